/-! constructors, on -/
def wX9 (h0 : Nat) (u : ctU) : va_W := [(h0, .inr (9, [.int (0 : Int32), .ref (u.1 1)])), ((u.1 1), .inl ((u.2 1), 1000, .inl (fun _ => 0)))]
def tX9 (u : ctU) : List (ClassId × FieldType) := [((u.2 1), .byte)]
set_option maxHeartbeats 4000000 in
set_option maxRecDepth 100000 in
theorem cX9 (l : Launch) (D : va_G) (h0 sz : Nat) : Met l yX9_init vsX9_init ({ frames := 1, cells := 1, slots := 1000, locals := 12 } : Room) (va_Pc [.ref h0] (ctPre D [(h0, .inr (9, [.int 0, .null]))] sz)) (va_Qv (fun _ : ctU => True) (ctB D (va_A [(h0, .inr (9, [.int 0, .null]))] sz) (wX9 h0) tX9) (va_A [(h0, .inr (9, [.int 0, .null]))] sz)) 1 1000 (va_A [(h0, .inr (9, [.int 0, .null]))] sz) := by
  refine Met.ofW (cc := cX9_init) (maxL := 1) (ret := none) (by decide) rfl ?_
  intro p e s m args below meth c s₁ B hml hv
  obtain ⟨rfl, hsz, hP, hK, hD0, hE⟩ := hv
  have hx := B.exec
  have hb := B.bytes
  have hr := B.returns
  have hts := atoms_spec (ws := vsX9_init) B.pre
  have hown : s.vm.findClass RX9 = some m.cls := findClass_of_methodNamed B.named
  have hlocks := B.notSynchronized
  have hin : meth.name = "<init>" := (name_of_methodNamed B.named B.method).1
  subst hsz
  have hD := hD0.self (sz := s.heap.size)
  generalize hAe : va_A [(h0, .inr (9, [.int 0, .null]))] s.heap.size = A at hD ⊢
  have hA : ∀ q : Nat, s.heap.size ≤ q → A q := fun q h => by rw [← hAe]; exact Or.inr h
  have hS : va_S A s.heap s.heap [] := va_S.rf
  have hP : va_P D vwCl [(h0, .inr (9, [.int 0, .null]))] s.heap := hP
  have hl := lv_entry ([.ref h0]) (n := 1) (Nat.le_of_ble_eq_true rfl)
  rw [lg_entry_eq]
  generalize (lg_sl ([.ref h0]) ++ List.replicate (1 - (lg_sl ([.ref h0])).length) Slot.unset).toArray = ls at hl ⊢
  have hl : lv_has ls 1 [(0, .ref h0)] := hl
  refine lv_aload_n hx hb dX9_init_0 rfl (lv_at hl 0 rfl) ?_
  refine W.objInit hx hb hown (hts (.methodLink RX9 3 objectInit) (mc uX_310)) (hts (.instanceMethod objectInit) (mc uX_2)) (hts _ (mc uX_3)) rfl (by rw [hml]; exact hl.1) rfl dX9_init_1 (Nat.le_of_ble_eq_true rfl) (Nat.le_of_ble_eq_true rfl) ?_
  refine W.eq (g2 := F0 m 4 ls []) rfl ?_
  refine lv_aload_n hx hb dX9_init_4 rfl (lv_at hl 0 rfl) ?_
  refine lv_iconst (v := (0 : Int32)) hx hb dX9_init_5 (by decide) ?_
  refine va_put (D := D) (ci := 9) (v := .int (0 : Int32)) (C := RX9) (T := TX9) (N := 2) hx hb hts (fun w h => mc (uX_fX9 w h)) tyX9 tyX9_ok nmX9 hown hK hP hD hS 0 rfl rfl 0 (by decide) (hts _ (mc uX_311)) (fun _ h9 => h9) rfl (tyX9_ok 0 (by decide)) rfl rfl (Nat.le_of_ble_eq_true rfl) dX9_init_6 (fun H locs hP hD hS => ?_)
  have hP : va_P D vwCl [(h0, .inr (9, [.int (0 : Int32), .null]))] H := hP
  have hD : va_D A [(h0, .inr (9, [.int (0 : Int32), .null]))] := hD
  refine lv_aload_n hx hb dX9_init_9 rfl (lv_at hl 0 rfl) ?_
  refine lv_sipush (v := (nI 1000)) hx hb dX9_init_10 (by decide) ?_
  refine va_newa (atype := .byte) hx hb (hts (.arrayClass .byte) (mc uX_312)) (ty := .byte) rfl hK hP hD hS hA (n := (nI 1000)) (N' := 1000) (a0 := (1000, .inl (fun _ => 0))) (ct_ab 1000) (by decide +kernel) (by decide +kernel) (by decide +kernel) (Nat.le_of_ble_eq_true rfl) (Nat.le_of_ble_eq_true rfl) dX9_init_13 (fun q1 c1 H hK hP hD hS => ?_)
  refine W.widen (k := 1) (n := 1000) (Nat.le_of_ble_eq_true rfl) (Nat.le_of_ble_eq_true rfl) ?_
  have hP : va_P D vwCl [(h0, .inr (9, [.int (0 : Int32), .null])), (q1, .inl (c1, 1000, .inl (fun _ => 0)))] H := hP
  have hD : va_D A [(h0, .inr (9, [.int (0 : Int32), .null])), (q1, .inl (c1, 1000, .inl (fun _ => 0)))] := hD
  have hK : va_K D vwCl [(c1, .byte)] s := hK
  refine va_putF (D := D) (ci := 9) (v := .ref q1) (C := RX9) (T := TX9) (N := 2) hx hb hts (fun w h => mc (uX_fX9 w h)) tyX9 tyX9_ok nmX9 hown hK hP hD hS 0 rfl rfl 1 (by decide) (hts _ (mc uX_313)) (fun _ h9 => h9) rfl hin rfl (tyX9_ok 1 (by decide)) rfl rfl (Nat.le_of_ble_eq_true rfl) dX9_init_15 (fun H locs hP hD hS => ?_)
  have hP : va_P D vwCl [(h0, .inr (9, [.int (0 : Int32), .ref q1])), (q1, .inl (c1, 1000, .inl (fun _ => 0)))] H := hP
  have hD : va_D A [(h0, .inr (9, [.int (0 : Int32), .ref q1])), (q1, .inl (c1, 1000, .inl (fun _ => 0)))] := hD
  exact W.vret hx hb hr (fun t ht hW => ⟨⟨(fun i => ([h0, q1] : List Nat).getD i 0, fun i => ([D.1 0, c1] : List ClassId).getD i (D.1 0)), rfl, trivial, by rw [ht]; exact hP, va_K.moved hW.alike hK, hD⟩, hS.F ht⟩) hS.2.2 dX9_init_18
def wX10 (h0 : Nat) (u : ctU) : va_W := [(h0, .inr (10, [.int (0 : Int32), .int (0 : Int32), .ref (u.1 1), .ref (u.1 2), .ref (u.1 3), .ref (u.1 4), .ref (u.1 5), .ref (u.1 6), .ref (u.1 7), .ref (u.1 8), .ref (u.1 9), .ref (u.1 10)])), ((u.1 1), .inl ((u.2 1), 40, .inl (fun _ => 0))), ((u.1 2), .inl ((u.2 2), 40, .inl (fun _ => 0))), ((u.1 3), .inl ((u.2 3), 40, .inl (fun _ => 0))), ((u.1 4), .inl ((u.2 4), 40, .inl (fun _ => 0))), ((u.1 5), .inl ((u.2 5), 40, .inl (fun _ => 0))), ((u.1 6), .inl ((u.2 6), 40, .inl (fun _ => 0))), ((u.1 7), .inl ((u.2 7), 40, .inl (fun _ => 0))), ((u.1 8), .inl ((u.2 8), 40, .inl (fun _ => 0))), ((u.1 9), .inl ((u.2 9), 40, .inl (fun _ => 0))), ((u.1 10), .inl ((u.2 10), 320, .inl (fun _ => 0)))]
def tX10 (u : ctU) : List (ClassId × FieldType) := [((u.2 1), .int), ((u.2 2), .int), ((u.2 3), .int), ((u.2 4), .int), ((u.2 5), .int), ((u.2 6), .int), ((u.2 7), .boolean), ((u.2 8), .int), ((u.2 9), .boolean), ((u.2 10), .byte)]
set_option maxHeartbeats 4000000 in
set_option maxRecDepth 100000 in
theorem cX10 (l : Launch) (D : va_G) (h0 sz : Nat) : Met l yX10_init vsX10_init ({ frames := 1, cells := 10, slots := 680, locals := 12 } : Room) (va_Pc [.ref h0] (ctPre D [(h0, .inr (10, [.int 0, .int 0, .null, .null, .null, .null, .null, .null, .null, .null, .null, .null]))] sz)) (va_Qv (fun _ : ctU => True) (ctB D (va_A [(h0, .inr (10, [.int 0, .int 0, .null, .null, .null, .null, .null, .null, .null, .null, .null, .null]))] sz) (wX10 h0) tX10) (va_A [(h0, .inr (10, [.int 0, .int 0, .null, .null, .null, .null, .null, .null, .null, .null, .null, .null]))] sz)) 10 680 (va_A [(h0, .inr (10, [.int 0, .int 0, .null, .null, .null, .null, .null, .null, .null, .null, .null, .null]))] sz) := by
  refine Met.ofW (cc := cX10_init) (maxL := 1) (ret := none) (by decide) rfl ?_
  intro p e s m args below meth c s₁ B hml hv
  obtain ⟨rfl, hsz, hP, hK, hD0, hE⟩ := hv
  have hx := B.exec
  have hb := B.bytes
  have hr := B.returns
  have hts := atoms_spec (ws := vsX10_init) B.pre
  have hown : s.vm.findClass RX10 = some m.cls := findClass_of_methodNamed B.named
  have hlocks := B.notSynchronized
  have hin : meth.name = "<init>" := (name_of_methodNamed B.named B.method).1
  subst hsz
  have hD := hD0.self (sz := s.heap.size)
  generalize hAe : va_A [(h0, .inr (10, [.int 0, .int 0, .null, .null, .null, .null, .null, .null, .null, .null, .null, .null]))] s.heap.size = A at hD ⊢
  have hA : ∀ q : Nat, s.heap.size ≤ q → A q := fun q h => by rw [← hAe]; exact Or.inr h
  have hS : va_S A s.heap s.heap [] := va_S.rf
  have hP : va_P D vwCl [(h0, .inr (10, [.int 0, .int 0, .null, .null, .null, .null, .null, .null, .null, .null, .null, .null]))] s.heap := hP
  have hl := lv_entry ([.ref h0]) (n := 1) (Nat.le_of_ble_eq_true rfl)
  rw [lg_entry_eq]
  generalize (lg_sl ([.ref h0]) ++ List.replicate (1 - (lg_sl ([.ref h0])).length) Slot.unset).toArray = ls at hl ⊢
  have hl : lv_has ls 1 [(0, .ref h0)] := hl
  refine lv_aload_n hx hb dX10_init_0 rfl (lv_at hl 0 rfl) ?_
  refine W.objInit hx hb hown (hts (.methodLink RX10 3 objectInit) (mc uX_315)) (hts (.instanceMethod objectInit) (mc uX_2)) (hts _ (mc uX_3)) rfl (by rw [hml]; exact hl.1) rfl dX10_init_1 (Nat.le_of_ble_eq_true rfl) (Nat.le_of_ble_eq_true rfl) ?_
  refine W.eq (g2 := F0 m 4 ls []) rfl ?_
  refine lv_aload_n hx hb dX10_init_4 rfl (lv_at hl 0 rfl) ?_
  refine lv_iconst (v := (0 : Int32)) hx hb dX10_init_5 (by decide) ?_
  refine va_put (D := D) (ci := 10) (v := .int (0 : Int32)) (C := RX10) (T := TX10) (N := 12) hx hb hts (fun w h => mc (uX_fX10 w h)) tyX10 tyX10_ok nmX10 hown hK hP hD hS 0 rfl rfl 0 (by decide) (hts _ (mc uX_12)) (fun _ h9 => h9) rfl (tyX10_ok 0 (by decide)) rfl rfl (Nat.le_of_ble_eq_true rfl) dX10_init_6 (fun H locs hP hD hS => ?_)
  have hP : va_P D vwCl [(h0, .inr (10, [.int (0 : Int32), .int 0, .null, .null, .null, .null, .null, .null, .null, .null, .null, .null]))] H := hP
  have hD : va_D A [(h0, .inr (10, [.int (0 : Int32), .int 0, .null, .null, .null, .null, .null, .null, .null, .null, .null, .null]))] := hD
  refine lv_aload_n hx hb dX10_init_9 rfl (lv_at hl 0 rfl) ?_
  refine lv_iconst (v := (0 : Int32)) hx hb dX10_init_10 (by decide) ?_
  refine va_put (D := D) (ci := 10) (v := .int (0 : Int32)) (C := RX10) (T := TX10) (N := 12) hx hb hts (fun w h => mc (uX_fX10 w h)) tyX10 tyX10_ok nmX10 hown hK hP hD hS 0 rfl rfl 1 (by decide) (hts _ (mc uX_316)) (fun _ h9 => h9) rfl (tyX10_ok 1 (by decide)) rfl rfl (Nat.le_of_ble_eq_true rfl) dX10_init_11 (fun H locs hP hD hS => ?_)
  have hP : va_P D vwCl [(h0, .inr (10, [.int (0 : Int32), .int (0 : Int32), .null, .null, .null, .null, .null, .null, .null, .null, .null, .null]))] H := hP
  have hD : va_D A [(h0, .inr (10, [.int (0 : Int32), .int (0 : Int32), .null, .null, .null, .null, .null, .null, .null, .null, .null, .null]))] := hD
  refine lv_aload_n hx hb dX10_init_14 rfl (lv_at hl 0 rfl) ?_
  refine lv_bipush (v := (nI 40)) hx hb dX10_init_15 (by decide) ?_
  refine va_newa (atype := .int) hx hb (hts (.arrayClass .int) (mc uX_5)) (ty := .int) rfl hK hP hD hS hA (n := (nI 40)) (N' := 40) (a0 := (40, .inl (fun _ => 0))) (ct_ai 40) (by decide +kernel) (by decide +kernel) (by decide +kernel) (Nat.le_of_ble_eq_true rfl) (Nat.le_of_ble_eq_true rfl) dX10_init_17 (fun q1 c1 H hK hP hD hS => ?_)
  refine W.widen (k := 1) (n := 40) (Nat.le_of_ble_eq_true rfl) (Nat.le_of_ble_eq_true rfl) ?_
  have hP : va_P D vwCl [(h0, .inr (10, [.int (0 : Int32), .int (0 : Int32), .null, .null, .null, .null, .null, .null, .null, .null, .null, .null])), (q1, .inl (c1, 40, .inl (fun _ => 0)))] H := hP
  have hD : va_D A [(h0, .inr (10, [.int (0 : Int32), .int (0 : Int32), .null, .null, .null, .null, .null, .null, .null, .null, .null, .null])), (q1, .inl (c1, 40, .inl (fun _ => 0)))] := hD
  have hK : va_K D vwCl [(c1, .int)] s := hK
  refine va_putF (D := D) (ci := 10) (v := .ref q1) (C := RX10) (T := TX10) (N := 12) hx hb hts (fun w h => mc (uX_fX10 w h)) tyX10 tyX10_ok nmX10 hown hK hP hD hS 0 rfl rfl 2 (by decide) (hts _ (mc uX_317)) (fun _ h9 => h9) rfl hin rfl (tyX10_ok 2 (by decide)) rfl rfl (Nat.le_of_ble_eq_true rfl) dX10_init_19 (fun H locs hP hD hS => ?_)
  have hP : va_P D vwCl [(h0, .inr (10, [.int (0 : Int32), .int (0 : Int32), .ref q1, .null, .null, .null, .null, .null, .null, .null, .null, .null])), (q1, .inl (c1, 40, .inl (fun _ => 0)))] H := hP
  have hD : va_D A [(h0, .inr (10, [.int (0 : Int32), .int (0 : Int32), .ref q1, .null, .null, .null, .null, .null, .null, .null, .null, .null])), (q1, .inl (c1, 40, .inl (fun _ => 0)))] := hD
  refine lv_aload_n hx hb dX10_init_22 rfl (lv_at hl 0 rfl) ?_
  refine lv_bipush (v := (nI 40)) hx hb dX10_init_23 (by decide) ?_
  refine va_newa (atype := .int) hx hb (hts (.arrayClass .int) (mc uX_5)) (ty := .int) rfl hK hP hD hS hA (n := (nI 40)) (N' := 40) (a0 := (40, .inl (fun _ => 0))) (ct_ai 40) (by decide +kernel) (by decide +kernel) (by decide +kernel) (Nat.le_of_ble_eq_true rfl) (Nat.le_of_ble_eq_true rfl) dX10_init_25 (fun q2 c2 H hK hP hD hS => ?_)
  refine W.widen (k := 2) (n := 80) (Nat.le_of_ble_eq_true rfl) (Nat.le_of_ble_eq_true rfl) ?_
  have hP : va_P D vwCl [(h0, .inr (10, [.int (0 : Int32), .int (0 : Int32), .ref q1, .null, .null, .null, .null, .null, .null, .null, .null, .null])), (q1, .inl (c1, 40, .inl (fun _ => 0))), (q2, .inl (c2, 40, .inl (fun _ => 0)))] H := hP
  have hD : va_D A [(h0, .inr (10, [.int (0 : Int32), .int (0 : Int32), .ref q1, .null, .null, .null, .null, .null, .null, .null, .null, .null])), (q1, .inl (c1, 40, .inl (fun _ => 0))), (q2, .inl (c2, 40, .inl (fun _ => 0)))] := hD
  have hK : va_K D vwCl [(c1, .int), (c2, .int)] s := hK
  refine va_putF (D := D) (ci := 10) (v := .ref q2) (C := RX10) (T := TX10) (N := 12) hx hb hts (fun w h => mc (uX_fX10 w h)) tyX10 tyX10_ok nmX10 hown hK hP hD hS 0 rfl rfl 3 (by decide) (hts _ (mc uX_123)) (fun _ h9 => h9) rfl hin rfl (tyX10_ok 3 (by decide)) rfl rfl (Nat.le_of_ble_eq_true rfl) dX10_init_27 (fun H locs hP hD hS => ?_)
  have hP : va_P D vwCl [(h0, .inr (10, [.int (0 : Int32), .int (0 : Int32), .ref q1, .ref q2, .null, .null, .null, .null, .null, .null, .null, .null])), (q1, .inl (c1, 40, .inl (fun _ => 0))), (q2, .inl (c2, 40, .inl (fun _ => 0)))] H := hP
  have hD : va_D A [(h0, .inr (10, [.int (0 : Int32), .int (0 : Int32), .ref q1, .ref q2, .null, .null, .null, .null, .null, .null, .null, .null])), (q1, .inl (c1, 40, .inl (fun _ => 0))), (q2, .inl (c2, 40, .inl (fun _ => 0)))] := hD
  refine lv_aload_n hx hb dX10_init_30 rfl (lv_at hl 0 rfl) ?_
  refine lv_bipush (v := (nI 40)) hx hb dX10_init_31 (by decide) ?_
  refine va_newa (atype := .int) hx hb (hts (.arrayClass .int) (mc uX_5)) (ty := .int) rfl hK hP hD hS hA (n := (nI 40)) (N' := 40) (a0 := (40, .inl (fun _ => 0))) (ct_ai 40) (by decide +kernel) (by decide +kernel) (by decide +kernel) (Nat.le_of_ble_eq_true rfl) (Nat.le_of_ble_eq_true rfl) dX10_init_33 (fun q3 c3 H hK hP hD hS => ?_)
  refine W.widen (k := 3) (n := 120) (Nat.le_of_ble_eq_true rfl) (Nat.le_of_ble_eq_true rfl) ?_
  have hP : va_P D vwCl [(h0, .inr (10, [.int (0 : Int32), .int (0 : Int32), .ref q1, .ref q2, .null, .null, .null, .null, .null, .null, .null, .null])), (q1, .inl (c1, 40, .inl (fun _ => 0))), (q2, .inl (c2, 40, .inl (fun _ => 0))), (q3, .inl (c3, 40, .inl (fun _ => 0)))] H := hP
  have hD : va_D A [(h0, .inr (10, [.int (0 : Int32), .int (0 : Int32), .ref q1, .ref q2, .null, .null, .null, .null, .null, .null, .null, .null])), (q1, .inl (c1, 40, .inl (fun _ => 0))), (q2, .inl (c2, 40, .inl (fun _ => 0))), (q3, .inl (c3, 40, .inl (fun _ => 0)))] := hD
  have hK : va_K D vwCl [(c1, .int), (c2, .int), (c3, .int)] s := hK
  refine va_putF (D := D) (ci := 10) (v := .ref q3) (C := RX10) (T := TX10) (N := 12) hx hb hts (fun w h => mc (uX_fX10 w h)) tyX10 tyX10_ok nmX10 hown hK hP hD hS 0 rfl rfl 4 (by decide) (hts _ (mc uX_318)) (fun _ h9 => h9) rfl hin rfl (tyX10_ok 4 (by decide)) rfl rfl (Nat.le_of_ble_eq_true rfl) dX10_init_35 (fun H locs hP hD hS => ?_)
  have hP : va_P D vwCl [(h0, .inr (10, [.int (0 : Int32), .int (0 : Int32), .ref q1, .ref q2, .ref q3, .null, .null, .null, .null, .null, .null, .null])), (q1, .inl (c1, 40, .inl (fun _ => 0))), (q2, .inl (c2, 40, .inl (fun _ => 0))), (q3, .inl (c3, 40, .inl (fun _ => 0)))] H := hP
  have hD : va_D A [(h0, .inr (10, [.int (0 : Int32), .int (0 : Int32), .ref q1, .ref q2, .ref q3, .null, .null, .null, .null, .null, .null, .null])), (q1, .inl (c1, 40, .inl (fun _ => 0))), (q2, .inl (c2, 40, .inl (fun _ => 0))), (q3, .inl (c3, 40, .inl (fun _ => 0)))] := hD
  refine lv_aload_n hx hb dX10_init_38 rfl (lv_at hl 0 rfl) ?_
  refine lv_bipush (v := (nI 40)) hx hb dX10_init_39 (by decide) ?_
  refine va_newa (atype := .int) hx hb (hts (.arrayClass .int) (mc uX_5)) (ty := .int) rfl hK hP hD hS hA (n := (nI 40)) (N' := 40) (a0 := (40, .inl (fun _ => 0))) (ct_ai 40) (by decide +kernel) (by decide +kernel) (by decide +kernel) (Nat.le_of_ble_eq_true rfl) (Nat.le_of_ble_eq_true rfl) dX10_init_41 (fun q4 c4 H hK hP hD hS => ?_)
  refine W.widen (k := 4) (n := 160) (Nat.le_of_ble_eq_true rfl) (Nat.le_of_ble_eq_true rfl) ?_
  have hP : va_P D vwCl [(h0, .inr (10, [.int (0 : Int32), .int (0 : Int32), .ref q1, .ref q2, .ref q3, .null, .null, .null, .null, .null, .null, .null])), (q1, .inl (c1, 40, .inl (fun _ => 0))), (q2, .inl (c2, 40, .inl (fun _ => 0))), (q3, .inl (c3, 40, .inl (fun _ => 0))), (q4, .inl (c4, 40, .inl (fun _ => 0)))] H := hP
  have hD : va_D A [(h0, .inr (10, [.int (0 : Int32), .int (0 : Int32), .ref q1, .ref q2, .ref q3, .null, .null, .null, .null, .null, .null, .null])), (q1, .inl (c1, 40, .inl (fun _ => 0))), (q2, .inl (c2, 40, .inl (fun _ => 0))), (q3, .inl (c3, 40, .inl (fun _ => 0))), (q4, .inl (c4, 40, .inl (fun _ => 0)))] := hD
  have hK : va_K D vwCl [(c1, .int), (c2, .int), (c3, .int), (c4, .int)] s := hK
  refine va_putF (D := D) (ci := 10) (v := .ref q4) (C := RX10) (T := TX10) (N := 12) hx hb hts (fun w h => mc (uX_fX10 w h)) tyX10 tyX10_ok nmX10 hown hK hP hD hS 0 rfl rfl 5 (by decide) (hts _ (mc uX_319)) (fun _ h9 => h9) rfl hin rfl (tyX10_ok 5 (by decide)) rfl rfl (Nat.le_of_ble_eq_true rfl) dX10_init_43 (fun H locs hP hD hS => ?_)
  have hP : va_P D vwCl [(h0, .inr (10, [.int (0 : Int32), .int (0 : Int32), .ref q1, .ref q2, .ref q3, .ref q4, .null, .null, .null, .null, .null, .null])), (q1, .inl (c1, 40, .inl (fun _ => 0))), (q2, .inl (c2, 40, .inl (fun _ => 0))), (q3, .inl (c3, 40, .inl (fun _ => 0))), (q4, .inl (c4, 40, .inl (fun _ => 0)))] H := hP
  have hD : va_D A [(h0, .inr (10, [.int (0 : Int32), .int (0 : Int32), .ref q1, .ref q2, .ref q3, .ref q4, .null, .null, .null, .null, .null, .null])), (q1, .inl (c1, 40, .inl (fun _ => 0))), (q2, .inl (c2, 40, .inl (fun _ => 0))), (q3, .inl (c3, 40, .inl (fun _ => 0))), (q4, .inl (c4, 40, .inl (fun _ => 0)))] := hD
  refine lv_aload_n hx hb dX10_init_46 rfl (lv_at hl 0 rfl) ?_
  refine lv_bipush (v := (nI 40)) hx hb dX10_init_47 (by decide) ?_
  refine va_newa (atype := .int) hx hb (hts (.arrayClass .int) (mc uX_5)) (ty := .int) rfl hK hP hD hS hA (n := (nI 40)) (N' := 40) (a0 := (40, .inl (fun _ => 0))) (ct_ai 40) (by decide +kernel) (by decide +kernel) (by decide +kernel) (Nat.le_of_ble_eq_true rfl) (Nat.le_of_ble_eq_true rfl) dX10_init_49 (fun q5 c5 H hK hP hD hS => ?_)
  refine W.widen (k := 5) (n := 200) (Nat.le_of_ble_eq_true rfl) (Nat.le_of_ble_eq_true rfl) ?_
  have hP : va_P D vwCl [(h0, .inr (10, [.int (0 : Int32), .int (0 : Int32), .ref q1, .ref q2, .ref q3, .ref q4, .null, .null, .null, .null, .null, .null])), (q1, .inl (c1, 40, .inl (fun _ => 0))), (q2, .inl (c2, 40, .inl (fun _ => 0))), (q3, .inl (c3, 40, .inl (fun _ => 0))), (q4, .inl (c4, 40, .inl (fun _ => 0))), (q5, .inl (c5, 40, .inl (fun _ => 0)))] H := hP
  have hD : va_D A [(h0, .inr (10, [.int (0 : Int32), .int (0 : Int32), .ref q1, .ref q2, .ref q3, .ref q4, .null, .null, .null, .null, .null, .null])), (q1, .inl (c1, 40, .inl (fun _ => 0))), (q2, .inl (c2, 40, .inl (fun _ => 0))), (q3, .inl (c3, 40, .inl (fun _ => 0))), (q4, .inl (c4, 40, .inl (fun _ => 0))), (q5, .inl (c5, 40, .inl (fun _ => 0)))] := hD
  have hK : va_K D vwCl [(c1, .int), (c2, .int), (c3, .int), (c4, .int), (c5, .int)] s := hK
  refine va_putF (D := D) (ci := 10) (v := .ref q5) (C := RX10) (T := TX10) (N := 12) hx hb hts (fun w h => mc (uX_fX10 w h)) tyX10 tyX10_ok nmX10 hown hK hP hD hS 0 rfl rfl 6 (by decide) (hts _ (mc uX_320)) (fun _ h9 => h9) rfl hin rfl (tyX10_ok 6 (by decide)) rfl rfl (Nat.le_of_ble_eq_true rfl) dX10_init_51 (fun H locs hP hD hS => ?_)
  have hP : va_P D vwCl [(h0, .inr (10, [.int (0 : Int32), .int (0 : Int32), .ref q1, .ref q2, .ref q3, .ref q4, .ref q5, .null, .null, .null, .null, .null])), (q1, .inl (c1, 40, .inl (fun _ => 0))), (q2, .inl (c2, 40, .inl (fun _ => 0))), (q3, .inl (c3, 40, .inl (fun _ => 0))), (q4, .inl (c4, 40, .inl (fun _ => 0))), (q5, .inl (c5, 40, .inl (fun _ => 0)))] H := hP
  have hD : va_D A [(h0, .inr (10, [.int (0 : Int32), .int (0 : Int32), .ref q1, .ref q2, .ref q3, .ref q4, .ref q5, .null, .null, .null, .null, .null])), (q1, .inl (c1, 40, .inl (fun _ => 0))), (q2, .inl (c2, 40, .inl (fun _ => 0))), (q3, .inl (c3, 40, .inl (fun _ => 0))), (q4, .inl (c4, 40, .inl (fun _ => 0))), (q5, .inl (c5, 40, .inl (fun _ => 0)))] := hD
  refine lv_aload_n hx hb dX10_init_54 rfl (lv_at hl 0 rfl) ?_
  refine lv_bipush (v := (nI 40)) hx hb dX10_init_55 (by decide) ?_
  refine va_newa (atype := .int) hx hb (hts (.arrayClass .int) (mc uX_5)) (ty := .int) rfl hK hP hD hS hA (n := (nI 40)) (N' := 40) (a0 := (40, .inl (fun _ => 0))) (ct_ai 40) (by decide +kernel) (by decide +kernel) (by decide +kernel) (Nat.le_of_ble_eq_true rfl) (Nat.le_of_ble_eq_true rfl) dX10_init_57 (fun q6 c6 H hK hP hD hS => ?_)
  refine W.widen (k := 6) (n := 240) (Nat.le_of_ble_eq_true rfl) (Nat.le_of_ble_eq_true rfl) ?_
  have hP : va_P D vwCl [(h0, .inr (10, [.int (0 : Int32), .int (0 : Int32), .ref q1, .ref q2, .ref q3, .ref q4, .ref q5, .null, .null, .null, .null, .null])), (q1, .inl (c1, 40, .inl (fun _ => 0))), (q2, .inl (c2, 40, .inl (fun _ => 0))), (q3, .inl (c3, 40, .inl (fun _ => 0))), (q4, .inl (c4, 40, .inl (fun _ => 0))), (q5, .inl (c5, 40, .inl (fun _ => 0))), (q6, .inl (c6, 40, .inl (fun _ => 0)))] H := hP
  have hD : va_D A [(h0, .inr (10, [.int (0 : Int32), .int (0 : Int32), .ref q1, .ref q2, .ref q3, .ref q4, .ref q5, .null, .null, .null, .null, .null])), (q1, .inl (c1, 40, .inl (fun _ => 0))), (q2, .inl (c2, 40, .inl (fun _ => 0))), (q3, .inl (c3, 40, .inl (fun _ => 0))), (q4, .inl (c4, 40, .inl (fun _ => 0))), (q5, .inl (c5, 40, .inl (fun _ => 0))), (q6, .inl (c6, 40, .inl (fun _ => 0)))] := hD
  have hK : va_K D vwCl [(c1, .int), (c2, .int), (c3, .int), (c4, .int), (c5, .int), (c6, .int)] s := hK
  refine va_putF (D := D) (ci := 10) (v := .ref q6) (C := RX10) (T := TX10) (N := 12) hx hb hts (fun w h => mc (uX_fX10 w h)) tyX10 tyX10_ok nmX10 hown hK hP hD hS 0 rfl rfl 7 (by decide) (hts _ (mc uX_321)) (fun _ h9 => h9) rfl hin rfl (tyX10_ok 7 (by decide)) rfl rfl (Nat.le_of_ble_eq_true rfl) dX10_init_59 (fun H locs hP hD hS => ?_)
  have hP : va_P D vwCl [(h0, .inr (10, [.int (0 : Int32), .int (0 : Int32), .ref q1, .ref q2, .ref q3, .ref q4, .ref q5, .ref q6, .null, .null, .null, .null])), (q1, .inl (c1, 40, .inl (fun _ => 0))), (q2, .inl (c2, 40, .inl (fun _ => 0))), (q3, .inl (c3, 40, .inl (fun _ => 0))), (q4, .inl (c4, 40, .inl (fun _ => 0))), (q5, .inl (c5, 40, .inl (fun _ => 0))), (q6, .inl (c6, 40, .inl (fun _ => 0)))] H := hP
  have hD : va_D A [(h0, .inr (10, [.int (0 : Int32), .int (0 : Int32), .ref q1, .ref q2, .ref q3, .ref q4, .ref q5, .ref q6, .null, .null, .null, .null])), (q1, .inl (c1, 40, .inl (fun _ => 0))), (q2, .inl (c2, 40, .inl (fun _ => 0))), (q3, .inl (c3, 40, .inl (fun _ => 0))), (q4, .inl (c4, 40, .inl (fun _ => 0))), (q5, .inl (c5, 40, .inl (fun _ => 0))), (q6, .inl (c6, 40, .inl (fun _ => 0)))] := hD
  refine lv_aload_n hx hb dX10_init_62 rfl (lv_at hl 0 rfl) ?_
  refine lv_bipush (v := (nI 40)) hx hb dX10_init_63 (by decide) ?_
  refine va_newa (atype := .boolean) hx hb (hts (.arrayClass .boolean) (mc uX_100)) (ty := .boolean) rfl hK hP hD hS hA (n := (nI 40)) (N' := 40) (a0 := (40, .inl (fun _ => 0))) (ct_az 40) (by decide +kernel) (by decide +kernel) (by decide +kernel) (Nat.le_of_ble_eq_true rfl) (Nat.le_of_ble_eq_true rfl) dX10_init_65 (fun q7 c7 H hK hP hD hS => ?_)
  refine W.widen (k := 7) (n := 280) (Nat.le_of_ble_eq_true rfl) (Nat.le_of_ble_eq_true rfl) ?_
  have hP : va_P D vwCl [(h0, .inr (10, [.int (0 : Int32), .int (0 : Int32), .ref q1, .ref q2, .ref q3, .ref q4, .ref q5, .ref q6, .null, .null, .null, .null])), (q1, .inl (c1, 40, .inl (fun _ => 0))), (q2, .inl (c2, 40, .inl (fun _ => 0))), (q3, .inl (c3, 40, .inl (fun _ => 0))), (q4, .inl (c4, 40, .inl (fun _ => 0))), (q5, .inl (c5, 40, .inl (fun _ => 0))), (q6, .inl (c6, 40, .inl (fun _ => 0))), (q7, .inl (c7, 40, .inl (fun _ => 0)))] H := hP
  have hD : va_D A [(h0, .inr (10, [.int (0 : Int32), .int (0 : Int32), .ref q1, .ref q2, .ref q3, .ref q4, .ref q5, .ref q6, .null, .null, .null, .null])), (q1, .inl (c1, 40, .inl (fun _ => 0))), (q2, .inl (c2, 40, .inl (fun _ => 0))), (q3, .inl (c3, 40, .inl (fun _ => 0))), (q4, .inl (c4, 40, .inl (fun _ => 0))), (q5, .inl (c5, 40, .inl (fun _ => 0))), (q6, .inl (c6, 40, .inl (fun _ => 0))), (q7, .inl (c7, 40, .inl (fun _ => 0)))] := hD
  have hK : va_K D vwCl [(c1, .int), (c2, .int), (c3, .int), (c4, .int), (c5, .int), (c6, .int), (c7, .boolean)] s := hK
  refine va_putF (D := D) (ci := 10) (v := .ref q7) (C := RX10) (T := TX10) (N := 12) hx hb hts (fun w h => mc (uX_fX10 w h)) tyX10 tyX10_ok nmX10 hown hK hP hD hS 0 rfl rfl 8 (by decide) (hts _ (mc uX_322)) (fun _ h9 => h9) rfl hin rfl (tyX10_ok 8 (by decide)) rfl rfl (Nat.le_of_ble_eq_true rfl) dX10_init_67 (fun H locs hP hD hS => ?_)
  have hP : va_P D vwCl [(h0, .inr (10, [.int (0 : Int32), .int (0 : Int32), .ref q1, .ref q2, .ref q3, .ref q4, .ref q5, .ref q6, .ref q7, .null, .null, .null])), (q1, .inl (c1, 40, .inl (fun _ => 0))), (q2, .inl (c2, 40, .inl (fun _ => 0))), (q3, .inl (c3, 40, .inl (fun _ => 0))), (q4, .inl (c4, 40, .inl (fun _ => 0))), (q5, .inl (c5, 40, .inl (fun _ => 0))), (q6, .inl (c6, 40, .inl (fun _ => 0))), (q7, .inl (c7, 40, .inl (fun _ => 0)))] H := hP
  have hD : va_D A [(h0, .inr (10, [.int (0 : Int32), .int (0 : Int32), .ref q1, .ref q2, .ref q3, .ref q4, .ref q5, .ref q6, .ref q7, .null, .null, .null])), (q1, .inl (c1, 40, .inl (fun _ => 0))), (q2, .inl (c2, 40, .inl (fun _ => 0))), (q3, .inl (c3, 40, .inl (fun _ => 0))), (q4, .inl (c4, 40, .inl (fun _ => 0))), (q5, .inl (c5, 40, .inl (fun _ => 0))), (q6, .inl (c6, 40, .inl (fun _ => 0))), (q7, .inl (c7, 40, .inl (fun _ => 0)))] := hD
  refine lv_aload_n hx hb dX10_init_70 rfl (lv_at hl 0 rfl) ?_
  refine lv_bipush (v := (nI 40)) hx hb dX10_init_71 (by decide) ?_
  refine va_newa (atype := .int) hx hb (hts (.arrayClass .int) (mc uX_5)) (ty := .int) rfl hK hP hD hS hA (n := (nI 40)) (N' := 40) (a0 := (40, .inl (fun _ => 0))) (ct_ai 40) (by decide +kernel) (by decide +kernel) (by decide +kernel) (Nat.le_of_ble_eq_true rfl) (Nat.le_of_ble_eq_true rfl) dX10_init_73 (fun q8 c8 H hK hP hD hS => ?_)
  refine W.widen (k := 8) (n := 320) (Nat.le_of_ble_eq_true rfl) (Nat.le_of_ble_eq_true rfl) ?_
  have hP : va_P D vwCl [(h0, .inr (10, [.int (0 : Int32), .int (0 : Int32), .ref q1, .ref q2, .ref q3, .ref q4, .ref q5, .ref q6, .ref q7, .null, .null, .null])), (q1, .inl (c1, 40, .inl (fun _ => 0))), (q2, .inl (c2, 40, .inl (fun _ => 0))), (q3, .inl (c3, 40, .inl (fun _ => 0))), (q4, .inl (c4, 40, .inl (fun _ => 0))), (q5, .inl (c5, 40, .inl (fun _ => 0))), (q6, .inl (c6, 40, .inl (fun _ => 0))), (q7, .inl (c7, 40, .inl (fun _ => 0))), (q8, .inl (c8, 40, .inl (fun _ => 0)))] H := hP
  have hD : va_D A [(h0, .inr (10, [.int (0 : Int32), .int (0 : Int32), .ref q1, .ref q2, .ref q3, .ref q4, .ref q5, .ref q6, .ref q7, .null, .null, .null])), (q1, .inl (c1, 40, .inl (fun _ => 0))), (q2, .inl (c2, 40, .inl (fun _ => 0))), (q3, .inl (c3, 40, .inl (fun _ => 0))), (q4, .inl (c4, 40, .inl (fun _ => 0))), (q5, .inl (c5, 40, .inl (fun _ => 0))), (q6, .inl (c6, 40, .inl (fun _ => 0))), (q7, .inl (c7, 40, .inl (fun _ => 0))), (q8, .inl (c8, 40, .inl (fun _ => 0)))] := hD
  have hK : va_K D vwCl [(c1, .int), (c2, .int), (c3, .int), (c4, .int), (c5, .int), (c6, .int), (c7, .boolean), (c8, .int)] s := hK
  refine va_putF (D := D) (ci := 10) (v := .ref q8) (C := RX10) (T := TX10) (N := 12) hx hb hts (fun w h => mc (uX_fX10 w h)) tyX10 tyX10_ok nmX10 hown hK hP hD hS 0 rfl rfl 9 (by decide) (hts _ (mc uX_323)) (fun _ h9 => h9) rfl hin rfl (tyX10_ok 9 (by decide)) rfl rfl (Nat.le_of_ble_eq_true rfl) dX10_init_75 (fun H locs hP hD hS => ?_)
  have hP : va_P D vwCl [(h0, .inr (10, [.int (0 : Int32), .int (0 : Int32), .ref q1, .ref q2, .ref q3, .ref q4, .ref q5, .ref q6, .ref q7, .ref q8, .null, .null])), (q1, .inl (c1, 40, .inl (fun _ => 0))), (q2, .inl (c2, 40, .inl (fun _ => 0))), (q3, .inl (c3, 40, .inl (fun _ => 0))), (q4, .inl (c4, 40, .inl (fun _ => 0))), (q5, .inl (c5, 40, .inl (fun _ => 0))), (q6, .inl (c6, 40, .inl (fun _ => 0))), (q7, .inl (c7, 40, .inl (fun _ => 0))), (q8, .inl (c8, 40, .inl (fun _ => 0)))] H := hP
  have hD : va_D A [(h0, .inr (10, [.int (0 : Int32), .int (0 : Int32), .ref q1, .ref q2, .ref q3, .ref q4, .ref q5, .ref q6, .ref q7, .ref q8, .null, .null])), (q1, .inl (c1, 40, .inl (fun _ => 0))), (q2, .inl (c2, 40, .inl (fun _ => 0))), (q3, .inl (c3, 40, .inl (fun _ => 0))), (q4, .inl (c4, 40, .inl (fun _ => 0))), (q5, .inl (c5, 40, .inl (fun _ => 0))), (q6, .inl (c6, 40, .inl (fun _ => 0))), (q7, .inl (c7, 40, .inl (fun _ => 0))), (q8, .inl (c8, 40, .inl (fun _ => 0)))] := hD
  refine lv_aload_n hx hb dX10_init_78 rfl (lv_at hl 0 rfl) ?_
  refine lv_bipush (v := (nI 40)) hx hb dX10_init_79 (by decide) ?_
  refine va_newa (atype := .boolean) hx hb (hts (.arrayClass .boolean) (mc uX_100)) (ty := .boolean) rfl hK hP hD hS hA (n := (nI 40)) (N' := 40) (a0 := (40, .inl (fun _ => 0))) (ct_az 40) (by decide +kernel) (by decide +kernel) (by decide +kernel) (Nat.le_of_ble_eq_true rfl) (Nat.le_of_ble_eq_true rfl) dX10_init_81 (fun q9 c9 H hK hP hD hS => ?_)
  refine W.widen (k := 9) (n := 360) (Nat.le_of_ble_eq_true rfl) (Nat.le_of_ble_eq_true rfl) ?_
  have hP : va_P D vwCl [(h0, .inr (10, [.int (0 : Int32), .int (0 : Int32), .ref q1, .ref q2, .ref q3, .ref q4, .ref q5, .ref q6, .ref q7, .ref q8, .null, .null])), (q1, .inl (c1, 40, .inl (fun _ => 0))), (q2, .inl (c2, 40, .inl (fun _ => 0))), (q3, .inl (c3, 40, .inl (fun _ => 0))), (q4, .inl (c4, 40, .inl (fun _ => 0))), (q5, .inl (c5, 40, .inl (fun _ => 0))), (q6, .inl (c6, 40, .inl (fun _ => 0))), (q7, .inl (c7, 40, .inl (fun _ => 0))), (q8, .inl (c8, 40, .inl (fun _ => 0))), (q9, .inl (c9, 40, .inl (fun _ => 0)))] H := hP
  have hD : va_D A [(h0, .inr (10, [.int (0 : Int32), .int (0 : Int32), .ref q1, .ref q2, .ref q3, .ref q4, .ref q5, .ref q6, .ref q7, .ref q8, .null, .null])), (q1, .inl (c1, 40, .inl (fun _ => 0))), (q2, .inl (c2, 40, .inl (fun _ => 0))), (q3, .inl (c3, 40, .inl (fun _ => 0))), (q4, .inl (c4, 40, .inl (fun _ => 0))), (q5, .inl (c5, 40, .inl (fun _ => 0))), (q6, .inl (c6, 40, .inl (fun _ => 0))), (q7, .inl (c7, 40, .inl (fun _ => 0))), (q8, .inl (c8, 40, .inl (fun _ => 0))), (q9, .inl (c9, 40, .inl (fun _ => 0)))] := hD
  have hK : va_K D vwCl [(c1, .int), (c2, .int), (c3, .int), (c4, .int), (c5, .int), (c6, .int), (c7, .boolean), (c8, .int), (c9, .boolean)] s := hK
  refine va_putF (D := D) (ci := 10) (v := .ref q9) (C := RX10) (T := TX10) (N := 12) hx hb hts (fun w h => mc (uX_fX10 w h)) tyX10 tyX10_ok nmX10 hown hK hP hD hS 0 rfl rfl 10 (by decide) (hts _ (mc uX_324)) (fun _ h9 => h9) rfl hin rfl (tyX10_ok 10 (by decide)) rfl rfl (Nat.le_of_ble_eq_true rfl) dX10_init_83 (fun H locs hP hD hS => ?_)
  have hP : va_P D vwCl [(h0, .inr (10, [.int (0 : Int32), .int (0 : Int32), .ref q1, .ref q2, .ref q3, .ref q4, .ref q5, .ref q6, .ref q7, .ref q8, .ref q9, .null])), (q1, .inl (c1, 40, .inl (fun _ => 0))), (q2, .inl (c2, 40, .inl (fun _ => 0))), (q3, .inl (c3, 40, .inl (fun _ => 0))), (q4, .inl (c4, 40, .inl (fun _ => 0))), (q5, .inl (c5, 40, .inl (fun _ => 0))), (q6, .inl (c6, 40, .inl (fun _ => 0))), (q7, .inl (c7, 40, .inl (fun _ => 0))), (q8, .inl (c8, 40, .inl (fun _ => 0))), (q9, .inl (c9, 40, .inl (fun _ => 0)))] H := hP
  have hD : va_D A [(h0, .inr (10, [.int (0 : Int32), .int (0 : Int32), .ref q1, .ref q2, .ref q3, .ref q4, .ref q5, .ref q6, .ref q7, .ref q8, .ref q9, .null])), (q1, .inl (c1, 40, .inl (fun _ => 0))), (q2, .inl (c2, 40, .inl (fun _ => 0))), (q3, .inl (c3, 40, .inl (fun _ => 0))), (q4, .inl (c4, 40, .inl (fun _ => 0))), (q5, .inl (c5, 40, .inl (fun _ => 0))), (q6, .inl (c6, 40, .inl (fun _ => 0))), (q7, .inl (c7, 40, .inl (fun _ => 0))), (q8, .inl (c8, 40, .inl (fun _ => 0))), (q9, .inl (c9, 40, .inl (fun _ => 0)))] := hD
  refine lv_aload_n hx hb dX10_init_86 rfl (lv_at hl 0 rfl) ?_
  refine lv_sipush (v := (nI 320)) hx hb dX10_init_87 (by decide) ?_
  refine va_newa (atype := .byte) hx hb (hts (.arrayClass .byte) (mc uX_312)) (ty := .byte) rfl hK hP hD hS hA (n := (nI 320)) (N' := 320) (a0 := (320, .inl (fun _ => 0))) (ct_ab 320) (by decide +kernel) (by decide +kernel) (by decide +kernel) (Nat.le_of_ble_eq_true rfl) (Nat.le_of_ble_eq_true rfl) dX10_init_90 (fun q10 c10 H hK hP hD hS => ?_)
  refine W.widen (k := 10) (n := 680) (Nat.le_of_ble_eq_true rfl) (Nat.le_of_ble_eq_true rfl) ?_
  have hP : va_P D vwCl [(h0, .inr (10, [.int (0 : Int32), .int (0 : Int32), .ref q1, .ref q2, .ref q3, .ref q4, .ref q5, .ref q6, .ref q7, .ref q8, .ref q9, .null])), (q1, .inl (c1, 40, .inl (fun _ => 0))), (q2, .inl (c2, 40, .inl (fun _ => 0))), (q3, .inl (c3, 40, .inl (fun _ => 0))), (q4, .inl (c4, 40, .inl (fun _ => 0))), (q5, .inl (c5, 40, .inl (fun _ => 0))), (q6, .inl (c6, 40, .inl (fun _ => 0))), (q7, .inl (c7, 40, .inl (fun _ => 0))), (q8, .inl (c8, 40, .inl (fun _ => 0))), (q9, .inl (c9, 40, .inl (fun _ => 0))), (q10, .inl (c10, 320, .inl (fun _ => 0)))] H := hP
  have hD : va_D A [(h0, .inr (10, [.int (0 : Int32), .int (0 : Int32), .ref q1, .ref q2, .ref q3, .ref q4, .ref q5, .ref q6, .ref q7, .ref q8, .ref q9, .null])), (q1, .inl (c1, 40, .inl (fun _ => 0))), (q2, .inl (c2, 40, .inl (fun _ => 0))), (q3, .inl (c3, 40, .inl (fun _ => 0))), (q4, .inl (c4, 40, .inl (fun _ => 0))), (q5, .inl (c5, 40, .inl (fun _ => 0))), (q6, .inl (c6, 40, .inl (fun _ => 0))), (q7, .inl (c7, 40, .inl (fun _ => 0))), (q8, .inl (c8, 40, .inl (fun _ => 0))), (q9, .inl (c9, 40, .inl (fun _ => 0))), (q10, .inl (c10, 320, .inl (fun _ => 0)))] := hD
  have hK : va_K D vwCl [(c1, .int), (c2, .int), (c3, .int), (c4, .int), (c5, .int), (c6, .int), (c7, .boolean), (c8, .int), (c9, .boolean), (c10, .byte)] s := hK
  refine va_putF (D := D) (ci := 10) (v := .ref q10) (C := RX10) (T := TX10) (N := 12) hx hb hts (fun w h => mc (uX_fX10 w h)) tyX10 tyX10_ok nmX10 hown hK hP hD hS 0 rfl rfl 11 (by decide) (hts _ (mc uX_325)) (fun _ h9 => h9) rfl hin rfl (tyX10_ok 11 (by decide)) rfl rfl (Nat.le_of_ble_eq_true rfl) dX10_init_92 (fun H locs hP hD hS => ?_)
  have hP : va_P D vwCl [(h0, .inr (10, [.int (0 : Int32), .int (0 : Int32), .ref q1, .ref q2, .ref q3, .ref q4, .ref q5, .ref q6, .ref q7, .ref q8, .ref q9, .ref q10])), (q1, .inl (c1, 40, .inl (fun _ => 0))), (q2, .inl (c2, 40, .inl (fun _ => 0))), (q3, .inl (c3, 40, .inl (fun _ => 0))), (q4, .inl (c4, 40, .inl (fun _ => 0))), (q5, .inl (c5, 40, .inl (fun _ => 0))), (q6, .inl (c6, 40, .inl (fun _ => 0))), (q7, .inl (c7, 40, .inl (fun _ => 0))), (q8, .inl (c8, 40, .inl (fun _ => 0))), (q9, .inl (c9, 40, .inl (fun _ => 0))), (q10, .inl (c10, 320, .inl (fun _ => 0)))] H := hP
  have hD : va_D A [(h0, .inr (10, [.int (0 : Int32), .int (0 : Int32), .ref q1, .ref q2, .ref q3, .ref q4, .ref q5, .ref q6, .ref q7, .ref q8, .ref q9, .ref q10])), (q1, .inl (c1, 40, .inl (fun _ => 0))), (q2, .inl (c2, 40, .inl (fun _ => 0))), (q3, .inl (c3, 40, .inl (fun _ => 0))), (q4, .inl (c4, 40, .inl (fun _ => 0))), (q5, .inl (c5, 40, .inl (fun _ => 0))), (q6, .inl (c6, 40, .inl (fun _ => 0))), (q7, .inl (c7, 40, .inl (fun _ => 0))), (q8, .inl (c8, 40, .inl (fun _ => 0))), (q9, .inl (c9, 40, .inl (fun _ => 0))), (q10, .inl (c10, 320, .inl (fun _ => 0)))] := hD
  exact W.vret hx hb hr (fun t ht hW => ⟨⟨(fun i => ([h0, q1, q2, q3, q4, q5, q6, q7, q8, q9, q10] : List Nat).getD i 0, fun i => ([D.1 0, c1, c2, c3, c4, c5, c6, c7, c8, c9, c10] : List ClassId).getD i (D.1 0)), rfl, trivial, by rw [ht]; exact hP, va_K.moved hW.alike hK, hD⟩, hS.F ht⟩) hS.2.2 dX10_init_95
def wX6 (h0 : Nat) (u : ctU) : va_W := [(h0, .inr (6, [.ref (u.1 1), .ref (u.1 3), .int (-1 : Int32), .int 0, .int 0, .int 0, .int 0, .int 0])), ((u.1 1), .inr (9, [.int (0 : Int32), .ref (u.1 2)])), ((u.1 2), .inl ((u.2 2), 1000, .inl (fun _ => 0))), ((u.1 3), .inr (10, [.int (0 : Int32), .int (0 : Int32), .ref (u.1 4), .ref (u.1 5), .ref (u.1 6), .ref (u.1 7), .ref (u.1 8), .ref (u.1 9), .ref (u.1 10), .ref (u.1 11), .ref (u.1 12), .ref (u.1 13)])), ((u.1 4), .inl ((u.2 4), 40, .inl (fun _ => 0))), ((u.1 5), .inl ((u.2 5), 40, .inl (fun _ => 0))), ((u.1 6), .inl ((u.2 6), 40, .inl (fun _ => 0))), ((u.1 7), .inl ((u.2 7), 40, .inl (fun _ => 0))), ((u.1 8), .inl ((u.2 8), 40, .inl (fun _ => 0))), ((u.1 9), .inl ((u.2 9), 40, .inl (fun _ => 0))), ((u.1 10), .inl ((u.2 10), 40, .inl (fun _ => 0))), ((u.1 11), .inl ((u.2 11), 40, .inl (fun _ => 0))), ((u.1 12), .inl ((u.2 12), 40, .inl (fun _ => 0))), ((u.1 13), .inl ((u.2 13), 320, .inl (fun _ => 0)))]
def tX6 (u : ctU) : List (ClassId × FieldType) := [((u.2 2), .byte), ((u.2 4), .int), ((u.2 5), .int), ((u.2 6), .int), ((u.2 7), .int), ((u.2 8), .int), ((u.2 9), .int), ((u.2 10), .boolean), ((u.2 11), .int), ((u.2 12), .boolean), ((u.2 13), .byte)]
set_option maxHeartbeats 4000000 in
set_option maxRecDepth 100000 in
theorem cX6 (l : Launch) (D : va_G) (h0 sz : Nat) : Met l yX6_init vsX6_init ({ frames := 2, cells := 13, slots := 1694, locals := 32 } : Room) (va_Pc [.ref h0] (ctPre D [(h0, .inr (6, [.null, .null, .int 0, .int 0, .int 0, .int 0, .int 0, .int 0]))] sz)) (va_Qv (fun _ : ctU => True) (ctB D (va_A [(h0, .inr (6, [.null, .null, .int 0, .int 0, .int 0, .int 0, .int 0, .int 0]))] sz) (wX6 h0) tX6) (va_A [(h0, .inr (6, [.null, .null, .int 0, .int 0, .int 0, .int 0, .int 0, .int 0]))] sz)) 13 1694 (va_A [(h0, .inr (6, [.null, .null, .int 0, .int 0, .int 0, .int 0, .int 0, .int 0]))] sz) := by
  refine Met.ofW (cc := cX6_init) (maxL := 1) (ret := none) (by decide) rfl ?_
  intro p e s m args below meth c s₁ B hml hv
  obtain ⟨rfl, hsz, hP, hK, hD0, hE⟩ := hv
  have hx := B.exec
  have hb := B.bytes
  have hr := B.returns
  have hts := atoms_spec (ws := vsX6_init) B.pre
  have hown : s.vm.findClass RX6 = some m.cls := findClass_of_methodNamed B.named
  have hlocks := B.notSynchronized
  have hin : meth.name = "<init>" := (name_of_methodNamed B.named B.method).1
  subst hsz
  have hD := hD0.self (sz := s.heap.size)
  generalize hAe : va_A [(h0, .inr (6, [.null, .null, .int 0, .int 0, .int 0, .int 0, .int 0, .int 0]))] s.heap.size = A at hD ⊢
  have hA : ∀ q : Nat, s.heap.size ≤ q → A q := fun q h => by rw [← hAe]; exact Or.inr h
  have hS : va_S A s.heap s.heap [] := va_S.rf
  have hP : va_P D vwCl [(h0, .inr (6, [.null, .null, .int 0, .int 0, .int 0, .int 0, .int 0, .int 0]))] s.heap := hP
  have hl := lv_entry ([.ref h0]) (n := 1) (Nat.le_of_ble_eq_true rfl)
  rw [lg_entry_eq]
  generalize (lg_sl ([.ref h0]) ++ List.replicate (1 - (lg_sl ([.ref h0])).length) Slot.unset).toArray = ls at hl ⊢
  have hl : lv_has ls 1 [(0, .ref h0)] := hl
  refine lv_aload_n hx hb dX6_init_0 rfl (lv_at hl 0 rfl) ?_
  refine W.objInit hx hb hown (hts (.methodLink RX6 3 objectInit) (mc uX_326)) (hts (.instanceMethod objectInit) (mc uX_2)) (hts _ (mc uX_3)) rfl (by rw [hml]; exact hl.1) rfl dX6_init_1 (Nat.le_of_ble_eq_true rfl) (Nat.le_of_ble_eq_true rfl) ?_
  refine W.eq (g2 := F0 m 4 ls []) rfl ?_
  refine lv_aload_n hx hb dX6_init_4 rfl (lv_at hl 0 rfl) ?_
  refine va_new (ci := 9) (fs := [.int 0, .null]) (C := RX9) (T := TX9) (N := 2) hx hb hts (fun w h => mc (uX_fX9 w h)) tyX9 tyX9_ok hown (hts _ (mc uX_327)) (hts _ (mc uX_328)) (hts _ (mc uX_329)) hK hP hD hS hA rfl (fun j hj => by rcases (show j = 0 ∨ j = 1 by omega) with rfl | rfl <;> rfl) (Nat.le_of_ble_eq_true rfl) (Nat.le_of_ble_eq_true rfl) dX6_init_5 (fun q1 H hP hD hS => ?_)
  refine W.widen (k := 1) (n := 2) (Nat.le_of_ble_eq_true rfl) (Nat.le_of_ble_eq_true rfl) ?_
  have hP : va_P D vwCl [(h0, .inr (6, [.null, .null, .int 0, .int 0, .int 0, .int 0, .int 0, .int 0])), (q1, .inr (9, [.int 0, .null]))] H := hP
  have hD : va_D A [(h0, .inr (6, [.null, .null, .int 0, .int 0, .int 0, .int 0, .int 0, .int 0])), (q1, .inr (9, [.int 0, .null]))] := hD
  refine lv_dup hx hb dX6_init_8 rfl ?_
  have hPc := hP.sub (ws' := [(q1, .inr (9, [.int 0, .null]))]) [1] rfl
  have hDc := hD.sub (ws' := [(q1, .inr (9, [.int 0, .null]))]) [1] (by decide) rfl
  have hKc := hK.sub (tys' := []) [] rfl
  have hFc := va_free (wc := [(q1, .inr (9, [.int 0, .null]))]) hD hS hA [1] rfl
  refine va_callv (va_runIN (As := []) (rest := [.ref q1, .ref h0]) ⟨hx, hb, hml, hown, hts⟩ (cX9 l D q1 H.size) ⟨va_cnB 0 hts (sy_goodN uX_good uX_309 _) rfl rfl rfl (hE.1 ("AreaSetter$Reader", 11, yX9_init) (by simp)) (hts _ (mc uX_329)) (by decide +kernel) ⟨(Nat.le_of_ble_eq_true rfl), (Nat.le_of_ble_eq_true rfl)⟩, rfl, hts _ (mc uX_335)⟩ ⟨ctPre.blind, fun U hU hW => ⟨rfl, by rw [hU], by rw [hU]; exact hPc, va_K.moved hW.alike hKc, hDc.weaken (fun _ _ _ _ => trivial), hE.warm hW⟩⟩ rfl rfl hl.1 rfl (lv_room (Nat.le_of_ble_eq_true rfl)) dX6_init_9 ⟨(Nat.le_of_ble_eq_true rfl), (Nat.le_of_ble_eq_true rfl)⟩) hS (fun q _ h => hFc q h) hFc (fun u1 t H1 locs ht hvm hw hB hz1 hk1 hS => ?_)
  refine W.widen (k := 2) (n := 1002) (Nat.le_of_ble_eq_true rfl) (Nat.le_of_ble_eq_true rfl) ?_
  obtain ⟨hP1, hK1, hD1⟩ := hB
  rw [ht] at hP1
  have hK1 := va_K.moved hvm.symm hK1
  obtain ⟨hP, hD⟩ := va_join (wr := [(h0, .inr (6, [.null, .null, .int 0, .int 0, .int 0, .int 0, .int 0, .int 0]))]) (w1 := wX9 q1 u1) hP hD [1] [0] rfl rfl (by decide) (by decide) hk1 hFc hP1 hD1
  have hK := (hK.sub (tys' := []) [] rfl).app hK1
  generalize H1 = H at hP hS ⊢
  have hP : va_P D vwCl [(h0, .inr (6, [.null, .null, .int 0, .int 0, .int 0, .int 0, .int 0, .int 0])), (q1, .inr (9, [.int (0 : Int32), .ref (u1.1 1)])), ((u1.1 1), .inl ((u1.2 1), 1000, .inl (fun _ => 0)))] H := hP
  have hD : va_D A [(h0, .inr (6, [.null, .null, .int 0, .int 0, .int 0, .int 0, .int 0, .int 0])), (q1, .inr (9, [.int (0 : Int32), .ref (u1.1 1)])), ((u1.1 1), .inl ((u1.2 1), 1000, .inl (fun _ => 0)))] := hD
  have hK : va_K D vwCl [((u1.2 1), .byte)] s := hK
  refine va_putF (D := D) (ci := 6) (v := .ref q1) (C := RX6) (T := TX6) (N := 8) hx hb hts (fun w h => mc (uX_fX6 w h)) tyX6 tyX6_ok nmX6 hown hK hP hD hS 0 rfl rfl 0 (by decide) (hts _ (mc uX_330)) (fun _ h9 => h9) rfl hin rfl (tyX6_ok 0 (by decide)) rfl rfl (Nat.le_of_ble_eq_true rfl) dX6_init_12 (fun H locs hP hD hS => ?_)
  have hP : va_P D vwCl [(h0, .inr (6, [.ref q1, .null, .int 0, .int 0, .int 0, .int 0, .int 0, .int 0])), (q1, .inr (9, [.int (0 : Int32), .ref (u1.1 1)])), ((u1.1 1), .inl ((u1.2 1), 1000, .inl (fun _ => 0)))] H := hP
  have hD : va_D A [(h0, .inr (6, [.ref q1, .null, .int 0, .int 0, .int 0, .int 0, .int 0, .int 0])), (q1, .inr (9, [.int (0 : Int32), .ref (u1.1 1)])), ((u1.1 1), .inl ((u1.2 1), 1000, .inl (fun _ => 0)))] := hD
  refine lv_aload_n hx hb dX6_init_15 rfl (lv_at hl 0 rfl) ?_
  refine va_new (ci := 10) (fs := [.int 0, .int 0, .null, .null, .null, .null, .null, .null, .null, .null, .null, .null]) (C := RX10) (T := TX10) (N := 12) hx hb hts (fun w h => mc (uX_fX10 w h)) tyX10 tyX10_ok hown (hts _ (mc uX_331)) (hts _ (mc uX_332)) (hts _ (mc uX_20)) hK hP hD hS hA rfl (fun j hj => by rcases (show j = 0 ∨ j = 1 ∨ j = 2 ∨ j = 3 ∨ j = 4 ∨ j = 5 ∨ j = 6 ∨ j = 7 ∨ j = 8 ∨ j = 9 ∨ j = 10 ∨ j = 11 by omega) with rfl | rfl | rfl | rfl | rfl | rfl | rfl | rfl | rfl | rfl | rfl | rfl <;> rfl) (Nat.le_of_ble_eq_true rfl) (Nat.le_of_ble_eq_true rfl) dX6_init_16 (fun q2 H hP hD hS => ?_)
  refine W.widen (k := 3) (n := 1014) (Nat.le_of_ble_eq_true rfl) (Nat.le_of_ble_eq_true rfl) ?_
  have hP : va_P D vwCl [(h0, .inr (6, [.ref q1, .null, .int 0, .int 0, .int 0, .int 0, .int 0, .int 0])), (q1, .inr (9, [.int (0 : Int32), .ref (u1.1 1)])), ((u1.1 1), .inl ((u1.2 1), 1000, .inl (fun _ => 0))), (q2, .inr (10, [.int 0, .int 0, .null, .null, .null, .null, .null, .null, .null, .null, .null, .null]))] H := hP
  have hD : va_D A [(h0, .inr (6, [.ref q1, .null, .int 0, .int 0, .int 0, .int 0, .int 0, .int 0])), (q1, .inr (9, [.int (0 : Int32), .ref (u1.1 1)])), ((u1.1 1), .inl ((u1.2 1), 1000, .inl (fun _ => 0))), (q2, .inr (10, [.int 0, .int 0, .null, .null, .null, .null, .null, .null, .null, .null, .null, .null]))] := hD
  refine lv_dup hx hb dX6_init_19 rfl ?_
  have hPc := hP.sub (ws' := [(q2, .inr (10, [.int 0, .int 0, .null, .null, .null, .null, .null, .null, .null, .null, .null, .null]))]) [3] rfl
  have hDc := hD.sub (ws' := [(q2, .inr (10, [.int 0, .int 0, .null, .null, .null, .null, .null, .null, .null, .null, .null, .null]))]) [3] (by decide) rfl
  have hKc := hK.sub (tys' := []) [] rfl
  have hFc := va_free (wc := [(q2, .inr (10, [.int 0, .int 0, .null, .null, .null, .null, .null, .null, .null, .null, .null, .null]))]) hD hS hA [3] rfl
  refine va_callv (va_runIN (As := []) (rest := [.ref q2, .ref h0]) ⟨hx, hb, hml, hown, hts⟩ (cX10 l D q2 H.size) ⟨va_cnB 0 hts (sy_goodN uX_good uX_314 _) rfl rfl rfl (hE.1 ("AreaSetter$Reader", 20, yX10_init) (by simp)) (hts _ (mc uX_20)) (by decide +kernel) ⟨(Nat.le_of_ble_eq_true rfl), (Nat.le_of_ble_eq_true rfl)⟩, rfl, hts _ (mc uX_336)⟩ ⟨ctPre.blind, fun U hU hW => ⟨rfl, by rw [hU], by rw [hU]; exact hPc, va_K.moved hW.alike hKc, hDc.weaken (fun _ _ _ _ => trivial), hE.warm hW⟩⟩ rfl rfl hl.1 rfl (lv_room (Nat.le_of_ble_eq_true rfl)) dX6_init_20 ⟨(Nat.le_of_ble_eq_true rfl), (Nat.le_of_ble_eq_true rfl)⟩) hS (fun q _ h => hFc q h) hFc (fun u2 t H1 locs ht hvm hw hB hz1 hk1 hS => ?_)
  refine W.widen (k := 13) (n := 1694) (Nat.le_of_ble_eq_true rfl) (Nat.le_of_ble_eq_true rfl) ?_
  obtain ⟨hP1, hK1, hD1⟩ := hB
  rw [ht] at hP1
  have hK1 := va_K.moved hvm.symm hK1
  obtain ⟨hP, hD⟩ := va_join (wr := [(h0, .inr (6, [.ref q1, .null, .int 0, .int 0, .int 0, .int 0, .int 0, .int 0])), (q1, .inr (9, [.int (0 : Int32), .ref (u1.1 1)])), ((u1.1 1), .inl ((u1.2 1), 1000, .inl (fun _ => 0)))]) (w1 := wX10 q2 u2) hP hD [3] [0, 1, 2] rfl rfl (by decide) (by decide) hk1 hFc hP1 hD1
  have hK := (hK.sub (tys' := [((u1.2 1), .byte)]) [0] rfl).app hK1
  generalize H1 = H at hP hS ⊢
  have hP : va_P D vwCl [(h0, .inr (6, [.ref q1, .null, .int 0, .int 0, .int 0, .int 0, .int 0, .int 0])), (q1, .inr (9, [.int (0 : Int32), .ref (u1.1 1)])), ((u1.1 1), .inl ((u1.2 1), 1000, .inl (fun _ => 0))), (q2, .inr (10, [.int (0 : Int32), .int (0 : Int32), .ref (u2.1 1), .ref (u2.1 2), .ref (u2.1 3), .ref (u2.1 4), .ref (u2.1 5), .ref (u2.1 6), .ref (u2.1 7), .ref (u2.1 8), .ref (u2.1 9), .ref (u2.1 10)])), ((u2.1 1), .inl ((u2.2 1), 40, .inl (fun _ => 0))), ((u2.1 2), .inl ((u2.2 2), 40, .inl (fun _ => 0))), ((u2.1 3), .inl ((u2.2 3), 40, .inl (fun _ => 0))), ((u2.1 4), .inl ((u2.2 4), 40, .inl (fun _ => 0))), ((u2.1 5), .inl ((u2.2 5), 40, .inl (fun _ => 0))), ((u2.1 6), .inl ((u2.2 6), 40, .inl (fun _ => 0))), ((u2.1 7), .inl ((u2.2 7), 40, .inl (fun _ => 0))), ((u2.1 8), .inl ((u2.2 8), 40, .inl (fun _ => 0))), ((u2.1 9), .inl ((u2.2 9), 40, .inl (fun _ => 0))), ((u2.1 10), .inl ((u2.2 10), 320, .inl (fun _ => 0)))] H := hP
  have hD : va_D A [(h0, .inr (6, [.ref q1, .null, .int 0, .int 0, .int 0, .int 0, .int 0, .int 0])), (q1, .inr (9, [.int (0 : Int32), .ref (u1.1 1)])), ((u1.1 1), .inl ((u1.2 1), 1000, .inl (fun _ => 0))), (q2, .inr (10, [.int (0 : Int32), .int (0 : Int32), .ref (u2.1 1), .ref (u2.1 2), .ref (u2.1 3), .ref (u2.1 4), .ref (u2.1 5), .ref (u2.1 6), .ref (u2.1 7), .ref (u2.1 8), .ref (u2.1 9), .ref (u2.1 10)])), ((u2.1 1), .inl ((u2.2 1), 40, .inl (fun _ => 0))), ((u2.1 2), .inl ((u2.2 2), 40, .inl (fun _ => 0))), ((u2.1 3), .inl ((u2.2 3), 40, .inl (fun _ => 0))), ((u2.1 4), .inl ((u2.2 4), 40, .inl (fun _ => 0))), ((u2.1 5), .inl ((u2.2 5), 40, .inl (fun _ => 0))), ((u2.1 6), .inl ((u2.2 6), 40, .inl (fun _ => 0))), ((u2.1 7), .inl ((u2.2 7), 40, .inl (fun _ => 0))), ((u2.1 8), .inl ((u2.2 8), 40, .inl (fun _ => 0))), ((u2.1 9), .inl ((u2.2 9), 40, .inl (fun _ => 0))), ((u2.1 10), .inl ((u2.2 10), 320, .inl (fun _ => 0)))] := hD
  have hK : va_K D vwCl [((u1.2 1), .byte), ((u2.2 1), .int), ((u2.2 2), .int), ((u2.2 3), .int), ((u2.2 4), .int), ((u2.2 5), .int), ((u2.2 6), .int), ((u2.2 7), .boolean), ((u2.2 8), .int), ((u2.2 9), .boolean), ((u2.2 10), .byte)] s := hK
  refine va_put (D := D) (ci := 6) (v := .ref q2) (C := RX6) (T := TX6) (N := 8) hx hb hts (fun w h => mc (uX_fX6 w h)) tyX6 tyX6_ok nmX6 hown hK hP hD hS 0 rfl rfl 1 (by decide) (hts _ (mc uX_333)) (fun _ h9 => h9) rfl (tyX6_ok 1 (by decide)) rfl rfl (Nat.le_of_ble_eq_true rfl) dX6_init_23 (fun H locs hP hD hS => ?_)
  have hP : va_P D vwCl [(h0, .inr (6, [.ref q1, .ref q2, .int 0, .int 0, .int 0, .int 0, .int 0, .int 0])), (q1, .inr (9, [.int (0 : Int32), .ref (u1.1 1)])), ((u1.1 1), .inl ((u1.2 1), 1000, .inl (fun _ => 0))), (q2, .inr (10, [.int (0 : Int32), .int (0 : Int32), .ref (u2.1 1), .ref (u2.1 2), .ref (u2.1 3), .ref (u2.1 4), .ref (u2.1 5), .ref (u2.1 6), .ref (u2.1 7), .ref (u2.1 8), .ref (u2.1 9), .ref (u2.1 10)])), ((u2.1 1), .inl ((u2.2 1), 40, .inl (fun _ => 0))), ((u2.1 2), .inl ((u2.2 2), 40, .inl (fun _ => 0))), ((u2.1 3), .inl ((u2.2 3), 40, .inl (fun _ => 0))), ((u2.1 4), .inl ((u2.2 4), 40, .inl (fun _ => 0))), ((u2.1 5), .inl ((u2.2 5), 40, .inl (fun _ => 0))), ((u2.1 6), .inl ((u2.2 6), 40, .inl (fun _ => 0))), ((u2.1 7), .inl ((u2.2 7), 40, .inl (fun _ => 0))), ((u2.1 8), .inl ((u2.2 8), 40, .inl (fun _ => 0))), ((u2.1 9), .inl ((u2.2 9), 40, .inl (fun _ => 0))), ((u2.1 10), .inl ((u2.2 10), 320, .inl (fun _ => 0)))] H := hP
  have hD : va_D A [(h0, .inr (6, [.ref q1, .ref q2, .int 0, .int 0, .int 0, .int 0, .int 0, .int 0])), (q1, .inr (9, [.int (0 : Int32), .ref (u1.1 1)])), ((u1.1 1), .inl ((u1.2 1), 1000, .inl (fun _ => 0))), (q2, .inr (10, [.int (0 : Int32), .int (0 : Int32), .ref (u2.1 1), .ref (u2.1 2), .ref (u2.1 3), .ref (u2.1 4), .ref (u2.1 5), .ref (u2.1 6), .ref (u2.1 7), .ref (u2.1 8), .ref (u2.1 9), .ref (u2.1 10)])), ((u2.1 1), .inl ((u2.2 1), 40, .inl (fun _ => 0))), ((u2.1 2), .inl ((u2.2 2), 40, .inl (fun _ => 0))), ((u2.1 3), .inl ((u2.2 3), 40, .inl (fun _ => 0))), ((u2.1 4), .inl ((u2.2 4), 40, .inl (fun _ => 0))), ((u2.1 5), .inl ((u2.2 5), 40, .inl (fun _ => 0))), ((u2.1 6), .inl ((u2.2 6), 40, .inl (fun _ => 0))), ((u2.1 7), .inl ((u2.2 7), 40, .inl (fun _ => 0))), ((u2.1 8), .inl ((u2.2 8), 40, .inl (fun _ => 0))), ((u2.1 9), .inl ((u2.2 9), 40, .inl (fun _ => 0))), ((u2.1 10), .inl ((u2.2 10), 320, .inl (fun _ => 0)))] := hD
  refine lv_aload_n hx hb dX6_init_26 rfl (lv_at hl 0 rfl) ?_
  refine lv_iconst (v := (-1 : Int32)) hx hb dX6_init_27 (by decide) ?_
  refine va_put (D := D) (ci := 6) (v := .int (-1 : Int32)) (C := RX6) (T := TX6) (N := 8) hx hb hts (fun w h => mc (uX_fX6 w h)) tyX6 tyX6_ok nmX6 hown hK hP hD hS 0 rfl rfl 2 (by decide) (hts _ (mc uX_334)) (fun _ h9 => h9) rfl (tyX6_ok 2 (by decide)) rfl rfl (Nat.le_of_ble_eq_true rfl) dX6_init_28 (fun H locs hP hD hS => ?_)
  have hP : va_P D vwCl [(h0, .inr (6, [.ref q1, .ref q2, .int (-1 : Int32), .int 0, .int 0, .int 0, .int 0, .int 0])), (q1, .inr (9, [.int (0 : Int32), .ref (u1.1 1)])), ((u1.1 1), .inl ((u1.2 1), 1000, .inl (fun _ => 0))), (q2, .inr (10, [.int (0 : Int32), .int (0 : Int32), .ref (u2.1 1), .ref (u2.1 2), .ref (u2.1 3), .ref (u2.1 4), .ref (u2.1 5), .ref (u2.1 6), .ref (u2.1 7), .ref (u2.1 8), .ref (u2.1 9), .ref (u2.1 10)])), ((u2.1 1), .inl ((u2.2 1), 40, .inl (fun _ => 0))), ((u2.1 2), .inl ((u2.2 2), 40, .inl (fun _ => 0))), ((u2.1 3), .inl ((u2.2 3), 40, .inl (fun _ => 0))), ((u2.1 4), .inl ((u2.2 4), 40, .inl (fun _ => 0))), ((u2.1 5), .inl ((u2.2 5), 40, .inl (fun _ => 0))), ((u2.1 6), .inl ((u2.2 6), 40, .inl (fun _ => 0))), ((u2.1 7), .inl ((u2.2 7), 40, .inl (fun _ => 0))), ((u2.1 8), .inl ((u2.2 8), 40, .inl (fun _ => 0))), ((u2.1 9), .inl ((u2.2 9), 40, .inl (fun _ => 0))), ((u2.1 10), .inl ((u2.2 10), 320, .inl (fun _ => 0)))] H := hP
  have hD : va_D A [(h0, .inr (6, [.ref q1, .ref q2, .int (-1 : Int32), .int 0, .int 0, .int 0, .int 0, .int 0])), (q1, .inr (9, [.int (0 : Int32), .ref (u1.1 1)])), ((u1.1 1), .inl ((u1.2 1), 1000, .inl (fun _ => 0))), (q2, .inr (10, [.int (0 : Int32), .int (0 : Int32), .ref (u2.1 1), .ref (u2.1 2), .ref (u2.1 3), .ref (u2.1 4), .ref (u2.1 5), .ref (u2.1 6), .ref (u2.1 7), .ref (u2.1 8), .ref (u2.1 9), .ref (u2.1 10)])), ((u2.1 1), .inl ((u2.2 1), 40, .inl (fun _ => 0))), ((u2.1 2), .inl ((u2.2 2), 40, .inl (fun _ => 0))), ((u2.1 3), .inl ((u2.2 3), 40, .inl (fun _ => 0))), ((u2.1 4), .inl ((u2.2 4), 40, .inl (fun _ => 0))), ((u2.1 5), .inl ((u2.2 5), 40, .inl (fun _ => 0))), ((u2.1 6), .inl ((u2.2 6), 40, .inl (fun _ => 0))), ((u2.1 7), .inl ((u2.2 7), 40, .inl (fun _ => 0))), ((u2.1 8), .inl ((u2.2 8), 40, .inl (fun _ => 0))), ((u2.1 9), .inl ((u2.2 9), 40, .inl (fun _ => 0))), ((u2.1 10), .inl ((u2.2 10), 320, .inl (fun _ => 0)))] := hD
  exact W.vret hx hb hr (fun t ht hW => ⟨⟨(fun i => ([h0, q1, (u1.1 1), q2, (u2.1 1), (u2.1 2), (u2.1 3), (u2.1 4), (u2.1 5), (u2.1 6), (u2.1 7), (u2.1 8), (u2.1 9), (u2.1 10)] : List Nat).getD i 0, fun i => ([D.1 0, D.1 0, (u1.2 1), D.1 0, (u2.2 1), (u2.2 2), (u2.2 3), (u2.2 4), (u2.2 5), (u2.2 6), (u2.2 7), (u2.2 8), (u2.2 9), (u2.2 10)] : List ClassId).getD i (D.1 0)), rfl, trivial, by rw [ht]; exact hP, va_K.moved hW.alike hK, hD⟩, hS.F ht⟩) hS.2.2 dX6_init_31
def wX0 (h0 : Nat) (u : ctU) : va_W := [(h0, .inr (0, [.int (0 : Int32), .ref (u.1 1), .ref (u.1 2), .ref (u.1 3), .ref (u.1 4)])), ((u.1 1), .inl ((u.2 1), 100, .inl (fun _ => 0))), ((u.1 2), .inl ((u.2 2), 100, .inl (fun _ => 0))), ((u.1 3), .inl ((u.2 3), 100, .inl (fun _ => 0))), ((u.1 4), .inl ((u.2 4), 40, .inl (fun _ => 0)))]
def tX0 (u : ctU) : List (ClassId × FieldType) := [((u.2 1), .int), ((u.2 2), .int), ((u.2 3), .int), ((u.2 4), .int)]
set_option maxHeartbeats 4000000 in
set_option maxRecDepth 100000 in
theorem cX0 (l : Launch) (D : va_G) (h0 sz : Nat) : Met l yX0_init vsX0_init ({ frames := 1, cells := 4, slots := 340, locals := 12 } : Room) (va_Pc [.ref h0] (ctPre D [(h0, .inr (0, [.int 0, .null, .null, .null, .null]))] sz)) (va_Qv (fun _ : ctU => True) (ctB D (va_A [(h0, .inr (0, [.int 0, .null, .null, .null, .null]))] sz) (wX0 h0) tX0) (va_A [(h0, .inr (0, [.int 0, .null, .null, .null, .null]))] sz)) 4 340 (va_A [(h0, .inr (0, [.int 0, .null, .null, .null, .null]))] sz) := by
  refine Met.ofW (cc := cX0_init) (maxL := 1) (ret := none) (by decide) rfl ?_
  intro p e s m args below meth c s₁ B hml hv
  obtain ⟨rfl, hsz, hP, hK, hD0, hE⟩ := hv
  have hx := B.exec
  have hb := B.bytes
  have hr := B.returns
  have hts := atoms_spec (ws := vsX0_init) B.pre
  have hown : s.vm.findClass RX0 = some m.cls := findClass_of_methodNamed B.named
  have hlocks := B.notSynchronized
  have hin : meth.name = "<init>" := (name_of_methodNamed B.named B.method).1
  subst hsz
  have hD := hD0.self (sz := s.heap.size)
  generalize hAe : va_A [(h0, .inr (0, [.int 0, .null, .null, .null, .null]))] s.heap.size = A at hD ⊢
  have hA : ∀ q : Nat, s.heap.size ≤ q → A q := fun q h => by rw [← hAe]; exact Or.inr h
  have hS : va_S A s.heap s.heap [] := va_S.rf
  have hP : va_P D vwCl [(h0, .inr (0, [.int 0, .null, .null, .null, .null]))] s.heap := hP
  have hl := lv_entry ([.ref h0]) (n := 1) (Nat.le_of_ble_eq_true rfl)
  rw [lg_entry_eq]
  generalize (lg_sl ([.ref h0]) ++ List.replicate (1 - (lg_sl ([.ref h0])).length) Slot.unset).toArray = ls at hl ⊢
  have hl : lv_has ls 1 [(0, .ref h0)] := hl
  refine lv_aload_n hx hb dX0_init_0 rfl (lv_at hl 0 rfl) ?_
  refine W.objInit hx hb hown (hts (.methodLink RX0 3 objectInit) (mc uX_1)) (hts (.instanceMethod objectInit) (mc uX_2)) (hts _ (mc uX_3)) rfl (by rw [hml]; exact hl.1) rfl dX0_init_1 (Nat.le_of_ble_eq_true rfl) (Nat.le_of_ble_eq_true rfl) ?_
  refine W.eq (g2 := F0 m 4 ls []) rfl ?_
  refine lv_aload_n hx hb dX0_init_4 rfl (lv_at hl 0 rfl) ?_
  refine lv_iconst (v := (0 : Int32)) hx hb dX0_init_5 (by decide) ?_
  refine va_put (D := D) (ci := 0) (v := .int (0 : Int32)) (C := RX0) (T := TX0) (N := 5) hx hb hts (fun w h => mc (uX_fX0 w h)) tyX0 tyX0_ok nmX0 hown hK hP hD hS 0 rfl rfl 0 (by decide) (hts _ (mc uX_4)) (fun _ h9 => h9) rfl (tyX0_ok 0 (by decide)) rfl rfl (Nat.le_of_ble_eq_true rfl) dX0_init_6 (fun H locs hP hD hS => ?_)
  have hP : va_P D vwCl [(h0, .inr (0, [.int (0 : Int32), .null, .null, .null, .null]))] H := hP
  have hD : va_D A [(h0, .inr (0, [.int (0 : Int32), .null, .null, .null, .null]))] := hD
  refine lv_aload_n hx hb dX0_init_9 rfl (lv_at hl 0 rfl) ?_
  refine lv_bipush (v := (nI 100)) hx hb dX0_init_10 (by decide) ?_
  refine va_newa (atype := .int) hx hb (hts (.arrayClass .int) (mc uX_5)) (ty := .int) rfl hK hP hD hS hA (n := (nI 100)) (N' := 100) (a0 := (100, .inl (fun _ => 0))) (ct_ai 100) (by decide +kernel) (by decide +kernel) (by decide +kernel) (Nat.le_of_ble_eq_true rfl) (Nat.le_of_ble_eq_true rfl) dX0_init_12 (fun q1 c1 H hK hP hD hS => ?_)
  refine W.widen (k := 1) (n := 100) (Nat.le_of_ble_eq_true rfl) (Nat.le_of_ble_eq_true rfl) ?_
  have hP : va_P D vwCl [(h0, .inr (0, [.int (0 : Int32), .null, .null, .null, .null])), (q1, .inl (c1, 100, .inl (fun _ => 0)))] H := hP
  have hD : va_D A [(h0, .inr (0, [.int (0 : Int32), .null, .null, .null, .null])), (q1, .inl (c1, 100, .inl (fun _ => 0)))] := hD
  have hK : va_K D vwCl [(c1, .int)] s := hK
  refine va_putF (D := D) (ci := 0) (v := .ref q1) (C := RX0) (T := TX0) (N := 5) hx hb hts (fun w h => mc (uX_fX0 w h)) tyX0 tyX0_ok nmX0 hown hK hP hD hS 0 rfl rfl 1 (by decide) (hts _ (mc uX_6)) (fun _ h9 => h9) rfl hin rfl (tyX0_ok 1 (by decide)) rfl rfl (Nat.le_of_ble_eq_true rfl) dX0_init_14 (fun H locs hP hD hS => ?_)
  have hP : va_P D vwCl [(h0, .inr (0, [.int (0 : Int32), .ref q1, .null, .null, .null])), (q1, .inl (c1, 100, .inl (fun _ => 0)))] H := hP
  have hD : va_D A [(h0, .inr (0, [.int (0 : Int32), .ref q1, .null, .null, .null])), (q1, .inl (c1, 100, .inl (fun _ => 0)))] := hD
  refine lv_aload_n hx hb dX0_init_17 rfl (lv_at hl 0 rfl) ?_
  refine lv_bipush (v := (nI 100)) hx hb dX0_init_18 (by decide) ?_
  refine va_newa (atype := .int) hx hb (hts (.arrayClass .int) (mc uX_5)) (ty := .int) rfl hK hP hD hS hA (n := (nI 100)) (N' := 100) (a0 := (100, .inl (fun _ => 0))) (ct_ai 100) (by decide +kernel) (by decide +kernel) (by decide +kernel) (Nat.le_of_ble_eq_true rfl) (Nat.le_of_ble_eq_true rfl) dX0_init_20 (fun q2 c2 H hK hP hD hS => ?_)
  refine W.widen (k := 2) (n := 200) (Nat.le_of_ble_eq_true rfl) (Nat.le_of_ble_eq_true rfl) ?_
  have hP : va_P D vwCl [(h0, .inr (0, [.int (0 : Int32), .ref q1, .null, .null, .null])), (q1, .inl (c1, 100, .inl (fun _ => 0))), (q2, .inl (c2, 100, .inl (fun _ => 0)))] H := hP
  have hD : va_D A [(h0, .inr (0, [.int (0 : Int32), .ref q1, .null, .null, .null])), (q1, .inl (c1, 100, .inl (fun _ => 0))), (q2, .inl (c2, 100, .inl (fun _ => 0)))] := hD
  have hK : va_K D vwCl [(c1, .int), (c2, .int)] s := hK
  refine va_putF (D := D) (ci := 0) (v := .ref q2) (C := RX0) (T := TX0) (N := 5) hx hb hts (fun w h => mc (uX_fX0 w h)) tyX0 tyX0_ok nmX0 hown hK hP hD hS 0 rfl rfl 2 (by decide) (hts _ (mc uX_7)) (fun _ h9 => h9) rfl hin rfl (tyX0_ok 2 (by decide)) rfl rfl (Nat.le_of_ble_eq_true rfl) dX0_init_22 (fun H locs hP hD hS => ?_)
  have hP : va_P D vwCl [(h0, .inr (0, [.int (0 : Int32), .ref q1, .ref q2, .null, .null])), (q1, .inl (c1, 100, .inl (fun _ => 0))), (q2, .inl (c2, 100, .inl (fun _ => 0)))] H := hP
  have hD : va_D A [(h0, .inr (0, [.int (0 : Int32), .ref q1, .ref q2, .null, .null])), (q1, .inl (c1, 100, .inl (fun _ => 0))), (q2, .inl (c2, 100, .inl (fun _ => 0)))] := hD
  refine lv_aload_n hx hb dX0_init_25 rfl (lv_at hl 0 rfl) ?_
  refine lv_bipush (v := (nI 100)) hx hb dX0_init_26 (by decide) ?_
  refine va_newa (atype := .int) hx hb (hts (.arrayClass .int) (mc uX_5)) (ty := .int) rfl hK hP hD hS hA (n := (nI 100)) (N' := 100) (a0 := (100, .inl (fun _ => 0))) (ct_ai 100) (by decide +kernel) (by decide +kernel) (by decide +kernel) (Nat.le_of_ble_eq_true rfl) (Nat.le_of_ble_eq_true rfl) dX0_init_28 (fun q3 c3 H hK hP hD hS => ?_)
  refine W.widen (k := 3) (n := 300) (Nat.le_of_ble_eq_true rfl) (Nat.le_of_ble_eq_true rfl) ?_
  have hP : va_P D vwCl [(h0, .inr (0, [.int (0 : Int32), .ref q1, .ref q2, .null, .null])), (q1, .inl (c1, 100, .inl (fun _ => 0))), (q2, .inl (c2, 100, .inl (fun _ => 0))), (q3, .inl (c3, 100, .inl (fun _ => 0)))] H := hP
  have hD : va_D A [(h0, .inr (0, [.int (0 : Int32), .ref q1, .ref q2, .null, .null])), (q1, .inl (c1, 100, .inl (fun _ => 0))), (q2, .inl (c2, 100, .inl (fun _ => 0))), (q3, .inl (c3, 100, .inl (fun _ => 0)))] := hD
  have hK : va_K D vwCl [(c1, .int), (c2, .int), (c3, .int)] s := hK
  refine va_putF (D := D) (ci := 0) (v := .ref q3) (C := RX0) (T := TX0) (N := 5) hx hb hts (fun w h => mc (uX_fX0 w h)) tyX0 tyX0_ok nmX0 hown hK hP hD hS 0 rfl rfl 3 (by decide) (hts _ (mc uX_8)) (fun _ h9 => h9) rfl hin rfl (tyX0_ok 3 (by decide)) rfl rfl (Nat.le_of_ble_eq_true rfl) dX0_init_30 (fun H locs hP hD hS => ?_)
  have hP : va_P D vwCl [(h0, .inr (0, [.int (0 : Int32), .ref q1, .ref q2, .ref q3, .null])), (q1, .inl (c1, 100, .inl (fun _ => 0))), (q2, .inl (c2, 100, .inl (fun _ => 0))), (q3, .inl (c3, 100, .inl (fun _ => 0)))] H := hP
  have hD : va_D A [(h0, .inr (0, [.int (0 : Int32), .ref q1, .ref q2, .ref q3, .null])), (q1, .inl (c1, 100, .inl (fun _ => 0))), (q2, .inl (c2, 100, .inl (fun _ => 0))), (q3, .inl (c3, 100, .inl (fun _ => 0)))] := hD
  refine lv_aload_n hx hb dX0_init_33 rfl (lv_at hl 0 rfl) ?_
  refine lv_bipush (v := (nI 40)) hx hb dX0_init_34 (by decide) ?_
  refine va_newa (atype := .int) hx hb (hts (.arrayClass .int) (mc uX_5)) (ty := .int) rfl hK hP hD hS hA (n := (nI 40)) (N' := 40) (a0 := (40, .inl (fun _ => 0))) (ct_ai 40) (by decide +kernel) (by decide +kernel) (by decide +kernel) (Nat.le_of_ble_eq_true rfl) (Nat.le_of_ble_eq_true rfl) dX0_init_36 (fun q4 c4 H hK hP hD hS => ?_)
  refine W.widen (k := 4) (n := 340) (Nat.le_of_ble_eq_true rfl) (Nat.le_of_ble_eq_true rfl) ?_
  have hP : va_P D vwCl [(h0, .inr (0, [.int (0 : Int32), .ref q1, .ref q2, .ref q3, .null])), (q1, .inl (c1, 100, .inl (fun _ => 0))), (q2, .inl (c2, 100, .inl (fun _ => 0))), (q3, .inl (c3, 100, .inl (fun _ => 0))), (q4, .inl (c4, 40, .inl (fun _ => 0)))] H := hP
  have hD : va_D A [(h0, .inr (0, [.int (0 : Int32), .ref q1, .ref q2, .ref q3, .null])), (q1, .inl (c1, 100, .inl (fun _ => 0))), (q2, .inl (c2, 100, .inl (fun _ => 0))), (q3, .inl (c3, 100, .inl (fun _ => 0))), (q4, .inl (c4, 40, .inl (fun _ => 0)))] := hD
  have hK : va_K D vwCl [(c1, .int), (c2, .int), (c3, .int), (c4, .int)] s := hK
  refine va_putF (D := D) (ci := 0) (v := .ref q4) (C := RX0) (T := TX0) (N := 5) hx hb hts (fun w h => mc (uX_fX0 w h)) tyX0 tyX0_ok nmX0 hown hK hP hD hS 0 rfl rfl 4 (by decide) (hts _ (mc uX_9)) (fun _ h9 => h9) rfl hin rfl (tyX0_ok 4 (by decide)) rfl rfl (Nat.le_of_ble_eq_true rfl) dX0_init_38 (fun H locs hP hD hS => ?_)
  have hP : va_P D vwCl [(h0, .inr (0, [.int (0 : Int32), .ref q1, .ref q2, .ref q3, .ref q4])), (q1, .inl (c1, 100, .inl (fun _ => 0))), (q2, .inl (c2, 100, .inl (fun _ => 0))), (q3, .inl (c3, 100, .inl (fun _ => 0))), (q4, .inl (c4, 40, .inl (fun _ => 0)))] H := hP
  have hD : va_D A [(h0, .inr (0, [.int (0 : Int32), .ref q1, .ref q2, .ref q3, .ref q4])), (q1, .inl (c1, 100, .inl (fun _ => 0))), (q2, .inl (c2, 100, .inl (fun _ => 0))), (q3, .inl (c3, 100, .inl (fun _ => 0))), (q4, .inl (c4, 40, .inl (fun _ => 0)))] := hD
  exact W.vret hx hb hr (fun t ht hW => ⟨⟨(fun i => ([h0, q1, q2, q3, q4] : List Nat).getD i 0, fun i => ([D.1 0, c1, c2, c3, c4] : List ClassId).getD i (D.1 0)), rfl, trivial, by rw [ht]; exact hP, va_K.moved hW.alike hK, hD⟩, hS.F ht⟩) hS.2.2 dX0_init_41
def wX3 (h0 : Nat) (u : ctU) : va_W := [(h0, .inr (3, [.int (0 : Int32), .int (0 : Int32), .ref (u.1 1), .ref (u.1 2), .int (0 : Int32), .int (0 : Int32), .int (0 : Int32), .int (0 : Int32), .ref (u.1 3)])), ((u.1 1), .inl ((u.2 1), 8, .inl (fun _ => 0))), ((u.1 2), .inl ((u.2 2), 8, .inl (fun _ => 0))), ((u.1 3), .inl ((u.2 3), 9, .inl (fun _ => 0)))]
def tX3 (u : ctU) : List (ClassId × FieldType) := [((u.2 1), .int), ((u.2 2), .int), ((u.2 3), .int)]
set_option maxHeartbeats 4000000 in
set_option maxRecDepth 100000 in
theorem cX3 (l : Launch) (D : va_G) (h0 sz : Nat) : Met l yX3_init vsX3_init ({ frames := 1, cells := 3, slots := 25, locals := 12 } : Room) (va_Pc [.ref h0] (ctPre D [(h0, .inr (3, [.int 0, .int 0, .null, .null, .int 0, .int 0, .int 0, .int 0, .null]))] sz)) (va_Qv (fun _ : ctU => True) (ctB D (va_A [(h0, .inr (3, [.int 0, .int 0, .null, .null, .int 0, .int 0, .int 0, .int 0, .null]))] sz) (wX3 h0) tX3) (va_A [(h0, .inr (3, [.int 0, .int 0, .null, .null, .int 0, .int 0, .int 0, .int 0, .null]))] sz)) 3 25 (va_A [(h0, .inr (3, [.int 0, .int 0, .null, .null, .int 0, .int 0, .int 0, .int 0, .null]))] sz) := by
  refine Met.ofW (cc := cX3_init) (maxL := 1) (ret := none) (by decide) rfl ?_
  intro p e s m args below meth c s₁ B hml hv
  obtain ⟨rfl, hsz, hP, hK, hD0, hE⟩ := hv
  have hx := B.exec
  have hb := B.bytes
  have hr := B.returns
  have hts := atoms_spec (ws := vsX3_init) B.pre
  have hown : s.vm.findClass RX3 = some m.cls := findClass_of_methodNamed B.named
  have hlocks := B.notSynchronized
  have hin : meth.name = "<init>" := (name_of_methodNamed B.named B.method).1
  subst hsz
  have hD := hD0.self (sz := s.heap.size)
  generalize hAe : va_A [(h0, .inr (3, [.int 0, .int 0, .null, .null, .int 0, .int 0, .int 0, .int 0, .null]))] s.heap.size = A at hD ⊢
  have hA : ∀ q : Nat, s.heap.size ≤ q → A q := fun q h => by rw [← hAe]; exact Or.inr h
  have hS : va_S A s.heap s.heap [] := va_S.rf
  have hP : va_P D vwCl [(h0, .inr (3, [.int 0, .int 0, .null, .null, .int 0, .int 0, .int 0, .int 0, .null]))] s.heap := hP
  have hl := lv_entry ([.ref h0]) (n := 1) (Nat.le_of_ble_eq_true rfl)
  rw [lg_entry_eq]
  generalize (lg_sl ([.ref h0]) ++ List.replicate (1 - (lg_sl ([.ref h0])).length) Slot.unset).toArray = ls at hl ⊢
  have hl : lv_has ls 1 [(0, .ref h0)] := hl
  refine lv_aload_n hx hb dX3_init_0 rfl (lv_at hl 0 rfl) ?_
  refine W.objInit hx hb hown (hts (.methodLink RX3 3 objectInit) (mc uX_134)) (hts (.instanceMethod objectInit) (mc uX_2)) (hts _ (mc uX_3)) rfl (by rw [hml]; exact hl.1) rfl dX3_init_1 (Nat.le_of_ble_eq_true rfl) (Nat.le_of_ble_eq_true rfl) ?_
  refine W.eq (g2 := F0 m 4 ls []) rfl ?_
  refine lv_aload_n hx hb dX3_init_4 rfl (lv_at hl 0 rfl) ?_
  refine lv_iconst (v := (0 : Int32)) hx hb dX3_init_5 (by decide) ?_
  refine va_put (D := D) (ci := 3) (v := .int (0 : Int32)) (C := RX3) (T := TX3) (N := 9) hx hb hts (fun w h => mc (uX_fX3 w h)) tyX3 tyX3_ok nmX3 hown hK hP hD hS 0 rfl rfl 0 (by decide) (hts _ (mc uX_135)) (fun _ h9 => h9) rfl (tyX3_ok 0 (by decide)) rfl rfl (Nat.le_of_ble_eq_true rfl) dX3_init_6 (fun H locs hP hD hS => ?_)
  have hP : va_P D vwCl [(h0, .inr (3, [.int (0 : Int32), .int 0, .null, .null, .int 0, .int 0, .int 0, .int 0, .null]))] H := hP
  have hD : va_D A [(h0, .inr (3, [.int (0 : Int32), .int 0, .null, .null, .int 0, .int 0, .int 0, .int 0, .null]))] := hD
  refine lv_aload_n hx hb dX3_init_9 rfl (lv_at hl 0 rfl) ?_
  refine lv_iconst (v := (0 : Int32)) hx hb dX3_init_10 (by decide) ?_
  refine va_put (D := D) (ci := 3) (v := .int (0 : Int32)) (C := RX3) (T := TX3) (N := 9) hx hb hts (fun w h => mc (uX_fX3 w h)) tyX3 tyX3_ok nmX3 hown hK hP hD hS 0 rfl rfl 1 (by decide) (hts _ (mc uX_136)) (fun _ h9 => h9) rfl (tyX3_ok 1 (by decide)) rfl rfl (Nat.le_of_ble_eq_true rfl) dX3_init_11 (fun H locs hP hD hS => ?_)
  have hP : va_P D vwCl [(h0, .inr (3, [.int (0 : Int32), .int (0 : Int32), .null, .null, .int 0, .int 0, .int 0, .int 0, .null]))] H := hP
  have hD : va_D A [(h0, .inr (3, [.int (0 : Int32), .int (0 : Int32), .null, .null, .int 0, .int 0, .int 0, .int 0, .null]))] := hD
  refine lv_aload_n hx hb dX3_init_14 rfl (lv_at hl 0 rfl) ?_
  refine lv_bipush (v := (nI 8)) hx hb dX3_init_15 (by decide) ?_
  refine va_newa (atype := .int) hx hb (hts (.arrayClass .int) (mc uX_5)) (ty := .int) rfl hK hP hD hS hA (n := (nI 8)) (N' := 8) (a0 := (8, .inl (fun _ => 0))) (ct_ai 8) (by decide +kernel) (by decide +kernel) (by decide +kernel) (Nat.le_of_ble_eq_true rfl) (Nat.le_of_ble_eq_true rfl) dX3_init_17 (fun q1 c1 H hK hP hD hS => ?_)
  refine W.widen (k := 1) (n := 8) (Nat.le_of_ble_eq_true rfl) (Nat.le_of_ble_eq_true rfl) ?_
  have hP : va_P D vwCl [(h0, .inr (3, [.int (0 : Int32), .int (0 : Int32), .null, .null, .int 0, .int 0, .int 0, .int 0, .null])), (q1, .inl (c1, 8, .inl (fun _ => 0)))] H := hP
  have hD : va_D A [(h0, .inr (3, [.int (0 : Int32), .int (0 : Int32), .null, .null, .int 0, .int 0, .int 0, .int 0, .null])), (q1, .inl (c1, 8, .inl (fun _ => 0)))] := hD
  have hK : va_K D vwCl [(c1, .int)] s := hK
  refine va_putF (D := D) (ci := 3) (v := .ref q1) (C := RX3) (T := TX3) (N := 9) hx hb hts (fun w h => mc (uX_fX3 w h)) tyX3 tyX3_ok nmX3 hown hK hP hD hS 0 rfl rfl 2 (by decide) (hts _ (mc uX_137)) (fun _ h9 => h9) rfl hin rfl (tyX3_ok 2 (by decide)) rfl rfl (Nat.le_of_ble_eq_true rfl) dX3_init_19 (fun H locs hP hD hS => ?_)
  have hP : va_P D vwCl [(h0, .inr (3, [.int (0 : Int32), .int (0 : Int32), .ref q1, .null, .int 0, .int 0, .int 0, .int 0, .null])), (q1, .inl (c1, 8, .inl (fun _ => 0)))] H := hP
  have hD : va_D A [(h0, .inr (3, [.int (0 : Int32), .int (0 : Int32), .ref q1, .null, .int 0, .int 0, .int 0, .int 0, .null])), (q1, .inl (c1, 8, .inl (fun _ => 0)))] := hD
  refine lv_aload_n hx hb dX3_init_22 rfl (lv_at hl 0 rfl) ?_
  refine lv_bipush (v := (nI 8)) hx hb dX3_init_23 (by decide) ?_
  refine va_newa (atype := .int) hx hb (hts (.arrayClass .int) (mc uX_5)) (ty := .int) rfl hK hP hD hS hA (n := (nI 8)) (N' := 8) (a0 := (8, .inl (fun _ => 0))) (ct_ai 8) (by decide +kernel) (by decide +kernel) (by decide +kernel) (Nat.le_of_ble_eq_true rfl) (Nat.le_of_ble_eq_true rfl) dX3_init_25 (fun q2 c2 H hK hP hD hS => ?_)
  refine W.widen (k := 2) (n := 16) (Nat.le_of_ble_eq_true rfl) (Nat.le_of_ble_eq_true rfl) ?_
  have hP : va_P D vwCl [(h0, .inr (3, [.int (0 : Int32), .int (0 : Int32), .ref q1, .null, .int 0, .int 0, .int 0, .int 0, .null])), (q1, .inl (c1, 8, .inl (fun _ => 0))), (q2, .inl (c2, 8, .inl (fun _ => 0)))] H := hP
  have hD : va_D A [(h0, .inr (3, [.int (0 : Int32), .int (0 : Int32), .ref q1, .null, .int 0, .int 0, .int 0, .int 0, .null])), (q1, .inl (c1, 8, .inl (fun _ => 0))), (q2, .inl (c2, 8, .inl (fun _ => 0)))] := hD
  have hK : va_K D vwCl [(c1, .int), (c2, .int)] s := hK
  refine va_putF (D := D) (ci := 3) (v := .ref q2) (C := RX3) (T := TX3) (N := 9) hx hb hts (fun w h => mc (uX_fX3 w h)) tyX3 tyX3_ok nmX3 hown hK hP hD hS 0 rfl rfl 3 (by decide) (hts _ (mc uX_138)) (fun _ h9 => h9) rfl hin rfl (tyX3_ok 3 (by decide)) rfl rfl (Nat.le_of_ble_eq_true rfl) dX3_init_27 (fun H locs hP hD hS => ?_)
  have hP : va_P D vwCl [(h0, .inr (3, [.int (0 : Int32), .int (0 : Int32), .ref q1, .ref q2, .int 0, .int 0, .int 0, .int 0, .null])), (q1, .inl (c1, 8, .inl (fun _ => 0))), (q2, .inl (c2, 8, .inl (fun _ => 0)))] H := hP
  have hD : va_D A [(h0, .inr (3, [.int (0 : Int32), .int (0 : Int32), .ref q1, .ref q2, .int 0, .int 0, .int 0, .int 0, .null])), (q1, .inl (c1, 8, .inl (fun _ => 0))), (q2, .inl (c2, 8, .inl (fun _ => 0)))] := hD
  refine lv_aload_n hx hb dX3_init_30 rfl (lv_at hl 0 rfl) ?_
  refine lv_iconst (v := (0 : Int32)) hx hb dX3_init_31 (by decide) ?_
  refine va_put (D := D) (ci := 3) (v := .int (0 : Int32)) (C := RX3) (T := TX3) (N := 9) hx hb hts (fun w h => mc (uX_fX3 w h)) tyX3 tyX3_ok nmX3 hown hK hP hD hS 0 rfl rfl 4 (by decide) (hts _ (mc uX_139)) (fun _ h9 => h9) rfl (tyX3_ok 4 (by decide)) rfl rfl (Nat.le_of_ble_eq_true rfl) dX3_init_32 (fun H locs hP hD hS => ?_)
  have hP : va_P D vwCl [(h0, .inr (3, [.int (0 : Int32), .int (0 : Int32), .ref q1, .ref q2, .int (0 : Int32), .int 0, .int 0, .int 0, .null])), (q1, .inl (c1, 8, .inl (fun _ => 0))), (q2, .inl (c2, 8, .inl (fun _ => 0)))] H := hP
  have hD : va_D A [(h0, .inr (3, [.int (0 : Int32), .int (0 : Int32), .ref q1, .ref q2, .int (0 : Int32), .int 0, .int 0, .int 0, .null])), (q1, .inl (c1, 8, .inl (fun _ => 0))), (q2, .inl (c2, 8, .inl (fun _ => 0)))] := hD
  refine lv_aload_n hx hb dX3_init_35 rfl (lv_at hl 0 rfl) ?_
  refine lv_iconst (v := (0 : Int32)) hx hb dX3_init_36 (by decide) ?_
  refine va_put (D := D) (ci := 3) (v := .int (0 : Int32)) (C := RX3) (T := TX3) (N := 9) hx hb hts (fun w h => mc (uX_fX3 w h)) tyX3 tyX3_ok nmX3 hown hK hP hD hS 0 rfl rfl 5 (by decide) (hts _ (mc uX_140)) (fun _ h9 => h9) rfl (tyX3_ok 5 (by decide)) rfl rfl (Nat.le_of_ble_eq_true rfl) dX3_init_37 (fun H locs hP hD hS => ?_)
  have hP : va_P D vwCl [(h0, .inr (3, [.int (0 : Int32), .int (0 : Int32), .ref q1, .ref q2, .int (0 : Int32), .int (0 : Int32), .int 0, .int 0, .null])), (q1, .inl (c1, 8, .inl (fun _ => 0))), (q2, .inl (c2, 8, .inl (fun _ => 0)))] H := hP
  have hD : va_D A [(h0, .inr (3, [.int (0 : Int32), .int (0 : Int32), .ref q1, .ref q2, .int (0 : Int32), .int (0 : Int32), .int 0, .int 0, .null])), (q1, .inl (c1, 8, .inl (fun _ => 0))), (q2, .inl (c2, 8, .inl (fun _ => 0)))] := hD
  refine lv_aload_n hx hb dX3_init_40 rfl (lv_at hl 0 rfl) ?_
  refine lv_iconst (v := (0 : Int32)) hx hb dX3_init_41 (by decide) ?_
  refine va_put (D := D) (ci := 3) (v := .int (0 : Int32)) (C := RX3) (T := TX3) (N := 9) hx hb hts (fun w h => mc (uX_fX3 w h)) tyX3 tyX3_ok nmX3 hown hK hP hD hS 0 rfl rfl 6 (by decide) (hts _ (mc uX_141)) (fun _ h9 => h9) rfl (tyX3_ok 6 (by decide)) rfl rfl (Nat.le_of_ble_eq_true rfl) dX3_init_42 (fun H locs hP hD hS => ?_)
  have hP : va_P D vwCl [(h0, .inr (3, [.int (0 : Int32), .int (0 : Int32), .ref q1, .ref q2, .int (0 : Int32), .int (0 : Int32), .int (0 : Int32), .int 0, .null])), (q1, .inl (c1, 8, .inl (fun _ => 0))), (q2, .inl (c2, 8, .inl (fun _ => 0)))] H := hP
  have hD : va_D A [(h0, .inr (3, [.int (0 : Int32), .int (0 : Int32), .ref q1, .ref q2, .int (0 : Int32), .int (0 : Int32), .int (0 : Int32), .int 0, .null])), (q1, .inl (c1, 8, .inl (fun _ => 0))), (q2, .inl (c2, 8, .inl (fun _ => 0)))] := hD
  refine lv_aload_n hx hb dX3_init_45 rfl (lv_at hl 0 rfl) ?_
  refine lv_iconst (v := (0 : Int32)) hx hb dX3_init_46 (by decide) ?_
  refine va_put (D := D) (ci := 3) (v := .int (0 : Int32)) (C := RX3) (T := TX3) (N := 9) hx hb hts (fun w h => mc (uX_fX3 w h)) tyX3 tyX3_ok nmX3 hown hK hP hD hS 0 rfl rfl 7 (by decide) (hts _ (mc uX_142)) (fun _ h9 => h9) rfl (tyX3_ok 7 (by decide)) rfl rfl (Nat.le_of_ble_eq_true rfl) dX3_init_47 (fun H locs hP hD hS => ?_)
  have hP : va_P D vwCl [(h0, .inr (3, [.int (0 : Int32), .int (0 : Int32), .ref q1, .ref q2, .int (0 : Int32), .int (0 : Int32), .int (0 : Int32), .int (0 : Int32), .null])), (q1, .inl (c1, 8, .inl (fun _ => 0))), (q2, .inl (c2, 8, .inl (fun _ => 0)))] H := hP
  have hD : va_D A [(h0, .inr (3, [.int (0 : Int32), .int (0 : Int32), .ref q1, .ref q2, .int (0 : Int32), .int (0 : Int32), .int (0 : Int32), .int (0 : Int32), .null])), (q1, .inl (c1, 8, .inl (fun _ => 0))), (q2, .inl (c2, 8, .inl (fun _ => 0)))] := hD
  refine lv_aload_n hx hb dX3_init_50 rfl (lv_at hl 0 rfl) ?_
  refine lv_bipush (v := (nI 9)) hx hb dX3_init_51 (by decide) ?_
  refine va_newa (atype := .int) hx hb (hts (.arrayClass .int) (mc uX_5)) (ty := .int) rfl hK hP hD hS hA (n := (nI 9)) (N' := 9) (a0 := (9, .inl (fun _ => 0))) (ct_ai 9) (by decide +kernel) (by decide +kernel) (by decide +kernel) (Nat.le_of_ble_eq_true rfl) (Nat.le_of_ble_eq_true rfl) dX3_init_53 (fun q3 c3 H hK hP hD hS => ?_)
  refine W.widen (k := 3) (n := 25) (Nat.le_of_ble_eq_true rfl) (Nat.le_of_ble_eq_true rfl) ?_
  have hP : va_P D vwCl [(h0, .inr (3, [.int (0 : Int32), .int (0 : Int32), .ref q1, .ref q2, .int (0 : Int32), .int (0 : Int32), .int (0 : Int32), .int (0 : Int32), .null])), (q1, .inl (c1, 8, .inl (fun _ => 0))), (q2, .inl (c2, 8, .inl (fun _ => 0))), (q3, .inl (c3, 9, .inl (fun _ => 0)))] H := hP
  have hD : va_D A [(h0, .inr (3, [.int (0 : Int32), .int (0 : Int32), .ref q1, .ref q2, .int (0 : Int32), .int (0 : Int32), .int (0 : Int32), .int (0 : Int32), .null])), (q1, .inl (c1, 8, .inl (fun _ => 0))), (q2, .inl (c2, 8, .inl (fun _ => 0))), (q3, .inl (c3, 9, .inl (fun _ => 0)))] := hD
  have hK : va_K D vwCl [(c1, .int), (c2, .int), (c3, .int)] s := hK
  refine va_putF (D := D) (ci := 3) (v := .ref q3) (C := RX3) (T := TX3) (N := 9) hx hb hts (fun w h => mc (uX_fX3 w h)) tyX3 tyX3_ok nmX3 hown hK hP hD hS 0 rfl rfl 8 (by decide) (hts _ (mc uX_60)) (fun _ h9 => h9) rfl hin rfl (tyX3_ok 8 (by decide)) rfl rfl (Nat.le_of_ble_eq_true rfl) dX3_init_55 (fun H locs hP hD hS => ?_)
  have hP : va_P D vwCl [(h0, .inr (3, [.int (0 : Int32), .int (0 : Int32), .ref q1, .ref q2, .int (0 : Int32), .int (0 : Int32), .int (0 : Int32), .int (0 : Int32), .ref q3])), (q1, .inl (c1, 8, .inl (fun _ => 0))), (q2, .inl (c2, 8, .inl (fun _ => 0))), (q3, .inl (c3, 9, .inl (fun _ => 0)))] H := hP
  have hD : va_D A [(h0, .inr (3, [.int (0 : Int32), .int (0 : Int32), .ref q1, .ref q2, .int (0 : Int32), .int (0 : Int32), .int (0 : Int32), .int (0 : Int32), .ref q3])), (q1, .inl (c1, 8, .inl (fun _ => 0))), (q2, .inl (c2, 8, .inl (fun _ => 0))), (q3, .inl (c3, 9, .inl (fun _ => 0)))] := hD
  exact W.vret hx hb hr (fun t ht hW => ⟨⟨(fun i => ([h0, q1, q2, q3] : List Nat).getD i 0, fun i => ([D.1 0, c1, c2, c3] : List ClassId).getD i (D.1 0)), rfl, trivial, by rw [ht]; exact hP, va_K.moved hW.alike hK, hD⟩, hS.F ht⟩) hS.2.2 dX3_init_58
def wX5 (h0 : Nat) (u : ctU) : va_W := [(h0, .inr (5, [.int (0 : Int32), .ref (u.1 1)])), ((u.1 1), .inr (7, [.ref (u.1 2), .ref (u.1 3), .ref (u.1 4), .ref (u.1 5), .ref (u.1 6)])), ((u.1 2), .inl ((u.2 2), 8, .inl (fun _ => 0))), ((u.1 3), .inl ((u.2 3), 8, .inl (fun _ => 0))), ((u.1 4), .inl ((u.2 4), 8, .inl (fun _ => 0))), ((u.1 5), .inl ((u.2 5), 8, .inl (fun _ => 0))), ((u.1 6), .inl ((u.2 6), 8, .inl (fun _ => 0)))]
def tX5 (u : ctU) : List (ClassId × FieldType) := [((u.2 2), .int), ((u.2 3), .int), ((u.2 4), .int), ((u.2 5), .int), ((u.2 6), .int)]
set_option maxHeartbeats 4000000 in
set_option maxRecDepth 100000 in
theorem cX5 (l : Launch) (D : va_G) (h0 sz : Nat) : Met l yX5_init vsX5_init ({ frames := 2, cells := 6, slots := 45, locals := 43 } : Room) (va_Pc [.ref h0] (ctPre D [(h0, .inr (5, [.int 0, .null]))] sz)) (va_Qv (fun _ : ctU => True) (ctB D (va_A [(h0, .inr (5, [.int 0, .null]))] sz) (wX5 h0) tX5) (va_A [(h0, .inr (5, [.int 0, .null]))] sz)) 6 45 (va_A [(h0, .inr (5, [.int 0, .null]))] sz) := by
  refine Met.ofW (cc := cX5_init) (maxL := 1) (ret := none) (by decide) rfl ?_
  intro p e s m args below meth c s₁ B hml hv
  obtain ⟨rfl, hsz, hP, hK, hD0, hE⟩ := hv
  have hx := B.exec
  have hb := B.bytes
  have hr := B.returns
  have hts := atoms_spec (ws := vsX5_init) B.pre
  have hown : s.vm.findClass RX5 = some m.cls := findClass_of_methodNamed B.named
  have hlocks := B.notSynchronized
  have hin : meth.name = "<init>" := (name_of_methodNamed B.named B.method).1
  subst hsz
  have hD := hD0.self (sz := s.heap.size)
  generalize hAe : va_A [(h0, .inr (5, [.int 0, .null]))] s.heap.size = A at hD ⊢
  have hA : ∀ q : Nat, s.heap.size ≤ q → A q := fun q h => by rw [← hAe]; exact Or.inr h
  have hS : va_S A s.heap s.heap [] := va_S.rf
  have hP : va_P D vwCl [(h0, .inr (5, [.int 0, .null]))] s.heap := hP
  have hl := lv_entry ([.ref h0]) (n := 1) (Nat.le_of_ble_eq_true rfl)
  rw [lg_entry_eq]
  generalize (lg_sl ([.ref h0]) ++ List.replicate (1 - (lg_sl ([.ref h0])).length) Slot.unset).toArray = ls at hl ⊢
  have hl : lv_has ls 1 [(0, .ref h0)] := hl
  refine lv_aload_n hx hb dX5_init_0 rfl (lv_at hl 0 rfl) ?_
  refine W.objInit hx hb hown (hts (.methodLink RX5 3 objectInit) (mc uX_33)) (hts (.instanceMethod objectInit) (mc uX_2)) (hts _ (mc uX_3)) rfl (by rw [hml]; exact hl.1) rfl dX5_init_1 (Nat.le_of_ble_eq_true rfl) (Nat.le_of_ble_eq_true rfl) ?_
  refine W.eq (g2 := F0 m 4 ls []) rfl ?_
  refine lv_aload_n hx hb dX5_init_4 rfl (lv_at hl 0 rfl) ?_
  refine lv_iconst (v := (0 : Int32)) hx hb dX5_init_5 (by decide) ?_
  refine va_put (D := D) (ci := 5) (v := .int (0 : Int32)) (C := RX5) (T := TX5) (N := 2) hx hb hts (fun w h => mc (uX_fX5 w h)) tyX5 tyX5_ok nmX5 hown hK hP hD hS 0 rfl rfl 0 (by decide) (hts _ (mc uX_34)) (fun _ h9 => h9) rfl (tyX5_ok 0 (by decide)) rfl rfl (Nat.le_of_ble_eq_true rfl) dX5_init_6 (fun H locs hP hD hS => ?_)
  have hP : va_P D vwCl [(h0, .inr (5, [.int (0 : Int32), .null]))] H := hP
  have hD : va_D A [(h0, .inr (5, [.int (0 : Int32), .null]))] := hD
  refine lv_aload_n hx hb dX5_init_9 rfl (lv_at hl 0 rfl) ?_
  refine va_new (ci := 7) (fs := [.null, .null, .null, .null, .null]) (C := RX7) (T := TX7) (N := 5) hx hb hts (fun w h => mc (uX_fX7 w h)) tyX7 tyX7_ok hown (hts _ (mc uX_35)) (hts _ (mc uX_36)) (hts _ (mc uX_37)) hK hP hD hS hA rfl (fun j hj => by rcases (show j = 0 ∨ j = 1 ∨ j = 2 ∨ j = 3 ∨ j = 4 by omega) with rfl | rfl | rfl | rfl | rfl <;> rfl) (Nat.le_of_ble_eq_true rfl) (Nat.le_of_ble_eq_true rfl) dX5_init_10 (fun q1 H hP hD hS => ?_)
  refine W.widen (k := 1) (n := 5) (Nat.le_of_ble_eq_true rfl) (Nat.le_of_ble_eq_true rfl) ?_
  have hP : va_P D vwCl [(h0, .inr (5, [.int (0 : Int32), .null])), (q1, .inr (7, [.null, .null, .null, .null, .null]))] H := hP
  have hD : va_D A [(h0, .inr (5, [.int (0 : Int32), .null])), (q1, .inr (7, [.null, .null, .null, .null, .null]))] := hD
  refine lv_dup hx hb dX5_init_13 rfl ?_
  refine lv_bipush (v := (nI 8)) hx hb dX5_init_14 (by decide) ?_
  have hPc := hP.sub (ws' := [(q1, .inr (7, [.null, .null, .null, .null, .null]))]) [1] rfl
  have hDc := hD.sub (ws' := [(q1, .inr (7, [.null, .null, .null, .null, .null]))]) [1] (by decide) rfl
  have hKc := hK.sub (tys' := []) [] rfl
  have hFc := va_free (wc := [(q1, .inr (7, [.null, .null, .null, .null, .null]))]) hD hS hA [1] rfl
  refine va_callv (va_runI (As := [.int (nI 8)]) (rest := [.ref q1, .ref h0]) ⟨hx, hb, hml, hown, hts⟩ (cX7_8 l D q1 H.size) (cwI 1 hts (sy_goodN uX_good uX_21 _) rfl rfl rfl (hts _ (mc uX_37)) (hts _ (mc uX_39)) (hts _ (mc uX_40)) rfl (by decide +kernel) ⟨(Nat.le_of_ble_eq_true rfl), (Nat.le_of_ble_eq_true rfl)⟩) ⟨ctPre.blind, fun U hU hW => ⟨rfl, by rw [hU], by rw [hU]; exact hPc, va_K.moved hW.alike hKc, hDc.weaken (fun _ _ _ _ => trivial), hE.warm hW⟩⟩ rfl rfl hl.1 rfl (lv_room (Nat.le_of_ble_eq_true rfl)) dX5_init_16 ⟨(Nat.le_of_ble_eq_true rfl), (Nat.le_of_ble_eq_true rfl)⟩) hS (fun q _ h => hFc q h) hFc (fun u1 t H1 locs ht hvm hw hB hz1 hk1 hS => ?_)
  refine W.widen (k := 6) (n := 45) (Nat.le_of_ble_eq_true rfl) (Nat.le_of_ble_eq_true rfl) ?_
  obtain ⟨hP1, hK1, hD1⟩ := hB
  rw [ht] at hP1
  have hK1 := va_K.moved hvm.symm hK1
  obtain ⟨hP, hD⟩ := va_join (wr := [(h0, .inr (5, [.int (0 : Int32), .null]))]) (w1 := wX7_8 q1 u1) hP hD [1] [0] rfl rfl (by decide) (by decide) hk1 hFc hP1 hD1
  have hK := (hK.sub (tys' := []) [] rfl).app hK1
  generalize H1 = H at hP hS ⊢
  have hP : va_P D vwCl [(h0, .inr (5, [.int (0 : Int32), .null])), (q1, .inr (7, [.ref (u1.1 1), .ref (u1.1 2), .ref (u1.1 3), .ref (u1.1 4), .ref (u1.1 5)])), ((u1.1 1), .inl ((u1.2 1), 8, .inl (fun _ => 0))), ((u1.1 2), .inl ((u1.2 2), 8, .inl (fun _ => 0))), ((u1.1 3), .inl ((u1.2 3), 8, .inl (fun _ => 0))), ((u1.1 4), .inl ((u1.2 4), 8, .inl (fun _ => 0))), ((u1.1 5), .inl ((u1.2 5), 8, .inl (fun _ => 0)))] H := hP
  have hD : va_D A [(h0, .inr (5, [.int (0 : Int32), .null])), (q1, .inr (7, [.ref (u1.1 1), .ref (u1.1 2), .ref (u1.1 3), .ref (u1.1 4), .ref (u1.1 5)])), ((u1.1 1), .inl ((u1.2 1), 8, .inl (fun _ => 0))), ((u1.1 2), .inl ((u1.2 2), 8, .inl (fun _ => 0))), ((u1.1 3), .inl ((u1.2 3), 8, .inl (fun _ => 0))), ((u1.1 4), .inl ((u1.2 4), 8, .inl (fun _ => 0))), ((u1.1 5), .inl ((u1.2 5), 8, .inl (fun _ => 0)))] := hD
  have hK : va_K D vwCl [((u1.2 1), .int), ((u1.2 2), .int), ((u1.2 3), .int), ((u1.2 4), .int), ((u1.2 5), .int)] s := hK
  refine va_putF (D := D) (ci := 5) (v := .ref q1) (C := RX5) (T := TX5) (N := 2) hx hb hts (fun w h => mc (uX_fX5 w h)) tyX5 tyX5_ok nmX5 hown hK hP hD hS 0 rfl rfl 1 (by decide) (hts _ (mc uX_38)) (fun _ h9 => h9) rfl hin rfl (tyX5_ok 1 (by decide)) rfl rfl (Nat.le_of_ble_eq_true rfl) dX5_init_19 (fun H locs hP hD hS => ?_)
  have hP : va_P D vwCl [(h0, .inr (5, [.int (0 : Int32), .ref q1])), (q1, .inr (7, [.ref (u1.1 1), .ref (u1.1 2), .ref (u1.1 3), .ref (u1.1 4), .ref (u1.1 5)])), ((u1.1 1), .inl ((u1.2 1), 8, .inl (fun _ => 0))), ((u1.1 2), .inl ((u1.2 2), 8, .inl (fun _ => 0))), ((u1.1 3), .inl ((u1.2 3), 8, .inl (fun _ => 0))), ((u1.1 4), .inl ((u1.2 4), 8, .inl (fun _ => 0))), ((u1.1 5), .inl ((u1.2 5), 8, .inl (fun _ => 0)))] H := hP
  have hD : va_D A [(h0, .inr (5, [.int (0 : Int32), .ref q1])), (q1, .inr (7, [.ref (u1.1 1), .ref (u1.1 2), .ref (u1.1 3), .ref (u1.1 4), .ref (u1.1 5)])), ((u1.1 1), .inl ((u1.2 1), 8, .inl (fun _ => 0))), ((u1.1 2), .inl ((u1.2 2), 8, .inl (fun _ => 0))), ((u1.1 3), .inl ((u1.2 3), 8, .inl (fun _ => 0))), ((u1.1 4), .inl ((u1.2 4), 8, .inl (fun _ => 0))), ((u1.1 5), .inl ((u1.2 5), 8, .inl (fun _ => 0)))] := hD
  exact W.vret hx hb hr (fun t ht hW => ⟨⟨(fun i => ([h0, q1, (u1.1 1), (u1.1 2), (u1.1 3), (u1.1 4), (u1.1 5)] : List Nat).getD i 0, fun i => ([D.1 0, D.1 0, (u1.2 1), (u1.2 2), (u1.2 3), (u1.2 4), (u1.2 5)] : List ClassId).getD i (D.1 0)), rfl, trivial, by rw [ht]; exact hP, va_K.moved hW.alike hK, hD⟩, hS.F ht⟩) hS.2.2 dX5_init_22
def wX8 (h0 : Nat) (u : ctU) : va_W := [(h0, .inr (8, [.ref (u.1 1), .ref (u.1 8), .ref (u.1 9), .ref (u.1 10)])), ((u.1 1), .inr (5, [.int (0 : Int32), .ref (u.1 2)])), ((u.1 2), .inr (7, [.ref (u.1 3), .ref (u.1 4), .ref (u.1 5), .ref (u.1 6), .ref (u.1 7)])), ((u.1 3), .inl ((u.2 3), 8, .inl (fun _ => 0))), ((u.1 4), .inl ((u.2 4), 8, .inl (fun _ => 0))), ((u.1 5), .inl ((u.2 5), 8, .inl (fun _ => 0))), ((u.1 6), .inl ((u.2 6), 8, .inl (fun _ => 0))), ((u.1 7), .inl ((u.2 7), 8, .inl (fun _ => 0))), ((u.1 8), .inl ((u.2 8), 72, .inl (fun _ => 0))), ((u.1 9), .inl ((u.2 9), 9, .inl (fun _ => 0))), ((u.1 10), .inl ((u.2 10), 9, .inl (fun _ => 0)))]
def tX8 (u : ctU) : List (ClassId × FieldType) := [((u.2 3), .int), ((u.2 4), .int), ((u.2 5), .int), ((u.2 6), .int), ((u.2 7), .int), ((u.2 8), .int), ((u.2 9), .int), ((u.2 10), .int)]
set_option maxHeartbeats 4000000 in
set_option maxRecDepth 100000 in
theorem cX8 (l : Launch) (D : va_G) (h0 sz : Nat) : Met l yX8_init vsX8_init ({ frames := 3, cells := 10, slots := 137, locals := 63 } : Room) (va_Pc [.ref h0] (ctPre D [(h0, .inr (8, [.null, .null, .null, .null]))] sz)) (va_Qv (fun _ : ctU => True) (ctB D (va_A [(h0, .inr (8, [.null, .null, .null, .null]))] sz) (wX8 h0) tX8) (va_A [(h0, .inr (8, [.null, .null, .null, .null]))] sz)) 10 137 (va_A [(h0, .inr (8, [.null, .null, .null, .null]))] sz) := by
  refine Met.ofW (cc := cX8_init) (maxL := 1) (ret := none) (by decide) rfl ?_
  intro p e s m args below meth c s₁ B hml hv
  obtain ⟨rfl, hsz, hP, hK, hD0, hE⟩ := hv
  have hx := B.exec
  have hb := B.bytes
  have hr := B.returns
  have hts := atoms_spec (ws := vsX8_init) B.pre
  have hown : s.vm.findClass RX8 = some m.cls := findClass_of_methodNamed B.named
  have hlocks := B.notSynchronized
  have hin : meth.name = "<init>" := (name_of_methodNamed B.named B.method).1
  subst hsz
  have hD := hD0.self (sz := s.heap.size)
  generalize hAe : va_A [(h0, .inr (8, [.null, .null, .null, .null]))] s.heap.size = A at hD ⊢
  have hA : ∀ q : Nat, s.heap.size ≤ q → A q := fun q h => by rw [← hAe]; exact Or.inr h
  have hS : va_S A s.heap s.heap [] := va_S.rf
  have hP : va_P D vwCl [(h0, .inr (8, [.null, .null, .null, .null]))] s.heap := hP
  have hl := lv_entry ([.ref h0]) (n := 1) (Nat.le_of_ble_eq_true rfl)
  rw [lg_entry_eq]
  generalize (lg_sl ([.ref h0]) ++ List.replicate (1 - (lg_sl ([.ref h0])).length) Slot.unset).toArray = ls at hl ⊢
  have hl : lv_has ls 1 [(0, .ref h0)] := hl
  refine lv_aload_n hx hb dX8_init_0 rfl (lv_at hl 0 rfl) ?_
  refine W.objInit hx hb hown (hts (.methodLink RX8 3 objectInit) (mc uX_178)) (hts (.instanceMethod objectInit) (mc uX_2)) (hts _ (mc uX_3)) rfl (by rw [hml]; exact hl.1) rfl dX8_init_1 (Nat.le_of_ble_eq_true rfl) (Nat.le_of_ble_eq_true rfl) ?_
  refine W.eq (g2 := F0 m 4 ls []) rfl ?_
  refine lv_aload_n hx hb dX8_init_4 rfl (lv_at hl 0 rfl) ?_
  refine va_new (ci := 5) (fs := [.int 0, .null]) (C := RX5) (T := TX5) (N := 2) hx hb hts (fun w h => mc (uX_fX5 w h)) tyX5 tyX5_ok hown (hts _ (mc uX_179)) (hts _ (mc uX_43)) (hts _ (mc uX_44)) hK hP hD hS hA rfl (fun j hj => by rcases (show j = 0 ∨ j = 1 by omega) with rfl | rfl <;> rfl) (Nat.le_of_ble_eq_true rfl) (Nat.le_of_ble_eq_true rfl) dX8_init_5 (fun q1 H hP hD hS => ?_)
  refine W.widen (k := 1) (n := 2) (Nat.le_of_ble_eq_true rfl) (Nat.le_of_ble_eq_true rfl) ?_
  have hP : va_P D vwCl [(h0, .inr (8, [.null, .null, .null, .null])), (q1, .inr (5, [.int 0, .null]))] H := hP
  have hD : va_D A [(h0, .inr (8, [.null, .null, .null, .null])), (q1, .inr (5, [.int 0, .null]))] := hD
  refine lv_dup hx hb dX8_init_8 rfl ?_
  have hPc := hP.sub (ws' := [(q1, .inr (5, [.int 0, .null]))]) [1] rfl
  have hDc := hD.sub (ws' := [(q1, .inr (5, [.int 0, .null]))]) [1] (by decide) rfl
  have hKc := hK.sub (tys' := []) [] rfl
  have hFc := va_free (wc := [(q1, .inr (5, [.int 0, .null]))]) hD hS hA [1] rfl
  refine va_callv (va_runIN (As := []) (rest := [.ref q1, .ref h0]) ⟨hx, hb, hml, hown, hts⟩ (cX5 l D q1 H.size) ⟨va_cnB 0 hts (sy_goodN uX_good uX_32 _) rfl rfl rfl (hE.1 ("AreaSetter$RowBreaker", 11, yX5_init) (by simp)) (hts _ (mc uX_44)) (by decide +kernel) ⟨(Nat.le_of_ble_eq_true rfl), (Nat.le_of_ble_eq_true rfl)⟩, rfl, hts _ (mc uX_46)⟩ ⟨ctPre.blind, fun U hU hW => ⟨rfl, by rw [hU], by rw [hU]; exact hPc, va_K.moved hW.alike hKc, hDc.weaken (fun _ _ _ _ => trivial), hE.warm hW⟩⟩ rfl rfl hl.1 rfl (lv_room (Nat.le_of_ble_eq_true rfl)) dX8_init_9 ⟨(Nat.le_of_ble_eq_true rfl), (Nat.le_of_ble_eq_true rfl)⟩) hS (fun q _ h => hFc q h) hFc (fun u1 t H1 locs ht hvm hw hB hz1 hk1 hS => ?_)
  refine W.widen (k := 7) (n := 47) (Nat.le_of_ble_eq_true rfl) (Nat.le_of_ble_eq_true rfl) ?_
  obtain ⟨hP1, hK1, hD1⟩ := hB
  rw [ht] at hP1
  have hK1 := va_K.moved hvm.symm hK1
  obtain ⟨hP, hD⟩ := va_join (wr := [(h0, .inr (8, [.null, .null, .null, .null]))]) (w1 := wX5 q1 u1) hP hD [1] [0] rfl rfl (by decide) (by decide) hk1 hFc hP1 hD1
  have hK := (hK.sub (tys' := []) [] rfl).app hK1
  generalize H1 = H at hP hS ⊢
  have hP : va_P D vwCl [(h0, .inr (8, [.null, .null, .null, .null])), (q1, .inr (5, [.int (0 : Int32), .ref (u1.1 1)])), ((u1.1 1), .inr (7, [.ref (u1.1 2), .ref (u1.1 3), .ref (u1.1 4), .ref (u1.1 5), .ref (u1.1 6)])), ((u1.1 2), .inl ((u1.2 2), 8, .inl (fun _ => 0))), ((u1.1 3), .inl ((u1.2 3), 8, .inl (fun _ => 0))), ((u1.1 4), .inl ((u1.2 4), 8, .inl (fun _ => 0))), ((u1.1 5), .inl ((u1.2 5), 8, .inl (fun _ => 0))), ((u1.1 6), .inl ((u1.2 6), 8, .inl (fun _ => 0)))] H := hP
  have hD : va_D A [(h0, .inr (8, [.null, .null, .null, .null])), (q1, .inr (5, [.int (0 : Int32), .ref (u1.1 1)])), ((u1.1 1), .inr (7, [.ref (u1.1 2), .ref (u1.1 3), .ref (u1.1 4), .ref (u1.1 5), .ref (u1.1 6)])), ((u1.1 2), .inl ((u1.2 2), 8, .inl (fun _ => 0))), ((u1.1 3), .inl ((u1.2 3), 8, .inl (fun _ => 0))), ((u1.1 4), .inl ((u1.2 4), 8, .inl (fun _ => 0))), ((u1.1 5), .inl ((u1.2 5), 8, .inl (fun _ => 0))), ((u1.1 6), .inl ((u1.2 6), 8, .inl (fun _ => 0)))] := hD
  have hK : va_K D vwCl [((u1.2 2), .int), ((u1.2 3), .int), ((u1.2 4), .int), ((u1.2 5), .int), ((u1.2 6), .int)] s := hK
  refine va_putF (D := D) (ci := 8) (v := .ref q1) (C := RX8) (T := TX8) (N := 4) hx hb hts (fun w h => mc (uX_fX8 w h)) tyX8 tyX8_ok nmX8 hown hK hP hD hS 0 rfl rfl 0 (by decide) (hts _ (mc uX_180)) (fun _ h9 => h9) rfl hin rfl (tyX8_ok 0 (by decide)) rfl rfl (Nat.le_of_ble_eq_true rfl) dX8_init_12 (fun H locs hP hD hS => ?_)
  have hP : va_P D vwCl [(h0, .inr (8, [.ref q1, .null, .null, .null])), (q1, .inr (5, [.int (0 : Int32), .ref (u1.1 1)])), ((u1.1 1), .inr (7, [.ref (u1.1 2), .ref (u1.1 3), .ref (u1.1 4), .ref (u1.1 5), .ref (u1.1 6)])), ((u1.1 2), .inl ((u1.2 2), 8, .inl (fun _ => 0))), ((u1.1 3), .inl ((u1.2 3), 8, .inl (fun _ => 0))), ((u1.1 4), .inl ((u1.2 4), 8, .inl (fun _ => 0))), ((u1.1 5), .inl ((u1.2 5), 8, .inl (fun _ => 0))), ((u1.1 6), .inl ((u1.2 6), 8, .inl (fun _ => 0)))] H := hP
  have hD : va_D A [(h0, .inr (8, [.ref q1, .null, .null, .null])), (q1, .inr (5, [.int (0 : Int32), .ref (u1.1 1)])), ((u1.1 1), .inr (7, [.ref (u1.1 2), .ref (u1.1 3), .ref (u1.1 4), .ref (u1.1 5), .ref (u1.1 6)])), ((u1.1 2), .inl ((u1.2 2), 8, .inl (fun _ => 0))), ((u1.1 3), .inl ((u1.2 3), 8, .inl (fun _ => 0))), ((u1.1 4), .inl ((u1.2 4), 8, .inl (fun _ => 0))), ((u1.1 5), .inl ((u1.2 5), 8, .inl (fun _ => 0))), ((u1.1 6), .inl ((u1.2 6), 8, .inl (fun _ => 0)))] := hD
  refine lv_aload_n hx hb dX8_init_15 rfl (lv_at hl 0 rfl) ?_
  refine lv_bipush (v := (nI 72)) hx hb dX8_init_16 (by decide) ?_
  refine va_newa (atype := .int) hx hb (hts (.arrayClass .int) (mc uX_5)) (ty := .int) rfl hK hP hD hS hA (n := (nI 72)) (N' := 72) (a0 := (72, .inl (fun _ => 0))) (ct_ai 72) (by decide +kernel) (by decide +kernel) (by decide +kernel) (Nat.le_of_ble_eq_true rfl) (Nat.le_of_ble_eq_true rfl) dX8_init_18 (fun q2 c2 H hK hP hD hS => ?_)
  refine W.widen (k := 8) (n := 119) (Nat.le_of_ble_eq_true rfl) (Nat.le_of_ble_eq_true rfl) ?_
  have hP : va_P D vwCl [(h0, .inr (8, [.ref q1, .null, .null, .null])), (q1, .inr (5, [.int (0 : Int32), .ref (u1.1 1)])), ((u1.1 1), .inr (7, [.ref (u1.1 2), .ref (u1.1 3), .ref (u1.1 4), .ref (u1.1 5), .ref (u1.1 6)])), ((u1.1 2), .inl ((u1.2 2), 8, .inl (fun _ => 0))), ((u1.1 3), .inl ((u1.2 3), 8, .inl (fun _ => 0))), ((u1.1 4), .inl ((u1.2 4), 8, .inl (fun _ => 0))), ((u1.1 5), .inl ((u1.2 5), 8, .inl (fun _ => 0))), ((u1.1 6), .inl ((u1.2 6), 8, .inl (fun _ => 0))), (q2, .inl (c2, 72, .inl (fun _ => 0)))] H := hP
  have hD : va_D A [(h0, .inr (8, [.ref q1, .null, .null, .null])), (q1, .inr (5, [.int (0 : Int32), .ref (u1.1 1)])), ((u1.1 1), .inr (7, [.ref (u1.1 2), .ref (u1.1 3), .ref (u1.1 4), .ref (u1.1 5), .ref (u1.1 6)])), ((u1.1 2), .inl ((u1.2 2), 8, .inl (fun _ => 0))), ((u1.1 3), .inl ((u1.2 3), 8, .inl (fun _ => 0))), ((u1.1 4), .inl ((u1.2 4), 8, .inl (fun _ => 0))), ((u1.1 5), .inl ((u1.2 5), 8, .inl (fun _ => 0))), ((u1.1 6), .inl ((u1.2 6), 8, .inl (fun _ => 0))), (q2, .inl (c2, 72, .inl (fun _ => 0)))] := hD
  have hK : va_K D vwCl [((u1.2 2), .int), ((u1.2 3), .int), ((u1.2 4), .int), ((u1.2 5), .int), ((u1.2 6), .int), (c2, .int)] s := hK
  refine va_putF (D := D) (ci := 8) (v := .ref q2) (C := RX8) (T := TX8) (N := 4) hx hb hts (fun w h => mc (uX_fX8 w h)) tyX8 tyX8_ok nmX8 hown hK hP hD hS 0 rfl rfl 1 (by decide) (hts _ (mc uX_181)) (fun _ h9 => h9) rfl hin rfl (tyX8_ok 1 (by decide)) rfl rfl (Nat.le_of_ble_eq_true rfl) dX8_init_20 (fun H locs hP hD hS => ?_)
  have hP : va_P D vwCl [(h0, .inr (8, [.ref q1, .ref q2, .null, .null])), (q1, .inr (5, [.int (0 : Int32), .ref (u1.1 1)])), ((u1.1 1), .inr (7, [.ref (u1.1 2), .ref (u1.1 3), .ref (u1.1 4), .ref (u1.1 5), .ref (u1.1 6)])), ((u1.1 2), .inl ((u1.2 2), 8, .inl (fun _ => 0))), ((u1.1 3), .inl ((u1.2 3), 8, .inl (fun _ => 0))), ((u1.1 4), .inl ((u1.2 4), 8, .inl (fun _ => 0))), ((u1.1 5), .inl ((u1.2 5), 8, .inl (fun _ => 0))), ((u1.1 6), .inl ((u1.2 6), 8, .inl (fun _ => 0))), (q2, .inl (c2, 72, .inl (fun _ => 0)))] H := hP
  have hD : va_D A [(h0, .inr (8, [.ref q1, .ref q2, .null, .null])), (q1, .inr (5, [.int (0 : Int32), .ref (u1.1 1)])), ((u1.1 1), .inr (7, [.ref (u1.1 2), .ref (u1.1 3), .ref (u1.1 4), .ref (u1.1 5), .ref (u1.1 6)])), ((u1.1 2), .inl ((u1.2 2), 8, .inl (fun _ => 0))), ((u1.1 3), .inl ((u1.2 3), 8, .inl (fun _ => 0))), ((u1.1 4), .inl ((u1.2 4), 8, .inl (fun _ => 0))), ((u1.1 5), .inl ((u1.2 5), 8, .inl (fun _ => 0))), ((u1.1 6), .inl ((u1.2 6), 8, .inl (fun _ => 0))), (q2, .inl (c2, 72, .inl (fun _ => 0)))] := hD
  refine lv_aload_n hx hb dX8_init_23 rfl (lv_at hl 0 rfl) ?_
  refine lv_bipush (v := (nI 9)) hx hb dX8_init_24 (by decide) ?_
  refine va_newa (atype := .int) hx hb (hts (.arrayClass .int) (mc uX_5)) (ty := .int) rfl hK hP hD hS hA (n := (nI 9)) (N' := 9) (a0 := (9, .inl (fun _ => 0))) (ct_ai 9) (by decide +kernel) (by decide +kernel) (by decide +kernel) (Nat.le_of_ble_eq_true rfl) (Nat.le_of_ble_eq_true rfl) dX8_init_26 (fun q3 c3 H hK hP hD hS => ?_)
  refine W.widen (k := 9) (n := 128) (Nat.le_of_ble_eq_true rfl) (Nat.le_of_ble_eq_true rfl) ?_
  have hP : va_P D vwCl [(h0, .inr (8, [.ref q1, .ref q2, .null, .null])), (q1, .inr (5, [.int (0 : Int32), .ref (u1.1 1)])), ((u1.1 1), .inr (7, [.ref (u1.1 2), .ref (u1.1 3), .ref (u1.1 4), .ref (u1.1 5), .ref (u1.1 6)])), ((u1.1 2), .inl ((u1.2 2), 8, .inl (fun _ => 0))), ((u1.1 3), .inl ((u1.2 3), 8, .inl (fun _ => 0))), ((u1.1 4), .inl ((u1.2 4), 8, .inl (fun _ => 0))), ((u1.1 5), .inl ((u1.2 5), 8, .inl (fun _ => 0))), ((u1.1 6), .inl ((u1.2 6), 8, .inl (fun _ => 0))), (q2, .inl (c2, 72, .inl (fun _ => 0))), (q3, .inl (c3, 9, .inl (fun _ => 0)))] H := hP
  have hD : va_D A [(h0, .inr (8, [.ref q1, .ref q2, .null, .null])), (q1, .inr (5, [.int (0 : Int32), .ref (u1.1 1)])), ((u1.1 1), .inr (7, [.ref (u1.1 2), .ref (u1.1 3), .ref (u1.1 4), .ref (u1.1 5), .ref (u1.1 6)])), ((u1.1 2), .inl ((u1.2 2), 8, .inl (fun _ => 0))), ((u1.1 3), .inl ((u1.2 3), 8, .inl (fun _ => 0))), ((u1.1 4), .inl ((u1.2 4), 8, .inl (fun _ => 0))), ((u1.1 5), .inl ((u1.2 5), 8, .inl (fun _ => 0))), ((u1.1 6), .inl ((u1.2 6), 8, .inl (fun _ => 0))), (q2, .inl (c2, 72, .inl (fun _ => 0))), (q3, .inl (c3, 9, .inl (fun _ => 0)))] := hD
  have hK : va_K D vwCl [((u1.2 2), .int), ((u1.2 3), .int), ((u1.2 4), .int), ((u1.2 5), .int), ((u1.2 6), .int), (c2, .int), (c3, .int)] s := hK
  refine va_putF (D := D) (ci := 8) (v := .ref q3) (C := RX8) (T := TX8) (N := 4) hx hb hts (fun w h => mc (uX_fX8 w h)) tyX8 tyX8_ok nmX8 hown hK hP hD hS 0 rfl rfl 2 (by decide) (hts _ (mc uX_182)) (fun _ h9 => h9) rfl hin rfl (tyX8_ok 2 (by decide)) rfl rfl (Nat.le_of_ble_eq_true rfl) dX8_init_28 (fun H locs hP hD hS => ?_)
  have hP : va_P D vwCl [(h0, .inr (8, [.ref q1, .ref q2, .ref q3, .null])), (q1, .inr (5, [.int (0 : Int32), .ref (u1.1 1)])), ((u1.1 1), .inr (7, [.ref (u1.1 2), .ref (u1.1 3), .ref (u1.1 4), .ref (u1.1 5), .ref (u1.1 6)])), ((u1.1 2), .inl ((u1.2 2), 8, .inl (fun _ => 0))), ((u1.1 3), .inl ((u1.2 3), 8, .inl (fun _ => 0))), ((u1.1 4), .inl ((u1.2 4), 8, .inl (fun _ => 0))), ((u1.1 5), .inl ((u1.2 5), 8, .inl (fun _ => 0))), ((u1.1 6), .inl ((u1.2 6), 8, .inl (fun _ => 0))), (q2, .inl (c2, 72, .inl (fun _ => 0))), (q3, .inl (c3, 9, .inl (fun _ => 0)))] H := hP
  have hD : va_D A [(h0, .inr (8, [.ref q1, .ref q2, .ref q3, .null])), (q1, .inr (5, [.int (0 : Int32), .ref (u1.1 1)])), ((u1.1 1), .inr (7, [.ref (u1.1 2), .ref (u1.1 3), .ref (u1.1 4), .ref (u1.1 5), .ref (u1.1 6)])), ((u1.1 2), .inl ((u1.2 2), 8, .inl (fun _ => 0))), ((u1.1 3), .inl ((u1.2 3), 8, .inl (fun _ => 0))), ((u1.1 4), .inl ((u1.2 4), 8, .inl (fun _ => 0))), ((u1.1 5), .inl ((u1.2 5), 8, .inl (fun _ => 0))), ((u1.1 6), .inl ((u1.2 6), 8, .inl (fun _ => 0))), (q2, .inl (c2, 72, .inl (fun _ => 0))), (q3, .inl (c3, 9, .inl (fun _ => 0)))] := hD
  refine lv_aload_n hx hb dX8_init_31 rfl (lv_at hl 0 rfl) ?_
  refine lv_bipush (v := (nI 9)) hx hb dX8_init_32 (by decide) ?_
  refine va_newa (atype := .int) hx hb (hts (.arrayClass .int) (mc uX_5)) (ty := .int) rfl hK hP hD hS hA (n := (nI 9)) (N' := 9) (a0 := (9, .inl (fun _ => 0))) (ct_ai 9) (by decide +kernel) (by decide +kernel) (by decide +kernel) (Nat.le_of_ble_eq_true rfl) (Nat.le_of_ble_eq_true rfl) dX8_init_34 (fun q4 c4 H hK hP hD hS => ?_)
  refine W.widen (k := 10) (n := 137) (Nat.le_of_ble_eq_true rfl) (Nat.le_of_ble_eq_true rfl) ?_
  have hP : va_P D vwCl [(h0, .inr (8, [.ref q1, .ref q2, .ref q3, .null])), (q1, .inr (5, [.int (0 : Int32), .ref (u1.1 1)])), ((u1.1 1), .inr (7, [.ref (u1.1 2), .ref (u1.1 3), .ref (u1.1 4), .ref (u1.1 5), .ref (u1.1 6)])), ((u1.1 2), .inl ((u1.2 2), 8, .inl (fun _ => 0))), ((u1.1 3), .inl ((u1.2 3), 8, .inl (fun _ => 0))), ((u1.1 4), .inl ((u1.2 4), 8, .inl (fun _ => 0))), ((u1.1 5), .inl ((u1.2 5), 8, .inl (fun _ => 0))), ((u1.1 6), .inl ((u1.2 6), 8, .inl (fun _ => 0))), (q2, .inl (c2, 72, .inl (fun _ => 0))), (q3, .inl (c3, 9, .inl (fun _ => 0))), (q4, .inl (c4, 9, .inl (fun _ => 0)))] H := hP
  have hD : va_D A [(h0, .inr (8, [.ref q1, .ref q2, .ref q3, .null])), (q1, .inr (5, [.int (0 : Int32), .ref (u1.1 1)])), ((u1.1 1), .inr (7, [.ref (u1.1 2), .ref (u1.1 3), .ref (u1.1 4), .ref (u1.1 5), .ref (u1.1 6)])), ((u1.1 2), .inl ((u1.2 2), 8, .inl (fun _ => 0))), ((u1.1 3), .inl ((u1.2 3), 8, .inl (fun _ => 0))), ((u1.1 4), .inl ((u1.2 4), 8, .inl (fun _ => 0))), ((u1.1 5), .inl ((u1.2 5), 8, .inl (fun _ => 0))), ((u1.1 6), .inl ((u1.2 6), 8, .inl (fun _ => 0))), (q2, .inl (c2, 72, .inl (fun _ => 0))), (q3, .inl (c3, 9, .inl (fun _ => 0))), (q4, .inl (c4, 9, .inl (fun _ => 0)))] := hD
  have hK : va_K D vwCl [((u1.2 2), .int), ((u1.2 3), .int), ((u1.2 4), .int), ((u1.2 5), .int), ((u1.2 6), .int), (c2, .int), (c3, .int), (c4, .int)] s := hK
  refine va_putF (D := D) (ci := 8) (v := .ref q4) (C := RX8) (T := TX8) (N := 4) hx hb hts (fun w h => mc (uX_fX8 w h)) tyX8 tyX8_ok nmX8 hown hK hP hD hS 0 rfl rfl 3 (by decide) (hts _ (mc uX_183)) (fun _ h9 => h9) rfl hin rfl (tyX8_ok 3 (by decide)) rfl rfl (Nat.le_of_ble_eq_true rfl) dX8_init_36 (fun H locs hP hD hS => ?_)
  have hP : va_P D vwCl [(h0, .inr (8, [.ref q1, .ref q2, .ref q3, .ref q4])), (q1, .inr (5, [.int (0 : Int32), .ref (u1.1 1)])), ((u1.1 1), .inr (7, [.ref (u1.1 2), .ref (u1.1 3), .ref (u1.1 4), .ref (u1.1 5), .ref (u1.1 6)])), ((u1.1 2), .inl ((u1.2 2), 8, .inl (fun _ => 0))), ((u1.1 3), .inl ((u1.2 3), 8, .inl (fun _ => 0))), ((u1.1 4), .inl ((u1.2 4), 8, .inl (fun _ => 0))), ((u1.1 5), .inl ((u1.2 5), 8, .inl (fun _ => 0))), ((u1.1 6), .inl ((u1.2 6), 8, .inl (fun _ => 0))), (q2, .inl (c2, 72, .inl (fun _ => 0))), (q3, .inl (c3, 9, .inl (fun _ => 0))), (q4, .inl (c4, 9, .inl (fun _ => 0)))] H := hP
  have hD : va_D A [(h0, .inr (8, [.ref q1, .ref q2, .ref q3, .ref q4])), (q1, .inr (5, [.int (0 : Int32), .ref (u1.1 1)])), ((u1.1 1), .inr (7, [.ref (u1.1 2), .ref (u1.1 3), .ref (u1.1 4), .ref (u1.1 5), .ref (u1.1 6)])), ((u1.1 2), .inl ((u1.2 2), 8, .inl (fun _ => 0))), ((u1.1 3), .inl ((u1.2 3), 8, .inl (fun _ => 0))), ((u1.1 4), .inl ((u1.2 4), 8, .inl (fun _ => 0))), ((u1.1 5), .inl ((u1.2 5), 8, .inl (fun _ => 0))), ((u1.1 6), .inl ((u1.2 6), 8, .inl (fun _ => 0))), (q2, .inl (c2, 72, .inl (fun _ => 0))), (q3, .inl (c3, 9, .inl (fun _ => 0))), (q4, .inl (c4, 9, .inl (fun _ => 0)))] := hD
  exact W.vret hx hb hr (fun t ht hW => ⟨⟨(fun i => ([h0, q1, (u1.1 1), (u1.1 2), (u1.1 3), (u1.1 4), (u1.1 5), (u1.1 6), q2, q3, q4] : List Nat).getD i 0, fun i => ([D.1 0, D.1 0, D.1 0, (u1.2 2), (u1.2 3), (u1.2 4), (u1.2 5), (u1.2 6), c2, c3, c4] : List ClassId).getD i (D.1 0)), rfl, trivial, by rw [ht]; exact hP, va_K.moved hW.alike hK, hD⟩, hS.F ht⟩) hS.2.2 dX8_init_39
def wX1 (h0 : Nat) (u : ctU) : va_W := [(h0, .inr (1, [.ref (u.1 1)])), ((u.1 1), .inr (5, [.int (0 : Int32), .ref (u.1 2)])), ((u.1 2), .inr (7, [.ref (u.1 3), .ref (u.1 4), .ref (u.1 5), .ref (u.1 6), .ref (u.1 7)])), ((u.1 3), .inl ((u.2 3), 8, .inl (fun _ => 0))), ((u.1 4), .inl ((u.2 4), 8, .inl (fun _ => 0))), ((u.1 5), .inl ((u.2 5), 8, .inl (fun _ => 0))), ((u.1 6), .inl ((u.2 6), 8, .inl (fun _ => 0))), ((u.1 7), .inl ((u.2 7), 8, .inl (fun _ => 0)))]
def tX1 (u : ctU) : List (ClassId × FieldType) := [((u.2 3), .int), ((u.2 4), .int), ((u.2 5), .int), ((u.2 6), .int), ((u.2 7), .int)]
set_option maxHeartbeats 4000000 in
set_option maxRecDepth 100000 in
theorem cX1 (l : Launch) (D : va_G) (h0 sz : Nat) : Met l yX1_init vsX1_init ({ frames := 3, cells := 7, slots := 47, locals := 63 } : Room) (va_Pc [.ref h0] (ctPre D [(h0, .inr (1, [.null]))] sz)) (va_Qv (fun _ : ctU => True) (ctB D (va_A [(h0, .inr (1, [.null]))] sz) (wX1 h0) tX1) (va_A [(h0, .inr (1, [.null]))] sz)) 7 47 (va_A [(h0, .inr (1, [.null]))] sz) := by
  refine Met.ofW (cc := cX1_init) (maxL := 1) (ret := none) (by decide) rfl ?_
  intro p e s m args below meth c s₁ B hml hv
  obtain ⟨rfl, hsz, hP, hK, hD0, hE⟩ := hv
  have hx := B.exec
  have hb := B.bytes
  have hr := B.returns
  have hts := atoms_spec (ws := vsX1_init) B.pre
  have hown : s.vm.findClass RX1 = some m.cls := findClass_of_methodNamed B.named
  have hlocks := B.notSynchronized
  have hin : meth.name = "<init>" := (name_of_methodNamed B.named B.method).1
  subst hsz
  have hD := hD0.self (sz := s.heap.size)
  generalize hAe : va_A [(h0, .inr (1, [.null]))] s.heap.size = A at hD ⊢
  have hA : ∀ q : Nat, s.heap.size ≤ q → A q := fun q h => by rw [← hAe]; exact Or.inr h
  have hS : va_S A s.heap s.heap [] := va_S.rf
  have hP : va_P D vwCl [(h0, .inr (1, [.null]))] s.heap := hP
  have hl := lv_entry ([.ref h0]) (n := 1) (Nat.le_of_ble_eq_true rfl)
  rw [lg_entry_eq]
  generalize (lg_sl ([.ref h0]) ++ List.replicate (1 - (lg_sl ([.ref h0])).length) Slot.unset).toArray = ls at hl ⊢
  have hl : lv_has ls 1 [(0, .ref h0)] := hl
  refine lv_aload_n hx hb dX1_init_0 rfl (lv_at hl 0 rfl) ?_
  refine W.objInit hx hb hown (hts (.methodLink RX1 3 objectInit) (mc uX_41)) (hts (.instanceMethod objectInit) (mc uX_2)) (hts _ (mc uX_3)) rfl (by rw [hml]; exact hl.1) rfl dX1_init_1 (Nat.le_of_ble_eq_true rfl) (Nat.le_of_ble_eq_true rfl) ?_
  refine W.eq (g2 := F0 m 4 ls []) rfl ?_
  refine lv_aload_n hx hb dX1_init_4 rfl (lv_at hl 0 rfl) ?_
  refine va_new (ci := 5) (fs := [.int 0, .null]) (C := RX5) (T := TX5) (N := 2) hx hb hts (fun w h => mc (uX_fX5 w h)) tyX5 tyX5_ok hown (hts _ (mc uX_42)) (hts _ (mc uX_43)) (hts _ (mc uX_44)) hK hP hD hS hA rfl (fun j hj => by rcases (show j = 0 ∨ j = 1 by omega) with rfl | rfl <;> rfl) (Nat.le_of_ble_eq_true rfl) (Nat.le_of_ble_eq_true rfl) dX1_init_5 (fun q1 H hP hD hS => ?_)
  refine W.widen (k := 1) (n := 2) (Nat.le_of_ble_eq_true rfl) (Nat.le_of_ble_eq_true rfl) ?_
  have hP : va_P D vwCl [(h0, .inr (1, [.null])), (q1, .inr (5, [.int 0, .null]))] H := hP
  have hD : va_D A [(h0, .inr (1, [.null])), (q1, .inr (5, [.int 0, .null]))] := hD
  refine lv_dup hx hb dX1_init_8 rfl ?_
  have hPc := hP.sub (ws' := [(q1, .inr (5, [.int 0, .null]))]) [1] rfl
  have hDc := hD.sub (ws' := [(q1, .inr (5, [.int 0, .null]))]) [1] (by decide) rfl
  have hKc := hK.sub (tys' := []) [] rfl
  have hFc := va_free (wc := [(q1, .inr (5, [.int 0, .null]))]) hD hS hA [1] rfl
  refine va_callv (va_runIN (As := []) (rest := [.ref q1, .ref h0]) ⟨hx, hb, hml, hown, hts⟩ (cX5 l D q1 H.size) ⟨va_cnB 0 hts (sy_goodN uX_good uX_32 _) rfl rfl rfl (hE.1 ("AreaSetter$Cutter", 11, yX5_init) (by simp)) (hts _ (mc uX_44)) (by decide +kernel) ⟨(Nat.le_of_ble_eq_true rfl), (Nat.le_of_ble_eq_true rfl)⟩, rfl, hts _ (mc uX_46)⟩ ⟨ctPre.blind, fun U hU hW => ⟨rfl, by rw [hU], by rw [hU]; exact hPc, va_K.moved hW.alike hKc, hDc.weaken (fun _ _ _ _ => trivial), hE.warm hW⟩⟩ rfl rfl hl.1 rfl (lv_room (Nat.le_of_ble_eq_true rfl)) dX1_init_9 ⟨(Nat.le_of_ble_eq_true rfl), (Nat.le_of_ble_eq_true rfl)⟩) hS (fun q _ h => hFc q h) hFc (fun u1 t H1 locs ht hvm hw hB hz1 hk1 hS => ?_)
  refine W.widen (k := 7) (n := 47) (Nat.le_of_ble_eq_true rfl) (Nat.le_of_ble_eq_true rfl) ?_
  obtain ⟨hP1, hK1, hD1⟩ := hB
  rw [ht] at hP1
  have hK1 := va_K.moved hvm.symm hK1
  obtain ⟨hP, hD⟩ := va_join (wr := [(h0, .inr (1, [.null]))]) (w1 := wX5 q1 u1) hP hD [1] [0] rfl rfl (by decide) (by decide) hk1 hFc hP1 hD1
  have hK := (hK.sub (tys' := []) [] rfl).app hK1
  generalize H1 = H at hP hS ⊢
  have hP : va_P D vwCl [(h0, .inr (1, [.null])), (q1, .inr (5, [.int (0 : Int32), .ref (u1.1 1)])), ((u1.1 1), .inr (7, [.ref (u1.1 2), .ref (u1.1 3), .ref (u1.1 4), .ref (u1.1 5), .ref (u1.1 6)])), ((u1.1 2), .inl ((u1.2 2), 8, .inl (fun _ => 0))), ((u1.1 3), .inl ((u1.2 3), 8, .inl (fun _ => 0))), ((u1.1 4), .inl ((u1.2 4), 8, .inl (fun _ => 0))), ((u1.1 5), .inl ((u1.2 5), 8, .inl (fun _ => 0))), ((u1.1 6), .inl ((u1.2 6), 8, .inl (fun _ => 0)))] H := hP
  have hD : va_D A [(h0, .inr (1, [.null])), (q1, .inr (5, [.int (0 : Int32), .ref (u1.1 1)])), ((u1.1 1), .inr (7, [.ref (u1.1 2), .ref (u1.1 3), .ref (u1.1 4), .ref (u1.1 5), .ref (u1.1 6)])), ((u1.1 2), .inl ((u1.2 2), 8, .inl (fun _ => 0))), ((u1.1 3), .inl ((u1.2 3), 8, .inl (fun _ => 0))), ((u1.1 4), .inl ((u1.2 4), 8, .inl (fun _ => 0))), ((u1.1 5), .inl ((u1.2 5), 8, .inl (fun _ => 0))), ((u1.1 6), .inl ((u1.2 6), 8, .inl (fun _ => 0)))] := hD
  have hK : va_K D vwCl [((u1.2 2), .int), ((u1.2 3), .int), ((u1.2 4), .int), ((u1.2 5), .int), ((u1.2 6), .int)] s := hK
  refine va_putF (D := D) (ci := 1) (v := .ref q1) (C := RX1) (T := TX1) (N := 1) hx hb hts (fun w h => mc (uX_fX1 w h)) tyX1 tyX1_ok nmX1 hown hK hP hD hS 0 rfl rfl 0 (by decide) (hts _ (mc uX_45)) (fun _ h9 => h9) rfl hin rfl (tyX1_ok 0 (by decide)) rfl rfl (Nat.le_of_ble_eq_true rfl) dX1_init_12 (fun H locs hP hD hS => ?_)
  have hP : va_P D vwCl [(h0, .inr (1, [.ref q1])), (q1, .inr (5, [.int (0 : Int32), .ref (u1.1 1)])), ((u1.1 1), .inr (7, [.ref (u1.1 2), .ref (u1.1 3), .ref (u1.1 4), .ref (u1.1 5), .ref (u1.1 6)])), ((u1.1 2), .inl ((u1.2 2), 8, .inl (fun _ => 0))), ((u1.1 3), .inl ((u1.2 3), 8, .inl (fun _ => 0))), ((u1.1 4), .inl ((u1.2 4), 8, .inl (fun _ => 0))), ((u1.1 5), .inl ((u1.2 5), 8, .inl (fun _ => 0))), ((u1.1 6), .inl ((u1.2 6), 8, .inl (fun _ => 0)))] H := hP
  have hD : va_D A [(h0, .inr (1, [.ref q1])), (q1, .inr (5, [.int (0 : Int32), .ref (u1.1 1)])), ((u1.1 1), .inr (7, [.ref (u1.1 2), .ref (u1.1 3), .ref (u1.1 4), .ref (u1.1 5), .ref (u1.1 6)])), ((u1.1 2), .inl ((u1.2 2), 8, .inl (fun _ => 0))), ((u1.1 3), .inl ((u1.2 3), 8, .inl (fun _ => 0))), ((u1.1 4), .inl ((u1.2 4), 8, .inl (fun _ => 0))), ((u1.1 5), .inl ((u1.2 5), 8, .inl (fun _ => 0))), ((u1.1 6), .inl ((u1.2 6), 8, .inl (fun _ => 0)))] := hD
  exact W.vret hx hb hr (fun t ht hW => ⟨⟨(fun i => ([h0, q1, (u1.1 1), (u1.1 2), (u1.1 3), (u1.1 4), (u1.1 5), (u1.1 6)] : List Nat).getD i 0, fun i => ([D.1 0, D.1 0, D.1 0, (u1.2 2), (u1.2 3), (u1.2 4), (u1.2 5), (u1.2 6)] : List ClassId).getD i (D.1 0)), rfl, trivial, by rw [ht]; exact hP, va_K.moved hW.alike hK, hD⟩, hS.F ht⟩) hS.2.2 dX1_init_15
