/-! constructors, on -/
def wX7_2000 (h0 : Nat) (u : ctU) : va_W := [(h0, .inr (7, [.ref (u.1 1), .ref (u.1 2), .ref (u.1 3), .ref (u.1 4), .ref (u.1 5)])), ((u.1 1), .inl ((u.2 1), 2000, .inl (fun _ => 0))), ((u.1 2), .inl ((u.2 2), 2000, .inl (fun _ => 0))), ((u.1 3), .inl ((u.2 3), 2000, .inl (fun _ => 0))), ((u.1 4), .inl ((u.2 4), 2000, .inl (fun _ => 0))), ((u.1 5), .inl ((u.2 5), 2000, .inl (fun _ => 0)))]
def tX7_2000 (u : ctU) : List (ClassId × FieldType) := [((u.2 1), .int), ((u.2 2), .int), ((u.2 3), .int), ((u.2 4), .int), ((u.2 5), .int)]
set_option maxHeartbeats 4000000 in
set_option maxRecDepth 100000 in
theorem cX7_2000 (l : Launch) (D : va_G) (h0 sz : Nat) : Met l yX7_init vsX7_init ({ frames := 1, cells := 5, slots := 10000, locals := 21 } : Room) (va_Pc [.ref h0, .int (nI 2000)] (ctPre D [(h0, .inr (7, [.null, .null, .null, .null, .null]))] sz)) (va_Qv (fun _ : ctU => True) (ctB D (va_A [(h0, .inr (7, [.null, .null, .null, .null, .null]))] sz) (wX7_2000 h0) tX7_2000) (va_A [(h0, .inr (7, [.null, .null, .null, .null, .null]))] sz)) 5 10000 (va_A [(h0, .inr (7, [.null, .null, .null, .null, .null]))] sz) := by
  refine Met.ofW (cc := cX7_init) (maxL := 3) (ret := none) (by decide) rfl ?_
  intro p e s m args below meth c s₁ B hml hv
  obtain ⟨rfl, hsz, hP, hK, hD0, hE⟩ := hv
  have hx := B.exec
  have hb := B.bytes
  have hr := B.returns
  have hts := atoms_spec (ws := vsX7_init) B.pre
  have hown : s.vm.findClass RX7 = some m.cls := findClass_of_methodNamed B.named
  have hlocks := B.notSynchronized
  have hin : meth.name = "<init>" := (name_of_methodNamed B.named B.method).1
  subst hsz
  have hD := hD0.self (sz := s.heap.size)
  generalize hAe : va_A [(h0, .inr (7, [.null, .null, .null, .null, .null]))] s.heap.size = A at hD ⊢
  have hA : ∀ q : Nat, s.heap.size ≤ q → A q := fun q h => by rw [← hAe]; exact Or.inr h
  have hS : va_S A s.heap s.heap [] := va_S.rf
  have hP : va_P D vwCl [(h0, .inr (7, [.null, .null, .null, .null, .null]))] s.heap := hP
  have hl := lv_entry ([.ref h0, .int (nI 2000)]) (n := 3) (Nat.le_of_ble_eq_true rfl)
  rw [lg_entry_eq]
  generalize (lg_sl ([.ref h0, .int (nI 2000)]) ++ List.replicate (3 - (lg_sl ([.ref h0, .int (nI 2000)])).length) Slot.unset).toArray = ls at hl ⊢
  have hl : lv_has ls 3 [(0, .ref h0), (1, .int (nI 2000))] := hl
  refine lv_aload_n hx hb dX7_init_0 rfl (lv_at hl 0 rfl) ?_
  refine W.objInit hx hb hown (hts (.methodLink RX7 3 objectInit) (mc uX_22)) (hts (.instanceMethod objectInit) (mc uX_2)) (hts _ (mc uX_3)) rfl (by rw [hml]; exact hl.1) rfl dX7_init_1 (Nat.le_of_ble_eq_true rfl) (Nat.le_of_ble_eq_true rfl) ?_
  refine W.eq (g2 := F0 m 4 ls []) rfl ?_
  refine lv_iconst (v := (0 : Int32)) hx hb dX7_init_4 (by decide) ?_
  refine lv_iload_n hx hb dX7_init_5 rfl (lv_at hl 1 rfl) ?_
  refine va_mmax hx hb (hml.trans hl.1.symm) hown (hts _ (mc uX_23)) (hts _ (mc uX_24)) (hts _ (mc uX_25)) (hts _ (mc uX_26)) (Nat.le_of_ble_eq_true rfl) (Nat.le_of_ble_eq_true rfl) (Nat.zero_le _) (Nat.zero_le _) dX7_init_6 ?_
  rw [if_pos (show (0 : Int32) < nI 2000 by decide +kernel)]
  refine lv_istore_n (lv' := [(2, .int (nI 2000)), (0, .ref h0), (1, .int (nI 2000))]) hx hb dX7_init_9 rfl hl (by decide) rfl (fun ls hl => ?_)
  refine lv_aload_n hx hb dX7_init_10 rfl (lv_at hl 1 rfl) ?_
  refine lv_iload_n hx hb dX7_init_11 rfl (lv_at hl 0 rfl) ?_
  refine va_newa (atype := .int) hx hb (hts (.arrayClass .int) (mc uX_5)) (ty := .int) rfl hK hP hD hS hA (n := (nI 2000)) (N' := 2000) (a0 := (2000, .inl (fun _ => 0))) (ct_ai 2000) (by decide +kernel) (by decide +kernel) (by decide +kernel) (Nat.le_of_ble_eq_true rfl) (Nat.le_of_ble_eq_true rfl) dX7_init_12 (fun q1 c1 H hK hP hD hS => ?_)
  refine W.widen (k := 1) (n := 2000) (Nat.le_of_ble_eq_true rfl) (Nat.le_of_ble_eq_true rfl) ?_
  have hP : va_P D vwCl [(h0, .inr (7, [.null, .null, .null, .null, .null])), (q1, .inl (c1, 2000, .inl (fun _ => 0)))] H := hP
  have hD : va_D A [(h0, .inr (7, [.null, .null, .null, .null, .null])), (q1, .inl (c1, 2000, .inl (fun _ => 0)))] := hD
  have hK : va_K D vwCl [(c1, .int)] s := hK
  refine va_putF (D := D) (ci := 7) (v := .ref q1) (C := RX7) (T := TX7) (N := 5) hx hb hts (fun w h => mc (uX_fX7 w h)) tyX7 tyX7_ok nmX7 hown hK hP hD hS 0 rfl rfl 0 (by decide) (hts _ (mc uX_27)) (fun _ h9 => h9) rfl hin rfl (tyX7_ok 0 (by decide)) rfl rfl (Nat.le_of_ble_eq_true rfl) dX7_init_14 (fun H locs hP hD hS => ?_)
  have hP : va_P D vwCl [(h0, .inr (7, [.ref q1, .null, .null, .null, .null])), (q1, .inl (c1, 2000, .inl (fun _ => 0)))] H := hP
  have hD : va_D A [(h0, .inr (7, [.ref q1, .null, .null, .null, .null])), (q1, .inl (c1, 2000, .inl (fun _ => 0)))] := hD
  refine lv_aload_n hx hb dX7_init_17 rfl (lv_at hl 1 rfl) ?_
  refine lv_iload_n hx hb dX7_init_18 rfl (lv_at hl 0 rfl) ?_
  refine va_newa (atype := .int) hx hb (hts (.arrayClass .int) (mc uX_5)) (ty := .int) rfl hK hP hD hS hA (n := (nI 2000)) (N' := 2000) (a0 := (2000, .inl (fun _ => 0))) (ct_ai 2000) (by decide +kernel) (by decide +kernel) (by decide +kernel) (Nat.le_of_ble_eq_true rfl) (Nat.le_of_ble_eq_true rfl) dX7_init_19 (fun q2 c2 H hK hP hD hS => ?_)
  refine W.widen (k := 2) (n := 4000) (Nat.le_of_ble_eq_true rfl) (Nat.le_of_ble_eq_true rfl) ?_
  have hP : va_P D vwCl [(h0, .inr (7, [.ref q1, .null, .null, .null, .null])), (q1, .inl (c1, 2000, .inl (fun _ => 0))), (q2, .inl (c2, 2000, .inl (fun _ => 0)))] H := hP
  have hD : va_D A [(h0, .inr (7, [.ref q1, .null, .null, .null, .null])), (q1, .inl (c1, 2000, .inl (fun _ => 0))), (q2, .inl (c2, 2000, .inl (fun _ => 0)))] := hD
  have hK : va_K D vwCl [(c1, .int), (c2, .int)] s := hK
  refine va_putF (D := D) (ci := 7) (v := .ref q2) (C := RX7) (T := TX7) (N := 5) hx hb hts (fun w h => mc (uX_fX7 w h)) tyX7 tyX7_ok nmX7 hown hK hP hD hS 0 rfl rfl 1 (by decide) (hts _ (mc uX_28)) (fun _ h9 => h9) rfl hin rfl (tyX7_ok 1 (by decide)) rfl rfl (Nat.le_of_ble_eq_true rfl) dX7_init_21 (fun H locs hP hD hS => ?_)
  have hP : va_P D vwCl [(h0, .inr (7, [.ref q1, .ref q2, .null, .null, .null])), (q1, .inl (c1, 2000, .inl (fun _ => 0))), (q2, .inl (c2, 2000, .inl (fun _ => 0)))] H := hP
  have hD : va_D A [(h0, .inr (7, [.ref q1, .ref q2, .null, .null, .null])), (q1, .inl (c1, 2000, .inl (fun _ => 0))), (q2, .inl (c2, 2000, .inl (fun _ => 0)))] := hD
  refine lv_aload_n hx hb dX7_init_24 rfl (lv_at hl 1 rfl) ?_
  refine lv_iload_n hx hb dX7_init_25 rfl (lv_at hl 0 rfl) ?_
  refine va_newa (atype := .int) hx hb (hts (.arrayClass .int) (mc uX_5)) (ty := .int) rfl hK hP hD hS hA (n := (nI 2000)) (N' := 2000) (a0 := (2000, .inl (fun _ => 0))) (ct_ai 2000) (by decide +kernel) (by decide +kernel) (by decide +kernel) (Nat.le_of_ble_eq_true rfl) (Nat.le_of_ble_eq_true rfl) dX7_init_26 (fun q3 c3 H hK hP hD hS => ?_)
  refine W.widen (k := 3) (n := 6000) (Nat.le_of_ble_eq_true rfl) (Nat.le_of_ble_eq_true rfl) ?_
  have hP : va_P D vwCl [(h0, .inr (7, [.ref q1, .ref q2, .null, .null, .null])), (q1, .inl (c1, 2000, .inl (fun _ => 0))), (q2, .inl (c2, 2000, .inl (fun _ => 0))), (q3, .inl (c3, 2000, .inl (fun _ => 0)))] H := hP
  have hD : va_D A [(h0, .inr (7, [.ref q1, .ref q2, .null, .null, .null])), (q1, .inl (c1, 2000, .inl (fun _ => 0))), (q2, .inl (c2, 2000, .inl (fun _ => 0))), (q3, .inl (c3, 2000, .inl (fun _ => 0)))] := hD
  have hK : va_K D vwCl [(c1, .int), (c2, .int), (c3, .int)] s := hK
  refine va_putF (D := D) (ci := 7) (v := .ref q3) (C := RX7) (T := TX7) (N := 5) hx hb hts (fun w h => mc (uX_fX7 w h)) tyX7 tyX7_ok nmX7 hown hK hP hD hS 0 rfl rfl 2 (by decide) (hts _ (mc uX_29)) (fun _ h9 => h9) rfl hin rfl (tyX7_ok 2 (by decide)) rfl rfl (Nat.le_of_ble_eq_true rfl) dX7_init_28 (fun H locs hP hD hS => ?_)
  have hP : va_P D vwCl [(h0, .inr (7, [.ref q1, .ref q2, .ref q3, .null, .null])), (q1, .inl (c1, 2000, .inl (fun _ => 0))), (q2, .inl (c2, 2000, .inl (fun _ => 0))), (q3, .inl (c3, 2000, .inl (fun _ => 0)))] H := hP
  have hD : va_D A [(h0, .inr (7, [.ref q1, .ref q2, .ref q3, .null, .null])), (q1, .inl (c1, 2000, .inl (fun _ => 0))), (q2, .inl (c2, 2000, .inl (fun _ => 0))), (q3, .inl (c3, 2000, .inl (fun _ => 0)))] := hD
  refine lv_aload_n hx hb dX7_init_31 rfl (lv_at hl 1 rfl) ?_
  refine lv_iload_n hx hb dX7_init_32 rfl (lv_at hl 0 rfl) ?_
  refine va_newa (atype := .int) hx hb (hts (.arrayClass .int) (mc uX_5)) (ty := .int) rfl hK hP hD hS hA (n := (nI 2000)) (N' := 2000) (a0 := (2000, .inl (fun _ => 0))) (ct_ai 2000) (by decide +kernel) (by decide +kernel) (by decide +kernel) (Nat.le_of_ble_eq_true rfl) (Nat.le_of_ble_eq_true rfl) dX7_init_33 (fun q4 c4 H hK hP hD hS => ?_)
  refine W.widen (k := 4) (n := 8000) (Nat.le_of_ble_eq_true rfl) (Nat.le_of_ble_eq_true rfl) ?_
  have hP : va_P D vwCl [(h0, .inr (7, [.ref q1, .ref q2, .ref q3, .null, .null])), (q1, .inl (c1, 2000, .inl (fun _ => 0))), (q2, .inl (c2, 2000, .inl (fun _ => 0))), (q3, .inl (c3, 2000, .inl (fun _ => 0))), (q4, .inl (c4, 2000, .inl (fun _ => 0)))] H := hP
  have hD : va_D A [(h0, .inr (7, [.ref q1, .ref q2, .ref q3, .null, .null])), (q1, .inl (c1, 2000, .inl (fun _ => 0))), (q2, .inl (c2, 2000, .inl (fun _ => 0))), (q3, .inl (c3, 2000, .inl (fun _ => 0))), (q4, .inl (c4, 2000, .inl (fun _ => 0)))] := hD
  have hK : va_K D vwCl [(c1, .int), (c2, .int), (c3, .int), (c4, .int)] s := hK
  refine va_putF (D := D) (ci := 7) (v := .ref q4) (C := RX7) (T := TX7) (N := 5) hx hb hts (fun w h => mc (uX_fX7 w h)) tyX7 tyX7_ok nmX7 hown hK hP hD hS 0 rfl rfl 3 (by decide) (hts _ (mc uX_30)) (fun _ h9 => h9) rfl hin rfl (tyX7_ok 3 (by decide)) rfl rfl (Nat.le_of_ble_eq_true rfl) dX7_init_35 (fun H locs hP hD hS => ?_)
  have hP : va_P D vwCl [(h0, .inr (7, [.ref q1, .ref q2, .ref q3, .ref q4, .null])), (q1, .inl (c1, 2000, .inl (fun _ => 0))), (q2, .inl (c2, 2000, .inl (fun _ => 0))), (q3, .inl (c3, 2000, .inl (fun _ => 0))), (q4, .inl (c4, 2000, .inl (fun _ => 0)))] H := hP
  have hD : va_D A [(h0, .inr (7, [.ref q1, .ref q2, .ref q3, .ref q4, .null])), (q1, .inl (c1, 2000, .inl (fun _ => 0))), (q2, .inl (c2, 2000, .inl (fun _ => 0))), (q3, .inl (c3, 2000, .inl (fun _ => 0))), (q4, .inl (c4, 2000, .inl (fun _ => 0)))] := hD
  refine lv_aload_n hx hb dX7_init_38 rfl (lv_at hl 1 rfl) ?_
  refine lv_iload_n hx hb dX7_init_39 rfl (lv_at hl 0 rfl) ?_
  refine va_newa (atype := .int) hx hb (hts (.arrayClass .int) (mc uX_5)) (ty := .int) rfl hK hP hD hS hA (n := (nI 2000)) (N' := 2000) (a0 := (2000, .inl (fun _ => 0))) (ct_ai 2000) (by decide +kernel) (by decide +kernel) (by decide +kernel) (Nat.le_of_ble_eq_true rfl) (Nat.le_of_ble_eq_true rfl) dX7_init_40 (fun q5 c5 H hK hP hD hS => ?_)
  refine W.widen (k := 5) (n := 10000) (Nat.le_of_ble_eq_true rfl) (Nat.le_of_ble_eq_true rfl) ?_
  have hP : va_P D vwCl [(h0, .inr (7, [.ref q1, .ref q2, .ref q3, .ref q4, .null])), (q1, .inl (c1, 2000, .inl (fun _ => 0))), (q2, .inl (c2, 2000, .inl (fun _ => 0))), (q3, .inl (c3, 2000, .inl (fun _ => 0))), (q4, .inl (c4, 2000, .inl (fun _ => 0))), (q5, .inl (c5, 2000, .inl (fun _ => 0)))] H := hP
  have hD : va_D A [(h0, .inr (7, [.ref q1, .ref q2, .ref q3, .ref q4, .null])), (q1, .inl (c1, 2000, .inl (fun _ => 0))), (q2, .inl (c2, 2000, .inl (fun _ => 0))), (q3, .inl (c3, 2000, .inl (fun _ => 0))), (q4, .inl (c4, 2000, .inl (fun _ => 0))), (q5, .inl (c5, 2000, .inl (fun _ => 0)))] := hD
  have hK : va_K D vwCl [(c1, .int), (c2, .int), (c3, .int), (c4, .int), (c5, .int)] s := hK
  refine va_putF (D := D) (ci := 7) (v := .ref q5) (C := RX7) (T := TX7) (N := 5) hx hb hts (fun w h => mc (uX_fX7 w h)) tyX7 tyX7_ok nmX7 hown hK hP hD hS 0 rfl rfl 4 (by decide) (hts _ (mc uX_31)) (fun _ h9 => h9) rfl hin rfl (tyX7_ok 4 (by decide)) rfl rfl (Nat.le_of_ble_eq_true rfl) dX7_init_42 (fun H locs hP hD hS => ?_)
  have hP : va_P D vwCl [(h0, .inr (7, [.ref q1, .ref q2, .ref q3, .ref q4, .ref q5])), (q1, .inl (c1, 2000, .inl (fun _ => 0))), (q2, .inl (c2, 2000, .inl (fun _ => 0))), (q3, .inl (c3, 2000, .inl (fun _ => 0))), (q4, .inl (c4, 2000, .inl (fun _ => 0))), (q5, .inl (c5, 2000, .inl (fun _ => 0)))] H := hP
  have hD : va_D A [(h0, .inr (7, [.ref q1, .ref q2, .ref q3, .ref q4, .ref q5])), (q1, .inl (c1, 2000, .inl (fun _ => 0))), (q2, .inl (c2, 2000, .inl (fun _ => 0))), (q3, .inl (c3, 2000, .inl (fun _ => 0))), (q4, .inl (c4, 2000, .inl (fun _ => 0))), (q5, .inl (c5, 2000, .inl (fun _ => 0)))] := hD
  exact W.vret hx hb hr (fun t ht hW => ⟨⟨(fun i => ([h0, q1, q2, q3, q4, q5] : List Nat).getD i 0, fun i => ([D.1 0, c1, c2, c3, c4, c5] : List ClassId).getD i (D.1 0)), rfl, trivial, by rw [ht]; exact hP, va_K.moved hW.alike hK, hD⟩, hS.F ht⟩) hS.2.2 dX7_init_45
def wX7_40 (h0 : Nat) (u : ctU) : va_W := [(h0, .inr (7, [.ref (u.1 1), .ref (u.1 2), .ref (u.1 3), .ref (u.1 4), .ref (u.1 5)])), ((u.1 1), .inl ((u.2 1), 40, .inl (fun _ => 0))), ((u.1 2), .inl ((u.2 2), 40, .inl (fun _ => 0))), ((u.1 3), .inl ((u.2 3), 40, .inl (fun _ => 0))), ((u.1 4), .inl ((u.2 4), 40, .inl (fun _ => 0))), ((u.1 5), .inl ((u.2 5), 40, .inl (fun _ => 0)))]
def tX7_40 (u : ctU) : List (ClassId × FieldType) := [((u.2 1), .int), ((u.2 2), .int), ((u.2 3), .int), ((u.2 4), .int), ((u.2 5), .int)]
set_option maxHeartbeats 4000000 in
set_option maxRecDepth 100000 in
theorem cX7_40 (l : Launch) (D : va_G) (h0 sz : Nat) : Met l yX7_init vsX7_init ({ frames := 1, cells := 5, slots := 200, locals := 21 } : Room) (va_Pc [.ref h0, .int (nI 40)] (ctPre D [(h0, .inr (7, [.null, .null, .null, .null, .null]))] sz)) (va_Qv (fun _ : ctU => True) (ctB D (va_A [(h0, .inr (7, [.null, .null, .null, .null, .null]))] sz) (wX7_40 h0) tX7_40) (va_A [(h0, .inr (7, [.null, .null, .null, .null, .null]))] sz)) 5 200 (va_A [(h0, .inr (7, [.null, .null, .null, .null, .null]))] sz) := by
  refine Met.ofW (cc := cX7_init) (maxL := 3) (ret := none) (by decide) rfl ?_
  intro p e s m args below meth c s₁ B hml hv
  obtain ⟨rfl, hsz, hP, hK, hD0, hE⟩ := hv
  have hx := B.exec
  have hb := B.bytes
  have hr := B.returns
  have hts := atoms_spec (ws := vsX7_init) B.pre
  have hown : s.vm.findClass RX7 = some m.cls := findClass_of_methodNamed B.named
  have hlocks := B.notSynchronized
  have hin : meth.name = "<init>" := (name_of_methodNamed B.named B.method).1
  subst hsz
  have hD := hD0.self (sz := s.heap.size)
  generalize hAe : va_A [(h0, .inr (7, [.null, .null, .null, .null, .null]))] s.heap.size = A at hD ⊢
  have hA : ∀ q : Nat, s.heap.size ≤ q → A q := fun q h => by rw [← hAe]; exact Or.inr h
  have hS : va_S A s.heap s.heap [] := va_S.rf
  have hP : va_P D vwCl [(h0, .inr (7, [.null, .null, .null, .null, .null]))] s.heap := hP
  have hl := lv_entry ([.ref h0, .int (nI 40)]) (n := 3) (Nat.le_of_ble_eq_true rfl)
  rw [lg_entry_eq]
  generalize (lg_sl ([.ref h0, .int (nI 40)]) ++ List.replicate (3 - (lg_sl ([.ref h0, .int (nI 40)])).length) Slot.unset).toArray = ls at hl ⊢
  have hl : lv_has ls 3 [(0, .ref h0), (1, .int (nI 40))] := hl
  refine lv_aload_n hx hb dX7_init_0 rfl (lv_at hl 0 rfl) ?_
  refine W.objInit hx hb hown (hts (.methodLink RX7 3 objectInit) (mc uX_22)) (hts (.instanceMethod objectInit) (mc uX_2)) (hts _ (mc uX_3)) rfl (by rw [hml]; exact hl.1) rfl dX7_init_1 (Nat.le_of_ble_eq_true rfl) (Nat.le_of_ble_eq_true rfl) ?_
  refine W.eq (g2 := F0 m 4 ls []) rfl ?_
  refine lv_iconst (v := (0 : Int32)) hx hb dX7_init_4 (by decide) ?_
  refine lv_iload_n hx hb dX7_init_5 rfl (lv_at hl 1 rfl) ?_
  refine va_mmax hx hb (hml.trans hl.1.symm) hown (hts _ (mc uX_23)) (hts _ (mc uX_24)) (hts _ (mc uX_25)) (hts _ (mc uX_26)) (Nat.le_of_ble_eq_true rfl) (Nat.le_of_ble_eq_true rfl) (Nat.zero_le _) (Nat.zero_le _) dX7_init_6 ?_
  rw [if_pos (show (0 : Int32) < nI 40 by decide +kernel)]
  refine lv_istore_n (lv' := [(2, .int (nI 40)), (0, .ref h0), (1, .int (nI 40))]) hx hb dX7_init_9 rfl hl (by decide) rfl (fun ls hl => ?_)
  refine lv_aload_n hx hb dX7_init_10 rfl (lv_at hl 1 rfl) ?_
  refine lv_iload_n hx hb dX7_init_11 rfl (lv_at hl 0 rfl) ?_
  refine va_newa (atype := .int) hx hb (hts (.arrayClass .int) (mc uX_5)) (ty := .int) rfl hK hP hD hS hA (n := (nI 40)) (N' := 40) (a0 := (40, .inl (fun _ => 0))) (ct_ai 40) (by decide +kernel) (by decide +kernel) (by decide +kernel) (Nat.le_of_ble_eq_true rfl) (Nat.le_of_ble_eq_true rfl) dX7_init_12 (fun q1 c1 H hK hP hD hS => ?_)
  refine W.widen (k := 1) (n := 40) (Nat.le_of_ble_eq_true rfl) (Nat.le_of_ble_eq_true rfl) ?_
  have hP : va_P D vwCl [(h0, .inr (7, [.null, .null, .null, .null, .null])), (q1, .inl (c1, 40, .inl (fun _ => 0)))] H := hP
  have hD : va_D A [(h0, .inr (7, [.null, .null, .null, .null, .null])), (q1, .inl (c1, 40, .inl (fun _ => 0)))] := hD
  have hK : va_K D vwCl [(c1, .int)] s := hK
  refine va_putF (D := D) (ci := 7) (v := .ref q1) (C := RX7) (T := TX7) (N := 5) hx hb hts (fun w h => mc (uX_fX7 w h)) tyX7 tyX7_ok nmX7 hown hK hP hD hS 0 rfl rfl 0 (by decide) (hts _ (mc uX_27)) (fun _ h9 => h9) rfl hin rfl (tyX7_ok 0 (by decide)) rfl rfl (Nat.le_of_ble_eq_true rfl) dX7_init_14 (fun H locs hP hD hS => ?_)
  have hP : va_P D vwCl [(h0, .inr (7, [.ref q1, .null, .null, .null, .null])), (q1, .inl (c1, 40, .inl (fun _ => 0)))] H := hP
  have hD : va_D A [(h0, .inr (7, [.ref q1, .null, .null, .null, .null])), (q1, .inl (c1, 40, .inl (fun _ => 0)))] := hD
  refine lv_aload_n hx hb dX7_init_17 rfl (lv_at hl 1 rfl) ?_
  refine lv_iload_n hx hb dX7_init_18 rfl (lv_at hl 0 rfl) ?_
  refine va_newa (atype := .int) hx hb (hts (.arrayClass .int) (mc uX_5)) (ty := .int) rfl hK hP hD hS hA (n := (nI 40)) (N' := 40) (a0 := (40, .inl (fun _ => 0))) (ct_ai 40) (by decide +kernel) (by decide +kernel) (by decide +kernel) (Nat.le_of_ble_eq_true rfl) (Nat.le_of_ble_eq_true rfl) dX7_init_19 (fun q2 c2 H hK hP hD hS => ?_)
  refine W.widen (k := 2) (n := 80) (Nat.le_of_ble_eq_true rfl) (Nat.le_of_ble_eq_true rfl) ?_
  have hP : va_P D vwCl [(h0, .inr (7, [.ref q1, .null, .null, .null, .null])), (q1, .inl (c1, 40, .inl (fun _ => 0))), (q2, .inl (c2, 40, .inl (fun _ => 0)))] H := hP
  have hD : va_D A [(h0, .inr (7, [.ref q1, .null, .null, .null, .null])), (q1, .inl (c1, 40, .inl (fun _ => 0))), (q2, .inl (c2, 40, .inl (fun _ => 0)))] := hD
  have hK : va_K D vwCl [(c1, .int), (c2, .int)] s := hK
  refine va_putF (D := D) (ci := 7) (v := .ref q2) (C := RX7) (T := TX7) (N := 5) hx hb hts (fun w h => mc (uX_fX7 w h)) tyX7 tyX7_ok nmX7 hown hK hP hD hS 0 rfl rfl 1 (by decide) (hts _ (mc uX_28)) (fun _ h9 => h9) rfl hin rfl (tyX7_ok 1 (by decide)) rfl rfl (Nat.le_of_ble_eq_true rfl) dX7_init_21 (fun H locs hP hD hS => ?_)
  have hP : va_P D vwCl [(h0, .inr (7, [.ref q1, .ref q2, .null, .null, .null])), (q1, .inl (c1, 40, .inl (fun _ => 0))), (q2, .inl (c2, 40, .inl (fun _ => 0)))] H := hP
  have hD : va_D A [(h0, .inr (7, [.ref q1, .ref q2, .null, .null, .null])), (q1, .inl (c1, 40, .inl (fun _ => 0))), (q2, .inl (c2, 40, .inl (fun _ => 0)))] := hD
  refine lv_aload_n hx hb dX7_init_24 rfl (lv_at hl 1 rfl) ?_
  refine lv_iload_n hx hb dX7_init_25 rfl (lv_at hl 0 rfl) ?_
  refine va_newa (atype := .int) hx hb (hts (.arrayClass .int) (mc uX_5)) (ty := .int) rfl hK hP hD hS hA (n := (nI 40)) (N' := 40) (a0 := (40, .inl (fun _ => 0))) (ct_ai 40) (by decide +kernel) (by decide +kernel) (by decide +kernel) (Nat.le_of_ble_eq_true rfl) (Nat.le_of_ble_eq_true rfl) dX7_init_26 (fun q3 c3 H hK hP hD hS => ?_)
  refine W.widen (k := 3) (n := 120) (Nat.le_of_ble_eq_true rfl) (Nat.le_of_ble_eq_true rfl) ?_
  have hP : va_P D vwCl [(h0, .inr (7, [.ref q1, .ref q2, .null, .null, .null])), (q1, .inl (c1, 40, .inl (fun _ => 0))), (q2, .inl (c2, 40, .inl (fun _ => 0))), (q3, .inl (c3, 40, .inl (fun _ => 0)))] H := hP
  have hD : va_D A [(h0, .inr (7, [.ref q1, .ref q2, .null, .null, .null])), (q1, .inl (c1, 40, .inl (fun _ => 0))), (q2, .inl (c2, 40, .inl (fun _ => 0))), (q3, .inl (c3, 40, .inl (fun _ => 0)))] := hD
  have hK : va_K D vwCl [(c1, .int), (c2, .int), (c3, .int)] s := hK
  refine va_putF (D := D) (ci := 7) (v := .ref q3) (C := RX7) (T := TX7) (N := 5) hx hb hts (fun w h => mc (uX_fX7 w h)) tyX7 tyX7_ok nmX7 hown hK hP hD hS 0 rfl rfl 2 (by decide) (hts _ (mc uX_29)) (fun _ h9 => h9) rfl hin rfl (tyX7_ok 2 (by decide)) rfl rfl (Nat.le_of_ble_eq_true rfl) dX7_init_28 (fun H locs hP hD hS => ?_)
  have hP : va_P D vwCl [(h0, .inr (7, [.ref q1, .ref q2, .ref q3, .null, .null])), (q1, .inl (c1, 40, .inl (fun _ => 0))), (q2, .inl (c2, 40, .inl (fun _ => 0))), (q3, .inl (c3, 40, .inl (fun _ => 0)))] H := hP
  have hD : va_D A [(h0, .inr (7, [.ref q1, .ref q2, .ref q3, .null, .null])), (q1, .inl (c1, 40, .inl (fun _ => 0))), (q2, .inl (c2, 40, .inl (fun _ => 0))), (q3, .inl (c3, 40, .inl (fun _ => 0)))] := hD
  refine lv_aload_n hx hb dX7_init_31 rfl (lv_at hl 1 rfl) ?_
  refine lv_iload_n hx hb dX7_init_32 rfl (lv_at hl 0 rfl) ?_
  refine va_newa (atype := .int) hx hb (hts (.arrayClass .int) (mc uX_5)) (ty := .int) rfl hK hP hD hS hA (n := (nI 40)) (N' := 40) (a0 := (40, .inl (fun _ => 0))) (ct_ai 40) (by decide +kernel) (by decide +kernel) (by decide +kernel) (Nat.le_of_ble_eq_true rfl) (Nat.le_of_ble_eq_true rfl) dX7_init_33 (fun q4 c4 H hK hP hD hS => ?_)
  refine W.widen (k := 4) (n := 160) (Nat.le_of_ble_eq_true rfl) (Nat.le_of_ble_eq_true rfl) ?_
  have hP : va_P D vwCl [(h0, .inr (7, [.ref q1, .ref q2, .ref q3, .null, .null])), (q1, .inl (c1, 40, .inl (fun _ => 0))), (q2, .inl (c2, 40, .inl (fun _ => 0))), (q3, .inl (c3, 40, .inl (fun _ => 0))), (q4, .inl (c4, 40, .inl (fun _ => 0)))] H := hP
  have hD : va_D A [(h0, .inr (7, [.ref q1, .ref q2, .ref q3, .null, .null])), (q1, .inl (c1, 40, .inl (fun _ => 0))), (q2, .inl (c2, 40, .inl (fun _ => 0))), (q3, .inl (c3, 40, .inl (fun _ => 0))), (q4, .inl (c4, 40, .inl (fun _ => 0)))] := hD
  have hK : va_K D vwCl [(c1, .int), (c2, .int), (c3, .int), (c4, .int)] s := hK
  refine va_putF (D := D) (ci := 7) (v := .ref q4) (C := RX7) (T := TX7) (N := 5) hx hb hts (fun w h => mc (uX_fX7 w h)) tyX7 tyX7_ok nmX7 hown hK hP hD hS 0 rfl rfl 3 (by decide) (hts _ (mc uX_30)) (fun _ h9 => h9) rfl hin rfl (tyX7_ok 3 (by decide)) rfl rfl (Nat.le_of_ble_eq_true rfl) dX7_init_35 (fun H locs hP hD hS => ?_)
  have hP : va_P D vwCl [(h0, .inr (7, [.ref q1, .ref q2, .ref q3, .ref q4, .null])), (q1, .inl (c1, 40, .inl (fun _ => 0))), (q2, .inl (c2, 40, .inl (fun _ => 0))), (q3, .inl (c3, 40, .inl (fun _ => 0))), (q4, .inl (c4, 40, .inl (fun _ => 0)))] H := hP
  have hD : va_D A [(h0, .inr (7, [.ref q1, .ref q2, .ref q3, .ref q4, .null])), (q1, .inl (c1, 40, .inl (fun _ => 0))), (q2, .inl (c2, 40, .inl (fun _ => 0))), (q3, .inl (c3, 40, .inl (fun _ => 0))), (q4, .inl (c4, 40, .inl (fun _ => 0)))] := hD
  refine lv_aload_n hx hb dX7_init_38 rfl (lv_at hl 1 rfl) ?_
  refine lv_iload_n hx hb dX7_init_39 rfl (lv_at hl 0 rfl) ?_
  refine va_newa (atype := .int) hx hb (hts (.arrayClass .int) (mc uX_5)) (ty := .int) rfl hK hP hD hS hA (n := (nI 40)) (N' := 40) (a0 := (40, .inl (fun _ => 0))) (ct_ai 40) (by decide +kernel) (by decide +kernel) (by decide +kernel) (Nat.le_of_ble_eq_true rfl) (Nat.le_of_ble_eq_true rfl) dX7_init_40 (fun q5 c5 H hK hP hD hS => ?_)
  refine W.widen (k := 5) (n := 200) (Nat.le_of_ble_eq_true rfl) (Nat.le_of_ble_eq_true rfl) ?_
  have hP : va_P D vwCl [(h0, .inr (7, [.ref q1, .ref q2, .ref q3, .ref q4, .null])), (q1, .inl (c1, 40, .inl (fun _ => 0))), (q2, .inl (c2, 40, .inl (fun _ => 0))), (q3, .inl (c3, 40, .inl (fun _ => 0))), (q4, .inl (c4, 40, .inl (fun _ => 0))), (q5, .inl (c5, 40, .inl (fun _ => 0)))] H := hP
  have hD : va_D A [(h0, .inr (7, [.ref q1, .ref q2, .ref q3, .ref q4, .null])), (q1, .inl (c1, 40, .inl (fun _ => 0))), (q2, .inl (c2, 40, .inl (fun _ => 0))), (q3, .inl (c3, 40, .inl (fun _ => 0))), (q4, .inl (c4, 40, .inl (fun _ => 0))), (q5, .inl (c5, 40, .inl (fun _ => 0)))] := hD
  have hK : va_K D vwCl [(c1, .int), (c2, .int), (c3, .int), (c4, .int), (c5, .int)] s := hK
  refine va_putF (D := D) (ci := 7) (v := .ref q5) (C := RX7) (T := TX7) (N := 5) hx hb hts (fun w h => mc (uX_fX7 w h)) tyX7 tyX7_ok nmX7 hown hK hP hD hS 0 rfl rfl 4 (by decide) (hts _ (mc uX_31)) (fun _ h9 => h9) rfl hin rfl (tyX7_ok 4 (by decide)) rfl rfl (Nat.le_of_ble_eq_true rfl) dX7_init_42 (fun H locs hP hD hS => ?_)
  have hP : va_P D vwCl [(h0, .inr (7, [.ref q1, .ref q2, .ref q3, .ref q4, .ref q5])), (q1, .inl (c1, 40, .inl (fun _ => 0))), (q2, .inl (c2, 40, .inl (fun _ => 0))), (q3, .inl (c3, 40, .inl (fun _ => 0))), (q4, .inl (c4, 40, .inl (fun _ => 0))), (q5, .inl (c5, 40, .inl (fun _ => 0)))] H := hP
  have hD : va_D A [(h0, .inr (7, [.ref q1, .ref q2, .ref q3, .ref q4, .ref q5])), (q1, .inl (c1, 40, .inl (fun _ => 0))), (q2, .inl (c2, 40, .inl (fun _ => 0))), (q3, .inl (c3, 40, .inl (fun _ => 0))), (q4, .inl (c4, 40, .inl (fun _ => 0))), (q5, .inl (c5, 40, .inl (fun _ => 0)))] := hD
  exact W.vret hx hb hr (fun t ht hW => ⟨⟨(fun i => ([h0, q1, q2, q3, q4, q5] : List Nat).getD i 0, fun i => ([D.1 0, c1, c2, c3, c4, c5] : List ClassId).getD i (D.1 0)), rfl, trivial, by rw [ht]; exact hP, va_K.moved hW.alike hK, hD⟩, hS.F ht⟩) hS.2.2 dX7_init_45
