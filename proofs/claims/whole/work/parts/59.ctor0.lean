/-! THE CONSTRUCTORS -/
abbrev ct_nest : List (String × Nat × MethodName) := [("AreaSetter", 9, yX6_init), ("AreaSetter", 23, yX0_init), ("AreaSetter", 30, yX2_init), ("AreaSetter", 37, yX4_init), ("AreaSetter", 48, yX10_init), ("AreaSetter$Cutter", 11, yX5_init), ("AreaSetter$Layer", 17, yX3_init), ("AreaSetter$Layer", 24, yX8_init), ("AreaSetter$Layer", 31, yX1_init), ("AreaSetter$Layer", 38, yX5_init), ("AreaSetter$Reader", 11, yX9_init), ("AreaSetter$Reader", 20, yX10_init), ("AreaSetter$RowBreaker", 11, yX5_init)]
def ctE (U : State) : Prop := (∀ q ∈ ct_nest, va_Nw (.methodLinkNest q.1 q.2.1 q.2.2 "AreaSetter") U) ∧ va_AO "AreaSetter$Plan" U
theorem ctE.warm {s U : State} (hW : s.WarmedH U.vm) (h : ctE s) : ctE U := ⟨fun q hq => va_Nw.warmM hW (h.1 q hq), va_AO.moved hW.alike h.2⟩
def ctPre (D : va_G) (ws : va_W) (sz : Nat) (U : State) : Prop := U.heap.size = sz ∧ va_P D vwCl ws U.heap ∧ va_K D vwCl [] U ∧ va_D (fun _ => True) ws ∧ ctE U
theorem ctPre.blind {D : va_G} {ws : va_W} {sz : Nat} {av : List Value} : FrameBlind (va_Pc av (ctPre D ws sz)) := by
  intro a U g mk h
  obtain ⟨h1, h2, h3, h4, h5, h6, h7⟩ := h
  exact ⟨h1, h2, h3, va_K.moved (u := U) (U := U.calling g mk a) (Vm.Alike.refl U.vm) h4, h5, fun q hq => va_Nw.same (u := U) (U := U.calling g mk a) rfl rfl (h6 q hq), va_AO.moved (u := U) (U := U.calling g mk a) (Vm.Alike.refl U.vm) h7⟩
theorem ct_ai (n : Nat) (cA : ClassId) : vp_cell cA (n, .inl (fun _ => 0)) = arrV cA n (fun _ => defaultValue .int) := rfl
theorem ct_ab (n : Nat) (cA : ClassId) : vp_cell cA (n, .inl (fun _ => 0)) = arrV cA n (fun _ => defaultValue .byte) := rfl
theorem ct_az (n : Nat) (cA : ClassId) : vp_cell cA (n, .inl (fun _ => 0)) = arrV cA n (fun _ => defaultValue .boolean) := rfl
abbrev ctU : Type := (Nat → Nat) × (Nat → ClassId)
def ctS (o : Nat) (u : ctU) : ctU := (fun i => u.1 (o + i), fun i => u.2 (o + i))
def ctB (D : va_G) (A : Nat → Prop) (w : ctU → va_W) (ty : ctU → List (ClassId × FieldType)) (u : ctU) (t : State) : Prop := va_P D vwCl (w u) t.heap ∧ va_K D vwCl (ty u) t ∧ va_D A (w u)
def wX7_8 (h0 : Nat) (u : ctU) : va_W := [(h0, .inr (7, [.ref (u.1 1), .ref (u.1 2), .ref (u.1 3), .ref (u.1 4), .ref (u.1 5)])), ((u.1 1), .inl ((u.2 1), 8, .inl (fun _ => 0))), ((u.1 2), .inl ((u.2 2), 8, .inl (fun _ => 0))), ((u.1 3), .inl ((u.2 3), 8, .inl (fun _ => 0))), ((u.1 4), .inl ((u.2 4), 8, .inl (fun _ => 0))), ((u.1 5), .inl ((u.2 5), 8, .inl (fun _ => 0)))]
def tX7_8 (u : ctU) : List (ClassId × FieldType) := [((u.2 1), .int), ((u.2 2), .int), ((u.2 3), .int), ((u.2 4), .int), ((u.2 5), .int)]
set_option maxHeartbeats 4000000 in
set_option maxRecDepth 100000 in
theorem cX7_8 (l : Launch) (D : va_G) (h0 sz : Nat) : Met l yX7_init vsX7_init ({ frames := 1, cells := 5, slots := 40, locals := 21 } : Room) (va_Pc [.ref h0, .int (nI 8)] (ctPre D [(h0, .inr (7, [.null, .null, .null, .null, .null]))] sz)) (va_Qv (fun _ : ctU => True) (ctB D (va_A [(h0, .inr (7, [.null, .null, .null, .null, .null]))] sz) (wX7_8 h0) tX7_8) (va_A [(h0, .inr (7, [.null, .null, .null, .null, .null]))] sz)) 5 40 (va_A [(h0, .inr (7, [.null, .null, .null, .null, .null]))] sz) := by
  refine Met.ofW (cc := cX7_init) (maxL := 3) (ret := none) (by decide) rfl ?_
  intro p e s m args below meth c s₁ B hml hv
  obtain ⟨rfl, hsz, hP, hK, hD0, hE⟩ := hv
  have hx := B.exec
  have hb := B.bytes
  have hr := B.returns
  have hts := atoms_spec (ws := vsX7_init) B.pre
  have hown : s.vm.findClass RX7 = some m.cls := findClass_of_methodNamed B.named
  have hlocks := B.notSynchronized
  have hin : meth.name = "<init>" := (name_of_methodNamed B.named B.method).1
  subst hsz
  have hD := hD0.self (sz := s.heap.size)
  generalize hAe : va_A [(h0, .inr (7, [.null, .null, .null, .null, .null]))] s.heap.size = A at hD ⊢
  have hA : ∀ q : Nat, s.heap.size ≤ q → A q := fun q h => by rw [← hAe]; exact Or.inr h
  have hS : va_S A s.heap s.heap [] := va_S.rf
  have hP : va_P D vwCl [(h0, .inr (7, [.null, .null, .null, .null, .null]))] s.heap := hP
  have hl := lv_entry ([.ref h0, .int (nI 8)]) (n := 3) (Nat.le_of_ble_eq_true rfl)
  rw [lg_entry_eq]
  generalize (lg_sl ([.ref h0, .int (nI 8)]) ++ List.replicate (3 - (lg_sl ([.ref h0, .int (nI 8)])).length) Slot.unset).toArray = ls at hl ⊢
  have hl : lv_has ls 3 [(0, .ref h0), (1, .int (nI 8))] := hl
  refine lv_aload_n hx hb dX7_init_0 rfl (lv_at hl 0 rfl) ?_
  refine W.objInit hx hb hown (hts (.methodLink RX7 3 objectInit) (mc uX_22)) (hts (.instanceMethod objectInit) (mc uX_2)) (hts _ (mc uX_3)) rfl (by rw [hml]; exact hl.1) rfl dX7_init_1 (Nat.le_of_ble_eq_true rfl) (Nat.le_of_ble_eq_true rfl) ?_
  refine W.eq (g2 := F0 m 4 ls []) rfl ?_
  refine lv_iconst (v := (0 : Int32)) hx hb dX7_init_4 (by decide) ?_
  refine lv_iload_n hx hb dX7_init_5 rfl (lv_at hl 1 rfl) ?_
  refine va_mmax hx hb (hml.trans hl.1.symm) hown (hts _ (mc uX_23)) (hts _ (mc uX_24)) (hts _ (mc uX_25)) (hts _ (mc uX_26)) (Nat.le_of_ble_eq_true rfl) (Nat.le_of_ble_eq_true rfl) (Nat.zero_le _) (Nat.zero_le _) dX7_init_6 ?_
  rw [if_pos (show (0 : Int32) < nI 8 by decide +kernel)]
  refine lv_istore_n (lv' := [(2, .int (nI 8)), (0, .ref h0), (1, .int (nI 8))]) hx hb dX7_init_9 rfl hl (by decide) rfl (fun ls hl => ?_)
  refine lv_aload_n hx hb dX7_init_10 rfl (lv_at hl 1 rfl) ?_
  refine lv_iload_n hx hb dX7_init_11 rfl (lv_at hl 0 rfl) ?_
  refine va_newa (atype := .int) hx hb (hts (.arrayClass .int) (mc uX_5)) (ty := .int) rfl hK hP hD hS hA (n := (nI 8)) (N' := 8) (a0 := (8, .inl (fun _ => 0))) (ct_ai 8) (by decide +kernel) (by decide +kernel) (by decide +kernel) (Nat.le_of_ble_eq_true rfl) (Nat.le_of_ble_eq_true rfl) dX7_init_12 (fun q1 c1 H hK hP hD hS => ?_)
  refine W.widen (k := 1) (n := 8) (Nat.le_of_ble_eq_true rfl) (Nat.le_of_ble_eq_true rfl) ?_
  have hP : va_P D vwCl [(h0, .inr (7, [.null, .null, .null, .null, .null])), (q1, .inl (c1, 8, .inl (fun _ => 0)))] H := hP
  have hD : va_D A [(h0, .inr (7, [.null, .null, .null, .null, .null])), (q1, .inl (c1, 8, .inl (fun _ => 0)))] := hD
  have hK : va_K D vwCl [(c1, .int)] s := hK
  refine va_putF (D := D) (ci := 7) (v := .ref q1) (C := RX7) (T := TX7) (N := 5) hx hb hts (fun w h => mc (uX_fX7 w h)) tyX7 tyX7_ok nmX7 hown hK hP hD hS 0 rfl rfl 0 (by decide) (hts _ (mc uX_27)) (fun _ h9 => h9) rfl hin rfl (tyX7_ok 0 (by decide)) rfl rfl (Nat.le_of_ble_eq_true rfl) dX7_init_14 (fun H locs hP hD hS => ?_)
  have hP : va_P D vwCl [(h0, .inr (7, [.ref q1, .null, .null, .null, .null])), (q1, .inl (c1, 8, .inl (fun _ => 0)))] H := hP
  have hD : va_D A [(h0, .inr (7, [.ref q1, .null, .null, .null, .null])), (q1, .inl (c1, 8, .inl (fun _ => 0)))] := hD
  refine lv_aload_n hx hb dX7_init_17 rfl (lv_at hl 1 rfl) ?_
  refine lv_iload_n hx hb dX7_init_18 rfl (lv_at hl 0 rfl) ?_
  refine va_newa (atype := .int) hx hb (hts (.arrayClass .int) (mc uX_5)) (ty := .int) rfl hK hP hD hS hA (n := (nI 8)) (N' := 8) (a0 := (8, .inl (fun _ => 0))) (ct_ai 8) (by decide +kernel) (by decide +kernel) (by decide +kernel) (Nat.le_of_ble_eq_true rfl) (Nat.le_of_ble_eq_true rfl) dX7_init_19 (fun q2 c2 H hK hP hD hS => ?_)
  refine W.widen (k := 2) (n := 16) (Nat.le_of_ble_eq_true rfl) (Nat.le_of_ble_eq_true rfl) ?_
  have hP : va_P D vwCl [(h0, .inr (7, [.ref q1, .null, .null, .null, .null])), (q1, .inl (c1, 8, .inl (fun _ => 0))), (q2, .inl (c2, 8, .inl (fun _ => 0)))] H := hP
  have hD : va_D A [(h0, .inr (7, [.ref q1, .null, .null, .null, .null])), (q1, .inl (c1, 8, .inl (fun _ => 0))), (q2, .inl (c2, 8, .inl (fun _ => 0)))] := hD
  have hK : va_K D vwCl [(c1, .int), (c2, .int)] s := hK
  refine va_putF (D := D) (ci := 7) (v := .ref q2) (C := RX7) (T := TX7) (N := 5) hx hb hts (fun w h => mc (uX_fX7 w h)) tyX7 tyX7_ok nmX7 hown hK hP hD hS 0 rfl rfl 1 (by decide) (hts _ (mc uX_28)) (fun _ h9 => h9) rfl hin rfl (tyX7_ok 1 (by decide)) rfl rfl (Nat.le_of_ble_eq_true rfl) dX7_init_21 (fun H locs hP hD hS => ?_)
  have hP : va_P D vwCl [(h0, .inr (7, [.ref q1, .ref q2, .null, .null, .null])), (q1, .inl (c1, 8, .inl (fun _ => 0))), (q2, .inl (c2, 8, .inl (fun _ => 0)))] H := hP
  have hD : va_D A [(h0, .inr (7, [.ref q1, .ref q2, .null, .null, .null])), (q1, .inl (c1, 8, .inl (fun _ => 0))), (q2, .inl (c2, 8, .inl (fun _ => 0)))] := hD
  refine lv_aload_n hx hb dX7_init_24 rfl (lv_at hl 1 rfl) ?_
  refine lv_iload_n hx hb dX7_init_25 rfl (lv_at hl 0 rfl) ?_
  refine va_newa (atype := .int) hx hb (hts (.arrayClass .int) (mc uX_5)) (ty := .int) rfl hK hP hD hS hA (n := (nI 8)) (N' := 8) (a0 := (8, .inl (fun _ => 0))) (ct_ai 8) (by decide +kernel) (by decide +kernel) (by decide +kernel) (Nat.le_of_ble_eq_true rfl) (Nat.le_of_ble_eq_true rfl) dX7_init_26 (fun q3 c3 H hK hP hD hS => ?_)
  refine W.widen (k := 3) (n := 24) (Nat.le_of_ble_eq_true rfl) (Nat.le_of_ble_eq_true rfl) ?_
  have hP : va_P D vwCl [(h0, .inr (7, [.ref q1, .ref q2, .null, .null, .null])), (q1, .inl (c1, 8, .inl (fun _ => 0))), (q2, .inl (c2, 8, .inl (fun _ => 0))), (q3, .inl (c3, 8, .inl (fun _ => 0)))] H := hP
  have hD : va_D A [(h0, .inr (7, [.ref q1, .ref q2, .null, .null, .null])), (q1, .inl (c1, 8, .inl (fun _ => 0))), (q2, .inl (c2, 8, .inl (fun _ => 0))), (q3, .inl (c3, 8, .inl (fun _ => 0)))] := hD
  have hK : va_K D vwCl [(c1, .int), (c2, .int), (c3, .int)] s := hK
  refine va_putF (D := D) (ci := 7) (v := .ref q3) (C := RX7) (T := TX7) (N := 5) hx hb hts (fun w h => mc (uX_fX7 w h)) tyX7 tyX7_ok nmX7 hown hK hP hD hS 0 rfl rfl 2 (by decide) (hts _ (mc uX_29)) (fun _ h9 => h9) rfl hin rfl (tyX7_ok 2 (by decide)) rfl rfl (Nat.le_of_ble_eq_true rfl) dX7_init_28 (fun H locs hP hD hS => ?_)
  have hP : va_P D vwCl [(h0, .inr (7, [.ref q1, .ref q2, .ref q3, .null, .null])), (q1, .inl (c1, 8, .inl (fun _ => 0))), (q2, .inl (c2, 8, .inl (fun _ => 0))), (q3, .inl (c3, 8, .inl (fun _ => 0)))] H := hP
  have hD : va_D A [(h0, .inr (7, [.ref q1, .ref q2, .ref q3, .null, .null])), (q1, .inl (c1, 8, .inl (fun _ => 0))), (q2, .inl (c2, 8, .inl (fun _ => 0))), (q3, .inl (c3, 8, .inl (fun _ => 0)))] := hD
  refine lv_aload_n hx hb dX7_init_31 rfl (lv_at hl 1 rfl) ?_
  refine lv_iload_n hx hb dX7_init_32 rfl (lv_at hl 0 rfl) ?_
  refine va_newa (atype := .int) hx hb (hts (.arrayClass .int) (mc uX_5)) (ty := .int) rfl hK hP hD hS hA (n := (nI 8)) (N' := 8) (a0 := (8, .inl (fun _ => 0))) (ct_ai 8) (by decide +kernel) (by decide +kernel) (by decide +kernel) (Nat.le_of_ble_eq_true rfl) (Nat.le_of_ble_eq_true rfl) dX7_init_33 (fun q4 c4 H hK hP hD hS => ?_)
  refine W.widen (k := 4) (n := 32) (Nat.le_of_ble_eq_true rfl) (Nat.le_of_ble_eq_true rfl) ?_
  have hP : va_P D vwCl [(h0, .inr (7, [.ref q1, .ref q2, .ref q3, .null, .null])), (q1, .inl (c1, 8, .inl (fun _ => 0))), (q2, .inl (c2, 8, .inl (fun _ => 0))), (q3, .inl (c3, 8, .inl (fun _ => 0))), (q4, .inl (c4, 8, .inl (fun _ => 0)))] H := hP
  have hD : va_D A [(h0, .inr (7, [.ref q1, .ref q2, .ref q3, .null, .null])), (q1, .inl (c1, 8, .inl (fun _ => 0))), (q2, .inl (c2, 8, .inl (fun _ => 0))), (q3, .inl (c3, 8, .inl (fun _ => 0))), (q4, .inl (c4, 8, .inl (fun _ => 0)))] := hD
  have hK : va_K D vwCl [(c1, .int), (c2, .int), (c3, .int), (c4, .int)] s := hK
  refine va_putF (D := D) (ci := 7) (v := .ref q4) (C := RX7) (T := TX7) (N := 5) hx hb hts (fun w h => mc (uX_fX7 w h)) tyX7 tyX7_ok nmX7 hown hK hP hD hS 0 rfl rfl 3 (by decide) (hts _ (mc uX_30)) (fun _ h9 => h9) rfl hin rfl (tyX7_ok 3 (by decide)) rfl rfl (Nat.le_of_ble_eq_true rfl) dX7_init_35 (fun H locs hP hD hS => ?_)
  have hP : va_P D vwCl [(h0, .inr (7, [.ref q1, .ref q2, .ref q3, .ref q4, .null])), (q1, .inl (c1, 8, .inl (fun _ => 0))), (q2, .inl (c2, 8, .inl (fun _ => 0))), (q3, .inl (c3, 8, .inl (fun _ => 0))), (q4, .inl (c4, 8, .inl (fun _ => 0)))] H := hP
  have hD : va_D A [(h0, .inr (7, [.ref q1, .ref q2, .ref q3, .ref q4, .null])), (q1, .inl (c1, 8, .inl (fun _ => 0))), (q2, .inl (c2, 8, .inl (fun _ => 0))), (q3, .inl (c3, 8, .inl (fun _ => 0))), (q4, .inl (c4, 8, .inl (fun _ => 0)))] := hD
  refine lv_aload_n hx hb dX7_init_38 rfl (lv_at hl 1 rfl) ?_
  refine lv_iload_n hx hb dX7_init_39 rfl (lv_at hl 0 rfl) ?_
  refine va_newa (atype := .int) hx hb (hts (.arrayClass .int) (mc uX_5)) (ty := .int) rfl hK hP hD hS hA (n := (nI 8)) (N' := 8) (a0 := (8, .inl (fun _ => 0))) (ct_ai 8) (by decide +kernel) (by decide +kernel) (by decide +kernel) (Nat.le_of_ble_eq_true rfl) (Nat.le_of_ble_eq_true rfl) dX7_init_40 (fun q5 c5 H hK hP hD hS => ?_)
  refine W.widen (k := 5) (n := 40) (Nat.le_of_ble_eq_true rfl) (Nat.le_of_ble_eq_true rfl) ?_
  have hP : va_P D vwCl [(h0, .inr (7, [.ref q1, .ref q2, .ref q3, .ref q4, .null])), (q1, .inl (c1, 8, .inl (fun _ => 0))), (q2, .inl (c2, 8, .inl (fun _ => 0))), (q3, .inl (c3, 8, .inl (fun _ => 0))), (q4, .inl (c4, 8, .inl (fun _ => 0))), (q5, .inl (c5, 8, .inl (fun _ => 0)))] H := hP
  have hD : va_D A [(h0, .inr (7, [.ref q1, .ref q2, .ref q3, .ref q4, .null])), (q1, .inl (c1, 8, .inl (fun _ => 0))), (q2, .inl (c2, 8, .inl (fun _ => 0))), (q3, .inl (c3, 8, .inl (fun _ => 0))), (q4, .inl (c4, 8, .inl (fun _ => 0))), (q5, .inl (c5, 8, .inl (fun _ => 0)))] := hD
  have hK : va_K D vwCl [(c1, .int), (c2, .int), (c3, .int), (c4, .int), (c5, .int)] s := hK
  refine va_putF (D := D) (ci := 7) (v := .ref q5) (C := RX7) (T := TX7) (N := 5) hx hb hts (fun w h => mc (uX_fX7 w h)) tyX7 tyX7_ok nmX7 hown hK hP hD hS 0 rfl rfl 4 (by decide) (hts _ (mc uX_31)) (fun _ h9 => h9) rfl hin rfl (tyX7_ok 4 (by decide)) rfl rfl (Nat.le_of_ble_eq_true rfl) dX7_init_42 (fun H locs hP hD hS => ?_)
  have hP : va_P D vwCl [(h0, .inr (7, [.ref q1, .ref q2, .ref q3, .ref q4, .ref q5])), (q1, .inl (c1, 8, .inl (fun _ => 0))), (q2, .inl (c2, 8, .inl (fun _ => 0))), (q3, .inl (c3, 8, .inl (fun _ => 0))), (q4, .inl (c4, 8, .inl (fun _ => 0))), (q5, .inl (c5, 8, .inl (fun _ => 0)))] H := hP
  have hD : va_D A [(h0, .inr (7, [.ref q1, .ref q2, .ref q3, .ref q4, .ref q5])), (q1, .inl (c1, 8, .inl (fun _ => 0))), (q2, .inl (c2, 8, .inl (fun _ => 0))), (q3, .inl (c3, 8, .inl (fun _ => 0))), (q4, .inl (c4, 8, .inl (fun _ => 0))), (q5, .inl (c5, 8, .inl (fun _ => 0)))] := hD
  exact W.vret hx hb hr (fun t ht hW => ⟨⟨(fun i => ([h0, q1, q2, q3, q4, q5] : List Nat).getD i 0, fun i => ([D.1 0, c1, c2, c3, c4, c5] : List ClassId).getD i (D.1 0)), rfl, trivial, by rw [ht]; exact hP, va_K.moved hW.alike hK, hD⟩, hS.F ht⟩) hS.2.2 dX7_init_45
