/-! AreaSetter$Cutter.lay(LAreaSetter$Items;)V -/
def wX1_lay (M : sy_M)  (Q : sy_M → Prop) : Prop := wX1_layPart 9 (mu M 47 0 (0 : Int32)) (0 : Int32) (M 28 0) (M 28 4) (M 28 5) (M 28 6) (M 28 7) (fun M1 => Q M1)
section
variable {p : Program} {l : Launch} {e : Env} {s : State} {m : MethodId} {args : Array Value} {below : List Frame} {meth : Method} {c : Code} {Y : sy_Y}
end
set_option maxHeartbeats 4000000 in
set_option maxRecDepth 100000 in
theorem mX1_lay (l : Launch) (Y : sy_Y) (sz : Nat) (M : sy_M) (Q : sy_M → Prop) (hq : wX1_lay M  Q) : Met l yX1_lay vsX1_lay ({ frames := 37, cells := 0, slots := 0, locals := 1174 } : Room) (va_Pc [.ref (Y.2.1 58), .ref (Y.2.1 28)] (sy_pre Y NX EX tfX sz M)) (sy_QV Y NX EX sz Q) 0 0 (sy_A NX Y.2.1 sz) := by
  refine sy_metV (by decide) rfl (Nat.le_of_ble_eq_true rfl) ?_
  intro p e s m args below meth c C ls hl hh
  have hx := C.1.1
  have hb := C.1.2.1
  have hl : lv_has ls 2 [(0, .ref (Y.2.1 58)), (1, .ref (Y.2.1 28))] := hl
  unfold wX1_lay at hq
  refine lv_aload_n hx hb dX1_lay_0 rfl (lv_at hl 0 rfl) ?_
  refine sy_get C hh (fun w h => mc (uX_fX1 w h)) 58 (by decide) (oX_58 Y) rfl 0 (by decide) (index := 12) (mc uX_45) (v := .ref (Y.2.1 47)) rfl dX1_lay_1 ?_
  refine lv_iconst (v := (0 : Int32)) hx hb dX1_lay_4 (by decide) ?_
  refine sy_put C hh (fun w h => mc (uX_fX5 w h)) tyX5 tyX5_ok nmX5 47 (by decide) (oX_47 Y) rfl 0 (by decide) (index := 18) (mc uX_88) rfl 0 (0 : Int32) (ty := .int) (tyX5_ok 0 (by decide)) rfl rfl (Nat.le_of_ble_eq_true rfl) (pX5_0 Y _ _ _) dX1_lay_5 (fun H locs hh => ?_)
  refine lv_aload_n hx hb dX1_lay_8 rfl (lv_at hl 0 rfl) ?_
  refine lv_aload_n hx hb dX1_lay_9 rfl (lv_at hl 1 rfl) ?_
  refine lv_iconst (v := (0 : Int32)) hx hb dX1_lay_10 (by decide) ?_
  refine lv_aload_n hx hb dX1_lay_11 rfl (lv_at hl 1 rfl) ?_
  refine sy_get C hh (fun w h => mc (uX_fX3 w h)) 28 (by decide) (oX_28 Y) rfl 0 (by decide) (index := 22) (mc uX_89) (v := .int (M 28 0)) rfl dX1_lay_12 ?_
  refine lv_aload_n hx hb dX1_lay_15 rfl (lv_at hl 1 rfl) ?_
  refine sy_get C hh (fun w h => mc (uX_fX3 w h)) 28 (by decide) (oX_28 Y) rfl 4 (by decide) (index := 27) (mc uX_90) (v := .int (M 28 4)) rfl dX1_lay_16 ?_
  refine lv_aload_n hx hb dX1_lay_19 rfl (lv_at hl 1 rfl) ?_
  refine sy_get C hh (fun w h => mc (uX_fX3 w h)) 28 (by decide) (oX_28 Y) rfl 5 (by decide) (index := 30) (mc uX_91) (v := .int (M 28 5)) rfl dX1_lay_20 ?_
  refine lv_aload_n hx hb dX1_lay_23 rfl (lv_at hl 1 rfl) ?_
  refine sy_get C hh (fun w h => mc (uX_fX3 w h)) 28 (by decide) (oX_28 Y) rfl 6 (by decide) (index := 33) (mc uX_92) (v := .int (M 28 6)) rfl dX1_lay_24 ?_
  refine lv_aload_n hx hb dX1_lay_27 rfl (lv_at hl 1 rfl) ?_
  refine sy_get C hh (fun w h => mc (uX_fX3 w h)) 28 (by decide) (oX_28 Y) rfl 7 (by decide) (index := 36) (mc uX_93) (v := .int (M 28 7)) rfl dX1_lay_28 ?_
  refine sy_cVV C hh (As := [.ref (Y.2.1 28), .int (0 : Int32), .int (M 28 0), .int (M 28 4), .int (M 28 5), .int (M 28 6), .int (M 28 7)]) (rest := []) 58 (by decide) (oX_58 Y) rfl (mX1_layPart l Y 9 _ (mu M 47 0 (0 : Int32)) (0 : Int32) (M 28 0) (M 28 4) (M 28 5) (M 28 6) (M 28 7) _ hq) (cwV 7 C.1.2.2.2.2 (sy_goodV uX_good uX_84 uX_85 uX_86 uX_73 uX_87 _) rfl rfl rfl hdX1_layPart ⟨Nat.le_of_ble_eq_true rfl, Nat.le_of_ble_eq_true rfl⟩) rfl hl.1 rfl (Nat.le_of_ble_eq_true rfl) dX1_lay_31 (fun M1 H locs hq hh => ?_)
  exact sy_vret C hh dX1_lay_34 hq

/-! AreaSetter$Items.begin(IIII)I -/
def wX3_begin (M : sy_M) (a1 : Int32) (a2 : Int32) (a3 : Int32) (a4 : Int32) (Q : Int32 → sy_M → Prop) : Prop := ((a1 < a4 → wX3_sum M a3 a1 (fun r3 M2 => wX3_sum M2 a3 a4 (fun r5 M4 => wX11_share M4 a2 r3 r5 (fun r7 M6 => Q r7 M6)))) ∧ (¬ a1 < a4 → Q a2 M))
section
variable {p : Program} {l : Launch} {e : Env} {s : State} {m : MethodId} {args : Array Value} {below : List Frame} {meth : Method} {c : Code} {Y : sy_Y}
end
set_option maxHeartbeats 4000000 in
set_option maxRecDepth 100000 in
theorem mX3_begin (l : Launch) (Y : sy_Y) (sz : Nat) (M : sy_M) (a1 : Int32) (a2 : Int32) (a3 : Int32) (a4 : Int32) (Q : Int32 → sy_M → Prop) (hq : wX3_begin M a1 a2 a3 a4 Q) : Met l yX3_begin vsX3_begin ({ frames := 1, cells := 0, slots := 0, locals := 22 } : Room) (va_Pc [.ref (Y.2.1 28), .int a1, .int a2, .int a3, .int a4] (sy_pre Y NX EX tfX sz M)) (sy_QI Y NX EX sz Q) 0 0 (sy_A NX Y.2.1 sz) := by
  refine sy_metI (by decide) rfl (Nat.le_of_ble_eq_true rfl) ?_
  intro p e s m args below meth c C ls hl hh
  have hx := C.1.1
  have hb := C.1.2.1
  have hl : lv_has ls 5 [(0, .ref (Y.2.1 28)), (1, .int a1), (2, .int a2), (3, .int a3), (4, .int a4)] := hl
  unfold wX3_begin at hq
  refine lv_iload_n hx hb dX3_begin_0 rfl (lv_at hl 1 rfl) ?_
  refine lv_iload hx hb dX3_begin_1 (lv_at hl 4 rfl) ?_
  refine lv_icmp_lt (tgt := 10) hx hb dX3_begin_3 (by decide) (fun c1 => ?_) (fun c1 => ?_)
  · have hq := hq.1 c1
    refine lv_iload_n hx hb dX3_begin_10 rfl (lv_at hl 2 rfl) ?_
    refine lv_aload_n hx hb dX3_begin_11 rfl (lv_at hl 0 rfl) ?_
    refine lv_iload_n hx hb dX3_begin_12 rfl (lv_at hl 3 rfl) ?_
    refine lv_iload_n hx hb dX3_begin_13 rfl (lv_at hl 1 rfl) ?_
    refine sy_cIV C hh (As := [.int a3, .int a1]) (rest := [.int a2]) 28 (by decide) (oX_28 Y) rfl (mX3_sum l Y _ M a3 a1 _ hq) (cwV 2 C.1.2.2.2.2 (sy_goodV uX_good uX_177 uX_68 uX_69 uX_70 uX_59 _) rfl rfl rfl hdX3_sum ⟨Nat.le_of_ble_eq_true rfl, Nat.le_of_ble_eq_true rfl⟩) rfl hl.1 rfl (Nat.le_of_ble_eq_true rfl) dX3_begin_14 (fun r3 M2 H locs hq hh => ?_)
    refine lv_aload_n hx hb dX3_begin_17 rfl (lv_at hl 0 rfl) ?_
    refine lv_iload_n hx hb dX3_begin_18 rfl (lv_at hl 3 rfl) ?_
    refine lv_iload hx hb dX3_begin_19 (lv_at hl 4 rfl) ?_
    refine sy_cIV C hh (As := [.int a3, .int a4]) (rest := [.int r3, .int a2]) 28 (by decide) (oX_28 Y) rfl (mX3_sum l Y _ M2 a3 a4 _ hq) (cwV 2 C.1.2.2.2.2 (sy_goodV uX_good uX_177 uX_68 uX_69 uX_70 uX_59 _) rfl rfl rfl hdX3_sum ⟨Nat.le_of_ble_eq_true rfl, Nat.le_of_ble_eq_true rfl⟩) rfl hl.1 rfl (Nat.le_of_ble_eq_true rfl) dX3_begin_21 (fun r5 M4 H locs hq hh => ?_)
    refine sy_cIN C hh (As := [.int a2, .int r3, .int r5]) (rest := []) (mX11_share l Y _ M4 a2 r3 r5 _ hq) ⟨va_cnB 3 C.1.2.2.2.2 (sy_goodN uX_good uX_61 _) rfl rfl rfl (C.2.1.2.1 ("AreaSetter$Items", 106, yX11_share) (by simp)) (C.1.2.2.2.2 _ (mc uX_58)) hdX11_share.2 ⟨Nat.le_of_ble_eq_true rfl, Nat.le_of_ble_eq_true rfl⟩, C.1.2.2.2.2 _ (mc uX_76), trivial⟩ rfl hl.1 rfl (Nat.le_of_ble_eq_true rfl) dX3_begin_24 (fun r7 M6 H locs hq hh => ?_)
    exact sy_iret C hh dX3_begin_27 hq
  · have hq := hq.2 c1
    refine lv_iload_n hx hb dX3_begin_6 rfl (lv_at hl 2 rfl) ?_
    refine lv_goto (tgt := 27) hx hb dX3_begin_7 (by decide) ?_
    exact sy_iret C hh dX3_begin_27 hq

/-! AreaSetter$Layer.laySlice(LAreaSetter$Plan;)V -/
def wX4_laySlice_53 (Q : sy_M → Prop) : Nat → sy_M → Nat → Int32 → Int32 → Int32 → Prop
  | 0, _, _, _, _, _ => False
  | n + 1, M, x1, x2, x3, x4 => (((M 28 0) ≤ x4 → Q M) ∧ (¬ (M 28 0) ≤ x4 → wX3_begin M x4 x3 (0 : Int32) (M 28 0) (fun r5 M4 => wX3_begin M4 (x4 + (1 : Int32)) x3 (0 : Int32) (M4 28 0) (fun r7 M6 => ((x2 = 0 → wX5_put M6 x1 x4 (M6 28 4) ((M6 28 5) + r5) (M6 28 6) (r7 - r5) (fun M9 => wX4_laySlice_53 Q n M9 x1 x2 x3 (x4 + (1 : Int32)))) ∧ (¬ x2 = 0 → wX5_put M6 x1 x4 ((M6 28 4) + r5) (M6 28 5) (r7 - r5) (M6 28 7) (fun M10 => wX4_laySlice_53 Q n M10 x1 x2 x3 (x4 + (1 : Int32)))))))))
def wX4_laySlice_27 (Q : sy_M → Prop) (M : sy_M) (x1 : Nat) (s0 : Int32) : Prop := ((s0 = 0 → ∃ n11 : Nat, wX4_laySlice_53  Q n11 M x1 s0 (M 28 7) (0 : Int32)) ∧ (¬ s0 = 0 → ∃ n12 : Nat, wX4_laySlice_53  Q n12 M x1 s0 (M 28 6) (0 : Int32)))
def wX4_laySlice (M : sy_M) (p1 : Nat) (Q : sy_M → Prop) : Prop := ((((mu M p1 0 (0 : Int32)) 28 6) < ((mu M p1 0 (0 : Int32)) 28 7) → wX4_laySlice_27  Q (mu M p1 0 (0 : Int32)) p1 (0 : Int32)) ∧ (¬ ((mu M p1 0 (0 : Int32)) 28 6) < ((mu M p1 0 (0 : Int32)) 28 7) → wX4_laySlice_27  Q (mu M p1 0 (0 : Int32)) p1 (1 : Int32)))
section
variable {p : Program} {l : Launch} {e : Env} {s : State} {m : MethodId} {args : Array Value} {below : List Frame} {meth : Method} {c : Code} {Y : sy_Y}
set_option maxHeartbeats 4000000 in
set_option maxRecDepth 100000 in
theorem kX4_laySlice_53 (C : sy_C p m c cX4_laySlice 7 s args vsX4_laySlice RX4 meth none Y NX tfX) {Q : sy_M → Prop} :
    ∀ (n : Nat) (M : sy_M) (x1 : Nat) (x2 : Int32) (x3 : Int32) (x4 : Int32) (hx1 : iX5 x1) (H : Heap) (locs : List Loc) (ls : Array Slot), wX4_laySlice_53 Q n M x1 x2 x3 x4 → sy_H Y NX EX s H locs M → lv_has ls 7 [(0, .ref (Y.2.1 27)), (1, .ref (Y.2.1 x1)), (2, .int x2), (3, .int x3), (4, .int x4)] → W p l e ({ frames := 2, cells := 0, slots := 0, locals := 51 } : Room) s m args below meth c H locs 0 0 (sy_ZV below args s Y NX EX Q) (F0 m 53 ls []) := by
  have hx := C.1.1
  have hb := C.1.2.1
  intro n
  induction n with
  | zero =>
    intro M x1 x2 x3 x4 hx1 H locs ls hq hh hl
    unfold wX4_laySlice_53 at hq
    exact hq.elim
  | succ n ih =>
    intro M x1 x2 x3 x4 hx1 H locs ls hq hh hl
    unfold wX4_laySlice_53 at hq
    refine lv_iload hx hb dX4_laySlice_53 (lv_at hl 4 rfl) ?_
    refine lv_aload_n hx hb dX4_laySlice_55 rfl (lv_at hl 0 rfl) ?_
    refine sy_get C hh (fun w h => mc (uX_fX4 w h)) 27 (by decide) (oX_27 Y) rfl 1 (by decide) (index := 18) (mc uX_189) (v := .ref (Y.2.1 28)) rfl dX4_laySlice_56 ?_
    refine sy_get C hh (fun w h => mc (uX_fX3 w h)) 28 (by decide) (oX_28 Y) rfl 0 (by decide) (index := 52) (mc uX_206) (v := .int (M 28 0)) rfl dX4_laySlice_59 ?_
    refine lv_icmp_ge (tgt := 195) hx hb dX4_laySlice_62 (by decide) (fun c3 => ?_) (fun c3 => ?_)
    · have hq := hq.1 c3
      exact sy_vret C hh dX4_laySlice_195 hq
    · have hq := hq.2 c3
      refine lv_aload_n hx hb dX4_laySlice_65 rfl (lv_at hl 0 rfl) ?_
      refine sy_get C hh (fun w h => mc (uX_fX4 w h)) 27 (by decide) (oX_27 Y) rfl 1 (by decide) (index := 18) (mc uX_189) (v := .ref (Y.2.1 28)) rfl dX4_laySlice_66 ?_
      refine lv_iload hx hb dX4_laySlice_69 (lv_at hl 4 rfl) ?_
      refine lv_iload_n hx hb dX4_laySlice_71 rfl (lv_at hl 3 rfl) ?_
      refine lv_iconst (v := (0 : Int32)) hx hb dX4_laySlice_72 (by decide) ?_
      refine lv_aload_n hx hb dX4_laySlice_73 rfl (lv_at hl 0 rfl) ?_
      refine sy_get C hh (fun w h => mc (uX_fX4 w h)) 27 (by decide) (oX_27 Y) rfl 1 (by decide) (index := 18) (mc uX_189) (v := .ref (Y.2.1 28)) rfl dX4_laySlice_74 ?_
      refine sy_get C hh (fun w h => mc (uX_fX3 w h)) 28 (by decide) (oX_28 Y) rfl 0 (by decide) (index := 52) (mc uX_206) (v := .int (M 28 0)) rfl dX4_laySlice_77 ?_
      refine sy_cIV C hh (As := [.int x4, .int x3, .int (0 : Int32), .int (M 28 0)]) (rest := []) 28 (by decide) (oX_28 Y) rfl (mX3_begin l Y _ M x4 x3 (0 : Int32) (M 28 0) _ hq) (cwV 4 C.1.2.2.2.2 (sy_goodV uX_good uX_247 uX_218 uX_219 uX_70 uX_176 _) rfl rfl rfl hdX3_begin ⟨Nat.le_of_ble_eq_true rfl, Nat.le_of_ble_eq_true rfl⟩) rfl hl.1 rfl (Nat.le_of_ble_eq_true rfl) dX4_laySlice_80 (fun r5 M4 H locs hq hh => ?_)
      refine lv_istore (lv' := [(5, .int r5), (0, .ref (Y.2.1 27)), (1, .ref (Y.2.1 x1)), (2, .int x2), (3, .int x3), (4, .int x4)]) hx hb dX4_laySlice_83 hl (by decide) rfl (fun ls hl => ?_)
      refine lv_aload_n hx hb dX4_laySlice_85 rfl (lv_at hl 1 rfl) ?_
      refine sy_get C hh (fun w h => mc (uX_fX4 w h)) 27 (by decide) (oX_27 Y) rfl 1 (by decide) (index := 18) (mc uX_189) (v := .ref (Y.2.1 28)) rfl dX4_laySlice_86 ?_
      refine lv_iload hx hb dX4_laySlice_89 (lv_at hl 5 rfl) ?_
      refine lv_iconst (v := (1 : Int32)) hx hb dX4_laySlice_91 (by decide) ?_
      refine lv_iadd hx hb dX4_laySlice_92 ?_
      refine lv_iload_n hx hb dX4_laySlice_93 rfl (lv_at hl 4 rfl) ?_
      refine lv_iconst (v := (0 : Int32)) hx hb dX4_laySlice_94 (by decide) ?_
      refine lv_aload_n hx hb dX4_laySlice_95 rfl (lv_at hl 1 rfl) ?_
      refine sy_get C hh (fun w h => mc (uX_fX4 w h)) 27 (by decide) (oX_27 Y) rfl 1 (by decide) (index := 18) (mc uX_189) (v := .ref (Y.2.1 28)) rfl dX4_laySlice_96 ?_
      refine sy_get C hh (fun w h => mc (uX_fX3 w h)) 28 (by decide) (oX_28 Y) rfl 0 (by decide) (index := 52) (mc uX_206) (v := .int (M4 28 0)) rfl dX4_laySlice_99 ?_
      refine sy_cIV C hh (As := [.int (x4 + (1 : Int32)), .int x3, .int (0 : Int32), .int (M4 28 0)]) (rest := []) 28 (by decide) (oX_28 Y) rfl (mX3_begin l Y _ M4 (x4 + (1 : Int32)) x3 (0 : Int32) (M4 28 0) _ hq) (cwV 4 C.1.2.2.2.2 (sy_goodV uX_good uX_247 uX_218 uX_219 uX_70 uX_176 _) rfl rfl rfl hdX3_begin ⟨Nat.le_of_ble_eq_true rfl, Nat.le_of_ble_eq_true rfl⟩) rfl hl.1 rfl (Nat.le_of_ble_eq_true rfl) dX4_laySlice_102 (fun r7 M6 H locs hq hh => ?_)
      refine lv_iload hx hb dX4_laySlice_105 (lv_at hl 0 rfl) ?_
      refine lv_isub hx hb dX4_laySlice_107 ?_
      refine lv_istore (lv' := [(6, .int (r7 - r5)), (5, .int r5), (0, .ref (Y.2.1 27)), (1, .ref (Y.2.1 x1)), (2, .int x2), (3, .int x3), (4, .int x4)]) hx hb dX4_laySlice_108 hl (by decide) rfl (fun ls hl => ?_)
      refine lv_iload_n hx hb dX4_laySlice_110 rfl (lv_at hl 4 rfl) ?_
      refine lv_if_eq (tgt := 153) hx hb dX4_laySlice_111 (by decide) (fun c8 => ?_) (fun c8 => ?_)
      · have hq := hq.1 c8
        refine lv_aload_n hx hb dX4_laySlice_153 rfl (lv_at hl 3 rfl) ?_
        refine lv_aload_n hx hb dX4_laySlice_154 rfl (lv_at hl 2 rfl) ?_
        refine sy_get C hh (fun w h => mc (uX_fX4 w h)) 27 (by decide) (oX_27 Y) rfl 1 (by decide) (index := 18) (mc uX_189) (v := .ref (Y.2.1 28)) rfl dX4_laySlice_155 ?_
        refine lv_iload hx hb dX4_laySlice_158 (lv_at hl 6 rfl) ?_
        refine lv_aload_n hx hb dX4_laySlice_160 rfl (lv_at hl 2 rfl) ?_
        refine sy_get C hh (fun w h => mc (uX_fX4 w h)) 27 (by decide) (oX_27 Y) rfl 1 (by decide) (index := 18) (mc uX_189) (v := .ref (Y.2.1 28)) rfl dX4_laySlice_161 ?_
        refine sy_get C hh (fun w h => mc (uX_fX3 w h)) 28 (by decide) (oX_28 Y) rfl 4 (by decide) (index := 157) (mc uX_207) (v := .int (M6 28 4)) rfl dX4_laySlice_164 ?_
        refine lv_aload_n hx hb dX4_laySlice_167 rfl (lv_at hl 2 rfl) ?_
        refine sy_get C hh (fun w h => mc (uX_fX4 w h)) 27 (by decide) (oX_27 Y) rfl 1 (by decide) (index := 18) (mc uX_189) (v := .ref (Y.2.1 28)) rfl dX4_laySlice_168 ?_
        refine sy_get C hh (fun w h => mc (uX_fX3 w h)) 28 (by decide) (oX_28 Y) rfl 5 (by decide) (index := 159) (mc uX_208) (v := .int (M6 28 5)) rfl dX4_laySlice_171 ?_
        refine lv_iload hx hb dX4_laySlice_174 (lv_at hl 1 rfl) ?_
        refine lv_iadd hx hb dX4_laySlice_176 ?_
        refine lv_aload_n hx hb dX4_laySlice_177 rfl (lv_at hl 2 rfl) ?_
        refine sy_get C hh (fun w h => mc (uX_fX4 w h)) 27 (by decide) (oX_27 Y) rfl 1 (by decide) (index := 18) (mc uX_189) (v := .ref (Y.2.1 28)) rfl dX4_laySlice_178 ?_
        refine sy_get C hh (fun w h => mc (uX_fX3 w h)) 28 (by decide) (oX_28 Y) rfl 6 (by decide) (index := 164) (mc uX_245) (v := .int (M6 28 6)) rfl dX4_laySlice_181 ?_
        refine lv_iload hx hb dX4_laySlice_184 (lv_at hl 0 rfl) ?_
        refine sy_cVV C hh (As := [.ref (Y.2.1 28), .int x4, .int (M6 28 4), .int ((M6 28 5) + r5), .int (M6 28 6), .int (r7 - r5)]) (rest := []) x1 (iX5_N hx1) (oX5 hx1) rfl (mX5_put l Y _ M6 x1 hx1 x4 (M6 28 4) ((M6 28 5) + r5) (M6 28 6) (r7 - r5) _ hq) (cwV 6 C.1.2.2.2.2 (sy_goodV uX_good uX_209 uX_82 uX_83 uX_44 uX_51 _) rfl rfl rfl hdX5_put ⟨Nat.le_of_ble_eq_true rfl, Nat.le_of_ble_eq_true rfl⟩) rfl hl.1 rfl (Nat.le_of_ble_eq_true rfl) dX4_laySlice_186 (fun M9 H locs hq hh => ?_)
        refine lv_iinc (v := (x4 + (1 : Int32))) (lv' := [(4, .int (x4 + (1 : Int32))), (6, .int (r7 - r5)), (5, .int r5), (0, .ref (Y.2.1 27)), (1, .ref (Y.2.1 x1)), (2, .int x2), (3, .int x3)]) hx hb dX4_laySlice_189 hl (k := 6) rfl (sy_inc (by decide)) (by decide) rfl (fun ls hl => ?_)
        refine lv_goto (tgt := 53) hx hb dX4_laySlice_192 (by decide) ?_
        exact ih M9 x1 x2 x3 (x4 + (1 : Int32)) hx1 _ _ _ hq hh (lv_sub hl [3, 4, 5, 6, 0] rfl)
      · have hq := hq.2 c8
        refine lv_aload_n hx hb dX4_laySlice_114 rfl (lv_at hl 3 rfl) ?_
        refine lv_aload_n hx hb dX4_laySlice_115 rfl (lv_at hl 2 rfl) ?_
        refine sy_get C hh (fun w h => mc (uX_fX4 w h)) 27 (by decide) (oX_27 Y) rfl 1 (by decide) (index := 18) (mc uX_189) (v := .ref (Y.2.1 28)) rfl dX4_laySlice_116 ?_
        refine lv_iload hx hb dX4_laySlice_119 (lv_at hl 6 rfl) ?_
        refine lv_aload_n hx hb dX4_laySlice_121 rfl (lv_at hl 2 rfl) ?_
        refine sy_get C hh (fun w h => mc (uX_fX4 w h)) 27 (by decide) (oX_27 Y) rfl 1 (by decide) (index := 18) (mc uX_189) (v := .ref (Y.2.1 28)) rfl dX4_laySlice_122 ?_
        refine sy_get C hh (fun w h => mc (uX_fX3 w h)) 28 (by decide) (oX_28 Y) rfl 4 (by decide) (index := 157) (mc uX_207) (v := .int (M6 28 4)) rfl dX4_laySlice_125 ?_
        refine lv_iload hx hb dX4_laySlice_128 (lv_at hl 1 rfl) ?_
        refine lv_iadd hx hb dX4_laySlice_130 ?_
        refine lv_aload_n hx hb dX4_laySlice_131 rfl (lv_at hl 2 rfl) ?_
        refine sy_get C hh (fun w h => mc (uX_fX4 w h)) 27 (by decide) (oX_27 Y) rfl 1 (by decide) (index := 18) (mc uX_189) (v := .ref (Y.2.1 28)) rfl dX4_laySlice_132 ?_
        refine sy_get C hh (fun w h => mc (uX_fX3 w h)) 28 (by decide) (oX_28 Y) rfl 5 (by decide) (index := 159) (mc uX_208) (v := .int (M6 28 5)) rfl dX4_laySlice_135 ?_
        refine lv_iload hx hb dX4_laySlice_138 (lv_at hl 0 rfl) ?_
        refine lv_aload_n hx hb dX4_laySlice_140 rfl (lv_at hl 2 rfl) ?_
        refine sy_get C hh (fun w h => mc (uX_fX4 w h)) 27 (by decide) (oX_27 Y) rfl 1 (by decide) (index := 18) (mc uX_189) (v := .ref (Y.2.1 28)) rfl dX4_laySlice_141 ?_
        refine sy_get C hh (fun w h => mc (uX_fX3 w h)) 28 (by decide) (oX_28 Y) rfl 7 (by decide) (index := 166) (mc uX_246) (v := .int (M6 28 7)) rfl dX4_laySlice_144 ?_
        refine sy_cVV C hh (As := [.ref (Y.2.1 28), .int x4, .int ((M6 28 4) + r5), .int (M6 28 5), .int (r7 - r5), .int (M6 28 7)]) (rest := []) x1 (iX5_N hx1) (oX5 hx1) rfl (mX5_put l Y _ M6 x1 hx1 x4 ((M6 28 4) + r5) (M6 28 5) (r7 - r5) (M6 28 7) _ hq) (cwV 6 C.1.2.2.2.2 (sy_goodV uX_good uX_209 uX_82 uX_83 uX_44 uX_51 _) rfl rfl rfl hdX5_put ⟨Nat.le_of_ble_eq_true rfl, Nat.le_of_ble_eq_true rfl⟩) rfl hl.1 rfl (Nat.le_of_ble_eq_true rfl) dX4_laySlice_147 (fun M10 H locs hq hh => ?_)
        refine lv_goto (tgt := 189) hx hb dX4_laySlice_150 (by decide) ?_
        refine lv_iinc (v := (x4 + (1 : Int32))) (lv' := [(4, .int (x4 + (1 : Int32))), (6, .int (r7 - r5)), (5, .int r5), (0, .ref (Y.2.1 27)), (1, .ref (Y.2.1 x1)), (2, .int x2), (3, .int x3)]) hx hb dX4_laySlice_189 hl (k := 6) rfl (sy_inc (by decide)) (by decide) rfl (fun ls hl => ?_)
        refine lv_goto (tgt := 53) hx hb dX4_laySlice_192 (by decide) ?_
        exact ih M10 x1 x2 x3 (x4 + (1 : Int32)) hx1 _ _ _ hq hh (lv_sub hl [3, 4, 5, 6, 0] rfl)

set_option maxHeartbeats 4000000 in
set_option maxRecDepth 100000 in
theorem kX4_laySlice_27 (C : sy_C p m c cX4_laySlice 7 s args vsX4_laySlice RX4 meth none Y NX tfX) {Q : sy_M → Prop} :
    ∀ (M : sy_M) (x1 : Nat) (s0 : Int32) (hx1 : iX5 x1) (H : Heap) (locs : List Loc) (ls : Array Slot), wX4_laySlice_27 Q M x1 s0 → sy_H Y NX EX s H locs M → lv_has ls 7 [(0, .ref (Y.2.1 27)), (1, .ref (Y.2.1 x1))] → W p l e ({ frames := 2, cells := 0, slots := 0, locals := 51 } : Room) s m args below meth c H locs 0 0 (sy_ZV below args s Y NX EX Q) (F0 m 27 ls [.int s0]) := by
  have hx := C.1.1
  have hb := C.1.2.1
  intro M x1 s0 hx1 H locs ls hq hh hl
  unfold wX4_laySlice_27 at hq
  refine lv_istore_n (lv' := [(2, .int s0), (0, .ref (Y.2.1 27)), (1, .ref (Y.2.1 x1))]) hx hb dX4_laySlice_27 rfl hl (by decide) rfl (fun ls hl => ?_)
  refine lv_iload_n hx hb dX4_laySlice_28 rfl (lv_at hl 0 rfl) ?_
  refine lv_if_eq (tgt := 42) hx hb dX4_laySlice_29 (by decide) (fun c2 => ?_) (fun c2 => ?_)
  · have hq := hq.1 c2
    refine lv_aload_n hx hb dX4_laySlice_42 rfl (lv_at hl 1 rfl) ?_
    refine sy_get C hh (fun w h => mc (uX_fX4 w h)) 27 (by decide) (oX_27 Y) rfl 1 (by decide) (index := 18) (mc uX_189) (v := .ref (Y.2.1 28)) rfl dX4_laySlice_43 ?_
    refine sy_get C hh (fun w h => mc (uX_fX3 w h)) 28 (by decide) (oX_28 Y) rfl 7 (by decide) (index := 166) (mc uX_246) (v := .int (M 28 7)) rfl dX4_laySlice_46 ?_
    refine lv_istore_n (lv' := [(3, .int (M 28 7)), (2, .int s0), (0, .ref (Y.2.1 27)), (1, .ref (Y.2.1 x1))]) hx hb dX4_laySlice_49 rfl hl (by decide) rfl (fun ls hl => ?_)
    refine lv_iconst (v := (0 : Int32)) hx hb dX4_laySlice_50 (by decide) ?_
    refine lv_istore (lv' := [(4, .int (0 : Int32)), (3, .int (M 28 7)), (2, .int s0), (0, .ref (Y.2.1 27)), (1, .ref (Y.2.1 x1))]) hx hb dX4_laySlice_51 hl (by decide) rfl (fun ls hl => ?_)
    obtain ⟨n11, hq⟩ := hq
    refine kX4_laySlice_53 C  n11 M x1 s0 (M 28 7) (0 : Int32) hx1 _ _ _ hq hh (lv_sub hl [3, 4, 2, 1, 0] rfl)
  · have hq := hq.2 c2
    refine lv_aload_n hx hb dX4_laySlice_32 rfl (lv_at hl 1 rfl) ?_
    refine sy_get C hh (fun w h => mc (uX_fX4 w h)) 27 (by decide) (oX_27 Y) rfl 1 (by decide) (index := 18) (mc uX_189) (v := .ref (Y.2.1 28)) rfl dX4_laySlice_33 ?_
    refine sy_get C hh (fun w h => mc (uX_fX3 w h)) 28 (by decide) (oX_28 Y) rfl 6 (by decide) (index := 164) (mc uX_245) (v := .int (M 28 6)) rfl dX4_laySlice_36 ?_
    refine lv_goto (tgt := 49) hx hb dX4_laySlice_39 (by decide) ?_
    refine lv_istore_n (lv' := [(3, .int (M 28 6)), (2, .int s0), (0, .ref (Y.2.1 27)), (1, .ref (Y.2.1 x1))]) hx hb dX4_laySlice_49 rfl hl (by decide) rfl (fun ls hl => ?_)
    refine lv_iconst (v := (0 : Int32)) hx hb dX4_laySlice_50 (by decide) ?_
    refine lv_istore (lv' := [(4, .int (0 : Int32)), (3, .int (M 28 6)), (2, .int s0), (0, .ref (Y.2.1 27)), (1, .ref (Y.2.1 x1))]) hx hb dX4_laySlice_51 hl (by decide) rfl (fun ls hl => ?_)
    obtain ⟨n12, hq⟩ := hq
    refine kX4_laySlice_53 C  n12 M x1 s0 (M 28 6) (0 : Int32) hx1 _ _ _ hq hh (lv_sub hl [3, 4, 2, 1, 0] rfl)

end
set_option maxHeartbeats 4000000 in
set_option maxRecDepth 100000 in
theorem mX4_laySlice (l : Launch) (Y : sy_Y) (sz : Nat) (M : sy_M) (p1 : Nat) (hp1 : iX5 p1) (Q : sy_M → Prop) (hq : wX4_laySlice M p1 Q) : Met l yX4_laySlice vsX4_laySlice ({ frames := 2, cells := 0, slots := 0, locals := 51 } : Room) (va_Pc [.ref (Y.2.1 27), .ref (Y.2.1 p1)] (sy_pre Y NX EX tfX sz M)) (sy_QV Y NX EX sz Q) 0 0 (sy_A NX Y.2.1 sz) := by
  refine sy_metV (by decide) rfl (Nat.le_of_ble_eq_true rfl) ?_
  intro p e s m args below meth c C ls hl hh
  have hx := C.1.1
  have hb := C.1.2.1
  have hl : lv_has ls 7 [(0, .ref (Y.2.1 27)), (1, .ref (Y.2.1 p1))] := hl
  unfold wX4_laySlice at hq
  refine lv_aload_n hx hb dX4_laySlice_0 rfl (lv_at hl 1 rfl) ?_
  refine lv_iconst (v := (0 : Int32)) hx hb dX4_laySlice_1 (by decide) ?_
  refine sy_put C hh (fun w h => mc (uX_fX5 w h)) tyX5 tyX5_ok nmX5 p1 (iX5_N hp1) (oX5 hp1) rfl 0 (by decide) (index := 94) (mc uX_205) rfl 0 (0 : Int32) (ty := .int) (tyX5_ok 0 (by decide)) rfl rfl (Nat.le_of_ble_eq_true rfl) (pX5_0 Y _ _ _) dX4_laySlice_2 (fun H locs hh => ?_)
  refine lv_aload_n hx hb dX4_laySlice_5 rfl (lv_at hl 0 rfl) ?_
  refine sy_get C hh (fun w h => mc (uX_fX4 w h)) 27 (by decide) (oX_27 Y) rfl 1 (by decide) (index := 18) (mc uX_189) (v := .ref (Y.2.1 28)) rfl dX4_laySlice_6 ?_
  refine sy_get C hh (fun w h => mc (uX_fX3 w h)) 28 (by decide) (oX_28 Y) rfl 6 (by decide) (index := 164) (mc uX_245) (v := .int ((mu M p1 0 (0 : Int32)) 28 6)) rfl dX4_laySlice_9 ?_
  refine lv_aload_n hx hb dX4_laySlice_12 rfl (lv_at hl 0 rfl) ?_
  refine sy_get C hh (fun w h => mc (uX_fX4 w h)) 27 (by decide) (oX_27 Y) rfl 1 (by decide) (index := 18) (mc uX_189) (v := .ref (Y.2.1 28)) rfl dX4_laySlice_13 ?_
  refine sy_get C hh (fun w h => mc (uX_fX3 w h)) 28 (by decide) (oX_28 Y) rfl 7 (by decide) (index := 166) (mc uX_246) (v := .int ((mu M p1 0 (0 : Int32)) 28 7)) rfl dX4_laySlice_16 ?_
  refine lv_icmp_lt (tgt := 26) hx hb dX4_laySlice_19 (by decide) (fun c1 => ?_) (fun c1 => ?_)
  · have hq := hq.1 c1
    refine lv_iconst (v := (0 : Int32)) hx hb dX4_laySlice_26 (by decide) ?_
    refine kX4_laySlice_27 C  (mu M p1 0 (0 : Int32)) p1 (0 : Int32) hp1 _ _ _ hq hh (lv_sub hl [0, 1] rfl)
  · have hq := hq.2 c1
    refine lv_iconst (v := (1 : Int32)) hx hb dX4_laySlice_22 (by decide) ?_
    refine lv_goto (tgt := 27) hx hb dX4_laySlice_23 (by decide) ?_
    refine kX4_laySlice_27 C  (mu M p1 0 (0 : Int32)) p1 (1 : Int32) hp1 _ _ _ hq hh (lv_sub hl [0, 1] rfl)

/-! AreaSetter$Rectangles.distance(ILAreaSetter$Rectangles;I)I -/
def wX7_distance (M : sy_M) (p0 : Nat) (a1 : Int32) (p2 : Nat) (a3 : Int32) (Q : Int32 → sy_M → Prop) : Prop := ∃ n1 : Nat, n1 < (lX7 p0) ∧ a1 = nI n1 ∧ ∃ n2 : Nat, n2 < (lX7 p2) ∧ a3 = nI n2 ∧ Q ((((iabs ((M (p0 + 1) n1) - (M (p2 + 1) n2))) + (iabs ((M (p0 + 2) n1) - (M (p2 + 2) n2)))) + (iabs ((((M (p0 + 1) n1) + (M (p0 + 3) n1)) - (M (p2 + 1) n2)) - (M (p2 + 3) n2)))) + (iabs ((((M (p0 + 2) n1) + (M (p0 + 4) n1)) - (M (p2 + 2) n2)) - (M (p2 + 4) n2)))) M
section
variable {p : Program} {l : Launch} {e : Env} {s : State} {m : MethodId} {args : Array Value} {below : List Frame} {meth : Method} {c : Code} {Y : sy_Y}
end
set_option maxHeartbeats 4000000 in
set_option maxRecDepth 100000 in
theorem mX7_distance (l : Launch) (Y : sy_Y) (sz : Nat) (M : sy_M) (p0 : Nat) (hp0 : iX7 p0) (a1 : Int32) (p2 : Nat) (hp2 : iX7 p2) (a3 : Int32) (Q : Int32 → sy_M → Prop) (hq : wX7_distance M p0 a1 p2 a3 Q) : Met l yX7_distance vsX7_distance ({ frames := 1, cells := 0, slots := 0, locals := 21 } : Room) (va_Pc [.ref (Y.2.1 p0), .int a1, .ref (Y.2.1 p2), .int a3] (sy_pre Y NX EX tfX sz M)) (sy_QI Y NX EX sz Q) 0 0 (sy_A NX Y.2.1 sz) := by
  refine sy_metI (by decide) rfl (Nat.le_of_ble_eq_true rfl) ?_
  intro p e s m args below meth c C ls hl hh
  have hx := C.1.1
  have hb := C.1.2.1
  have hl : lv_has ls 6 [(0, .ref (Y.2.1 p0)), (1, .int a1), (2, .ref (Y.2.1 p2)), (3, .int a3)] := hl
  unfold wX7_distance at hq
  refine lv_aload_n hx hb dX7_distance_0 rfl (lv_at hl 0 rfl) ?_
  refine sy_get C hh (fun w h => mc (uX_fX7 w h)) p0 (iX7_N hp0) (oX7 hp0) rfl 0 (by decide) (index := 15) (mc uX_27) (v := .ref (Y.2.1 (p0 + 1))) rfl dX7_distance_1 ?_
  refine lv_iload_n hx hb dX7_distance_4 rfl (lv_at hl 1 rfl) ?_
  obtain ⟨n1, hn1, en1, hq⟩ := hq
  refine sy_iald C hh (p0 + 1) (iX7_N1 hp0) (aX7_1 hp0) (tX7_1 hp0) hn1 en1 (lX7_lt _) dX7_distance_5 ?_
  refine lv_aload_n hx hb dX7_distance_6 rfl (lv_at hl 0 rfl) ?_
  refine sy_get C hh (fun w h => mc (uX_fX7 w h)) p0 (iX7_N hp0) (oX7 hp0) rfl 2 (by decide) (index := 24) (mc uX_29) (v := .ref (Y.2.1 (p0 + 3))) rfl dX7_distance_7 ?_
  refine lv_iload_n hx hb dX7_distance_10 rfl (lv_at hl 1 rfl) ?_
  refine sy_iald C hh (p0 + 3) (iX7_N3 hp0) (aX7_3 hp0) (tX7_3 hp0) hn1 en1 (lX7_lt _) dX7_distance_11 ?_
  refine lv_iadd hx hb dX7_distance_12 ?_
  refine lv_aload_n hx hb dX7_distance_13 rfl (lv_at hl 2 rfl) ?_
  refine sy_get C hh (fun w h => mc (uX_fX7 w h)) p2 (iX7_N hp2) (oX7 hp2) rfl 0 (by decide) (index := 15) (mc uX_27) (v := .ref (Y.2.1 (p2 + 1))) rfl dX7_distance_14 ?_
  refine lv_iload_n hx hb dX7_distance_17 rfl (lv_at hl 3 rfl) ?_
  obtain ⟨n2, hn2, en2, hq⟩ := hq
  refine sy_iald C hh (p2 + 1) (iX7_N1 hp2) (aX7_1 hp2) (tX7_1 hp2) hn2 en2 (lX7_lt _) dX7_distance_18 ?_
  refine lv_isub hx hb dX7_distance_19 ?_
  refine lv_aload_n hx hb dX7_distance_20 rfl (lv_at hl 2 rfl) ?_
  refine sy_get C hh (fun w h => mc (uX_fX7 w h)) p2 (iX7_N hp2) (oX7 hp2) rfl 2 (by decide) (index := 24) (mc uX_29) (v := .ref (Y.2.1 (p2 + 3))) rfl dX7_distance_21 ?_
  refine lv_iload_n hx hb dX7_distance_24 rfl (lv_at hl 3 rfl) ?_
  refine sy_iald C hh (p2 + 3) (iX7_N3 hp2) (aX7_3 hp2) (tX7_3 hp2) hn2 en2 (lX7_lt _) dX7_distance_25 ?_
  refine lv_isub hx hb dX7_distance_26 ?_
  refine lv_istore (lv' := [(4, .int ((((M (p0 + 1) n1) + (M (p0 + 3) n1)) - (M (p2 + 1) n2)) - (M (p2 + 3) n2))), (0, .ref (Y.2.1 p0)), (1, .int a1), (2, .ref (Y.2.1 p2)), (3, .int a3)]) hx hb dX7_distance_27 hl (by decide) rfl (fun ls hl => ?_)
  refine lv_aload_n hx hb dX7_distance_29 rfl (lv_at hl 1 rfl) ?_
  refine sy_get C hh (fun w h => mc (uX_fX7 w h)) p0 (iX7_N hp0) (oX7 hp0) rfl 1 (by decide) (index := 21) (mc uX_28) (v := .ref (Y.2.1 (p0 + 2))) rfl dX7_distance_30 ?_
  refine lv_iload_n hx hb dX7_distance_33 rfl (lv_at hl 2 rfl) ?_
  refine sy_iald C hh (p0 + 2) (iX7_N2 hp0) (aX7_2 hp0) (tX7_2 hp0) hn1 en1 (lX7_lt _) dX7_distance_34 ?_
  refine lv_aload_n hx hb dX7_distance_35 rfl (lv_at hl 1 rfl) ?_
  refine sy_get C hh (fun w h => mc (uX_fX7 w h)) p0 (iX7_N hp0) (oX7 hp0) rfl 3 (by decide) (index := 27) (mc uX_30) (v := .ref (Y.2.1 (p0 + 4))) rfl dX7_distance_36 ?_
  refine lv_iload_n hx hb dX7_distance_39 rfl (lv_at hl 2 rfl) ?_
  refine sy_iald C hh (p0 + 4) (iX7_N4 hp0) (aX7_4 hp0) (tX7_4 hp0) hn1 en1 (lX7_lt _) dX7_distance_40 ?_
  refine lv_iadd hx hb dX7_distance_41 ?_
  refine lv_aload_n hx hb dX7_distance_42 rfl (lv_at hl 3 rfl) ?_
  refine sy_get C hh (fun w h => mc (uX_fX7 w h)) p2 (iX7_N hp2) (oX7 hp2) rfl 1 (by decide) (index := 21) (mc uX_28) (v := .ref (Y.2.1 (p2 + 2))) rfl dX7_distance_43 ?_
  refine lv_iload_n hx hb dX7_distance_46 rfl (lv_at hl 4 rfl) ?_
  refine sy_iald C hh (p2 + 2) (iX7_N2 hp2) (aX7_2 hp2) (tX7_2 hp2) hn2 en2 (lX7_lt _) dX7_distance_47 ?_
  refine lv_isub hx hb dX7_distance_48 ?_
  refine lv_aload_n hx hb dX7_distance_49 rfl (lv_at hl 3 rfl) ?_
  refine sy_get C hh (fun w h => mc (uX_fX7 w h)) p2 (iX7_N hp2) (oX7 hp2) rfl 3 (by decide) (index := 27) (mc uX_30) (v := .ref (Y.2.1 (p2 + 4))) rfl dX7_distance_50 ?_
  refine lv_iload_n hx hb dX7_distance_53 rfl (lv_at hl 4 rfl) ?_
  refine sy_iald C hh (p2 + 4) (iX7_N4 hp2) (aX7_4 hp2) (tX7_4 hp2) hn2 en2 (lX7_lt _) dX7_distance_54 ?_
  refine lv_isub hx hb dX7_distance_55 ?_
  refine lv_istore (lv' := [(5, .int ((((M (p0 + 2) n1) + (M (p0 + 4) n1)) - (M (p2 + 2) n2)) - (M (p2 + 4) n2))), (4, .int ((((M (p0 + 1) n1) + (M (p0 + 3) n1)) - (M (p2 + 1) n2)) - (M (p2 + 3) n2))), (0, .ref (Y.2.1 p0)), (1, .int a1), (2, .ref (Y.2.1 p2)), (3, .int a3)]) hx hb dX7_distance_56 hl (by decide) rfl (fun ls hl => ?_)
  refine lv_aload_n hx hb dX7_distance_58 rfl (lv_at hl 2 rfl) ?_
  refine sy_get C hh (fun w h => mc (uX_fX7 w h)) p0 (iX7_N hp0) (oX7 hp0) rfl 0 (by decide) (index := 15) (mc uX_27) (v := .ref (Y.2.1 (p0 + 1))) rfl dX7_distance_59 ?_
  refine lv_iload_n hx hb dX7_distance_62 rfl (lv_at hl 3 rfl) ?_
  refine sy_iald C hh (p0 + 1) (iX7_N1 hp0) (aX7_1 hp0) (tX7_1 hp0) hn1 en1 (lX7_lt _) dX7_distance_63 ?_
  refine lv_aload_n hx hb dX7_distance_64 rfl (lv_at hl 4 rfl) ?_
  refine sy_get C hh (fun w h => mc (uX_fX7 w h)) p2 (iX7_N hp2) (oX7 hp2) rfl 0 (by decide) (index := 15) (mc uX_27) (v := .ref (Y.2.1 (p2 + 1))) rfl dX7_distance_65 ?_
  refine lv_iload_n hx hb dX7_distance_68 rfl (lv_at hl 5 rfl) ?_
  refine sy_iald C hh (p2 + 1) (iX7_N1 hp2) (aX7_1 hp2) (tX7_1 hp2) hn2 en2 (lX7_lt _) dX7_distance_69 ?_
  refine lv_isub hx hb dX7_distance_70 ?_
  refine sy_mabs C hl (index := 37) (mc uX_250) (mc uX_251) (mc uX_25) (mc uX_252) (by decide) (Nat.le_of_ble_eq_true rfl) dX7_distance_71 ?_
  refine lv_aload_n hx hb dX7_distance_74 rfl (lv_at hl 2 rfl) ?_
  refine sy_get C hh (fun w h => mc (uX_fX7 w h)) p0 (iX7_N hp0) (oX7 hp0) rfl 1 (by decide) (index := 21) (mc uX_28) (v := .ref (Y.2.1 (p0 + 2))) rfl dX7_distance_75 ?_
  refine lv_iload_n hx hb dX7_distance_78 rfl (lv_at hl 3 rfl) ?_
  refine sy_iald C hh (p0 + 2) (iX7_N2 hp0) (aX7_2 hp0) (tX7_2 hp0) hn1 en1 (lX7_lt _) dX7_distance_79 ?_
  refine lv_aload_n hx hb dX7_distance_80 rfl (lv_at hl 4 rfl) ?_
  refine sy_get C hh (fun w h => mc (uX_fX7 w h)) p2 (iX7_N hp2) (oX7 hp2) rfl 1 (by decide) (index := 21) (mc uX_28) (v := .ref (Y.2.1 (p2 + 2))) rfl dX7_distance_81 ?_
  refine lv_iload_n hx hb dX7_distance_84 rfl (lv_at hl 5 rfl) ?_
  refine sy_iald C hh (p2 + 2) (iX7_N2 hp2) (aX7_2 hp2) (tX7_2 hp2) hn2 en2 (lX7_lt _) dX7_distance_85 ?_
  refine lv_isub hx hb dX7_distance_86 ?_
  refine sy_mabs C hl (index := 37) (mc uX_250) (mc uX_251) (mc uX_25) (mc uX_252) (by decide) (Nat.le_of_ble_eq_true rfl) dX7_distance_87 ?_
  refine lv_iadd hx hb dX7_distance_90 ?_
  refine lv_iload hx hb dX7_distance_91 (lv_at hl 1 rfl) ?_
  refine sy_mabs C hl (index := 37) (mc uX_250) (mc uX_251) (mc uX_25) (mc uX_252) (by decide) (Nat.le_of_ble_eq_true rfl) dX7_distance_93 ?_
  refine lv_iadd hx hb dX7_distance_96 ?_
  refine lv_iload hx hb dX7_distance_97 (lv_at hl 0 rfl) ?_
  refine sy_mabs C hl (index := 37) (mc uX_250) (mc uX_251) (mc uX_25) (mc uX_252) (by decide) (Nat.le_of_ble_eq_true rfl) dX7_distance_99 ?_
  refine lv_iadd hx hb dX7_distance_102 ?_
  exact sy_iret C hh dX7_distance_103 hq

/-! AreaSetter$Layer.movesOf(LAreaSetter$Rectangles;LAreaSetter$Drawings;)I -/
def wX4_movesOf_5 (Q : Int32 → sy_M → Prop) : Nat → sy_M → Nat → Int32 → Int32 → Prop
  | 0, _, _, _, _ => False
  | n + 1, M, x1, x3, x4 => (((M 28 0) ≤ x4 → Q x3 M) ∧ (¬ (M 28 0) ≤ x4 → (((M 9 0) ≤ (1 : Int32) → Q x3 M) ∧ (¬ (M 9 0) ≤ (1 : Int32) → ∃ n3 : Nat, n3 < 8 ∧ x4 = nI n3 ∧ ((¬ (M 29 n3) = (-1 : Int32) → wX2_cell M ((M 9 0) - (nI 2)) (M 29 n3) (fun r6 M5 => ∃ n7 : Nat, n7 < 2000 ∧ r6 = nI n7 ∧ (((M5 17 n7) = 0 → wX4_movesOf_5 Q n M5 x1 x3 (x4 + (1 : Int32))) ∧ (¬ (M5 17 n7) = 0 → wX7_distance M5 x1 x4 11 r6 (fun r10 M9 => wX4_movesOf_5 Q n M9 x1 (x3 + r10) (x4 + (1 : Int32))))))) ∧ ((M 29 n3) = (-1 : Int32) → wX4_movesOf_5 Q n M x1 x3 (x4 + (1 : Int32))))))))
def wX4_movesOf (M : sy_M) (p1 : Nat) (Q : Int32 → sy_M → Prop) : Prop := ∃ n11 : Nat, wX4_movesOf_5  Q n11 M p1 (0 : Int32) (0 : Int32)
section
variable {p : Program} {l : Launch} {e : Env} {s : State} {m : MethodId} {args : Array Value} {below : List Frame} {meth : Method} {c : Code} {Y : sy_Y}
set_option maxHeartbeats 4000000 in
set_option maxRecDepth 100000 in
theorem kX4_movesOf_5 (C : sy_C p m c cX4_movesOf 6 s args vsX4_movesOf RX4 meth (some .int) Y NX tfX) {Q : Int32 → sy_M → Prop} :
    ∀ (n : Nat) (M : sy_M) (x1 : Nat) (x3 : Int32) (x4 : Int32) (hx1 : iX7 x1) (H : Heap) (locs : List Loc) (ls : Array Slot), wX4_movesOf_5 Q n M x1 x3 x4 → sy_H Y NX EX s H locs M → lv_has ls 6 [(0, .ref (Y.2.1 27)), (1, .ref (Y.2.1 x1)), (2, .ref (Y.2.1 9)), (3, .int x3), (4, .int x4)] → W p l e ({ frames := 2, cells := 0, slots := 0, locals := 46 } : Room) s m args below meth c H locs 0 0 (sy_ZI below args s Y NX EX Q) (F0 m 5 ls []) := by
  have hx := C.1.1
  have hb := C.1.2.1
  intro n
  induction n with
  | zero =>
    intro M x1 x3 x4 hx1 H locs ls hq hh hl
    unfold wX4_movesOf_5 at hq
    exact hq.elim
  | succ n ih =>
    intro M x1 x3 x4 hx1 H locs ls hq hh hl
    unfold wX4_movesOf_5 at hq
    refine lv_iload hx hb dX4_movesOf_5 (lv_at hl 4 rfl) ?_
    refine lv_aload_n hx hb dX4_movesOf_7 rfl (lv_at hl 0 rfl) ?_
    refine sy_get C hh (fun w h => mc (uX_fX4 w h)) 27 (by decide) (oX_27 Y) rfl 1 (by decide) (index := 18) (mc uX_189) (v := .ref (Y.2.1 28)) rfl dX4_movesOf_8 ?_
    refine sy_get C hh (fun w h => mc (uX_fX3 w h)) 28 (by decide) (oX_28 Y) rfl 0 (by decide) (index := 52) (mc uX_206) (v := .int (M 28 0)) rfl dX4_movesOf_11 ?_
    refine lv_icmp_ge (tgt := 95) hx hb dX4_movesOf_14 (by decide) (fun c1 => ?_) (fun c1 => ?_)
    · have hq := hq.1 c1
      refine lv_iload_n hx hb dX4_movesOf_95 rfl (lv_at hl 3 rfl) ?_
      exact sy_iret C hh dX4_movesOf_96 hq
    · have hq := hq.2 c1
      refine lv_aload_n hx hb dX4_movesOf_17 rfl (lv_at hl 2 rfl) ?_
      refine sy_get C hh (fun w h => mc (uX_fX2 w h)) 9 (by decide) (oX_9 Y) rfl 0 (by decide) (index := 141) (mc uX_254) (v := .int (M 9 0)) rfl dX4_movesOf_18 ?_
      refine lv_iconst (v := (1 : Int32)) hx hb dX4_movesOf_21 (by decide) ?_
      refine lv_icmp_le (tgt := 95) hx hb dX4_movesOf_22 (by decide) (fun c2 => ?_) (fun c2 => ?_)
      · have hq := hq.1 c2
        refine lv_iload_n hx hb dX4_movesOf_95 rfl (lv_at hl 3 rfl) ?_
        exact sy_iret C hh dX4_movesOf_96 hq
      · have hq := hq.2 c2
        refine lv_aload_n hx hb dX4_movesOf_25 rfl (lv_at hl 0 rfl) ?_
        refine sy_get C hh (fun w h => mc (uX_fX4 w h)) 27 (by decide) (oX_27 Y) rfl 1 (by decide) (index := 18) (mc uX_189) (v := .ref (Y.2.1 28)) rfl dX4_movesOf_26 ?_
        refine sy_get C hh (fun w h => mc (uX_fX3 w h)) 28 (by decide) (oX_28 Y) rfl 2 (by decide) (index := 96) (mc uX_255) (v := .ref (Y.2.1 29)) rfl dX4_movesOf_29 ?_
        refine lv_iload hx hb dX4_movesOf_32 (lv_at hl 4 rfl) ?_
        obtain ⟨n3, hn3, en3, hq⟩ := hq
        refine sy_iald C hh 29 (by decide) (aX_29 Y) tX_29 hn3 en3 (by decide) dX4_movesOf_34 ?_
        refine lv_iconst (v := (-1 : Int32)) hx hb dX4_movesOf_35 (by decide) ?_
        refine lv_icmp_ne (tgt := 42) hx hb dX4_movesOf_36 (by decide) (fun c4 => ?_) (fun c4 => ?_)
        · have hq := hq.1 c4
          refine lv_aload_n hx hb dX4_movesOf_42 rfl (lv_at hl 2 rfl) ?_
          refine lv_aload_n hx hb dX4_movesOf_43 rfl (lv_at hl 2 rfl) ?_
          refine sy_get C hh (fun w h => mc (uX_fX2 w h)) 9 (by decide) (oX_9 Y) rfl 0 (by decide) (index := 141) (mc uX_254) (v := .int (M 9 0)) rfl dX4_movesOf_44 ?_
          refine lv_iconst (v := (nI 2)) hx hb dX4_movesOf_47 (by decide) ?_
          refine lv_isub hx hb dX4_movesOf_48 ?_
          refine lv_aload_n hx hb dX4_movesOf_49 rfl (lv_at hl 0 rfl) ?_
          refine sy_get C hh (fun w h => mc (uX_fX4 w h)) 27 (by decide) (oX_27 Y) rfl 1 (by decide) (index := 18) (mc uX_189) (v := .ref (Y.2.1 28)) rfl dX4_movesOf_50 ?_
          refine sy_get C hh (fun w h => mc (uX_fX3 w h)) 28 (by decide) (oX_28 Y) rfl 2 (by decide) (index := 96) (mc uX_255) (v := .ref (Y.2.1 29)) rfl dX4_movesOf_53 ?_
          refine lv_iload hx hb dX4_movesOf_56 (lv_at hl 4 rfl) ?_
          refine sy_iald C hh 29 (by decide) (aX_29 Y) tX_29 hn3 en3 (by decide) dX4_movesOf_58 ?_
          refine sy_cIV C hh (As := [.int ((M 9 0) - (nI 2)), .int (M 29 n3)]) (rest := []) 9 (by decide) (oX_9 Y) rfl (mX2_cell l Y _ M ((M 9 0) - (nI 2)) (M 29 n3) _ hq) (cwV 2 C.1.2.2.2.2 (sy_goodV uX_good uX_258 uX_112 uX_113 uX_114 uX_109 _) rfl rfl rfl hdX2_cell ⟨Nat.le_of_ble_eq_true rfl, Nat.le_of_ble_eq_true rfl⟩) rfl hl.1 rfl (Nat.le_of_ble_eq_true rfl) dX4_movesOf_59 (fun r6 M5 H locs hq hh => ?_)
          refine lv_istore (lv' := [(5, .int r6), (0, .ref (Y.2.1 27)), (1, .ref (Y.2.1 x1)), (2, .ref (Y.2.1 9)), (3, .int x3), (4, .int x4)]) hx hb dX4_movesOf_62 hl (by decide) rfl (fun ls hl => ?_)
          refine lv_aload_n hx hb dX4_movesOf_64 rfl (lv_at hl 3 rfl) ?_
          refine sy_get C hh (fun w h => mc (uX_fX2 w h)) 9 (by decide) (oX_9 Y) rfl 3 (by decide) (index := 147) (mc uX_256) (v := .ref (Y.2.1 17)) rfl dX4_movesOf_65 ?_
          refine lv_iload hx hb dX4_movesOf_68 (lv_at hl 0 rfl) ?_
          obtain ⟨n7, hn7, en7, hq⟩ := hq
          refine sy_zald C hh 17 (by decide) (aX_17 Y) tX_17 hn7 en7 (by decide) dX4_movesOf_70 ?_
          refine lv_if_eq (tgt := 89) hx hb dX4_movesOf_71 (by decide) (fun c8 => ?_) (fun c8 => ?_)
          · have hq := hq.1 c8
            refine lv_iinc (v := (x4 + (1 : Int32))) (lv' := [(4, .int (x4 + (1 : Int32))), (5, .int r6), (0, .ref (Y.2.1 27)), (1, .ref (Y.2.1 x1)), (2, .ref (Y.2.1 9)), (3, .int x3)]) hx hb dX4_movesOf_89 hl (k := 5) rfl (sy_inc (by decide)) (by decide) rfl (fun ls hl => ?_)
            refine lv_goto (tgt := 5) hx hb dX4_movesOf_92 (by decide) ?_
            exact ih M5 x1 x3 (x4 + (1 : Int32)) hx1 _ _ _ hq hh (lv_sub hl [2, 3, 4, 5, 0] rfl)
          · have hq := hq.2 c8
            refine lv_iload_n hx hb dX4_movesOf_74 rfl (lv_at hl 4 rfl) ?_
            refine lv_aload_n hx hb dX4_movesOf_75 rfl (lv_at hl 2 rfl) ?_
            refine lv_iload hx hb dX4_movesOf_76 (lv_at hl 5 rfl) ?_
            refine lv_aload_n hx hb dX4_movesOf_78 rfl (lv_at hl 3 rfl) ?_
            refine sy_get C hh (fun w h => mc (uX_fX2 w h)) 9 (by decide) (oX_9 Y) rfl 2 (by decide) (index := 151) (mc uX_257) (v := .ref (Y.2.1 11)) rfl dX4_movesOf_79 ?_
            refine lv_iload hx hb dX4_movesOf_82 (lv_at hl 0 rfl) ?_
            refine sy_cIV C hh (As := [.int x4, .ref (Y.2.1 11), .int r6]) (rest := [.int x3]) x1 (iX7_N hx1) (oX7 hx1) rfl (mX7_distance l Y _ M5 x1 hx1 x4 11 iX7_11 r6 _ hq) (cwV 3 C.1.2.2.2.2 (sy_goodV uX_good uX_259 uX_260 uX_261 uX_37 uX_249 _) rfl rfl rfl hdX7_distance ⟨Nat.le_of_ble_eq_true rfl, Nat.le_of_ble_eq_true rfl⟩) rfl hl.1 rfl (Nat.le_of_ble_eq_true rfl) dX4_movesOf_84 (fun r10 M9 H locs hq hh => ?_)
            refine lv_iadd hx hb dX4_movesOf_87 ?_
            refine lv_istore_n (lv' := [(3, .int (x3 + r10)), (5, .int r6), (0, .ref (Y.2.1 27)), (1, .ref (Y.2.1 x1)), (2, .ref (Y.2.1 9)), (4, .int x4)]) hx hb dX4_movesOf_88 rfl hl (by decide) rfl (fun ls hl => ?_)
            refine lv_iinc (v := (x4 + (1 : Int32))) (lv' := [(4, .int (x4 + (1 : Int32))), (3, .int (x3 + r10)), (5, .int r6), (0, .ref (Y.2.1 27)), (1, .ref (Y.2.1 x1)), (2, .ref (Y.2.1 9))]) hx hb dX4_movesOf_89 hl (k := 5) rfl (sy_inc (by decide)) (by decide) rfl (fun ls hl => ?_)
            refine lv_goto (tgt := 5) hx hb dX4_movesOf_92 (by decide) ?_
            exact ih M9 x1 (x3 + r10) (x4 + (1 : Int32)) hx1 _ _ _ hq hh (lv_sub hl [3, 4, 5, 1, 0] rfl)
        · have hq := hq.2 c4
          refine lv_goto (tgt := 89) hx hb dX4_movesOf_39 (by decide) ?_
          refine lv_iinc (v := (x4 + (1 : Int32))) (lv' := [(4, .int (x4 + (1 : Int32))), (0, .ref (Y.2.1 27)), (1, .ref (Y.2.1 x1)), (2, .ref (Y.2.1 9)), (3, .int x3)]) hx hb dX4_movesOf_89 hl (k := 4) rfl (sy_inc (by decide)) (by decide) rfl (fun ls hl => ?_)
          refine lv_goto (tgt := 5) hx hb dX4_movesOf_92 (by decide) ?_
          exact ih M x1 x3 (x4 + (1 : Int32)) hx1 _ _ _ hq hh (lv_sub hl [1, 2, 3, 4, 0] rfl)

end
set_option maxHeartbeats 4000000 in
set_option maxRecDepth 100000 in
theorem mX4_movesOf (l : Launch) (Y : sy_Y) (sz : Nat) (M : sy_M) (p1 : Nat) (hp1 : iX7 p1) (Q : Int32 → sy_M → Prop) (hq : wX4_movesOf M p1 Q) : Met l yX4_movesOf vsX4_movesOf ({ frames := 2, cells := 0, slots := 0, locals := 46 } : Room) (va_Pc [.ref (Y.2.1 27), .ref (Y.2.1 p1), .ref (Y.2.1 9)] (sy_pre Y NX EX tfX sz M)) (sy_QI Y NX EX sz Q) 0 0 (sy_A NX Y.2.1 sz) := by
  refine sy_metI (by decide) rfl (Nat.le_of_ble_eq_true rfl) ?_
  intro p e s m args below meth c C ls hl hh
  have hx := C.1.1
  have hb := C.1.2.1
  have hl : lv_has ls 6 [(0, .ref (Y.2.1 27)), (1, .ref (Y.2.1 p1)), (2, .ref (Y.2.1 9))] := hl
  unfold wX4_movesOf at hq
  refine lv_iconst (v := (0 : Int32)) hx hb dX4_movesOf_0 (by decide) ?_
  refine lv_istore_n (lv' := [(3, .int (0 : Int32)), (0, .ref (Y.2.1 27)), (1, .ref (Y.2.1 p1)), (2, .ref (Y.2.1 9))]) hx hb dX4_movesOf_1 rfl hl (by decide) rfl (fun ls hl => ?_)
  refine lv_iconst (v := (0 : Int32)) hx hb dX4_movesOf_2 (by decide) ?_
  refine lv_istore (lv' := [(4, .int (0 : Int32)), (3, .int (0 : Int32)), (0, .ref (Y.2.1 27)), (1, .ref (Y.2.1 p1)), (2, .ref (Y.2.1 9))]) hx hb dX4_movesOf_3 hl (by decide) rfl (fun ls hl => ?_)
  obtain ⟨n11, hq⟩ := hq
  refine kX4_movesOf_5 C  n11 M p1 (0 : Int32) (0 : Int32) hp1 _ _ _ hq hh (lv_sub hl [2, 3, 4, 1, 0] rfl)

/-! AreaSetter$RowBreaker.endOfRow(II)I -/
def wX8_endOfRow_2 (Q : Int32 → sy_M → Prop) : Nat → sy_M → Int32 → Int32 → Prop
  | 0, _, _, _ => False
  | n + 1, M, x1, x3 => ((x3 ≤ (x1 + (1 : Int32)) → Q (x1 + (1 : Int32)) M) ∧ (¬ x3 ≤ (x1 + (1 : Int32)) → ∃ n2 : Nat, n2 < 72 ∧ ((x1 * (nI 9)) + x3) = nI n2 ∧ ∃ n3 : Nat, n3 < 9 ∧ (0 : Int32) = nI n3 ∧ (((M 56 n3) < (M 55 n2) → wX8_endOfRow_2 Q n M x1 (x3 + (-1 : Int32))) ∧ (¬ (M 56 n3) < (M 55 n2) → ∃ n5 : Nat, n5 < 9 ∧ x3 = nI n5 ∧ ∃ n6 : Nat, n6 < 9 ∧ x1 = nI n6 ∧ ((¬ ((M 57 n5) + (1 : Int32)) = (M 57 n6) → wX8_endOfRow_2 Q n M x1 (x3 + (-1 : Int32))) ∧ (((M 57 n5) + (1 : Int32)) = (M 57 n6) → Q x3 M))))))
def wX8_endOfRow (M : sy_M) (a1 : Int32) (a2 : Int32) (Q : Int32 → sy_M → Prop) : Prop := ∃ n8 : Nat, wX8_endOfRow_2  Q n8 M a1 a2
section
variable {p : Program} {l : Launch} {e : Env} {s : State} {m : MethodId} {args : Array Value} {below : List Frame} {meth : Method} {c : Code} {Y : sy_Y}
set_option maxHeartbeats 4000000 in
set_option maxRecDepth 100000 in
theorem kX8_endOfRow_2 (C : sy_C p m c cX8_endOfRow 4 s args vsX8_endOfRow RX8 meth (some .int) Y NX tfX) {Q : Int32 → sy_M → Prop} :
    ∀ (n : Nat) (M : sy_M) (x1 : Int32) (x3 : Int32) (H : Heap) (locs : List Loc) (ls : Array Slot), wX8_endOfRow_2 Q n M x1 x3 → sy_H Y NX EX s H locs M → lv_has ls 4 [(0, .ref (Y.2.1 54)), (1, .int x1), (3, .int x3)] → W p l e ({ frames := 0, cells := 0, slots := 0, locals := 0 } : Room) s m args below meth c H locs 0 0 (sy_ZI below args s Y NX EX Q) (F0 m 2 ls []) := by
  have hx := C.1.1
  have hb := C.1.2.1
  intro n
  induction n with
  | zero =>
    intro M x1 x3 H locs ls hq hh hl
    unfold wX8_endOfRow_2 at hq
    exact hq.elim
  | succ n ih =>
    intro M x1 x3 H locs ls hq hh hl
    unfold wX8_endOfRow_2 at hq
    refine lv_iload_n hx hb dX8_endOfRow_2 rfl (lv_at hl 2 rfl) ?_
    refine lv_iload_n hx hb dX8_endOfRow_3 rfl (lv_at hl 1 rfl) ?_
    refine lv_iconst (v := (1 : Int32)) hx hb dX8_endOfRow_4 (by decide) ?_
    refine lv_iadd hx hb dX8_endOfRow_5 ?_
    refine lv_icmp_le (tgt := 54) hx hb dX8_endOfRow_6 (by decide) (fun c1 => ?_) (fun c1 => ?_)
    · have hq := hq.1 c1
      refine lv_iload_n hx hb dX8_endOfRow_54 rfl (lv_at hl 1 rfl) ?_
      refine lv_iconst (v := (1 : Int32)) hx hb dX8_endOfRow_55 (by decide) ?_
      refine lv_iadd hx hb dX8_endOfRow_56 ?_
      exact sy_iret C hh dX8_endOfRow_57 hq
    · have hq := hq.2 c1
      refine lv_aload_n hx hb dX8_endOfRow_9 rfl (lv_at hl 0 rfl) ?_
      refine sy_get C hh (fun w h => mc (uX_fX8 w h)) 54 (by decide) (oX_54 Y) rfl 1 (by decide) (index := 18) (mc uX_181) (v := .ref (Y.2.1 55)) rfl dX8_endOfRow_10 ?_
      refine lv_iload_n hx hb dX8_endOfRow_13 rfl (lv_at hl 1 rfl) ?_
      refine lv_bipush (v := (nI 9)) hx hb dX8_endOfRow_14 (by decide) ?_
      refine lv_imul hx hb dX8_endOfRow_16 ?_
      refine lv_iload_n hx hb dX8_endOfRow_17 rfl (lv_at hl 2 rfl) ?_
      refine lv_iadd hx hb dX8_endOfRow_18 ?_
      obtain ⟨n2, hn2, en2, hq⟩ := hq
      refine sy_iald C hh 55 (by decide) (aX_55 Y) tX_55 hn2 en2 (by decide) dX8_endOfRow_19 ?_
      refine lv_aload_n hx hb dX8_endOfRow_20 rfl (lv_at hl 0 rfl) ?_
      refine sy_get C hh (fun w h => mc (uX_fX8 w h)) 54 (by decide) (oX_54 Y) rfl 2 (by decide) (index := 22) (mc uX_182) (v := .ref (Y.2.1 56)) rfl dX8_endOfRow_21 ?_
      refine lv_iconst (v := (0 : Int32)) hx hb dX8_endOfRow_24 (by decide) ?_
      obtain ⟨n3, hn3, en3, hq⟩ := hq
      refine sy_iald C hh 56 (by decide) (aX_56 Y) tX_56 hn3 en3 (by decide) dX8_endOfRow_25 ?_
      refine lv_icmp_gt (tgt := 48) hx hb dX8_endOfRow_26 (by decide) (fun c4 => ?_) (fun c4 => ?_)
      · have hq := hq.1 c4
        refine lv_iinc (v := (x3 + (-1 : Int32))) (lv' := [(3, .int (x3 + (-1 : Int32))), (0, .ref (Y.2.1 54)), (1, .int x1)]) hx hb dX8_endOfRow_48 hl (k := 2) rfl (sy_inc (by decide)) (by decide) rfl (fun ls hl => ?_)
        refine lv_goto (tgt := 2) hx hb dX8_endOfRow_51 (by decide) ?_
        exact ih M x1 (x3 + (-1 : Int32)) _ _ _ hq hh (lv_sub hl [1, 2, 0] rfl)
      · have hq := hq.2 c4
        refine lv_aload_n hx hb dX8_endOfRow_29 rfl (lv_at hl 0 rfl) ?_
        refine sy_get C hh (fun w h => mc (uX_fX8 w h)) 54 (by decide) (oX_54 Y) rfl 3 (by decide) (index := 25) (mc uX_183) (v := .ref (Y.2.1 57)) rfl dX8_endOfRow_30 ?_
        refine lv_iload_n hx hb dX8_endOfRow_33 rfl (lv_at hl 2 rfl) ?_
        obtain ⟨n5, hn5, en5, hq⟩ := hq
        refine sy_iald C hh 57 (by decide) (aX_57 Y) tX_57 hn5 en5 (by decide) dX8_endOfRow_34 ?_
        refine lv_iconst (v := (1 : Int32)) hx hb dX8_endOfRow_35 (by decide) ?_
        refine lv_iadd hx hb dX8_endOfRow_36 ?_
        refine lv_aload_n hx hb dX8_endOfRow_37 rfl (lv_at hl 0 rfl) ?_
        refine sy_get C hh (fun w h => mc (uX_fX8 w h)) 54 (by decide) (oX_54 Y) rfl 3 (by decide) (index := 25) (mc uX_183) (v := .ref (Y.2.1 57)) rfl dX8_endOfRow_38 ?_
        refine lv_iload_n hx hb dX8_endOfRow_41 rfl (lv_at hl 1 rfl) ?_
        obtain ⟨n6, hn6, en6, hq⟩ := hq
        refine sy_iald C hh 57 (by decide) (aX_57 Y) tX_57 hn6 en6 (by decide) dX8_endOfRow_42 ?_
        refine lv_icmp_ne (tgt := 48) hx hb dX8_endOfRow_43 (by decide) (fun c7 => ?_) (fun c7 => ?_)
        · have hq := hq.1 c7
          refine lv_iinc (v := (x3 + (-1 : Int32))) (lv' := [(3, .int (x3 + (-1 : Int32))), (0, .ref (Y.2.1 54)), (1, .int x1)]) hx hb dX8_endOfRow_48 hl (k := 2) rfl (sy_inc (by decide)) (by decide) rfl (fun ls hl => ?_)
          refine lv_goto (tgt := 2) hx hb dX8_endOfRow_51 (by decide) ?_
          exact ih M x1 (x3 + (-1 : Int32)) _ _ _ hq hh (lv_sub hl [1, 2, 0] rfl)
        · have hq := hq.2 c7
          refine lv_iload_n hx hb dX8_endOfRow_46 rfl (lv_at hl 2 rfl) ?_
          exact sy_iret C hh dX8_endOfRow_47 hq

end
set_option maxHeartbeats 4000000 in
set_option maxRecDepth 100000 in
theorem mX8_endOfRow (l : Launch) (Y : sy_Y) (sz : Nat) (M : sy_M) (a1 : Int32) (a2 : Int32) (Q : Int32 → sy_M → Prop) (hq : wX8_endOfRow M a1 a2 Q) : Met l yX8_endOfRow vsX8_endOfRow ({ frames := 0, cells := 0, slots := 0, locals := 0 } : Room) (va_Pc [.ref (Y.2.1 54), .int a1, .int a2] (sy_pre Y NX EX tfX sz M)) (sy_QI Y NX EX sz Q) 0 0 (sy_A NX Y.2.1 sz) := by
  refine sy_metI (by decide) rfl (Nat.le_of_ble_eq_true rfl) ?_
  intro p e s m args below meth c C ls hl hh
  have hx := C.1.1
  have hb := C.1.2.1
  have hl : lv_has ls 4 [(0, .ref (Y.2.1 54)), (1, .int a1), (2, .int a2)] := hl
  unfold wX8_endOfRow at hq
  refine lv_iload_n hx hb dX8_endOfRow_0 rfl (lv_at hl 2 rfl) ?_
  refine lv_istore_n (lv' := [(3, .int a2), (0, .ref (Y.2.1 54)), (1, .int a1), (2, .int a2)]) hx hb dX8_endOfRow_1 rfl hl (by decide) rfl (fun ls hl => ?_)
  obtain ⟨n8, hq⟩ := hq
  refine kX8_endOfRow_2 C  n8 M a1 a2 _ _ _ hq hh (lv_sub hl [1, 2, 0] rfl)

/-! AreaSetter$RowBreaker.findFewest(I)V -/
def wX8_findFewest_27 (K_81 : sy_M → Int32 → Int32 → Prop) (Q : sy_M → Prop) : Nat → sy_M → Int32 → Int32 → Int32 → Prop
  | 0, _, _, _, _ => False
  | n + 1, M, x1, x2, x3 => ((x1 < x3 → K_81 M x1 x2) ∧ (¬ x1 < x3 → ∃ n5 : Nat, n5 < 72 ∧ ((x2 * (nI 9)) + x3) = nI n5 ∧ ∃ n6 : Nat, n6 < 9 ∧ (0 : Int32) = nI n6 ∧ (((M 56 n6) < (M 55 n5) → wX8_findFewest_27 K_81 Q n M x1 x2 (x3 + (1 : Int32))) ∧ (¬ (M 56 n6) < (M 55 n5) → ∃ n8 : Nat, n8 < 9 ∧ x2 = nI n8 ∧ ∃ n9 : Nat, n9 < 9 ∧ x3 = nI n9 ∧ wX8_findFewest_27 K_81 Q n (mu M 57 n8 (imin (M 57 n8) ((M 57 n9) + (1 : Int32)))) x1 x2 (x3 + (1 : Int32))))))
def wX8_findFewest_11 (Q : sy_M → Prop) : Nat → sy_M → Int32 → Int32 → Prop
  | 0, _, _, _ => False
  | n + 1, M, x1, x2 => ((x2 < 0 → Q M) ∧ (¬ x2 < 0 → ∃ n3 : Nat, n3 < 9 ∧ x2 = nI n3 ∧ ∃ n13 : Nat, wX8_findFewest_27 (fun (M10 : sy_M) (x1_11 : Int32) (x2_12 : Int32) => wX8_findFewest_11 Q n M10 x1_11 (x2_12 + (-1 : Int32))) Q n13 (mu M 57 n3 (nI 9)) x1 x2 (x2 + (1 : Int32))))
def wX8_findFewest (M : sy_M) (a1 : Int32) (Q : sy_M → Prop) : Prop := ∃ n1 : Nat, n1 < 9 ∧ a1 = nI n1 ∧ ∃ n14 : Nat, wX8_findFewest_11  Q n14 (mu M 57 n1 (0 : Int32)) a1 (a1 - (1 : Int32))
section
variable {p : Program} {l : Launch} {e : Env} {s : State} {m : MethodId} {args : Array Value} {below : List Frame} {meth : Method} {c : Code} {Y : sy_Y}
set_option maxHeartbeats 4000000 in
set_option maxRecDepth 100000 in
theorem kX8_findFewest_27 (C : sy_C p m c cX8_findFewest 4 s args vsX8_findFewest RX8 meth none Y NX tfX) {Q : sy_M → Prop} {K_81 : sy_M → Int32 → Int32 → Prop} (hK_81 : ∀ (M : sy_M) (x1 : Int32) (x2 : Int32) (H : Heap) (locs : List Loc) (ls : Array Slot), K_81 M x1 x2 → sy_H Y NX EX s H locs M → lv_has ls 4 [(0, .ref (Y.2.1 54)), (1, .int x1), (2, .int x2)] → W p l e ({ frames := 1, cells := 0, slots := 0, locals := 21 } : Room) s m args below meth c H locs 0 0 (sy_ZV below args s Y NX EX Q) (F0 m 81 ls [])) :
    ∀ (n : Nat) (M : sy_M) (x1 : Int32) (x2 : Int32) (x3 : Int32) (H : Heap) (locs : List Loc) (ls : Array Slot), wX8_findFewest_27 K_81 Q n M x1 x2 x3 → sy_H Y NX EX s H locs M → lv_has ls 4 [(0, .ref (Y.2.1 54)), (1, .int x1), (2, .int x2), (3, .int x3)] → W p l e ({ frames := 1, cells := 0, slots := 0, locals := 21 } : Room) s m args below meth c H locs 0 0 (sy_ZV below args s Y NX EX Q) (F0 m 27 ls []) := by
  have hx := C.1.1
  have hb := C.1.2.1
  intro n
  induction n with
  | zero =>
    intro M x1 x2 x3 H locs ls hq hh hl
    unfold wX8_findFewest_27 at hq
    exact hq.elim
  | succ n ih =>
    intro M x1 x2 x3 H locs ls hq hh hl
    unfold wX8_findFewest_27 at hq
    refine lv_iload_n hx hb dX8_findFewest_27 rfl (lv_at hl 3 rfl) ?_
    refine lv_iload_n hx hb dX8_findFewest_28 rfl (lv_at hl 1 rfl) ?_
    refine lv_icmp_gt (tgt := 81) hx hb dX8_findFewest_29 (by decide) (fun c4 => ?_) (fun c4 => ?_)
    · have hq := hq.1 c4
      exact hK_81 M x1 x2 _ _ _ hq hh (lv_sub hl [0, 1, 2] rfl)
    · have hq := hq.2 c4
      refine lv_aload_n hx hb dX8_findFewest_32 rfl (lv_at hl 0 rfl) ?_
      refine sy_get C hh (fun w h => mc (uX_fX8 w h)) 54 (by decide) (oX_54 Y) rfl 1 (by decide) (index := 18) (mc uX_181) (v := .ref (Y.2.1 55)) rfl dX8_findFewest_33 ?_
      refine lv_iload_n hx hb dX8_findFewest_36 rfl (lv_at hl 2 rfl) ?_
      refine lv_bipush (v := (nI 9)) hx hb dX8_findFewest_37 (by decide) ?_
      refine lv_imul hx hb dX8_findFewest_39 ?_
      refine lv_iload_n hx hb dX8_findFewest_40 rfl (lv_at hl 3 rfl) ?_
      refine lv_iadd hx hb dX8_findFewest_41 ?_
      obtain ⟨n5, hn5, en5, hq⟩ := hq
      refine sy_iald C hh 55 (by decide) (aX_55 Y) tX_55 hn5 en5 (by decide) dX8_findFewest_42 ?_
      refine lv_aload_n hx hb dX8_findFewest_43 rfl (lv_at hl 0 rfl) ?_
      refine sy_get C hh (fun w h => mc (uX_fX8 w h)) 54 (by decide) (oX_54 Y) rfl 2 (by decide) (index := 22) (mc uX_182) (v := .ref (Y.2.1 56)) rfl dX8_findFewest_44 ?_
      refine lv_iconst (v := (0 : Int32)) hx hb dX8_findFewest_47 (by decide) ?_
      obtain ⟨n6, hn6, en6, hq⟩ := hq
      refine sy_iald C hh 56 (by decide) (aX_56 Y) tX_56 hn6 en6 (by decide) dX8_findFewest_48 ?_
      refine lv_icmp_gt (tgt := 75) hx hb dX8_findFewest_49 (by decide) (fun c7 => ?_) (fun c7 => ?_)
      · have hq := hq.1 c7
        refine lv_iinc (v := (x3 + (1 : Int32))) (lv' := [(3, .int (x3 + (1 : Int32))), (0, .ref (Y.2.1 54)), (1, .int x1), (2, .int x2)]) hx hb dX8_findFewest_75 hl (k := 3) rfl (sy_inc (by decide)) (by decide) rfl (fun ls hl => ?_)
        refine lv_goto (tgt := 27) hx hb dX8_findFewest_78 (by decide) ?_
        exact ih M x1 x2 (x3 + (1 : Int32)) _ _ _ hq hh (lv_sub hl [1, 2, 3, 0] rfl)
      · have hq := hq.2 c7
        refine lv_aload_n hx hb dX8_findFewest_52 rfl (lv_at hl 0 rfl) ?_
        refine sy_get C hh (fun w h => mc (uX_fX8 w h)) 54 (by decide) (oX_54 Y) rfl 3 (by decide) (index := 25) (mc uX_183) (v := .ref (Y.2.1 57)) rfl dX8_findFewest_53 ?_
        refine lv_iload_n hx hb dX8_findFewest_56 rfl (lv_at hl 2 rfl) ?_
        refine lv_aload_n hx hb dX8_findFewest_57 rfl (lv_at hl 0 rfl) ?_
        refine sy_get C hh (fun w h => mc (uX_fX8 w h)) 54 (by decide) (oX_54 Y) rfl 3 (by decide) (index := 25) (mc uX_183) (v := .ref (Y.2.1 57)) rfl dX8_findFewest_58 ?_
        refine lv_iload_n hx hb dX8_findFewest_61 rfl (lv_at hl 2 rfl) ?_
        obtain ⟨n8, hn8, en8, hq⟩ := hq
        refine sy_iald C hh 57 (by decide) (aX_57 Y) tX_57 hn8 en8 (by decide) dX8_findFewest_62 ?_
        refine lv_aload_n hx hb dX8_findFewest_63 rfl (lv_at hl 0 rfl) ?_
        refine sy_get C hh (fun w h => mc (uX_fX8 w h)) 54 (by decide) (oX_54 Y) rfl 3 (by decide) (index := 25) (mc uX_183) (v := .ref (Y.2.1 57)) rfl dX8_findFewest_64 ?_
        refine lv_iload_n hx hb dX8_findFewest_67 rfl (lv_at hl 3 rfl) ?_
        obtain ⟨n9, hn9, en9, hq⟩ := hq
        refine sy_iald C hh 57 (by decide) (aX_57 Y) tX_57 hn9 en9 (by decide) dX8_findFewest_68 ?_
        refine lv_iconst (v := (1 : Int32)) hx hb dX8_findFewest_69 (by decide) ?_
        refine lv_iadd hx hb dX8_findFewest_70 ?_
        refine sy_mmin C hl (index := 80) (mc uX_222) (mc uX_65) (mc uX_25) (mc uX_66) (by decide) (Nat.le_of_ble_eq_true rfl) dX8_findFewest_71 ?_
        refine sy_iast C hh 57 (by decide) (aX_57 Y) tX_57 hn8 en8 (by decide) dX8_findFewest_74 (fun H locs hh => ?_)
        refine lv_iinc (v := (x3 + (1 : Int32))) (lv' := [(3, .int (x3 + (1 : Int32))), (0, .ref (Y.2.1 54)), (1, .int x1), (2, .int x2)]) hx hb dX8_findFewest_75 hl (k := 3) rfl (sy_inc (by decide)) (by decide) rfl (fun ls hl => ?_)
        refine lv_goto (tgt := 27) hx hb dX8_findFewest_78 (by decide) ?_
        exact ih (mu M 57 n8 (imin (M 57 n8) ((M 57 n9) + (1 : Int32)))) x1 x2 (x3 + (1 : Int32)) _ _ _ hq hh (lv_sub hl [1, 2, 3, 0] rfl)

set_option maxHeartbeats 4000000 in
set_option maxRecDepth 100000 in
theorem kX8_findFewest_11 (C : sy_C p m c cX8_findFewest 4 s args vsX8_findFewest RX8 meth none Y NX tfX) {Q : sy_M → Prop} :
    ∀ (n : Nat) (M : sy_M) (x1 : Int32) (x2 : Int32) (H : Heap) (locs : List Loc) (ls : Array Slot), wX8_findFewest_11 Q n M x1 x2 → sy_H Y NX EX s H locs M → lv_has ls 4 [(0, .ref (Y.2.1 54)), (1, .int x1), (2, .int x2)] → W p l e ({ frames := 1, cells := 0, slots := 0, locals := 21 } : Room) s m args below meth c H locs 0 0 (sy_ZV below args s Y NX EX Q) (F0 m 11 ls []) := by
  have hx := C.1.1
  have hb := C.1.2.1
  intro n
  induction n with
  | zero =>
    intro M x1 x2 H locs ls hq hh hl
    unfold wX8_findFewest_11 at hq
    exact hq.elim
  | succ n ih =>
    intro M x1 x2 H locs ls hq hh hl
    unfold wX8_findFewest_11 at hq
    refine lv_iload_n hx hb dX8_findFewest_11 rfl (lv_at hl 2 rfl) ?_
    refine lv_if_lt (tgt := 87) hx hb dX8_findFewest_12 (by decide) (fun c2 => ?_) (fun c2 => ?_)
    · have hq := hq.1 c2
      exact sy_vret C hh dX8_findFewest_87 hq
    · have hq := hq.2 c2
      refine lv_aload_n hx hb dX8_findFewest_15 rfl (lv_at hl 0 rfl) ?_
      refine sy_get C hh (fun w h => mc (uX_fX8 w h)) 54 (by decide) (oX_54 Y) rfl 3 (by decide) (index := 25) (mc uX_183) (v := .ref (Y.2.1 57)) rfl dX8_findFewest_16 ?_
      refine lv_iload_n hx hb dX8_findFewest_19 rfl (lv_at hl 2 rfl) ?_
      refine lv_bipush (v := (nI 9)) hx hb dX8_findFewest_20 (by decide) ?_
      obtain ⟨n3, hn3, en3, hq⟩ := hq
      refine sy_iast C hh 57 (by decide) (aX_57 Y) tX_57 hn3 en3 (by decide) dX8_findFewest_22 (fun H locs hh => ?_)
      refine lv_iload_n hx hb dX8_findFewest_23 rfl (lv_at hl 2 rfl) ?_
      refine lv_iconst (v := (1 : Int32)) hx hb dX8_findFewest_24 (by decide) ?_
      refine lv_iadd hx hb dX8_findFewest_25 ?_
      refine lv_istore_n (lv' := [(3, .int (x2 + (1 : Int32))), (0, .ref (Y.2.1 54)), (1, .int x1), (2, .int x2)]) hx hb dX8_findFewest_26 rfl hl (by decide) rfl (fun ls hl => ?_)
      obtain ⟨n13, hq⟩ := hq
      refine kX8_findFewest_27 C (fun M10 x1_11 x2_12 H locs ls hq hh hl => ?_) n13 (mu M 57 n3 (nI 9)) x1 x2 (x2 + (1 : Int32)) _ _ _ hq hh (lv_sub hl [1, 2, 3, 0] rfl)
      · refine lv_iinc (v := (x2_12 + (-1 : Int32))) (lv' := [(2, .int (x2_12 + (-1 : Int32))), (0, .ref (Y.2.1 54)), (1, .int x1_11)]) hx hb dX8_findFewest_81 hl (k := 2) rfl (sy_inc (by decide)) (by decide) rfl (fun ls hl => ?_)
        refine lv_goto (tgt := 11) hx hb dX8_findFewest_84 (by decide) ?_
        exact ih M10 x1_11 (x2_12 + (-1 : Int32)) _ _ _ hq hh (lv_sub hl [1, 2, 0] rfl)

end
set_option maxHeartbeats 4000000 in
set_option maxRecDepth 100000 in
theorem mX8_findFewest (l : Launch) (Y : sy_Y) (sz : Nat) (M : sy_M) (a1 : Int32) (Q : sy_M → Prop) (hq : wX8_findFewest M a1 Q) : Met l yX8_findFewest vsX8_findFewest ({ frames := 1, cells := 0, slots := 0, locals := 21 } : Room) (va_Pc [.ref (Y.2.1 54), .int a1] (sy_pre Y NX EX tfX sz M)) (sy_QV Y NX EX sz Q) 0 0 (sy_A NX Y.2.1 sz) := by
  refine sy_metV (by decide) rfl (Nat.le_of_ble_eq_true rfl) ?_
  intro p e s m args below meth c C ls hl hh
  have hx := C.1.1
  have hb := C.1.2.1
  have hl : lv_has ls 4 [(0, .ref (Y.2.1 54)), (1, .int a1)] := hl
  unfold wX8_findFewest at hq
  refine lv_aload_n hx hb dX8_findFewest_0 rfl (lv_at hl 0 rfl) ?_
  refine sy_get C hh (fun w h => mc (uX_fX8 w h)) 54 (by decide) (oX_54 Y) rfl 3 (by decide) (index := 25) (mc uX_183) (v := .ref (Y.2.1 57)) rfl dX8_findFewest_1 ?_
  refine lv_iload_n hx hb dX8_findFewest_4 rfl (lv_at hl 1 rfl) ?_
  refine lv_iconst (v := (0 : Int32)) hx hb dX8_findFewest_5 (by decide) ?_
  obtain ⟨n1, hn1, en1, hq⟩ := hq
  refine sy_iast C hh 57 (by decide) (aX_57 Y) tX_57 hn1 en1 (by decide) dX8_findFewest_6 (fun H locs hh => ?_)
  refine lv_iload_n hx hb dX8_findFewest_7 rfl (lv_at hl 1 rfl) ?_
  refine lv_iconst (v := (1 : Int32)) hx hb dX8_findFewest_8 (by decide) ?_
  refine lv_isub hx hb dX8_findFewest_9 ?_
  refine lv_istore_n (lv' := [(2, .int (a1 - (1 : Int32))), (0, .ref (Y.2.1 54)), (1, .int a1)]) hx hb dX8_findFewest_10 rfl hl (by decide) rfl (fun ls hl => ?_)
  obtain ⟨n14, hq⟩ := hq
  refine kX8_findFewest_11 C  n14 (mu M 57 n1 (0 : Int32)) a1 (a1 - (1 : Int32)) _ _ _ hq hh (lv_sub hl [1, 2, 0] rfl)

