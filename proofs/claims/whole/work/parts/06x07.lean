/-! AreaSetter$RowBreaker.lay(LAreaSetter$Items;LAreaSetter$Plan;)V -/
def wX8_lay_21 (K_54 : sy_M → Nat → Int32 → Int32 → Prop) (Q : sy_M → Prop) : Nat → sy_M → Nat → Int32 → Int32 → Int32 → Prop
  | 0, _, _, _, _, _ => False
  | n + 1, M, x2, x3, x4, x5 => ((x3 < x5 → K_54 M x2 x3 x4) ∧ (¬ x3 < x5 → wX8_worstOfRow M x4 x5 (fun r4 M3 => ∃ n5 : Nat, n5 < 72 ∧ ((x4 * (nI 9)) + x5) = nI n5 ∧ wX8_lay_21 K_54 Q n (mu M3 55 n5 r4) x2 x3 x4 (x5 + (1 : Int32)))))
def wX8_lay_10 (K_60 : sy_M → Nat → Int32 → Prop) (Q : sy_M → Prop) : Nat → sy_M → Nat → Int32 → Int32 → Prop
  | 0, _, _, _, _ => False
  | n + 1, M, x2, x3, x4 => ((x4 < 0 → K_60 M x2 x3) ∧ (¬ x4 < 0 → ∃ n10 : Nat, wX8_lay_21 (fun (M6 : sy_M) (x2_7 : Nat) (x3_8 : Int32) (x4_9 : Int32) => wX8_lay_10 K_60 Q n M6 x2_7 x3_8 (x4_9 + (-1 : Int32))) Q n10 M x2 x3 x4 (x4 + (1 : Int32))))
def wX8_lay_81 (Q : sy_M → Prop) : Nat → sy_M → Nat → Int32 → Int32 → Int32 → Prop
  | 0, _, _, _, _, _ => False
  | n + 1, M, x2, x3, x4, x5 => ((x3 ≤ x5 → Q M) ∧ (¬ x3 ≤ x5 → ((x3 ≤ x4 → Q M) ∧ (¬ x3 ≤ x4 → wX8_endOfRow M x4 x3 (fun r19 M18 => wX8_layRow M18 x2 x4 r19 (fun M20 => wX8_lay_81 Q n M20 x2 x3 r19 (x5 + (1 : Int32))))))))
def wX8_lay (M : sy_M) (p2 : Nat) (Q : sy_M → Prop) : Prop := ∃ n22 : Nat, wX8_lay_10 (fun (M11 : sy_M) (x2_12 : Nat) (x3_13 : Int32) => wX8_findLeast M11 x3_13 (fun M14 => wX8_findFewest M14 x3_13 (fun M15 => ∃ n21 : Nat, wX8_lay_81  Q n21 (mu M15 x2_12 0 (0 : Int32)) x2_12 x3_13 (0 : Int32) (0 : Int32)))) Q n22 M p2 (M 28 0) ((M 28 0) - (1 : Int32))
section
variable {p : Program} {l : Launch} {e : Env} {s : State} {m : MethodId} {args : Array Value} {below : List Frame} {meth : Method} {c : Code} {Y : sy_Y}
set_option maxHeartbeats 4000000 in
set_option maxRecDepth 100000 in
theorem kX8_lay_21 (C : sy_C p m c cX8_lay 7 s args vsX8_lay RX8 meth none Y NX tfX) {Q : sy_M → Prop} {K_54 : sy_M → Nat → Int32 → Int32 → Prop} (hK_54 : ∀ (M : sy_M) (x2 : Nat) (x3 : Int32) (x4 : Int32) (hx2 : iX5 x2) (H : Heap) (locs : List Loc) (ls : Array Slot), K_54 M x2 x3 x4 → sy_H Y NX EX s H locs M → lv_has ls 7 [(0, .ref (Y.2.1 54)), (1, .ref (Y.2.1 28)), (2, .ref (Y.2.1 x2)), (3, .int x3), (4, .int x4)] → W p l e ({ frames := 4, cells := 0, slots := 0, locals := 98 } : Room) s m args below meth c H locs 0 0 (sy_ZV below args s Y NX EX Q) (F0 m 54 ls [])) :
    ∀ (n : Nat) (M : sy_M) (x2 : Nat) (x3 : Int32) (x4 : Int32) (x5 : Int32) (hx2 : iX5 x2) (H : Heap) (locs : List Loc) (ls : Array Slot), wX8_lay_21 K_54 Q n M x2 x3 x4 x5 → sy_H Y NX EX s H locs M → lv_has ls 7 [(0, .ref (Y.2.1 54)), (1, .ref (Y.2.1 28)), (2, .ref (Y.2.1 x2)), (3, .int x3), (4, .int x4), (5, .int x5)] → W p l e ({ frames := 4, cells := 0, slots := 0, locals := 98 } : Room) s m args below meth c H locs 0 0 (sy_ZV below args s Y NX EX Q) (F0 m 21 ls []) := by
  have hx := C.1.1
  have hb := C.1.2.1
  intro n
  induction n with
  | zero =>
    intro M x2 x3 x4 x5 hx2 H locs ls hq hh hl
    unfold wX8_lay_21 at hq
    exact hq.elim
  | succ n ih =>
    intro M x2 x3 x4 x5 hx2 H locs ls hq hh hl
    unfold wX8_lay_21 at hq
    refine lv_iload hx hb dX8_lay_21 (lv_at hl 5 rfl) ?_
    refine lv_iload_n hx hb dX8_lay_23 rfl (lv_at hl 3 rfl) ?_
    refine lv_icmp_gt (tgt := 54) hx hb dX8_lay_24 (by decide) (fun c2 => ?_) (fun c2 => ?_)
    · have hq := hq.1 c2
      exact hK_54 M x2 x3 x4 hx2 _ _ _ hq hh (lv_sub hl [0, 1, 2, 3, 4] rfl)
    · have hq := hq.2 c2
      refine lv_aload_n hx hb dX8_lay_27 rfl (lv_at hl 0 rfl) ?_
      refine sy_get C hh (fun w h => mc (uX_fX8 w h)) 54 (by decide) (oX_54 Y) rfl 0 (by decide) (index := 11) (mc uX_182) (v := .ref (Y.2.1 55)) rfl dX8_lay_28 ?_
      refine lv_iload hx hb dX8_lay_31 (lv_at hl 4 rfl) ?_
      refine lv_bipush (v := (nI 9)) hx hb dX8_lay_33 (by decide) ?_
      refine lv_imul hx hb dX8_lay_35 ?_
      refine lv_iload hx hb dX8_lay_36 (lv_at hl 5 rfl) ?_
      refine lv_iadd hx hb dX8_lay_38 ?_
      refine lv_aload_n hx hb dX8_lay_39 rfl (lv_at hl 1 rfl) ?_
      refine lv_iload hx hb dX8_lay_40 (lv_at hl 4 rfl) ?_
      refine lv_iload hx hb dX8_lay_42 (lv_at hl 5 rfl) ?_
      refine sy_cIS C hh (As := [.ref (Y.2.1 28), .int x4, .int x5]) (rest := [.int ((x4 * (nI 9)) + x5), .ref (Y.2.1 55)]) (mX8_worstOfRow l Y _ M x4 x5 _ hq) (va_cwS 3 C.1.2.2.2.2 (sy_goodS uX_good uX_230 uX_231 uX_195 uX_219 _) rfl rfl rfl hdX8_worstOfRow.2 ⟨Nat.le_of_ble_eq_true rfl, Nat.le_of_ble_eq_true rfl⟩) rfl hl.1 rfl (Nat.le_of_ble_eq_true rfl) dX8_lay_44 (fun r4 M3 H locs hq hh => ?_)
      obtain ⟨n5, hn5, en5, hq⟩ := hq
      refine sy_iast C hh 55 (by decide) (aX_55 Y) tX_55 hn5 en5 (by decide) dX8_lay_47 (fun H locs hh => ?_)
      refine lv_iinc (v := (x5 + (1 : Int32))) (lv' := [(5, .int (x5 + (1 : Int32))), (0, .ref (Y.2.1 54)), (1, .ref (Y.2.1 28)), (2, .ref (Y.2.1 x2)), (3, .int x3), (4, .int x4)]) hx hb dX8_lay_48 hl (k := 5) rfl (sy_inc (by decide)) (by decide) rfl (fun ls hl => ?_)
      refine lv_goto (tgt := 21) hx hb dX8_lay_51 (by decide) ?_
      exact ih (mu M3 55 n5 r4) x2 x3 x4 (x5 + (1 : Int32)) hx2 _ _ _ hq hh (lv_sub hl [1, 2, 3, 4, 5, 0] rfl)

set_option maxHeartbeats 4000000 in
set_option maxRecDepth 100000 in
theorem kX8_lay_10 (C : sy_C p m c cX8_lay 7 s args vsX8_lay RX8 meth none Y NX tfX) {Q : sy_M → Prop} {K_60 : sy_M → Nat → Int32 → Prop} (hK_60 : ∀ (M : sy_M) (x2 : Nat) (x3 : Int32) (hx2 : iX5 x2) (H : Heap) (locs : List Loc) (ls : Array Slot), K_60 M x2 x3 → sy_H Y NX EX s H locs M → lv_has ls 7 [(0, .ref (Y.2.1 54)), (1, .ref (Y.2.1 28)), (2, .ref (Y.2.1 x2)), (3, .int x3)] → W p l e ({ frames := 4, cells := 0, slots := 0, locals := 98 } : Room) s m args below meth c H locs 0 0 (sy_ZV below args s Y NX EX Q) (F0 m 60 ls [])) :
    ∀ (n : Nat) (M : sy_M) (x2 : Nat) (x3 : Int32) (x4 : Int32) (hx2 : iX5 x2) (H : Heap) (locs : List Loc) (ls : Array Slot), wX8_lay_10 K_60 Q n M x2 x3 x4 → sy_H Y NX EX s H locs M → lv_has ls 7 [(0, .ref (Y.2.1 54)), (1, .ref (Y.2.1 28)), (2, .ref (Y.2.1 x2)), (3, .int x3), (4, .int x4)] → W p l e ({ frames := 4, cells := 0, slots := 0, locals := 98 } : Room) s m args below meth c H locs 0 0 (sy_ZV below args s Y NX EX Q) (F0 m 10 ls []) := by
  have hx := C.1.1
  have hb := C.1.2.1
  intro n
  induction n with
  | zero =>
    intro M x2 x3 x4 hx2 H locs ls hq hh hl
    unfold wX8_lay_10 at hq
    exact hq.elim
  | succ n ih =>
    intro M x2 x3 x4 hx2 H locs ls hq hh hl
    unfold wX8_lay_10 at hq
    refine lv_iload hx hb dX8_lay_10 (lv_at hl 4 rfl) ?_
    refine lv_if_lt (tgt := 60) hx hb dX8_lay_12 (by decide) (fun c1 => ?_) (fun c1 => ?_)
    · have hq := hq.1 c1
      exact hK_60 M x2 x3 hx2 _ _ _ hq hh (lv_sub hl [0, 1, 2, 3] rfl)
    · have hq := hq.2 c1
      refine lv_iload hx hb dX8_lay_15 (lv_at hl 4 rfl) ?_
      refine lv_iconst (v := (1 : Int32)) hx hb dX8_lay_17 (by decide) ?_
      refine lv_iadd hx hb dX8_lay_18 ?_
      refine lv_istore (lv' := [(5, .int (x4 + (1 : Int32))), (0, .ref (Y.2.1 54)), (1, .ref (Y.2.1 28)), (2, .ref (Y.2.1 x2)), (3, .int x3), (4, .int x4)]) hx hb dX8_lay_19 hl (by decide) rfl (fun ls hl => ?_)
      obtain ⟨n10, hq⟩ := hq
      refine kX8_lay_21 C (fun M6 x2_7 x3_8 x4_9 hx2_7 H locs ls hq hh hl => ?_) n10 M x2 x3 x4 (x4 + (1 : Int32)) hx2 _ _ _ hq hh (lv_sub hl [1, 2, 3, 4, 5, 0] rfl)
      · refine lv_iinc (v := (x4_9 + (-1 : Int32))) (lv' := [(4, .int (x4_9 + (-1 : Int32))), (0, .ref (Y.2.1 54)), (1, .ref (Y.2.1 28)), (2, .ref (Y.2.1 x2_7)), (3, .int x3_8)]) hx hb dX8_lay_54 hl (k := 4) rfl (sy_inc (by decide)) (by decide) rfl (fun ls hl => ?_)
        refine lv_goto (tgt := 10) hx hb dX8_lay_57 (by decide) ?_
        exact ih M6 x2_7 x3_8 (x4_9 + (-1 : Int32)) hx2_7 _ _ _ hq hh (lv_sub hl [1, 2, 3, 4, 0] rfl)

set_option maxHeartbeats 4000000 in
set_option maxRecDepth 100000 in
theorem kX8_lay_81 (C : sy_C p m c cX8_lay 7 s args vsX8_lay RX8 meth none Y NX tfX) {Q : sy_M → Prop} :
    ∀ (n : Nat) (M : sy_M) (x2 : Nat) (x3 : Int32) (x4 : Int32) (x5 : Int32) (hx2 : iX5 x2) (H : Heap) (locs : List Loc) (ls : Array Slot), wX8_lay_81 Q n M x2 x3 x4 x5 → sy_H Y NX EX s H locs M → lv_has ls 7 [(0, .ref (Y.2.1 54)), (1, .ref (Y.2.1 28)), (2, .ref (Y.2.1 x2)), (3, .int x3), (4, .int x4), (5, .int x5)] → W p l e ({ frames := 4, cells := 0, slots := 0, locals := 98 } : Room) s m args below meth c H locs 0 0 (sy_ZV below args s Y NX EX Q) (F0 m 81 ls []) := by
  have hx := C.1.1
  have hb := C.1.2.1
  intro n
  induction n with
  | zero =>
    intro M x2 x3 x4 x5 hx2 H locs ls hq hh hl
    unfold wX8_lay_81 at hq
    exact hq.elim
  | succ n ih =>
    intro M x2 x3 x4 x5 hx2 H locs ls hq hh hl
    unfold wX8_lay_81 at hq
    refine lv_iload hx hb dX8_lay_81 (lv_at hl 5 rfl) ?_
    refine lv_iload_n hx hb dX8_lay_83 rfl (lv_at hl 3 rfl) ?_
    refine lv_icmp_ge (tgt := 121) hx hb dX8_lay_84 (by decide) (fun c16 => ?_) (fun c16 => ?_)
    · have hq := hq.1 c16
      exact sy_vret C hh dX8_lay_121 hq
    · have hq := hq.2 c16
      refine lv_iload hx hb dX8_lay_87 (lv_at hl 4 rfl) ?_
      refine lv_iload_n hx hb dX8_lay_89 rfl (lv_at hl 3 rfl) ?_
      refine lv_icmp_ge (tgt := 121) hx hb dX8_lay_90 (by decide) (fun c17 => ?_) (fun c17 => ?_)
      · have hq := hq.1 c17
        exact sy_vret C hh dX8_lay_121 hq
      · have hq := hq.2 c17
        refine lv_aload_n hx hb dX8_lay_93 rfl (lv_at hl 0 rfl) ?_
        refine lv_iload hx hb dX8_lay_94 (lv_at hl 4 rfl) ?_
        refine lv_iload_n hx hb dX8_lay_96 rfl (lv_at hl 3 rfl) ?_
        refine sy_cIV C hh (As := [.int x4, .int x3]) (rest := []) 54 (by decide) (oX_54 Y) rfl (mX8_endOfRow l Y _ M x4 x3 _ hq) (cwV 2 C.1.2.2.2.2 (sy_goodV uX_good uX_238 uX_239 uX_240 uX_195 uX_224 _) rfl rfl rfl hdX8_endOfRow ⟨Nat.le_of_ble_eq_true rfl, Nat.le_of_ble_eq_true rfl⟩) rfl hl.1 rfl (Nat.le_of_ble_eq_true rfl) dX8_lay_97 (fun r19 M18 H locs hq hh => ?_)
        refine lv_istore (lv' := [(6, .int r19), (0, .ref (Y.2.1 54)), (1, .ref (Y.2.1 28)), (2, .ref (Y.2.1 x2)), (3, .int x3), (4, .int x4), (5, .int x5)]) hx hb dX8_lay_100 hl (by decide) rfl (fun ls hl => ?_)
        refine lv_aload_n hx hb dX8_lay_102 rfl (lv_at hl 2 rfl) ?_
        refine lv_aload_n hx hb dX8_lay_103 rfl (lv_at hl 3 rfl) ?_
        refine lv_iload hx hb dX8_lay_104 (lv_at hl 5 rfl) ?_
        refine lv_iload hx hb dX8_lay_106 (lv_at hl 0 rfl) ?_
        refine sy_cVS C hh (As := [.ref (Y.2.1 28), .ref (Y.2.1 x2), .int x4, .int r19]) (rest := []) (mX8_layRow l Y _ M18 x2 hx2 x4 r19 _ hq) (va_cwS 4 C.1.2.2.2.2 (sy_goodS uX_good uX_241 uX_242 uX_195 uX_228 _) rfl rfl rfl hdX8_layRow.2 ⟨Nat.le_of_ble_eq_true rfl, Nat.le_of_ble_eq_true rfl⟩) rfl hl.1 rfl (Nat.le_of_ble_eq_true rfl) dX8_lay_108 (fun M20 H locs hq hh => ?_)
        refine lv_iload hx hb dX8_lay_111 (lv_at hl 0 rfl) ?_
        refine lv_istore (lv' := [(4, .int r19), (6, .int r19), (0, .ref (Y.2.1 54)), (1, .ref (Y.2.1 28)), (2, .ref (Y.2.1 x2)), (3, .int x3), (5, .int x5)]) hx hb dX8_lay_113 hl (by decide) rfl (fun ls hl => ?_)
        refine lv_iinc (v := (x5 + (1 : Int32))) (lv' := [(5, .int (x5 + (1 : Int32))), (4, .int r19), (6, .int r19), (0, .ref (Y.2.1 54)), (1, .ref (Y.2.1 28)), (2, .ref (Y.2.1 x2)), (3, .int x3)]) hx hb dX8_lay_115 hl (k := 6) rfl (sy_inc (by decide)) (by decide) rfl (fun ls hl => ?_)
        refine lv_goto (tgt := 81) hx hb dX8_lay_118 (by decide) ?_
        exact ih M20 x2 x3 r19 (x5 + (1 : Int32)) hx2 _ _ _ hq hh (lv_sub hl [3, 4, 5, 6, 1, 0] rfl)

end
set_option maxHeartbeats 4000000 in
set_option maxRecDepth 100000 in
theorem mX8_lay (l : Launch) (Y : sy_Y) (sz : Nat) (M : sy_M) (p2 : Nat) (hp2 : iX5 p2) (Q : sy_M → Prop) (hq : wX8_lay M p2 Q) : Met l yX8_lay vsX8_lay ({ frames := 4, cells := 0, slots := 0, locals := 98 } : Room) (va_Pc [.ref (Y.2.1 54), .ref (Y.2.1 28), .ref (Y.2.1 p2)] (sy_pre Y NX EX tfX sz M)) (sy_QV Y NX EX sz Q) 0 0 (sy_A NX Y.2.1 sz) := by
  refine sy_metV (by decide) rfl (Nat.le_of_ble_eq_true rfl) ?_
  intro p e s m args below meth c C ls hl hh
  have hx := C.1.1
  have hb := C.1.2.1
  have hl : lv_has ls 7 [(0, .ref (Y.2.1 54)), (1, .ref (Y.2.1 28)), (2, .ref (Y.2.1 p2))] := hl
  unfold wX8_lay at hq
  refine lv_aload_n hx hb dX8_lay_0 rfl (lv_at hl 1 rfl) ?_
  refine sy_get C hh (fun w h => mc (uX_fX3 w h)) 28 (by decide) (oX_28 Y) rfl 0 (by decide) (index := 21) (mc uX_212) (v := .int (M 28 0)) rfl dX8_lay_1 ?_
  refine lv_istore_n (lv' := [(3, .int (M 28 0)), (0, .ref (Y.2.1 54)), (1, .ref (Y.2.1 28)), (2, .ref (Y.2.1 p2))]) hx hb dX8_lay_4 rfl hl (by decide) rfl (fun ls hl => ?_)
  refine lv_iload_n hx hb dX8_lay_5 rfl (lv_at hl 0 rfl) ?_
  refine lv_iconst (v := (1 : Int32)) hx hb dX8_lay_6 (by decide) ?_
  refine lv_isub hx hb dX8_lay_7 ?_
  refine lv_istore (lv' := [(4, .int ((M 28 0) - (1 : Int32))), (3, .int (M 28 0)), (0, .ref (Y.2.1 54)), (1, .ref (Y.2.1 28)), (2, .ref (Y.2.1 p2))]) hx hb dX8_lay_8 hl (by decide) rfl (fun ls hl => ?_)
  obtain ⟨n22, hq⟩ := hq
  refine kX8_lay_10 C (fun M11 x2_12 x3_13 hx2_12 H locs ls hq hh hl => ?_) n22 M p2 (M 28 0) ((M 28 0) - (1 : Int32)) hp2 _ _ _ hq hh (lv_sub hl [2, 3, 4, 1, 0] rfl)
  · refine lv_aload_n hx hb dX8_lay_60 rfl (lv_at hl 0 rfl) ?_
    refine lv_iload_n hx hb dX8_lay_61 rfl (lv_at hl 3 rfl) ?_
    refine sy_cVV C hh (As := [.int x3_13]) (rest := []) 54 (by decide) (oX_54 Y) rfl (mX8_findLeast l Y _ M11 x3_13 _ hq) (cwV 1 C.1.2.2.2.2 (sy_goodV uX_good uX_232 uX_233 uX_234 uX_195 uX_220 _) rfl rfl rfl hdX8_findLeast ⟨Nat.le_of_ble_eq_true rfl, Nat.le_of_ble_eq_true rfl⟩) rfl hl.1 rfl (Nat.le_of_ble_eq_true rfl) dX8_lay_62 (fun M14 H locs hq hh => ?_)
    refine lv_aload_n hx hb dX8_lay_65 rfl (lv_at hl 0 rfl) ?_
    refine lv_iload_n hx hb dX8_lay_66 rfl (lv_at hl 3 rfl) ?_
    refine sy_cVV C hh (As := [.int x3_13]) (rest := []) 54 (by decide) (oX_54 Y) rfl (mX8_findFewest l Y _ M14 x3_13 _ hq) (cwV 1 C.1.2.2.2.2 (sy_goodV uX_good uX_235 uX_236 uX_237 uX_195 uX_223 _) rfl rfl rfl hdX8_findFewest ⟨Nat.le_of_ble_eq_true rfl, Nat.le_of_ble_eq_true rfl⟩) rfl hl.1 rfl (Nat.le_of_ble_eq_true rfl) dX8_lay_67 (fun M15 H locs hq hh => ?_)
    refine lv_aload_n hx hb dX8_lay_70 rfl (lv_at hl 2 rfl) ?_
    refine lv_iconst (v := (0 : Int32)) hx hb dX8_lay_71 (by decide) ?_
    refine sy_put C hh (fun w h => mc (uX_fX5 w h)) tyX5 tyX5_ok nmX5 x2_12 (iX5_N hx2_12) (oX5 hx2_12) rfl 0 (by decide) (index := 38) (mc uX_229) rfl (0 : Int32) (ty := .int) (tyX5_ok 0 (by decide)) rfl rfl (Nat.le_of_ble_eq_true rfl) (pX5_0 Y _ _ _) dX8_lay_72 (fun H locs hh => ?_)
    refine lv_iconst (v := (0 : Int32)) hx hb dX8_lay_75 (by decide) ?_
    refine lv_istore (lv' := [(4, .int (0 : Int32)), (0, .ref (Y.2.1 54)), (1, .ref (Y.2.1 28)), (2, .ref (Y.2.1 x2_12)), (3, .int x3_13)]) hx hb dX8_lay_76 hl (by decide) rfl (fun ls hl => ?_)
    refine lv_iconst (v := (0 : Int32)) hx hb dX8_lay_78 (by decide) ?_
    refine lv_istore (lv' := [(5, .int (0 : Int32)), (4, .int (0 : Int32)), (0, .ref (Y.2.1 54)), (1, .ref (Y.2.1 28)), (2, .ref (Y.2.1 x2_12)), (3, .int x3_13)]) hx hb dX8_lay_79 hl (by decide) rfl (fun ls hl => ?_)
    obtain ⟨n21, hq⟩ := hq
    refine kX8_lay_81 C  n21 (mu M15 x2_12 0 (0 : Int32)) x2_12 x3_13 (0 : Int32) (0 : Int32) hx2_12 _ _ _ hq hh (lv_sub hl [2, 3, 4, 5, 1, 0] rfl)

/-! AreaSetter$Layer.layAs(ILAreaSetter$Drawings;)I -/
def wX4_layAs_114 (K_45 : sy_M → Int32 → Int32 → Int32 → Int32 → Prop) (Q : Int32 → sy_M → Prop) (M : sy_M) (x4 : Int32) (x5 : Int32) (x6 : Int32) (x7 : Int32) : Prop := ∃ n9 : Nat, n9 < 3 ∧ x7 = nI n9 ∧ ∃ n10 : Nat, n10 < 3 ∧ x7 = nI n10 ∧ wX4_movesOf M ((33 + 7 * n10) + 1) (fun r12 M11 => ((x6 ≤ ((M (33 + 7 * n9) 0) + (((M 27 0) * r12) / (nI 100))) → K_45 M11 x4 x5 x6 (x7 + (1 : Int32))) ∧ (¬ x6 ≤ ((M (33 + 7 * n9) 0) + (((M 27 0) * r12) / (nI 100))) → K_45 M11 x7 x5 ((M (33 + 7 * n9) 0) + (((M 27 0) * r12) / (nI 100))) (x7 + (1 : Int32)))))
def wX4_layAs_45 (Q : Int32 → sy_M → Prop) : Nat → sy_M → Int32 → Int32 → Int32 → Int32 → Prop
  | 0, _, _, _, _, _ => False
  | n + 1, M, x4, x5, x6, x7 => ((x5 < x7 → Q x4 M) ∧ (¬ x5 < x7 → ((¬ x7 = (1 : Int32) → ((¬ x7 = (nI 2) → ∃ n7 : Nat, n7 < 3 ∧ (0 : Int32) = nI n7 ∧ wX4_laySlice M (33 + 7 * n7) (fun M8 => wX4_layAs_114 (fun (M14 : sy_M) (x4_15 : Int32) (x5_16 : Int32) (x6_17 : Int32) (x7_18 : Int32) => wX4_layAs_45 Q n M14 x4_15 x5_16 x6_17 x7_18) Q M8 x4 x5 x6 x7)) ∧ (x7 = (nI 2) → ∃ n19 : Nat, n19 < 3 ∧ (nI 2) = nI n19 ∧ wX1_lay M (33 + 7 * n19) (fun M20 => wX4_layAs_114 (fun (M21 : sy_M) (x4_22 : Int32) (x5_23 : Int32) (x6_24 : Int32) (x7_25 : Int32) => wX4_layAs_45 Q n M21 x4_22 x5_23 x6_24 x7_25) Q M20 x4 x5 x6 x7)))) ∧ (x7 = (1 : Int32) → ∃ n26 : Nat, n26 < 3 ∧ (1 : Int32) = nI n26 ∧ wX8_lay M (33 + 7 * n26) (fun M27 => wX4_layAs_114 (fun (M28 : sy_M) (x4_29 : Int32) (x5_30 : Int32) (x6_31 : Int32) (x7_32 : Int32) => wX4_layAs_45 Q n M28 x4_29 x5_30 x6_31 x7_32) Q M27 x4 x5 x6 x7)))))
def wX4_layAs_24 (Q : Int32 → sy_M → Prop) (M : sy_M) (x1 : Int32) (x3 : Int32) (s0 : Int32) : Prop := ((x3 = 0 → ∃ n33 : Nat, wX4_layAs_45  Q n33 M s0 x1 (nI 2147483647) s0) ∧ (¬ x3 = 0 → ∃ n34 : Nat, wX4_layAs_45  Q n34 M s0 (nI 2) (nI 2147483647) s0))
def wX4_layAs_14 (Q : Int32 → sy_M → Prop) (M : sy_M) (x1 : Int32) (s0 : Int32) : Prop := ((s0 = 0 → wX4_layAs_24  Q M x1 s0 x1) ∧ (¬ s0 = 0 → wX4_layAs_24  Q M x1 s0 (0 : Int32)))
def wX4_layAs_9 (Q : Int32 → sy_M → Prop) (M : sy_M) (x1 : Int32) : Prop := wX4_layAs_14  Q M x1 (1 : Int32)
def wX4_layAs (M : sy_M) (a1 : Int32) (Q : Int32 → sy_M → Prop) : Prop := ((a1 < 0 → wX4_layAs_9  Q M a1) ∧ (¬ a1 < 0 → ((a1 ≤ (nI 2) → wX4_layAs_14  Q M a1 (0 : Int32)) ∧ (¬ a1 ≤ (nI 2) → wX4_layAs_9  Q M a1))))
section
variable {p : Program} {l : Launch} {e : Env} {s : State} {m : MethodId} {args : Array Value} {below : List Frame} {meth : Method} {c : Code} {Y : sy_Y}
set_option maxHeartbeats 4000000 in
set_option maxRecDepth 100000 in
theorem kX4_layAs_114 (C : sy_C p m c cX4_layAs 9 s args vsX4_layAs RX4 meth (some .int) Y NX tfX) {Q : Int32 → sy_M → Prop} {K_45 : sy_M → Int32 → Int32 → Int32 → Int32 → Prop} (hK_45 : ∀ (M : sy_M) (x4 : Int32) (x5 : Int32) (x6 : Int32) (x7 : Int32) (H : Heap) (locs : List Loc) (ls : Array Slot), K_45 M x4 x5 x6 x7 → sy_H Y NX EX s H locs M → lv_has ls 9 [(0, .ref (Y.2.1 27)), (2, .ref (Y.2.1 9)), (4, .int x4), (5, .int x5), (6, .int x6), (7, .int x7)] → W p l e ({ frames := 38, cells := 0, slots := 0, locals := 1186 } : Room) s m args below meth c H locs 0 0 (sy_ZI below args s Y NX EX Q) (F0 m 45 ls [])) :
    ∀ (M : sy_M) (x4 : Int32) (x5 : Int32) (x6 : Int32) (x7 : Int32) (H : Heap) (locs : List Loc) (ls : Array Slot), wX4_layAs_114 K_45 Q M x4 x5 x6 x7 → sy_H Y NX EX s H locs M → lv_has ls 9 [(0, .ref (Y.2.1 27)), (2, .ref (Y.2.1 9)), (4, .int x4), (5, .int x5), (6, .int x6), (7, .int x7)] → W p l e ({ frames := 38, cells := 0, slots := 0, locals := 1186 } : Room) s m args below meth c H locs 0 0 (sy_ZI below args s Y NX EX Q) (F0 m 114 ls []) := by
  have hx := C.1.1
  have hb := C.1.2.1
  intro M x4 x5 x6 x7 H locs ls hq hh hl
  unfold wX4_layAs_114 at hq
  refine lv_aload_n hx hb dX4_layAs_114 rfl (lv_at hl 0 rfl) ?_
  refine sy_get C hh (fun w h => mc (uX_fX4 w h)) 27 (by decide) (oX_27 Y) rfl 2 (by decide) (index := 25) (mc uX_192) (v := .ref (Y.2.1 32)) rfl dX4_layAs_115 ?_
  refine lv_iload hx hb dX4_layAs_118 (lv_at hl 5 rfl) ?_
  obtain ⟨n9, hn9, en9, hq⟩ := hq
  refine sy_aald C hh 32 (by decide) (aX_32 Y) tX_32 hn9 en9 (by decide) dX4_layAs_120 rfl ?_
  refine sy_get C hh (fun w h => mc (uX_fX5 w h)) (33 + 7 * n9) (iX5_N (iX5_n hn9)) (oX5 (iX5_n hn9)) rfl 0 (by decide) (index := 89) (mc uX_205) (v := .int (M (33 + 7 * n9) 0)) rfl dX4_layAs_121 ?_
  refine lv_aload_n hx hb dX4_layAs_124 rfl (lv_at hl 0 rfl) ?_
  refine sy_get C hh (fun w h => mc (uX_fX4 w h)) 27 (by decide) (oX_27 Y) rfl 0 (by decide) (index := 9) (mc uX_186) (v := .int (M 27 0)) rfl dX4_layAs_125 ?_
  refine lv_aload_n hx hb dX4_layAs_128 rfl (lv_at hl 0 rfl) ?_
  refine lv_aload_n hx hb dX4_layAs_129 rfl (lv_at hl 0 rfl) ?_
  refine sy_get C hh (fun w h => mc (uX_fX4 w h)) 27 (by decide) (oX_27 Y) rfl 2 (by decide) (index := 25) (mc uX_192) (v := .ref (Y.2.1 32)) rfl dX4_layAs_130 ?_
  refine lv_iload hx hb dX4_layAs_133 (lv_at hl 5 rfl) ?_
  obtain ⟨n10, hn10, en10, hq⟩ := hq
  refine sy_aald C hh 32 (by decide) (aX_32 Y) tX_32 hn10 en10 (by decide) dX4_layAs_135 rfl ?_
  refine sy_get C hh (fun w h => mc (uX_fX5 w h)) (33 + 7 * n10) (iX5_N (iX5_n hn10)) (oX5 (iX5_n hn10)) rfl 1 (by decide) (index := 68) (mc uX_262) (v := .ref (Y.2.1 ((33 + 7 * n10) + 1))) rfl dX4_layAs_136 ?_
  refine lv_aload_n hx hb dX4_layAs_139 rfl (lv_at hl 1 rfl) ?_
  refine sy_cIV C hh (As := [.ref (Y.2.1 ((33 + 7 * n10) + 1)), .ref (Y.2.1 9)]) (rest := [.int (M 27 0), .int (M (33 + 7 * n9) 0)]) 27 (by decide) (oX_27 Y) rfl (mX4_movesOf l Y _ M ((33 + 7 * n10) + 1) (iX5_iX7 (iX5_n hn10)) _ hq) (cwV 2 C.1.2.2.2.2 (sy_goodV uX_good uX_273 uX_274 uX_275 uX_272 uX_252 _) rfl rfl rfl hdX4_movesOf ⟨Nat.le_of_ble_eq_true rfl, Nat.le_of_ble_eq_true rfl⟩) rfl hl.1 rfl (Nat.le_of_ble_eq_true rfl) dX4_layAs_140 (fun r12 M11 H locs hq hh => ?_)
  refine lv_imul hx hb dX4_layAs_143 ?_
  refine lv_bipush (v := (nI 100)) hx hb dX4_layAs_144 (by decide) ?_
  refine lv_idiv hx hb dX4_layAs_146 (by decide) ?_
  refine lv_iadd hx hb dX4_layAs_147 ?_
  refine lv_istore (lv' := [(8, .int ((M (33 + 7 * n9) 0) + (((M 27 0) * r12) / (nI 100)))), (0, .ref (Y.2.1 27)), (2, .ref (Y.2.1 9)), (4, .int x4), (5, .int x5), (6, .int x6), (7, .int x7)]) hx hb dX4_layAs_148 hl (by decide) rfl (fun ls hl => ?_)
  refine lv_iload hx hb dX4_layAs_150 (lv_at hl 0 rfl) ?_
  refine lv_iload hx hb dX4_layAs_152 (lv_at hl 5 rfl) ?_
  refine lv_icmp_ge (tgt := 165) hx hb dX4_layAs_154 (by decide) (fun c13 => ?_) (fun c13 => ?_)
  · have hq := hq.1 c13
    refine lv_iinc (v := (x7 + (1 : Int32))) (lv' := [(7, .int (x7 + (1 : Int32))), (8, .int ((M (33 + 7 * n9) 0) + (((M 27 0) * r12) / (nI 100)))), (0, .ref (Y.2.1 27)), (2, .ref (Y.2.1 9)), (4, .int x4), (5, .int x5), (6, .int x6)]) hx hb dX4_layAs_165 hl (k := 6) rfl (sy_inc (by decide)) (by decide) rfl (fun ls hl => ?_)
    refine lv_goto (tgt := 45) hx hb dX4_layAs_168 (by decide) ?_
    exact hK_45 M11 x4 x5 x6 (x7 + (1 : Int32)) _ _ _ hq hh (lv_sub hl [2, 3, 4, 5, 6, 0] rfl)
  · have hq := hq.2 c13
    refine lv_iload hx hb dX4_layAs_157 (lv_at hl 0 rfl) ?_
    refine lv_istore (lv' := [(6, .int ((M (33 + 7 * n9) 0) + (((M 27 0) * r12) / (nI 100)))), (8, .int ((M (33 + 7 * n9) 0) + (((M 27 0) * r12) / (nI 100)))), (0, .ref (Y.2.1 27)), (2, .ref (Y.2.1 9)), (4, .int x4), (5, .int x5), (7, .int x7)]) hx hb dX4_layAs_159 hl (by decide) rfl (fun ls hl => ?_)
    refine lv_iload hx hb dX4_layAs_161 (lv_at hl 6 rfl) ?_
    refine lv_istore (lv' := [(4, .int x7), (6, .int ((M (33 + 7 * n9) 0) + (((M 27 0) * r12) / (nI 100)))), (8, .int ((M (33 + 7 * n9) 0) + (((M 27 0) * r12) / (nI 100)))), (0, .ref (Y.2.1 27)), (2, .ref (Y.2.1 9)), (5, .int x5), (7, .int x7)]) hx hb dX4_layAs_163 hl (by decide) rfl (fun ls hl => ?_)
    refine lv_iinc (v := (x7 + (1 : Int32))) (lv' := [(7, .int (x7 + (1 : Int32))), (4, .int x7), (6, .int ((M (33 + 7 * n9) 0) + (((M 27 0) * r12) / (nI 100)))), (8, .int ((M (33 + 7 * n9) 0) + (((M 27 0) * r12) / (nI 100)))), (0, .ref (Y.2.1 27)), (2, .ref (Y.2.1 9)), (5, .int x5)]) hx hb dX4_layAs_165 hl (k := 6) rfl (sy_inc (by decide)) (by decide) rfl (fun ls hl => ?_)
    refine lv_goto (tgt := 45) hx hb dX4_layAs_168 (by decide) ?_
    exact hK_45 M11 x7 x5 ((M (33 + 7 * n9) 0) + (((M 27 0) * r12) / (nI 100))) (x7 + (1 : Int32)) _ _ _ hq hh (lv_sub hl [4, 5, 1, 6, 2, 0] rfl)

set_option maxHeartbeats 4000000 in
set_option maxRecDepth 100000 in
theorem kX4_layAs_45 (C : sy_C p m c cX4_layAs 9 s args vsX4_layAs RX4 meth (some .int) Y NX tfX) {Q : Int32 → sy_M → Prop} :
    ∀ (n : Nat) (M : sy_M) (x4 : Int32) (x5 : Int32) (x6 : Int32) (x7 : Int32) (H : Heap) (locs : List Loc) (ls : Array Slot), wX4_layAs_45 Q n M x4 x5 x6 x7 → sy_H Y NX EX s H locs M → lv_has ls 9 [(0, .ref (Y.2.1 27)), (2, .ref (Y.2.1 9)), (4, .int x4), (5, .int x5), (6, .int x6), (7, .int x7)] → W p l e ({ frames := 38, cells := 0, slots := 0, locals := 1186 } : Room) s m args below meth c H locs 0 0 (sy_ZI below args s Y NX EX Q) (F0 m 45 ls []) := by
  have hx := C.1.1
  have hb := C.1.2.1
  intro n
  induction n with
  | zero =>
    intro M x4 x5 x6 x7 H locs ls hq hh hl
    unfold wX4_layAs_45 at hq
    exact hq.elim
  | succ n ih =>
    intro M x4 x5 x6 x7 H locs ls hq hh hl
    unfold wX4_layAs_45 at hq
    refine lv_iload hx hb dX4_layAs_45 (lv_at hl 5 rfl) ?_
    refine lv_iload hx hb dX4_layAs_47 (lv_at hl 3 rfl) ?_
    refine lv_icmp_gt (tgt := 171) hx hb dX4_layAs_49 (by decide) (fun c4 => ?_) (fun c4 => ?_)
    · have hq := hq.1 c4
      refine lv_iload hx hb dX4_layAs_171 (lv_at hl 2 rfl) ?_
      exact sy_iret C hh dX4_layAs_173 hq
    · have hq := hq.2 c4
      refine lv_iload hx hb dX4_layAs_52 (lv_at hl 5 rfl) ?_
      refine lv_iconst (v := (1 : Int32)) hx hb dX4_layAs_54 (by decide) ?_
      refine lv_icmp_ne (tgt := 78) hx hb dX4_layAs_55 (by decide) (fun c5 => ?_) (fun c5 => ?_)
      · have hq := hq.1 c5
        refine lv_iload hx hb dX4_layAs_78 (lv_at hl 5 rfl) ?_
        refine lv_iconst (v := (nI 2)) hx hb dX4_layAs_80 (by decide) ?_
        refine lv_icmp_ne (tgt := 104) hx hb dX4_layAs_81 (by decide) (fun c6 => ?_) (fun c6 => ?_)
        · have hq := hq.1 c6
          refine lv_aload_n hx hb dX4_layAs_104 rfl (lv_at hl 0 rfl) ?_
          refine lv_aload_n hx hb dX4_layAs_105 rfl (lv_at hl 0 rfl) ?_
          refine sy_get C hh (fun w h => mc (uX_fX4 w h)) 27 (by decide) (oX_27 Y) rfl 2 (by decide) (index := 25) (mc uX_192) (v := .ref (Y.2.1 32)) rfl dX4_layAs_106 ?_
          refine lv_iconst (v := (0 : Int32)) hx hb dX4_layAs_109 (by decide) ?_
          obtain ⟨n7, hn7, en7, hq⟩ := hq
          refine sy_aald C hh 32 (by decide) (aX_32 Y) tX_32 hn7 en7 (by decide) dX4_layAs_110 rfl ?_
          refine sy_cVV C hh (As := [.ref (Y.2.1 (33 + 7 * n7))]) (rest := []) 27 (by decide) (oX_27 Y) rfl (mX4_laySlice l Y _ M (33 + 7 * n7) (iX5_n hn7) _ hq) (cwV 1 C.1.2.2.2.2 (sy_goodV uX_good uX_269 uX_270 uX_271 uX_272 uX_247 _) rfl rfl rfl hdX4_laySlice ⟨Nat.le_of_ble_eq_true rfl, Nat.le_of_ble_eq_true rfl⟩) rfl hl.1 rfl (Nat.le_of_ble_eq_true rfl) dX4_layAs_111 (fun M8 H locs hq hh => ?_)
          refine kX4_layAs_114 C (fun M14 x4_15 x5_16 x6_17 x7_18 H locs ls hq hh hl => ?_) M8 x4 x5 x6 x7 _ _ _ hq hh (lv_sub hl [0, 1, 2, 3, 4, 5] rfl)
          · exact ih M14 x4_15 x5_16 x6_17 x7_18 _ _ _ hq hh (lv_sub hl [0, 1, 2, 3, 4, 5] rfl)
        · have hq := hq.2 c6
          refine lv_aload_n hx hb dX4_layAs_84 rfl (lv_at hl 0 rfl) ?_
          refine sy_get C hh (fun w h => mc (uX_fX4 w h)) 27 (by decide) (oX_27 Y) rfl 4 (by decide) (index := 39) (mc uX_199) (v := .ref (Y.2.1 58)) rfl dX4_layAs_85 ?_
          refine lv_aload_n hx hb dX4_layAs_88 rfl (lv_at hl 0 rfl) ?_
          refine sy_get C hh (fun w h => mc (uX_fX4 w h)) 27 (by decide) (oX_27 Y) rfl 1 (by decide) (index := 18) (mc uX_189) (v := .ref (Y.2.1 28)) rfl dX4_layAs_89 ?_
          refine lv_aload_n hx hb dX4_layAs_92 rfl (lv_at hl 0 rfl) ?_
          refine sy_get C hh (fun w h => mc (uX_fX4 w h)) 27 (by decide) (oX_27 Y) rfl 2 (by decide) (index := 25) (mc uX_192) (v := .ref (Y.2.1 32)) rfl dX4_layAs_93 ?_
          refine lv_iconst (v := (nI 2)) hx hb dX4_layAs_96 (by decide) ?_
          obtain ⟨n19, hn19, en19, hq⟩ := hq
          refine sy_aald C hh 32 (by decide) (aX_32 Y) tX_32 hn19 en19 (by decide) dX4_layAs_97 rfl ?_
          refine sy_cVV C hh (As := [.ref (Y.2.1 28), .ref (Y.2.1 (33 + 7 * n19))]) (rest := []) 58 (by decide) (oX_58 Y) rfl (mX1_lay l Y _ M (33 + 7 * n19) (iX5_n hn19) _ hq) (cwV 2 C.1.2.2.2.2 (sy_goodV uX_good uX_266 uX_267 uX_268 uX_62 uX_86 _) rfl rfl rfl hdX1_lay ⟨Nat.le_of_ble_eq_true rfl, Nat.le_of_ble_eq_true rfl⟩) rfl hl.1 rfl (Nat.le_of_ble_eq_true rfl) dX4_layAs_98 (fun M20 H locs hq hh => ?_)
          refine lv_goto (tgt := 114) hx hb dX4_layAs_101 (by decide) ?_
          refine kX4_layAs_114 C (fun M21 x4_22 x5_23 x6_24 x7_25 H locs ls hq hh hl => ?_) M20 x4 x5 x6 x7 _ _ _ hq hh (lv_sub hl [0, 1, 2, 3, 4, 5] rfl)
          · exact ih M21 x4_22 x5_23 x6_24 x7_25 _ _ _ hq hh (lv_sub hl [0, 1, 2, 3, 4, 5] rfl)
      · have hq := hq.2 c5
        refine lv_aload_n hx hb dX4_layAs_58 rfl (lv_at hl 0 rfl) ?_
        refine sy_get C hh (fun w h => mc (uX_fX4 w h)) 27 (by decide) (oX_27 Y) rfl 3 (by decide) (index := 32) (mc uX_196) (v := .ref (Y.2.1 54)) rfl dX4_layAs_59 ?_
        refine lv_aload_n hx hb dX4_layAs_62 rfl (lv_at hl 0 rfl) ?_
        refine sy_get C hh (fun w h => mc (uX_fX4 w h)) 27 (by decide) (oX_27 Y) rfl 1 (by decide) (index := 18) (mc uX_189) (v := .ref (Y.2.1 28)) rfl dX4_layAs_63 ?_
        refine lv_aload_n hx hb dX4_layAs_66 rfl (lv_at hl 0 rfl) ?_
        refine sy_get C hh (fun w h => mc (uX_fX4 w h)) 27 (by decide) (oX_27 Y) rfl 2 (by decide) (index := 25) (mc uX_192) (v := .ref (Y.2.1 32)) rfl dX4_layAs_67 ?_
        refine lv_iconst (v := (1 : Int32)) hx hb dX4_layAs_70 (by decide) ?_
        obtain ⟨n26, hn26, en26, hq⟩ := hq
        refine sy_aald C hh 32 (by decide) (aX_32 Y) tX_32 hn26 en26 (by decide) dX4_layAs_71 rfl ?_
        refine sy_cVV C hh (As := [.ref (Y.2.1 28), .ref (Y.2.1 (33 + 7 * n26))]) (rest := []) 54 (by decide) (oX_54 Y) rfl (mX8_lay l Y _ M (33 + 7 * n26) (iX5_n hn26) _ hq) (cwV 2 C.1.2.2.2.2 (sy_goodV uX_good uX_263 uX_264 uX_265 uX_195 uX_243 _) rfl rfl rfl hdX8_lay ⟨Nat.le_of_ble_eq_true rfl, Nat.le_of_ble_eq_true rfl⟩) rfl hl.1 rfl (Nat.le_of_ble_eq_true rfl) dX4_layAs_72 (fun M27 H locs hq hh => ?_)
        refine lv_goto (tgt := 114) hx hb dX4_layAs_75 (by decide) ?_
        refine kX4_layAs_114 C (fun M28 x4_29 x5_30 x6_31 x7_32 H locs ls hq hh hl => ?_) M27 x4 x5 x6 x7 _ _ _ hq hh (lv_sub hl [0, 1, 2, 3, 4, 5] rfl)
        · exact ih M28 x4_29 x5_30 x6_31 x7_32 _ _ _ hq hh (lv_sub hl [0, 1, 2, 3, 4, 5] rfl)

set_option maxHeartbeats 4000000 in
set_option maxRecDepth 100000 in
theorem kX4_layAs_24 (C : sy_C p m c cX4_layAs 9 s args vsX4_layAs RX4 meth (some .int) Y NX tfX) {Q : Int32 → sy_M → Prop} :
    ∀ (M : sy_M) (x1 : Int32) (x3 : Int32) (s0 : Int32) (H : Heap) (locs : List Loc) (ls : Array Slot), wX4_layAs_24 Q M x1 x3 s0 → sy_H Y NX EX s H locs M → lv_has ls 9 [(0, .ref (Y.2.1 27)), (1, .int x1), (2, .ref (Y.2.1 9)), (3, .int x3)] → W p l e ({ frames := 38, cells := 0, slots := 0, locals := 1186 } : Room) s m args below meth c H locs 0 0 (sy_ZI below args s Y NX EX Q) (F0 m 24 ls [.int s0]) := by
  have hx := C.1.1
  have hb := C.1.2.1
  intro M x1 x3 s0 H locs ls hq hh hl
  unfold wX4_layAs_24 at hq
  refine lv_istore (lv' := [(4, .int s0), (0, .ref (Y.2.1 27)), (1, .int x1), (2, .ref (Y.2.1 9)), (3, .int x3)]) hx hb dX4_layAs_24 hl (by decide) rfl (fun ls hl => ?_)
  refine lv_iload_n hx hb dX4_layAs_26 rfl (lv_at hl 4 rfl) ?_
  refine lv_if_eq (tgt := 34) hx hb dX4_layAs_27 (by decide) (fun c3 => ?_) (fun c3 => ?_)
  · have hq := hq.1 c3
    refine lv_iload_n hx hb dX4_layAs_34 rfl (lv_at hl 2 rfl) ?_
    refine lv_istore (lv' := [(5, .int x1), (4, .int s0), (0, .ref (Y.2.1 27)), (1, .int x1), (2, .ref (Y.2.1 9)), (3, .int x3)]) hx hb dX4_layAs_35 hl (by decide) rfl (fun ls hl => ?_)
    refine lv_ldc (v := (nI 2147483647)) hx hb C.1.2.2.2.1 (C.1.2.2.2.2 (.constant RX4 123 (nI 2147483647)) (mc uX_261)) dX4_layAs_37 ?_
    refine lv_istore (lv' := [(6, .int (nI 2147483647)), (5, .int x1), (4, .int s0), (0, .ref (Y.2.1 27)), (1, .int x1), (2, .ref (Y.2.1 9)), (3, .int x3)]) hx hb dX4_layAs_39 hl (by decide) rfl (fun ls hl => ?_)
    refine lv_iload hx hb dX4_layAs_41 (lv_at hl 2 rfl) ?_
    refine lv_istore (lv' := [(7, .int s0), (6, .int (nI 2147483647)), (5, .int x1), (4, .int s0), (0, .ref (Y.2.1 27)), (1, .int x1), (2, .ref (Y.2.1 9)), (3, .int x3)]) hx hb dX4_layAs_43 hl (by decide) rfl (fun ls hl => ?_)
    obtain ⟨n33, hq⟩ := hq
    refine kX4_layAs_45 C  n33 M s0 x1 (nI 2147483647) s0 _ _ _ hq hh (lv_sub hl [4, 6, 3, 2, 1, 0] rfl)
  · have hq := hq.2 c3
    refine lv_iconst (v := (nI 2)) hx hb dX4_layAs_30 (by decide) ?_
    refine lv_goto (tgt := 35) hx hb dX4_layAs_31 (by decide) ?_
    refine lv_istore (lv' := [(5, .int (nI 2)), (4, .int s0), (0, .ref (Y.2.1 27)), (1, .int x1), (2, .ref (Y.2.1 9)), (3, .int x3)]) hx hb dX4_layAs_35 hl (by decide) rfl (fun ls hl => ?_)
    refine lv_ldc (v := (nI 2147483647)) hx hb C.1.2.2.2.1 (C.1.2.2.2.2 (.constant RX4 123 (nI 2147483647)) (mc uX_261)) dX4_layAs_37 ?_
    refine lv_istore (lv' := [(6, .int (nI 2147483647)), (5, .int (nI 2)), (4, .int s0), (0, .ref (Y.2.1 27)), (1, .int x1), (2, .ref (Y.2.1 9)), (3, .int x3)]) hx hb dX4_layAs_39 hl (by decide) rfl (fun ls hl => ?_)
    refine lv_iload hx hb dX4_layAs_41 (lv_at hl 2 rfl) ?_
    refine lv_istore (lv' := [(7, .int s0), (6, .int (nI 2147483647)), (5, .int (nI 2)), (4, .int s0), (0, .ref (Y.2.1 27)), (1, .int x1), (2, .ref (Y.2.1 9)), (3, .int x3)]) hx hb dX4_layAs_43 hl (by decide) rfl (fun ls hl => ?_)
    obtain ⟨n34, hq⟩ := hq
    refine kX4_layAs_45 C  n34 M s0 (nI 2) (nI 2147483647) s0 _ _ _ hq hh (lv_sub hl [4, 6, 3, 2, 1, 0] rfl)

set_option maxHeartbeats 4000000 in
set_option maxRecDepth 100000 in
theorem kX4_layAs_14 (C : sy_C p m c cX4_layAs 9 s args vsX4_layAs RX4 meth (some .int) Y NX tfX) {Q : Int32 → sy_M → Prop} :
    ∀ (M : sy_M) (x1 : Int32) (s0 : Int32) (H : Heap) (locs : List Loc) (ls : Array Slot), wX4_layAs_14 Q M x1 s0 → sy_H Y NX EX s H locs M → lv_has ls 9 [(0, .ref (Y.2.1 27)), (1, .int x1), (2, .ref (Y.2.1 9))] → W p l e ({ frames := 38, cells := 0, slots := 0, locals := 1186 } : Room) s m args below meth c H locs 0 0 (sy_ZI below args s Y NX EX Q) (F0 m 14 ls [.int s0]) := by
  have hx := C.1.1
  have hb := C.1.2.1
  intro M x1 s0 H locs ls hq hh hl
  unfold wX4_layAs_14 at hq
  refine lv_istore_n (lv' := [(3, .int s0), (0, .ref (Y.2.1 27)), (1, .int x1), (2, .ref (Y.2.1 9))]) hx hb dX4_layAs_14 rfl hl (by decide) rfl (fun ls hl => ?_)
  refine lv_iload_n hx hb dX4_layAs_15 rfl (lv_at hl 0 rfl) ?_
  refine lv_if_eq (tgt := 23) hx hb dX4_layAs_16 (by decide) (fun c2 => ?_) (fun c2 => ?_)
  · have hq := hq.1 c2
    refine lv_iload_n hx hb dX4_layAs_23 rfl (lv_at hl 2 rfl) ?_
    refine kX4_layAs_24 C  M x1 s0 x1 _ _ _ hq hh (lv_sub hl [1, 2, 3, 0] rfl)
  · have hq := hq.2 c2
    refine lv_iconst (v := (0 : Int32)) hx hb dX4_layAs_19 (by decide) ?_
    refine lv_goto (tgt := 24) hx hb dX4_layAs_20 (by decide) ?_
    refine kX4_layAs_24 C  M x1 s0 (0 : Int32) _ _ _ hq hh (lv_sub hl [1, 2, 3, 0] rfl)

set_option maxHeartbeats 4000000 in
set_option maxRecDepth 100000 in
theorem kX4_layAs_9 (C : sy_C p m c cX4_layAs 9 s args vsX4_layAs RX4 meth (some .int) Y NX tfX) {Q : Int32 → sy_M → Prop} :
    ∀ (M : sy_M) (x1 : Int32) (H : Heap) (locs : List Loc) (ls : Array Slot), wX4_layAs_9 Q M x1 → sy_H Y NX EX s H locs M → lv_has ls 9 [(0, .ref (Y.2.1 27)), (1, .int x1), (2, .ref (Y.2.1 9))] → W p l e ({ frames := 38, cells := 0, slots := 0, locals := 1186 } : Room) s m args below meth c H locs 0 0 (sy_ZI below args s Y NX EX Q) (F0 m 9 ls []) := by
  have hx := C.1.1
  have hb := C.1.2.1
  intro M x1 H locs ls hq hh hl
  unfold wX4_layAs_9 at hq
  refine lv_iconst (v := (1 : Int32)) hx hb dX4_layAs_9 (by decide) ?_
  refine lv_goto (tgt := 14) hx hb dX4_layAs_10 (by decide) ?_
  refine kX4_layAs_14 C  M x1 (1 : Int32) _ _ _ hq hh (lv_sub hl [0, 1, 2] rfl)

end
set_option maxHeartbeats 4000000 in
set_option maxRecDepth 100000 in
theorem mX4_layAs (l : Launch) (Y : sy_Y) (sz : Nat) (M : sy_M) (a1 : Int32) (Q : Int32 → sy_M → Prop) (hq : wX4_layAs M a1 Q) : Met l yX4_layAs vsX4_layAs ({ frames := 38, cells := 0, slots := 0, locals := 1186 } : Room) (va_Pc [.ref (Y.2.1 27), .int a1, .ref (Y.2.1 9)] (sy_pre Y NX EX tfX sz M)) (sy_QI Y NX EX sz Q) 0 0 (sy_A NX Y.2.1 sz) := by
  refine sy_metI (by decide) rfl (Nat.le_of_ble_eq_true rfl) ?_
  intro p e s m args below meth c C ls hl hh
  have hx := C.1.1
  have hb := C.1.2.1
  have hl : lv_has ls 9 [(0, .ref (Y.2.1 27)), (1, .int a1), (2, .ref (Y.2.1 9))] := hl
  unfold wX4_layAs at hq
  refine lv_iload_n hx hb dX4_layAs_0 rfl (lv_at hl 1 rfl) ?_
  refine lv_if_lt (tgt := 9) hx hb dX4_layAs_1 (by decide) (fun c1 => ?_) (fun c1 => ?_)
  · have hq := hq.1 c1
    refine kX4_layAs_9 C  M a1 _ _ _ hq hh (lv_sub hl [0, 1, 2] rfl)
  · have hq := hq.2 c1
    refine lv_iload_n hx hb dX4_layAs_4 rfl (lv_at hl 1 rfl) ?_
    refine lv_iconst (v := (nI 2)) hx hb dX4_layAs_5 (by decide) ?_
    refine lv_icmp_le (tgt := 13) hx hb dX4_layAs_6 (by decide) (fun c35 => ?_) (fun c35 => ?_)
    · have hq := hq.1 c35
      refine lv_iconst (v := (0 : Int32)) hx hb dX4_layAs_13 (by decide) ?_
      refine kX4_layAs_14 C  M a1 (0 : Int32) _ _ _ hq hh (lv_sub hl [0, 1, 2] rfl)
    · have hq := hq.2 c35
      refine kX4_layAs_9 C  M a1 _ _ _ hq hh (lv_sub hl [0, 1, 2] rfl)

/-! AreaSetter$Layer.layNothing(LAreaSetter$Plan;)V -/
def wX4_layNothing_7 (Q : sy_M → Prop) : Nat → sy_M → Nat → Int32 → Prop
  | 0, _, _, _ => False
  | n + 1, M, x1, x2 => (((M 28 0) ≤ x2 → Q M) ∧ (¬ (M 28 0) ≤ x2 → wX5_put M x1 x2 (M 28 4) (M 28 5) (0 : Int32) (0 : Int32) (fun M2 => wX4_layNothing_7 Q n M2 x1 (x2 + (1 : Int32)))))
def wX4_layNothing (M : sy_M) (p1 : Nat) (Q : sy_M → Prop) : Prop := ∃ n3 : Nat, wX4_layNothing_7  Q n3 (mu M p1 0 (0 : Int32)) p1 (0 : Int32)
section
variable {p : Program} {l : Launch} {e : Env} {s : State} {m : MethodId} {args : Array Value} {below : List Frame} {meth : Method} {c : Code} {Y : sy_Y}
set_option maxHeartbeats 4000000 in
set_option maxRecDepth 100000 in
theorem kX4_layNothing_7 (C : sy_C p m c cX4_layNothing 3 s args vsX4_layNothing RX4 meth none Y NX tfX) {Q : sy_M → Prop} :
    ∀ (n : Nat) (M : sy_M) (x1 : Nat) (x2 : Int32) (hx1 : iX5 x1) (H : Heap) (locs : List Loc) (ls : Array Slot), wX4_layNothing_7 Q n M x1 x2 → sy_H Y NX EX s H locs M → lv_has ls 3 [(0, .ref (Y.2.1 27)), (1, .ref (Y.2.1 x1)), (2, .int x2)] → W p l e ({ frames := 3, cells := 0, slots := 0, locals := 70 } : Room) s m args below meth c H locs 0 0 (sy_ZV below args s Y NX EX Q) (F0 m 7 ls []) := by
  have hx := C.1.1
  have hb := C.1.2.1
  intro n
  induction n with
  | zero =>
    intro M x1 x2 hx1 H locs ls hq hh hl
    unfold wX4_layNothing_7 at hq
    exact hq.elim
  | succ n ih =>
    intro M x1 x2 hx1 H locs ls hq hh hl
    unfold wX4_layNothing_7 at hq
    refine lv_iload_n hx hb dX4_layNothing_7 rfl (lv_at hl 2 rfl) ?_
    refine lv_aload_n hx hb dX4_layNothing_8 rfl (lv_at hl 0 rfl) ?_
    refine sy_get C hh (fun w h => mc (uX_fX4 w h)) 27 (by decide) (oX_27 Y) rfl 1 (by decide) (index := 18) (mc uX_189) (v := .ref (Y.2.1 28)) rfl dX4_layNothing_9 ?_
    refine sy_get C hh (fun w h => mc (uX_fX3 w h)) 28 (by decide) (oX_28 Y) rfl 0 (by decide) (index := 47) (mc uX_206) (v := .int (M 28 0)) rfl dX4_layNothing_12 ?_
    refine lv_icmp_ge (tgt := 49) hx hb dX4_layNothing_15 (by decide) (fun c1 => ?_) (fun c1 => ?_)
    · have hq := hq.1 c1
      exact sy_vret C hh dX4_layNothing_49 hq
    · have hq := hq.2 c1
      refine lv_aload_n hx hb dX4_layNothing_18 rfl (lv_at hl 1 rfl) ?_
      refine lv_aload_n hx hb dX4_layNothing_19 rfl (lv_at hl 0 rfl) ?_
      refine sy_get C hh (fun w h => mc (uX_fX4 w h)) 27 (by decide) (oX_27 Y) rfl 1 (by decide) (index := 18) (mc uX_189) (v := .ref (Y.2.1 28)) rfl dX4_layNothing_20 ?_
      refine lv_iload_n hx hb dX4_layNothing_23 rfl (lv_at hl 2 rfl) ?_
      refine lv_aload_n hx hb dX4_layNothing_24 rfl (lv_at hl 0 rfl) ?_
      refine sy_get C hh (fun w h => mc (uX_fX4 w h)) 27 (by decide) (oX_27 Y) rfl 1 (by decide) (index := 18) (mc uX_189) (v := .ref (Y.2.1 28)) rfl dX4_layNothing_25 ?_
      refine sy_get C hh (fun w h => mc (uX_fX3 w h)) 28 (by decide) (oX_28 Y) rfl 4 (by decide) (index := 152) (mc uX_207) (v := .int (M 28 4)) rfl dX4_layNothing_28 ?_
      refine lv_aload_n hx hb dX4_layNothing_31 rfl (lv_at hl 0 rfl) ?_
      refine sy_get C hh (fun w h => mc (uX_fX4 w h)) 27 (by decide) (oX_27 Y) rfl 1 (by decide) (index := 18) (mc uX_189) (v := .ref (Y.2.1 28)) rfl dX4_layNothing_32 ?_
      refine sy_get C hh (fun w h => mc (uX_fX3 w h)) 28 (by decide) (oX_28 Y) rfl 5 (by decide) (index := 154) (mc uX_208) (v := .int (M 28 5)) rfl dX4_layNothing_35 ?_
      refine lv_iconst (v := (0 : Int32)) hx hb dX4_layNothing_38 (by decide) ?_
      refine lv_iconst (v := (0 : Int32)) hx hb dX4_layNothing_39 (by decide) ?_
      refine sy_cVV C hh (As := [.ref (Y.2.1 28), .int x2, .int (M 28 4), .int (M 28 5), .int (0 : Int32), .int (0 : Int32)]) (rest := []) x1 (iX5_N hx1) (oX5 hx1) rfl (mX5_put l Y _ M x1 hx1 x2 (M 28 4) (M 28 5) (0 : Int32) (0 : Int32) _ hq) (cwV 6 C.1.2.2.2.2 (sy_goodV uX_good uX_209 uX_73 uX_74 uX_75 uX_37 _) rfl rfl rfl hdX5_put ⟨Nat.le_of_ble_eq_true rfl, Nat.le_of_ble_eq_true rfl⟩) rfl hl.1 rfl (Nat.le_of_ble_eq_true rfl) dX4_layNothing_40 (fun M2 H locs hq hh => ?_)
      refine lv_iinc (v := (x2 + (1 : Int32))) (lv' := [(2, .int (x2 + (1 : Int32))), (0, .ref (Y.2.1 27)), (1, .ref (Y.2.1 x1))]) hx hb dX4_layNothing_43 hl (k := 2) rfl (sy_inc (by decide)) (by decide) rfl (fun ls hl => ?_)
      refine lv_goto (tgt := 7) hx hb dX4_layNothing_46 (by decide) ?_
      exact ih M2 x1 (x2 + (1 : Int32)) hx1 _ _ _ hq hh (lv_sub hl [1, 2, 0] rfl)

end
set_option maxHeartbeats 4000000 in
set_option maxRecDepth 100000 in
theorem mX4_layNothing (l : Launch) (Y : sy_Y) (sz : Nat) (M : sy_M) (p1 : Nat) (hp1 : iX5 p1) (Q : sy_M → Prop) (hq : wX4_layNothing M p1 Q) : Met l yX4_layNothing vsX4_layNothing ({ frames := 3, cells := 0, slots := 0, locals := 70 } : Room) (va_Pc [.ref (Y.2.1 27), .ref (Y.2.1 p1)] (sy_pre Y NX EX tfX sz M)) (sy_QV Y NX EX sz Q) 0 0 (sy_A NX Y.2.1 sz) := by
  refine sy_metV (by decide) rfl (Nat.le_of_ble_eq_true rfl) ?_
  intro p e s m args below meth c C ls hl hh
  have hx := C.1.1
  have hb := C.1.2.1
  have hl : lv_has ls 3 [(0, .ref (Y.2.1 27)), (1, .ref (Y.2.1 p1))] := hl
  unfold wX4_layNothing at hq
  refine lv_aload_n hx hb dX4_layNothing_0 rfl (lv_at hl 1 rfl) ?_
  refine lv_iconst (v := (0 : Int32)) hx hb dX4_layNothing_1 (by decide) ?_
  refine sy_put C hh (fun w h => mc (uX_fX5 w h)) tyX5 tyX5_ok nmX5 p1 (iX5_N hp1) (oX5 hp1) rfl 0 (by decide) (index := 89) (mc uX_205) rfl (0 : Int32) (ty := .int) (tyX5_ok 0 (by decide)) rfl rfl (Nat.le_of_ble_eq_true rfl) (pX5_0 Y _ _ _) dX4_layNothing_2 (fun H locs hh => ?_)
  refine lv_iconst (v := (0 : Int32)) hx hb dX4_layNothing_5 (by decide) ?_
  refine lv_istore_n (lv' := [(2, .int (0 : Int32)), (0, .ref (Y.2.1 27)), (1, .ref (Y.2.1 p1))]) hx hb dX4_layNothing_6 rfl hl (by decide) rfl (fun ls hl => ?_)
  obtain ⟨n3, hq⟩ := hq
  refine kX4_layNothing_7 C  n3 (mu M p1 0 (0 : Int32)) p1 (0 : Int32) hp1 _ _ _ hq hh (lv_sub hl [1, 2, 0] rfl)

/-! AreaSetter$Layer.show(LAreaSetter$Rectangles;IILAreaSetter$Drawings;)V -/
def wX4_show (M : sy_M) (p1 : Nat) (a2 : Int32) (a3 : Int32) (Q : sy_M → Prop) : Prop := ∃ n1 : Nat, n1 < 8 ∧ a2 = nI n1 ∧ (((M 29 n1) = (-1 : Int32) → ∃ n3 : Nat, n3 < (lX7 p1) ∧ a2 = nI n3 ∧ ∃ n4 : Nat, n4 < (lX7 p1) ∧ a2 = nI n4 ∧ ∃ n5 : Nat, n5 < (lX7 p1) ∧ a2 = nI n5 ∧ ∃ n6 : Nat, n6 < (lX7 p1) ∧ a2 = nI n6 ∧ wX7_put M 20 a3 (M (p1 + 1) n3) (M (p1 + 2) n4) (M (p1 + 3) n5) (M (p1 + 4) n6) (fun M7 => ∃ n8 : Nat, n8 < 8 ∧ a2 = nI n8 ∧ ∃ n9 : Nat, n9 < 40 ∧ a3 = nI n9 ∧ Q (mu M7 25 n9 (M7 30 n8)))) ∧ (¬ (M 29 n1) = (-1 : Int32) → ∃ n10 : Nat, n10 < 8 ∧ a2 = nI n10 ∧ ∃ n11 : Nat, n11 < (lX7 p1) ∧ a2 = nI n11 ∧ ∃ n12 : Nat, n12 < (lX7 p1) ∧ a2 = nI n12 ∧ ∃ n13 : Nat, n13 < (lX7 p1) ∧ a2 = nI n13 ∧ ∃ n14 : Nat, n14 < (lX7 p1) ∧ a2 = nI n14 ∧ wX2_show M (M 29 n10) (M (p1 + 1) n11) (M (p1 + 2) n12) (M (p1 + 3) n13) (M (p1 + 4) n14) (fun M15 => Q M15)))
section
variable {p : Program} {l : Launch} {e : Env} {s : State} {m : MethodId} {args : Array Value} {below : List Frame} {meth : Method} {c : Code} {Y : sy_Y}
end
set_option maxHeartbeats 4000000 in
set_option maxRecDepth 100000 in
theorem mX4_show (l : Launch) (Y : sy_Y) (sz : Nat) (M : sy_M) (p1 : Nat) (hp1 : iX7 p1) (a2 : Int32) (a3 : Int32) (Q : sy_M → Prop) (hq : wX4_show M p1 a2 a3 Q) : Met l yX4_show vsX4_show ({ frames := 3, cells := 0, slots := 0, locals := 69 } : Room) (va_Pc [.ref (Y.2.1 27), .ref (Y.2.1 p1), .int a2, .int a3, .ref (Y.2.1 9)] (sy_pre Y NX EX tfX sz M)) (sy_QV Y NX EX sz Q) 0 0 (sy_A NX Y.2.1 sz) := by
  refine sy_metV (by decide) rfl (Nat.le_of_ble_eq_true rfl) ?_
  intro p e s m args below meth c C ls hl hh
  have hx := C.1.1
  have hb := C.1.2.1
  have hl : lv_has ls 5 [(0, .ref (Y.2.1 27)), (1, .ref (Y.2.1 p1)), (2, .int a2), (3, .int a3), (4, .ref (Y.2.1 9))] := hl
  unfold wX4_show at hq
  refine lv_aload_n hx hb dX4_show_0 rfl (lv_at hl 0 rfl) ?_
  refine sy_get C hh (fun w h => mc (uX_fX4 w h)) 27 (by decide) (oX_27 Y) rfl 1 (by decide) (index := 18) (mc uX_189) (v := .ref (Y.2.1 28)) rfl dX4_show_1 ?_
  refine sy_get C hh (fun w h => mc (uX_fX3 w h)) 28 (by decide) (oX_28 Y) rfl 2 (by decide) (index := 91) (mc uX_254) (v := .ref (Y.2.1 29)) rfl dX4_show_4 ?_
  refine lv_iload_n hx hb dX4_show_7 rfl (lv_at hl 2 rfl) ?_
  obtain ⟨n1, hn1, en1, hq⟩ := hq
  refine sy_iald C hh 29 (by decide) (aX_29 Y) tX_29 hn1 en1 (by decide) dX4_show_8 ?_
  refine lv_iconst (v := (-1 : Int32)) hx hb dX4_show_9 (by decide) ?_
  refine lv_icmp_eq (tgt := 52) hx hb dX4_show_10 (by decide) (fun c2 => ?_) (fun c2 => ?_)
  · have hq := hq.1 c2
    refine lv_aload hx hb dX4_show_52 (lv_at hl 4 rfl) ?_
    refine sy_get C hh (fun w h => mc (uX_fX2 w h)) 9 (by decide) (oX_9 Y) rfl 6 (by decide) (index := 111) (mc uX_281) (v := .ref (Y.2.1 20)) rfl dX4_show_54 ?_
    refine lv_iload_n hx hb dX4_show_57 rfl (lv_at hl 3 rfl) ?_
    refine lv_aload_n hx hb dX4_show_58 rfl (lv_at hl 1 rfl) ?_
    refine sy_get C hh (fun w h => mc (uX_fX7 w h)) p1 (iX7_N hp1) (oX7 hp1) rfl 0 (by decide) (index := 94) (mc uX_277) (v := .ref (Y.2.1 (p1 + 1))) rfl dX4_show_59 ?_
    refine lv_iload_n hx hb dX4_show_62 rfl (lv_at hl 2 rfl) ?_
    obtain ⟨n3, hn3, en3, hq⟩ := hq
    refine sy_iald C hh (p1 + 1) (iX7_N1 hp1) (aX7_1 hp1) (tX7_1 hp1) hn3 en3 (lX7_lt _) dX4_show_63 ?_
    refine lv_aload_n hx hb dX4_show_64 rfl (lv_at hl 1 rfl) ?_
    refine sy_get C hh (fun w h => mc (uX_fX7 w h)) p1 (iX7_N hp1) (oX7 hp1) rfl 1 (by decide) (index := 99) (mc uX_278) (v := .ref (Y.2.1 (p1 + 2))) rfl dX4_show_65 ?_
    refine lv_iload_n hx hb dX4_show_68 rfl (lv_at hl 2 rfl) ?_
    obtain ⟨n4, hn4, en4, hq⟩ := hq
    refine sy_iald C hh (p1 + 2) (iX7_N2 hp1) (aX7_2 hp1) (tX7_2 hp1) hn4 en4 (lX7_lt _) dX4_show_69 ?_
    refine lv_aload_n hx hb dX4_show_70 rfl (lv_at hl 1 rfl) ?_
    refine sy_get C hh (fun w h => mc (uX_fX7 w h)) p1 (iX7_N hp1) (oX7 hp1) rfl 2 (by decide) (index := 102) (mc uX_279) (v := .ref (Y.2.1 (p1 + 3))) rfl dX4_show_71 ?_
    refine lv_iload_n hx hb dX4_show_74 rfl (lv_at hl 2 rfl) ?_
    obtain ⟨n5, hn5, en5, hq⟩ := hq
    refine sy_iald C hh (p1 + 3) (iX7_N3 hp1) (aX7_3 hp1) (tX7_3 hp1) hn5 en5 (lX7_lt _) dX4_show_75 ?_
    refine lv_aload_n hx hb dX4_show_76 rfl (lv_at hl 1 rfl) ?_
    refine sy_get C hh (fun w h => mc (uX_fX7 w h)) p1 (iX7_N hp1) (oX7 hp1) rfl 3 (by decide) (index := 105) (mc uX_280) (v := .ref (Y.2.1 (p1 + 4))) rfl dX4_show_77 ?_
    refine lv_iload_n hx hb dX4_show_80 rfl (lv_at hl 2 rfl) ?_
    obtain ⟨n6, hn6, en6, hq⟩ := hq
    refine sy_iald C hh (p1 + 4) (iX7_N4 hp1) (aX7_4 hp1) (tX7_4 hp1) hn6 en6 (lX7_lt _) dX4_show_81 ?_
    refine sy_cVV C hh (As := [.int a3, .int (M (p1 + 1) n3), .int (M (p1 + 2) n4), .int (M (p1 + 3) n5), .int (M (p1 + 4) n6)]) (rest := []) 20 (by decide) (oX_20 Y) rfl (mX7_put l Y _ M 20 iX7_20 a3 (M (p1 + 1) n3) (M (p1 + 2) n4) (M (p1 + 3) n5) (M (p1 + 4) n6) _ hq) (cwV 5 C.1.2.2.2.2 (sy_goodV uX_good uX_287 uX_43 uX_44 uX_45 uX_23 _) rfl rfl rfl hdX7_put ⟨Nat.le_of_ble_eq_true rfl, Nat.le_of_ble_eq_true rfl⟩) rfl hl.1 rfl (Nat.le_of_ble_eq_true rfl) dX4_show_82 (fun M7 H locs hq hh => ?_)
    refine lv_aload hx hb dX4_show_85 (lv_at hl 4 rfl) ?_
    refine sy_get C hh (fun w h => mc (uX_fX2 w h)) 9 (by decide) (oX_9 Y) rfl 6 (by decide) (index := 111) (mc uX_281) (v := .ref (Y.2.1 20)) rfl dX4_show_87 ?_
    refine sy_get C hh (fun w h => mc (uX_fX7 w h)) 20 (by decide) (oX_20 Y) rfl 4 (by decide) (index := 117) (mc uX_282) (v := .ref (Y.2.1 25)) rfl dX4_show_90 ?_
    refine lv_iload_n hx hb dX4_show_93 rfl (lv_at hl 3 rfl) ?_
    refine lv_aload_n hx hb dX4_show_94 rfl (lv_at hl 0 rfl) ?_
    refine sy_get C hh (fun w h => mc (uX_fX4 w h)) 27 (by decide) (oX_27 Y) rfl 1 (by decide) (index := 18) (mc uX_189) (v := .ref (Y.2.1 28)) rfl dX4_show_95 ?_
    refine sy_get C hh (fun w h => mc (uX_fX3 w h)) 28 (by decide) (oX_28 Y) rfl 3 (by decide) (index := 120) (mc uX_283) (v := .ref (Y.2.1 30)) rfl dX4_show_98 ?_
    refine lv_iload_n hx hb dX4_show_101 rfl (lv_at hl 2 rfl) ?_
    obtain ⟨n8, hn8, en8, hq⟩ := hq
    refine sy_iald C hh 30 (by decide) (aX_30 Y) tX_30 hn8 en8 (by decide) dX4_show_102 ?_
    obtain ⟨n9, hn9, en9, hq⟩ := hq
    refine sy_iast C hh 25 (by decide) (aX_25 Y) tX_25 hn9 en9 (by decide) dX4_show_103 (fun H locs hh => ?_)
    exact sy_vret C hh dX4_show_104 hq
  · have hq := hq.2 c2
    refine lv_aload hx hb dX4_show_13 (lv_at hl 4 rfl) ?_
    refine lv_aload_n hx hb dX4_show_15 rfl (lv_at hl 0 rfl) ?_
    refine sy_get C hh (fun w h => mc (uX_fX4 w h)) 27 (by decide) (oX_27 Y) rfl 1 (by decide) (index := 18) (mc uX_189) (v := .ref (Y.2.1 28)) rfl dX4_show_16 ?_
    refine sy_get C hh (fun w h => mc (uX_fX3 w h)) 28 (by decide) (oX_28 Y) rfl 2 (by decide) (index := 91) (mc uX_254) (v := .ref (Y.2.1 29)) rfl dX4_show_19 ?_
    refine lv_iload_n hx hb dX4_show_22 rfl (lv_at hl 2 rfl) ?_
    obtain ⟨n10, hn10, en10, hq⟩ := hq
    refine sy_iald C hh 29 (by decide) (aX_29 Y) tX_29 hn10 en10 (by decide) dX4_show_23 ?_
    refine lv_aload_n hx hb dX4_show_24 rfl (lv_at hl 1 rfl) ?_
    refine sy_get C hh (fun w h => mc (uX_fX7 w h)) p1 (iX7_N hp1) (oX7 hp1) rfl 0 (by decide) (index := 94) (mc uX_277) (v := .ref (Y.2.1 (p1 + 1))) rfl dX4_show_25 ?_
    refine lv_iload_n hx hb dX4_show_28 rfl (lv_at hl 2 rfl) ?_
    obtain ⟨n11, hn11, en11, hq⟩ := hq
    refine sy_iald C hh (p1 + 1) (iX7_N1 hp1) (aX7_1 hp1) (tX7_1 hp1) hn11 en11 (lX7_lt _) dX4_show_29 ?_
    refine lv_aload_n hx hb dX4_show_30 rfl (lv_at hl 1 rfl) ?_
    refine sy_get C hh (fun w h => mc (uX_fX7 w h)) p1 (iX7_N hp1) (oX7 hp1) rfl 1 (by decide) (index := 99) (mc uX_278) (v := .ref (Y.2.1 (p1 + 2))) rfl dX4_show_31 ?_
    refine lv_iload_n hx hb dX4_show_34 rfl (lv_at hl 2 rfl) ?_
    obtain ⟨n12, hn12, en12, hq⟩ := hq
    refine sy_iald C hh (p1 + 2) (iX7_N2 hp1) (aX7_2 hp1) (tX7_2 hp1) hn12 en12 (lX7_lt _) dX4_show_35 ?_
    refine lv_aload_n hx hb dX4_show_36 rfl (lv_at hl 1 rfl) ?_
    refine sy_get C hh (fun w h => mc (uX_fX7 w h)) p1 (iX7_N hp1) (oX7 hp1) rfl 2 (by decide) (index := 102) (mc uX_279) (v := .ref (Y.2.1 (p1 + 3))) rfl dX4_show_37 ?_
    refine lv_iload_n hx hb dX4_show_40 rfl (lv_at hl 2 rfl) ?_
    obtain ⟨n13, hn13, en13, hq⟩ := hq
    refine sy_iald C hh (p1 + 3) (iX7_N3 hp1) (aX7_3 hp1) (tX7_3 hp1) hn13 en13 (lX7_lt _) dX4_show_41 ?_
    refine lv_aload_n hx hb dX4_show_42 rfl (lv_at hl 1 rfl) ?_
    refine sy_get C hh (fun w h => mc (uX_fX7 w h)) p1 (iX7_N hp1) (oX7 hp1) rfl 3 (by decide) (index := 105) (mc uX_280) (v := .ref (Y.2.1 (p1 + 4))) rfl dX4_show_43 ?_
    refine lv_iload_n hx hb dX4_show_46 rfl (lv_at hl 2 rfl) ?_
    obtain ⟨n14, hn14, en14, hq⟩ := hq
    refine sy_iald C hh (p1 + 4) (iX7_N4 hp1) (aX7_4 hp1) (tX7_4 hp1) hn14 en14 (lX7_lt _) dX4_show_47 ?_
    refine sy_cVV C hh (As := [.int (M 29 n10), .int (M (p1 + 1) n11), .int (M (p1 + 2) n12), .int (M (p1 + 3) n13), .int (M (p1 + 4) n14)]) (rest := []) 9 (by decide) (oX_9 Y) rfl (mX2_show l Y _ M (M 29 n10) (M (p1 + 1) n11) (M (p1 + 2) n12) (M (p1 + 3) n13) (M (p1 + 4) n14) _ hq) (cwV 5 C.1.2.2.2.2 (sy_goodV uX_good uX_284 uX_285 uX_286 uX_112 uX_118 _) rfl rfl rfl hdX2_show ⟨Nat.le_of_ble_eq_true rfl, Nat.le_of_ble_eq_true rfl⟩) rfl hl.1 rfl (Nat.le_of_ble_eq_true rfl) dX4_show_48 (fun M15 H locs hq hh => ?_)
    exact sy_vret C hh dX4_show_51 hq

/-! AreaSetter$Layer.layGroup(LAreaSetter$Tree;ILAreaSetter$Drawings;)V -/
def wX4_layGroup_69 (K_100 : sy_M → Int32 → Int32 → Nat → Prop) (Q : sy_M → Prop) : Nat → sy_M → Int32 → Int32 → Nat → Int32 → Prop
  | 0, _, _, _, _, _ => False
  | n + 1, M, x2, x4, x5, x6 => (((M 28 0) ≤ x6 → K_100 M x2 x4 x5) ∧ (¬ (M 28 0) ≤ x6 → wX4_show M (x5 + 1) x6 x2 (fun M10 => wX4_layGroup_69 K_100 Q n M10 x2 x4 x5 (x6 + (1 : Int32)))))
def wX4_layGroup_57 (Q : sy_M → Prop) (M : sy_M) (x2 : Int32) (x4 : Int32) : Prop := ∃ n8 : Nat, n8 < 3 ∧ x4 = nI n8 ∧ ∃ n18 : Nat, wX4_layGroup_69 (fun (M11 : sy_M) (x2_12 : Int32) (x4_13 : Int32) (x5_14 : Nat) => ∃ n15 : Nat, n15 < 40 ∧ x2_12 = nI n15 ∧ ∃ n16 : Nat, n16 < 40 ∧ x2_12 = nI n16 ∧ ∃ n17 : Nat, n17 < 40 ∧ x2_12 = nI n17 ∧ Q (mu (mu (mu M11 26 n15 (M11 28 1)) 18 n16 x4_13) 19 n17 ((mu (mu M11 26 n15 (M11 28 1)) 18 n16 x4_13) x5_14 0))) Q n18 M x2 x4 (33 + 7 * n8) (0 : Int32)
def wX4_layGroup (M : sy_M) (p1 : Nat) (a2 : Int32) (Q : sy_M → Prop) : Prop := wX3_gather M p1 a2 (fun M1 => wX3_sum M1 (0 : Int32) (M1 28 0) (fun r3 M2 => ((¬ r3 = 0 → ∃ n5 : Nat, n5 < 40 ∧ a2 = nI n5 ∧ wX4_layAs M2 (M2 (p1 + 2) n5) (fun r7 M6 => wX4_layGroup_57  Q M6 a2 r7)) ∧ (r3 = 0 → ∃ n19 : Nat, n19 < 3 ∧ (0 : Int32) = nI n19 ∧ wX4_layNothing M2 (33 + 7 * n19) (fun M20 => wX4_layGroup_57  Q M20 a2 (0 : Int32))))))
section
variable {p : Program} {l : Launch} {e : Env} {s : State} {m : MethodId} {args : Array Value} {below : List Frame} {meth : Method} {c : Code} {Y : sy_Y}
set_option maxHeartbeats 4000000 in
set_option maxRecDepth 100000 in
theorem kX4_layGroup_69 (C : sy_C p m c cX4_layGroup 7 s args vsX4_layGroup RX4 meth none Y NX tfX) {Q : sy_M → Prop} {K_100 : sy_M → Int32 → Int32 → Nat → Prop} (hK_100 : ∀ (M : sy_M) (x2 : Int32) (x4 : Int32) (x5 : Nat) (hx5 : iX5 x5) (H : Heap) (locs : List Loc) (ls : Array Slot), K_100 M x2 x4 x5 → sy_H Y NX EX s H locs M → lv_has ls 7 [(0, .ref (Y.2.1 27)), (2, .int x2), (3, .ref (Y.2.1 9)), (4, .int x4), (5, .ref (Y.2.1 x5))] → W p l e ({ frames := 39, cells := 0, slots := 0, locals := 1214 } : Room) s m args below meth c H locs 0 0 (sy_ZV below args s Y NX EX Q) (F0 m 100 ls [])) :
    ∀ (n : Nat) (M : sy_M) (x2 : Int32) (x4 : Int32) (x5 : Nat) (x6 : Int32) (hx5 : iX5 x5) (H : Heap) (locs : List Loc) (ls : Array Slot), wX4_layGroup_69 K_100 Q n M x2 x4 x5 x6 → sy_H Y NX EX s H locs M → lv_has ls 7 [(0, .ref (Y.2.1 27)), (2, .int x2), (3, .ref (Y.2.1 9)), (4, .int x4), (5, .ref (Y.2.1 x5)), (6, .int x6)] → W p l e ({ frames := 39, cells := 0, slots := 0, locals := 1214 } : Room) s m args below meth c H locs 0 0 (sy_ZV below args s Y NX EX Q) (F0 m 69 ls []) := by
  have hx := C.1.1
  have hb := C.1.2.1
  intro n
  induction n with
  | zero =>
    intro M x2 x4 x5 x6 hx5 H locs ls hq hh hl
    unfold wX4_layGroup_69 at hq
    exact hq.elim
  | succ n ih =>
    intro M x2 x4 x5 x6 hx5 H locs ls hq hh hl
    unfold wX4_layGroup_69 at hq
    refine lv_iload hx hb dX4_layGroup_69 (lv_at hl 5 rfl) ?_
    refine lv_aload_n hx hb dX4_layGroup_71 rfl (lv_at hl 0 rfl) ?_
    refine sy_get C hh (fun w h => mc (uX_fX4 w h)) 27 (by decide) (oX_27 Y) rfl 1 (by decide) (index := 18) (mc uX_189) (v := .ref (Y.2.1 28)) rfl dX4_layGroup_72 ?_
    refine sy_get C hh (fun w h => mc (uX_fX3 w h)) 28 (by decide) (oX_28 Y) rfl 0 (by decide) (index := 47) (mc uX_206) (v := .int (M 28 0)) rfl dX4_layGroup_75 ?_
    refine lv_icmp_ge (tgt := 100) hx hb dX4_layGroup_78 (by decide) (fun c9 => ?_) (fun c9 => ?_)
    · have hq := hq.1 c9
      exact hK_100 M x2 x4 x5 hx5 _ _ _ hq hh (lv_sub hl [0, 1, 2, 3, 4] rfl)
    · have hq := hq.2 c9
      refine lv_aload_n hx hb dX4_layGroup_81 rfl (lv_at hl 0 rfl) ?_
      refine lv_aload hx hb dX4_layGroup_82 (lv_at hl 4 rfl) ?_
      refine sy_get C hh (fun w h => mc (uX_fX5 w h)) x5 (iX5_N hx5) (oX5 hx5) rfl 1 (by decide) (index := 68) (mc uX_262) (v := .ref (Y.2.1 (x5 + 1))) rfl dX4_layGroup_84 ?_
      refine lv_iload hx hb dX4_layGroup_87 (lv_at hl 5 rfl) ?_
      refine lv_iload_n hx hb dX4_layGroup_89 rfl (lv_at hl 1 rfl) ?_
      refine lv_aload_n hx hb dX4_layGroup_90 rfl (lv_at hl 2 rfl) ?_
      refine sy_cVV C hh (As := [.ref (Y.2.1 (x5 + 1)), .int x6, .int x2, .ref (Y.2.1 9)]) (rest := []) 27 (by decide) (oX_27 Y) rfl (mX4_show l Y _ M (x5 + 1) (iX5_iX7 hx5) x6 x2 _ hq) (cwV 4 C.1.2.2.2.2 (sy_goodV uX_good uX_304 uX_305 uX_306 uX_272 uX_288 _) rfl rfl rfl hdX4_show ⟨Nat.le_of_ble_eq_true rfl, Nat.le_of_ble_eq_true rfl⟩) rfl hl.1 rfl (Nat.le_of_ble_eq_true rfl) dX4_layGroup_91 (fun M10 H locs hq hh => ?_)
      refine lv_iinc (v := (x6 + (1 : Int32))) (lv' := [(6, .int (x6 + (1 : Int32))), (0, .ref (Y.2.1 27)), (2, .int x2), (3, .ref (Y.2.1 9)), (4, .int x4), (5, .ref (Y.2.1 x5))]) hx hb dX4_layGroup_94 hl (k := 5) rfl (sy_inc (by decide)) (by decide) rfl (fun ls hl => ?_)
      refine lv_goto (tgt := 69) hx hb dX4_layGroup_97 (by decide) ?_
      exact ih M10 x2 x4 x5 (x6 + (1 : Int32)) hx5 _ _ _ hq hh (lv_sub hl [1, 2, 3, 4, 5, 0] rfl)

set_option maxHeartbeats 4000000 in
set_option maxRecDepth 100000 in
theorem kX4_layGroup_57 (C : sy_C p m c cX4_layGroup 7 s args vsX4_layGroup RX4 meth none Y NX tfX) {Q : sy_M → Prop} :
    ∀ (M : sy_M) (x2 : Int32) (x4 : Int32) (H : Heap) (locs : List Loc) (ls : Array Slot), wX4_layGroup_57 Q M x2 x4 → sy_H Y NX EX s H locs M → lv_has ls 7 [(0, .ref (Y.2.1 27)), (2, .int x2), (3, .ref (Y.2.1 9)), (4, .int x4)] → W p l e ({ frames := 39, cells := 0, slots := 0, locals := 1214 } : Room) s m args below meth c H locs 0 0 (sy_ZV below args s Y NX EX Q) (F0 m 57 ls []) := by
  have hx := C.1.1
  have hb := C.1.2.1
  intro M x2 x4 H locs ls hq hh hl
  unfold wX4_layGroup_57 at hq
  refine lv_aload_n hx hb dX4_layGroup_57 rfl (lv_at hl 0 rfl) ?_
  refine sy_get C hh (fun w h => mc (uX_fX4 w h)) 27 (by decide) (oX_27 Y) rfl 2 (by decide) (index := 25) (mc uX_192) (v := .ref (Y.2.1 32)) rfl dX4_layGroup_58 ?_
  refine lv_iload hx hb dX4_layGroup_61 (lv_at hl 3 rfl) ?_
  obtain ⟨n8, hn8, en8, hq⟩ := hq
  refine sy_aald C hh 32 (by decide) (aX_32 Y) tX_32 hn8 en8 (by decide) dX4_layGroup_63 rfl ?_
  refine lv_astore (lv' := [(5, .ref (Y.2.1 (33 + 7 * n8))), (0, .ref (Y.2.1 27)), (2, .int x2), (3, .ref (Y.2.1 9)), (4, .int x4)]) hx hb dX4_layGroup_64 hl (by decide) rfl (fun ls hl => ?_)
  refine lv_iconst (v := (0 : Int32)) hx hb dX4_layGroup_66 (by decide) ?_
  refine lv_istore (lv' := [(6, .int (0 : Int32)), (5, .ref (Y.2.1 (33 + 7 * n8))), (0, .ref (Y.2.1 27)), (2, .int x2), (3, .ref (Y.2.1 9)), (4, .int x4)]) hx hb dX4_layGroup_67 hl (by decide) rfl (fun ls hl => ?_)
  obtain ⟨n18, hq⟩ := hq
  refine kX4_layGroup_69 C (fun M11 x2_12 x4_13 x5_14 hx5_14 H locs ls hq hh hl => ?_) n18 M x2 x4 (33 + 7 * n8) (0 : Int32) (iX5_n hn8) _ _ _ hq hh (lv_sub hl [2, 3, 4, 5, 1, 0] rfl)
  · refine lv_aload_n hx hb dX4_layGroup_100 rfl (lv_at hl 2 rfl) ?_
    refine sy_get C hh (fun w h => mc (uX_fX2 w h)) 9 (by decide) (oX_9 Y) rfl 7 (by decide) (index := 76) (mc uX_290) (v := .ref (Y.2.1 26)) rfl dX4_layGroup_101 ?_
    refine lv_iload_n hx hb dX4_layGroup_104 rfl (lv_at hl 1 rfl) ?_
    refine lv_aload_n hx hb dX4_layGroup_105 rfl (lv_at hl 0 rfl) ?_
    refine sy_get C hh (fun w h => mc (uX_fX4 w h)) 27 (by decide) (oX_27 Y) rfl 1 (by decide) (index := 18) (mc uX_189) (v := .ref (Y.2.1 28)) rfl dX4_layGroup_106 ?_
    refine sy_get C hh (fun w h => mc (uX_fX3 w h)) 28 (by decide) (oX_28 Y) rfl 1 (by decide) (index := 81) (mc uX_291) (v := .int (M11 28 1)) rfl dX4_layGroup_109 ?_
    obtain ⟨n15, hn15, en15, hq⟩ := hq
    refine sy_iast C hh 26 (by decide) (aX_26 Y) tX_26 hn15 en15 (by decide) dX4_layGroup_112 (fun H locs hh => ?_)
    refine lv_aload_n hx hb dX4_layGroup_113 rfl (lv_at hl 2 rfl) ?_
    refine sy_get C hh (fun w h => mc (uX_fX2 w h)) 9 (by decide) (oX_9 Y) rfl 4 (by decide) (index := 83) (mc uX_292) (v := .ref (Y.2.1 18)) rfl dX4_layGroup_114 ?_
    refine lv_iload_n hx hb dX4_layGroup_117 rfl (lv_at hl 1 rfl) ?_
    refine lv_iload hx hb dX4_layGroup_118 (lv_at hl 3 rfl) ?_
    obtain ⟨n16, hn16, en16, hq⟩ := hq
    refine sy_iast C hh 18 (by decide) (aX_18 Y) tX_18 hn16 en16 (by decide) dX4_layGroup_120 (fun H locs hh => ?_)
    refine lv_aload_n hx hb dX4_layGroup_121 rfl (lv_at hl 2 rfl) ?_
    refine sy_get C hh (fun w h => mc (uX_fX2 w h)) 9 (by decide) (oX_9 Y) rfl 5 (by decide) (index := 86) (mc uX_293) (v := .ref (Y.2.1 19)) rfl dX4_layGroup_122 ?_
    refine lv_iload_n hx hb dX4_layGroup_125 rfl (lv_at hl 1 rfl) ?_
    refine lv_aload hx hb dX4_layGroup_126 (lv_at hl 4 rfl) ?_
    refine sy_get C hh (fun w h => mc (uX_fX5 w h)) x5_14 (iX5_N hx5_14) (oX5 hx5_14) rfl 0 (by decide) (index := 89) (mc uX_205) (v := .int ((mu (mu M11 26 n15 (M11 28 1)) 18 n16 x4_13) x5_14 0)) rfl dX4_layGroup_128 ?_
    obtain ⟨n17, hn17, en17, hq⟩ := hq
    refine sy_iast C hh 19 (by decide) (aX_19 Y) tX_19 hn17 en17 (by decide) dX4_layGroup_131 (fun H locs hh => ?_)
    exact sy_vret C hh dX4_layGroup_132 hq

end
set_option maxHeartbeats 4000000 in
set_option maxRecDepth 100000 in
theorem mX4_layGroup (l : Launch) (Y : sy_Y) (sz : Nat) (M : sy_M) (p1 : Nat) (hp1 : iX10 p1) (a2 : Int32) (Q : sy_M → Prop) (hq : wX4_layGroup M p1 a2 Q) : Met l yX4_layGroup vsX4_layGroup ({ frames := 39, cells := 0, slots := 0, locals := 1214 } : Room) (va_Pc [.ref (Y.2.1 27), .ref (Y.2.1 p1), .int a2, .ref (Y.2.1 9)] (sy_pre Y NX EX tfX sz M)) (sy_QV Y NX EX sz Q) 0 0 (sy_A NX Y.2.1 sz) := by
  refine sy_metV (by decide) rfl (Nat.le_of_ble_eq_true rfl) ?_
  intro p e s m args below meth c C ls hl hh
  have hx := C.1.1
  have hb := C.1.2.1
  have hl : lv_has ls 7 [(0, .ref (Y.2.1 27)), (1, .ref (Y.2.1 p1)), (2, .int a2), (3, .ref (Y.2.1 9))] := hl
  unfold wX4_layGroup at hq
  refine lv_aload_n hx hb dX4_layGroup_0 rfl (lv_at hl 0 rfl) ?_
  refine sy_get C hh (fun w h => mc (uX_fX4 w h)) 27 (by decide) (oX_27 Y) rfl 1 (by decide) (index := 18) (mc uX_189) (v := .ref (Y.2.1 28)) rfl dX4_layGroup_1 ?_
  refine lv_aload_n hx hb dX4_layGroup_4 rfl (lv_at hl 1 rfl) ?_
  refine lv_iload_n hx hb dX4_layGroup_5 rfl (lv_at hl 2 rfl) ?_
  refine lv_aload_n hx hb dX4_layGroup_6 rfl (lv_at hl 3 rfl) ?_
  refine sy_cVV C hh (As := [.ref (Y.2.1 p1), .int a2, .ref (Y.2.1 9)]) (rest := []) 28 (by decide) (oX_28 Y) rfl (mX3_gather l Y _ M p1 hp1 a2 _ hq) (cwV 3 C.1.2.2.2.2 (sy_goodV uX_good uX_294 uX_295 uX_296 uX_58 uX_173 _) rfl rfl rfl hdX3_gather ⟨Nat.le_of_ble_eq_true rfl, Nat.le_of_ble_eq_true rfl⟩) rfl hl.1 rfl (Nat.le_of_ble_eq_true rfl) dX4_layGroup_7 (fun M1 H locs hq hh => ?_)
  refine lv_iconst (v := (0 : Int32)) hx hb dX4_layGroup_10 (by decide) ?_
  refine lv_istore (lv' := [(4, .int (0 : Int32)), (0, .ref (Y.2.1 27)), (1, .ref (Y.2.1 p1)), (2, .int a2), (3, .ref (Y.2.1 9))]) hx hb dX4_layGroup_11 hl (by decide) rfl (fun ls hl => ?_)
  refine lv_aload_n hx hb dX4_layGroup_13 rfl (lv_at hl 1 rfl) ?_
  refine sy_get C hh (fun w h => mc (uX_fX4 w h)) 27 (by decide) (oX_27 Y) rfl 1 (by decide) (index := 18) (mc uX_189) (v := .ref (Y.2.1 28)) rfl dX4_layGroup_14 ?_
  refine lv_iconst (v := (0 : Int32)) hx hb dX4_layGroup_17 (by decide) ?_
  refine lv_aload_n hx hb dX4_layGroup_18 rfl (lv_at hl 1 rfl) ?_
  refine sy_get C hh (fun w h => mc (uX_fX4 w h)) 27 (by decide) (oX_27 Y) rfl 1 (by decide) (index := 18) (mc uX_189) (v := .ref (Y.2.1 28)) rfl dX4_layGroup_19 ?_
  refine sy_get C hh (fun w h => mc (uX_fX3 w h)) 28 (by decide) (oX_28 Y) rfl 0 (by decide) (index := 47) (mc uX_206) (v := .int (M1 28 0)) rfl dX4_layGroup_22 ?_
  refine sy_cIV C hh (As := [.int (0 : Int32), .int (M1 28 0)]) (rest := []) 28 (by decide) (oX_28 Y) rfl (mX3_sum l Y _ M1 (0 : Int32) (M1 28 0) _ hq) (cwV 2 C.1.2.2.2.2 (sy_goodV uX_good uX_297 uX_56 uX_57 uX_58 uX_48 _) rfl rfl rfl hdX3_sum ⟨Nat.le_of_ble_eq_true rfl, Nat.le_of_ble_eq_true rfl⟩) rfl hl.1 rfl (Nat.le_of_ble_eq_true rfl) dX4_layGroup_25 (fun r3 M2 H locs hq hh => ?_)
  refine lv_if_ne (tgt := 44) hx hb dX4_layGroup_28 (by decide) (fun c4 => ?_) (fun c4 => ?_)
  · have hq := hq.1 c4
    refine lv_aload_n hx hb dX4_layGroup_44 rfl (lv_at hl 1 rfl) ?_
    refine lv_aload_n hx hb dX4_layGroup_45 rfl (lv_at hl 2 rfl) ?_
    refine sy_get C hh (fun w h => mc (uX_fX10 w h)) p1 (iX10_N hp1) (oX10 hp1) rfl 3 (by decide) (index := 58) (mc uX_289) (v := .ref (Y.2.1 (p1 + 2))) rfl dX4_layGroup_46 ?_
    refine lv_iload_n hx hb dX4_layGroup_49 rfl (lv_at hl 3 rfl) ?_
    obtain ⟨n5, hn5, en5, hq⟩ := hq
    refine sy_iald C hh (p1 + 2) (iX10_N2 hp1) (aX10_2 hp1) (tX10_2 hp1) hn5 en5 (by decide) dX4_layGroup_50 ?_
    refine lv_aload_n hx hb dX4_layGroup_51 rfl (lv_at hl 4 rfl) ?_
    refine sy_cIV C hh (As := [.int (M2 (p1 + 2) n5), .ref (Y.2.1 9)]) (rest := []) 27 (by decide) (oX_27 Y) rfl (mX4_layAs l Y _ M2 (M2 (p1 + 2) n5) _ hq) (cwV 2 C.1.2.2.2.2 (sy_goodV uX_good uX_301 uX_302 uX_303 uX_272 uX_276 _) rfl rfl rfl hdX4_layAs ⟨Nat.le_of_ble_eq_true rfl, Nat.le_of_ble_eq_true rfl⟩) rfl hl.1 rfl (Nat.le_of_ble_eq_true rfl) dX4_layGroup_52 (fun r7 M6 H locs hq hh => ?_)
    refine lv_istore (lv' := [(4, .int r7), (0, .ref (Y.2.1 27)), (1, .ref (Y.2.1 p1)), (2, .int a2), (3, .ref (Y.2.1 9))]) hx hb dX4_layGroup_55 hl (by decide) rfl (fun ls hl => ?_)
    refine kX4_layGroup_57 C  M6 a2 r7 _ _ _ hq hh (lv_sub hl [1, 3, 4, 0] rfl)
  · have hq := hq.2 c4
    refine lv_aload_n hx hb dX4_layGroup_31 rfl (lv_at hl 1 rfl) ?_
    refine lv_aload_n hx hb dX4_layGroup_32 rfl (lv_at hl 1 rfl) ?_
    refine sy_get C hh (fun w h => mc (uX_fX4 w h)) 27 (by decide) (oX_27 Y) rfl 2 (by decide) (index := 25) (mc uX_192) (v := .ref (Y.2.1 32)) rfl dX4_layGroup_33 ?_
    refine lv_iconst (v := (0 : Int32)) hx hb dX4_layGroup_36 (by decide) ?_
    obtain ⟨n19, hn19, en19, hq⟩ := hq
    refine sy_aald C hh 32 (by decide) (aX_32 Y) tX_32 hn19 en19 (by decide) dX4_layGroup_37 rfl ?_
    refine sy_cVV C hh (As := [.ref (Y.2.1 (33 + 7 * n19))]) (rest := []) 27 (by decide) (oX_27 Y) rfl (mX4_layNothing l Y _ M2 (33 + 7 * n19) (iX5_n hn19) _ hq) (cwV 1 C.1.2.2.2.2 (sy_goodV uX_good uX_298 uX_299 uX_300 uX_272 uX_210 _) rfl rfl rfl hdX4_layNothing ⟨Nat.le_of_ble_eq_true rfl, Nat.le_of_ble_eq_true rfl⟩) rfl hl.1 rfl (Nat.le_of_ble_eq_true rfl) dX4_layGroup_38 (fun M20 H locs hq hh => ?_)
    refine lv_goto (tgt := 57) hx hb dX4_layGroup_41 (by decide) ?_
    refine kX4_layGroup_57 C  M20 a2 (0 : Int32) _ _ _ hq hh (lv_sub hl [1, 3, 4, 0] rfl)

