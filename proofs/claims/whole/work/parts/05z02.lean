/-! AreaSetterModel.want(I)V -/
def wX12_want (M : sy_M) (a1 : Int32) (Q : sy_M → Prop) : Prop := wX12_isWell M (fun r2 M1 => ((¬ r2 = 0 → wX12_is M1 a1 (fun r5 M4 => ((r5 = 0 → wX12_fails M4 (1 : Int32) (fun M7 => Q M7)) ∧ (¬ r5 = 0 → wX12_next M4 (fun M8 => Q M8))))) ∧ (r2 = 0 → Q M1)))
section
variable {p : Program} {l : Launch} {e : Env} {s : State} {m : MethodId} {args : Array Value} {below : List Frame} {meth : Method} {c : Code} {Y : sy_Y}
end
set_option maxHeartbeats 4000000 in
set_option maxRecDepth 100000 in
theorem mX12_want (l : Launch) (Y : sy_Y) (sz : Nat) (M : sy_M) (a1 : Int32) (Q : sy_M → Prop) (hq : wX12_want M a1 Q) : Met l yX12_want vsX12_want ({ frames := 2, cells := 0, slots := 0, locals := 42 } : Room) (va_Pc [.ref (Y.2.1 0), .int a1] (sy_pre Y NZ EZ tfZ sz M)) (sy_QV Y NZ EZ sz Q) 0 0 (sy_A NZ Y.2.1 sz) := by
  refine sy_metV (by decide) rfl (Nat.le_of_ble_eq_true rfl) ?_
  intro p e s m args below meth c C ls hl hh
  have hx := C.1.1
  have hb := C.1.2.1
  have hl : lv_has ls 2 [(0, .ref (Y.2.1 0)), (1, .int a1)] := hl
  unfold wX12_want at hq
  refine lv_aload_n hx hb dX12_want_0 rfl (lv_at hl 0 rfl) ?_
  refine sy_cIV C hh (As := []) (rest := []) 0 (by decide) (oZ_0 Y) rfl (mX12_isWell l Y _ M  _ hq) (cwV 0 C.1.2.2.2.2 (sy_goodV uZ_good uZ_154 uZ_155 uZ_156 uZ_55 uZ_138 _) rfl rfl rfl hdX12_isWell ⟨Nat.le_of_ble_eq_true rfl, Nat.le_of_ble_eq_true rfl⟩) rfl hl.1 rfl (Nat.le_of_ble_eq_true rfl) dX12_want_1 (fun r2 M1 H locs hq hh => ?_)
  refine lv_if_ne (tgt := 8) hx hb dX12_want_4 (by decide) (fun c3 => ?_) (fun c3 => ?_)
  · have hq := hq.1 c3
    refine lv_aload_n hx hb dX12_want_8 rfl (lv_at hl 0 rfl) ?_
    refine lv_iload_n hx hb dX12_want_9 rfl (lv_at hl 1 rfl) ?_
    refine sy_cIV C hh (As := [.int a1]) (rest := []) 0 (by decide) (oZ_0 Y) rfl (mX12_is l Y _ M1 a1 _ hq) (cwV 1 C.1.2.2.2.2 (sy_goodV uZ_good uZ_157 uZ_158 uZ_159 uZ_55 uZ_134 _) rfl rfl rfl hdX12_is ⟨Nat.le_of_ble_eq_true rfl, Nat.le_of_ble_eq_true rfl⟩) rfl hl.1 rfl (Nat.le_of_ble_eq_true rfl) dX12_want_10 (fun r5 M4 H locs hq hh => ?_)
    refine lv_if_eq (tgt := 23) hx hb dX12_want_13 (by decide) (fun c6 => ?_) (fun c6 => ?_)
    · have hq := hq.1 c6
      refine lv_aload_n hx hb dX12_want_23 rfl (lv_at hl 0 rfl) ?_
      refine lv_iconst (v := (1 : Int32)) hx hb dX12_want_24 (by decide) ?_
      refine sy_cVV C hh (As := [.int (1 : Int32)]) (rest := []) 0 (by decide) (oZ_0 Y) rfl (mX12_fails l Y _ M4 (1 : Int32) _ hq) (cwV 1 C.1.2.2.2.2 (sy_goodV uZ_good uZ_144 uZ_145 uZ_146 uZ_55 uZ_135 _) rfl rfl rfl hdX12_fails ⟨Nat.le_of_ble_eq_true rfl, Nat.le_of_ble_eq_true rfl⟩) rfl hl.1 rfl (Nat.le_of_ble_eq_true rfl) dX12_want_25 (fun M7 H locs hq hh => ?_)
      exact sy_vret C hh dX12_want_28 hq
    · have hq := hq.2 c6
      refine lv_aload_n hx hb dX12_want_16 rfl (lv_at hl 0 rfl) ?_
      refine sy_cVV C hh (As := []) (rest := []) 0 (by decide) (oZ_0 Y) rfl (mX12_next l Y _ M4  _ hq) (cwV 0 C.1.2.2.2.2 (sy_goodV uZ_good uZ_150 uZ_151 uZ_152 uZ_55 uZ_64 _) rfl rfl rfl hdX12_next ⟨Nat.le_of_ble_eq_true rfl, Nat.le_of_ble_eq_true rfl⟩) rfl hl.1 rfl (Nat.le_of_ble_eq_true rfl) dX12_want_17 (fun M8 H locs hq hh => ?_)
      refine lv_goto (tgt := 28) hx hb dX12_want_20 (by decide) ?_
      exact sy_vret C hh dX12_want_28 hq
  · have hq := hq.2 c3
    exact sy_vret C hh dX12_want_7 hq

/-! AreaSetterModel.child(I)V -/
def wX12_child (rec : sy_M → Int32 → (sy_M → Prop) → Prop) (M : sy_M) (a1 : Int32) (Q : sy_M → Prop) : Prop := wX12_newBox M a1 (fun r2 M1 => wX12_isWell M1 (fun r4 M3 => ((¬ r4 = 0 → ((¬ (M3 0 8) = (nI 2) → rec M3 r2 (fun M7 => Q M7)) ∧ ((M3 0 8) = (nI 2) → ∃ n8 : Nat, n8 < 82 ∧ r2 = nI n8 ∧ wX12_next (mu M3 8 n8 (M3 0 9)) (fun M9 => Q M9)))) ∧ (r4 = 0 → Q M3))))
section
variable {p : Program} {l : Launch} {e : Env} {s : State} {m : MethodId} {args : Array Value} {below : List Frame} {meth : Method} {c : Code} {Y : sy_Y}
end
set_option maxHeartbeats 4000000 in
set_option maxRecDepth 100000 in
theorem mX12_child {l : Launch} {Y : sy_Y} {rec : sy_M → Int32 → (sy_M → Prop) → Prop} {d : Nat} (hrec : ∀ (sz : Nat) (M : sy_M) (a1 : Int32) (Q : sy_M → Prop), rec M a1 Q → Met l yX12_group vsX12_group ({ frames := 2 * d + 13, cells := 0, slots := 0, locals := 44 * d + 407 } : Room) (va_Pc [.ref (Y.2.1 0), .int a1] (sy_pre Y NZ EZ tfZ sz M)) (sy_QV Y NZ EZ sz Q) 0 0 (sy_A NZ Y.2.1 sz)) (sz : Nat) (M : sy_M) (a1 : Int32) (Q : sy_M → Prop) (hq : wX12_child rec M a1 Q) : Met l yX12_child vsX12_child ({ frames := 2 * d + 14, cells := 0, slots := 0, locals := 44 * d + 429 } : Room) (va_Pc [.ref (Y.2.1 0), .int a1] (sy_pre Y NZ EZ tfZ sz M)) (sy_QV Y NZ EZ sz Q) 0 0 (sy_A NZ Y.2.1 sz) := by
  refine sy_metV (by decide) rfl (Nat.le_of_ble_eq_true rfl) ?_
  intro p e s m args below meth c C ls hl hh
  have hx := C.1.1
  have hb := C.1.2.1
  have hl : lv_has ls 3 [(0, .ref (Y.2.1 0)), (1, .int a1)] := hl
  unfold wX12_child at hq
  refine lv_aload_n hx hb dX12_child_0 rfl (lv_at hl 0 rfl) ?_
  refine lv_iload_n hx hb dX12_child_1 rfl (lv_at hl 1 rfl) ?_
  refine sy_cIV C hh (As := [.int a1]) (rest := []) 0 (by decide) (oZ_0 Y) rfl (mX12_newBox l Y _ M a1 _ hq) (cwV 1 C.1.2.2.2.2 (sy_goodV uZ_good uZ_161 uZ_162 uZ_163 uZ_55 uZ_153 _) rfl rfl rfl hdX12_newBox ⟨by dsimp only; omega, by dsimp only; omega⟩) rfl hl.1 rfl (Nat.le_of_ble_eq_true rfl) dX12_child_2 (fun r2 M1 H locs hq hh => ?_)
  refine lv_istore_n (lv' := [(2, .int r2), (0, .ref (Y.2.1 0)), (1, .int a1)]) hx hb dX12_child_5 rfl hl (by decide) rfl (fun ls hl => ?_)
  refine lv_aload_n hx hb dX12_child_6 rfl (lv_at hl 1 rfl) ?_
  refine sy_cIV C hh (As := []) (rest := []) 0 (by decide) (oZ_0 Y) rfl (mX12_isWell l Y _ M1  _ hq) (cwV 0 C.1.2.2.2.2 (sy_goodV uZ_good uZ_154 uZ_155 uZ_156 uZ_55 uZ_138 _) rfl rfl rfl hdX12_isWell ⟨by dsimp only; omega, by dsimp only; omega⟩) rfl hl.1 rfl (Nat.le_of_ble_eq_true rfl) dX12_child_7 (fun r4 M3 H locs hq hh => ?_)
  refine lv_if_ne (tgt := 14) hx hb dX12_child_10 (by decide) (fun c5 => ?_) (fun c5 => ?_)
  · have hq := hq.1 c5
    refine lv_aload_n hx hb dX12_child_14 rfl (lv_at hl 1 rfl) ?_
    refine sy_get C hh (fun w h => mc (uZ_fX12 w h)) 0 (by decide) (oZ_0 Y) rfl 8 (by decide) (index := 158) (mc uZ_67) (v := .int (M3 0 8)) rfl dX12_child_15 ?_
    refine lv_iconst (v := (nI 2)) hx hb dX12_child_18 (by decide) ?_
    refine lv_icmp_ne (tgt := 39) hx hb dX12_child_19 (by decide) (fun c6 => ?_) (fun c6 => ?_)
    · have hq := hq.1 c6
      refine lv_aload_n hx hb dX12_child_39 rfl (lv_at hl 1 rfl) ?_
      refine lv_iload_n hx hb dX12_child_40 rfl (lv_at hl 0 rfl) ?_
      refine sy_cVV C hh (As := [.int r2]) (rest := []) 0 (by decide) (oZ_0 Y) rfl (hrec _ M3 r2 _ hq) (cwV 1 C.1.2.2.2.2 (sy_goodV uZ_good uZ_164 uZ_165 uZ_166 uZ_55 uZ_167 _) rfl rfl rfl hdX12_group ⟨by dsimp only; omega, by dsimp only; omega⟩) rfl hl.1 rfl (Nat.le_of_ble_eq_true rfl) dX12_child_41 (fun M7 H locs hq hh => ?_)
      exact sy_vret C hh dX12_child_44 hq
    · have hq := hq.2 c6
      refine lv_aload_n hx hb dX12_child_22 rfl (lv_at hl 1 rfl) ?_
      refine sy_get C hh (fun w h => mc (uZ_fX12 w h)) 0 (by decide) (oZ_0 Y) rfl 21 (by decide) (index := 46) (mc uZ_19) (v := .ref (Y.2.1 8)) rfl dX12_child_23 ?_
      refine lv_iload_n hx hb dX12_child_26 rfl (lv_at hl 0 rfl) ?_
      refine lv_aload_n hx hb dX12_child_27 rfl (lv_at hl 1 rfl) ?_
      refine sy_get C hh (fun w h => mc (uZ_fX12 w h)) 0 (by decide) (oZ_0 Y) rfl 9 (by decide) (index := 172) (mc uZ_68) (v := .int (M3 0 9)) rfl dX12_child_28 ?_
      obtain ⟨n8, hn8, en8, hq⟩ := hq
      refine sy_iast C hh 8 (by decide) (aZ_8 Y) tZ_8 hn8 en8 (by decide) dX12_child_31 (fun H locs hh => ?_)
      refine lv_aload_n hx hb dX12_child_32 rfl (lv_at hl 1 rfl) ?_
      refine sy_cVV C hh (As := []) (rest := []) 0 (by decide) (oZ_0 Y) rfl (mX12_next l Y _ (mu M3 8 n8 (M3 0 9))  _ hq) (cwV 0 C.1.2.2.2.2 (sy_goodV uZ_good uZ_150 uZ_151 uZ_152 uZ_55 uZ_64 _) rfl rfl rfl hdX12_next ⟨by dsimp only; omega, by dsimp only; omega⟩) rfl hl.1 rfl (Nat.le_of_ble_eq_true rfl) dX12_child_33 (fun M9 H locs hq hh => ?_)
      refine lv_goto (tgt := 44) hx hb dX12_child_36 (by decide) ?_
      exact sy_vret C hh dX12_child_44 hq
  · have hq := hq.2 c5
    exact sy_vret C hh dX12_child_13 hq

/-! AreaSetterModel.group(I)V -/
def wX12_group_113 (rec : sy_M → Int32 → (sy_M → Prop) → Prop) (K_83 : sy_M → Int32 → Int32 → Prop) (Q : sy_M → Prop) (M : sy_M) (x1 : Int32) (s0 : Int32) : Prop := ((s0 = 0 → K_83 M x1 s0) ∧ (¬ s0 = 0 → wX12_next M (fun M22 => K_83 M22 x1 s0)))
def wX12_group_112 (rec : sy_M → Int32 → (sy_M → Prop) → Prop) (K_83 : sy_M → Int32 → Int32 → Prop) (Q : sy_M → Prop) (M : sy_M) (x1 : Int32) : Prop := wX12_group_113 rec K_83 Q M x1 (0 : Int32)
def wX12_group_83 (rec : sy_M → Int32 → (sy_M → Prop) → Prop) (Q : sy_M → Prop) : Nat → sy_M → Int32 → Int32 → Prop
  | 0, _, _, _ => False
  | n + 1, M, x1, x2 => ((x2 = 0 → wX12_want M (nI 41) (fun M16 => Q M16)) ∧ (¬ x2 = 0 → wX12_child rec M x1 (fun M17 => wX12_isWell M17 (fun r19 M18 => ((r19 = 0 → wX12_group_112 rec (fun (M23 : sy_M) (x1_24 : Int32) (x2_25 : Int32) => wX12_group_83 rec Q n M23 x1_24 x2_25) Q M18 x1) ∧ (¬ r19 = 0 → wX12_is M18 (nI 44) (fun r27 M26 => ((r27 = 0 → wX12_group_112 rec (fun (M29 : sy_M) (x1_30 : Int32) (x2_31 : Int32) => wX12_group_83 rec Q n M29 x1_30 x2_31) Q M26 x1) ∧ (¬ r27 = 0 → wX12_group_113 rec (fun (M32 : sy_M) (x1_33 : Int32) (x2_34 : Int32) => wX12_group_83 rec Q n M32 x1_33 x2_34) Q M26 x1 (1 : Int32))))))))))
def wX12_group_72 (rec : sy_M → Int32 → (sy_M → Prop) → Prop) (Q : sy_M → Prop) (M : sy_M) (x1 : Int32) : Prop := wX12_want M (nI 40) (fun M12 => wX12_isWell M12 (fun r14 M13 => ∃ n35 : Nat, wX12_group_83 rec  Q n35 M13 x1 r14))
def wX12_group_b (rec : sy_M → Int32 → (sy_M → Prop) → Prop) (M : sy_M) (a1 : Int32) (Q : sy_M → Prop) : Prop := wX12_how M (fun r2 M1 => ((¬ r2 = (-1 : Int32) → ∃ n4 : Nat, n4 < 82 ∧ a1 = nI n4 ∧ ((¬ (M1 5 n4) = (nI 6) → wX12_how (mu M1 3 n4 (vp_nar .boolean (1 : Int32))) (fun r7 M6 => wX12_next (mu M6 6 n4 r7) (fun M8 => wX12_isWord M8 0 (fun r10 M9 => ((r10 = 0 → wX12_group_72 rec  Q M9 a1) ∧ (¬ r10 = 0 → wX12_next (mu M9 7 n4 (vp_nar .boolean (1 : Int32))) (fun M36 => wX12_group_72 rec  Q M36 a1))))))) ∧ ((M1 5 n4) = (nI 6) → wX12_fails M1 (nI 2) (fun M37 => Q M37)))) ∧ (r2 = (-1 : Int32) → wX12_fails M1 (1 : Int32) (fun M38 => Q M38))))
def wX12_group : Nat → sy_M → Int32 → (sy_M → Prop) → Prop
  | 0, _, _, _ => False
  | d + 1, M, a1, Q => wX12_group_b (wX12_group d) M a1 Q
section
variable {p : Program} {l : Launch} {e : Env} {s : State} {m : MethodId} {args : Array Value} {below : List Frame} {meth : Method} {c : Code} {Y : sy_Y}
set_option maxHeartbeats 4000000 in
set_option maxRecDepth 100000 in
theorem kX12_group_113 (C : sy_C p m c cX12_group 3 s args vsX12_group RX12 meth none Y NZ tfZ) {rec : sy_M → Int32 → (sy_M → Prop) → Prop} {d : Nat} (hrec : ∀ (sz : Nat) (M : sy_M) (a1 : Int32) (Q : sy_M → Prop), rec M a1 Q → Met l yX12_group vsX12_group ({ frames := 2 * d + 13, cells := 0, slots := 0, locals := 44 * d + 407 } : Room) (va_Pc [.ref (Y.2.1 0), .int a1] (sy_pre Y NZ EZ tfZ sz M)) (sy_QV Y NZ EZ sz Q) 0 0 (sy_A NZ Y.2.1 sz)) {Q : sy_M → Prop} {K_83 : sy_M → Int32 → Int32 → Prop} (hK_83 : ∀ (M : sy_M) (x1 : Int32) (x2 : Int32) (H : Heap) (locs : List Loc) (ls : Array Slot), K_83 M x1 x2 → sy_H Y NZ EZ s H locs M → lv_has ls 3 [(0, .ref (Y.2.1 0)), (1, .int x1), (2, .int x2)] → W p l e ({ frames := 2 * (d + 1) + 13, cells := 0, slots := 0, locals := 44 * (d + 1) + 407 } : Room) s m args below meth c H locs 0 0 (sy_ZV below args s Y NZ EZ Q) (F0 m 83 ls [])) :
    ∀ (M : sy_M) (x1 : Int32) (s0 : Int32) (H : Heap) (locs : List Loc) (ls : Array Slot), wX12_group_113 rec K_83 Q M x1 s0 → sy_H Y NZ EZ s H locs M → lv_has ls 3 [(0, .ref (Y.2.1 0)), (1, .int x1)] → W p l e ({ frames := 2 * (d + 1) + 13, cells := 0, slots := 0, locals := 44 * (d + 1) + 407 } : Room) s m args below meth c H locs 0 0 (sy_ZV below args s Y NZ EZ Q) (F0 m 113 ls [.int s0]) := by
  have hx := C.1.1
  have hb := C.1.2.1
  intro M x1 s0 H locs ls hq hh hl
  unfold wX12_group_113 at hq
  refine lv_istore_n (lv' := [(2, .int s0), (0, .ref (Y.2.1 0)), (1, .int x1)]) hx hb dX12_group_113 rfl hl (by decide) rfl (fun ls hl => ?_)
  refine lv_iload_n hx hb dX12_group_114 rfl (lv_at hl 0 rfl) ?_
  refine lv_if_eq (tgt := 83) hx hb dX12_group_115 (by decide) (fun c21 => ?_) (fun c21 => ?_)
  · have hq := hq.1 c21
    exact hK_83 M x1 s0 _ _ _ hq hh (lv_sub hl [1, 2, 0] rfl)
  · have hq := hq.2 c21
    refine lv_aload_n hx hb dX12_group_118 rfl (lv_at hl 1 rfl) ?_
    refine sy_cVV C hh (As := []) (rest := []) 0 (by decide) (oZ_0 Y) rfl (mX12_next l Y _ M  _ hq) (cwV 0 C.1.2.2.2.2 (sy_goodV uZ_good uZ_150 uZ_151 uZ_152 uZ_55 uZ_64 _) rfl rfl rfl hdX12_next ⟨by dsimp only; omega, by dsimp only; omega⟩) rfl hl.1 rfl (Nat.le_of_ble_eq_true rfl) dX12_group_119 (fun M22 H locs hq hh => ?_)
    refine lv_goto (tgt := 83) hx hb dX12_group_122 (by decide) ?_
    exact hK_83 M22 x1 s0 _ _ _ hq hh (lv_sub hl [1, 2, 0] rfl)

set_option maxHeartbeats 4000000 in
set_option maxRecDepth 100000 in
theorem kX12_group_112 (C : sy_C p m c cX12_group 3 s args vsX12_group RX12 meth none Y NZ tfZ) {rec : sy_M → Int32 → (sy_M → Prop) → Prop} {d : Nat} (hrec : ∀ (sz : Nat) (M : sy_M) (a1 : Int32) (Q : sy_M → Prop), rec M a1 Q → Met l yX12_group vsX12_group ({ frames := 2 * d + 13, cells := 0, slots := 0, locals := 44 * d + 407 } : Room) (va_Pc [.ref (Y.2.1 0), .int a1] (sy_pre Y NZ EZ tfZ sz M)) (sy_QV Y NZ EZ sz Q) 0 0 (sy_A NZ Y.2.1 sz)) {Q : sy_M → Prop} {K_83 : sy_M → Int32 → Int32 → Prop} (hK_83 : ∀ (M : sy_M) (x1 : Int32) (x2 : Int32) (H : Heap) (locs : List Loc) (ls : Array Slot), K_83 M x1 x2 → sy_H Y NZ EZ s H locs M → lv_has ls 3 [(0, .ref (Y.2.1 0)), (1, .int x1), (2, .int x2)] → W p l e ({ frames := 2 * (d + 1) + 13, cells := 0, slots := 0, locals := 44 * (d + 1) + 407 } : Room) s m args below meth c H locs 0 0 (sy_ZV below args s Y NZ EZ Q) (F0 m 83 ls [])) :
    ∀ (M : sy_M) (x1 : Int32) (H : Heap) (locs : List Loc) (ls : Array Slot), wX12_group_112 rec K_83 Q M x1 → sy_H Y NZ EZ s H locs M → lv_has ls 3 [(0, .ref (Y.2.1 0)), (1, .int x1)] → W p l e ({ frames := 2 * (d + 1) + 13, cells := 0, slots := 0, locals := 44 * (d + 1) + 407 } : Room) s m args below meth c H locs 0 0 (sy_ZV below args s Y NZ EZ Q) (F0 m 112 ls []) := by
  have hx := C.1.1
  have hb := C.1.2.1
  intro M x1 H locs ls hq hh hl
  unfold wX12_group_112 at hq
  refine lv_iconst (v := (0 : Int32)) hx hb dX12_group_112 (by decide) ?_
  refine kX12_group_113 C hrec hK_83 M x1 (0 : Int32) _ _ _ hq hh (lv_sub hl [0, 1] rfl)

set_option maxHeartbeats 4000000 in
set_option maxRecDepth 100000 in
theorem kX12_group_83 (C : sy_C p m c cX12_group 3 s args vsX12_group RX12 meth none Y NZ tfZ) {rec : sy_M → Int32 → (sy_M → Prop) → Prop} {d : Nat} (hrec : ∀ (sz : Nat) (M : sy_M) (a1 : Int32) (Q : sy_M → Prop), rec M a1 Q → Met l yX12_group vsX12_group ({ frames := 2 * d + 13, cells := 0, slots := 0, locals := 44 * d + 407 } : Room) (va_Pc [.ref (Y.2.1 0), .int a1] (sy_pre Y NZ EZ tfZ sz M)) (sy_QV Y NZ EZ sz Q) 0 0 (sy_A NZ Y.2.1 sz)) {Q : sy_M → Prop} :
    ∀ (n : Nat) (M : sy_M) (x1 : Int32) (x2 : Int32) (H : Heap) (locs : List Loc) (ls : Array Slot), wX12_group_83 rec Q n M x1 x2 → sy_H Y NZ EZ s H locs M → lv_has ls 3 [(0, .ref (Y.2.1 0)), (1, .int x1), (2, .int x2)] → W p l e ({ frames := 2 * (d + 1) + 13, cells := 0, slots := 0, locals := 44 * (d + 1) + 407 } : Room) s m args below meth c H locs 0 0 (sy_ZV below args s Y NZ EZ Q) (F0 m 83 ls []) := by
  have hx := C.1.1
  have hb := C.1.2.1
  intro n
  induction n with
  | zero =>
    intro M x1 x2 H locs ls hq hh hl
    unfold wX12_group_83 at hq
    exact hq.elim
  | succ n ih =>
    intro M x1 x2 H locs ls hq hh hl
    unfold wX12_group_83 at hq
    refine lv_iload_n hx hb dX12_group_83 rfl (lv_at hl 2 rfl) ?_
    refine lv_if_eq (tgt := 125) hx hb dX12_group_84 (by decide) (fun c15 => ?_) (fun c15 => ?_)
    · have hq := hq.1 c15
      refine lv_aload_n hx hb dX12_group_125 rfl (lv_at hl 0 rfl) ?_
      refine lv_bipush (v := (nI 41)) hx hb dX12_group_126 (by decide) ?_
      refine sy_cVV C hh (As := [.int (nI 41)]) (rest := []) 0 (by decide) (oZ_0 Y) rfl (mX12_want l Y _ M (nI 41) _ hq) (cwV 1 C.1.2.2.2.2 (sy_goodV uZ_good uZ_168 uZ_169 uZ_170 uZ_55 uZ_160 _) rfl rfl rfl hdX12_want ⟨by dsimp only; omega, by dsimp only; omega⟩) rfl hl.1 rfl (Nat.le_of_ble_eq_true rfl) dX12_group_128 (fun M16 H locs hq hh => ?_)
      exact sy_vret C hh dX12_group_131 hq
    · have hq := hq.2 c15
      refine lv_aload_n hx hb dX12_group_87 rfl (lv_at hl 0 rfl) ?_
      refine lv_iload_n hx hb dX12_group_88 rfl (lv_at hl 1 rfl) ?_
      refine sy_cVV C hh (As := [.int x1]) (rest := []) 0 (by decide) (oZ_0 Y) rfl (mX12_child hrec _ M x1 _ hq) (cwV 1 C.1.2.2.2.2 (sy_goodV uZ_good uZ_171 uZ_172 uZ_173 uZ_55 uZ_174 _) rfl rfl rfl hdX12_child ⟨by dsimp only; omega, by dsimp only; omega⟩) rfl hl.1 rfl (Nat.le_of_ble_eq_true rfl) dX12_group_89 (fun M17 H locs hq hh => ?_)
      refine lv_aload_n hx hb dX12_group_92 rfl (lv_at hl 0 rfl) ?_
      refine sy_cIV C hh (As := []) (rest := []) 0 (by decide) (oZ_0 Y) rfl (mX12_isWell l Y _ M17  _ hq) (cwV 0 C.1.2.2.2.2 (sy_goodV uZ_good uZ_154 uZ_155 uZ_156 uZ_55 uZ_138 _) rfl rfl rfl hdX12_isWell ⟨by dsimp only; omega, by dsimp only; omega⟩) rfl hl.1 rfl (Nat.le_of_ble_eq_true rfl) dX12_group_93 (fun r19 M18 H locs hq hh => ?_)
      refine lv_if_eq (tgt := 112) hx hb dX12_group_96 (by decide) (fun c20 => ?_) (fun c20 => ?_)
      · have hq := hq.1 c20
        refine kX12_group_112 C hrec (fun M23 x1_24 x2_25 H locs ls hq hh hl => ?_) M18 x1 _ _ _ hq hh (lv_sub hl [0, 1] rfl)
        · exact ih M23 x1_24 x2_25 _ _ _ hq hh (lv_sub hl [0, 1, 2] rfl)
      · have hq := hq.2 c20
        refine lv_aload_n hx hb dX12_group_99 rfl (lv_at hl 0 rfl) ?_
        refine lv_bipush (v := (nI 44)) hx hb dX12_group_100 (by decide) ?_
        refine sy_cIV C hh (As := [.int (nI 44)]) (rest := []) 0 (by decide) (oZ_0 Y) rfl (mX12_is l Y _ M18 (nI 44) _ hq) (cwV 1 C.1.2.2.2.2 (sy_goodV uZ_good uZ_157 uZ_158 uZ_159 uZ_55 uZ_134 _) rfl rfl rfl hdX12_is ⟨by dsimp only; omega, by dsimp only; omega⟩) rfl hl.1 rfl (Nat.le_of_ble_eq_true rfl) dX12_group_102 (fun r27 M26 H locs hq hh => ?_)
        refine lv_if_eq (tgt := 112) hx hb dX12_group_105 (by decide) (fun c28 => ?_) (fun c28 => ?_)
        · have hq := hq.1 c28
          refine kX12_group_112 C hrec (fun M29 x1_30 x2_31 H locs ls hq hh hl => ?_) M26 x1 _ _ _ hq hh (lv_sub hl [0, 1] rfl)
          · exact ih M29 x1_30 x2_31 _ _ _ hq hh (lv_sub hl [0, 1, 2] rfl)
        · have hq := hq.2 c28
          refine lv_iconst (v := (1 : Int32)) hx hb dX12_group_108 (by decide) ?_
          refine lv_goto (tgt := 113) hx hb dX12_group_109 (by decide) ?_
          refine kX12_group_113 C hrec (fun M32 x1_33 x2_34 H locs ls hq hh hl => ?_) M26 x1 (1 : Int32) _ _ _ hq hh (lv_sub hl [0, 1] rfl)
          · exact ih M32 x1_33 x2_34 _ _ _ hq hh (lv_sub hl [0, 1, 2] rfl)

set_option maxHeartbeats 4000000 in
set_option maxRecDepth 100000 in
theorem kX12_group_72 (C : sy_C p m c cX12_group 3 s args vsX12_group RX12 meth none Y NZ tfZ) {rec : sy_M → Int32 → (sy_M → Prop) → Prop} {d : Nat} (hrec : ∀ (sz : Nat) (M : sy_M) (a1 : Int32) (Q : sy_M → Prop), rec M a1 Q → Met l yX12_group vsX12_group ({ frames := 2 * d + 13, cells := 0, slots := 0, locals := 44 * d + 407 } : Room) (va_Pc [.ref (Y.2.1 0), .int a1] (sy_pre Y NZ EZ tfZ sz M)) (sy_QV Y NZ EZ sz Q) 0 0 (sy_A NZ Y.2.1 sz)) {Q : sy_M → Prop} :
    ∀ (M : sy_M) (x1 : Int32) (H : Heap) (locs : List Loc) (ls : Array Slot), wX12_group_72 rec Q M x1 → sy_H Y NZ EZ s H locs M → lv_has ls 3 [(0, .ref (Y.2.1 0)), (1, .int x1)] → W p l e ({ frames := 2 * (d + 1) + 13, cells := 0, slots := 0, locals := 44 * (d + 1) + 407 } : Room) s m args below meth c H locs 0 0 (sy_ZV below args s Y NZ EZ Q) (F0 m 72 ls []) := by
  have hx := C.1.1
  have hb := C.1.2.1
  intro M x1 H locs ls hq hh hl
  unfold wX12_group_72 at hq
  refine lv_aload_n hx hb dX12_group_72 rfl (lv_at hl 0 rfl) ?_
  refine lv_bipush (v := (nI 40)) hx hb dX12_group_73 (by decide) ?_
  refine sy_cVV C hh (As := [.int (nI 40)]) (rest := []) 0 (by decide) (oZ_0 Y) rfl (mX12_want l Y _ M (nI 40) _ hq) (cwV 1 C.1.2.2.2.2 (sy_goodV uZ_good uZ_168 uZ_169 uZ_170 uZ_55 uZ_160 _) rfl rfl rfl hdX12_want ⟨by dsimp only; omega, by dsimp only; omega⟩) rfl hl.1 rfl (Nat.le_of_ble_eq_true rfl) dX12_group_75 (fun M12 H locs hq hh => ?_)
  refine lv_aload_n hx hb dX12_group_78 rfl (lv_at hl 0 rfl) ?_
  refine sy_cIV C hh (As := []) (rest := []) 0 (by decide) (oZ_0 Y) rfl (mX12_isWell l Y _ M12  _ hq) (cwV 0 C.1.2.2.2.2 (sy_goodV uZ_good uZ_154 uZ_155 uZ_156 uZ_55 uZ_138 _) rfl rfl rfl hdX12_isWell ⟨by dsimp only; omega, by dsimp only; omega⟩) rfl hl.1 rfl (Nat.le_of_ble_eq_true rfl) dX12_group_79 (fun r14 M13 H locs hq hh => ?_)
  refine lv_istore_n (lv' := [(2, .int r14), (0, .ref (Y.2.1 0)), (1, .int x1)]) hx hb dX12_group_82 rfl hl (by decide) rfl (fun ls hl => ?_)
  obtain ⟨n35, hq⟩ := hq
  refine kX12_group_83 C hrec  n35 M13 x1 r14 _ _ _ hq hh (lv_sub hl [1, 2, 0] rfl)

end
set_option maxHeartbeats 4000000 in
set_option maxRecDepth 100000 in
theorem mX12_group_b {l : Launch} {Y : sy_Y} {rec : sy_M → Int32 → (sy_M → Prop) → Prop} {d : Nat} (hrec : ∀ (sz : Nat) (M : sy_M) (a1 : Int32) (Q : sy_M → Prop), rec M a1 Q → Met l yX12_group vsX12_group ({ frames := 2 * d + 13, cells := 0, slots := 0, locals := 44 * d + 407 } : Room) (va_Pc [.ref (Y.2.1 0), .int a1] (sy_pre Y NZ EZ tfZ sz M)) (sy_QV Y NZ EZ sz Q) 0 0 (sy_A NZ Y.2.1 sz)) (sz : Nat) (M : sy_M) (a1 : Int32) (Q : sy_M → Prop) (hq : wX12_group_b rec M a1 Q) : Met l yX12_group vsX12_group ({ frames := 2 * (d + 1) + 13, cells := 0, slots := 0, locals := 44 * (d + 1) + 407 } : Room) (va_Pc [.ref (Y.2.1 0), .int a1] (sy_pre Y NZ EZ tfZ sz M)) (sy_QV Y NZ EZ sz Q) 0 0 (sy_A NZ Y.2.1 sz) := by
  refine sy_metV (by decide) rfl (Nat.le_of_ble_eq_true rfl) ?_
  intro p e s m args below meth c C ls hl hh
  have hx := C.1.1
  have hb := C.1.2.1
  have hl : lv_has ls 3 [(0, .ref (Y.2.1 0)), (1, .int a1)] := hl
  unfold wX12_group_b at hq
  refine lv_aload_n hx hb dX12_group_0 rfl (lv_at hl 0 rfl) ?_
  refine sy_cIV C hh (As := []) (rest := []) 0 (by decide) (oZ_0 Y) rfl (mX12_how l Y _ M  _ hq) (cwV 0 C.1.2.2.2.2 (sy_goodV uZ_good uZ_130 uZ_131 uZ_132 uZ_55 uZ_129 _) rfl rfl rfl hdX12_how ⟨by dsimp only; omega, by dsimp only; omega⟩) rfl hl.1 rfl (Nat.le_of_ble_eq_true rfl) dX12_group_1 (fun r2 M1 H locs hq hh => ?_)
  refine lv_iconst (v := (-1 : Int32)) hx hb dX12_group_4 (by decide) ?_
  refine lv_icmp_ne (tgt := 14) hx hb dX12_group_5 (by decide) (fun c3 => ?_) (fun c3 => ?_)
  · have hq := hq.1 c3
    refine lv_aload_n hx hb dX12_group_14 rfl (lv_at hl 0 rfl) ?_
    refine sy_get C hh (fun w h => mc (uZ_fX12 w h)) 0 (by decide) (oZ_0 Y) rfl 18 (by decide) (index := 37) (mc uZ_16) (v := .ref (Y.2.1 5)) rfl dX12_group_15 ?_
    refine lv_iload_n hx hb dX12_group_18 rfl (lv_at hl 1 rfl) ?_
    obtain ⟨n4, hn4, en4, hq⟩ := hq
    refine sy_iald C hh 5 (by decide) (aZ_5 Y) tZ_5 hn4 en4 (by decide) dX12_group_19 ?_
    refine lv_bipush (v := (nI 6)) hx hb dX12_group_20 (by decide) ?_
    refine lv_icmp_ne (tgt := 31) hx hb dX12_group_22 (by decide) (fun c5 => ?_) (fun c5 => ?_)
    · have hq := hq.1 c5
      refine lv_aload_n hx hb dX12_group_31 rfl (lv_at hl 0 rfl) ?_
      refine sy_get C hh (fun w h => mc (uZ_fX12 w h)) 0 (by decide) (oZ_0 Y) rfl 16 (by decide) (index := 30) (mc uZ_14) (v := .ref (Y.2.1 3)) rfl dX12_group_32 ?_
      refine lv_iload_n hx hb dX12_group_35 rfl (lv_at hl 1 rfl) ?_
      refine lv_iconst (v := (1 : Int32)) hx hb dX12_group_36 (by decide) ?_
      refine sy_zast C hh 3 (by decide) (aZ_3 Y) tZ_3 hn4 en4 (by decide) dX12_group_37 (fun H locs hh => ?_)
      refine lv_aload_n hx hb dX12_group_38 rfl (lv_at hl 0 rfl) ?_
      refine sy_get C hh (fun w h => mc (uZ_fX12 w h)) 0 (by decide) (oZ_0 Y) rfl 19 (by decide) (index := 40) (mc uZ_17) (v := .ref (Y.2.1 6)) rfl dX12_group_39 ?_
      refine lv_iload_n hx hb dX12_group_42 rfl (lv_at hl 1 rfl) ?_
      refine lv_aload_n hx hb dX12_group_43 rfl (lv_at hl 0 rfl) ?_
      refine sy_cIV C hh (As := []) (rest := [.int a1, .ref (Y.2.1 6)]) 0 (by decide) (oZ_0 Y) rfl (mX12_how l Y _ (mu M1 3 n4 (vp_nar .boolean (1 : Int32)))  _ hq) (cwV 0 C.1.2.2.2.2 (sy_goodV uZ_good uZ_130 uZ_131 uZ_132 uZ_55 uZ_129 _) rfl rfl rfl hdX12_how ⟨by dsimp only; omega, by dsimp only; omega⟩) rfl hl.1 rfl (Nat.le_of_ble_eq_true rfl) dX12_group_44 (fun r7 M6 H locs hq hh => ?_)
      refine sy_iast C hh 6 (by decide) (aZ_6 Y) tZ_6 hn4 en4 (by decide) dX12_group_47 (fun H locs hh => ?_)
      refine lv_aload_n hx hb dX12_group_48 rfl (lv_at hl 0 rfl) ?_
      refine sy_cVV C hh (As := []) (rest := []) 0 (by decide) (oZ_0 Y) rfl (mX12_next l Y _ (mu M6 6 n4 r7)  _ hq) (cwV 0 C.1.2.2.2.2 (sy_goodV uZ_good uZ_150 uZ_151 uZ_152 uZ_55 uZ_64 _) rfl rfl rfl hdX12_next ⟨by dsimp only; omega, by dsimp only; omega⟩) rfl hl.1 rfl (Nat.le_of_ble_eq_true rfl) dX12_group_49 (fun M8 H locs hq hh => ?_)
      refine lv_aload_n hx hb dX12_group_52 rfl (lv_at hl 0 rfl) ?_
      refine va_ldcS hx hb C.1.2.2.2.1 (C.2.1.2.2.1.2.1 ("AreaSetterModel", 200, 0) (by decide +kernel)) dX12_group_53 ?_
      refine sy_cIV C hh (As := [.ref (Y.2.2.2.1 0)]) (rest := []) 0 (by decide) (oZ_0 Y) rfl (mX12_isWord l Y _ M8 0 (by decide) _ hq) (cwV 1 C.1.2.2.2.2 (sy_goodV uZ_good uZ_126 uZ_127 uZ_128 uZ_55 uZ_125 _) rfl rfl rfl hdX12_isWord ⟨by dsimp only; omega, by dsimp only; omega⟩) rfl hl.1 rfl (Nat.le_of_ble_eq_true rfl) dX12_group_55 (fun r10 M9 H locs hq hh => ?_)
      refine lv_if_eq (tgt := 72) hx hb dX12_group_58 (by decide) (fun c11 => ?_) (fun c11 => ?_)
      · have hq := hq.1 c11
        refine kX12_group_72 C hrec  M9 a1 _ _ _ hq hh (lv_sub hl [0, 1] rfl)
      · have hq := hq.2 c11
        refine lv_aload_n hx hb dX12_group_61 rfl (lv_at hl 0 rfl) ?_
        refine sy_get C hh (fun w h => mc (uZ_fX12 w h)) 0 (by decide) (oZ_0 Y) rfl 20 (by decide) (index := 43) (mc uZ_18) (v := .ref (Y.2.1 7)) rfl dX12_group_62 ?_
        refine lv_iload_n hx hb dX12_group_65 rfl (lv_at hl 1 rfl) ?_
        refine lv_iconst (v := (1 : Int32)) hx hb dX12_group_66 (by decide) ?_
        refine sy_zast C hh 7 (by decide) (aZ_7 Y) tZ_7 hn4 en4 (by decide) dX12_group_67 (fun H locs hh => ?_)
        refine lv_aload_n hx hb dX12_group_68 rfl (lv_at hl 0 rfl) ?_
        refine sy_cVV C hh (As := []) (rest := []) 0 (by decide) (oZ_0 Y) rfl (mX12_next l Y _ (mu M9 7 n4 (vp_nar .boolean (1 : Int32)))  _ hq) (cwV 0 C.1.2.2.2.2 (sy_goodV uZ_good uZ_150 uZ_151 uZ_152 uZ_55 uZ_64 _) rfl rfl rfl hdX12_next ⟨by dsimp only; omega, by dsimp only; omega⟩) rfl hl.1 rfl (Nat.le_of_ble_eq_true rfl) dX12_group_69 (fun M36 H locs hq hh => ?_)
        refine kX12_group_72 C hrec  M36 a1 _ _ _ hq hh (lv_sub hl [0, 1] rfl)
    · have hq := hq.2 c5
      refine lv_aload_n hx hb dX12_group_25 rfl (lv_at hl 0 rfl) ?_
      refine lv_iconst (v := (nI 2)) hx hb dX12_group_26 (by decide) ?_
      refine sy_cVV C hh (As := [.int (nI 2)]) (rest := []) 0 (by decide) (oZ_0 Y) rfl (mX12_fails l Y _ M1 (nI 2) _ hq) (cwV 1 C.1.2.2.2.2 (sy_goodV uZ_good uZ_144 uZ_145 uZ_146 uZ_55 uZ_135 _) rfl rfl rfl hdX12_fails ⟨by dsimp only; omega, by dsimp only; omega⟩) rfl hl.1 rfl (Nat.le_of_ble_eq_true rfl) dX12_group_27 (fun M37 H locs hq hh => ?_)
      exact sy_vret C hh dX12_group_30 hq
  · have hq := hq.2 c3
    refine lv_aload_n hx hb dX12_group_8 rfl (lv_at hl 0 rfl) ?_
    refine lv_iconst (v := (1 : Int32)) hx hb dX12_group_9 (by decide) ?_
    refine sy_cVV C hh (As := [.int (1 : Int32)]) (rest := []) 0 (by decide) (oZ_0 Y) rfl (mX12_fails l Y _ M1 (1 : Int32) _ hq) (cwV 1 C.1.2.2.2.2 (sy_goodV uZ_good uZ_144 uZ_145 uZ_146 uZ_55 uZ_135 _) rfl rfl rfl hdX12_fails ⟨by dsimp only; omega, by dsimp only; omega⟩) rfl hl.1 rfl (Nat.le_of_ble_eq_true rfl) dX12_group_10 (fun M38 H locs hq hh => ?_)
    exact sy_vret C hh dX12_group_13 hq

set_option maxHeartbeats 4000000 in
theorem mX12_group (l : Launch) (Y : sy_Y) : ∀ (d : Nat) (sz : Nat) (M : sy_M) (a1 : Int32) (Q : sy_M → Prop), wX12_group d M a1 Q → Met l yX12_group vsX12_group ({ frames := 2 * d + 13, cells := 0, slots := 0, locals := 44 * d + 407 } : Room) (va_Pc [.ref (Y.2.1 0), .int a1] (sy_pre Y NZ EZ tfZ sz M)) (sy_QV Y NZ EZ sz Q) 0 0 (sy_A NZ Y.2.1 sz)
  | 0, _, _, _, _, hq => by unfold wX12_group at hq; exact hq.elim
  | d + 1, sz, M, a1, Q, hq => by
    unfold wX12_group at hq
    exact mX12_group_b (d := d) (rec := wX12_group d) (fun sz M => mX12_group l Y d sz M) sz M a1 Q hq
/-! AreaSetterModel.tree()I -/
def wX12_tree_260 (K_297 : sy_M → Int32 → Prop) (Q : Int32 → sy_M → Prop) : Nat → sy_M → Int32 → Int32 → Prop
  | 0, _, _, _ => False
  | n + 1, M, x2, x3 => (((nI 8) ≤ x3 → K_297 M x2) ∧ (¬ (nI 8) ≤ x3 → ∃ n23 : Nat, n23 < 656 ∧ (((nI 8) * ((nI 41) + x2)) + x3) = nI n23 ∧ ∃ n24 : Nat, n24 < 656 ∧ (((nI 8) * x2) + x3) = nI n24 ∧ wX12_tree_260 K_297 Q n (mu M 10 n24 (vp_nar .byte (M 10 n23))) x2 (x3 + (1 : Int32))))
def wX12_tree_152 (K_110 : sy_M → Int32 → Prop) (Q : Int32 → sy_M → Prop) (M : sy_M) (x2 : Int32) (s1 : Int32) (s2 : Int32) : Prop := ∃ n19 : Nat, n19 < 82 ∧ s1 = nI n19 ∧ ∃ n20 : Nat, n20 < 82 ∧ ((nI 41) + x2) = nI n20 ∧ ∃ n21 : Nat, n21 < 82 ∧ x2 = nI n21 ∧ ∃ n28 : Nat, wX12_tree_260 (fun (M25 : sy_M) (x2_26 : Int32) => ∃ n27 : Nat, n27 < 41 ∧ x2_26 = nI n27 ∧ K_110 (mu (mu M25 14 n27 (0 : Int32)) 15 n27 (vp_nar .boolean (0 : Int32))) (x2_26 + (1 : Int32))) Q n28 (mu (mu (mu (mu (mu (mu (mu (mu M 2 n19 s2) 3 n21 (vp_nar .boolean (M 3 n20))) 4 n21 (M 4 n20)) 5 n21 (M 5 n20)) 6 n21 (M 6 n20)) 7 n21 (vp_nar .boolean (M 7 n20))) 8 n21 (M 8 n20)) 9 n21 (M 9 n20)) x2 (0 : Int32)
def wX12_tree_110 (Q : Int32 → sy_M → Prop) : Nat → sy_M → Int32 → Prop
  | 0, _, _ => False
  | n + 1, M, x2 => (((M 0 13) ≤ x2 → Q (M 0 13) (mu (mu M 0 24 (0 : Int32)) 0 40 (0 : Int32))) ∧ (¬ (M 0 13) ≤ x2 → ∃ n17 : Nat, n17 < 82 ∧ ((nI 41) + x2) = nI n17 ∧ ((¬ (M 2 n17) = (-1 : Int32) → wX12_tree_152 (fun (M29 : sy_M) (x2_30 : Int32) => wX12_tree_110 Q n M29 x2_30) Q M x2 x2 ((M 2 n17) - (nI 41))) ∧ ((M 2 n17) = (-1 : Int32) → wX12_tree_152 (fun (M31 : sy_M) (x2_32 : Int32) => wX12_tree_110 Q n M31 x2_32) Q M x2 x2 (-1 : Int32)))))
def wX12_tree_82 (Q : Int32 → sy_M → Prop) (M : sy_M) (s1 : Int32) : Prop := wX12_isWell (mu M 0 12 s1) (fun r14 M13 => ((¬ r14 = 0 → ∃ n33 : Nat, wX12_tree_110  Q n33 (mu M13 0 13 (M13 0 14)) (0 : Int32)) ∧ (r14 = 0 → Q ((-2 : Int32) - (M13 0 10)) M13)))
def wX12_tree_61 (Q : Int32 → sy_M → Prop) (M : sy_M) : Prop := wX12_isWell (mu M 0 5 (0 : Int32)) (fun r11 M10 => ((r11 = 0 → wX12_tree_82  Q M10 (M10 0 11)) ∧ (¬ r11 = 0 → wX12_tree_82  Q M10 (-1 : Int32))))
def wX12_tree_42 (Q : Int32 → sy_M → Prop) (M : sy_M) : Prop := wX12_isWell M (fun r8 M7 => ((r8 = 0 → wX12_tree_61  Q M7) ∧ (¬ r8 = 0 → (((M7 0 8) = 0 → wX12_tree_61  Q M7) ∧ (¬ (M7 0 8) = 0 → wX12_fails M7 (1 : Int32) (fun M35 => wX12_tree_61  Q M35))))))
def wX12_tree (M : sy_M)  (Q : Int32 → sy_M → Prop) : Prop := wX12_next (mu (mu (mu (mu M 0 0 (0 : Int32)) 0 10 (0 : Int32)) 0 14 (0 : Int32)) 0 6 (0 : Int32)) (fun M1 => wX12_newBox M1 (-1 : Int32) (fun r3 M2 => wX12_isWell M2 (fun r5 M4 => ((r5 = 0 → wX12_tree_42  Q M4) ∧ (¬ r5 = 0 → wX12_group 8 M4 r3 (fun M36 => wX12_tree_42  Q M36))))))
section
variable {p : Program} {l : Launch} {e : Env} {s : State} {m : MethodId} {args : Array Value} {below : List Frame} {meth : Method} {c : Code} {Y : sy_Y}
set_option maxHeartbeats 4000000 in
set_option maxRecDepth 100000 in
theorem kX12_tree_260 (C : sy_C p m c cX12_tree 4 s args vsX12_tree RX12 meth (some .int) Y NZ tfZ) {Q : Int32 → sy_M → Prop} {K_297 : sy_M → Int32 → Prop} (hK_297 : ∀ (M : sy_M) (x2 : Int32) (H : Heap) (locs : List Loc) (ls : Array Slot), K_297 M x2 → sy_H Y NZ EZ s H locs M → lv_has ls 4 [(0, .ref (Y.2.1 0)), (2, .int x2)] → W p l e ({ frames := 30, cells := 0, slots := 0, locals := 781 } : Room) s m args below meth c H locs 0 0 (sy_ZI below args s Y NZ EZ Q) (F0 m 297 ls [])) :
    ∀ (n : Nat) (M : sy_M) (x2 : Int32) (x3 : Int32) (H : Heap) (locs : List Loc) (ls : Array Slot), wX12_tree_260 K_297 Q n M x2 x3 → sy_H Y NZ EZ s H locs M → lv_has ls 4 [(0, .ref (Y.2.1 0)), (2, .int x2), (3, .int x3)] → W p l e ({ frames := 30, cells := 0, slots := 0, locals := 781 } : Room) s m args below meth c H locs 0 0 (sy_ZI below args s Y NZ EZ Q) (F0 m 260 ls []) := by
  have hx := C.1.1
  have hb := C.1.2.1
  intro n
  induction n with
  | zero =>
    intro M x2 x3 H locs ls hq hh hl
    unfold wX12_tree_260 at hq
    exact hq.elim
  | succ n ih =>
    intro M x2 x3 H locs ls hq hh hl
    unfold wX12_tree_260 at hq
    refine lv_iload_n hx hb dX12_tree_260 rfl (lv_at hl 2 rfl) ?_
    refine lv_bipush (v := (nI 8)) hx hb dX12_tree_261 (by decide) ?_
    refine lv_icmp_ge (tgt := 297) hx hb dX12_tree_263 (by decide) (fun c22 => ?_) (fun c22 => ?_)
    · have hq := hq.1 c22
      exact hK_297 M x2 _ _ _ hq hh (lv_sub hl [0, 1] rfl)
    · have hq := hq.2 c22
      refine lv_aload_n hx hb dX12_tree_266 rfl (lv_at hl 0 rfl) ?_
      refine sy_get C hh (fun w h => mc (uZ_fX12 w h)) 0 (by decide) (oZ_0 Y) rfl 23 (by decide) (index := 52) (mc uZ_21) (v := .ref (Y.2.1 10)) rfl dX12_tree_267 ?_
      refine lv_bipush (v := (nI 8)) hx hb dX12_tree_270 (by decide) ?_
      refine lv_iload_n hx hb dX12_tree_272 rfl (lv_at hl 1 rfl) ?_
      refine lv_imul hx hb dX12_tree_273 ?_
      refine lv_iload_n hx hb dX12_tree_274 rfl (lv_at hl 2 rfl) ?_
      refine lv_iadd hx hb dX12_tree_275 ?_
      refine lv_aload_n hx hb dX12_tree_276 rfl (lv_at hl 0 rfl) ?_
      refine sy_get C hh (fun w h => mc (uZ_fX12 w h)) 0 (by decide) (oZ_0 Y) rfl 23 (by decide) (index := 52) (mc uZ_21) (v := .ref (Y.2.1 10)) rfl dX12_tree_277 ?_
      refine lv_bipush (v := (nI 8)) hx hb dX12_tree_280 (by decide) ?_
      refine lv_bipush (v := (nI 41)) hx hb dX12_tree_282 (by decide) ?_
      refine lv_iload_n hx hb dX12_tree_284 rfl (lv_at hl 1 rfl) ?_
      refine lv_iadd hx hb dX12_tree_285 ?_
      refine lv_imul hx hb dX12_tree_286 ?_
      refine lv_iload_n hx hb dX12_tree_287 rfl (lv_at hl 2 rfl) ?_
      refine lv_iadd hx hb dX12_tree_288 ?_
      obtain ⟨n23, hn23, en23, hq⟩ := hq
      refine sy_bald C hh 10 (by decide) (aZ_10 Y) tZ_10 hn23 en23 (by decide) dX12_tree_289 ?_
      obtain ⟨n24, hn24, en24, hq⟩ := hq
      refine sy_bast C hh 10 (by decide) (aZ_10 Y) tZ_10 hn24 en24 (by decide) dX12_tree_290 (fun H locs hh => ?_)
      refine lv_iinc (v := (x3 + (1 : Int32))) (lv' := [(3, .int (x3 + (1 : Int32))), (0, .ref (Y.2.1 0)), (2, .int x2)]) hx hb dX12_tree_291 hl (k := 2) rfl (sy_inc (by decide)) (by decide) rfl (fun ls hl => ?_)
      refine lv_goto (tgt := 260) hx hb dX12_tree_294 (by decide) ?_
      exact ih (mu M 10 n24 (vp_nar .byte (M 10 n23))) x2 (x3 + (1 : Int32)) _ _ _ hq hh (lv_sub hl [1, 2, 0] rfl)

set_option maxHeartbeats 4000000 in
set_option maxRecDepth 100000 in
theorem kX12_tree_152 (C : sy_C p m c cX12_tree 4 s args vsX12_tree RX12 meth (some .int) Y NZ tfZ) {Q : Int32 → sy_M → Prop} {K_110 : sy_M → Int32 → Prop} (hK_110 : ∀ (M : sy_M) (x2 : Int32) (H : Heap) (locs : List Loc) (ls : Array Slot), K_110 M x2 → sy_H Y NZ EZ s H locs M → lv_has ls 4 [(0, .ref (Y.2.1 0)), (2, .int x2)] → W p l e ({ frames := 30, cells := 0, slots := 0, locals := 781 } : Room) s m args below meth c H locs 0 0 (sy_ZI below args s Y NZ EZ Q) (F0 m 110 ls [])) :
    ∀ (M : sy_M) (x2 : Int32) (s1 : Int32) (s2 : Int32) (H : Heap) (locs : List Loc) (ls : Array Slot), wX12_tree_152 K_110 Q M x2 s1 s2 → sy_H Y NZ EZ s H locs M → lv_has ls 4 [(0, .ref (Y.2.1 0)), (2, .int x2)] → W p l e ({ frames := 30, cells := 0, slots := 0, locals := 781 } : Room) s m args below meth c H locs 0 0 (sy_ZI below args s Y NZ EZ Q) (F0 m 152 ls [.int s2, .int s1, .ref (Y.2.1 2)]) := by
  have hx := C.1.1
  have hb := C.1.2.1
  intro M x2 s1 s2 H locs ls hq hh hl
  unfold wX12_tree_152 at hq
  obtain ⟨n19, hn19, en19, hq⟩ := hq
  refine sy_iast C hh 2 (by decide) (aZ_2 Y) tZ_2 hn19 en19 (by decide) dX12_tree_152 (fun H locs hh => ?_)
  refine lv_aload_n hx hb dX12_tree_153 rfl (lv_at hl 0 rfl) ?_
  refine sy_get C hh (fun w h => mc (uZ_fX12 w h)) 0 (by decide) (oZ_0 Y) rfl 16 (by decide) (index := 30) (mc uZ_14) (v := .ref (Y.2.1 3)) rfl dX12_tree_154 ?_
  refine lv_iload_n hx hb dX12_tree_157 rfl (lv_at hl 1 rfl) ?_
  refine lv_aload_n hx hb dX12_tree_158 rfl (lv_at hl 0 rfl) ?_
  refine sy_get C hh (fun w h => mc (uZ_fX12 w h)) 0 (by decide) (oZ_0 Y) rfl 16 (by decide) (index := 30) (mc uZ_14) (v := .ref (Y.2.1 3)) rfl dX12_tree_159 ?_
  refine lv_bipush (v := (nI 41)) hx hb dX12_tree_162 (by decide) ?_
  refine lv_iload_n hx hb dX12_tree_164 rfl (lv_at hl 1 rfl) ?_
  refine lv_iadd hx hb dX12_tree_165 ?_
  obtain ⟨n20, hn20, en20, hq⟩ := hq
  refine sy_zald C hh 3 (by decide) (aZ_3 Y) tZ_3 hn20 en20 (by decide) dX12_tree_166 ?_
  obtain ⟨n21, hn21, en21, hq⟩ := hq
  refine sy_zast C hh 3 (by decide) (aZ_3 Y) tZ_3 hn21 en21 (by decide) dX12_tree_167 (fun H locs hh => ?_)
  refine lv_aload_n hx hb dX12_tree_168 rfl (lv_at hl 0 rfl) ?_
  refine sy_get C hh (fun w h => mc (uZ_fX12 w h)) 0 (by decide) (oZ_0 Y) rfl 17 (by decide) (index := 34) (mc uZ_15) (v := .ref (Y.2.1 4)) rfl dX12_tree_169 ?_
  refine lv_iload_n hx hb dX12_tree_172 rfl (lv_at hl 1 rfl) ?_
  refine lv_aload_n hx hb dX12_tree_173 rfl (lv_at hl 0 rfl) ?_
  refine sy_get C hh (fun w h => mc (uZ_fX12 w h)) 0 (by decide) (oZ_0 Y) rfl 17 (by decide) (index := 34) (mc uZ_15) (v := .ref (Y.2.1 4)) rfl dX12_tree_174 ?_
  refine lv_bipush (v := (nI 41)) hx hb dX12_tree_177 (by decide) ?_
  refine lv_iload_n hx hb dX12_tree_179 rfl (lv_at hl 1 rfl) ?_
  refine lv_iadd hx hb dX12_tree_180 ?_
  refine sy_iald C hh 4 (by decide) (aZ_4 Y) tZ_4 hn20 en20 (by decide) dX12_tree_181 ?_
  refine sy_iast C hh 4 (by decide) (aZ_4 Y) tZ_4 hn21 en21 (by decide) dX12_tree_182 (fun H locs hh => ?_)
  refine lv_aload_n hx hb dX12_tree_183 rfl (lv_at hl 0 rfl) ?_
  refine sy_get C hh (fun w h => mc (uZ_fX12 w h)) 0 (by decide) (oZ_0 Y) rfl 18 (by decide) (index := 37) (mc uZ_16) (v := .ref (Y.2.1 5)) rfl dX12_tree_184 ?_
  refine lv_iload_n hx hb dX12_tree_187 rfl (lv_at hl 1 rfl) ?_
  refine lv_aload_n hx hb dX12_tree_188 rfl (lv_at hl 0 rfl) ?_
  refine sy_get C hh (fun w h => mc (uZ_fX12 w h)) 0 (by decide) (oZ_0 Y) rfl 18 (by decide) (index := 37) (mc uZ_16) (v := .ref (Y.2.1 5)) rfl dX12_tree_189 ?_
  refine lv_bipush (v := (nI 41)) hx hb dX12_tree_192 (by decide) ?_
  refine lv_iload_n hx hb dX12_tree_194 rfl (lv_at hl 1 rfl) ?_
  refine lv_iadd hx hb dX12_tree_195 ?_
  refine sy_iald C hh 5 (by decide) (aZ_5 Y) tZ_5 hn20 en20 (by decide) dX12_tree_196 ?_
  refine sy_iast C hh 5 (by decide) (aZ_5 Y) tZ_5 hn21 en21 (by decide) dX12_tree_197 (fun H locs hh => ?_)
  refine lv_aload_n hx hb dX12_tree_198 rfl (lv_at hl 0 rfl) ?_
  refine sy_get C hh (fun w h => mc (uZ_fX12 w h)) 0 (by decide) (oZ_0 Y) rfl 19 (by decide) (index := 40) (mc uZ_17) (v := .ref (Y.2.1 6)) rfl dX12_tree_199 ?_
  refine lv_iload_n hx hb dX12_tree_202 rfl (lv_at hl 1 rfl) ?_
  refine lv_aload_n hx hb dX12_tree_203 rfl (lv_at hl 0 rfl) ?_
  refine sy_get C hh (fun w h => mc (uZ_fX12 w h)) 0 (by decide) (oZ_0 Y) rfl 19 (by decide) (index := 40) (mc uZ_17) (v := .ref (Y.2.1 6)) rfl dX12_tree_204 ?_
  refine lv_bipush (v := (nI 41)) hx hb dX12_tree_207 (by decide) ?_
  refine lv_iload_n hx hb dX12_tree_209 rfl (lv_at hl 1 rfl) ?_
  refine lv_iadd hx hb dX12_tree_210 ?_
  refine sy_iald C hh 6 (by decide) (aZ_6 Y) tZ_6 hn20 en20 (by decide) dX12_tree_211 ?_
  refine sy_iast C hh 6 (by decide) (aZ_6 Y) tZ_6 hn21 en21 (by decide) dX12_tree_212 (fun H locs hh => ?_)
  refine lv_aload_n hx hb dX12_tree_213 rfl (lv_at hl 0 rfl) ?_
  refine sy_get C hh (fun w h => mc (uZ_fX12 w h)) 0 (by decide) (oZ_0 Y) rfl 20 (by decide) (index := 43) (mc uZ_18) (v := .ref (Y.2.1 7)) rfl dX12_tree_214 ?_
  refine lv_iload_n hx hb dX12_tree_217 rfl (lv_at hl 1 rfl) ?_
  refine lv_aload_n hx hb dX12_tree_218 rfl (lv_at hl 0 rfl) ?_
  refine sy_get C hh (fun w h => mc (uZ_fX12 w h)) 0 (by decide) (oZ_0 Y) rfl 20 (by decide) (index := 43) (mc uZ_18) (v := .ref (Y.2.1 7)) rfl dX12_tree_219 ?_
  refine lv_bipush (v := (nI 41)) hx hb dX12_tree_222 (by decide) ?_
  refine lv_iload_n hx hb dX12_tree_224 rfl (lv_at hl 1 rfl) ?_
  refine lv_iadd hx hb dX12_tree_225 ?_
  refine sy_zald C hh 7 (by decide) (aZ_7 Y) tZ_7 hn20 en20 (by decide) dX12_tree_226 ?_
  refine sy_zast C hh 7 (by decide) (aZ_7 Y) tZ_7 hn21 en21 (by decide) dX12_tree_227 (fun H locs hh => ?_)
  refine lv_aload_n hx hb dX12_tree_228 rfl (lv_at hl 0 rfl) ?_
  refine sy_get C hh (fun w h => mc (uZ_fX12 w h)) 0 (by decide) (oZ_0 Y) rfl 21 (by decide) (index := 46) (mc uZ_19) (v := .ref (Y.2.1 8)) rfl dX12_tree_229 ?_
  refine lv_iload_n hx hb dX12_tree_232 rfl (lv_at hl 1 rfl) ?_
  refine lv_aload_n hx hb dX12_tree_233 rfl (lv_at hl 0 rfl) ?_
  refine sy_get C hh (fun w h => mc (uZ_fX12 w h)) 0 (by decide) (oZ_0 Y) rfl 21 (by decide) (index := 46) (mc uZ_19) (v := .ref (Y.2.1 8)) rfl dX12_tree_234 ?_
  refine lv_bipush (v := (nI 41)) hx hb dX12_tree_237 (by decide) ?_
  refine lv_iload_n hx hb dX12_tree_239 rfl (lv_at hl 1 rfl) ?_
  refine lv_iadd hx hb dX12_tree_240 ?_
  refine sy_iald C hh 8 (by decide) (aZ_8 Y) tZ_8 hn20 en20 (by decide) dX12_tree_241 ?_
  refine sy_iast C hh 8 (by decide) (aZ_8 Y) tZ_8 hn21 en21 (by decide) dX12_tree_242 (fun H locs hh => ?_)
  refine lv_aload_n hx hb dX12_tree_243 rfl (lv_at hl 0 rfl) ?_
  refine sy_get C hh (fun w h => mc (uZ_fX12 w h)) 0 (by decide) (oZ_0 Y) rfl 22 (by decide) (index := 49) (mc uZ_20) (v := .ref (Y.2.1 9)) rfl dX12_tree_244 ?_
  refine lv_iload_n hx hb dX12_tree_247 rfl (lv_at hl 1 rfl) ?_
  refine lv_aload_n hx hb dX12_tree_248 rfl (lv_at hl 0 rfl) ?_
  refine sy_get C hh (fun w h => mc (uZ_fX12 w h)) 0 (by decide) (oZ_0 Y) rfl 22 (by decide) (index := 49) (mc uZ_20) (v := .ref (Y.2.1 9)) rfl dX12_tree_249 ?_
  refine lv_bipush (v := (nI 41)) hx hb dX12_tree_252 (by decide) ?_
  refine lv_iload_n hx hb dX12_tree_254 rfl (lv_at hl 1 rfl) ?_
  refine lv_iadd hx hb dX12_tree_255 ?_
  refine sy_iald C hh 9 (by decide) (aZ_9 Y) tZ_9 hn20 en20 (by decide) dX12_tree_256 ?_
  refine sy_iast C hh 9 (by decide) (aZ_9 Y) tZ_9 hn21 en21 (by decide) dX12_tree_257 (fun H locs hh => ?_)
  refine lv_iconst (v := (0 : Int32)) hx hb dX12_tree_258 (by decide) ?_
  refine lv_istore_n (lv' := [(3, .int (0 : Int32)), (0, .ref (Y.2.1 0)), (2, .int x2)]) hx hb dX12_tree_259 rfl hl (by decide) rfl (fun ls hl => ?_)
  obtain ⟨n28, hq⟩ := hq
  refine kX12_tree_260 C (fun M25 x2_26 H locs ls hq hh hl => ?_) n28 (mu (mu (mu (mu (mu (mu (mu (mu M 2 n19 s2) 3 n21 (vp_nar .boolean (M 3 n20))) 4 n21 (M 4 n20)) 5 n21 (M 5 n20)) 6 n21 (M 6 n20)) 7 n21 (vp_nar .boolean (M 7 n20))) 8 n21 (M 8 n20)) 9 n21 (M 9 n20)) x2 (0 : Int32) _ _ _ hq hh (lv_sub hl [1, 2, 0] rfl)
  · refine lv_aload_n hx hb dX12_tree_297 rfl (lv_at hl 0 rfl) ?_
    refine sy_get C hh (fun w h => mc (uZ_fX12 w h)) 0 (by decide) (oZ_0 Y) rfl 28 (by decide) (index := 64) (mc uZ_25) (v := .ref (Y.2.1 14)) rfl dX12_tree_298 ?_
    refine lv_iload_n hx hb dX12_tree_301 rfl (lv_at hl 1 rfl) ?_
    refine lv_iconst (v := (0 : Int32)) hx hb dX12_tree_302 (by decide) ?_
    obtain ⟨n27, hn27, en27, hq⟩ := hq
    refine sy_iast C hh 14 (by decide) (aZ_14 Y) tZ_14 hn27 en27 (by decide) dX12_tree_303 (fun H locs hh => ?_)
    refine lv_aload_n hx hb dX12_tree_304 rfl (lv_at hl 0 rfl) ?_
    refine sy_get C hh (fun w h => mc (uZ_fX12 w h)) 0 (by decide) (oZ_0 Y) rfl 29 (by decide) (index := 67) (mc uZ_26) (v := .ref (Y.2.1 15)) rfl dX12_tree_305 ?_
    refine lv_iload_n hx hb dX12_tree_308 rfl (lv_at hl 1 rfl) ?_
    refine lv_iconst (v := (0 : Int32)) hx hb dX12_tree_309 (by decide) ?_
    refine sy_zast C hh 15 (by decide) (aZ_15 Y) tZ_15 hn27 en27 (by decide) dX12_tree_310 (fun H locs hh => ?_)
    refine lv_iinc (v := (x2_26 + (1 : Int32))) (lv' := [(2, .int (x2_26 + (1 : Int32))), (0, .ref (Y.2.1 0))]) hx hb dX12_tree_311 hl (k := 1) rfl (sy_inc (by decide)) (by decide) rfl (fun ls hl => ?_)
    refine lv_goto (tgt := 110) hx hb dX12_tree_314 (by decide) ?_
    exact hK_110 (mu (mu M25 14 n27 (0 : Int32)) 15 n27 (vp_nar .boolean (0 : Int32))) (x2_26 + (1 : Int32)) _ _ _ hq hh (lv_sub hl [1, 0] rfl)

set_option maxHeartbeats 4000000 in
set_option maxRecDepth 100000 in
theorem kX12_tree_110 (C : sy_C p m c cX12_tree 4 s args vsX12_tree RX12 meth (some .int) Y NZ tfZ) {Q : Int32 → sy_M → Prop} :
    ∀ (n : Nat) (M : sy_M) (x2 : Int32) (H : Heap) (locs : List Loc) (ls : Array Slot), wX12_tree_110 Q n M x2 → sy_H Y NZ EZ s H locs M → lv_has ls 4 [(0, .ref (Y.2.1 0)), (2, .int x2)] → W p l e ({ frames := 30, cells := 0, slots := 0, locals := 781 } : Room) s m args below meth c H locs 0 0 (sy_ZI below args s Y NZ EZ Q) (F0 m 110 ls []) := by
  have hx := C.1.1
  have hb := C.1.2.1
  intro n
  induction n with
  | zero =>
    intro M x2 H locs ls hq hh hl
    unfold wX12_tree_110 at hq
    exact hq.elim
  | succ n ih =>
    intro M x2 H locs ls hq hh hl
    unfold wX12_tree_110 at hq
    refine lv_iload_n hx hb dX12_tree_110 rfl (lv_at hl 1 rfl) ?_
    refine lv_aload_n hx hb dX12_tree_111 rfl (lv_at hl 0 rfl) ?_
    refine sy_get C hh (fun w h => mc (uZ_fX12 w h)) 0 (by decide) (oZ_0 Y) rfl 13 (by decide) (index := 243) (mc uZ_175) (v := .int (M 0 13)) rfl dX12_tree_112 ?_
    refine lv_icmp_ge (tgt := 317) hx hb dX12_tree_115 (by decide) (fun c16 => ?_) (fun c16 => ?_)
    · have hq := hq.1 c16
      refine lv_aload_n hx hb dX12_tree_317 rfl (lv_at hl 0 rfl) ?_
      refine lv_iconst (v := (0 : Int32)) hx hb dX12_tree_318 (by decide) ?_
      refine sy_put C hh (fun w h => mc (uZ_fX12 w h)) tyX12 tyX12_ok nmX12 0 (by decide) (oZ_0 Y) rfl 24 (by decide) (index := 246) (mc uZ_176) rfl 24 (0 : Int32) (ty := .int) (tyX12_ok 24 (by decide)) rfl rfl (Nat.le_of_ble_eq_true rfl) (pX12_24 Y _ _ _) dX12_tree_319 (fun H locs hh => ?_)
      refine lv_aload_n hx hb dX12_tree_322 rfl (lv_at hl 0 rfl) ?_
      refine lv_iconst (v := (0 : Int32)) hx hb dX12_tree_323 (by decide) ?_
      refine sy_put C hh (fun w h => mc (uZ_fX12 w h)) tyX12 tyX12_ok nmX12 0 (by decide) (oZ_0 Y) rfl 40 (by decide) (index := 249) (mc uZ_177) rfl 40 (0 : Int32) (ty := .int) (tyX12_ok 40 (by decide)) rfl rfl (Nat.le_of_ble_eq_true rfl) (pX12_40 Y _ _ _) dX12_tree_324 (fun H locs hh => ?_)
      refine lv_aload_n hx hb dX12_tree_327 rfl (lv_at hl 0 rfl) ?_
      refine sy_get C hh (fun w h => mc (uZ_fX12 w h)) 0 (by decide) (oZ_0 Y) rfl 13 (by decide) (index := 243) (mc uZ_175) (v := .int (M 0 13)) rfl dX12_tree_328 ?_
      exact sy_iret C hh dX12_tree_331 hq
    · have hq := hq.2 c16
      refine lv_aload_n hx hb dX12_tree_118 rfl (lv_at hl 0 rfl) ?_
      refine sy_get C hh (fun w h => mc (uZ_fX12 w h)) 0 (by decide) (oZ_0 Y) rfl 15 (by decide) (index := 26) (mc uZ_12) (v := .ref (Y.2.1 2)) rfl dX12_tree_119 ?_
      refine lv_iload_n hx hb dX12_tree_122 rfl (lv_at hl 1 rfl) ?_
      refine lv_aload_n hx hb dX12_tree_123 rfl (lv_at hl 0 rfl) ?_
      refine sy_get C hh (fun w h => mc (uZ_fX12 w h)) 0 (by decide) (oZ_0 Y) rfl 15 (by decide) (index := 26) (mc uZ_12) (v := .ref (Y.2.1 2)) rfl dX12_tree_124 ?_
      refine lv_bipush (v := (nI 41)) hx hb dX12_tree_127 (by decide) ?_
      refine lv_iload_n hx hb dX12_tree_129 rfl (lv_at hl 1 rfl) ?_
      refine lv_iadd hx hb dX12_tree_130 ?_
      obtain ⟨n17, hn17, en17, hq⟩ := hq
      refine sy_iald C hh 2 (by decide) (aZ_2 Y) tZ_2 hn17 en17 (by decide) dX12_tree_131 ?_
      refine lv_iconst (v := (-1 : Int32)) hx hb dX12_tree_132 (by decide) ?_
      refine lv_icmp_ne (tgt := 140) hx hb dX12_tree_133 (by decide) (fun c18 => ?_) (fun c18 => ?_)
      · have hq := hq.1 c18
        refine lv_aload_n hx hb dX12_tree_140 rfl (lv_at hl 0 rfl) ?_
        refine sy_get C hh (fun w h => mc (uZ_fX12 w h)) 0 (by decide) (oZ_0 Y) rfl 15 (by decide) (index := 26) (mc uZ_12) (v := .ref (Y.2.1 2)) rfl dX12_tree_141 ?_
        refine lv_bipush (v := (nI 41)) hx hb dX12_tree_144 (by decide) ?_
        refine lv_iload_n hx hb dX12_tree_146 rfl (lv_at hl 1 rfl) ?_
        refine lv_iadd hx hb dX12_tree_147 ?_
        refine sy_iald C hh 2 (by decide) (aZ_2 Y) tZ_2 hn17 en17 (by decide) dX12_tree_148 ?_
        refine lv_bipush (v := (nI 41)) hx hb dX12_tree_149 (by decide) ?_
        refine lv_isub hx hb dX12_tree_151 ?_
        refine kX12_tree_152 C (fun M29 x2_30 H locs ls hq hh hl => ?_) M x2 x2 ((M 2 n17) - (nI 41)) _ _ _ hq hh (lv_sub hl [0, 1] rfl)
        · exact ih M29 x2_30 _ _ _ hq hh (lv_sub hl [0, 1] rfl)
      · have hq := hq.2 c18
        refine lv_iconst (v := (-1 : Int32)) hx hb dX12_tree_136 (by decide) ?_
        refine lv_goto (tgt := 152) hx hb dX12_tree_137 (by decide) ?_
        refine kX12_tree_152 C (fun M31 x2_32 H locs ls hq hh hl => ?_) M x2 x2 (-1 : Int32) _ _ _ hq hh (lv_sub hl [0, 1] rfl)
        · exact ih M31 x2_32 _ _ _ hq hh (lv_sub hl [0, 1] rfl)

set_option maxHeartbeats 4000000 in
set_option maxRecDepth 100000 in
theorem kX12_tree_82 (C : sy_C p m c cX12_tree 4 s args vsX12_tree RX12 meth (some .int) Y NZ tfZ) {Q : Int32 → sy_M → Prop} :
    ∀ (M : sy_M) (s1 : Int32) (H : Heap) (locs : List Loc) (ls : Array Slot), wX12_tree_82 Q M s1 → sy_H Y NZ EZ s H locs M → lv_has ls 4 [(0, .ref (Y.2.1 0))] → W p l e ({ frames := 30, cells := 0, slots := 0, locals := 781 } : Room) s m args below meth c H locs 0 0 (sy_ZI below args s Y NZ EZ Q) (F0 m 82 ls [.int s1, .ref (Y.2.1 0)]) := by
  have hx := C.1.1
  have hb := C.1.2.1
  intro M s1 H locs ls hq hh hl
  unfold wX12_tree_82 at hq
  refine sy_put C hh (fun w h => mc (uZ_fX12 w h)) tyX12 tyX12_ok nmX12 0 (by decide) (oZ_0 Y) rfl 12 (by decide) (index := 23) (mc uZ_10) rfl 12 s1 (ty := .int) (tyX12_ok 12 (by decide)) rfl rfl (Nat.le_of_ble_eq_true rfl) (pX12_12 Y _ _ _) dX12_tree_82 (fun H locs hh => ?_)
  refine lv_aload_n hx hb dX12_tree_85 rfl (lv_at hl 0 rfl) ?_
  refine sy_cIV C hh (As := []) (rest := []) 0 (by decide) (oZ_0 Y) rfl (mX12_isWell l Y _ (mu M 0 12 s1)  _ hq) (cwV 0 C.1.2.2.2.2 (sy_goodV uZ_good uZ_154 uZ_155 uZ_156 uZ_55 uZ_138 _) rfl rfl rfl hdX12_isWell ⟨Nat.le_of_ble_eq_true rfl, Nat.le_of_ble_eq_true rfl⟩) rfl hl.1 rfl (Nat.le_of_ble_eq_true rfl) dX12_tree_86 (fun r14 M13 H locs hq hh => ?_)
  refine lv_if_ne (tgt := 100) hx hb dX12_tree_89 (by decide) (fun c15 => ?_) (fun c15 => ?_)
  · have hq := hq.1 c15
    refine lv_aload_n hx hb dX12_tree_100 rfl (lv_at hl 0 rfl) ?_
    refine lv_aload_n hx hb dX12_tree_101 rfl (lv_at hl 0 rfl) ?_
    refine sy_get C hh (fun w h => mc (uZ_fX12 w h)) 0 (by decide) (oZ_0 Y) rfl 14 (by decide) (index := 208) (mc uZ_140) (v := .int (M13 0 14)) rfl dX12_tree_102 ?_
    refine sy_put C hh (fun w h => mc (uZ_fX12 w h)) tyX12 tyX12_ok nmX12 0 (by decide) (oZ_0 Y) rfl 13 (by decide) (index := 243) (mc uZ_175) rfl 13 (M13 0 14) (ty := .int) (tyX12_ok 13 (by decide)) rfl rfl (Nat.le_of_ble_eq_true rfl) (pX12_13 Y _ _ _) dX12_tree_105 (fun H locs hh => ?_)
    refine lv_iconst (v := (0 : Int32)) hx hb dX12_tree_108 (by decide) ?_
    refine lv_istore_n (lv' := [(2, .int (0 : Int32)), (0, .ref (Y.2.1 0))]) hx hb dX12_tree_109 rfl hl (by decide) rfl (fun ls hl => ?_)
    obtain ⟨n33, hq⟩ := hq
    refine kX12_tree_110 C  n33 (mu M13 0 13 (M13 0 14)) (0 : Int32) _ _ _ hq hh (lv_sub hl [1, 0] rfl)
  · have hq := hq.2 c15
    refine lv_bipush (v := (-2 : Int32)) hx hb dX12_tree_92 (by decide) ?_
    refine lv_aload_n hx hb dX12_tree_94 rfl (lv_at hl 0 rfl) ?_
    refine sy_get C hh (fun w h => mc (uZ_fX12 w h)) 0 (by decide) (oZ_0 Y) rfl 10 (by decide) (index := 202) (mc uZ_136) (v := .int (M13 0 10)) rfl dX12_tree_95 ?_
    refine lv_isub hx hb dX12_tree_98 ?_
    exact sy_iret C hh dX12_tree_99 hq

set_option maxHeartbeats 4000000 in
set_option maxRecDepth 100000 in
theorem kX12_tree_61 (C : sy_C p m c cX12_tree 4 s args vsX12_tree RX12 meth (some .int) Y NZ tfZ) {Q : Int32 → sy_M → Prop} :
    ∀ (M : sy_M) (H : Heap) (locs : List Loc) (ls : Array Slot), wX12_tree_61 Q M → sy_H Y NZ EZ s H locs M → lv_has ls 4 [(0, .ref (Y.2.1 0))] → W p l e ({ frames := 30, cells := 0, slots := 0, locals := 781 } : Room) s m args below meth c H locs 0 0 (sy_ZI below args s Y NZ EZ Q) (F0 m 61 ls []) := by
  have hx := C.1.1
  have hb := C.1.2.1
  intro M H locs ls hq hh hl
  unfold wX12_tree_61 at hq
  refine lv_aload_n hx hb dX12_tree_61 rfl (lv_at hl 0 rfl) ?_
  refine lv_iconst (v := (0 : Int32)) hx hb dX12_tree_62 (by decide) ?_
  refine sy_put C hh (fun w h => mc (uZ_fX12 w h)) tyX12 tyX12_ok nmX12 0 (by decide) (oZ_0 Y) rfl 5 (by decide) (index := 149) (mc uZ_59) rfl 5 (0 : Int32) (ty := .int) (tyX12_ok 5 (by decide)) rfl rfl (Nat.le_of_ble_eq_true rfl) (pX12_5 Y _ _ _) dX12_tree_63 (fun H locs hh => ?_)
  refine lv_aload_n hx hb dX12_tree_66 rfl (lv_at hl 0 rfl) ?_
  refine lv_aload_n hx hb dX12_tree_67 rfl (lv_at hl 0 rfl) ?_
  refine sy_cIV C hh (As := []) (rest := [.ref (Y.2.1 0)]) 0 (by decide) (oZ_0 Y) rfl (mX12_isWell l Y _ (mu M 0 5 (0 : Int32))  _ hq) (cwV 0 C.1.2.2.2.2 (sy_goodV uZ_good uZ_154 uZ_155 uZ_156 uZ_55 uZ_138 _) rfl rfl rfl hdX12_isWell ⟨Nat.le_of_ble_eq_true rfl, Nat.le_of_ble_eq_true rfl⟩) rfl hl.1 rfl (Nat.le_of_ble_eq_true rfl) dX12_tree_68 (fun r11 M10 H locs hq hh => ?_)
  refine lv_if_eq (tgt := 78) hx hb dX12_tree_71 (by decide) (fun c12 => ?_) (fun c12 => ?_)
  · have hq := hq.1 c12
    refine lv_aload_n hx hb dX12_tree_78 rfl (lv_at hl 0 rfl) ?_
    refine sy_get C hh (fun w h => mc (uZ_fX12 w h)) 0 (by decide) (oZ_0 Y) rfl 11 (by decide) (index := 205) (mc uZ_137) (v := .int (M10 0 11)) rfl dX12_tree_79 ?_
    refine kX12_tree_82 C  M10 (M10 0 11) _ _ _ hq hh (lv_sub hl [0] rfl)
  · have hq := hq.2 c12
    refine lv_iconst (v := (-1 : Int32)) hx hb dX12_tree_74 (by decide) ?_
    refine lv_goto (tgt := 82) hx hb dX12_tree_75 (by decide) ?_
    refine kX12_tree_82 C  M10 (-1 : Int32) _ _ _ hq hh (lv_sub hl [0] rfl)

set_option maxHeartbeats 4000000 in
set_option maxRecDepth 100000 in
theorem kX12_tree_42 (C : sy_C p m c cX12_tree 4 s args vsX12_tree RX12 meth (some .int) Y NZ tfZ) {Q : Int32 → sy_M → Prop} :
    ∀ (M : sy_M) (H : Heap) (locs : List Loc) (ls : Array Slot), wX12_tree_42 Q M → sy_H Y NZ EZ s H locs M → lv_has ls 4 [(0, .ref (Y.2.1 0))] → W p l e ({ frames := 30, cells := 0, slots := 0, locals := 781 } : Room) s m args below meth c H locs 0 0 (sy_ZI below args s Y NZ EZ Q) (F0 m 42 ls []) := by
  have hx := C.1.1
  have hb := C.1.2.1
  intro M H locs ls hq hh hl
  unfold wX12_tree_42 at hq
  refine lv_aload_n hx hb dX12_tree_42 rfl (lv_at hl 0 rfl) ?_
  refine sy_cIV C hh (As := []) (rest := []) 0 (by decide) (oZ_0 Y) rfl (mX12_isWell l Y _ M  _ hq) (cwV 0 C.1.2.2.2.2 (sy_goodV uZ_good uZ_154 uZ_155 uZ_156 uZ_55 uZ_138 _) rfl rfl rfl hdX12_isWell ⟨Nat.le_of_ble_eq_true rfl, Nat.le_of_ble_eq_true rfl⟩) rfl hl.1 rfl (Nat.le_of_ble_eq_true rfl) dX12_tree_43 (fun r8 M7 H locs hq hh => ?_)
  refine lv_if_eq (tgt := 61) hx hb dX12_tree_46 (by decide) (fun c9 => ?_) (fun c9 => ?_)
  · have hq := hq.1 c9
    refine kX12_tree_61 C  M7  _ _ _ hq hh (lv_sub hl [0] rfl)
  · have hq := hq.2 c9
    refine lv_aload_n hx hb dX12_tree_49 rfl (lv_at hl 0 rfl) ?_
    refine sy_get C hh (fun w h => mc (uZ_fX12 w h)) 0 (by decide) (oZ_0 Y) rfl 8 (by decide) (index := 158) (mc uZ_67) (v := .int (M7 0 8)) rfl dX12_tree_50 ?_
    refine lv_if_eq (tgt := 61) hx hb dX12_tree_53 (by decide) (fun c34 => ?_) (fun c34 => ?_)
    · have hq := hq.1 c34
      refine kX12_tree_61 C  M7  _ _ _ hq hh (lv_sub hl [0] rfl)
    · have hq := hq.2 c34
      refine lv_aload_n hx hb dX12_tree_56 rfl (lv_at hl 0 rfl) ?_
      refine lv_iconst (v := (1 : Int32)) hx hb dX12_tree_57 (by decide) ?_
      refine sy_cVV C hh (As := [.int (1 : Int32)]) (rest := []) 0 (by decide) (oZ_0 Y) rfl (mX12_fails l Y _ M7 (1 : Int32) _ hq) (cwV 1 C.1.2.2.2.2 (sy_goodV uZ_good uZ_144 uZ_145 uZ_146 uZ_55 uZ_135 _) rfl rfl rfl hdX12_fails ⟨Nat.le_of_ble_eq_true rfl, Nat.le_of_ble_eq_true rfl⟩) rfl hl.1 rfl (Nat.le_of_ble_eq_true rfl) dX12_tree_58 (fun M35 H locs hq hh => ?_)
      refine kX12_tree_61 C  M35  _ _ _ hq hh (lv_sub hl [0] rfl)

end
set_option maxHeartbeats 4000000 in
set_option maxRecDepth 100000 in
theorem mX12_tree (l : Launch) (Y : sy_Y) (sz : Nat) (M : sy_M) (Q : Int32 → sy_M → Prop) (hq : wX12_tree M  Q) : Met l yX12_tree vsX12_tree ({ frames := 30, cells := 0, slots := 0, locals := 781 } : Room) (va_Pc [.ref (Y.2.1 0)] (sy_pre Y NZ EZ tfZ sz M)) (sy_QI Y NZ EZ sz Q) 0 0 (sy_A NZ Y.2.1 sz) := by
  refine sy_metI (by decide) rfl (Nat.le_of_ble_eq_true rfl) ?_
  intro p e s m args below meth c C ls hl hh
  have hx := C.1.1
  have hb := C.1.2.1
  have hl : lv_has ls 4 [(0, .ref (Y.2.1 0))] := hl
  unfold wX12_tree at hq
  refine lv_aload_n hx hb dX12_tree_0 rfl (lv_at hl 0 rfl) ?_
  refine lv_iconst (v := (0 : Int32)) hx hb dX12_tree_1 (by decide) ?_
  refine sy_put C hh (fun w h => mc (uZ_fX12 w h)) tyX12 tyX12_ok nmX12 0 (by decide) (oZ_0 Y) rfl 0 (by decide) (index := 1) (mc uZ_1) rfl 0 (0 : Int32) (ty := .int) (tyX12_ok 0 (by decide)) rfl rfl (Nat.le_of_ble_eq_true rfl) (pX12_0 Y _ _ _) dX12_tree_2 (fun H locs hh => ?_)
  refine lv_aload_n hx hb dX12_tree_5 rfl (lv_at hl 0 rfl) ?_
  refine lv_iconst (v := (0 : Int32)) hx hb dX12_tree_6 (by decide) ?_
  refine sy_put C hh (fun w h => mc (uZ_fX12 w h)) tyX12 tyX12_ok nmX12 0 (by decide) (oZ_0 Y) rfl 10 (by decide) (index := 202) (mc uZ_136) rfl 10 (0 : Int32) (ty := .int) (tyX12_ok 10 (by decide)) rfl rfl (Nat.le_of_ble_eq_true rfl) (pX12_10 Y _ _ _) dX12_tree_7 (fun H locs hh => ?_)
  refine lv_aload_n hx hb dX12_tree_10 rfl (lv_at hl 0 rfl) ?_
  refine lv_iconst (v := (0 : Int32)) hx hb dX12_tree_11 (by decide) ?_
  refine sy_put C hh (fun w h => mc (uZ_fX12 w h)) tyX12 tyX12_ok nmX12 0 (by decide) (oZ_0 Y) rfl 14 (by decide) (index := 208) (mc uZ_140) rfl 14 (0 : Int32) (ty := .int) (tyX12_ok 14 (by decide)) rfl rfl (Nat.le_of_ble_eq_true rfl) (pX12_14 Y _ _ _) dX12_tree_12 (fun H locs hh => ?_)
  refine lv_aload_n hx hb dX12_tree_15 rfl (lv_at hl 0 rfl) ?_
  refine lv_iconst (v := (0 : Int32)) hx hb dX12_tree_16 (by decide) ?_
  refine sy_put C hh (fun w h => mc (uZ_fX12 w h)) tyX12 tyX12_ok nmX12 0 (by decide) (oZ_0 Y) rfl 6 (by decide) (index := 152) (mc uZ_65) rfl 6 (0 : Int32) (ty := .int) (tyX12_ok 6 (by decide)) rfl rfl (Nat.le_of_ble_eq_true rfl) (pX12_6 Y _ _ _) dX12_tree_17 (fun H locs hh => ?_)
  refine lv_aload_n hx hb dX12_tree_20 rfl (lv_at hl 0 rfl) ?_
  refine sy_cVV C hh (As := []) (rest := []) 0 (by decide) (oZ_0 Y) rfl (mX12_next l Y _ (mu (mu (mu (mu M 0 0 (0 : Int32)) 0 10 (0 : Int32)) 0 14 (0 : Int32)) 0 6 (0 : Int32))  _ hq) (cwV 0 C.1.2.2.2.2 (sy_goodV uZ_good uZ_150 uZ_151 uZ_152 uZ_55 uZ_64 _) rfl rfl rfl hdX12_next ⟨Nat.le_of_ble_eq_true rfl, Nat.le_of_ble_eq_true rfl⟩) rfl hl.1 rfl (Nat.le_of_ble_eq_true rfl) dX12_tree_21 (fun M1 H locs hq hh => ?_)
  refine lv_aload_n hx hb dX12_tree_24 rfl (lv_at hl 0 rfl) ?_
  refine lv_iconst (v := (-1 : Int32)) hx hb dX12_tree_25 (by decide) ?_
  refine sy_cIV C hh (As := [.int (-1 : Int32)]) (rest := []) 0 (by decide) (oZ_0 Y) rfl (mX12_newBox l Y _ M1 (-1 : Int32) _ hq) (cwV 1 C.1.2.2.2.2 (sy_goodV uZ_good uZ_161 uZ_162 uZ_163 uZ_55 uZ_153 _) rfl rfl rfl hdX12_newBox ⟨Nat.le_of_ble_eq_true rfl, Nat.le_of_ble_eq_true rfl⟩) rfl hl.1 rfl (Nat.le_of_ble_eq_true rfl) dX12_tree_26 (fun r3 M2 H locs hq hh => ?_)
  refine lv_istore_n (lv' := [(1, .int r3), (0, .ref (Y.2.1 0))]) hx hb dX12_tree_29 rfl hl (by decide) rfl (fun ls hl => ?_)
  refine lv_aload_n hx hb dX12_tree_30 rfl (lv_at hl 1 rfl) ?_
  refine sy_cIV C hh (As := []) (rest := []) 0 (by decide) (oZ_0 Y) rfl (mX12_isWell l Y _ M2  _ hq) (cwV 0 C.1.2.2.2.2 (sy_goodV uZ_good uZ_154 uZ_155 uZ_156 uZ_55 uZ_138 _) rfl rfl rfl hdX12_isWell ⟨Nat.le_of_ble_eq_true rfl, Nat.le_of_ble_eq_true rfl⟩) rfl hl.1 rfl (Nat.le_of_ble_eq_true rfl) dX12_tree_31 (fun r5 M4 H locs hq hh => ?_)
  refine lv_if_eq (tgt := 42) hx hb dX12_tree_34 (by decide) (fun c6 => ?_) (fun c6 => ?_)
  · have hq := hq.1 c6
    refine kX12_tree_42 C  M4  _ _ _ hq hh (lv_sub hl [1] rfl)
  · have hq := hq.2 c6
    refine lv_aload_n hx hb dX12_tree_37 rfl (lv_at hl 1 rfl) ?_
    refine lv_iload_n hx hb dX12_tree_38 rfl (lv_at hl 0 rfl) ?_
    refine sy_cVV C hh (As := [.int r3]) (rest := []) 0 (by decide) (oZ_0 Y) rfl (mX12_group l Y 8 _ M4 r3 _ hq) (cwV 1 C.1.2.2.2.2 (sy_goodV uZ_good uZ_164 uZ_165 uZ_166 uZ_55 uZ_167 _) rfl rfl rfl hdX12_group ⟨Nat.le_of_ble_eq_true rfl, Nat.le_of_ble_eq_true rfl⟩) rfl hl.1 rfl (Nat.le_of_ble_eq_true rfl) dX12_tree_39 (fun M36 H locs hq hh => ?_)
    refine kX12_tree_42 C  M36  _ _ _ hq hh (lv_sub hl [1] rfl)

