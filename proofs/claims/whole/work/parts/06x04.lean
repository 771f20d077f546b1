/-! AreaSetter$Items.sum(II)I -/
def wX3_sum (M : sy_M) (a1 : Int32) (a2 : Int32) (Q : Int32 → sy_M → Prop) : Prop := ∃ n1 : Nat, n1 < 9 ∧ a2 = nI n1 ∧ ∃ n2 : Nat, n2 < 9 ∧ a1 = nI n2 ∧ Q ((M 31 n1) - (M 31 n2)) M
section
variable {p : Program} {l : Launch} {e : Env} {s : State} {m : MethodId} {args : Array Value} {below : List Frame} {meth : Method} {c : Code} {Y : sy_Y}
end
set_option maxHeartbeats 4000000 in
set_option maxRecDepth 100000 in
theorem mX3_sum (l : Launch) (Y : sy_Y) (sz : Nat) (M : sy_M) (a1 : Int32) (a2 : Int32) (Q : Int32 → sy_M → Prop) (hq : wX3_sum M a1 a2 Q) : Met l yX3_sum vsX3_sum ({ frames := 0, cells := 0, slots := 0, locals := 0 } : Room) (va_Pc [.ref (Y.2.1 28), .int a1, .int a2] (sy_pre Y NX EX tfX sz M)) (sy_QI Y NX EX sz Q) 0 0 (sy_A NX Y.2.1 sz) := by
  refine sy_metI (by decide) rfl (Nat.le_of_ble_eq_true rfl) ?_
  intro p e s m args below meth c C ls hl hh
  have hx := C.1.1
  have hb := C.1.2.1
  have hl : lv_has ls 3 [(0, .ref (Y.2.1 28)), (1, .int a1), (2, .int a2)] := hl
  unfold wX3_sum at hq
  refine lv_aload_n hx hb dX3_sum_0 rfl (lv_at hl 0 rfl) ?_
  refine sy_get C hh (fun w h => mc (uX_fX3 w h)) 28 (by decide) (oX_28 Y) rfl 8 (by decide) (index := 37) (mc uX_49) (v := .ref (Y.2.1 31)) rfl dX3_sum_1 ?_
  refine lv_iload_n hx hb dX3_sum_4 rfl (lv_at hl 2 rfl) ?_
  obtain ⟨n1, hn1, en1, hq⟩ := hq
  refine sy_iald C hh 31 (by decide) (aX_31 Y) tX_31 hn1 en1 (by decide) dX3_sum_5 ?_
  refine lv_aload_n hx hb dX3_sum_6 rfl (lv_at hl 0 rfl) ?_
  refine sy_get C hh (fun w h => mc (uX_fX3 w h)) 28 (by decide) (oX_28 Y) rfl 8 (by decide) (index := 37) (mc uX_49) (v := .ref (Y.2.1 31)) rfl dX3_sum_7 ?_
  refine lv_iload_n hx hb dX3_sum_10 rfl (lv_at hl 1 rfl) ?_
  obtain ⟨n2, hn2, en2, hq⟩ := hq
  refine sy_iald C hh 31 (by decide) (aX_31 Y) tX_31 hn2 en2 (by decide) dX3_sum_11 ?_
  refine lv_isub hx hb dX3_sum_12 ?_
  exact sy_iret C hh dX3_sum_13 hq

/-! AreaSetter.share(III)I -/
def wX11_share (M : sy_M) (a1 : Int32) (a2 : Int32) (a3 : Int32) (Q : Int32 → sy_M → Prop) : Prop := ((0 < a3 → (¬ (a3.toInt64) = 0) ∧ Q ((((a1.toInt64) * (a2.toInt64)) / (a3.toInt64)).toInt32) M) ∧ (¬ 0 < a3 → Q (0 : Int32) M))
section
variable {p : Program} {l : Launch} {e : Env} {s : State} {m : MethodId} {args : Array Value} {below : List Frame} {meth : Method} {c : Code} {Y : sy_Y}
end
set_option maxHeartbeats 4000000 in
set_option maxRecDepth 100000 in
theorem mX11_share (l : Launch) (Y : sy_Y) (sz : Nat) (M : sy_M) (a1 : Int32) (a2 : Int32) (a3 : Int32) (Q : Int32 → sy_M → Prop) (hq : wX11_share M a1 a2 a3 Q) : Met l yX11_share vsX11_share ({ frames := 0, cells := 0, slots := 0, locals := 0 } : Room) (va_Pc [.int a1, .int a2, .int a3] (sy_pre Y NX EX tfX sz M)) (sy_QI Y NX EX sz Q) 0 0 (sy_A NX Y.2.1 sz) := by
  refine sy_metI (by decide) rfl (Nat.le_of_ble_eq_true rfl) ?_
  intro p e s m args below meth c C ls hl hh
  have hx := C.1.1
  have hb := C.1.2.1
  have hl : lv_has ls 3 [(0, .int a1), (1, .int a2), (2, .int a3)] := hl
  unfold wX11_share at hq
  refine lv_iload_n hx hb dX11_share_0 rfl (lv_at hl 2 rfl) ?_
  refine lv_if_gt (tgt := 8) hx hb dX11_share_1 (by decide) (fun c1 => ?_) (fun c1 => ?_)
  · have hq := hq.1 c1
    refine lv_iload_n hx hb dX11_share_8 rfl (lv_at hl 0 rfl) ?_
    refine lv_i2l (v := (a1.toInt64)) hx hb dX11_share_9 rfl ?_
    refine lv_iload_n hx hb dX11_share_10 rfl (lv_at hl 1 rfl) ?_
    refine lv_i2l (v := (a2.toInt64)) hx hb dX11_share_11 rfl ?_
    refine lv_lmul hx hb dX11_share_12 ?_
    refine lv_iload_n hx hb dX11_share_13 rfl (lv_at hl 2 rfl) ?_
    refine lv_i2l (v := (a3.toInt64)) hx hb dX11_share_14 rfl ?_
    obtain ⟨e2, hq⟩ := hq
    refine lv_ldiv hx hb dX11_share_15 e2 ?_
    refine lv_l2i (v := ((((a1.toInt64) * (a2.toInt64)) / (a3.toInt64)).toInt32)) hx hb dX11_share_16 rfl ?_
    exact sy_iret C hh dX11_share_17 hq
  · have hq := hq.2 c1
    refine lv_iconst (v := (0 : Int32)) hx hb dX11_share_4 (by decide) ?_
    refine lv_goto (tgt := 17) hx hb dX11_share_5 (by decide) ?_
    exact sy_iret C hh dX11_share_17 hq

/-! AreaSetter$Cutter.worstOfCut(IIIIII)I -/
def wX1_worstOfCut_123 (rec : sy_M → Int32 → Int32 → Int32 → Int32 → Int32 → (Int32 → sy_M → Prop) → Prop) (Q : Int32 → sy_M → Prop) (M : sy_M) (x9 : Int32) (s0 : Int32) : Prop := Q (imax x9 s0) M
def wX1_worstOfCut_76 (rec : sy_M → Int32 → Int32 → Int32 → Int32 → Int32 → (Int32 → sy_M → Prop) → Prop) (Q : Int32 → sy_M → Prop) (M : sy_M) (x1 : Int32) (x2 : Int32) (x3 : Int32) (x4 : Int32) (x5 : Int32) (x6 : Int32) (x7 : Int32) (x8 : Int32) (s0 : Int32) : Prop := ((s0 < x6 → ((x8 = 0 → rec M x1 x2 x7 x5 x6 (fun r16 M15 => wX1_worstOfCut_123 rec  Q M15 s0 r16)) ∧ (¬ x8 = 0 → rec M x2 x3 (x4 - x7) x5 x6 (fun r18 M17 => wX1_worstOfCut_123 rec  Q M17 s0 r18)))) ∧ (¬ s0 < x6 → Q s0 M))
def wX1_worstOfCut_39 (rec : sy_M → Int32 → Int32 → Int32 → Int32 → Int32 → (Int32 → sy_M → Prop) → Prop) (Q : Int32 → sy_M → Prop) (M : sy_M) (x1 : Int32) (x2 : Int32) (x3 : Int32) (x4 : Int32) (x5 : Int32) (x6 : Int32) (x7 : Int32) (s0 : Int32) : Prop := ((s0 = 0 → rec M x2 x3 (x4 - x7) x5 x6 (fun r12 M11 => wX1_worstOfCut_76 rec  Q M11 x1 x2 x3 x4 x5 x6 x7 s0 r12)) ∧ (¬ s0 = 0 → rec M x1 x2 x7 x5 x6 (fun r20 M19 => wX1_worstOfCut_76 rec  Q M19 x1 x2 x3 x4 x5 x6 x7 s0 r20)))
def wX1_worstOfCut (rec : sy_M → Int32 → Int32 → Int32 → Int32 → Int32 → (Int32 → sy_M → Prop) → Prop) (M : sy_M) (a1 : Int32) (a2 : Int32) (a3 : Int32) (a4 : Int32) (a5 : Int32) (a6 : Int32) (Q : Int32 → sy_M → Prop) : Prop := (M 58 0) = nI 28 ∧ wX3_sum M a1 a2 (fun r3 M2 => (M2 58 0) = nI 28 ∧ wX3_sum M2 a1 a3 (fun r6 M5 => wX11_share M5 a4 r3 r6 (fun r8 M7 => (((a3 - a2) < (a2 - a1) → wX1_worstOfCut_39 rec  Q M7 a1 a2 a3 a4 a5 a6 r8 (0 : Int32)) ∧ (¬ (a3 - a2) < (a2 - a1) → wX1_worstOfCut_39 rec  Q M7 a1 a2 a3 a4 a5 a6 r8 (1 : Int32))))))
section
variable {p : Program} {l : Launch} {e : Env} {s : State} {m : MethodId} {args : Array Value} {below : List Frame} {meth : Method} {c : Code} {Y : sy_Y}
set_option maxHeartbeats 4000000 in
set_option maxRecDepth 100000 in
theorem kX1_worstOfCut_123 (C : sy_C p m c cX1_worstOfCut 11 s args vsX1_worstOfCut RX1 meth (some .int) Y NX tfX) {rec : sy_M → Int32 → Int32 → Int32 → Int32 → Int32 → (Int32 → sy_M → Prop) → Prop} {d : Nat} (hrec : ∀ (sz : Nat) (M : sy_M) (a1 : Int32) (a2 : Int32) (a3 : Int32) (a4 : Int32) (a5 : Int32) (Q : Int32 → sy_M → Prop), rec M a1 a2 a3 a4 a5 Q → Met l yX1_leastWorst vsX1_leastWorst ({ frames := 2 * d + 4, cells := 0, slots := 0, locals := 57 * d + 152 } : Room) (va_Pc [.ref (Y.2.1 58), .int a1, .int a2, .int a3, .int a4, .int a5] (sy_pre Y NX EX tfX sz M)) (sy_QI Y NX EX sz Q) 0 0 (sy_A NX Y.2.1 sz)) {Q : Int32 → sy_M → Prop} :
    ∀ (M : sy_M) (x9 : Int32) (s0 : Int32) (H : Heap) (locs : List Loc) (ls : Array Slot), wX1_worstOfCut_123 rec Q M x9 s0 → sy_H Y NX EX s H locs M → lv_has ls 11 [(9, .int x9)] → W p l e ({ frames := 2 * d + 5, cells := 0, slots := 0, locals := 57 * d + 179 } : Room) s m args below meth c H locs 0 0 (sy_ZI below args s Y NX EX Q) (F0 m 123 ls [.int s0]) := by
  have hx := C.1.1
  have hb := C.1.2.1
  intro M x9 s0 H locs ls hq hh hl
  unfold wX1_worstOfCut_123 at hq
  refine lv_istore (lv' := [(10, .int s0), (9, .int x9)]) hx hb dX1_worstOfCut_123 hl (by decide) rfl (fun ls hl => ?_)
  refine lv_iload hx hb dX1_worstOfCut_125 (lv_at hl 1 rfl) ?_
  refine lv_iload hx hb dX1_worstOfCut_127 (lv_at hl 0 rfl) ?_
  refine sy_mmax C hl (index := 69) (mc uX_64) (mc uX_35) (mc uX_31) (mc uX_36) (by dsimp only; omega) (by simp [Value.category] <;> omega) dX1_worstOfCut_129 ?_
  exact sy_iret C hh dX1_worstOfCut_132 hq

set_option maxHeartbeats 4000000 in
set_option maxRecDepth 100000 in
theorem kX1_worstOfCut_76 (C : sy_C p m c cX1_worstOfCut 11 s args vsX1_worstOfCut RX1 meth (some .int) Y NX tfX) {rec : sy_M → Int32 → Int32 → Int32 → Int32 → Int32 → (Int32 → sy_M → Prop) → Prop} {d : Nat} (hrec : ∀ (sz : Nat) (M : sy_M) (a1 : Int32) (a2 : Int32) (a3 : Int32) (a4 : Int32) (a5 : Int32) (Q : Int32 → sy_M → Prop), rec M a1 a2 a3 a4 a5 Q → Met l yX1_leastWorst vsX1_leastWorst ({ frames := 2 * d + 4, cells := 0, slots := 0, locals := 57 * d + 152 } : Room) (va_Pc [.ref (Y.2.1 58), .int a1, .int a2, .int a3, .int a4, .int a5] (sy_pre Y NX EX tfX sz M)) (sy_QI Y NX EX sz Q) 0 0 (sy_A NX Y.2.1 sz)) {Q : Int32 → sy_M → Prop} :
    ∀ (M : sy_M) (x1 : Int32) (x2 : Int32) (x3 : Int32) (x4 : Int32) (x5 : Int32) (x6 : Int32) (x7 : Int32) (x8 : Int32) (s0 : Int32) (H : Heap) (locs : List Loc) (ls : Array Slot), wX1_worstOfCut_76 rec Q M x1 x2 x3 x4 x5 x6 x7 x8 s0 → sy_H Y NX EX s H locs M → lv_has ls 11 [(0, .ref (Y.2.1 58)), (1, .int x1), (2, .int x2), (3, .int x3), (4, .int x4), (5, .int x5), (6, .int x6), (7, .int x7), (8, .int x8)] → W p l e ({ frames := 2 * d + 5, cells := 0, slots := 0, locals := 57 * d + 179 } : Room) s m args below meth c H locs 0 0 (sy_ZI below args s Y NX EX Q) (F0 m 76 ls [.int s0]) := by
  have hx := C.1.1
  have hb := C.1.2.1
  intro M x1 x2 x3 x4 x5 x6 x7 x8 s0 H locs ls hq hh hl
  unfold wX1_worstOfCut_76 at hq
  refine lv_istore (lv' := [(9, .int s0), (0, .ref (Y.2.1 58)), (1, .int x1), (2, .int x2), (3, .int x3), (4, .int x4), (5, .int x5), (6, .int x6), (7, .int x7), (8, .int x8)]) hx hb dX1_worstOfCut_76 hl (by decide) rfl (fun ls hl => ?_)
  refine lv_iload hx hb dX1_worstOfCut_78 (lv_at hl 0 rfl) ?_
  refine lv_iload hx hb dX1_worstOfCut_80 (lv_at hl 7 rfl) ?_
  refine lv_icmp_lt (tgt := 88) hx hb dX1_worstOfCut_82 (by decide) (fun c13 => ?_) (fun c13 => ?_)
  · have hq := hq.1 c13
    refine lv_iload hx hb dX1_worstOfCut_88 (lv_at hl 9 rfl) ?_
    refine lv_if_eq (tgt := 111) hx hb dX1_worstOfCut_90 (by decide) (fun c14 => ?_) (fun c14 => ?_)
    · have hq := hq.1 c14
      refine lv_aload_n hx hb dX1_worstOfCut_111 rfl (lv_at hl 1 rfl) ?_
      refine lv_iload_n hx hb dX1_worstOfCut_112 rfl (lv_at hl 2 rfl) ?_
      refine lv_iload_n hx hb dX1_worstOfCut_113 rfl (lv_at hl 3 rfl) ?_
      refine lv_iload hx hb dX1_worstOfCut_114 (lv_at hl 8 rfl) ?_
      refine lv_iload hx hb dX1_worstOfCut_116 (lv_at hl 6 rfl) ?_
      refine lv_iload hx hb dX1_worstOfCut_118 (lv_at hl 7 rfl) ?_
      refine sy_cIV C hh (As := [.int x1, .int x2, .int x7, .int x5, .int x6]) (rest := []) 58 (by decide) (oX_58 Y) rfl (hrec _ M x1 x2 x7 x5 x6 _ hq) (cwV 5 C.1.2.2.2.2 (sy_goodV uX_good uX_66 uX_67 uX_68 uX_62 uX_69 _) rfl rfl rfl hdX1_leastWorst ⟨by dsimp only; omega, by dsimp only; omega⟩) rfl hl.1 rfl (Nat.le_of_ble_eq_true rfl) dX1_worstOfCut_120 (fun r16 M15 H locs hq hh => ?_)
      refine kX1_worstOfCut_123 C hrec  M15 s0 r16 _ _ _ hq hh (lv_sub hl [0] rfl)
    · have hq := hq.2 c14
      refine lv_aload_n hx hb dX1_worstOfCut_93 rfl (lv_at hl 1 rfl) ?_
      refine lv_iload_n hx hb dX1_worstOfCut_94 rfl (lv_at hl 3 rfl) ?_
      refine lv_iload_n hx hb dX1_worstOfCut_95 rfl (lv_at hl 4 rfl) ?_
      refine lv_iload hx hb dX1_worstOfCut_96 (lv_at hl 5 rfl) ?_
      refine lv_iload hx hb dX1_worstOfCut_98 (lv_at hl 8 rfl) ?_
      refine lv_isub hx hb dX1_worstOfCut_100 ?_
      refine lv_iload hx hb dX1_worstOfCut_101 (lv_at hl 6 rfl) ?_
      refine lv_iload hx hb dX1_worstOfCut_103 (lv_at hl 7 rfl) ?_
      refine sy_cIV C hh (As := [.int x2, .int x3, .int (x4 - x7), .int x5, .int x6]) (rest := []) 58 (by decide) (oX_58 Y) rfl (hrec _ M x2 x3 (x4 - x7) x5 x6 _ hq) (cwV 5 C.1.2.2.2.2 (sy_goodV uX_good uX_66 uX_67 uX_68 uX_62 uX_69 _) rfl rfl rfl hdX1_leastWorst ⟨by dsimp only; omega, by dsimp only; omega⟩) rfl hl.1 rfl (Nat.le_of_ble_eq_true rfl) dX1_worstOfCut_105 (fun r18 M17 H locs hq hh => ?_)
      refine lv_goto (tgt := 123) hx hb dX1_worstOfCut_108 (by decide) ?_
      refine kX1_worstOfCut_123 C hrec  M17 s0 r18 _ _ _ hq hh (lv_sub hl [0] rfl)
  · have hq := hq.2 c13
    refine lv_iload hx hb dX1_worstOfCut_85 (lv_at hl 0 rfl) ?_
    exact sy_iret C hh dX1_worstOfCut_87 hq

set_option maxHeartbeats 4000000 in
set_option maxRecDepth 100000 in
theorem kX1_worstOfCut_39 (C : sy_C p m c cX1_worstOfCut 11 s args vsX1_worstOfCut RX1 meth (some .int) Y NX tfX) {rec : sy_M → Int32 → Int32 → Int32 → Int32 → Int32 → (Int32 → sy_M → Prop) → Prop} {d : Nat} (hrec : ∀ (sz : Nat) (M : sy_M) (a1 : Int32) (a2 : Int32) (a3 : Int32) (a4 : Int32) (a5 : Int32) (Q : Int32 → sy_M → Prop), rec M a1 a2 a3 a4 a5 Q → Met l yX1_leastWorst vsX1_leastWorst ({ frames := 2 * d + 4, cells := 0, slots := 0, locals := 57 * d + 152 } : Room) (va_Pc [.ref (Y.2.1 58), .int a1, .int a2, .int a3, .int a4, .int a5] (sy_pre Y NX EX tfX sz M)) (sy_QI Y NX EX sz Q) 0 0 (sy_A NX Y.2.1 sz)) {Q : Int32 → sy_M → Prop} :
    ∀ (M : sy_M) (x1 : Int32) (x2 : Int32) (x3 : Int32) (x4 : Int32) (x5 : Int32) (x6 : Int32) (x7 : Int32) (s0 : Int32) (H : Heap) (locs : List Loc) (ls : Array Slot), wX1_worstOfCut_39 rec Q M x1 x2 x3 x4 x5 x6 x7 s0 → sy_H Y NX EX s H locs M → lv_has ls 11 [(0, .ref (Y.2.1 58)), (1, .int x1), (2, .int x2), (3, .int x3), (4, .int x4), (5, .int x5), (6, .int x6), (7, .int x7)] → W p l e ({ frames := 2 * d + 5, cells := 0, slots := 0, locals := 57 * d + 179 } : Room) s m args below meth c H locs 0 0 (sy_ZI below args s Y NX EX Q) (F0 m 39 ls [.int s0]) := by
  have hx := C.1.1
  have hb := C.1.2.1
  intro M x1 x2 x3 x4 x5 x6 x7 s0 H locs ls hq hh hl
  unfold wX1_worstOfCut_39 at hq
  refine lv_istore (lv' := [(8, .int s0), (0, .ref (Y.2.1 58)), (1, .int x1), (2, .int x2), (3, .int x3), (4, .int x4), (5, .int x5), (6, .int x6), (7, .int x7)]) hx hb dX1_worstOfCut_39 hl (by decide) rfl (fun ls hl => ?_)
  refine lv_iload hx hb dX1_worstOfCut_41 (lv_at hl 0 rfl) ?_
  refine lv_if_eq (tgt := 61) hx hb dX1_worstOfCut_43 (by decide) (fun c10 => ?_) (fun c10 => ?_)
  · have hq := hq.1 c10
    refine lv_aload_n hx hb dX1_worstOfCut_61 rfl (lv_at hl 1 rfl) ?_
    refine lv_iload_n hx hb dX1_worstOfCut_62 rfl (lv_at hl 3 rfl) ?_
    refine lv_iload_n hx hb dX1_worstOfCut_63 rfl (lv_at hl 4 rfl) ?_
    refine lv_iload hx hb dX1_worstOfCut_64 (lv_at hl 5 rfl) ?_
    refine lv_iload hx hb dX1_worstOfCut_66 (lv_at hl 8 rfl) ?_
    refine lv_isub hx hb dX1_worstOfCut_68 ?_
    refine lv_iload hx hb dX1_worstOfCut_69 (lv_at hl 6 rfl) ?_
    refine lv_iload hx hb dX1_worstOfCut_71 (lv_at hl 7 rfl) ?_
    refine sy_cIV C hh (As := [.int x2, .int x3, .int (x4 - x7), .int x5, .int x6]) (rest := []) 58 (by decide) (oX_58 Y) rfl (hrec _ M x2 x3 (x4 - x7) x5 x6 _ hq) (cwV 5 C.1.2.2.2.2 (sy_goodV uX_good uX_66 uX_67 uX_68 uX_62 uX_69 _) rfl rfl rfl hdX1_leastWorst ⟨by dsimp only; omega, by dsimp only; omega⟩) rfl hl.1 rfl (Nat.le_of_ble_eq_true rfl) dX1_worstOfCut_73 (fun r12 M11 H locs hq hh => ?_)
    refine kX1_worstOfCut_76 C hrec  M11 x1 x2 x3 x4 x5 x6 x7 s0 r12 _ _ _ hq hh (lv_sub hl [1, 2, 3, 4, 5, 6, 7, 8, 0] rfl)
  · have hq := hq.2 c10
    refine lv_aload_n hx hb dX1_worstOfCut_46 rfl (lv_at hl 1 rfl) ?_
    refine lv_iload_n hx hb dX1_worstOfCut_47 rfl (lv_at hl 2 rfl) ?_
    refine lv_iload_n hx hb dX1_worstOfCut_48 rfl (lv_at hl 3 rfl) ?_
    refine lv_iload hx hb dX1_worstOfCut_49 (lv_at hl 8 rfl) ?_
    refine lv_iload hx hb dX1_worstOfCut_51 (lv_at hl 6 rfl) ?_
    refine lv_iload hx hb dX1_worstOfCut_53 (lv_at hl 7 rfl) ?_
    refine sy_cIV C hh (As := [.int x1, .int x2, .int x7, .int x5, .int x6]) (rest := []) 58 (by decide) (oX_58 Y) rfl (hrec _ M x1 x2 x7 x5 x6 _ hq) (cwV 5 C.1.2.2.2.2 (sy_goodV uX_good uX_66 uX_67 uX_68 uX_62 uX_69 _) rfl rfl rfl hdX1_leastWorst ⟨by dsimp only; omega, by dsimp only; omega⟩) rfl hl.1 rfl (Nat.le_of_ble_eq_true rfl) dX1_worstOfCut_55 (fun r20 M19 H locs hq hh => ?_)
    refine lv_goto (tgt := 76) hx hb dX1_worstOfCut_58 (by decide) ?_
    refine kX1_worstOfCut_76 C hrec  M19 x1 x2 x3 x4 x5 x6 x7 s0 r20 _ _ _ hq hh (lv_sub hl [1, 2, 3, 4, 5, 6, 7, 8, 0] rfl)

end
set_option maxHeartbeats 4000000 in
set_option maxRecDepth 100000 in
theorem mX1_worstOfCut {l : Launch} {Y : sy_Y} {rec : sy_M → Int32 → Int32 → Int32 → Int32 → Int32 → (Int32 → sy_M → Prop) → Prop} {d : Nat} (hrec : ∀ (sz : Nat) (M : sy_M) (a1 : Int32) (a2 : Int32) (a3 : Int32) (a4 : Int32) (a5 : Int32) (Q : Int32 → sy_M → Prop), rec M a1 a2 a3 a4 a5 Q → Met l yX1_leastWorst vsX1_leastWorst ({ frames := 2 * d + 4, cells := 0, slots := 0, locals := 57 * d + 152 } : Room) (va_Pc [.ref (Y.2.1 58), .int a1, .int a2, .int a3, .int a4, .int a5] (sy_pre Y NX EX tfX sz M)) (sy_QI Y NX EX sz Q) 0 0 (sy_A NX Y.2.1 sz)) (sz : Nat) (M : sy_M) (a1 : Int32) (a2 : Int32) (a3 : Int32) (a4 : Int32) (a5 : Int32) (a6 : Int32) (Q : Int32 → sy_M → Prop) (hq : wX1_worstOfCut rec M a1 a2 a3 a4 a5 a6 Q) : Met l yX1_worstOfCut vsX1_worstOfCut ({ frames := 2 * d + 5, cells := 0, slots := 0, locals := 57 * d + 179 } : Room) (va_Pc [.ref (Y.2.1 58), .int a1, .int a2, .int a3, .int a4, .int a5, .int a6] (sy_pre Y NX EX tfX sz M)) (sy_QI Y NX EX sz Q) 0 0 (sy_A NX Y.2.1 sz) := by
  refine sy_metI (by decide) rfl (Nat.le_of_ble_eq_true rfl) ?_
  intro p e s m args below meth c C ls hl hh
  have hx := C.1.1
  have hb := C.1.2.1
  have hl : lv_has ls 11 [(0, .ref (Y.2.1 58)), (1, .int a1), (2, .int a2), (3, .int a3), (4, .int a4), (5, .int a5), (6, .int a6)] := hl
  unfold wX1_worstOfCut at hq
  refine lv_iload hx hb dX1_worstOfCut_0 (lv_at hl 4 rfl) ?_
  refine lv_aload_n hx hb dX1_worstOfCut_2 rfl (lv_at hl 0 rfl) ?_
  obtain ⟨e1, hq⟩ := hq
  refine sy_get C hh (fun w h => mc (uX_fX1 w h)) 58 (by decide) (oX_58 Y) rfl 0 (by decide) (index := 9) (mc uX_51) (v := .ref (Y.2.1 28)) (sy_rf_of e1 (by decide)) dX1_worstOfCut_3 ?_
  refine lv_iload_n hx hb dX1_worstOfCut_6 rfl (lv_at hl 1 rfl) ?_
  refine lv_iload_n hx hb dX1_worstOfCut_7 rfl (lv_at hl 2 rfl) ?_
  refine sy_cIV C hh (As := [.int a1, .int a2]) (rest := [.int a4]) 28 (by decide) (oX_28 Y) rfl (mX3_sum l Y _ M a1 a2 _ hq) (cwV 2 C.1.2.2.2.2 (sy_goodV uX_good uX_55 uX_56 uX_57 uX_58 uX_48 _) rfl rfl rfl hdX3_sum ⟨by dsimp only; omega, by dsimp only; omega⟩) rfl hl.1 rfl (Nat.le_of_ble_eq_true rfl) dX1_worstOfCut_8 (fun r3 M2 H locs hq hh => ?_)
  refine lv_aload_n hx hb dX1_worstOfCut_11 rfl (lv_at hl 0 rfl) ?_
  obtain ⟨e4, hq⟩ := hq
  refine sy_get C hh (fun w h => mc (uX_fX1 w h)) 58 (by decide) (oX_58 Y) rfl 0 (by decide) (index := 9) (mc uX_51) (v := .ref (Y.2.1 28)) (sy_rf_of e4 (by decide)) dX1_worstOfCut_12 ?_
  refine lv_iload_n hx hb dX1_worstOfCut_15 rfl (lv_at hl 1 rfl) ?_
  refine lv_iload_n hx hb dX1_worstOfCut_16 rfl (lv_at hl 3 rfl) ?_
  refine sy_cIV C hh (As := [.int a1, .int a3]) (rest := [.int r3, .int a4]) 28 (by decide) (oX_28 Y) rfl (mX3_sum l Y _ M2 a1 a3 _ hq) (cwV 2 C.1.2.2.2.2 (sy_goodV uX_good uX_55 uX_56 uX_57 uX_58 uX_48 _) rfl rfl rfl hdX3_sum ⟨by dsimp only; omega, by dsimp only; omega⟩) rfl hl.1 rfl (Nat.le_of_ble_eq_true rfl) dX1_worstOfCut_17 (fun r6 M5 H locs hq hh => ?_)
  refine sy_cIN C hh (As := [.int a4, .int r3, .int r6]) (rest := []) (mX11_share l Y _ M5 a4 r3 r6 _ hq) ⟨va_cnB 3 C.1.2.2.2.2 (sy_goodN uX_good uX_50 _) rfl rfl rfl (C.2.1.2.1 ("AreaSetter$Cutter", 61, yX11_share) (by simp)) (C.1.2.2.2.2 _ (mc uX_47)) hdX11_share.2 ⟨by dsimp only; omega, by dsimp only; omega⟩, C.1.2.2.2.2 _ (mc uX_65), trivial⟩ rfl hl.1 rfl (Nat.le_of_ble_eq_true rfl) dX1_worstOfCut_20 (fun r8 M7 H locs hq hh => ?_)
  refine lv_istore (lv' := [(7, .int r8), (0, .ref (Y.2.1 58)), (1, .int a1), (2, .int a2), (3, .int a3), (4, .int a4), (5, .int a5), (6, .int a6)]) hx hb dX1_worstOfCut_23 hl (by decide) rfl (fun ls hl => ?_)
  refine lv_iload_n hx hb dX1_worstOfCut_25 rfl (lv_at hl 3 rfl) ?_
  refine lv_iload_n hx hb dX1_worstOfCut_26 rfl (lv_at hl 2 rfl) ?_
  refine lv_isub hx hb dX1_worstOfCut_27 ?_
  refine lv_iload_n hx hb dX1_worstOfCut_28 rfl (lv_at hl 4 rfl) ?_
  refine lv_iload_n hx hb dX1_worstOfCut_29 rfl (lv_at hl 3 rfl) ?_
  refine lv_isub hx hb dX1_worstOfCut_30 ?_
  refine lv_icmp_gt (tgt := 38) hx hb dX1_worstOfCut_31 (by decide) (fun c9 => ?_) (fun c9 => ?_)
  · have hq := hq.1 c9
    refine lv_iconst (v := (0 : Int32)) hx hb dX1_worstOfCut_38 (by decide) ?_
    refine kX1_worstOfCut_39 C hrec  M7 a1 a2 a3 a4 a5 a6 r8 (0 : Int32) _ _ _ hq hh (lv_sub hl [1, 2, 3, 4, 5, 6, 7, 0] rfl)
  · have hq := hq.2 c9
    refine lv_iconst (v := (1 : Int32)) hx hb dX1_worstOfCut_34 (by decide) ?_
    refine lv_goto (tgt := 39) hx hb dX1_worstOfCut_35 (by decide) ?_
    refine kX1_worstOfCut_39 C hrec  M7 a1 a2 a3 a4 a5 a6 r8 (1 : Int32) _ _ _ hq hh (lv_sub hl [1, 2, 3, 4, 5, 6, 7, 0] rfl)

/-! AreaSetter.shapeOf(III)I -/
def wX11_shapeOf (M : sy_M) (a1 : Int32) (a2 : Int32) (a3 : Int32) (Q : Int32 → sy_M → Prop) : Prop := ((¬ a1 = 0 → ((0 < (imin a2 a3) → (¬ (imin a2 a3) = 0) ∧ Q (((imax a2 a3) * (nI 1000)) / (imin a2 a3)) M) ∧ (¬ 0 < (imin a2 a3) → Q (nI 1000000) M))) ∧ (a1 = 0 → Q (0 : Int32) M))
section
variable {p : Program} {l : Launch} {e : Env} {s : State} {m : MethodId} {args : Array Value} {below : List Frame} {meth : Method} {c : Code} {Y : sy_Y}
end
set_option maxHeartbeats 4000000 in
set_option maxRecDepth 100000 in
theorem mX11_shapeOf (l : Launch) (Y : sy_Y) (sz : Nat) (M : sy_M) (a1 : Int32) (a2 : Int32) (a3 : Int32) (Q : Int32 → sy_M → Prop) (hq : wX11_shapeOf M a1 a2 a3 Q) : Met l yX11_shapeOf vsX11_shapeOf ({ frames := 1, cells := 0, slots := 0, locals := 21 } : Room) (va_Pc [.int a1, .int a2, .int a3] (sy_pre Y NX EX tfX sz M)) (sy_QI Y NX EX sz Q) 0 0 (sy_A NX Y.2.1 sz) := by
  refine sy_metI (by decide) rfl (Nat.le_of_ble_eq_true rfl) ?_
  intro p e s m args below meth c C ls hl hh
  have hx := C.1.1
  have hb := C.1.2.1
  have hl : lv_has ls 4 [(0, .int a1), (1, .int a2), (2, .int a3)] := hl
  unfold wX11_shapeOf at hq
  refine lv_iload_n hx hb dX11_shapeOf_0 rfl (lv_at hl 0 rfl) ?_
  refine lv_if_ne (tgt := 6) hx hb dX11_shapeOf_1 (by decide) (fun c1 => ?_) (fun c1 => ?_)
  · have hq := hq.1 c1
    refine lv_iload_n hx hb dX11_shapeOf_6 rfl (lv_at hl 1 rfl) ?_
    refine lv_iload_n hx hb dX11_shapeOf_7 rfl (lv_at hl 2 rfl) ?_
    refine sy_mmin C hl (index := 182) (mc uX_29) (mc uX_30) (mc uX_31) (mc uX_32) (by decide) (Nat.le_of_ble_eq_true rfl) dX11_shapeOf_8 ?_
    refine lv_istore_n (lv' := [(3, .int (imin a2 a3)), (0, .int a1), (1, .int a2), (2, .int a3)]) hx hb dX11_shapeOf_11 rfl hl (by decide) rfl (fun ls hl => ?_)
    refine lv_iload_n hx hb dX11_shapeOf_12 rfl (lv_at hl 0 rfl) ?_
    refine lv_if_gt (tgt := 21) hx hb dX11_shapeOf_13 (by decide) (fun c2 => ?_) (fun c2 => ?_)
    · have hq := hq.1 c2
      refine lv_iload_n hx hb dX11_shapeOf_21 rfl (lv_at hl 2 rfl) ?_
      refine lv_iload_n hx hb dX11_shapeOf_22 rfl (lv_at hl 3 rfl) ?_
      refine sy_mmax C hl (index := 239) (mc uX_34) (mc uX_35) (mc uX_31) (mc uX_36) (by decide) (Nat.le_of_ble_eq_true rfl) dX11_shapeOf_23 ?_
      refine lv_sipush (v := (nI 1000)) hx hb dX11_shapeOf_26 (by decide) ?_
      refine lv_imul hx hb dX11_shapeOf_29 ?_
      refine lv_iload_n hx hb dX11_shapeOf_30 rfl (lv_at hl 0 rfl) ?_
      obtain ⟨e3, hq⟩ := hq
      refine lv_idiv hx hb dX11_shapeOf_31 e3 ?_
      exact sy_iret C hh dX11_shapeOf_32 hq
    · have hq := hq.2 c2
      refine lv_ldc (v := (nI 1000000)) hx hb C.1.2.2.2.1 (C.1.2.2.2.2 (.constant RX11 238 (nI 1000000)) (mc uX_33)) dX11_shapeOf_16 ?_
      refine lv_goto (tgt := 32) hx hb dX11_shapeOf_18 (by decide) ?_
      exact sy_iret C hh dX11_shapeOf_32 hq
  · have hq := hq.2 c1
    refine lv_iconst (v := (0 : Int32)) hx hb dX11_shapeOf_4 (by decide) ?_
    exact sy_iret C hh dX11_shapeOf_5 hq

/-! AreaSetter$Cutter.leastWorst(IIIII)I -/
def wX1_leastWorst_58 (rec : sy_M → Int32 → Int32 → Int32 → Int32 → Int32 → (Int32 → sy_M → Prop) → Prop) (Q : Int32 → sy_M → Prop) : Nat → sy_M → Int32 → Int32 → Int32 → Int32 → Int32 → Int32 → Prop
  | 0, _, _, _, _, _, _, _ => False
  | n + 1, M, x1, x2, x3, x4, x6, x7 => ((x2 ≤ x7 → Q x6 M) ∧ (¬ x2 ≤ x7 → wX1_worstOfCut rec M x1 x7 x2 x3 x4 x6 (fun r10 M9 => wX1_worstOfCut rec M9 x1 x7 x2 x4 x3 (imin x6 r10) (fun r12 M11 => wX1_leastWorst_58 rec Q n M11 x1 x2 x3 x4 (imin (imin x6 r10) r12) (x7 + (1 : Int32))))))
def wX1_leastWorst_b (rec : sy_M → Int32 → Int32 → Int32 → Int32 → Int32 → (Int32 → sy_M → Prop) → Prop) (M : sy_M) (a1 : Int32) (a2 : Int32) (a3 : Int32) (a4 : Int32) (a5 : Int32) (Q : Int32 → sy_M → Prop) : Prop := (((1 : Int32) < (a2 - a1) → (M 58 0) = nI 28 ∧ wX3_sum M a1 a2 (fun r4 M3 => ((¬ r4 = 0 → ((a3 = 0 → Q (nI 1000000) M3) ∧ (¬ a3 = 0 → ((¬ a4 = 0 → ∃ n13 : Nat, wX1_leastWorst_58 rec  Q n13 M3 a1 a2 a3 a4 a5 (a1 + (1 : Int32))) ∧ (a4 = 0 → Q (nI 1000000) M3))))) ∧ (r4 = 0 → Q (0 : Int32) M3)))) ∧ (¬ (1 : Int32) < (a2 - a1) → (M 58 0) = nI 28 ∧ ∃ n15 : Nat, n15 < 8 ∧ a1 = nI n15 ∧ wX11_shapeOf M (M 30 n15) a3 a4 (fun r17 M16 => Q r17 M16)))
def wX1_leastWorst : Nat → sy_M → Int32 → Int32 → Int32 → Int32 → Int32 → (Int32 → sy_M → Prop) → Prop
  | 0, _, _, _, _, _, _, _ => False
  | d + 1, M, a1, a2, a3, a4, a5, Q => wX1_leastWorst_b (wX1_leastWorst d) M a1 a2 a3 a4 a5 Q
section
variable {p : Program} {l : Launch} {e : Env} {s : State} {m : MethodId} {args : Array Value} {below : List Frame} {meth : Method} {c : Code} {Y : sy_Y}
set_option maxHeartbeats 4000000 in
set_option maxRecDepth 100000 in
theorem kX1_leastWorst_58 (C : sy_C p m c cX1_leastWorst 8 s args vsX1_leastWorst RX1 meth (some .int) Y NX tfX) {rec : sy_M → Int32 → Int32 → Int32 → Int32 → Int32 → (Int32 → sy_M → Prop) → Prop} {d : Nat} (hrec : ∀ (sz : Nat) (M : sy_M) (a1 : Int32) (a2 : Int32) (a3 : Int32) (a4 : Int32) (a5 : Int32) (Q : Int32 → sy_M → Prop), rec M a1 a2 a3 a4 a5 Q → Met l yX1_leastWorst vsX1_leastWorst ({ frames := 2 * d + 4, cells := 0, slots := 0, locals := 57 * d + 152 } : Room) (va_Pc [.ref (Y.2.1 58), .int a1, .int a2, .int a3, .int a4, .int a5] (sy_pre Y NX EX tfX sz M)) (sy_QI Y NX EX sz Q) 0 0 (sy_A NX Y.2.1 sz)) {Q : Int32 → sy_M → Prop} :
    ∀ (n : Nat) (M : sy_M) (x1 : Int32) (x2 : Int32) (x3 : Int32) (x4 : Int32) (x6 : Int32) (x7 : Int32) (H : Heap) (locs : List Loc) (ls : Array Slot), wX1_leastWorst_58 rec Q n M x1 x2 x3 x4 x6 x7 → sy_H Y NX EX s H locs M → lv_has ls 8 [(0, .ref (Y.2.1 58)), (1, .int x1), (2, .int x2), (3, .int x3), (4, .int x4), (6, .int x6), (7, .int x7)] → W p l e ({ frames := 2 * (d + 1) + 4, cells := 0, slots := 0, locals := 57 * (d + 1) + 152 } : Room) s m args below meth c H locs 0 0 (sy_ZI below args s Y NX EX Q) (F0 m 58 ls []) := by
  have hx := C.1.1
  have hb := C.1.2.1
  intro n
  induction n with
  | zero =>
    intro M x1 x2 x3 x4 x6 x7 H locs ls hq hh hl
    unfold wX1_leastWorst_58 at hq
    exact hq.elim
  | succ n ih =>
    intro M x1 x2 x3 x4 x6 x7 H locs ls hq hh hl
    unfold wX1_leastWorst_58 at hq
    refine lv_iload hx hb dX1_leastWorst_58 (lv_at hl 6 rfl) ?_
    refine lv_iload_n hx hb dX1_leastWorst_60 rfl (lv_at hl 2 rfl) ?_
    refine lv_icmp_ge (tgt := 110) hx hb dX1_leastWorst_61 (by decide) (fun c8 => ?_) (fun c8 => ?_)
    · have hq := hq.1 c8
      refine lv_iload hx hb dX1_leastWorst_110 (lv_at hl 5 rfl) ?_
      exact sy_iret C hh dX1_leastWorst_112 hq
    · have hq := hq.2 c8
      refine lv_iload hx hb dX1_leastWorst_64 (lv_at hl 5 rfl) ?_
      refine lv_aload_n hx hb dX1_leastWorst_66 rfl (lv_at hl 0 rfl) ?_
      refine lv_iload_n hx hb dX1_leastWorst_67 rfl (lv_at hl 1 rfl) ?_
      refine lv_iload hx hb dX1_leastWorst_68 (lv_at hl 6 rfl) ?_
      refine lv_iload_n hx hb dX1_leastWorst_70 rfl (lv_at hl 2 rfl) ?_
      refine lv_iload_n hx hb dX1_leastWorst_71 rfl (lv_at hl 3 rfl) ?_
      refine lv_iload hx hb dX1_leastWorst_72 (lv_at hl 4 rfl) ?_
      refine lv_iload hx hb dX1_leastWorst_74 (lv_at hl 5 rfl) ?_
      refine sy_cIV C hh (As := [.int x1, .int x7, .int x2, .int x3, .int x4, .int x6]) (rest := [.int x6]) 58 (by decide) (oX_58 Y) rfl (mX1_worstOfCut hrec _ M x1 x7 x2 x3 x4 x6 _ hq) (cwV 6 C.1.2.2.2.2 (sy_goodV uX_good uX_59 uX_60 uX_61 uX_62 uX_63 _) rfl rfl rfl hdX1_worstOfCut ⟨by dsimp only; omega, by dsimp only; omega⟩) rfl hl.1 rfl (Nat.le_of_ble_eq_true rfl) dX1_leastWorst_76 (fun r10 M9 H locs hq hh => ?_)
      refine sy_mmin C hl (index := 82) (mc uX_54) (mc uX_30) (mc uX_31) (mc uX_32) (by dsimp only; omega) (by simp [Value.category] <;> omega) dX1_leastWorst_79 ?_
      refine lv_istore (lv' := [(6, .int (imin x6 r10)), (0, .ref (Y.2.1 58)), (1, .int x1), (2, .int x2), (3, .int x3), (4, .int x4), (7, .int x7)]) hx hb dX1_leastWorst_82 hl (by decide) rfl (fun ls hl => ?_)
      refine lv_iload hx hb dX1_leastWorst_84 (lv_at hl 0 rfl) ?_
      refine lv_aload_n hx hb dX1_leastWorst_86 rfl (lv_at hl 1 rfl) ?_
      refine lv_iload_n hx hb dX1_leastWorst_87 rfl (lv_at hl 2 rfl) ?_
      refine lv_iload hx hb dX1_leastWorst_88 (lv_at hl 6 rfl) ?_
      refine lv_iload_n hx hb dX1_leastWorst_90 rfl (lv_at hl 3 rfl) ?_
      refine lv_iload hx hb dX1_leastWorst_91 (lv_at hl 5 rfl) ?_
      refine lv_iload_n hx hb dX1_leastWorst_93 rfl (lv_at hl 4 rfl) ?_
      refine lv_iload hx hb dX1_leastWorst_94 (lv_at hl 0 rfl) ?_
      refine sy_cIV C hh (As := [.int x1, .int x7, .int x2, .int x4, .int x3, .int (imin x6 r10)]) (rest := [.int (imin x6 r10)]) 58 (by decide) (oX_58 Y) rfl (mX1_worstOfCut hrec _ M9 x1 x7 x2 x4 x3 (imin x6 r10) _ hq) (cwV 6 C.1.2.2.2.2 (sy_goodV uX_good uX_59 uX_60 uX_61 uX_62 uX_63 _) rfl rfl rfl hdX1_worstOfCut ⟨by dsimp only; omega, by dsimp only; omega⟩) rfl hl.1 rfl (Nat.le_of_ble_eq_true rfl) dX1_leastWorst_96 (fun r12 M11 H locs hq hh => ?_)
      refine sy_mmin C hl (index := 82) (mc uX_54) (mc uX_30) (mc uX_31) (mc uX_32) (by dsimp only; omega) (by simp [Value.category] <;> omega) dX1_leastWorst_99 ?_
      refine lv_istore (lv' := [(6, .int (imin (imin x6 r10) r12)), (0, .ref (Y.2.1 58)), (1, .int x1), (2, .int x2), (3, .int x3), (4, .int x4), (7, .int x7)]) hx hb dX1_leastWorst_102 hl (by decide) rfl (fun ls hl => ?_)
      refine lv_iinc (v := (x7 + (1 : Int32))) (lv' := [(7, .int (x7 + (1 : Int32))), (6, .int (imin (imin x6 r10) r12)), (0, .ref (Y.2.1 58)), (1, .int x1), (2, .int x2), (3, .int x3), (4, .int x4)]) hx hb dX1_leastWorst_104 hl (k := 6) rfl (sy_inc (by decide)) (by decide) rfl (fun ls hl => ?_)
      refine lv_goto (tgt := 58) hx hb dX1_leastWorst_107 (by decide) ?_
      exact ih M11 x1 x2 x3 x4 (imin (imin x6 r10) r12) (x7 + (1 : Int32)) _ _ _ hq hh (lv_sub hl [2, 3, 4, 5, 6, 1, 0] rfl)

end
set_option maxHeartbeats 4000000 in
set_option maxRecDepth 100000 in
theorem mX1_leastWorst_b {l : Launch} {Y : sy_Y} {rec : sy_M → Int32 → Int32 → Int32 → Int32 → Int32 → (Int32 → sy_M → Prop) → Prop} {d : Nat} (hrec : ∀ (sz : Nat) (M : sy_M) (a1 : Int32) (a2 : Int32) (a3 : Int32) (a4 : Int32) (a5 : Int32) (Q : Int32 → sy_M → Prop), rec M a1 a2 a3 a4 a5 Q → Met l yX1_leastWorst vsX1_leastWorst ({ frames := 2 * d + 4, cells := 0, slots := 0, locals := 57 * d + 152 } : Room) (va_Pc [.ref (Y.2.1 58), .int a1, .int a2, .int a3, .int a4, .int a5] (sy_pre Y NX EX tfX sz M)) (sy_QI Y NX EX sz Q) 0 0 (sy_A NX Y.2.1 sz)) (sz : Nat) (M : sy_M) (a1 : Int32) (a2 : Int32) (a3 : Int32) (a4 : Int32) (a5 : Int32) (Q : Int32 → sy_M → Prop) (hq : wX1_leastWorst_b rec M a1 a2 a3 a4 a5 Q) : Met l yX1_leastWorst vsX1_leastWorst ({ frames := 2 * (d + 1) + 4, cells := 0, slots := 0, locals := 57 * (d + 1) + 152 } : Room) (va_Pc [.ref (Y.2.1 58), .int a1, .int a2, .int a3, .int a4, .int a5] (sy_pre Y NX EX tfX sz M)) (sy_QI Y NX EX sz Q) 0 0 (sy_A NX Y.2.1 sz) := by
  refine sy_metI (by decide) rfl (Nat.le_of_ble_eq_true rfl) ?_
  intro p e s m args below meth c C ls hl hh
  have hx := C.1.1
  have hb := C.1.2.1
  have hl : lv_has ls 8 [(0, .ref (Y.2.1 58)), (1, .int a1), (2, .int a2), (3, .int a3), (4, .int a4), (5, .int a5)] := hl
  unfold wX1_leastWorst_b at hq
  refine lv_iload_n hx hb dX1_leastWorst_0 rfl (lv_at hl 2 rfl) ?_
  refine lv_iload_n hx hb dX1_leastWorst_1 rfl (lv_at hl 1 rfl) ?_
  refine lv_isub hx hb dX1_leastWorst_2 ?_
  refine lv_iconst (v := (1 : Int32)) hx hb dX1_leastWorst_3 (by decide) ?_
  refine lv_icmp_gt (tgt := 23) hx hb dX1_leastWorst_4 (by decide) (fun c1 => ?_) (fun c1 => ?_)
  · have hq := hq.1 c1
    refine lv_aload_n hx hb dX1_leastWorst_23 rfl (lv_at hl 0 rfl) ?_
    obtain ⟨e2, hq⟩ := hq
    refine sy_get C hh (fun w h => mc (uX_fX1 w h)) 58 (by decide) (oX_58 Y) rfl 0 (by decide) (index := 9) (mc uX_51) (v := .ref (Y.2.1 28)) (sy_rf_of e2 (by decide)) dX1_leastWorst_24 ?_
    refine lv_iload_n hx hb dX1_leastWorst_27 rfl (lv_at hl 1 rfl) ?_
    refine lv_iload_n hx hb dX1_leastWorst_28 rfl (lv_at hl 2 rfl) ?_
    refine sy_cIV C hh (As := [.int a1, .int a2]) (rest := []) 28 (by decide) (oX_28 Y) rfl (mX3_sum l Y _ M a1 a2 _ hq) (cwV 2 C.1.2.2.2.2 (sy_goodV uX_good uX_55 uX_56 uX_57 uX_58 uX_48 _) rfl rfl rfl hdX3_sum ⟨by dsimp only; omega, by dsimp only; omega⟩) rfl hl.1 rfl (Nat.le_of_ble_eq_true rfl) dX1_leastWorst_29 (fun r4 M3 H locs hq hh => ?_)
    refine lv_if_ne (tgt := 37) hx hb dX1_leastWorst_32 (by decide) (fun c5 => ?_) (fun c5 => ?_)
    · have hq := hq.1 c5
      refine lv_iload_n hx hb dX1_leastWorst_37 rfl (lv_at hl 3 rfl) ?_
      refine lv_if_eq (tgt := 46) hx hb dX1_leastWorst_38 (by decide) (fun c6 => ?_) (fun c6 => ?_)
      · have hq := hq.1 c6
        refine lv_ldc (v := (nI 1000000)) hx hb C.1.2.2.2.1 (C.1.2.2.2.2 (.constant RX1 81 (nI 1000000)) (mc uX_53)) dX1_leastWorst_46 ?_
        exact sy_iret C hh dX1_leastWorst_48 hq
      · have hq := hq.2 c6
        refine lv_iload hx hb dX1_leastWorst_41 (lv_at hl 4 rfl) ?_
        refine lv_if_ne (tgt := 49) hx hb dX1_leastWorst_43 (by decide) (fun c7 => ?_) (fun c7 => ?_)
        · have hq := hq.1 c7
          refine lv_iload hx hb dX1_leastWorst_49 (lv_at hl 5 rfl) ?_
          refine lv_istore (lv' := [(6, .int a5), (0, .ref (Y.2.1 58)), (1, .int a1), (2, .int a2), (3, .int a3), (4, .int a4), (5, .int a5)]) hx hb dX1_leastWorst_51 hl (by decide) rfl (fun ls hl => ?_)
          refine lv_iload_n hx hb dX1_leastWorst_53 rfl (lv_at hl 2 rfl) ?_
          refine lv_iconst (v := (1 : Int32)) hx hb dX1_leastWorst_54 (by decide) ?_
          refine lv_iadd hx hb dX1_leastWorst_55 ?_
          refine lv_istore (lv' := [(7, .int (a1 + (1 : Int32))), (6, .int a5), (0, .ref (Y.2.1 58)), (1, .int a1), (2, .int a2), (3, .int a3), (4, .int a4), (5, .int a5)]) hx hb dX1_leastWorst_56 hl (by decide) rfl (fun ls hl => ?_)
          obtain ⟨n13, hq⟩ := hq
          refine kX1_leastWorst_58 C hrec  n13 M3 a1 a2 a3 a4 a5 (a1 + (1 : Int32)) _ _ _ hq hh (lv_sub hl [2, 3, 4, 5, 6, 1, 0] rfl)
        · have hq := hq.2 c7
          refine lv_ldc (v := (nI 1000000)) hx hb C.1.2.2.2.1 (C.1.2.2.2.2 (.constant RX1 81 (nI 1000000)) (mc uX_53)) dX1_leastWorst_46 ?_
          exact sy_iret C hh dX1_leastWorst_48 hq
    · have hq := hq.2 c5
      refine lv_iconst (v := (0 : Int32)) hx hb dX1_leastWorst_35 (by decide) ?_
      exact sy_iret C hh dX1_leastWorst_36 hq
  · have hq := hq.2 c1
    refine lv_aload_n hx hb dX1_leastWorst_7 rfl (lv_at hl 0 rfl) ?_
    obtain ⟨e14, hq⟩ := hq
    refine sy_get C hh (fun w h => mc (uX_fX1 w h)) 58 (by decide) (oX_58 Y) rfl 0 (by decide) (index := 9) (mc uX_51) (v := .ref (Y.2.1 28)) (sy_rf_of e14 (by decide)) dX1_leastWorst_8 ?_
    refine sy_get C hh (fun w h => mc (uX_fX3 w h)) 28 (by decide) (oX_28 Y) rfl 3 (by decide) (index := 74) (mc uX_52) (v := .ref (Y.2.1 30)) rfl dX1_leastWorst_11 ?_
    refine lv_iload_n hx hb dX1_leastWorst_14 rfl (lv_at hl 1 rfl) ?_
    obtain ⟨n15, hn15, en15, hq⟩ := hq
    refine sy_iald C hh 30 (by decide) (aX_30 Y) tX_30 hn15 en15 (by decide) dX1_leastWorst_15 ?_
    refine lv_iload_n hx hb dX1_leastWorst_16 rfl (lv_at hl 3 rfl) ?_
    refine lv_iload hx hb dX1_leastWorst_17 (lv_at hl 4 rfl) ?_
    refine sy_cIN C hh (As := [.int (M 30 n15), .int a3, .int a4]) (rest := []) (mX11_shapeOf l Y _ M (M 30 n15) a3 a4 _ hq) ⟨va_cnB 3 C.1.2.2.2.2 (sy_goodN uX_good uX_28 _) rfl rfl rfl (C.2.1.2.1 ("AreaSetter$Cutter", 78, yX11_shapeOf) (by simp)) (C.1.2.2.2.2 _ (mc uX_47)) hdX11_shapeOf.2 ⟨by dsimp only; omega, by dsimp only; omega⟩, C.1.2.2.2.2 _ (mc uX_46), trivial⟩ rfl hl.1 rfl (Nat.le_of_ble_eq_true rfl) dX1_leastWorst_19 (fun r17 M16 H locs hq hh => ?_)
    exact sy_iret C hh dX1_leastWorst_22 hq

set_option maxHeartbeats 4000000 in
theorem mX1_leastWorst (l : Launch) (Y : sy_Y) : ∀ (d : Nat) (sz : Nat) (M : sy_M) (a1 : Int32) (a2 : Int32) (a3 : Int32) (a4 : Int32) (a5 : Int32) (Q : Int32 → sy_M → Prop), wX1_leastWorst d M a1 a2 a3 a4 a5 Q → Met l yX1_leastWorst vsX1_leastWorst ({ frames := 2 * d + 4, cells := 0, slots := 0, locals := 57 * d + 152 } : Room) (va_Pc [.ref (Y.2.1 58), .int a1, .int a2, .int a3, .int a4, .int a5] (sy_pre Y NX EX tfX sz M)) (sy_QI Y NX EX sz Q) 0 0 (sy_A NX Y.2.1 sz)
  | 0, _, _, _, _, _, _, _, _, hq => by unfold wX1_leastWorst at hq; exact hq.elim
  | d + 1, sz, M, a1, a2, a3, a4, a5, Q, hq => by
    unfold wX1_leastWorst at hq
    exact mX1_leastWorst_b (d := d) (rec := wX1_leastWorst d) (fun sz M => mX1_leastWorst l Y d sz M) sz M a1 a2 a3 a4 a5 Q hq
/-! AreaSetter$Plan.put(LAreaSetter$Items;IIIII)V -/
def wX5_put (M : sy_M) (p0 : Nat) (a2 : Int32) (a3 : Int32) (a4 : Int32) (a5 : Int32) (a6 : Int32) (Q : sy_M → Prop) : Prop := wX7_put M (p0 + 1) a2 a3 a4 a5 a6 (fun M1 => ∃ n2 : Nat, n2 < 8 ∧ a2 = nI n2 ∧ wX11_shapeOf M1 (M1 30 n2) a5 a6 (fun r4 M3 => Q (mu M3 p0 0 (imax (M1 p0 0) r4))))
section
variable {p : Program} {l : Launch} {e : Env} {s : State} {m : MethodId} {args : Array Value} {below : List Frame} {meth : Method} {c : Code} {Y : sy_Y}
end
set_option maxHeartbeats 4000000 in
set_option maxRecDepth 100000 in
theorem mX5_put (l : Launch) (Y : sy_Y) (sz : Nat) (M : sy_M) (p0 : Nat) (hp0 : iX5 p0) (a2 : Int32) (a3 : Int32) (a4 : Int32) (a5 : Int32) (a6 : Int32) (Q : sy_M → Prop) (hq : wX5_put M p0 a2 a3 a4 a5 a6 Q) : Met l yX5_put vsX5_put ({ frames := 2, cells := 0, slots := 0, locals := 44 } : Room) (va_Pc [.ref (Y.2.1 p0), .ref (Y.2.1 28), .int a2, .int a3, .int a4, .int a5, .int a6] (sy_pre Y NX EX tfX sz M)) (sy_QV Y NX EX sz Q) 0 0 (sy_A NX Y.2.1 sz) := by
  refine sy_metV (by decide) rfl (Nat.le_of_ble_eq_true rfl) ?_
  intro p e s m args below meth c C ls hl hh
  have hx := C.1.1
  have hb := C.1.2.1
  have hl : lv_has ls 7 [(0, .ref (Y.2.1 p0)), (1, .ref (Y.2.1 28)), (2, .int a2), (3, .int a3), (4, .int a4), (5, .int a5), (6, .int a6)] := hl
  unfold wX5_put at hq
  refine lv_aload_n hx hb dX5_put_0 rfl (lv_at hl 0 rfl) ?_
  refine sy_get C hh (fun w h => mc (uX_fX5 w h)) p0 (iX5_N hp0) (oX5 hp0) rfl 1 (by decide) (index := 20) (mc uX_38) (v := .ref (Y.2.1 (p0 + 1))) rfl dX5_put_1 ?_
  refine lv_iload_n hx hb dX5_put_4 rfl (lv_at hl 2 rfl) ?_
  refine lv_iload_n hx hb dX5_put_5 rfl (lv_at hl 3 rfl) ?_
  refine lv_iload hx hb dX5_put_6 (lv_at hl 4 rfl) ?_
  refine lv_iload hx hb dX5_put_8 (lv_at hl 5 rfl) ?_
  refine lv_iload hx hb dX5_put_10 (lv_at hl 6 rfl) ?_
  refine sy_cVV C hh (As := [.int a2, .int a3, .int a4, .int a5, .int a6]) (rest := []) (p0 + 1) (iX7_N (iX5_iX7 hp0)) (oX7 (iX5_iX7 hp0)) rfl (mX7_put l Y _ M (p0 + 1) (iX5_iX7 hp0) a2 a3 a4 a5 a6 _ hq) (cwV 5 C.1.2.2.2.2 (sy_goodV uX_good uX_42 uX_43 uX_44 uX_45 uX_23 _) rfl rfl rfl hdX7_put ⟨Nat.le_of_ble_eq_true rfl, Nat.le_of_ble_eq_true rfl⟩) rfl hl.1 rfl (Nat.le_of_ble_eq_true rfl) dX5_put_12 (fun M1 H locs hq hh => ?_)
  refine lv_aload_n hx hb dX5_put_15 rfl (lv_at hl 0 rfl) ?_
  refine lv_aload_n hx hb dX5_put_16 rfl (lv_at hl 0 rfl) ?_
  refine sy_get C hh (fun w h => mc (uX_fX5 w h)) p0 (iX5_N hp0) (oX5 hp0) rfl 0 (by decide) (index := 9) (mc uX_39) (v := .int (M1 p0 0)) rfl dX5_put_17 ?_
  refine lv_aload_n hx hb dX5_put_20 rfl (lv_at hl 1 rfl) ?_
  refine sy_get C hh (fun w h => mc (uX_fX3 w h)) 28 (by decide) (oX_28 Y) rfl 3 (by decide) (index := 28) (mc uX_40) (v := .ref (Y.2.1 30)) rfl dX5_put_21 ?_
  refine lv_iload_n hx hb dX5_put_24 rfl (lv_at hl 2 rfl) ?_
  obtain ⟨n2, hn2, en2, hq⟩ := hq
  refine sy_iald C hh 30 (by decide) (aX_30 Y) tX_30 hn2 en2 (by decide) dX5_put_25 ?_
  refine lv_iload hx hb dX5_put_26 (lv_at hl 5 rfl) ?_
  refine lv_iload hx hb dX5_put_28 (lv_at hl 6 rfl) ?_
  refine sy_cIN C hh (As := [.int (M1 30 n2), .int a5, .int a6]) (rest := [.int (M1 p0 0), .ref (Y.2.1 p0)]) (mX11_shapeOf l Y _ M1 (M1 30 n2) a5 a6 _ hq) ⟨va_cnB 3 C.1.2.2.2.2 (sy_goodN uX_good uX_28 _) rfl rfl rfl (C.2.1.2.1 ("AreaSetter$Plan", 34, yX11_shapeOf) (by simp)) (C.1.2.2.2.2 _ (mc uX_47)) hdX11_shapeOf.2 ⟨Nat.le_of_ble_eq_true rfl, Nat.le_of_ble_eq_true rfl⟩, C.1.2.2.2.2 _ (mc uX_46), trivial⟩ rfl hl.1 rfl (Nat.le_of_ble_eq_true rfl) dX5_put_30 (fun r4 M3 H locs hq hh => ?_)
  refine sy_mmax C hl (index := 38) (mc uX_41) (mc uX_35) (mc uX_31) (mc uX_36) (by decide) (Nat.le_of_ble_eq_true rfl) dX5_put_33 ?_
  refine sy_put C hh (fun w h => mc (uX_fX5 w h)) tyX5 tyX5_ok nmX5 p0 (iX5_N hp0) (oX5 hp0) rfl 0 (by decide) (index := 9) (mc uX_39) rfl (imax (M1 p0 0) r4) (ty := .int) (tyX5_ok 0 (by decide)) rfl rfl (Nat.le_of_ble_eq_true rfl) (pX5_0 Y _ _ _) dX5_put_36 (fun H locs hh => ?_)
  exact sy_vret C hh dX5_put_39 hq

/-! AreaSetter$Cutter.layPart(IIIIII)V -/
def wX1_layPart_84 (rec : sy_M → Int32 → Int32 → Int32 → Int32 → Int32 → Int32 → (sy_M → Prop) → Prop) (K_44 : sy_M → Int32 → Int32 → Int32 → Int32 → Int32 → Int32 → Int32 → Int32 → Int32 → Int32 → Prop) (Q : sy_M → Prop) (M : sy_M) (x1 : Int32) (x2 : Int32) (x3 : Int32) (x4 : Int32) (x5 : Int32) (x6 : Int32) (x7 : Int32) (x8 : Int32) (x9 : Int32) (x10 : Int32) : Prop := wX1_worstOfCut (wX1_leastWorst 9) M x1 x10 x2 x6 x5 x7 (fun r7 M6 => ((x7 ≤ r7 → K_44 M6 x1 x2 x3 x4 x5 x6 x7 x8 x9 (x10 + (1 : Int32))) ∧ (¬ x7 ≤ r7 → K_44 M6 x1 x2 x3 x4 x5 x6 r7 x10 (1 : Int32) (x10 + (1 : Int32)))))
def wX1_layPart_44 (rec : sy_M → Int32 → Int32 → Int32 → Int32 → Int32 → Int32 → (sy_M → Prop) → Prop) (K_124 : sy_M → Int32 → Int32 → Int32 → Int32 → Int32 → Int32 → Int32 → Int32 → Prop) (Q : sy_M → Prop) : Nat → sy_M → Int32 → Int32 → Int32 → Int32 → Int32 → Int32 → Int32 → Int32 → Int32 → Int32 → Prop
  | 0, _, _, _, _, _, _, _, _, _, _, _ => False
  | n + 1, M, x1, x2, x3, x4, x5, x6, x7, x8, x9, x10 => ((x2 ≤ x10 → K_124 M x1 x2 x3 x4 x5 x6 x8 x9) ∧ (¬ x2 ≤ x10 → wX1_worstOfCut (wX1_leastWorst 9) M x1 x10 x2 x5 x6 x7 (fun r4 M3 => ((x7 ≤ r4 → wX1_layPart_84 rec (fun (M9 : sy_M) (x1_10 : Int32) (x2_11 : Int32) (x3_12 : Int32) (x4_13 : Int32) (x5_14 : Int32) (x6_15 : Int32) (x7_16 : Int32) (x8_17 : Int32) (x9_18 : Int32) (x10_19 : Int32) => wX1_layPart_44 rec K_124 Q n M9 x1_10 x2_11 x3_12 x4_13 x5_14 x6_15 x7_16 x8_17 x9_18 x10_19) Q M3 x1 x2 x3 x4 x5 x6 x7 x8 x9 x10) ∧ (¬ x7 ≤ r4 → wX1_layPart_84 rec (fun (M20 : sy_M) (x1_21 : Int32) (x2_22 : Int32) (x3_23 : Int32) (x4_24 : Int32) (x5_25 : Int32) (x6_26 : Int32) (x7_27 : Int32) (x8_28 : Int32) (x9_29 : Int32) (x10_30 : Int32) => wX1_layPart_44 rec K_124 Q n M20 x1_21 x2_22 x3_23 x4_24 x5_25 x6_26 x7_27 x8_28 x9_29 x10_30) Q M3 x1 x2 x3 x4 x5 x6 r4 x10 (0 : Int32) x10)))))
def wX1_layPart_136 (rec : sy_M → Int32 → Int32 → Int32 → Int32 → Int32 → Int32 → (sy_M → Prop) → Prop) (Q : sy_M → Prop) (M : sy_M) (x1 : Int32) (x2 : Int32) (x3 : Int32) (x4 : Int32) (x5 : Int32) (x6 : Int32) (x8 : Int32) (x9 : Int32) (s0 : Int32) : Prop := (M 58 0) = nI 28 ∧ wX3_sum M x1 x8 (fun r43 M42 => (M42 58 0) = nI 28 ∧ wX3_sum M42 x1 x2 (fun r46 M45 => wX11_share M45 s0 r43 r46 (fun r48 M47 => ((x9 = 0 → rec M47 x1 x8 x3 x4 r48 x6 (fun M50 => rec M50 x8 x2 (x3 + r48) x4 (x5 - r48) x6 (fun M51 => Q M51))) ∧ (¬ x9 = 0 → rec M47 x1 x8 x3 x4 x5 r48 (fun M52 => rec M52 x8 x2 x3 (x4 + r48) x5 (x6 - r48) (fun M53 => Q M53)))))))
def wX1_layPart_b (rec : sy_M → Int32 → Int32 → Int32 → Int32 → Int32 → Int32 → (sy_M → Prop) → Prop) (M : sy_M) (a1 : Int32) (a2 : Int32) (a3 : Int32) (a4 : Int32) (a5 : Int32) (a6 : Int32) (Q : sy_M → Prop) : Prop := (((1 : Int32) < (a2 - a1) → ∃ n54 : Nat, wX1_layPart_44 rec (fun (M31 : sy_M) (x1_32 : Int32) (x2_33 : Int32) (x3_34 : Int32) (x4_35 : Int32) (x5_36 : Int32) (x6_37 : Int32) (x8_38 : Int32) (x9_39 : Int32) => ((x9_39 = 0 → wX1_layPart_136 rec  Q M31 x1_32 x2_33 x3_34 x4_35 x5_36 x6_37 x8_38 x9_39 x5_36) ∧ (¬ x9_39 = 0 → wX1_layPart_136 rec  Q M31 x1_32 x2_33 x3_34 x4_35 x5_36 x6_37 x8_38 x9_39 x6_37))) Q n54 M a1 a2 a3 a4 a5 a6 (nI 2147483647) (a1 + (1 : Int32)) (0 : Int32) (a1 + (1 : Int32))) ∧ (¬ (1 : Int32) < (a2 - a1) → ∃ t55 : Nat, (M 58 1) = nI t55 ∧ iX5 t55 ∧ (M 58 0) = nI 28 ∧ wX5_put M t55 a1 a3 a4 a5 a6 (fun M57 => Q M57)))
def wX1_layPart : Nat → sy_M → Int32 → Int32 → Int32 → Int32 → Int32 → Int32 → (sy_M → Prop) → Prop
  | 0, _, _, _, _, _, _, _, _ => False
  | d + 1, M, a1, a2, a3, a4, a5, a6, Q => wX1_layPart_b (wX1_layPart d) M a1 a2 a3 a4 a5 a6 Q
section
variable {p : Program} {l : Launch} {e : Env} {s : State} {m : MethodId} {args : Array Value} {below : List Frame} {meth : Method} {c : Code} {Y : sy_Y}
set_option maxHeartbeats 4000000 in
set_option maxRecDepth 100000 in
theorem kX1_layPart_84 (C : sy_C p m c cX1_layPart 13 s args vsX1_layPart RX1 meth none Y NX tfX) {rec : sy_M → Int32 → Int32 → Int32 → Int32 → Int32 → Int32 → (sy_M → Prop) → Prop} {d : Nat} (hrec : ∀ (sz : Nat) (M : sy_M) (a1 : Int32) (a2 : Int32) (a3 : Int32) (a4 : Int32) (a5 : Int32) (a6 : Int32) (Q : sy_M → Prop), rec M a1 a2 a3 a4 a5 a6 Q → Met l yX1_layPart vsX1_layPart ({ frames := 1 * d + 27, cells := 0, slots := 0, locals := 32 * d + 844 } : Room) (va_Pc [.ref (Y.2.1 58), .int a1, .int a2, .int a3, .int a4, .int a5, .int a6] (sy_pre Y NX EX tfX sz M)) (sy_QV Y NX EX sz Q) 0 0 (sy_A NX Y.2.1 sz)) {Q : sy_M → Prop} {K_44 : sy_M → Int32 → Int32 → Int32 → Int32 → Int32 → Int32 → Int32 → Int32 → Int32 → Int32 → Prop} (hK_44 : ∀ (M : sy_M) (x1 : Int32) (x2 : Int32) (x3 : Int32) (x4 : Int32) (x5 : Int32) (x6 : Int32) (x7 : Int32) (x8 : Int32) (x9 : Int32) (x10 : Int32) (H : Heap) (locs : List Loc) (ls : Array Slot), K_44 M x1 x2 x3 x4 x5 x6 x7 x8 x9 x10 → sy_H Y NX EX s H locs M → lv_has ls 13 [(0, .ref (Y.2.1 58)), (1, .int x1), (2, .int x2), (3, .int x3), (4, .int x4), (5, .int x5), (6, .int x6), (7, .int x7), (8, .int x8), (9, .int x9), (10, .int x10)] → W p l e ({ frames := 1 * (d + 1) + 27, cells := 0, slots := 0, locals := 32 * (d + 1) + 844 } : Room) s m args below meth c H locs 0 0 (sy_ZV below args s Y NX EX Q) (F0 m 44 ls [])) :
    ∀ (M : sy_M) (x1 : Int32) (x2 : Int32) (x3 : Int32) (x4 : Int32) (x5 : Int32) (x6 : Int32) (x7 : Int32) (x8 : Int32) (x9 : Int32) (x10 : Int32) (H : Heap) (locs : List Loc) (ls : Array Slot), wX1_layPart_84 rec K_44 Q M x1 x2 x3 x4 x5 x6 x7 x8 x9 x10 → sy_H Y NX EX s H locs M → lv_has ls 13 [(0, .ref (Y.2.1 58)), (1, .int x1), (2, .int x2), (3, .int x3), (4, .int x4), (5, .int x5), (6, .int x6), (7, .int x7), (8, .int x8), (9, .int x9), (10, .int x10)] → W p l e ({ frames := 1 * (d + 1) + 27, cells := 0, slots := 0, locals := 32 * (d + 1) + 844 } : Room) s m args below meth c H locs 0 0 (sy_ZV below args s Y NX EX Q) (F0 m 84 ls []) := by
  have hx := C.1.1
  have hb := C.1.2.1
  intro M x1 x2 x3 x4 x5 x6 x7 x8 x9 x10 H locs ls hq hh hl
  unfold wX1_layPart_84 at hq
  refine lv_aload_n hx hb dX1_layPart_84 rfl (lv_at hl 0 rfl) ?_
  refine lv_iload_n hx hb dX1_layPart_85 rfl (lv_at hl 1 rfl) ?_
  refine lv_iload hx hb dX1_layPart_86 (lv_at hl 10 rfl) ?_
  refine lv_iload_n hx hb dX1_layPart_88 rfl (lv_at hl 2 rfl) ?_
  refine lv_iload hx hb dX1_layPart_89 (lv_at hl 6 rfl) ?_
  refine lv_iload hx hb dX1_layPart_91 (lv_at hl 5 rfl) ?_
  refine lv_iload hx hb dX1_layPart_93 (lv_at hl 7 rfl) ?_
  refine sy_cIV C hh (As := [.int x1, .int x10, .int x2, .int x6, .int x5, .int x7]) (rest := []) 58 (by decide) (oX_58 Y) rfl (mX1_worstOfCut (fun sz M => mX1_leastWorst l Y 9 sz M) _ M x1 x10 x2 x6 x5 x7 _ hq) (cwV 6 C.1.2.2.2.2 (sy_goodV uX_good uX_59 uX_60 uX_61 uX_62 uX_63 _) rfl rfl rfl hdX1_worstOfCut ⟨by dsimp only; omega, by dsimp only; omega⟩) rfl hl.1 rfl (Nat.le_of_ble_eq_true rfl) dX1_layPart_95 (fun r7 M6 H locs hq hh => ?_)
  refine lv_istore (lv' := [(12, .int r7), (0, .ref (Y.2.1 58)), (1, .int x1), (2, .int x2), (3, .int x3), (4, .int x4), (5, .int x5), (6, .int x6), (7, .int x7), (8, .int x8), (9, .int x9), (10, .int x10)]) hx hb dX1_layPart_98 hl (by decide) rfl (fun ls hl => ?_)
  refine lv_iload hx hb dX1_layPart_100 (lv_at hl 0 rfl) ?_
  refine lv_iload hx hb dX1_layPart_102 (lv_at hl 8 rfl) ?_
  refine lv_icmp_ge (tgt := 118) hx hb dX1_layPart_104 (by decide) (fun c8 => ?_) (fun c8 => ?_)
  · have hq := hq.1 c8
    refine lv_iinc (v := (x10 + (1 : Int32))) (lv' := [(10, .int (x10 + (1 : Int32))), (12, .int r7), (0, .ref (Y.2.1 58)), (1, .int x1), (2, .int x2), (3, .int x3), (4, .int x4), (5, .int x5), (6, .int x6), (7, .int x7), (8, .int x8), (9, .int x9)]) hx hb dX1_layPart_118 hl (k := 11) rfl (sy_inc (by decide)) (by decide) rfl (fun ls hl => ?_)
    refine lv_goto (tgt := 44) hx hb dX1_layPart_121 (by decide) ?_
    exact hK_44 M6 x1 x2 x3 x4 x5 x6 x7 x8 x9 (x10 + (1 : Int32)) _ _ _ hq hh (lv_sub hl [2, 3, 4, 5, 6, 7, 8, 9, 10, 11, 0] rfl)
  · have hq := hq.2 c8
    refine lv_iload hx hb dX1_layPart_107 (lv_at hl 0 rfl) ?_
    refine lv_istore (lv' := [(7, .int r7), (12, .int r7), (0, .ref (Y.2.1 58)), (1, .int x1), (2, .int x2), (3, .int x3), (4, .int x4), (5, .int x5), (6, .int x6), (8, .int x8), (9, .int x9), (10, .int x10)]) hx hb dX1_layPart_109 hl (by decide) rfl (fun ls hl => ?_)
    refine lv_iload hx hb dX1_layPart_111 (lv_at hl 11 rfl) ?_
    refine lv_istore (lv' := [(8, .int x10), (7, .int r7), (12, .int r7), (0, .ref (Y.2.1 58)), (1, .int x1), (2, .int x2), (3, .int x3), (4, .int x4), (5, .int x5), (6, .int x6), (9, .int x9), (10, .int x10)]) hx hb dX1_layPart_113 hl (by decide) rfl (fun ls hl => ?_)
    refine lv_iconst (v := (1 : Int32)) hx hb dX1_layPart_115 (by decide) ?_
    refine lv_istore (lv' := [(9, .int (1 : Int32)), (8, .int x10), (7, .int r7), (12, .int r7), (0, .ref (Y.2.1 58)), (1, .int x1), (2, .int x2), (3, .int x3), (4, .int x4), (5, .int x5), (6, .int x6), (10, .int x10)]) hx hb dX1_layPart_116 hl (by decide) rfl (fun ls hl => ?_)
    refine lv_iinc (v := (x10 + (1 : Int32))) (lv' := [(10, .int (x10 + (1 : Int32))), (9, .int (1 : Int32)), (8, .int x10), (7, .int r7), (12, .int r7), (0, .ref (Y.2.1 58)), (1, .int x1), (2, .int x2), (3, .int x3), (4, .int x4), (5, .int x5), (6, .int x6)]) hx hb dX1_layPart_118 hl (k := 11) rfl (sy_inc (by decide)) (by decide) rfl (fun ls hl => ?_)
    refine lv_goto (tgt := 44) hx hb dX1_layPart_121 (by decide) ?_
    exact hK_44 M6 x1 x2 x3 x4 x5 x6 r7 x10 (1 : Int32) (x10 + (1 : Int32)) _ _ _ hq hh (lv_sub hl [5, 6, 7, 8, 9, 10, 11, 3, 2, 1, 0] rfl)

set_option maxHeartbeats 4000000 in
set_option maxRecDepth 100000 in
theorem kX1_layPart_44 (C : sy_C p m c cX1_layPart 13 s args vsX1_layPart RX1 meth none Y NX tfX) {rec : sy_M → Int32 → Int32 → Int32 → Int32 → Int32 → Int32 → (sy_M → Prop) → Prop} {d : Nat} (hrec : ∀ (sz : Nat) (M : sy_M) (a1 : Int32) (a2 : Int32) (a3 : Int32) (a4 : Int32) (a5 : Int32) (a6 : Int32) (Q : sy_M → Prop), rec M a1 a2 a3 a4 a5 a6 Q → Met l yX1_layPart vsX1_layPart ({ frames := 1 * d + 27, cells := 0, slots := 0, locals := 32 * d + 844 } : Room) (va_Pc [.ref (Y.2.1 58), .int a1, .int a2, .int a3, .int a4, .int a5, .int a6] (sy_pre Y NX EX tfX sz M)) (sy_QV Y NX EX sz Q) 0 0 (sy_A NX Y.2.1 sz)) {Q : sy_M → Prop} {K_124 : sy_M → Int32 → Int32 → Int32 → Int32 → Int32 → Int32 → Int32 → Int32 → Prop} (hK_124 : ∀ (M : sy_M) (x1 : Int32) (x2 : Int32) (x3 : Int32) (x4 : Int32) (x5 : Int32) (x6 : Int32) (x8 : Int32) (x9 : Int32) (H : Heap) (locs : List Loc) (ls : Array Slot), K_124 M x1 x2 x3 x4 x5 x6 x8 x9 → sy_H Y NX EX s H locs M → lv_has ls 13 [(0, .ref (Y.2.1 58)), (1, .int x1), (2, .int x2), (3, .int x3), (4, .int x4), (5, .int x5), (6, .int x6), (8, .int x8), (9, .int x9)] → W p l e ({ frames := 1 * (d + 1) + 27, cells := 0, slots := 0, locals := 32 * (d + 1) + 844 } : Room) s m args below meth c H locs 0 0 (sy_ZV below args s Y NX EX Q) (F0 m 124 ls [])) :
    ∀ (n : Nat) (M : sy_M) (x1 : Int32) (x2 : Int32) (x3 : Int32) (x4 : Int32) (x5 : Int32) (x6 : Int32) (x7 : Int32) (x8 : Int32) (x9 : Int32) (x10 : Int32) (H : Heap) (locs : List Loc) (ls : Array Slot), wX1_layPart_44 rec K_124 Q n M x1 x2 x3 x4 x5 x6 x7 x8 x9 x10 → sy_H Y NX EX s H locs M → lv_has ls 13 [(0, .ref (Y.2.1 58)), (1, .int x1), (2, .int x2), (3, .int x3), (4, .int x4), (5, .int x5), (6, .int x6), (7, .int x7), (8, .int x8), (9, .int x9), (10, .int x10)] → W p l e ({ frames := 1 * (d + 1) + 27, cells := 0, slots := 0, locals := 32 * (d + 1) + 844 } : Room) s m args below meth c H locs 0 0 (sy_ZV below args s Y NX EX Q) (F0 m 44 ls []) := by
  have hx := C.1.1
  have hb := C.1.2.1
  intro n
  induction n with
  | zero =>
    intro M x1 x2 x3 x4 x5 x6 x7 x8 x9 x10 H locs ls hq hh hl
    unfold wX1_layPart_44 at hq
    exact hq.elim
  | succ n ih =>
    intro M x1 x2 x3 x4 x5 x6 x7 x8 x9 x10 H locs ls hq hh hl
    unfold wX1_layPart_44 at hq
    refine lv_iload hx hb dX1_layPart_44 (lv_at hl 10 rfl) ?_
    refine lv_iload_n hx hb dX1_layPart_46 rfl (lv_at hl 2 rfl) ?_
    refine lv_icmp_ge (tgt := 124) hx hb dX1_layPart_47 (by decide) (fun c2 => ?_) (fun c2 => ?_)
    · have hq := hq.1 c2
      exact hK_124 M x1 x2 x3 x4 x5 x6 x8 x9 _ _ _ hq hh (lv_sub hl [0, 1, 2, 3, 4, 5, 6, 8, 9] rfl)
    · have hq := hq.2 c2
      refine lv_aload_n hx hb dX1_layPart_50 rfl (lv_at hl 0 rfl) ?_
      refine lv_iload_n hx hb dX1_layPart_51 rfl (lv_at hl 1 rfl) ?_
      refine lv_iload hx hb dX1_layPart_52 (lv_at hl 10 rfl) ?_
      refine lv_iload_n hx hb dX1_layPart_54 rfl (lv_at hl 2 rfl) ?_
      refine lv_iload hx hb dX1_layPart_55 (lv_at hl 5 rfl) ?_
      refine lv_iload hx hb dX1_layPart_57 (lv_at hl 6 rfl) ?_
      refine lv_iload hx hb dX1_layPart_59 (lv_at hl 7 rfl) ?_
      refine sy_cIV C hh (As := [.int x1, .int x10, .int x2, .int x5, .int x6, .int x7]) (rest := []) 58 (by decide) (oX_58 Y) rfl (mX1_worstOfCut (fun sz M => mX1_leastWorst l Y 9 sz M) _ M x1 x10 x2 x5 x6 x7 _ hq) (cwV 6 C.1.2.2.2.2 (sy_goodV uX_good uX_59 uX_60 uX_61 uX_62 uX_63 _) rfl rfl rfl hdX1_worstOfCut ⟨by dsimp only; omega, by dsimp only; omega⟩) rfl hl.1 rfl (Nat.le_of_ble_eq_true rfl) dX1_layPart_61 (fun r4 M3 H locs hq hh => ?_)
      refine lv_istore (lv' := [(11, .int r4), (0, .ref (Y.2.1 58)), (1, .int x1), (2, .int x2), (3, .int x3), (4, .int x4), (5, .int x5), (6, .int x6), (7, .int x7), (8, .int x8), (9, .int x9), (10, .int x10)]) hx hb dX1_layPart_64 hl (by decide) rfl (fun ls hl => ?_)
      refine lv_iload hx hb dX1_layPart_66 (lv_at hl 0 rfl) ?_
      refine lv_iload hx hb dX1_layPart_68 (lv_at hl 8 rfl) ?_
      refine lv_icmp_ge (tgt := 84) hx hb dX1_layPart_70 (by decide) (fun c5 => ?_) (fun c5 => ?_)
      · have hq := hq.1 c5
        refine kX1_layPart_84 C hrec (fun M9 x1_10 x2_11 x3_12 x4_13 x5_14 x6_15 x7_16 x8_17 x9_18 x10_19 H locs ls hq hh hl => ?_) M3 x1 x2 x3 x4 x5 x6 x7 x8 x9 x10 _ _ _ hq hh (lv_sub hl [1, 2, 3, 4, 5, 6, 7, 8, 9, 10, 11] rfl)
        · exact ih M9 x1_10 x2_11 x3_12 x4_13 x5_14 x6_15 x7_16 x8_17 x9_18 x10_19 _ _ _ hq hh (lv_sub hl [0, 1, 2, 3, 4, 5, 6, 7, 8, 9, 10] rfl)
      · have hq := hq.2 c5
        refine lv_iload hx hb dX1_layPart_73 (lv_at hl 0 rfl) ?_
        refine lv_istore (lv' := [(7, .int r4), (11, .int r4), (0, .ref (Y.2.1 58)), (1, .int x1), (2, .int x2), (3, .int x3), (4, .int x4), (5, .int x5), (6, .int x6), (8, .int x8), (9, .int x9), (10, .int x10)]) hx hb dX1_layPart_75 hl (by decide) rfl (fun ls hl => ?_)
        refine lv_iload hx hb dX1_layPart_77 (lv_at hl 11 rfl) ?_
        refine lv_istore (lv' := [(8, .int x10), (7, .int r4), (11, .int r4), (0, .ref (Y.2.1 58)), (1, .int x1), (2, .int x2), (3, .int x3), (4, .int x4), (5, .int x5), (6, .int x6), (9, .int x9), (10, .int x10)]) hx hb dX1_layPart_79 hl (by decide) rfl (fun ls hl => ?_)
        refine lv_iconst (v := (0 : Int32)) hx hb dX1_layPart_81 (by decide) ?_
        refine lv_istore (lv' := [(9, .int (0 : Int32)), (8, .int x10), (7, .int r4), (11, .int r4), (0, .ref (Y.2.1 58)), (1, .int x1), (2, .int x2), (3, .int x3), (4, .int x4), (5, .int x5), (6, .int x6), (10, .int x10)]) hx hb dX1_layPart_82 hl (by decide) rfl (fun ls hl => ?_)
        refine kX1_layPart_84 C hrec (fun M20 x1_21 x2_22 x3_23 x4_24 x5_25 x6_26 x7_27 x8_28 x9_29 x10_30 H locs ls hq hh hl => ?_) M3 x1 x2 x3 x4 x5 x6 r4 x10 (0 : Int32) x10 _ _ _ hq hh (lv_sub hl [4, 5, 6, 7, 8, 9, 10, 2, 1, 0, 11] rfl)
        · exact ih M20 x1_21 x2_22 x3_23 x4_24 x5_25 x6_26 x7_27 x8_28 x9_29 x10_30 _ _ _ hq hh (lv_sub hl [0, 1, 2, 3, 4, 5, 6, 7, 8, 9, 10] rfl)

set_option maxHeartbeats 4000000 in
set_option maxRecDepth 100000 in
theorem kX1_layPart_136 (C : sy_C p m c cX1_layPart 13 s args vsX1_layPart RX1 meth none Y NX tfX) {rec : sy_M → Int32 → Int32 → Int32 → Int32 → Int32 → Int32 → (sy_M → Prop) → Prop} {d : Nat} (hrec : ∀ (sz : Nat) (M : sy_M) (a1 : Int32) (a2 : Int32) (a3 : Int32) (a4 : Int32) (a5 : Int32) (a6 : Int32) (Q : sy_M → Prop), rec M a1 a2 a3 a4 a5 a6 Q → Met l yX1_layPart vsX1_layPart ({ frames := 1 * d + 27, cells := 0, slots := 0, locals := 32 * d + 844 } : Room) (va_Pc [.ref (Y.2.1 58), .int a1, .int a2, .int a3, .int a4, .int a5, .int a6] (sy_pre Y NX EX tfX sz M)) (sy_QV Y NX EX sz Q) 0 0 (sy_A NX Y.2.1 sz)) {Q : sy_M → Prop} :
    ∀ (M : sy_M) (x1 : Int32) (x2 : Int32) (x3 : Int32) (x4 : Int32) (x5 : Int32) (x6 : Int32) (x8 : Int32) (x9 : Int32) (s0 : Int32) (H : Heap) (locs : List Loc) (ls : Array Slot), wX1_layPart_136 rec Q M x1 x2 x3 x4 x5 x6 x8 x9 s0 → sy_H Y NX EX s H locs M → lv_has ls 13 [(0, .ref (Y.2.1 58)), (1, .int x1), (2, .int x2), (3, .int x3), (4, .int x4), (5, .int x5), (6, .int x6), (8, .int x8), (9, .int x9)] → W p l e ({ frames := 1 * (d + 1) + 27, cells := 0, slots := 0, locals := 32 * (d + 1) + 844 } : Room) s m args below meth c H locs 0 0 (sy_ZV below args s Y NX EX Q) (F0 m 136 ls [.int s0]) := by
  have hx := C.1.1
  have hb := C.1.2.1
  intro M x1 x2 x3 x4 x5 x6 x8 x9 s0 H locs ls hq hh hl
  unfold wX1_layPart_136 at hq
  refine lv_aload_n hx hb dX1_layPart_136 rfl (lv_at hl 0 rfl) ?_
  obtain ⟨e41, hq⟩ := hq
  refine sy_get C hh (fun w h => mc (uX_fX1 w h)) 58 (by decide) (oX_58 Y) rfl 0 (by decide) (index := 9) (mc uX_51) (v := .ref (Y.2.1 28)) (sy_rf_of e41 (by decide)) dX1_layPart_137 ?_
  refine lv_iload_n hx hb dX1_layPart_140 rfl (lv_at hl 1 rfl) ?_
  refine lv_iload hx hb dX1_layPart_141 (lv_at hl 7 rfl) ?_
  refine sy_cIV C hh (As := [.int x1, .int x8]) (rest := [.int s0]) 28 (by decide) (oX_28 Y) rfl (mX3_sum l Y _ M x1 x8 _ hq) (cwV 2 C.1.2.2.2.2 (sy_goodV uX_good uX_55 uX_56 uX_57 uX_58 uX_48 _) rfl rfl rfl hdX3_sum ⟨by dsimp only; omega, by dsimp only; omega⟩) rfl hl.1 rfl (Nat.le_of_ble_eq_true rfl) dX1_layPart_143 (fun r43 M42 H locs hq hh => ?_)
  refine lv_aload_n hx hb dX1_layPart_146 rfl (lv_at hl 0 rfl) ?_
  obtain ⟨e44, hq⟩ := hq
  refine sy_get C hh (fun w h => mc (uX_fX1 w h)) 58 (by decide) (oX_58 Y) rfl 0 (by decide) (index := 9) (mc uX_51) (v := .ref (Y.2.1 28)) (sy_rf_of e44 (by decide)) dX1_layPart_147 ?_
  refine lv_iload_n hx hb dX1_layPart_150 rfl (lv_at hl 1 rfl) ?_
  refine lv_iload_n hx hb dX1_layPart_151 rfl (lv_at hl 2 rfl) ?_
  refine sy_cIV C hh (As := [.int x1, .int x2]) (rest := [.int r43, .int s0]) 28 (by decide) (oX_28 Y) rfl (mX3_sum l Y _ M42 x1 x2 _ hq) (cwV 2 C.1.2.2.2.2 (sy_goodV uX_good uX_55 uX_56 uX_57 uX_58 uX_48 _) rfl rfl rfl hdX3_sum ⟨by dsimp only; omega, by dsimp only; omega⟩) rfl hl.1 rfl (Nat.le_of_ble_eq_true rfl) dX1_layPart_152 (fun r46 M45 H locs hq hh => ?_)
  refine sy_cIN C hh (As := [.int s0, .int r43, .int r46]) (rest := []) (mX11_share l Y _ M45 s0 r43 r46 _ hq) ⟨va_cnB 3 C.1.2.2.2.2 (sy_goodN uX_good uX_50 _) rfl rfl rfl (C.2.1.2.1 ("AreaSetter$Cutter", 61, yX11_share) (by simp)) (C.1.2.2.2.2 _ (mc uX_47)) hdX11_share.2 ⟨by dsimp only; omega, by dsimp only; omega⟩, C.1.2.2.2.2 _ (mc uX_65), trivial⟩ rfl hl.1 rfl (Nat.le_of_ble_eq_true rfl) dX1_layPart_155 (fun r48 M47 H locs hq hh => ?_)
  refine lv_istore (lv' := [(10, .int r48), (0, .ref (Y.2.1 58)), (1, .int x1), (2, .int x2), (3, .int x3), (4, .int x4), (5, .int x5), (6, .int x6), (8, .int x8), (9, .int x9)]) hx hb dX1_layPart_158 hl (by decide) rfl (fun ls hl => ?_)
  refine lv_iload hx hb dX1_layPart_160 (lv_at hl 9 rfl) ?_
  refine lv_if_eq (tgt := 202) hx hb dX1_layPart_162 (by decide) (fun c49 => ?_) (fun c49 => ?_)
  · have hq := hq.1 c49
    refine lv_aload_n hx hb dX1_layPart_202 rfl (lv_at hl 1 rfl) ?_
    refine lv_iload_n hx hb dX1_layPart_203 rfl (lv_at hl 2 rfl) ?_
    refine lv_iload hx hb dX1_layPart_204 (lv_at hl 8 rfl) ?_
    refine lv_iload_n hx hb dX1_layPart_206 rfl (lv_at hl 4 rfl) ?_
    refine lv_iload hx hb dX1_layPart_207 (lv_at hl 5 rfl) ?_
    refine lv_iload hx hb dX1_layPart_209 (lv_at hl 0 rfl) ?_
    refine lv_iload hx hb dX1_layPart_211 (lv_at hl 7 rfl) ?_
    refine sy_cVV C hh (As := [.int x1, .int x8, .int x3, .int x4, .int r48, .int x6]) (rest := []) 58 (by decide) (oX_58 Y) rfl (hrec _ M47 x1 x8 x3 x4 r48 x6 _ hq) (cwV 6 C.1.2.2.2.2 (sy_goodV uX_good uX_76 uX_77 uX_78 uX_62 uX_79 _) rfl rfl rfl hdX1_layPart ⟨by dsimp only; omega, by dsimp only; omega⟩) rfl hl.1 rfl (Nat.le_of_ble_eq_true rfl) dX1_layPart_213 (fun M50 H locs hq hh => ?_)
    refine lv_aload_n hx hb dX1_layPart_216 rfl (lv_at hl 1 rfl) ?_
    refine lv_iload hx hb dX1_layPart_217 (lv_at hl 8 rfl) ?_
    refine lv_iload_n hx hb dX1_layPart_219 rfl (lv_at hl 3 rfl) ?_
    refine lv_iload_n hx hb dX1_layPart_220 rfl (lv_at hl 4 rfl) ?_
    refine lv_iload hx hb dX1_layPart_221 (lv_at hl 0 rfl) ?_
    refine lv_iadd hx hb dX1_layPart_223 ?_
    refine lv_iload hx hb dX1_layPart_224 (lv_at hl 5 rfl) ?_
    refine lv_iload hx hb dX1_layPart_226 (lv_at hl 6 rfl) ?_
    refine lv_iload hx hb dX1_layPart_228 (lv_at hl 0 rfl) ?_
    refine lv_isub hx hb dX1_layPart_230 ?_
    refine lv_iload hx hb dX1_layPart_231 (lv_at hl 7 rfl) ?_
    refine sy_cVV C hh (As := [.int x8, .int x2, .int (x3 + r48), .int x4, .int (x5 - r48), .int x6]) (rest := []) 58 (by decide) (oX_58 Y) rfl (hrec _ M50 x8 x2 (x3 + r48) x4 (x5 - r48) x6 _ hq) (cwV 6 C.1.2.2.2.2 (sy_goodV uX_good uX_76 uX_77 uX_78 uX_62 uX_79 _) rfl rfl rfl hdX1_layPart ⟨by dsimp only; omega, by dsimp only; omega⟩) rfl hl.1 rfl (Nat.le_of_ble_eq_true rfl) dX1_layPart_233 (fun M51 H locs hq hh => ?_)
    exact sy_vret C hh dX1_layPart_236 hq
  · have hq := hq.2 c49
    refine lv_aload_n hx hb dX1_layPart_165 rfl (lv_at hl 1 rfl) ?_
    refine lv_iload_n hx hb dX1_layPart_166 rfl (lv_at hl 2 rfl) ?_
    refine lv_iload hx hb dX1_layPart_167 (lv_at hl 8 rfl) ?_
    refine lv_iload_n hx hb dX1_layPart_169 rfl (lv_at hl 4 rfl) ?_
    refine lv_iload hx hb dX1_layPart_170 (lv_at hl 5 rfl) ?_
    refine lv_iload hx hb dX1_layPart_172 (lv_at hl 6 rfl) ?_
    refine lv_iload hx hb dX1_layPart_174 (lv_at hl 0 rfl) ?_
    refine sy_cVV C hh (As := [.int x1, .int x8, .int x3, .int x4, .int x5, .int r48]) (rest := []) 58 (by decide) (oX_58 Y) rfl (hrec _ M47 x1 x8 x3 x4 x5 r48 _ hq) (cwV 6 C.1.2.2.2.2 (sy_goodV uX_good uX_76 uX_77 uX_78 uX_62 uX_79 _) rfl rfl rfl hdX1_layPart ⟨by dsimp only; omega, by dsimp only; omega⟩) rfl hl.1 rfl (Nat.le_of_ble_eq_true rfl) dX1_layPart_176 (fun M52 H locs hq hh => ?_)
    refine lv_aload_n hx hb dX1_layPart_179 rfl (lv_at hl 1 rfl) ?_
    refine lv_iload hx hb dX1_layPart_180 (lv_at hl 8 rfl) ?_
    refine lv_iload_n hx hb dX1_layPart_182 rfl (lv_at hl 3 rfl) ?_
    refine lv_iload_n hx hb dX1_layPart_183 rfl (lv_at hl 4 rfl) ?_
    refine lv_iload hx hb dX1_layPart_184 (lv_at hl 5 rfl) ?_
    refine lv_iload hx hb dX1_layPart_186 (lv_at hl 0 rfl) ?_
    refine lv_iadd hx hb dX1_layPart_188 ?_
    refine lv_iload hx hb dX1_layPart_189 (lv_at hl 6 rfl) ?_
    refine lv_iload hx hb dX1_layPart_191 (lv_at hl 7 rfl) ?_
    refine lv_iload hx hb dX1_layPart_193 (lv_at hl 0 rfl) ?_
    refine lv_isub hx hb dX1_layPart_195 ?_
    refine sy_cVV C hh (As := [.int x8, .int x2, .int x3, .int (x4 + r48), .int x5, .int (x6 - r48)]) (rest := []) 58 (by decide) (oX_58 Y) rfl (hrec _ M52 x8 x2 x3 (x4 + r48) x5 (x6 - r48) _ hq) (cwV 6 C.1.2.2.2.2 (sy_goodV uX_good uX_76 uX_77 uX_78 uX_62 uX_79 _) rfl rfl rfl hdX1_layPart ⟨by dsimp only; omega, by dsimp only; omega⟩) rfl hl.1 rfl (Nat.le_of_ble_eq_true rfl) dX1_layPart_196 (fun M53 H locs hq hh => ?_)
    refine lv_goto (tgt := 236) hx hb dX1_layPart_199 (by decide) ?_
    exact sy_vret C hh dX1_layPart_236 hq

end
set_option maxHeartbeats 4000000 in
set_option maxRecDepth 100000 in
theorem mX1_layPart_b {l : Launch} {Y : sy_Y} {rec : sy_M → Int32 → Int32 → Int32 → Int32 → Int32 → Int32 → (sy_M → Prop) → Prop} {d : Nat} (hrec : ∀ (sz : Nat) (M : sy_M) (a1 : Int32) (a2 : Int32) (a3 : Int32) (a4 : Int32) (a5 : Int32) (a6 : Int32) (Q : sy_M → Prop), rec M a1 a2 a3 a4 a5 a6 Q → Met l yX1_layPart vsX1_layPart ({ frames := 1 * d + 27, cells := 0, slots := 0, locals := 32 * d + 844 } : Room) (va_Pc [.ref (Y.2.1 58), .int a1, .int a2, .int a3, .int a4, .int a5, .int a6] (sy_pre Y NX EX tfX sz M)) (sy_QV Y NX EX sz Q) 0 0 (sy_A NX Y.2.1 sz)) (sz : Nat) (M : sy_M) (a1 : Int32) (a2 : Int32) (a3 : Int32) (a4 : Int32) (a5 : Int32) (a6 : Int32) (Q : sy_M → Prop) (hq : wX1_layPart_b rec M a1 a2 a3 a4 a5 a6 Q) : Met l yX1_layPart vsX1_layPart ({ frames := 1 * (d + 1) + 27, cells := 0, slots := 0, locals := 32 * (d + 1) + 844 } : Room) (va_Pc [.ref (Y.2.1 58), .int a1, .int a2, .int a3, .int a4, .int a5, .int a6] (sy_pre Y NX EX tfX sz M)) (sy_QV Y NX EX sz Q) 0 0 (sy_A NX Y.2.1 sz) := by
  refine sy_metV (by decide) rfl (Nat.le_of_ble_eq_true rfl) ?_
  intro p e s m args below meth c C ls hl hh
  have hx := C.1.1
  have hb := C.1.2.1
  have hl : lv_has ls 13 [(0, .ref (Y.2.1 58)), (1, .int a1), (2, .int a2), (3, .int a3), (4, .int a4), (5, .int a5), (6, .int a6)] := hl
  unfold wX1_layPart_b at hq
  refine lv_iload_n hx hb dX1_layPart_0 rfl (lv_at hl 2 rfl) ?_
  refine lv_iload_n hx hb dX1_layPart_1 rfl (lv_at hl 1 rfl) ?_
  refine lv_isub hx hb dX1_layPart_2 ?_
  refine lv_iconst (v := (1 : Int32)) hx hb dX1_layPart_3 (by decide) ?_
  refine lv_icmp_gt (tgt := 27) hx hb dX1_layPart_4 (by decide) (fun c1 => ?_) (fun c1 => ?_)
  · have hq := hq.1 c1
    refine lv_ldc (v := (nI 2147483647)) hx hb C.1.2.2.2.1 (C.1.2.2.2.2 (.constant RX1 52 (nI 2147483647)) (mc uX_71)) dX1_layPart_27 ?_
    refine lv_istore (lv' := [(7, .int (nI 2147483647)), (0, .ref (Y.2.1 58)), (1, .int a1), (2, .int a2), (3, .int a3), (4, .int a4), (5, .int a5), (6, .int a6)]) hx hb dX1_layPart_29 hl (by decide) rfl (fun ls hl => ?_)
    refine lv_iload_n hx hb dX1_layPart_31 rfl (lv_at hl 2 rfl) ?_
    refine lv_iconst (v := (1 : Int32)) hx hb dX1_layPart_32 (by decide) ?_
    refine lv_iadd hx hb dX1_layPart_33 ?_
    refine lv_istore (lv' := [(8, .int (a1 + (1 : Int32))), (7, .int (nI 2147483647)), (0, .ref (Y.2.1 58)), (1, .int a1), (2, .int a2), (3, .int a3), (4, .int a4), (5, .int a5), (6, .int a6)]) hx hb dX1_layPart_34 hl (by decide) rfl (fun ls hl => ?_)
    refine lv_iconst (v := (0 : Int32)) hx hb dX1_layPart_36 (by decide) ?_
    refine lv_istore (lv' := [(9, .int (0 : Int32)), (8, .int (a1 + (1 : Int32))), (7, .int (nI 2147483647)), (0, .ref (Y.2.1 58)), (1, .int a1), (2, .int a2), (3, .int a3), (4, .int a4), (5, .int a5), (6, .int a6)]) hx hb dX1_layPart_37 hl (by decide) rfl (fun ls hl => ?_)
    refine lv_iload_n hx hb dX1_layPart_39 rfl (lv_at hl 4 rfl) ?_
    refine lv_iconst (v := (1 : Int32)) hx hb dX1_layPart_40 (by decide) ?_
    refine lv_iadd hx hb dX1_layPart_41 ?_
    refine lv_istore (lv' := [(10, .int (a1 + (1 : Int32))), (9, .int (0 : Int32)), (8, .int (a1 + (1 : Int32))), (7, .int (nI 2147483647)), (0, .ref (Y.2.1 58)), (1, .int a1), (2, .int a2), (3, .int a3), (4, .int a4), (5, .int a5), (6, .int a6)]) hx hb dX1_layPart_42 hl (by decide) rfl (fun ls hl => ?_)
    obtain ⟨n54, hq⟩ := hq
    refine kX1_layPart_44 C hrec (fun M31 x1_32 x2_33 x3_34 x4_35 x5_36 x6_37 x8_38 x9_39 H locs ls hq hh hl => ?_) n54 M a1 a2 a3 a4 a5 a6 (nI 2147483647) (a1 + (1 : Int32)) (0 : Int32) (a1 + (1 : Int32)) _ _ _ hq hh (lv_sub hl [4, 5, 6, 7, 8, 9, 10, 3, 2, 1, 0] rfl)
    · refine lv_iload hx hb dX1_layPart_124 (lv_at hl 8 rfl) ?_
      refine lv_if_eq (tgt := 134) hx hb dX1_layPart_126 (by decide) (fun c40 => ?_) (fun c40 => ?_)
      · have hq := hq.1 c40
        refine lv_iload hx hb dX1_layPart_134 (lv_at hl 5 rfl) ?_
        refine kX1_layPart_136 C hrec  M31 x1_32 x2_33 x3_34 x4_35 x5_36 x6_37 x8_38 x9_39 x5_36 _ _ _ hq hh (lv_sub hl [0, 1, 2, 3, 4, 5, 6, 7, 8] rfl)
      · have hq := hq.2 c40
        refine lv_iload hx hb dX1_layPart_129 (lv_at hl 6 rfl) ?_
        refine lv_goto (tgt := 136) hx hb dX1_layPart_131 (by decide) ?_
        refine kX1_layPart_136 C hrec  M31 x1_32 x2_33 x3_34 x4_35 x5_36 x6_37 x8_38 x9_39 x6_37 _ _ _ hq hh (lv_sub hl [0, 1, 2, 3, 4, 5, 6, 7, 8] rfl)
  · have hq := hq.2 c1
    refine lv_aload_n hx hb dX1_layPart_7 rfl (lv_at hl 0 rfl) ?_
    obtain ⟨t55, et55, ht55, hq⟩ := hq
    refine sy_get C hh (fun w h => mc (uX_fX1 w h)) 58 (by decide) (oX_58 Y) rfl 1 (by decide) (index := 15) (mc uX_70) (v := .ref (Y.2.1 t55)) (sy_rf_of et55 (by have := iX5_lt ht55; omega)) dX1_layPart_8 ?_
    refine lv_aload_n hx hb dX1_layPart_11 rfl (lv_at hl 0 rfl) ?_
    obtain ⟨e56, hq⟩ := hq
    refine sy_get C hh (fun w h => mc (uX_fX1 w h)) 58 (by decide) (oX_58 Y) rfl 0 (by decide) (index := 9) (mc uX_51) (v := .ref (Y.2.1 28)) (sy_rf_of e56 (by decide)) dX1_layPart_12 ?_
    refine lv_iload_n hx hb dX1_layPart_15 rfl (lv_at hl 1 rfl) ?_
    refine lv_iload_n hx hb dX1_layPart_16 rfl (lv_at hl 3 rfl) ?_
    refine lv_iload hx hb dX1_layPart_17 (lv_at hl 4 rfl) ?_
    refine lv_iload hx hb dX1_layPart_19 (lv_at hl 5 rfl) ?_
    refine lv_iload hx hb dX1_layPart_21 (lv_at hl 6 rfl) ?_
    refine sy_cVV C hh (As := [.ref (Y.2.1 28), .int a1, .int a3, .int a4, .int a5, .int a6]) (rest := []) t55 (iX5_N ht55) (oX5 ht55) rfl (mX5_put l Y _ M t55 ht55 a1 a3 a4 a5 a6 _ hq) (cwV 6 C.1.2.2.2.2 (sy_goodV uX_good uX_72 uX_73 uX_74 uX_75 uX_37 _) rfl rfl rfl hdX5_put ⟨by dsimp only; omega, by dsimp only; omega⟩) rfl hl.1 rfl (Nat.le_of_ble_eq_true rfl) dX1_layPart_23 (fun M57 H locs hq hh => ?_)
    exact sy_vret C hh dX1_layPart_26 hq

set_option maxHeartbeats 4000000 in
theorem mX1_layPart (l : Launch) (Y : sy_Y) : ∀ (d : Nat) (sz : Nat) (M : sy_M) (a1 : Int32) (a2 : Int32) (a3 : Int32) (a4 : Int32) (a5 : Int32) (a6 : Int32) (Q : sy_M → Prop), wX1_layPart d M a1 a2 a3 a4 a5 a6 Q → Met l yX1_layPart vsX1_layPart ({ frames := 1 * d + 27, cells := 0, slots := 0, locals := 32 * d + 844 } : Room) (va_Pc [.ref (Y.2.1 58), .int a1, .int a2, .int a3, .int a4, .int a5, .int a6] (sy_pre Y NX EX tfX sz M)) (sy_QV Y NX EX sz Q) 0 0 (sy_A NX Y.2.1 sz)
  | 0, _, _, _, _, _, _, _, _, _, hq => by unfold wX1_layPart at hq; exact hq.elim
  | d + 1, sz, M, a1, a2, a3, a4, a5, a6, Q, hq => by
    unfold wX1_layPart at hq
    exact mX1_layPart_b (d := d) (rec := wX1_layPart d) (fun sz M => mX1_layPart l Y d sz M) sz M a1 a2 a3 a4 a5 a6 Q hq
