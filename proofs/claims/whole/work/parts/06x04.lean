/-! AreaSetter$Items.sum(II)I -/
def wX3_sum (M : sy_M) (a1 : Int32) (a2 : Int32) (Q : Int32 → sy_M → Prop) : Prop := ∃ n1 : Nat, n1 < 9 ∧ a2 = nI n1 ∧ ∃ n2 : Nat, n2 < 9 ∧ a1 = nI n2 ∧ Q ((M 31 n1) - (M 31 n2)) M
section
variable {p : Program} {l : Launch} {e : Env} {s : State} {m : MethodId} {args : Array Value} {below : List Frame} {meth : Method} {c : Code} {Y : sy_Y}
end
set_option maxHeartbeats 4000000 in
set_option maxRecDepth 100000 in
theorem mX3_sum (l : Launch) (Y : sy_Y) (sz : Nat) (M : sy_M) (a1 : Int32) (a2 : Int32) (Q : Int32 → sy_M → Prop) (hq : wX3_sum M a1 a2 Q) : Met l yX3_sum vsX3_sum ({ frames := 0, cells := 0, slots := 0, locals := 0 } : Room) (va_Pc [.ref (Y.2.1 28), .int a1, .int a2] (sy_pre Y NX EX tfX sz M)) (sy_QI Y NX EX sz Q) 0 0 (sy_A NX Y.2.1 sz) := by
  refine sy_metI (by decide) rfl (Nat.le_of_ble_eq_true rfl) ?_
  intro p e s m args below meth c C ls hl hh
  have hx := C.1.1
  have hb := C.1.2.1
  have hl : lv_has ls 3 [(0, .ref (Y.2.1 28)), (1, .int a1), (2, .int a2)] := hl
  unfold wX3_sum at hq
  refine lv_aload_n hx hb dX3_sum_0 rfl (lv_at hl 0 rfl) ?_
  refine sy_get C hh (fun w h => mc (uX_fX3 w h)) 28 (by decide) (oX_28 Y) rfl 8 (by decide) (index := 37) (mc uX_60) (v := .ref (Y.2.1 31)) rfl dX3_sum_1 ?_
  refine lv_iload_n hx hb dX3_sum_4 rfl (lv_at hl 2 rfl) ?_
  obtain ⟨n1, hn1, en1, hq⟩ := hq
  refine sy_iald C hh 31 (by decide) (aX_31 Y) tX_31 hn1 en1 (by decide) dX3_sum_5 ?_
  refine lv_aload_n hx hb dX3_sum_6 rfl (lv_at hl 0 rfl) ?_
  refine sy_get C hh (fun w h => mc (uX_fX3 w h)) 28 (by decide) (oX_28 Y) rfl 8 (by decide) (index := 37) (mc uX_60) (v := .ref (Y.2.1 31)) rfl dX3_sum_7 ?_
  refine lv_iload_n hx hb dX3_sum_10 rfl (lv_at hl 1 rfl) ?_
  obtain ⟨n2, hn2, en2, hq⟩ := hq
  refine sy_iald C hh 31 (by decide) (aX_31 Y) tX_31 hn2 en2 (by decide) dX3_sum_11 ?_
  refine lv_isub hx hb dX3_sum_12 ?_
  exact sy_iret C hh dX3_sum_13 hq

/-! AreaSetter.share(III)I -/
def wX11_share (M : sy_M) (a1 : Int32) (a2 : Int32) (a3 : Int32) (Q : Int32 → sy_M → Prop) : Prop := ((0 < a3 → (¬ (a3.toInt64) = 0) ∧ Q ((((a1.toInt64) * (a2.toInt64)) / (a3.toInt64)).toInt32) M) ∧ (¬ 0 < a3 → Q (0 : Int32) M))
section
variable {p : Program} {l : Launch} {e : Env} {s : State} {m : MethodId} {args : Array Value} {below : List Frame} {meth : Method} {c : Code} {Y : sy_Y}
end
set_option maxHeartbeats 4000000 in
set_option maxRecDepth 100000 in
theorem mX11_share (l : Launch) (Y : sy_Y) (sz : Nat) (M : sy_M) (a1 : Int32) (a2 : Int32) (a3 : Int32) (Q : Int32 → sy_M → Prop) (hq : wX11_share M a1 a2 a3 Q) : Met l yX11_share vsX11_share ({ frames := 0, cells := 0, slots := 0, locals := 0 } : Room) (va_Pc [.int a1, .int a2, .int a3] (sy_pre Y NX EX tfX sz M)) (sy_QI Y NX EX sz Q) 0 0 (sy_A NX Y.2.1 sz) := by
  refine sy_metI (by decide) rfl (Nat.le_of_ble_eq_true rfl) ?_
  intro p e s m args below meth c C ls hl hh
  have hx := C.1.1
  have hb := C.1.2.1
  have hl : lv_has ls 3 [(0, .int a1), (1, .int a2), (2, .int a3)] := hl
  unfold wX11_share at hq
  refine lv_iload_n hx hb dX11_share_0 rfl (lv_at hl 2 rfl) ?_
  refine lv_if_gt (tgt := 8) hx hb dX11_share_1 (by decide) (fun c1 => ?_) (fun c1 => ?_)
  · have hq := hq.1 c1
    refine lv_iload_n hx hb dX11_share_8 rfl (lv_at hl 0 rfl) ?_
    refine lv_i2l (v := (a1.toInt64)) hx hb dX11_share_9 rfl ?_
    refine lv_iload_n hx hb dX11_share_10 rfl (lv_at hl 1 rfl) ?_
    refine lv_i2l (v := (a2.toInt64)) hx hb dX11_share_11 rfl ?_
    refine lv_lmul hx hb dX11_share_12 ?_
    refine lv_iload_n hx hb dX11_share_13 rfl (lv_at hl 2 rfl) ?_
    refine lv_i2l (v := (a3.toInt64)) hx hb dX11_share_14 rfl ?_
    obtain ⟨e2, hq⟩ := hq
    refine lv_ldiv hx hb dX11_share_15 e2 ?_
    refine lv_l2i (v := ((((a1.toInt64) * (a2.toInt64)) / (a3.toInt64)).toInt32)) hx hb dX11_share_16 rfl ?_
    exact sy_iret C hh dX11_share_17 hq
  · have hq := hq.2 c1
    refine lv_iconst (v := (0 : Int32)) hx hb dX11_share_4 (by decide) ?_
    refine lv_goto (tgt := 17) hx hb dX11_share_5 (by decide) ?_
    exact sy_iret C hh dX11_share_17 hq

/-! AreaSetter$Cutter.worstOfCut(LAreaSetter$Items;IIIIII)I -/
def wX1_worstOfCut_117 (rec : sy_M → Int32 → Int32 → Int32 → Int32 → Int32 → (Int32 → sy_M → Prop) → Prop) (Q : Int32 → sy_M → Prop) (M : sy_M) (x9 : Int32) (s0 : Int32) : Prop := Q (imax x9 s0) M
def wX1_worstOfCut_70 (rec : sy_M → Int32 → Int32 → Int32 → Int32 → Int32 → (Int32 → sy_M → Prop) → Prop) (Q : Int32 → sy_M → Prop) (M : sy_M) (x1 : Int32) (x2 : Int32) (x3 : Int32) (x4 : Int32) (x5 : Int32) (x6 : Int32) (x7 : Int32) (x8 : Int32) (s0 : Int32) : Prop := ((s0 < x6 → ((x8 = 0 → rec M x1 x2 x7 x5 x6 (fun r14 M13 => wX1_worstOfCut_117 rec  Q M13 s0 r14)) ∧ (¬ x8 = 0 → rec M x2 x3 (x4 - x7) x5 x6 (fun r16 M15 => wX1_worstOfCut_117 rec  Q M15 s0 r16)))) ∧ (¬ s0 < x6 → Q s0 M))
def wX1_worstOfCut_33 (rec : sy_M → Int32 → Int32 → Int32 → Int32 → Int32 → (Int32 → sy_M → Prop) → Prop) (Q : Int32 → sy_M → Prop) (M : sy_M) (x1 : Int32) (x2 : Int32) (x3 : Int32) (x4 : Int32) (x5 : Int32) (x6 : Int32) (x7 : Int32) (s0 : Int32) : Prop := ((s0 = 0 → rec M x2 x3 (x4 - x7) x5 x6 (fun r10 M9 => wX1_worstOfCut_70 rec  Q M9 x1 x2 x3 x4 x5 x6 x7 s0 r10)) ∧ (¬ s0 = 0 → rec M x1 x2 x7 x5 x6 (fun r18 M17 => wX1_worstOfCut_70 rec  Q M17 x1 x2 x3 x4 x5 x6 x7 s0 r18)))
def wX1_worstOfCut (rec : sy_M → Int32 → Int32 → Int32 → Int32 → Int32 → (Int32 → sy_M → Prop) → Prop) (M : sy_M) (a2 : Int32) (a3 : Int32) (a4 : Int32) (a5 : Int32) (a6 : Int32) (a7 : Int32) (Q : Int32 → sy_M → Prop) : Prop := wX3_sum M a2 a3 (fun r2 M1 => wX3_sum M1 a2 a4 (fun r4 M3 => wX11_share M3 a5 r2 r4 (fun r6 M5 => (((a4 - a3) < (a3 - a2) → wX1_worstOfCut_33 rec  Q M5 a2 a3 a4 a5 a6 a7 r6 (0 : Int32)) ∧ (¬ (a4 - a3) < (a3 - a2) → wX1_worstOfCut_33 rec  Q M5 a2 a3 a4 a5 a6 a7 r6 (1 : Int32))))))
section
variable {p : Program} {l : Launch} {e : Env} {s : State} {m : MethodId} {args : Array Value} {below : List Frame} {meth : Method} {c : Code} {Y : sy_Y}
set_option maxHeartbeats 4000000 in
set_option maxRecDepth 100000 in
theorem kX1_worstOfCut_117 (C : sy_C p m c cX1_worstOfCut 11 s args vsX1_worstOfCut RX1 meth (some .int) Y NX tfX) {rec : sy_M → Int32 → Int32 → Int32 → Int32 → Int32 → (Int32 → sy_M → Prop) → Prop} {d : Nat} (hrec : ∀ (sz : Nat) (M : sy_M) (a2 : Int32) (a3 : Int32) (a4 : Int32) (a5 : Int32) (a6 : Int32) (Q : Int32 → sy_M → Prop), rec M a2 a3 a4 a5 a6 Q → Met l yX1_leastWorst vsX1_leastWorst ({ frames := 2 * d + 4, cells := 0, slots := 0, locals := 57 * d + 152 } : Room) (va_Pc [.ref (Y.2.1 28), .int a2, .int a3, .int a4, .int a5, .int a6] (sy_pre Y NX EX tfX sz M)) (sy_QI Y NX EX sz Q) 0 0 (sy_A NX Y.2.1 sz)) {Q : Int32 → sy_M → Prop} :
    ∀ (M : sy_M) (x9 : Int32) (s0 : Int32) (H : Heap) (locs : List Loc) (ls : Array Slot), wX1_worstOfCut_117 rec Q M x9 s0 → sy_H Y NX EX s H locs M → lv_has ls 11 [(9, .int x9)] → W p l e ({ frames := 2 * d + 5, cells := 0, slots := 0, locals := 57 * d + 179 } : Room) s m args below meth c H locs 0 0 (sy_ZI below args s Y NX EX Q) (F0 m 117 ls [.int s0]) := by
  have hx := C.1.1
  have hb := C.1.2.1
  intro M x9 s0 H locs ls hq hh hl
  unfold wX1_worstOfCut_117 at hq
  refine lv_istore (lv' := [(10, .int s0), (9, .int x9)]) hx hb dX1_worstOfCut_117 hl (by decide) rfl (fun ls hl => ?_)
  refine lv_iload hx hb dX1_worstOfCut_119 (lv_at hl 1 rfl) ?_
  refine lv_iload hx hb dX1_worstOfCut_121 (lv_at hl 0 rfl) ?_
  refine sy_mmax C hl (index := 66) (mc uX_75) (mc uX_24) (mc uX_25) (mc uX_26) (by dsimp only; omega) (by simp [Value.category] <;> omega) dX1_worstOfCut_123 ?_
  exact sy_iret C hh dX1_worstOfCut_126 hq

set_option maxHeartbeats 4000000 in
set_option maxRecDepth 100000 in
theorem kX1_worstOfCut_70 (C : sy_C p m c cX1_worstOfCut 11 s args vsX1_worstOfCut RX1 meth (some .int) Y NX tfX) {rec : sy_M → Int32 → Int32 → Int32 → Int32 → Int32 → (Int32 → sy_M → Prop) → Prop} {d : Nat} (hrec : ∀ (sz : Nat) (M : sy_M) (a2 : Int32) (a3 : Int32) (a4 : Int32) (a5 : Int32) (a6 : Int32) (Q : Int32 → sy_M → Prop), rec M a2 a3 a4 a5 a6 Q → Met l yX1_leastWorst vsX1_leastWorst ({ frames := 2 * d + 4, cells := 0, slots := 0, locals := 57 * d + 152 } : Room) (va_Pc [.ref (Y.2.1 28), .int a2, .int a3, .int a4, .int a5, .int a6] (sy_pre Y NX EX tfX sz M)) (sy_QI Y NX EX sz Q) 0 0 (sy_A NX Y.2.1 sz)) {Q : Int32 → sy_M → Prop} :
    ∀ (M : sy_M) (x1 : Int32) (x2 : Int32) (x3 : Int32) (x4 : Int32) (x5 : Int32) (x6 : Int32) (x7 : Int32) (x8 : Int32) (s0 : Int32) (H : Heap) (locs : List Loc) (ls : Array Slot), wX1_worstOfCut_70 rec Q M x1 x2 x3 x4 x5 x6 x7 x8 s0 → sy_H Y NX EX s H locs M → lv_has ls 11 [(0, .ref (Y.2.1 28)), (1, .int x1), (2, .int x2), (3, .int x3), (4, .int x4), (5, .int x5), (6, .int x6), (7, .int x7), (8, .int x8)] → W p l e ({ frames := 2 * d + 5, cells := 0, slots := 0, locals := 57 * d + 179 } : Room) s m args below meth c H locs 0 0 (sy_ZI below args s Y NX EX Q) (F0 m 70 ls [.int s0]) := by
  have hx := C.1.1
  have hb := C.1.2.1
  intro M x1 x2 x3 x4 x5 x6 x7 x8 s0 H locs ls hq hh hl
  unfold wX1_worstOfCut_70 at hq
  refine lv_istore (lv' := [(9, .int s0), (0, .ref (Y.2.1 28)), (1, .int x1), (2, .int x2), (3, .int x3), (4, .int x4), (5, .int x5), (6, .int x6), (7, .int x7), (8, .int x8)]) hx hb dX1_worstOfCut_70 hl (by decide) rfl (fun ls hl => ?_)
  refine lv_iload hx hb dX1_worstOfCut_72 (lv_at hl 0 rfl) ?_
  refine lv_iload hx hb dX1_worstOfCut_74 (lv_at hl 7 rfl) ?_
  refine lv_icmp_lt (tgt := 82) hx hb dX1_worstOfCut_76 (by decide) (fun c11 => ?_) (fun c11 => ?_)
  · have hq := hq.1 c11
    refine lv_iload hx hb dX1_worstOfCut_82 (lv_at hl 9 rfl) ?_
    refine lv_if_eq (tgt := 105) hx hb dX1_worstOfCut_84 (by decide) (fun c12 => ?_) (fun c12 => ?_)
    · have hq := hq.1 c12
      refine lv_aload_n hx hb dX1_worstOfCut_105 rfl (lv_at hl 1 rfl) ?_
      refine lv_iload_n hx hb dX1_worstOfCut_106 rfl (lv_at hl 2 rfl) ?_
      refine lv_iload_n hx hb dX1_worstOfCut_107 rfl (lv_at hl 3 rfl) ?_
      refine lv_iload hx hb dX1_worstOfCut_108 (lv_at hl 8 rfl) ?_
      refine lv_iload hx hb dX1_worstOfCut_110 (lv_at hl 6 rfl) ?_
      refine lv_iload hx hb dX1_worstOfCut_112 (lv_at hl 7 rfl) ?_
      refine sy_cIS C hh (As := [.ref (Y.2.1 28), .int x1, .int x2, .int x7, .int x5, .int x6]) (rest := []) (hrec _ M x1 x2 x7 x5 x6 _ hq) (va_cwS 6 C.1.2.2.2.2 (sy_goodS uX_good uX_77 uX_78 uX_73 uX_79 _) rfl rfl rfl hdX1_leastWorst.2 ⟨by dsimp only; omega, by dsimp only; omega⟩) rfl hl.1 rfl (Nat.le_of_ble_eq_true rfl) dX1_worstOfCut_114 (fun r14 M13 H locs hq hh => ?_)
      refine kX1_worstOfCut_117 C hrec  M13 s0 r14 _ _ _ hq hh (lv_sub hl [0] rfl)
    · have hq := hq.2 c12
      refine lv_aload_n hx hb dX1_worstOfCut_87 rfl (lv_at hl 1 rfl) ?_
      refine lv_iload_n hx hb dX1_worstOfCut_88 rfl (lv_at hl 3 rfl) ?_
      refine lv_iload_n hx hb dX1_worstOfCut_89 rfl (lv_at hl 4 rfl) ?_
      refine lv_iload hx hb dX1_worstOfCut_90 (lv_at hl 5 rfl) ?_
      refine lv_iload hx hb dX1_worstOfCut_92 (lv_at hl 8 rfl) ?_
      refine lv_isub hx hb dX1_worstOfCut_94 ?_
      refine lv_iload hx hb dX1_worstOfCut_95 (lv_at hl 6 rfl) ?_
      refine lv_iload hx hb dX1_worstOfCut_97 (lv_at hl 7 rfl) ?_
      refine sy_cIS C hh (As := [.ref (Y.2.1 28), .int x2, .int x3, .int (x4 - x7), .int x5, .int x6]) (rest := []) (hrec _ M x2 x3 (x4 - x7) x5 x6 _ hq) (va_cwS 6 C.1.2.2.2.2 (sy_goodS uX_good uX_77 uX_78 uX_73 uX_79 _) rfl rfl rfl hdX1_leastWorst.2 ⟨by dsimp only; omega, by dsimp only; omega⟩) rfl hl.1 rfl (Nat.le_of_ble_eq_true rfl) dX1_worstOfCut_99 (fun r16 M15 H locs hq hh => ?_)
      refine lv_goto (tgt := 117) hx hb dX1_worstOfCut_102 (by decide) ?_
      refine kX1_worstOfCut_117 C hrec  M15 s0 r16 _ _ _ hq hh (lv_sub hl [0] rfl)
  · have hq := hq.2 c11
    refine lv_iload hx hb dX1_worstOfCut_79 (lv_at hl 0 rfl) ?_
    exact sy_iret C hh dX1_worstOfCut_81 hq

set_option maxHeartbeats 4000000 in
set_option maxRecDepth 100000 in
theorem kX1_worstOfCut_33 (C : sy_C p m c cX1_worstOfCut 11 s args vsX1_worstOfCut RX1 meth (some .int) Y NX tfX) {rec : sy_M → Int32 → Int32 → Int32 → Int32 → Int32 → (Int32 → sy_M → Prop) → Prop} {d : Nat} (hrec : ∀ (sz : Nat) (M : sy_M) (a2 : Int32) (a3 : Int32) (a4 : Int32) (a5 : Int32) (a6 : Int32) (Q : Int32 → sy_M → Prop), rec M a2 a3 a4 a5 a6 Q → Met l yX1_leastWorst vsX1_leastWorst ({ frames := 2 * d + 4, cells := 0, slots := 0, locals := 57 * d + 152 } : Room) (va_Pc [.ref (Y.2.1 28), .int a2, .int a3, .int a4, .int a5, .int a6] (sy_pre Y NX EX tfX sz M)) (sy_QI Y NX EX sz Q) 0 0 (sy_A NX Y.2.1 sz)) {Q : Int32 → sy_M → Prop} :
    ∀ (M : sy_M) (x1 : Int32) (x2 : Int32) (x3 : Int32) (x4 : Int32) (x5 : Int32) (x6 : Int32) (x7 : Int32) (s0 : Int32) (H : Heap) (locs : List Loc) (ls : Array Slot), wX1_worstOfCut_33 rec Q M x1 x2 x3 x4 x5 x6 x7 s0 → sy_H Y NX EX s H locs M → lv_has ls 11 [(0, .ref (Y.2.1 28)), (1, .int x1), (2, .int x2), (3, .int x3), (4, .int x4), (5, .int x5), (6, .int x6), (7, .int x7)] → W p l e ({ frames := 2 * d + 5, cells := 0, slots := 0, locals := 57 * d + 179 } : Room) s m args below meth c H locs 0 0 (sy_ZI below args s Y NX EX Q) (F0 m 33 ls [.int s0]) := by
  have hx := C.1.1
  have hb := C.1.2.1
  intro M x1 x2 x3 x4 x5 x6 x7 s0 H locs ls hq hh hl
  unfold wX1_worstOfCut_33 at hq
  refine lv_istore (lv' := [(8, .int s0), (0, .ref (Y.2.1 28)), (1, .int x1), (2, .int x2), (3, .int x3), (4, .int x4), (5, .int x5), (6, .int x6), (7, .int x7)]) hx hb dX1_worstOfCut_33 hl (by decide) rfl (fun ls hl => ?_)
  refine lv_iload hx hb dX1_worstOfCut_35 (lv_at hl 0 rfl) ?_
  refine lv_if_eq (tgt := 55) hx hb dX1_worstOfCut_37 (by decide) (fun c8 => ?_) (fun c8 => ?_)
  · have hq := hq.1 c8
    refine lv_aload_n hx hb dX1_worstOfCut_55 rfl (lv_at hl 1 rfl) ?_
    refine lv_iload_n hx hb dX1_worstOfCut_56 rfl (lv_at hl 3 rfl) ?_
    refine lv_iload_n hx hb dX1_worstOfCut_57 rfl (lv_at hl 4 rfl) ?_
    refine lv_iload hx hb dX1_worstOfCut_58 (lv_at hl 5 rfl) ?_
    refine lv_iload hx hb dX1_worstOfCut_60 (lv_at hl 8 rfl) ?_
    refine lv_isub hx hb dX1_worstOfCut_62 ?_
    refine lv_iload hx hb dX1_worstOfCut_63 (lv_at hl 6 rfl) ?_
    refine lv_iload hx hb dX1_worstOfCut_65 (lv_at hl 7 rfl) ?_
    refine sy_cIS C hh (As := [.ref (Y.2.1 28), .int x2, .int x3, .int (x4 - x7), .int x5, .int x6]) (rest := []) (hrec _ M x2 x3 (x4 - x7) x5 x6 _ hq) (va_cwS 6 C.1.2.2.2.2 (sy_goodS uX_good uX_77 uX_78 uX_73 uX_79 _) rfl rfl rfl hdX1_leastWorst.2 ⟨by dsimp only; omega, by dsimp only; omega⟩) rfl hl.1 rfl (Nat.le_of_ble_eq_true rfl) dX1_worstOfCut_67 (fun r10 M9 H locs hq hh => ?_)
    refine kX1_worstOfCut_70 C hrec  M9 x1 x2 x3 x4 x5 x6 x7 s0 r10 _ _ _ hq hh (lv_sub hl [1, 2, 3, 4, 5, 6, 7, 8, 0] rfl)
  · have hq := hq.2 c8
    refine lv_aload_n hx hb dX1_worstOfCut_40 rfl (lv_at hl 1 rfl) ?_
    refine lv_iload_n hx hb dX1_worstOfCut_41 rfl (lv_at hl 2 rfl) ?_
    refine lv_iload_n hx hb dX1_worstOfCut_42 rfl (lv_at hl 3 rfl) ?_
    refine lv_iload hx hb dX1_worstOfCut_43 (lv_at hl 8 rfl) ?_
    refine lv_iload hx hb dX1_worstOfCut_45 (lv_at hl 6 rfl) ?_
    refine lv_iload hx hb dX1_worstOfCut_47 (lv_at hl 7 rfl) ?_
    refine sy_cIS C hh (As := [.ref (Y.2.1 28), .int x1, .int x2, .int x7, .int x5, .int x6]) (rest := []) (hrec _ M x1 x2 x7 x5 x6 _ hq) (va_cwS 6 C.1.2.2.2.2 (sy_goodS uX_good uX_77 uX_78 uX_73 uX_79 _) rfl rfl rfl hdX1_leastWorst.2 ⟨by dsimp only; omega, by dsimp only; omega⟩) rfl hl.1 rfl (Nat.le_of_ble_eq_true rfl) dX1_worstOfCut_49 (fun r18 M17 H locs hq hh => ?_)
    refine lv_goto (tgt := 70) hx hb dX1_worstOfCut_52 (by decide) ?_
    refine kX1_worstOfCut_70 C hrec  M17 x1 x2 x3 x4 x5 x6 x7 s0 r18 _ _ _ hq hh (lv_sub hl [1, 2, 3, 4, 5, 6, 7, 8, 0] rfl)

end
set_option maxHeartbeats 4000000 in
set_option maxRecDepth 100000 in
theorem mX1_worstOfCut {l : Launch} {Y : sy_Y} {rec : sy_M → Int32 → Int32 → Int32 → Int32 → Int32 → (Int32 → sy_M → Prop) → Prop} {d : Nat} (hrec : ∀ (sz : Nat) (M : sy_M) (a2 : Int32) (a3 : Int32) (a4 : Int32) (a5 : Int32) (a6 : Int32) (Q : Int32 → sy_M → Prop), rec M a2 a3 a4 a5 a6 Q → Met l yX1_leastWorst vsX1_leastWorst ({ frames := 2 * d + 4, cells := 0, slots := 0, locals := 57 * d + 152 } : Room) (va_Pc [.ref (Y.2.1 28), .int a2, .int a3, .int a4, .int a5, .int a6] (sy_pre Y NX EX tfX sz M)) (sy_QI Y NX EX sz Q) 0 0 (sy_A NX Y.2.1 sz)) (sz : Nat) (M : sy_M) (a2 : Int32) (a3 : Int32) (a4 : Int32) (a5 : Int32) (a6 : Int32) (a7 : Int32) (Q : Int32 → sy_M → Prop) (hq : wX1_worstOfCut rec M a2 a3 a4 a5 a6 a7 Q) : Met l yX1_worstOfCut vsX1_worstOfCut ({ frames := 2 * d + 5, cells := 0, slots := 0, locals := 57 * d + 179 } : Room) (va_Pc [.ref (Y.2.1 28), .int a2, .int a3, .int a4, .int a5, .int a6, .int a7] (sy_pre Y NX EX tfX sz M)) (sy_QI Y NX EX sz Q) 0 0 (sy_A NX Y.2.1 sz) := by
  refine sy_metI (by decide) rfl (Nat.le_of_ble_eq_true rfl) ?_
  intro p e s m args below meth c C ls hl hh
  have hx := C.1.1
  have hb := C.1.2.1
  have hl : lv_has ls 11 [(0, .ref (Y.2.1 28)), (1, .int a2), (2, .int a3), (3, .int a4), (4, .int a5), (5, .int a6), (6, .int a7)] := hl
  unfold wX1_worstOfCut at hq
  refine lv_iload hx hb dX1_worstOfCut_0 (lv_at hl 4 rfl) ?_
  refine lv_aload_n hx hb dX1_worstOfCut_2 rfl (lv_at hl 0 rfl) ?_
  refine lv_iload_n hx hb dX1_worstOfCut_3 rfl (lv_at hl 1 rfl) ?_
  refine lv_iload_n hx hb dX1_worstOfCut_4 rfl (lv_at hl 2 rfl) ?_
  refine sy_cIV C hh (As := [.int a2, .int a3]) (rest := [.int a5]) 28 (by decide) (oX_28 Y) rfl (mX3_sum l Y _ M a2 a3 _ hq) (cwV 2 C.1.2.2.2.2 (sy_goodV uX_good uX_67 uX_68 uX_69 uX_70 uX_59 _) rfl rfl rfl hdX3_sum ⟨by dsimp only; omega, by dsimp only; omega⟩) rfl hl.1 rfl (Nat.le_of_ble_eq_true rfl) dX1_worstOfCut_5 (fun r2 M1 H locs hq hh => ?_)
  refine lv_aload_n hx hb dX1_worstOfCut_8 rfl (lv_at hl 0 rfl) ?_
  refine lv_iload_n hx hb dX1_worstOfCut_9 rfl (lv_at hl 1 rfl) ?_
  refine lv_iload_n hx hb dX1_worstOfCut_10 rfl (lv_at hl 3 rfl) ?_
  refine sy_cIV C hh (As := [.int a2, .int a4]) (rest := [.int r2, .int a5]) 28 (by decide) (oX_28 Y) rfl (mX3_sum l Y _ M1 a2 a4 _ hq) (cwV 2 C.1.2.2.2.2 (sy_goodV uX_good uX_67 uX_68 uX_69 uX_70 uX_59 _) rfl rfl rfl hdX3_sum ⟨by dsimp only; omega, by dsimp only; omega⟩) rfl hl.1 rfl (Nat.le_of_ble_eq_true rfl) dX1_worstOfCut_11 (fun r4 M3 H locs hq hh => ?_)
  refine sy_cIN C hh (As := [.int a5, .int r2, .int r4]) (rest := []) (mX11_share l Y _ M3 a5 r2 r4 _ hq) ⟨va_cnB 3 C.1.2.2.2.2 (sy_goodN uX_good uX_61 _) rfl rfl rfl (C.2.1.2.1 ("AreaSetter$Cutter", 58, yX11_share) (by simp)) (C.1.2.2.2.2 _ (mc uX_58)) hdX11_share.2 ⟨by dsimp only; omega, by dsimp only; omega⟩, C.1.2.2.2.2 _ (mc uX_76), trivial⟩ rfl hl.1 rfl (Nat.le_of_ble_eq_true rfl) dX1_worstOfCut_14 (fun r6 M5 H locs hq hh => ?_)
  refine lv_istore (lv' := [(7, .int r6), (0, .ref (Y.2.1 28)), (1, .int a2), (2, .int a3), (3, .int a4), (4, .int a5), (5, .int a6), (6, .int a7)]) hx hb dX1_worstOfCut_17 hl (by decide) rfl (fun ls hl => ?_)
  refine lv_iload_n hx hb dX1_worstOfCut_19 rfl (lv_at hl 3 rfl) ?_
  refine lv_iload_n hx hb dX1_worstOfCut_20 rfl (lv_at hl 2 rfl) ?_
  refine lv_isub hx hb dX1_worstOfCut_21 ?_
  refine lv_iload_n hx hb dX1_worstOfCut_22 rfl (lv_at hl 4 rfl) ?_
  refine lv_iload_n hx hb dX1_worstOfCut_23 rfl (lv_at hl 3 rfl) ?_
  refine lv_isub hx hb dX1_worstOfCut_24 ?_
  refine lv_icmp_gt (tgt := 32) hx hb dX1_worstOfCut_25 (by decide) (fun c7 => ?_) (fun c7 => ?_)
  · have hq := hq.1 c7
    refine lv_iconst (v := (0 : Int32)) hx hb dX1_worstOfCut_32 (by decide) ?_
    refine kX1_worstOfCut_33 C hrec  M5 a2 a3 a4 a5 a6 a7 r6 (0 : Int32) _ _ _ hq hh (lv_sub hl [1, 2, 3, 4, 5, 6, 7, 0] rfl)
  · have hq := hq.2 c7
    refine lv_iconst (v := (1 : Int32)) hx hb dX1_worstOfCut_28 (by decide) ?_
    refine lv_goto (tgt := 33) hx hb dX1_worstOfCut_29 (by decide) ?_
    refine kX1_worstOfCut_33 C hrec  M5 a2 a3 a4 a5 a6 a7 r6 (1 : Int32) _ _ _ hq hh (lv_sub hl [1, 2, 3, 4, 5, 6, 7, 0] rfl)

/-! AreaSetter.shapeOf(III)I -/
def wX11_shapeOf_27 (Q : Int32 → sy_M → Prop) (M : sy_M) (x3 : Int32) (s0 : Int32) : Prop := ((0 < x3 → (¬ x3 = 0) ∧ Q ((s0 * (nI 1000)) / x3) M) ∧ (¬ 0 < x3 → Q (nI 1000000) M))
def wX11_shapeOf_16 (Q : Int32 → sy_M → Prop) (M : sy_M) (x1 : Int32) (x2 : Int32) (s0 : Int32) : Prop := ((x2 ≤ x1 → wX11_shapeOf_27  Q M s0 x1) ∧ (¬ x2 ≤ x1 → wX11_shapeOf_27  Q M s0 x2))
def wX11_shapeOf (M : sy_M) (a1 : Int32) (a2 : Int32) (a3 : Int32) (Q : Int32 → sy_M → Prop) : Prop := ((¬ a1 = 0 → ((a3 ≤ a2 → wX11_shapeOf_16  Q M a2 a3 a3) ∧ (¬ a3 ≤ a2 → wX11_shapeOf_16  Q M a2 a3 a2))) ∧ (a1 = 0 → Q (0 : Int32) M))
section
variable {p : Program} {l : Launch} {e : Env} {s : State} {m : MethodId} {args : Array Value} {below : List Frame} {meth : Method} {c : Code} {Y : sy_Y}
set_option maxHeartbeats 4000000 in
set_option maxRecDepth 100000 in
theorem kX11_shapeOf_27 (C : sy_C p m c cX11_shapeOf 5 s args vsX11_shapeOf RX11 meth (some .int) Y NX tfX) {Q : Int32 → sy_M → Prop} :
    ∀ (M : sy_M) (x3 : Int32) (s0 : Int32) (H : Heap) (locs : List Loc) (ls : Array Slot), wX11_shapeOf_27 Q M x3 s0 → sy_H Y NX EX s H locs M → lv_has ls 5 [(3, .int x3)] → W p l e ({ frames := 0, cells := 0, slots := 0, locals := 0 } : Room) s m args below meth c H locs 0 0 (sy_ZI below args s Y NX EX Q) (F0 m 27 ls [.int s0]) := by
  have hx := C.1.1
  have hb := C.1.2.1
  intro M x3 s0 H locs ls hq hh hl
  unfold wX11_shapeOf_27 at hq
  refine lv_istore (lv' := [(4, .int s0), (3, .int x3)]) hx hb dX11_shapeOf_27 hl (by decide) rfl (fun ls hl => ?_)
  refine lv_iload_n hx hb dX11_shapeOf_29 rfl (lv_at hl 1 rfl) ?_
  refine lv_if_gt (tgt := 38) hx hb dX11_shapeOf_30 (by decide) (fun c4 => ?_) (fun c4 => ?_)
  · have hq := hq.1 c4
    refine lv_iload hx hb dX11_shapeOf_38 (lv_at hl 0 rfl) ?_
    refine lv_sipush (v := (nI 1000)) hx hb dX11_shapeOf_40 (by decide) ?_
    refine lv_imul hx hb dX11_shapeOf_43 ?_
    refine lv_iload_n hx hb dX11_shapeOf_44 rfl (lv_at hl 1 rfl) ?_
    obtain ⟨e5, hq⟩ := hq
    refine lv_idiv hx hb dX11_shapeOf_45 e5 ?_
    exact sy_iret C hh dX11_shapeOf_46 hq
  · have hq := hq.2 c4
    refine lv_ldc (v := (nI 1000000)) hx hb C.1.2.2.2.1 (C.1.2.2.2.2 (.constant RX11 238 (nI 1000000)) (mc uX_50)) dX11_shapeOf_33 ?_
    refine lv_goto (tgt := 46) hx hb dX11_shapeOf_35 (by decide) ?_
    exact sy_iret C hh dX11_shapeOf_46 hq

set_option maxHeartbeats 4000000 in
set_option maxRecDepth 100000 in
theorem kX11_shapeOf_16 (C : sy_C p m c cX11_shapeOf 5 s args vsX11_shapeOf RX11 meth (some .int) Y NX tfX) {Q : Int32 → sy_M → Prop} :
    ∀ (M : sy_M) (x1 : Int32) (x2 : Int32) (s0 : Int32) (H : Heap) (locs : List Loc) (ls : Array Slot), wX11_shapeOf_16 Q M x1 x2 s0 → sy_H Y NX EX s H locs M → lv_has ls 5 [(1, .int x1), (2, .int x2)] → W p l e ({ frames := 0, cells := 0, slots := 0, locals := 0 } : Room) s m args below meth c H locs 0 0 (sy_ZI below args s Y NX EX Q) (F0 m 16 ls [.int s0]) := by
  have hx := C.1.1
  have hb := C.1.2.1
  intro M x1 x2 s0 H locs ls hq hh hl
  unfold wX11_shapeOf_16 at hq
  refine lv_istore_n (lv' := [(3, .int s0), (1, .int x1), (2, .int x2)]) hx hb dX11_shapeOf_16 rfl hl (by decide) rfl (fun ls hl => ?_)
  refine lv_iload_n hx hb dX11_shapeOf_17 rfl (lv_at hl 1 rfl) ?_
  refine lv_iload_n hx hb dX11_shapeOf_18 rfl (lv_at hl 2 rfl) ?_
  refine lv_icmp_ge (tgt := 26) hx hb dX11_shapeOf_19 (by decide) (fun c3 => ?_) (fun c3 => ?_)
  · have hq := hq.1 c3
    refine lv_iload_n hx hb dX11_shapeOf_26 rfl (lv_at hl 1 rfl) ?_
    refine kX11_shapeOf_27 C  M s0 x1 _ _ _ hq hh (lv_sub hl [0] rfl)
  · have hq := hq.2 c3
    refine lv_iload_n hx hb dX11_shapeOf_22 rfl (lv_at hl 2 rfl) ?_
    refine lv_goto (tgt := 27) hx hb dX11_shapeOf_23 (by decide) ?_
    refine kX11_shapeOf_27 C  M s0 x2 _ _ _ hq hh (lv_sub hl [0] rfl)

end
set_option maxHeartbeats 4000000 in
set_option maxRecDepth 100000 in
theorem mX11_shapeOf (l : Launch) (Y : sy_Y) (sz : Nat) (M : sy_M) (a1 : Int32) (a2 : Int32) (a3 : Int32) (Q : Int32 → sy_M → Prop) (hq : wX11_shapeOf M a1 a2 a3 Q) : Met l yX11_shapeOf vsX11_shapeOf ({ frames := 0, cells := 0, slots := 0, locals := 0 } : Room) (va_Pc [.int a1, .int a2, .int a3] (sy_pre Y NX EX tfX sz M)) (sy_QI Y NX EX sz Q) 0 0 (sy_A NX Y.2.1 sz) := by
  refine sy_metI (by decide) rfl (Nat.le_of_ble_eq_true rfl) ?_
  intro p e s m args below meth c C ls hl hh
  have hx := C.1.1
  have hb := C.1.2.1
  have hl : lv_has ls 5 [(0, .int a1), (1, .int a2), (2, .int a3)] := hl
  unfold wX11_shapeOf at hq
  refine lv_iload_n hx hb dX11_shapeOf_0 rfl (lv_at hl 0 rfl) ?_
  refine lv_if_ne (tgt := 6) hx hb dX11_shapeOf_1 (by decide) (fun c1 => ?_) (fun c1 => ?_)
  · have hq := hq.1 c1
    refine lv_iload_n hx hb dX11_shapeOf_6 rfl (lv_at hl 1 rfl) ?_
    refine lv_iload_n hx hb dX11_shapeOf_7 rfl (lv_at hl 2 rfl) ?_
    refine lv_icmp_ge (tgt := 15) hx hb dX11_shapeOf_8 (by decide) (fun c2 => ?_) (fun c2 => ?_)
    · have hq := hq.1 c2
      refine lv_iload_n hx hb dX11_shapeOf_15 rfl (lv_at hl 2 rfl) ?_
      refine kX11_shapeOf_16 C  M a2 a3 a3 _ _ _ hq hh (lv_sub hl [1, 2] rfl)
    · have hq := hq.2 c2
      refine lv_iload_n hx hb dX11_shapeOf_11 rfl (lv_at hl 1 rfl) ?_
      refine lv_goto (tgt := 16) hx hb dX11_shapeOf_12 (by decide) ?_
      refine kX11_shapeOf_16 C  M a2 a3 a2 _ _ _ hq hh (lv_sub hl [1, 2] rfl)
  · have hq := hq.2 c1
    refine lv_iconst (v := (0 : Int32)) hx hb dX11_shapeOf_4 (by decide) ?_
    exact sy_iret C hh dX11_shapeOf_5 hq

/-! AreaSetter$Cutter.leastWorst(LAreaSetter$Items;IIIII)I -/
def wX1_leastWorst_52 (rec : sy_M → Int32 → Int32 → Int32 → Int32 → Int32 → (Int32 → sy_M → Prop) → Prop) (Q : Int32 → sy_M → Prop) : Nat → sy_M → Int32 → Int32 → Int32 → Int32 → Int32 → Int32 → Prop
  | 0, _, _, _, _, _, _, _ => False
  | n + 1, M, x1, x2, x3, x4, x6, x7 => ((x2 ≤ x7 → Q x6 M) ∧ (¬ x2 ≤ x7 → wX1_worstOfCut rec M x1 x7 x2 x3 x4 x6 (fun r9 M8 => wX1_worstOfCut rec M8 x1 x7 x2 x4 x3 (imin x6 r9) (fun r11 M10 => wX1_leastWorst_52 rec Q n M10 x1 x2 x3 x4 (imin (imin x6 r9) r11) (x7 + (1 : Int32))))))
def wX1_leastWorst_b (rec : sy_M → Int32 → Int32 → Int32 → Int32 → Int32 → (Int32 → sy_M → Prop) → Prop) (M : sy_M) (a2 : Int32) (a3 : Int32) (a4 : Int32) (a5 : Int32) (a6 : Int32) (Q : Int32 → sy_M → Prop) : Prop := (((1 : Int32) < (a3 - a2) → wX3_sum M a2 a3 (fun r3 M2 => ((¬ r3 = 0 → ((a4 = 0 → Q (nI 1000000) M2) ∧ (¬ a4 = 0 → ((¬ a5 = 0 → ∃ n12 : Nat, wX1_leastWorst_52 rec  Q n12 M2 a2 a3 a4 a5 a6 (a2 + (1 : Int32))) ∧ (a5 = 0 → Q (nI 1000000) M2))))) ∧ (r3 = 0 → Q (0 : Int32) M2)))) ∧ (¬ (1 : Int32) < (a3 - a2) → ∃ n13 : Nat, n13 < 8 ∧ a2 = nI n13 ∧ wX11_shapeOf M (M 30 n13) a4 a5 (fun r15 M14 => Q r15 M14)))
def wX1_leastWorst : Nat → sy_M → Int32 → Int32 → Int32 → Int32 → Int32 → (Int32 → sy_M → Prop) → Prop
  | 0, _, _, _, _, _, _, _ => False
  | d + 1, M, a2, a3, a4, a5, a6, Q => wX1_leastWorst_b (wX1_leastWorst d) M a2 a3 a4 a5 a6 Q
section
variable {p : Program} {l : Launch} {e : Env} {s : State} {m : MethodId} {args : Array Value} {below : List Frame} {meth : Method} {c : Code} {Y : sy_Y}
set_option maxHeartbeats 4000000 in
set_option maxRecDepth 100000 in
theorem kX1_leastWorst_52 (C : sy_C p m c cX1_leastWorst 8 s args vsX1_leastWorst RX1 meth (some .int) Y NX tfX) {rec : sy_M → Int32 → Int32 → Int32 → Int32 → Int32 → (Int32 → sy_M → Prop) → Prop} {d : Nat} (hrec : ∀ (sz : Nat) (M : sy_M) (a2 : Int32) (a3 : Int32) (a4 : Int32) (a5 : Int32) (a6 : Int32) (Q : Int32 → sy_M → Prop), rec M a2 a3 a4 a5 a6 Q → Met l yX1_leastWorst vsX1_leastWorst ({ frames := 2 * d + 4, cells := 0, slots := 0, locals := 57 * d + 152 } : Room) (va_Pc [.ref (Y.2.1 28), .int a2, .int a3, .int a4, .int a5, .int a6] (sy_pre Y NX EX tfX sz M)) (sy_QI Y NX EX sz Q) 0 0 (sy_A NX Y.2.1 sz)) {Q : Int32 → sy_M → Prop} :
    ∀ (n : Nat) (M : sy_M) (x1 : Int32) (x2 : Int32) (x3 : Int32) (x4 : Int32) (x6 : Int32) (x7 : Int32) (H : Heap) (locs : List Loc) (ls : Array Slot), wX1_leastWorst_52 rec Q n M x1 x2 x3 x4 x6 x7 → sy_H Y NX EX s H locs M → lv_has ls 8 [(0, .ref (Y.2.1 28)), (1, .int x1), (2, .int x2), (3, .int x3), (4, .int x4), (6, .int x6), (7, .int x7)] → W p l e ({ frames := 2 * (d + 1) + 4, cells := 0, slots := 0, locals := 57 * (d + 1) + 152 } : Room) s m args below meth c H locs 0 0 (sy_ZI below args s Y NX EX Q) (F0 m 52 ls []) := by
  have hx := C.1.1
  have hb := C.1.2.1
  intro n
  induction n with
  | zero =>
    intro M x1 x2 x3 x4 x6 x7 H locs ls hq hh hl
    unfold wX1_leastWorst_52 at hq
    exact hq.elim
  | succ n ih =>
    intro M x1 x2 x3 x4 x6 x7 H locs ls hq hh hl
    unfold wX1_leastWorst_52 at hq
    refine lv_iload hx hb dX1_leastWorst_52 (lv_at hl 6 rfl) ?_
    refine lv_iload_n hx hb dX1_leastWorst_54 rfl (lv_at hl 2 rfl) ?_
    refine lv_icmp_ge (tgt := 104) hx hb dX1_leastWorst_55 (by decide) (fun c7 => ?_) (fun c7 => ?_)
    · have hq := hq.1 c7
      refine lv_iload hx hb dX1_leastWorst_104 (lv_at hl 5 rfl) ?_
      exact sy_iret C hh dX1_leastWorst_106 hq
    · have hq := hq.2 c7
      refine lv_iload hx hb dX1_leastWorst_58 (lv_at hl 5 rfl) ?_
      refine lv_aload_n hx hb dX1_leastWorst_60 rfl (lv_at hl 0 rfl) ?_
      refine lv_iload_n hx hb dX1_leastWorst_61 rfl (lv_at hl 1 rfl) ?_
      refine lv_iload hx hb dX1_leastWorst_62 (lv_at hl 6 rfl) ?_
      refine lv_iload_n hx hb dX1_leastWorst_64 rfl (lv_at hl 2 rfl) ?_
      refine lv_iload_n hx hb dX1_leastWorst_65 rfl (lv_at hl 3 rfl) ?_
      refine lv_iload hx hb dX1_leastWorst_66 (lv_at hl 4 rfl) ?_
      refine lv_iload hx hb dX1_leastWorst_68 (lv_at hl 5 rfl) ?_
      refine sy_cIS C hh (As := [.ref (Y.2.1 28), .int x1, .int x7, .int x2, .int x3, .int x4, .int x6]) (rest := [.int x6]) (mX1_worstOfCut hrec _ M x1 x7 x2 x3 x4 x6 _ hq) (va_cwS 7 C.1.2.2.2.2 (sy_goodS uX_good uX_71 uX_72 uX_73 uX_74 _) rfl rfl rfl hdX1_worstOfCut.2 ⟨by dsimp only; omega, by dsimp only; omega⟩) rfl hl.1 rfl (Nat.le_of_ble_eq_true rfl) dX1_leastWorst_70 (fun r9 M8 H locs hq hh => ?_)
      refine sy_mmin C hl (index := 79) (mc uX_64) (mc uX_65) (mc uX_25) (mc uX_66) (by dsimp only; omega) (by simp [Value.category] <;> omega) dX1_leastWorst_73 ?_
      refine lv_istore (lv' := [(6, .int (imin x6 r9)), (0, .ref (Y.2.1 28)), (1, .int x1), (2, .int x2), (3, .int x3), (4, .int x4), (7, .int x7)]) hx hb dX1_leastWorst_76 hl (by decide) rfl (fun ls hl => ?_)
      refine lv_iload hx hb dX1_leastWorst_78 (lv_at hl 0 rfl) ?_
      refine lv_aload_n hx hb dX1_leastWorst_80 rfl (lv_at hl 1 rfl) ?_
      refine lv_iload_n hx hb dX1_leastWorst_81 rfl (lv_at hl 2 rfl) ?_
      refine lv_iload hx hb dX1_leastWorst_82 (lv_at hl 6 rfl) ?_
      refine lv_iload_n hx hb dX1_leastWorst_84 rfl (lv_at hl 3 rfl) ?_
      refine lv_iload hx hb dX1_leastWorst_85 (lv_at hl 5 rfl) ?_
      refine lv_iload_n hx hb dX1_leastWorst_87 rfl (lv_at hl 4 rfl) ?_
      refine lv_iload hx hb dX1_leastWorst_88 (lv_at hl 0 rfl) ?_
      refine sy_cIS C hh (As := [.ref (Y.2.1 28), .int x1, .int x7, .int x2, .int x4, .int x3, .int (imin x6 r9)]) (rest := [.int (imin x6 r9)]) (mX1_worstOfCut hrec _ M8 x1 x7 x2 x4 x3 (imin x6 r9) _ hq) (va_cwS 7 C.1.2.2.2.2 (sy_goodS uX_good uX_71 uX_72 uX_73 uX_74 _) rfl rfl rfl hdX1_worstOfCut.2 ⟨by dsimp only; omega, by dsimp only; omega⟩) rfl hl.1 rfl (Nat.le_of_ble_eq_true rfl) dX1_leastWorst_90 (fun r11 M10 H locs hq hh => ?_)
      refine sy_mmin C hl (index := 79) (mc uX_64) (mc uX_65) (mc uX_25) (mc uX_66) (by dsimp only; omega) (by simp [Value.category] <;> omega) dX1_leastWorst_93 ?_
      refine lv_istore (lv' := [(6, .int (imin (imin x6 r9) r11)), (0, .ref (Y.2.1 28)), (1, .int x1), (2, .int x2), (3, .int x3), (4, .int x4), (7, .int x7)]) hx hb dX1_leastWorst_96 hl (by decide) rfl (fun ls hl => ?_)
      refine lv_iinc (v := (x7 + (1 : Int32))) (lv' := [(7, .int (x7 + (1 : Int32))), (6, .int (imin (imin x6 r9) r11)), (0, .ref (Y.2.1 28)), (1, .int x1), (2, .int x2), (3, .int x3), (4, .int x4)]) hx hb dX1_leastWorst_98 hl (k := 6) rfl (sy_inc (by decide)) (by decide) rfl (fun ls hl => ?_)
      refine lv_goto (tgt := 52) hx hb dX1_leastWorst_101 (by decide) ?_
      exact ih M10 x1 x2 x3 x4 (imin (imin x6 r9) r11) (x7 + (1 : Int32)) _ _ _ hq hh (lv_sub hl [2, 3, 4, 5, 6, 1, 0] rfl)

end
set_option maxHeartbeats 4000000 in
set_option maxRecDepth 100000 in
theorem mX1_leastWorst_b {l : Launch} {Y : sy_Y} {rec : sy_M → Int32 → Int32 → Int32 → Int32 → Int32 → (Int32 → sy_M → Prop) → Prop} {d : Nat} (hrec : ∀ (sz : Nat) (M : sy_M) (a2 : Int32) (a3 : Int32) (a4 : Int32) (a5 : Int32) (a6 : Int32) (Q : Int32 → sy_M → Prop), rec M a2 a3 a4 a5 a6 Q → Met l yX1_leastWorst vsX1_leastWorst ({ frames := 2 * d + 4, cells := 0, slots := 0, locals := 57 * d + 152 } : Room) (va_Pc [.ref (Y.2.1 28), .int a2, .int a3, .int a4, .int a5, .int a6] (sy_pre Y NX EX tfX sz M)) (sy_QI Y NX EX sz Q) 0 0 (sy_A NX Y.2.1 sz)) (sz : Nat) (M : sy_M) (a2 : Int32) (a3 : Int32) (a4 : Int32) (a5 : Int32) (a6 : Int32) (Q : Int32 → sy_M → Prop) (hq : wX1_leastWorst_b rec M a2 a3 a4 a5 a6 Q) : Met l yX1_leastWorst vsX1_leastWorst ({ frames := 2 * (d + 1) + 4, cells := 0, slots := 0, locals := 57 * (d + 1) + 152 } : Room) (va_Pc [.ref (Y.2.1 28), .int a2, .int a3, .int a4, .int a5, .int a6] (sy_pre Y NX EX tfX sz M)) (sy_QI Y NX EX sz Q) 0 0 (sy_A NX Y.2.1 sz) := by
  refine sy_metI (by decide) rfl (Nat.le_of_ble_eq_true rfl) ?_
  intro p e s m args below meth c C ls hl hh
  have hx := C.1.1
  have hb := C.1.2.1
  have hl : lv_has ls 8 [(0, .ref (Y.2.1 28)), (1, .int a2), (2, .int a3), (3, .int a4), (4, .int a5), (5, .int a6)] := hl
  unfold wX1_leastWorst_b at hq
  refine lv_iload_n hx hb dX1_leastWorst_0 rfl (lv_at hl 2 rfl) ?_
  refine lv_iload_n hx hb dX1_leastWorst_1 rfl (lv_at hl 1 rfl) ?_
  refine lv_isub hx hb dX1_leastWorst_2 ?_
  refine lv_iconst (v := (1 : Int32)) hx hb dX1_leastWorst_3 (by decide) ?_
  refine lv_icmp_gt (tgt := 20) hx hb dX1_leastWorst_4 (by decide) (fun c1 => ?_) (fun c1 => ?_)
  · have hq := hq.1 c1
    refine lv_aload_n hx hb dX1_leastWorst_20 rfl (lv_at hl 0 rfl) ?_
    refine lv_iload_n hx hb dX1_leastWorst_21 rfl (lv_at hl 1 rfl) ?_
    refine lv_iload_n hx hb dX1_leastWorst_22 rfl (lv_at hl 2 rfl) ?_
    refine sy_cIV C hh (As := [.int a2, .int a3]) (rest := []) 28 (by decide) (oX_28 Y) rfl (mX3_sum l Y _ M a2 a3 _ hq) (cwV 2 C.1.2.2.2.2 (sy_goodV uX_good uX_67 uX_68 uX_69 uX_70 uX_59 _) rfl rfl rfl hdX3_sum ⟨by dsimp only; omega, by dsimp only; omega⟩) rfl hl.1 rfl (Nat.le_of_ble_eq_true rfl) dX1_leastWorst_23 (fun r3 M2 H locs hq hh => ?_)
    refine lv_if_ne (tgt := 31) hx hb dX1_leastWorst_26 (by decide) (fun c4 => ?_) (fun c4 => ?_)
    · have hq := hq.1 c4
      refine lv_iload_n hx hb dX1_leastWorst_31 rfl (lv_at hl 3 rfl) ?_
      refine lv_if_eq (tgt := 40) hx hb dX1_leastWorst_32 (by decide) (fun c5 => ?_) (fun c5 => ?_)
      · have hq := hq.1 c5
        refine lv_ldc (v := (nI 1000000)) hx hb C.1.2.2.2.1 (C.1.2.2.2.2 (.constant RX1 78 (nI 1000000)) (mc uX_63)) dX1_leastWorst_40 ?_
        exact sy_iret C hh dX1_leastWorst_42 hq
      · have hq := hq.2 c5
        refine lv_iload hx hb dX1_leastWorst_35 (lv_at hl 4 rfl) ?_
        refine lv_if_ne (tgt := 43) hx hb dX1_leastWorst_37 (by decide) (fun c6 => ?_) (fun c6 => ?_)
        · have hq := hq.1 c6
          refine lv_iload hx hb dX1_leastWorst_43 (lv_at hl 5 rfl) ?_
          refine lv_istore (lv' := [(6, .int a6), (0, .ref (Y.2.1 28)), (1, .int a2), (2, .int a3), (3, .int a4), (4, .int a5), (5, .int a6)]) hx hb dX1_leastWorst_45 hl (by decide) rfl (fun ls hl => ?_)
          refine lv_iload_n hx hb dX1_leastWorst_47 rfl (lv_at hl 2 rfl) ?_
          refine lv_iconst (v := (1 : Int32)) hx hb dX1_leastWorst_48 (by decide) ?_
          refine lv_iadd hx hb dX1_leastWorst_49 ?_
          refine lv_istore (lv' := [(7, .int (a2 + (1 : Int32))), (6, .int a6), (0, .ref (Y.2.1 28)), (1, .int a2), (2, .int a3), (3, .int a4), (4, .int a5), (5, .int a6)]) hx hb dX1_leastWorst_50 hl (by decide) rfl (fun ls hl => ?_)
          obtain ⟨n12, hq⟩ := hq
          refine kX1_leastWorst_52 C hrec  n12 M2 a2 a3 a4 a5 a6 (a2 + (1 : Int32)) _ _ _ hq hh (lv_sub hl [2, 3, 4, 5, 6, 1, 0] rfl)
        · have hq := hq.2 c6
          refine lv_ldc (v := (nI 1000000)) hx hb C.1.2.2.2.1 (C.1.2.2.2.2 (.constant RX1 78 (nI 1000000)) (mc uX_63)) dX1_leastWorst_40 ?_
          exact sy_iret C hh dX1_leastWorst_42 hq
    · have hq := hq.2 c4
      refine lv_iconst (v := (0 : Int32)) hx hb dX1_leastWorst_29 (by decide) ?_
      exact sy_iret C hh dX1_leastWorst_30 hq
  · have hq := hq.2 c1
    refine lv_aload_n hx hb dX1_leastWorst_7 rfl (lv_at hl 0 rfl) ?_
    refine sy_get C hh (fun w h => mc (uX_fX3 w h)) 28 (by decide) (oX_28 Y) rfl 3 (by decide) (index := 71) (mc uX_62) (v := .ref (Y.2.1 30)) rfl dX1_leastWorst_8 ?_
    refine lv_iload_n hx hb dX1_leastWorst_11 rfl (lv_at hl 1 rfl) ?_
    obtain ⟨n13, hn13, en13, hq⟩ := hq
    refine sy_iald C hh 30 (by decide) (aX_30 Y) tX_30 hn13 en13 (by decide) dX1_leastWorst_12 ?_
    refine lv_iload_n hx hb dX1_leastWorst_13 rfl (lv_at hl 3 rfl) ?_
    refine lv_iload hx hb dX1_leastWorst_14 (lv_at hl 4 rfl) ?_
    refine sy_cIN C hh (As := [.int (M 30 n13), .int a4, .int a5]) (rest := []) (mX11_shapeOf l Y _ M (M 30 n13) a4 a5 _ hq) ⟨va_cnB 3 C.1.2.2.2.2 (sy_goodN uX_good uX_49 _) rfl rfl rfl (C.2.1.2.1 ("AreaSetter$Cutter", 75, yX11_shapeOf) (by simp)) (C.1.2.2.2.2 _ (mc uX_58)) hdX11_shapeOf.2 ⟨by dsimp only; omega, by dsimp only; omega⟩, C.1.2.2.2.2 _ (mc uX_57), trivial⟩ rfl hl.1 rfl (Nat.le_of_ble_eq_true rfl) dX1_leastWorst_16 (fun r15 M14 H locs hq hh => ?_)
    exact sy_iret C hh dX1_leastWorst_19 hq

set_option maxHeartbeats 4000000 in
theorem mX1_leastWorst (l : Launch) (Y : sy_Y) : ∀ (d : Nat) (sz : Nat) (M : sy_M) (a2 : Int32) (a3 : Int32) (a4 : Int32) (a5 : Int32) (a6 : Int32) (Q : Int32 → sy_M → Prop), wX1_leastWorst d M a2 a3 a4 a5 a6 Q → Met l yX1_leastWorst vsX1_leastWorst ({ frames := 2 * d + 4, cells := 0, slots := 0, locals := 57 * d + 152 } : Room) (va_Pc [.ref (Y.2.1 28), .int a2, .int a3, .int a4, .int a5, .int a6] (sy_pre Y NX EX tfX sz M)) (sy_QI Y NX EX sz Q) 0 0 (sy_A NX Y.2.1 sz)
  | 0, _, _, _, _, _, _, _, _, hq => by unfold wX1_leastWorst at hq; exact hq.elim
  | d + 1, sz, M, a2, a3, a4, a5, a6, Q, hq => by
    unfold wX1_leastWorst at hq
    exact mX1_leastWorst_b (d := d) (rec := wX1_leastWorst d) (fun sz M => mX1_leastWorst l Y d sz M) sz M a2 a3 a4 a5 a6 Q hq
/-! AreaSetter$Plan.put(LAreaSetter$Items;IIIII)V -/
def wX5_put (M : sy_M) (p0 : Nat) (a2 : Int32) (a3 : Int32) (a4 : Int32) (a5 : Int32) (a6 : Int32) (Q : sy_M → Prop) : Prop := wX7_put M (p0 + 1) a2 a3 a4 a5 a6 (fun M1 => ∃ n2 : Nat, n2 < 8 ∧ a2 = nI n2 ∧ wX11_shapeOf M1 (M1 30 n2) a5 a6 (fun r4 M3 => Q (mu M3 p0 0 (imax (M1 p0 0) r4))))
section
variable {p : Program} {l : Launch} {e : Env} {s : State} {m : MethodId} {args : Array Value} {below : List Frame} {meth : Method} {c : Code} {Y : sy_Y}
end
set_option maxHeartbeats 4000000 in
set_option maxRecDepth 100000 in
theorem mX5_put (l : Launch) (Y : sy_Y) (sz : Nat) (M : sy_M) (p0 : Nat) (hp0 : iX5 p0) (a2 : Int32) (a3 : Int32) (a4 : Int32) (a5 : Int32) (a6 : Int32) (Q : sy_M → Prop) (hq : wX5_put M p0 a2 a3 a4 a5 a6 Q) : Met l yX5_put vsX5_put ({ frames := 1, cells := 0, slots := 0, locals := 25 } : Room) (va_Pc [.ref (Y.2.1 p0), .ref (Y.2.1 28), .int a2, .int a3, .int a4, .int a5, .int a6] (sy_pre Y NX EX tfX sz M)) (sy_QV Y NX EX sz Q) 0 0 (sy_A NX Y.2.1 sz) := by
  refine sy_metV (by decide) rfl (Nat.le_of_ble_eq_true rfl) ?_
  intro p e s m args below meth c C ls hl hh
  have hx := C.1.1
  have hb := C.1.2.1
  have hl : lv_has ls 7 [(0, .ref (Y.2.1 p0)), (1, .ref (Y.2.1 28)), (2, .int a2), (3, .int a3), (4, .int a4), (5, .int a5), (6, .int a6)] := hl
  unfold wX5_put at hq
  refine lv_aload_n hx hb dX5_put_0 rfl (lv_at hl 0 rfl) ?_
  refine sy_get C hh (fun w h => mc (uX_fX5 w h)) p0 (iX5_N hp0) (oX5 hp0) rfl 1 (by decide) (index := 20) (mc uX_38) (v := .ref (Y.2.1 (p0 + 1))) rfl dX5_put_1 ?_
  refine lv_iload_n hx hb dX5_put_4 rfl (lv_at hl 2 rfl) ?_
  refine lv_iload_n hx hb dX5_put_5 rfl (lv_at hl 3 rfl) ?_
  refine lv_iload hx hb dX5_put_6 (lv_at hl 4 rfl) ?_
  refine lv_iload hx hb dX5_put_8 (lv_at hl 5 rfl) ?_
  refine lv_iload hx hb dX5_put_10 (lv_at hl 6 rfl) ?_
  refine sy_cVV C hh (As := [.int a2, .int a3, .int a4, .int a5, .int a6]) (rest := []) (p0 + 1) (iX7_N (iX5_iX7 hp0)) (oX7 (iX5_iX7 hp0)) rfl (mX7_put l Y _ M (p0 + 1) (iX5_iX7 hp0) a2 a3 a4 a5 a6 _ hq) (cwV 5 C.1.2.2.2.2 (sy_goodV uX_good uX_54 uX_55 uX_56 uX_37 uX_48 _) rfl rfl rfl hdX7_put ⟨Nat.le_of_ble_eq_true rfl, Nat.le_of_ble_eq_true rfl⟩) rfl hl.1 rfl (Nat.le_of_ble_eq_true rfl) dX5_put_12 (fun M1 H locs hq hh => ?_)
  refine lv_aload_n hx hb dX5_put_15 rfl (lv_at hl 0 rfl) ?_
  refine lv_aload_n hx hb dX5_put_16 rfl (lv_at hl 0 rfl) ?_
  refine sy_get C hh (fun w h => mc (uX_fX5 w h)) p0 (iX5_N hp0) (oX5 hp0) rfl 0 (by decide) (index := 9) (mc uX_34) (v := .int (M1 p0 0)) rfl dX5_put_17 ?_
  refine lv_aload_n hx hb dX5_put_20 rfl (lv_at hl 1 rfl) ?_
  refine sy_get C hh (fun w h => mc (uX_fX3 w h)) 28 (by decide) (oX_28 Y) rfl 3 (by decide) (index := 28) (mc uX_52) (v := .ref (Y.2.1 30)) rfl dX5_put_21 ?_
  refine lv_iload_n hx hb dX5_put_24 rfl (lv_at hl 2 rfl) ?_
  obtain ⟨n2, hn2, en2, hq⟩ := hq
  refine sy_iald C hh 30 (by decide) (aX_30 Y) tX_30 hn2 en2 (by decide) dX5_put_25 ?_
  refine lv_iload hx hb dX5_put_26 (lv_at hl 5 rfl) ?_
  refine lv_iload hx hb dX5_put_28 (lv_at hl 6 rfl) ?_
  refine sy_cIN C hh (As := [.int (M1 30 n2), .int a5, .int a6]) (rest := [.int (M1 p0 0), .ref (Y.2.1 p0)]) (mX11_shapeOf l Y _ M1 (M1 30 n2) a5 a6 _ hq) ⟨va_cnB 3 C.1.2.2.2.2 (sy_goodN uX_good uX_49 _) rfl rfl rfl (C.2.1.2.1 ("AreaSetter$Plan", 34, yX11_shapeOf) (by simp)) (C.1.2.2.2.2 _ (mc uX_58)) hdX11_shapeOf.2 ⟨Nat.le_of_ble_eq_true rfl, Nat.le_of_ble_eq_true rfl⟩, C.1.2.2.2.2 _ (mc uX_57), trivial⟩ rfl hl.1 rfl (Nat.le_of_ble_eq_true rfl) dX5_put_30 (fun r4 M3 H locs hq hh => ?_)
  refine sy_mmax C hl (index := 38) (mc uX_53) (mc uX_24) (mc uX_25) (mc uX_26) (by decide) (Nat.le_of_ble_eq_true rfl) dX5_put_33 ?_
  refine sy_put C hh (fun w h => mc (uX_fX5 w h)) tyX5 tyX5_ok nmX5 p0 (iX5_N hp0) (oX5 hp0) rfl 0 (by decide) (index := 9) (mc uX_34) rfl 0 (imax (M1 p0 0) r4) (ty := .int) (tyX5_ok 0 (by decide)) rfl rfl (Nat.le_of_ble_eq_true rfl) (pX5_0 Y _ _ _) dX5_put_36 (fun H locs hh => ?_)
  exact sy_vret C hh dX5_put_39 hq

/-! AreaSetter$Cutter.layPart(LAreaSetter$Items;IIIIII)V -/
def wX1_layPart_82 (rec : sy_M → Int32 → Int32 → Int32 → Int32 → Int32 → Int32 → (sy_M → Prop) → Prop) (K_42 : sy_M → Int32 → Int32 → Int32 → Int32 → Int32 → Int32 → Int32 → Int32 → Int32 → Int32 → Prop) (Q : sy_M → Prop) (M : sy_M) (x2 : Int32) (x3 : Int32) (x4 : Int32) (x5 : Int32) (x6 : Int32) (x7 : Int32) (x8 : Int32) (x9 : Int32) (x10 : Int32) (x11 : Int32) : Prop := wX1_worstOfCut (wX1_leastWorst 9) M x2 x11 x3 x7 x6 x8 (fun r7 M6 => ((x8 ≤ r7 → K_42 M6 x2 x3 x4 x5 x6 x7 x8 x9 x10 (x11 + (1 : Int32))) ∧ (¬ x8 ≤ r7 → K_42 M6 x2 x3 x4 x5 x6 x7 r7 x11 (1 : Int32) (x11 + (1 : Int32)))))
def wX1_layPart_42 (rec : sy_M → Int32 → Int32 → Int32 → Int32 → Int32 → Int32 → (sy_M → Prop) → Prop) (K_122 : sy_M → Int32 → Int32 → Int32 → Int32 → Int32 → Int32 → Int32 → Int32 → Prop) (Q : sy_M → Prop) : Nat → sy_M → Int32 → Int32 → Int32 → Int32 → Int32 → Int32 → Int32 → Int32 → Int32 → Int32 → Prop
  | 0, _, _, _, _, _, _, _, _, _, _, _ => False
  | n + 1, M, x2, x3, x4, x5, x6, x7, x8, x9, x10, x11 => ((x3 ≤ x11 → K_122 M x2 x3 x4 x5 x6 x7 x9 x10) ∧ (¬ x3 ≤ x11 → wX1_worstOfCut (wX1_leastWorst 9) M x2 x11 x3 x6 x7 x8 (fun r4 M3 => ((x8 ≤ r4 → wX1_layPart_82 rec (fun (M9 : sy_M) (x2_10 : Int32) (x3_11 : Int32) (x4_12 : Int32) (x5_13 : Int32) (x6_14 : Int32) (x7_15 : Int32) (x8_16 : Int32) (x9_17 : Int32) (x10_18 : Int32) (x11_19 : Int32) => wX1_layPart_42 rec K_122 Q n M9 x2_10 x3_11 x4_12 x5_13 x6_14 x7_15 x8_16 x9_17 x10_18 x11_19) Q M3 x2 x3 x4 x5 x6 x7 x8 x9 x10 x11) ∧ (¬ x8 ≤ r4 → wX1_layPart_82 rec (fun (M20 : sy_M) (x2_21 : Int32) (x3_22 : Int32) (x4_23 : Int32) (x5_24 : Int32) (x6_25 : Int32) (x7_26 : Int32) (x8_27 : Int32) (x9_28 : Int32) (x10_29 : Int32) (x11_30 : Int32) => wX1_layPart_42 rec K_122 Q n M20 x2_21 x3_22 x4_23 x5_24 x6_25 x7_26 x8_27 x9_28 x10_29 x11_30) Q M3 x2 x3 x4 x5 x6 x7 r4 x11 (0 : Int32) x11)))))
def wX1_layPart_134 (rec : sy_M → Int32 → Int32 → Int32 → Int32 → Int32 → Int32 → (sy_M → Prop) → Prop) (Q : sy_M → Prop) (M : sy_M) (x2 : Int32) (x3 : Int32) (x4 : Int32) (x5 : Int32) (x6 : Int32) (x7 : Int32) (x9 : Int32) (x10 : Int32) (s0 : Int32) : Prop := wX3_sum M x2 x9 (fun r42 M41 => wX3_sum M41 x2 x3 (fun r44 M43 => wX11_share M43 s0 r42 r44 (fun r46 M45 => ((x10 = 0 → rec M45 x2 x9 x4 x5 r46 x7 (fun M48 => rec M48 x9 x3 (x4 + r46) x5 (x6 - r46) x7 (fun M49 => Q M49))) ∧ (¬ x10 = 0 → rec M45 x2 x9 x4 x5 x6 r46 (fun M50 => rec M50 x9 x3 x4 (x5 + r46) x6 (x7 - r46) (fun M51 => Q M51)))))))
def wX1_layPart_b (rec : sy_M → Int32 → Int32 → Int32 → Int32 → Int32 → Int32 → (sy_M → Prop) → Prop) (M : sy_M) (a2 : Int32) (a3 : Int32) (a4 : Int32) (a5 : Int32) (a6 : Int32) (a7 : Int32) (Q : sy_M → Prop) : Prop := (((1 : Int32) < (a3 - a2) → ∃ n52 : Nat, wX1_layPart_42 rec (fun (M31 : sy_M) (x2_32 : Int32) (x3_33 : Int32) (x4_34 : Int32) (x5_35 : Int32) (x6_36 : Int32) (x7_37 : Int32) (x9_38 : Int32) (x10_39 : Int32) => ((x10_39 = 0 → wX1_layPart_134 rec  Q M31 x2_32 x3_33 x4_34 x5_35 x6_36 x7_37 x9_38 x10_39 x6_36) ∧ (¬ x10_39 = 0 → wX1_layPart_134 rec  Q M31 x2_32 x3_33 x4_34 x5_35 x6_36 x7_37 x9_38 x10_39 x7_37))) Q n52 M a2 a3 a4 a5 a6 a7 (nI 2147483647) (a2 + (1 : Int32)) (0 : Int32) (a2 + (1 : Int32))) ∧ (¬ (1 : Int32) < (a3 - a2) → wX5_put M 47 a2 a4 a5 a6 a7 (fun M53 => Q M53)))
def wX1_layPart : Nat → sy_M → Int32 → Int32 → Int32 → Int32 → Int32 → Int32 → (sy_M → Prop) → Prop
  | 0, _, _, _, _, _, _, _, _ => False
  | d + 1, M, a2, a3, a4, a5, a6, a7, Q => wX1_layPart_b (wX1_layPart d) M a2 a3 a4 a5 a6 a7 Q
section
variable {p : Program} {l : Launch} {e : Env} {s : State} {m : MethodId} {args : Array Value} {below : List Frame} {meth : Method} {c : Code} {Y : sy_Y}
set_option maxHeartbeats 4000000 in
set_option maxRecDepth 100000 in
theorem kX1_layPart_82 (C : sy_C p m c cX1_layPart 14 s args vsX1_layPart RX1 meth none Y NX tfX) {rec : sy_M → Int32 → Int32 → Int32 → Int32 → Int32 → Int32 → (sy_M → Prop) → Prop} {d : Nat} (hrec : ∀ (sz : Nat) (M : sy_M) (a2 : Int32) (a3 : Int32) (a4 : Int32) (a5 : Int32) (a6 : Int32) (a7 : Int32) (Q : sy_M → Prop), rec M a2 a3 a4 a5 a6 a7 Q → Met l yX1_layPart vsX1_layPart ({ frames := 1 * d + 27, cells := 0, slots := 0, locals := 33 * d + 844 } : Room) (va_Pc [.ref (Y.2.1 58), .ref (Y.2.1 28), .int a2, .int a3, .int a4, .int a5, .int a6, .int a7] (sy_pre Y NX EX tfX sz M)) (sy_QV Y NX EX sz Q) 0 0 (sy_A NX Y.2.1 sz)) {Q : sy_M → Prop} {K_42 : sy_M → Int32 → Int32 → Int32 → Int32 → Int32 → Int32 → Int32 → Int32 → Int32 → Int32 → Prop} (hK_42 : ∀ (M : sy_M) (x2 : Int32) (x3 : Int32) (x4 : Int32) (x5 : Int32) (x6 : Int32) (x7 : Int32) (x8 : Int32) (x9 : Int32) (x10 : Int32) (x11 : Int32) (H : Heap) (locs : List Loc) (ls : Array Slot), K_42 M x2 x3 x4 x5 x6 x7 x8 x9 x10 x11 → sy_H Y NX EX s H locs M → lv_has ls 14 [(0, .ref (Y.2.1 58)), (1, .ref (Y.2.1 28)), (2, .int x2), (3, .int x3), (4, .int x4), (5, .int x5), (6, .int x6), (7, .int x7), (8, .int x8), (9, .int x9), (10, .int x10), (11, .int x11)] → W p l e ({ frames := 1 * (d + 1) + 27, cells := 0, slots := 0, locals := 33 * (d + 1) + 844 } : Room) s m args below meth c H locs 0 0 (sy_ZV below args s Y NX EX Q) (F0 m 42 ls [])) :
    ∀ (M : sy_M) (x2 : Int32) (x3 : Int32) (x4 : Int32) (x5 : Int32) (x6 : Int32) (x7 : Int32) (x8 : Int32) (x9 : Int32) (x10 : Int32) (x11 : Int32) (H : Heap) (locs : List Loc) (ls : Array Slot), wX1_layPart_82 rec K_42 Q M x2 x3 x4 x5 x6 x7 x8 x9 x10 x11 → sy_H Y NX EX s H locs M → lv_has ls 14 [(0, .ref (Y.2.1 58)), (1, .ref (Y.2.1 28)), (2, .int x2), (3, .int x3), (4, .int x4), (5, .int x5), (6, .int x6), (7, .int x7), (8, .int x8), (9, .int x9), (10, .int x10), (11, .int x11)] → W p l e ({ frames := 1 * (d + 1) + 27, cells := 0, slots := 0, locals := 33 * (d + 1) + 844 } : Room) s m args below meth c H locs 0 0 (sy_ZV below args s Y NX EX Q) (F0 m 82 ls []) := by
  have hx := C.1.1
  have hb := C.1.2.1
  intro M x2 x3 x4 x5 x6 x7 x8 x9 x10 x11 H locs ls hq hh hl
  unfold wX1_layPart_82 at hq
  refine lv_aload_n hx hb dX1_layPart_82 rfl (lv_at hl 1 rfl) ?_
  refine lv_iload_n hx hb dX1_layPart_83 rfl (lv_at hl 2 rfl) ?_
  refine lv_iload hx hb dX1_layPart_84 (lv_at hl 11 rfl) ?_
  refine lv_iload_n hx hb dX1_layPart_86 rfl (lv_at hl 3 rfl) ?_
  refine lv_iload hx hb dX1_layPart_87 (lv_at hl 7 rfl) ?_
  refine lv_iload hx hb dX1_layPart_89 (lv_at hl 6 rfl) ?_
  refine lv_iload hx hb dX1_layPart_91 (lv_at hl 8 rfl) ?_
  refine sy_cIS C hh (As := [.ref (Y.2.1 28), .int x2, .int x11, .int x3, .int x7, .int x6, .int x8]) (rest := []) (mX1_worstOfCut (fun sz M => mX1_leastWorst l Y 9 sz M) _ M x2 x11 x3 x7 x6 x8 _ hq) (va_cwS 7 C.1.2.2.2.2 (sy_goodS uX_good uX_71 uX_72 uX_73 uX_74 _) rfl rfl rfl hdX1_worstOfCut.2 ⟨by dsimp only; omega, by dsimp only; omega⟩) rfl hl.1 rfl (Nat.le_of_ble_eq_true rfl) dX1_layPart_93 (fun r7 M6 H locs hq hh => ?_)
  refine lv_istore (lv' := [(13, .int r7), (0, .ref (Y.2.1 58)), (1, .ref (Y.2.1 28)), (2, .int x2), (3, .int x3), (4, .int x4), (5, .int x5), (6, .int x6), (7, .int x7), (8, .int x8), (9, .int x9), (10, .int x10), (11, .int x11)]) hx hb dX1_layPart_96 hl (by decide) rfl (fun ls hl => ?_)
  refine lv_iload hx hb dX1_layPart_98 (lv_at hl 0 rfl) ?_
  refine lv_iload hx hb dX1_layPart_100 (lv_at hl 9 rfl) ?_
  refine lv_icmp_ge (tgt := 116) hx hb dX1_layPart_102 (by decide) (fun c8 => ?_) (fun c8 => ?_)
  · have hq := hq.1 c8
    refine lv_iinc (v := (x11 + (1 : Int32))) (lv' := [(11, .int (x11 + (1 : Int32))), (13, .int r7), (0, .ref (Y.2.1 58)), (1, .ref (Y.2.1 28)), (2, .int x2), (3, .int x3), (4, .int x4), (5, .int x5), (6, .int x6), (7, .int x7), (8, .int x8), (9, .int x9), (10, .int x10)]) hx hb dX1_layPart_116 hl (k := 12) rfl (sy_inc (by decide)) (by decide) rfl (fun ls hl => ?_)
    refine lv_goto (tgt := 42) hx hb dX1_layPart_119 (by decide) ?_
    exact hK_42 M6 x2 x3 x4 x5 x6 x7 x8 x9 x10 (x11 + (1 : Int32)) _ _ _ hq hh (lv_sub hl [2, 3, 4, 5, 6, 7, 8, 9, 10, 11, 12, 0] rfl)
  · have hq := hq.2 c8
    refine lv_iload hx hb dX1_layPart_105 (lv_at hl 0 rfl) ?_
    refine lv_istore (lv' := [(8, .int r7), (13, .int r7), (0, .ref (Y.2.1 58)), (1, .ref (Y.2.1 28)), (2, .int x2), (3, .int x3), (4, .int x4), (5, .int x5), (6, .int x6), (7, .int x7), (9, .int x9), (10, .int x10), (11, .int x11)]) hx hb dX1_layPart_107 hl (by decide) rfl (fun ls hl => ?_)
    refine lv_iload hx hb dX1_layPart_109 (lv_at hl 12 rfl) ?_
    refine lv_istore (lv' := [(9, .int x11), (8, .int r7), (13, .int r7), (0, .ref (Y.2.1 58)), (1, .ref (Y.2.1 28)), (2, .int x2), (3, .int x3), (4, .int x4), (5, .int x5), (6, .int x6), (7, .int x7), (10, .int x10), (11, .int x11)]) hx hb dX1_layPart_111 hl (by decide) rfl (fun ls hl => ?_)
    refine lv_iconst (v := (1 : Int32)) hx hb dX1_layPart_113 (by decide) ?_
    refine lv_istore (lv' := [(10, .int (1 : Int32)), (9, .int x11), (8, .int r7), (13, .int r7), (0, .ref (Y.2.1 58)), (1, .ref (Y.2.1 28)), (2, .int x2), (3, .int x3), (4, .int x4), (5, .int x5), (6, .int x6), (7, .int x7), (11, .int x11)]) hx hb dX1_layPart_114 hl (by decide) rfl (fun ls hl => ?_)
    refine lv_iinc (v := (x11 + (1 : Int32))) (lv' := [(11, .int (x11 + (1 : Int32))), (10, .int (1 : Int32)), (9, .int x11), (8, .int r7), (13, .int r7), (0, .ref (Y.2.1 58)), (1, .ref (Y.2.1 28)), (2, .int x2), (3, .int x3), (4, .int x4), (5, .int x5), (6, .int x6), (7, .int x7)]) hx hb dX1_layPart_116 hl (k := 12) rfl (sy_inc (by decide)) (by decide) rfl (fun ls hl => ?_)
    refine lv_goto (tgt := 42) hx hb dX1_layPart_119 (by decide) ?_
    exact hK_42 M6 x2 x3 x4 x5 x6 x7 r7 x11 (1 : Int32) (x11 + (1 : Int32)) _ _ _ hq hh (lv_sub hl [5, 6, 7, 8, 9, 10, 11, 12, 3, 2, 1, 0] rfl)

set_option maxHeartbeats 4000000 in
set_option maxRecDepth 100000 in
theorem kX1_layPart_42 (C : sy_C p m c cX1_layPart 14 s args vsX1_layPart RX1 meth none Y NX tfX) {rec : sy_M → Int32 → Int32 → Int32 → Int32 → Int32 → Int32 → (sy_M → Prop) → Prop} {d : Nat} (hrec : ∀ (sz : Nat) (M : sy_M) (a2 : Int32) (a3 : Int32) (a4 : Int32) (a5 : Int32) (a6 : Int32) (a7 : Int32) (Q : sy_M → Prop), rec M a2 a3 a4 a5 a6 a7 Q → Met l yX1_layPart vsX1_layPart ({ frames := 1 * d + 27, cells := 0, slots := 0, locals := 33 * d + 844 } : Room) (va_Pc [.ref (Y.2.1 58), .ref (Y.2.1 28), .int a2, .int a3, .int a4, .int a5, .int a6, .int a7] (sy_pre Y NX EX tfX sz M)) (sy_QV Y NX EX sz Q) 0 0 (sy_A NX Y.2.1 sz)) {Q : sy_M → Prop} {K_122 : sy_M → Int32 → Int32 → Int32 → Int32 → Int32 → Int32 → Int32 → Int32 → Prop} (hK_122 : ∀ (M : sy_M) (x2 : Int32) (x3 : Int32) (x4 : Int32) (x5 : Int32) (x6 : Int32) (x7 : Int32) (x9 : Int32) (x10 : Int32) (H : Heap) (locs : List Loc) (ls : Array Slot), K_122 M x2 x3 x4 x5 x6 x7 x9 x10 → sy_H Y NX EX s H locs M → lv_has ls 14 [(0, .ref (Y.2.1 58)), (1, .ref (Y.2.1 28)), (2, .int x2), (3, .int x3), (4, .int x4), (5, .int x5), (6, .int x6), (7, .int x7), (9, .int x9), (10, .int x10)] → W p l e ({ frames := 1 * (d + 1) + 27, cells := 0, slots := 0, locals := 33 * (d + 1) + 844 } : Room) s m args below meth c H locs 0 0 (sy_ZV below args s Y NX EX Q) (F0 m 122 ls [])) :
    ∀ (n : Nat) (M : sy_M) (x2 : Int32) (x3 : Int32) (x4 : Int32) (x5 : Int32) (x6 : Int32) (x7 : Int32) (x8 : Int32) (x9 : Int32) (x10 : Int32) (x11 : Int32) (H : Heap) (locs : List Loc) (ls : Array Slot), wX1_layPart_42 rec K_122 Q n M x2 x3 x4 x5 x6 x7 x8 x9 x10 x11 → sy_H Y NX EX s H locs M → lv_has ls 14 [(0, .ref (Y.2.1 58)), (1, .ref (Y.2.1 28)), (2, .int x2), (3, .int x3), (4, .int x4), (5, .int x5), (6, .int x6), (7, .int x7), (8, .int x8), (9, .int x9), (10, .int x10), (11, .int x11)] → W p l e ({ frames := 1 * (d + 1) + 27, cells := 0, slots := 0, locals := 33 * (d + 1) + 844 } : Room) s m args below meth c H locs 0 0 (sy_ZV below args s Y NX EX Q) (F0 m 42 ls []) := by
  have hx := C.1.1
  have hb := C.1.2.1
  intro n
  induction n with
  | zero =>
    intro M x2 x3 x4 x5 x6 x7 x8 x9 x10 x11 H locs ls hq hh hl
    unfold wX1_layPart_42 at hq
    exact hq.elim
  | succ n ih =>
    intro M x2 x3 x4 x5 x6 x7 x8 x9 x10 x11 H locs ls hq hh hl
    unfold wX1_layPart_42 at hq
    refine lv_iload hx hb dX1_layPart_42 (lv_at hl 11 rfl) ?_
    refine lv_iload_n hx hb dX1_layPart_44 rfl (lv_at hl 3 rfl) ?_
    refine lv_icmp_ge (tgt := 122) hx hb dX1_layPart_45 (by decide) (fun c2 => ?_) (fun c2 => ?_)
    · have hq := hq.1 c2
      exact hK_122 M x2 x3 x4 x5 x6 x7 x9 x10 _ _ _ hq hh (lv_sub hl [0, 1, 2, 3, 4, 5, 6, 7, 9, 10] rfl)
    · have hq := hq.2 c2
      refine lv_aload_n hx hb dX1_layPart_48 rfl (lv_at hl 1 rfl) ?_
      refine lv_iload_n hx hb dX1_layPart_49 rfl (lv_at hl 2 rfl) ?_
      refine lv_iload hx hb dX1_layPart_50 (lv_at hl 11 rfl) ?_
      refine lv_iload_n hx hb dX1_layPart_52 rfl (lv_at hl 3 rfl) ?_
      refine lv_iload hx hb dX1_layPart_53 (lv_at hl 6 rfl) ?_
      refine lv_iload hx hb dX1_layPart_55 (lv_at hl 7 rfl) ?_
      refine lv_iload hx hb dX1_layPart_57 (lv_at hl 8 rfl) ?_
      refine sy_cIS C hh (As := [.ref (Y.2.1 28), .int x2, .int x11, .int x3, .int x6, .int x7, .int x8]) (rest := []) (mX1_worstOfCut (fun sz M => mX1_leastWorst l Y 9 sz M) _ M x2 x11 x3 x6 x7 x8 _ hq) (va_cwS 7 C.1.2.2.2.2 (sy_goodS uX_good uX_71 uX_72 uX_73 uX_74 _) rfl rfl rfl hdX1_worstOfCut.2 ⟨by dsimp only; omega, by dsimp only; omega⟩) rfl hl.1 rfl (Nat.le_of_ble_eq_true rfl) dX1_layPart_59 (fun r4 M3 H locs hq hh => ?_)
      refine lv_istore (lv' := [(12, .int r4), (0, .ref (Y.2.1 58)), (1, .ref (Y.2.1 28)), (2, .int x2), (3, .int x3), (4, .int x4), (5, .int x5), (6, .int x6), (7, .int x7), (8, .int x8), (9, .int x9), (10, .int x10), (11, .int x11)]) hx hb dX1_layPart_62 hl (by decide) rfl (fun ls hl => ?_)
      refine lv_iload hx hb dX1_layPart_64 (lv_at hl 0 rfl) ?_
      refine lv_iload hx hb dX1_layPart_66 (lv_at hl 9 rfl) ?_
      refine lv_icmp_ge (tgt := 82) hx hb dX1_layPart_68 (by decide) (fun c5 => ?_) (fun c5 => ?_)
      · have hq := hq.1 c5
        refine kX1_layPart_82 C hrec (fun M9 x2_10 x3_11 x4_12 x5_13 x6_14 x7_15 x8_16 x9_17 x10_18 x11_19 H locs ls hq hh hl => ?_) M3 x2 x3 x4 x5 x6 x7 x8 x9 x10 x11 _ _ _ hq hh (lv_sub hl [1, 2, 3, 4, 5, 6, 7, 8, 9, 10, 11, 12] rfl)
        · exact ih M9 x2_10 x3_11 x4_12 x5_13 x6_14 x7_15 x8_16 x9_17 x10_18 x11_19 _ _ _ hq hh (lv_sub hl [0, 1, 2, 3, 4, 5, 6, 7, 8, 9, 10, 11] rfl)
      · have hq := hq.2 c5
        refine lv_iload hx hb dX1_layPart_71 (lv_at hl 0 rfl) ?_
        refine lv_istore (lv' := [(8, .int r4), (12, .int r4), (0, .ref (Y.2.1 58)), (1, .ref (Y.2.1 28)), (2, .int x2), (3, .int x3), (4, .int x4), (5, .int x5), (6, .int x6), (7, .int x7), (9, .int x9), (10, .int x10), (11, .int x11)]) hx hb dX1_layPart_73 hl (by decide) rfl (fun ls hl => ?_)
        refine lv_iload hx hb dX1_layPart_75 (lv_at hl 12 rfl) ?_
        refine lv_istore (lv' := [(9, .int x11), (8, .int r4), (12, .int r4), (0, .ref (Y.2.1 58)), (1, .ref (Y.2.1 28)), (2, .int x2), (3, .int x3), (4, .int x4), (5, .int x5), (6, .int x6), (7, .int x7), (10, .int x10), (11, .int x11)]) hx hb dX1_layPart_77 hl (by decide) rfl (fun ls hl => ?_)
        refine lv_iconst (v := (0 : Int32)) hx hb dX1_layPart_79 (by decide) ?_
        refine lv_istore (lv' := [(10, .int (0 : Int32)), (9, .int x11), (8, .int r4), (12, .int r4), (0, .ref (Y.2.1 58)), (1, .ref (Y.2.1 28)), (2, .int x2), (3, .int x3), (4, .int x4), (5, .int x5), (6, .int x6), (7, .int x7), (11, .int x11)]) hx hb dX1_layPart_80 hl (by decide) rfl (fun ls hl => ?_)
        refine kX1_layPart_82 C hrec (fun M20 x2_21 x3_22 x4_23 x5_24 x6_25 x7_26 x8_27 x9_28 x10_29 x11_30 H locs ls hq hh hl => ?_) M3 x2 x3 x4 x5 x6 x7 r4 x11 (0 : Int32) x11 _ _ _ hq hh (lv_sub hl [4, 5, 6, 7, 8, 9, 10, 11, 2, 1, 0, 12] rfl)
        · exact ih M20 x2_21 x3_22 x4_23 x5_24 x6_25 x7_26 x8_27 x9_28 x10_29 x11_30 _ _ _ hq hh (lv_sub hl [0, 1, 2, 3, 4, 5, 6, 7, 8, 9, 10, 11] rfl)

set_option maxHeartbeats 4000000 in
set_option maxRecDepth 100000 in
theorem kX1_layPart_134 (C : sy_C p m c cX1_layPart 14 s args vsX1_layPart RX1 meth none Y NX tfX) {rec : sy_M → Int32 → Int32 → Int32 → Int32 → Int32 → Int32 → (sy_M → Prop) → Prop} {d : Nat} (hrec : ∀ (sz : Nat) (M : sy_M) (a2 : Int32) (a3 : Int32) (a4 : Int32) (a5 : Int32) (a6 : Int32) (a7 : Int32) (Q : sy_M → Prop), rec M a2 a3 a4 a5 a6 a7 Q → Met l yX1_layPart vsX1_layPart ({ frames := 1 * d + 27, cells := 0, slots := 0, locals := 33 * d + 844 } : Room) (va_Pc [.ref (Y.2.1 58), .ref (Y.2.1 28), .int a2, .int a3, .int a4, .int a5, .int a6, .int a7] (sy_pre Y NX EX tfX sz M)) (sy_QV Y NX EX sz Q) 0 0 (sy_A NX Y.2.1 sz)) {Q : sy_M → Prop} :
    ∀ (M : sy_M) (x2 : Int32) (x3 : Int32) (x4 : Int32) (x5 : Int32) (x6 : Int32) (x7 : Int32) (x9 : Int32) (x10 : Int32) (s0 : Int32) (H : Heap) (locs : List Loc) (ls : Array Slot), wX1_layPart_134 rec Q M x2 x3 x4 x5 x6 x7 x9 x10 s0 → sy_H Y NX EX s H locs M → lv_has ls 14 [(0, .ref (Y.2.1 58)), (1, .ref (Y.2.1 28)), (2, .int x2), (3, .int x3), (4, .int x4), (5, .int x5), (6, .int x6), (7, .int x7), (9, .int x9), (10, .int x10)] → W p l e ({ frames := 1 * (d + 1) + 27, cells := 0, slots := 0, locals := 33 * (d + 1) + 844 } : Room) s m args below meth c H locs 0 0 (sy_ZV below args s Y NX EX Q) (F0 m 134 ls [.int s0]) := by
  have hx := C.1.1
  have hb := C.1.2.1
  intro M x2 x3 x4 x5 x6 x7 x9 x10 s0 H locs ls hq hh hl
  unfold wX1_layPart_134 at hq
  refine lv_aload_n hx hb dX1_layPart_134 rfl (lv_at hl 1 rfl) ?_
  refine lv_iload_n hx hb dX1_layPart_135 rfl (lv_at hl 2 rfl) ?_
  refine lv_iload hx hb dX1_layPart_136 (lv_at hl 8 rfl) ?_
  refine sy_cIV C hh (As := [.int x2, .int x9]) (rest := [.int s0]) 28 (by decide) (oX_28 Y) rfl (mX3_sum l Y _ M x2 x9 _ hq) (cwV 2 C.1.2.2.2.2 (sy_goodV uX_good uX_67 uX_68 uX_69 uX_70 uX_59 _) rfl rfl rfl hdX3_sum ⟨by dsimp only; omega, by dsimp only; omega⟩) rfl hl.1 rfl (Nat.le_of_ble_eq_true rfl) dX1_layPart_138 (fun r42 M41 H locs hq hh => ?_)
  refine lv_aload_n hx hb dX1_layPart_141 rfl (lv_at hl 1 rfl) ?_
  refine lv_iload_n hx hb dX1_layPart_142 rfl (lv_at hl 2 rfl) ?_
  refine lv_iload_n hx hb dX1_layPart_143 rfl (lv_at hl 3 rfl) ?_
  refine sy_cIV C hh (As := [.int x2, .int x3]) (rest := [.int r42, .int s0]) 28 (by decide) (oX_28 Y) rfl (mX3_sum l Y _ M41 x2 x3 _ hq) (cwV 2 C.1.2.2.2.2 (sy_goodV uX_good uX_67 uX_68 uX_69 uX_70 uX_59 _) rfl rfl rfl hdX3_sum ⟨by dsimp only; omega, by dsimp only; omega⟩) rfl hl.1 rfl (Nat.le_of_ble_eq_true rfl) dX1_layPart_144 (fun r44 M43 H locs hq hh => ?_)
  refine sy_cIN C hh (As := [.int s0, .int r42, .int r44]) (rest := []) (mX11_share l Y _ M43 s0 r42 r44 _ hq) ⟨va_cnB 3 C.1.2.2.2.2 (sy_goodN uX_good uX_61 _) rfl rfl rfl (C.2.1.2.1 ("AreaSetter$Cutter", 58, yX11_share) (by simp)) (C.1.2.2.2.2 _ (mc uX_58)) hdX11_share.2 ⟨by dsimp only; omega, by dsimp only; omega⟩, C.1.2.2.2.2 _ (mc uX_76), trivial⟩ rfl hl.1 rfl (Nat.le_of_ble_eq_true rfl) dX1_layPart_147 (fun r46 M45 H locs hq hh => ?_)
  refine lv_istore (lv' := [(11, .int r46), (0, .ref (Y.2.1 58)), (1, .ref (Y.2.1 28)), (2, .int x2), (3, .int x3), (4, .int x4), (5, .int x5), (6, .int x6), (7, .int x7), (9, .int x9), (10, .int x10)]) hx hb dX1_layPart_150 hl (by decide) rfl (fun ls hl => ?_)
  refine lv_iload hx hb dX1_layPart_152 (lv_at hl 10 rfl) ?_
  refine lv_if_eq (tgt := 198) hx hb dX1_layPart_154 (by decide) (fun c47 => ?_) (fun c47 => ?_)
  · have hq := hq.1 c47
    refine lv_aload_n hx hb dX1_layPart_198 rfl (lv_at hl 1 rfl) ?_
    refine lv_aload_n hx hb dX1_layPart_199 rfl (lv_at hl 2 rfl) ?_
    refine lv_iload_n hx hb dX1_layPart_200 rfl (lv_at hl 3 rfl) ?_
    refine lv_iload hx hb dX1_layPart_201 (lv_at hl 9 rfl) ?_
    refine lv_iload hx hb dX1_layPart_203 (lv_at hl 5 rfl) ?_
    refine lv_iload hx hb dX1_layPart_205 (lv_at hl 6 rfl) ?_
    refine lv_iload hx hb dX1_layPart_207 (lv_at hl 0 rfl) ?_
    refine lv_iload hx hb dX1_layPart_209 (lv_at hl 8 rfl) ?_
    refine sy_cVV C hh (As := [.ref (Y.2.1 28), .int x2, .int x9, .int x4, .int x5, .int r46, .int x7]) (rest := []) 58 (by decide) (oX_58 Y) rfl (hrec _ M45 x2 x9 x4 x5 r46 x7 _ hq) (cwV 7 C.1.2.2.2.2 (sy_goodV uX_good uX_84 uX_85 uX_86 uX_73 uX_87 _) rfl rfl rfl hdX1_layPart ⟨by dsimp only; omega, by dsimp only; omega⟩) rfl hl.1 rfl (Nat.le_of_ble_eq_true rfl) dX1_layPart_211 (fun M48 H locs hq hh => ?_)
    refine lv_aload_n hx hb dX1_layPart_214 rfl (lv_at hl 1 rfl) ?_
    refine lv_aload_n hx hb dX1_layPart_215 rfl (lv_at hl 2 rfl) ?_
    refine lv_iload hx hb dX1_layPart_216 (lv_at hl 9 rfl) ?_
    refine lv_iload_n hx hb dX1_layPart_218 rfl (lv_at hl 4 rfl) ?_
    refine lv_iload hx hb dX1_layPart_219 (lv_at hl 5 rfl) ?_
    refine lv_iload hx hb dX1_layPart_221 (lv_at hl 0 rfl) ?_
    refine lv_iadd hx hb dX1_layPart_223 ?_
    refine lv_iload hx hb dX1_layPart_224 (lv_at hl 6 rfl) ?_
    refine lv_iload hx hb dX1_layPart_226 (lv_at hl 7 rfl) ?_
    refine lv_iload hx hb dX1_layPart_228 (lv_at hl 0 rfl) ?_
    refine lv_isub hx hb dX1_layPart_230 ?_
    refine lv_iload hx hb dX1_layPart_231 (lv_at hl 8 rfl) ?_
    refine sy_cVV C hh (As := [.ref (Y.2.1 28), .int x9, .int x3, .int (x4 + r46), .int x5, .int (x6 - r46), .int x7]) (rest := []) 58 (by decide) (oX_58 Y) rfl (hrec _ M48 x9 x3 (x4 + r46) x5 (x6 - r46) x7 _ hq) (cwV 7 C.1.2.2.2.2 (sy_goodV uX_good uX_84 uX_85 uX_86 uX_73 uX_87 _) rfl rfl rfl hdX1_layPart ⟨by dsimp only; omega, by dsimp only; omega⟩) rfl hl.1 rfl (Nat.le_of_ble_eq_true rfl) dX1_layPart_233 (fun M49 H locs hq hh => ?_)
    exact sy_vret C hh dX1_layPart_236 hq
  · have hq := hq.2 c47
    refine lv_aload_n hx hb dX1_layPart_157 rfl (lv_at hl 1 rfl) ?_
    refine lv_aload_n hx hb dX1_layPart_158 rfl (lv_at hl 2 rfl) ?_
    refine lv_iload_n hx hb dX1_layPart_159 rfl (lv_at hl 3 rfl) ?_
    refine lv_iload hx hb dX1_layPart_160 (lv_at hl 9 rfl) ?_
    refine lv_iload hx hb dX1_layPart_162 (lv_at hl 5 rfl) ?_
    refine lv_iload hx hb dX1_layPart_164 (lv_at hl 6 rfl) ?_
    refine lv_iload hx hb dX1_layPart_166 (lv_at hl 7 rfl) ?_
    refine lv_iload hx hb dX1_layPart_168 (lv_at hl 0 rfl) ?_
    refine sy_cVV C hh (As := [.ref (Y.2.1 28), .int x2, .int x9, .int x4, .int x5, .int x6, .int r46]) (rest := []) 58 (by decide) (oX_58 Y) rfl (hrec _ M45 x2 x9 x4 x5 x6 r46 _ hq) (cwV 7 C.1.2.2.2.2 (sy_goodV uX_good uX_84 uX_85 uX_86 uX_73 uX_87 _) rfl rfl rfl hdX1_layPart ⟨by dsimp only; omega, by dsimp only; omega⟩) rfl hl.1 rfl (Nat.le_of_ble_eq_true rfl) dX1_layPart_170 (fun M50 H locs hq hh => ?_)
    refine lv_aload_n hx hb dX1_layPart_173 rfl (lv_at hl 1 rfl) ?_
    refine lv_aload_n hx hb dX1_layPart_174 rfl (lv_at hl 2 rfl) ?_
    refine lv_iload hx hb dX1_layPart_175 (lv_at hl 9 rfl) ?_
    refine lv_iload_n hx hb dX1_layPart_177 rfl (lv_at hl 4 rfl) ?_
    refine lv_iload hx hb dX1_layPart_178 (lv_at hl 5 rfl) ?_
    refine lv_iload hx hb dX1_layPart_180 (lv_at hl 6 rfl) ?_
    refine lv_iload hx hb dX1_layPart_182 (lv_at hl 0 rfl) ?_
    refine lv_iadd hx hb dX1_layPart_184 ?_
    refine lv_iload hx hb dX1_layPart_185 (lv_at hl 7 rfl) ?_
    refine lv_iload hx hb dX1_layPart_187 (lv_at hl 8 rfl) ?_
    refine lv_iload hx hb dX1_layPart_189 (lv_at hl 0 rfl) ?_
    refine lv_isub hx hb dX1_layPart_191 ?_
    refine sy_cVV C hh (As := [.ref (Y.2.1 28), .int x9, .int x3, .int x4, .int (x5 + r46), .int x6, .int (x7 - r46)]) (rest := []) 58 (by decide) (oX_58 Y) rfl (hrec _ M50 x9 x3 x4 (x5 + r46) x6 (x7 - r46) _ hq) (cwV 7 C.1.2.2.2.2 (sy_goodV uX_good uX_84 uX_85 uX_86 uX_73 uX_87 _) rfl rfl rfl hdX1_layPart ⟨by dsimp only; omega, by dsimp only; omega⟩) rfl hl.1 rfl (Nat.le_of_ble_eq_true rfl) dX1_layPart_192 (fun M51 H locs hq hh => ?_)
    refine lv_goto (tgt := 236) hx hb dX1_layPart_195 (by decide) ?_
    exact sy_vret C hh dX1_layPart_236 hq

end
set_option maxHeartbeats 4000000 in
set_option maxRecDepth 100000 in
theorem mX1_layPart_b {l : Launch} {Y : sy_Y} {rec : sy_M → Int32 → Int32 → Int32 → Int32 → Int32 → Int32 → (sy_M → Prop) → Prop} {d : Nat} (hrec : ∀ (sz : Nat) (M : sy_M) (a2 : Int32) (a3 : Int32) (a4 : Int32) (a5 : Int32) (a6 : Int32) (a7 : Int32) (Q : sy_M → Prop), rec M a2 a3 a4 a5 a6 a7 Q → Met l yX1_layPart vsX1_layPart ({ frames := 1 * d + 27, cells := 0, slots := 0, locals := 33 * d + 844 } : Room) (va_Pc [.ref (Y.2.1 58), .ref (Y.2.1 28), .int a2, .int a3, .int a4, .int a5, .int a6, .int a7] (sy_pre Y NX EX tfX sz M)) (sy_QV Y NX EX sz Q) 0 0 (sy_A NX Y.2.1 sz)) (sz : Nat) (M : sy_M) (a2 : Int32) (a3 : Int32) (a4 : Int32) (a5 : Int32) (a6 : Int32) (a7 : Int32) (Q : sy_M → Prop) (hq : wX1_layPart_b rec M a2 a3 a4 a5 a6 a7 Q) : Met l yX1_layPart vsX1_layPart ({ frames := 1 * (d + 1) + 27, cells := 0, slots := 0, locals := 33 * (d + 1) + 844 } : Room) (va_Pc [.ref (Y.2.1 58), .ref (Y.2.1 28), .int a2, .int a3, .int a4, .int a5, .int a6, .int a7] (sy_pre Y NX EX tfX sz M)) (sy_QV Y NX EX sz Q) 0 0 (sy_A NX Y.2.1 sz) := by
  refine sy_metV (by decide) rfl (Nat.le_of_ble_eq_true rfl) ?_
  intro p e s m args below meth c C ls hl hh
  have hx := C.1.1
  have hb := C.1.2.1
  have hl : lv_has ls 14 [(0, .ref (Y.2.1 58)), (1, .ref (Y.2.1 28)), (2, .int a2), (3, .int a3), (4, .int a4), (5, .int a5), (6, .int a6), (7, .int a7)] := hl
  unfold wX1_layPart_b at hq
  refine lv_iload_n hx hb dX1_layPart_0 rfl (lv_at hl 3 rfl) ?_
  refine lv_iload_n hx hb dX1_layPart_1 rfl (lv_at hl 2 rfl) ?_
  refine lv_isub hx hb dX1_layPart_2 ?_
  refine lv_iconst (v := (1 : Int32)) hx hb dX1_layPart_3 (by decide) ?_
  refine lv_icmp_gt (tgt := 25) hx hb dX1_layPart_4 (by decide) (fun c1 => ?_) (fun c1 => ?_)
  · have hq := hq.1 c1
    refine lv_ldc (v := (nI 2147483647)) hx hb C.1.2.2.2.1 (C.1.2.2.2.2 (.constant RX1 49 (nI 2147483647)) (mc uX_80)) dX1_layPart_25 ?_
    refine lv_istore (lv' := [(8, .int (nI 2147483647)), (0, .ref (Y.2.1 58)), (1, .ref (Y.2.1 28)), (2, .int a2), (3, .int a3), (4, .int a4), (5, .int a5), (6, .int a6), (7, .int a7)]) hx hb dX1_layPart_27 hl (by decide) rfl (fun ls hl => ?_)
    refine lv_iload_n hx hb dX1_layPart_29 rfl (lv_at hl 3 rfl) ?_
    refine lv_iconst (v := (1 : Int32)) hx hb dX1_layPart_30 (by decide) ?_
    refine lv_iadd hx hb dX1_layPart_31 ?_
    refine lv_istore (lv' := [(9, .int (a2 + (1 : Int32))), (8, .int (nI 2147483647)), (0, .ref (Y.2.1 58)), (1, .ref (Y.2.1 28)), (2, .int a2), (3, .int a3), (4, .int a4), (5, .int a5), (6, .int a6), (7, .int a7)]) hx hb dX1_layPart_32 hl (by decide) rfl (fun ls hl => ?_)
    refine lv_iconst (v := (0 : Int32)) hx hb dX1_layPart_34 (by decide) ?_
    refine lv_istore (lv' := [(10, .int (0 : Int32)), (9, .int (a2 + (1 : Int32))), (8, .int (nI 2147483647)), (0, .ref (Y.2.1 58)), (1, .ref (Y.2.1 28)), (2, .int a2), (3, .int a3), (4, .int a4), (5, .int a5), (6, .int a6), (7, .int a7)]) hx hb dX1_layPart_35 hl (by decide) rfl (fun ls hl => ?_)
    refine lv_iload_n hx hb dX1_layPart_37 rfl (lv_at hl 5 rfl) ?_
    refine lv_iconst (v := (1 : Int32)) hx hb dX1_layPart_38 (by decide) ?_
    refine lv_iadd hx hb dX1_layPart_39 ?_
    refine lv_istore (lv' := [(11, .int (a2 + (1 : Int32))), (10, .int (0 : Int32)), (9, .int (a2 + (1 : Int32))), (8, .int (nI 2147483647)), (0, .ref (Y.2.1 58)), (1, .ref (Y.2.1 28)), (2, .int a2), (3, .int a3), (4, .int a4), (5, .int a5), (6, .int a6), (7, .int a7)]) hx hb dX1_layPart_40 hl (by decide) rfl (fun ls hl => ?_)
    obtain ⟨n52, hq⟩ := hq
    refine kX1_layPart_42 C hrec (fun M31 x2_32 x3_33 x4_34 x5_35 x6_36 x7_37 x9_38 x10_39 H locs ls hq hh hl => ?_) n52 M a2 a3 a4 a5 a6 a7 (nI 2147483647) (a2 + (1 : Int32)) (0 : Int32) (a2 + (1 : Int32)) _ _ _ hq hh (lv_sub hl [4, 5, 6, 7, 8, 9, 10, 11, 3, 2, 1, 0] rfl)
    · refine lv_iload hx hb dX1_layPart_122 (lv_at hl 9 rfl) ?_
      refine lv_if_eq (tgt := 132) hx hb dX1_layPart_124 (by decide) (fun c40 => ?_) (fun c40 => ?_)
      · have hq := hq.1 c40
        refine lv_iload hx hb dX1_layPart_132 (lv_at hl 6 rfl) ?_
        refine kX1_layPart_134 C hrec  M31 x2_32 x3_33 x4_34 x5_35 x6_36 x7_37 x9_38 x10_39 x6_36 _ _ _ hq hh (lv_sub hl [0, 1, 2, 3, 4, 5, 6, 7, 8, 9] rfl)
      · have hq := hq.2 c40
        refine lv_iload hx hb dX1_layPart_127 (lv_at hl 7 rfl) ?_
        refine lv_goto (tgt := 134) hx hb dX1_layPart_129 (by decide) ?_
        refine kX1_layPart_134 C hrec  M31 x2_32 x3_33 x4_34 x5_35 x6_36 x7_37 x9_38 x10_39 x7_37 _ _ _ hq hh (lv_sub hl [0, 1, 2, 3, 4, 5, 6, 7, 8, 9] rfl)
  · have hq := hq.2 c1
    refine lv_aload_n hx hb dX1_layPart_7 rfl (lv_at hl 0 rfl) ?_
    refine sy_get C hh (fun w h => mc (uX_fX1 w h)) 58 (by decide) (oX_58 Y) rfl 0 (by decide) (index := 12) (mc uX_45) (v := .ref (Y.2.1 47)) rfl dX1_layPart_8 ?_
    refine lv_aload_n hx hb dX1_layPart_11 rfl (lv_at hl 1 rfl) ?_
    refine lv_iload_n hx hb dX1_layPart_12 rfl (lv_at hl 2 rfl) ?_
    refine lv_iload hx hb dX1_layPart_13 (lv_at hl 4 rfl) ?_
    refine lv_iload hx hb dX1_layPart_15 (lv_at hl 5 rfl) ?_
    refine lv_iload hx hb dX1_layPart_17 (lv_at hl 6 rfl) ?_
    refine lv_iload hx hb dX1_layPart_19 (lv_at hl 7 rfl) ?_
    refine sy_cVV C hh (As := [.ref (Y.2.1 28), .int a2, .int a4, .int a5, .int a6, .int a7]) (rest := []) 47 (by decide) (oX_47 Y) rfl (mX5_put l Y _ M 47 iX5_47 a2 a4 a5 a6 a7 _ hq) (cwV 6 C.1.2.2.2.2 (sy_goodV uX_good uX_81 uX_82 uX_83 uX_44 uX_51 _) rfl rfl rfl hdX5_put ⟨by dsimp only; omega, by dsimp only; omega⟩) rfl hl.1 rfl (Nat.le_of_ble_eq_true rfl) dX1_layPart_21 (fun M53 H locs hq hh => ?_)
    exact sy_vret C hh dX1_layPart_24 hq

set_option maxHeartbeats 4000000 in
theorem mX1_layPart (l : Launch) (Y : sy_Y) : ∀ (d : Nat) (sz : Nat) (M : sy_M) (a2 : Int32) (a3 : Int32) (a4 : Int32) (a5 : Int32) (a6 : Int32) (a7 : Int32) (Q : sy_M → Prop), wX1_layPart d M a2 a3 a4 a5 a6 a7 Q → Met l yX1_layPart vsX1_layPart ({ frames := 1 * d + 27, cells := 0, slots := 0, locals := 33 * d + 844 } : Room) (va_Pc [.ref (Y.2.1 58), .ref (Y.2.1 28), .int a2, .int a3, .int a4, .int a5, .int a6, .int a7] (sy_pre Y NX EX tfX sz M)) (sy_QV Y NX EX sz Q) 0 0 (sy_A NX Y.2.1 sz)
  | 0, _, _, _, _, _, _, _, _, _, hq => by unfold wX1_layPart at hq; exact hq.elim
  | d + 1, sz, M, a2, a3, a4, a5, a6, a7, Q, hq => by
    unfold wX1_layPart at hq
    exact mX1_layPart_b (d := d) (rec := wX1_layPart d) (fun sz M => mX1_layPart l Y d sz M) sz M a2 a3 a4 a5 a6 a7 Q hq
