/-! AreaSetter$Cutter.leastWorst(IIIII)I -/
def wX1_leastWorst_58 (rec : sy_M → Int32 → Int32 → Int32 → Int32 → Int32 → (Int32 → sy_M → Prop) → Prop) (Q : Int32 → sy_M → Prop) : Nat → sy_M → Int32 → Int32 → Int32 → Int32 → Int32 → Int32 → Prop
  | 0, _, _, _, _, _, _, _ => False
  | n + 1, M, x1, x2, x3, x4, x6, x7 => ((x2 ≤ x7 → Q x6 M) ∧ (¬ x2 ≤ x7 → wX1_worstOfCut rec M x1 x7 x2 x3 x4 x6 (fun r10 M9 => wX1_worstOfCut rec M9 x1 x7 x2 x4 x3 (imin x6 r10) (fun r12 M11 => wX1_leastWorst_58 rec Q n M11 x1 x2 x3 x4 (imin (imin x6 r10) r12) (x7 + (1 : Int32))))))
def wX1_leastWorst_b (rec : sy_M → Int32 → Int32 → Int32 → Int32 → Int32 → (Int32 → sy_M → Prop) → Prop) (M : sy_M) (a1 : Int32) (a2 : Int32) (a3 : Int32) (a4 : Int32) (a5 : Int32) (Q : Int32 → sy_M → Prop) : Prop := (((1 : Int32) < (a2 - a1) → M 58 0 = nI 28 ∧ wX3_sum M a1 a2 (fun r4 M3 => ((¬ r4 = 0 → ((a3 = 0 → Q (nI 1000000) M3) ∧ (¬ a3 = 0 → ((¬ a4 = 0 → ∃ n13 : Nat, wX1_leastWorst_58 rec  Q n13 M3 a1 a2 a3 a4 a5 (a1 + (1 : Int32))) ∧ (a4 = 0 → Q (nI 1000000) M3))))) ∧ (r4 = 0 → Q (0 : Int32) M3)))) ∧ (¬ (1 : Int32) < (a2 - a1) → M 58 0 = nI 28 ∧ ∃ n15 : Nat, n15 < 8 ∧ a1 = nI n15 ∧ wX11_shapeOf M (M 30 n15) a3 a4 (fun r17 M16 => Q r17 M16)))
def wX1_leastWorst : Nat → sy_M → Int32 → Int32 → Int32 → Int32 → Int32 → (Int32 → sy_M → Prop) → Prop
  | 0, _, _, _, _, _, _, _ => False
  | d + 1, M, a1, a2, a3, a4, a5, Q => wX1_leastWorst_b (wX1_leastWorst d) M a1 a2 a3 a4 a5 Q
section
variable {p : Program} {l : Launch} {e : Env} {s : State} {m : MethodId} {args : Array Value} {below : List Frame} {meth : Method} {c : Code} {Y : sy_Y}
set_option maxHeartbeats 4000000 in
set_option maxRecDepth 100000 in
theorem kX1_leastWorst_58 (C : sy_C p m c cX1_leastWorst 8 s args vsX1_leastWorst RX1 meth (some .int) Y NX tfX) {rec : sy_M → Int32 → Int32 → Int32 → Int32 → Int32 → (Int32 → sy_M → Prop) → Prop} {d : Nat} (hrec : ∀ (sz : Nat) (M : sy_M) (a1 : Int32) (a2 : Int32) (a3 : Int32) (a4 : Int32) (a5 : Int32) (Q : Int32 → sy_M → Prop), rec M a1 a2 a3 a4 a5 Q → Met l yX1_leastWorst vsX1_leastWorst ({ frames := 2 * d + 4, cells := 0, slots := 0, locals := 57 * d + 152 } : Room) (va_Pc [.ref (Y.2.1 58), .int a1, .int a2, .int a3, .int a4, .int a5] (sy_pre Y NX EX tfX sz M)) (sy_QI Y NX EX sz Q) 0 0 (sy_A NX Y.2.1 sz)) {Q : Int32 → sy_M → Prop} :
    ∀ (n : Nat) (M : sy_M) (x1 : Int32) (x2 : Int32) (x3 : Int32) (x4 : Int32) (x6 : Int32) (x7 : Int32) (H : Heap) (locs : List Loc) (ls : Array Slot), wX1_leastWorst_58 rec Q n M x1 x2 x3 x4 x6 x7 → sy_H Y NX EX s H locs M → lv_has ls 8 [(0, .ref (Y.2.1 58)), (1, .int x1), (2, .int x2), (3, .int x3), (4, .int x4), (6, .int x6), (7, .int x7)] → W p l e ({ frames := 2 * (d + 1) + 4, cells := 0, slots := 0, locals := 57 * (d + 1) + 152 } : Room) s m args below meth c H locs 0 0 (sy_ZI below args s Y NX EX Q) (F0 m 58 ls []) := by
  have hx := C.1.1
  have hb := C.1.2.1
  intro n
  induction n with
  | zero =>
    intro M x1 x2 x3 x4 x6 x7 H locs ls hq hh hl
    unfold wX1_leastWorst_58 at hq
    exact hq.elim
  | succ n ih =>
    intro M x1 x2 x3 x4 x6 x7 H locs ls hq hh hl
    unfold wX1_leastWorst_58 at hq
    refine lv_iload hx hb dX1_leastWorst_58 (lv_at hl 6 rfl) ?_
    refine lv_iload_n hx hb dX1_leastWorst_60 rfl (lv_at hl 2 rfl) ?_
    refine lv_icmp_ge (tgt := 110) hx hb dX1_leastWorst_61 (by decide) (fun c8 => ?_) (fun c8 => ?_)
    · have hq := hq.1 c8
      refine lv_iload hx hb dX1_leastWorst_110 (lv_at hl 5 rfl) ?_
      exact sy_iret C hh dX1_leastWorst_112 hq
    · have hq := hq.2 c8
      refine lv_iload hx hb dX1_leastWorst_64 (lv_at hl 5 rfl) ?_
      refine lv_aload_n hx hb dX1_leastWorst_66 rfl (lv_at hl 0 rfl) ?_
      refine lv_iload_n hx hb dX1_leastWorst_67 rfl (lv_at hl 1 rfl) ?_
      refine lv_iload hx hb dX1_leastWorst_68 (lv_at hl 6 rfl) ?_
      refine lv_iload_n hx hb dX1_leastWorst_70 rfl (lv_at hl 2 rfl) ?_
      refine lv_iload_n hx hb dX1_leastWorst_71 rfl (lv_at hl 3 rfl) ?_
      refine lv_iload hx hb dX1_leastWorst_72 (lv_at hl 4 rfl) ?_
      refine lv_iload hx hb dX1_leastWorst_74 (lv_at hl 5 rfl) ?_
      refine sy_cIV C hh (As := [.int x1, .int x7, .int x2, .int x3, .int x4, .int x6]) (rest := [.int x6]) 58 (by decide) (oX_58 Y) rfl (mX1_worstOfCut hrec _ M x1 x7 x2 x3 x4 x6 _ hq) (cwV 6 C.1.2.2.2.2 (sy_goodV uX_good uX_59 uX_60 uX_61 uX_62 uX_63 _) rfl rfl rfl hdX1_worstOfCut ⟨by dsimp only; omega, by dsimp only; omega⟩) rfl hl.1 rfl (Nat.le_of_ble_eq_true rfl) dX1_leastWorst_76 (fun r10 M9 H locs hq hh => ?_)
      refine sy_mmin C hl (index := 82) (mc uX_54) (mc uX_30) (mc uX_31) (mc uX_32) (by dsimp only; omega) (by simp [Value.category] <;> omega) dX1_leastWorst_79 ?_
      refine lv_istore (lv' := [(6, .int (imin x6 r10)), (0, .ref (Y.2.1 58)), (1, .int x1), (2, .int x2), (3, .int x3), (4, .int x4), (7, .int x7)]) hx hb dX1_leastWorst_82 hl (by decide) rfl (fun ls hl => ?_)
      refine lv_iload hx hb dX1_leastWorst_84 (lv_at hl 0 rfl) ?_
      refine lv_aload_n hx hb dX1_leastWorst_86 rfl (lv_at hl 1 rfl) ?_
      refine lv_iload_n hx hb dX1_leastWorst_87 rfl (lv_at hl 2 rfl) ?_
      refine lv_iload hx hb dX1_leastWorst_88 (lv_at hl 6 rfl) ?_
      refine lv_iload_n hx hb dX1_leastWorst_90 rfl (lv_at hl 3 rfl) ?_
      refine lv_iload hx hb dX1_leastWorst_91 (lv_at hl 5 rfl) ?_
      refine lv_iload_n hx hb dX1_leastWorst_93 rfl (lv_at hl 4 rfl) ?_
      refine lv_iload hx hb dX1_leastWorst_94 (lv_at hl 0 rfl) ?_
      refine sy_cIV C hh (As := [.int x1, .int x7, .int x2, .int x4, .int x3, .int (imin x6 r10)]) (rest := [.int (imin x6 r10)]) 58 (by decide) (oX_58 Y) rfl (mX1_worstOfCut hrec _ M9 x1 x7 x2 x4 x3 (imin x6 r10) _ hq) (cwV 6 C.1.2.2.2.2 (sy_goodV uX_good uX_59 uX_60 uX_61 uX_62 uX_63 _) rfl rfl rfl hdX1_worstOfCut ⟨by dsimp only; omega, by dsimp only; omega⟩) rfl hl.1 rfl (Nat.le_of_ble_eq_true rfl) dX1_leastWorst_96 (fun r12 M11 H locs hq hh => ?_)
      refine sy_mmin C hl (index := 82) (mc uX_54) (mc uX_30) (mc uX_31) (mc uX_32) (by dsimp only; omega) (by simp [Value.category] <;> omega) dX1_leastWorst_99 ?_
      refine lv_istore (lv' := [(6, .int (imin (imin x6 r10) r12)), (0, .ref (Y.2.1 58)), (1, .int x1), (2, .int x2), (3, .int x3), (4, .int x4), (7, .int x7)]) hx hb dX1_leastWorst_102 hl (by decide) rfl (fun ls hl => ?_)
      refine lv_iinc (v := (x7 + (1 : Int32))) (lv' := [(7, .int (x7 + (1 : Int32))), (6, .int (imin (imin x6 r10) r12)), (0, .ref (Y.2.1 58)), (1, .int x1), (2, .int x2), (3, .int x3), (4, .int x4)]) hx hb dX1_leastWorst_104 hl (k := 6) rfl (sy_inc (by decide)) (by decide) rfl (fun ls hl => ?_)
      refine lv_goto (tgt := 58) hx hb dX1_leastWorst_107 (by decide) ?_
      exact ih M11 x1 x2 x3 x4 (imin (imin x6 r10) r12) (x7 + (1 : Int32)) _ _ _ hq hh (lv_sub hl [2, 3, 4, 5, 6, 1, 0] rfl)

end
set_option maxHeartbeats 4000000 in
set_option maxRecDepth 100000 in
theorem mX1_leastWorst_b {l : Launch} {Y : sy_Y} {rec : sy_M → Int32 → Int32 → Int32 → Int32 → Int32 → (Int32 → sy_M → Prop) → Prop} {d : Nat} (hrec : ∀ (sz : Nat) (M : sy_M) (a1 : Int32) (a2 : Int32) (a3 : Int32) (a4 : Int32) (a5 : Int32) (Q : Int32 → sy_M → Prop), rec M a1 a2 a3 a4 a5 Q → Met l yX1_leastWorst vsX1_leastWorst ({ frames := 2 * d + 4, cells := 0, slots := 0, locals := 57 * d + 152 } : Room) (va_Pc [.ref (Y.2.1 58), .int a1, .int a2, .int a3, .int a4, .int a5] (sy_pre Y NX EX tfX sz M)) (sy_QI Y NX EX sz Q) 0 0 (sy_A NX Y.2.1 sz)) (sz : Nat) (M : sy_M) (a1 : Int32) (a2 : Int32) (a3 : Int32) (a4 : Int32) (a5 : Int32) (Q : Int32 → sy_M → Prop) (hq : wX1_leastWorst_b rec M a1 a2 a3 a4 a5 Q) : Met l yX1_leastWorst vsX1_leastWorst ({ frames := 2 * (d + 1) + 4, cells := 0, slots := 0, locals := 57 * (d + 1) + 152 } : Room) (va_Pc [.ref (Y.2.1 58), .int a1, .int a2, .int a3, .int a4, .int a5] (sy_pre Y NX EX tfX sz M)) (sy_QI Y NX EX sz Q) 0 0 (sy_A NX Y.2.1 sz) := by
  refine sy_metI (by decide) rfl (Nat.le_of_ble_eq_true rfl) ?_
  intro p e s m args below meth c C ls hl hh
  have hx := C.1.1
  have hb := C.1.2.1
  have hl : lv_has ls 8 [(0, .ref (Y.2.1 58)), (1, .int a1), (2, .int a2), (3, .int a3), (4, .int a4), (5, .int a5)] := hl
  unfold wX1_leastWorst_b at hq
  refine lv_iload_n hx hb dX1_leastWorst_0 rfl (lv_at hl 2 rfl) ?_
  refine lv_iload_n hx hb dX1_leastWorst_1 rfl (lv_at hl 1 rfl) ?_
  refine lv_isub hx hb dX1_leastWorst_2 ?_
  refine lv_iconst (v := (1 : Int32)) hx hb dX1_leastWorst_3 (by decide) ?_
  refine lv_icmp_gt (tgt := 23) hx hb dX1_leastWorst_4 (by decide) (fun c1 => ?_) (fun c1 => ?_)
  · have hq := hq.1 c1
    refine lv_aload_n hx hb dX1_leastWorst_23 rfl (lv_at hl 0 rfl) ?_
    obtain ⟨e2, hq⟩ := hq
    refine sy_get C hh (fun w h => mc (uX_fX1 w h)) 58 (by decide) (oX_58 Y) rfl 0 (by decide) (index := 9) (mc uX_51) (v := .ref (Y.2.1 28)) (sy_rf_of e2 (by decide)) dX1_leastWorst_24 ?_
    refine lv_iload_n hx hb dX1_leastWorst_27 rfl (lv_at hl 1 rfl) ?_
    refine lv_iload_n hx hb dX1_leastWorst_28 rfl (lv_at hl 2 rfl) ?_
    refine sy_cIV C hh (As := [.int a1, .int a2]) (rest := []) 28 (by decide) (oX_28 Y) rfl (mX3_sum l Y _ M a1 a2 _ hq) (cwV 2 C.1.2.2.2.2 (sy_goodV uX_good uX_55 uX_56 uX_57 uX_58 uX_48 _) rfl rfl rfl hdX3_sum ⟨by dsimp only; omega, by dsimp only; omega⟩) rfl hl.1 rfl (Nat.le_of_ble_eq_true rfl) dX1_leastWorst_29 (fun r4 M3 H locs hq hh => ?_)
    refine lv_if_ne (tgt := 37) hx hb dX1_leastWorst_32 (by decide) (fun c5 => ?_) (fun c5 => ?_)
    · have hq := hq.1 c5
      refine lv_iload_n hx hb dX1_leastWorst_37 rfl (lv_at hl 3 rfl) ?_
      refine lv_if_eq (tgt := 46) hx hb dX1_leastWorst_38 (by decide) (fun c6 => ?_) (fun c6 => ?_)
      · have hq := hq.1 c6
        refine lv_ldc (v := (nI 1000000)) hx hb C.1.2.2.2.1 (C.1.2.2.2.2 (.constant RX1 81 (nI 1000000)) (mc uX_53)) dX1_leastWorst_46 ?_
        exact sy_iret C hh dX1_leastWorst_48 hq
      · have hq := hq.2 c6
        refine lv_iload hx hb dX1_leastWorst_41 (lv_at hl 4 rfl) ?_
        refine lv_if_ne (tgt := 49) hx hb dX1_leastWorst_43 (by decide) (fun c7 => ?_) (fun c7 => ?_)
        · have hq := hq.1 c7
          refine lv_iload hx hb dX1_leastWorst_49 (lv_at hl 5 rfl) ?_
          refine lv_istore (lv' := [(6, .int a5), (0, .ref (Y.2.1 58)), (1, .int a1), (2, .int a2), (3, .int a3), (4, .int a4), (5, .int a5)]) hx hb dX1_leastWorst_51 hl (by decide) rfl (fun ls hl => ?_)
          refine lv_iload_n hx hb dX1_leastWorst_53 rfl (lv_at hl 2 rfl) ?_
          refine lv_iconst (v := (1 : Int32)) hx hb dX1_leastWorst_54 (by decide) ?_
          refine lv_iadd hx hb dX1_leastWorst_55 ?_
          refine lv_istore (lv' := [(7, .int (a1 + (1 : Int32))), (6, .int a5), (0, .ref (Y.2.1 58)), (1, .int a1), (2, .int a2), (3, .int a3), (4, .int a4), (5, .int a5)]) hx hb dX1_leastWorst_56 hl (by decide) rfl (fun ls hl => ?_)
          obtain ⟨n13, hq⟩ := hq
          refine kX1_leastWorst_58 C hrec  n13 M3 a1 a2 a3 a4 a5 (a1 + (1 : Int32)) _ _ _ hq hh (lv_sub hl [2, 3, 4, 5, 6, 1, 0] rfl)
        · have hq := hq.2 c7
          refine lv_ldc (v := (nI 1000000)) hx hb C.1.2.2.2.1 (C.1.2.2.2.2 (.constant RX1 81 (nI 1000000)) (mc uX_53)) dX1_leastWorst_46 ?_
          exact sy_iret C hh dX1_leastWorst_48 hq
    · have hq := hq.2 c5
      refine lv_iconst (v := (0 : Int32)) hx hb dX1_leastWorst_35 (by decide) ?_
      exact sy_iret C hh dX1_leastWorst_36 hq
  · have hq := hq.2 c1
    refine lv_aload_n hx hb dX1_leastWorst_7 rfl (lv_at hl 0 rfl) ?_
    obtain ⟨e14, hq⟩ := hq
    refine sy_get C hh (fun w h => mc (uX_fX1 w h)) 58 (by decide) (oX_58 Y) rfl 0 (by decide) (index := 9) (mc uX_51) (v := .ref (Y.2.1 28)) (sy_rf_of e14 (by decide)) dX1_leastWorst_8 ?_
    refine sy_get C hh (fun w h => mc (uX_fX3 w h)) 28 (by decide) (oX_28 Y) rfl 3 (by decide) (index := 74) (mc uX_52) (v := .ref (Y.2.1 30)) rfl dX1_leastWorst_11 ?_
    refine lv_iload_n hx hb dX1_leastWorst_14 rfl (lv_at hl 1 rfl) ?_
    obtain ⟨n15, hn15, en15, hq⟩ := hq
    refine sy_iald C hh 30 (by decide) (aX_30 Y) tX_30 hn15 en15 (by decide) dX1_leastWorst_15 ?_
    refine lv_iload_n hx hb dX1_leastWorst_16 rfl (lv_at hl 3 rfl) ?_
    refine lv_iload hx hb dX1_leastWorst_17 (lv_at hl 4 rfl) ?_
    refine sy_cIN C hh (As := [.int (M 30 n15), .int a3, .int a4]) (rest := []) (mX11_shapeOf l Y _ M (M 30 n15) a3 a4 _ hq) ⟨va_cnB 3 C.1.2.2.2.2 (sy_goodN uX_good uX_28 _) rfl rfl rfl (C.2.1.2.1 ("AreaSetter$Cutter", 78, yX11_shapeOf) (by simp)) (C.1.2.2.2.2 _ (mc uX_47)) hdX11_shapeOf.2 ⟨by dsimp only; omega, by dsimp only; omega⟩, C.1.2.2.2.2 _ (mc uX_46), trivial⟩ rfl hl.1 rfl (Nat.le_of_ble_eq_true rfl) dX1_leastWorst_19 (fun r17 M16 H locs hq hh => ?_)
    exact sy_iret C hh dX1_leastWorst_22 hq

set_option maxHeartbeats 4000000 in
theorem mX1_leastWorst (l : Launch) (Y : sy_Y) : ∀ (d : Nat) (sz : Nat) (M : sy_M) (a1 : Int32) (a2 : Int32) (a3 : Int32) (a4 : Int32) (a5 : Int32) (Q : Int32 → sy_M → Prop), wX1_leastWorst d M a1 a2 a3 a4 a5 Q → Met l yX1_leastWorst vsX1_leastWorst ({ frames := 2 * d + 4, cells := 0, slots := 0, locals := 57 * d + 152 } : Room) (va_Pc [.ref (Y.2.1 58), .int a1, .int a2, .int a3, .int a4, .int a5] (sy_pre Y NX EX tfX sz M)) (sy_QI Y NX EX sz Q) 0 0 (sy_A NX Y.2.1 sz)
  | 0, _, _, _, _, _, _, _, _, hq => by unfold wX1_leastWorst at hq; exact hq.elim
  | d + 1, sz, M, a1, a2, a3, a4, a5, Q, hq => by
    unfold wX1_leastWorst at hq
    exact mX1_leastWorst_b (d := d) (rec := wX1_leastWorst d) (fun sz M => mX1_leastWorst l Y d sz M) sz M a1 a2 a3 a4 a5 Q hq
/-! AreaSetter$Plan.put(LAreaSetter$Items;IIIII)V -/
def wX5_put (M : sy_M) (p0 : Nat) (a2 : Int32) (a3 : Int32) (a4 : Int32) (a5 : Int32) (a6 : Int32) (Q : sy_M → Prop) : Prop := wX7_put M (p0 + 1) a2 a3 a4 a5 a6 (fun M1 => ∃ n2 : Nat, n2 < 8 ∧ a2 = nI n2 ∧ wX11_shapeOf M1 (M1 30 n2) a5 a6 (fun r4 M3 => Q (mu M3 p0 0 (imax (M1 p0 0) r4))))
section
variable {p : Program} {l : Launch} {e : Env} {s : State} {m : MethodId} {args : Array Value} {below : List Frame} {meth : Method} {c : Code} {Y : sy_Y}
end
set_option maxHeartbeats 4000000 in
set_option maxRecDepth 100000 in
theorem mX5_put (l : Launch) (Y : sy_Y) (sz : Nat) (M : sy_M) (p0 : Nat) (hp0 : iX5 p0) (a2 : Int32) (a3 : Int32) (a4 : Int32) (a5 : Int32) (a6 : Int32) (Q : sy_M → Prop) (hq : wX5_put M p0 a2 a3 a4 a5 a6 Q) : Met l yX5_put vsX5_put ({ frames := 2, cells := 0, slots := 0, locals := 44 } : Room) (va_Pc [.ref (Y.2.1 p0), .ref (Y.2.1 28), .int a2, .int a3, .int a4, .int a5, .int a6] (sy_pre Y NX EX tfX sz M)) (sy_QV Y NX EX sz Q) 0 0 (sy_A NX Y.2.1 sz) := by
  refine sy_metV (by decide) rfl (Nat.le_of_ble_eq_true rfl) ?_
  intro p e s m args below meth c C ls hl hh
  have hx := C.1.1
  have hb := C.1.2.1
  have hl : lv_has ls 7 [(0, .ref (Y.2.1 p0)), (1, .ref (Y.2.1 28)), (2, .int a2), (3, .int a3), (4, .int a4), (5, .int a5), (6, .int a6)] := hl
  unfold wX5_put at hq
  refine lv_aload_n hx hb dX5_put_0 rfl (lv_at hl 0 rfl) ?_
  refine sy_get C hh (fun w h => mc (uX_fX5 w h)) p0 (iX5_N hp0) (oX5 hp0) rfl 1 (by decide) (index := 20) (mc uX_38) (v := .ref (Y.2.1 (p0 + 1))) rfl dX5_put_1 ?_
  refine lv_iload_n hx hb dX5_put_4 rfl (lv_at hl 2 rfl) ?_
  refine lv_iload_n hx hb dX5_put_5 rfl (lv_at hl 3 rfl) ?_
  refine lv_iload hx hb dX5_put_6 (lv_at hl 4 rfl) ?_
  refine lv_iload hx hb dX5_put_8 (lv_at hl 5 rfl) ?_
  refine lv_iload hx hb dX5_put_10 (lv_at hl 6 rfl) ?_
  refine sy_cVV C hh (As := [.int a2, .int a3, .int a4, .int a5, .int a6]) (rest := []) (p0 + 1) (iX7_N (iX5_iX7 hp0)) (oX7 (iX5_iX7 hp0)) rfl (mX7_put l Y _ M (p0 + 1) (iX5_iX7 hp0) a2 a3 a4 a5 a6 _ hq) (cwV 5 C.1.2.2.2.2 (sy_goodV uX_good uX_42 uX_43 uX_44 uX_45 uX_23 _) rfl rfl rfl hdX7_put ⟨Nat.le_of_ble_eq_true rfl, Nat.le_of_ble_eq_true rfl⟩) rfl hl.1 rfl (Nat.le_of_ble_eq_true rfl) dX5_put_12 (fun M1 H locs hq hh => ?_)
  refine lv_aload_n hx hb dX5_put_15 rfl (lv_at hl 0 rfl) ?_
  refine lv_aload_n hx hb dX5_put_16 rfl (lv_at hl 0 rfl) ?_
  refine sy_get C hh (fun w h => mc (uX_fX5 w h)) p0 (iX5_N hp0) (oX5 hp0) rfl 0 (by decide) (index := 9) (mc uX_39) (v := .int (M1 p0 0)) rfl dX5_put_17 ?_
  refine lv_aload_n hx hb dX5_put_20 rfl (lv_at hl 1 rfl) ?_
  refine sy_get C hh (fun w h => mc (uX_fX3 w h)) 28 (by decide) (oX_28 Y) rfl 3 (by decide) (index := 28) (mc uX_40) (v := .ref (Y.2.1 30)) rfl dX5_put_21 ?_
  refine lv_iload_n hx hb dX5_put_24 rfl (lv_at hl 2 rfl) ?_
  obtain ⟨n2, hn2, en2, hq⟩ := hq
  refine sy_iald C hh 30 (by decide) (aX_30 Y) tX_30 hn2 en2 (by decide) dX5_put_25 ?_
  refine lv_iload hx hb dX5_put_26 (lv_at hl 5 rfl) ?_
  refine lv_iload hx hb dX5_put_28 (lv_at hl 6 rfl) ?_
  refine sy_cIN C hh (As := [.int (M1 30 n2), .int a5, .int a6]) (rest := [.int (M1 p0 0), .ref (Y.2.1 p0)]) (mX11_shapeOf l Y _ M1 (M1 30 n2) a5 a6 _ hq) ⟨va_cnB 3 C.1.2.2.2.2 (sy_goodN uX_good uX_28 _) rfl rfl rfl (C.2.1.2.1 ("AreaSetter$Plan", 34, yX11_shapeOf) (by simp)) (C.1.2.2.2.2 _ (mc uX_47)) hdX11_shapeOf.2 ⟨Nat.le_of_ble_eq_true rfl, Nat.le_of_ble_eq_true rfl⟩, C.1.2.2.2.2 _ (mc uX_46), trivial⟩ rfl hl.1 rfl (Nat.le_of_ble_eq_true rfl) dX5_put_30 (fun r4 M3 H locs hq hh => ?_)
  refine sy_mmax C hl (index := 38) (mc uX_41) (mc uX_35) (mc uX_31) (mc uX_36) (by decide) (Nat.le_of_ble_eq_true rfl) dX5_put_33 ?_
  refine sy_put C hh (fun w h => mc (uX_fX5 w h)) tyX5 tyX5_ok nmX5 p0 (iX5_N hp0) (oX5 hp0) rfl 0 (by decide) (index := 9) (mc uX_39) rfl (imax (M1 p0 0) r4) (ty := .int) (tyX5_ok 0 (by decide)) rfl rfl (Nat.le_of_ble_eq_true rfl) (pX5_0 Y _ _ _) dX5_put_36 (fun H locs hh => ?_)
  exact sy_vret C hh dX5_put_39 hq

/-! AreaSetter$Cutter.layPart(IIIIII)V -/
def wX1_layPart_84 (rec : sy_M → Int32 → Int32 → Int32 → Int32 → Int32 → Int32 → (sy_M → Prop) → Prop) (K_44 : sy_M → Int32 → Int32 → Int32 → Int32 → Int32 → Int32 → Int32 → Int32 → Int32 → Int32 → Prop) (Q : sy_M → Prop) (M : sy_M) (x1 : Int32) (x2 : Int32) (x3 : Int32) (x4 : Int32) (x5 : Int32) (x6 : Int32) (x7 : Int32) (x8 : Int32) (x9 : Int32) (x10 : Int32) : Prop := wX1_worstOfCut (wX1_leastWorst 9) M x1 x10 x2 x6 x5 x7 (fun r7 M6 => ((x7 ≤ r7 → K_44 M6 x1 x2 x3 x4 x5 x6 x7 x8 x9 (x10 + (1 : Int32))) ∧ (¬ x7 ≤ r7 → K_44 M6 x1 x2 x3 x4 x5 x6 r7 x10 (1 : Int32) (x10 + (1 : Int32)))))
def wX1_layPart_44 (rec : sy_M → Int32 → Int32 → Int32 → Int32 → Int32 → Int32 → (sy_M → Prop) → Prop) (K_124 : sy_M → Int32 → Int32 → Int32 → Int32 → Int32 → Int32 → Int32 → Int32 → Prop) (Q : sy_M → Prop) : Nat → sy_M → Int32 → Int32 → Int32 → Int32 → Int32 → Int32 → Int32 → Int32 → Int32 → Int32 → Prop
  | 0, _, _, _, _, _, _, _, _, _, _, _ => False
  | n + 1, M, x1, x2, x3, x4, x5, x6, x7, x8, x9, x10 => ((x2 ≤ x10 → K_124 M x1 x2 x3 x4 x5 x6 x8 x9) ∧ (¬ x2 ≤ x10 → wX1_worstOfCut (wX1_leastWorst 9) M x1 x10 x2 x5 x6 x7 (fun r4 M3 => ((x7 ≤ r4 → wX1_layPart_84 rec (fun (M9 : sy_M) (x1_10 : Int32) (x2_11 : Int32) (x3_12 : Int32) (x4_13 : Int32) (x5_14 : Int32) (x6_15 : Int32) (x7_16 : Int32) (x8_17 : Int32) (x9_18 : Int32) (x10_19 : Int32) => wX1_layPart_44 rec K_124 Q n M9 x1_10 x2_11 x3_12 x4_13 x5_14 x6_15 x7_16 x8_17 x9_18 x10_19) Q M3 x1 x2 x3 x4 x5 x6 x7 x8 x9 x10) ∧ (¬ x7 ≤ r4 → wX1_layPart_84 rec (fun (M20 : sy_M) (x1_21 : Int32) (x2_22 : Int32) (x3_23 : Int32) (x4_24 : Int32) (x5_25 : Int32) (x6_26 : Int32) (x7_27 : Int32) (x8_28 : Int32) (x9_29 : Int32) (x10_30 : Int32) => wX1_layPart_44 rec K_124 Q n M20 x1_21 x2_22 x3_23 x4_24 x5_25 x6_26 x7_27 x8_28 x9_29 x10_30) Q M3 x1 x2 x3 x4 x5 x6 r4 x10 (0 : Int32) x10)))))
def wX1_layPart_136 (rec : sy_M → Int32 → Int32 → Int32 → Int32 → Int32 → Int32 → (sy_M → Prop) → Prop) (Q : sy_M → Prop) (M : sy_M) (x1 : Int32) (x2 : Int32) (x3 : Int32) (x4 : Int32) (x5 : Int32) (x6 : Int32) (x8 : Int32) (x9 : Int32) (s0 : Int32) : Prop := M 58 0 = nI 28 ∧ wX3_sum M x1 x8 (fun r43 M42 => M42 58 0 = nI 28 ∧ wX3_sum M42 x1 x2 (fun r46 M45 => wX11_share M45 s0 r43 r46 (fun r48 M47 => ((x9 = 0 → rec M47 x1 x8 x3 x4 r48 x6 (fun M50 => rec M50 x8 x2 (x3 + r48) x4 (x5 - r48) x6 (fun M51 => Q M51))) ∧ (¬ x9 = 0 → rec M47 x1 x8 x3 x4 x5 r48 (fun M52 => rec M52 x8 x2 x3 (x4 + r48) x5 (x6 - r48) (fun M53 => Q M53)))))))
def wX1_layPart_b (rec : sy_M → Int32 → Int32 → Int32 → Int32 → Int32 → Int32 → (sy_M → Prop) → Prop) (M : sy_M) (a1 : Int32) (a2 : Int32) (a3 : Int32) (a4 : Int32) (a5 : Int32) (a6 : Int32) (Q : sy_M → Prop) : Prop := (((1 : Int32) < (a2 - a1) → ∃ n54 : Nat, wX1_layPart_44 rec (fun (M31 : sy_M) (x1_32 : Int32) (x2_33 : Int32) (x3_34 : Int32) (x4_35 : Int32) (x5_36 : Int32) (x6_37 : Int32) (x8_38 : Int32) (x9_39 : Int32) => ((x9_39 = 0 → wX1_layPart_136 rec  Q M31 x1_32 x2_33 x3_34 x4_35 x5_36 x6_37 x8_38 x9_39 x5_36) ∧ (¬ x9_39 = 0 → wX1_layPart_136 rec  Q M31 x1_32 x2_33 x3_34 x4_35 x5_36 x6_37 x8_38 x9_39 x6_37))) Q n54 M a1 a2 a3 a4 a5 a6 (nI 2147483647) (a1 + (1 : Int32)) (0 : Int32) (a1 + (1 : Int32))) ∧ (¬ (1 : Int32) < (a2 - a1) → ∃ t55 : Nat, M 58 1 = nI t55 ∧ iX5 t55 ∧ M 58 0 = nI 28 ∧ wX5_put M t55 a1 a3 a4 a5 a6 (fun M57 => Q M57)))
def wX1_layPart : Nat → sy_M → Int32 → Int32 → Int32 → Int32 → Int32 → Int32 → (sy_M → Prop) → Prop
  | 0, _, _, _, _, _, _, _, _ => False
  | d + 1, M, a1, a2, a3, a4, a5, a6, Q => wX1_layPart_b (wX1_layPart d) M a1 a2 a3 a4 a5 a6 Q
section
variable {p : Program} {l : Launch} {e : Env} {s : State} {m : MethodId} {args : Array Value} {below : List Frame} {meth : Method} {c : Code} {Y : sy_Y}
set_option maxHeartbeats 4000000 in
set_option maxRecDepth 100000 in
theorem kX1_layPart_84 (C : sy_C p m c cX1_layPart 13 s args vsX1_layPart RX1 meth none Y NX tfX) {rec : sy_M → Int32 → Int32 → Int32 → Int32 → Int32 → Int32 → (sy_M → Prop) → Prop} {d : Nat} (hrec : ∀ (sz : Nat) (M : sy_M) (a1 : Int32) (a2 : Int32) (a3 : Int32) (a4 : Int32) (a5 : Int32) (a6 : Int32) (Q : sy_M → Prop), rec M a1 a2 a3 a4 a5 a6 Q → Met l yX1_layPart vsX1_layPart ({ frames := 1 * d + 27, cells := 0, slots := 0, locals := 32 * d + 844 } : Room) (va_Pc [.ref (Y.2.1 58), .int a1, .int a2, .int a3, .int a4, .int a5, .int a6] (sy_pre Y NX EX tfX sz M)) (sy_QV Y NX EX sz Q) 0 0 (sy_A NX Y.2.1 sz)) {Q : sy_M → Prop} {K_44 : sy_M → Int32 → Int32 → Int32 → Int32 → Int32 → Int32 → Int32 → Int32 → Int32 → Int32 → Prop} (hK_44 : ∀ (M : sy_M) (x1 : Int32) (x2 : Int32) (x3 : Int32) (x4 : Int32) (x5 : Int32) (x6 : Int32) (x7 : Int32) (x8 : Int32) (x9 : Int32) (x10 : Int32) (H : Heap) (locs : List Loc) (ls : Array Slot), K_44 M x1 x2 x3 x4 x5 x6 x7 x8 x9 x10 → sy_H Y NX EX s H locs M → lv_has ls 13 [(0, .ref (Y.2.1 58)), (1, .int x1), (2, .int x2), (3, .int x3), (4, .int x4), (5, .int x5), (6, .int x6), (7, .int x7), (8, .int x8), (9, .int x9), (10, .int x10)] → W p l e ({ frames := 1 * (d + 1) + 27, cells := 0, slots := 0, locals := 32 * (d + 1) + 844 } : Room) s m args below meth c H locs 0 0 (sy_ZV below args s Y NX EX Q) (F0 m 44 ls [])) :
    ∀ (M : sy_M) (x1 : Int32) (x2 : Int32) (x3 : Int32) (x4 : Int32) (x5 : Int32) (x6 : Int32) (x7 : Int32) (x8 : Int32) (x9 : Int32) (x10 : Int32) (H : Heap) (locs : List Loc) (ls : Array Slot), wX1_layPart_84 rec K_44 Q M x1 x2 x3 x4 x5 x6 x7 x8 x9 x10 → sy_H Y NX EX s H locs M → lv_has ls 13 [(0, .ref (Y.2.1 58)), (1, .int x1), (2, .int x2), (3, .int x3), (4, .int x4), (5, .int x5), (6, .int x6), (7, .int x7), (8, .int x8), (9, .int x9), (10, .int x10)] → W p l e ({ frames := 1 * (d + 1) + 27, cells := 0, slots := 0, locals := 32 * (d + 1) + 844 } : Room) s m args below meth c H locs 0 0 (sy_ZV below args s Y NX EX Q) (F0 m 84 ls []) := by
  have hx := C.1.1
  have hb := C.1.2.1
  intro M x1 x2 x3 x4 x5 x6 x7 x8 x9 x10 H locs ls hq hh hl
  unfold wX1_layPart_84 at hq
  refine lv_aload_n hx hb dX1_layPart_84 rfl (lv_at hl 0 rfl) ?_
  refine lv_iload_n hx hb dX1_layPart_85 rfl (lv_at hl 1 rfl) ?_
  refine lv_iload hx hb dX1_layPart_86 (lv_at hl 10 rfl) ?_
  refine lv_iload_n hx hb dX1_layPart_88 rfl (lv_at hl 2 rfl) ?_
  refine lv_iload hx hb dX1_layPart_89 (lv_at hl 6 rfl) ?_
  refine lv_iload hx hb dX1_layPart_91 (lv_at hl 5 rfl) ?_
  refine lv_iload hx hb dX1_layPart_93 (lv_at hl 7 rfl) ?_
  refine sy_cIV C hh (As := [.int x1, .int x10, .int x2, .int x6, .int x5, .int x7]) (rest := []) 58 (by decide) (oX_58 Y) rfl (mX1_worstOfCut (fun sz M => mX1_leastWorst l Y 9 sz M) _ M x1 x10 x2 x6 x5 x7 _ hq) (cwV 6 C.1.2.2.2.2 (sy_goodV uX_good uX_59 uX_60 uX_61 uX_62 uX_63 _) rfl rfl rfl hdX1_worstOfCut ⟨by dsimp only; omega, by dsimp only; omega⟩) rfl hl.1 rfl (Nat.le_of_ble_eq_true rfl) dX1_layPart_95 (fun r7 M6 H locs hq hh => ?_)
  refine lv_istore (lv' := [(12, .int r7), (0, .ref (Y.2.1 58)), (1, .int x1), (2, .int x2), (3, .int x3), (4, .int x4), (5, .int x5), (6, .int x6), (7, .int x7), (8, .int x8), (9, .int x9), (10, .int x10)]) hx hb dX1_layPart_98 hl (by decide) rfl (fun ls hl => ?_)
  refine lv_iload hx hb dX1_layPart_100 (lv_at hl 0 rfl) ?_
  refine lv_iload hx hb dX1_layPart_102 (lv_at hl 8 rfl) ?_
  refine lv_icmp_ge (tgt := 118) hx hb dX1_layPart_104 (by decide) (fun c8 => ?_) (fun c8 => ?_)
  · have hq := hq.1 c8
    refine lv_iinc (v := (x10 + (1 : Int32))) (lv' := [(10, .int (x10 + (1 : Int32))), (12, .int r7), (0, .ref (Y.2.1 58)), (1, .int x1), (2, .int x2), (3, .int x3), (4, .int x4), (5, .int x5), (6, .int x6), (7, .int x7), (8, .int x8), (9, .int x9)]) hx hb dX1_layPart_118 hl (k := 11) rfl (sy_inc (by decide)) (by decide) rfl (fun ls hl => ?_)
    refine lv_goto (tgt := 44) hx hb dX1_layPart_121 (by decide) ?_
    exact hK_44 M6 x1 x2 x3 x4 x5 x6 x7 x8 x9 (x10 + (1 : Int32)) _ _ _ hq hh (lv_sub hl [2, 3, 4, 5, 6, 7, 8, 9, 10, 11, 0] rfl)
  · have hq := hq.2 c8
    refine lv_iload hx hb dX1_layPart_107 (lv_at hl 0 rfl) ?_
    refine lv_istore (lv' := [(7, .int r7), (12, .int r7), (0, .ref (Y.2.1 58)), (1, .int x1), (2, .int x2), (3, .int x3), (4, .int x4), (5, .int x5), (6, .int x6), (8, .int x8), (9, .int x9), (10, .int x10)]) hx hb dX1_layPart_109 hl (by decide) rfl (fun ls hl => ?_)
    refine lv_iload hx hb dX1_layPart_111 (lv_at hl 11 rfl) ?_
    refine lv_istore (lv' := [(8, .int x10), (7, .int r7), (12, .int r7), (0, .ref (Y.2.1 58)), (1, .int x1), (2, .int x2), (3, .int x3), (4, .int x4), (5, .int x5), (6, .int x6), (9, .int x9), (10, .int x10)]) hx hb dX1_layPart_113 hl (by decide) rfl (fun ls hl => ?_)
    refine lv_iconst (v := (1 : Int32)) hx hb dX1_layPart_115 (by decide) ?_
    refine lv_istore (lv' := [(9, .int (1 : Int32)), (8, .int x10), (7, .int r7), (12, .int r7), (0, .ref (Y.2.1 58)), (1, .int x1), (2, .int x2), (3, .int x3), (4, .int x4), (5, .int x5), (6, .int x6), (10, .int x10)]) hx hb dX1_layPart_116 hl (by decide) rfl (fun ls hl => ?_)
    refine lv_iinc (v := (x10 + (1 : Int32))) (lv' := [(10, .int (x10 + (1 : Int32))), (9, .int (1 : Int32)), (8, .int x10), (7, .int r7), (12, .int r7), (0, .ref (Y.2.1 58)), (1, .int x1), (2, .int x2), (3, .int x3), (4, .int x4), (5, .int x5), (6, .int x6)]) hx hb dX1_layPart_118 hl (k := 11) rfl (sy_inc (by decide)) (by decide) rfl (fun ls hl => ?_)
    refine lv_goto (tgt := 44) hx hb dX1_layPart_121 (by decide) ?_
    exact hK_44 M6 x1 x2 x3 x4 x5 x6 r7 x10 (1 : Int32) (x10 + (1 : Int32)) _ _ _ hq hh (lv_sub hl [5, 6, 7, 8, 9, 10, 11, 3, 2, 1, 0] rfl)

set_option maxHeartbeats 4000000 in
set_option maxRecDepth 100000 in
theorem kX1_layPart_44 (C : sy_C p m c cX1_layPart 13 s args vsX1_layPart RX1 meth none Y NX tfX) {rec : sy_M → Int32 → Int32 → Int32 → Int32 → Int32 → Int32 → (sy_M → Prop) → Prop} {d : Nat} (hrec : ∀ (sz : Nat) (M : sy_M) (a1 : Int32) (a2 : Int32) (a3 : Int32) (a4 : Int32) (a5 : Int32) (a6 : Int32) (Q : sy_M → Prop), rec M a1 a2 a3 a4 a5 a6 Q → Met l yX1_layPart vsX1_layPart ({ frames := 1 * d + 27, cells := 0, slots := 0, locals := 32 * d + 844 } : Room) (va_Pc [.ref (Y.2.1 58), .int a1, .int a2, .int a3, .int a4, .int a5, .int a6] (sy_pre Y NX EX tfX sz M)) (sy_QV Y NX EX sz Q) 0 0 (sy_A NX Y.2.1 sz)) {Q : sy_M → Prop} {K_124 : sy_M → Int32 → Int32 → Int32 → Int32 → Int32 → Int32 → Int32 → Int32 → Prop} (hK_124 : ∀ (M : sy_M) (x1 : Int32) (x2 : Int32) (x3 : Int32) (x4 : Int32) (x5 : Int32) (x6 : Int32) (x8 : Int32) (x9 : Int32) (H : Heap) (locs : List Loc) (ls : Array Slot), K_124 M x1 x2 x3 x4 x5 x6 x8 x9 → sy_H Y NX EX s H locs M → lv_has ls 13 [(0, .ref (Y.2.1 58)), (1, .int x1), (2, .int x2), (3, .int x3), (4, .int x4), (5, .int x5), (6, .int x6), (8, .int x8), (9, .int x9)] → W p l e ({ frames := 1 * (d + 1) + 27, cells := 0, slots := 0, locals := 32 * (d + 1) + 844 } : Room) s m args below meth c H locs 0 0 (sy_ZV below args s Y NX EX Q) (F0 m 124 ls [])) :
    ∀ (n : Nat) (M : sy_M) (x1 : Int32) (x2 : Int32) (x3 : Int32) (x4 : Int32) (x5 : Int32) (x6 : Int32) (x7 : Int32) (x8 : Int32) (x9 : Int32) (x10 : Int32) (H : Heap) (locs : List Loc) (ls : Array Slot), wX1_layPart_44 rec K_124 Q n M x1 x2 x3 x4 x5 x6 x7 x8 x9 x10 → sy_H Y NX EX s H locs M → lv_has ls 13 [(0, .ref (Y.2.1 58)), (1, .int x1), (2, .int x2), (3, .int x3), (4, .int x4), (5, .int x5), (6, .int x6), (7, .int x7), (8, .int x8), (9, .int x9), (10, .int x10)] → W p l e ({ frames := 1 * (d + 1) + 27, cells := 0, slots := 0, locals := 32 * (d + 1) + 844 } : Room) s m args below meth c H locs 0 0 (sy_ZV below args s Y NX EX Q) (F0 m 44 ls []) := by
  have hx := C.1.1
  have hb := C.1.2.1
  intro n
  induction n with
  | zero =>
    intro M x1 x2 x3 x4 x5 x6 x7 x8 x9 x10 H locs ls hq hh hl
    unfold wX1_layPart_44 at hq
    exact hq.elim
  | succ n ih =>
    intro M x1 x2 x3 x4 x5 x6 x7 x8 x9 x10 H locs ls hq hh hl
    unfold wX1_layPart_44 at hq
    refine lv_iload hx hb dX1_layPart_44 (lv_at hl 10 rfl) ?_
    refine lv_iload_n hx hb dX1_layPart_46 rfl (lv_at hl 2 rfl) ?_
    refine lv_icmp_ge (tgt := 124) hx hb dX1_layPart_47 (by decide) (fun c2 => ?_) (fun c2 => ?_)
    · have hq := hq.1 c2
      exact hK_124 M x1 x2 x3 x4 x5 x6 x8 x9 _ _ _ hq hh (lv_sub hl [0, 1, 2, 3, 4, 5, 6, 8, 9] rfl)
    · have hq := hq.2 c2
      refine lv_aload_n hx hb dX1_layPart_50 rfl (lv_at hl 0 rfl) ?_
      refine lv_iload_n hx hb dX1_layPart_51 rfl (lv_at hl 1 rfl) ?_
      refine lv_iload hx hb dX1_layPart_52 (lv_at hl 10 rfl) ?_
      refine lv_iload_n hx hb dX1_layPart_54 rfl (lv_at hl 2 rfl) ?_
      refine lv_iload hx hb dX1_layPart_55 (lv_at hl 5 rfl) ?_
      refine lv_iload hx hb dX1_layPart_57 (lv_at hl 6 rfl) ?_
      refine lv_iload hx hb dX1_layPart_59 (lv_at hl 7 rfl) ?_
      refine sy_cIV C hh (As := [.int x1, .int x10, .int x2, .int x5, .int x6, .int x7]) (rest := []) 58 (by decide) (oX_58 Y) rfl (mX1_worstOfCut (fun sz M => mX1_leastWorst l Y 9 sz M) _ M x1 x10 x2 x5 x6 x7 _ hq) (cwV 6 C.1.2.2.2.2 (sy_goodV uX_good uX_59 uX_60 uX_61 uX_62 uX_63 _) rfl rfl rfl hdX1_worstOfCut ⟨by dsimp only; omega, by dsimp only; omega⟩) rfl hl.1 rfl (Nat.le_of_ble_eq_true rfl) dX1_layPart_61 (fun r4 M3 H locs hq hh => ?_)
      refine lv_istore (lv' := [(11, .int r4), (0, .ref (Y.2.1 58)), (1, .int x1), (2, .int x2), (3, .int x3), (4, .int x4), (5, .int x5), (6, .int x6), (7, .int x7), (8, .int x8), (9, .int x9), (10, .int x10)]) hx hb dX1_layPart_64 hl (by decide) rfl (fun ls hl => ?_)
      refine lv_iload hx hb dX1_layPart_66 (lv_at hl 0 rfl) ?_
      refine lv_iload hx hb dX1_layPart_68 (lv_at hl 8 rfl) ?_
      refine lv_icmp_ge (tgt := 84) hx hb dX1_layPart_70 (by decide) (fun c5 => ?_) (fun c5 => ?_)
      · have hq := hq.1 c5
        refine kX1_layPart_84 C hrec (fun M9 x1_10 x2_11 x3_12 x4_13 x5_14 x6_15 x7_16 x8_17 x9_18 x10_19 H locs ls hq hh hl => ?_) M3 x1 x2 x3 x4 x5 x6 x7 x8 x9 x10 _ _ _ hq hh (lv_sub hl [1, 2, 3, 4, 5, 6, 7, 8, 9, 10, 11] rfl)
        · exact ih M9 x1_10 x2_11 x3_12 x4_13 x5_14 x6_15 x7_16 x8_17 x9_18 x10_19 _ _ _ hq hh (lv_sub hl [0, 1, 2, 3, 4, 5, 6, 7, 8, 9, 10] rfl)
      · have hq := hq.2 c5
        refine lv_iload hx hb dX1_layPart_73 (lv_at hl 0 rfl) ?_
        refine lv_istore (lv' := [(7, .int r4), (11, .int r4), (0, .ref (Y.2.1 58)), (1, .int x1), (2, .int x2), (3, .int x3), (4, .int x4), (5, .int x5), (6, .int x6), (8, .int x8), (9, .int x9), (10, .int x10)]) hx hb dX1_layPart_75 hl (by decide) rfl (fun ls hl => ?_)
        refine lv_iload hx hb dX1_layPart_77 (lv_at hl 11 rfl) ?_
        refine lv_istore (lv' := [(8, .int x10), (7, .int r4), (11, .int r4), (0, .ref (Y.2.1 58)), (1, .int x1), (2, .int x2), (3, .int x3), (4, .int x4), (5, .int x5), (6, .int x6), (9, .int x9), (10, .int x10)]) hx hb dX1_layPart_79 hl (by decide) rfl (fun ls hl => ?_)
        refine lv_iconst (v := (0 : Int32)) hx hb dX1_layPart_81 (by decide) ?_
        refine lv_istore (lv' := [(9, .int (0 : Int32)), (8, .int x10), (7, .int r4), (11, .int r4), (0, .ref (Y.2.1 58)), (1, .int x1), (2, .int x2), (3, .int x3), (4, .int x4), (5, .int x5), (6, .int x6), (10, .int x10)]) hx hb dX1_layPart_82 hl (by decide) rfl (fun ls hl => ?_)
        refine kX1_layPart_84 C hrec (fun M20 x1_21 x2_22 x3_23 x4_24 x5_25 x6_26 x7_27 x8_28 x9_29 x10_30 H locs ls hq hh hl => ?_) M3 x1 x2 x3 x4 x5 x6 r4 x10 (0 : Int32) x10 _ _ _ hq hh (lv_sub hl [4, 5, 6, 7, 8, 9, 10, 2, 1, 0, 11] rfl)
        · exact ih M20 x1_21 x2_22 x3_23 x4_24 x5_25 x6_26 x7_27 x8_28 x9_29 x10_30 _ _ _ hq hh (lv_sub hl [0, 1, 2, 3, 4, 5, 6, 7, 8, 9, 10] rfl)

set_option maxHeartbeats 4000000 in
set_option maxRecDepth 100000 in
theorem kX1_layPart_136 (C : sy_C p m c cX1_layPart 13 s args vsX1_layPart RX1 meth none Y NX tfX) {rec : sy_M → Int32 → Int32 → Int32 → Int32 → Int32 → Int32 → (sy_M → Prop) → Prop} {d : Nat} (hrec : ∀ (sz : Nat) (M : sy_M) (a1 : Int32) (a2 : Int32) (a3 : Int32) (a4 : Int32) (a5 : Int32) (a6 : Int32) (Q : sy_M → Prop), rec M a1 a2 a3 a4 a5 a6 Q → Met l yX1_layPart vsX1_layPart ({ frames := 1 * d + 27, cells := 0, slots := 0, locals := 32 * d + 844 } : Room) (va_Pc [.ref (Y.2.1 58), .int a1, .int a2, .int a3, .int a4, .int a5, .int a6] (sy_pre Y NX EX tfX sz M)) (sy_QV Y NX EX sz Q) 0 0 (sy_A NX Y.2.1 sz)) {Q : sy_M → Prop} :
    ∀ (M : sy_M) (x1 : Int32) (x2 : Int32) (x3 : Int32) (x4 : Int32) (x5 : Int32) (x6 : Int32) (x8 : Int32) (x9 : Int32) (s0 : Int32) (H : Heap) (locs : List Loc) (ls : Array Slot), wX1_layPart_136 rec Q M x1 x2 x3 x4 x5 x6 x8 x9 s0 → sy_H Y NX EX s H locs M → lv_has ls 13 [(0, .ref (Y.2.1 58)), (1, .int x1), (2, .int x2), (3, .int x3), (4, .int x4), (5, .int x5), (6, .int x6), (8, .int x8), (9, .int x9)] → W p l e ({ frames := 1 * (d + 1) + 27, cells := 0, slots := 0, locals := 32 * (d + 1) + 844 } : Room) s m args below meth c H locs 0 0 (sy_ZV below args s Y NX EX Q) (F0 m 136 ls [.int s0]) := by
  have hx := C.1.1
  have hb := C.1.2.1
  intro M x1 x2 x3 x4 x5 x6 x8 x9 s0 H locs ls hq hh hl
  unfold wX1_layPart_136 at hq
  refine lv_aload_n hx hb dX1_layPart_136 rfl (lv_at hl 0 rfl) ?_
  obtain ⟨e41, hq⟩ := hq
  refine sy_get C hh (fun w h => mc (uX_fX1 w h)) 58 (by decide) (oX_58 Y) rfl 0 (by decide) (index := 9) (mc uX_51) (v := .ref (Y.2.1 28)) (sy_rf_of e41 (by decide)) dX1_layPart_137 ?_
  refine lv_iload_n hx hb dX1_layPart_140 rfl (lv_at hl 1 rfl) ?_
  refine lv_iload hx hb dX1_layPart_141 (lv_at hl 7 rfl) ?_
  refine sy_cIV C hh (As := [.int x1, .int x8]) (rest := [.int s0]) 28 (by decide) (oX_28 Y) rfl (mX3_sum l Y _ M x1 x8 _ hq) (cwV 2 C.1.2.2.2.2 (sy_goodV uX_good uX_55 uX_56 uX_57 uX_58 uX_48 _) rfl rfl rfl hdX3_sum ⟨by dsimp only; omega, by dsimp only; omega⟩) rfl hl.1 rfl (Nat.le_of_ble_eq_true rfl) dX1_layPart_143 (fun r43 M42 H locs hq hh => ?_)
  refine lv_aload_n hx hb dX1_layPart_146 rfl (lv_at hl 0 rfl) ?_
  obtain ⟨e44, hq⟩ := hq
  refine sy_get C hh (fun w h => mc (uX_fX1 w h)) 58 (by decide) (oX_58 Y) rfl 0 (by decide) (index := 9) (mc uX_51) (v := .ref (Y.2.1 28)) (sy_rf_of e44 (by decide)) dX1_layPart_147 ?_
  refine lv_iload_n hx hb dX1_layPart_150 rfl (lv_at hl 1 rfl) ?_
  refine lv_iload_n hx hb dX1_layPart_151 rfl (lv_at hl 2 rfl) ?_
  refine sy_cIV C hh (As := [.int x1, .int x2]) (rest := [.int r43, .int s0]) 28 (by decide) (oX_28 Y) rfl (mX3_sum l Y _ M42 x1 x2 _ hq) (cwV 2 C.1.2.2.2.2 (sy_goodV uX_good uX_55 uX_56 uX_57 uX_58 uX_48 _) rfl rfl rfl hdX3_sum ⟨by dsimp only; omega, by dsimp only; omega⟩) rfl hl.1 rfl (Nat.le_of_ble_eq_true rfl) dX1_layPart_152 (fun r46 M45 H locs hq hh => ?_)
  refine sy_cIN C hh (As := [.int s0, .int r43, .int r46]) (rest := []) (mX11_share l Y _ M45 s0 r43 r46 _ hq) ⟨va_cnB 3 C.1.2.2.2.2 (sy_goodN uX_good uX_50 _) rfl rfl rfl (C.2.1.2.1 ("AreaSetter$Cutter", 61, yX11_share) (by simp)) (C.1.2.2.2.2 _ (mc uX_47)) hdX11_share.2 ⟨by dsimp only; omega, by dsimp only; omega⟩, C.1.2.2.2.2 _ (mc uX_65), trivial⟩ rfl hl.1 rfl (Nat.le_of_ble_eq_true rfl) dX1_layPart_155 (fun r48 M47 H locs hq hh => ?_)
  refine lv_istore (lv' := [(10, .int r48), (0, .ref (Y.2.1 58)), (1, .int x1), (2, .int x2), (3, .int x3), (4, .int x4), (5, .int x5), (6, .int x6), (8, .int x8), (9, .int x9)]) hx hb dX1_layPart_158 hl (by decide) rfl (fun ls hl => ?_)
  refine lv_iload hx hb dX1_layPart_160 (lv_at hl 9 rfl) ?_
  refine lv_if_eq (tgt := 202) hx hb dX1_layPart_162 (by decide) (fun c49 => ?_) (fun c49 => ?_)
  · have hq := hq.1 c49
    refine lv_aload_n hx hb dX1_layPart_202 rfl (lv_at hl 1 rfl) ?_
    refine lv_iload_n hx hb dX1_layPart_203 rfl (lv_at hl 2 rfl) ?_
    refine lv_iload hx hb dX1_layPart_204 (lv_at hl 8 rfl) ?_
    refine lv_iload_n hx hb dX1_layPart_206 rfl (lv_at hl 4 rfl) ?_
    refine lv_iload hx hb dX1_layPart_207 (lv_at hl 5 rfl) ?_
    refine lv_iload hx hb dX1_layPart_209 (lv_at hl 0 rfl) ?_
    refine lv_iload hx hb dX1_layPart_211 (lv_at hl 7 rfl) ?_
    refine sy_cVV C hh (As := [.int x1, .int x8, .int x3, .int x4, .int r48, .int x6]) (rest := []) 58 (by decide) (oX_58 Y) rfl (hrec _ M47 x1 x8 x3 x4 r48 x6 _ hq) (cwV 6 C.1.2.2.2.2 (sy_goodV uX_good uX_76 uX_77 uX_78 uX_62 uX_79 _) rfl rfl rfl hdX1_layPart ⟨by dsimp only; omega, by dsimp only; omega⟩) rfl hl.1 rfl (Nat.le_of_ble_eq_true rfl) dX1_layPart_213 (fun M50 H locs hq hh => ?_)
    refine lv_aload_n hx hb dX1_layPart_216 rfl (lv_at hl 1 rfl) ?_
    refine lv_iload hx hb dX1_layPart_217 (lv_at hl 8 rfl) ?_
    refine lv_iload_n hx hb dX1_layPart_219 rfl (lv_at hl 3 rfl) ?_
    refine lv_iload_n hx hb dX1_layPart_220 rfl (lv_at hl 4 rfl) ?_
    refine lv_iload hx hb dX1_layPart_221 (lv_at hl 0 rfl) ?_
    refine lv_iadd hx hb dX1_layPart_223 ?_
    refine lv_iload hx hb dX1_layPart_224 (lv_at hl 5 rfl) ?_
    refine lv_iload hx hb dX1_layPart_226 (lv_at hl 6 rfl) ?_
    refine lv_iload hx hb dX1_layPart_228 (lv_at hl 0 rfl) ?_
    refine lv_isub hx hb dX1_layPart_230 ?_
    refine lv_iload hx hb dX1_layPart_231 (lv_at hl 7 rfl) ?_
    refine sy_cVV C hh (As := [.int x8, .int x2, .int (x3 + r48), .int x4, .int (x5 - r48), .int x6]) (rest := []) 58 (by decide) (oX_58 Y) rfl (hrec _ M50 x8 x2 (x3 + r48) x4 (x5 - r48) x6 _ hq) (cwV 6 C.1.2.2.2.2 (sy_goodV uX_good uX_76 uX_77 uX_78 uX_62 uX_79 _) rfl rfl rfl hdX1_layPart ⟨by dsimp only; omega, by dsimp only; omega⟩) rfl hl.1 rfl (Nat.le_of_ble_eq_true rfl) dX1_layPart_233 (fun M51 H locs hq hh => ?_)
    exact sy_vret C hh dX1_layPart_236 hq
  · have hq := hq.2 c49
    refine lv_aload_n hx hb dX1_layPart_165 rfl (lv_at hl 1 rfl) ?_
    refine lv_iload_n hx hb dX1_layPart_166 rfl (lv_at hl 2 rfl) ?_
    refine lv_iload hx hb dX1_layPart_167 (lv_at hl 8 rfl) ?_
    refine lv_iload_n hx hb dX1_layPart_169 rfl (lv_at hl 4 rfl) ?_
    refine lv_iload hx hb dX1_layPart_170 (lv_at hl 5 rfl) ?_
    refine lv_iload hx hb dX1_layPart_172 (lv_at hl 6 rfl) ?_
    refine lv_iload hx hb dX1_layPart_174 (lv_at hl 0 rfl) ?_
    refine sy_cVV C hh (As := [.int x1, .int x8, .int x3, .int x4, .int x5, .int r48]) (rest := []) 58 (by decide) (oX_58 Y) rfl (hrec _ M47 x1 x8 x3 x4 x5 r48 _ hq) (cwV 6 C.1.2.2.2.2 (sy_goodV uX_good uX_76 uX_77 uX_78 uX_62 uX_79 _) rfl rfl rfl hdX1_layPart ⟨by dsimp only; omega, by dsimp only; omega⟩) rfl hl.1 rfl (Nat.le_of_ble_eq_true rfl) dX1_layPart_176 (fun M52 H locs hq hh => ?_)
    refine lv_aload_n hx hb dX1_layPart_179 rfl (lv_at hl 1 rfl) ?_
    refine lv_iload hx hb dX1_layPart_180 (lv_at hl 8 rfl) ?_
    refine lv_iload_n hx hb dX1_layPart_182 rfl (lv_at hl 3 rfl) ?_
    refine lv_iload_n hx hb dX1_layPart_183 rfl (lv_at hl 4 rfl) ?_
    refine lv_iload hx hb dX1_layPart_184 (lv_at hl 5 rfl) ?_
    refine lv_iload hx hb dX1_layPart_186 (lv_at hl 0 rfl) ?_
    refine lv_iadd hx hb dX1_layPart_188 ?_
    refine lv_iload hx hb dX1_layPart_189 (lv_at hl 6 rfl) ?_
    refine lv_iload hx hb dX1_layPart_191 (lv_at hl 7 rfl) ?_
    refine lv_iload hx hb dX1_layPart_193 (lv_at hl 0 rfl) ?_
    refine lv_isub hx hb dX1_layPart_195 ?_
    refine sy_cVV C hh (As := [.int x8, .int x2, .int x3, .int (x4 + r48), .int x5, .int (x6 - r48)]) (rest := []) 58 (by decide) (oX_58 Y) rfl (hrec _ M52 x8 x2 x3 (x4 + r48) x5 (x6 - r48) _ hq) (cwV 6 C.1.2.2.2.2 (sy_goodV uX_good uX_76 uX_77 uX_78 uX_62 uX_79 _) rfl rfl rfl hdX1_layPart ⟨by dsimp only; omega, by dsimp only; omega⟩) rfl hl.1 rfl (Nat.le_of_ble_eq_true rfl) dX1_layPart_196 (fun M53 H locs hq hh => ?_)
    refine lv_goto (tgt := 236) hx hb dX1_layPart_199 (by decide) ?_
    exact sy_vret C hh dX1_layPart_236 hq

end
set_option maxHeartbeats 4000000 in
set_option maxRecDepth 100000 in
theorem mX1_layPart_b {l : Launch} {Y : sy_Y} {rec : sy_M → Int32 → Int32 → Int32 → Int32 → Int32 → Int32 → (sy_M → Prop) → Prop} {d : Nat} (hrec : ∀ (sz : Nat) (M : sy_M) (a1 : Int32) (a2 : Int32) (a3 : Int32) (a4 : Int32) (a5 : Int32) (a6 : Int32) (Q : sy_M → Prop), rec M a1 a2 a3 a4 a5 a6 Q → Met l yX1_layPart vsX1_layPart ({ frames := 1 * d + 27, cells := 0, slots := 0, locals := 32 * d + 844 } : Room) (va_Pc [.ref (Y.2.1 58), .int a1, .int a2, .int a3, .int a4, .int a5, .int a6] (sy_pre Y NX EX tfX sz M)) (sy_QV Y NX EX sz Q) 0 0 (sy_A NX Y.2.1 sz)) (sz : Nat) (M : sy_M) (a1 : Int32) (a2 : Int32) (a3 : Int32) (a4 : Int32) (a5 : Int32) (a6 : Int32) (Q : sy_M → Prop) (hq : wX1_layPart_b rec M a1 a2 a3 a4 a5 a6 Q) : Met l yX1_layPart vsX1_layPart ({ frames := 1 * (d + 1) + 27, cells := 0, slots := 0, locals := 32 * (d + 1) + 844 } : Room) (va_Pc [.ref (Y.2.1 58), .int a1, .int a2, .int a3, .int a4, .int a5, .int a6] (sy_pre Y NX EX tfX sz M)) (sy_QV Y NX EX sz Q) 0 0 (sy_A NX Y.2.1 sz) := by
  refine sy_metV (by decide) rfl (Nat.le_of_ble_eq_true rfl) ?_
  intro p e s m args below meth c C ls hl hh
  have hx := C.1.1
  have hb := C.1.2.1
  have hl : lv_has ls 13 [(0, .ref (Y.2.1 58)), (1, .int a1), (2, .int a2), (3, .int a3), (4, .int a4), (5, .int a5), (6, .int a6)] := hl
  unfold wX1_layPart_b at hq
  refine lv_iload_n hx hb dX1_layPart_0 rfl (lv_at hl 2 rfl) ?_
  refine lv_iload_n hx hb dX1_layPart_1 rfl (lv_at hl 1 rfl) ?_
  refine lv_isub hx hb dX1_layPart_2 ?_
  refine lv_iconst (v := (1 : Int32)) hx hb dX1_layPart_3 (by decide) ?_
  refine lv_icmp_gt (tgt := 27) hx hb dX1_layPart_4 (by decide) (fun c1 => ?_) (fun c1 => ?_)
  · have hq := hq.1 c1
    refine lv_ldc (v := (nI 2147483647)) hx hb C.1.2.2.2.1 (C.1.2.2.2.2 (.constant RX1 52 (nI 2147483647)) (mc uX_71)) dX1_layPart_27 ?_
    refine lv_istore (lv' := [(7, .int (nI 2147483647)), (0, .ref (Y.2.1 58)), (1, .int a1), (2, .int a2), (3, .int a3), (4, .int a4), (5, .int a5), (6, .int a6)]) hx hb dX1_layPart_29 hl (by decide) rfl (fun ls hl => ?_)
    refine lv_iload_n hx hb dX1_layPart_31 rfl (lv_at hl 2 rfl) ?_
    refine lv_iconst (v := (1 : Int32)) hx hb dX1_layPart_32 (by decide) ?_
    refine lv_iadd hx hb dX1_layPart_33 ?_
    refine lv_istore (lv' := [(8, .int (a1 + (1 : Int32))), (7, .int (nI 2147483647)), (0, .ref (Y.2.1 58)), (1, .int a1), (2, .int a2), (3, .int a3), (4, .int a4), (5, .int a5), (6, .int a6)]) hx hb dX1_layPart_34 hl (by decide) rfl (fun ls hl => ?_)
    refine lv_iconst (v := (0 : Int32)) hx hb dX1_layPart_36 (by decide) ?_
    refine lv_istore (lv' := [(9, .int (0 : Int32)), (8, .int (a1 + (1 : Int32))), (7, .int (nI 2147483647)), (0, .ref (Y.2.1 58)), (1, .int a1), (2, .int a2), (3, .int a3), (4, .int a4), (5, .int a5), (6, .int a6)]) hx hb dX1_layPart_37 hl (by decide) rfl (fun ls hl => ?_)
    refine lv_iload_n hx hb dX1_layPart_39 rfl (lv_at hl 4 rfl) ?_
    refine lv_iconst (v := (1 : Int32)) hx hb dX1_layPart_40 (by decide) ?_
    refine lv_iadd hx hb dX1_layPart_41 ?_
    refine lv_istore (lv' := [(10, .int (a1 + (1 : Int32))), (9, .int (0 : Int32)), (8, .int (a1 + (1 : Int32))), (7, .int (nI 2147483647)), (0, .ref (Y.2.1 58)), (1, .int a1), (2, .int a2), (3, .int a3), (4, .int a4), (5, .int a5), (6, .int a6)]) hx hb dX1_layPart_42 hl (by decide) rfl (fun ls hl => ?_)
    obtain ⟨n54, hq⟩ := hq
    refine kX1_layPart_44 C hrec (fun M31 x1_32 x2_33 x3_34 x4_35 x5_36 x6_37 x8_38 x9_39 H locs ls hq hh hl => ?_) n54 M a1 a2 a3 a4 a5 a6 (nI 2147483647) (a1 + (1 : Int32)) (0 : Int32) (a1 + (1 : Int32)) _ _ _ hq hh (lv_sub hl [4, 5, 6, 7, 8, 9, 10, 3, 2, 1, 0] rfl)
    · refine lv_iload hx hb dX1_layPart_124 (lv_at hl 8 rfl) ?_
      refine lv_if_eq (tgt := 134) hx hb dX1_layPart_126 (by decide) (fun c40 => ?_) (fun c40 => ?_)
      · have hq := hq.1 c40
        refine lv_iload hx hb dX1_layPart_134 (lv_at hl 5 rfl) ?_
        refine kX1_layPart_136 C hrec  M31 x1_32 x2_33 x3_34 x4_35 x5_36 x6_37 x8_38 x9_39 x5_36 _ _ _ hq hh (lv_sub hl [0, 1, 2, 3, 4, 5, 6, 7, 8] rfl)
      · have hq := hq.2 c40
        refine lv_iload hx hb dX1_layPart_129 (lv_at hl 6 rfl) ?_
        refine lv_goto (tgt := 136) hx hb dX1_layPart_131 (by decide) ?_
        refine kX1_layPart_136 C hrec  M31 x1_32 x2_33 x3_34 x4_35 x5_36 x6_37 x8_38 x9_39 x6_37 _ _ _ hq hh (lv_sub hl [0, 1, 2, 3, 4, 5, 6, 7, 8] rfl)
  · have hq := hq.2 c1
    refine lv_aload_n hx hb dX1_layPart_7 rfl (lv_at hl 0 rfl) ?_
    obtain ⟨t55, et55, ht55, hq⟩ := hq
    refine sy_get C hh (fun w h => mc (uX_fX1 w h)) 58 (by decide) (oX_58 Y) rfl 1 (by decide) (index := 15) (mc uX_70) (v := .ref (Y.2.1 t55)) (sy_rf_of et55 (by have := iX5_lt ht55; omega)) dX1_layPart_8 ?_
    refine lv_aload_n hx hb dX1_layPart_11 rfl (lv_at hl 0 rfl) ?_
    obtain ⟨e56, hq⟩ := hq
    refine sy_get C hh (fun w h => mc (uX_fX1 w h)) 58 (by decide) (oX_58 Y) rfl 0 (by decide) (index := 9) (mc uX_51) (v := .ref (Y.2.1 28)) (sy_rf_of e56 (by decide)) dX1_layPart_12 ?_
    refine lv_iload_n hx hb dX1_layPart_15 rfl (lv_at hl 1 rfl) ?_
    refine lv_iload_n hx hb dX1_layPart_16 rfl (lv_at hl 3 rfl) ?_
    refine lv_iload hx hb dX1_layPart_17 (lv_at hl 4 rfl) ?_
    refine lv_iload hx hb dX1_layPart_19 (lv_at hl 5 rfl) ?_
    refine lv_iload hx hb dX1_layPart_21 (lv_at hl 6 rfl) ?_
    refine sy_cVV C hh (As := [.ref (Y.2.1 28), .int a1, .int a3, .int a4, .int a5, .int a6]) (rest := []) t55 (iX5_N ht55) (oX5 ht55) rfl (mX5_put l Y _ M t55 ht55 a1 a3 a4 a5 a6 _ hq) (cwV 6 C.1.2.2.2.2 (sy_goodV uX_good uX_72 uX_73 uX_74 uX_75 uX_37 _) rfl rfl rfl hdX5_put ⟨by dsimp only; omega, by dsimp only; omega⟩) rfl hl.1 rfl (Nat.le_of_ble_eq_true rfl) dX1_layPart_23 (fun M57 H locs hq hh => ?_)
    exact sy_vret C hh dX1_layPart_26 hq

set_option maxHeartbeats 4000000 in
theorem mX1_layPart (l : Launch) (Y : sy_Y) : ∀ (d : Nat) (sz : Nat) (M : sy_M) (a1 : Int32) (a2 : Int32) (a3 : Int32) (a4 : Int32) (a5 : Int32) (a6 : Int32) (Q : sy_M → Prop), wX1_layPart d M a1 a2 a3 a4 a5 a6 Q → Met l yX1_layPart vsX1_layPart ({ frames := 1 * d + 27, cells := 0, slots := 0, locals := 32 * d + 844 } : Room) (va_Pc [.ref (Y.2.1 58), .int a1, .int a2, .int a3, .int a4, .int a5, .int a6] (sy_pre Y NX EX tfX sz M)) (sy_QV Y NX EX sz Q) 0 0 (sy_A NX Y.2.1 sz)
  | 0, _, _, _, _, _, _, _, _, _, hq => by unfold wX1_layPart at hq; exact hq.elim
  | d + 1, sz, M, a1, a2, a3, a4, a5, a6, Q, hq => by
    unfold wX1_layPart at hq
    exact mX1_layPart_b (d := d) (rec := wX1_layPart d) (fun sz M => mX1_layPart l Y d sz M) sz M a1 a2 a3 a4 a5 a6 Q hq
/-! AreaSetter$Cutter.lay(LAreaSetter$Items;LAreaSetter$Plan;)V -/
def wX1_lay (M : sy_M) (p2 : Nat) (Q : sy_M → Prop) : Prop := ∃ t1 : Nat, (mu (mu M 58 0 (nI 28)) 58 1 (nI p2)) 58 1 = nI t1 ∧ iX5 t1 ∧ (mu (mu (mu M 58 0 (nI 28)) 58 1 (nI p2)) t1 0 (0 : Int32)) 58 0 = nI 28 ∧ (mu (mu (mu M 58 0 (nI 28)) 58 1 (nI p2)) t1 0 (0 : Int32)) 58 0 = nI 28 ∧ (mu (mu (mu M 58 0 (nI 28)) 58 1 (nI p2)) t1 0 (0 : Int32)) 58 0 = nI 28 ∧ (mu (mu (mu M 58 0 (nI 28)) 58 1 (nI p2)) t1 0 (0 : Int32)) 58 0 = nI 28 ∧ (mu (mu (mu M 58 0 (nI 28)) 58 1 (nI p2)) t1 0 (0 : Int32)) 58 0 = nI 28 ∧ wX1_layPart 9 (mu (mu (mu M 58 0 (nI 28)) 58 1 (nI p2)) t1 0 (0 : Int32)) (0 : Int32) ((mu (mu (mu M 58 0 (nI 28)) 58 1 (nI p2)) t1 0 (0 : Int32)) 28 0) ((mu (mu (mu M 58 0 (nI 28)) 58 1 (nI p2)) t1 0 (0 : Int32)) 28 4) ((mu (mu (mu M 58 0 (nI 28)) 58 1 (nI p2)) t1 0 (0 : Int32)) 28 5) ((mu (mu (mu M 58 0 (nI 28)) 58 1 (nI p2)) t1 0 (0 : Int32)) 28 6) ((mu (mu (mu M 58 0 (nI 28)) 58 1 (nI p2)) t1 0 (0 : Int32)) 28 7) (fun M7 => Q M7)
section
variable {p : Program} {l : Launch} {e : Env} {s : State} {m : MethodId} {args : Array Value} {below : List Frame} {meth : Method} {c : Code} {Y : sy_Y}
end
set_option maxHeartbeats 4000000 in
set_option maxRecDepth 100000 in
theorem mX1_lay (l : Launch) (Y : sy_Y) (sz : Nat) (M : sy_M) (p2 : Nat) (hp2 : iX5 p2) (Q : sy_M → Prop) (hq : wX1_lay M p2 Q) : Met l yX1_lay vsX1_lay ({ frames := 37, cells := 0, slots := 0, locals := 1164 } : Room) (va_Pc [.ref (Y.2.1 58), .ref (Y.2.1 28), .ref (Y.2.1 p2)] (sy_pre Y NX EX tfX sz M)) (sy_QV Y NX EX sz Q) 0 0 (sy_A NX Y.2.1 sz) := by
  refine sy_metV (by decide) rfl (Nat.le_of_ble_eq_true rfl) ?_
  intro p e s m args below meth c C ls hl hh
  have hx := C.1.1
  have hb := C.1.2.1
  have hl : lv_has ls 3 [(0, .ref (Y.2.1 58)), (1, .ref (Y.2.1 28)), (2, .ref (Y.2.1 p2))] := hl
  unfold wX1_lay at hq
  refine lv_aload_n hx hb dX1_lay_0 rfl (lv_at hl 0 rfl) ?_
  refine lv_aload_n hx hb dX1_lay_1 rfl (lv_at hl 1 rfl) ?_
  refine sy_put C hh (fun w h => mc (uX_fX1 w h)) tyX1 tyX1_ok nmX1 58 (by decide) (oX_58 Y) rfl 0 (by decide) (index := 9) (mc uX_51) rfl (nI 28) (ty := .object "AreaSetter$Items") (tyX1_ok 0 (by decide)) rfl rfl (Nat.le_of_ble_eq_true rfl) (pX1_0 Y _ _ (by decide)) dX1_lay_2 (fun H locs hh => ?_)
  refine lv_aload_n hx hb dX1_lay_5 rfl (lv_at hl 0 rfl) ?_
  refine lv_aload_n hx hb dX1_lay_6 rfl (lv_at hl 2 rfl) ?_
  refine sy_put C hh (fun w h => mc (uX_fX1 w h)) tyX1 tyX1_ok nmX1 58 (by decide) (oX_58 Y) rfl 1 (by decide) (index := 15) (mc uX_70) rfl (nI p2) (ty := .object "AreaSetter$Plan") (tyX1_ok 1 (by decide)) rfl rfl (Nat.le_of_ble_eq_true rfl) (pX1_1 Y _ _ (by have := iX5_lt hp2; omega)) dX1_lay_7 (fun H locs hh => ?_)
  refine lv_aload_n hx hb dX1_lay_10 rfl (lv_at hl 0 rfl) ?_
  obtain ⟨t1, et1, ht1, hq⟩ := hq
  refine sy_get C hh (fun w h => mc (uX_fX1 w h)) 58 (by decide) (oX_58 Y) rfl 1 (by decide) (index := 15) (mc uX_70) (v := .ref (Y.2.1 t1)) (sy_rf_of et1 (by have := iX5_lt ht1; omega)) dX1_lay_11 ?_
  refine lv_iconst (v := (0 : Int32)) hx hb dX1_lay_14 (by decide) ?_
  refine sy_put C hh (fun w h => mc (uX_fX5 w h)) tyX5 tyX5_ok nmX5 t1 (iX5_N ht1) (oX5 ht1) rfl 0 (by decide) (index := 19) (mc uX_80) rfl (0 : Int32) (ty := .int) (tyX5_ok 0 (by decide)) rfl rfl (Nat.le_of_ble_eq_true rfl) (pX5_0 Y _ _ _) dX1_lay_15 (fun H locs hh => ?_)
  refine lv_aload_n hx hb dX1_lay_18 rfl (lv_at hl 0 rfl) ?_
  refine lv_iconst (v := (0 : Int32)) hx hb dX1_lay_19 (by decide) ?_
  refine lv_aload_n hx hb dX1_lay_20 rfl (lv_at hl 0 rfl) ?_
  obtain ⟨e2, hq⟩ := hq
  refine sy_get C hh (fun w h => mc (uX_fX1 w h)) 58 (by decide) (oX_58 Y) rfl 0 (by decide) (index := 9) (mc uX_51) (v := .ref (Y.2.1 28)) (sy_rf_of e2 (by decide)) dX1_lay_21 ?_
  refine sy_get C hh (fun w h => mc (uX_fX3 w h)) 28 (by decide) (oX_28 Y) rfl 0 (by decide) (index := 25) (mc uX_81) (v := .int ((mu (mu (mu M 58 0 (nI 28)) 58 1 (nI p2)) t1 0 (0 : Int32)) 28 0)) rfl dX1_lay_24 ?_
  refine lv_aload_n hx hb dX1_lay_27 rfl (lv_at hl 0 rfl) ?_
  obtain ⟨e3, hq⟩ := hq
  refine sy_get C hh (fun w h => mc (uX_fX1 w h)) 58 (by decide) (oX_58 Y) rfl 0 (by decide) (index := 9) (mc uX_51) (v := .ref (Y.2.1 28)) (sy_rf_of e3 (by decide)) dX1_lay_28 ?_
  refine sy_get C hh (fun w h => mc (uX_fX3 w h)) 28 (by decide) (oX_28 Y) rfl 4 (by decide) (index := 30) (mc uX_82) (v := .int ((mu (mu (mu M 58 0 (nI 28)) 58 1 (nI p2)) t1 0 (0 : Int32)) 28 4)) rfl dX1_lay_31 ?_
  refine lv_aload_n hx hb dX1_lay_34 rfl (lv_at hl 0 rfl) ?_
  obtain ⟨e4, hq⟩ := hq
  refine sy_get C hh (fun w h => mc (uX_fX1 w h)) 58 (by decide) (oX_58 Y) rfl 0 (by decide) (index := 9) (mc uX_51) (v := .ref (Y.2.1 28)) (sy_rf_of e4 (by decide)) dX1_lay_35 ?_
  refine sy_get C hh (fun w h => mc (uX_fX3 w h)) 28 (by decide) (oX_28 Y) rfl 5 (by decide) (index := 33) (mc uX_83) (v := .int ((mu (mu (mu M 58 0 (nI 28)) 58 1 (nI p2)) t1 0 (0 : Int32)) 28 5)) rfl dX1_lay_38 ?_
  refine lv_aload_n hx hb dX1_lay_41 rfl (lv_at hl 0 rfl) ?_
  obtain ⟨e5, hq⟩ := hq
  refine sy_get C hh (fun w h => mc (uX_fX1 w h)) 58 (by decide) (oX_58 Y) rfl 0 (by decide) (index := 9) (mc uX_51) (v := .ref (Y.2.1 28)) (sy_rf_of e5 (by decide)) dX1_lay_42 ?_
  refine sy_get C hh (fun w h => mc (uX_fX3 w h)) 28 (by decide) (oX_28 Y) rfl 6 (by decide) (index := 36) (mc uX_84) (v := .int ((mu (mu (mu M 58 0 (nI 28)) 58 1 (nI p2)) t1 0 (0 : Int32)) 28 6)) rfl dX1_lay_45 ?_
  refine lv_aload_n hx hb dX1_lay_48 rfl (lv_at hl 0 rfl) ?_
  obtain ⟨e6, hq⟩ := hq
  refine sy_get C hh (fun w h => mc (uX_fX1 w h)) 58 (by decide) (oX_58 Y) rfl 0 (by decide) (index := 9) (mc uX_51) (v := .ref (Y.2.1 28)) (sy_rf_of e6 (by decide)) dX1_lay_49 ?_
  refine sy_get C hh (fun w h => mc (uX_fX3 w h)) 28 (by decide) (oX_28 Y) rfl 7 (by decide) (index := 39) (mc uX_85) (v := .int ((mu (mu (mu M 58 0 (nI 28)) 58 1 (nI p2)) t1 0 (0 : Int32)) 28 7)) rfl dX1_lay_52 ?_
  refine sy_cVV C hh (As := [.int (0 : Int32), .int ((mu (mu (mu M 58 0 (nI 28)) 58 1 (nI p2)) t1 0 (0 : Int32)) 28 0), .int ((mu (mu (mu M 58 0 (nI 28)) 58 1 (nI p2)) t1 0 (0 : Int32)) 28 4), .int ((mu (mu (mu M 58 0 (nI 28)) 58 1 (nI p2)) t1 0 (0 : Int32)) 28 5), .int ((mu (mu (mu M 58 0 (nI 28)) 58 1 (nI p2)) t1 0 (0 : Int32)) 28 6), .int ((mu (mu (mu M 58 0 (nI 28)) 58 1 (nI p2)) t1 0 (0 : Int32)) 28 7)]) (rest := []) 58 (by decide) (oX_58 Y) rfl (mX1_layPart l Y 9 _ (mu (mu (mu M 58 0 (nI 28)) 58 1 (nI p2)) t1 0 (0 : Int32)) (0 : Int32) ((mu (mu (mu M 58 0 (nI 28)) 58 1 (nI p2)) t1 0 (0 : Int32)) 28 0) ((mu (mu (mu M 58 0 (nI 28)) 58 1 (nI p2)) t1 0 (0 : Int32)) 28 4) ((mu (mu (mu M 58 0 (nI 28)) 58 1 (nI p2)) t1 0 (0 : Int32)) 28 5) ((mu (mu (mu M 58 0 (nI 28)) 58 1 (nI p2)) t1 0 (0 : Int32)) 28 6) ((mu (mu (mu M 58 0 (nI 28)) 58 1 (nI p2)) t1 0 (0 : Int32)) 28 7) _ hq) (cwV 6 C.1.2.2.2.2 (sy_goodV uX_good uX_76 uX_77 uX_78 uX_62 uX_79 _) rfl rfl rfl hdX1_layPart ⟨Nat.le_of_ble_eq_true rfl, Nat.le_of_ble_eq_true rfl⟩) rfl hl.1 rfl (Nat.le_of_ble_eq_true rfl) dX1_lay_55 (fun M7 H locs hq hh => ?_)
  exact sy_vret C hh dX1_lay_58 hq

/-! AreaSetter$Items.begin(IIII)I -/
def wX3_begin (M : sy_M) (a1 : Int32) (a2 : Int32) (a3 : Int32) (a4 : Int32) (Q : Int32 → sy_M → Prop) : Prop := ((a1 < a4 → wX3_sum M a3 a1 (fun r3 M2 => wX3_sum M2 a3 a4 (fun r5 M4 => wX11_share M4 a2 r3 r5 (fun r7 M6 => Q r7 M6)))) ∧ (¬ a1 < a4 → Q a2 M))
section
variable {p : Program} {l : Launch} {e : Env} {s : State} {m : MethodId} {args : Array Value} {below : List Frame} {meth : Method} {c : Code} {Y : sy_Y}
end
set_option maxHeartbeats 4000000 in
set_option maxRecDepth 100000 in
theorem mX3_begin (l : Launch) (Y : sy_Y) (sz : Nat) (M : sy_M) (a1 : Int32) (a2 : Int32) (a3 : Int32) (a4 : Int32) (Q : Int32 → sy_M → Prop) (hq : wX3_begin M a1 a2 a3 a4 Q) : Met l yX3_begin vsX3_begin ({ frames := 1, cells := 0, slots := 0, locals := 22 } : Room) (va_Pc [.ref (Y.2.1 28), .int a1, .int a2, .int a3, .int a4] (sy_pre Y NX EX tfX sz M)) (sy_QI Y NX EX sz Q) 0 0 (sy_A NX Y.2.1 sz) := by
  refine sy_metI (by decide) rfl (Nat.le_of_ble_eq_true rfl) ?_
  intro p e s m args below meth c C ls hl hh
  have hx := C.1.1
  have hb := C.1.2.1
  have hl : lv_has ls 5 [(0, .ref (Y.2.1 28)), (1, .int a1), (2, .int a2), (3, .int a3), (4, .int a4)] := hl
  unfold wX3_begin at hq
  refine lv_iload_n hx hb dX3_begin_0 rfl (lv_at hl 1 rfl) ?_
  refine lv_iload hx hb dX3_begin_1 (lv_at hl 4 rfl) ?_
  refine lv_icmp_lt (tgt := 10) hx hb dX3_begin_3 (by decide) (fun c1 => ?_) (fun c1 => ?_)
  · have hq := hq.1 c1
    refine lv_iload_n hx hb dX3_begin_10 rfl (lv_at hl 2 rfl) ?_
    refine lv_aload_n hx hb dX3_begin_11 rfl (lv_at hl 0 rfl) ?_
    refine lv_iload_n hx hb dX3_begin_12 rfl (lv_at hl 3 rfl) ?_
    refine lv_iload_n hx hb dX3_begin_13 rfl (lv_at hl 1 rfl) ?_
    refine sy_cIV C hh (As := [.int a3, .int a1]) (rest := [.int a2]) 28 (by decide) (oX_28 Y) rfl (mX3_sum l Y _ M a3 a1 _ hq) (cwV 2 C.1.2.2.2.2 (sy_goodV uX_good uX_175 uX_56 uX_57 uX_58 uX_48 _) rfl rfl rfl hdX3_sum ⟨Nat.le_of_ble_eq_true rfl, Nat.le_of_ble_eq_true rfl⟩) rfl hl.1 rfl (Nat.le_of_ble_eq_true rfl) dX3_begin_14 (fun r3 M2 H locs hq hh => ?_)
    refine lv_aload_n hx hb dX3_begin_17 rfl (lv_at hl 0 rfl) ?_
    refine lv_iload_n hx hb dX3_begin_18 rfl (lv_at hl 3 rfl) ?_
    refine lv_iload hx hb dX3_begin_19 (lv_at hl 4 rfl) ?_
    refine sy_cIV C hh (As := [.int a3, .int a4]) (rest := [.int r3, .int a2]) 28 (by decide) (oX_28 Y) rfl (mX3_sum l Y _ M2 a3 a4 _ hq) (cwV 2 C.1.2.2.2.2 (sy_goodV uX_good uX_175 uX_56 uX_57 uX_58 uX_48 _) rfl rfl rfl hdX3_sum ⟨Nat.le_of_ble_eq_true rfl, Nat.le_of_ble_eq_true rfl⟩) rfl hl.1 rfl (Nat.le_of_ble_eq_true rfl) dX3_begin_21 (fun r5 M4 H locs hq hh => ?_)
    refine sy_cIN C hh (As := [.int a2, .int r3, .int r5]) (rest := []) (mX11_share l Y _ M4 a2 r3 r5 _ hq) ⟨va_cnB 3 C.1.2.2.2.2 (sy_goodN uX_good uX_50 _) rfl rfl rfl (C.2.1.2.1 ("AreaSetter$Items", 106, yX11_share) (by simp)) (C.1.2.2.2.2 _ (mc uX_47)) hdX11_share.2 ⟨Nat.le_of_ble_eq_true rfl, Nat.le_of_ble_eq_true rfl⟩, C.1.2.2.2.2 _ (mc uX_65), trivial⟩ rfl hl.1 rfl (Nat.le_of_ble_eq_true rfl) dX3_begin_24 (fun r7 M6 H locs hq hh => ?_)
    exact sy_iret C hh dX3_begin_27 hq
  · have hq := hq.2 c1
    refine lv_iload_n hx hb dX3_begin_6 rfl (lv_at hl 2 rfl) ?_
    refine lv_goto (tgt := 27) hx hb dX3_begin_7 (by decide) ?_
    exact sy_iret C hh dX3_begin_27 hq

/-! AreaSetter$Layer.laySlice(LAreaSetter$Plan;)V -/
def wX4_laySlice_53 (Q : sy_M → Prop) : Nat → sy_M → Nat → Int32 → Int32 → Int32 → Prop
  | 0, _, _, _, _, _ => False
  | n + 1, M, x1, x2, x3, x4 => (((M 28 0) ≤ x4 → Q M) ∧ (¬ (M 28 0) ≤ x4 → wX3_begin M x4 x3 (0 : Int32) (M 28 0) (fun r5 M4 => wX3_begin M4 (x4 + (1 : Int32)) x3 (0 : Int32) (M4 28 0) (fun r7 M6 => ((x2 = 0 → wX5_put M6 x1 x4 (M6 28 4) ((M6 28 5) + r5) (M6 28 6) (r7 - r5) (fun M9 => wX4_laySlice_53 Q n M9 x1 x2 x3 (x4 + (1 : Int32)))) ∧ (¬ x2 = 0 → wX5_put M6 x1 x4 ((M6 28 4) + r5) (M6 28 5) (r7 - r5) (M6 28 7) (fun M10 => wX4_laySlice_53 Q n M10 x1 x2 x3 (x4 + (1 : Int32)))))))))
def wX4_laySlice_27 (Q : sy_M → Prop) (M : sy_M) (x1 : Nat) (s0 : Int32) : Prop := ((s0 = 0 → ∃ n11 : Nat, wX4_laySlice_53  Q n11 M x1 s0 (M 28 7) (0 : Int32)) ∧ (¬ s0 = 0 → ∃ n12 : Nat, wX4_laySlice_53  Q n12 M x1 s0 (M 28 6) (0 : Int32)))
def wX4_laySlice (M : sy_M) (p1 : Nat) (Q : sy_M → Prop) : Prop := ((((mu M p1 0 (0 : Int32)) 28 6) < ((mu M p1 0 (0 : Int32)) 28 7) → wX4_laySlice_27  Q (mu M p1 0 (0 : Int32)) p1 (0 : Int32)) ∧ (¬ ((mu M p1 0 (0 : Int32)) 28 6) < ((mu M p1 0 (0 : Int32)) 28 7) → wX4_laySlice_27  Q (mu M p1 0 (0 : Int32)) p1 (1 : Int32)))
section
variable {p : Program} {l : Launch} {e : Env} {s : State} {m : MethodId} {args : Array Value} {below : List Frame} {meth : Method} {c : Code} {Y : sy_Y}
set_option maxHeartbeats 4000000 in
set_option maxRecDepth 100000 in
theorem kX4_laySlice_53 (C : sy_C p m c cX4_laySlice 7 s args vsX4_laySlice RX4 meth none Y NX tfX) {Q : sy_M → Prop} :
    ∀ (n : Nat) (M : sy_M) (x1 : Nat) (x2 : Int32) (x3 : Int32) (x4 : Int32) (hx1 : iX5 x1) (H : Heap) (locs : List Loc) (ls : Array Slot), wX4_laySlice_53 Q n M x1 x2 x3 x4 → sy_H Y NX EX s H locs M → lv_has ls 7 [(0, .ref (Y.2.1 27)), (1, .ref (Y.2.1 x1)), (2, .int x2), (3, .int x3), (4, .int x4)] → W p l e ({ frames := 3, cells := 0, slots := 0, locals := 70 } : Room) s m args below meth c H locs 0 0 (sy_ZV below args s Y NX EX Q) (F0 m 53 ls []) := by
  have hx := C.1.1
  have hb := C.1.2.1
  intro n
  induction n with
  | zero =>
    intro M x1 x2 x3 x4 hx1 H locs ls hq hh hl
    unfold wX4_laySlice_53 at hq
    exact hq.elim
  | succ n ih =>
    intro M x1 x2 x3 x4 hx1 H locs ls hq hh hl
    unfold wX4_laySlice_53 at hq
    refine lv_iload hx hb dX4_laySlice_53 (lv_at hl 4 rfl) ?_
    refine lv_aload_n hx hb dX4_laySlice_55 rfl (lv_at hl 0 rfl) ?_
    refine sy_get C hh (fun w h => mc (uX_fX4 w h)) 27 (by decide) (oX_27 Y) rfl 1 (by decide) (index := 18) (mc uX_189) (v := .ref (Y.2.1 28)) rfl dX4_laySlice_56 ?_
    refine sy_get C hh (fun w h => mc (uX_fX3 w h)) 28 (by decide) (oX_28 Y) rfl 0 (by decide) (index := 47) (mc uX_206) (v := .int (M 28 0)) rfl dX4_laySlice_59 ?_
    refine lv_icmp_ge (tgt := 195) hx hb dX4_laySlice_62 (by decide) (fun c3 => ?_) (fun c3 => ?_)
    · have hq := hq.1 c3
      exact sy_vret C hh dX4_laySlice_195 hq
    · have hq := hq.2 c3
      refine lv_aload_n hx hb dX4_laySlice_65 rfl (lv_at hl 0 rfl) ?_
      refine sy_get C hh (fun w h => mc (uX_fX4 w h)) 27 (by decide) (oX_27 Y) rfl 1 (by decide) (index := 18) (mc uX_189) (v := .ref (Y.2.1 28)) rfl dX4_laySlice_66 ?_
      refine lv_iload hx hb dX4_laySlice_69 (lv_at hl 4 rfl) ?_
      refine lv_iload_n hx hb dX4_laySlice_71 rfl (lv_at hl 3 rfl) ?_
      refine lv_iconst (v := (0 : Int32)) hx hb dX4_laySlice_72 (by decide) ?_
      refine lv_aload_n hx hb dX4_laySlice_73 rfl (lv_at hl 0 rfl) ?_
      refine sy_get C hh (fun w h => mc (uX_fX4 w h)) 27 (by decide) (oX_27 Y) rfl 1 (by decide) (index := 18) (mc uX_189) (v := .ref (Y.2.1 28)) rfl dX4_laySlice_74 ?_
      refine sy_get C hh (fun w h => mc (uX_fX3 w h)) 28 (by decide) (oX_28 Y) rfl 0 (by decide) (index := 47) (mc uX_206) (v := .int (M 28 0)) rfl dX4_laySlice_77 ?_
      refine sy_cIV C hh (As := [.int x4, .int x3, .int (0 : Int32), .int (M 28 0)]) (rest := []) 28 (by decide) (oX_28 Y) rfl (mX3_begin l Y _ M x4 x3 (0 : Int32) (M 28 0) _ hq) (cwV 4 C.1.2.2.2.2 (sy_goodV uX_good uX_246 uX_217 uX_218 uX_58 uX_174 _) rfl rfl rfl hdX3_begin ⟨Nat.le_of_ble_eq_true rfl, Nat.le_of_ble_eq_true rfl⟩) rfl hl.1 rfl (Nat.le_of_ble_eq_true rfl) dX4_laySlice_80 (fun r5 M4 H locs hq hh => ?_)
      refine lv_istore (lv' := [(5, .int r5), (0, .ref (Y.2.1 27)), (1, .ref (Y.2.1 x1)), (2, .int x2), (3, .int x3), (4, .int x4)]) hx hb dX4_laySlice_83 hl (by decide) rfl (fun ls hl => ?_)
      refine lv_aload_n hx hb dX4_laySlice_85 rfl (lv_at hl 1 rfl) ?_
      refine sy_get C hh (fun w h => mc (uX_fX4 w h)) 27 (by decide) (oX_27 Y) rfl 1 (by decide) (index := 18) (mc uX_189) (v := .ref (Y.2.1 28)) rfl dX4_laySlice_86 ?_
      refine lv_iload hx hb dX4_laySlice_89 (lv_at hl 5 rfl) ?_
      refine lv_iconst (v := (1 : Int32)) hx hb dX4_laySlice_91 (by decide) ?_
      refine lv_iadd hx hb dX4_laySlice_92 ?_
      refine lv_iload_n hx hb dX4_laySlice_93 rfl (lv_at hl 4 rfl) ?_
      refine lv_iconst (v := (0 : Int32)) hx hb dX4_laySlice_94 (by decide) ?_
      refine lv_aload_n hx hb dX4_laySlice_95 rfl (lv_at hl 1 rfl) ?_
      refine sy_get C hh (fun w h => mc (uX_fX4 w h)) 27 (by decide) (oX_27 Y) rfl 1 (by decide) (index := 18) (mc uX_189) (v := .ref (Y.2.1 28)) rfl dX4_laySlice_96 ?_
      refine sy_get C hh (fun w h => mc (uX_fX3 w h)) 28 (by decide) (oX_28 Y) rfl 0 (by decide) (index := 47) (mc uX_206) (v := .int (M4 28 0)) rfl dX4_laySlice_99 ?_
      refine sy_cIV C hh (As := [.int (x4 + (1 : Int32)), .int x3, .int (0 : Int32), .int (M4 28 0)]) (rest := []) 28 (by decide) (oX_28 Y) rfl (mX3_begin l Y _ M4 (x4 + (1 : Int32)) x3 (0 : Int32) (M4 28 0) _ hq) (cwV 4 C.1.2.2.2.2 (sy_goodV uX_good uX_246 uX_217 uX_218 uX_58 uX_174 _) rfl rfl rfl hdX3_begin ⟨Nat.le_of_ble_eq_true rfl, Nat.le_of_ble_eq_true rfl⟩) rfl hl.1 rfl (Nat.le_of_ble_eq_true rfl) dX4_laySlice_102 (fun r7 M6 H locs hq hh => ?_)
      refine lv_iload hx hb dX4_laySlice_105 (lv_at hl 0 rfl) ?_
      refine lv_isub hx hb dX4_laySlice_107 ?_
      refine lv_istore (lv' := [(6, .int (r7 - r5)), (5, .int r5), (0, .ref (Y.2.1 27)), (1, .ref (Y.2.1 x1)), (2, .int x2), (3, .int x3), (4, .int x4)]) hx hb dX4_laySlice_108 hl (by decide) rfl (fun ls hl => ?_)
      refine lv_iload_n hx hb dX4_laySlice_110 rfl (lv_at hl 4 rfl) ?_
      refine lv_if_eq (tgt := 153) hx hb dX4_laySlice_111 (by decide) (fun c8 => ?_) (fun c8 => ?_)
      · have hq := hq.1 c8
        refine lv_aload_n hx hb dX4_laySlice_153 rfl (lv_at hl 3 rfl) ?_
        refine lv_aload_n hx hb dX4_laySlice_154 rfl (lv_at hl 2 rfl) ?_
        refine sy_get C hh (fun w h => mc (uX_fX4 w h)) 27 (by decide) (oX_27 Y) rfl 1 (by decide) (index := 18) (mc uX_189) (v := .ref (Y.2.1 28)) rfl dX4_laySlice_155 ?_
        refine lv_iload hx hb dX4_laySlice_158 (lv_at hl 6 rfl) ?_
        refine lv_aload_n hx hb dX4_laySlice_160 rfl (lv_at hl 2 rfl) ?_
        refine sy_get C hh (fun w h => mc (uX_fX4 w h)) 27 (by decide) (oX_27 Y) rfl 1 (by decide) (index := 18) (mc uX_189) (v := .ref (Y.2.1 28)) rfl dX4_laySlice_161 ?_
        refine sy_get C hh (fun w h => mc (uX_fX3 w h)) 28 (by decide) (oX_28 Y) rfl 4 (by decide) (index := 152) (mc uX_207) (v := .int (M6 28 4)) rfl dX4_laySlice_164 ?_
        refine lv_aload_n hx hb dX4_laySlice_167 rfl (lv_at hl 2 rfl) ?_
        refine sy_get C hh (fun w h => mc (uX_fX4 w h)) 27 (by decide) (oX_27 Y) rfl 1 (by decide) (index := 18) (mc uX_189) (v := .ref (Y.2.1 28)) rfl dX4_laySlice_168 ?_
        refine sy_get C hh (fun w h => mc (uX_fX3 w h)) 28 (by decide) (oX_28 Y) rfl 5 (by decide) (index := 154) (mc uX_208) (v := .int (M6 28 5)) rfl dX4_laySlice_171 ?_
        refine lv_iload hx hb dX4_laySlice_174 (lv_at hl 1 rfl) ?_
        refine lv_iadd hx hb dX4_laySlice_176 ?_
        refine lv_aload_n hx hb dX4_laySlice_177 rfl (lv_at hl 2 rfl) ?_
        refine sy_get C hh (fun w h => mc (uX_fX4 w h)) 27 (by decide) (oX_27 Y) rfl 1 (by decide) (index := 18) (mc uX_189) (v := .ref (Y.2.1 28)) rfl dX4_laySlice_178 ?_
        refine sy_get C hh (fun w h => mc (uX_fX3 w h)) 28 (by decide) (oX_28 Y) rfl 6 (by decide) (index := 159) (mc uX_244) (v := .int (M6 28 6)) rfl dX4_laySlice_181 ?_
        refine lv_iload hx hb dX4_laySlice_184 (lv_at hl 0 rfl) ?_
        refine sy_cVV C hh (As := [.ref (Y.2.1 28), .int x4, .int (M6 28 4), .int ((M6 28 5) + r5), .int (M6 28 6), .int (r7 - r5)]) (rest := []) x1 (iX5_N hx1) (oX5 hx1) rfl (mX5_put l Y _ M6 x1 hx1 x4 (M6 28 4) ((M6 28 5) + r5) (M6 28 6) (r7 - r5) _ hq) (cwV 6 C.1.2.2.2.2 (sy_goodV uX_good uX_209 uX_73 uX_74 uX_75 uX_37 _) rfl rfl rfl hdX5_put ⟨Nat.le_of_ble_eq_true rfl, Nat.le_of_ble_eq_true rfl⟩) rfl hl.1 rfl (Nat.le_of_ble_eq_true rfl) dX4_laySlice_186 (fun M9 H locs hq hh => ?_)
        refine lv_iinc (v := (x4 + (1 : Int32))) (lv' := [(4, .int (x4 + (1 : Int32))), (6, .int (r7 - r5)), (5, .int r5), (0, .ref (Y.2.1 27)), (1, .ref (Y.2.1 x1)), (2, .int x2), (3, .int x3)]) hx hb dX4_laySlice_189 hl (k := 6) rfl (sy_inc (by decide)) (by decide) rfl (fun ls hl => ?_)
        refine lv_goto (tgt := 53) hx hb dX4_laySlice_192 (by decide) ?_
        exact ih M9 x1 x2 x3 (x4 + (1 : Int32)) hx1 _ _ _ hq hh (lv_sub hl [3, 4, 5, 6, 0] rfl)
      · have hq := hq.2 c8
        refine lv_aload_n hx hb dX4_laySlice_114 rfl (lv_at hl 3 rfl) ?_
        refine lv_aload_n hx hb dX4_laySlice_115 rfl (lv_at hl 2 rfl) ?_
        refine sy_get C hh (fun w h => mc (uX_fX4 w h)) 27 (by decide) (oX_27 Y) rfl 1 (by decide) (index := 18) (mc uX_189) (v := .ref (Y.2.1 28)) rfl dX4_laySlice_116 ?_
        refine lv_iload hx hb dX4_laySlice_119 (lv_at hl 6 rfl) ?_
        refine lv_aload_n hx hb dX4_laySlice_121 rfl (lv_at hl 2 rfl) ?_
        refine sy_get C hh (fun w h => mc (uX_fX4 w h)) 27 (by decide) (oX_27 Y) rfl 1 (by decide) (index := 18) (mc uX_189) (v := .ref (Y.2.1 28)) rfl dX4_laySlice_122 ?_
        refine sy_get C hh (fun w h => mc (uX_fX3 w h)) 28 (by decide) (oX_28 Y) rfl 4 (by decide) (index := 152) (mc uX_207) (v := .int (M6 28 4)) rfl dX4_laySlice_125 ?_
        refine lv_iload hx hb dX4_laySlice_128 (lv_at hl 1 rfl) ?_
        refine lv_iadd hx hb dX4_laySlice_130 ?_
        refine lv_aload_n hx hb dX4_laySlice_131 rfl (lv_at hl 2 rfl) ?_
        refine sy_get C hh (fun w h => mc (uX_fX4 w h)) 27 (by decide) (oX_27 Y) rfl 1 (by decide) (index := 18) (mc uX_189) (v := .ref (Y.2.1 28)) rfl dX4_laySlice_132 ?_
        refine sy_get C hh (fun w h => mc (uX_fX3 w h)) 28 (by decide) (oX_28 Y) rfl 5 (by decide) (index := 154) (mc uX_208) (v := .int (M6 28 5)) rfl dX4_laySlice_135 ?_
        refine lv_iload hx hb dX4_laySlice_138 (lv_at hl 0 rfl) ?_
        refine lv_aload_n hx hb dX4_laySlice_140 rfl (lv_at hl 2 rfl) ?_
        refine sy_get C hh (fun w h => mc (uX_fX4 w h)) 27 (by decide) (oX_27 Y) rfl 1 (by decide) (index := 18) (mc uX_189) (v := .ref (Y.2.1 28)) rfl dX4_laySlice_141 ?_
        refine sy_get C hh (fun w h => mc (uX_fX3 w h)) 28 (by decide) (oX_28 Y) rfl 7 (by decide) (index := 161) (mc uX_245) (v := .int (M6 28 7)) rfl dX4_laySlice_144 ?_
        refine sy_cVV C hh (As := [.ref (Y.2.1 28), .int x4, .int ((M6 28 4) + r5), .int (M6 28 5), .int (r7 - r5), .int (M6 28 7)]) (rest := []) x1 (iX5_N hx1) (oX5 hx1) rfl (mX5_put l Y _ M6 x1 hx1 x4 ((M6 28 4) + r5) (M6 28 5) (r7 - r5) (M6 28 7) _ hq) (cwV 6 C.1.2.2.2.2 (sy_goodV uX_good uX_209 uX_73 uX_74 uX_75 uX_37 _) rfl rfl rfl hdX5_put ⟨Nat.le_of_ble_eq_true rfl, Nat.le_of_ble_eq_true rfl⟩) rfl hl.1 rfl (Nat.le_of_ble_eq_true rfl) dX4_laySlice_147 (fun M10 H locs hq hh => ?_)
        refine lv_goto (tgt := 189) hx hb dX4_laySlice_150 (by decide) ?_
        refine lv_iinc (v := (x4 + (1 : Int32))) (lv' := [(4, .int (x4 + (1 : Int32))), (6, .int (r7 - r5)), (5, .int r5), (0, .ref (Y.2.1 27)), (1, .ref (Y.2.1 x1)), (2, .int x2), (3, .int x3)]) hx hb dX4_laySlice_189 hl (k := 6) rfl (sy_inc (by decide)) (by decide) rfl (fun ls hl => ?_)
        refine lv_goto (tgt := 53) hx hb dX4_laySlice_192 (by decide) ?_
        exact ih M10 x1 x2 x3 (x4 + (1 : Int32)) hx1 _ _ _ hq hh (lv_sub hl [3, 4, 5, 6, 0] rfl)

set_option maxHeartbeats 4000000 in
set_option maxRecDepth 100000 in
theorem kX4_laySlice_27 (C : sy_C p m c cX4_laySlice 7 s args vsX4_laySlice RX4 meth none Y NX tfX) {Q : sy_M → Prop} :
    ∀ (M : sy_M) (x1 : Nat) (s0 : Int32) (hx1 : iX5 x1) (H : Heap) (locs : List Loc) (ls : Array Slot), wX4_laySlice_27 Q M x1 s0 → sy_H Y NX EX s H locs M → lv_has ls 7 [(0, .ref (Y.2.1 27)), (1, .ref (Y.2.1 x1))] → W p l e ({ frames := 3, cells := 0, slots := 0, locals := 70 } : Room) s m args below meth c H locs 0 0 (sy_ZV below args s Y NX EX Q) (F0 m 27 ls [.int s0]) := by
  have hx := C.1.1
  have hb := C.1.2.1
  intro M x1 s0 hx1 H locs ls hq hh hl
  unfold wX4_laySlice_27 at hq
  refine lv_istore_n (lv' := [(2, .int s0), (0, .ref (Y.2.1 27)), (1, .ref (Y.2.1 x1))]) hx hb dX4_laySlice_27 rfl hl (by decide) rfl (fun ls hl => ?_)
  refine lv_iload_n hx hb dX4_laySlice_28 rfl (lv_at hl 0 rfl) ?_
  refine lv_if_eq (tgt := 42) hx hb dX4_laySlice_29 (by decide) (fun c2 => ?_) (fun c2 => ?_)
  · have hq := hq.1 c2
    refine lv_aload_n hx hb dX4_laySlice_42 rfl (lv_at hl 1 rfl) ?_
    refine sy_get C hh (fun w h => mc (uX_fX4 w h)) 27 (by decide) (oX_27 Y) rfl 1 (by decide) (index := 18) (mc uX_189) (v := .ref (Y.2.1 28)) rfl dX4_laySlice_43 ?_
    refine sy_get C hh (fun w h => mc (uX_fX3 w h)) 28 (by decide) (oX_28 Y) rfl 7 (by decide) (index := 161) (mc uX_245) (v := .int (M 28 7)) rfl dX4_laySlice_46 ?_
    refine lv_istore_n (lv' := [(3, .int (M 28 7)), (2, .int s0), (0, .ref (Y.2.1 27)), (1, .ref (Y.2.1 x1))]) hx hb dX4_laySlice_49 rfl hl (by decide) rfl (fun ls hl => ?_)
    refine lv_iconst (v := (0 : Int32)) hx hb dX4_laySlice_50 (by decide) ?_
    refine lv_istore (lv' := [(4, .int (0 : Int32)), (3, .int (M 28 7)), (2, .int s0), (0, .ref (Y.2.1 27)), (1, .ref (Y.2.1 x1))]) hx hb dX4_laySlice_51 hl (by decide) rfl (fun ls hl => ?_)
    obtain ⟨n11, hq⟩ := hq
    refine kX4_laySlice_53 C  n11 M x1 s0 (M 28 7) (0 : Int32) hx1 _ _ _ hq hh (lv_sub hl [3, 4, 2, 1, 0] rfl)
  · have hq := hq.2 c2
    refine lv_aload_n hx hb dX4_laySlice_32 rfl (lv_at hl 1 rfl) ?_
    refine sy_get C hh (fun w h => mc (uX_fX4 w h)) 27 (by decide) (oX_27 Y) rfl 1 (by decide) (index := 18) (mc uX_189) (v := .ref (Y.2.1 28)) rfl dX4_laySlice_33 ?_
    refine sy_get C hh (fun w h => mc (uX_fX3 w h)) 28 (by decide) (oX_28 Y) rfl 6 (by decide) (index := 159) (mc uX_244) (v := .int (M 28 6)) rfl dX4_laySlice_36 ?_
    refine lv_goto (tgt := 49) hx hb dX4_laySlice_39 (by decide) ?_
    refine lv_istore_n (lv' := [(3, .int (M 28 6)), (2, .int s0), (0, .ref (Y.2.1 27)), (1, .ref (Y.2.1 x1))]) hx hb dX4_laySlice_49 rfl hl (by decide) rfl (fun ls hl => ?_)
    refine lv_iconst (v := (0 : Int32)) hx hb dX4_laySlice_50 (by decide) ?_
    refine lv_istore (lv' := [(4, .int (0 : Int32)), (3, .int (M 28 6)), (2, .int s0), (0, .ref (Y.2.1 27)), (1, .ref (Y.2.1 x1))]) hx hb dX4_laySlice_51 hl (by decide) rfl (fun ls hl => ?_)
    obtain ⟨n12, hq⟩ := hq
    refine kX4_laySlice_53 C  n12 M x1 s0 (M 28 6) (0 : Int32) hx1 _ _ _ hq hh (lv_sub hl [3, 4, 2, 1, 0] rfl)

end
set_option maxHeartbeats 4000000 in
set_option maxRecDepth 100000 in
theorem mX4_laySlice (l : Launch) (Y : sy_Y) (sz : Nat) (M : sy_M) (p1 : Nat) (hp1 : iX5 p1) (Q : sy_M → Prop) (hq : wX4_laySlice M p1 Q) : Met l yX4_laySlice vsX4_laySlice ({ frames := 3, cells := 0, slots := 0, locals := 70 } : Room) (va_Pc [.ref (Y.2.1 27), .ref (Y.2.1 p1)] (sy_pre Y NX EX tfX sz M)) (sy_QV Y NX EX sz Q) 0 0 (sy_A NX Y.2.1 sz) := by
  refine sy_metV (by decide) rfl (Nat.le_of_ble_eq_true rfl) ?_
  intro p e s m args below meth c C ls hl hh
  have hx := C.1.1
  have hb := C.1.2.1
  have hl : lv_has ls 7 [(0, .ref (Y.2.1 27)), (1, .ref (Y.2.1 p1))] := hl
  unfold wX4_laySlice at hq
  refine lv_aload_n hx hb dX4_laySlice_0 rfl (lv_at hl 1 rfl) ?_
  refine lv_iconst (v := (0 : Int32)) hx hb dX4_laySlice_1 (by decide) ?_
  refine sy_put C hh (fun w h => mc (uX_fX5 w h)) tyX5 tyX5_ok nmX5 p1 (iX5_N hp1) (oX5 hp1) rfl 0 (by decide) (index := 89) (mc uX_205) rfl (0 : Int32) (ty := .int) (tyX5_ok 0 (by decide)) rfl rfl (Nat.le_of_ble_eq_true rfl) (pX5_0 Y _ _ _) dX4_laySlice_2 (fun H locs hh => ?_)
  refine lv_aload_n hx hb dX4_laySlice_5 rfl (lv_at hl 0 rfl) ?_
  refine sy_get C hh (fun w h => mc (uX_fX4 w h)) 27 (by decide) (oX_27 Y) rfl 1 (by decide) (index := 18) (mc uX_189) (v := .ref (Y.2.1 28)) rfl dX4_laySlice_6 ?_
  refine sy_get C hh (fun w h => mc (uX_fX3 w h)) 28 (by decide) (oX_28 Y) rfl 6 (by decide) (index := 159) (mc uX_244) (v := .int ((mu M p1 0 (0 : Int32)) 28 6)) rfl dX4_laySlice_9 ?_
  refine lv_aload_n hx hb dX4_laySlice_12 rfl (lv_at hl 0 rfl) ?_
  refine sy_get C hh (fun w h => mc (uX_fX4 w h)) 27 (by decide) (oX_27 Y) rfl 1 (by decide) (index := 18) (mc uX_189) (v := .ref (Y.2.1 28)) rfl dX4_laySlice_13 ?_
  refine sy_get C hh (fun w h => mc (uX_fX3 w h)) 28 (by decide) (oX_28 Y) rfl 7 (by decide) (index := 161) (mc uX_245) (v := .int ((mu M p1 0 (0 : Int32)) 28 7)) rfl dX4_laySlice_16 ?_
  refine lv_icmp_lt (tgt := 26) hx hb dX4_laySlice_19 (by decide) (fun c1 => ?_) (fun c1 => ?_)
  · have hq := hq.1 c1
    refine lv_iconst (v := (0 : Int32)) hx hb dX4_laySlice_26 (by decide) ?_
    refine kX4_laySlice_27 C  (mu M p1 0 (0 : Int32)) p1 (0 : Int32) hp1 _ _ _ hq hh (lv_sub hl [0, 1] rfl)
  · have hq := hq.2 c1
    refine lv_iconst (v := (1 : Int32)) hx hb dX4_laySlice_22 (by decide) ?_
    refine lv_goto (tgt := 27) hx hb dX4_laySlice_23 (by decide) ?_
    refine kX4_laySlice_27 C  (mu M p1 0 (0 : Int32)) p1 (1 : Int32) hp1 _ _ _ hq hh (lv_sub hl [0, 1] rfl)

