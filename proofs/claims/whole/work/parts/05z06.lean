/-! AreaSetterModel.cutWorst(IIII)I -/
def wX12_cutWorst_39 (rec : sy_M → Int32 → Int32 → Int32 → Int32 → (Int32 → sy_M → Prop) → Prop) (K_71 : sy_M → Int32 → Int32 → Int32 → Int32 → Int32 → Int32 → Prop) (Q : Int32 → sy_M → Prop) : Nat → sy_M → Int32 → Int32 → Int32 → Int32 → Int32 → Int32 → Int32 → Prop
  | 0, _, _, _, _, _, _, _, _ => False
  | n + 1, M, x1, x2, x3, x4, x5, x6, x7 => (((nI 2) ≤ x7 → K_71 M x1 x2 x3 x4 x5 x6) ∧ (¬ (nI 2) ≤ x7 → wX12_cutBy rec M x1 x2 x6 x7 x3 x4 (fun r5 M4 => wX12_cutWorst_39 rec K_71 Q n M4 x1 x2 x3 x4 (imin x5 r5) x6 (x7 + (1 : Int32)))))
def wX12_cutWorst_28 (rec : sy_M → Int32 → Int32 → Int32 → Int32 → (Int32 → sy_M → Prop) → Prop) (Q : Int32 → sy_M → Prop) : Nat → sy_M → Int32 → Int32 → Int32 → Int32 → Int32 → Int32 → Prop
  | 0, _, _, _, _, _, _, _ => False
  | n + 1, M, x1, x2, x3, x4, x5, x6 => (((x2 - x1) ≤ x6 → Q x5 M) ∧ (¬ (x2 - x1) ≤ x6 → ∃ n13 : Nat, wX12_cutWorst_39 rec (fun (M6 : sy_M) (x1_7 : Int32) (x2_8 : Int32) (x3_9 : Int32) (x4_10 : Int32) (x5_11 : Int32) (x6_12 : Int32) => wX12_cutWorst_28 rec Q n M6 x1_7 x2_8 x3_9 x4_10 x5_11 (x6_12 + (1 : Int32))) Q n13 M x1 x2 x3 x4 x5 x6 (0 : Int32)))
def wX12_cutWorst_b (rec : sy_M → Int32 → Int32 → Int32 → Int32 → (Int32 → sy_M → Prop) → Prop) (M : sy_M) (a1 : Int32) (a2 : Int32) (a3 : Int32) (a4 : Int32) (Q : Int32 → sy_M → Prop) : Prop := ((¬ (a2 - a1) = (1 : Int32) → ∃ n14 : Nat, wX12_cutWorst_28 rec  Q n14 M a1 a2 a3 a4 (nI 2147483647) (1 : Int32)) ∧ ((a2 - a1) = (1 : Int32) → ∃ n15 : Nat, n15 < 9 ∧ a1 = nI n15 ∧ wX12_shape M (M 17 n15) a3 a4 (fun r17 M16 => Q r17 M16)))
def wX12_cutWorst : Nat → sy_M → Int32 → Int32 → Int32 → Int32 → (Int32 → sy_M → Prop) → Prop
  | 0, _, _, _, _, _, _ => False
  | d + 1, M, a1, a2, a3, a4, Q => wX12_cutWorst_b (wX12_cutWorst d) M a1 a2 a3 a4 Q
section
variable {p : Program} {l : Launch} {e : Env} {s : State} {m : MethodId} {args : Array Value} {below : List Frame} {meth : Method} {c : Code} {Y : sy_Y}
set_option maxHeartbeats 4000000 in
set_option maxRecDepth 100000 in
theorem kX12_cutWorst_39 (C : sy_C p m c cX12_cutWorst 8 s args vsX12_cutWorst RX12 meth (some .int) Y NZ tfZ) {rec : sy_M → Int32 → Int32 → Int32 → Int32 → (Int32 → sy_M → Prop) → Prop} {rm0 : Room} (hrec : ∀ (sz : Nat) (M : sy_M) (a1 : Int32) (a2 : Int32) (a3 : Int32) (a4 : Int32) (Q : Int32 → sy_M → Prop), rec M a1 a2 a3 a4 Q → Met l yX12_cutWorst vsX12_cutWorst rm0 (va_Pc [.ref (Y.2.1 0), .int a1, .int a2, .int a3, .int a4] (sy_pre Y NZ EZ tfZ sz M)) (sy_QI Y NZ EZ sz Q) 0 0 (sy_A NZ Y.2.1 sz)) (hrf : rm0.frames + 1 ≤ rm0.frames + 2 + 0) (hrl : 8 + (8 + 11) + rm0.locals ≤ rm0.locals + 56 + 0) {Q : Int32 → sy_M → Prop} {K_71 : sy_M → Int32 → Int32 → Int32 → Int32 → Int32 → Int32 → Prop} (hK_71 : ∀ (M : sy_M) (x1 : Int32) (x2 : Int32) (x3 : Int32) (x4 : Int32) (x5 : Int32) (x6 : Int32) (H : Heap) (locs : List Loc) (ls : Array Slot), K_71 M x1 x2 x3 x4 x5 x6 → sy_H Y NZ EZ s H locs M → lv_has ls 8 [(0, .ref (Y.2.1 0)), (1, .int x1), (2, .int x2), (3, .int x3), (4, .int x4), (5, .int x5), (6, .int x6)] → W p l e ({ frames := rm0.frames + 2 + 0, cells := 0, slots := 0, locals := rm0.locals + 56 + 0 } : Room) s m args below meth c H locs 0 0 (sy_ZI below args s Y NZ EZ Q) (F0 m 71 ls [])) :
    ∀ (n : Nat) (M : sy_M) (x1 : Int32) (x2 : Int32) (x3 : Int32) (x4 : Int32) (x5 : Int32) (x6 : Int32) (x7 : Int32) (H : Heap) (locs : List Loc) (ls : Array Slot), wX12_cutWorst_39 rec K_71 Q n M x1 x2 x3 x4 x5 x6 x7 → sy_H Y NZ EZ s H locs M → lv_has ls 8 [(0, .ref (Y.2.1 0)), (1, .int x1), (2, .int x2), (3, .int x3), (4, .int x4), (5, .int x5), (6, .int x6), (7, .int x7)] → W p l e ({ frames := rm0.frames + 2 + 0, cells := 0, slots := 0, locals := rm0.locals + 56 + 0 } : Room) s m args below meth c H locs 0 0 (sy_ZI below args s Y NZ EZ Q) (F0 m 39 ls []) := by
  have hx := C.1.1
  have hb := C.1.2.1
  intro n
  induction n with
  | zero =>
    intro M x1 x2 x3 x4 x5 x6 x7 H locs ls hq hh hl
    unfold wX12_cutWorst_39 at hq
    exact hq.elim
  | succ n ih =>
    intro M x1 x2 x3 x4 x5 x6 x7 H locs ls hq hh hl
    unfold wX12_cutWorst_39 at hq
    refine lv_iload hx hb dX12_cutWorst_39 (lv_at hl 7 rfl) ?_
    refine lv_iconst (v := (nI 2)) hx hb dX12_cutWorst_41 (by decide) ?_
    refine lv_icmp_ge (tgt := 71) hx hb dX12_cutWorst_42 (by decide) (fun c3 => ?_) (fun c3 => ?_)
    · have hq := hq.1 c3
      exact hK_71 M x1 x2 x3 x4 x5 x6 _ _ _ hq hh (lv_sub hl [0, 1, 2, 3, 4, 5, 6] rfl)
    · have hq := hq.2 c3
      refine lv_iload hx hb dX12_cutWorst_45 (lv_at hl 5 rfl) ?_
      refine lv_aload_n hx hb dX12_cutWorst_47 rfl (lv_at hl 0 rfl) ?_
      refine lv_iload_n hx hb dX12_cutWorst_48 rfl (lv_at hl 1 rfl) ?_
      refine lv_iload_n hx hb dX12_cutWorst_49 rfl (lv_at hl 2 rfl) ?_
      refine lv_iload hx hb dX12_cutWorst_50 (lv_at hl 6 rfl) ?_
      refine lv_iload hx hb dX12_cutWorst_52 (lv_at hl 7 rfl) ?_
      refine lv_iload_n hx hb dX12_cutWorst_54 rfl (lv_at hl 3 rfl) ?_
      refine lv_iload hx hb dX12_cutWorst_55 (lv_at hl 4 rfl) ?_
      refine sy_cIV C hh (As := [.int x1, .int x2, .int x6, .int x7, .int x3, .int x4]) (rest := [.int x5]) 0 (by decide) (oZ_0 Y) rfl (mX12_cutBy hrec _ M x1 x2 x6 x7 x3 x4 _ hq) (cwV 6 C.1.2.2.2.2 (sy_goodV uZ_good uZ_247 uZ_248 uZ_249 uZ_55 uZ_250 _) rfl rfl rfl hdX12_cutBy ⟨by first | exact Nat.le_of_ble_eq_true rfl | (simp only []; omega), by first | exact Nat.le_of_ble_eq_true rfl | (simp only []; omega)⟩) rfl hl.1 rfl (Nat.le_of_ble_eq_true rfl) dX12_cutWorst_57 (fun r5 M4 H locs hq hh => ?_)
      refine sy_mmin C hl (index := 304) (mc uZ_244) (mc uZ_245) (mc uZ_198) (mc uZ_246) (by show _ ≤ _; simp only []; omega) (by show _ ≤ _; simp only []; omega) dX12_cutWorst_60 ?_
      refine lv_istore (lv' := [(5, .int (imin x5 r5)), (0, .ref (Y.2.1 0)), (1, .int x1), (2, .int x2), (3, .int x3), (4, .int x4), (6, .int x6), (7, .int x7)]) hx hb dX12_cutWorst_63 hl (by decide) rfl (fun ls hl => ?_)
      refine lv_iinc (v := (x7 + (1 : Int32))) (lv' := [(7, .int (x7 + (1 : Int32))), (5, .int (imin x5 r5)), (0, .ref (Y.2.1 0)), (1, .int x1), (2, .int x2), (3, .int x3), (4, .int x4), (6, .int x6)]) hx hb dX12_cutWorst_65 hl (k := 7) rfl (sy_inc (by decide)) (by decide) rfl (fun ls hl => ?_)
      refine lv_goto (tgt := 39) hx hb dX12_cutWorst_68 (by decide) ?_
      exact ih M4 x1 x2 x3 x4 (imin x5 r5) x6 (x7 + (1 : Int32)) _ _ _ hq hh (lv_sub hl [2, 3, 4, 5, 6, 1, 7, 0] rfl)

set_option maxHeartbeats 4000000 in
set_option maxRecDepth 100000 in
theorem kX12_cutWorst_28 (C : sy_C p m c cX12_cutWorst 8 s args vsX12_cutWorst RX12 meth (some .int) Y NZ tfZ) {rec : sy_M → Int32 → Int32 → Int32 → Int32 → (Int32 → sy_M → Prop) → Prop} {rm0 : Room} (hrec : ∀ (sz : Nat) (M : sy_M) (a1 : Int32) (a2 : Int32) (a3 : Int32) (a4 : Int32) (Q : Int32 → sy_M → Prop), rec M a1 a2 a3 a4 Q → Met l yX12_cutWorst vsX12_cutWorst rm0 (va_Pc [.ref (Y.2.1 0), .int a1, .int a2, .int a3, .int a4] (sy_pre Y NZ EZ tfZ sz M)) (sy_QI Y NZ EZ sz Q) 0 0 (sy_A NZ Y.2.1 sz)) (hrf : rm0.frames + 1 ≤ rm0.frames + 2 + 0) (hrl : 8 + (8 + 11) + rm0.locals ≤ rm0.locals + 56 + 0) {Q : Int32 → sy_M → Prop} :
    ∀ (n : Nat) (M : sy_M) (x1 : Int32) (x2 : Int32) (x3 : Int32) (x4 : Int32) (x5 : Int32) (x6 : Int32) (H : Heap) (locs : List Loc) (ls : Array Slot), wX12_cutWorst_28 rec Q n M x1 x2 x3 x4 x5 x6 → sy_H Y NZ EZ s H locs M → lv_has ls 8 [(0, .ref (Y.2.1 0)), (1, .int x1), (2, .int x2), (3, .int x3), (4, .int x4), (5, .int x5), (6, .int x6)] → W p l e ({ frames := rm0.frames + 2 + 0, cells := 0, slots := 0, locals := rm0.locals + 56 + 0 } : Room) s m args below meth c H locs 0 0 (sy_ZI below args s Y NZ EZ Q) (F0 m 28 ls []) := by
  have hx := C.1.1
  have hb := C.1.2.1
  intro n
  induction n with
  | zero =>
    intro M x1 x2 x3 x4 x5 x6 H locs ls hq hh hl
    unfold wX12_cutWorst_28 at hq
    exact hq.elim
  | succ n ih =>
    intro M x1 x2 x3 x4 x5 x6 H locs ls hq hh hl
    unfold wX12_cutWorst_28 at hq
    refine lv_iload hx hb dX12_cutWorst_28 (lv_at hl 6 rfl) ?_
    refine lv_iload_n hx hb dX12_cutWorst_30 rfl (lv_at hl 2 rfl) ?_
    refine lv_iload_n hx hb dX12_cutWorst_31 rfl (lv_at hl 1 rfl) ?_
    refine lv_isub hx hb dX12_cutWorst_32 ?_
    refine lv_icmp_ge (tgt := 77) hx hb dX12_cutWorst_33 (by decide) (fun c2 => ?_) (fun c2 => ?_)
    · have hq := hq.1 c2
      refine lv_iload hx hb dX12_cutWorst_77 (lv_at hl 5 rfl) ?_
      exact sy_iret C hh dX12_cutWorst_79 hq
    · have hq := hq.2 c2
      refine lv_iconst (v := (0 : Int32)) hx hb dX12_cutWorst_36 (by decide) ?_
      refine lv_istore (lv' := [(7, .int (0 : Int32)), (0, .ref (Y.2.1 0)), (1, .int x1), (2, .int x2), (3, .int x3), (4, .int x4), (5, .int x5), (6, .int x6)]) hx hb dX12_cutWorst_37 hl (by decide) rfl (fun ls hl => ?_)
      obtain ⟨n13, hq⟩ := hq
      refine kX12_cutWorst_39 C hrec hrf hrl (fun M6 x1_7 x2_8 x3_9 x4_10 x5_11 x6_12 H locs ls hq hh hl => ?_) n13 M x1 x2 x3 x4 x5 x6 (0 : Int32) _ _ _ hq hh (lv_sub hl [1, 2, 3, 4, 5, 6, 7, 0] rfl)
      · refine lv_iinc (v := (x6_12 + (1 : Int32))) (lv' := [(6, .int (x6_12 + (1 : Int32))), (0, .ref (Y.2.1 0)), (1, .int x1_7), (2, .int x2_8), (3, .int x3_9), (4, .int x4_10), (5, .int x5_11)]) hx hb dX12_cutWorst_71 hl (k := 6) rfl (sy_inc (by decide)) (by decide) rfl (fun ls hl => ?_)
        refine lv_goto (tgt := 28) hx hb dX12_cutWorst_74 (by decide) ?_
        exact ih M6 x1_7 x2_8 x3_9 x4_10 x5_11 (x6_12 + (1 : Int32)) _ _ _ hq hh (lv_sub hl [1, 2, 3, 4, 5, 6, 0] rfl)

end
set_option maxHeartbeats 4000000 in
set_option maxRecDepth 100000 in
theorem mX12_cutWorst_b {l : Launch} {Y : sy_Y} {rec : sy_M → Int32 → Int32 → Int32 → Int32 → (Int32 → sy_M → Prop) → Prop} {rm0 : Room} (hrec : ∀ (sz : Nat) (M : sy_M) (a1 : Int32) (a2 : Int32) (a3 : Int32) (a4 : Int32) (Q : Int32 → sy_M → Prop), rec M a1 a2 a3 a4 Q → Met l yX12_cutWorst vsX12_cutWorst rm0 (va_Pc [.ref (Y.2.1 0), .int a1, .int a2, .int a3, .int a4] (sy_pre Y NZ EZ tfZ sz M)) (sy_QI Y NZ EZ sz Q) 0 0 (sy_A NZ Y.2.1 sz)) (sz : Nat) (M : sy_M) (a1 : Int32) (a2 : Int32) (a3 : Int32) (a4 : Int32) (Q : Int32 → sy_M → Prop) (hq : wX12_cutWorst_b rec M a1 a2 a3 a4 Q) : Met l yX12_cutWorst vsX12_cutWorst ({ frames := rm0.frames + 2 + 0, cells := 0, slots := 0, locals := rm0.locals + 56 + 0 } : Room) (va_Pc [.ref (Y.2.1 0), .int a1, .int a2, .int a3, .int a4] (sy_pre Y NZ EZ tfZ sz M)) (sy_QI Y NZ EZ sz Q) 0 0 (sy_A NZ Y.2.1 sz) := by
  refine sy_metI (by decide) rfl (Nat.le_of_ble_eq_true rfl) ?_
  intro p e s m args below meth c C ls hl hh
  have hx := C.1.1
  have hb := C.1.2.1
  have hl : lv_has ls 8 [(0, .ref (Y.2.1 0)), (1, .int a1), (2, .int a2), (3, .int a3), (4, .int a4)] := hl
  have hrf : rm0.frames + 1 ≤ rm0.frames + 2 + 0 := by first | exact Nat.le_refl _ | omega
  have hrl : 8 + (8 + 11) + rm0.locals ≤ rm0.locals + 56 + 0 := by first | exact Nat.le_refl _ | omega
  unfold wX12_cutWorst_b at hq
  refine lv_iload_n hx hb dX12_cutWorst_0 rfl (lv_at hl 2 rfl) ?_
  refine lv_iload_n hx hb dX12_cutWorst_1 rfl (lv_at hl 1 rfl) ?_
  refine lv_isub hx hb dX12_cutWorst_2 ?_
  refine lv_iconst (v := (1 : Int32)) hx hb dX12_cutWorst_3 (by decide) ?_
  refine lv_icmp_ne (tgt := 20) hx hb dX12_cutWorst_4 (by decide) (fun c1 => ?_) (fun c1 => ?_)
  · have hq := hq.1 c1
    refine lv_ldcw (v := (nI 2147483647)) hx hb C.1.2.2.2.1 (C.1.2.2.2.2 (.constant RX12 299 (nI 2147483647)) (mc uZ_243)) dX12_cutWorst_20 ?_
    refine lv_istore (lv' := [(5, .int (nI 2147483647)), (0, .ref (Y.2.1 0)), (1, .int a1), (2, .int a2), (3, .int a3), (4, .int a4)]) hx hb dX12_cutWorst_23 hl (by decide) rfl (fun ls hl => ?_)
    refine lv_iconst (v := (1 : Int32)) hx hb dX12_cutWorst_25 (by decide) ?_
    refine lv_istore (lv' := [(6, .int (1 : Int32)), (5, .int (nI 2147483647)), (0, .ref (Y.2.1 0)), (1, .int a1), (2, .int a2), (3, .int a3), (4, .int a4)]) hx hb dX12_cutWorst_26 hl (by decide) rfl (fun ls hl => ?_)
    obtain ⟨n14, hq⟩ := hq
    refine kX12_cutWorst_28 C hrec hrf hrl  n14 M a1 a2 a3 a4 (nI 2147483647) (1 : Int32) _ _ _ hq hh (lv_sub hl [2, 3, 4, 5, 6, 1, 0] rfl)
  · have hq := hq.2 c1
    refine lv_aload_n hx hb dX12_cutWorst_7 rfl (lv_at hl 0 rfl) ?_
    refine sy_get C hh (fun w h => mc (uZ_fX12 w h)) 0 (by decide) (oZ_0 Y) rfl 32 (by decide) (index := 73) (mc uZ_28) (v := .ref (Y.2.1 17)) rfl dX12_cutWorst_8 ?_
    refine lv_iload_n hx hb dX12_cutWorst_11 rfl (lv_at hl 1 rfl) ?_
    obtain ⟨n15, hn15, en15, hq⟩ := hq
    refine sy_iald C hh 17 (by decide) (aZ_17 Y) tZ_17 hn15 en15 (by decide) dX12_cutWorst_12 ?_
    refine lv_iload_n hx hb dX12_cutWorst_13 rfl (lv_at hl 3 rfl) ?_
    refine lv_iload hx hb dX12_cutWorst_14 (lv_at hl 4 rfl) ?_
    refine sy_cIS C hh (As := [.int (M 17 n15), .int a3, .int a4]) (rest := []) (mX12_shape l Y _ M (M 17 n15) a3 a4 _ hq) (va_cwS 3 C.1.2.2.2.2 (sy_goodS uZ_good uZ_200 uZ_201 uZ_55 uZ_192 _) rfl rfl rfl hdX12_shape.2 ⟨by first | exact Nat.le_of_ble_eq_true rfl | (simp only []; omega), by first | exact Nat.le_of_ble_eq_true rfl | (simp only []; omega)⟩) rfl hl.1 rfl (Nat.le_of_ble_eq_true rfl) dX12_cutWorst_16 (fun r17 M16 H locs hq hh => ?_)
    exact sy_iret C hh dX12_cutWorst_19 hq

set_option maxHeartbeats 4000000 in
theorem mX12_cutWorst (l : Launch) (Y : sy_Y) : ∀ (d : Nat) (sz : Nat) (M : sy_M) (a1 : Int32) (a2 : Int32) (a3 : Int32) (a4 : Int32) (Q : Int32 → sy_M → Prop), wX12_cutWorst d M a1 a2 a3 a4 Q → Met l yX12_cutWorst vsX12_cutWorst ({ frames := 2 * d + 5, cells := 0, slots := 0, locals := 56 * d + 176 } : Room) (va_Pc [.ref (Y.2.1 0), .int a1, .int a2, .int a3, .int a4] (sy_pre Y NZ EZ tfZ sz M)) (sy_QI Y NZ EZ sz Q) 0 0 (sy_A NZ Y.2.1 sz)
  | 0, _, _, _, _, _, _, _, hq => by unfold wX12_cutWorst at hq; exact hq.elim
  | d + 1, sz, M, a1, a2, a3, a4, Q, hq => by
    unfold wX12_cutWorst at hq
    exact mX12_cutWorst_b (rm0 := ({ frames := 2 * d + 5, cells := 0, slots := 0, locals := 56 * d + 176 } : Room)) (rec := wX12_cutWorst d) (fun sz M => mX12_cutWorst l Y d sz M) sz M a1 a2 a3 a4 Q hq
/-! AreaSetterModel.laysCuts(IIIIII)V -/
def wX12_laysCuts_102 (rec : sy_M → Int32 → Int32 → Int32 → Int32 → Int32 → Int32 → (sy_M → Prop) → Prop) (K_48 : sy_M → Int32 → Int32 → Int32 → Int32 → Int32 → Int32 → Int32 → Int32 → Int32 → Prop) (Q : sy_M → Prop) (M : sy_M) (x1 : Int32) (x2 : Int32) (x3 : Int32) (x4 : Int32) (x5 : Int32) (x6 : Int32) (x7 : Int32) (x8 : Int32) (x9 : Int32) : Prop := K_48 M x1 x2 x3 x4 x5 x6 x7 x8 (x9 + (1 : Int32))
def wX12_laysCuts_94 (rec : sy_M → Int32 → Int32 → Int32 → Int32 → Int32 → Int32 → (sy_M → Prop) → Prop) (K_48 : sy_M → Int32 → Int32 → Int32 → Int32 → Int32 → Int32 → Int32 → Int32 → Int32 → Prop) (Q : sy_M → Prop) (M : sy_M) (x1 : Int32) (x2 : Int32) (x3 : Int32) (x4 : Int32) (x5 : Int32) (x6 : Int32) (x9 : Int32) (x10 : Int32) : Prop := wX12_laysCuts_102 rec K_48 Q M x1 x2 x3 x4 x5 x6 x9 x10 x9
def wX12_laysCuts_48 (rec : sy_M → Int32 → Int32 → Int32 → Int32 → Int32 → Int32 → (sy_M → Prop) → Prop) (K_108 : sy_M → Int32 → Int32 → Int32 → Int32 → Int32 → Int32 → Int32 → Prop) (Q : sy_M → Prop) : Nat → sy_M → Int32 → Int32 → Int32 → Int32 → Int32 → Int32 → Int32 → Int32 → Int32 → Prop
  | 0, _, _, _, _, _, _, _, _, _, _ => False
  | n + 1, M, x1, x2, x3, x4, x5, x6, x7, x8, x9 => ((((nI 2) * (x2 - x1)) ≤ x9 → K_108 M x1 x2 x3 x4 x5 x6 x7) ∧ (¬ ((nI 2) * (x2 - x1)) ≤ x9 → wX12_cutBy (wX12_cutWorst 9) M x1 x2 (x9 / (nI 2)) (x9 - x9 / (nI 2) * (nI 2)) x5 x6 (fun r4 M3 => ((x7 = (-1 : Int32) → wX12_laysCuts_94 rec (fun (M6 : sy_M) (x1_7 : Int32) (x2_8 : Int32) (x3_9 : Int32) (x4_10 : Int32) (x5_11 : Int32) (x6_12 : Int32) (x7_13 : Int32) (x8_14 : Int32) (x9_15 : Int32) => wX12_laysCuts_48 rec K_108 Q n M6 x1_7 x2_8 x3_9 x4_10 x5_11 x6_12 x7_13 x8_14 x9_15) Q M3 x1 x2 x3 x4 x5 x6 x9 r4) ∧ (¬ x7 = (-1 : Int32) → ((r4 < x8 → wX12_laysCuts_94 rec (fun (M17 : sy_M) (x1_18 : Int32) (x2_19 : Int32) (x3_20 : Int32) (x4_21 : Int32) (x5_22 : Int32) (x6_23 : Int32) (x7_24 : Int32) (x8_25 : Int32) (x9_26 : Int32) => wX12_laysCuts_48 rec K_108 Q n M17 x1_18 x2_19 x3_20 x4_21 x5_22 x6_23 x7_24 x8_25 x9_26) Q M3 x1 x2 x3 x4 x5 x6 x9 r4) ∧ (¬ r4 < x8 → wX12_laysCuts_102 rec (fun (M27 : sy_M) (x1_28 : Int32) (x2_29 : Int32) (x3_30 : Int32) (x4_31 : Int32) (x5_32 : Int32) (x6_33 : Int32) (x7_34 : Int32) (x8_35 : Int32) (x9_36 : Int32) => wX12_laysCuts_48 rec K_108 Q n M27 x1_28 x2_29 x3_30 x4_31 x5_32 x6_33 x7_34 x8_35 x9_36) Q M3 x1 x2 x3 x4 x5 x6 x7 x8 x9)))))))
def wX12_laysCuts_235 (rec : sy_M → Int32 → Int32 → Int32 → Int32 → Int32 → Int32 → (sy_M → Prop) → Prop) (Q : sy_M → Prop) (M : sy_M) (x6 : Int32) (x10 : Int32) (x11 : Int32) (s1 : Int32) (s2 : Int32) (s3 : Int32) (s4 : Int32) (s5 : Int32) : Prop := ((x10 = 0 → rec M s1 s2 s3 s4 s5 (x6 - x11) (fun M56 => Q M56)) ∧ (¬ x10 = 0 → rec M s1 s2 s3 s4 s5 x6 (fun M57 => Q M57)))
def wX12_laysCuts_220 (rec : sy_M → Int32 → Int32 → Int32 → Int32 → Int32 → Int32 → (sy_M → Prop) → Prop) (Q : sy_M → Prop) (M : sy_M) (x5 : Int32) (x6 : Int32) (x10 : Int32) (x11 : Int32) (s1 : Int32) (s2 : Int32) (s3 : Int32) (s4 : Int32) : Prop := ((x10 = 0 → wX12_laysCuts_235 rec  Q M x6 x10 x11 s1 s2 s3 s4 x5) ∧ (¬ x10 = 0 → wX12_laysCuts_235 rec  Q M x6 x10 x11 s1 s2 s3 s4 (x5 - x11)))
def wX12_laysCuts_205 (rec : sy_M → Int32 → Int32 → Int32 → Int32 → Int32 → Int32 → (sy_M → Prop) → Prop) (Q : sy_M → Prop) (M : sy_M) (x4 : Int32) (x5 : Int32) (x6 : Int32) (x10 : Int32) (x11 : Int32) (s1 : Int32) (s2 : Int32) (s3 : Int32) : Prop := ((x10 = 0 → wX12_laysCuts_220 rec  Q M x5 x6 x10 x11 s1 s2 s3 (x4 + x11)) ∧ (¬ x10 = 0 → wX12_laysCuts_220 rec  Q M x5 x6 x10 x11 s1 s2 s3 x4))
def wX12_laysCuts_183 (rec : sy_M → Int32 → Int32 → Int32 → Int32 → Int32 → Int32 → (sy_M → Prop) → Prop) (Q : sy_M → Prop) (M : sy_M) (x1 : Int32) (x2 : Int32) (x3 : Int32) (x4 : Int32) (x5 : Int32) (x6 : Int32) (x9 : Int32) (x10 : Int32) (x11 : Int32) (s1 : Int32) (s2 : Int32) (s3 : Int32) (s4 : Int32) (s5 : Int32) (s6 : Int32) : Prop := rec M s1 s2 s3 s4 s5 s6 (fun M51 => ((x10 = 0 → wX12_laysCuts_205 rec  Q M51 x4 x5 x6 x10 x11 (x1 + x9) x2 x3) ∧ (¬ x10 = 0 → wX12_laysCuts_205 rec  Q M51 x4 x5 x6 x10 x11 (x1 + x9) x2 (x3 + x11))))
def wX12_laysCuts_171 (rec : sy_M → Int32 → Int32 → Int32 → Int32 → Int32 → Int32 → (sy_M → Prop) → Prop) (Q : sy_M → Prop) (M : sy_M) (x1 : Int32) (x2 : Int32) (x3 : Int32) (x4 : Int32) (x5 : Int32) (x6 : Int32) (x9 : Int32) (x10 : Int32) (x11 : Int32) (s1 : Int32) (s2 : Int32) (s3 : Int32) (s4 : Int32) (s5 : Int32) : Prop := ((x10 = 0 → wX12_laysCuts_183 rec  Q M x1 x2 x3 x4 x5 x6 x9 x10 x11 s1 s2 s3 s4 s5 x11) ∧ (¬ x10 = 0 → wX12_laysCuts_183 rec  Q M x1 x2 x3 x4 x5 x6 x9 x10 x11 s1 s2 s3 s4 s5 x6))
def wX12_laysCuts_141 (rec : sy_M → Int32 → Int32 → Int32 → Int32 → Int32 → Int32 → (sy_M → Prop) → Prop) (Q : sy_M → Prop) (M : sy_M) (x1 : Int32) (x2 : Int32) (x3 : Int32) (x4 : Int32) (x5 : Int32) (x6 : Int32) (x9 : Int32) (x10 : Int32) (s1 : Int32) : Prop := wX12_firstPart M s1 x1 x9 x2 (fun r48 M47 => ((x10 = 0 → wX12_laysCuts_171 rec  Q M47 x1 x2 x3 x4 x5 x6 x9 x10 r48 x1 (x1 + x9) x3 x4 x5) ∧ (¬ x10 = 0 → wX12_laysCuts_171 rec  Q M47 x1 x2 x3 x4 x5 x6 x9 x10 r48 x1 (x1 + x9) x3 x4 r48)))
def wX12_laysCuts_126 (rec : sy_M → Int32 → Int32 → Int32 → Int32 → Int32 → Int32 → (sy_M → Prop) → Prop) (Q : sy_M → Prop) (M : sy_M) (x1 : Int32) (x2 : Int32) (x3 : Int32) (x4 : Int32) (x5 : Int32) (x6 : Int32) (x9 : Int32) (s0 : Int32) : Prop := ((s0 = 0 → wX12_laysCuts_141 rec  Q M x1 x2 x3 x4 x5 x6 x9 s0 x6) ∧ (¬ s0 = 0 → wX12_laysCuts_141 rec  Q M x1 x2 x3 x4 x5 x6 x9 s0 x5))
def wX12_laysCuts_b (rec : sy_M → Int32 → Int32 → Int32 → Int32 → Int32 → Int32 → (sy_M → Prop) → Prop) (M : sy_M) (a1 : Int32) (a2 : Int32) (a3 : Int32) (a4 : Int32) (a5 : Int32) (a6 : Int32) (Q : sy_M → Prop) : Prop := ((¬ (a2 - a1) = (1 : Int32) → ∃ n58 : Nat, wX12_laysCuts_48 rec (fun (M37 : sy_M) (x1_38 : Int32) (x2_39 : Int32) (x3_40 : Int32) (x4_41 : Int32) (x5_42 : Int32) (x6_43 : Int32) (x7_44 : Int32) => ((¬ (x7_44 - x7_44 / (nI 2) * (nI 2)) = 0 → wX12_laysCuts_126 rec  Q M37 x1_38 x2_39 x3_40 x4_41 x5_42 x6_43 (x7_44 / (nI 2)) (0 : Int32)) ∧ ((x7_44 - x7_44 / (nI 2) * (nI 2)) = 0 → wX12_laysCuts_126 rec  Q M37 x1_38 x2_39 x3_40 x4_41 x5_42 x6_43 (x7_44 / (nI 2)) (1 : Int32)))) Q n58 M a1 a2 a3 a4 a5 a6 (-1 : Int32) (0 : Int32) (nI 2)) ∧ ((a2 - a1) = (1 : Int32) → ∃ n59 : Nat, n59 < 9 ∧ a1 = nI n59 ∧ ∃ n60 : Nat, n60 < 9 ∧ a1 = nI n60 ∧ ∃ n61 : Nat, n61 < 9 ∧ a1 = nI n61 ∧ ∃ n62 : Nat, n62 < 9 ∧ a1 = nI n62 ∧ Q (mu (mu (mu (mu M 18 n59 a3) 19 n60 a4) 20 n61 a5) 21 n62 a6)))
def wX12_laysCuts : Nat → sy_M → Int32 → Int32 → Int32 → Int32 → Int32 → Int32 → (sy_M → Prop) → Prop
  | 0, _, _, _, _, _, _, _, _ => False
  | d + 1, M, a1, a2, a3, a4, a5, a6, Q => wX12_laysCuts_b (wX12_laysCuts d) M a1 a2 a3 a4 a5 a6 Q
section
variable {p : Program} {l : Launch} {e : Env} {s : State} {m : MethodId} {args : Array Value} {below : List Frame} {meth : Method} {c : Code} {Y : sy_Y}
set_option maxHeartbeats 4000000 in
set_option maxRecDepth 100000 in
theorem kX12_laysCuts_102 (C : sy_C p m c cX12_laysCuts 12 s args vsX12_laysCuts RX12 meth none Y NZ tfZ) {rec : sy_M → Int32 → Int32 → Int32 → Int32 → Int32 → Int32 → (sy_M → Prop) → Prop} {rm0 : Room} (hrec : ∀ (sz : Nat) (M : sy_M) (a1 : Int32) (a2 : Int32) (a3 : Int32) (a4 : Int32) (a5 : Int32) (a6 : Int32) (Q : sy_M → Prop), rec M a1 a2 a3 a4 a5 a6 Q → Met l yX12_laysCuts vsX12_laysCuts rm0 (va_Pc [.ref (Y.2.1 0), .int a1, .int a2, .int a3, .int a4, .int a5, .int a6] (sy_pre Y NZ EZ tfZ sz M)) (sy_QV Y NZ EZ sz Q) 0 0 (sy_A NZ Y.2.1 sz)) (hrf : rm0.frames + 1 ≤ rm0.frames + 1 + 0) (hrl : 8 + (12 + 11) + rm0.locals ≤ rm0.locals + 31 + 0) {Q : sy_M → Prop} {K_48 : sy_M → Int32 → Int32 → Int32 → Int32 → Int32 → Int32 → Int32 → Int32 → Int32 → Prop} (hK_48 : ∀ (M : sy_M) (x1 : Int32) (x2 : Int32) (x3 : Int32) (x4 : Int32) (x5 : Int32) (x6 : Int32) (x7 : Int32) (x8 : Int32) (x9 : Int32) (H : Heap) (locs : List Loc) (ls : Array Slot), K_48 M x1 x2 x3 x4 x5 x6 x7 x8 x9 → sy_H Y NZ EZ s H locs M → lv_has ls 12 [(0, .ref (Y.2.1 0)), (1, .int x1), (2, .int x2), (3, .int x3), (4, .int x4), (5, .int x5), (6, .int x6), (7, .int x7), (8, .int x8), (9, .int x9)] → W p l e ({ frames := rm0.frames + 1 + 0, cells := 0, slots := 0, locals := rm0.locals + 31 + 0 } : Room) s m args below meth c H locs 0 0 (sy_ZV below args s Y NZ EZ Q) (F0 m 48 ls [])) :
    ∀ (M : sy_M) (x1 : Int32) (x2 : Int32) (x3 : Int32) (x4 : Int32) (x5 : Int32) (x6 : Int32) (x7 : Int32) (x8 : Int32) (x9 : Int32) (H : Heap) (locs : List Loc) (ls : Array Slot), wX12_laysCuts_102 rec K_48 Q M x1 x2 x3 x4 x5 x6 x7 x8 x9 → sy_H Y NZ EZ s H locs M → lv_has ls 12 [(0, .ref (Y.2.1 0)), (1, .int x1), (2, .int x2), (3, .int x3), (4, .int x4), (5, .int x5), (6, .int x6), (7, .int x7), (8, .int x8), (9, .int x9)] → W p l e ({ frames := rm0.frames + 1 + 0, cells := 0, slots := 0, locals := rm0.locals + 31 + 0 } : Room) s m args below meth c H locs 0 0 (sy_ZV below args s Y NZ EZ Q) (F0 m 102 ls []) := by
  have hx := C.1.1
  have hb := C.1.2.1
  intro M x1 x2 x3 x4 x5 x6 x7 x8 x9 H locs ls hq hh hl
  unfold wX12_laysCuts_102 at hq
  refine lv_iinc (v := (x9 + (1 : Int32))) (lv' := [(9, .int (x9 + (1 : Int32))), (0, .ref (Y.2.1 0)), (1, .int x1), (2, .int x2), (3, .int x3), (4, .int x4), (5, .int x5), (6, .int x6), (7, .int x7), (8, .int x8)]) hx hb dX12_laysCuts_102 hl (k := 9) rfl (sy_inc (by decide)) (by decide) rfl (fun ls hl => ?_)
  refine lv_goto (tgt := 48) hx hb dX12_laysCuts_105 (by decide) ?_
  exact hK_48 M x1 x2 x3 x4 x5 x6 x7 x8 (x9 + (1 : Int32)) _ _ _ hq hh (lv_sub hl [1, 2, 3, 4, 5, 6, 7, 8, 9, 0] rfl)

set_option maxHeartbeats 4000000 in
set_option maxRecDepth 100000 in
theorem kX12_laysCuts_94 (C : sy_C p m c cX12_laysCuts 12 s args vsX12_laysCuts RX12 meth none Y NZ tfZ) {rec : sy_M → Int32 → Int32 → Int32 → Int32 → Int32 → Int32 → (sy_M → Prop) → Prop} {rm0 : Room} (hrec : ∀ (sz : Nat) (M : sy_M) (a1 : Int32) (a2 : Int32) (a3 : Int32) (a4 : Int32) (a5 : Int32) (a6 : Int32) (Q : sy_M → Prop), rec M a1 a2 a3 a4 a5 a6 Q → Met l yX12_laysCuts vsX12_laysCuts rm0 (va_Pc [.ref (Y.2.1 0), .int a1, .int a2, .int a3, .int a4, .int a5, .int a6] (sy_pre Y NZ EZ tfZ sz M)) (sy_QV Y NZ EZ sz Q) 0 0 (sy_A NZ Y.2.1 sz)) (hrf : rm0.frames + 1 ≤ rm0.frames + 1 + 0) (hrl : 8 + (12 + 11) + rm0.locals ≤ rm0.locals + 31 + 0) {Q : sy_M → Prop} {K_48 : sy_M → Int32 → Int32 → Int32 → Int32 → Int32 → Int32 → Int32 → Int32 → Int32 → Prop} (hK_48 : ∀ (M : sy_M) (x1 : Int32) (x2 : Int32) (x3 : Int32) (x4 : Int32) (x5 : Int32) (x6 : Int32) (x7 : Int32) (x8 : Int32) (x9 : Int32) (H : Heap) (locs : List Loc) (ls : Array Slot), K_48 M x1 x2 x3 x4 x5 x6 x7 x8 x9 → sy_H Y NZ EZ s H locs M → lv_has ls 12 [(0, .ref (Y.2.1 0)), (1, .int x1), (2, .int x2), (3, .int x3), (4, .int x4), (5, .int x5), (6, .int x6), (7, .int x7), (8, .int x8), (9, .int x9)] → W p l e ({ frames := rm0.frames + 1 + 0, cells := 0, slots := 0, locals := rm0.locals + 31 + 0 } : Room) s m args below meth c H locs 0 0 (sy_ZV below args s Y NZ EZ Q) (F0 m 48 ls [])) :
    ∀ (M : sy_M) (x1 : Int32) (x2 : Int32) (x3 : Int32) (x4 : Int32) (x5 : Int32) (x6 : Int32) (x9 : Int32) (x10 : Int32) (H : Heap) (locs : List Loc) (ls : Array Slot), wX12_laysCuts_94 rec K_48 Q M x1 x2 x3 x4 x5 x6 x9 x10 → sy_H Y NZ EZ s H locs M → lv_has ls 12 [(0, .ref (Y.2.1 0)), (1, .int x1), (2, .int x2), (3, .int x3), (4, .int x4), (5, .int x5), (6, .int x6), (9, .int x9), (10, .int x10)] → W p l e ({ frames := rm0.frames + 1 + 0, cells := 0, slots := 0, locals := rm0.locals + 31 + 0 } : Room) s m args below meth c H locs 0 0 (sy_ZV below args s Y NZ EZ Q) (F0 m 94 ls []) := by
  have hx := C.1.1
  have hb := C.1.2.1
  intro M x1 x2 x3 x4 x5 x6 x9 x10 H locs ls hq hh hl
  unfold wX12_laysCuts_94 at hq
  refine lv_iload hx hb dX12_laysCuts_94 (lv_at hl 7 rfl) ?_
  refine lv_istore (lv' := [(7, .int x9), (0, .ref (Y.2.1 0)), (1, .int x1), (2, .int x2), (3, .int x3), (4, .int x4), (5, .int x5), (6, .int x6), (9, .int x9), (10, .int x10)]) hx hb dX12_laysCuts_96 hl (by decide) rfl (fun ls hl => ?_)
  refine lv_iload hx hb dX12_laysCuts_98 (lv_at hl 9 rfl) ?_
  refine lv_istore (lv' := [(8, .int x10), (7, .int x9), (0, .ref (Y.2.1 0)), (1, .int x1), (2, .int x2), (3, .int x3), (4, .int x4), (5, .int x5), (6, .int x6), (9, .int x9), (10, .int x10)]) hx hb dX12_laysCuts_100 hl (by decide) rfl (fun ls hl => ?_)
  refine kX12_laysCuts_102 C hrec hrf hrl hK_48 M x1 x2 x3 x4 x5 x6 x9 x10 x9 _ _ _ hq hh (lv_sub hl [2, 3, 4, 5, 6, 7, 8, 1, 0, 9] rfl)

set_option maxHeartbeats 4000000 in
set_option maxRecDepth 100000 in
theorem kX12_laysCuts_48 (C : sy_C p m c cX12_laysCuts 12 s args vsX12_laysCuts RX12 meth none Y NZ tfZ) {rec : sy_M → Int32 → Int32 → Int32 → Int32 → Int32 → Int32 → (sy_M → Prop) → Prop} {rm0 : Room} (hrec : ∀ (sz : Nat) (M : sy_M) (a1 : Int32) (a2 : Int32) (a3 : Int32) (a4 : Int32) (a5 : Int32) (a6 : Int32) (Q : sy_M → Prop), rec M a1 a2 a3 a4 a5 a6 Q → Met l yX12_laysCuts vsX12_laysCuts rm0 (va_Pc [.ref (Y.2.1 0), .int a1, .int a2, .int a3, .int a4, .int a5, .int a6] (sy_pre Y NZ EZ tfZ sz M)) (sy_QV Y NZ EZ sz Q) 0 0 (sy_A NZ Y.2.1 sz)) (hrf : rm0.frames + 1 ≤ rm0.frames + 1 + 0) (hrl : 8 + (12 + 11) + rm0.locals ≤ rm0.locals + 31 + 0) {Q : sy_M → Prop} {K_108 : sy_M → Int32 → Int32 → Int32 → Int32 → Int32 → Int32 → Int32 → Prop} (hK_108 : ∀ (M : sy_M) (x1 : Int32) (x2 : Int32) (x3 : Int32) (x4 : Int32) (x5 : Int32) (x6 : Int32) (x7 : Int32) (H : Heap) (locs : List Loc) (ls : Array Slot), K_108 M x1 x2 x3 x4 x5 x6 x7 → sy_H Y NZ EZ s H locs M → lv_has ls 12 [(0, .ref (Y.2.1 0)), (1, .int x1), (2, .int x2), (3, .int x3), (4, .int x4), (5, .int x5), (6, .int x6), (7, .int x7)] → W p l e ({ frames := rm0.frames + 1 + 0, cells := 0, slots := 0, locals := rm0.locals + 31 + 0 } : Room) s m args below meth c H locs 0 0 (sy_ZV below args s Y NZ EZ Q) (F0 m 108 ls [])) :
    ∀ (n : Nat) (M : sy_M) (x1 : Int32) (x2 : Int32) (x3 : Int32) (x4 : Int32) (x5 : Int32) (x6 : Int32) (x7 : Int32) (x8 : Int32) (x9 : Int32) (H : Heap) (locs : List Loc) (ls : Array Slot), wX12_laysCuts_48 rec K_108 Q n M x1 x2 x3 x4 x5 x6 x7 x8 x9 → sy_H Y NZ EZ s H locs M → lv_has ls 12 [(0, .ref (Y.2.1 0)), (1, .int x1), (2, .int x2), (3, .int x3), (4, .int x4), (5, .int x5), (6, .int x6), (7, .int x7), (8, .int x8), (9, .int x9)] → W p l e ({ frames := rm0.frames + 1 + 0, cells := 0, slots := 0, locals := rm0.locals + 31 + 0 } : Room) s m args below meth c H locs 0 0 (sy_ZV below args s Y NZ EZ Q) (F0 m 48 ls []) := by
  have hx := C.1.1
  have hb := C.1.2.1
  intro n
  induction n with
  | zero =>
    intro M x1 x2 x3 x4 x5 x6 x7 x8 x9 H locs ls hq hh hl
    unfold wX12_laysCuts_48 at hq
    exact hq.elim
  | succ n ih =>
    intro M x1 x2 x3 x4 x5 x6 x7 x8 x9 H locs ls hq hh hl
    unfold wX12_laysCuts_48 at hq
    refine lv_iload hx hb dX12_laysCuts_48 (lv_at hl 9 rfl) ?_
    refine lv_iconst (v := (nI 2)) hx hb dX12_laysCuts_50 (by decide) ?_
    refine lv_iload_n hx hb dX12_laysCuts_51 rfl (lv_at hl 2 rfl) ?_
    refine lv_iload_n hx hb dX12_laysCuts_52 rfl (lv_at hl 1 rfl) ?_
    refine lv_isub hx hb dX12_laysCuts_53 ?_
    refine lv_imul hx hb dX12_laysCuts_54 ?_
    refine lv_icmp_ge (tgt := 108) hx hb dX12_laysCuts_55 (by decide) (fun c2 => ?_) (fun c2 => ?_)
    · have hq := hq.1 c2
      exact hK_108 M x1 x2 x3 x4 x5 x6 x7 _ _ _ hq hh (lv_sub hl [0, 1, 2, 3, 4, 5, 6, 7] rfl)
    · have hq := hq.2 c2
      refine lv_aload_n hx hb dX12_laysCuts_58 rfl (lv_at hl 0 rfl) ?_
      refine lv_iload_n hx hb dX12_laysCuts_59 rfl (lv_at hl 1 rfl) ?_
      refine lv_iload_n hx hb dX12_laysCuts_60 rfl (lv_at hl 2 rfl) ?_
      refine lv_iload hx hb dX12_laysCuts_61 (lv_at hl 9 rfl) ?_
      refine lv_iconst (v := (nI 2)) hx hb dX12_laysCuts_63 (by decide) ?_
      refine lv_idiv hx hb dX12_laysCuts_64 (by decide) ?_
      refine lv_iload hx hb dX12_laysCuts_65 (lv_at hl 9 rfl) ?_
      refine lv_iconst (v := (nI 2)) hx hb dX12_laysCuts_67 (by decide) ?_
      refine lv_irem hx hb dX12_laysCuts_68 (by decide) ?_
      refine lv_iload hx hb dX12_laysCuts_69 (lv_at hl 5 rfl) ?_
      refine lv_iload hx hb dX12_laysCuts_71 (lv_at hl 6 rfl) ?_
      refine sy_cIV C hh (As := [.int x1, .int x2, .int (x9 / (nI 2)), .int (x9 - x9 / (nI 2) * (nI 2)), .int x5, .int x6]) (rest := []) 0 (by decide) (oZ_0 Y) rfl (mX12_cutBy (fun sz M => mX12_cutWorst l Y 9 sz M) _ M x1 x2 (x9 / (nI 2)) (x9 - x9 / (nI 2) * (nI 2)) x5 x6 _ hq) (cwV 6 C.1.2.2.2.2 (sy_goodV uZ_good uZ_247 uZ_248 uZ_249 uZ_55 uZ_250 _) rfl rfl rfl hdX12_cutBy ⟨by first | exact Nat.le_of_ble_eq_true rfl | (simp only []; omega), by first | exact Nat.le_of_ble_eq_true rfl | (simp only []; omega)⟩) rfl hl.1 rfl (Nat.le_of_ble_eq_true rfl) dX12_laysCuts_73 (fun r4 M3 H locs hq hh => ?_)
      refine lv_istore (lv' := [(10, .int r4), (0, .ref (Y.2.1 0)), (1, .int x1), (2, .int x2), (3, .int x3), (4, .int x4), (5, .int x5), (6, .int x6), (7, .int x7), (8, .int x8), (9, .int x9)]) hx hb dX12_laysCuts_76 hl (by decide) rfl (fun ls hl => ?_)
      refine lv_iload hx hb dX12_laysCuts_78 (lv_at hl 8 rfl) ?_
      refine lv_iconst (v := (-1 : Int32)) hx hb dX12_laysCuts_80 (by decide) ?_
      refine lv_icmp_eq (tgt := 94) hx hb dX12_laysCuts_81 (by decide) (fun c5 => ?_) (fun c5 => ?_)
      · have hq := hq.1 c5
        refine kX12_laysCuts_94 C hrec hrf hrl (fun M6 x1_7 x2_8 x3_9 x4_10 x5_11 x6_12 x7_13 x8_14 x9_15 H locs ls hq hh hl => ?_) M3 x1 x2 x3 x4 x5 x6 x9 r4 _ _ _ hq hh (lv_sub hl [1, 2, 3, 4, 5, 6, 7, 10, 0] rfl)
        · exact ih M6 x1_7 x2_8 x3_9 x4_10 x5_11 x6_12 x7_13 x8_14 x9_15 _ _ _ hq hh (lv_sub hl [0, 1, 2, 3, 4, 5, 6, 7, 8, 9] rfl)
      · have hq := hq.2 c5
        refine lv_iload hx hb dX12_laysCuts_84 (lv_at hl 0 rfl) ?_
        refine lv_iload hx hb dX12_laysCuts_86 (lv_at hl 9 rfl) ?_
        refine lv_icmp_lt (tgt := 94) hx hb dX12_laysCuts_88 (by decide) (fun c16 => ?_) (fun c16 => ?_)
        · have hq := hq.1 c16
          refine kX12_laysCuts_94 C hrec hrf hrl (fun M17 x1_18 x2_19 x3_20 x4_21 x5_22 x6_23 x7_24 x8_25 x9_26 H locs ls hq hh hl => ?_) M3 x1 x2 x3 x4 x5 x6 x9 r4 _ _ _ hq hh (lv_sub hl [1, 2, 3, 4, 5, 6, 7, 10, 0] rfl)
          · exact ih M17 x1_18 x2_19 x3_20 x4_21 x5_22 x6_23 x7_24 x8_25 x9_26 _ _ _ hq hh (lv_sub hl [0, 1, 2, 3, 4, 5, 6, 7, 8, 9] rfl)
        · have hq := hq.2 c16
          refine lv_goto (tgt := 102) hx hb dX12_laysCuts_91 (by decide) ?_
          refine kX12_laysCuts_102 C hrec hrf hrl (fun M27 x1_28 x2_29 x3_30 x4_31 x5_32 x6_33 x7_34 x8_35 x9_36 H locs ls hq hh hl => ?_) M3 x1 x2 x3 x4 x5 x6 x7 x8 x9 _ _ _ hq hh (lv_sub hl [1, 2, 3, 4, 5, 6, 7, 8, 9, 10] rfl)
          · exact ih M27 x1_28 x2_29 x3_30 x4_31 x5_32 x6_33 x7_34 x8_35 x9_36 _ _ _ hq hh (lv_sub hl [0, 1, 2, 3, 4, 5, 6, 7, 8, 9] rfl)

set_option maxHeartbeats 4000000 in
set_option maxRecDepth 100000 in
theorem kX12_laysCuts_235 (C : sy_C p m c cX12_laysCuts 12 s args vsX12_laysCuts RX12 meth none Y NZ tfZ) {rec : sy_M → Int32 → Int32 → Int32 → Int32 → Int32 → Int32 → (sy_M → Prop) → Prop} {rm0 : Room} (hrec : ∀ (sz : Nat) (M : sy_M) (a1 : Int32) (a2 : Int32) (a3 : Int32) (a4 : Int32) (a5 : Int32) (a6 : Int32) (Q : sy_M → Prop), rec M a1 a2 a3 a4 a5 a6 Q → Met l yX12_laysCuts vsX12_laysCuts rm0 (va_Pc [.ref (Y.2.1 0), .int a1, .int a2, .int a3, .int a4, .int a5, .int a6] (sy_pre Y NZ EZ tfZ sz M)) (sy_QV Y NZ EZ sz Q) 0 0 (sy_A NZ Y.2.1 sz)) (hrf : rm0.frames + 1 ≤ rm0.frames + 1 + 0) (hrl : 8 + (12 + 11) + rm0.locals ≤ rm0.locals + 31 + 0) {Q : sy_M → Prop} :
    ∀ (M : sy_M) (x6 : Int32) (x10 : Int32) (x11 : Int32) (s1 : Int32) (s2 : Int32) (s3 : Int32) (s4 : Int32) (s5 : Int32) (H : Heap) (locs : List Loc) (ls : Array Slot), wX12_laysCuts_235 rec Q M x6 x10 x11 s1 s2 s3 s4 s5 → sy_H Y NZ EZ s H locs M → lv_has ls 12 [(6, .int x6), (10, .int x10), (11, .int x11)] → W p l e ({ frames := rm0.frames + 1 + 0, cells := 0, slots := 0, locals := rm0.locals + 31 + 0 } : Room) s m args below meth c H locs 0 0 (sy_ZV below args s Y NZ EZ Q) (F0 m 235 ls [.int s5, .int s4, .int s3, .int s2, .int s1, .ref (Y.2.1 0)]) := by
  have hx := C.1.1
  have hb := C.1.2.1
  intro M x6 x10 x11 s1 s2 s3 s4 s5 H locs ls hq hh hl
  unfold wX12_laysCuts_235 at hq
  refine lv_iload hx hb dX12_laysCuts_235 (lv_at hl 1 rfl) ?_
  refine lv_if_eq (tgt := 245) hx hb dX12_laysCuts_237 (by decide) (fun c55 => ?_) (fun c55 => ?_)
  · have hq := hq.1 c55
    refine lv_iload hx hb dX12_laysCuts_245 (lv_at hl 0 rfl) ?_
    refine lv_iload hx hb dX12_laysCuts_247 (lv_at hl 2 rfl) ?_
    refine lv_isub hx hb dX12_laysCuts_249 ?_
    refine sy_cVV C hh (As := [.int s1, .int s2, .int s3, .int s4, .int s5, .int (x6 - x11)]) (rest := []) 0 (by decide) (oZ_0 Y) rfl (hrec _ M s1 s2 s3 s4 s5 (x6 - x11) _ hq) (cwV 6 C.1.2.2.2.2 (sy_goodV uZ_good uZ_251 uZ_252 uZ_253 uZ_55 uZ_254 _) rfl rfl rfl hdX12_laysCuts ⟨hrf, hrl⟩) rfl hl.1 rfl (Nat.le_of_ble_eq_true rfl) dX12_laysCuts_250 (fun M56 H locs hq hh => ?_)
    exact sy_vret C hh dX12_laysCuts_253 hq
  · have hq := hq.2 c55
    refine lv_iload hx hb dX12_laysCuts_240 (lv_at hl 0 rfl) ?_
    refine lv_goto (tgt := 250) hx hb dX12_laysCuts_242 (by decide) ?_
    refine sy_cVV C hh (As := [.int s1, .int s2, .int s3, .int s4, .int s5, .int x6]) (rest := []) 0 (by decide) (oZ_0 Y) rfl (hrec _ M s1 s2 s3 s4 s5 x6 _ hq) (cwV 6 C.1.2.2.2.2 (sy_goodV uZ_good uZ_251 uZ_252 uZ_253 uZ_55 uZ_254 _) rfl rfl rfl hdX12_laysCuts ⟨hrf, hrl⟩) rfl hl.1 rfl (Nat.le_of_ble_eq_true rfl) dX12_laysCuts_250 (fun M57 H locs hq hh => ?_)
    exact sy_vret C hh dX12_laysCuts_253 hq

set_option maxHeartbeats 4000000 in
set_option maxRecDepth 100000 in
theorem kX12_laysCuts_220 (C : sy_C p m c cX12_laysCuts 12 s args vsX12_laysCuts RX12 meth none Y NZ tfZ) {rec : sy_M → Int32 → Int32 → Int32 → Int32 → Int32 → Int32 → (sy_M → Prop) → Prop} {rm0 : Room} (hrec : ∀ (sz : Nat) (M : sy_M) (a1 : Int32) (a2 : Int32) (a3 : Int32) (a4 : Int32) (a5 : Int32) (a6 : Int32) (Q : sy_M → Prop), rec M a1 a2 a3 a4 a5 a6 Q → Met l yX12_laysCuts vsX12_laysCuts rm0 (va_Pc [.ref (Y.2.1 0), .int a1, .int a2, .int a3, .int a4, .int a5, .int a6] (sy_pre Y NZ EZ tfZ sz M)) (sy_QV Y NZ EZ sz Q) 0 0 (sy_A NZ Y.2.1 sz)) (hrf : rm0.frames + 1 ≤ rm0.frames + 1 + 0) (hrl : 8 + (12 + 11) + rm0.locals ≤ rm0.locals + 31 + 0) {Q : sy_M → Prop} :
    ∀ (M : sy_M) (x5 : Int32) (x6 : Int32) (x10 : Int32) (x11 : Int32) (s1 : Int32) (s2 : Int32) (s3 : Int32) (s4 : Int32) (H : Heap) (locs : List Loc) (ls : Array Slot), wX12_laysCuts_220 rec Q M x5 x6 x10 x11 s1 s2 s3 s4 → sy_H Y NZ EZ s H locs M → lv_has ls 12 [(5, .int x5), (6, .int x6), (10, .int x10), (11, .int x11)] → W p l e ({ frames := rm0.frames + 1 + 0, cells := 0, slots := 0, locals := rm0.locals + 31 + 0 } : Room) s m args below meth c H locs 0 0 (sy_ZV below args s Y NZ EZ Q) (F0 m 220 ls [.int s4, .int s3, .int s2, .int s1, .ref (Y.2.1 0)]) := by
  have hx := C.1.1
  have hb := C.1.2.1
  intro M x5 x6 x10 x11 s1 s2 s3 s4 H locs ls hq hh hl
  unfold wX12_laysCuts_220 at hq
  refine lv_iload hx hb dX12_laysCuts_220 (lv_at hl 2 rfl) ?_
  refine lv_if_eq (tgt := 233) hx hb dX12_laysCuts_222 (by decide) (fun c54 => ?_) (fun c54 => ?_)
  · have hq := hq.1 c54
    refine lv_iload hx hb dX12_laysCuts_233 (lv_at hl 0 rfl) ?_
    refine kX12_laysCuts_235 C hrec hrf hrl  M x6 x10 x11 s1 s2 s3 s4 x5 _ _ _ hq hh (lv_sub hl [1, 2, 3] rfl)
  · have hq := hq.2 c54
    refine lv_iload hx hb dX12_laysCuts_225 (lv_at hl 0 rfl) ?_
    refine lv_iload hx hb dX12_laysCuts_227 (lv_at hl 3 rfl) ?_
    refine lv_isub hx hb dX12_laysCuts_229 ?_
    refine lv_goto (tgt := 235) hx hb dX12_laysCuts_230 (by decide) ?_
    refine kX12_laysCuts_235 C hrec hrf hrl  M x6 x10 x11 s1 s2 s3 s4 (x5 - x11) _ _ _ hq hh (lv_sub hl [1, 2, 3] rfl)

set_option maxHeartbeats 4000000 in
set_option maxRecDepth 100000 in
theorem kX12_laysCuts_205 (C : sy_C p m c cX12_laysCuts 12 s args vsX12_laysCuts RX12 meth none Y NZ tfZ) {rec : sy_M → Int32 → Int32 → Int32 → Int32 → Int32 → Int32 → (sy_M → Prop) → Prop} {rm0 : Room} (hrec : ∀ (sz : Nat) (M : sy_M) (a1 : Int32) (a2 : Int32) (a3 : Int32) (a4 : Int32) (a5 : Int32) (a6 : Int32) (Q : sy_M → Prop), rec M a1 a2 a3 a4 a5 a6 Q → Met l yX12_laysCuts vsX12_laysCuts rm0 (va_Pc [.ref (Y.2.1 0), .int a1, .int a2, .int a3, .int a4, .int a5, .int a6] (sy_pre Y NZ EZ tfZ sz M)) (sy_QV Y NZ EZ sz Q) 0 0 (sy_A NZ Y.2.1 sz)) (hrf : rm0.frames + 1 ≤ rm0.frames + 1 + 0) (hrl : 8 + (12 + 11) + rm0.locals ≤ rm0.locals + 31 + 0) {Q : sy_M → Prop} :
    ∀ (M : sy_M) (x4 : Int32) (x5 : Int32) (x6 : Int32) (x10 : Int32) (x11 : Int32) (s1 : Int32) (s2 : Int32) (s3 : Int32) (H : Heap) (locs : List Loc) (ls : Array Slot), wX12_laysCuts_205 rec Q M x4 x5 x6 x10 x11 s1 s2 s3 → sy_H Y NZ EZ s H locs M → lv_has ls 12 [(4, .int x4), (5, .int x5), (6, .int x6), (10, .int x10), (11, .int x11)] → W p l e ({ frames := rm0.frames + 1 + 0, cells := 0, slots := 0, locals := rm0.locals + 31 + 0 } : Room) s m args below meth c H locs 0 0 (sy_ZV below args s Y NZ EZ Q) (F0 m 205 ls [.int s3, .int s2, .int s1, .ref (Y.2.1 0)]) := by
  have hx := C.1.1
  have hb := C.1.2.1
  intro M x4 x5 x6 x10 x11 s1 s2 s3 H locs ls hq hh hl
  unfold wX12_laysCuts_205 at hq
  refine lv_iload hx hb dX12_laysCuts_205 (lv_at hl 3 rfl) ?_
  refine lv_if_eq (tgt := 215) hx hb dX12_laysCuts_207 (by decide) (fun c53 => ?_) (fun c53 => ?_)
  · have hq := hq.1 c53
    refine lv_iload hx hb dX12_laysCuts_215 (lv_at hl 0 rfl) ?_
    refine lv_iload hx hb dX12_laysCuts_217 (lv_at hl 4 rfl) ?_
    refine lv_iadd hx hb dX12_laysCuts_219 ?_
    refine kX12_laysCuts_220 C hrec hrf hrl  M x5 x6 x10 x11 s1 s2 s3 (x4 + x11) _ _ _ hq hh (lv_sub hl [1, 2, 3, 4] rfl)
  · have hq := hq.2 c53
    refine lv_iload hx hb dX12_laysCuts_210 (lv_at hl 0 rfl) ?_
    refine lv_goto (tgt := 220) hx hb dX12_laysCuts_212 (by decide) ?_
    refine kX12_laysCuts_220 C hrec hrf hrl  M x5 x6 x10 x11 s1 s2 s3 x4 _ _ _ hq hh (lv_sub hl [1, 2, 3, 4] rfl)

set_option maxHeartbeats 4000000 in
set_option maxRecDepth 100000 in
theorem kX12_laysCuts_183 (C : sy_C p m c cX12_laysCuts 12 s args vsX12_laysCuts RX12 meth none Y NZ tfZ) {rec : sy_M → Int32 → Int32 → Int32 → Int32 → Int32 → Int32 → (sy_M → Prop) → Prop} {rm0 : Room} (hrec : ∀ (sz : Nat) (M : sy_M) (a1 : Int32) (a2 : Int32) (a3 : Int32) (a4 : Int32) (a5 : Int32) (a6 : Int32) (Q : sy_M → Prop), rec M a1 a2 a3 a4 a5 a6 Q → Met l yX12_laysCuts vsX12_laysCuts rm0 (va_Pc [.ref (Y.2.1 0), .int a1, .int a2, .int a3, .int a4, .int a5, .int a6] (sy_pre Y NZ EZ tfZ sz M)) (sy_QV Y NZ EZ sz Q) 0 0 (sy_A NZ Y.2.1 sz)) (hrf : rm0.frames + 1 ≤ rm0.frames + 1 + 0) (hrl : 8 + (12 + 11) + rm0.locals ≤ rm0.locals + 31 + 0) {Q : sy_M → Prop} :
    ∀ (M : sy_M) (x1 : Int32) (x2 : Int32) (x3 : Int32) (x4 : Int32) (x5 : Int32) (x6 : Int32) (x9 : Int32) (x10 : Int32) (x11 : Int32) (s1 : Int32) (s2 : Int32) (s3 : Int32) (s4 : Int32) (s5 : Int32) (s6 : Int32) (H : Heap) (locs : List Loc) (ls : Array Slot), wX12_laysCuts_183 rec Q M x1 x2 x3 x4 x5 x6 x9 x10 x11 s1 s2 s3 s4 s5 s6 → sy_H Y NZ EZ s H locs M → lv_has ls 12 [(0, .ref (Y.2.1 0)), (1, .int x1), (2, .int x2), (3, .int x3), (4, .int x4), (5, .int x5), (6, .int x6), (9, .int x9), (10, .int x10), (11, .int x11)] → W p l e ({ frames := rm0.frames + 1 + 0, cells := 0, slots := 0, locals := rm0.locals + 31 + 0 } : Room) s m args below meth c H locs 0 0 (sy_ZV below args s Y NZ EZ Q) (F0 m 183 ls [.int s6, .int s5, .int s4, .int s3, .int s2, .int s1, .ref (Y.2.1 0)]) := by
  have hx := C.1.1
  have hb := C.1.2.1
  intro M x1 x2 x3 x4 x5 x6 x9 x10 x11 s1 s2 s3 s4 s5 s6 H locs ls hq hh hl
  unfold wX12_laysCuts_183 at hq
  refine sy_cVV C hh (As := [.int s1, .int s2, .int s3, .int s4, .int s5, .int s6]) (rest := []) 0 (by decide) (oZ_0 Y) rfl (hrec _ M s1 s2 s3 s4 s5 s6 _ hq) (cwV 6 C.1.2.2.2.2 (sy_goodV uZ_good uZ_251 uZ_252 uZ_253 uZ_55 uZ_254 _) rfl rfl rfl hdX12_laysCuts ⟨hrf, hrl⟩) rfl hl.1 rfl (Nat.le_of_ble_eq_true rfl) dX12_laysCuts_183 (fun M51 H locs hq hh => ?_)
  refine lv_aload_n hx hb dX12_laysCuts_186 rfl (lv_at hl 0 rfl) ?_
  refine lv_iload_n hx hb dX12_laysCuts_187 rfl (lv_at hl 1 rfl) ?_
  refine lv_iload hx hb dX12_laysCuts_188 (lv_at hl 7 rfl) ?_
  refine lv_iadd hx hb dX12_laysCuts_190 ?_
  refine lv_iload_n hx hb dX12_laysCuts_191 rfl (lv_at hl 2 rfl) ?_
  refine lv_iload hx hb dX12_laysCuts_192 (lv_at hl 8 rfl) ?_
  refine lv_if_eq (tgt := 204) hx hb dX12_laysCuts_194 (by decide) (fun c52 => ?_) (fun c52 => ?_)
  · have hq := hq.1 c52
    refine lv_iload_n hx hb dX12_laysCuts_204 rfl (lv_at hl 3 rfl) ?_
    refine kX12_laysCuts_205 C hrec hrf hrl  M51 x4 x5 x6 x10 x11 (x1 + x9) x2 x3 _ _ _ hq hh (lv_sub hl [4, 5, 6, 8, 9] rfl)
  · have hq := hq.2 c52
    refine lv_iload_n hx hb dX12_laysCuts_197 rfl (lv_at hl 3 rfl) ?_
    refine lv_iload hx hb dX12_laysCuts_198 (lv_at hl 9 rfl) ?_
    refine lv_iadd hx hb dX12_laysCuts_200 ?_
    refine lv_goto (tgt := 205) hx hb dX12_laysCuts_201 (by decide) ?_
    refine kX12_laysCuts_205 C hrec hrf hrl  M51 x4 x5 x6 x10 x11 (x1 + x9) x2 (x3 + x11) _ _ _ hq hh (lv_sub hl [4, 5, 6, 8, 9] rfl)

set_option maxHeartbeats 4000000 in
set_option maxRecDepth 100000 in
theorem kX12_laysCuts_171 (C : sy_C p m c cX12_laysCuts 12 s args vsX12_laysCuts RX12 meth none Y NZ tfZ) {rec : sy_M → Int32 → Int32 → Int32 → Int32 → Int32 → Int32 → (sy_M → Prop) → Prop} {rm0 : Room} (hrec : ∀ (sz : Nat) (M : sy_M) (a1 : Int32) (a2 : Int32) (a3 : Int32) (a4 : Int32) (a5 : Int32) (a6 : Int32) (Q : sy_M → Prop), rec M a1 a2 a3 a4 a5 a6 Q → Met l yX12_laysCuts vsX12_laysCuts rm0 (va_Pc [.ref (Y.2.1 0), .int a1, .int a2, .int a3, .int a4, .int a5, .int a6] (sy_pre Y NZ EZ tfZ sz M)) (sy_QV Y NZ EZ sz Q) 0 0 (sy_A NZ Y.2.1 sz)) (hrf : rm0.frames + 1 ≤ rm0.frames + 1 + 0) (hrl : 8 + (12 + 11) + rm0.locals ≤ rm0.locals + 31 + 0) {Q : sy_M → Prop} :
    ∀ (M : sy_M) (x1 : Int32) (x2 : Int32) (x3 : Int32) (x4 : Int32) (x5 : Int32) (x6 : Int32) (x9 : Int32) (x10 : Int32) (x11 : Int32) (s1 : Int32) (s2 : Int32) (s3 : Int32) (s4 : Int32) (s5 : Int32) (H : Heap) (locs : List Loc) (ls : Array Slot), wX12_laysCuts_171 rec Q M x1 x2 x3 x4 x5 x6 x9 x10 x11 s1 s2 s3 s4 s5 → sy_H Y NZ EZ s H locs M → lv_has ls 12 [(0, .ref (Y.2.1 0)), (1, .int x1), (2, .int x2), (3, .int x3), (4, .int x4), (5, .int x5), (6, .int x6), (9, .int x9), (10, .int x10), (11, .int x11)] → W p l e ({ frames := rm0.frames + 1 + 0, cells := 0, slots := 0, locals := rm0.locals + 31 + 0 } : Room) s m args below meth c H locs 0 0 (sy_ZV below args s Y NZ EZ Q) (F0 m 171 ls [.int s5, .int s4, .int s3, .int s2, .int s1, .ref (Y.2.1 0)]) := by
  have hx := C.1.1
  have hb := C.1.2.1
  intro M x1 x2 x3 x4 x5 x6 x9 x10 x11 s1 s2 s3 s4 s5 H locs ls hq hh hl
  unfold wX12_laysCuts_171 at hq
  refine lv_iload hx hb dX12_laysCuts_171 (lv_at hl 8 rfl) ?_
  refine lv_if_eq (tgt := 181) hx hb dX12_laysCuts_173 (by decide) (fun c50 => ?_) (fun c50 => ?_)
  · have hq := hq.1 c50
    refine lv_iload hx hb dX12_laysCuts_181 (lv_at hl 9 rfl) ?_
    refine kX12_laysCuts_183 C hrec hrf hrl  M x1 x2 x3 x4 x5 x6 x9 x10 x11 s1 s2 s3 s4 s5 x11 _ _ _ hq hh (lv_sub hl [0, 1, 2, 3, 4, 5, 6, 7, 8, 9] rfl)
  · have hq := hq.2 c50
    refine lv_iload hx hb dX12_laysCuts_176 (lv_at hl 6 rfl) ?_
    refine lv_goto (tgt := 183) hx hb dX12_laysCuts_178 (by decide) ?_
    refine kX12_laysCuts_183 C hrec hrf hrl  M x1 x2 x3 x4 x5 x6 x9 x10 x11 s1 s2 s3 s4 s5 x6 _ _ _ hq hh (lv_sub hl [0, 1, 2, 3, 4, 5, 6, 7, 8, 9] rfl)

set_option maxHeartbeats 4000000 in
set_option maxRecDepth 100000 in
theorem kX12_laysCuts_141 (C : sy_C p m c cX12_laysCuts 12 s args vsX12_laysCuts RX12 meth none Y NZ tfZ) {rec : sy_M → Int32 → Int32 → Int32 → Int32 → Int32 → Int32 → (sy_M → Prop) → Prop} {rm0 : Room} (hrec : ∀ (sz : Nat) (M : sy_M) (a1 : Int32) (a2 : Int32) (a3 : Int32) (a4 : Int32) (a5 : Int32) (a6 : Int32) (Q : sy_M → Prop), rec M a1 a2 a3 a4 a5 a6 Q → Met l yX12_laysCuts vsX12_laysCuts rm0 (va_Pc [.ref (Y.2.1 0), .int a1, .int a2, .int a3, .int a4, .int a5, .int a6] (sy_pre Y NZ EZ tfZ sz M)) (sy_QV Y NZ EZ sz Q) 0 0 (sy_A NZ Y.2.1 sz)) (hrf : rm0.frames + 1 ≤ rm0.frames + 1 + 0) (hrl : 8 + (12 + 11) + rm0.locals ≤ rm0.locals + 31 + 0) {Q : sy_M → Prop} :
    ∀ (M : sy_M) (x1 : Int32) (x2 : Int32) (x3 : Int32) (x4 : Int32) (x5 : Int32) (x6 : Int32) (x9 : Int32) (x10 : Int32) (s1 : Int32) (H : Heap) (locs : List Loc) (ls : Array Slot), wX12_laysCuts_141 rec Q M x1 x2 x3 x4 x5 x6 x9 x10 s1 → sy_H Y NZ EZ s H locs M → lv_has ls 12 [(0, .ref (Y.2.1 0)), (1, .int x1), (2, .int x2), (3, .int x3), (4, .int x4), (5, .int x5), (6, .int x6), (9, .int x9), (10, .int x10)] → W p l e ({ frames := rm0.frames + 1 + 0, cells := 0, slots := 0, locals := rm0.locals + 31 + 0 } : Room) s m args below meth c H locs 0 0 (sy_ZV below args s Y NZ EZ Q) (F0 m 141 ls [.int s1, .ref (Y.2.1 0)]) := by
  have hx := C.1.1
  have hb := C.1.2.1
  intro M x1 x2 x3 x4 x5 x6 x9 x10 s1 H locs ls hq hh hl
  unfold wX12_laysCuts_141 at hq
  refine lv_iload_n hx hb dX12_laysCuts_141 rfl (lv_at hl 1 rfl) ?_
  refine lv_iload hx hb dX12_laysCuts_142 (lv_at hl 7 rfl) ?_
  refine lv_iload_n hx hb dX12_laysCuts_144 rfl (lv_at hl 2 rfl) ?_
  refine sy_cIV C hh (As := [.int s1, .int x1, .int x9, .int x2]) (rest := []) 0 (by decide) (oZ_0 Y) rfl (mX12_firstPart l Y _ M s1 x1 x9 x2 _ hq) (cwV 4 C.1.2.2.2.2 (sy_goodV uZ_good uZ_236 uZ_237 uZ_238 uZ_55 uZ_235 _) rfl rfl rfl hdX12_firstPart ⟨by first | exact Nat.le_of_ble_eq_true rfl | (simp only []; omega), by first | exact Nat.le_of_ble_eq_true rfl | (simp only []; omega)⟩) rfl hl.1 rfl (Nat.le_of_ble_eq_true rfl) dX12_laysCuts_145 (fun r48 M47 H locs hq hh => ?_)
  refine lv_istore (lv' := [(11, .int r48), (0, .ref (Y.2.1 0)), (1, .int x1), (2, .int x2), (3, .int x3), (4, .int x4), (5, .int x5), (6, .int x6), (9, .int x9), (10, .int x10)]) hx hb dX12_laysCuts_148 hl (by decide) rfl (fun ls hl => ?_)
  refine lv_aload_n hx hb dX12_laysCuts_150 rfl (lv_at hl 1 rfl) ?_
  refine lv_iload_n hx hb dX12_laysCuts_151 rfl (lv_at hl 2 rfl) ?_
  refine lv_iload_n hx hb dX12_laysCuts_152 rfl (lv_at hl 2 rfl) ?_
  refine lv_iload hx hb dX12_laysCuts_153 (lv_at hl 8 rfl) ?_
  refine lv_iadd hx hb dX12_laysCuts_155 ?_
  refine lv_iload_n hx hb dX12_laysCuts_156 rfl (lv_at hl 4 rfl) ?_
  refine lv_iload hx hb dX12_laysCuts_157 (lv_at hl 5 rfl) ?_
  refine lv_iload hx hb dX12_laysCuts_159 (lv_at hl 9 rfl) ?_
  refine lv_if_eq (tgt := 169) hx hb dX12_laysCuts_161 (by decide) (fun c49 => ?_) (fun c49 => ?_)
  · have hq := hq.1 c49
    refine lv_iload hx hb dX12_laysCuts_169 (lv_at hl 6 rfl) ?_
    refine kX12_laysCuts_171 C hrec hrf hrl  M47 x1 x2 x3 x4 x5 x6 x9 x10 r48 x1 (x1 + x9) x3 x4 x5 _ _ _ hq hh (lv_sub hl [1, 2, 3, 4, 5, 6, 7, 8, 9, 0] rfl)
  · have hq := hq.2 c49
    refine lv_iload hx hb dX12_laysCuts_164 (lv_at hl 0 rfl) ?_
    refine lv_goto (tgt := 171) hx hb dX12_laysCuts_166 (by decide) ?_
    refine kX12_laysCuts_171 C hrec hrf hrl  M47 x1 x2 x3 x4 x5 x6 x9 x10 r48 x1 (x1 + x9) x3 x4 r48 _ _ _ hq hh (lv_sub hl [1, 2, 3, 4, 5, 6, 7, 8, 9, 0] rfl)

set_option maxHeartbeats 4000000 in
set_option maxRecDepth 100000 in
theorem kX12_laysCuts_126 (C : sy_C p m c cX12_laysCuts 12 s args vsX12_laysCuts RX12 meth none Y NZ tfZ) {rec : sy_M → Int32 → Int32 → Int32 → Int32 → Int32 → Int32 → (sy_M → Prop) → Prop} {rm0 : Room} (hrec : ∀ (sz : Nat) (M : sy_M) (a1 : Int32) (a2 : Int32) (a3 : Int32) (a4 : Int32) (a5 : Int32) (a6 : Int32) (Q : sy_M → Prop), rec M a1 a2 a3 a4 a5 a6 Q → Met l yX12_laysCuts vsX12_laysCuts rm0 (va_Pc [.ref (Y.2.1 0), .int a1, .int a2, .int a3, .int a4, .int a5, .int a6] (sy_pre Y NZ EZ tfZ sz M)) (sy_QV Y NZ EZ sz Q) 0 0 (sy_A NZ Y.2.1 sz)) (hrf : rm0.frames + 1 ≤ rm0.frames + 1 + 0) (hrl : 8 + (12 + 11) + rm0.locals ≤ rm0.locals + 31 + 0) {Q : sy_M → Prop} :
    ∀ (M : sy_M) (x1 : Int32) (x2 : Int32) (x3 : Int32) (x4 : Int32) (x5 : Int32) (x6 : Int32) (x9 : Int32) (s0 : Int32) (H : Heap) (locs : List Loc) (ls : Array Slot), wX12_laysCuts_126 rec Q M x1 x2 x3 x4 x5 x6 x9 s0 → sy_H Y NZ EZ s H locs M → lv_has ls 12 [(0, .ref (Y.2.1 0)), (1, .int x1), (2, .int x2), (3, .int x3), (4, .int x4), (5, .int x5), (6, .int x6), (9, .int x9)] → W p l e ({ frames := rm0.frames + 1 + 0, cells := 0, slots := 0, locals := rm0.locals + 31 + 0 } : Room) s m args below meth c H locs 0 0 (sy_ZV below args s Y NZ EZ Q) (F0 m 126 ls [.int s0]) := by
  have hx := C.1.1
  have hb := C.1.2.1
  intro M x1 x2 x3 x4 x5 x6 x9 s0 H locs ls hq hh hl
  unfold wX12_laysCuts_126 at hq
  refine lv_istore (lv' := [(10, .int s0), (0, .ref (Y.2.1 0)), (1, .int x1), (2, .int x2), (3, .int x3), (4, .int x4), (5, .int x5), (6, .int x6), (9, .int x9)]) hx hb dX12_laysCuts_126 hl (by decide) rfl (fun ls hl => ?_)
  refine lv_aload_n hx hb dX12_laysCuts_128 rfl (lv_at hl 1 rfl) ?_
  refine lv_iload hx hb dX12_laysCuts_129 (lv_at hl 0 rfl) ?_
  refine lv_if_eq (tgt := 139) hx hb dX12_laysCuts_131 (by decide) (fun c46 => ?_) (fun c46 => ?_)
  · have hq := hq.1 c46
    refine lv_iload hx hb dX12_laysCuts_139 (lv_at hl 7 rfl) ?_
    refine kX12_laysCuts_141 C hrec hrf hrl  M x1 x2 x3 x4 x5 x6 x9 s0 x6 _ _ _ hq hh (lv_sub hl [1, 2, 3, 4, 5, 6, 7, 8, 0] rfl)
  · have hq := hq.2 c46
    refine lv_iload hx hb dX12_laysCuts_134 (lv_at hl 6 rfl) ?_
    refine lv_goto (tgt := 141) hx hb dX12_laysCuts_136 (by decide) ?_
    refine kX12_laysCuts_141 C hrec hrf hrl  M x1 x2 x3 x4 x5 x6 x9 s0 x5 _ _ _ hq hh (lv_sub hl [1, 2, 3, 4, 5, 6, 7, 8, 0] rfl)

end
set_option maxHeartbeats 4000000 in
set_option maxRecDepth 100000 in
theorem mX12_laysCuts_b {l : Launch} {Y : sy_Y} {rec : sy_M → Int32 → Int32 → Int32 → Int32 → Int32 → Int32 → (sy_M → Prop) → Prop} {rm0 : Room} (hrec : ∀ (sz : Nat) (M : sy_M) (a1 : Int32) (a2 : Int32) (a3 : Int32) (a4 : Int32) (a5 : Int32) (a6 : Int32) (Q : sy_M → Prop), rec M a1 a2 a3 a4 a5 a6 Q → Met l yX12_laysCuts vsX12_laysCuts rm0 (va_Pc [.ref (Y.2.1 0), .int a1, .int a2, .int a3, .int a4, .int a5, .int a6] (sy_pre Y NZ EZ tfZ sz M)) (sy_QV Y NZ EZ sz Q) 0 0 (sy_A NZ Y.2.1 sz)) (sz : Nat) (M : sy_M) (a1 : Int32) (a2 : Int32) (a3 : Int32) (a4 : Int32) (a5 : Int32) (a6 : Int32) (Q : sy_M → Prop) (hq : wX12_laysCuts_b rec M a1 a2 a3 a4 a5 a6 Q) : Met l yX12_laysCuts vsX12_laysCuts ({ frames := rm0.frames + 1 + 0, cells := 0, slots := 0, locals := rm0.locals + 31 + 0 } : Room) (va_Pc [.ref (Y.2.1 0), .int a1, .int a2, .int a3, .int a4, .int a5, .int a6] (sy_pre Y NZ EZ tfZ sz M)) (sy_QV Y NZ EZ sz Q) 0 0 (sy_A NZ Y.2.1 sz) := by
  refine sy_metV (by decide) rfl (Nat.le_of_ble_eq_true rfl) ?_
  intro p e s m args below meth c C ls hl hh
  have hx := C.1.1
  have hb := C.1.2.1
  have hl : lv_has ls 12 [(0, .ref (Y.2.1 0)), (1, .int a1), (2, .int a2), (3, .int a3), (4, .int a4), (5, .int a5), (6, .int a6)] := hl
  have hrf : rm0.frames + 1 ≤ rm0.frames + 1 + 0 := by first | exact Nat.le_refl _ | omega
  have hrl : 8 + (12 + 11) + rm0.locals ≤ rm0.locals + 31 + 0 := by first | exact Nat.le_refl _ | omega
  unfold wX12_laysCuts_b at hq
  refine lv_iload_n hx hb dX12_laysCuts_0 rfl (lv_at hl 2 rfl) ?_
  refine lv_iload_n hx hb dX12_laysCuts_1 rfl (lv_at hl 1 rfl) ?_
  refine lv_isub hx hb dX12_laysCuts_2 ?_
  refine lv_iconst (v := (1 : Int32)) hx hb dX12_laysCuts_3 (by decide) ?_
  refine lv_icmp_ne (tgt := 39) hx hb dX12_laysCuts_4 (by decide) (fun c1 => ?_) (fun c1 => ?_)
  · have hq := hq.1 c1
    refine lv_iconst (v := (-1 : Int32)) hx hb dX12_laysCuts_39 (by decide) ?_
    refine lv_istore (lv' := [(7, .int (-1 : Int32)), (0, .ref (Y.2.1 0)), (1, .int a1), (2, .int a2), (3, .int a3), (4, .int a4), (5, .int a5), (6, .int a6)]) hx hb dX12_laysCuts_40 hl (by decide) rfl (fun ls hl => ?_)
    refine lv_iconst (v := (0 : Int32)) hx hb dX12_laysCuts_42 (by decide) ?_
    refine lv_istore (lv' := [(8, .int (0 : Int32)), (7, .int (-1 : Int32)), (0, .ref (Y.2.1 0)), (1, .int a1), (2, .int a2), (3, .int a3), (4, .int a4), (5, .int a5), (6, .int a6)]) hx hb dX12_laysCuts_43 hl (by decide) rfl (fun ls hl => ?_)
    refine lv_iconst (v := (nI 2)) hx hb dX12_laysCuts_45 (by decide) ?_
    refine lv_istore (lv' := [(9, .int (nI 2)), (8, .int (0 : Int32)), (7, .int (-1 : Int32)), (0, .ref (Y.2.1 0)), (1, .int a1), (2, .int a2), (3, .int a3), (4, .int a4), (5, .int a5), (6, .int a6)]) hx hb dX12_laysCuts_46 hl (by decide) rfl (fun ls hl => ?_)
    obtain ⟨n58, hq⟩ := hq
    refine kX12_laysCuts_48 C hrec hrf hrl (fun M37 x1_38 x2_39 x3_40 x4_41 x5_42 x6_43 x7_44 H locs ls hq hh hl => ?_) n58 M a1 a2 a3 a4 a5 a6 (-1 : Int32) (0 : Int32) (nI 2) _ _ _ hq hh (lv_sub hl [3, 4, 5, 6, 7, 8, 9, 2, 1, 0] rfl)
    · refine lv_iload hx hb dX12_laysCuts_108 (lv_at hl 7 rfl) ?_
      refine lv_iconst (v := (nI 2)) hx hb dX12_laysCuts_110 (by decide) ?_
      refine lv_idiv hx hb dX12_laysCuts_111 (by decide) ?_
      refine lv_istore (lv' := [(9, .int (x7_44 / (nI 2))), (0, .ref (Y.2.1 0)), (1, .int x1_38), (2, .int x2_39), (3, .int x3_40), (4, .int x4_41), (5, .int x5_42), (6, .int x6_43), (7, .int x7_44)]) hx hb dX12_laysCuts_112 hl (by decide) rfl (fun ls hl => ?_)
      refine lv_iload hx hb dX12_laysCuts_114 (lv_at hl 8 rfl) ?_
      refine lv_iconst (v := (nI 2)) hx hb dX12_laysCuts_116 (by decide) ?_
      refine lv_irem hx hb dX12_laysCuts_117 (by decide) ?_
      refine lv_if_ne (tgt := 125) hx hb dX12_laysCuts_118 (by decide) (fun c45 => ?_) (fun c45 => ?_)
      · have hq := hq.1 c45
        refine lv_iconst (v := (0 : Int32)) hx hb dX12_laysCuts_125 (by decide) ?_
        refine kX12_laysCuts_126 C hrec hrf hrl  M37 x1_38 x2_39 x3_40 x4_41 x5_42 x6_43 (x7_44 / (nI 2)) (0 : Int32) _ _ _ hq hh (lv_sub hl [1, 2, 3, 4, 5, 6, 7, 0] rfl)
      · have hq := hq.2 c45
        refine lv_iconst (v := (1 : Int32)) hx hb dX12_laysCuts_121 (by decide) ?_
        refine lv_goto (tgt := 126) hx hb dX12_laysCuts_122 (by decide) ?_
        refine kX12_laysCuts_126 C hrec hrf hrl  M37 x1_38 x2_39 x3_40 x4_41 x5_42 x6_43 (x7_44 / (nI 2)) (1 : Int32) _ _ _ hq hh (lv_sub hl [1, 2, 3, 4, 5, 6, 7, 0] rfl)
  · have hq := hq.2 c1
    refine lv_aload_n hx hb dX12_laysCuts_7 rfl (lv_at hl 0 rfl) ?_
    refine sy_get C hh (fun w h => mc (uZ_fX12 w h)) 0 (by decide) (oZ_0 Y) rfl 33 (by decide) (index := 76) (mc uZ_29) (v := .ref (Y.2.1 18)) rfl dX12_laysCuts_8 ?_
    refine lv_iload_n hx hb dX12_laysCuts_11 rfl (lv_at hl 1 rfl) ?_
    refine lv_iload_n hx hb dX12_laysCuts_12 rfl (lv_at hl 3 rfl) ?_
    obtain ⟨n59, hn59, en59, hq⟩ := hq
    refine sy_iast C hh 18 (by decide) (aZ_18 Y) tZ_18 hn59 en59 (by decide) dX12_laysCuts_13 (fun H locs hh => ?_)
    refine lv_aload_n hx hb dX12_laysCuts_14 rfl (lv_at hl 0 rfl) ?_
    refine sy_get C hh (fun w h => mc (uZ_fX12 w h)) 0 (by decide) (oZ_0 Y) rfl 34 (by decide) (index := 79) (mc uZ_30) (v := .ref (Y.2.1 19)) rfl dX12_laysCuts_15 ?_
    refine lv_iload_n hx hb dX12_laysCuts_18 rfl (lv_at hl 1 rfl) ?_
    refine lv_iload hx hb dX12_laysCuts_19 (lv_at hl 4 rfl) ?_
    obtain ⟨n60, hn60, en60, hq⟩ := hq
    refine sy_iast C hh 19 (by decide) (aZ_19 Y) tZ_19 hn60 en60 (by decide) dX12_laysCuts_21 (fun H locs hh => ?_)
    refine lv_aload_n hx hb dX12_laysCuts_22 rfl (lv_at hl 0 rfl) ?_
    refine sy_get C hh (fun w h => mc (uZ_fX12 w h)) 0 (by decide) (oZ_0 Y) rfl 35 (by decide) (index := 82) (mc uZ_31) (v := .ref (Y.2.1 20)) rfl dX12_laysCuts_23 ?_
    refine lv_iload_n hx hb dX12_laysCuts_26 rfl (lv_at hl 1 rfl) ?_
    refine lv_iload hx hb dX12_laysCuts_27 (lv_at hl 5 rfl) ?_
    obtain ⟨n61, hn61, en61, hq⟩ := hq
    refine sy_iast C hh 20 (by decide) (aZ_20 Y) tZ_20 hn61 en61 (by decide) dX12_laysCuts_29 (fun H locs hh => ?_)
    refine lv_aload_n hx hb dX12_laysCuts_30 rfl (lv_at hl 0 rfl) ?_
    refine sy_get C hh (fun w h => mc (uZ_fX12 w h)) 0 (by decide) (oZ_0 Y) rfl 36 (by decide) (index := 85) (mc uZ_32) (v := .ref (Y.2.1 21)) rfl dX12_laysCuts_31 ?_
    refine lv_iload_n hx hb dX12_laysCuts_34 rfl (lv_at hl 1 rfl) ?_
    refine lv_iload hx hb dX12_laysCuts_35 (lv_at hl 6 rfl) ?_
    obtain ⟨n62, hn62, en62, hq⟩ := hq
    refine sy_iast C hh 21 (by decide) (aZ_21 Y) tZ_21 hn62 en62 (by decide) dX12_laysCuts_37 (fun H locs hh => ?_)
    exact sy_vret C hh dX12_laysCuts_38 hq

set_option maxHeartbeats 4000000 in
theorem mX12_laysCuts (l : Launch) (Y : sy_Y) : ∀ (d : Nat) (sz : Nat) (M : sy_M) (a1 : Int32) (a2 : Int32) (a3 : Int32) (a4 : Int32) (a5 : Int32) (a6 : Int32) (Q : sy_M → Prop), wX12_laysCuts d M a1 a2 a3 a4 a5 a6 Q → Met l yX12_laysCuts vsX12_laysCuts ({ frames := 1 * d + 29, cells := 0, slots := 0, locals := 31 * d + 883 } : Room) (va_Pc [.ref (Y.2.1 0), .int a1, .int a2, .int a3, .int a4, .int a5, .int a6] (sy_pre Y NZ EZ tfZ sz M)) (sy_QV Y NZ EZ sz Q) 0 0 (sy_A NZ Y.2.1 sz)
  | 0, _, _, _, _, _, _, _, _, _, hq => by unfold wX12_laysCuts at hq; exact hq.elim
  | d + 1, sz, M, a1, a2, a3, a4, a5, a6, Q, hq => by
    unfold wX12_laysCuts at hq
    exact mX12_laysCuts_b (rm0 := ({ frames := 1 * d + 29, cells := 0, slots := 0, locals := 31 * d + 883 } : Room)) (rec := wX12_laysCuts d) (fun sz M => mX12_laysCuts l Y d sz M) sz M a1 a2 a3 a4 a5 a6 Q hq
/-! AreaSetterModel.lays(IIIII)V -/
def wX12_lays (M : sy_M) (a1 : Int32) (a2 : Int32) (a3 : Int32) (a4 : Int32) (a5 : Int32) (Q : sy_M → Prop) : Prop := wX12_sum M (0 : Int32) (M 0 30) (fun r2 M1 => ((¬ r2 = 0 → ((¬ a1 = 0 → ((¬ a1 = (1 : Int32) → wX12_laysCuts 9 M1 (0 : Int32) (M1 0 30) a2 a3 a4 a5 (fun M6 => Q M6)) ∧ (a1 = (1 : Int32) → wX12_breaks M1 a2 a3 a4 a5 (fun r8 M7 => wX12_laysRows M7 r8 a2 a3 a4 a5 (fun M9 => Q M9))))) ∧ (a1 = 0 → wX12_laysSlice M1 a2 a3 a4 a5 (fun M10 => Q M10)))) ∧ (r2 = 0 → wX12_laysNothing M1 a2 a3 (fun M11 => Q M11))))
section
variable {p : Program} {l : Launch} {e : Env} {s : State} {m : MethodId} {args : Array Value} {below : List Frame} {meth : Method} {c : Code} {Y : sy_Y}
end
set_option maxHeartbeats 4000000 in
set_option maxRecDepth 100000 in
theorem mX12_lays (l : Launch) (Y : sy_Y) (sz : Nat) (M : sy_M) (a1 : Int32) (a2 : Int32) (a3 : Int32) (a4 : Int32) (a5 : Int32) (Q : sy_M → Prop) (hq : wX12_lays M a1 a2 a3 a4 a5 Q) : Met l yX12_lays vsX12_lays ({ frames := 39, cells := 0, slots := 0, locals := 1193 } : Room) (va_Pc [.ref (Y.2.1 0), .int a1, .int a2, .int a3, .int a4, .int a5] (sy_pre Y NZ EZ tfZ sz M)) (sy_QV Y NZ EZ sz Q) 0 0 (sy_A NZ Y.2.1 sz) := by
  refine sy_metV (by decide) rfl (Nat.le_of_ble_eq_true rfl) ?_
  intro p e s m args below meth c C ls hl hh
  have hx := C.1.1
  have hb := C.1.2.1
  have hl : lv_has ls 6 [(0, .ref (Y.2.1 0)), (1, .int a1), (2, .int a2), (3, .int a3), (4, .int a4), (5, .int a5)] := hl
  unfold wX12_lays at hq
  refine lv_aload_n hx hb dX12_lays_0 rfl (lv_at hl 0 rfl) ?_
  refine lv_iconst (v := (0 : Int32)) hx hb dX12_lays_1 (by decide) ?_
  refine lv_aload_n hx hb dX12_lays_2 rfl (lv_at hl 0 rfl) ?_
  refine sy_get C hh (fun w h => mc (uZ_fX12 w h)) 0 (by decide) (oZ_0 Y) rfl 30 (by decide) (index := 261) (mc uZ_195) (v := .int (M 0 30)) rfl dX12_lays_3 ?_
  refine sy_cIV C hh (As := [.int (0 : Int32), .int (M 0 30)]) (rest := []) 0 (by decide) (oZ_0 Y) rfl (mX12_sum l Y _ M (0 : Int32) (M 0 30) _ hq) (cwV 2 C.1.2.2.2.2 (sy_goodV uZ_good uZ_204 uZ_205 uZ_206 uZ_55 uZ_202 _) rfl rfl rfl hdX12_sum ⟨Nat.le_of_ble_eq_true rfl, Nat.le_of_ble_eq_true rfl⟩) rfl hl.1 rfl (Nat.le_of_ble_eq_true rfl) dX12_lays_6 (fun r2 M1 H locs hq hh => ?_)
  refine lv_if_ne (tgt := 21) hx hb dX12_lays_9 (by decide) (fun c3 => ?_) (fun c3 => ?_)
  · have hq := hq.1 c3
    refine lv_iload_n hx hb dX12_lays_21 rfl (lv_at hl 1 rfl) ?_
    refine lv_if_ne (tgt := 38) hx hb dX12_lays_22 (by decide) (fun c4 => ?_) (fun c4 => ?_)
    · have hq := hq.1 c4
      refine lv_iload_n hx hb dX12_lays_38 rfl (lv_at hl 1 rfl) ?_
      refine lv_iconst (v := (1 : Int32)) hx hb dX12_lays_39 (by decide) ?_
      refine lv_icmp_ne (tgt := 66) hx hb dX12_lays_40 (by decide) (fun c5 => ?_) (fun c5 => ?_)
      · have hq := hq.1 c5
        refine lv_aload_n hx hb dX12_lays_66 rfl (lv_at hl 0 rfl) ?_
        refine lv_iconst (v := (0 : Int32)) hx hb dX12_lays_67 (by decide) ?_
        refine lv_aload_n hx hb dX12_lays_68 rfl (lv_at hl 0 rfl) ?_
        refine sy_get C hh (fun w h => mc (uZ_fX12 w h)) 0 (by decide) (oZ_0 Y) rfl 30 (by decide) (index := 261) (mc uZ_195) (v := .int (M1 0 30)) rfl dX12_lays_69 ?_
        refine lv_iload_n hx hb dX12_lays_72 rfl (lv_at hl 2 rfl) ?_
        refine lv_iload_n hx hb dX12_lays_73 rfl (lv_at hl 3 rfl) ?_
        refine lv_iload hx hb dX12_lays_74 (lv_at hl 4 rfl) ?_
        refine lv_iload hx hb dX12_lays_76 (lv_at hl 5 rfl) ?_
        refine sy_cVV C hh (As := [.int (0 : Int32), .int (M1 0 30), .int a2, .int a3, .int a4, .int a5]) (rest := []) 0 (by decide) (oZ_0 Y) rfl (mX12_laysCuts l Y 9 _ M1 (0 : Int32) (M1 0 30) a2 a3 a4 a5 _ hq) (cwV 6 C.1.2.2.2.2 (sy_goodV uZ_good uZ_251 uZ_252 uZ_253 uZ_55 uZ_254 _) rfl rfl rfl hdX12_laysCuts ⟨Nat.le_of_ble_eq_true rfl, Nat.le_of_ble_eq_true rfl⟩) rfl hl.1 rfl (Nat.le_of_ble_eq_true rfl) dX12_lays_78 (fun M6 H locs hq hh => ?_)
        exact sy_vret C hh dX12_lays_81 hq
      · have hq := hq.2 c5
        refine lv_aload_n hx hb dX12_lays_43 rfl (lv_at hl 0 rfl) ?_
        refine lv_aload_n hx hb dX12_lays_44 rfl (lv_at hl 0 rfl) ?_
        refine lv_iload_n hx hb dX12_lays_45 rfl (lv_at hl 2 rfl) ?_
        refine lv_iload_n hx hb dX12_lays_46 rfl (lv_at hl 3 rfl) ?_
        refine lv_iload hx hb dX12_lays_47 (lv_at hl 4 rfl) ?_
        refine lv_iload hx hb dX12_lays_49 (lv_at hl 5 rfl) ?_
        refine sy_cIV C hh (As := [.int a2, .int a3, .int a4, .int a5]) (rest := [.ref (Y.2.1 0)]) 0 (by decide) (oZ_0 Y) rfl (mX12_breaks l Y _ M1 a2 a3 a4 a5 _ hq) (cwV 4 C.1.2.2.2.2 (sy_goodV uZ_good uZ_261 uZ_262 uZ_263 uZ_55 uZ_234 _) rfl rfl rfl hdX12_breaks ⟨Nat.le_of_ble_eq_true rfl, Nat.le_of_ble_eq_true rfl⟩) rfl hl.1 rfl (Nat.le_of_ble_eq_true rfl) dX12_lays_51 (fun r8 M7 H locs hq hh => ?_)
        refine lv_iload_n hx hb dX12_lays_54 rfl (lv_at hl 2 rfl) ?_
        refine lv_iload_n hx hb dX12_lays_55 rfl (lv_at hl 3 rfl) ?_
        refine lv_iload hx hb dX12_lays_56 (lv_at hl 4 rfl) ?_
        refine lv_iload hx hb dX12_lays_58 (lv_at hl 5 rfl) ?_
        refine sy_cVV C hh (As := [.int r8, .int a2, .int a3, .int a4, .int a5]) (rest := []) 0 (by decide) (oZ_0 Y) rfl (mX12_laysRows l Y _ M7 r8 a2 a3 a4 a5 _ hq) (cwV 5 C.1.2.2.2.2 (sy_goodV uZ_good uZ_225 uZ_226 uZ_227 uZ_55 uZ_216 _) rfl rfl rfl hdX12_laysRows ⟨Nat.le_of_ble_eq_true rfl, Nat.le_of_ble_eq_true rfl⟩) rfl hl.1 rfl (Nat.le_of_ble_eq_true rfl) dX12_lays_60 (fun M9 H locs hq hh => ?_)
        refine lv_goto (tgt := 81) hx hb dX12_lays_63 (by decide) ?_
        exact sy_vret C hh dX12_lays_81 hq
    · have hq := hq.2 c4
      refine lv_aload_n hx hb dX12_lays_25 rfl (lv_at hl 0 rfl) ?_
      refine lv_iload_n hx hb dX12_lays_26 rfl (lv_at hl 2 rfl) ?_
      refine lv_iload_n hx hb dX12_lays_27 rfl (lv_at hl 3 rfl) ?_
      refine lv_iload hx hb dX12_lays_28 (lv_at hl 4 rfl) ?_
      refine lv_iload hx hb dX12_lays_30 (lv_at hl 5 rfl) ?_
      refine sy_cVV C hh (As := [.int a2, .int a3, .int a4, .int a5]) (rest := []) 0 (by decide) (oZ_0 Y) rfl (mX12_laysSlice l Y _ M1 a2 a3 a4 a5 _ hq) (cwV 4 C.1.2.2.2.2 (sy_goodV uZ_good uZ_258 uZ_259 uZ_260 uZ_55 uZ_209 _) rfl rfl rfl hdX12_laysSlice ⟨Nat.le_of_ble_eq_true rfl, Nat.le_of_ble_eq_true rfl⟩) rfl hl.1 rfl (Nat.le_of_ble_eq_true rfl) dX12_lays_32 (fun M10 H locs hq hh => ?_)
      refine lv_goto (tgt := 81) hx hb dX12_lays_35 (by decide) ?_
      exact sy_vret C hh dX12_lays_81 hq
  · have hq := hq.2 c3
    refine lv_aload_n hx hb dX12_lays_12 rfl (lv_at hl 0 rfl) ?_
    refine lv_iload_n hx hb dX12_lays_13 rfl (lv_at hl 2 rfl) ?_
    refine lv_iload_n hx hb dX12_lays_14 rfl (lv_at hl 3 rfl) ?_
    refine sy_cVV C hh (As := [.int a2, .int a3]) (rest := []) 0 (by decide) (oZ_0 Y) rfl (mX12_laysNothing l Y _ M1 a2 a3 _ hq) (cwV 2 C.1.2.2.2.2 (sy_goodV uZ_good uZ_255 uZ_256 uZ_257 uZ_55 uZ_208 _) rfl rfl rfl hdX12_laysNothing ⟨Nat.le_of_ble_eq_true rfl, Nat.le_of_ble_eq_true rfl⟩) rfl hl.1 rfl (Nat.le_of_ble_eq_true rfl) dX12_lays_15 (fun M11 H locs hq hh => ?_)
    refine lv_goto (tgt := 81) hx hb dX12_lays_18 (by decide) ?_
    exact sy_vret C hh dX12_lays_81 hq

