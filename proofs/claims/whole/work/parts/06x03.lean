/-! AreaSetter$Tree.isGroup(I)Z -/
def wX10_isGroup (M : sy_M) (p0 : Nat) (a1 : Int32) (Q : Int32 → sy_M → Prop) : Prop := wX10_has M p0 a1 (fun r2 M1 => ((r2 = 0 → Q (0 : Int32) M1) ∧ (¬ r2 = 0 → ∃ n4 : Nat, n4 < 40 ∧ a1 = nI n4 ∧ (((M1 (p0 + 2) n4) = (-1 : Int32) → Q (0 : Int32) M1) ∧ (¬ (M1 (p0 + 2) n4) = (-1 : Int32) → Q (1 : Int32) M1)))))
section
variable {p : Program} {l : Launch} {e : Env} {s : State} {m : MethodId} {args : Array Value} {below : List Frame} {meth : Method} {c : Code} {Y : sy_Y}
end
set_option maxHeartbeats 4000000 in
set_option maxRecDepth 100000 in
theorem mX10_isGroup (l : Launch) (Y : sy_Y) (sz : Nat) (M : sy_M) (p0 : Nat) (hp0 : iX10 p0) (a1 : Int32) (Q : Int32 → sy_M → Prop) (hq : wX10_isGroup M p0 a1 Q) : Met l yX10_isGroup vsX10_isGroup ({ frames := 1, cells := 0, slots := 0, locals := 21 } : Room) (va_Pc [.ref (Y.2.1 p0), .int a1] (sy_pre Y NX EX tfX sz M)) (sy_QI Y NX EX sz Q) 0 0 (sy_A NX Y.2.1 sz) := by
  refine sy_metI (by decide) rfl (Nat.le_of_ble_eq_true rfl) ?_
  intro p e s m args below meth c C ls hl hh
  have hx := C.1.1
  have hb := C.1.2.1
  have hl : lv_has ls 2 [(0, .ref (Y.2.1 p0)), (1, .int a1)] := hl
  unfold wX10_isGroup at hq
  refine lv_aload_n hx hb dX10_isGroup_0 rfl (lv_at hl 0 rfl) ?_
  refine lv_iload_n hx hb dX10_isGroup_1 rfl (lv_at hl 1 rfl) ?_
  refine sy_cIV C hh (As := [.int a1]) (rest := []) p0 (iX10_N hp0) (oX10 hp0) rfl (mX10_has l Y _ M p0 hp0 a1 _ hq) (cwV 1 C.1.2.2.2.2 (sy_goodV uX_good uX_122 uX_18 uX_19 uX_20 uX_11 _) rfl rfl rfl hdX10_has ⟨Nat.le_of_ble_eq_true rfl, Nat.le_of_ble_eq_true rfl⟩) rfl hl.1 rfl (Nat.le_of_ble_eq_true rfl) dX10_isGroup_2 (fun r2 M1 H locs hq hh => ?_)
  refine lv_if_eq (tgt := 22) hx hb dX10_isGroup_5 (by decide) (fun c3 => ?_) (fun c3 => ?_)
  · have hq := hq.1 c3
    refine lv_iconst (v := (0 : Int32)) hx hb dX10_isGroup_22 (by decide) ?_
    exact sy_zret C hh dX10_isGroup_23 (by decide) hq
  · have hq := hq.2 c3
    refine lv_aload_n hx hb dX10_isGroup_8 rfl (lv_at hl 0 rfl) ?_
    refine sy_get C hh (fun w h => mc (uX_fX10 w h)) p0 (iX10_N hp0) (oX10 hp0) rfl 3 (by decide) (index := 22) (mc uX_121) (v := .ref (Y.2.1 (p0 + 2))) rfl dX10_isGroup_9 ?_
    refine lv_iload_n hx hb dX10_isGroup_12 rfl (lv_at hl 1 rfl) ?_
    obtain ⟨n4, hn4, en4, hq⟩ := hq
    refine sy_iald C hh (p0 + 2) (iX10_N2 hp0) (aX10_2 hp0) (tX10_2 hp0) hn4 en4 (by decide) dX10_isGroup_13 ?_
    refine lv_iconst (v := (-1 : Int32)) hx hb dX10_isGroup_14 (by decide) ?_
    refine lv_icmp_eq (tgt := 22) hx hb dX10_isGroup_15 (by decide) (fun c5 => ?_) (fun c5 => ?_)
    · have hq := hq.1 c5
      refine lv_iconst (v := (0 : Int32)) hx hb dX10_isGroup_22 (by decide) ?_
      exact sy_zret C hh dX10_isGroup_23 (by decide) hq
    · have hq := hq.2 c5
      refine lv_iconst (v := (1 : Int32)) hx hb dX10_isGroup_18 (by decide) ?_
      refine lv_goto (tgt := 23) hx hb dX10_isGroup_19 (by decide) ?_
      exact sy_zret C hh dX10_isGroup_23 (by decide) hq

/-! AreaSetter.rest(IIZ)Z -/
def wX11_rest (M : sy_M) (a1 : Int32) (a2 : Int32) (a3 : Int32) (Q : Int32 → sy_M → Prop) : Prop := ∃ t1 : Nat, M 0 6 = nI t1 ∧ iX10 t1 ∧ wX10_isGroup M t1 a1 (fun r3 M2 => ((r3 = 0 → Q (0 : Int32) M2) ∧ (¬ r3 = 0 → wX11_isFrom M2 (0 : Int32) (nI 999) a2 (fun r6 M5 => ((¬ r6 = 0 → ∃ t8 : Nat, M5 0 6 = nI t8 ∧ iX10 t8 ∧ ∃ n9 : Nat, n9 < 40 ∧ a1 = nI n9 ∧ ∃ t10 : Nat, (mu M5 (t8 + 8) n9 a2) 0 6 = nI t10 ∧ iX10 t10 ∧ ∃ n11 : Nat, n11 < 40 ∧ a1 = nI n11 ∧ Q (1 : Int32) (mu (mu M5 (t8 + 8) n9 a2) (t10 + 9) n11 (vp_nar .boolean a3))) ∧ (r6 = 0 → Q (0 : Int32) M5))))))
section
variable {p : Program} {l : Launch} {e : Env} {s : State} {m : MethodId} {args : Array Value} {below : List Frame} {meth : Method} {c : Code} {Y : sy_Y}
end
set_option maxHeartbeats 4000000 in
set_option maxRecDepth 100000 in
theorem mX11_rest (l : Launch) (Y : sy_Y) (sz : Nat) (M : sy_M) (a1 : Int32) (a2 : Int32) (a3 : Int32) (Q : Int32 → sy_M → Prop) (hq : wX11_rest M a1 a2 a3 Q) : Met l yX11_rest vsX11_rest ({ frames := 2, cells := 0, slots := 0, locals := 42 } : Room) (va_Pc [.ref (Y.2.1 0), .int a1, .int a2, .int a3] (sy_pre Y NX EX tfX sz M)) (sy_QI Y NX EX sz Q) 0 0 (sy_A NX Y.2.1 sz) := by
  refine sy_metI (by decide) rfl (Nat.le_of_ble_eq_true rfl) ?_
  intro p e s m args below meth c C ls hl hh
  have hx := C.1.1
  have hb := C.1.2.1
  have hl : lv_has ls 4 [(0, .ref (Y.2.1 0)), (1, .int a1), (2, .int a2), (3, .int a3)] := hl
  unfold wX11_rest at hq
  refine lv_aload_n hx hb dX11_rest_0 rfl (lv_at hl 0 rfl) ?_
  obtain ⟨t1, et1, ht1, hq⟩ := hq
  refine sy_get C hh (fun w h => mc (uX_fX11 w h)) 0 (by decide) (oX_0 Y) rfl 6 (by decide) (index := 51) (mc uX_493) (v := .ref (Y.2.1 t1)) (sy_rf_of et1 (by have := iX10_lt ht1; omega)) dX11_rest_1 ?_
  refine lv_iload_n hx hb dX11_rest_4 rfl (lv_at hl 1 rfl) ?_
  refine sy_cIV C hh (As := [.int a1]) (rest := []) t1 (iX10_N ht1) (oX10 ht1) rfl (mX10_isGroup l Y _ M t1 ht1 a1 _ hq) (cwV 1 C.1.2.2.2.2 (sy_goodV uX_good uX_537 uX_125 uX_126 uX_20 uX_120 _) rfl rfl rfl hdX10_isGroup ⟨Nat.le_of_ble_eq_true rfl, Nat.le_of_ble_eq_true rfl⟩) rfl hl.1 rfl (Nat.le_of_ble_eq_true rfl) dX11_rest_5 (fun r3 M2 H locs hq hh => ?_)
  refine lv_if_eq (tgt := 22) hx hb dX11_rest_8 (by decide) (fun c4 => ?_) (fun c4 => ?_)
  · have hq := hq.1 c4
    refine lv_iconst (v := (0 : Int32)) hx hb dX11_rest_22 (by decide) ?_
    exact sy_zret C hh dX11_rest_23 (by decide) hq
  · have hq := hq.2 c4
    refine lv_iconst (v := (0 : Int32)) hx hb dX11_rest_11 (by decide) ?_
    refine lv_sipush (v := (nI 999)) hx hb dX11_rest_12 (by decide) ?_
    refine lv_iload_n hx hb dX11_rest_15 rfl (lv_at hl 2 rfl) ?_
    refine sy_cIS C hh (As := [.int (0 : Int32), .int (nI 999), .int a2]) (rest := []) (mX11_isFrom l Y _ M2 (0 : Int32) (nI 999) a2 _ hq) (va_cwS 3 C.1.2.2.2.2 (sy_goodS uX_good uX_506 uX_507 uX_47 uX_504 _) rfl rfl rfl hdX11_isFrom.2 ⟨Nat.le_of_ble_eq_true rfl, Nat.le_of_ble_eq_true rfl⟩) rfl hl.1 rfl (Nat.le_of_ble_eq_true rfl) dX11_rest_16 (fun r6 M5 H locs hq hh => ?_)
    refine lv_if_ne (tgt := 24) hx hb dX11_rest_19 (by decide) (fun c7 => ?_) (fun c7 => ?_)
    · have hq := hq.1 c7
      refine lv_aload_n hx hb dX11_rest_24 rfl (lv_at hl 0 rfl) ?_
      obtain ⟨t8, et8, ht8, hq⟩ := hq
      refine sy_get C hh (fun w h => mc (uX_fX11 w h)) 0 (by decide) (oX_0 Y) rfl 6 (by decide) (index := 51) (mc uX_493) (v := .ref (Y.2.1 t8)) (sy_rf_of et8 (by have := iX10_lt ht8; omega)) dX11_rest_25 ?_
      refine sy_get C hh (fun w h => mc (uX_fX10 w h)) t8 (iX10_N ht8) (oX10 ht8) rfl 9 (by decide) (index := 109) (mc uX_535) (v := .ref (Y.2.1 (t8 + 8))) rfl dX11_rest_28 ?_
      refine lv_iload_n hx hb dX11_rest_31 rfl (lv_at hl 1 rfl) ?_
      refine lv_iload_n hx hb dX11_rest_32 rfl (lv_at hl 2 rfl) ?_
      obtain ⟨n9, hn9, en9, hq⟩ := hq
      refine sy_iast C hh (t8 + 8) (iX10_N8 ht8) (aX10_8 ht8) (tX10_8 ht8) hn9 en9 (by decide) dX11_rest_33 (fun H locs hh => ?_)
      refine lv_aload_n hx hb dX11_rest_34 rfl (lv_at hl 0 rfl) ?_
      obtain ⟨t10, et10, ht10, hq⟩ := hq
      refine sy_get C hh (fun w h => mc (uX_fX11 w h)) 0 (by decide) (oX_0 Y) rfl 6 (by decide) (index := 51) (mc uX_493) (v := .ref (Y.2.1 t10)) (sy_rf_of et10 (by have := iX10_lt ht10; omega)) dX11_rest_35 ?_
      refine sy_get C hh (fun w h => mc (uX_fX10 w h)) t10 (iX10_N ht10) (oX10 ht10) rfl 10 (by decide) (index := 112) (mc uX_536) (v := .ref (Y.2.1 (t10 + 9))) rfl dX11_rest_38 ?_
      refine lv_iload_n hx hb dX11_rest_41 rfl (lv_at hl 1 rfl) ?_
      refine lv_iload_n hx hb dX11_rest_42 rfl (lv_at hl 3 rfl) ?_
      obtain ⟨n11, hn11, en11, hq⟩ := hq
      refine sy_zast C hh (t10 + 9) (iX10_N9 ht10) (aX10_9 ht10) (tX10_9 ht10) hn11 en11 (by decide) dX11_rest_43 (fun H locs hh => ?_)
      refine lv_iconst (v := (1 : Int32)) hx hb dX11_rest_44 (by decide) ?_
      exact sy_zret C hh dX11_rest_45 (by decide) hq
    · have hq := hq.2 c7
      refine lv_iconst (v := (0 : Int32)) hx hb dX11_rest_22 (by decide) ?_
      exact sy_zret C hh dX11_rest_23 (by decide) hq

/-! AreaSetter$Changes.tellSizes(LAreaSetter$Tree;I[I)V -/
def wX0_tellSizes_3 (K_37 : sy_M → Nat → Int32 → Prop) (Q : sy_M → Prop) : Nat → sy_M → Nat → Int32 → Int32 → Prop
  | 0, _, _, _, _ => False
  | n + 1, M, x1, x2, x4 => (((M x1 0) ≤ x4 → K_37 M x1 x2) ∧ (¬ (M x1 0) ≤ x4 → ∃ n2 : Nat, n2 < 40 ∧ x4 = nI n2 ∧ ∃ n3 : Nat, n3 < 40 ∧ x4 = nI n3 ∧ ∃ n4 : Nat, n4 < 40 ∧ x4 = nI n4 ∧ wX0_tellSizes_3 K_37 Q n (mu (mu M 59 n3 (M (x1 + 5) n2)) 8 n4 (-1 : Int32)) x1 x2 (x4 + (1 : Int32))))
def wX0_tellSizes_40 (K_126 : sy_M → Nat → Prop) (Q : sy_M → Prop) : Nat → sy_M → Nat → Int32 → Int32 → Prop
  | 0, _, _, _, _ => False
  | n + 1, M, x1, x2, x4 => (((M 4 0) ≤ x4 → K_126 M x1) ∧ (¬ (M 4 0) ≤ x4 → ∃ n9 : Nat, n9 < 100 ∧ x4 = nI n9 ∧ wX10_has M x1 (M 5 n9) (fun r11 M10 => ((r11 = 0 → wX0_tellSizes_40 K_126 Q n M10 x1 x2 (x4 + (1 : Int32))) ∧ (¬ r11 = 0 → ∃ n13 : Nat, n13 < 100 ∧ x4 = nI n13 ∧ ((x2 < (M10 6 n13) → wX0_tellSizes_40 K_126 Q n M10 x1 x2 (x4 + (1 : Int32))) ∧ (¬ x2 < (M10 6 n13) → ∃ n15 : Nat, n15 < 100 ∧ x4 = nI n15 ∧ ∃ n16 : Nat, n16 < 40 ∧ (M 5 n9) = nI n16 ∧ (((M10 6 n15) < (M10 8 n16) → wX0_tellSizes_40 K_126 Q n M10 x1 x2 (x4 + (1 : Int32))) ∧ (¬ (M10 6 n15) < (M10 8 n16) → ∃ n18 : Nat, n18 < 100 ∧ x4 = nI n18 ∧ ∃ n19 : Nat, n19 < 40 ∧ (M 5 n9) = nI n19 ∧ ∃ n20 : Nat, n20 < 100 ∧ x4 = nI n20 ∧ ∃ n21 : Nat, n21 < 40 ∧ (M 5 n9) = nI n21 ∧ wX0_tellSizes_40 K_126 Q n (mu (mu M10 59 n19 (M10 7 n18)) 8 n21 ((mu M10 59 n19 (M10 7 n18)) 6 n20)) x1 x2 (x4 + (1 : Int32)))))))))))
def wX0_tellSizes_134 (Q : sy_M → Prop) : Nat → sy_M → Nat → Int32 → Prop
  | 0, _, _, _ => False
  | n + 1, M, x1, x4 => ((x4 ≤ 0 → Q M) ∧ (¬ x4 ≤ 0 → ∃ n25 : Nat, n25 < 40 ∧ x4 = nI n25 ∧ wX10_has M x1 (M (x1 + 1) n25) (fun r27 M26 => ((r27 = 0 → wX0_tellSizes_134 Q n M26 x1 (x4 + (-1 : Int32))) ∧ (¬ r27 = 0 → ∃ n29 : Nat, n29 < 40 ∧ x4 = nI n29 ∧ ∃ n30 : Nat, n30 < 40 ∧ (M26 (x1 + 1) n29) = nI n30 ∧ ∃ n31 : Nat, n31 < 40 ∧ x4 = nI n31 ∧ ∃ n32 : Nat, n32 < 40 ∧ (M26 (x1 + 1) n29) = nI n32 ∧ wX0_tellSizes_134 Q n (mu M26 59 n32 ((M26 59 n30) + (M26 59 n31))) x1 (x4 + (-1 : Int32)))))))
def wX0_tellSizes (M : sy_M) (p1 : Nat) (a2 : Int32) (Q : sy_M → Prop) : Prop := ∃ n35 : Nat, wX0_tellSizes_3 (fun (M5 : sy_M) (x1_6 : Nat) (x2_7 : Int32) => ∃ n34 : Nat, wX0_tellSizes_40 (fun (M22 : sy_M) (x1_23 : Nat) => ∃ n33 : Nat, wX0_tellSizes_134  Q n33 M22 x1_23 ((M22 x1_23 0) - (1 : Int32))) Q n34 M5 x1_6 x2_7 (0 : Int32)) Q n35 M p1 a2 (0 : Int32)
section
variable {p : Program} {l : Launch} {e : Env} {s : State} {m : MethodId} {args : Array Value} {below : List Frame} {meth : Method} {c : Code} {Y : sy_Y}
set_option maxHeartbeats 4000000 in
set_option maxRecDepth 100000 in
theorem kX0_tellSizes_3 (C : sy_C p m c cX0_tellSizes 6 s args vsX0_tellSizes RX0 meth none Y NX tfX) {Q : sy_M → Prop} {K_37 : sy_M → Nat → Int32 → Prop} (hK_37 : ∀ (M : sy_M) (x1 : Nat) (x2 : Int32) (hx1 : iX10 x1) (H : Heap) (locs : List Loc) (ls : Array Slot), K_37 M x1 x2 → sy_H Y NX EX s H locs M → lv_has ls 6 [(0, .ref (Y.2.1 4)), (1, .ref (Y.2.1 x1)), (2, .int x2), (3, .ref (Y.2.1 59))] → W p l e ({ frames := 1, cells := 0, slots := 0, locals := 21 } : Room) s m args below meth c H locs 0 0 (sy_ZV below args s Y NX EX Q) (F0 m 37 ls [])) :
    ∀ (n : Nat) (M : sy_M) (x1 : Nat) (x2 : Int32) (x4 : Int32) (hx1 : iX10 x1) (H : Heap) (locs : List Loc) (ls : Array Slot), wX0_tellSizes_3 K_37 Q n M x1 x2 x4 → sy_H Y NX EX s H locs M → lv_has ls 6 [(0, .ref (Y.2.1 4)), (1, .ref (Y.2.1 x1)), (2, .int x2), (3, .ref (Y.2.1 59)), (4, .int x4)] → W p l e ({ frames := 1, cells := 0, slots := 0, locals := 21 } : Room) s m args below meth c H locs 0 0 (sy_ZV below args s Y NX EX Q) (F0 m 3 ls []) := by
  have hx := C.1.1
  have hb := C.1.2.1
  intro n
  induction n with
  | zero =>
    intro M x1 x2 x4 hx1 H locs ls hq hh hl
    unfold wX0_tellSizes_3 at hq
    exact hq.elim
  | succ n ih =>
    intro M x1 x2 x4 hx1 H locs ls hq hh hl
    unfold wX0_tellSizes_3 at hq
    refine lv_iload hx hb dX0_tellSizes_3 (lv_at hl 4 rfl) ?_
    refine lv_aload_n hx hb dX0_tellSizes_5 rfl (lv_at hl 1 rfl) ?_
    refine sy_get C hh (fun w h => mc (uX_fX10 w h)) x1 (iX10_N hx1) (oX10 hx1) rfl 0 (by decide) (index := 28) (mc uX_14) (v := .int (M x1 0)) rfl dX0_tellSizes_6 ?_
    refine lv_icmp_ge (tgt := 37) hx hb dX0_tellSizes_9 (by decide) (fun c1 => ?_) (fun c1 => ?_)
    · have hq := hq.1 c1
      exact hK_37 M x1 x2 hx1 _ _ _ hq hh (lv_sub hl [0, 1, 2, 3] rfl)
    · have hq := hq.2 c1
      refine lv_aload_n hx hb dX0_tellSizes_12 rfl (lv_at hl 3 rfl) ?_
      refine lv_iload hx hb dX0_tellSizes_13 (lv_at hl 4 rfl) ?_
      refine lv_aload_n hx hb dX0_tellSizes_15 rfl (lv_at hl 1 rfl) ?_
      refine sy_get C hh (fun w h => mc (uX_fX10 w h)) x1 (iX10_N hx1) (oX10 hx1) rfl 6 (by decide) (index := 33) (mc uX_15) (v := .ref (Y.2.1 (x1 + 5))) rfl dX0_tellSizes_16 ?_
      refine lv_iload hx hb dX0_tellSizes_19 (lv_at hl 4 rfl) ?_
      obtain ⟨n2, hn2, en2, hq⟩ := hq
      refine sy_iald C hh (x1 + 5) (iX10_N5 hx1) (aX10_5 hx1) (tX10_5 hx1) hn2 en2 (by decide) dX0_tellSizes_21 ?_
      obtain ⟨n3, hn3, en3, hq⟩ := hq
      refine sy_iast C hh 59 (by decide) (aX_59 Y) tX_59 hn3 en3 (by decide) dX0_tellSizes_22 (fun H locs hh => ?_)
      refine lv_aload_n hx hb dX0_tellSizes_23 rfl (lv_at hl 0 rfl) ?_
      refine sy_get C hh (fun w h => mc (uX_fX0 w h)) 4 (by decide) (oX_4 Y) rfl 4 (by decide) (index := 25) (mc uX_9) (v := .ref (Y.2.1 8)) rfl dX0_tellSizes_24 ?_
      refine lv_iload hx hb dX0_tellSizes_27 (lv_at hl 4 rfl) ?_
      refine lv_iconst (v := (-1 : Int32)) hx hb dX0_tellSizes_29 (by decide) ?_
      obtain ⟨n4, hn4, en4, hq⟩ := hq
      refine sy_iast C hh 8 (by decide) (aX_8 Y) tX_8 hn4 en4 (by decide) dX0_tellSizes_30 (fun H locs hh => ?_)
      refine lv_iinc (v := (x4 + (1 : Int32))) (lv' := [(4, .int (x4 + (1 : Int32))), (0, .ref (Y.2.1 4)), (1, .ref (Y.2.1 x1)), (2, .int x2), (3, .ref (Y.2.1 59))]) hx hb dX0_tellSizes_31 hl (k := 4) rfl (sy_inc (by decide)) (by decide) rfl (fun ls hl => ?_)
      refine lv_goto (tgt := 3) hx hb dX0_tellSizes_34 (by decide) ?_
      exact ih (mu (mu M 59 n3 (M (x1 + 5) n2)) 8 n4 (-1 : Int32)) x1 x2 (x4 + (1 : Int32)) hx1 _ _ _ hq hh (lv_sub hl [1, 2, 3, 4, 0] rfl)

set_option maxHeartbeats 4000000 in
set_option maxRecDepth 100000 in
theorem kX0_tellSizes_40 (C : sy_C p m c cX0_tellSizes 6 s args vsX0_tellSizes RX0 meth none Y NX tfX) {Q : sy_M → Prop} {K_126 : sy_M → Nat → Prop} (hK_126 : ∀ (M : sy_M) (x1 : Nat) (hx1 : iX10 x1) (H : Heap) (locs : List Loc) (ls : Array Slot), K_126 M x1 → sy_H Y NX EX s H locs M → lv_has ls 6 [(1, .ref (Y.2.1 x1)), (3, .ref (Y.2.1 59))] → W p l e ({ frames := 1, cells := 0, slots := 0, locals := 21 } : Room) s m args below meth c H locs 0 0 (sy_ZV below args s Y NX EX Q) (F0 m 126 ls [])) :
    ∀ (n : Nat) (M : sy_M) (x1 : Nat) (x2 : Int32) (x4 : Int32) (hx1 : iX10 x1) (H : Heap) (locs : List Loc) (ls : Array Slot), wX0_tellSizes_40 K_126 Q n M x1 x2 x4 → sy_H Y NX EX s H locs M → lv_has ls 6 [(0, .ref (Y.2.1 4)), (1, .ref (Y.2.1 x1)), (2, .int x2), (3, .ref (Y.2.1 59)), (4, .int x4)] → W p l e ({ frames := 1, cells := 0, slots := 0, locals := 21 } : Room) s m args below meth c H locs 0 0 (sy_ZV below args s Y NX EX Q) (F0 m 40 ls []) := by
  have hx := C.1.1
  have hb := C.1.2.1
  intro n
  induction n with
  | zero =>
    intro M x1 x2 x4 hx1 H locs ls hq hh hl
    unfold wX0_tellSizes_40 at hq
    exact hq.elim
  | succ n ih =>
    intro M x1 x2 x4 hx1 H locs ls hq hh hl
    unfold wX0_tellSizes_40 at hq
    refine lv_iload hx hb dX0_tellSizes_40 (lv_at hl 4 rfl) ?_
    refine lv_aload_n hx hb dX0_tellSizes_42 rfl (lv_at hl 0 rfl) ?_
    refine sy_get C hh (fun w h => mc (uX_fX0 w h)) 4 (by decide) (oX_4 Y) rfl 0 (by decide) (index := 9) (mc uX_4) (v := .int (M 4 0)) rfl dX0_tellSizes_43 ?_
    refine lv_icmp_ge (tgt := 126) hx hb dX0_tellSizes_46 (by decide) (fun c8 => ?_) (fun c8 => ?_)
    · have hq := hq.1 c8
      exact hK_126 M x1 hx1 _ _ _ hq hh (lv_sub hl [1, 3] rfl)
    · have hq := hq.2 c8
      refine lv_aload_n hx hb dX0_tellSizes_49 rfl (lv_at hl 0 rfl) ?_
      refine sy_get C hh (fun w h => mc (uX_fX0 w h)) 4 (by decide) (oX_4 Y) rfl 1 (by decide) (index := 15) (mc uX_6) (v := .ref (Y.2.1 5)) rfl dX0_tellSizes_50 ?_
      refine lv_iload hx hb dX0_tellSizes_53 (lv_at hl 4 rfl) ?_
      obtain ⟨n9, hn9, en9, hq⟩ := hq
      refine sy_iald C hh 5 (by decide) (aX_5 Y) tX_5 hn9 en9 (by decide) dX0_tellSizes_55 ?_
      refine lv_istore (lv' := [(5, .int (M 5 n9)), (0, .ref (Y.2.1 4)), (1, .ref (Y.2.1 x1)), (2, .int x2), (3, .ref (Y.2.1 59)), (4, .int x4)]) hx hb dX0_tellSizes_56 hl (by decide) rfl (fun ls hl => ?_)
      refine lv_aload_n hx hb dX0_tellSizes_58 rfl (lv_at hl 2 rfl) ?_
      refine lv_iload hx hb dX0_tellSizes_59 (lv_at hl 0 rfl) ?_
      refine sy_cIV C hh (As := [.int (M 5 n9)]) (rest := []) x1 (iX10_N hx1) (oX10 hx1) rfl (mX10_has l Y _ M x1 hx1 (M 5 n9) _ hq) (cwV 1 C.1.2.2.2.2 (sy_goodV uX_good uX_17 uX_18 uX_19 uX_20 uX_11 _) rfl rfl rfl hdX10_has ⟨Nat.le_of_ble_eq_true rfl, Nat.le_of_ble_eq_true rfl⟩) rfl hl.1 rfl (Nat.le_of_ble_eq_true rfl) dX0_tellSizes_61 (fun r11 M10 H locs hq hh => ?_)
      refine lv_if_eq (tgt := 120) hx hb dX0_tellSizes_64 (by decide) (fun c12 => ?_) (fun c12 => ?_)
      · have hq := hq.1 c12
        refine lv_iinc (v := (x4 + (1 : Int32))) (lv' := [(4, .int (x4 + (1 : Int32))), (5, .int (M 5 n9)), (0, .ref (Y.2.1 4)), (1, .ref (Y.2.1 x1)), (2, .int x2), (3, .ref (Y.2.1 59))]) hx hb dX0_tellSizes_120 hl (k := 5) rfl (sy_inc (by decide)) (by decide) rfl (fun ls hl => ?_)
        refine lv_goto (tgt := 40) hx hb dX0_tellSizes_123 (by decide) ?_
        exact ih M10 x1 x2 (x4 + (1 : Int32)) hx1 _ _ _ hq hh (lv_sub hl [2, 3, 4, 5, 0] rfl)
      · have hq := hq.2 c12
        refine lv_aload_n hx hb dX0_tellSizes_67 rfl (lv_at hl 1 rfl) ?_
        refine sy_get C hh (fun w h => mc (uX_fX0 w h)) 4 (by decide) (oX_4 Y) rfl 2 (by decide) (index := 19) (mc uX_7) (v := .ref (Y.2.1 6)) rfl dX0_tellSizes_68 ?_
        refine lv_iload hx hb dX0_tellSizes_71 (lv_at hl 5 rfl) ?_
        obtain ⟨n13, hn13, en13, hq⟩ := hq
        refine sy_iald C hh 6 (by decide) (aX_6 Y) tX_6 hn13 en13 (by decide) dX0_tellSizes_73 ?_
        refine lv_iload_n hx hb dX0_tellSizes_74 rfl (lv_at hl 3 rfl) ?_
        refine lv_icmp_gt (tgt := 120) hx hb dX0_tellSizes_75 (by decide) (fun c14 => ?_) (fun c14 => ?_)
        · have hq := hq.1 c14
          refine lv_iinc (v := (x4 + (1 : Int32))) (lv' := [(4, .int (x4 + (1 : Int32))), (5, .int (M 5 n9)), (0, .ref (Y.2.1 4)), (1, .ref (Y.2.1 x1)), (2, .int x2), (3, .ref (Y.2.1 59))]) hx hb dX0_tellSizes_120 hl (k := 5) rfl (sy_inc (by decide)) (by decide) rfl (fun ls hl => ?_)
          refine lv_goto (tgt := 40) hx hb dX0_tellSizes_123 (by decide) ?_
          exact ih M10 x1 x2 (x4 + (1 : Int32)) hx1 _ _ _ hq hh (lv_sub hl [2, 3, 4, 5, 0] rfl)
        · have hq := hq.2 c14
          refine lv_aload_n hx hb dX0_tellSizes_78 rfl (lv_at hl 1 rfl) ?_
          refine sy_get C hh (fun w h => mc (uX_fX0 w h)) 4 (by decide) (oX_4 Y) rfl 2 (by decide) (index := 19) (mc uX_7) (v := .ref (Y.2.1 6)) rfl dX0_tellSizes_79 ?_
          refine lv_iload hx hb dX0_tellSizes_82 (lv_at hl 5 rfl) ?_
          obtain ⟨n15, hn15, en15, hq⟩ := hq
          refine sy_iald C hh 6 (by decide) (aX_6 Y) tX_6 hn15 en15 (by decide) dX0_tellSizes_84 ?_
          refine lv_aload_n hx hb dX0_tellSizes_85 rfl (lv_at hl 1 rfl) ?_
          refine sy_get C hh (fun w h => mc (uX_fX0 w h)) 4 (by decide) (oX_4 Y) rfl 4 (by decide) (index := 25) (mc uX_9) (v := .ref (Y.2.1 8)) rfl dX0_tellSizes_86 ?_
          refine lv_iload hx hb dX0_tellSizes_89 (lv_at hl 0 rfl) ?_
          obtain ⟨n16, hn16, en16, hq⟩ := hq
          refine sy_iald C hh 8 (by decide) (aX_8 Y) tX_8 hn16 en16 (by decide) dX0_tellSizes_91 ?_
          refine lv_icmp_lt (tgt := 120) hx hb dX0_tellSizes_92 (by decide) (fun c17 => ?_) (fun c17 => ?_)
          · have hq := hq.1 c17
            refine lv_iinc (v := (x4 + (1 : Int32))) (lv' := [(4, .int (x4 + (1 : Int32))), (5, .int (M 5 n9)), (0, .ref (Y.2.1 4)), (1, .ref (Y.2.1 x1)), (2, .int x2), (3, .ref (Y.2.1 59))]) hx hb dX0_tellSizes_120 hl (k := 5) rfl (sy_inc (by decide)) (by decide) rfl (fun ls hl => ?_)
            refine lv_goto (tgt := 40) hx hb dX0_tellSizes_123 (by decide) ?_
            exact ih M10 x1 x2 (x4 + (1 : Int32)) hx1 _ _ _ hq hh (lv_sub hl [2, 3, 4, 5, 0] rfl)
          · have hq := hq.2 c17
            refine lv_aload_n hx hb dX0_tellSizes_95 rfl (lv_at hl 4 rfl) ?_
            refine lv_iload hx hb dX0_tellSizes_96 (lv_at hl 0 rfl) ?_
            refine lv_aload_n hx hb dX0_tellSizes_98 rfl (lv_at hl 1 rfl) ?_
            refine sy_get C hh (fun w h => mc (uX_fX0 w h)) 4 (by decide) (oX_4 Y) rfl 3 (by decide) (index := 22) (mc uX_8) (v := .ref (Y.2.1 7)) rfl dX0_tellSizes_99 ?_
            refine lv_iload hx hb dX0_tellSizes_102 (lv_at hl 5 rfl) ?_
            obtain ⟨n18, hn18, en18, hq⟩ := hq
            refine sy_iald C hh 7 (by decide) (aX_7 Y) tX_7 hn18 en18 (by decide) dX0_tellSizes_104 ?_
            obtain ⟨n19, hn19, en19, hq⟩ := hq
            refine sy_iast C hh 59 (by decide) (aX_59 Y) tX_59 hn19 en19 (by decide) dX0_tellSizes_105 (fun H locs hh => ?_)
            refine lv_aload_n hx hb dX0_tellSizes_106 rfl (lv_at hl 1 rfl) ?_
            refine sy_get C hh (fun w h => mc (uX_fX0 w h)) 4 (by decide) (oX_4 Y) rfl 4 (by decide) (index := 25) (mc uX_9) (v := .ref (Y.2.1 8)) rfl dX0_tellSizes_107 ?_
            refine lv_iload hx hb dX0_tellSizes_110 (lv_at hl 0 rfl) ?_
            refine lv_aload_n hx hb dX0_tellSizes_112 rfl (lv_at hl 1 rfl) ?_
            refine sy_get C hh (fun w h => mc (uX_fX0 w h)) 4 (by decide) (oX_4 Y) rfl 2 (by decide) (index := 19) (mc uX_7) (v := .ref (Y.2.1 6)) rfl dX0_tellSizes_113 ?_
            refine lv_iload hx hb dX0_tellSizes_116 (lv_at hl 5 rfl) ?_
            obtain ⟨n20, hn20, en20, hq⟩ := hq
            refine sy_iald C hh 6 (by decide) (aX_6 Y) tX_6 hn20 en20 (by decide) dX0_tellSizes_118 ?_
            obtain ⟨n21, hn21, en21, hq⟩ := hq
            refine sy_iast C hh 8 (by decide) (aX_8 Y) tX_8 hn21 en21 (by decide) dX0_tellSizes_119 (fun H locs hh => ?_)
            refine lv_iinc (v := (x4 + (1 : Int32))) (lv' := [(4, .int (x4 + (1 : Int32))), (5, .int (M 5 n9)), (0, .ref (Y.2.1 4)), (1, .ref (Y.2.1 x1)), (2, .int x2), (3, .ref (Y.2.1 59))]) hx hb dX0_tellSizes_120 hl (k := 5) rfl (sy_inc (by decide)) (by decide) rfl (fun ls hl => ?_)
            refine lv_goto (tgt := 40) hx hb dX0_tellSizes_123 (by decide) ?_
            exact ih (mu (mu M10 59 n19 (M10 7 n18)) 8 n21 ((mu M10 59 n19 (M10 7 n18)) 6 n20)) x1 x2 (x4 + (1 : Int32)) hx1 _ _ _ hq hh (lv_sub hl [2, 3, 4, 5, 0] rfl)

set_option maxHeartbeats 4000000 in
set_option maxRecDepth 100000 in
theorem kX0_tellSizes_134 (C : sy_C p m c cX0_tellSizes 6 s args vsX0_tellSizes RX0 meth none Y NX tfX) {Q : sy_M → Prop} :
    ∀ (n : Nat) (M : sy_M) (x1 : Nat) (x4 : Int32) (hx1 : iX10 x1) (H : Heap) (locs : List Loc) (ls : Array Slot), wX0_tellSizes_134 Q n M x1 x4 → sy_H Y NX EX s H locs M → lv_has ls 6 [(1, .ref (Y.2.1 x1)), (3, .ref (Y.2.1 59)), (4, .int x4)] → W p l e ({ frames := 1, cells := 0, slots := 0, locals := 21 } : Room) s m args below meth c H locs 0 0 (sy_ZV below args s Y NX EX Q) (F0 m 134 ls []) := by
  have hx := C.1.1
  have hb := C.1.2.1
  intro n
  induction n with
  | zero =>
    intro M x1 x4 hx1 H locs ls hq hh hl
    unfold wX0_tellSizes_134 at hq
    exact hq.elim
  | succ n ih =>
    intro M x1 x4 hx1 H locs ls hq hh hl
    unfold wX0_tellSizes_134 at hq
    refine lv_iload hx hb dX0_tellSizes_134 (lv_at hl 2 rfl) ?_
    refine lv_if_le (tgt := 175) hx hb dX0_tellSizes_136 (by decide) (fun c24 => ?_) (fun c24 => ?_)
    · have hq := hq.1 c24
      exact sy_vret C hh dX0_tellSizes_175 hq
    · have hq := hq.2 c24
      refine lv_aload_n hx hb dX0_tellSizes_139 rfl (lv_at hl 0 rfl) ?_
      refine lv_aload_n hx hb dX0_tellSizes_140 rfl (lv_at hl 0 rfl) ?_
      refine sy_get C hh (fun w h => mc (uX_fX10 w h)) x1 (iX10_N hx1) (oX10 hx1) rfl 2 (by decide) (index := 40) (mc uX_16) (v := .ref (Y.2.1 (x1 + 1))) rfl dX0_tellSizes_141 ?_
      refine lv_iload hx hb dX0_tellSizes_144 (lv_at hl 2 rfl) ?_
      obtain ⟨n25, hn25, en25, hq⟩ := hq
      refine sy_iald C hh (x1 + 1) (iX10_N1 hx1) (aX10_1 hx1) (tX10_1 hx1) hn25 en25 (by decide) dX0_tellSizes_146 ?_
      refine sy_cIV C hh (As := [.int (M (x1 + 1) n25)]) (rest := []) x1 (iX10_N hx1) (oX10 hx1) rfl (mX10_has l Y _ M x1 hx1 (M (x1 + 1) n25) _ hq) (cwV 1 C.1.2.2.2.2 (sy_goodV uX_good uX_17 uX_18 uX_19 uX_20 uX_11 _) rfl rfl rfl hdX10_has ⟨Nat.le_of_ble_eq_true rfl, Nat.le_of_ble_eq_true rfl⟩) rfl hl.1 rfl (Nat.le_of_ble_eq_true rfl) dX0_tellSizes_147 (fun r27 M26 H locs hq hh => ?_)
      refine lv_if_eq (tgt := 169) hx hb dX0_tellSizes_150 (by decide) (fun c28 => ?_) (fun c28 => ?_)
      · have hq := hq.1 c28
        refine lv_iinc (v := (x4 + (-1 : Int32))) (lv' := [(4, .int (x4 + (-1 : Int32))), (1, .ref (Y.2.1 x1)), (3, .ref (Y.2.1 59))]) hx hb dX0_tellSizes_169 hl (k := 2) rfl (sy_inc (by decide)) (by decide) rfl (fun ls hl => ?_)
        refine lv_goto (tgt := 134) hx hb dX0_tellSizes_172 (by decide) ?_
        exact ih M26 x1 (x4 + (-1 : Int32)) hx1 _ _ _ hq hh (lv_sub hl [1, 2, 0] rfl)
      · have hq := hq.2 c28
        refine lv_aload_n hx hb dX0_tellSizes_153 rfl (lv_at hl 1 rfl) ?_
        refine lv_aload_n hx hb dX0_tellSizes_154 rfl (lv_at hl 0 rfl) ?_
        refine sy_get C hh (fun w h => mc (uX_fX10 w h)) x1 (iX10_N hx1) (oX10 hx1) rfl 2 (by decide) (index := 40) (mc uX_16) (v := .ref (Y.2.1 (x1 + 1))) rfl dX0_tellSizes_155 ?_
        refine lv_iload hx hb dX0_tellSizes_158 (lv_at hl 2 rfl) ?_
        obtain ⟨n29, hn29, en29, hq⟩ := hq
        refine sy_iald C hh (x1 + 1) (iX10_N1 hx1) (aX10_1 hx1) (tX10_1 hx1) hn29 en29 (by decide) dX0_tellSizes_160 ?_
        refine lv_dup2_11 hx hb dX0_tellSizes_161 rfl rfl ?_
        obtain ⟨n30, hn30, en30, hq⟩ := hq
        refine sy_iald C hh 59 (by decide) (aX_59 Y) tX_59 hn30 en30 (by decide) dX0_tellSizes_162 ?_
        refine lv_aload_n hx hb dX0_tellSizes_163 rfl (lv_at hl 1 rfl) ?_
        refine lv_iload hx hb dX0_tellSizes_164 (lv_at hl 2 rfl) ?_
        obtain ⟨n31, hn31, en31, hq⟩ := hq
        refine sy_iald C hh 59 (by decide) (aX_59 Y) tX_59 hn31 en31 (by decide) dX0_tellSizes_166 ?_
        refine lv_iadd hx hb dX0_tellSizes_167 ?_
        obtain ⟨n32, hn32, en32, hq⟩ := hq
        refine sy_iast C hh 59 (by decide) (aX_59 Y) tX_59 hn32 en32 (by decide) dX0_tellSizes_168 (fun H locs hh => ?_)
        refine lv_iinc (v := (x4 + (-1 : Int32))) (lv' := [(4, .int (x4 + (-1 : Int32))), (1, .ref (Y.2.1 x1)), (3, .ref (Y.2.1 59))]) hx hb dX0_tellSizes_169 hl (k := 2) rfl (sy_inc (by decide)) (by decide) rfl (fun ls hl => ?_)
        refine lv_goto (tgt := 134) hx hb dX0_tellSizes_172 (by decide) ?_
        exact ih (mu M26 59 n32 ((M26 59 n30) + (M26 59 n31))) x1 (x4 + (-1 : Int32)) hx1 _ _ _ hq hh (lv_sub hl [1, 2, 0] rfl)

end
set_option maxHeartbeats 4000000 in
set_option maxRecDepth 100000 in
theorem mX0_tellSizes (l : Launch) (Y : sy_Y) (sz : Nat) (M : sy_M) (p1 : Nat) (hp1 : iX10 p1) (a2 : Int32) (Q : sy_M → Prop) (hq : wX0_tellSizes M p1 a2 Q) : Met l yX0_tellSizes vsX0_tellSizes ({ frames := 1, cells := 0, slots := 0, locals := 21 } : Room) (va_Pc [.ref (Y.2.1 4), .ref (Y.2.1 p1), .int a2, .ref (Y.2.1 59)] (sy_pre Y NX EX tfX sz M)) (sy_QV Y NX EX sz Q) 0 0 (sy_A NX Y.2.1 sz) := by
  refine sy_metV (by decide) rfl (Nat.le_of_ble_eq_true rfl) ?_
  intro p e s m args below meth c C ls hl hh
  have hx := C.1.1
  have hb := C.1.2.1
  have hl : lv_has ls 6 [(0, .ref (Y.2.1 4)), (1, .ref (Y.2.1 p1)), (2, .int a2), (3, .ref (Y.2.1 59))] := hl
  unfold wX0_tellSizes at hq
  refine lv_iconst (v := (0 : Int32)) hx hb dX0_tellSizes_0 (by decide) ?_
  refine lv_istore (lv' := [(4, .int (0 : Int32)), (0, .ref (Y.2.1 4)), (1, .ref (Y.2.1 p1)), (2, .int a2), (3, .ref (Y.2.1 59))]) hx hb dX0_tellSizes_1 hl (by decide) rfl (fun ls hl => ?_)
  obtain ⟨n35, hq⟩ := hq
  refine kX0_tellSizes_3 C (fun M5 x1_6 x2_7 hx1_6 H locs ls hq hh hl => ?_) n35 M p1 a2 (0 : Int32) hp1 _ _ _ hq hh (lv_sub hl [1, 2, 3, 4, 0] rfl)
  · refine lv_iconst (v := (0 : Int32)) hx hb dX0_tellSizes_37 (by decide) ?_
    refine lv_istore (lv' := [(4, .int (0 : Int32)), (0, .ref (Y.2.1 4)), (1, .ref (Y.2.1 x1_6)), (2, .int x2_7), (3, .ref (Y.2.1 59))]) hx hb dX0_tellSizes_38 hl (by decide) rfl (fun ls hl => ?_)
    obtain ⟨n34, hq⟩ := hq
    refine kX0_tellSizes_40 C (fun M22 x1_23 hx1_23 H locs ls hq hh hl => ?_) n34 M5 x1_6 x2_7 (0 : Int32) hx1_6 _ _ _ hq hh (lv_sub hl [1, 2, 3, 4, 0] rfl)
    · refine lv_aload_n hx hb dX0_tellSizes_126 rfl (lv_at hl 0 rfl) ?_
      refine sy_get C hh (fun w h => mc (uX_fX10 w h)) x1_23 (iX10_N hx1_23) (oX10 hx1_23) rfl 0 (by decide) (index := 28) (mc uX_14) (v := .int (M22 x1_23 0)) rfl dX0_tellSizes_127 ?_
      refine lv_iconst (v := (1 : Int32)) hx hb dX0_tellSizes_130 (by decide) ?_
      refine lv_isub hx hb dX0_tellSizes_131 ?_
      refine lv_istore (lv' := [(4, .int ((M22 x1_23 0) - (1 : Int32))), (1, .ref (Y.2.1 x1_23)), (3, .ref (Y.2.1 59))]) hx hb dX0_tellSizes_132 hl (by decide) rfl (fun ls hl => ?_)
      obtain ⟨n33, hq⟩ := hq
      refine kX0_tellSizes_134 C  n33 M22 x1_23 ((M22 x1_23 0) - (1 : Int32)) hx1_23 _ _ _ hq hh (lv_sub hl [1, 2, 0] rfl)

/-! AreaSetter$Drawings.cell(II)I -/
def wX2_cell (M : sy_M) (a1 : Int32) (a2 : Int32) (Q : Int32 → sy_M → Prop) : Prop := Q (((a1 - a1 / (nI 50) * (nI 50)) * (nI 40)) + a2) M
section
variable {p : Program} {l : Launch} {e : Env} {s : State} {m : MethodId} {args : Array Value} {below : List Frame} {meth : Method} {c : Code} {Y : sy_Y}
end
set_option maxHeartbeats 4000000 in
set_option maxRecDepth 100000 in
theorem mX2_cell (l : Launch) (Y : sy_Y) (sz : Nat) (M : sy_M) (a1 : Int32) (a2 : Int32) (Q : Int32 → sy_M → Prop) (hq : wX2_cell M a1 a2 Q) : Met l yX2_cell vsX2_cell ({ frames := 0, cells := 0, slots := 0, locals := 0 } : Room) (va_Pc [.ref (Y.2.1 9), .int a1, .int a2] (sy_pre Y NX EX tfX sz M)) (sy_QI Y NX EX sz Q) 0 0 (sy_A NX Y.2.1 sz) := by
  refine sy_metI (by decide) rfl (Nat.le_of_ble_eq_true rfl) ?_
  intro p e s m args below meth c C ls hl hh
  have hx := C.1.1
  have hb := C.1.2.1
  have hl : lv_has ls 3 [(0, .ref (Y.2.1 9)), (1, .int a1), (2, .int a2)] := hl
  unfold wX2_cell at hq
  refine lv_iload_n hx hb dX2_cell_0 rfl (lv_at hl 1 rfl) ?_
  refine lv_bipush (v := (nI 50)) hx hb dX2_cell_1 (by decide) ?_
  refine lv_irem hx hb dX2_cell_3 (by decide) ?_
  refine lv_bipush (v := (nI 40)) hx hb dX2_cell_4 (by decide) ?_
  refine lv_imul hx hb dX2_cell_6 ?_
  refine lv_iload_n hx hb dX2_cell_7 rfl (lv_at hl 2 rfl) ?_
  refine lv_iadd hx hb dX2_cell_8 ?_
  exact sy_iret C hh dX2_cell_9 hq

/-! AreaSetter$Drawings.latestCell(I)I -/
def wX2_latestCell (M : sy_M) (a1 : Int32) (Q : Int32 → sy_M → Prop) : Prop := (((M 9 0) ≤ 0 → Q a1 M) ∧ (¬ (M 9 0) ≤ 0 → wX2_cell M ((M 9 0) - (1 : Int32)) a1 (fun r3 M2 => Q r3 M2)))
section
variable {p : Program} {l : Launch} {e : Env} {s : State} {m : MethodId} {args : Array Value} {below : List Frame} {meth : Method} {c : Code} {Y : sy_Y}
end
set_option maxHeartbeats 4000000 in
set_option maxRecDepth 100000 in
theorem mX2_latestCell (l : Launch) (Y : sy_Y) (sz : Nat) (M : sy_M) (a1 : Int32) (Q : Int32 → sy_M → Prop) (hq : wX2_latestCell M a1 Q) : Met l yX2_latestCell vsX2_latestCell ({ frames := 1, cells := 0, slots := 0, locals := 22 } : Room) (va_Pc [.ref (Y.2.1 9), .int a1] (sy_pre Y NX EX tfX sz M)) (sy_QI Y NX EX sz Q) 0 0 (sy_A NX Y.2.1 sz) := by
  refine sy_metI (by decide) rfl (Nat.le_of_ble_eq_true rfl) ?_
  intro p e s m args below meth c C ls hl hh
  have hx := C.1.1
  have hb := C.1.2.1
  have hl : lv_has ls 2 [(0, .ref (Y.2.1 9)), (1, .int a1)] := hl
  unfold wX2_latestCell at hq
  refine lv_aload_n hx hb dX2_latestCell_0 rfl (lv_at hl 0 rfl) ?_
  refine sy_get C hh (fun w h => mc (uX_fX2 w h)) 9 (by decide) (oX_9 Y) rfl 0 (by decide) (index := 9) (mc uX_92) (v := .int (M 9 0)) rfl dX2_latestCell_1 ?_
  refine lv_if_le (tgt := 21) hx hb dX2_latestCell_4 (by decide) (fun c1 => ?_) (fun c1 => ?_)
  · have hq := hq.1 c1
    refine lv_iload_n hx hb dX2_latestCell_21 rfl (lv_at hl 1 rfl) ?_
    exact sy_iret C hh dX2_latestCell_22 hq
  · have hq := hq.2 c1
    refine lv_aload_n hx hb dX2_latestCell_7 rfl (lv_at hl 0 rfl) ?_
    refine lv_aload_n hx hb dX2_latestCell_8 rfl (lv_at hl 0 rfl) ?_
    refine sy_get C hh (fun w h => mc (uX_fX2 w h)) 9 (by decide) (oX_9 Y) rfl 0 (by decide) (index := 9) (mc uX_92) (v := .int (M 9 0)) rfl dX2_latestCell_9 ?_
    refine lv_iconst (v := (1 : Int32)) hx hb dX2_latestCell_12 (by decide) ?_
    refine lv_isub hx hb dX2_latestCell_13 ?_
    refine lv_iload_n hx hb dX2_latestCell_14 rfl (lv_at hl 1 rfl) ?_
    refine sy_cIV C hh (As := [.int ((M 9 0) - (1 : Int32)), .int a1]) (rest := []) 9 (by decide) (oX_9 Y) rfl (mX2_cell l Y _ M ((M 9 0) - (1 : Int32)) a1 _ hq) (cwV 2 C.1.2.2.2.2 (sy_goodV uX_good uX_109 uX_110 uX_111 uX_112 uX_107 _) rfl rfl rfl hdX2_cell ⟨Nat.le_of_ble_eq_true rfl, Nat.le_of_ble_eq_true rfl⟩) rfl hl.1 rfl (Nat.le_of_ble_eq_true rfl) dX2_latestCell_15 (fun r3 M2 H locs hq hh => ?_)
    refine lv_goto (tgt := 22) hx hb dX2_latestCell_18 (by decide) ?_
    exact sy_iret C hh dX2_latestCell_22 hq

/-! AreaSetter$Drawings.begin(II[I)V -/
def wX2_begin_26 (Q : sy_M → Prop) : Nat → sy_M → Int32 → Int32 → Prop
  | 0, _, _, _ => False
  | n + 1, M, x2, x4 => ((x2 ≤ x4 → Q M) ∧ (¬ x2 ≤ x4 → wX2_latestCell M x4 (fun r4 M3 => ∃ n5 : Nat, n5 < 40 ∧ x4 = nI n5 ∧ ∃ n6 : Nat, n6 < 2000 ∧ r4 = nI n6 ∧ ∃ n7 : Nat, n7 < 2000 ∧ r4 = nI n7 ∧ wX2_begin_26 Q n (mu (mu M3 16 n6 (M3 59 n5)) 17 n7 (vp_nar .boolean (0 : Int32))) x2 (x4 + (1 : Int32)))))
def wX2_begin (M : sy_M) (a1 : Int32) (a2 : Int32) (Q : sy_M → Prop) : Prop := ∃ n1 : Nat, n1 < 50 ∧ ((M 9 0) - (M 9 0) / (nI 50) * (nI 50)) = nI n1 ∧ ∃ n8 : Nat, wX2_begin_26  Q n8 (mu (mu M 10 n1 a1) 9 0 (((mu M 10 n1 a1) 9 0) + (1 : Int32))) a2 (0 : Int32)
section
variable {p : Program} {l : Launch} {e : Env} {s : State} {m : MethodId} {args : Array Value} {below : List Frame} {meth : Method} {c : Code} {Y : sy_Y}
set_option maxHeartbeats 4000000 in
set_option maxRecDepth 100000 in
theorem kX2_begin_26 (C : sy_C p m c cX2_begin 6 s args vsX2_begin RX2 meth none Y NX tfX) {Q : sy_M → Prop} :
    ∀ (n : Nat) (M : sy_M) (x2 : Int32) (x4 : Int32) (H : Heap) (locs : List Loc) (ls : Array Slot), wX2_begin_26 Q n M x2 x4 → sy_H Y NX EX s H locs M → lv_has ls 6 [(0, .ref (Y.2.1 9)), (2, .int x2), (3, .ref (Y.2.1 59)), (4, .int x4)] → W p l e ({ frames := 2, cells := 0, slots := 0, locals := 43 } : Room) s m args below meth c H locs 0 0 (sy_ZV below args s Y NX EX Q) (F0 m 26 ls []) := by
  have hx := C.1.1
  have hb := C.1.2.1
  intro n
  induction n with
  | zero =>
    intro M x2 x4 H locs ls hq hh hl
    unfold wX2_begin_26 at hq
    exact hq.elim
  | succ n ih =>
    intro M x2 x4 H locs ls hq hh hl
    unfold wX2_begin_26 at hq
    refine lv_iload hx hb dX2_begin_26 (lv_at hl 3 rfl) ?_
    refine lv_iload_n hx hb dX2_begin_28 rfl (lv_at hl 1 rfl) ?_
    refine lv_icmp_ge (tgt := 68) hx hb dX2_begin_29 (by decide) (fun c2 => ?_) (fun c2 => ?_)
    · have hq := hq.1 c2
      exact sy_vret C hh dX2_begin_68 hq
    · have hq := hq.2 c2
      refine lv_aload_n hx hb dX2_begin_32 rfl (lv_at hl 0 rfl) ?_
      refine lv_iload hx hb dX2_begin_33 (lv_at hl 3 rfl) ?_
      refine sy_cIV C hh (As := [.int x4]) (rest := []) 9 (by decide) (oX_9 Y) rfl (mX2_latestCell l Y _ M x4 _ hq) (cwV 1 C.1.2.2.2.2 (sy_goodV uX_good uX_115 uX_116 uX_117 uX_112 uX_108 _) rfl rfl rfl hdX2_latestCell ⟨Nat.le_of_ble_eq_true rfl, Nat.le_of_ble_eq_true rfl⟩) rfl hl.1 rfl (Nat.le_of_ble_eq_true rfl) dX2_begin_35 (fun r4 M3 H locs hq hh => ?_)
      refine lv_istore (lv' := [(5, .int r4), (0, .ref (Y.2.1 9)), (2, .int x2), (3, .ref (Y.2.1 59)), (4, .int x4)]) hx hb dX2_begin_38 hl (by decide) rfl (fun ls hl => ?_)
      refine lv_aload_n hx hb dX2_begin_40 rfl (lv_at hl 1 rfl) ?_
      refine sy_get C hh (fun w h => mc (uX_fX2 w h)) 9 (by decide) (oX_9 Y) rfl 2 (by decide) (index := 24) (mc uX_96) (v := .ref (Y.2.1 11)) rfl dX2_begin_41 ?_
      refine sy_get C hh (fun w h => mc (uX_fX7 w h)) 11 (by decide) (oX_11 Y) rfl 4 (by decide) (index := 52) (mc uX_114) (v := .ref (Y.2.1 16)) rfl dX2_begin_44 ?_
      refine lv_iload hx hb dX2_begin_47 (lv_at hl 0 rfl) ?_
      refine lv_aload_n hx hb dX2_begin_49 rfl (lv_at hl 3 rfl) ?_
      refine lv_iload hx hb dX2_begin_50 (lv_at hl 4 rfl) ?_
      obtain ⟨n5, hn5, en5, hq⟩ := hq
      refine sy_iald C hh 59 (by decide) (aX_59 Y) tX_59 hn5 en5 (by decide) dX2_begin_52 ?_
      obtain ⟨n6, hn6, en6, hq⟩ := hq
      refine sy_iast C hh 16 (by decide) (aX_16 Y) tX_16 hn6 en6 (by decide) dX2_begin_53 (fun H locs hh => ?_)
      refine lv_aload_n hx hb dX2_begin_54 rfl (lv_at hl 1 rfl) ?_
      refine sy_get C hh (fun w h => mc (uX_fX2 w h)) 9 (by decide) (oX_9 Y) rfl 3 (by decide) (index := 28) (mc uX_98) (v := .ref (Y.2.1 17)) rfl dX2_begin_55 ?_
      refine lv_iload hx hb dX2_begin_58 (lv_at hl 0 rfl) ?_
      refine lv_iconst (v := (0 : Int32)) hx hb dX2_begin_60 (by decide) ?_
      obtain ⟨n7, hn7, en7, hq⟩ := hq
      refine sy_zast C hh 17 (by decide) (aX_17 Y) tX_17 hn7 en7 (by decide) dX2_begin_61 (fun H locs hh => ?_)
      refine lv_iinc (v := (x4 + (1 : Int32))) (lv' := [(4, .int (x4 + (1 : Int32))), (5, .int r4), (0, .ref (Y.2.1 9)), (2, .int x2), (3, .ref (Y.2.1 59))]) hx hb dX2_begin_62 hl (k := 4) rfl (sy_inc (by decide)) (by decide) rfl (fun ls hl => ?_)
      refine lv_goto (tgt := 26) hx hb dX2_begin_65 (by decide) ?_
      exact ih (mu (mu M3 16 n6 (M3 59 n5)) 17 n7 (vp_nar .boolean (0 : Int32))) x2 (x4 + (1 : Int32)) _ _ _ hq hh (lv_sub hl [2, 3, 4, 0] rfl)

end
set_option maxHeartbeats 4000000 in
set_option maxRecDepth 100000 in
theorem mX2_begin (l : Launch) (Y : sy_Y) (sz : Nat) (M : sy_M) (a1 : Int32) (a2 : Int32) (Q : sy_M → Prop) (hq : wX2_begin M a1 a2 Q) : Met l yX2_begin vsX2_begin ({ frames := 2, cells := 0, slots := 0, locals := 43 } : Room) (va_Pc [.ref (Y.2.1 9), .int a1, .int a2, .ref (Y.2.1 59)] (sy_pre Y NX EX tfX sz M)) (sy_QV Y NX EX sz Q) 0 0 (sy_A NX Y.2.1 sz) := by
  refine sy_metV (by decide) rfl (Nat.le_of_ble_eq_true rfl) ?_
  intro p e s m args below meth c C ls hl hh
  have hx := C.1.1
  have hb := C.1.2.1
  have hl : lv_has ls 6 [(0, .ref (Y.2.1 9)), (1, .int a1), (2, .int a2), (3, .ref (Y.2.1 59))] := hl
  unfold wX2_begin at hq
  refine lv_aload_n hx hb dX2_begin_0 rfl (lv_at hl 0 rfl) ?_
  refine sy_get C hh (fun w h => mc (uX_fX2 w h)) 9 (by decide) (oX_9 Y) rfl 1 (by decide) (index := 15) (mc uX_93) (v := .ref (Y.2.1 10)) rfl dX2_begin_1 ?_
  refine lv_aload_n hx hb dX2_begin_4 rfl (lv_at hl 0 rfl) ?_
  refine sy_get C hh (fun w h => mc (uX_fX2 w h)) 9 (by decide) (oX_9 Y) rfl 0 (by decide) (index := 9) (mc uX_92) (v := .int (M 9 0)) rfl dX2_begin_5 ?_
  refine lv_bipush (v := (nI 50)) hx hb dX2_begin_8 (by decide) ?_
  refine lv_irem hx hb dX2_begin_10 (by decide) ?_
  refine lv_iload_n hx hb dX2_begin_11 rfl (lv_at hl 1 rfl) ?_
  obtain ⟨n1, hn1, en1, hq⟩ := hq
  refine sy_iast C hh 10 (by decide) (aX_10 Y) tX_10 hn1 en1 (by decide) dX2_begin_12 (fun H locs hh => ?_)
  refine lv_aload_n hx hb dX2_begin_13 rfl (lv_at hl 0 rfl) ?_
  refine lv_dup hx hb dX2_begin_14 rfl ?_
  refine sy_get C hh (fun w h => mc (uX_fX2 w h)) 9 (by decide) (oX_9 Y) rfl 0 (by decide) (index := 9) (mc uX_92) (v := .int ((mu M 10 n1 a1) 9 0)) rfl dX2_begin_15 ?_
  refine lv_iconst (v := (1 : Int32)) hx hb dX2_begin_18 (by decide) ?_
  refine lv_iadd hx hb dX2_begin_19 ?_
  refine sy_put C hh (fun w h => mc (uX_fX2 w h)) tyX2 tyX2_ok nmX2 9 (by decide) (oX_9 Y) rfl 0 (by decide) (index := 9) (mc uX_92) rfl (((mu M 10 n1 a1) 9 0) + (1 : Int32)) (ty := .int) (tyX2_ok 0 (by decide)) rfl rfl (Nat.le_of_ble_eq_true rfl) (pX2_0 Y _ _ _) dX2_begin_20 (fun H locs hh => ?_)
  refine lv_iconst (v := (0 : Int32)) hx hb dX2_begin_23 (by decide) ?_
  refine lv_istore (lv' := [(4, .int (0 : Int32)), (0, .ref (Y.2.1 9)), (1, .int a1), (2, .int a2), (3, .ref (Y.2.1 59))]) hx hb dX2_begin_24 hl (by decide) rfl (fun ls hl => ?_)
  obtain ⟨n8, hq⟩ := hq
  refine kX2_begin_26 C  n8 (mu (mu M 10 n1 a1) 9 0 (((mu M 10 n1 a1) 9 0) + (1 : Int32))) a2 (0 : Int32) _ _ _ hq hh (lv_sub hl [1, 3, 4, 0] rfl)

/-! AreaSetter$Rectangles.put(IIIII)V -/
def wX7_put (M : sy_M) (p0 : Nat) (a1 : Int32) (a2 : Int32) (a3 : Int32) (a4 : Int32) (a5 : Int32) (Q : sy_M → Prop) : Prop := ∃ n1 : Nat, n1 < (lX7 p0) ∧ a1 = nI n1 ∧ ∃ n2 : Nat, n2 < (lX7 p0) ∧ a1 = nI n2 ∧ ∃ n3 : Nat, n3 < (lX7 p0) ∧ a1 = nI n3 ∧ ∃ n4 : Nat, n4 < (lX7 p0) ∧ a1 = nI n4 ∧ Q (mu (mu (mu (mu M (p0 + 1) n1 a2) (p0 + 2) n2 a3) (p0 + 3) n3 a4) (p0 + 4) n4 a5)
section
variable {p : Program} {l : Launch} {e : Env} {s : State} {m : MethodId} {args : Array Value} {below : List Frame} {meth : Method} {c : Code} {Y : sy_Y}
end
set_option maxHeartbeats 4000000 in
set_option maxRecDepth 100000 in
theorem mX7_put (l : Launch) (Y : sy_Y) (sz : Nat) (M : sy_M) (p0 : Nat) (hp0 : iX7 p0) (a1 : Int32) (a2 : Int32) (a3 : Int32) (a4 : Int32) (a5 : Int32) (Q : sy_M → Prop) (hq : wX7_put M p0 a1 a2 a3 a4 a5 Q) : Met l yX7_put vsX7_put ({ frames := 0, cells := 0, slots := 0, locals := 0 } : Room) (va_Pc [.ref (Y.2.1 p0), .int a1, .int a2, .int a3, .int a4, .int a5] (sy_pre Y NX EX tfX sz M)) (sy_QV Y NX EX sz Q) 0 0 (sy_A NX Y.2.1 sz) := by
  refine sy_metV (by decide) rfl (Nat.le_of_ble_eq_true rfl) ?_
  intro p e s m args below meth c C ls hl hh
  have hx := C.1.1
  have hb := C.1.2.1
  have hl : lv_has ls 6 [(0, .ref (Y.2.1 p0)), (1, .int a1), (2, .int a2), (3, .int a3), (4, .int a4), (5, .int a5)] := hl
  unfold wX7_put at hq
  refine lv_aload_n hx hb dX7_put_0 rfl (lv_at hl 0 rfl) ?_
  refine sy_get C hh (fun w h => mc (uX_fX7 w h)) p0 (iX7_N hp0) (oX7 hp0) rfl 0 (by decide) (index := 15) (mc uX_24) (v := .ref (Y.2.1 (p0 + 1))) rfl dX7_put_1 ?_
  refine lv_iload_n hx hb dX7_put_4 rfl (lv_at hl 1 rfl) ?_
  refine lv_iload_n hx hb dX7_put_5 rfl (lv_at hl 2 rfl) ?_
  obtain ⟨n1, hn1, en1, hq⟩ := hq
  refine sy_iast C hh (p0 + 1) (iX7_N1 hp0) (aX7_1 hp0) (tX7_1 hp0) hn1 en1 (lX7_lt _) dX7_put_6 (fun H locs hh => ?_)
  refine lv_aload_n hx hb dX7_put_7 rfl (lv_at hl 0 rfl) ?_
  refine sy_get C hh (fun w h => mc (uX_fX7 w h)) p0 (iX7_N hp0) (oX7 hp0) rfl 1 (by decide) (index := 21) (mc uX_25) (v := .ref (Y.2.1 (p0 + 2))) rfl dX7_put_8 ?_
  refine lv_iload_n hx hb dX7_put_11 rfl (lv_at hl 1 rfl) ?_
  refine lv_iload_n hx hb dX7_put_12 rfl (lv_at hl 3 rfl) ?_
  obtain ⟨n2, hn2, en2, hq⟩ := hq
  refine sy_iast C hh (p0 + 2) (iX7_N2 hp0) (aX7_2 hp0) (tX7_2 hp0) hn2 en2 (lX7_lt _) dX7_put_13 (fun H locs hh => ?_)
  refine lv_aload_n hx hb dX7_put_14 rfl (lv_at hl 0 rfl) ?_
  refine sy_get C hh (fun w h => mc (uX_fX7 w h)) p0 (iX7_N hp0) (oX7 hp0) rfl 2 (by decide) (index := 24) (mc uX_26) (v := .ref (Y.2.1 (p0 + 3))) rfl dX7_put_15 ?_
  refine lv_iload_n hx hb dX7_put_18 rfl (lv_at hl 1 rfl) ?_
  refine lv_iload hx hb dX7_put_19 (lv_at hl 4 rfl) ?_
  obtain ⟨n3, hn3, en3, hq⟩ := hq
  refine sy_iast C hh (p0 + 3) (iX7_N3 hp0) (aX7_3 hp0) (tX7_3 hp0) hn3 en3 (lX7_lt _) dX7_put_21 (fun H locs hh => ?_)
  refine lv_aload_n hx hb dX7_put_22 rfl (lv_at hl 0 rfl) ?_
  refine sy_get C hh (fun w h => mc (uX_fX7 w h)) p0 (iX7_N hp0) (oX7 hp0) rfl 3 (by decide) (index := 27) (mc uX_27) (v := .ref (Y.2.1 (p0 + 4))) rfl dX7_put_23 ?_
  refine lv_iload_n hx hb dX7_put_26 rfl (lv_at hl 1 rfl) ?_
  refine lv_iload hx hb dX7_put_27 (lv_at hl 5 rfl) ?_
  obtain ⟨n4, hn4, en4, hq⟩ := hq
  refine sy_iast C hh (p0 + 4) (iX7_N4 hp0) (aX7_4 hp0) (tX7_4 hp0) hn4 en4 (lX7_lt _) dX7_put_29 (fun H locs hh => ?_)
  exact sy_vret C hh dX7_put_30 hq

/-! AreaSetter$Drawings.show(IIIII)V -/
def wX2_show (M : sy_M) (a1 : Int32) (a2 : Int32) (a3 : Int32) (a4 : Int32) (a5 : Int32) (Q : sy_M → Prop) : Prop := wX2_latestCell M a1 (fun r2 M1 => wX7_put M1 11 r2 a2 a3 a4 a5 (fun M3 => ∃ n4 : Nat, n4 < 2000 ∧ r2 = nI n4 ∧ Q (mu M3 17 n4 (vp_nar .boolean (1 : Int32)))))
section
variable {p : Program} {l : Launch} {e : Env} {s : State} {m : MethodId} {args : Array Value} {below : List Frame} {meth : Method} {c : Code} {Y : sy_Y}
end
set_option maxHeartbeats 4000000 in
set_option maxRecDepth 100000 in
theorem mX2_show (l : Launch) (Y : sy_Y) (sz : Nat) (M : sy_M) (a1 : Int32) (a2 : Int32) (a3 : Int32) (a4 : Int32) (a5 : Int32) (Q : sy_M → Prop) (hq : wX2_show M a1 a2 a3 a4 a5 Q) : Met l yX2_show vsX2_show ({ frames := 2, cells := 0, slots := 0, locals := 43 } : Room) (va_Pc [.ref (Y.2.1 9), .int a1, .int a2, .int a3, .int a4, .int a5] (sy_pre Y NX EX tfX sz M)) (sy_QV Y NX EX sz Q) 0 0 (sy_A NX Y.2.1 sz) := by
  refine sy_metV (by decide) rfl (Nat.le_of_ble_eq_true rfl) ?_
  intro p e s m args below meth c C ls hl hh
  have hx := C.1.1
  have hb := C.1.2.1
  have hl : lv_has ls 7 [(0, .ref (Y.2.1 9)), (1, .int a1), (2, .int a2), (3, .int a3), (4, .int a4), (5, .int a5)] := hl
  unfold wX2_show at hq
  refine lv_aload_n hx hb dX2_show_0 rfl (lv_at hl 0 rfl) ?_
  refine lv_iload_n hx hb dX2_show_1 rfl (lv_at hl 1 rfl) ?_
  refine sy_cIV C hh (As := [.int a1]) (rest := []) 9 (by decide) (oX_9 Y) rfl (mX2_latestCell l Y _ M a1 _ hq) (cwV 1 C.1.2.2.2.2 (sy_goodV uX_good uX_115 uX_116 uX_117 uX_112 uX_108 _) rfl rfl rfl hdX2_latestCell ⟨Nat.le_of_ble_eq_true rfl, Nat.le_of_ble_eq_true rfl⟩) rfl hl.1 rfl (Nat.le_of_ble_eq_true rfl) dX2_show_2 (fun r2 M1 H locs hq hh => ?_)
  refine lv_istore (lv' := [(6, .int r2), (0, .ref (Y.2.1 9)), (1, .int a1), (2, .int a2), (3, .int a3), (4, .int a4), (5, .int a5)]) hx hb dX2_show_5 hl (by decide) rfl (fun ls hl => ?_)
  refine lv_aload_n hx hb dX2_show_7 rfl (lv_at hl 1 rfl) ?_
  refine sy_get C hh (fun w h => mc (uX_fX2 w h)) 9 (by decide) (oX_9 Y) rfl 2 (by decide) (index := 24) (mc uX_96) (v := .ref (Y.2.1 11)) rfl dX2_show_8 ?_
  refine lv_iload hx hb dX2_show_11 (lv_at hl 0 rfl) ?_
  refine lv_iload_n hx hb dX2_show_13 rfl (lv_at hl 3 rfl) ?_
  refine lv_iload_n hx hb dX2_show_14 rfl (lv_at hl 4 rfl) ?_
  refine lv_iload hx hb dX2_show_15 (lv_at hl 5 rfl) ?_
  refine lv_iload hx hb dX2_show_17 (lv_at hl 6 rfl) ?_
  refine sy_cVV C hh (As := [.int r2, .int a2, .int a3, .int a4, .int a5]) (rest := []) 11 (by decide) (oX_11 Y) rfl (mX7_put l Y _ M1 11 iX7_11 r2 a2 a3 a4 a5 _ hq) (cwV 5 C.1.2.2.2.2 (sy_goodV uX_good uX_119 uX_43 uX_44 uX_45 uX_23 _) rfl rfl rfl hdX7_put ⟨Nat.le_of_ble_eq_true rfl, Nat.le_of_ble_eq_true rfl⟩) rfl hl.1 rfl (Nat.le_of_ble_eq_true rfl) dX2_show_19 (fun M3 H locs hq hh => ?_)
  refine lv_aload_n hx hb dX2_show_22 rfl (lv_at hl 1 rfl) ?_
  refine sy_get C hh (fun w h => mc (uX_fX2 w h)) 9 (by decide) (oX_9 Y) rfl 3 (by decide) (index := 28) (mc uX_98) (v := .ref (Y.2.1 17)) rfl dX2_show_23 ?_
  refine lv_iload hx hb dX2_show_26 (lv_at hl 0 rfl) ?_
  refine lv_iconst (v := (1 : Int32)) hx hb dX2_show_28 (by decide) ?_
  obtain ⟨n4, hn4, en4, hq⟩ := hq
  refine sy_zast C hh 17 (by decide) (aX_17 Y) tX_17 hn4 en4 (by decide) dX2_show_29 (fun H locs hh => ?_)
  exact sy_vret C hh dX2_show_30 hq

/-! AreaSetter$Items.add(IIZ)V -/
def wX3_add_16 (K_76 : sy_M → Int32 → Int32 → Int32 → Prop) (Q : sy_M → Prop) : Nat → sy_M → Int32 → Int32 → Int32 → Int32 → Prop
  | 0, _, _, _, _, _ => False
  | n + 1, M, x1, x2, x3, x4 => ((x3 = 0 → K_76 M x1 x2 x4) ∧ (¬ x3 = 0 → ((x4 ≤ 0 → K_76 M x1 x2 x4) ∧ (¬ x4 ≤ 0 → ∃ n4 : Nat, n4 < 8 ∧ (x4 - (1 : Int32)) = nI n4 ∧ ((x2 ≤ (M 30 n4) → K_76 M x1 x2 x4) ∧ (¬ x2 ≤ (M 30 n4) → ∃ n6 : Nat, n6 < 8 ∧ (x4 - (1 : Int32)) = nI n6 ∧ ∃ n7 : Nat, n7 < 8 ∧ x4 = nI n7 ∧ ∃ n8 : Nat, n8 < 8 ∧ (x4 - (1 : Int32)) = nI n8 ∧ ∃ n9 : Nat, n9 < 8 ∧ x4 = nI n9 ∧ wX3_add_16 K_76 Q n (mu (mu M 29 n7 (M 29 n6)) 30 n9 ((mu M 29 n7 (M 29 n6)) 30 n8)) x1 x2 x3 (x4 + (-1 : Int32))))))))
def wX3_add_76 (Q : sy_M → Prop) (M : sy_M) (x1 : Int32) (x2 : Int32) (x4 : Int32) : Prop := ∃ n14 : Nat, n14 < 8 ∧ x4 = nI n14 ∧ ∃ n15 : Nat, n15 < 8 ∧ x4 = nI n15 ∧ Q (mu (mu (mu M 29 n14 x1) 30 n15 x2) 28 0 (((mu (mu M 29 n14 x1) 30 n15 x2) 28 0) + (1 : Int32)))
def wX3_add (M : sy_M) (a1 : Int32) (a2 : Int32) (a3 : Int32) (Q : sy_M → Prop) : Prop := (((M 28 0) < (nI 8) → ∃ n16 : Nat, wX3_add_16 (fun (M10 : sy_M) (x1_11 : Int32) (x2_12 : Int32) (x4_13 : Int32) => wX3_add_76  Q M10 x1_11 x2_12 x4_13) Q n16 M a1 a2 a3 (M 28 0)) ∧ (¬ (M 28 0) < (nI 8) → Q M))
section
variable {p : Program} {l : Launch} {e : Env} {s : State} {m : MethodId} {args : Array Value} {below : List Frame} {meth : Method} {c : Code} {Y : sy_Y}
set_option maxHeartbeats 4000000 in
set_option maxRecDepth 100000 in
theorem kX3_add_16 (C : sy_C p m c cX3_add 5 s args vsX3_add RX3 meth none Y NX tfX) {Q : sy_M → Prop} {K_76 : sy_M → Int32 → Int32 → Int32 → Prop} (hK_76 : ∀ (M : sy_M) (x1 : Int32) (x2 : Int32) (x4 : Int32) (H : Heap) (locs : List Loc) (ls : Array Slot), K_76 M x1 x2 x4 → sy_H Y NX EX s H locs M → lv_has ls 5 [(0, .ref (Y.2.1 28)), (1, .int x1), (2, .int x2), (4, .int x4)] → W p l e ({ frames := 0, cells := 0, slots := 0, locals := 0 } : Room) s m args below meth c H locs 0 0 (sy_ZV below args s Y NX EX Q) (F0 m 76 ls [])) :
    ∀ (n : Nat) (M : sy_M) (x1 : Int32) (x2 : Int32) (x3 : Int32) (x4 : Int32) (H : Heap) (locs : List Loc) (ls : Array Slot), wX3_add_16 K_76 Q n M x1 x2 x3 x4 → sy_H Y NX EX s H locs M → lv_has ls 5 [(0, .ref (Y.2.1 28)), (1, .int x1), (2, .int x2), (3, .int x3), (4, .int x4)] → W p l e ({ frames := 0, cells := 0, slots := 0, locals := 0 } : Room) s m args below meth c H locs 0 0 (sy_ZV below args s Y NX EX Q) (F0 m 16 ls []) := by
  have hx := C.1.1
  have hb := C.1.2.1
  intro n
  induction n with
  | zero =>
    intro M x1 x2 x3 x4 H locs ls hq hh hl
    unfold wX3_add_16 at hq
    exact hq.elim
  | succ n ih =>
    intro M x1 x2 x3 x4 H locs ls hq hh hl
    unfold wX3_add_16 at hq
    refine lv_iload_n hx hb dX3_add_16 rfl (lv_at hl 3 rfl) ?_
    refine lv_if_eq (tgt := 76) hx hb dX3_add_17 (by decide) (fun c2 => ?_) (fun c2 => ?_)
    · have hq := hq.1 c2
      exact hK_76 M x1 x2 x4 _ _ _ hq hh (lv_sub hl [0, 1, 2, 4] rfl)
    · have hq := hq.2 c2
      refine lv_iload hx hb dX3_add_20 (lv_at hl 4 rfl) ?_
      refine lv_if_le (tgt := 76) hx hb dX3_add_22 (by decide) (fun c3 => ?_) (fun c3 => ?_)
      · have hq := hq.1 c3
        exact hK_76 M x1 x2 x4 _ _ _ hq hh (lv_sub hl [0, 1, 2, 4] rfl)
      · have hq := hq.2 c3
        refine lv_aload_n hx hb dX3_add_25 rfl (lv_at hl 0 rfl) ?_
        refine sy_get C hh (fun w h => mc (uX_fX3 w h)) 28 (by decide) (oX_28 Y) rfl 3 (by decide) (index := 22) (mc uX_136) (v := .ref (Y.2.1 30)) rfl dX3_add_26 ?_
        refine lv_iload hx hb dX3_add_29 (lv_at hl 4 rfl) ?_
        refine lv_iconst (v := (1 : Int32)) hx hb dX3_add_31 (by decide) ?_
        refine lv_isub hx hb dX3_add_32 ?_
        obtain ⟨n4, hn4, en4, hq⟩ := hq
        refine sy_iald C hh 30 (by decide) (aX_30 Y) tX_30 hn4 en4 (by decide) dX3_add_33 ?_
        refine lv_iload_n hx hb dX3_add_34 rfl (lv_at hl 2 rfl) ?_
        refine lv_icmp_ge (tgt := 76) hx hb dX3_add_35 (by decide) (fun c5 => ?_) (fun c5 => ?_)
        · have hq := hq.1 c5
          exact hK_76 M x1 x2 x4 _ _ _ hq hh (lv_sub hl [0, 1, 2, 4] rfl)
        · have hq := hq.2 c5
          refine lv_aload_n hx hb dX3_add_38 rfl (lv_at hl 0 rfl) ?_
          refine sy_get C hh (fun w h => mc (uX_fX3 w h)) 28 (by decide) (oX_28 Y) rfl 2 (by decide) (index := 18) (mc uX_135) (v := .ref (Y.2.1 29)) rfl dX3_add_39 ?_
          refine lv_iload hx hb dX3_add_42 (lv_at hl 4 rfl) ?_
          refine lv_aload_n hx hb dX3_add_44 rfl (lv_at hl 0 rfl) ?_
          refine sy_get C hh (fun w h => mc (uX_fX3 w h)) 28 (by decide) (oX_28 Y) rfl 2 (by decide) (index := 18) (mc uX_135) (v := .ref (Y.2.1 29)) rfl dX3_add_45 ?_
          refine lv_iload hx hb dX3_add_48 (lv_at hl 4 rfl) ?_
          refine lv_iconst (v := (1 : Int32)) hx hb dX3_add_50 (by decide) ?_
          refine lv_isub hx hb dX3_add_51 ?_
          obtain ⟨n6, hn6, en6, hq⟩ := hq
          refine sy_iald C hh 29 (by decide) (aX_29 Y) tX_29 hn6 en6 (by decide) dX3_add_52 ?_
          obtain ⟨n7, hn7, en7, hq⟩ := hq
          refine sy_iast C hh 29 (by decide) (aX_29 Y) tX_29 hn7 en7 (by decide) dX3_add_53 (fun H locs hh => ?_)
          refine lv_aload_n hx hb dX3_add_54 rfl (lv_at hl 0 rfl) ?_
          refine sy_get C hh (fun w h => mc (uX_fX3 w h)) 28 (by decide) (oX_28 Y) rfl 3 (by decide) (index := 22) (mc uX_136) (v := .ref (Y.2.1 30)) rfl dX3_add_55 ?_
          refine lv_iload hx hb dX3_add_58 (lv_at hl 4 rfl) ?_
          refine lv_aload_n hx hb dX3_add_60 rfl (lv_at hl 0 rfl) ?_
          refine sy_get C hh (fun w h => mc (uX_fX3 w h)) 28 (by decide) (oX_28 Y) rfl 3 (by decide) (index := 22) (mc uX_136) (v := .ref (Y.2.1 30)) rfl dX3_add_61 ?_
          refine lv_iload hx hb dX3_add_64 (lv_at hl 4 rfl) ?_
          refine lv_iconst (v := (1 : Int32)) hx hb dX3_add_66 (by decide) ?_
          refine lv_isub hx hb dX3_add_67 ?_
          obtain ⟨n8, hn8, en8, hq⟩ := hq
          refine sy_iald C hh 30 (by decide) (aX_30 Y) tX_30 hn8 en8 (by decide) dX3_add_68 ?_
          obtain ⟨n9, hn9, en9, hq⟩ := hq
          refine sy_iast C hh 30 (by decide) (aX_30 Y) tX_30 hn9 en9 (by decide) dX3_add_69 (fun H locs hh => ?_)
          refine lv_iinc (v := (x4 + (-1 : Int32))) (lv' := [(4, .int (x4 + (-1 : Int32))), (0, .ref (Y.2.1 28)), (1, .int x1), (2, .int x2), (3, .int x3)]) hx hb dX3_add_70 hl (k := 4) rfl (sy_inc (by decide)) (by decide) rfl (fun ls hl => ?_)
          refine lv_goto (tgt := 16) hx hb dX3_add_73 (by decide) ?_
          exact ih (mu (mu M 29 n7 (M 29 n6)) 30 n9 ((mu M 29 n7 (M 29 n6)) 30 n8)) x1 x2 x3 (x4 + (-1 : Int32)) _ _ _ hq hh (lv_sub hl [1, 2, 3, 4, 0] rfl)

set_option maxHeartbeats 4000000 in
set_option maxRecDepth 100000 in
theorem kX3_add_76 (C : sy_C p m c cX3_add 5 s args vsX3_add RX3 meth none Y NX tfX) {Q : sy_M → Prop} :
    ∀ (M : sy_M) (x1 : Int32) (x2 : Int32) (x4 : Int32) (H : Heap) (locs : List Loc) (ls : Array Slot), wX3_add_76 Q M x1 x2 x4 → sy_H Y NX EX s H locs M → lv_has ls 5 [(0, .ref (Y.2.1 28)), (1, .int x1), (2, .int x2), (4, .int x4)] → W p l e ({ frames := 0, cells := 0, slots := 0, locals := 0 } : Room) s m args below meth c H locs 0 0 (sy_ZV below args s Y NX EX Q) (F0 m 76 ls []) := by
  have hx := C.1.1
  have hb := C.1.2.1
  intro M x1 x2 x4 H locs ls hq hh hl
  unfold wX3_add_76 at hq
  refine lv_aload_n hx hb dX3_add_76 rfl (lv_at hl 0 rfl) ?_
  refine sy_get C hh (fun w h => mc (uX_fX3 w h)) 28 (by decide) (oX_28 Y) rfl 2 (by decide) (index := 18) (mc uX_135) (v := .ref (Y.2.1 29)) rfl dX3_add_77 ?_
  refine lv_iload hx hb dX3_add_80 (lv_at hl 3 rfl) ?_
  refine lv_iload_n hx hb dX3_add_82 rfl (lv_at hl 1 rfl) ?_
  obtain ⟨n14, hn14, en14, hq⟩ := hq
  refine sy_iast C hh 29 (by decide) (aX_29 Y) tX_29 hn14 en14 (by decide) dX3_add_83 (fun H locs hh => ?_)
  refine lv_aload_n hx hb dX3_add_84 rfl (lv_at hl 0 rfl) ?_
  refine sy_get C hh (fun w h => mc (uX_fX3 w h)) 28 (by decide) (oX_28 Y) rfl 3 (by decide) (index := 22) (mc uX_136) (v := .ref (Y.2.1 30)) rfl dX3_add_85 ?_
  refine lv_iload hx hb dX3_add_88 (lv_at hl 3 rfl) ?_
  refine lv_iload_n hx hb dX3_add_90 rfl (lv_at hl 2 rfl) ?_
  obtain ⟨n15, hn15, en15, hq⟩ := hq
  refine sy_iast C hh 30 (by decide) (aX_30 Y) tX_30 hn15 en15 (by decide) dX3_add_91 (fun H locs hh => ?_)
  refine lv_aload_n hx hb dX3_add_92 rfl (lv_at hl 0 rfl) ?_
  refine lv_dup hx hb dX3_add_93 rfl ?_
  refine sy_get C hh (fun w h => mc (uX_fX3 w h)) 28 (by decide) (oX_28 Y) rfl 0 (by decide) (index := 9) (mc uX_133) (v := .int ((mu (mu M 29 n14 x1) 30 n15 x2) 28 0)) rfl dX3_add_94 ?_
  refine lv_iconst (v := (1 : Int32)) hx hb dX3_add_97 (by decide) ?_
  refine lv_iadd hx hb dX3_add_98 ?_
  refine sy_put C hh (fun w h => mc (uX_fX3 w h)) tyX3 tyX3_ok nmX3 28 (by decide) (oX_28 Y) rfl 0 (by decide) (index := 9) (mc uX_133) rfl (((mu (mu M 29 n14 x1) 30 n15 x2) 28 0) + (1 : Int32)) (ty := .int) (tyX3_ok 0 (by decide)) rfl rfl (Nat.le_of_ble_eq_true rfl) (pX3_0 Y _ _ _) dX3_add_99 (fun H locs hh => ?_)
  exact sy_vret C hh dX3_add_102 hq

end
set_option maxHeartbeats 4000000 in
set_option maxRecDepth 100000 in
theorem mX3_add (l : Launch) (Y : sy_Y) (sz : Nat) (M : sy_M) (a1 : Int32) (a2 : Int32) (a3 : Int32) (Q : sy_M → Prop) (hq : wX3_add M a1 a2 a3 Q) : Met l yX3_add vsX3_add ({ frames := 0, cells := 0, slots := 0, locals := 0 } : Room) (va_Pc [.ref (Y.2.1 28), .int a1, .int a2, .int a3] (sy_pre Y NX EX tfX sz M)) (sy_QV Y NX EX sz Q) 0 0 (sy_A NX Y.2.1 sz) := by
  refine sy_metV (by decide) rfl (Nat.le_of_ble_eq_true rfl) ?_
  intro p e s m args below meth c C ls hl hh
  have hx := C.1.1
  have hb := C.1.2.1
  have hl : lv_has ls 5 [(0, .ref (Y.2.1 28)), (1, .int a1), (2, .int a2), (3, .int a3)] := hl
  unfold wX3_add at hq
  refine lv_aload_n hx hb dX3_add_0 rfl (lv_at hl 0 rfl) ?_
  refine sy_get C hh (fun w h => mc (uX_fX3 w h)) 28 (by decide) (oX_28 Y) rfl 0 (by decide) (index := 9) (mc uX_133) (v := .int (M 28 0)) rfl dX3_add_1 ?_
  refine lv_bipush (v := (nI 8)) hx hb dX3_add_4 (by decide) ?_
  refine lv_icmp_lt (tgt := 10) hx hb dX3_add_6 (by decide) (fun c1 => ?_) (fun c1 => ?_)
  · have hq := hq.1 c1
    refine lv_aload_n hx hb dX3_add_10 rfl (lv_at hl 0 rfl) ?_
    refine sy_get C hh (fun w h => mc (uX_fX3 w h)) 28 (by decide) (oX_28 Y) rfl 0 (by decide) (index := 9) (mc uX_133) (v := .int (M 28 0)) rfl dX3_add_11 ?_
    refine lv_istore (lv' := [(4, .int (M 28 0)), (0, .ref (Y.2.1 28)), (1, .int a1), (2, .int a2), (3, .int a3)]) hx hb dX3_add_14 hl (by decide) rfl (fun ls hl => ?_)
    obtain ⟨n16, hq⟩ := hq
    refine kX3_add_16 C (fun M10 x1_11 x2_12 x4_13 H locs ls hq hh hl => ?_) n16 M a1 a2 a3 (M 28 0) _ _ _ hq hh (lv_sub hl [1, 2, 3, 4, 0] rfl)
    · refine kX3_add_76 C  M10 x1_11 x2_12 x4_13 _ _ _ hq hh (lv_sub hl [0, 1, 2, 3] rfl)
  · have hq := hq.2 c1
    exact sy_vret C hh dX3_add_9 hq

/-! AreaSetter$Items.isSmall(LAreaSetter$Tree;ILAreaSetter$Drawings;)Z -/
def wX3_isSmall (M : sy_M) (p1 : Nat) (a2 : Int32) (Q : Int32 → sy_M → Prop) : Prop := ∃ n1 : Nat, n1 < 40 ∧ a2 = nI n1 ∧ wX10_isLeaf M p1 a2 (fun r3 M2 => ((r3 = 0 → Q (0 : Int32) M2) ∧ (¬ r3 = 0 → wX10_has M2 p1 (M (p1 + 1) n1) (fun r6 M5 => ((¬ r6 = 0 → ∃ n8 : Nat, n8 < 40 ∧ (M (p1 + 1) n1) = nI n8 ∧ wX2_latestCell M5 (M (p1 + 1) n1) (fun r10 M9 => ∃ n11 : Nat, n11 < 2000 ∧ r10 = nI n11 ∧ wX2_latestCell M9 a2 (fun r13 M12 => ∃ n14 : Nat, n14 < 2000 ∧ r13 = nI n14 ∧ ((0 ≤ (lg_cmp (((M12 16 n14).toInt64) * (1000 : Int64)) (((M5 (p1 + 8) n8).toInt64) * ((M9 16 n11).toInt64))) → Q (0 : Int32) M12) ∧ (¬ 0 ≤ (lg_cmp (((M12 16 n14).toInt64) * (1000 : Int64)) (((M5 (p1 + 8) n8).toInt64) * ((M9 16 n11).toInt64))) → Q (1 : Int32) M12))))) ∧ (r6 = 0 → Q (0 : Int32) M5))))))
section
variable {p : Program} {l : Launch} {e : Env} {s : State} {m : MethodId} {args : Array Value} {below : List Frame} {meth : Method} {c : Code} {Y : sy_Y}
end
set_option maxHeartbeats 4000000 in
set_option maxRecDepth 100000 in
theorem mX3_isSmall (l : Launch) (Y : sy_Y) (sz : Nat) (M : sy_M) (p1 : Nat) (hp1 : iX10 p1) (a2 : Int32) (Q : Int32 → sy_M → Prop) (hq : wX3_isSmall M p1 a2 Q) : Met l yX3_isSmall vsX3_isSmall ({ frames := 2, cells := 0, slots := 0, locals := 43 } : Room) (va_Pc [.ref (Y.2.1 p1), .int a2, .ref (Y.2.1 9)] (sy_pre Y NX EX tfX sz M)) (sy_QI Y NX EX sz Q) 0 0 (sy_A NX Y.2.1 sz) := by
  refine sy_metI (by decide) rfl (Nat.le_of_ble_eq_true rfl) ?_
  intro p e s m args below meth c C ls hl hh
  have hx := C.1.1
  have hb := C.1.2.1
  have hl : lv_has ls 7 [(0, .ref (Y.2.1 p1)), (1, .int a2), (2, .ref (Y.2.1 9))] := hl
  unfold wX3_isSmall at hq
  refine lv_aload_n hx hb dX3_isSmall_0 rfl (lv_at hl 0 rfl) ?_
  refine sy_get C hh (fun w h => mc (uX_fX10 w h)) p1 (iX10_N hp1) (oX10 hp1) rfl 2 (by decide) (index := 52) (mc uX_142) (v := .ref (Y.2.1 (p1 + 1))) rfl dX3_isSmall_1 ?_
  refine lv_iload_n hx hb dX3_isSmall_4 rfl (lv_at hl 1 rfl) ?_
  obtain ⟨n1, hn1, en1, hq⟩ := hq
  refine sy_iald C hh (p1 + 1) (iX10_N1 hp1) (aX10_1 hp1) (tX10_1 hp1) hn1 en1 (by decide) dX3_isSmall_5 ?_
  refine lv_istore_n (lv' := [(3, .int (M (p1 + 1) n1)), (0, .ref (Y.2.1 p1)), (1, .int a2), (2, .ref (Y.2.1 9))]) hx hb dX3_isSmall_6 rfl hl (by decide) rfl (fun ls hl => ?_)
  refine lv_aload_n hx hb dX3_isSmall_7 rfl (lv_at hl 1 rfl) ?_
  refine lv_iload_n hx hb dX3_isSmall_8 rfl (lv_at hl 2 rfl) ?_
  refine sy_cIV C hh (As := [.int a2]) (rest := []) p1 (iX10_N hp1) (oX10 hp1) rfl (mX10_isLeaf l Y _ M p1 hp1 a2 _ hq) (cwV 1 C.1.2.2.2.2 (sy_goodV uX_good uX_147 uX_148 uX_149 uX_20 uX_141 _) rfl rfl rfl hdX10_isLeaf ⟨Nat.le_of_ble_eq_true rfl, Nat.le_of_ble_eq_true rfl⟩) rfl hl.1 rfl (Nat.le_of_ble_eq_true rfl) dX3_isSmall_9 (fun r3 M2 H locs hq hh => ?_)
  refine lv_if_eq (tgt := 23) hx hb dX3_isSmall_12 (by decide) (fun c4 => ?_) (fun c4 => ?_)
  · have hq := hq.1 c4
    refine lv_iconst (v := (0 : Int32)) hx hb dX3_isSmall_23 (by decide) ?_
    exact sy_zret C hh dX3_isSmall_24 (by decide) hq
  · have hq := hq.2 c4
    refine lv_aload_n hx hb dX3_isSmall_15 rfl (lv_at hl 1 rfl) ?_
    refine lv_iload_n hx hb dX3_isSmall_16 rfl (lv_at hl 0 rfl) ?_
    refine sy_cIV C hh (As := [.int (M (p1 + 1) n1)]) (rest := []) p1 (iX10_N hp1) (oX10 hp1) rfl (mX10_has l Y _ M2 p1 hp1 (M (p1 + 1) n1) _ hq) (cwV 1 C.1.2.2.2.2 (sy_goodV uX_good uX_150 uX_18 uX_19 uX_20 uX_11 _) rfl rfl rfl hdX10_has ⟨Nat.le_of_ble_eq_true rfl, Nat.le_of_ble_eq_true rfl⟩) rfl hl.1 rfl (Nat.le_of_ble_eq_true rfl) dX3_isSmall_17 (fun r6 M5 H locs hq hh => ?_)
    refine lv_if_ne (tgt := 25) hx hb dX3_isSmall_20 (by decide) (fun c7 => ?_) (fun c7 => ?_)
    · have hq := hq.1 c7
      refine lv_aload_n hx hb dX3_isSmall_25 rfl (lv_at hl 3 rfl) ?_
      refine sy_get C hh (fun w h => mc (uX_fX2 w h)) 9 (by decide) (oX_9 Y) rfl 2 (by decide) (index := 55) (mc uX_143) (v := .ref (Y.2.1 11)) rfl dX3_isSmall_26 ?_
      refine sy_get C hh (fun w h => mc (uX_fX7 w h)) 11 (by decide) (oX_11 Y) rfl 4 (by decide) (index := 60) (mc uX_144) (v := .ref (Y.2.1 16)) rfl dX3_isSmall_29 ?_
      refine lv_astore (lv' := [(4, .ref (Y.2.1 16)), (3, .int (M (p1 + 1) n1)), (0, .ref (Y.2.1 p1)), (1, .int a2), (2, .ref (Y.2.1 9))]) hx hb dX3_isSmall_32 hl (by decide) rfl (fun ls hl => ?_)
      refine lv_aload_n hx hb dX3_isSmall_34 rfl (lv_at hl 2 rfl) ?_
      refine sy_get C hh (fun w h => mc (uX_fX10 w h)) p1 (iX10_N hp1) (oX10 hp1) rfl 9 (by decide) (index := 97) (mc uX_145) (v := .ref (Y.2.1 (p1 + 8))) rfl dX3_isSmall_35 ?_
      refine lv_iload_n hx hb dX3_isSmall_38 rfl (lv_at hl 1 rfl) ?_
      obtain ⟨n8, hn8, en8, hq⟩ := hq
      refine sy_iald C hh (p1 + 8) (iX10_N8 hp1) (aX10_8 hp1) (tX10_8 hp1) hn8 en8 (by decide) dX3_isSmall_39 ?_
      refine lv_i2l (v := ((M5 (p1 + 8) n8).toInt64)) hx hb dX3_isSmall_40 rfl ?_
      refine lv_aload hx hb dX3_isSmall_41 (lv_at hl 0 rfl) ?_
      refine lv_aload_n hx hb dX3_isSmall_43 rfl (lv_at hl 4 rfl) ?_
      refine lv_iload_n hx hb dX3_isSmall_44 rfl (lv_at hl 1 rfl) ?_
      refine sy_cIV C hh (As := [.int (M (p1 + 1) n1)]) (rest := [.ref (Y.2.1 16), .long ((M5 (p1 + 8) n8).toInt64)]) 9 (by decide) (oX_9 Y) rfl (mX2_latestCell l Y _ M5 (M (p1 + 1) n1) _ hq) (cwV 1 C.1.2.2.2.2 (sy_goodV uX_good uX_151 uX_116 uX_117 uX_112 uX_108 _) rfl rfl rfl hdX2_latestCell ⟨Nat.le_of_ble_eq_true rfl, Nat.le_of_ble_eq_true rfl⟩) rfl hl.1 rfl (Nat.le_of_ble_eq_true rfl) dX3_isSmall_45 (fun r10 M9 H locs hq hh => ?_)
      obtain ⟨n11, hn11, en11, hq⟩ := hq
      refine sy_iald C hh 16 (by decide) (aX_16 Y) tX_16 hn11 en11 (by decide) dX3_isSmall_48 ?_
      refine lv_i2l (v := ((M9 16 n11).toInt64)) hx hb dX3_isSmall_49 rfl ?_
      refine lv_lmul hx hb dX3_isSmall_50 ?_
      refine lv_lstore (lv' := [(5, .long (((M5 (p1 + 8) n8).toInt64) * ((M9 16 n11).toInt64))), (4, .ref (Y.2.1 16)), (3, .int (M (p1 + 1) n1)), (0, .ref (Y.2.1 p1)), (1, .int a2), (2, .ref (Y.2.1 9))]) hx hb dX3_isSmall_51 hl (by decide) rfl (fun ls hl => ?_)
      refine lv_aload hx hb dX3_isSmall_53 (lv_at hl 1 rfl) ?_
      refine lv_aload_n hx hb dX3_isSmall_55 rfl (lv_at hl 5 rfl) ?_
      refine lv_iload_n hx hb dX3_isSmall_56 rfl (lv_at hl 4 rfl) ?_
      refine sy_cIV C hh (As := [.int a2]) (rest := [.ref (Y.2.1 16)]) 9 (by decide) (oX_9 Y) rfl (mX2_latestCell l Y _ M9 a2 _ hq) (cwV 1 C.1.2.2.2.2 (sy_goodV uX_good uX_151 uX_116 uX_117 uX_112 uX_108 _) rfl rfl rfl hdX2_latestCell ⟨Nat.le_of_ble_eq_true rfl, Nat.le_of_ble_eq_true rfl⟩) rfl hl.1 rfl (Nat.le_of_ble_eq_true rfl) dX3_isSmall_57 (fun r13 M12 H locs hq hh => ?_)
      obtain ⟨n14, hn14, en14, hq⟩ := hq
      refine sy_iald C hh 16 (by decide) (aX_16 Y) tX_16 hn14 en14 (by decide) dX3_isSmall_60 ?_
      refine lv_i2l (v := ((M12 16 n14).toInt64)) hx hb dX3_isSmall_61 rfl ?_
      refine lv_ldc2 (v := 1000) hx hb C.1.2.2.2.1 (C.1.2.2.2.2 (.constantLong RX3 100 1000) (mc uX_146)) dX3_isSmall_62 ?_
      refine lv_lmul hx hb dX3_isSmall_65 ?_
      refine lv_lload hx hb dX3_isSmall_66 (lv_at hl 0 rfl) ?_
      refine W.lcmp hx hb dX3_isSmall_68 ?_
      refine lv_if_ge (tgt := 76) hx hb dX3_isSmall_69 (by decide) (fun c15 => ?_) (fun c15 => ?_)
      · have hq := hq.1 c15
        refine lv_iconst (v := (0 : Int32)) hx hb dX3_isSmall_76 (by decide) ?_
        exact sy_zret C hh dX3_isSmall_77 (by decide) hq
      · have hq := hq.2 c15
        refine lv_iconst (v := (1 : Int32)) hx hb dX3_isSmall_72 (by decide) ?_
        refine lv_goto (tgt := 77) hx hb dX3_isSmall_73 (by decide) ?_
        exact sy_zret C hh dX3_isSmall_77 (by decide) hq
    · have hq := hq.2 c7
      refine lv_iconst (v := (0 : Int32)) hx hb dX3_isSmall_23 (by decide) ?_
      exact sy_zret C hh dX3_isSmall_24 (by decide) hq

