/-! AreaSetterModel.greatestWorst()I -/
def wX12_greatestWorst_4 (Q : Int32 → sy_M → Prop) : Nat → sy_M → Int32 → Int32 → Prop
  | 0, _, _, _ => False
  | n + 1, M, x1, x2 => (((M 0 13) ≤ x2 → Q x1 M) ∧ (¬ (M 0 13) ≤ x2 → (((M 0 40) ≤ 0 → Q x1 M) ∧ (¬ (M 0 40) ≤ 0 → ∃ n3 : Nat, n3 < 82 ∧ x2 = nI n3 ∧ (((M 3 n3) = 0 → wX12_greatestWorst_4 Q n M x1 (x2 + (1 : Int32))) ∧ (¬ (M 3 n3) = 0 → ∃ n5 : Nat, n5 < 41 ∧ x2 = nI n5 ∧ wX12_greatestWorst_4 Q n M (imax x1 (M 33 n5)) (x2 + (1 : Int32))))))))
def wX12_greatestWorst (M : sy_M)  (Q : Int32 → sy_M → Prop) : Prop := ∃ n6 : Nat, wX12_greatestWorst_4  Q n6 M (0 : Int32) (0 : Int32)
section
variable {p : Program} {l : Launch} {e : Env} {s : State} {m : MethodId} {args : Array Value} {below : List Frame} {meth : Method} {c : Code} {Y : sy_Y}
set_option maxHeartbeats 4000000 in
set_option maxRecDepth 100000 in
theorem kX12_greatestWorst_4 (C : sy_C p m c cX12_greatestWorst 3 s args vsX12_greatestWorst RX12 meth (some .int) Y NZ tfZ) {Q : Int32 → sy_M → Prop} :
    ∀ (n : Nat) (M : sy_M) (x1 : Int32) (x2 : Int32) (H : Heap) (locs : List Loc) (ls : Array Slot), wX12_greatestWorst_4 Q n M x1 x2 → sy_H Y NZ EZ s H locs M → lv_has ls 3 [(0, .ref (Y.2.1 0)), (1, .int x1), (2, .int x2)] → W p l e ({ frames := 1, cells := 0, slots := 0, locals := 21 } : Room) s m args below meth c H locs 0 0 (sy_ZI below args s Y NZ EZ Q) (F0 m 4 ls []) := by
  have hx := C.1.1
  have hb := C.1.2.1
  intro n
  induction n with
  | zero =>
    intro M x1 x2 H locs ls hq hh hl
    unfold wX12_greatestWorst_4 at hq
    exact hq.elim
  | succ n ih =>
    intro M x1 x2 H locs ls hq hh hl
    unfold wX12_greatestWorst_4 at hq
    refine lv_iload_n hx hb dX12_greatestWorst_4 rfl (lv_at hl 2 rfl) ?_
    refine lv_aload_n hx hb dX12_greatestWorst_5 rfl (lv_at hl 0 rfl) ?_
    refine sy_get C hh (fun w h => mc (uZ_fX12 w h)) 0 (by decide) (oZ_0 Y) rfl 13 (by decide) (index := 243) (mc uZ_175) (v := .int (M 0 13)) rfl dX12_greatestWorst_6 ?_
    refine lv_icmp_ge (tgt := 45) hx hb dX12_greatestWorst_9 (by decide) (fun c1 => ?_) (fun c1 => ?_)
    · have hq := hq.1 c1
      refine lv_iload_n hx hb dX12_greatestWorst_45 rfl (lv_at hl 1 rfl) ?_
      exact sy_iret C hh dX12_greatestWorst_46 hq
    · have hq := hq.2 c1
      refine lv_aload_n hx hb dX12_greatestWorst_12 rfl (lv_at hl 0 rfl) ?_
      refine sy_get C hh (fun w h => mc (uZ_fX12 w h)) 0 (by decide) (oZ_0 Y) rfl 40 (by decide) (index := 249) (mc uZ_177) (v := .int (M 0 40)) rfl dX12_greatestWorst_13 ?_
      refine lv_if_le (tgt := 45) hx hb dX12_greatestWorst_16 (by decide) (fun c2 => ?_) (fun c2 => ?_)
      · have hq := hq.1 c2
        refine lv_iload_n hx hb dX12_greatestWorst_45 rfl (lv_at hl 1 rfl) ?_
        exact sy_iret C hh dX12_greatestWorst_46 hq
      · have hq := hq.2 c2
        refine lv_aload_n hx hb dX12_greatestWorst_19 rfl (lv_at hl 0 rfl) ?_
        refine sy_get C hh (fun w h => mc (uZ_fX12 w h)) 0 (by decide) (oZ_0 Y) rfl 16 (by decide) (index := 30) (mc uZ_14) (v := .ref (Y.2.1 3)) rfl dX12_greatestWorst_20 ?_
        refine lv_iload_n hx hb dX12_greatestWorst_23 rfl (lv_at hl 2 rfl) ?_
        obtain ⟨n3, hn3, en3, hq⟩ := hq
        refine sy_zald C hh 3 (by decide) (aZ_3 Y) tZ_3 hn3 en3 (by decide) dX12_greatestWorst_24 ?_
        refine lv_if_eq (tgt := 39) hx hb dX12_greatestWorst_25 (by decide) (fun c4 => ?_) (fun c4 => ?_)
        · have hq := hq.1 c4
          refine lv_iinc (v := (x2 + (1 : Int32))) (lv' := [(2, .int (x2 + (1 : Int32))), (0, .ref (Y.2.1 0)), (1, .int x1)]) hx hb dX12_greatestWorst_39 hl (k := 2) rfl (sy_inc (by decide)) (by decide) rfl (fun ls hl => ?_)
          refine lv_goto (tgt := 4) hx hb dX12_greatestWorst_42 (by decide) ?_
          exact ih M x1 (x2 + (1 : Int32)) _ _ _ hq hh (lv_sub hl [1, 2, 0] rfl)
        · have hq := hq.2 c4
          refine lv_iload_n hx hb dX12_greatestWorst_28 rfl (lv_at hl 1 rfl) ?_
          refine lv_aload_n hx hb dX12_greatestWorst_29 rfl (lv_at hl 0 rfl) ?_
          refine sy_get C hh (fun w h => mc (uZ_fX12 w h)) 0 (by decide) (oZ_0 Y) rfl 49 (by decide) (index := 121) (mc uZ_44) (v := .ref (Y.2.1 33)) rfl dX12_greatestWorst_30 ?_
          refine lv_iload_n hx hb dX12_greatestWorst_33 rfl (lv_at hl 2 rfl) ?_
          obtain ⟨n5, hn5, en5, hq⟩ := hq
          refine sy_iald C hh 33 (by decide) (aZ_33 Y) tZ_33 hn5 en5 (by decide) dX12_greatestWorst_34 ?_
          refine sy_mmax C hl (index := 268) (mc uZ_196) (mc uZ_197) (mc uZ_198) (mc uZ_199) (by decide) (Nat.le_of_ble_eq_true rfl) dX12_greatestWorst_35 ?_
          refine lv_istore_n (lv' := [(1, .int (imax x1 (M 33 n5))), (0, .ref (Y.2.1 0)), (2, .int x2)]) hx hb dX12_greatestWorst_38 rfl hl (by decide) rfl (fun ls hl => ?_)
          refine lv_iinc (v := (x2 + (1 : Int32))) (lv' := [(2, .int (x2 + (1 : Int32))), (1, .int (imax x1 (M 33 n5))), (0, .ref (Y.2.1 0))]) hx hb dX12_greatestWorst_39 hl (k := 2) rfl (sy_inc (by decide)) (by decide) rfl (fun ls hl => ?_)
          refine lv_goto (tgt := 4) hx hb dX12_greatestWorst_42 (by decide) ?_
          exact ih M (imax x1 (M 33 n5)) (x2 + (1 : Int32)) _ _ _ hq hh (lv_sub hl [2, 1, 0] rfl)

end
set_option maxHeartbeats 4000000 in
set_option maxRecDepth 100000 in
theorem mX12_greatestWorst (l : Launch) (Y : sy_Y) (sz : Nat) (M : sy_M) (Q : Int32 → sy_M → Prop) (hq : wX12_greatestWorst M  Q) : Met l yX12_greatestWorst vsX12_greatestWorst ({ frames := 1, cells := 0, slots := 0, locals := 21 } : Room) (va_Pc [.ref (Y.2.1 0)] (sy_pre Y NZ EZ tfZ sz M)) (sy_QI Y NZ EZ sz Q) 0 0 (sy_A NZ Y.2.1 sz) := by
  refine sy_metI (by decide) rfl (Nat.le_of_ble_eq_true rfl) ?_
  intro p e s m args below meth c C ls hl hh
  have hx := C.1.1
  have hb := C.1.2.1
  have hl : lv_has ls 3 [(0, .ref (Y.2.1 0))] := hl
  unfold wX12_greatestWorst at hq
  refine lv_iconst (v := (0 : Int32)) hx hb dX12_greatestWorst_0 (by decide) ?_
  refine lv_istore_n (lv' := [(1, .int (0 : Int32)), (0, .ref (Y.2.1 0))]) hx hb dX12_greatestWorst_1 rfl hl (by decide) rfl (fun ls hl => ?_)
  refine lv_iconst (v := (0 : Int32)) hx hb dX12_greatestWorst_2 (by decide) ?_
  refine lv_istore_n (lv' := [(2, .int (0 : Int32)), (1, .int (0 : Int32)), (0, .ref (Y.2.1 0))]) hx hb dX12_greatestWorst_3 rfl hl (by decide) rfl (fun ls hl => ?_)
  obtain ⟨n6, hq⟩ := hq
  refine kX12_greatestWorst_4 C  n6 M (0 : Int32) (0 : Int32) _ _ _ hq hh (lv_sub hl [2, 1, 0] rfl)

/-! AreaSetterModel.count(I)I -/
def wX12_count (M : sy_M) (a1 : Int32) (Q : Int32 → sy_M → Prop) : Prop := ((a1 = (0 : Int32) → Q ((mu M 0 0 (0 : Int32)) 0 13) (mu M 0 0 (0 : Int32))) ∧ (¬ a1 = (0 : Int32) → ((a1 = (1 : Int32) → wX12_groups (mu M 0 0 (0 : Int32)) (fun r4 M3 => Q r4 M3)) ∧ (¬ a1 = (1 : Int32) → ((a1 = (nI 2) → Q ((mu M 0 0 (0 : Int32)) 0 24) (mu M 0 0 (0 : Int32))) ∧ (¬ a1 = (nI 2) → ((a1 = (nI 3) → Q ((mu M 0 0 (0 : Int32)) 0 40) (mu M 0 0 (0 : Int32))) ∧ (¬ a1 = (nI 3) → ((a1 = (nI 4) → Q ((mu M 0 0 (0 : Int32)) 0 5) (mu M 0 0 (0 : Int32))) ∧ (¬ a1 = (nI 4) → ((a1 = (nI 5) → wX12_shown (mu M 0 0 (0 : Int32)) (fun r10 M9 => Q r10 M9)) ∧ (¬ a1 = (nI 5) → ((a1 = (nI 6) → wX12_greatestWorst (mu M 0 0 (0 : Int32)) (fun r13 M12 => Q r13 M12)) ∧ (¬ a1 = (nI 6) → Q (-1 : Int32) (mu M 0 0 (0 : Int32))))))))))))))))
section
variable {p : Program} {l : Launch} {e : Env} {s : State} {m : MethodId} {args : Array Value} {below : List Frame} {meth : Method} {c : Code} {Y : sy_Y}
end
set_option maxHeartbeats 4000000 in
set_option maxRecDepth 100000 in
theorem mX12_count (l : Launch) (Y : sy_Y) (sz : Nat) (M : sy_M) (a1 : Int32) (Q : Int32 → sy_M → Prop) (hq : wX12_count M a1 Q) : Met l yX12_count vsX12_count ({ frames := 2, cells := 0, slots := 0, locals := 43 } : Room) (va_Pc [.ref (Y.2.1 0), .int a1] (sy_pre Y NZ EZ tfZ sz M)) (sy_QI Y NZ EZ sz Q) 0 0 (sy_A NZ Y.2.1 sz) := by
  refine sy_metI (by decide) rfl (Nat.le_of_ble_eq_true rfl) ?_
  intro p e s m args below meth c C ls hl hh
  have hx := C.1.1
  have hb := C.1.2.1
  have hl : lv_has ls 2 [(0, .ref (Y.2.1 0)), (1, .int a1)] := hl
  unfold wX12_count at hq
  refine lv_aload_n hx hb dX12_count_0 rfl (lv_at hl 0 rfl) ?_
  refine lv_iconst (v := (0 : Int32)) hx hb dX12_count_1 (by decide) ?_
  refine sy_put C hh (fun w h => mc (uZ_fX12 w h)) tyX12 tyX12_ok nmX12 0 (by decide) (oZ_0 Y) rfl 0 (by decide) (index := 1) (mc uZ_1) rfl (0 : Int32) (ty := .int) (tyX12_ok 0 (by decide)) rfl rfl (Nat.le_of_ble_eq_true rfl) (pX12_0 Y _ _ _) dX12_count_2 (fun H locs hh => ?_)
  refine lv_iload_n hx hb dX12_count_5 rfl (lv_at hl 1 rfl) ?_
  by_cases c1 : a1 = (0 : Int32)
  · have hq := hq.1 c1
    refine lv_tableIn (tgt := 48) (off := 42) hx hb dX12_count_6 (by rw [c1]; decide) (by rw [c1]; decide) (by rw [c1]; rfl) (by decide) ?_
    refine lv_aload_n hx hb dX12_count_48 rfl (lv_at hl 0 rfl) ?_
    refine sy_get C hh (fun w h => mc (uZ_fX12 w h)) 0 (by decide) (oZ_0 Y) rfl 13 (by decide) (index := 243) (mc uZ_175) (v := .int ((mu M 0 0 (0 : Int32)) 0 13)) rfl dX12_count_49 ?_
    exact sy_iret C hh dX12_count_52 hq
  · have hq := hq.2 c1
    by_cases c2 : a1 = (1 : Int32)
    · have hq := hq.1 c2
      refine lv_tableIn (tgt := 53) (off := 47) hx hb dX12_count_6 (by rw [c2]; decide) (by rw [c2]; decide) (by rw [c2]; rfl) (by decide) ?_
      refine lv_aload_n hx hb dX12_count_53 rfl (lv_at hl 0 rfl) ?_
      refine sy_cIV C hh (As := []) (rest := []) 0 (by decide) (oZ_0 Y) rfl (mX12_groups l Y _ (mu M 0 0 (0 : Int32))  _ hq) (cwV 0 C.1.2.2.2.2 (sy_goodV uZ_good uZ_315 uZ_316 uZ_317 uZ_55 uZ_312 _) rfl rfl rfl hdX12_groups ⟨Nat.le_of_ble_eq_true rfl, Nat.le_of_ble_eq_true rfl⟩) rfl hl.1 rfl (Nat.le_of_ble_eq_true rfl) dX12_count_54 (fun r4 M3 H locs hq hh => ?_)
      exact sy_iret C hh dX12_count_57 hq
    · have hq := hq.2 c2
      by_cases c5 : a1 = (nI 2)
      · have hq := hq.1 c5
        refine lv_tableIn (tgt := 58) (off := 52) hx hb dX12_count_6 (by rw [c5]; decide) (by rw [c5]; decide) (by rw [c5]; rfl) (by decide) ?_
        refine lv_aload_n hx hb dX12_count_58 rfl (lv_at hl 0 rfl) ?_
        refine sy_get C hh (fun w h => mc (uZ_fX12 w h)) 0 (by decide) (oZ_0 Y) rfl 24 (by decide) (index := 246) (mc uZ_176) (v := .int ((mu M 0 0 (0 : Int32)) 0 24)) rfl dX12_count_59 ?_
        exact sy_iret C hh dX12_count_62 hq
      · have hq := hq.2 c5
        by_cases c6 : a1 = (nI 3)
        · have hq := hq.1 c6
          refine lv_tableIn (tgt := 63) (off := 57) hx hb dX12_count_6 (by rw [c6]; decide) (by rw [c6]; decide) (by rw [c6]; rfl) (by decide) ?_
          refine lv_aload_n hx hb dX12_count_63 rfl (lv_at hl 0 rfl) ?_
          refine sy_get C hh (fun w h => mc (uZ_fX12 w h)) 0 (by decide) (oZ_0 Y) rfl 40 (by decide) (index := 249) (mc uZ_177) (v := .int ((mu M 0 0 (0 : Int32)) 0 40)) rfl dX12_count_64 ?_
          exact sy_iret C hh dX12_count_67 hq
        · have hq := hq.2 c6
          by_cases c7 : a1 = (nI 4)
          · have hq := hq.1 c7
            refine lv_tableIn (tgt := 68) (off := 62) hx hb dX12_count_6 (by rw [c7]; decide) (by rw [c7]; decide) (by rw [c7]; rfl) (by decide) ?_
            refine lv_aload_n hx hb dX12_count_68 rfl (lv_at hl 0 rfl) ?_
            refine sy_get C hh (fun w h => mc (uZ_fX12 w h)) 0 (by decide) (oZ_0 Y) rfl 5 (by decide) (index := 149) (mc uZ_59) (v := .int ((mu M 0 0 (0 : Int32)) 0 5)) rfl dX12_count_69 ?_
            exact sy_iret C hh dX12_count_72 hq
          · have hq := hq.2 c7
            by_cases c8 : a1 = (nI 5)
            · have hq := hq.1 c8
              refine lv_tableIn (tgt := 73) (off := 67) hx hb dX12_count_6 (by rw [c8]; decide) (by rw [c8]; decide) (by rw [c8]; rfl) (by decide) ?_
              refine lv_aload_n hx hb dX12_count_73 rfl (lv_at hl 0 rfl) ?_
              refine sy_cIV C hh (As := []) (rest := []) 0 (by decide) (oZ_0 Y) rfl (mX12_shown l Y _ (mu M 0 0 (0 : Int32))  _ hq) (cwV 0 C.1.2.2.2.2 (sy_goodV uZ_good uZ_318 uZ_319 uZ_320 uZ_55 uZ_313 _) rfl rfl rfl hdX12_shown ⟨Nat.le_of_ble_eq_true rfl, Nat.le_of_ble_eq_true rfl⟩) rfl hl.1 rfl (Nat.le_of_ble_eq_true rfl) dX12_count_74 (fun r10 M9 H locs hq hh => ?_)
              exact sy_iret C hh dX12_count_77 hq
            · have hq := hq.2 c8
              by_cases c11 : a1 = (nI 6)
              · have hq := hq.1 c11
                refine lv_tableIn (tgt := 78) (off := 72) hx hb dX12_count_6 (by rw [c11]; decide) (by rw [c11]; decide) (by rw [c11]; rfl) (by decide) ?_
                refine lv_aload_n hx hb dX12_count_78 rfl (lv_at hl 0 rfl) ?_
                refine sy_cIV C hh (As := []) (rest := []) 0 (by decide) (oZ_0 Y) rfl (mX12_greatestWorst l Y _ (mu M 0 0 (0 : Int32))  _ hq) (cwV 0 C.1.2.2.2.2 (sy_goodV uZ_good uZ_321 uZ_322 uZ_323 uZ_55 uZ_314 _) rfl rfl rfl hdX12_greatestWorst ⟨Nat.le_of_ble_eq_true rfl, Nat.le_of_ble_eq_true rfl⟩) rfl hl.1 rfl (Nat.le_of_ble_eq_true rfl) dX12_count_79 (fun r13 M12 H locs hq hh => ?_)
                exact sy_iret C hh dX12_count_82 hq
              · have hq := hq.2 c11
                refine lv_tableOut (tgt := 83) hx hb dX12_count_6 (by have := lv_neT c1 (a := 0) (by decide); have := lv_neT c2 (a := 1) (by decide); have := lv_neT c5 (a := 2) (by decide); have := lv_neT c6 (a := 3) (by decide); have := lv_neT c7 (a := 4) (by decide); have := lv_neT c8 (a := 5) (by decide); have := lv_neT c11 (a := 6) (by decide); omega) (by decide) ?_
                refine lv_iconst (v := (-1 : Int32)) hx hb dX12_count_83 (by decide) ?_
                exact sy_iret C hh dX12_count_84 hq

