/-! AreaSetterModel.restOf(II)I -/
def wX12_restOf (M : sy_M) (a1 : Int32) (a2 : Int32) (Q : Int32 → sy_M → Prop) : Prop := wX12_isDrawn (mu M 0 0 (0 : Int32)) a1 (fun r2 M1 => ((r2 = 0 → Q (-1 : Int32) M1) ∧ (¬ r2 = 0 → ∃ n4 : Nat, n4 < 82 ∧ a1 = nI n4 ∧ (((M1 3 n4) = 0 → Q (-1 : Int32) M1) ∧ (¬ (M1 3 n4) = 0 → n4 < 41 ∧ ((¬ (M1 34 n4) = 0 → ((a2 = (0 : Int32) → n4 < 41 ∧ Q (M1 36 n4) M1) ∧ (¬ a2 = (0 : Int32) → ((a2 = (1 : Int32) → n4 < 41 ∧ Q (M1 37 n4) M1) ∧ (¬ a2 = (1 : Int32) → ((a2 = (nI 2) → n4 < 41 ∧ Q (M1 38 n4) M1) ∧ (¬ a2 = (nI 2) → ((a2 = (nI 3) → n4 < 41 ∧ Q (M1 39 n4) M1) ∧ (¬ a2 = (nI 3) → ((a2 = (nI 4) → n4 < 41 ∧ Q (M1 35 n4) M1) ∧ (¬ a2 = (nI 4) → ((a2 = (nI 5) → n4 < 41 ∧ n4 < 41 ∧ n4 < 41 ∧ wX12_shape M1 (M1 35 n4) (M1 38 n4) (M1 39 n4) (fun r23 M22 => Q r23 M22)) ∧ (¬ a2 = (nI 5) → ((a2 = (nI 6) → n4 < 41 ∧ Q (M1 34 n4) M1) ∧ (¬ a2 = (nI 6) → Q (-1 : Int32) M1))))))))))))))) ∧ ((M1 34 n4) = 0 → Q (-1 : Int32) M1)))))))
section
variable {p : Program} {l : Launch} {e : Env} {s : State} {m : MethodId} {args : Array Value} {below : List Frame} {meth : Method} {c : Code} {Y : sy_Y}
end
set_option maxHeartbeats 4000000 in
set_option maxRecDepth 100000 in
theorem mX12_restOf (l : Launch) (Y : sy_Y) (sz : Nat) (M : sy_M) (a1 : Int32) (a2 : Int32) (Q : Int32 → sy_M → Prop) (hq : wX12_restOf M a1 a2 Q) : Met l yX12_restOf vsX12_restOf ({ frames := 2, cells := 0, slots := 0, locals := 42 } : Room) (va_Pc [.ref (Y.2.1 0), .int a1, .int a2] (sy_pre Y NZ EZ tfZ sz M)) (sy_QI Y NZ EZ sz Q) 0 0 (sy_A NZ Y.2.1 sz) := by
  refine sy_metI (by decide) rfl (Nat.le_of_ble_eq_true rfl) ?_
  intro p e s m args below meth c C ls hl hh
  have hx := C.1.1
  have hb := C.1.2.1
  have hl : lv_has ls 3 [(0, .ref (Y.2.1 0)), (1, .int a1), (2, .int a2)] := hl
  unfold wX12_restOf at hq
  refine lv_aload_n hx hb dX12_restOf_0 rfl (lv_at hl 0 rfl) ?_
  refine lv_iconst (v := (0 : Int32)) hx hb dX12_restOf_1 (by decide) ?_
  refine sy_put C hh (fun w h => mc (uZ_fX12 w h)) tyX12 tyX12_ok nmX12 0 (by decide) (oZ_0 Y) rfl 0 (by decide) (index := 1) (mc uZ_1) rfl 0 (0 : Int32) (ty := .int) (tyX12_ok 0 (by decide)) rfl rfl (Nat.le_of_ble_eq_true rfl) (pX12_0 Y _ _ _) dX12_restOf_2 (fun H locs hh => ?_)
  refine lv_aload_n hx hb dX12_restOf_5 rfl (lv_at hl 0 rfl) ?_
  refine lv_iload_n hx hb dX12_restOf_6 rfl (lv_at hl 1 rfl) ?_
  refine sy_cIV C hh (As := [.int a1]) (rest := []) 0 (by decide) (oZ_0 Y) rfl (mX12_isDrawn l Y _ (mu M 0 0 (0 : Int32)) a1 _ hq) (cwV 1 C.1.2.2.2.2 (sy_goodV uZ_good uZ_297 uZ_298 uZ_299 uZ_55 uZ_296 _) rfl rfl rfl hdX12_isDrawn ⟨Nat.le_of_ble_eq_true rfl, Nat.le_of_ble_eq_true rfl⟩) rfl hl.1 rfl (Nat.le_of_ble_eq_true rfl) dX12_restOf_7 (fun r2 M1 H locs hq hh => ?_)
  refine lv_if_eq (tgt := 31) hx hb dX12_restOf_10 (by decide) (fun c3 => ?_) (fun c3 => ?_)
  · have hq := hq.1 c3
    refine lv_iconst (v := (-1 : Int32)) hx hb dX12_restOf_31 (by decide) ?_
    exact sy_iret C hh dX12_restOf_32 hq
  · have hq := hq.2 c3
    refine lv_aload_n hx hb dX12_restOf_13 rfl (lv_at hl 0 rfl) ?_
    refine sy_get C hh (fun w h => mc (uZ_fX12 w h)) 0 (by decide) (oZ_0 Y) rfl 16 (by decide) (index := 30) (mc uZ_14) (v := .ref (Y.2.1 3)) rfl dX12_restOf_14 ?_
    refine lv_iload_n hx hb dX12_restOf_17 rfl (lv_at hl 1 rfl) ?_
    obtain ⟨n4, hn4, en4, hq⟩ := hq
    refine sy_zald C hh 3 (by decide) (aZ_3 Y) tZ_3 hn4 en4 (by decide) dX12_restOf_18 ?_
    refine lv_if_eq (tgt := 31) hx hb dX12_restOf_19 (by decide) (fun c5 => ?_) (fun c5 => ?_)
    · have hq := hq.1 c5
      refine lv_iconst (v := (-1 : Int32)) hx hb dX12_restOf_31 (by decide) ?_
      exact sy_iret C hh dX12_restOf_32 hq
    · have hq := hq.2 c5
      refine lv_aload_n hx hb dX12_restOf_22 rfl (lv_at hl 0 rfl) ?_
      refine sy_get C hh (fun w h => mc (uZ_fX12 w h)) 0 (by decide) (oZ_0 Y) rfl 50 (by decide) (index := 124) (mc uZ_45) (v := .ref (Y.2.1 34)) rfl dX12_restOf_23 ?_
      refine lv_iload_n hx hb dX12_restOf_26 rfl (lv_at hl 1 rfl) ?_
      obtain ⟨b6, hq⟩ := hq
      refine sy_iald C hh 34 (by decide) (aZ_34 Y) tZ_34 b6 en4 (by decide) dX12_restOf_27 ?_
      refine lv_if_ne (tgt := 33) hx hb dX12_restOf_28 (by decide) (fun c7 => ?_) (fun c7 => ?_)
      · have hq := hq.1 c7
        refine lv_iload_n hx hb dX12_restOf_33 rfl (lv_at hl 2 rfl) ?_
        by_cases c8 : a2 = (0 : Int32)
        · have hq := hq.1 c8
          refine lv_tableIn (tgt := 76) (off := 42) hx hb dX12_restOf_34 (by rw [c8]; decide) (by rw [c8]; decide) (by rw [c8]; rfl) (by decide) ?_
          refine lv_aload_n hx hb dX12_restOf_76 rfl (lv_at hl 0 rfl) ?_
          refine sy_get C hh (fun w h => mc (uZ_fX12 w h)) 0 (by decide) (oZ_0 Y) rfl 52 (by decide) (index := 130) (mc uZ_47) (v := .ref (Y.2.1 36)) rfl dX12_restOf_77 ?_
          refine lv_iload_n hx hb dX12_restOf_80 rfl (lv_at hl 1 rfl) ?_
          obtain ⟨b9, hq⟩ := hq
          refine sy_iald C hh 36 (by decide) (aZ_36 Y) tZ_36 b9 en4 (by decide) dX12_restOf_81 ?_
          exact sy_iret C hh dX12_restOf_82 hq
        · have hq := hq.2 c8
          by_cases c10 : a2 = (1 : Int32)
          · have hq := hq.1 c10
            refine lv_tableIn (tgt := 83) (off := 49) hx hb dX12_restOf_34 (by rw [c10]; decide) (by rw [c10]; decide) (by rw [c10]; rfl) (by decide) ?_
            refine lv_aload_n hx hb dX12_restOf_83 rfl (lv_at hl 0 rfl) ?_
            refine sy_get C hh (fun w h => mc (uZ_fX12 w h)) 0 (by decide) (oZ_0 Y) rfl 53 (by decide) (index := 133) (mc uZ_48) (v := .ref (Y.2.1 37)) rfl dX12_restOf_84 ?_
            refine lv_iload_n hx hb dX12_restOf_87 rfl (lv_at hl 1 rfl) ?_
            obtain ⟨b11, hq⟩ := hq
            refine sy_iald C hh 37 (by decide) (aZ_37 Y) tZ_37 b11 en4 (by decide) dX12_restOf_88 ?_
            exact sy_iret C hh dX12_restOf_89 hq
          · have hq := hq.2 c10
            by_cases c12 : a2 = (nI 2)
            · have hq := hq.1 c12
              refine lv_tableIn (tgt := 90) (off := 56) hx hb dX12_restOf_34 (by rw [c12]; decide) (by rw [c12]; decide) (by rw [c12]; rfl) (by decide) ?_
              refine lv_aload_n hx hb dX12_restOf_90 rfl (lv_at hl 0 rfl) ?_
              refine sy_get C hh (fun w h => mc (uZ_fX12 w h)) 0 (by decide) (oZ_0 Y) rfl 54 (by decide) (index := 136) (mc uZ_49) (v := .ref (Y.2.1 38)) rfl dX12_restOf_91 ?_
              refine lv_iload_n hx hb dX12_restOf_94 rfl (lv_at hl 1 rfl) ?_
              obtain ⟨b13, hq⟩ := hq
              refine sy_iald C hh 38 (by decide) (aZ_38 Y) tZ_38 b13 en4 (by decide) dX12_restOf_95 ?_
              exact sy_iret C hh dX12_restOf_96 hq
            · have hq := hq.2 c12
              by_cases c14 : a2 = (nI 3)
              · have hq := hq.1 c14
                refine lv_tableIn (tgt := 97) (off := 63) hx hb dX12_restOf_34 (by rw [c14]; decide) (by rw [c14]; decide) (by rw [c14]; rfl) (by decide) ?_
                refine lv_aload_n hx hb dX12_restOf_97 rfl (lv_at hl 0 rfl) ?_
                refine sy_get C hh (fun w h => mc (uZ_fX12 w h)) 0 (by decide) (oZ_0 Y) rfl 55 (by decide) (index := 139) (mc uZ_50) (v := .ref (Y.2.1 39)) rfl dX12_restOf_98 ?_
                refine lv_iload_n hx hb dX12_restOf_101 rfl (lv_at hl 1 rfl) ?_
                obtain ⟨b15, hq⟩ := hq
                refine sy_iald C hh 39 (by decide) (aZ_39 Y) tZ_39 b15 en4 (by decide) dX12_restOf_102 ?_
                exact sy_iret C hh dX12_restOf_103 hq
              · have hq := hq.2 c14
                by_cases c16 : a2 = (nI 4)
                · have hq := hq.1 c16
                  refine lv_tableIn (tgt := 104) (off := 70) hx hb dX12_restOf_34 (by rw [c16]; decide) (by rw [c16]; decide) (by rw [c16]; rfl) (by decide) ?_
                  refine lv_aload_n hx hb dX12_restOf_104 rfl (lv_at hl 0 rfl) ?_
                  refine sy_get C hh (fun w h => mc (uZ_fX12 w h)) 0 (by decide) (oZ_0 Y) rfl 51 (by decide) (index := 127) (mc uZ_46) (v := .ref (Y.2.1 35)) rfl dX12_restOf_105 ?_
                  refine lv_iload_n hx hb dX12_restOf_108 rfl (lv_at hl 1 rfl) ?_
                  obtain ⟨b17, hq⟩ := hq
                  refine sy_iald C hh 35 (by decide) (aZ_35 Y) tZ_35 b17 en4 (by decide) dX12_restOf_109 ?_
                  exact sy_iret C hh dX12_restOf_110 hq
                · have hq := hq.2 c16
                  by_cases c18 : a2 = (nI 5)
                  · have hq := hq.1 c18
                    refine lv_tableIn (tgt := 111) (off := 77) hx hb dX12_restOf_34 (by rw [c18]; decide) (by rw [c18]; decide) (by rw [c18]; rfl) (by decide) ?_
                    refine lv_aload_n hx hb dX12_restOf_111 rfl (lv_at hl 0 rfl) ?_
                    refine sy_get C hh (fun w h => mc (uZ_fX12 w h)) 0 (by decide) (oZ_0 Y) rfl 51 (by decide) (index := 127) (mc uZ_46) (v := .ref (Y.2.1 35)) rfl dX12_restOf_112 ?_
                    refine lv_iload_n hx hb dX12_restOf_115 rfl (lv_at hl 1 rfl) ?_
                    obtain ⟨b19, hq⟩ := hq
                    refine sy_iald C hh 35 (by decide) (aZ_35 Y) tZ_35 b19 en4 (by decide) dX12_restOf_116 ?_
                    refine lv_aload_n hx hb dX12_restOf_117 rfl (lv_at hl 0 rfl) ?_
                    refine sy_get C hh (fun w h => mc (uZ_fX12 w h)) 0 (by decide) (oZ_0 Y) rfl 54 (by decide) (index := 136) (mc uZ_49) (v := .ref (Y.2.1 38)) rfl dX12_restOf_118 ?_
                    refine lv_iload_n hx hb dX12_restOf_121 rfl (lv_at hl 1 rfl) ?_
                    obtain ⟨b20, hq⟩ := hq
                    refine sy_iald C hh 38 (by decide) (aZ_38 Y) tZ_38 b20 en4 (by decide) dX12_restOf_122 ?_
                    refine lv_aload_n hx hb dX12_restOf_123 rfl (lv_at hl 0 rfl) ?_
                    refine sy_get C hh (fun w h => mc (uZ_fX12 w h)) 0 (by decide) (oZ_0 Y) rfl 55 (by decide) (index := 139) (mc uZ_50) (v := .ref (Y.2.1 39)) rfl dX12_restOf_124 ?_
                    refine lv_iload_n hx hb dX12_restOf_127 rfl (lv_at hl 1 rfl) ?_
                    obtain ⟨b21, hq⟩ := hq
                    refine sy_iald C hh 39 (by decide) (aZ_39 Y) tZ_39 b21 en4 (by decide) dX12_restOf_128 ?_
                    refine sy_cIS C hh (As := [.int (M1 35 n4), .int (M1 38 n4), .int (M1 39 n4)]) (rest := []) (mX12_shape l Y _ M1 (M1 35 n4) (M1 38 n4) (M1 39 n4) _ hq) (va_cwS 3 C.1.2.2.2.2 (sy_goodS uZ_good uZ_200 uZ_201 uZ_55 uZ_192 _) rfl rfl rfl hdX12_shape.2 ⟨Nat.le_of_ble_eq_true rfl, Nat.le_of_ble_eq_true rfl⟩) rfl hl.1 rfl (Nat.le_of_ble_eq_true rfl) dX12_restOf_129 (fun r23 M22 H locs hq hh => ?_)
                    exact sy_iret C hh dX12_restOf_132 hq
                  · have hq := hq.2 c18
                    by_cases c24 : a2 = (nI 6)
                    · have hq := hq.1 c24
                      refine lv_tableIn (tgt := 133) (off := 99) hx hb dX12_restOf_34 (by rw [c24]; decide) (by rw [c24]; decide) (by rw [c24]; rfl) (by decide) ?_
                      refine lv_aload_n hx hb dX12_restOf_133 rfl (lv_at hl 0 rfl) ?_
                      refine sy_get C hh (fun w h => mc (uZ_fX12 w h)) 0 (by decide) (oZ_0 Y) rfl 50 (by decide) (index := 124) (mc uZ_45) (v := .ref (Y.2.1 34)) rfl dX12_restOf_134 ?_
                      refine lv_iload_n hx hb dX12_restOf_137 rfl (lv_at hl 1 rfl) ?_
                      obtain ⟨b25, hq⟩ := hq
                      refine sy_iald C hh 34 (by decide) (aZ_34 Y) tZ_34 b25 en4 (by decide) dX12_restOf_138 ?_
                      exact sy_iret C hh dX12_restOf_139 hq
                    · have hq := hq.2 c24
                      refine lv_tableOut (tgt := 140) hx hb dX12_restOf_34 (by have := lv_neT c8 (a := 0) (by decide); have := lv_neT c10 (a := 1) (by decide); have := lv_neT c12 (a := 2) (by decide); have := lv_neT c14 (a := 3) (by decide); have := lv_neT c16 (a := 4) (by decide); have := lv_neT c18 (a := 5) (by decide); have := lv_neT c24 (a := 6) (by decide); omega) (by decide) ?_
                      refine lv_iconst (v := (-1 : Int32)) hx hb dX12_restOf_140 (by decide) ?_
                      exact sy_iret C hh dX12_restOf_141 hq
      · have hq := hq.2 c7
        refine lv_iconst (v := (-1 : Int32)) hx hb dX12_restOf_31 (by decide) ?_
        exact sy_iret C hh dX12_restOf_32 hq

/-! AreaSetterModel.isIn(IIIIII)Z -/
def wX12_isIn (M : sy_M) (a1 : Int32) (a2 : Int32) (a3 : Int32) (a4 : Int32) (a5 : Int32) (a6 : Int32) (Q : Int32 → sy_M → Prop) : Prop := ((a1 < a3 → Q (0 : Int32) M) ∧ (¬ a1 < a3 → (((a3 + a5) ≤ a1 → Q (0 : Int32) M) ∧ (¬ (a3 + a5) ≤ a1 → ((a2 < a4 → Q (0 : Int32) M) ∧ (¬ a2 < a4 → (((a4 + a6) ≤ a2 → Q (0 : Int32) M) ∧ (¬ (a4 + a6) ≤ a2 → Q (1 : Int32) M))))))))
section
variable {p : Program} {l : Launch} {e : Env} {s : State} {m : MethodId} {args : Array Value} {below : List Frame} {meth : Method} {c : Code} {Y : sy_Y}
end
set_option maxHeartbeats 4000000 in
set_option maxRecDepth 100000 in
theorem mX12_isIn (l : Launch) (Y : sy_Y) (sz : Nat) (M : sy_M) (a1 : Int32) (a2 : Int32) (a3 : Int32) (a4 : Int32) (a5 : Int32) (a6 : Int32) (Q : Int32 → sy_M → Prop) (hq : wX12_isIn M a1 a2 a3 a4 a5 a6 Q) : Met l yX12_isIn vsX12_isIn ({ frames := 0, cells := 0, slots := 0, locals := 0 } : Room) (va_Pc [.int a1, .int a2, .int a3, .int a4, .int a5, .int a6] (sy_pre Y NZ EZ tfZ sz M)) (sy_QI Y NZ EZ sz Q) 0 0 (sy_A NZ Y.2.1 sz) := by
  refine sy_metI (by decide) rfl (Nat.le_of_ble_eq_true rfl) ?_
  intro p e s m args below meth c C ls hl hh
  have hx := C.1.1
  have hb := C.1.2.1
  have hl : lv_has ls 6 [(0, .int a1), (1, .int a2), (2, .int a3), (3, .int a4), (4, .int a5), (5, .int a6)] := hl
  unfold wX12_isIn at hq
  refine lv_iload_n hx hb dX12_isIn_0 rfl (lv_at hl 0 rfl) ?_
  refine lv_iload_n hx hb dX12_isIn_1 rfl (lv_at hl 2 rfl) ?_
  refine lv_icmp_lt (tgt := 30) hx hb dX12_isIn_2 (by decide) (fun c1 => ?_) (fun c1 => ?_)
  · have hq := hq.1 c1
    refine lv_iconst (v := (0 : Int32)) hx hb dX12_isIn_30 (by decide) ?_
    exact sy_zret C hh dX12_isIn_31 (by decide) hq
  · have hq := hq.2 c1
    refine lv_iload_n hx hb dX12_isIn_5 rfl (lv_at hl 0 rfl) ?_
    refine lv_iload_n hx hb dX12_isIn_6 rfl (lv_at hl 2 rfl) ?_
    refine lv_iload hx hb dX12_isIn_7 (lv_at hl 4 rfl) ?_
    refine lv_iadd hx hb dX12_isIn_9 ?_
    refine lv_icmp_ge (tgt := 30) hx hb dX12_isIn_10 (by decide) (fun c2 => ?_) (fun c2 => ?_)
    · have hq := hq.1 c2
      refine lv_iconst (v := (0 : Int32)) hx hb dX12_isIn_30 (by decide) ?_
      exact sy_zret C hh dX12_isIn_31 (by decide) hq
    · have hq := hq.2 c2
      refine lv_iload_n hx hb dX12_isIn_13 rfl (lv_at hl 1 rfl) ?_
      refine lv_iload_n hx hb dX12_isIn_14 rfl (lv_at hl 3 rfl) ?_
      refine lv_icmp_lt (tgt := 30) hx hb dX12_isIn_15 (by decide) (fun c3 => ?_) (fun c3 => ?_)
      · have hq := hq.1 c3
        refine lv_iconst (v := (0 : Int32)) hx hb dX12_isIn_30 (by decide) ?_
        exact sy_zret C hh dX12_isIn_31 (by decide) hq
      · have hq := hq.2 c3
        refine lv_iload_n hx hb dX12_isIn_18 rfl (lv_at hl 1 rfl) ?_
        refine lv_iload_n hx hb dX12_isIn_19 rfl (lv_at hl 3 rfl) ?_
        refine lv_iload hx hb dX12_isIn_20 (lv_at hl 5 rfl) ?_
        refine lv_iadd hx hb dX12_isIn_22 ?_
        refine lv_icmp_ge (tgt := 30) hx hb dX12_isIn_23 (by decide) (fun c4 => ?_) (fun c4 => ?_)
        · have hq := hq.1 c4
          refine lv_iconst (v := (0 : Int32)) hx hb dX12_isIn_30 (by decide) ?_
          exact sy_zret C hh dX12_isIn_31 (by decide) hq
        · have hq := hq.2 c4
          refine lv_iconst (v := (1 : Int32)) hx hb dX12_isIn_26 (by decide) ?_
          refine lv_goto (tgt := 31) hx hb dX12_isIn_27 (by decide) ?_
          exact sy_zret C hh dX12_isIn_31 (by decide) hq

/-! AreaSetterModel.under(II)I -/
def wX12_under_30 (K_101 : sy_M → Int32 → Int32 → Int32 → Prop) (Q : Int32 → sy_M → Prop) : Nat → sy_M → Int32 → Int32 → Int32 → Int32 → Int32 → Prop
  | 0, _, _, _, _, _, _ => False
  | n + 1, M, x1, x2, x3, x4, x5 => (((M 0 13) ≤ x5 → K_101 M x1 x2 x4) ∧ (¬ (M 0 13) ≤ x5 → ∃ n5 : Nat, n5 < 2091 ∧ (x3 + x5) = nI n5 ∧ (((M 26 n5) = 0 → wX12_under_30 K_101 Q n M x1 x2 x3 x4 (x5 + (1 : Int32))) ∧ (¬ (M 26 n5) = 0 → wX12_isIn M x1 x2 (M 27 n5) (M 28 n5) (M 29 n5) (M 30 n5) (fun r8 M7 => ((r8 = 0 → wX12_under_30 K_101 Q n M7 x1 x2 x3 x4 (x5 + (1 : Int32))) ∧ (¬ r8 = 0 → wX12_under_30 K_101 Q n M7 x1 x2 x3 x5 (x5 + (1 : Int32)))))))))
def wX12_under (M : sy_M) (a1 : Int32) (a2 : Int32) (Q : Int32 → sy_M → Prop) : Prop := ((¬ (M 0 40) = 0 → wX12_rowOf (mu M 0 0 (0 : Int32)) ((M 0 40) - (1 : Int32)) (fun r3 M2 => ∃ n26 : Nat, wX12_under_30 (fun (M10 : sy_M) (x1_11 : Int32) (x2_12 : Int32) (x4_13 : Int32) => ((x4_13 = (-1 : Int32) → Q x4_13 M10) ∧ (¬ x4_13 = (-1 : Int32) → ∃ n15 : Nat, n15 < 82 ∧ x4_13 = nI n15 ∧ (((M10 3 n15) = 0 → Q x4_13 M10) ∧ (¬ (M10 3 n15) = 0 → n15 < 41 ∧ (((M10 34 n15) ≤ 0 → Q x4_13 M10) ∧ (¬ (M10 34 n15) ≤ 0 → n15 < 41 ∧ n15 < 41 ∧ n15 < 41 ∧ n15 < 41 ∧ wX12_isIn M10 x1_11 x2_12 (M10 36 n15) (M10 37 n15) (M10 38 n15) (M10 39 n15) (fun r24 M23 => ((r24 = 0 → Q x4_13 M23) ∧ (¬ r24 = 0 → Q ((nI 100) + x4_13) M23)))))))))) Q n26 M2 a1 a2 r3 (-1 : Int32) (0 : Int32))) ∧ ((M 0 40) = 0 → Q (-1 : Int32) (mu M 0 0 (0 : Int32))))
section
variable {p : Program} {l : Launch} {e : Env} {s : State} {m : MethodId} {args : Array Value} {below : List Frame} {meth : Method} {c : Code} {Y : sy_Y}
set_option maxHeartbeats 4000000 in
set_option maxRecDepth 100000 in
theorem kX12_under_30 (C : sy_C p m c cX12_under 7 s args vsX12_under RX12 meth (some .int) Y NZ tfZ) {Q : Int32 → sy_M → Prop} {K_101 : sy_M → Int32 → Int32 → Int32 → Prop} (hK_101 : ∀ (M : sy_M) (x1 : Int32) (x2 : Int32) (x4 : Int32) (H : Heap) (locs : List Loc) (ls : Array Slot), K_101 M x1 x2 x4 → sy_H Y NZ EZ s H locs M → lv_has ls 7 [(0, .ref (Y.2.1 0)), (1, .int x1), (2, .int x2), (4, .int x4)] → W p l e ({ frames := 1, cells := 0, slots := 0, locals := 25 } : Room) s m args below meth c H locs 0 0 (sy_ZI below args s Y NZ EZ Q) (F0 m 101 ls [])) :
    ∀ (n : Nat) (M : sy_M) (x1 : Int32) (x2 : Int32) (x3 : Int32) (x4 : Int32) (x5 : Int32) (H : Heap) (locs : List Loc) (ls : Array Slot), wX12_under_30 K_101 Q n M x1 x2 x3 x4 x5 → sy_H Y NZ EZ s H locs M → lv_has ls 7 [(0, .ref (Y.2.1 0)), (1, .int x1), (2, .int x2), (3, .int x3), (4, .int x4), (5, .int x5)] → W p l e ({ frames := 1, cells := 0, slots := 0, locals := 25 } : Room) s m args below meth c H locs 0 0 (sy_ZI below args s Y NZ EZ Q) (F0 m 30 ls []) := by
  have hx := C.1.1
  have hb := C.1.2.1
  intro n
  induction n with
  | zero =>
    intro M x1 x2 x3 x4 x5 H locs ls hq hh hl
    unfold wX12_under_30 at hq
    exact hq.elim
  | succ n ih =>
    intro M x1 x2 x3 x4 x5 H locs ls hq hh hl
    unfold wX12_under_30 at hq
    refine lv_iload hx hb dX12_under_30 (lv_at hl 5 rfl) ?_
    refine lv_aload_n hx hb dX12_under_32 rfl (lv_at hl 0 rfl) ?_
    refine sy_get C hh (fun w h => mc (uZ_fX12 w h)) 0 (by decide) (oZ_0 Y) rfl 13 (by decide) (index := 243) (mc uZ_175) (v := .int (M 0 13)) rfl dX12_under_33 ?_
    refine lv_icmp_ge (tgt := 101) hx hb dX12_under_36 (by decide) (fun c4 => ?_) (fun c4 => ?_)
    · have hq := hq.1 c4
      exact hK_101 M x1 x2 x4 _ _ _ hq hh (lv_sub hl [0, 1, 2, 4] rfl)
    · have hq := hq.2 c4
      refine lv_iload_n hx hb dX12_under_39 rfl (lv_at hl 3 rfl) ?_
      refine lv_iload hx hb dX12_under_40 (lv_at hl 5 rfl) ?_
      refine lv_iadd hx hb dX12_under_42 ?_
      refine lv_istore (lv' := [(6, .int (x3 + x5)), (0, .ref (Y.2.1 0)), (1, .int x1), (2, .int x2), (3, .int x3), (4, .int x4), (5, .int x5)]) hx hb dX12_under_43 hl (by decide) rfl (fun ls hl => ?_)
      refine lv_aload_n hx hb dX12_under_45 rfl (lv_at hl 1 rfl) ?_
      refine sy_get C hh (fun w h => mc (uZ_fX12 w h)) 0 (by decide) (oZ_0 Y) rfl 42 (by decide) (index := 100) (mc uZ_37) (v := .ref (Y.2.1 26)) rfl dX12_under_46 ?_
      refine lv_iload hx hb dX12_under_49 (lv_at hl 0 rfl) ?_
      obtain ⟨n5, hn5, en5, hq⟩ := hq
      refine sy_zald C hh 26 (by decide) (aZ_26 Y) tZ_26 hn5 en5 (by decide) dX12_under_51 ?_
      refine lv_if_eq (tgt := 95) hx hb dX12_under_52 (by decide) (fun c6 => ?_) (fun c6 => ?_)
      · have hq := hq.1 c6
        refine lv_iinc (v := (x5 + (1 : Int32))) (lv' := [(5, .int (x5 + (1 : Int32))), (6, .int (x3 + x5)), (0, .ref (Y.2.1 0)), (1, .int x1), (2, .int x2), (3, .int x3), (4, .int x4)]) hx hb dX12_under_95 hl (k := 6) rfl (sy_inc (by decide)) (by decide) rfl (fun ls hl => ?_)
        refine lv_goto (tgt := 30) hx hb dX12_under_98 (by decide) ?_
        exact ih M x1 x2 x3 x4 (x5 + (1 : Int32)) _ _ _ hq hh (lv_sub hl [2, 3, 4, 5, 6, 0] rfl)
      · have hq := hq.2 c6
        refine lv_iload_n hx hb dX12_under_55 rfl (lv_at hl 2 rfl) ?_
        refine lv_iload_n hx hb dX12_under_56 rfl (lv_at hl 3 rfl) ?_
        refine lv_aload_n hx hb dX12_under_57 rfl (lv_at hl 1 rfl) ?_
        refine sy_get C hh (fun w h => mc (uZ_fX12 w h)) 0 (by decide) (oZ_0 Y) rfl 43 (by decide) (index := 103) (mc uZ_38) (v := .ref (Y.2.1 27)) rfl dX12_under_58 ?_
        refine lv_iload hx hb dX12_under_61 (lv_at hl 0 rfl) ?_
        refine sy_iald C hh 27 (by decide) (aZ_27 Y) tZ_27 hn5 en5 (by decide) dX12_under_63 ?_
        refine lv_aload_n hx hb dX12_under_64 rfl (lv_at hl 1 rfl) ?_
        refine sy_get C hh (fun w h => mc (uZ_fX12 w h)) 0 (by decide) (oZ_0 Y) rfl 44 (by decide) (index := 106) (mc uZ_39) (v := .ref (Y.2.1 28)) rfl dX12_under_65 ?_
        refine lv_iload hx hb dX12_under_68 (lv_at hl 0 rfl) ?_
        refine sy_iald C hh 28 (by decide) (aZ_28 Y) tZ_28 hn5 en5 (by decide) dX12_under_70 ?_
        refine lv_aload_n hx hb dX12_under_71 rfl (lv_at hl 1 rfl) ?_
        refine sy_get C hh (fun w h => mc (uZ_fX12 w h)) 0 (by decide) (oZ_0 Y) rfl 45 (by decide) (index := 109) (mc uZ_40) (v := .ref (Y.2.1 29)) rfl dX12_under_72 ?_
        refine lv_iload hx hb dX12_under_75 (lv_at hl 0 rfl) ?_
        refine sy_iald C hh 29 (by decide) (aZ_29 Y) tZ_29 hn5 en5 (by decide) dX12_under_77 ?_
        refine lv_aload_n hx hb dX12_under_78 rfl (lv_at hl 1 rfl) ?_
        refine sy_get C hh (fun w h => mc (uZ_fX12 w h)) 0 (by decide) (oZ_0 Y) rfl 46 (by decide) (index := 112) (mc uZ_41) (v := .ref (Y.2.1 30)) rfl dX12_under_79 ?_
        refine lv_iload hx hb dX12_under_82 (lv_at hl 0 rfl) ?_
        refine sy_iald C hh 30 (by decide) (aZ_30 Y) tZ_30 hn5 en5 (by decide) dX12_under_84 ?_
        refine sy_cIS C hh (As := [.int x1, .int x2, .int (M 27 n5), .int (M 28 n5), .int (M 29 n5), .int (M 30 n5)]) (rest := []) (mX12_isIn l Y _ M x1 x2 (M 27 n5) (M 28 n5) (M 29 n5) (M 30 n5) _ hq) (va_cwS 6 C.1.2.2.2.2 (sy_goodS uZ_good uZ_304 uZ_305 uZ_55 uZ_302 _) rfl rfl rfl hdX12_isIn.2 ⟨Nat.le_of_ble_eq_true rfl, Nat.le_of_ble_eq_true rfl⟩) rfl hl.1 rfl (Nat.le_of_ble_eq_true rfl) dX12_under_85 (fun r8 M7 H locs hq hh => ?_)
        refine lv_if_eq (tgt := 95) hx hb dX12_under_88 (by decide) (fun c9 => ?_) (fun c9 => ?_)
        · have hq := hq.1 c9
          refine lv_iinc (v := (x5 + (1 : Int32))) (lv' := [(5, .int (x5 + (1 : Int32))), (6, .int (x3 + x5)), (0, .ref (Y.2.1 0)), (1, .int x1), (2, .int x2), (3, .int x3), (4, .int x4)]) hx hb dX12_under_95 hl (k := 6) rfl (sy_inc (by decide)) (by decide) rfl (fun ls hl => ?_)
          refine lv_goto (tgt := 30) hx hb dX12_under_98 (by decide) ?_
          exact ih M7 x1 x2 x3 x4 (x5 + (1 : Int32)) _ _ _ hq hh (lv_sub hl [2, 3, 4, 5, 6, 0] rfl)
        · have hq := hq.2 c9
          refine lv_iload hx hb dX12_under_91 (lv_at hl 6 rfl) ?_
          refine lv_istore (lv' := [(4, .int x5), (6, .int (x3 + x5)), (0, .ref (Y.2.1 0)), (1, .int x1), (2, .int x2), (3, .int x3), (5, .int x5)]) hx hb dX12_under_93 hl (by decide) rfl (fun ls hl => ?_)
          refine lv_iinc (v := (x5 + (1 : Int32))) (lv' := [(5, .int (x5 + (1 : Int32))), (4, .int x5), (6, .int (x3 + x5)), (0, .ref (Y.2.1 0)), (1, .int x1), (2, .int x2), (3, .int x3)]) hx hb dX12_under_95 hl (k := 6) rfl (sy_inc (by decide)) (by decide) rfl (fun ls hl => ?_)
          refine lv_goto (tgt := 30) hx hb dX12_under_98 (by decide) ?_
          exact ih M7 x1 x2 x3 x5 (x5 + (1 : Int32)) _ _ _ hq hh (lv_sub hl [3, 4, 5, 6, 1, 0] rfl)

end
set_option maxHeartbeats 4000000 in
set_option maxRecDepth 100000 in
theorem mX12_under (l : Launch) (Y : sy_Y) (sz : Nat) (M : sy_M) (a1 : Int32) (a2 : Int32) (Q : Int32 → sy_M → Prop) (hq : wX12_under M a1 a2 Q) : Met l yX12_under vsX12_under ({ frames := 1, cells := 0, slots := 0, locals := 25 } : Room) (va_Pc [.ref (Y.2.1 0), .int a1, .int a2] (sy_pre Y NZ EZ tfZ sz M)) (sy_QI Y NZ EZ sz Q) 0 0 (sy_A NZ Y.2.1 sz) := by
  refine sy_metI (by decide) rfl (Nat.le_of_ble_eq_true rfl) ?_
  intro p e s m args below meth c C ls hl hh
  have hx := C.1.1
  have hb := C.1.2.1
  have hl : lv_has ls 7 [(0, .ref (Y.2.1 0)), (1, .int a1), (2, .int a2)] := hl
  unfold wX12_under at hq
  refine lv_aload_n hx hb dX12_under_0 rfl (lv_at hl 0 rfl) ?_
  refine lv_iconst (v := (0 : Int32)) hx hb dX12_under_1 (by decide) ?_
  refine sy_put C hh (fun w h => mc (uZ_fX12 w h)) tyX12 tyX12_ok nmX12 0 (by decide) (oZ_0 Y) rfl 0 (by decide) (index := 1) (mc uZ_1) rfl 0 (0 : Int32) (ty := .int) (tyX12_ok 0 (by decide)) rfl rfl (Nat.le_of_ble_eq_true rfl) (pX12_0 Y _ _ _) dX12_under_2 (fun H locs hh => ?_)
  refine lv_aload_n hx hb dX12_under_5 rfl (lv_at hl 0 rfl) ?_
  refine sy_get C hh (fun w h => mc (uZ_fX12 w h)) 0 (by decide) (oZ_0 Y) rfl 40 (by decide) (index := 249) (mc uZ_177) (v := .int (M 0 40)) rfl dX12_under_6 ?_
  refine lv_if_ne (tgt := 14) hx hb dX12_under_9 (by decide) (fun c1 => ?_) (fun c1 => ?_)
  · have hq := hq.1 c1
    refine lv_aload_n hx hb dX12_under_14 rfl (lv_at hl 0 rfl) ?_
    refine sy_get C hh (fun w h => mc (uZ_fX12 w h)) 0 (by decide) (oZ_0 Y) rfl 40 (by decide) (index := 249) (mc uZ_177) (v := .int (M 0 40)) rfl dX12_under_15 ?_
    refine lv_iconst (v := (1 : Int32)) hx hb dX12_under_18 (by decide) ?_
    refine lv_isub hx hb dX12_under_19 ?_
    refine sy_cIS C hh (As := [.int ((M 0 40) - (1 : Int32))]) (rest := []) (mX12_rowOf l Y _ (mu M 0 0 (0 : Int32)) ((M 0 40) - (1 : Int32)) _ hq) (va_cwS 1 C.1.2.2.2.2 (sy_goodS uZ_good uZ_271 uZ_272 uZ_55 uZ_265 _) rfl rfl rfl hdX12_rowOf.2 ⟨Nat.le_of_ble_eq_true rfl, Nat.le_of_ble_eq_true rfl⟩) rfl hl.1 rfl (Nat.le_of_ble_eq_true rfl) dX12_under_20 (fun r3 M2 H locs hq hh => ?_)
    refine lv_istore_n (lv' := [(3, .int r3), (0, .ref (Y.2.1 0)), (1, .int a1), (2, .int a2)]) hx hb dX12_under_23 rfl hl (by decide) rfl (fun ls hl => ?_)
    refine lv_iconst (v := (-1 : Int32)) hx hb dX12_under_24 (by decide) ?_
    refine lv_istore (lv' := [(4, .int (-1 : Int32)), (3, .int r3), (0, .ref (Y.2.1 0)), (1, .int a1), (2, .int a2)]) hx hb dX12_under_25 hl (by decide) rfl (fun ls hl => ?_)
    refine lv_iconst (v := (0 : Int32)) hx hb dX12_under_27 (by decide) ?_
    refine lv_istore (lv' := [(5, .int (0 : Int32)), (4, .int (-1 : Int32)), (3, .int r3), (0, .ref (Y.2.1 0)), (1, .int a1), (2, .int a2)]) hx hb dX12_under_28 hl (by decide) rfl (fun ls hl => ?_)
    obtain ⟨n26, hq⟩ := hq
    refine kX12_under_30 C (fun M10 x1_11 x2_12 x4_13 H locs ls hq hh hl => ?_) n26 M2 a1 a2 r3 (-1 : Int32) (0 : Int32) _ _ _ hq hh (lv_sub hl [3, 4, 5, 2, 1, 0] rfl)
    · refine lv_iload hx hb dX12_under_101 (lv_at hl 3 rfl) ?_
      refine lv_iconst (v := (-1 : Int32)) hx hb dX12_under_103 (by decide) ?_
      refine lv_icmp_eq (tgt := 169) hx hb dX12_under_104 (by decide) (fun c14 => ?_) (fun c14 => ?_)
      · have hq := hq.1 c14
        refine lv_iload hx hb dX12_under_169 (lv_at hl 3 rfl) ?_
        exact sy_iret C hh dX12_under_171 hq
      · have hq := hq.2 c14
        refine lv_aload_n hx hb dX12_under_107 rfl (lv_at hl 0 rfl) ?_
        refine sy_get C hh (fun w h => mc (uZ_fX12 w h)) 0 (by decide) (oZ_0 Y) rfl 16 (by decide) (index := 30) (mc uZ_14) (v := .ref (Y.2.1 3)) rfl dX12_under_108 ?_
        refine lv_iload hx hb dX12_under_111 (lv_at hl 3 rfl) ?_
        obtain ⟨n15, hn15, en15, hq⟩ := hq
        refine sy_zald C hh 3 (by decide) (aZ_3 Y) tZ_3 hn15 en15 (by decide) dX12_under_113 ?_
        refine lv_if_eq (tgt := 169) hx hb dX12_under_114 (by decide) (fun c16 => ?_) (fun c16 => ?_)
        · have hq := hq.1 c16
          refine lv_iload hx hb dX12_under_169 (lv_at hl 3 rfl) ?_
          exact sy_iret C hh dX12_under_171 hq
        · have hq := hq.2 c16
          refine lv_aload_n hx hb dX12_under_117 rfl (lv_at hl 0 rfl) ?_
          refine sy_get C hh (fun w h => mc (uZ_fX12 w h)) 0 (by decide) (oZ_0 Y) rfl 50 (by decide) (index := 124) (mc uZ_45) (v := .ref (Y.2.1 34)) rfl dX12_under_118 ?_
          refine lv_iload hx hb dX12_under_121 (lv_at hl 3 rfl) ?_
          obtain ⟨b17, hq⟩ := hq
          refine sy_iald C hh 34 (by decide) (aZ_34 Y) tZ_34 b17 en15 (by decide) dX12_under_123 ?_
          refine lv_if_le (tgt := 169) hx hb dX12_under_124 (by decide) (fun c18 => ?_) (fun c18 => ?_)
          · have hq := hq.1 c18
            refine lv_iload hx hb dX12_under_169 (lv_at hl 3 rfl) ?_
            exact sy_iret C hh dX12_under_171 hq
          · have hq := hq.2 c18
            refine lv_iload_n hx hb dX12_under_127 rfl (lv_at hl 1 rfl) ?_
            refine lv_iload_n hx hb dX12_under_128 rfl (lv_at hl 2 rfl) ?_
            refine lv_aload_n hx hb dX12_under_129 rfl (lv_at hl 0 rfl) ?_
            refine sy_get C hh (fun w h => mc (uZ_fX12 w h)) 0 (by decide) (oZ_0 Y) rfl 52 (by decide) (index := 130) (mc uZ_47) (v := .ref (Y.2.1 36)) rfl dX12_under_130 ?_
            refine lv_iload hx hb dX12_under_133 (lv_at hl 3 rfl) ?_
            obtain ⟨b19, hq⟩ := hq
            refine sy_iald C hh 36 (by decide) (aZ_36 Y) tZ_36 b19 en15 (by decide) dX12_under_135 ?_
            refine lv_aload_n hx hb dX12_under_136 rfl (lv_at hl 0 rfl) ?_
            refine sy_get C hh (fun w h => mc (uZ_fX12 w h)) 0 (by decide) (oZ_0 Y) rfl 53 (by decide) (index := 133) (mc uZ_48) (v := .ref (Y.2.1 37)) rfl dX12_under_137 ?_
            refine lv_iload hx hb dX12_under_140 (lv_at hl 3 rfl) ?_
            obtain ⟨b20, hq⟩ := hq
            refine sy_iald C hh 37 (by decide) (aZ_37 Y) tZ_37 b20 en15 (by decide) dX12_under_142 ?_
            refine lv_aload_n hx hb dX12_under_143 rfl (lv_at hl 0 rfl) ?_
            refine sy_get C hh (fun w h => mc (uZ_fX12 w h)) 0 (by decide) (oZ_0 Y) rfl 54 (by decide) (index := 136) (mc uZ_49) (v := .ref (Y.2.1 38)) rfl dX12_under_144 ?_
            refine lv_iload hx hb dX12_under_147 (lv_at hl 3 rfl) ?_
            obtain ⟨b21, hq⟩ := hq
            refine sy_iald C hh 38 (by decide) (aZ_38 Y) tZ_38 b21 en15 (by decide) dX12_under_149 ?_
            refine lv_aload_n hx hb dX12_under_150 rfl (lv_at hl 0 rfl) ?_
            refine sy_get C hh (fun w h => mc (uZ_fX12 w h)) 0 (by decide) (oZ_0 Y) rfl 55 (by decide) (index := 139) (mc uZ_50) (v := .ref (Y.2.1 39)) rfl dX12_under_151 ?_
            refine lv_iload hx hb dX12_under_154 (lv_at hl 3 rfl) ?_
            obtain ⟨b22, hq⟩ := hq
            refine sy_iald C hh 39 (by decide) (aZ_39 Y) tZ_39 b22 en15 (by decide) dX12_under_156 ?_
            refine sy_cIS C hh (As := [.int x1_11, .int x2_12, .int (M10 36 n15), .int (M10 37 n15), .int (M10 38 n15), .int (M10 39 n15)]) (rest := []) (mX12_isIn l Y _ M10 x1_11 x2_12 (M10 36 n15) (M10 37 n15) (M10 38 n15) (M10 39 n15) _ hq) (va_cwS 6 C.1.2.2.2.2 (sy_goodS uZ_good uZ_304 uZ_305 uZ_55 uZ_302 _) rfl rfl rfl hdX12_isIn.2 ⟨Nat.le_of_ble_eq_true rfl, Nat.le_of_ble_eq_true rfl⟩) rfl hl.1 rfl (Nat.le_of_ble_eq_true rfl) dX12_under_157 (fun r24 M23 H locs hq hh => ?_)
            refine lv_if_eq (tgt := 169) hx hb dX12_under_160 (by decide) (fun c25 => ?_) (fun c25 => ?_)
            · have hq := hq.1 c25
              refine lv_iload hx hb dX12_under_169 (lv_at hl 3 rfl) ?_
              exact sy_iret C hh dX12_under_171 hq
            · have hq := hq.2 c25
              refine lv_bipush (v := (nI 100)) hx hb dX12_under_163 (by decide) ?_
              refine lv_iload hx hb dX12_under_165 (lv_at hl 3 rfl) ?_
              refine lv_iadd hx hb dX12_under_167 ?_
              exact sy_iret C hh dX12_under_168 hq
  · have hq := hq.2 c1
    refine lv_iconst (v := (-1 : Int32)) hx hb dX12_under_12 (by decide) ?_
    exact sy_iret C hh dX12_under_13 hq

/-! AreaSetterModel.letters(I)I -/
def wX12_letters (M : sy_M) (a1 : Int32) (Q : Int32 → sy_M → Prop) : Prop := wX12_isDrawn (mu M 0 0 (0 : Int32)) a1 (fun r2 M1 => ((¬ r2 = 0 → wX12_rowOf M1 ((M1 0 40) - (1 : Int32)) (fun r5 M4 => ∃ n6 : Nat, n6 < 2091 ∧ (r5 + a1) = nI n6 ∧ (((M4 26 n6) = 0 → Q (0 : Int32) M4) ∧ (¬ (M4 26 n6) = 0 → (((M4 30 n6) < (nI 10) → Q (0 : Int32) M4) ∧ (¬ (M4 30 n6) < (nI 10) → (((nI 2) ≤ (M4 29 n6) → ∃ n10 : Nat, n10 < 82 ∧ a1 = nI n10 ∧ Q (imin (M4 9 n10) (((M4 29 n6) - (nI 2)) / (nI 6))) M4) ∧ (¬ (nI 2) ≤ (M4 29 n6) → Q (0 : Int32) M4)))))))) ∧ (r2 = 0 → Q (-1 : Int32) M1)))
section
variable {p : Program} {l : Launch} {e : Env} {s : State} {m : MethodId} {args : Array Value} {below : List Frame} {meth : Method} {c : Code} {Y : sy_Y}
end
set_option maxHeartbeats 4000000 in
set_option maxRecDepth 100000 in
theorem mX12_letters (l : Launch) (Y : sy_Y) (sz : Nat) (M : sy_M) (a1 : Int32) (Q : Int32 → sy_M → Prop) (hq : wX12_letters M a1 Q) : Met l yX12_letters vsX12_letters ({ frames := 2, cells := 0, slots := 0, locals := 42 } : Room) (va_Pc [.ref (Y.2.1 0), .int a1] (sy_pre Y NZ EZ tfZ sz M)) (sy_QI Y NZ EZ sz Q) 0 0 (sy_A NZ Y.2.1 sz) := by
  refine sy_metI (by decide) rfl (Nat.le_of_ble_eq_true rfl) ?_
  intro p e s m args below meth c C ls hl hh
  have hx := C.1.1
  have hb := C.1.2.1
  have hl : lv_has ls 3 [(0, .ref (Y.2.1 0)), (1, .int a1)] := hl
  unfold wX12_letters at hq
  refine lv_aload_n hx hb dX12_letters_0 rfl (lv_at hl 0 rfl) ?_
  refine lv_iconst (v := (0 : Int32)) hx hb dX12_letters_1 (by decide) ?_
  refine sy_put C hh (fun w h => mc (uZ_fX12 w h)) tyX12 tyX12_ok nmX12 0 (by decide) (oZ_0 Y) rfl 0 (by decide) (index := 1) (mc uZ_1) rfl 0 (0 : Int32) (ty := .int) (tyX12_ok 0 (by decide)) rfl rfl (Nat.le_of_ble_eq_true rfl) (pX12_0 Y _ _ _) dX12_letters_2 (fun H locs hh => ?_)
  refine lv_aload_n hx hb dX12_letters_5 rfl (lv_at hl 0 rfl) ?_
  refine lv_iload_n hx hb dX12_letters_6 rfl (lv_at hl 1 rfl) ?_
  refine sy_cIV C hh (As := [.int a1]) (rest := []) 0 (by decide) (oZ_0 Y) rfl (mX12_isDrawn l Y _ (mu M 0 0 (0 : Int32)) a1 _ hq) (cwV 1 C.1.2.2.2.2 (sy_goodV uZ_good uZ_297 uZ_298 uZ_299 uZ_55 uZ_296 _) rfl rfl rfl hdX12_isDrawn ⟨Nat.le_of_ble_eq_true rfl, Nat.le_of_ble_eq_true rfl⟩) rfl hl.1 rfl (Nat.le_of_ble_eq_true rfl) dX12_letters_7 (fun r2 M1 H locs hq hh => ?_)
  refine lv_if_ne (tgt := 15) hx hb dX12_letters_10 (by decide) (fun c3 => ?_) (fun c3 => ?_)
  · have hq := hq.1 c3
    refine lv_aload_n hx hb dX12_letters_15 rfl (lv_at hl 0 rfl) ?_
    refine sy_get C hh (fun w h => mc (uZ_fX12 w h)) 0 (by decide) (oZ_0 Y) rfl 40 (by decide) (index := 249) (mc uZ_177) (v := .int (M1 0 40)) rfl dX12_letters_16 ?_
    refine lv_iconst (v := (1 : Int32)) hx hb dX12_letters_19 (by decide) ?_
    refine lv_isub hx hb dX12_letters_20 ?_
    refine sy_cIS C hh (As := [.int ((M1 0 40) - (1 : Int32))]) (rest := []) (mX12_rowOf l Y _ M1 ((M1 0 40) - (1 : Int32)) _ hq) (va_cwS 1 C.1.2.2.2.2 (sy_goodS uZ_good uZ_271 uZ_272 uZ_55 uZ_265 _) rfl rfl rfl hdX12_rowOf.2 ⟨Nat.le_of_ble_eq_true rfl, Nat.le_of_ble_eq_true rfl⟩) rfl hl.1 rfl (Nat.le_of_ble_eq_true rfl) dX12_letters_21 (fun r5 M4 H locs hq hh => ?_)
    refine lv_iload_n hx hb dX12_letters_24 rfl (lv_at hl 1 rfl) ?_
    refine lv_iadd hx hb dX12_letters_25 ?_
    refine lv_istore_n (lv' := [(2, .int (r5 + a1)), (0, .ref (Y.2.1 0)), (1, .int a1)]) hx hb dX12_letters_26 rfl hl (by decide) rfl (fun ls hl => ?_)
    refine lv_aload_n hx hb dX12_letters_27 rfl (lv_at hl 1 rfl) ?_
    refine sy_get C hh (fun w h => mc (uZ_fX12 w h)) 0 (by decide) (oZ_0 Y) rfl 42 (by decide) (index := 100) (mc uZ_37) (v := .ref (Y.2.1 26)) rfl dX12_letters_28 ?_
    refine lv_iload_n hx hb dX12_letters_31 rfl (lv_at hl 0 rfl) ?_
    obtain ⟨n6, hn6, en6, hq⟩ := hq
    refine sy_zald C hh 26 (by decide) (aZ_26 Y) tZ_26 hn6 en6 (by decide) dX12_letters_32 ?_
    refine lv_if_eq (tgt := 57) hx hb dX12_letters_33 (by decide) (fun c7 => ?_) (fun c7 => ?_)
    · have hq := hq.1 c7
      refine lv_iconst (v := (0 : Int32)) hx hb dX12_letters_57 (by decide) ?_
      exact sy_iret C hh dX12_letters_58 hq
    · have hq := hq.2 c7
      refine lv_aload_n hx hb dX12_letters_36 rfl (lv_at hl 1 rfl) ?_
      refine sy_get C hh (fun w h => mc (uZ_fX12 w h)) 0 (by decide) (oZ_0 Y) rfl 46 (by decide) (index := 112) (mc uZ_41) (v := .ref (Y.2.1 30)) rfl dX12_letters_37 ?_
      refine lv_iload_n hx hb dX12_letters_40 rfl (lv_at hl 0 rfl) ?_
      refine sy_iald C hh 30 (by decide) (aZ_30 Y) tZ_30 hn6 en6 (by decide) dX12_letters_41 ?_
      refine lv_bipush (v := (nI 10)) hx hb dX12_letters_42 (by decide) ?_
      refine lv_icmp_lt (tgt := 57) hx hb dX12_letters_44 (by decide) (fun c8 => ?_) (fun c8 => ?_)
      · have hq := hq.1 c8
        refine lv_iconst (v := (0 : Int32)) hx hb dX12_letters_57 (by decide) ?_
        exact sy_iret C hh dX12_letters_58 hq
      · have hq := hq.2 c8
        refine lv_aload_n hx hb dX12_letters_47 rfl (lv_at hl 1 rfl) ?_
        refine sy_get C hh (fun w h => mc (uZ_fX12 w h)) 0 (by decide) (oZ_0 Y) rfl 45 (by decide) (index := 109) (mc uZ_40) (v := .ref (Y.2.1 29)) rfl dX12_letters_48 ?_
        refine lv_iload_n hx hb dX12_letters_51 rfl (lv_at hl 0 rfl) ?_
        refine sy_iald C hh 29 (by decide) (aZ_29 Y) tZ_29 hn6 en6 (by decide) dX12_letters_52 ?_
        refine lv_iconst (v := (nI 2)) hx hb dX12_letters_53 (by decide) ?_
        refine lv_icmp_ge (tgt := 59) hx hb dX12_letters_54 (by decide) (fun c9 => ?_) (fun c9 => ?_)
        · have hq := hq.1 c9
          refine lv_aload_n hx hb dX12_letters_59 rfl (lv_at hl 1 rfl) ?_
          refine sy_get C hh (fun w h => mc (uZ_fX12 w h)) 0 (by decide) (oZ_0 Y) rfl 22 (by decide) (index := 49) (mc uZ_20) (v := .ref (Y.2.1 9)) rfl dX12_letters_60 ?_
          refine lv_iload_n hx hb dX12_letters_63 rfl (lv_at hl 2 rfl) ?_
          obtain ⟨n10, hn10, en10, hq⟩ := hq
          refine sy_iald C hh 9 (by decide) (aZ_9 Y) tZ_9 hn10 en10 (by decide) dX12_letters_64 ?_
          refine lv_aload_n hx hb dX12_letters_65 rfl (lv_at hl 1 rfl) ?_
          refine sy_get C hh (fun w h => mc (uZ_fX12 w h)) 0 (by decide) (oZ_0 Y) rfl 45 (by decide) (index := 109) (mc uZ_40) (v := .ref (Y.2.1 29)) rfl dX12_letters_66 ?_
          refine lv_iload_n hx hb dX12_letters_69 rfl (lv_at hl 0 rfl) ?_
          refine sy_iald C hh 29 (by decide) (aZ_29 Y) tZ_29 hn6 en6 (by decide) dX12_letters_70 ?_
          refine lv_iconst (v := (nI 2)) hx hb dX12_letters_71 (by decide) ?_
          refine lv_isub hx hb dX12_letters_72 ?_
          refine lv_bipush (v := (nI 6)) hx hb dX12_letters_73 (by decide) ?_
          refine lv_idiv hx hb dX12_letters_75 (by decide) ?_
          refine sy_mmin C hl (index := 304) (mc uZ_244) (mc uZ_245) (mc uZ_198) (mc uZ_246) (by decide) (Nat.le_of_ble_eq_true rfl) dX12_letters_76 ?_
          exact sy_iret C hh dX12_letters_79 hq
        · have hq := hq.2 c9
          refine lv_iconst (v := (0 : Int32)) hx hb dX12_letters_57 (by decide) ?_
          exact sy_iret C hh dX12_letters_58 hq
  · have hq := hq.2 c3
    refine lv_iconst (v := (-1 : Int32)) hx hb dX12_letters_13 (by decide) ?_
    exact sy_iret C hh dX12_letters_14 hq

/-! AreaSetterModel.moved(I)I -/
def wX12_moved (M : sy_M) (a1 : Int32) (Q : Int32 → sy_M → Prop) : Prop := (((M 0 40) < (nI 2) → Q (-1 : Int32) (mu M 0 0 (0 : Int32))) ∧ (¬ (M 0 40) < (nI 2) → wX12_isBox (mu M 0 0 (0 : Int32)) a1 (fun r3 M2 => ((¬ r3 = 0 → wX12_rowOf M2 ((M2 0 40) - (1 : Int32)) (fun r6 M5 => wX12_rowOf M5 ((M5 0 40) - (nI 2)) (fun r8 M7 => ∃ n9 : Nat, n9 < 2091 ∧ (r6 + a1) = nI n9 ∧ (((M7 26 n9) = 0 → Q (-1 : Int32) M7) ∧ (¬ (M7 26 n9) = 0 → ∃ n11 : Nat, n11 < 2091 ∧ (r8 + a1) = nI n11 ∧ (((M7 26 n11) = 0 → Q (-1 : Int32) M7) ∧ (¬ (M7 26 n11) = 0 → wX12_far M7 r8 a1 (M7 27 n9) (M7 28 n9) (M7 29 n9) (M7 30 n9) (fun r14 M13 => Q r14 M13)))))))) ∧ (r3 = 0 → Q (-1 : Int32) M2)))))
section
variable {p : Program} {l : Launch} {e : Env} {s : State} {m : MethodId} {args : Array Value} {below : List Frame} {meth : Method} {c : Code} {Y : sy_Y}
end
set_option maxHeartbeats 4000000 in
set_option maxRecDepth 100000 in
theorem mX12_moved (l : Launch) (Y : sy_Y) (sz : Nat) (M : sy_M) (a1 : Int32) (Q : Int32 → sy_M → Prop) (hq : wX12_moved M a1 Q) : Met l yX12_moved vsX12_moved ({ frames := 2, cells := 0, slots := 0, locals := 47 } : Room) (va_Pc [.ref (Y.2.1 0), .int a1] (sy_pre Y NZ EZ tfZ sz M)) (sy_QI Y NZ EZ sz Q) 0 0 (sy_A NZ Y.2.1 sz) := by
  refine sy_metI (by decide) rfl (Nat.le_of_ble_eq_true rfl) ?_
  intro p e s m args below meth c C ls hl hh
  have hx := C.1.1
  have hb := C.1.2.1
  have hl : lv_has ls 4 [(0, .ref (Y.2.1 0)), (1, .int a1)] := hl
  unfold wX12_moved at hq
  refine lv_aload_n hx hb dX12_moved_0 rfl (lv_at hl 0 rfl) ?_
  refine lv_iconst (v := (0 : Int32)) hx hb dX12_moved_1 (by decide) ?_
  refine sy_put C hh (fun w h => mc (uZ_fX12 w h)) tyX12 tyX12_ok nmX12 0 (by decide) (oZ_0 Y) rfl 0 (by decide) (index := 1) (mc uZ_1) rfl 0 (0 : Int32) (ty := .int) (tyX12_ok 0 (by decide)) rfl rfl (Nat.le_of_ble_eq_true rfl) (pX12_0 Y _ _ _) dX12_moved_2 (fun H locs hh => ?_)
  refine lv_aload_n hx hb dX12_moved_5 rfl (lv_at hl 0 rfl) ?_
  refine sy_get C hh (fun w h => mc (uZ_fX12 w h)) 0 (by decide) (oZ_0 Y) rfl 40 (by decide) (index := 249) (mc uZ_177) (v := .int (M 0 40)) rfl dX12_moved_6 ?_
  refine lv_iconst (v := (nI 2)) hx hb dX12_moved_9 (by decide) ?_
  refine lv_icmp_lt (tgt := 21) hx hb dX12_moved_10 (by decide) (fun c1 => ?_) (fun c1 => ?_)
  · have hq := hq.1 c1
    refine lv_iconst (v := (-1 : Int32)) hx hb dX12_moved_21 (by decide) ?_
    exact sy_iret C hh dX12_moved_22 hq
  · have hq := hq.2 c1
    refine lv_aload_n hx hb dX12_moved_13 rfl (lv_at hl 0 rfl) ?_
    refine lv_iload_n hx hb dX12_moved_14 rfl (lv_at hl 1 rfl) ?_
    refine sy_cIV C hh (As := [.int a1]) (rest := []) 0 (by decide) (oZ_0 Y) rfl (mX12_isBox l Y _ (mu M 0 0 (0 : Int32)) a1 _ hq) (cwV 1 C.1.2.2.2.2 (sy_goodV uZ_good uZ_183 uZ_184 uZ_185 uZ_55 uZ_180 _) rfl rfl rfl hdX12_isBox ⟨Nat.le_of_ble_eq_true rfl, Nat.le_of_ble_eq_true rfl⟩) rfl hl.1 rfl (Nat.le_of_ble_eq_true rfl) dX12_moved_15 (fun r3 M2 H locs hq hh => ?_)
    refine lv_if_ne (tgt := 23) hx hb dX12_moved_18 (by decide) (fun c4 => ?_) (fun c4 => ?_)
    · have hq := hq.1 c4
      refine lv_aload_n hx hb dX12_moved_23 rfl (lv_at hl 0 rfl) ?_
      refine sy_get C hh (fun w h => mc (uZ_fX12 w h)) 0 (by decide) (oZ_0 Y) rfl 40 (by decide) (index := 249) (mc uZ_177) (v := .int (M2 0 40)) rfl dX12_moved_24 ?_
      refine lv_iconst (v := (1 : Int32)) hx hb dX12_moved_27 (by decide) ?_
      refine lv_isub hx hb dX12_moved_28 ?_
      refine sy_cIS C hh (As := [.int ((M2 0 40) - (1 : Int32))]) (rest := []) (mX12_rowOf l Y _ M2 ((M2 0 40) - (1 : Int32)) _ hq) (va_cwS 1 C.1.2.2.2.2 (sy_goodS uZ_good uZ_271 uZ_272 uZ_55 uZ_265 _) rfl rfl rfl hdX12_rowOf.2 ⟨Nat.le_of_ble_eq_true rfl, Nat.le_of_ble_eq_true rfl⟩) rfl hl.1 rfl (Nat.le_of_ble_eq_true rfl) dX12_moved_29 (fun r6 M5 H locs hq hh => ?_)
      refine lv_iload_n hx hb dX12_moved_32 rfl (lv_at hl 1 rfl) ?_
      refine lv_iadd hx hb dX12_moved_33 ?_
      refine lv_istore_n (lv' := [(2, .int (r6 + a1)), (0, .ref (Y.2.1 0)), (1, .int a1)]) hx hb dX12_moved_34 rfl hl (by decide) rfl (fun ls hl => ?_)
      refine lv_aload_n hx hb dX12_moved_35 rfl (lv_at hl 1 rfl) ?_
      refine sy_get C hh (fun w h => mc (uZ_fX12 w h)) 0 (by decide) (oZ_0 Y) rfl 40 (by decide) (index := 249) (mc uZ_177) (v := .int (M5 0 40)) rfl dX12_moved_36 ?_
      refine lv_iconst (v := (nI 2)) hx hb dX12_moved_39 (by decide) ?_
      refine lv_isub hx hb dX12_moved_40 ?_
      refine sy_cIS C hh (As := [.int ((M5 0 40) - (nI 2))]) (rest := []) (mX12_rowOf l Y _ M5 ((M5 0 40) - (nI 2)) _ hq) (va_cwS 1 C.1.2.2.2.2 (sy_goodS uZ_good uZ_271 uZ_272 uZ_55 uZ_265 _) rfl rfl rfl hdX12_rowOf.2 ⟨Nat.le_of_ble_eq_true rfl, Nat.le_of_ble_eq_true rfl⟩) rfl hl.1 rfl (Nat.le_of_ble_eq_true rfl) dX12_moved_41 (fun r8 M7 H locs hq hh => ?_)
      refine lv_istore_n (lv' := [(3, .int r8), (2, .int (r6 + a1)), (0, .ref (Y.2.1 0)), (1, .int a1)]) hx hb dX12_moved_44 rfl hl (by decide) rfl (fun ls hl => ?_)
      refine lv_aload_n hx hb dX12_moved_45 rfl (lv_at hl 2 rfl) ?_
      refine sy_get C hh (fun w h => mc (uZ_fX12 w h)) 0 (by decide) (oZ_0 Y) rfl 42 (by decide) (index := 100) (mc uZ_37) (v := .ref (Y.2.1 26)) rfl dX12_moved_46 ?_
      refine lv_iload_n hx hb dX12_moved_49 rfl (lv_at hl 1 rfl) ?_
      obtain ⟨n9, hn9, en9, hq⟩ := hq
      refine sy_zald C hh 26 (by decide) (aZ_26 Y) tZ_26 hn9 en9 (by decide) dX12_moved_50 ?_
      refine lv_if_eq (tgt := 98) hx hb dX12_moved_51 (by decide) (fun c10 => ?_) (fun c10 => ?_)
      · have hq := hq.1 c10
        refine lv_iconst (v := (-1 : Int32)) hx hb dX12_moved_98 (by decide) ?_
        exact sy_iret C hh dX12_moved_99 hq
      · have hq := hq.2 c10
        refine lv_aload_n hx hb dX12_moved_54 rfl (lv_at hl 2 rfl) ?_
        refine sy_get C hh (fun w h => mc (uZ_fX12 w h)) 0 (by decide) (oZ_0 Y) rfl 42 (by decide) (index := 100) (mc uZ_37) (v := .ref (Y.2.1 26)) rfl dX12_moved_55 ?_
        refine lv_iload_n hx hb dX12_moved_58 rfl (lv_at hl 0 rfl) ?_
        refine lv_iload_n hx hb dX12_moved_59 rfl (lv_at hl 3 rfl) ?_
        refine lv_iadd hx hb dX12_moved_60 ?_
        obtain ⟨n11, hn11, en11, hq⟩ := hq
        refine sy_zald C hh 26 (by decide) (aZ_26 Y) tZ_26 hn11 en11 (by decide) dX12_moved_61 ?_
        refine lv_if_eq (tgt := 98) hx hb dX12_moved_62 (by decide) (fun c12 => ?_) (fun c12 => ?_)
        · have hq := hq.1 c12
          refine lv_iconst (v := (-1 : Int32)) hx hb dX12_moved_98 (by decide) ?_
          exact sy_iret C hh dX12_moved_99 hq
        · have hq := hq.2 c12
          refine lv_aload_n hx hb dX12_moved_65 rfl (lv_at hl 2 rfl) ?_
          refine lv_iload_n hx hb dX12_moved_66 rfl (lv_at hl 0 rfl) ?_
          refine lv_iload_n hx hb dX12_moved_67 rfl (lv_at hl 3 rfl) ?_
          refine lv_aload_n hx hb dX12_moved_68 rfl (lv_at hl 2 rfl) ?_
          refine sy_get C hh (fun w h => mc (uZ_fX12 w h)) 0 (by decide) (oZ_0 Y) rfl 43 (by decide) (index := 103) (mc uZ_38) (v := .ref (Y.2.1 27)) rfl dX12_moved_69 ?_
          refine lv_iload_n hx hb dX12_moved_72 rfl (lv_at hl 1 rfl) ?_
          refine sy_iald C hh 27 (by decide) (aZ_27 Y) tZ_27 hn9 en9 (by decide) dX12_moved_73 ?_
          refine lv_aload_n hx hb dX12_moved_74 rfl (lv_at hl 2 rfl) ?_
          refine sy_get C hh (fun w h => mc (uZ_fX12 w h)) 0 (by decide) (oZ_0 Y) rfl 44 (by decide) (index := 106) (mc uZ_39) (v := .ref (Y.2.1 28)) rfl dX12_moved_75 ?_
          refine lv_iload_n hx hb dX12_moved_78 rfl (lv_at hl 1 rfl) ?_
          refine sy_iald C hh 28 (by decide) (aZ_28 Y) tZ_28 hn9 en9 (by decide) dX12_moved_79 ?_
          refine lv_aload_n hx hb dX12_moved_80 rfl (lv_at hl 2 rfl) ?_
          refine sy_get C hh (fun w h => mc (uZ_fX12 w h)) 0 (by decide) (oZ_0 Y) rfl 45 (by decide) (index := 109) (mc uZ_40) (v := .ref (Y.2.1 29)) rfl dX12_moved_81 ?_
          refine lv_iload_n hx hb dX12_moved_84 rfl (lv_at hl 1 rfl) ?_
          refine sy_iald C hh 29 (by decide) (aZ_29 Y) tZ_29 hn9 en9 (by decide) dX12_moved_85 ?_
          refine lv_aload_n hx hb dX12_moved_86 rfl (lv_at hl 2 rfl) ?_
          refine sy_get C hh (fun w h => mc (uZ_fX12 w h)) 0 (by decide) (oZ_0 Y) rfl 46 (by decide) (index := 112) (mc uZ_41) (v := .ref (Y.2.1 30)) rfl dX12_moved_87 ?_
          refine lv_iload_n hx hb dX12_moved_90 rfl (lv_at hl 1 rfl) ?_
          refine sy_iald C hh 30 (by decide) (aZ_30 Y) tZ_30 hn9 en9 (by decide) dX12_moved_91 ?_
          refine sy_cIV C hh (As := [.int r8, .int a1, .int (M7 27 n9), .int (M7 28 n9), .int (M7 29 n9), .int (M7 30 n9)]) (rest := []) 0 (by decide) (oZ_0 Y) rfl (mX12_far l Y _ M7 r8 a1 (M7 27 n9) (M7 28 n9) (M7 29 n9) (M7 30 n9) _ hq) (cwV 6 C.1.2.2.2.2 (sy_goodV uZ_good uZ_273 uZ_274 uZ_275 uZ_55 uZ_267 _) rfl rfl rfl hdX12_far ⟨Nat.le_of_ble_eq_true rfl, Nat.le_of_ble_eq_true rfl⟩) rfl hl.1 rfl (Nat.le_of_ble_eq_true rfl) dX12_moved_92 (fun r14 M13 H locs hq hh => ?_)
          refine lv_goto (tgt := 99) hx hb dX12_moved_95 (by decide) ?_
          exact sy_iret C hh dX12_moved_99 hq
    · have hq := hq.2 c4
      refine lv_iconst (v := (-1 : Int32)) hx hb dX12_moved_21 (by decide) ?_
      exact sy_iret C hh dX12_moved_22 hq

/-! AreaSetterModel.past(III)I -/
def wX12_past_96 (Q : Int32 → sy_M → Prop) (M : sy_M) (x1 : Int32) (x3 : Int32) (x5 : Int32) : Prop := ((x3 = (0 : Int32) → ∃ n8 : Nat, n8 < 2091 ∧ x5 = nI n8 ∧ Q (M 27 n8) M) ∧ (¬ x3 = (0 : Int32) → ((x3 = (1 : Int32) → ∃ n10 : Nat, n10 < 2091 ∧ x5 = nI n10 ∧ Q (M 28 n10) M) ∧ (¬ x3 = (1 : Int32) → ((x3 = (nI 2) → ∃ n12 : Nat, n12 < 2091 ∧ x5 = nI n12 ∧ Q (M 29 n12) M) ∧ (¬ x3 = (nI 2) → ((x3 = (nI 3) → ∃ n14 : Nat, n14 < 2091 ∧ x5 = nI n14 ∧ Q (M 30 n14) M) ∧ (¬ x3 = (nI 3) → ((x3 = (nI 4) → ∃ n16 : Nat, n16 < 2091 ∧ x5 = nI n16 ∧ Q (M 31 n16) M) ∧ (¬ x3 = (nI 4) → ∃ n17 : Nat, n17 < 51 ∧ (x1 - x1 / (nI 51) * (nI 51)) = nI n17 ∧ Q (M 25 n17) M))))))))))
def wX12_past_67 (Q : Int32 → sy_M → Prop) (M : sy_M) (x1 : Int32) (x3 : Int32) (x4 : Int32) (s0 : Int32) : Prop := ((x4 = 0 → Q (0 : Int32) (mu M 0 0 (1 : Int32))) ∧ (¬ x4 = 0 → (((nI 4) ≤ x3 → wX12_past_96  Q M x1 x3 s0) ∧ (¬ (nI 4) ≤ x3 → ∃ n18 : Nat, n18 < 2091 ∧ s0 = nI n18 ∧ ((¬ (M 26 n18) = 0 → wX12_past_96  Q M x1 x3 s0) ∧ ((M 26 n18) = 0 → Q (0 : Int32) (mu M 0 0 (1 : Int32))))))))
def wX12_past_50 (Q : Int32 → sy_M → Prop) (M : sy_M) (x1 : Int32) (x2 : Int32) (x3 : Int32) (s0 : Int32) : Prop := ((s0 = 0 → wX12_past_67  Q M x1 x3 s0 (0 : Int32)) ∧ (¬ s0 = 0 → wX12_rowOf M x1 (fun r21 M20 => wX12_past_67  Q M20 x1 x3 s0 (r21 + x2))))
def wX12_past_49 (Q : Int32 → sy_M → Prop) (M : sy_M) (x1 : Int32) (x2 : Int32) (x3 : Int32) : Prop := wX12_past_50  Q M x1 x2 x3 (0 : Int32)
def wX12_past (M : sy_M) (a1 : Int32) (a2 : Int32) (a3 : Int32) (Q : Int32 → sy_M → Prop) : Prop := wX12_isBox (mu M 0 0 (0 : Int32)) a2 (fun r2 M1 => ((r2 = 0 → wX12_past_49  Q M1 a1 a2 a3) ∧ (¬ r2 = 0 → wX12_within M1 a3 (0 : Int32) (nI 5) (fun r23 M22 => ((r23 = 0 → wX12_past_49  Q M22 a1 a2 a3) ∧ (¬ r23 = 0 → ((a1 < 0 → wX12_past_49  Q M22 a1 a2 a3) ∧ (¬ a1 < 0 → (((M22 0 40) ≤ a1 → wX12_past_49  Q M22 a1 a2 a3) ∧ (¬ (M22 0 40) ≤ a1 → ((a1 < ((M22 0 40) - (nI 50)) → wX12_past_49  Q M22 a1 a2 a3) ∧ (¬ a1 < ((M22 0 40) - (nI 50)) → wX12_past_50  Q M22 a1 a2 a3 (1 : Int32)))))))))))))
section
variable {p : Program} {l : Launch} {e : Env} {s : State} {m : MethodId} {args : Array Value} {below : List Frame} {meth : Method} {c : Code} {Y : sy_Y}
set_option maxHeartbeats 4000000 in
set_option maxRecDepth 100000 in
theorem kX12_past_96 (C : sy_C p m c cX12_past 6 s args vsX12_past RX12 meth (some .int) Y NZ tfZ) {Q : Int32 → sy_M → Prop} :
    ∀ (M : sy_M) (x1 : Int32) (x3 : Int32) (x5 : Int32) (H : Heap) (locs : List Loc) (ls : Array Slot), wX12_past_96 Q M x1 x3 x5 → sy_H Y NZ EZ s H locs M → lv_has ls 6 [(0, .ref (Y.2.1 0)), (1, .int x1), (3, .int x3), (5, .int x5)] → W p l e ({ frames := 1, cells := 0, slots := 0, locals := 22 } : Room) s m args below meth c H locs 0 0 (sy_ZI below args s Y NZ EZ Q) (F0 m 96 ls []) := by
  have hx := C.1.1
  have hb := C.1.2.1
  intro M x1 x3 x5 H locs ls hq hh hl
  unfold wX12_past_96 at hq
  refine lv_iload_n hx hb dX12_past_96 rfl (lv_at hl 2 rfl) ?_
  by_cases c7 : x3 = (0 : Int32)
  · have hq := hq.1 c7
    refine lv_tableIn (tgt := 132) (off := 35) hx hb dX12_past_97 (by rw [c7]; decide) (by rw [c7]; decide) (by rw [c7]; rfl) (by decide) ?_
    refine lv_aload_n hx hb dX12_past_132 rfl (lv_at hl 0 rfl) ?_
    refine sy_get C hh (fun w h => mc (uZ_fX12 w h)) 0 (by decide) (oZ_0 Y) rfl 43 (by decide) (index := 103) (mc uZ_38) (v := .ref (Y.2.1 27)) rfl dX12_past_133 ?_
    refine lv_iload hx hb dX12_past_136 (lv_at hl 3 rfl) ?_
    obtain ⟨n8, hn8, en8, hq⟩ := hq
    refine sy_iald C hh 27 (by decide) (aZ_27 Y) tZ_27 hn8 en8 (by decide) dX12_past_138 ?_
    exact sy_iret C hh dX12_past_139 hq
  · have hq := hq.2 c7
    by_cases c9 : x3 = (1 : Int32)
    · have hq := hq.1 c9
      refine lv_tableIn (tgt := 140) (off := 43) hx hb dX12_past_97 (by rw [c9]; decide) (by rw [c9]; decide) (by rw [c9]; rfl) (by decide) ?_
      refine lv_aload_n hx hb dX12_past_140 rfl (lv_at hl 0 rfl) ?_
      refine sy_get C hh (fun w h => mc (uZ_fX12 w h)) 0 (by decide) (oZ_0 Y) rfl 44 (by decide) (index := 106) (mc uZ_39) (v := .ref (Y.2.1 28)) rfl dX12_past_141 ?_
      refine lv_iload hx hb dX12_past_144 (lv_at hl 3 rfl) ?_
      obtain ⟨n10, hn10, en10, hq⟩ := hq
      refine sy_iald C hh 28 (by decide) (aZ_28 Y) tZ_28 hn10 en10 (by decide) dX12_past_146 ?_
      exact sy_iret C hh dX12_past_147 hq
    · have hq := hq.2 c9
      by_cases c11 : x3 = (nI 2)
      · have hq := hq.1 c11
        refine lv_tableIn (tgt := 148) (off := 51) hx hb dX12_past_97 (by rw [c11]; decide) (by rw [c11]; decide) (by rw [c11]; rfl) (by decide) ?_
        refine lv_aload_n hx hb dX12_past_148 rfl (lv_at hl 0 rfl) ?_
        refine sy_get C hh (fun w h => mc (uZ_fX12 w h)) 0 (by decide) (oZ_0 Y) rfl 45 (by decide) (index := 109) (mc uZ_40) (v := .ref (Y.2.1 29)) rfl dX12_past_149 ?_
        refine lv_iload hx hb dX12_past_152 (lv_at hl 3 rfl) ?_
        obtain ⟨n12, hn12, en12, hq⟩ := hq
        refine sy_iald C hh 29 (by decide) (aZ_29 Y) tZ_29 hn12 en12 (by decide) dX12_past_154 ?_
        exact sy_iret C hh dX12_past_155 hq
      · have hq := hq.2 c11
        by_cases c13 : x3 = (nI 3)
        · have hq := hq.1 c13
          refine lv_tableIn (tgt := 156) (off := 59) hx hb dX12_past_97 (by rw [c13]; decide) (by rw [c13]; decide) (by rw [c13]; rfl) (by decide) ?_
          refine lv_aload_n hx hb dX12_past_156 rfl (lv_at hl 0 rfl) ?_
          refine sy_get C hh (fun w h => mc (uZ_fX12 w h)) 0 (by decide) (oZ_0 Y) rfl 46 (by decide) (index := 112) (mc uZ_41) (v := .ref (Y.2.1 30)) rfl dX12_past_157 ?_
          refine lv_iload hx hb dX12_past_160 (lv_at hl 3 rfl) ?_
          obtain ⟨n14, hn14, en14, hq⟩ := hq
          refine sy_iald C hh 30 (by decide) (aZ_30 Y) tZ_30 hn14 en14 (by decide) dX12_past_162 ?_
          exact sy_iret C hh dX12_past_163 hq
        · have hq := hq.2 c13
          by_cases c15 : x3 = (nI 4)
          · have hq := hq.1 c15
            refine lv_tableIn (tgt := 164) (off := 67) hx hb dX12_past_97 (by rw [c15]; decide) (by rw [c15]; decide) (by rw [c15]; rfl) (by decide) ?_
            refine lv_aload_n hx hb dX12_past_164 rfl (lv_at hl 0 rfl) ?_
            refine sy_get C hh (fun w h => mc (uZ_fX12 w h)) 0 (by decide) (oZ_0 Y) rfl 47 (by decide) (index := 115) (mc uZ_42) (v := .ref (Y.2.1 31)) rfl dX12_past_165 ?_
            refine lv_iload hx hb dX12_past_168 (lv_at hl 3 rfl) ?_
            obtain ⟨n16, hn16, en16, hq⟩ := hq
            refine sy_iald C hh 31 (by decide) (aZ_31 Y) tZ_31 hn16 en16 (by decide) dX12_past_170 ?_
            exact sy_iret C hh dX12_past_171 hq
          · have hq := hq.2 c15
            refine lv_tableOut (tgt := 172) hx hb dX12_past_97 (by have := lv_neT c7 (a := 0) (by decide); have := lv_neT c9 (a := 1) (by decide); have := lv_neT c11 (a := 2) (by decide); have := lv_neT c13 (a := 3) (by decide); have := lv_neT c15 (a := 4) (by decide); omega) (by decide) ?_
            refine lv_aload_n hx hb dX12_past_172 rfl (lv_at hl 0 rfl) ?_
            refine sy_get C hh (fun w h => mc (uZ_fX12 w h)) 0 (by decide) (oZ_0 Y) rfl 41 (by decide) (index := 97) (mc uZ_36) (v := .ref (Y.2.1 25)) rfl dX12_past_173 ?_
            refine lv_iload_n hx hb dX12_past_176 rfl (lv_at hl 1 rfl) ?_
            refine lv_bipush (v := (nI 51)) hx hb dX12_past_177 (by decide) ?_
            refine lv_irem hx hb dX12_past_179 (by decide) ?_
            obtain ⟨n17, hn17, en17, hq⟩ := hq
            refine sy_iald C hh 25 (by decide) (aZ_25 Y) tZ_25 hn17 en17 (by decide) dX12_past_180 ?_
            exact sy_iret C hh dX12_past_181 hq

set_option maxHeartbeats 4000000 in
set_option maxRecDepth 100000 in
theorem kX12_past_67 (C : sy_C p m c cX12_past 6 s args vsX12_past RX12 meth (some .int) Y NZ tfZ) {Q : Int32 → sy_M → Prop} :
    ∀ (M : sy_M) (x1 : Int32) (x3 : Int32) (x4 : Int32) (s0 : Int32) (H : Heap) (locs : List Loc) (ls : Array Slot), wX12_past_67 Q M x1 x3 x4 s0 → sy_H Y NZ EZ s H locs M → lv_has ls 6 [(0, .ref (Y.2.1 0)), (1, .int x1), (3, .int x3), (4, .int x4)] → W p l e ({ frames := 1, cells := 0, slots := 0, locals := 22 } : Room) s m args below meth c H locs 0 0 (sy_ZI below args s Y NZ EZ Q) (F0 m 67 ls [.int s0]) := by
  have hx := C.1.1
  have hb := C.1.2.1
  intro M x1 x3 x4 s0 H locs ls hq hh hl
  unfold wX12_past_67 at hq
  refine lv_istore (lv' := [(5, .int s0), (0, .ref (Y.2.1 0)), (1, .int x1), (3, .int x3), (4, .int x4)]) hx hb dX12_past_67 hl (by decide) rfl (fun ls hl => ?_)
  refine lv_iload hx hb dX12_past_69 (lv_at hl 4 rfl) ?_
  refine lv_if_eq (tgt := 89) hx hb dX12_past_71 (by decide) (fun c5 => ?_) (fun c5 => ?_)
  · have hq := hq.1 c5
    refine lv_aload_n hx hb dX12_past_89 rfl (lv_at hl 1 rfl) ?_
    refine lv_iconst (v := (1 : Int32)) hx hb dX12_past_90 (by decide) ?_
    refine sy_put C hh (fun w h => mc (uZ_fX12 w h)) tyX12 tyX12_ok nmX12 0 (by decide) (oZ_0 Y) rfl 0 (by decide) (index := 1) (mc uZ_1) rfl 0 (1 : Int32) (ty := .int) (tyX12_ok 0 (by decide)) rfl rfl (Nat.le_of_ble_eq_true rfl) (pX12_0 Y _ _ _) dX12_past_91 (fun H locs hh => ?_)
    refine lv_iconst (v := (0 : Int32)) hx hb dX12_past_94 (by decide) ?_
    exact sy_iret C hh dX12_past_95 hq
  · have hq := hq.2 c5
    refine lv_iload_n hx hb dX12_past_74 rfl (lv_at hl 3 rfl) ?_
    refine lv_iconst (v := (nI 4)) hx hb dX12_past_75 (by decide) ?_
    refine lv_icmp_ge (tgt := 96) hx hb dX12_past_76 (by decide) (fun c6 => ?_) (fun c6 => ?_)
    · have hq := hq.1 c6
      refine kX12_past_96 C  M x1 x3 s0 _ _ _ hq hh (lv_sub hl [1, 2, 3, 0] rfl)
    · have hq := hq.2 c6
      refine lv_aload_n hx hb dX12_past_79 rfl (lv_at hl 1 rfl) ?_
      refine sy_get C hh (fun w h => mc (uZ_fX12 w h)) 0 (by decide) (oZ_0 Y) rfl 42 (by decide) (index := 100) (mc uZ_37) (v := .ref (Y.2.1 26)) rfl dX12_past_80 ?_
      refine lv_iload hx hb dX12_past_83 (lv_at hl 0 rfl) ?_
      obtain ⟨n18, hn18, en18, hq⟩ := hq
      refine sy_zald C hh 26 (by decide) (aZ_26 Y) tZ_26 hn18 en18 (by decide) dX12_past_85 ?_
      refine lv_if_ne (tgt := 96) hx hb dX12_past_86 (by decide) (fun c19 => ?_) (fun c19 => ?_)
      · have hq := hq.1 c19
        refine kX12_past_96 C  M x1 x3 s0 _ _ _ hq hh (lv_sub hl [1, 2, 3, 0] rfl)
      · have hq := hq.2 c19
        refine lv_aload_n hx hb dX12_past_89 rfl (lv_at hl 1 rfl) ?_
        refine lv_iconst (v := (1 : Int32)) hx hb dX12_past_90 (by decide) ?_
        refine sy_put C hh (fun w h => mc (uZ_fX12 w h)) tyX12 tyX12_ok nmX12 0 (by decide) (oZ_0 Y) rfl 0 (by decide) (index := 1) (mc uZ_1) rfl 0 (1 : Int32) (ty := .int) (tyX12_ok 0 (by decide)) rfl rfl (Nat.le_of_ble_eq_true rfl) (pX12_0 Y _ _ _) dX12_past_91 (fun H locs hh => ?_)
        refine lv_iconst (v := (0 : Int32)) hx hb dX12_past_94 (by decide) ?_
        exact sy_iret C hh dX12_past_95 hq

set_option maxHeartbeats 4000000 in
set_option maxRecDepth 100000 in
theorem kX12_past_50 (C : sy_C p m c cX12_past 6 s args vsX12_past RX12 meth (some .int) Y NZ tfZ) {Q : Int32 → sy_M → Prop} :
    ∀ (M : sy_M) (x1 : Int32) (x2 : Int32) (x3 : Int32) (s0 : Int32) (H : Heap) (locs : List Loc) (ls : Array Slot), wX12_past_50 Q M x1 x2 x3 s0 → sy_H Y NZ EZ s H locs M → lv_has ls 6 [(0, .ref (Y.2.1 0)), (1, .int x1), (2, .int x2), (3, .int x3)] → W p l e ({ frames := 1, cells := 0, slots := 0, locals := 22 } : Room) s m args below meth c H locs 0 0 (sy_ZI below args s Y NZ EZ Q) (F0 m 50 ls [.int s0]) := by
  have hx := C.1.1
  have hb := C.1.2.1
  intro M x1 x2 x3 s0 H locs ls hq hh hl
  unfold wX12_past_50 at hq
  refine lv_istore (lv' := [(4, .int s0), (0, .ref (Y.2.1 0)), (1, .int x1), (2, .int x2), (3, .int x3)]) hx hb dX12_past_50 hl (by decide) rfl (fun ls hl => ?_)
  refine lv_iload hx hb dX12_past_52 (lv_at hl 0 rfl) ?_
  refine lv_if_eq (tgt := 66) hx hb dX12_past_54 (by decide) (fun c4 => ?_) (fun c4 => ?_)
  · have hq := hq.1 c4
    refine lv_iconst (v := (0 : Int32)) hx hb dX12_past_66 (by decide) ?_
    refine kX12_past_67 C  M x1 x3 s0 (0 : Int32) _ _ _ hq hh (lv_sub hl [1, 2, 4, 0] rfl)
  · have hq := hq.2 c4
    refine lv_iload_n hx hb dX12_past_57 rfl (lv_at hl 2 rfl) ?_
    refine sy_cIS C hh (As := [.int x1]) (rest := []) (mX12_rowOf l Y _ M x1 _ hq) (va_cwS 1 C.1.2.2.2.2 (sy_goodS uZ_good uZ_271 uZ_272 uZ_55 uZ_265 _) rfl rfl rfl hdX12_rowOf.2 ⟨Nat.le_of_ble_eq_true rfl, Nat.le_of_ble_eq_true rfl⟩) rfl hl.1 rfl (Nat.le_of_ble_eq_true rfl) dX12_past_58 (fun r21 M20 H locs hq hh => ?_)
    refine lv_iload_n hx hb dX12_past_61 rfl (lv_at hl 3 rfl) ?_
    refine lv_iadd hx hb dX12_past_62 ?_
    refine lv_goto (tgt := 67) hx hb dX12_past_63 (by decide) ?_
    refine kX12_past_67 C  M20 x1 x3 s0 (r21 + x2) _ _ _ hq hh (lv_sub hl [1, 2, 4, 0] rfl)

set_option maxHeartbeats 4000000 in
set_option maxRecDepth 100000 in
theorem kX12_past_49 (C : sy_C p m c cX12_past 6 s args vsX12_past RX12 meth (some .int) Y NZ tfZ) {Q : Int32 → sy_M → Prop} :
    ∀ (M : sy_M) (x1 : Int32) (x2 : Int32) (x3 : Int32) (H : Heap) (locs : List Loc) (ls : Array Slot), wX12_past_49 Q M x1 x2 x3 → sy_H Y NZ EZ s H locs M → lv_has ls 6 [(0, .ref (Y.2.1 0)), (1, .int x1), (2, .int x2), (3, .int x3)] → W p l e ({ frames := 1, cells := 0, slots := 0, locals := 22 } : Room) s m args below meth c H locs 0 0 (sy_ZI below args s Y NZ EZ Q) (F0 m 49 ls []) := by
  have hx := C.1.1
  have hb := C.1.2.1
  intro M x1 x2 x3 H locs ls hq hh hl
  unfold wX12_past_49 at hq
  refine lv_iconst (v := (0 : Int32)) hx hb dX12_past_49 (by decide) ?_
  refine kX12_past_50 C  M x1 x2 x3 (0 : Int32) _ _ _ hq hh (lv_sub hl [0, 1, 2, 3] rfl)

end
set_option maxHeartbeats 4000000 in
set_option maxRecDepth 100000 in
theorem mX12_past (l : Launch) (Y : sy_Y) (sz : Nat) (M : sy_M) (a1 : Int32) (a2 : Int32) (a3 : Int32) (Q : Int32 → sy_M → Prop) (hq : wX12_past M a1 a2 a3 Q) : Met l yX12_past vsX12_past ({ frames := 1, cells := 0, slots := 0, locals := 22 } : Room) (va_Pc [.ref (Y.2.1 0), .int a1, .int a2, .int a3] (sy_pre Y NZ EZ tfZ sz M)) (sy_QI Y NZ EZ sz Q) 0 0 (sy_A NZ Y.2.1 sz) := by
  refine sy_metI (by decide) rfl (Nat.le_of_ble_eq_true rfl) ?_
  intro p e s m args below meth c C ls hl hh
  have hx := C.1.1
  have hb := C.1.2.1
  have hl : lv_has ls 6 [(0, .ref (Y.2.1 0)), (1, .int a1), (2, .int a2), (3, .int a3)] := hl
  unfold wX12_past at hq
  refine lv_aload_n hx hb dX12_past_0 rfl (lv_at hl 0 rfl) ?_
  refine lv_iconst (v := (0 : Int32)) hx hb dX12_past_1 (by decide) ?_
  refine sy_put C hh (fun w h => mc (uZ_fX12 w h)) tyX12 tyX12_ok nmX12 0 (by decide) (oZ_0 Y) rfl 0 (by decide) (index := 1) (mc uZ_1) rfl 0 (0 : Int32) (ty := .int) (tyX12_ok 0 (by decide)) rfl rfl (Nat.le_of_ble_eq_true rfl) (pX12_0 Y _ _ _) dX12_past_2 (fun H locs hh => ?_)
  refine lv_aload_n hx hb dX12_past_5 rfl (lv_at hl 0 rfl) ?_
  refine lv_iload_n hx hb dX12_past_6 rfl (lv_at hl 2 rfl) ?_
  refine sy_cIV C hh (As := [.int a2]) (rest := []) 0 (by decide) (oZ_0 Y) rfl (mX12_isBox l Y _ (mu M 0 0 (0 : Int32)) a2 _ hq) (cwV 1 C.1.2.2.2.2 (sy_goodV uZ_good uZ_183 uZ_184 uZ_185 uZ_55 uZ_180 _) rfl rfl rfl hdX12_isBox ⟨Nat.le_of_ble_eq_true rfl, Nat.le_of_ble_eq_true rfl⟩) rfl hl.1 rfl (Nat.le_of_ble_eq_true rfl) dX12_past_7 (fun r2 M1 H locs hq hh => ?_)
  refine lv_if_eq (tgt := 49) hx hb dX12_past_10 (by decide) (fun c3 => ?_) (fun c3 => ?_)
  · have hq := hq.1 c3
    refine kX12_past_49 C  M1 a1 a2 a3 _ _ _ hq hh (lv_sub hl [0, 1, 2, 3] rfl)
  · have hq := hq.2 c3
    refine lv_iload_n hx hb dX12_past_13 rfl (lv_at hl 3 rfl) ?_
    refine lv_iconst (v := (0 : Int32)) hx hb dX12_past_14 (by decide) ?_
    refine lv_iconst (v := (nI 5)) hx hb dX12_past_15 (by decide) ?_
    refine sy_cIS C hh (As := [.int a3, .int (0 : Int32), .int (nI 5)]) (rest := []) (mX12_within l Y _ M1 a3 (0 : Int32) (nI 5) _ hq) (va_cwS 3 C.1.2.2.2.2 (sy_goodS uZ_good uZ_53 uZ_54 uZ_55 uZ_2 _) rfl rfl rfl hdX12_within.2 ⟨Nat.le_of_ble_eq_true rfl, Nat.le_of_ble_eq_true rfl⟩) rfl hl.1 rfl (Nat.le_of_ble_eq_true rfl) dX12_past_16 (fun r23 M22 H locs hq hh => ?_)
    refine lv_if_eq (tgt := 49) hx hb dX12_past_19 (by decide) (fun c24 => ?_) (fun c24 => ?_)
    · have hq := hq.1 c24
      refine kX12_past_49 C  M22 a1 a2 a3 _ _ _ hq hh (lv_sub hl [0, 1, 2, 3] rfl)
    · have hq := hq.2 c24
      refine lv_iload_n hx hb dX12_past_22 rfl (lv_at hl 1 rfl) ?_
      refine lv_if_lt (tgt := 49) hx hb dX12_past_23 (by decide) (fun c25 => ?_) (fun c25 => ?_)
      · have hq := hq.1 c25
        refine kX12_past_49 C  M22 a1 a2 a3 _ _ _ hq hh (lv_sub hl [0, 1, 2, 3] rfl)
      · have hq := hq.2 c25
        refine lv_iload_n hx hb dX12_past_26 rfl (lv_at hl 1 rfl) ?_
        refine lv_aload_n hx hb dX12_past_27 rfl (lv_at hl 0 rfl) ?_
        refine sy_get C hh (fun w h => mc (uZ_fX12 w h)) 0 (by decide) (oZ_0 Y) rfl 40 (by decide) (index := 249) (mc uZ_177) (v := .int (M22 0 40)) rfl dX12_past_28 ?_
        refine lv_icmp_ge (tgt := 49) hx hb dX12_past_31 (by decide) (fun c26 => ?_) (fun c26 => ?_)
        · have hq := hq.1 c26
          refine kX12_past_49 C  M22 a1 a2 a3 _ _ _ hq hh (lv_sub hl [0, 1, 2, 3] rfl)
        · have hq := hq.2 c26
          refine lv_iload_n hx hb dX12_past_34 rfl (lv_at hl 1 rfl) ?_
          refine lv_aload_n hx hb dX12_past_35 rfl (lv_at hl 0 rfl) ?_
          refine sy_get C hh (fun w h => mc (uZ_fX12 w h)) 0 (by decide) (oZ_0 Y) rfl 40 (by decide) (index := 249) (mc uZ_177) (v := .int (M22 0 40)) rfl dX12_past_36 ?_
          refine lv_bipush (v := (nI 50)) hx hb dX12_past_39 (by decide) ?_
          refine lv_isub hx hb dX12_past_41 ?_
          refine lv_icmp_lt (tgt := 49) hx hb dX12_past_42 (by decide) (fun c27 => ?_) (fun c27 => ?_)
          · have hq := hq.1 c27
            refine kX12_past_49 C  M22 a1 a2 a3 _ _ _ hq hh (lv_sub hl [0, 1, 2, 3] rfl)
          · have hq := hq.2 c27
            refine lv_iconst (v := (1 : Int32)) hx hb dX12_past_45 (by decide) ?_
            refine lv_goto (tgt := 50) hx hb dX12_past_46 (by decide) ?_
            refine kX12_past_50 C  M22 a1 a2 a3 (1 : Int32) _ _ _ hq hh (lv_sub hl [0, 1, 2, 3] rfl)

