/-! AreaSetterModel.about(II)I -/
def wX12_about (M : sy_M) (a1 : Int32) (a2 : Int32) (Q : Int32 → sy_M → Prop) : Prop := wX12_isBox (mu M 0 0 (0 : Int32)) a1 (fun r2 M1 => ((¬ r2 = 0 → ((a2 = (0 : Int32) → ∃ n5 : Nat, n5 < 82 ∧ a1 = nI n5 ∧ Q (M1 2 n5) M1) ∧ (¬ a2 = (0 : Int32) → ((a2 = (1 : Int32) → ∃ n7 : Nat, n7 < 82 ∧ a1 = nI n7 ∧ (((M1 3 n7) = 0 → Q (0 : Int32) M1) ∧ (¬ (M1 3 n7) = 0 → Q (1 : Int32) M1))) ∧ (¬ a2 = (1 : Int32) → ((a2 = (nI 2) → ∃ n10 : Nat, n10 < 82 ∧ a1 = nI n10 ∧ Q (M1 4 n10) M1) ∧ (¬ a2 = (nI 2) → ((a2 = (nI 3) → ∃ n12 : Nat, n12 < 82 ∧ a1 = nI n12 ∧ Q (M1 9 n12) M1) ∧ (¬ a2 = (nI 3) → ((a2 = (nI 4) → ∃ n14 : Nat, n14 < 82 ∧ a1 = nI n14 ∧ Q (M1 5 n14) M1) ∧ (¬ a2 = (nI 4) → ((a2 = (nI 5) → ∃ n16 : Nat, n16 < 82 ∧ a1 = nI n16 ∧ (((M1 3 n16) = 0 → Q (-1 : Int32) M1) ∧ (¬ (M1 3 n16) = 0 → Q (M1 6 n16) M1))) ∧ (¬ a2 = (nI 5) → ((a2 = (nI 6) → ∃ n19 : Nat, n19 < 82 ∧ a1 = nI n19 ∧ ((¬ (M1 3 n19) = 0 → (((M1 7 n19) = 0 → Q (0 : Int32) M1) ∧ (¬ (M1 7 n19) = 0 → Q (1 : Int32) M1))) ∧ ((M1 3 n19) = 0 → Q (-1 : Int32) M1))) ∧ (¬ a2 = (nI 6) → ((a2 = (nI 7) → ∃ n23 : Nat, n23 < 82 ∧ a1 = nI n23 ∧ (((M1 3 n23) = 0 → Q (-1 : Int32) M1) ∧ (¬ (M1 3 n23) = 0 → n23 < 41 ∧ Q (M1 14 n23) M1))) ∧ (¬ a2 = (nI 7) → ((a2 = (nI 8) → ∃ n27 : Nat, n27 < 82 ∧ a1 = nI n27 ∧ ((¬ (M1 3 n27) = 0 → n27 < 41 ∧ (((M1 15 n27) = 0 → Q (0 : Int32) M1) ∧ (¬ (M1 15 n27) = 0 → Q (1 : Int32) M1))) ∧ ((M1 3 n27) = 0 → Q (-1 : Int32) M1))) ∧ (¬ a2 = (nI 8) → Q (-1 : Int32) M1))))))))))))))))))) ∧ (r2 = 0 → Q (-1 : Int32) M1)))
section
variable {p : Program} {l : Launch} {e : Env} {s : State} {m : MethodId} {args : Array Value} {below : List Frame} {meth : Method} {c : Code} {Y : sy_Y}
end
set_option maxHeartbeats 4000000 in
set_option maxRecDepth 100000 in
theorem mX12_about (l : Launch) (Y : sy_Y) (sz : Nat) (M : sy_M) (a1 : Int32) (a2 : Int32) (Q : Int32 → sy_M → Prop) (hq : wX12_about M a1 a2 Q) : Met l yX12_about vsX12_about ({ frames := 1, cells := 0, slots := 0, locals := 21 } : Room) (va_Pc [.ref (Y.2.1 0), .int a1, .int a2] (sy_pre Y NZ EZ tfZ sz M)) (sy_QI Y NZ EZ sz Q) 0 0 (sy_A NZ Y.2.1 sz) := by
  refine sy_metI (by decide) rfl (Nat.le_of_ble_eq_true rfl) ?_
  intro p e s m args below meth c C ls hl hh
  have hx := C.1.1
  have hb := C.1.2.1
  have hl : lv_has ls 3 [(0, .ref (Y.2.1 0)), (1, .int a1), (2, .int a2)] := hl
  unfold wX12_about at hq
  refine lv_aload_n hx hb dX12_about_0 rfl (lv_at hl 0 rfl) ?_
  refine lv_iconst (v := (0 : Int32)) hx hb dX12_about_1 (by decide) ?_
  refine sy_put C hh (fun w h => mc (uZ_fX12 w h)) tyX12 tyX12_ok nmX12 0 (by decide) (oZ_0 Y) rfl 0 (by decide) (index := 1) (mc uZ_1) rfl 0 (0 : Int32) (ty := .int) (tyX12_ok 0 (by decide)) rfl rfl (Nat.le_of_ble_eq_true rfl) (pX12_0 Y _ _ _) dX12_about_2 (fun H locs hh => ?_)
  refine lv_aload_n hx hb dX12_about_5 rfl (lv_at hl 0 rfl) ?_
  refine lv_iload_n hx hb dX12_about_6 rfl (lv_at hl 1 rfl) ?_
  refine sy_cIV C hh (As := [.int a1]) (rest := []) 0 (by decide) (oZ_0 Y) rfl (mX12_isBox l Y _ (mu M 0 0 (0 : Int32)) a1 _ hq) (cwV 1 C.1.2.2.2.2 (sy_goodV uZ_good uZ_183 uZ_184 uZ_185 uZ_55 uZ_180 _) rfl rfl rfl hdX12_isBox ⟨Nat.le_of_ble_eq_true rfl, Nat.le_of_ble_eq_true rfl⟩) rfl hl.1 rfl (Nat.le_of_ble_eq_true rfl) dX12_about_7 (fun r2 M1 H locs hq hh => ?_)
  refine lv_if_ne (tgt := 15) hx hb dX12_about_10 (by decide) (fun c3 => ?_) (fun c3 => ?_)
  · have hq := hq.1 c3
    refine lv_iload_n hx hb dX12_about_15 rfl (lv_at hl 2 rfl) ?_
    by_cases c4 : a2 = (0 : Int32)
    · have hq := hq.1 c4
      refine lv_tableIn (tgt := 68) (off := 52) hx hb dX12_about_16 (by rw [c4]; decide) (by rw [c4]; decide) (by rw [c4]; rfl) (by decide) ?_
      refine lv_aload_n hx hb dX12_about_68 rfl (lv_at hl 0 rfl) ?_
      refine sy_get C hh (fun w h => mc (uZ_fX12 w h)) 0 (by decide) (oZ_0 Y) rfl 15 (by decide) (index := 26) (mc uZ_12) (v := .ref (Y.2.1 2)) rfl dX12_about_69 ?_
      refine lv_iload_n hx hb dX12_about_72 rfl (lv_at hl 1 rfl) ?_
      obtain ⟨n5, hn5, en5, hq⟩ := hq
      refine sy_iald C hh 2 (by decide) (aZ_2 Y) tZ_2 hn5 en5 (by decide) dX12_about_73 ?_
      exact sy_iret C hh dX12_about_74 hq
    · have hq := hq.2 c4
      by_cases c6 : a2 = (1 : Int32)
      · have hq := hq.1 c6
        refine lv_tableIn (tgt := 75) (off := 59) hx hb dX12_about_16 (by rw [c6]; decide) (by rw [c6]; decide) (by rw [c6]; rfl) (by decide) ?_
        refine lv_aload_n hx hb dX12_about_75 rfl (lv_at hl 0 rfl) ?_
        refine sy_get C hh (fun w h => mc (uZ_fX12 w h)) 0 (by decide) (oZ_0 Y) rfl 16 (by decide) (index := 30) (mc uZ_14) (v := .ref (Y.2.1 3)) rfl dX12_about_76 ?_
        refine lv_iload_n hx hb dX12_about_79 rfl (lv_at hl 1 rfl) ?_
        obtain ⟨n7, hn7, en7, hq⟩ := hq
        refine sy_zald C hh 3 (by decide) (aZ_3 Y) tZ_3 hn7 en7 (by decide) dX12_about_80 ?_
        refine lv_if_eq (tgt := 88) hx hb dX12_about_81 (by decide) (fun c8 => ?_) (fun c8 => ?_)
        · have hq := hq.1 c8
          refine lv_iconst (v := (0 : Int32)) hx hb dX12_about_88 (by decide) ?_
          exact sy_iret C hh dX12_about_89 hq
        · have hq := hq.2 c8
          refine lv_iconst (v := (1 : Int32)) hx hb dX12_about_84 (by decide) ?_
          refine lv_goto (tgt := 89) hx hb dX12_about_85 (by decide) ?_
          exact sy_iret C hh dX12_about_89 hq
      · have hq := hq.2 c6
        by_cases c9 : a2 = (nI 2)
        · have hq := hq.1 c9
          refine lv_tableIn (tgt := 90) (off := 74) hx hb dX12_about_16 (by rw [c9]; decide) (by rw [c9]; decide) (by rw [c9]; rfl) (by decide) ?_
          refine lv_aload_n hx hb dX12_about_90 rfl (lv_at hl 0 rfl) ?_
          refine sy_get C hh (fun w h => mc (uZ_fX12 w h)) 0 (by decide) (oZ_0 Y) rfl 17 (by decide) (index := 34) (mc uZ_15) (v := .ref (Y.2.1 4)) rfl dX12_about_91 ?_
          refine lv_iload_n hx hb dX12_about_94 rfl (lv_at hl 1 rfl) ?_
          obtain ⟨n10, hn10, en10, hq⟩ := hq
          refine sy_iald C hh 4 (by decide) (aZ_4 Y) tZ_4 hn10 en10 (by decide) dX12_about_95 ?_
          exact sy_iret C hh dX12_about_96 hq
        · have hq := hq.2 c9
          by_cases c11 : a2 = (nI 3)
          · have hq := hq.1 c11
            refine lv_tableIn (tgt := 97) (off := 81) hx hb dX12_about_16 (by rw [c11]; decide) (by rw [c11]; decide) (by rw [c11]; rfl) (by decide) ?_
            refine lv_aload_n hx hb dX12_about_97 rfl (lv_at hl 0 rfl) ?_
            refine sy_get C hh (fun w h => mc (uZ_fX12 w h)) 0 (by decide) (oZ_0 Y) rfl 22 (by decide) (index := 49) (mc uZ_20) (v := .ref (Y.2.1 9)) rfl dX12_about_98 ?_
            refine lv_iload_n hx hb dX12_about_101 rfl (lv_at hl 1 rfl) ?_
            obtain ⟨n12, hn12, en12, hq⟩ := hq
            refine sy_iald C hh 9 (by decide) (aZ_9 Y) tZ_9 hn12 en12 (by decide) dX12_about_102 ?_
            exact sy_iret C hh dX12_about_103 hq
          · have hq := hq.2 c11
            by_cases c13 : a2 = (nI 4)
            · have hq := hq.1 c13
              refine lv_tableIn (tgt := 104) (off := 88) hx hb dX12_about_16 (by rw [c13]; decide) (by rw [c13]; decide) (by rw [c13]; rfl) (by decide) ?_
              refine lv_aload_n hx hb dX12_about_104 rfl (lv_at hl 0 rfl) ?_
              refine sy_get C hh (fun w h => mc (uZ_fX12 w h)) 0 (by decide) (oZ_0 Y) rfl 18 (by decide) (index := 37) (mc uZ_16) (v := .ref (Y.2.1 5)) rfl dX12_about_105 ?_
              refine lv_iload_n hx hb dX12_about_108 rfl (lv_at hl 1 rfl) ?_
              obtain ⟨n14, hn14, en14, hq⟩ := hq
              refine sy_iald C hh 5 (by decide) (aZ_5 Y) tZ_5 hn14 en14 (by decide) dX12_about_109 ?_
              exact sy_iret C hh dX12_about_110 hq
            · have hq := hq.2 c13
              by_cases c15 : a2 = (nI 5)
              · have hq := hq.1 c15
                refine lv_tableIn (tgt := 111) (off := 95) hx hb dX12_about_16 (by rw [c15]; decide) (by rw [c15]; decide) (by rw [c15]; rfl) (by decide) ?_
                refine lv_aload_n hx hb dX12_about_111 rfl (lv_at hl 0 rfl) ?_
                refine sy_get C hh (fun w h => mc (uZ_fX12 w h)) 0 (by decide) (oZ_0 Y) rfl 16 (by decide) (index := 30) (mc uZ_14) (v := .ref (Y.2.1 3)) rfl dX12_about_112 ?_
                refine lv_iload_n hx hb dX12_about_115 rfl (lv_at hl 1 rfl) ?_
                obtain ⟨n16, hn16, en16, hq⟩ := hq
                refine sy_zald C hh 3 (by decide) (aZ_3 Y) tZ_3 hn16 en16 (by decide) dX12_about_116 ?_
                refine lv_if_eq (tgt := 129) hx hb dX12_about_117 (by decide) (fun c17 => ?_) (fun c17 => ?_)
                · have hq := hq.1 c17
                  refine lv_iconst (v := (-1 : Int32)) hx hb dX12_about_129 (by decide) ?_
                  exact sy_iret C hh dX12_about_130 hq
                · have hq := hq.2 c17
                  refine lv_aload_n hx hb dX12_about_120 rfl (lv_at hl 0 rfl) ?_
                  refine sy_get C hh (fun w h => mc (uZ_fX12 w h)) 0 (by decide) (oZ_0 Y) rfl 19 (by decide) (index := 40) (mc uZ_17) (v := .ref (Y.2.1 6)) rfl dX12_about_121 ?_
                  refine lv_iload_n hx hb dX12_about_124 rfl (lv_at hl 1 rfl) ?_
                  refine sy_iald C hh 6 (by decide) (aZ_6 Y) tZ_6 hn16 en16 (by decide) dX12_about_125 ?_
                  refine lv_goto (tgt := 130) hx hb dX12_about_126 (by decide) ?_
                  exact sy_iret C hh dX12_about_130 hq
              · have hq := hq.2 c15
                by_cases c18 : a2 = (nI 6)
                · have hq := hq.1 c18
                  refine lv_tableIn (tgt := 131) (off := 115) hx hb dX12_about_16 (by rw [c18]; decide) (by rw [c18]; decide) (by rw [c18]; rfl) (by decide) ?_
                  refine lv_aload_n hx hb dX12_about_131 rfl (lv_at hl 0 rfl) ?_
                  refine sy_get C hh (fun w h => mc (uZ_fX12 w h)) 0 (by decide) (oZ_0 Y) rfl 16 (by decide) (index := 30) (mc uZ_14) (v := .ref (Y.2.1 3)) rfl dX12_about_132 ?_
                  refine lv_iload_n hx hb dX12_about_135 rfl (lv_at hl 1 rfl) ?_
                  obtain ⟨n19, hn19, en19, hq⟩ := hq
                  refine sy_zald C hh 3 (by decide) (aZ_3 Y) tZ_3 hn19 en19 (by decide) dX12_about_136 ?_
                  refine lv_if_ne (tgt := 144) hx hb dX12_about_137 (by decide) (fun c20 => ?_) (fun c20 => ?_)
                  · have hq := hq.1 c20
                    refine lv_aload_n hx hb dX12_about_144 rfl (lv_at hl 0 rfl) ?_
                    refine sy_get C hh (fun w h => mc (uZ_fX12 w h)) 0 (by decide) (oZ_0 Y) rfl 20 (by decide) (index := 43) (mc uZ_18) (v := .ref (Y.2.1 7)) rfl dX12_about_145 ?_
                    refine lv_iload_n hx hb dX12_about_148 rfl (lv_at hl 1 rfl) ?_
                    refine sy_zald C hh 7 (by decide) (aZ_7 Y) tZ_7 hn19 en19 (by decide) dX12_about_149 ?_
                    refine lv_if_eq (tgt := 157) hx hb dX12_about_150 (by decide) (fun c21 => ?_) (fun c21 => ?_)
                    · have hq := hq.1 c21
                      refine lv_iconst (v := (0 : Int32)) hx hb dX12_about_157 (by decide) ?_
                      exact sy_iret C hh dX12_about_158 hq
                    · have hq := hq.2 c21
                      refine lv_iconst (v := (1 : Int32)) hx hb dX12_about_153 (by decide) ?_
                      refine lv_goto (tgt := 158) hx hb dX12_about_154 (by decide) ?_
                      exact sy_iret C hh dX12_about_158 hq
                  · have hq := hq.2 c20
                    refine lv_iconst (v := (-1 : Int32)) hx hb dX12_about_140 (by decide) ?_
                    refine lv_goto (tgt := 158) hx hb dX12_about_141 (by decide) ?_
                    exact sy_iret C hh dX12_about_158 hq
                · have hq := hq.2 c18
                  by_cases c22 : a2 = (nI 7)
                  · have hq := hq.1 c22
                    refine lv_tableIn (tgt := 159) (off := 143) hx hb dX12_about_16 (by rw [c22]; decide) (by rw [c22]; decide) (by rw [c22]; rfl) (by decide) ?_
                    refine lv_aload_n hx hb dX12_about_159 rfl (lv_at hl 0 rfl) ?_
                    refine sy_get C hh (fun w h => mc (uZ_fX12 w h)) 0 (by decide) (oZ_0 Y) rfl 16 (by decide) (index := 30) (mc uZ_14) (v := .ref (Y.2.1 3)) rfl dX12_about_160 ?_
                    refine lv_iload_n hx hb dX12_about_163 rfl (lv_at hl 1 rfl) ?_
                    obtain ⟨n23, hn23, en23, hq⟩ := hq
                    refine sy_zald C hh 3 (by decide) (aZ_3 Y) tZ_3 hn23 en23 (by decide) dX12_about_164 ?_
                    refine lv_if_eq (tgt := 177) hx hb dX12_about_165 (by decide) (fun c24 => ?_) (fun c24 => ?_)
                    · have hq := hq.1 c24
                      refine lv_iconst (v := (-1 : Int32)) hx hb dX12_about_177 (by decide) ?_
                      exact sy_iret C hh dX12_about_178 hq
                    · have hq := hq.2 c24
                      refine lv_aload_n hx hb dX12_about_168 rfl (lv_at hl 0 rfl) ?_
                      refine sy_get C hh (fun w h => mc (uZ_fX12 w h)) 0 (by decide) (oZ_0 Y) rfl 28 (by decide) (index := 64) (mc uZ_25) (v := .ref (Y.2.1 14)) rfl dX12_about_169 ?_
                      refine lv_iload_n hx hb dX12_about_172 rfl (lv_at hl 1 rfl) ?_
                      obtain ⟨b25, hq⟩ := hq
                      refine sy_iald C hh 14 (by decide) (aZ_14 Y) tZ_14 b25 en23 (by decide) dX12_about_173 ?_
                      refine lv_goto (tgt := 178) hx hb dX12_about_174 (by decide) ?_
                      exact sy_iret C hh dX12_about_178 hq
                  · have hq := hq.2 c22
                    by_cases c26 : a2 = (nI 8)
                    · have hq := hq.1 c26
                      refine lv_tableIn (tgt := 179) (off := 163) hx hb dX12_about_16 (by rw [c26]; decide) (by rw [c26]; decide) (by rw [c26]; rfl) (by decide) ?_
                      refine lv_aload_n hx hb dX12_about_179 rfl (lv_at hl 0 rfl) ?_
                      refine sy_get C hh (fun w h => mc (uZ_fX12 w h)) 0 (by decide) (oZ_0 Y) rfl 16 (by decide) (index := 30) (mc uZ_14) (v := .ref (Y.2.1 3)) rfl dX12_about_180 ?_
                      refine lv_iload_n hx hb dX12_about_183 rfl (lv_at hl 1 rfl) ?_
                      obtain ⟨n27, hn27, en27, hq⟩ := hq
                      refine sy_zald C hh 3 (by decide) (aZ_3 Y) tZ_3 hn27 en27 (by decide) dX12_about_184 ?_
                      refine lv_if_ne (tgt := 192) hx hb dX12_about_185 (by decide) (fun c28 => ?_) (fun c28 => ?_)
                      · have hq := hq.1 c28
                        refine lv_aload_n hx hb dX12_about_192 rfl (lv_at hl 0 rfl) ?_
                        refine sy_get C hh (fun w h => mc (uZ_fX12 w h)) 0 (by decide) (oZ_0 Y) rfl 29 (by decide) (index := 67) (mc uZ_26) (v := .ref (Y.2.1 15)) rfl dX12_about_193 ?_
                        refine lv_iload_n hx hb dX12_about_196 rfl (lv_at hl 1 rfl) ?_
                        obtain ⟨b29, hq⟩ := hq
                        refine sy_zald C hh 15 (by decide) (aZ_15 Y) tZ_15 b29 en27 (by decide) dX12_about_197 ?_
                        refine lv_if_eq (tgt := 205) hx hb dX12_about_198 (by decide) (fun c30 => ?_) (fun c30 => ?_)
                        · have hq := hq.1 c30
                          refine lv_iconst (v := (0 : Int32)) hx hb dX12_about_205 (by decide) ?_
                          exact sy_iret C hh dX12_about_206 hq
                        · have hq := hq.2 c30
                          refine lv_iconst (v := (1 : Int32)) hx hb dX12_about_201 (by decide) ?_
                          refine lv_goto (tgt := 206) hx hb dX12_about_202 (by decide) ?_
                          exact sy_iret C hh dX12_about_206 hq
                      · have hq := hq.2 c28
                        refine lv_iconst (v := (-1 : Int32)) hx hb dX12_about_188 (by decide) ?_
                        refine lv_goto (tgt := 206) hx hb dX12_about_189 (by decide) ?_
                        exact sy_iret C hh dX12_about_206 hq
                    · have hq := hq.2 c26
                      refine lv_tableOut (tgt := 207) hx hb dX12_about_16 (by have := lv_neT c4 (a := 0) (by decide); have := lv_neT c6 (a := 1) (by decide); have := lv_neT c9 (a := 2) (by decide); have := lv_neT c11 (a := 3) (by decide); have := lv_neT c13 (a := 4) (by decide); have := lv_neT c15 (a := 5) (by decide); have := lv_neT c18 (a := 6) (by decide); have := lv_neT c22 (a := 7) (by decide); have := lv_neT c26 (a := 8) (by decide); omega) (by decide) ?_
                      refine lv_iconst (v := (-1 : Int32)) hx hb dX12_about_207 (by decide) ?_
                      exact sy_iret C hh dX12_about_208 hq
  · have hq := hq.2 c3
    refine lv_iconst (v := (-1 : Int32)) hx hb dX12_about_13 (by decide) ?_
    exact sy_iret C hh dX12_about_14 hq

/-! AreaSetterModel.letter(II)I -/
def wX12_letter (M : sy_M) (a1 : Int32) (a2 : Int32) (Q : Int32 → sy_M → Prop) : Prop := wX12_isBox (mu M 0 0 (0 : Int32)) a1 (fun r2 M1 => ((r2 = 0 → Q (-1 : Int32) M1) ∧ (¬ r2 = 0 → ((a2 < 0 → Q (-1 : Int32) M1) ∧ (¬ a2 < 0 → ∃ n5 : Nat, n5 < 82 ∧ a1 = nI n5 ∧ (((M1 9 n5) ≤ a2 → Q (-1 : Int32) M1) ∧ (¬ (M1 9 n5) ≤ a2 → ∃ n7 : Nat, n7 < 656 ∧ (((nI 8) * a1) + a2) = nI n7 ∧ Q (M1 10 n7) M1)))))))
section
variable {p : Program} {l : Launch} {e : Env} {s : State} {m : MethodId} {args : Array Value} {below : List Frame} {meth : Method} {c : Code} {Y : sy_Y}
end
set_option maxHeartbeats 4000000 in
set_option maxRecDepth 100000 in
theorem mX12_letter (l : Launch) (Y : sy_Y) (sz : Nat) (M : sy_M) (a1 : Int32) (a2 : Int32) (Q : Int32 → sy_M → Prop) (hq : wX12_letter M a1 a2 Q) : Met l yX12_letter vsX12_letter ({ frames := 1, cells := 0, slots := 0, locals := 21 } : Room) (va_Pc [.ref (Y.2.1 0), .int a1, .int a2] (sy_pre Y NZ EZ tfZ sz M)) (sy_QI Y NZ EZ sz Q) 0 0 (sy_A NZ Y.2.1 sz) := by
  refine sy_metI (by decide) rfl (Nat.le_of_ble_eq_true rfl) ?_
  intro p e s m args below meth c C ls hl hh
  have hx := C.1.1
  have hb := C.1.2.1
  have hl : lv_has ls 3 [(0, .ref (Y.2.1 0)), (1, .int a1), (2, .int a2)] := hl
  unfold wX12_letter at hq
  refine lv_aload_n hx hb dX12_letter_0 rfl (lv_at hl 0 rfl) ?_
  refine lv_iconst (v := (0 : Int32)) hx hb dX12_letter_1 (by decide) ?_
  refine sy_put C hh (fun w h => mc (uZ_fX12 w h)) tyX12 tyX12_ok nmX12 0 (by decide) (oZ_0 Y) rfl 0 (by decide) (index := 1) (mc uZ_1) rfl 0 (0 : Int32) (ty := .int) (tyX12_ok 0 (by decide)) rfl rfl (Nat.le_of_ble_eq_true rfl) (pX12_0 Y _ _ _) dX12_letter_2 (fun H locs hh => ?_)
  refine lv_aload_n hx hb dX12_letter_5 rfl (lv_at hl 0 rfl) ?_
  refine lv_iload_n hx hb dX12_letter_6 rfl (lv_at hl 1 rfl) ?_
  refine sy_cIV C hh (As := [.int a1]) (rest := []) 0 (by decide) (oZ_0 Y) rfl (mX12_isBox l Y _ (mu M 0 0 (0 : Int32)) a1 _ hq) (cwV 1 C.1.2.2.2.2 (sy_goodV uZ_good uZ_183 uZ_184 uZ_185 uZ_55 uZ_180 _) rfl rfl rfl hdX12_isBox ⟨Nat.le_of_ble_eq_true rfl, Nat.le_of_ble_eq_true rfl⟩) rfl hl.1 rfl (Nat.le_of_ble_eq_true rfl) dX12_letter_7 (fun r2 M1 H locs hq hh => ?_)
  refine lv_if_eq (tgt := 41) hx hb dX12_letter_10 (by decide) (fun c3 => ?_) (fun c3 => ?_)
  · have hq := hq.1 c3
    refine lv_iconst (v := (-1 : Int32)) hx hb dX12_letter_41 (by decide) ?_
    exact sy_iret C hh dX12_letter_42 hq
  · have hq := hq.2 c3
    refine lv_iload_n hx hb dX12_letter_13 rfl (lv_at hl 2 rfl) ?_
    refine lv_if_lt (tgt := 41) hx hb dX12_letter_14 (by decide) (fun c4 => ?_) (fun c4 => ?_)
    · have hq := hq.1 c4
      refine lv_iconst (v := (-1 : Int32)) hx hb dX12_letter_41 (by decide) ?_
      exact sy_iret C hh dX12_letter_42 hq
    · have hq := hq.2 c4
      refine lv_iload_n hx hb dX12_letter_17 rfl (lv_at hl 2 rfl) ?_
      refine lv_aload_n hx hb dX12_letter_18 rfl (lv_at hl 0 rfl) ?_
      refine sy_get C hh (fun w h => mc (uZ_fX12 w h)) 0 (by decide) (oZ_0 Y) rfl 22 (by decide) (index := 49) (mc uZ_20) (v := .ref (Y.2.1 9)) rfl dX12_letter_19 ?_
      refine lv_iload_n hx hb dX12_letter_22 rfl (lv_at hl 1 rfl) ?_
      obtain ⟨n5, hn5, en5, hq⟩ := hq
      refine sy_iald C hh 9 (by decide) (aZ_9 Y) tZ_9 hn5 en5 (by decide) dX12_letter_23 ?_
      refine lv_icmp_ge (tgt := 41) hx hb dX12_letter_24 (by decide) (fun c6 => ?_) (fun c6 => ?_)
      · have hq := hq.1 c6
        refine lv_iconst (v := (-1 : Int32)) hx hb dX12_letter_41 (by decide) ?_
        exact sy_iret C hh dX12_letter_42 hq
      · have hq := hq.2 c6
        refine lv_aload_n hx hb dX12_letter_27 rfl (lv_at hl 0 rfl) ?_
        refine sy_get C hh (fun w h => mc (uZ_fX12 w h)) 0 (by decide) (oZ_0 Y) rfl 23 (by decide) (index := 52) (mc uZ_21) (v := .ref (Y.2.1 10)) rfl dX12_letter_28 ?_
        refine lv_bipush (v := (nI 8)) hx hb dX12_letter_31 (by decide) ?_
        refine lv_iload_n hx hb dX12_letter_33 rfl (lv_at hl 1 rfl) ?_
        refine lv_imul hx hb dX12_letter_34 ?_
        refine lv_iload_n hx hb dX12_letter_35 rfl (lv_at hl 2 rfl) ?_
        refine lv_iadd hx hb dX12_letter_36 ?_
        obtain ⟨n7, hn7, en7, hq⟩ := hq
        refine sy_bald C hh 10 (by decide) (aZ_10 Y) tZ_10 hn7 en7 (by decide) dX12_letter_37 ?_
        refine lv_goto (tgt := 42) hx hb dX12_letter_38 (by decide) ?_
        exact sy_iret C hh dX12_letter_42 hq

/-! AreaSetterModel.named()I -/
def wX12_named_39 (K_88 : sy_M → Int32 → Int32 → Int32 → Prop) (Q : Int32 → sy_M → Prop) : Nat → sy_M → Int32 → Int32 → Int32 → Int32 → Prop
  | 0, _, _, _, _, _ => False
  | n + 1, M, x1, x2, x3, x4 => ∃ n4 : Nat, n4 < 82 ∧ x2 = nI n4 ∧ (((M 9 n4) ≤ x4 → K_88 M x1 x2 x3) ∧ (¬ (M 9 n4) ≤ x4 → ((x3 = 0 → K_88 M x1 x2 x3) ∧ (¬ x3 = 0 → ∃ n7 : Nat, n7 < 656 ∧ (((nI 8) * x2) + x4) = nI n7 ∧ ∃ n8 : Nat, n8 < 1000 ∧ x4 = nI n8 ∧ ((¬ (M 10 n7) = (M 1 n8) → wX12_named_39 K_88 Q n M x1 x2 (0 : Int32) (x4 + (1 : Int32))) ∧ ((M 10 n7) = (M 1 n8) → wX12_named_39 K_88 Q n M x1 x2 (1 : Int32) (x4 + (1 : Int32))))))))
def wX12_named_88 (K_9 : sy_M → Int32 → Int32 → Prop) (Q : Int32 → sy_M → Prop) (M : sy_M) (x1 : Int32) (x2 : Int32) (x3 : Int32) : Prop := ((x3 = 0 → K_9 M x1 (x2 + (1 : Int32))) ∧ (¬ x3 = 0 → K_9 M x2 (x2 + (1 : Int32))))
def wX12_named_9 (Q : Int32 → sy_M → Prop) : Nat → sy_M → Int32 → Int32 → Prop
  | 0, _, _, _ => False
  | n + 1, M, x1, x2 => (((M 0 13) ≤ x2 → Q x1 (mu M 0 5 (0 : Int32))) ∧ (¬ (M 0 13) ≤ x2 → ∃ n2 : Nat, n2 < 82 ∧ x2 = nI n2 ∧ ((¬ (M 9 n2) = (M 0 5) → ∃ n18 : Nat, wX12_named_39 (fun (M10 : sy_M) (x1_11 : Int32) (x2_12 : Int32) (x3_13 : Int32) => wX12_named_88 (fun (M15 : sy_M) (x1_16 : Int32) (x2_17 : Int32) => wX12_named_9 Q n M15 x1_16 x2_17) Q M10 x1_11 x2_12 x3_13) Q n18 M x1 x2 (0 : Int32) (0 : Int32)) ∧ ((M 9 n2) = (M 0 5) → ∃ n26 : Nat, wX12_named_39 (fun (M19 : sy_M) (x1_20 : Int32) (x2_21 : Int32) (x3_22 : Int32) => wX12_named_88 (fun (M23 : sy_M) (x1_24 : Int32) (x2_25 : Int32) => wX12_named_9 Q n M23 x1_24 x2_25) Q M19 x1_20 x2_21 x3_22) Q n26 M x1 x2 (1 : Int32) (0 : Int32)))))
def wX12_named (M : sy_M)  (Q : Int32 → sy_M → Prop) : Prop := ∃ n27 : Nat, wX12_named_9  Q n27 (mu M 0 0 (0 : Int32)) (-1 : Int32) (0 : Int32)
section
variable {p : Program} {l : Launch} {e : Env} {s : State} {m : MethodId} {args : Array Value} {below : List Frame} {meth : Method} {c : Code} {Y : sy_Y}
set_option maxHeartbeats 4000000 in
set_option maxRecDepth 100000 in
theorem kX12_named_39 (C : sy_C p m c cX12_named 5 s args vsX12_named RX12 meth (some .int) Y NZ tfZ) {Q : Int32 → sy_M → Prop} {K_88 : sy_M → Int32 → Int32 → Int32 → Prop} (hK_88 : ∀ (M : sy_M) (x1 : Int32) (x2 : Int32) (x3 : Int32) (H : Heap) (locs : List Loc) (ls : Array Slot), K_88 M x1 x2 x3 → sy_H Y NZ EZ s H locs M → lv_has ls 5 [(0, .ref (Y.2.1 0)), (1, .int x1), (2, .int x2), (3, .int x3)] → W p l e ({ frames := 0, cells := 0, slots := 0, locals := 0 } : Room) s m args below meth c H locs 0 0 (sy_ZI below args s Y NZ EZ Q) (F0 m 88 ls [])) :
    ∀ (n : Nat) (M : sy_M) (x1 : Int32) (x2 : Int32) (x3 : Int32) (x4 : Int32) (H : Heap) (locs : List Loc) (ls : Array Slot), wX12_named_39 K_88 Q n M x1 x2 x3 x4 → sy_H Y NZ EZ s H locs M → lv_has ls 5 [(0, .ref (Y.2.1 0)), (1, .int x1), (2, .int x2), (3, .int x3), (4, .int x4)] → W p l e ({ frames := 0, cells := 0, slots := 0, locals := 0 } : Room) s m args below meth c H locs 0 0 (sy_ZI below args s Y NZ EZ Q) (F0 m 39 ls []) := by
  have hx := C.1.1
  have hb := C.1.2.1
  intro n
  induction n with
  | zero =>
    intro M x1 x2 x3 x4 H locs ls hq hh hl
    unfold wX12_named_39 at hq
    exact hq.elim
  | succ n ih =>
    intro M x1 x2 x3 x4 H locs ls hq hh hl
    unfold wX12_named_39 at hq
    refine lv_iload hx hb dX12_named_39 (lv_at hl 4 rfl) ?_
    refine lv_aload_n hx hb dX12_named_41 rfl (lv_at hl 0 rfl) ?_
    refine sy_get C hh (fun w h => mc (uZ_fX12 w h)) 0 (by decide) (oZ_0 Y) rfl 22 (by decide) (index := 49) (mc uZ_20) (v := .ref (Y.2.1 9)) rfl dX12_named_42 ?_
    refine lv_iload_n hx hb dX12_named_45 rfl (lv_at hl 2 rfl) ?_
    obtain ⟨n4, hn4, en4, hq⟩ := hq
    refine sy_iald C hh 9 (by decide) (aZ_9 Y) tZ_9 hn4 en4 (by decide) dX12_named_46 ?_
    refine lv_icmp_ge (tgt := 88) hx hb dX12_named_47 (by decide) (fun c5 => ?_) (fun c5 => ?_)
    · have hq := hq.1 c5
      exact hK_88 M x1 x2 x3 _ _ _ hq hh (lv_sub hl [0, 1, 2, 3] rfl)
    · have hq := hq.2 c5
      refine lv_iload_n hx hb dX12_named_50 rfl (lv_at hl 3 rfl) ?_
      refine lv_if_eq (tgt := 88) hx hb dX12_named_51 (by decide) (fun c6 => ?_) (fun c6 => ?_)
      · have hq := hq.1 c6
        exact hK_88 M x1 x2 x3 _ _ _ hq hh (lv_sub hl [0, 1, 2, 3] rfl)
      · have hq := hq.2 c6
        refine lv_aload_n hx hb dX12_named_54 rfl (lv_at hl 0 rfl) ?_
        refine sy_get C hh (fun w h => mc (uZ_fX12 w h)) 0 (by decide) (oZ_0 Y) rfl 23 (by decide) (index := 52) (mc uZ_21) (v := .ref (Y.2.1 10)) rfl dX12_named_55 ?_
        refine lv_bipush (v := (nI 8)) hx hb dX12_named_58 (by decide) ?_
        refine lv_iload_n hx hb dX12_named_60 rfl (lv_at hl 2 rfl) ?_
        refine lv_imul hx hb dX12_named_61 ?_
        refine lv_iload hx hb dX12_named_62 (lv_at hl 4 rfl) ?_
        refine lv_iadd hx hb dX12_named_64 ?_
        obtain ⟨n7, hn7, en7, hq⟩ := hq
        refine sy_bald C hh 10 (by decide) (aZ_10 Y) tZ_10 hn7 en7 (by decide) dX12_named_65 ?_
        refine lv_aload_n hx hb dX12_named_66 rfl (lv_at hl 0 rfl) ?_
        refine sy_get C hh (fun w h => mc (uZ_fX12 w h)) 0 (by decide) (oZ_0 Y) rfl 4 (by decide) (index := 19) (mc uZ_9) (v := .ref (Y.2.1 1)) rfl dX12_named_67 ?_
        refine lv_iload hx hb dX12_named_70 (lv_at hl 4 rfl) ?_
        obtain ⟨n8, hn8, en8, hq⟩ := hq
        refine sy_bald C hh 1 (by decide) (aZ_1 Y) tZ_1 hn8 en8 (by decide) dX12_named_72 ?_
        refine lv_icmp_ne (tgt := 80) hx hb dX12_named_73 (by decide) (fun c9 => ?_) (fun c9 => ?_)
        · have hq := hq.1 c9
          refine lv_iconst (v := (0 : Int32)) hx hb dX12_named_80 (by decide) ?_
          refine lv_istore_n (lv' := [(3, .int (0 : Int32)), (0, .ref (Y.2.1 0)), (1, .int x1), (2, .int x2), (4, .int x4)]) hx hb dX12_named_81 rfl hl (by decide) rfl (fun ls hl => ?_)
          refine lv_iinc (v := (x4 + (1 : Int32))) (lv' := [(4, .int (x4 + (1 : Int32))), (3, .int (0 : Int32)), (0, .ref (Y.2.1 0)), (1, .int x1), (2, .int x2)]) hx hb dX12_named_82 hl (k := 4) rfl (sy_inc (by decide)) (by decide) rfl (fun ls hl => ?_)
          refine lv_goto (tgt := 39) hx hb dX12_named_85 (by decide) ?_
          exact ih M x1 x2 (0 : Int32) (x4 + (1 : Int32)) _ _ _ hq hh (lv_sub hl [2, 3, 4, 1, 0] rfl)
        · have hq := hq.2 c9
          refine lv_iconst (v := (1 : Int32)) hx hb dX12_named_76 (by decide) ?_
          refine lv_goto (tgt := 81) hx hb dX12_named_77 (by decide) ?_
          refine lv_istore_n (lv' := [(3, .int (1 : Int32)), (0, .ref (Y.2.1 0)), (1, .int x1), (2, .int x2), (4, .int x4)]) hx hb dX12_named_81 rfl hl (by decide) rfl (fun ls hl => ?_)
          refine lv_iinc (v := (x4 + (1 : Int32))) (lv' := [(4, .int (x4 + (1 : Int32))), (3, .int (1 : Int32)), (0, .ref (Y.2.1 0)), (1, .int x1), (2, .int x2)]) hx hb dX12_named_82 hl (k := 4) rfl (sy_inc (by decide)) (by decide) rfl (fun ls hl => ?_)
          refine lv_goto (tgt := 39) hx hb dX12_named_85 (by decide) ?_
          exact ih M x1 x2 (1 : Int32) (x4 + (1 : Int32)) _ _ _ hq hh (lv_sub hl [2, 3, 4, 1, 0] rfl)

set_option maxHeartbeats 4000000 in
set_option maxRecDepth 100000 in
theorem kX12_named_88 (C : sy_C p m c cX12_named 5 s args vsX12_named RX12 meth (some .int) Y NZ tfZ) {Q : Int32 → sy_M → Prop} {K_9 : sy_M → Int32 → Int32 → Prop} (hK_9 : ∀ (M : sy_M) (x1 : Int32) (x2 : Int32) (H : Heap) (locs : List Loc) (ls : Array Slot), K_9 M x1 x2 → sy_H Y NZ EZ s H locs M → lv_has ls 5 [(0, .ref (Y.2.1 0)), (1, .int x1), (2, .int x2)] → W p l e ({ frames := 0, cells := 0, slots := 0, locals := 0 } : Room) s m args below meth c H locs 0 0 (sy_ZI below args s Y NZ EZ Q) (F0 m 9 ls [])) :
    ∀ (M : sy_M) (x1 : Int32) (x2 : Int32) (x3 : Int32) (H : Heap) (locs : List Loc) (ls : Array Slot), wX12_named_88 K_9 Q M x1 x2 x3 → sy_H Y NZ EZ s H locs M → lv_has ls 5 [(0, .ref (Y.2.1 0)), (1, .int x1), (2, .int x2), (3, .int x3)] → W p l e ({ frames := 0, cells := 0, slots := 0, locals := 0 } : Room) s m args below meth c H locs 0 0 (sy_ZI below args s Y NZ EZ Q) (F0 m 88 ls []) := by
  have hx := C.1.1
  have hb := C.1.2.1
  intro M x1 x2 x3 H locs ls hq hh hl
  unfold wX12_named_88 at hq
  refine lv_iload_n hx hb dX12_named_88 rfl (lv_at hl 3 rfl) ?_
  refine lv_if_eq (tgt := 94) hx hb dX12_named_89 (by decide) (fun c14 => ?_) (fun c14 => ?_)
  · have hq := hq.1 c14
    refine lv_iinc (v := (x2 + (1 : Int32))) (lv' := [(2, .int (x2 + (1 : Int32))), (0, .ref (Y.2.1 0)), (1, .int x1), (3, .int x3)]) hx hb dX12_named_94 hl (k := 2) rfl (sy_inc (by decide)) (by decide) rfl (fun ls hl => ?_)
    refine lv_goto (tgt := 9) hx hb dX12_named_97 (by decide) ?_
    exact hK_9 M x1 (x2 + (1 : Int32)) _ _ _ hq hh (lv_sub hl [1, 2, 0] rfl)
  · have hq := hq.2 c14
    refine lv_iload_n hx hb dX12_named_92 rfl (lv_at hl 2 rfl) ?_
    refine lv_istore_n (lv' := [(1, .int x2), (0, .ref (Y.2.1 0)), (2, .int x2), (3, .int x3)]) hx hb dX12_named_93 rfl hl (by decide) rfl (fun ls hl => ?_)
    refine lv_iinc (v := (x2 + (1 : Int32))) (lv' := [(2, .int (x2 + (1 : Int32))), (1, .int x2), (0, .ref (Y.2.1 0)), (3, .int x3)]) hx hb dX12_named_94 hl (k := 2) rfl (sy_inc (by decide)) (by decide) rfl (fun ls hl => ?_)
    refine lv_goto (tgt := 9) hx hb dX12_named_97 (by decide) ?_
    exact hK_9 M x2 (x2 + (1 : Int32)) _ _ _ hq hh (lv_sub hl [2, 1, 0] rfl)

set_option maxHeartbeats 4000000 in
set_option maxRecDepth 100000 in
theorem kX12_named_9 (C : sy_C p m c cX12_named 5 s args vsX12_named RX12 meth (some .int) Y NZ tfZ) {Q : Int32 → sy_M → Prop} :
    ∀ (n : Nat) (M : sy_M) (x1 : Int32) (x2 : Int32) (H : Heap) (locs : List Loc) (ls : Array Slot), wX12_named_9 Q n M x1 x2 → sy_H Y NZ EZ s H locs M → lv_has ls 5 [(0, .ref (Y.2.1 0)), (1, .int x1), (2, .int x2)] → W p l e ({ frames := 0, cells := 0, slots := 0, locals := 0 } : Room) s m args below meth c H locs 0 0 (sy_ZI below args s Y NZ EZ Q) (F0 m 9 ls []) := by
  have hx := C.1.1
  have hb := C.1.2.1
  intro n
  induction n with
  | zero =>
    intro M x1 x2 H locs ls hq hh hl
    unfold wX12_named_9 at hq
    exact hq.elim
  | succ n ih =>
    intro M x1 x2 H locs ls hq hh hl
    unfold wX12_named_9 at hq
    refine lv_iload_n hx hb dX12_named_9 rfl (lv_at hl 2 rfl) ?_
    refine lv_aload_n hx hb dX12_named_10 rfl (lv_at hl 0 rfl) ?_
    refine sy_get C hh (fun w h => mc (uZ_fX12 w h)) 0 (by decide) (oZ_0 Y) rfl 13 (by decide) (index := 243) (mc uZ_175) (v := .int (M 0 13)) rfl dX12_named_11 ?_
    refine lv_icmp_ge (tgt := 100) hx hb dX12_named_14 (by decide) (fun c1 => ?_) (fun c1 => ?_)
    · have hq := hq.1 c1
      refine lv_aload_n hx hb dX12_named_100 rfl (lv_at hl 0 rfl) ?_
      refine lv_iconst (v := (0 : Int32)) hx hb dX12_named_101 (by decide) ?_
      refine sy_put C hh (fun w h => mc (uZ_fX12 w h)) tyX12 tyX12_ok nmX12 0 (by decide) (oZ_0 Y) rfl 5 (by decide) (index := 149) (mc uZ_59) rfl 5 (0 : Int32) (ty := .int) (tyX12_ok 5 (by decide)) rfl rfl (Nat.le_of_ble_eq_true rfl) (pX12_5 Y _ _ _) dX12_named_102 (fun H locs hh => ?_)
      refine lv_iload_n hx hb dX12_named_105 rfl (lv_at hl 1 rfl) ?_
      exact sy_iret C hh dX12_named_106 hq
    · have hq := hq.2 c1
      refine lv_aload_n hx hb dX12_named_17 rfl (lv_at hl 0 rfl) ?_
      refine sy_get C hh (fun w h => mc (uZ_fX12 w h)) 0 (by decide) (oZ_0 Y) rfl 22 (by decide) (index := 49) (mc uZ_20) (v := .ref (Y.2.1 9)) rfl dX12_named_18 ?_
      refine lv_iload_n hx hb dX12_named_21 rfl (lv_at hl 2 rfl) ?_
      obtain ⟨n2, hn2, en2, hq⟩ := hq
      refine sy_iald C hh 9 (by decide) (aZ_9 Y) tZ_9 hn2 en2 (by decide) dX12_named_22 ?_
      refine lv_aload_n hx hb dX12_named_23 rfl (lv_at hl 0 rfl) ?_
      refine sy_get C hh (fun w h => mc (uZ_fX12 w h)) 0 (by decide) (oZ_0 Y) rfl 5 (by decide) (index := 149) (mc uZ_59) (v := .int (M 0 5)) rfl dX12_named_24 ?_
      refine lv_icmp_ne (tgt := 34) hx hb dX12_named_27 (by decide) (fun c3 => ?_) (fun c3 => ?_)
      · have hq := hq.1 c3
        refine lv_iconst (v := (0 : Int32)) hx hb dX12_named_34 (by decide) ?_
        refine lv_istore_n (lv' := [(3, .int (0 : Int32)), (0, .ref (Y.2.1 0)), (1, .int x1), (2, .int x2)]) hx hb dX12_named_35 rfl hl (by decide) rfl (fun ls hl => ?_)
        refine lv_iconst (v := (0 : Int32)) hx hb dX12_named_36 (by decide) ?_
        refine lv_istore (lv' := [(4, .int (0 : Int32)), (3, .int (0 : Int32)), (0, .ref (Y.2.1 0)), (1, .int x1), (2, .int x2)]) hx hb dX12_named_37 hl (by decide) rfl (fun ls hl => ?_)
        obtain ⟨n18, hq⟩ := hq
        refine kX12_named_39 C (fun M10 x1_11 x2_12 x3_13 H locs ls hq hh hl => ?_) n18 M x1 x2 (0 : Int32) (0 : Int32) _ _ _ hq hh (lv_sub hl [2, 3, 4, 1, 0] rfl)
        · refine kX12_named_88 C (fun M15 x1_16 x2_17 H locs ls hq hh hl => ?_) M10 x1_11 x2_12 x3_13 _ _ _ hq hh (lv_sub hl [0, 1, 2, 3] rfl)
          · exact ih M15 x1_16 x2_17 _ _ _ hq hh (lv_sub hl [0, 1, 2] rfl)
      · have hq := hq.2 c3
        refine lv_iconst (v := (1 : Int32)) hx hb dX12_named_30 (by decide) ?_
        refine lv_goto (tgt := 35) hx hb dX12_named_31 (by decide) ?_
        refine lv_istore_n (lv' := [(3, .int (1 : Int32)), (0, .ref (Y.2.1 0)), (1, .int x1), (2, .int x2)]) hx hb dX12_named_35 rfl hl (by decide) rfl (fun ls hl => ?_)
        refine lv_iconst (v := (0 : Int32)) hx hb dX12_named_36 (by decide) ?_
        refine lv_istore (lv' := [(4, .int (0 : Int32)), (3, .int (1 : Int32)), (0, .ref (Y.2.1 0)), (1, .int x1), (2, .int x2)]) hx hb dX12_named_37 hl (by decide) rfl (fun ls hl => ?_)
        obtain ⟨n26, hq⟩ := hq
        refine kX12_named_39 C (fun M19 x1_20 x2_21 x3_22 H locs ls hq hh hl => ?_) n26 M x1 x2 (1 : Int32) (0 : Int32) _ _ _ hq hh (lv_sub hl [2, 3, 4, 1, 0] rfl)
        · refine kX12_named_88 C (fun M23 x1_24 x2_25 H locs ls hq hh hl => ?_) M19 x1_20 x2_21 x3_22 _ _ _ hq hh (lv_sub hl [0, 1, 2, 3] rfl)
          · exact ih M23 x1_24 x2_25 _ _ _ hq hh (lv_sub hl [0, 1, 2] rfl)

end
set_option maxHeartbeats 4000000 in
set_option maxRecDepth 100000 in
theorem mX12_named (l : Launch) (Y : sy_Y) (sz : Nat) (M : sy_M) (Q : Int32 → sy_M → Prop) (hq : wX12_named M  Q) : Met l yX12_named vsX12_named ({ frames := 0, cells := 0, slots := 0, locals := 0 } : Room) (va_Pc [.ref (Y.2.1 0)] (sy_pre Y NZ EZ tfZ sz M)) (sy_QI Y NZ EZ sz Q) 0 0 (sy_A NZ Y.2.1 sz) := by
  refine sy_metI (by decide) rfl (Nat.le_of_ble_eq_true rfl) ?_
  intro p e s m args below meth c C ls hl hh
  have hx := C.1.1
  have hb := C.1.2.1
  have hl : lv_has ls 5 [(0, .ref (Y.2.1 0))] := hl
  unfold wX12_named at hq
  refine lv_aload_n hx hb dX12_named_0 rfl (lv_at hl 0 rfl) ?_
  refine lv_iconst (v := (0 : Int32)) hx hb dX12_named_1 (by decide) ?_
  refine sy_put C hh (fun w h => mc (uZ_fX12 w h)) tyX12 tyX12_ok nmX12 0 (by decide) (oZ_0 Y) rfl 0 (by decide) (index := 1) (mc uZ_1) rfl 0 (0 : Int32) (ty := .int) (tyX12_ok 0 (by decide)) rfl rfl (Nat.le_of_ble_eq_true rfl) (pX12_0 Y _ _ _) dX12_named_2 (fun H locs hh => ?_)
  refine lv_iconst (v := (-1 : Int32)) hx hb dX12_named_5 (by decide) ?_
  refine lv_istore_n (lv' := [(1, .int (-1 : Int32)), (0, .ref (Y.2.1 0))]) hx hb dX12_named_6 rfl hl (by decide) rfl (fun ls hl => ?_)
  refine lv_iconst (v := (0 : Int32)) hx hb dX12_named_7 (by decide) ?_
  refine lv_istore_n (lv' := [(2, .int (0 : Int32)), (1, .int (-1 : Int32)), (0, .ref (Y.2.1 0))]) hx hb dX12_named_8 rfl hl (by decide) rfl (fun ls hl => ?_)
  obtain ⟨n27, hq⟩ := hq
  refine kX12_named_9 C  n27 (mu M 0 0 (0 : Int32)) (-1 : Int32) (0 : Int32) _ _ _ hq hh (lv_sub hl [2, 1, 0] rfl)

/-! AreaSetterModel.groups()I -/
def wX12_groups_4 (Q : Int32 → sy_M → Prop) : Nat → sy_M → Int32 → Int32 → Prop
  | 0, _, _, _ => False
  | n + 1, M, x1, x2 => (((M 0 13) ≤ x2 → Q x1 M) ∧ (¬ (M 0 13) ≤ x2 → ∃ n2 : Nat, n2 < 82 ∧ x2 = nI n2 ∧ (((M 3 n2) = 0 → wX12_groups_4 Q n M x1 (x2 + (1 : Int32))) ∧ (¬ (M 3 n2) = 0 → wX12_groups_4 Q n M (x1 + (1 : Int32)) (x2 + (1 : Int32))))))
def wX12_groups (M : sy_M)  (Q : Int32 → sy_M → Prop) : Prop := ∃ n4 : Nat, wX12_groups_4  Q n4 M (0 : Int32) (0 : Int32)
section
variable {p : Program} {l : Launch} {e : Env} {s : State} {m : MethodId} {args : Array Value} {below : List Frame} {meth : Method} {c : Code} {Y : sy_Y}
set_option maxHeartbeats 4000000 in
set_option maxRecDepth 100000 in
theorem kX12_groups_4 (C : sy_C p m c cX12_groups 3 s args vsX12_groups RX12 meth (some .int) Y NZ tfZ) {Q : Int32 → sy_M → Prop} :
    ∀ (n : Nat) (M : sy_M) (x1 : Int32) (x2 : Int32) (H : Heap) (locs : List Loc) (ls : Array Slot), wX12_groups_4 Q n M x1 x2 → sy_H Y NZ EZ s H locs M → lv_has ls 3 [(0, .ref (Y.2.1 0)), (1, .int x1), (2, .int x2)] → W p l e ({ frames := 0, cells := 0, slots := 0, locals := 0 } : Room) s m args below meth c H locs 0 0 (sy_ZI below args s Y NZ EZ Q) (F0 m 4 ls []) := by
  have hx := C.1.1
  have hb := C.1.2.1
  intro n
  induction n with
  | zero =>
    intro M x1 x2 H locs ls hq hh hl
    unfold wX12_groups_4 at hq
    exact hq.elim
  | succ n ih =>
    intro M x1 x2 H locs ls hq hh hl
    unfold wX12_groups_4 at hq
    refine lv_iload_n hx hb dX12_groups_4 rfl (lv_at hl 2 rfl) ?_
    refine lv_aload_n hx hb dX12_groups_5 rfl (lv_at hl 0 rfl) ?_
    refine sy_get C hh (fun w h => mc (uZ_fX12 w h)) 0 (by decide) (oZ_0 Y) rfl 13 (by decide) (index := 243) (mc uZ_175) (v := .int (M 0 13)) rfl dX12_groups_6 ?_
    refine lv_icmp_ge (tgt := 30) hx hb dX12_groups_9 (by decide) (fun c1 => ?_) (fun c1 => ?_)
    · have hq := hq.1 c1
      refine lv_iload_n hx hb dX12_groups_30 rfl (lv_at hl 1 rfl) ?_
      exact sy_iret C hh dX12_groups_31 hq
    · have hq := hq.2 c1
      refine lv_aload_n hx hb dX12_groups_12 rfl (lv_at hl 0 rfl) ?_
      refine sy_get C hh (fun w h => mc (uZ_fX12 w h)) 0 (by decide) (oZ_0 Y) rfl 16 (by decide) (index := 30) (mc uZ_14) (v := .ref (Y.2.1 3)) rfl dX12_groups_13 ?_
      refine lv_iload_n hx hb dX12_groups_16 rfl (lv_at hl 2 rfl) ?_
      obtain ⟨n2, hn2, en2, hq⟩ := hq
      refine sy_zald C hh 3 (by decide) (aZ_3 Y) tZ_3 hn2 en2 (by decide) dX12_groups_17 ?_
      refine lv_if_eq (tgt := 24) hx hb dX12_groups_18 (by decide) (fun c3 => ?_) (fun c3 => ?_)
      · have hq := hq.1 c3
        refine lv_iinc (v := (x2 + (1 : Int32))) (lv' := [(2, .int (x2 + (1 : Int32))), (0, .ref (Y.2.1 0)), (1, .int x1)]) hx hb dX12_groups_24 hl (k := 2) rfl (sy_inc (by decide)) (by decide) rfl (fun ls hl => ?_)
        refine lv_goto (tgt := 4) hx hb dX12_groups_27 (by decide) ?_
        exact ih M x1 (x2 + (1 : Int32)) _ _ _ hq hh (lv_sub hl [1, 2, 0] rfl)
      · have hq := hq.2 c3
        refine lv_iinc (v := (x1 + (1 : Int32))) (lv' := [(1, .int (x1 + (1 : Int32))), (0, .ref (Y.2.1 0)), (2, .int x2)]) hx hb dX12_groups_21 hl (k := 1) rfl (sy_inc (by decide)) (by decide) rfl (fun ls hl => ?_)
        refine lv_iinc (v := (x2 + (1 : Int32))) (lv' := [(2, .int (x2 + (1 : Int32))), (1, .int (x1 + (1 : Int32))), (0, .ref (Y.2.1 0))]) hx hb dX12_groups_24 hl (k := 2) rfl (sy_inc (by decide)) (by decide) rfl (fun ls hl => ?_)
        refine lv_goto (tgt := 4) hx hb dX12_groups_27 (by decide) ?_
        exact ih M (x1 + (1 : Int32)) (x2 + (1 : Int32)) _ _ _ hq hh (lv_sub hl [2, 1, 0] rfl)

end
set_option maxHeartbeats 4000000 in
set_option maxRecDepth 100000 in
theorem mX12_groups (l : Launch) (Y : sy_Y) (sz : Nat) (M : sy_M) (Q : Int32 → sy_M → Prop) (hq : wX12_groups M  Q) : Met l yX12_groups vsX12_groups ({ frames := 0, cells := 0, slots := 0, locals := 0 } : Room) (va_Pc [.ref (Y.2.1 0)] (sy_pre Y NZ EZ tfZ sz M)) (sy_QI Y NZ EZ sz Q) 0 0 (sy_A NZ Y.2.1 sz) := by
  refine sy_metI (by decide) rfl (Nat.le_of_ble_eq_true rfl) ?_
  intro p e s m args below meth c C ls hl hh
  have hx := C.1.1
  have hb := C.1.2.1
  have hl : lv_has ls 3 [(0, .ref (Y.2.1 0))] := hl
  unfold wX12_groups at hq
  refine lv_iconst (v := (0 : Int32)) hx hb dX12_groups_0 (by decide) ?_
  refine lv_istore_n (lv' := [(1, .int (0 : Int32)), (0, .ref (Y.2.1 0))]) hx hb dX12_groups_1 rfl hl (by decide) rfl (fun ls hl => ?_)
  refine lv_iconst (v := (0 : Int32)) hx hb dX12_groups_2 (by decide) ?_
  refine lv_istore_n (lv' := [(2, .int (0 : Int32)), (1, .int (0 : Int32)), (0, .ref (Y.2.1 0))]) hx hb dX12_groups_3 rfl hl (by decide) rfl (fun ls hl => ?_)
  obtain ⟨n4, hq⟩ := hq
  refine kX12_groups_4 C  n4 M (0 : Int32) (0 : Int32) _ _ _ hq hh (lv_sub hl [2, 1, 0] rfl)

/-! AreaSetterModel.shown()I -/
def wX12_shown_4 (Q : Int32 → sy_M → Prop) : Nat → sy_M → Int32 → Int32 → Prop
  | 0, _, _, _ => False
  | n + 1, M, x1, x2 => (((M 0 13) ≤ x2 → Q x1 M) ∧ (¬ (M 0 13) ≤ x2 → (((M 0 40) ≤ 0 → Q x1 M) ∧ (¬ (M 0 40) ≤ 0 → wX12_rowOf M ((M 0 40) - (1 : Int32)) (fun r4 M3 => ∃ n5 : Nat, n5 < 2091 ∧ (r4 + x2) = nI n5 ∧ (((M3 26 n5) = 0 → wX12_shown_4 Q n M3 x1 (x2 + (1 : Int32))) ∧ (¬ (M3 26 n5) = 0 → wX12_shown_4 Q n M3 (x1 + (1 : Int32)) (x2 + (1 : Int32)))))))))
def wX12_shown (M : sy_M)  (Q : Int32 → sy_M → Prop) : Prop := ∃ n7 : Nat, wX12_shown_4  Q n7 M (0 : Int32) (0 : Int32)
section
variable {p : Program} {l : Launch} {e : Env} {s : State} {m : MethodId} {args : Array Value} {below : List Frame} {meth : Method} {c : Code} {Y : sy_Y}
set_option maxHeartbeats 4000000 in
set_option maxRecDepth 100000 in
theorem kX12_shown_4 (C : sy_C p m c cX12_shown 3 s args vsX12_shown RX12 meth (some .int) Y NZ tfZ) {Q : Int32 → sy_M → Prop} :
    ∀ (n : Nat) (M : sy_M) (x1 : Int32) (x2 : Int32) (H : Heap) (locs : List Loc) (ls : Array Slot), wX12_shown_4 Q n M x1 x2 → sy_H Y NZ EZ s H locs M → lv_has ls 3 [(0, .ref (Y.2.1 0)), (1, .int x1), (2, .int x2)] → W p l e ({ frames := 1, cells := 0, slots := 0, locals := 20 } : Room) s m args below meth c H locs 0 0 (sy_ZI below args s Y NZ EZ Q) (F0 m 4 ls []) := by
  have hx := C.1.1
  have hb := C.1.2.1
  intro n
  induction n with
  | zero =>
    intro M x1 x2 H locs ls hq hh hl
    unfold wX12_shown_4 at hq
    exact hq.elim
  | succ n ih =>
    intro M x1 x2 H locs ls hq hh hl
    unfold wX12_shown_4 at hq
    refine lv_iload_n hx hb dX12_shown_4 rfl (lv_at hl 2 rfl) ?_
    refine lv_aload_n hx hb dX12_shown_5 rfl (lv_at hl 0 rfl) ?_
    refine sy_get C hh (fun w h => mc (uZ_fX12 w h)) 0 (by decide) (oZ_0 Y) rfl 13 (by decide) (index := 243) (mc uZ_175) (v := .int (M 0 13)) rfl dX12_shown_6 ?_
    refine lv_icmp_ge (tgt := 47) hx hb dX12_shown_9 (by decide) (fun c1 => ?_) (fun c1 => ?_)
    · have hq := hq.1 c1
      refine lv_iload_n hx hb dX12_shown_47 rfl (lv_at hl 1 rfl) ?_
      exact sy_iret C hh dX12_shown_48 hq
    · have hq := hq.2 c1
      refine lv_aload_n hx hb dX12_shown_12 rfl (lv_at hl 0 rfl) ?_
      refine sy_get C hh (fun w h => mc (uZ_fX12 w h)) 0 (by decide) (oZ_0 Y) rfl 40 (by decide) (index := 249) (mc uZ_177) (v := .int (M 0 40)) rfl dX12_shown_13 ?_
      refine lv_if_le (tgt := 47) hx hb dX12_shown_16 (by decide) (fun c2 => ?_) (fun c2 => ?_)
      · have hq := hq.1 c2
        refine lv_iload_n hx hb dX12_shown_47 rfl (lv_at hl 1 rfl) ?_
        exact sy_iret C hh dX12_shown_48 hq
      · have hq := hq.2 c2
        refine lv_aload_n hx hb dX12_shown_19 rfl (lv_at hl 0 rfl) ?_
        refine sy_get C hh (fun w h => mc (uZ_fX12 w h)) 0 (by decide) (oZ_0 Y) rfl 42 (by decide) (index := 100) (mc uZ_37) (v := .ref (Y.2.1 26)) rfl dX12_shown_20 ?_
        refine lv_aload_n hx hb dX12_shown_23 rfl (lv_at hl 0 rfl) ?_
        refine sy_get C hh (fun w h => mc (uZ_fX12 w h)) 0 (by decide) (oZ_0 Y) rfl 40 (by decide) (index := 249) (mc uZ_177) (v := .int (M 0 40)) rfl dX12_shown_24 ?_
        refine lv_iconst (v := (1 : Int32)) hx hb dX12_shown_27 (by decide) ?_
        refine lv_isub hx hb dX12_shown_28 ?_
        refine sy_cIS C hh (As := [.int ((M 0 40) - (1 : Int32))]) (rest := [.ref (Y.2.1 26)]) (mX12_rowOf l Y _ M ((M 0 40) - (1 : Int32)) _ hq) (va_cwS 1 C.1.2.2.2.2 (sy_goodS uZ_good uZ_271 uZ_272 uZ_55 uZ_265 _) rfl rfl rfl hdX12_rowOf.2 ⟨Nat.le_of_ble_eq_true rfl, Nat.le_of_ble_eq_true rfl⟩) rfl hl.1 rfl (Nat.le_of_ble_eq_true rfl) dX12_shown_29 (fun r4 M3 H locs hq hh => ?_)
        refine lv_iload_n hx hb dX12_shown_32 rfl (lv_at hl 2 rfl) ?_
        refine lv_iadd hx hb dX12_shown_33 ?_
        obtain ⟨n5, hn5, en5, hq⟩ := hq
        refine sy_zald C hh 26 (by decide) (aZ_26 Y) tZ_26 hn5 en5 (by decide) dX12_shown_34 ?_
        refine lv_if_eq (tgt := 41) hx hb dX12_shown_35 (by decide) (fun c6 => ?_) (fun c6 => ?_)
        · have hq := hq.1 c6
          refine lv_iinc (v := (x2 + (1 : Int32))) (lv' := [(2, .int (x2 + (1 : Int32))), (0, .ref (Y.2.1 0)), (1, .int x1)]) hx hb dX12_shown_41 hl (k := 2) rfl (sy_inc (by decide)) (by decide) rfl (fun ls hl => ?_)
          refine lv_goto (tgt := 4) hx hb dX12_shown_44 (by decide) ?_
          exact ih M3 x1 (x2 + (1 : Int32)) _ _ _ hq hh (lv_sub hl [1, 2, 0] rfl)
        · have hq := hq.2 c6
          refine lv_iinc (v := (x1 + (1 : Int32))) (lv' := [(1, .int (x1 + (1 : Int32))), (0, .ref (Y.2.1 0)), (2, .int x2)]) hx hb dX12_shown_38 hl (k := 1) rfl (sy_inc (by decide)) (by decide) rfl (fun ls hl => ?_)
          refine lv_iinc (v := (x2 + (1 : Int32))) (lv' := [(2, .int (x2 + (1 : Int32))), (1, .int (x1 + (1 : Int32))), (0, .ref (Y.2.1 0))]) hx hb dX12_shown_41 hl (k := 2) rfl (sy_inc (by decide)) (by decide) rfl (fun ls hl => ?_)
          refine lv_goto (tgt := 4) hx hb dX12_shown_44 (by decide) ?_
          exact ih M3 (x1 + (1 : Int32)) (x2 + (1 : Int32)) _ _ _ hq hh (lv_sub hl [2, 1, 0] rfl)

end
set_option maxHeartbeats 4000000 in
set_option maxRecDepth 100000 in
theorem mX12_shown (l : Launch) (Y : sy_Y) (sz : Nat) (M : sy_M) (Q : Int32 → sy_M → Prop) (hq : wX12_shown M  Q) : Met l yX12_shown vsX12_shown ({ frames := 1, cells := 0, slots := 0, locals := 20 } : Room) (va_Pc [.ref (Y.2.1 0)] (sy_pre Y NZ EZ tfZ sz M)) (sy_QI Y NZ EZ sz Q) 0 0 (sy_A NZ Y.2.1 sz) := by
  refine sy_metI (by decide) rfl (Nat.le_of_ble_eq_true rfl) ?_
  intro p e s m args below meth c C ls hl hh
  have hx := C.1.1
  have hb := C.1.2.1
  have hl : lv_has ls 3 [(0, .ref (Y.2.1 0))] := hl
  unfold wX12_shown at hq
  refine lv_iconst (v := (0 : Int32)) hx hb dX12_shown_0 (by decide) ?_
  refine lv_istore_n (lv' := [(1, .int (0 : Int32)), (0, .ref (Y.2.1 0))]) hx hb dX12_shown_1 rfl hl (by decide) rfl (fun ls hl => ?_)
  refine lv_iconst (v := (0 : Int32)) hx hb dX12_shown_2 (by decide) ?_
  refine lv_istore_n (lv' := [(2, .int (0 : Int32)), (1, .int (0 : Int32)), (0, .ref (Y.2.1 0))]) hx hb dX12_shown_3 rfl hl (by decide) rfl (fun ls hl => ?_)
  obtain ⟨n7, hq⟩ := hq
  refine kX12_shown_4 C  n7 M (0 : Int32) (0 : Int32) _ _ _ hq hh (lv_sub hl [2, 1, 0] rfl)

/-! AreaSetterModel.greatestWorst()I -/
def wX12_greatestWorst_4 (Q : Int32 → sy_M → Prop) : Nat → sy_M → Int32 → Int32 → Prop
  | 0, _, _, _ => False
  | n + 1, M, x1, x2 => (((M 0 13) ≤ x2 → Q x1 M) ∧ (¬ (M 0 13) ≤ x2 → (((M 0 40) ≤ 0 → Q x1 M) ∧ (¬ (M 0 40) ≤ 0 → ∃ n3 : Nat, n3 < 82 ∧ x2 = nI n3 ∧ (((M 3 n3) = 0 → wX12_greatestWorst_4 Q n M x1 (x2 + (1 : Int32))) ∧ (¬ (M 3 n3) = 0 → n3 < 41 ∧ wX12_greatestWorst_4 Q n M (imax x1 (M 33 n3)) (x2 + (1 : Int32))))))))
def wX12_greatestWorst (M : sy_M)  (Q : Int32 → sy_M → Prop) : Prop := ∃ n6 : Nat, wX12_greatestWorst_4  Q n6 M (0 : Int32) (0 : Int32)
section
variable {p : Program} {l : Launch} {e : Env} {s : State} {m : MethodId} {args : Array Value} {below : List Frame} {meth : Method} {c : Code} {Y : sy_Y}
set_option maxHeartbeats 4000000 in
set_option maxRecDepth 100000 in
theorem kX12_greatestWorst_4 (C : sy_C p m c cX12_greatestWorst 3 s args vsX12_greatestWorst RX12 meth (some .int) Y NZ tfZ) {Q : Int32 → sy_M → Prop} :
    ∀ (n : Nat) (M : sy_M) (x1 : Int32) (x2 : Int32) (H : Heap) (locs : List Loc) (ls : Array Slot), wX12_greatestWorst_4 Q n M x1 x2 → sy_H Y NZ EZ s H locs M → lv_has ls 3 [(0, .ref (Y.2.1 0)), (1, .int x1), (2, .int x2)] → W p l e ({ frames := 1, cells := 0, slots := 0, locals := 21 } : Room) s m args below meth c H locs 0 0 (sy_ZI below args s Y NZ EZ Q) (F0 m 4 ls []) := by
  have hx := C.1.1
  have hb := C.1.2.1
  intro n
  induction n with
  | zero =>
    intro M x1 x2 H locs ls hq hh hl
    unfold wX12_greatestWorst_4 at hq
    exact hq.elim
  | succ n ih =>
    intro M x1 x2 H locs ls hq hh hl
    unfold wX12_greatestWorst_4 at hq
    refine lv_iload_n hx hb dX12_greatestWorst_4 rfl (lv_at hl 2 rfl) ?_
    refine lv_aload_n hx hb dX12_greatestWorst_5 rfl (lv_at hl 0 rfl) ?_
    refine sy_get C hh (fun w h => mc (uZ_fX12 w h)) 0 (by decide) (oZ_0 Y) rfl 13 (by decide) (index := 243) (mc uZ_175) (v := .int (M 0 13)) rfl dX12_greatestWorst_6 ?_
    refine lv_icmp_ge (tgt := 45) hx hb dX12_greatestWorst_9 (by decide) (fun c1 => ?_) (fun c1 => ?_)
    · have hq := hq.1 c1
      refine lv_iload_n hx hb dX12_greatestWorst_45 rfl (lv_at hl 1 rfl) ?_
      exact sy_iret C hh dX12_greatestWorst_46 hq
    · have hq := hq.2 c1
      refine lv_aload_n hx hb dX12_greatestWorst_12 rfl (lv_at hl 0 rfl) ?_
      refine sy_get C hh (fun w h => mc (uZ_fX12 w h)) 0 (by decide) (oZ_0 Y) rfl 40 (by decide) (index := 249) (mc uZ_177) (v := .int (M 0 40)) rfl dX12_greatestWorst_13 ?_
      refine lv_if_le (tgt := 45) hx hb dX12_greatestWorst_16 (by decide) (fun c2 => ?_) (fun c2 => ?_)
      · have hq := hq.1 c2
        refine lv_iload_n hx hb dX12_greatestWorst_45 rfl (lv_at hl 1 rfl) ?_
        exact sy_iret C hh dX12_greatestWorst_46 hq
      · have hq := hq.2 c2
        refine lv_aload_n hx hb dX12_greatestWorst_19 rfl (lv_at hl 0 rfl) ?_
        refine sy_get C hh (fun w h => mc (uZ_fX12 w h)) 0 (by decide) (oZ_0 Y) rfl 16 (by decide) (index := 30) (mc uZ_14) (v := .ref (Y.2.1 3)) rfl dX12_greatestWorst_20 ?_
        refine lv_iload_n hx hb dX12_greatestWorst_23 rfl (lv_at hl 2 rfl) ?_
        obtain ⟨n3, hn3, en3, hq⟩ := hq
        refine sy_zald C hh 3 (by decide) (aZ_3 Y) tZ_3 hn3 en3 (by decide) dX12_greatestWorst_24 ?_
        refine lv_if_eq (tgt := 39) hx hb dX12_greatestWorst_25 (by decide) (fun c4 => ?_) (fun c4 => ?_)
        · have hq := hq.1 c4
          refine lv_iinc (v := (x2 + (1 : Int32))) (lv' := [(2, .int (x2 + (1 : Int32))), (0, .ref (Y.2.1 0)), (1, .int x1)]) hx hb dX12_greatestWorst_39 hl (k := 2) rfl (sy_inc (by decide)) (by decide) rfl (fun ls hl => ?_)
          refine lv_goto (tgt := 4) hx hb dX12_greatestWorst_42 (by decide) ?_
          exact ih M x1 (x2 + (1 : Int32)) _ _ _ hq hh (lv_sub hl [1, 2, 0] rfl)
        · have hq := hq.2 c4
          refine lv_iload_n hx hb dX12_greatestWorst_28 rfl (lv_at hl 1 rfl) ?_
          refine lv_aload_n hx hb dX12_greatestWorst_29 rfl (lv_at hl 0 rfl) ?_
          refine sy_get C hh (fun w h => mc (uZ_fX12 w h)) 0 (by decide) (oZ_0 Y) rfl 49 (by decide) (index := 121) (mc uZ_44) (v := .ref (Y.2.1 33)) rfl dX12_greatestWorst_30 ?_
          refine lv_iload_n hx hb dX12_greatestWorst_33 rfl (lv_at hl 2 rfl) ?_
          obtain ⟨b5, hq⟩ := hq
          refine sy_iald C hh 33 (by decide) (aZ_33 Y) tZ_33 b5 en3 (by decide) dX12_greatestWorst_34 ?_
          refine sy_mmax C hl (index := 268) (mc uZ_196) (mc uZ_197) (mc uZ_198) (mc uZ_199) (by decide) (Nat.le_of_ble_eq_true rfl) dX12_greatestWorst_35 ?_
          refine lv_istore_n (lv' := [(1, .int (imax x1 (M 33 n3))), (0, .ref (Y.2.1 0)), (2, .int x2)]) hx hb dX12_greatestWorst_38 rfl hl (by decide) rfl (fun ls hl => ?_)
          refine lv_iinc (v := (x2 + (1 : Int32))) (lv' := [(2, .int (x2 + (1 : Int32))), (1, .int (imax x1 (M 33 n3))), (0, .ref (Y.2.1 0))]) hx hb dX12_greatestWorst_39 hl (k := 2) rfl (sy_inc (by decide)) (by decide) rfl (fun ls hl => ?_)
          refine lv_goto (tgt := 4) hx hb dX12_greatestWorst_42 (by decide) ?_
          exact ih M (imax x1 (M 33 n3)) (x2 + (1 : Int32)) _ _ _ hq hh (lv_sub hl [2, 1, 0] rfl)

end
set_option maxHeartbeats 4000000 in
set_option maxRecDepth 100000 in
theorem mX12_greatestWorst (l : Launch) (Y : sy_Y) (sz : Nat) (M : sy_M) (Q : Int32 → sy_M → Prop) (hq : wX12_greatestWorst M  Q) : Met l yX12_greatestWorst vsX12_greatestWorst ({ frames := 1, cells := 0, slots := 0, locals := 21 } : Room) (va_Pc [.ref (Y.2.1 0)] (sy_pre Y NZ EZ tfZ sz M)) (sy_QI Y NZ EZ sz Q) 0 0 (sy_A NZ Y.2.1 sz) := by
  refine sy_metI (by decide) rfl (Nat.le_of_ble_eq_true rfl) ?_
  intro p e s m args below meth c C ls hl hh
  have hx := C.1.1
  have hb := C.1.2.1
  have hl : lv_has ls 3 [(0, .ref (Y.2.1 0))] := hl
  unfold wX12_greatestWorst at hq
  refine lv_iconst (v := (0 : Int32)) hx hb dX12_greatestWorst_0 (by decide) ?_
  refine lv_istore_n (lv' := [(1, .int (0 : Int32)), (0, .ref (Y.2.1 0))]) hx hb dX12_greatestWorst_1 rfl hl (by decide) rfl (fun ls hl => ?_)
  refine lv_iconst (v := (0 : Int32)) hx hb dX12_greatestWorst_2 (by decide) ?_
  refine lv_istore_n (lv' := [(2, .int (0 : Int32)), (1, .int (0 : Int32)), (0, .ref (Y.2.1 0))]) hx hb dX12_greatestWorst_3 rfl hl (by decide) rfl (fun ls hl => ?_)
  obtain ⟨n6, hq⟩ := hq
  refine kX12_greatestWorst_4 C  n6 M (0 : Int32) (0 : Int32) _ _ _ hq hh (lv_sub hl [2, 1, 0] rfl)

/-! AreaSetterModel.count(I)I -/
def wX12_count (M : sy_M) (a1 : Int32) (Q : Int32 → sy_M → Prop) : Prop := ((a1 = (0 : Int32) → Q (M 0 13) (mu M 0 0 (0 : Int32))) ∧ (¬ a1 = (0 : Int32) → ((a1 = (1 : Int32) → wX12_groups (mu M 0 0 (0 : Int32)) (fun r4 M3 => Q r4 M3)) ∧ (¬ a1 = (1 : Int32) → ((a1 = (nI 2) → Q (M 0 24) (mu M 0 0 (0 : Int32))) ∧ (¬ a1 = (nI 2) → ((a1 = (nI 3) → Q (M 0 40) (mu M 0 0 (0 : Int32))) ∧ (¬ a1 = (nI 3) → ((a1 = (nI 4) → Q (M 0 5) (mu M 0 0 (0 : Int32))) ∧ (¬ a1 = (nI 4) → ((a1 = (nI 5) → wX12_shown (mu M 0 0 (0 : Int32)) (fun r10 M9 => Q r10 M9)) ∧ (¬ a1 = (nI 5) → ((a1 = (nI 6) → wX12_greatestWorst (mu M 0 0 (0 : Int32)) (fun r13 M12 => Q r13 M12)) ∧ (¬ a1 = (nI 6) → Q (-1 : Int32) (mu M 0 0 (0 : Int32))))))))))))))))
section
variable {p : Program} {l : Launch} {e : Env} {s : State} {m : MethodId} {args : Array Value} {below : List Frame} {meth : Method} {c : Code} {Y : sy_Y}
end
set_option maxHeartbeats 4000000 in
set_option maxRecDepth 100000 in
theorem mX12_count (l : Launch) (Y : sy_Y) (sz : Nat) (M : sy_M) (a1 : Int32) (Q : Int32 → sy_M → Prop) (hq : wX12_count M a1 Q) : Met l yX12_count vsX12_count ({ frames := 2, cells := 0, slots := 0, locals := 43 } : Room) (va_Pc [.ref (Y.2.1 0), .int a1] (sy_pre Y NZ EZ tfZ sz M)) (sy_QI Y NZ EZ sz Q) 0 0 (sy_A NZ Y.2.1 sz) := by
  refine sy_metI (by decide) rfl (Nat.le_of_ble_eq_true rfl) ?_
  intro p e s m args below meth c C ls hl hh
  have hx := C.1.1
  have hb := C.1.2.1
  have hl : lv_has ls 2 [(0, .ref (Y.2.1 0)), (1, .int a1)] := hl
  unfold wX12_count at hq
  refine lv_aload_n hx hb dX12_count_0 rfl (lv_at hl 0 rfl) ?_
  refine lv_iconst (v := (0 : Int32)) hx hb dX12_count_1 (by decide) ?_
  refine sy_put C hh (fun w h => mc (uZ_fX12 w h)) tyX12 tyX12_ok nmX12 0 (by decide) (oZ_0 Y) rfl 0 (by decide) (index := 1) (mc uZ_1) rfl 0 (0 : Int32) (ty := .int) (tyX12_ok 0 (by decide)) rfl rfl (Nat.le_of_ble_eq_true rfl) (pX12_0 Y _ _ _) dX12_count_2 (fun H locs hh => ?_)
  refine lv_iload_n hx hb dX12_count_5 rfl (lv_at hl 1 rfl) ?_
  by_cases c1 : a1 = (0 : Int32)
  · have hq := hq.1 c1
    refine lv_tableIn (tgt := 48) (off := 42) hx hb dX12_count_6 (by rw [c1]; decide) (by rw [c1]; decide) (by rw [c1]; rfl) (by decide) ?_
    refine lv_aload_n hx hb dX12_count_48 rfl (lv_at hl 0 rfl) ?_
    refine sy_get C hh (fun w h => mc (uZ_fX12 w h)) 0 (by decide) (oZ_0 Y) rfl 13 (by decide) (index := 243) (mc uZ_175) (v := .int (M 0 13)) rfl dX12_count_49 ?_
    exact sy_iret C hh dX12_count_52 hq
  · have hq := hq.2 c1
    by_cases c2 : a1 = (1 : Int32)
    · have hq := hq.1 c2
      refine lv_tableIn (tgt := 53) (off := 47) hx hb dX12_count_6 (by rw [c2]; decide) (by rw [c2]; decide) (by rw [c2]; rfl) (by decide) ?_
      refine lv_aload_n hx hb dX12_count_53 rfl (lv_at hl 0 rfl) ?_
      refine sy_cIV C hh (As := []) (rest := []) 0 (by decide) (oZ_0 Y) rfl (mX12_groups l Y _ (mu M 0 0 (0 : Int32))  _ hq) (cwV 0 C.1.2.2.2.2 (sy_goodV uZ_good uZ_315 uZ_316 uZ_317 uZ_55 uZ_312 _) rfl rfl rfl hdX12_groups ⟨Nat.le_of_ble_eq_true rfl, Nat.le_of_ble_eq_true rfl⟩) rfl hl.1 rfl (Nat.le_of_ble_eq_true rfl) dX12_count_54 (fun r4 M3 H locs hq hh => ?_)
      exact sy_iret C hh dX12_count_57 hq
    · have hq := hq.2 c2
      by_cases c5 : a1 = (nI 2)
      · have hq := hq.1 c5
        refine lv_tableIn (tgt := 58) (off := 52) hx hb dX12_count_6 (by rw [c5]; decide) (by rw [c5]; decide) (by rw [c5]; rfl) (by decide) ?_
        refine lv_aload_n hx hb dX12_count_58 rfl (lv_at hl 0 rfl) ?_
        refine sy_get C hh (fun w h => mc (uZ_fX12 w h)) 0 (by decide) (oZ_0 Y) rfl 24 (by decide) (index := 246) (mc uZ_176) (v := .int (M 0 24)) rfl dX12_count_59 ?_
        exact sy_iret C hh dX12_count_62 hq
      · have hq := hq.2 c5
        by_cases c6 : a1 = (nI 3)
        · have hq := hq.1 c6
          refine lv_tableIn (tgt := 63) (off := 57) hx hb dX12_count_6 (by rw [c6]; decide) (by rw [c6]; decide) (by rw [c6]; rfl) (by decide) ?_
          refine lv_aload_n hx hb dX12_count_63 rfl (lv_at hl 0 rfl) ?_
          refine sy_get C hh (fun w h => mc (uZ_fX12 w h)) 0 (by decide) (oZ_0 Y) rfl 40 (by decide) (index := 249) (mc uZ_177) (v := .int (M 0 40)) rfl dX12_count_64 ?_
          exact sy_iret C hh dX12_count_67 hq
        · have hq := hq.2 c6
          by_cases c7 : a1 = (nI 4)
          · have hq := hq.1 c7
            refine lv_tableIn (tgt := 68) (off := 62) hx hb dX12_count_6 (by rw [c7]; decide) (by rw [c7]; decide) (by rw [c7]; rfl) (by decide) ?_
            refine lv_aload_n hx hb dX12_count_68 rfl (lv_at hl 0 rfl) ?_
            refine sy_get C hh (fun w h => mc (uZ_fX12 w h)) 0 (by decide) (oZ_0 Y) rfl 5 (by decide) (index := 149) (mc uZ_59) (v := .int (M 0 5)) rfl dX12_count_69 ?_
            exact sy_iret C hh dX12_count_72 hq
          · have hq := hq.2 c7
            by_cases c8 : a1 = (nI 5)
            · have hq := hq.1 c8
              refine lv_tableIn (tgt := 73) (off := 67) hx hb dX12_count_6 (by rw [c8]; decide) (by rw [c8]; decide) (by rw [c8]; rfl) (by decide) ?_
              refine lv_aload_n hx hb dX12_count_73 rfl (lv_at hl 0 rfl) ?_
              refine sy_cIV C hh (As := []) (rest := []) 0 (by decide) (oZ_0 Y) rfl (mX12_shown l Y _ (mu M 0 0 (0 : Int32))  _ hq) (cwV 0 C.1.2.2.2.2 (sy_goodV uZ_good uZ_318 uZ_319 uZ_320 uZ_55 uZ_313 _) rfl rfl rfl hdX12_shown ⟨Nat.le_of_ble_eq_true rfl, Nat.le_of_ble_eq_true rfl⟩) rfl hl.1 rfl (Nat.le_of_ble_eq_true rfl) dX12_count_74 (fun r10 M9 H locs hq hh => ?_)
              exact sy_iret C hh dX12_count_77 hq
            · have hq := hq.2 c8
              by_cases c11 : a1 = (nI 6)
              · have hq := hq.1 c11
                refine lv_tableIn (tgt := 78) (off := 72) hx hb dX12_count_6 (by rw [c11]; decide) (by rw [c11]; decide) (by rw [c11]; rfl) (by decide) ?_
                refine lv_aload_n hx hb dX12_count_78 rfl (lv_at hl 0 rfl) ?_
                refine sy_cIV C hh (As := []) (rest := []) 0 (by decide) (oZ_0 Y) rfl (mX12_greatestWorst l Y _ (mu M 0 0 (0 : Int32))  _ hq) (cwV 0 C.1.2.2.2.2 (sy_goodV uZ_good uZ_321 uZ_322 uZ_323 uZ_55 uZ_314 _) rfl rfl rfl hdX12_greatestWorst ⟨Nat.le_of_ble_eq_true rfl, Nat.le_of_ble_eq_true rfl⟩) rfl hl.1 rfl (Nat.le_of_ble_eq_true rfl) dX12_count_79 (fun r13 M12 H locs hq hh => ?_)
                exact sy_iret C hh dX12_count_82 hq
              · have hq := hq.2 c11
                refine lv_tableOut (tgt := 83) hx hb dX12_count_6 (by have := lv_neT c1 (a := 0) (by decide); have := lv_neT c2 (a := 1) (by decide); have := lv_neT c5 (a := 2) (by decide); have := lv_neT c6 (a := 3) (by decide); have := lv_neT c7 (a := 4) (by decide); have := lv_neT c8 (a := 5) (by decide); have := lv_neT c11 (a := 6) (by decide); omega) (by decide) ?_
                refine lv_iconst (v := (-1 : Int32)) hx hb dX12_count_83 (by decide) ?_
                exact sy_iret C hh dX12_count_84 hq

