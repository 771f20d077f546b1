/-! AreaSetterModel.drawGroup(III)V -/
def wX12_drawGroup_185 (Q : sy_M → Prop) : Nat → sy_M → Int32 → Int32 → Int32 → Prop
  | 0, _, _, _, _ => False
  | n + 1, M, x1, x2, x9 => (((M 0 30) ≤ x9 → Q M) ∧ (¬ (M 0 30) ≤ x9 → ∃ n14 : Nat, n14 < 9 ∧ x9 = nI n14 ∧ ((¬ (M 16 n14) = (-1 : Int32) → ∃ n16 : Nat, n16 < 2091 ∧ (x2 + (M 16 n14)) = nI n16 ∧ wX12_drawGroup_185 Q n (mu (mu (mu (mu (mu M 26 n16 (vp_nar .boolean (1 : Int32))) 27 n16 (M 18 n14)) 28 n16 (M 19 n14)) 29 n16 (M 20 n14)) 30 n16 (M 21 n14)) x1 x2 (x9 + (1 : Int32))) ∧ ((M 16 n14) = (-1 : Int32) → ∃ n17 : Nat, n17 < 41 ∧ x1 = nI n17 ∧ wX12_drawGroup_185 Q n (mu (mu (mu (mu M 36 n17 (M 18 n14)) 37 n17 (M 19 n14)) 38 n17 (M 20 n14)) 39 n17 (M 21 n14)) x1 x2 (x9 + (1 : Int32))))))
def wX12_drawGroup_171 (Q : sy_M → Prop) (M : sy_M) (x1 : Int32) (x2 : Int32) (s1 : Int32) (s2 : Int32) : Prop := ∃ n9 : Nat, n9 < 41 ∧ s1 = nI n9 ∧ wX12_worst (mu M 32 n9 s2) (fun r11 M10 => ∃ n12 : Nat, n12 < 41 ∧ x1 = nI n12 ∧ ∃ n18 : Nat, wX12_drawGroup_185  Q n18 (mu M10 33 n12 r11) x1 x2 (0 : Int32))
def wX12_drawGroup_134 (Q : sy_M → Prop) (M : sy_M) (x1 : Int32) (x2 : Int32) (x4 : Int32) (x5 : Int32) (x6 : Int32) (x7 : Int32) (x8 : Int32) : Prop := wX12_lays M x8 x4 x5 x6 x7 (fun M5 => wX12_sum M5 (0 : Int32) (M5 0 30) (fun r7 M6 => ((¬ r7 = 0 → wX12_drawGroup_171  Q M6 x1 x2 x1 x8) ∧ (r7 = 0 → wX12_drawGroup_171  Q M6 x1 x2 x1 (0 : Int32)))))
def wX12_drawGroup_120 (K_66 : sy_M → Int32 → Int32 → Int32 → Int32 → Int32 → Int32 → Int32 → Int32 → Int32 → Prop) (Q : sy_M → Prop) (M : sy_M) (x1 : Int32) (x2 : Int32) (x4 : Int32) (x5 : Int32) (x6 : Int32) (x7 : Int32) (x10 : Int32) (x11 : Int32) : Prop := K_66 M x1 x2 x4 x5 x6 x7 x10 x11 (x10 + (1 : Int32))
def wX12_drawGroup_66 (K_134 : sy_M → Int32 → Int32 → Int32 → Int32 → Int32 → Int32 → Int32 → Prop) (Q : sy_M → Prop) : Nat → sy_M → Int32 → Int32 → Int32 → Int32 → Int32 → Int32 → Int32 → Int32 → Int32 → Prop
  | 0, _, _, _, _, _, _, _, _, _, _ => False
  | n + 1, M, x1, x2, x4, x5, x6, x7, x8, x9, x10 => (((nI 3) ≤ x10 → K_134 M x1 x2 x4 x5 x6 x7 x8) ∧ (¬ (nI 3) ≤ x10 → wX12_lays M x10 x4 x5 x6 x7 (fun M20 => wX12_worst M20 (fun r22 M21 => wX12_moves M21 (fun r24 M23 => ((x10 ≤ 0 → wX12_drawGroup_120 (fun (M26 : sy_M) (x1_27 : Int32) (x2_28 : Int32) (x4_29 : Int32) (x5_30 : Int32) (x6_31 : Int32) (x7_32 : Int32) (x8_33 : Int32) (x9_34 : Int32) (x10_35 : Int32) => wX12_drawGroup_66 K_134 Q n M26 x1_27 x2_28 x4_29 x5_30 x6_31 x7_32 x8_33 x9_34 x10_35) Q M23 x1 x2 x4 x5 x6 x7 x10 (r22 + (((M21 0 3) * r24) / (nI 100)))) ∧ (¬ x10 ≤ 0 → (((r22 + (((M21 0 3) * r24) / (nI 100))) < x9 → wX12_drawGroup_120 (fun (M37 : sy_M) (x1_38 : Int32) (x2_39 : Int32) (x4_40 : Int32) (x5_41 : Int32) (x6_42 : Int32) (x7_43 : Int32) (x8_44 : Int32) (x9_45 : Int32) (x10_46 : Int32) => wX12_drawGroup_66 K_134 Q n M37 x1_38 x2_39 x4_40 x5_41 x6_42 x7_43 x8_44 x9_45 x10_46) Q M23 x1 x2 x4 x5 x6 x7 x10 (r22 + (((M21 0 3) * r24) / (nI 100)))) ∧ (¬ (r22 + (((M21 0 3) * r24) / (nI 100))) < x9 → wX12_drawGroup_66 K_134 Q n M23 x1 x2 x4 x5 x6 x7 x8 x9 (x10 + (1 : Int32)))))))))))
def wX12_drawGroup (M : sy_M) (a1 : Int32) (a2 : Int32) (a3 : Int32) (Q : sy_M → Prop) : Prop := ∃ n1 : Nat, n1 < 2091 ∧ (a2 + a1) = nI n1 ∧ wX12_findItems M a1 a3 (fun M2 => ∃ n3 : Nat, n3 < 82 ∧ a1 = nI n3 ∧ ((¬ (M2 6 n3) = (nI 3) → wX12_drawGroup_134  Q M2 a1 a2 (M 27 n1) (M 28 n1) (M 29 n1) (M 30 n1) (M2 6 n3)) ∧ ((M2 6 n3) = (nI 3) → ∃ n55 : Nat, wX12_drawGroup_66 (fun (M47 : sy_M) (x1_48 : Int32) (x2_49 : Int32) (x4_50 : Int32) (x5_51 : Int32) (x6_52 : Int32) (x7_53 : Int32) (x8_54 : Int32) => wX12_drawGroup_134  Q M47 x1_48 x2_49 x4_50 x5_51 x6_52 x7_53 x8_54) Q n55 M2 a1 a2 (M 27 n1) (M 28 n1) (M 29 n1) (M 30 n1) (M2 6 n3) (0 : Int32) (0 : Int32))))
section
variable {p : Program} {l : Launch} {e : Env} {s : State} {m : MethodId} {args : Array Value} {below : List Frame} {meth : Method} {c : Code} {Y : sy_Y}
set_option maxHeartbeats 4000000 in
set_option maxRecDepth 100000 in
theorem kX12_drawGroup_185 (C : sy_C p m c cX12_drawGroup 12 s args vsX12_drawGroup RX12 meth none Y NZ tfZ) {Q : sy_M → Prop} :
    ∀ (n : Nat) (M : sy_M) (x1 : Int32) (x2 : Int32) (x9 : Int32) (H : Heap) (locs : List Loc) (ls : Array Slot), wX12_drawGroup_185 Q n M x1 x2 x9 → sy_H Y NZ EZ s H locs M → lv_has ls 12 [(0, .ref (Y.2.1 0)), (1, .int x1), (2, .int x2), (9, .int x9)] → W p l e ({ frames := 40, cells := 0, slots := 0, locals := 1218 } : Room) s m args below meth c H locs 0 0 (sy_ZV below args s Y NZ EZ Q) (F0 m 185 ls []) := by
  have hx := C.1.1
  have hb := C.1.2.1
  intro n
  induction n with
  | zero =>
    intro M x1 x2 x9 H locs ls hq hh hl
    unfold wX12_drawGroup_185 at hq
    exact hq.elim
  | succ n ih =>
    intro M x1 x2 x9 H locs ls hq hh hl
    unfold wX12_drawGroup_185 at hq
    refine lv_iload hx hb dX12_drawGroup_185 (lv_at hl 3 rfl) ?_
    refine lv_aload_n hx hb dX12_drawGroup_187 rfl (lv_at hl 0 rfl) ?_
    refine sy_get C hh (fun w h => mc (uZ_fX12 w h)) 0 (by decide) (oZ_0 Y) rfl 30 (by decide) (index := 261) (mc uZ_195) (v := .int (M 0 30)) rfl dX12_drawGroup_188 ?_
    refine lv_icmp_ge (tgt := 341) hx hb dX12_drawGroup_191 (by decide) (fun c13 => ?_) (fun c13 => ?_)
    · have hq := hq.1 c13
      exact sy_vret C hh dX12_drawGroup_341 hq
    · have hq := hq.2 c13
      refine lv_aload_n hx hb dX12_drawGroup_194 rfl (lv_at hl 0 rfl) ?_
      refine sy_get C hh (fun w h => mc (uZ_fX12 w h)) 0 (by decide) (oZ_0 Y) rfl 31 (by decide) (index := 70) (mc uZ_27) (v := .ref (Y.2.1 16)) rfl dX12_drawGroup_195 ?_
      refine lv_iload hx hb dX12_drawGroup_198 (lv_at hl 3 rfl) ?_
      obtain ⟨n14, hn14, en14, hq⟩ := hq
      refine sy_iald C hh 16 (by decide) (aZ_16 Y) tZ_16 hn14 en14 (by decide) dX12_drawGroup_200 ?_
      refine lv_iconst (v := (-1 : Int32)) hx hb dX12_drawGroup_201 (by decide) ?_
      refine lv_icmp_ne (tgt := 260) hx hb dX12_drawGroup_202 (by decide) (fun c15 => ?_) (fun c15 => ?_)
      · have hq := hq.1 c15
        refine lv_iload_n hx hb dX12_drawGroup_260 rfl (lv_at hl 2 rfl) ?_
        refine lv_aload_n hx hb dX12_drawGroup_261 rfl (lv_at hl 0 rfl) ?_
        refine sy_get C hh (fun w h => mc (uZ_fX12 w h)) 0 (by decide) (oZ_0 Y) rfl 31 (by decide) (index := 70) (mc uZ_27) (v := .ref (Y.2.1 16)) rfl dX12_drawGroup_262 ?_
        refine lv_iload hx hb dX12_drawGroup_265 (lv_at hl 3 rfl) ?_
        refine sy_iald C hh 16 (by decide) (aZ_16 Y) tZ_16 hn14 en14 (by decide) dX12_drawGroup_267 ?_
        refine lv_iadd hx hb dX12_drawGroup_268 ?_
        refine lv_istore (lv' := [(10, .int (x2 + (M 16 n14))), (0, .ref (Y.2.1 0)), (1, .int x1), (2, .int x2), (9, .int x9)]) hx hb dX12_drawGroup_269 hl (by decide) rfl (fun ls hl => ?_)
        refine lv_aload_n hx hb dX12_drawGroup_271 rfl (lv_at hl 1 rfl) ?_
        refine sy_get C hh (fun w h => mc (uZ_fX12 w h)) 0 (by decide) (oZ_0 Y) rfl 42 (by decide) (index := 100) (mc uZ_37) (v := .ref (Y.2.1 26)) rfl dX12_drawGroup_272 ?_
        refine lv_iload hx hb dX12_drawGroup_275 (lv_at hl 0 rfl) ?_
        refine lv_iconst (v := (1 : Int32)) hx hb dX12_drawGroup_277 (by decide) ?_
        obtain ⟨n16, hn16, en16, hq⟩ := hq
        refine sy_zast C hh 26 (by decide) (aZ_26 Y) tZ_26 hn16 en16 (by decide) dX12_drawGroup_278 (fun H locs hh => ?_)
        refine lv_aload_n hx hb dX12_drawGroup_279 rfl (lv_at hl 1 rfl) ?_
        refine sy_get C hh (fun w h => mc (uZ_fX12 w h)) 0 (by decide) (oZ_0 Y) rfl 43 (by decide) (index := 103) (mc uZ_38) (v := .ref (Y.2.1 27)) rfl dX12_drawGroup_280 ?_
        refine lv_iload hx hb dX12_drawGroup_283 (lv_at hl 0 rfl) ?_
        refine lv_aload_n hx hb dX12_drawGroup_285 rfl (lv_at hl 1 rfl) ?_
        refine sy_get C hh (fun w h => mc (uZ_fX12 w h)) 0 (by decide) (oZ_0 Y) rfl 33 (by decide) (index := 76) (mc uZ_29) (v := .ref (Y.2.1 18)) rfl dX12_drawGroup_286 ?_
        refine lv_iload hx hb dX12_drawGroup_289 (lv_at hl 4 rfl) ?_
        refine sy_iald C hh 18 (by decide) (aZ_18 Y) tZ_18 hn14 en14 (by decide) dX12_drawGroup_291 ?_
        refine sy_iast C hh 27 (by decide) (aZ_27 Y) tZ_27 hn16 en16 (by decide) dX12_drawGroup_292 (fun H locs hh => ?_)
        refine lv_aload_n hx hb dX12_drawGroup_293 rfl (lv_at hl 1 rfl) ?_
        refine sy_get C hh (fun w h => mc (uZ_fX12 w h)) 0 (by decide) (oZ_0 Y) rfl 44 (by decide) (index := 106) (mc uZ_39) (v := .ref (Y.2.1 28)) rfl dX12_drawGroup_294 ?_
        refine lv_iload hx hb dX12_drawGroup_297 (lv_at hl 0 rfl) ?_
        refine lv_aload_n hx hb dX12_drawGroup_299 rfl (lv_at hl 1 rfl) ?_
        refine sy_get C hh (fun w h => mc (uZ_fX12 w h)) 0 (by decide) (oZ_0 Y) rfl 34 (by decide) (index := 79) (mc uZ_30) (v := .ref (Y.2.1 19)) rfl dX12_drawGroup_300 ?_
        refine lv_iload hx hb dX12_drawGroup_303 (lv_at hl 4 rfl) ?_
        refine sy_iald C hh 19 (by decide) (aZ_19 Y) tZ_19 hn14 en14 (by decide) dX12_drawGroup_305 ?_
        refine sy_iast C hh 28 (by decide) (aZ_28 Y) tZ_28 hn16 en16 (by decide) dX12_drawGroup_306 (fun H locs hh => ?_)
        refine lv_aload_n hx hb dX12_drawGroup_307 rfl (lv_at hl 1 rfl) ?_
        refine sy_get C hh (fun w h => mc (uZ_fX12 w h)) 0 (by decide) (oZ_0 Y) rfl 45 (by decide) (index := 109) (mc uZ_40) (v := .ref (Y.2.1 29)) rfl dX12_drawGroup_308 ?_
        refine lv_iload hx hb dX12_drawGroup_311 (lv_at hl 0 rfl) ?_
        refine lv_aload_n hx hb dX12_drawGroup_313 rfl (lv_at hl 1 rfl) ?_
        refine sy_get C hh (fun w h => mc (uZ_fX12 w h)) 0 (by decide) (oZ_0 Y) rfl 35 (by decide) (index := 82) (mc uZ_31) (v := .ref (Y.2.1 20)) rfl dX12_drawGroup_314 ?_
        refine lv_iload hx hb dX12_drawGroup_317 (lv_at hl 4 rfl) ?_
        refine sy_iald C hh 20 (by decide) (aZ_20 Y) tZ_20 hn14 en14 (by decide) dX12_drawGroup_319 ?_
        refine sy_iast C hh 29 (by decide) (aZ_29 Y) tZ_29 hn16 en16 (by decide) dX12_drawGroup_320 (fun H locs hh => ?_)
        refine lv_aload_n hx hb dX12_drawGroup_321 rfl (lv_at hl 1 rfl) ?_
        refine sy_get C hh (fun w h => mc (uZ_fX12 w h)) 0 (by decide) (oZ_0 Y) rfl 46 (by decide) (index := 112) (mc uZ_41) (v := .ref (Y.2.1 30)) rfl dX12_drawGroup_322 ?_
        refine lv_iload hx hb dX12_drawGroup_325 (lv_at hl 0 rfl) ?_
        refine lv_aload_n hx hb dX12_drawGroup_327 rfl (lv_at hl 1 rfl) ?_
        refine sy_get C hh (fun w h => mc (uZ_fX12 w h)) 0 (by decide) (oZ_0 Y) rfl 36 (by decide) (index := 85) (mc uZ_32) (v := .ref (Y.2.1 21)) rfl dX12_drawGroup_328 ?_
        refine lv_iload hx hb dX12_drawGroup_331 (lv_at hl 4 rfl) ?_
        refine sy_iald C hh 21 (by decide) (aZ_21 Y) tZ_21 hn14 en14 (by decide) dX12_drawGroup_333 ?_
        refine sy_iast C hh 30 (by decide) (aZ_30 Y) tZ_30 hn16 en16 (by decide) dX12_drawGroup_334 (fun H locs hh => ?_)
        refine lv_iinc (v := (x9 + (1 : Int32))) (lv' := [(9, .int (x9 + (1 : Int32))), (10, .int (x2 + (M 16 n14))), (0, .ref (Y.2.1 0)), (1, .int x1), (2, .int x2)]) hx hb dX12_drawGroup_335 hl (k := 4) rfl (sy_inc (by decide)) (by decide) rfl (fun ls hl => ?_)
        refine lv_goto (tgt := 185) hx hb dX12_drawGroup_338 (by decide) ?_
        exact ih (mu (mu (mu (mu (mu M 26 n16 (vp_nar .boolean (1 : Int32))) 27 n16 (M 18 n14)) 28 n16 (M 19 n14)) 29 n16 (M 20 n14)) 30 n16 (M 21 n14)) x1 x2 (x9 + (1 : Int32)) _ _ _ hq hh (lv_sub hl [2, 3, 4, 0] rfl)
      · have hq := hq.2 c15
        refine lv_aload_n hx hb dX12_drawGroup_205 rfl (lv_at hl 0 rfl) ?_
        refine sy_get C hh (fun w h => mc (uZ_fX12 w h)) 0 (by decide) (oZ_0 Y) rfl 52 (by decide) (index := 130) (mc uZ_47) (v := .ref (Y.2.1 36)) rfl dX12_drawGroup_206 ?_
        refine lv_iload_n hx hb dX12_drawGroup_209 rfl (lv_at hl 1 rfl) ?_
        refine lv_aload_n hx hb dX12_drawGroup_210 rfl (lv_at hl 0 rfl) ?_
        refine sy_get C hh (fun w h => mc (uZ_fX12 w h)) 0 (by decide) (oZ_0 Y) rfl 33 (by decide) (index := 76) (mc uZ_29) (v := .ref (Y.2.1 18)) rfl dX12_drawGroup_211 ?_
        refine lv_iload hx hb dX12_drawGroup_214 (lv_at hl 3 rfl) ?_
        refine sy_iald C hh 18 (by decide) (aZ_18 Y) tZ_18 hn14 en14 (by decide) dX12_drawGroup_216 ?_
        obtain ⟨n17, hn17, en17, hq⟩ := hq
        refine sy_iast C hh 36 (by decide) (aZ_36 Y) tZ_36 hn17 en17 (by decide) dX12_drawGroup_217 (fun H locs hh => ?_)
        refine lv_aload_n hx hb dX12_drawGroup_218 rfl (lv_at hl 0 rfl) ?_
        refine sy_get C hh (fun w h => mc (uZ_fX12 w h)) 0 (by decide) (oZ_0 Y) rfl 53 (by decide) (index := 133) (mc uZ_48) (v := .ref (Y.2.1 37)) rfl dX12_drawGroup_219 ?_
        refine lv_iload_n hx hb dX12_drawGroup_222 rfl (lv_at hl 1 rfl) ?_
        refine lv_aload_n hx hb dX12_drawGroup_223 rfl (lv_at hl 0 rfl) ?_
        refine sy_get C hh (fun w h => mc (uZ_fX12 w h)) 0 (by decide) (oZ_0 Y) rfl 34 (by decide) (index := 79) (mc uZ_30) (v := .ref (Y.2.1 19)) rfl dX12_drawGroup_224 ?_
        refine lv_iload hx hb dX12_drawGroup_227 (lv_at hl 3 rfl) ?_
        refine sy_iald C hh 19 (by decide) (aZ_19 Y) tZ_19 hn14 en14 (by decide) dX12_drawGroup_229 ?_
        refine sy_iast C hh 37 (by decide) (aZ_37 Y) tZ_37 hn17 en17 (by decide) dX12_drawGroup_230 (fun H locs hh => ?_)
        refine lv_aload_n hx hb dX12_drawGroup_231 rfl (lv_at hl 0 rfl) ?_
        refine sy_get C hh (fun w h => mc (uZ_fX12 w h)) 0 (by decide) (oZ_0 Y) rfl 54 (by decide) (index := 136) (mc uZ_49) (v := .ref (Y.2.1 38)) rfl dX12_drawGroup_232 ?_
        refine lv_iload_n hx hb dX12_drawGroup_235 rfl (lv_at hl 1 rfl) ?_
        refine lv_aload_n hx hb dX12_drawGroup_236 rfl (lv_at hl 0 rfl) ?_
        refine sy_get C hh (fun w h => mc (uZ_fX12 w h)) 0 (by decide) (oZ_0 Y) rfl 35 (by decide) (index := 82) (mc uZ_31) (v := .ref (Y.2.1 20)) rfl dX12_drawGroup_237 ?_
        refine lv_iload hx hb dX12_drawGroup_240 (lv_at hl 3 rfl) ?_
        refine sy_iald C hh 20 (by decide) (aZ_20 Y) tZ_20 hn14 en14 (by decide) dX12_drawGroup_242 ?_
        refine sy_iast C hh 38 (by decide) (aZ_38 Y) tZ_38 hn17 en17 (by decide) dX12_drawGroup_243 (fun H locs hh => ?_)
        refine lv_aload_n hx hb dX12_drawGroup_244 rfl (lv_at hl 0 rfl) ?_
        refine sy_get C hh (fun w h => mc (uZ_fX12 w h)) 0 (by decide) (oZ_0 Y) rfl 55 (by decide) (index := 139) (mc uZ_50) (v := .ref (Y.2.1 39)) rfl dX12_drawGroup_245 ?_
        refine lv_iload_n hx hb dX12_drawGroup_248 rfl (lv_at hl 1 rfl) ?_
        refine lv_aload_n hx hb dX12_drawGroup_249 rfl (lv_at hl 0 rfl) ?_
        refine sy_get C hh (fun w h => mc (uZ_fX12 w h)) 0 (by decide) (oZ_0 Y) rfl 36 (by decide) (index := 85) (mc uZ_32) (v := .ref (Y.2.1 21)) rfl dX12_drawGroup_250 ?_
        refine lv_iload hx hb dX12_drawGroup_253 (lv_at hl 3 rfl) ?_
        refine sy_iald C hh 21 (by decide) (aZ_21 Y) tZ_21 hn14 en14 (by decide) dX12_drawGroup_255 ?_
        refine sy_iast C hh 39 (by decide) (aZ_39 Y) tZ_39 hn17 en17 (by decide) dX12_drawGroup_256 (fun H locs hh => ?_)
        refine lv_goto (tgt := 335) hx hb dX12_drawGroup_257 (by decide) ?_
        refine lv_iinc (v := (x9 + (1 : Int32))) (lv' := [(9, .int (x9 + (1 : Int32))), (0, .ref (Y.2.1 0)), (1, .int x1), (2, .int x2)]) hx hb dX12_drawGroup_335 hl (k := 3) rfl (sy_inc (by decide)) (by decide) rfl (fun ls hl => ?_)
        refine lv_goto (tgt := 185) hx hb dX12_drawGroup_338 (by decide) ?_
        exact ih (mu (mu (mu (mu M 36 n17 (M 18 n14)) 37 n17 (M 19 n14)) 38 n17 (M 20 n14)) 39 n17 (M 21 n14)) x1 x2 (x9 + (1 : Int32)) _ _ _ hq hh (lv_sub hl [1, 2, 3, 0] rfl)

set_option maxHeartbeats 4000000 in
set_option maxRecDepth 100000 in
theorem kX12_drawGroup_171 (C : sy_C p m c cX12_drawGroup 12 s args vsX12_drawGroup RX12 meth none Y NZ tfZ) {Q : sy_M → Prop} :
    ∀ (M : sy_M) (x1 : Int32) (x2 : Int32) (s1 : Int32) (s2 : Int32) (H : Heap) (locs : List Loc) (ls : Array Slot), wX12_drawGroup_171 Q M x1 x2 s1 s2 → sy_H Y NZ EZ s H locs M → lv_has ls 12 [(0, .ref (Y.2.1 0)), (1, .int x1), (2, .int x2)] → W p l e ({ frames := 40, cells := 0, slots := 0, locals := 1218 } : Room) s m args below meth c H locs 0 0 (sy_ZV below args s Y NZ EZ Q) (F0 m 171 ls [.int s2, .int s1, .ref (Y.2.1 32)]) := by
  have hx := C.1.1
  have hb := C.1.2.1
  intro M x1 x2 s1 s2 H locs ls hq hh hl
  unfold wX12_drawGroup_171 at hq
  obtain ⟨n9, hn9, en9, hq⟩ := hq
  refine sy_iast C hh 32 (by decide) (aZ_32 Y) tZ_32 hn9 en9 (by decide) dX12_drawGroup_171 (fun H locs hh => ?_)
  refine lv_aload_n hx hb dX12_drawGroup_172 rfl (lv_at hl 0 rfl) ?_
  refine sy_get C hh (fun w h => mc (uZ_fX12 w h)) 0 (by decide) (oZ_0 Y) rfl 49 (by decide) (index := 121) (mc uZ_44) (v := .ref (Y.2.1 33)) rfl dX12_drawGroup_173 ?_
  refine lv_iload_n hx hb dX12_drawGroup_176 rfl (lv_at hl 1 rfl) ?_
  refine lv_aload_n hx hb dX12_drawGroup_177 rfl (lv_at hl 0 rfl) ?_
  refine sy_cIV C hh (As := []) (rest := [.int x1, .ref (Y.2.1 33)]) 0 (by decide) (oZ_0 Y) rfl (mX12_worst l Y _ (mu M 32 n9 s2)  _ hq) (cwV 0 C.1.2.2.2.2 (sy_goodV uZ_good uZ_228 uZ_229 uZ_230 uZ_55 uZ_194 _) rfl rfl rfl hdX12_worst ⟨Nat.le_of_ble_eq_true rfl, Nat.le_of_ble_eq_true rfl⟩) rfl hl.1 rfl (Nat.le_of_ble_eq_true rfl) dX12_drawGroup_178 (fun r11 M10 H locs hq hh => ?_)
  obtain ⟨n12, hn12, en12, hq⟩ := hq
  refine sy_iast C hh 33 (by decide) (aZ_33 Y) tZ_33 hn12 en12 (by decide) dX12_drawGroup_181 (fun H locs hh => ?_)
  refine lv_iconst (v := (0 : Int32)) hx hb dX12_drawGroup_182 (by decide) ?_
  refine lv_istore (lv' := [(9, .int (0 : Int32)), (0, .ref (Y.2.1 0)), (1, .int x1), (2, .int x2)]) hx hb dX12_drawGroup_183 hl (by decide) rfl (fun ls hl => ?_)
  obtain ⟨n18, hq⟩ := hq
  refine kX12_drawGroup_185 C  n18 (mu M10 33 n12 r11) x1 x2 (0 : Int32) _ _ _ hq hh (lv_sub hl [1, 2, 3, 0] rfl)

set_option maxHeartbeats 4000000 in
set_option maxRecDepth 100000 in
theorem kX12_drawGroup_134 (C : sy_C p m c cX12_drawGroup 12 s args vsX12_drawGroup RX12 meth none Y NZ tfZ) {Q : sy_M → Prop} :
    ∀ (M : sy_M) (x1 : Int32) (x2 : Int32) (x4 : Int32) (x5 : Int32) (x6 : Int32) (x7 : Int32) (x8 : Int32) (H : Heap) (locs : List Loc) (ls : Array Slot), wX12_drawGroup_134 Q M x1 x2 x4 x5 x6 x7 x8 → sy_H Y NZ EZ s H locs M → lv_has ls 12 [(0, .ref (Y.2.1 0)), (1, .int x1), (2, .int x2), (4, .int x4), (5, .int x5), (6, .int x6), (7, .int x7), (8, .int x8)] → W p l e ({ frames := 40, cells := 0, slots := 0, locals := 1218 } : Room) s m args below meth c H locs 0 0 (sy_ZV below args s Y NZ EZ Q) (F0 m 134 ls []) := by
  have hx := C.1.1
  have hb := C.1.2.1
  intro M x1 x2 x4 x5 x6 x7 x8 H locs ls hq hh hl
  unfold wX12_drawGroup_134 at hq
  refine lv_aload_n hx hb dX12_drawGroup_134 rfl (lv_at hl 0 rfl) ?_
  refine lv_iload hx hb dX12_drawGroup_135 (lv_at hl 7 rfl) ?_
  refine lv_iload hx hb dX12_drawGroup_137 (lv_at hl 3 rfl) ?_
  refine lv_iload hx hb dX12_drawGroup_139 (lv_at hl 4 rfl) ?_
  refine lv_iload hx hb dX12_drawGroup_141 (lv_at hl 5 rfl) ?_
  refine lv_iload hx hb dX12_drawGroup_143 (lv_at hl 6 rfl) ?_
  refine sy_cVV C hh (As := [.int x8, .int x4, .int x5, .int x6, .int x7]) (rest := []) 0 (by decide) (oZ_0 Y) rfl (mX12_lays l Y _ M x8 x4 x5 x6 x7 _ hq) (cwV 5 C.1.2.2.2.2 (sy_goodV uZ_good uZ_285 uZ_286 uZ_287 uZ_55 uZ_264 _) rfl rfl rfl hdX12_lays ⟨Nat.le_of_ble_eq_true rfl, Nat.le_of_ble_eq_true rfl⟩) rfl hl.1 rfl (Nat.le_of_ble_eq_true rfl) dX12_drawGroup_145 (fun M5 H locs hq hh => ?_)
  refine lv_aload_n hx hb dX12_drawGroup_148 rfl (lv_at hl 0 rfl) ?_
  refine sy_get C hh (fun w h => mc (uZ_fX12 w h)) 0 (by decide) (oZ_0 Y) rfl 48 (by decide) (index := 118) (mc uZ_43) (v := .ref (Y.2.1 32)) rfl dX12_drawGroup_149 ?_
  refine lv_iload_n hx hb dX12_drawGroup_152 rfl (lv_at hl 1 rfl) ?_
  refine lv_aload_n hx hb dX12_drawGroup_153 rfl (lv_at hl 0 rfl) ?_
  refine lv_iconst (v := (0 : Int32)) hx hb dX12_drawGroup_154 (by decide) ?_
  refine lv_aload_n hx hb dX12_drawGroup_155 rfl (lv_at hl 0 rfl) ?_
  refine sy_get C hh (fun w h => mc (uZ_fX12 w h)) 0 (by decide) (oZ_0 Y) rfl 30 (by decide) (index := 261) (mc uZ_195) (v := .int (M5 0 30)) rfl dX12_drawGroup_156 ?_
  refine sy_cIV C hh (As := [.int (0 : Int32), .int (M5 0 30)]) (rest := [.int x1, .ref (Y.2.1 32)]) 0 (by decide) (oZ_0 Y) rfl (mX12_sum l Y _ M5 (0 : Int32) (M5 0 30) _ hq) (cwV 2 C.1.2.2.2.2 (sy_goodV uZ_good uZ_204 uZ_205 uZ_206 uZ_55 uZ_202 _) rfl rfl rfl hdX12_sum ⟨Nat.le_of_ble_eq_true rfl, Nat.le_of_ble_eq_true rfl⟩) rfl hl.1 rfl (Nat.le_of_ble_eq_true rfl) dX12_drawGroup_159 (fun r7 M6 H locs hq hh => ?_)
  refine lv_if_ne (tgt := 169) hx hb dX12_drawGroup_162 (by decide) (fun c8 => ?_) (fun c8 => ?_)
  · have hq := hq.1 c8
    refine lv_iload hx hb dX12_drawGroup_169 (lv_at hl 7 rfl) ?_
    refine kX12_drawGroup_171 C  M6 x1 x2 x1 x8 _ _ _ hq hh (lv_sub hl [0, 1, 2] rfl)
  · have hq := hq.2 c8
    refine lv_iconst (v := (0 : Int32)) hx hb dX12_drawGroup_165 (by decide) ?_
    refine lv_goto (tgt := 171) hx hb dX12_drawGroup_166 (by decide) ?_
    refine kX12_drawGroup_171 C  M6 x1 x2 x1 (0 : Int32) _ _ _ hq hh (lv_sub hl [0, 1, 2] rfl)

set_option maxHeartbeats 4000000 in
set_option maxRecDepth 100000 in
theorem kX12_drawGroup_120 (C : sy_C p m c cX12_drawGroup 12 s args vsX12_drawGroup RX12 meth none Y NZ tfZ) {Q : sy_M → Prop} {K_66 : sy_M → Int32 → Int32 → Int32 → Int32 → Int32 → Int32 → Int32 → Int32 → Int32 → Prop} (hK_66 : ∀ (M : sy_M) (x1 : Int32) (x2 : Int32) (x4 : Int32) (x5 : Int32) (x6 : Int32) (x7 : Int32) (x8 : Int32) (x9 : Int32) (x10 : Int32) (H : Heap) (locs : List Loc) (ls : Array Slot), K_66 M x1 x2 x4 x5 x6 x7 x8 x9 x10 → sy_H Y NZ EZ s H locs M → lv_has ls 12 [(0, .ref (Y.2.1 0)), (1, .int x1), (2, .int x2), (4, .int x4), (5, .int x5), (6, .int x6), (7, .int x7), (8, .int x8), (9, .int x9), (10, .int x10)] → W p l e ({ frames := 40, cells := 0, slots := 0, locals := 1218 } : Room) s m args below meth c H locs 0 0 (sy_ZV below args s Y NZ EZ Q) (F0 m 66 ls [])) :
    ∀ (M : sy_M) (x1 : Int32) (x2 : Int32) (x4 : Int32) (x5 : Int32) (x6 : Int32) (x7 : Int32) (x10 : Int32) (x11 : Int32) (H : Heap) (locs : List Loc) (ls : Array Slot), wX12_drawGroup_120 K_66 Q M x1 x2 x4 x5 x6 x7 x10 x11 → sy_H Y NZ EZ s H locs M → lv_has ls 12 [(0, .ref (Y.2.1 0)), (1, .int x1), (2, .int x2), (4, .int x4), (5, .int x5), (6, .int x6), (7, .int x7), (10, .int x10), (11, .int x11)] → W p l e ({ frames := 40, cells := 0, slots := 0, locals := 1218 } : Room) s m args below meth c H locs 0 0 (sy_ZV below args s Y NZ EZ Q) (F0 m 120 ls []) := by
  have hx := C.1.1
  have hb := C.1.2.1
  intro M x1 x2 x4 x5 x6 x7 x10 x11 H locs ls hq hh hl
  unfold wX12_drawGroup_120 at hq
  refine lv_iload hx hb dX12_drawGroup_120 (lv_at hl 7 rfl) ?_
  refine lv_istore (lv' := [(8, .int x10), (0, .ref (Y.2.1 0)), (1, .int x1), (2, .int x2), (4, .int x4), (5, .int x5), (6, .int x6), (7, .int x7), (10, .int x10), (11, .int x11)]) hx hb dX12_drawGroup_122 hl (by decide) rfl (fun ls hl => ?_)
  refine lv_iload hx hb dX12_drawGroup_124 (lv_at hl 9 rfl) ?_
  refine lv_istore (lv' := [(9, .int x11), (8, .int x10), (0, .ref (Y.2.1 0)), (1, .int x1), (2, .int x2), (4, .int x4), (5, .int x5), (6, .int x6), (7, .int x7), (10, .int x10), (11, .int x11)]) hx hb dX12_drawGroup_126 hl (by decide) rfl (fun ls hl => ?_)
  refine lv_iinc (v := (x10 + (1 : Int32))) (lv' := [(10, .int (x10 + (1 : Int32))), (9, .int x11), (8, .int x10), (0, .ref (Y.2.1 0)), (1, .int x1), (2, .int x2), (4, .int x4), (5, .int x5), (6, .int x6), (7, .int x7), (11, .int x11)]) hx hb dX12_drawGroup_128 hl (k := 9) rfl (sy_inc (by decide)) (by decide) rfl (fun ls hl => ?_)
  refine lv_goto (tgt := 66) hx hb dX12_drawGroup_131 (by decide) ?_
  exact hK_66 M x1 x2 x4 x5 x6 x7 x10 x11 (x10 + (1 : Int32)) _ _ _ hq hh (lv_sub hl [3, 4, 5, 6, 7, 8, 9, 2, 1, 0] rfl)

set_option maxHeartbeats 4000000 in
set_option maxRecDepth 100000 in
theorem kX12_drawGroup_66 (C : sy_C p m c cX12_drawGroup 12 s args vsX12_drawGroup RX12 meth none Y NZ tfZ) {Q : sy_M → Prop} {K_134 : sy_M → Int32 → Int32 → Int32 → Int32 → Int32 → Int32 → Int32 → Prop} (hK_134 : ∀ (M : sy_M) (x1 : Int32) (x2 : Int32) (x4 : Int32) (x5 : Int32) (x6 : Int32) (x7 : Int32) (x8 : Int32) (H : Heap) (locs : List Loc) (ls : Array Slot), K_134 M x1 x2 x4 x5 x6 x7 x8 → sy_H Y NZ EZ s H locs M → lv_has ls 12 [(0, .ref (Y.2.1 0)), (1, .int x1), (2, .int x2), (4, .int x4), (5, .int x5), (6, .int x6), (7, .int x7), (8, .int x8)] → W p l e ({ frames := 40, cells := 0, slots := 0, locals := 1218 } : Room) s m args below meth c H locs 0 0 (sy_ZV below args s Y NZ EZ Q) (F0 m 134 ls [])) :
    ∀ (n : Nat) (M : sy_M) (x1 : Int32) (x2 : Int32) (x4 : Int32) (x5 : Int32) (x6 : Int32) (x7 : Int32) (x8 : Int32) (x9 : Int32) (x10 : Int32) (H : Heap) (locs : List Loc) (ls : Array Slot), wX12_drawGroup_66 K_134 Q n M x1 x2 x4 x5 x6 x7 x8 x9 x10 → sy_H Y NZ EZ s H locs M → lv_has ls 12 [(0, .ref (Y.2.1 0)), (1, .int x1), (2, .int x2), (4, .int x4), (5, .int x5), (6, .int x6), (7, .int x7), (8, .int x8), (9, .int x9), (10, .int x10)] → W p l e ({ frames := 40, cells := 0, slots := 0, locals := 1218 } : Room) s m args below meth c H locs 0 0 (sy_ZV below args s Y NZ EZ Q) (F0 m 66 ls []) := by
  have hx := C.1.1
  have hb := C.1.2.1
  intro n
  induction n with
  | zero =>
    intro M x1 x2 x4 x5 x6 x7 x8 x9 x10 H locs ls hq hh hl
    unfold wX12_drawGroup_66 at hq
    exact hq.elim
  | succ n ih =>
    intro M x1 x2 x4 x5 x6 x7 x8 x9 x10 H locs ls hq hh hl
    unfold wX12_drawGroup_66 at hq
    refine lv_iload hx hb dX12_drawGroup_66 (lv_at hl 9 rfl) ?_
    refine lv_iconst (v := (nI 3)) hx hb dX12_drawGroup_68 (by decide) ?_
    refine lv_icmp_ge (tgt := 134) hx hb dX12_drawGroup_69 (by decide) (fun c19 => ?_) (fun c19 => ?_)
    · have hq := hq.1 c19
      exact hK_134 M x1 x2 x4 x5 x6 x7 x8 _ _ _ hq hh (lv_sub hl [0, 1, 2, 3, 4, 5, 6, 7] rfl)
    · have hq := hq.2 c19
      refine lv_aload_n hx hb dX12_drawGroup_72 rfl (lv_at hl 0 rfl) ?_
      refine lv_iload hx hb dX12_drawGroup_73 (lv_at hl 9 rfl) ?_
      refine lv_iload hx hb dX12_drawGroup_75 (lv_at hl 3 rfl) ?_
      refine lv_iload hx hb dX12_drawGroup_77 (lv_at hl 4 rfl) ?_
      refine lv_iload hx hb dX12_drawGroup_79 (lv_at hl 5 rfl) ?_
      refine lv_iload hx hb dX12_drawGroup_81 (lv_at hl 6 rfl) ?_
      refine sy_cVV C hh (As := [.int x10, .int x4, .int x5, .int x6, .int x7]) (rest := []) 0 (by decide) (oZ_0 Y) rfl (mX12_lays l Y _ M x10 x4 x5 x6 x7 _ hq) (cwV 5 C.1.2.2.2.2 (sy_goodV uZ_good uZ_285 uZ_286 uZ_287 uZ_55 uZ_264 _) rfl rfl rfl hdX12_lays ⟨Nat.le_of_ble_eq_true rfl, Nat.le_of_ble_eq_true rfl⟩) rfl hl.1 rfl (Nat.le_of_ble_eq_true rfl) dX12_drawGroup_83 (fun M20 H locs hq hh => ?_)
      refine lv_aload_n hx hb dX12_drawGroup_86 rfl (lv_at hl 0 rfl) ?_
      refine sy_cIV C hh (As := []) (rest := []) 0 (by decide) (oZ_0 Y) rfl (mX12_worst l Y _ M20  _ hq) (cwV 0 C.1.2.2.2.2 (sy_goodV uZ_good uZ_228 uZ_229 uZ_230 uZ_55 uZ_194 _) rfl rfl rfl hdX12_worst ⟨Nat.le_of_ble_eq_true rfl, Nat.le_of_ble_eq_true rfl⟩) rfl hl.1 rfl (Nat.le_of_ble_eq_true rfl) dX12_drawGroup_87 (fun r22 M21 H locs hq hh => ?_)
      refine lv_aload_n hx hb dX12_drawGroup_90 rfl (lv_at hl 0 rfl) ?_
      refine sy_get C hh (fun w h => mc (uZ_fX12 w h)) 0 (by decide) (oZ_0 Y) rfl 3 (by decide) (index := 146) (mc uZ_57) (v := .int (M21 0 3)) rfl dX12_drawGroup_91 ?_
      refine lv_aload_n hx hb dX12_drawGroup_94 rfl (lv_at hl 0 rfl) ?_
      refine sy_cIV C hh (As := []) (rest := [.int (M21 0 3), .int r22]) 0 (by decide) (oZ_0 Y) rfl (mX12_moves l Y _ M21  _ hq) (cwV 0 C.1.2.2.2.2 (sy_goodV uZ_good uZ_288 uZ_289 uZ_290 uZ_55 uZ_270 _) rfl rfl rfl hdX12_moves ⟨Nat.le_of_ble_eq_true rfl, Nat.le_of_ble_eq_true rfl⟩) rfl hl.1 rfl (Nat.le_of_ble_eq_true rfl) dX12_drawGroup_95 (fun r24 M23 H locs hq hh => ?_)
      refine lv_imul hx hb dX12_drawGroup_98 ?_
      refine lv_bipush (v := (nI 100)) hx hb dX12_drawGroup_99 (by decide) ?_
      refine lv_idiv hx hb dX12_drawGroup_101 (by decide) ?_
      refine lv_iadd hx hb dX12_drawGroup_102 ?_
      refine lv_istore (lv' := [(11, .int (r22 + (((M21 0 3) * r24) / (nI 100)))), (0, .ref (Y.2.1 0)), (1, .int x1), (2, .int x2), (4, .int x4), (5, .int x5), (6, .int x6), (7, .int x7), (8, .int x8), (9, .int x9), (10, .int x10)]) hx hb dX12_drawGroup_103 hl (by decide) rfl (fun ls hl => ?_)
      refine lv_iload hx hb dX12_drawGroup_105 (lv_at hl 10 rfl) ?_
      refine lv_if_le (tgt := 120) hx hb dX12_drawGroup_107 (by decide) (fun c25 => ?_) (fun c25 => ?_)
      · have hq := hq.1 c25
        refine kX12_drawGroup_120 C (fun M26 x1_27 x2_28 x4_29 x5_30 x6_31 x7_32 x8_33 x9_34 x10_35 H locs ls hq hh hl => ?_) M23 x1 x2 x4 x5 x6 x7 x10 (r22 + (((M21 0 3) * r24) / (nI 100))) _ _ _ hq hh (lv_sub hl [1, 2, 3, 4, 5, 6, 7, 10, 0] rfl)
        · exact ih M26 x1_27 x2_28 x4_29 x5_30 x6_31 x7_32 x8_33 x9_34 x10_35 _ _ _ hq hh (lv_sub hl [0, 1, 2, 3, 4, 5, 6, 7, 8, 9] rfl)
      · have hq := hq.2 c25
        refine lv_iload hx hb dX12_drawGroup_110 (lv_at hl 0 rfl) ?_
        refine lv_iload hx hb dX12_drawGroup_112 (lv_at hl 9 rfl) ?_
        refine lv_icmp_lt (tgt := 120) hx hb dX12_drawGroup_114 (by decide) (fun c36 => ?_) (fun c36 => ?_)
        · have hq := hq.1 c36
          refine kX12_drawGroup_120 C (fun M37 x1_38 x2_39 x4_40 x5_41 x6_42 x7_43 x8_44 x9_45 x10_46 H locs ls hq hh hl => ?_) M23 x1 x2 x4 x5 x6 x7 x10 (r22 + (((M21 0 3) * r24) / (nI 100))) _ _ _ hq hh (lv_sub hl [1, 2, 3, 4, 5, 6, 7, 10, 0] rfl)
          · exact ih M37 x1_38 x2_39 x4_40 x5_41 x6_42 x7_43 x8_44 x9_45 x10_46 _ _ _ hq hh (lv_sub hl [0, 1, 2, 3, 4, 5, 6, 7, 8, 9] rfl)
        · have hq := hq.2 c36
          refine lv_goto (tgt := 128) hx hb dX12_drawGroup_117 (by decide) ?_
          refine lv_iinc (v := (x10 + (1 : Int32))) (lv' := [(10, .int (x10 + (1 : Int32))), (11, .int (r22 + (((M21 0 3) * r24) / (nI 100)))), (0, .ref (Y.2.1 0)), (1, .int x1), (2, .int x2), (4, .int x4), (5, .int x5), (6, .int x6), (7, .int x7), (8, .int x8), (9, .int x9)]) hx hb dX12_drawGroup_128 hl (k := 10) rfl (sy_inc (by decide)) (by decide) rfl (fun ls hl => ?_)
          refine lv_goto (tgt := 66) hx hb dX12_drawGroup_131 (by decide) ?_
          exact ih M23 x1 x2 x4 x5 x6 x7 x8 x9 (x10 + (1 : Int32)) _ _ _ hq hh (lv_sub hl [2, 3, 4, 5, 6, 7, 8, 9, 10, 0] rfl)

end
set_option maxHeartbeats 4000000 in
set_option maxRecDepth 100000 in
theorem mX12_drawGroup (l : Launch) (Y : sy_Y) (sz : Nat) (M : sy_M) (a1 : Int32) (a2 : Int32) (a3 : Int32) (Q : sy_M → Prop) (hq : wX12_drawGroup M a1 a2 a3 Q) : Met l yX12_drawGroup vsX12_drawGroup ({ frames := 40, cells := 0, slots := 0, locals := 1218 } : Room) (va_Pc [.ref (Y.2.1 0), .int a1, .int a2, .int a3] (sy_pre Y NZ EZ tfZ sz M)) (sy_QV Y NZ EZ sz Q) 0 0 (sy_A NZ Y.2.1 sz) := by
  refine sy_metV (by decide) rfl (Nat.le_of_ble_eq_true rfl) ?_
  intro p e s m args below meth c C ls hl hh
  have hx := C.1.1
  have hb := C.1.2.1
  have hl : lv_has ls 12 [(0, .ref (Y.2.1 0)), (1, .int a1), (2, .int a2), (3, .int a3)] := hl
  unfold wX12_drawGroup at hq
  refine lv_aload_n hx hb dX12_drawGroup_0 rfl (lv_at hl 0 rfl) ?_
  refine sy_get C hh (fun w h => mc (uZ_fX12 w h)) 0 (by decide) (oZ_0 Y) rfl 43 (by decide) (index := 103) (mc uZ_38) (v := .ref (Y.2.1 27)) rfl dX12_drawGroup_1 ?_
  refine lv_iload_n hx hb dX12_drawGroup_4 rfl (lv_at hl 2 rfl) ?_
  refine lv_iload_n hx hb dX12_drawGroup_5 rfl (lv_at hl 1 rfl) ?_
  refine lv_iadd hx hb dX12_drawGroup_6 ?_
  obtain ⟨n1, hn1, en1, hq⟩ := hq
  refine sy_iald C hh 27 (by decide) (aZ_27 Y) tZ_27 hn1 en1 (by decide) dX12_drawGroup_7 ?_
  refine lv_istore (lv' := [(4, .int (M 27 n1)), (0, .ref (Y.2.1 0)), (1, .int a1), (2, .int a2), (3, .int a3)]) hx hb dX12_drawGroup_8 hl (by decide) rfl (fun ls hl => ?_)
  refine lv_aload_n hx hb dX12_drawGroup_10 rfl (lv_at hl 1 rfl) ?_
  refine sy_get C hh (fun w h => mc (uZ_fX12 w h)) 0 (by decide) (oZ_0 Y) rfl 44 (by decide) (index := 106) (mc uZ_39) (v := .ref (Y.2.1 28)) rfl dX12_drawGroup_11 ?_
  refine lv_iload_n hx hb dX12_drawGroup_14 rfl (lv_at hl 3 rfl) ?_
  refine lv_iload_n hx hb dX12_drawGroup_15 rfl (lv_at hl 2 rfl) ?_
  refine lv_iadd hx hb dX12_drawGroup_16 ?_
  refine sy_iald C hh 28 (by decide) (aZ_28 Y) tZ_28 hn1 en1 (by decide) dX12_drawGroup_17 ?_
  refine lv_istore (lv' := [(5, .int (M 28 n1)), (4, .int (M 27 n1)), (0, .ref (Y.2.1 0)), (1, .int a1), (2, .int a2), (3, .int a3)]) hx hb dX12_drawGroup_18 hl (by decide) rfl (fun ls hl => ?_)
  refine lv_aload_n hx hb dX12_drawGroup_20 rfl (lv_at hl 2 rfl) ?_
  refine sy_get C hh (fun w h => mc (uZ_fX12 w h)) 0 (by decide) (oZ_0 Y) rfl 45 (by decide) (index := 109) (mc uZ_40) (v := .ref (Y.2.1 29)) rfl dX12_drawGroup_21 ?_
  refine lv_iload_n hx hb dX12_drawGroup_24 rfl (lv_at hl 4 rfl) ?_
  refine lv_iload_n hx hb dX12_drawGroup_25 rfl (lv_at hl 3 rfl) ?_
  refine lv_iadd hx hb dX12_drawGroup_26 ?_
  refine sy_iald C hh 29 (by decide) (aZ_29 Y) tZ_29 hn1 en1 (by decide) dX12_drawGroup_27 ?_
  refine lv_istore (lv' := [(6, .int (M 29 n1)), (5, .int (M 28 n1)), (4, .int (M 27 n1)), (0, .ref (Y.2.1 0)), (1, .int a1), (2, .int a2), (3, .int a3)]) hx hb dX12_drawGroup_28 hl (by decide) rfl (fun ls hl => ?_)
  refine lv_aload_n hx hb dX12_drawGroup_30 rfl (lv_at hl 3 rfl) ?_
  refine sy_get C hh (fun w h => mc (uZ_fX12 w h)) 0 (by decide) (oZ_0 Y) rfl 46 (by decide) (index := 112) (mc uZ_41) (v := .ref (Y.2.1 30)) rfl dX12_drawGroup_31 ?_
  refine lv_iload_n hx hb dX12_drawGroup_34 rfl (lv_at hl 5 rfl) ?_
  refine lv_iload_n hx hb dX12_drawGroup_35 rfl (lv_at hl 4 rfl) ?_
  refine lv_iadd hx hb dX12_drawGroup_36 ?_
  refine sy_iald C hh 30 (by decide) (aZ_30 Y) tZ_30 hn1 en1 (by decide) dX12_drawGroup_37 ?_
  refine lv_istore (lv' := [(7, .int (M 30 n1)), (6, .int (M 29 n1)), (5, .int (M 28 n1)), (4, .int (M 27 n1)), (0, .ref (Y.2.1 0)), (1, .int a1), (2, .int a2), (3, .int a3)]) hx hb dX12_drawGroup_38 hl (by decide) rfl (fun ls hl => ?_)
  refine lv_aload_n hx hb dX12_drawGroup_40 rfl (lv_at hl 4 rfl) ?_
  refine lv_iload_n hx hb dX12_drawGroup_41 rfl (lv_at hl 5 rfl) ?_
  refine lv_iload_n hx hb dX12_drawGroup_42 rfl (lv_at hl 7 rfl) ?_
  refine sy_cVV C hh (As := [.int a1, .int a3]) (rest := []) 0 (by decide) (oZ_0 Y) rfl (mX12_findItems l Y _ M a1 a3 _ hq) (cwV 2 C.1.2.2.2.2 (sy_goodV uZ_good uZ_282 uZ_283 uZ_284 uZ_55 uZ_281 _) rfl rfl rfl hdX12_findItems ⟨Nat.le_of_ble_eq_true rfl, Nat.le_of_ble_eq_true rfl⟩) rfl hl.1 rfl (Nat.le_of_ble_eq_true rfl) dX12_drawGroup_43 (fun M2 H locs hq hh => ?_)
  refine lv_aload_n hx hb dX12_drawGroup_46 rfl (lv_at hl 4 rfl) ?_
  refine sy_get C hh (fun w h => mc (uZ_fX12 w h)) 0 (by decide) (oZ_0 Y) rfl 19 (by decide) (index := 40) (mc uZ_17) (v := .ref (Y.2.1 6)) rfl dX12_drawGroup_47 ?_
  refine lv_iload_n hx hb dX12_drawGroup_50 rfl (lv_at hl 5 rfl) ?_
  obtain ⟨n3, hn3, en3, hq⟩ := hq
  refine sy_iald C hh 6 (by decide) (aZ_6 Y) tZ_6 hn3 en3 (by decide) dX12_drawGroup_51 ?_
  refine lv_istore (lv' := [(8, .int (M2 6 n3)), (7, .int (M 30 n1)), (6, .int (M 29 n1)), (5, .int (M 28 n1)), (4, .int (M 27 n1)), (0, .ref (Y.2.1 0)), (1, .int a1), (2, .int a2), (3, .int a3)]) hx hb dX12_drawGroup_52 hl (by decide) rfl (fun ls hl => ?_)
  refine lv_iload hx hb dX12_drawGroup_54 (lv_at hl 0 rfl) ?_
  refine lv_iconst (v := (nI 3)) hx hb dX12_drawGroup_56 (by decide) ?_
  refine lv_icmp_ne (tgt := 134) hx hb dX12_drawGroup_57 (by decide) (fun c4 => ?_) (fun c4 => ?_)
  · have hq := hq.1 c4
    refine kX12_drawGroup_134 C  M2 a1 a2 (M 27 n1) (M 28 n1) (M 29 n1) (M 30 n1) (M2 6 n3) _ _ _ hq hh (lv_sub hl [5, 6, 7, 4, 3, 2, 1, 0] rfl)
  · have hq := hq.2 c4
    refine lv_iconst (v := (0 : Int32)) hx hb dX12_drawGroup_60 (by decide) ?_
    refine lv_istore (lv' := [(9, .int (0 : Int32)), (8, .int (M2 6 n3)), (7, .int (M 30 n1)), (6, .int (M 29 n1)), (5, .int (M 28 n1)), (4, .int (M 27 n1)), (0, .ref (Y.2.1 0)), (1, .int a1), (2, .int a2), (3, .int a3)]) hx hb dX12_drawGroup_61 hl (by decide) rfl (fun ls hl => ?_)
    refine lv_iconst (v := (0 : Int32)) hx hb dX12_drawGroup_63 (by decide) ?_
    refine lv_istore (lv' := [(10, .int (0 : Int32)), (9, .int (0 : Int32)), (8, .int (M2 6 n3)), (7, .int (M 30 n1)), (6, .int (M 29 n1)), (5, .int (M 28 n1)), (4, .int (M 27 n1)), (0, .ref (Y.2.1 0)), (1, .int a1), (2, .int a2), (3, .int a3)]) hx hb dX12_drawGroup_64 hl (by decide) rfl (fun ls hl => ?_)
    obtain ⟨n55, hq⟩ := hq
    refine kX12_drawGroup_66 C (fun M47 x1_48 x2_49 x4_50 x5_51 x6_52 x7_53 x8_54 H locs ls hq hh hl => ?_) n55 M2 a1 a2 (M 27 n1) (M 28 n1) (M 29 n1) (M 30 n1) (M2 6 n3) (0 : Int32) (0 : Int32) _ _ _ hq hh (lv_sub hl [7, 8, 9, 6, 5, 4, 3, 2, 1, 0] rfl)
    · refine kX12_drawGroup_134 C  M47 x1_48 x2_49 x4_50 x5_51 x6_52 x7_53 x8_54 _ _ _ hq hh (lv_sub hl [0, 1, 2, 3, 4, 5, 6, 7] rfl)

/-! AreaSetterModel.draw(I)I -/
def wX12_draw_72 (K_48 : sy_M → Int32 → Int32 → Int32 → Prop) (Q : Int32 → sy_M → Prop) (M : sy_M) (x1 : Int32) (x2 : Int32) (x3 : Int32) (s1 : Int32) (s2 : Int32) : Prop := ∃ n10 : Nat, n10 < 2091 ∧ s1 = nI n10 ∧ wX12_sizeOf 8 (mu M 26 n10 (vp_nar .boolean s2)) x3 x1 (fun r12 M11 => ∃ n13 : Nat, n13 < 2091 ∧ (x2 + x3) = nI n13 ∧ K_48 (mu M11 31 n13 r12) x1 x2 (x3 + (1 : Int32)))
def wX12_draw_48 (K_93 : sy_M → Int32 → Int32 → Prop) (Q : Int32 → sy_M → Prop) : Nat → sy_M → Int32 → Int32 → Int32 → Prop
  | 0, _, _, _, _ => False
  | n + 1, M, x1, x2, x3 => (((M 0 13) ≤ x3 → K_93 M x1 x2) ∧ (¬ (M 0 13) ≤ x3 → ((¬ x3 = 0 → wX12_draw_72 (fun (M14 : sy_M) (x1_15 : Int32) (x2_16 : Int32) (x3_17 : Int32) => wX12_draw_48 K_93 Q n M14 x1_15 x2_16 x3_17) Q M x1 x2 x3 (x2 + x3) (0 : Int32)) ∧ (x3 = 0 → wX12_draw_72 (fun (M18 : sy_M) (x1_19 : Int32) (x2_20 : Int32) (x3_21 : Int32) => wX12_draw_48 K_93 Q n M18 x1_19 x2_20 x3_21) Q M x1 x2 x3 (x2 + x3) (1 : Int32)))))
def wX12_draw_129 (K_159 : sy_M → Prop) (Q : Int32 → sy_M → Prop) : Nat → sy_M → Int32 → Int32 → Int32 → Prop
  | 0, _, _, _, _ => False
  | n + 1, M, x1, x2, x3 => (((M 0 13) ≤ x3 → K_159 M) ∧ (¬ (M 0 13) ≤ x3 → ∃ n27 : Nat, n27 < 82 ∧ x3 = nI n27 ∧ (((M 3 n27) = 0 → wX12_draw_129 K_159 Q n M x1 x2 (x3 + (1 : Int32))) ∧ (¬ (M 3 n27) = 0 → wX12_drawGroup M x3 x2 x1 (fun M29 => wX12_draw_129 K_159 Q n M29 x1 x2 (x3 + (1 : Int32)))))))
def wX12_draw (M : sy_M) (a1 : Int32) (Q : Int32 → sy_M → Prop) : Prop := (((M 0 13) = 0 → Q (-1 : Int32) (mu M 0 0 (0 : Int32))) ∧ (¬ (M 0 13) = 0 → wX12_within (mu M 0 0 (0 : Int32)) a1 (0 : Int32) (nI 999) (fun r3 M2 => ((¬ r3 = 0 → wX12_rowOf M2 (M2 0 40) (fun r6 M5 => ∃ n7 : Nat, n7 < 51 ∧ ((M5 0 40) - (M5 0 40) / (nI 51) * (nI 51)) = nI n7 ∧ ∃ n32 : Nat, wX12_draw_48 (fun (M22 : sy_M) (x1_23 : Int32) (x2_24 : Int32) => ∃ n25 : Nat, n25 < 2091 ∧ x2_24 = nI n25 ∧ ∃ n31 : Nat, wX12_draw_129 (fun (M30 : sy_M) => Q (((M30 0 40) + (1 : Int32)) - (1 : Int32)) (mu M30 0 40 ((M30 0 40) + (1 : Int32)))) Q n31 (mu (mu (mu (mu M22 27 n25 (0 : Int32)) 28 n25 (0 : Int32)) 29 n25 (M22 0 1)) 30 n25 (M22 0 2)) x1_23 x2_24 (0 : Int32)) Q n32 (mu M5 25 n7 a1) a1 r6 (0 : Int32))) ∧ (r3 = 0 → Q (-1 : Int32) M2)))))
section
variable {p : Program} {l : Launch} {e : Env} {s : State} {m : MethodId} {args : Array Value} {below : List Frame} {meth : Method} {c : Code} {Y : sy_Y}
set_option maxHeartbeats 4000000 in
set_option maxRecDepth 100000 in
theorem kX12_draw_72 (C : sy_C p m c cX12_draw 4 s args vsX12_draw RX12 meth (some .int) Y NZ tfZ) {Q : Int32 → sy_M → Prop} {K_48 : sy_M → Int32 → Int32 → Int32 → Prop} (hK_48 : ∀ (M : sy_M) (x1 : Int32) (x2 : Int32) (x3 : Int32) (H : Heap) (locs : List Loc) (ls : Array Slot), K_48 M x1 x2 x3 → sy_H Y NZ EZ s H locs M → lv_has ls 4 [(0, .ref (Y.2.1 0)), (1, .int x1), (2, .int x2), (3, .int x3)] → W p l e ({ frames := 41, cells := 0, slots := 0, locals := 1249 } : Room) s m args below meth c H locs 0 0 (sy_ZI below args s Y NZ EZ Q) (F0 m 48 ls [])) :
    ∀ (M : sy_M) (x1 : Int32) (x2 : Int32) (x3 : Int32) (s1 : Int32) (s2 : Int32) (H : Heap) (locs : List Loc) (ls : Array Slot), wX12_draw_72 K_48 Q M x1 x2 x3 s1 s2 → sy_H Y NZ EZ s H locs M → lv_has ls 4 [(0, .ref (Y.2.1 0)), (1, .int x1), (2, .int x2), (3, .int x3)] → W p l e ({ frames := 41, cells := 0, slots := 0, locals := 1249 } : Room) s m args below meth c H locs 0 0 (sy_ZI below args s Y NZ EZ Q) (F0 m 72 ls [.int s2, .int s1, .ref (Y.2.1 26)]) := by
  have hx := C.1.1
  have hb := C.1.2.1
  intro M x1 x2 x3 s1 s2 H locs ls hq hh hl
  unfold wX12_draw_72 at hq
  obtain ⟨n10, hn10, en10, hq⟩ := hq
  refine sy_zast C hh 26 (by decide) (aZ_26 Y) tZ_26 hn10 en10 (by decide) dX12_draw_72 (fun H locs hh => ?_)
  refine lv_aload_n hx hb dX12_draw_73 rfl (lv_at hl 0 rfl) ?_
  refine sy_get C hh (fun w h => mc (uZ_fX12 w h)) 0 (by decide) (oZ_0 Y) rfl 47 (by decide) (index := 115) (mc uZ_42) (v := .ref (Y.2.1 31)) rfl dX12_draw_74 ?_
  refine lv_iload_n hx hb dX12_draw_77 rfl (lv_at hl 2 rfl) ?_
  refine lv_iload_n hx hb dX12_draw_78 rfl (lv_at hl 3 rfl) ?_
  refine lv_iadd hx hb dX12_draw_79 ?_
  refine lv_aload_n hx hb dX12_draw_80 rfl (lv_at hl 0 rfl) ?_
  refine lv_iload_n hx hb dX12_draw_81 rfl (lv_at hl 3 rfl) ?_
  refine lv_iload_n hx hb dX12_draw_82 rfl (lv_at hl 1 rfl) ?_
  refine sy_cIV C hh (As := [.int x3, .int x1]) (rest := [.int (x2 + x3), .ref (Y.2.1 31)]) 0 (by decide) (oZ_0 Y) rfl (mX12_sizeOf l Y 8 _ (mu M 26 n10 (vp_nar .boolean s2)) x3 x1 _ hq) (cwV 2 C.1.2.2.2.2 (sy_goodV uZ_good uZ_187 uZ_188 uZ_189 uZ_55 uZ_186 _) rfl rfl rfl hdX12_sizeOf ⟨Nat.le_of_ble_eq_true rfl, Nat.le_of_ble_eq_true rfl⟩) rfl hl.1 rfl (Nat.le_of_ble_eq_true rfl) dX12_draw_83 (fun r12 M11 H locs hq hh => ?_)
  obtain ⟨n13, hn13, en13, hq⟩ := hq
  refine sy_iast C hh 31 (by decide) (aZ_31 Y) tZ_31 hn13 en13 (by decide) dX12_draw_86 (fun H locs hh => ?_)
  refine lv_iinc (v := (x3 + (1 : Int32))) (lv' := [(3, .int (x3 + (1 : Int32))), (0, .ref (Y.2.1 0)), (1, .int x1), (2, .int x2)]) hx hb dX12_draw_87 hl (k := 3) rfl (sy_inc (by decide)) (by decide) rfl (fun ls hl => ?_)
  refine lv_goto (tgt := 48) hx hb dX12_draw_90 (by decide) ?_
  exact hK_48 (mu M11 31 n13 r12) x1 x2 (x3 + (1 : Int32)) _ _ _ hq hh (lv_sub hl [1, 2, 3, 0] rfl)

set_option maxHeartbeats 4000000 in
set_option maxRecDepth 100000 in
theorem kX12_draw_48 (C : sy_C p m c cX12_draw 4 s args vsX12_draw RX12 meth (some .int) Y NZ tfZ) {Q : Int32 → sy_M → Prop} {K_93 : sy_M → Int32 → Int32 → Prop} (hK_93 : ∀ (M : sy_M) (x1 : Int32) (x2 : Int32) (H : Heap) (locs : List Loc) (ls : Array Slot), K_93 M x1 x2 → sy_H Y NZ EZ s H locs M → lv_has ls 4 [(0, .ref (Y.2.1 0)), (1, .int x1), (2, .int x2)] → W p l e ({ frames := 41, cells := 0, slots := 0, locals := 1249 } : Room) s m args below meth c H locs 0 0 (sy_ZI below args s Y NZ EZ Q) (F0 m 93 ls [])) :
    ∀ (n : Nat) (M : sy_M) (x1 : Int32) (x2 : Int32) (x3 : Int32) (H : Heap) (locs : List Loc) (ls : Array Slot), wX12_draw_48 K_93 Q n M x1 x2 x3 → sy_H Y NZ EZ s H locs M → lv_has ls 4 [(0, .ref (Y.2.1 0)), (1, .int x1), (2, .int x2), (3, .int x3)] → W p l e ({ frames := 41, cells := 0, slots := 0, locals := 1249 } : Room) s m args below meth c H locs 0 0 (sy_ZI below args s Y NZ EZ Q) (F0 m 48 ls []) := by
  have hx := C.1.1
  have hb := C.1.2.1
  intro n
  induction n with
  | zero =>
    intro M x1 x2 x3 H locs ls hq hh hl
    unfold wX12_draw_48 at hq
    exact hq.elim
  | succ n ih =>
    intro M x1 x2 x3 H locs ls hq hh hl
    unfold wX12_draw_48 at hq
    refine lv_iload_n hx hb dX12_draw_48 rfl (lv_at hl 3 rfl) ?_
    refine lv_aload_n hx hb dX12_draw_49 rfl (lv_at hl 0 rfl) ?_
    refine sy_get C hh (fun w h => mc (uZ_fX12 w h)) 0 (by decide) (oZ_0 Y) rfl 13 (by decide) (index := 243) (mc uZ_175) (v := .int (M 0 13)) rfl dX12_draw_50 ?_
    refine lv_icmp_ge (tgt := 93) hx hb dX12_draw_53 (by decide) (fun c8 => ?_) (fun c8 => ?_)
    · have hq := hq.1 c8
      exact hK_93 M x1 x2 _ _ _ hq hh (lv_sub hl [0, 1, 2] rfl)
    · have hq := hq.2 c8
      refine lv_aload_n hx hb dX12_draw_56 rfl (lv_at hl 0 rfl) ?_
      refine sy_get C hh (fun w h => mc (uZ_fX12 w h)) 0 (by decide) (oZ_0 Y) rfl 42 (by decide) (index := 100) (mc uZ_37) (v := .ref (Y.2.1 26)) rfl dX12_draw_57 ?_
      refine lv_iload_n hx hb dX12_draw_60 rfl (lv_at hl 2 rfl) ?_
      refine lv_iload_n hx hb dX12_draw_61 rfl (lv_at hl 3 rfl) ?_
      refine lv_iadd hx hb dX12_draw_62 ?_
      refine lv_iload_n hx hb dX12_draw_63 rfl (lv_at hl 3 rfl) ?_
      refine lv_if_ne (tgt := 71) hx hb dX12_draw_64 (by decide) (fun c9 => ?_) (fun c9 => ?_)
      · have hq := hq.1 c9
        refine lv_iconst (v := (0 : Int32)) hx hb dX12_draw_71 (by decide) ?_
        refine kX12_draw_72 C (fun M14 x1_15 x2_16 x3_17 H locs ls hq hh hl => ?_) M x1 x2 x3 (x2 + x3) (0 : Int32) _ _ _ hq hh (lv_sub hl [0, 1, 2, 3] rfl)
        · exact ih M14 x1_15 x2_16 x3_17 _ _ _ hq hh (lv_sub hl [0, 1, 2, 3] rfl)
      · have hq := hq.2 c9
        refine lv_iconst (v := (1 : Int32)) hx hb dX12_draw_67 (by decide) ?_
        refine lv_goto (tgt := 72) hx hb dX12_draw_68 (by decide) ?_
        refine kX12_draw_72 C (fun M18 x1_19 x2_20 x3_21 H locs ls hq hh hl => ?_) M x1 x2 x3 (x2 + x3) (1 : Int32) _ _ _ hq hh (lv_sub hl [0, 1, 2, 3] rfl)
        · exact ih M18 x1_19 x2_20 x3_21 _ _ _ hq hh (lv_sub hl [0, 1, 2, 3] rfl)

set_option maxHeartbeats 4000000 in
set_option maxRecDepth 100000 in
theorem kX12_draw_129 (C : sy_C p m c cX12_draw 4 s args vsX12_draw RX12 meth (some .int) Y NZ tfZ) {Q : Int32 → sy_M → Prop} {K_159 : sy_M → Prop} (hK_159 : ∀ (M : sy_M) (H : Heap) (locs : List Loc) (ls : Array Slot), K_159 M → sy_H Y NZ EZ s H locs M → lv_has ls 4 [(0, .ref (Y.2.1 0))] → W p l e ({ frames := 41, cells := 0, slots := 0, locals := 1249 } : Room) s m args below meth c H locs 0 0 (sy_ZI below args s Y NZ EZ Q) (F0 m 159 ls [])) :
    ∀ (n : Nat) (M : sy_M) (x1 : Int32) (x2 : Int32) (x3 : Int32) (H : Heap) (locs : List Loc) (ls : Array Slot), wX12_draw_129 K_159 Q n M x1 x2 x3 → sy_H Y NZ EZ s H locs M → lv_has ls 4 [(0, .ref (Y.2.1 0)), (1, .int x1), (2, .int x2), (3, .int x3)] → W p l e ({ frames := 41, cells := 0, slots := 0, locals := 1249 } : Room) s m args below meth c H locs 0 0 (sy_ZI below args s Y NZ EZ Q) (F0 m 129 ls []) := by
  have hx := C.1.1
  have hb := C.1.2.1
  intro n
  induction n with
  | zero =>
    intro M x1 x2 x3 H locs ls hq hh hl
    unfold wX12_draw_129 at hq
    exact hq.elim
  | succ n ih =>
    intro M x1 x2 x3 H locs ls hq hh hl
    unfold wX12_draw_129 at hq
    refine lv_iload_n hx hb dX12_draw_129 rfl (lv_at hl 3 rfl) ?_
    refine lv_aload_n hx hb dX12_draw_130 rfl (lv_at hl 0 rfl) ?_
    refine sy_get C hh (fun w h => mc (uZ_fX12 w h)) 0 (by decide) (oZ_0 Y) rfl 13 (by decide) (index := 243) (mc uZ_175) (v := .int (M 0 13)) rfl dX12_draw_131 ?_
    refine lv_icmp_ge (tgt := 159) hx hb dX12_draw_134 (by decide) (fun c26 => ?_) (fun c26 => ?_)
    · have hq := hq.1 c26
      exact hK_159 M  _ _ _ hq hh (lv_sub hl [0] rfl)
    · have hq := hq.2 c26
      refine lv_aload_n hx hb dX12_draw_137 rfl (lv_at hl 0 rfl) ?_
      refine sy_get C hh (fun w h => mc (uZ_fX12 w h)) 0 (by decide) (oZ_0 Y) rfl 16 (by decide) (index := 30) (mc uZ_14) (v := .ref (Y.2.1 3)) rfl dX12_draw_138 ?_
      refine lv_iload_n hx hb dX12_draw_141 rfl (lv_at hl 3 rfl) ?_
      obtain ⟨n27, hn27, en27, hq⟩ := hq
      refine sy_zald C hh 3 (by decide) (aZ_3 Y) tZ_3 hn27 en27 (by decide) dX12_draw_142 ?_
      refine lv_if_eq (tgt := 153) hx hb dX12_draw_143 (by decide) (fun c28 => ?_) (fun c28 => ?_)
      · have hq := hq.1 c28
        refine lv_iinc (v := (x3 + (1 : Int32))) (lv' := [(3, .int (x3 + (1 : Int32))), (0, .ref (Y.2.1 0)), (1, .int x1), (2, .int x2)]) hx hb dX12_draw_153 hl (k := 3) rfl (sy_inc (by decide)) (by decide) rfl (fun ls hl => ?_)
        refine lv_goto (tgt := 129) hx hb dX12_draw_156 (by decide) ?_
        exact ih M x1 x2 (x3 + (1 : Int32)) _ _ _ hq hh (lv_sub hl [1, 2, 3, 0] rfl)
      · have hq := hq.2 c28
        refine lv_aload_n hx hb dX12_draw_146 rfl (lv_at hl 0 rfl) ?_
        refine lv_iload_n hx hb dX12_draw_147 rfl (lv_at hl 3 rfl) ?_
        refine lv_iload_n hx hb dX12_draw_148 rfl (lv_at hl 2 rfl) ?_
        refine lv_iload_n hx hb dX12_draw_149 rfl (lv_at hl 1 rfl) ?_
        refine sy_cVV C hh (As := [.int x3, .int x2, .int x1]) (rest := []) 0 (by decide) (oZ_0 Y) rfl (mX12_drawGroup l Y _ M x3 x2 x1 _ hq) (cwV 3 C.1.2.2.2.2 (sy_goodV uZ_good uZ_292 uZ_293 uZ_294 uZ_55 uZ_291 _) rfl rfl rfl hdX12_drawGroup ⟨Nat.le_of_ble_eq_true rfl, Nat.le_of_ble_eq_true rfl⟩) rfl hl.1 rfl (Nat.le_of_ble_eq_true rfl) dX12_draw_150 (fun M29 H locs hq hh => ?_)
        refine lv_iinc (v := (x3 + (1 : Int32))) (lv' := [(3, .int (x3 + (1 : Int32))), (0, .ref (Y.2.1 0)), (1, .int x1), (2, .int x2)]) hx hb dX12_draw_153 hl (k := 3) rfl (sy_inc (by decide)) (by decide) rfl (fun ls hl => ?_)
        refine lv_goto (tgt := 129) hx hb dX12_draw_156 (by decide) ?_
        exact ih M29 x1 x2 (x3 + (1 : Int32)) _ _ _ hq hh (lv_sub hl [1, 2, 3, 0] rfl)

end
set_option maxHeartbeats 4000000 in
set_option maxRecDepth 100000 in
theorem mX12_draw (l : Launch) (Y : sy_Y) (sz : Nat) (M : sy_M) (a1 : Int32) (Q : Int32 → sy_M → Prop) (hq : wX12_draw M a1 Q) : Met l yX12_draw vsX12_draw ({ frames := 41, cells := 0, slots := 0, locals := 1249 } : Room) (va_Pc [.ref (Y.2.1 0), .int a1] (sy_pre Y NZ EZ tfZ sz M)) (sy_QI Y NZ EZ sz Q) 0 0 (sy_A NZ Y.2.1 sz) := by
  refine sy_metI (by decide) rfl (Nat.le_of_ble_eq_true rfl) ?_
  intro p e s m args below meth c C ls hl hh
  have hx := C.1.1
  have hb := C.1.2.1
  have hl : lv_has ls 4 [(0, .ref (Y.2.1 0)), (1, .int a1)] := hl
  unfold wX12_draw at hq
  refine lv_aload_n hx hb dX12_draw_0 rfl (lv_at hl 0 rfl) ?_
  refine lv_iconst (v := (0 : Int32)) hx hb dX12_draw_1 (by decide) ?_
  refine sy_put C hh (fun w h => mc (uZ_fX12 w h)) tyX12 tyX12_ok nmX12 0 (by decide) (oZ_0 Y) rfl 0 (by decide) (index := 1) (mc uZ_1) rfl 0 (0 : Int32) (ty := .int) (tyX12_ok 0 (by decide)) rfl rfl (Nat.le_of_ble_eq_true rfl) (pX12_0 Y _ _ _) dX12_draw_2 (fun H locs hh => ?_)
  refine lv_aload_n hx hb dX12_draw_5 rfl (lv_at hl 0 rfl) ?_
  refine sy_get C hh (fun w h => mc (uZ_fX12 w h)) 0 (by decide) (oZ_0 Y) rfl 13 (by decide) (index := 243) (mc uZ_175) (v := .int (M 0 13)) rfl dX12_draw_6 ?_
  refine lv_if_eq (tgt := 23) hx hb dX12_draw_9 (by decide) (fun c1 => ?_) (fun c1 => ?_)
  · have hq := hq.1 c1
    refine lv_iconst (v := (-1 : Int32)) hx hb dX12_draw_23 (by decide) ?_
    exact sy_iret C hh dX12_draw_24 hq
  · have hq := hq.2 c1
    refine lv_iload_n hx hb dX12_draw_12 rfl (lv_at hl 1 rfl) ?_
    refine lv_iconst (v := (0 : Int32)) hx hb dX12_draw_13 (by decide) ?_
    refine lv_sipush (v := (nI 999)) hx hb dX12_draw_14 (by decide) ?_
    refine sy_cIS C hh (As := [.int a1, .int (0 : Int32), .int (nI 999)]) (rest := []) (mX12_within l Y _ (mu M 0 0 (0 : Int32)) a1 (0 : Int32) (nI 999) _ hq) (va_cwS 3 C.1.2.2.2.2 (sy_goodS uZ_good uZ_53 uZ_54 uZ_55 uZ_2 _) rfl rfl rfl hdX12_within.2 ⟨Nat.le_of_ble_eq_true rfl, Nat.le_of_ble_eq_true rfl⟩) rfl hl.1 rfl (Nat.le_of_ble_eq_true rfl) dX12_draw_17 (fun r3 M2 H locs hq hh => ?_)
    refine lv_if_ne (tgt := 25) hx hb dX12_draw_20 (by decide) (fun c4 => ?_) (fun c4 => ?_)
    · have hq := hq.1 c4
      refine lv_aload_n hx hb dX12_draw_25 rfl (lv_at hl 0 rfl) ?_
      refine sy_get C hh (fun w h => mc (uZ_fX12 w h)) 0 (by decide) (oZ_0 Y) rfl 40 (by decide) (index := 249) (mc uZ_177) (v := .int (M2 0 40)) rfl dX12_draw_26 ?_
      refine sy_cIS C hh (As := [.int (M2 0 40)]) (rest := []) (mX12_rowOf l Y _ M2 (M2 0 40) _ hq) (va_cwS 1 C.1.2.2.2.2 (sy_goodS uZ_good uZ_271 uZ_272 uZ_55 uZ_265 _) rfl rfl rfl hdX12_rowOf.2 ⟨Nat.le_of_ble_eq_true rfl, Nat.le_of_ble_eq_true rfl⟩) rfl hl.1 rfl (Nat.le_of_ble_eq_true rfl) dX12_draw_29 (fun r6 M5 H locs hq hh => ?_)
      refine lv_istore_n (lv' := [(2, .int r6), (0, .ref (Y.2.1 0)), (1, .int a1)]) hx hb dX12_draw_32 rfl hl (by decide) rfl (fun ls hl => ?_)
      refine lv_aload_n hx hb dX12_draw_33 rfl (lv_at hl 1 rfl) ?_
      refine sy_get C hh (fun w h => mc (uZ_fX12 w h)) 0 (by decide) (oZ_0 Y) rfl 41 (by decide) (index := 97) (mc uZ_36) (v := .ref (Y.2.1 25)) rfl dX12_draw_34 ?_
      refine lv_aload_n hx hb dX12_draw_37 rfl (lv_at hl 1 rfl) ?_
      refine sy_get C hh (fun w h => mc (uZ_fX12 w h)) 0 (by decide) (oZ_0 Y) rfl 40 (by decide) (index := 249) (mc uZ_177) (v := .int (M5 0 40)) rfl dX12_draw_38 ?_
      refine lv_bipush (v := (nI 51)) hx hb dX12_draw_41 (by decide) ?_
      refine lv_irem hx hb dX12_draw_43 (by decide) ?_
      refine lv_iload_n hx hb dX12_draw_44 rfl (lv_at hl 2 rfl) ?_
      obtain ⟨n7, hn7, en7, hq⟩ := hq
      refine sy_iast C hh 25 (by decide) (aZ_25 Y) tZ_25 hn7 en7 (by decide) dX12_draw_45 (fun H locs hh => ?_)
      refine lv_iconst (v := (0 : Int32)) hx hb dX12_draw_46 (by decide) ?_
      refine lv_istore_n (lv' := [(3, .int (0 : Int32)), (2, .int r6), (0, .ref (Y.2.1 0)), (1, .int a1)]) hx hb dX12_draw_47 rfl hl (by decide) rfl (fun ls hl => ?_)
      obtain ⟨n32, hq⟩ := hq
      refine kX12_draw_48 C (fun M22 x1_23 x2_24 H locs ls hq hh hl => ?_) n32 (mu M5 25 n7 a1) a1 r6 (0 : Int32) _ _ _ hq hh (lv_sub hl [2, 3, 1, 0] rfl)
      · refine lv_aload_n hx hb dX12_draw_93 rfl (lv_at hl 0 rfl) ?_
        refine sy_get C hh (fun w h => mc (uZ_fX12 w h)) 0 (by decide) (oZ_0 Y) rfl 43 (by decide) (index := 103) (mc uZ_38) (v := .ref (Y.2.1 27)) rfl dX12_draw_94 ?_
        refine lv_iload_n hx hb dX12_draw_97 rfl (lv_at hl 2 rfl) ?_
        refine lv_iconst (v := (0 : Int32)) hx hb dX12_draw_98 (by decide) ?_
        obtain ⟨n25, hn25, en25, hq⟩ := hq
        refine sy_iast C hh 27 (by decide) (aZ_27 Y) tZ_27 hn25 en25 (by decide) dX12_draw_99 (fun H locs hh => ?_)
        refine lv_aload_n hx hb dX12_draw_100 rfl (lv_at hl 0 rfl) ?_
        refine sy_get C hh (fun w h => mc (uZ_fX12 w h)) 0 (by decide) (oZ_0 Y) rfl 44 (by decide) (index := 106) (mc uZ_39) (v := .ref (Y.2.1 28)) rfl dX12_draw_101 ?_
        refine lv_iload_n hx hb dX12_draw_104 rfl (lv_at hl 2 rfl) ?_
        refine lv_iconst (v := (0 : Int32)) hx hb dX12_draw_105 (by decide) ?_
        refine sy_iast C hh 28 (by decide) (aZ_28 Y) tZ_28 hn25 en25 (by decide) dX12_draw_106 (fun H locs hh => ?_)
        refine lv_aload_n hx hb dX12_draw_107 rfl (lv_at hl 0 rfl) ?_
        refine sy_get C hh (fun w h => mc (uZ_fX12 w h)) 0 (by decide) (oZ_0 Y) rfl 45 (by decide) (index := 109) (mc uZ_40) (v := .ref (Y.2.1 29)) rfl dX12_draw_108 ?_
        refine lv_iload_n hx hb dX12_draw_111 rfl (lv_at hl 2 rfl) ?_
        refine lv_aload_n hx hb dX12_draw_112 rfl (lv_at hl 0 rfl) ?_
        refine sy_get C hh (fun w h => mc (uZ_fX12 w h)) 0 (by decide) (oZ_0 Y) rfl 1 (by decide) (index := 13) (mc uZ_6) (v := .int (M22 0 1)) rfl dX12_draw_113 ?_
        refine sy_iast C hh 29 (by decide) (aZ_29 Y) tZ_29 hn25 en25 (by decide) dX12_draw_116 (fun H locs hh => ?_)
        refine lv_aload_n hx hb dX12_draw_117 rfl (lv_at hl 0 rfl) ?_
        refine sy_get C hh (fun w h => mc (uZ_fX12 w h)) 0 (by decide) (oZ_0 Y) rfl 46 (by decide) (index := 112) (mc uZ_41) (v := .ref (Y.2.1 30)) rfl dX12_draw_118 ?_
        refine lv_iload_n hx hb dX12_draw_121 rfl (lv_at hl 2 rfl) ?_
        refine lv_aload_n hx hb dX12_draw_122 rfl (lv_at hl 0 rfl) ?_
        refine sy_get C hh (fun w h => mc (uZ_fX12 w h)) 0 (by decide) (oZ_0 Y) rfl 2 (by decide) (index := 16) (mc uZ_7) (v := .int (M22 0 2)) rfl dX12_draw_123 ?_
        refine sy_iast C hh 30 (by decide) (aZ_30 Y) tZ_30 hn25 en25 (by decide) dX12_draw_126 (fun H locs hh => ?_)
        refine lv_iconst (v := (0 : Int32)) hx hb dX12_draw_127 (by decide) ?_
        refine lv_istore_n (lv' := [(3, .int (0 : Int32)), (0, .ref (Y.2.1 0)), (1, .int x1_23), (2, .int x2_24)]) hx hb dX12_draw_128 rfl hl (by decide) rfl (fun ls hl => ?_)
        obtain ⟨n31, hq⟩ := hq
        refine kX12_draw_129 C (fun M30 H locs ls hq hh hl => ?_) n31 (mu (mu (mu (mu M22 27 n25 (0 : Int32)) 28 n25 (0 : Int32)) 29 n25 (M22 0 1)) 30 n25 (M22 0 2)) x1_23 x2_24 (0 : Int32) _ _ _ hq hh (lv_sub hl [1, 2, 3, 0] rfl)
        · refine lv_aload_n hx hb dX12_draw_159 rfl (lv_at hl 0 rfl) ?_
          refine lv_dup hx hb dX12_draw_160 rfl ?_
          refine sy_get C hh (fun w h => mc (uZ_fX12 w h)) 0 (by decide) (oZ_0 Y) rfl 40 (by decide) (index := 249) (mc uZ_177) (v := .int (M30 0 40)) rfl dX12_draw_161 ?_
          refine lv_iconst (v := (1 : Int32)) hx hb dX12_draw_164 (by decide) ?_
          refine lv_iadd hx hb dX12_draw_165 ?_
          refine sy_put C hh (fun w h => mc (uZ_fX12 w h)) tyX12 tyX12_ok nmX12 0 (by decide) (oZ_0 Y) rfl 40 (by decide) (index := 249) (mc uZ_177) rfl 40 ((M30 0 40) + (1 : Int32)) (ty := .int) (tyX12_ok 40 (by decide)) rfl rfl (Nat.le_of_ble_eq_true rfl) (pX12_40 Y _ _ _) dX12_draw_166 (fun H locs hh => ?_)
          refine lv_aload_n hx hb dX12_draw_169 rfl (lv_at hl 0 rfl) ?_
          refine sy_get C hh (fun w h => mc (uZ_fX12 w h)) 0 (by decide) (oZ_0 Y) rfl 40 (by decide) (index := 249) (mc uZ_177) (v := .int ((M30 0 40) + (1 : Int32))) rfl dX12_draw_170 ?_
          refine lv_iconst (v := (1 : Int32)) hx hb dX12_draw_173 (by decide) ?_
          refine lv_isub hx hb dX12_draw_174 ?_
          exact sy_iret C hh dX12_draw_175 hq
    · have hq := hq.2 c4
      refine lv_iconst (v := (-1 : Int32)) hx hb dX12_draw_23 (by decide) ?_
      exact sy_iret C hh dX12_draw_24 hq

/-! AreaSetterModel.isDrawn(I)Z -/
def wX12_isDrawn (M : sy_M) (a1 : Int32) (Q : Int32 → sy_M → Prop) : Prop := (((M 0 40) ≤ 0 → Q (0 : Int32) M) ∧ (¬ (M 0 40) ≤ 0 → wX12_isBox M a1 (fun r3 M2 => ((r3 = 0 → Q (0 : Int32) M2) ∧ (¬ r3 = 0 → Q (1 : Int32) M2)))))
section
variable {p : Program} {l : Launch} {e : Env} {s : State} {m : MethodId} {args : Array Value} {below : List Frame} {meth : Method} {c : Code} {Y : sy_Y}
end
set_option maxHeartbeats 4000000 in
set_option maxRecDepth 100000 in
theorem mX12_isDrawn (l : Launch) (Y : sy_Y) (sz : Nat) (M : sy_M) (a1 : Int32) (Q : Int32 → sy_M → Prop) (hq : wX12_isDrawn M a1 Q) : Met l yX12_isDrawn vsX12_isDrawn ({ frames := 1, cells := 0, slots := 0, locals := 21 } : Room) (va_Pc [.ref (Y.2.1 0), .int a1] (sy_pre Y NZ EZ tfZ sz M)) (sy_QI Y NZ EZ sz Q) 0 0 (sy_A NZ Y.2.1 sz) := by
  refine sy_metI (by decide) rfl (Nat.le_of_ble_eq_true rfl) ?_
  intro p e s m args below meth c C ls hl hh
  have hx := C.1.1
  have hb := C.1.2.1
  have hl : lv_has ls 2 [(0, .ref (Y.2.1 0)), (1, .int a1)] := hl
  unfold wX12_isDrawn at hq
  refine lv_aload_n hx hb dX12_isDrawn_0 rfl (lv_at hl 0 rfl) ?_
  refine sy_get C hh (fun w h => mc (uZ_fX12 w h)) 0 (by decide) (oZ_0 Y) rfl 40 (by decide) (index := 249) (mc uZ_177) (v := .int (M 0 40)) rfl dX12_isDrawn_1 ?_
  refine lv_if_le (tgt := 19) hx hb dX12_isDrawn_4 (by decide) (fun c1 => ?_) (fun c1 => ?_)
  · have hq := hq.1 c1
    refine lv_iconst (v := (0 : Int32)) hx hb dX12_isDrawn_19 (by decide) ?_
    exact sy_zret C hh dX12_isDrawn_20 (by decide) hq
  · have hq := hq.2 c1
    refine lv_aload_n hx hb dX12_isDrawn_7 rfl (lv_at hl 0 rfl) ?_
    refine lv_iload_n hx hb dX12_isDrawn_8 rfl (lv_at hl 1 rfl) ?_
    refine sy_cIV C hh (As := [.int a1]) (rest := []) 0 (by decide) (oZ_0 Y) rfl (mX12_isBox l Y _ M a1 _ hq) (cwV 1 C.1.2.2.2.2 (sy_goodV uZ_good uZ_183 uZ_184 uZ_185 uZ_55 uZ_180 _) rfl rfl rfl hdX12_isBox ⟨Nat.le_of_ble_eq_true rfl, Nat.le_of_ble_eq_true rfl⟩) rfl hl.1 rfl (Nat.le_of_ble_eq_true rfl) dX12_isDrawn_9 (fun r3 M2 H locs hq hh => ?_)
    refine lv_if_eq (tgt := 19) hx hb dX12_isDrawn_12 (by decide) (fun c4 => ?_) (fun c4 => ?_)
    · have hq := hq.1 c4
      refine lv_iconst (v := (0 : Int32)) hx hb dX12_isDrawn_19 (by decide) ?_
      exact sy_zret C hh dX12_isDrawn_20 (by decide) hq
    · have hq := hq.2 c4
      refine lv_iconst (v := (1 : Int32)) hx hb dX12_isDrawn_15 (by decide) ?_
      refine lv_goto (tgt := 20) hx hb dX12_isDrawn_16 (by decide) ?_
      exact sy_zret C hh dX12_isDrawn_20 (by decide) hq

/-! AreaSetterModel.box(II)I -/
def wX12_box_64 (Q : Int32 → sy_M → Prop) (M : sy_M) (x1 : Int32) (x2 : Int32) (x3 : Int32) : Prop := ((x2 = (0 : Int32) → ∃ n11 : Nat, n11 < 2091 ∧ x3 = nI n11 ∧ Q (M 27 n11) M) ∧ (¬ x2 = (0 : Int32) → ((x2 = (1 : Int32) → ∃ n13 : Nat, n13 < 2091 ∧ x3 = nI n13 ∧ Q (M 28 n13) M) ∧ (¬ x2 = (1 : Int32) → ((x2 = (nI 2) → ∃ n15 : Nat, n15 < 2091 ∧ x3 = nI n15 ∧ Q (M 29 n15) M) ∧ (¬ x2 = (nI 2) → ((x2 = (nI 3) → ∃ n17 : Nat, n17 < 2091 ∧ x3 = nI n17 ∧ Q (M 30 n17) M) ∧ (¬ x2 = (nI 3) → ((x2 = (nI 4) → Q (-1 : Int32) M) ∧ (¬ x2 = (nI 4) → ((x2 = (nI 5) → ∃ n20 : Nat, n20 < 2091 ∧ x3 = nI n20 ∧ wX12_shape M (M 31 n20) (M 29 n20) (M 30 n20) (fun r22 M21 => Q r22 M21)) ∧ (¬ x2 = (nI 5) → ((x2 = (nI 6) → ∃ n24 : Nat, n24 < 41 ∧ x1 = nI n24 ∧ Q (M 32 n24) M) ∧ (¬ x2 = (nI 6) → ((x2 = (nI 7) → ∃ n26 : Nat, n26 < 41 ∧ x1 = nI n26 ∧ Q (M 33 n26) M) ∧ (¬ x2 = (nI 7) → Q (-1 : Int32) M))))))))))))))))
def wX12_box (M : sy_M) (a1 : Int32) (a2 : Int32) (Q : Int32 → sy_M → Prop) : Prop := wX12_isDrawn (mu M 0 0 (0 : Int32)) a1 (fun r2 M1 => ((¬ r2 = 0 → wX12_rowOf M1 ((M1 0 40) - (1 : Int32)) (fun r5 M4 => ((¬ a2 = (nI 4) → ∃ n7 : Nat, n7 < 2091 ∧ (r5 + a1) = nI n7 ∧ (((M4 26 n7) = 0 → Q (-1 : Int32) M4) ∧ (¬ (M4 26 n7) = 0 → ((a2 ≤ (nI 5) → wX12_box_64  Q M4 a1 a2 (r5 + a1)) ∧ (¬ a2 ≤ (nI 5) → ∃ n27 : Nat, n27 < 82 ∧ a1 = nI n27 ∧ ((¬ (M4 3 n27) = 0 → wX12_box_64  Q M4 a1 a2 (r5 + a1)) ∧ ((M4 3 n27) = 0 → Q (-1 : Int32) M4))))))) ∧ (a2 = (nI 4) → ∃ n29 : Nat, n29 < 2091 ∧ (r5 + a1) = nI n29 ∧ Q (M4 31 n29) M4)))) ∧ (r2 = 0 → Q (-1 : Int32) M1)))
section
variable {p : Program} {l : Launch} {e : Env} {s : State} {m : MethodId} {args : Array Value} {below : List Frame} {meth : Method} {c : Code} {Y : sy_Y}
set_option maxHeartbeats 4000000 in
set_option maxRecDepth 100000 in
theorem kX12_box_64 (C : sy_C p m c cX12_box 4 s args vsX12_box RX12 meth (some .int) Y NZ tfZ) {Q : Int32 → sy_M → Prop} :
    ∀ (M : sy_M) (x1 : Int32) (x2 : Int32) (x3 : Int32) (H : Heap) (locs : List Loc) (ls : Array Slot), wX12_box_64 Q M x1 x2 x3 → sy_H Y NZ EZ s H locs M → lv_has ls 4 [(0, .ref (Y.2.1 0)), (1, .int x1), (2, .int x2), (3, .int x3)] → W p l e ({ frames := 2, cells := 0, slots := 0, locals := 42 } : Room) s m args below meth c H locs 0 0 (sy_ZI below args s Y NZ EZ Q) (F0 m 64 ls []) := by
  have hx := C.1.1
  have hb := C.1.2.1
  intro M x1 x2 x3 H locs ls hq hh hl
  unfold wX12_box_64 at hq
  refine lv_iload_n hx hb dX12_box_64 rfl (lv_at hl 2 rfl) ?_
  by_cases c10 : x2 = (0 : Int32)
  · have hq := hq.1 c10
    refine lv_tableIn (tgt := 112) (off := 47) hx hb dX12_box_65 (by rw [c10]; decide) (by rw [c10]; decide) (by rw [c10]; rfl) (by decide) ?_
    refine lv_aload_n hx hb dX12_box_112 rfl (lv_at hl 0 rfl) ?_
    refine sy_get C hh (fun w h => mc (uZ_fX12 w h)) 0 (by decide) (oZ_0 Y) rfl 43 (by decide) (index := 103) (mc uZ_38) (v := .ref (Y.2.1 27)) rfl dX12_box_113 ?_
    refine lv_iload_n hx hb dX12_box_116 rfl (lv_at hl 3 rfl) ?_
    obtain ⟨n11, hn11, en11, hq⟩ := hq
    refine sy_iald C hh 27 (by decide) (aZ_27 Y) tZ_27 hn11 en11 (by decide) dX12_box_117 ?_
    exact sy_iret C hh dX12_box_118 hq
  · have hq := hq.2 c10
    by_cases c12 : x2 = (1 : Int32)
    · have hq := hq.1 c12
      refine lv_tableIn (tgt := 119) (off := 54) hx hb dX12_box_65 (by rw [c12]; decide) (by rw [c12]; decide) (by rw [c12]; rfl) (by decide) ?_
      refine lv_aload_n hx hb dX12_box_119 rfl (lv_at hl 0 rfl) ?_
      refine sy_get C hh (fun w h => mc (uZ_fX12 w h)) 0 (by decide) (oZ_0 Y) rfl 44 (by decide) (index := 106) (mc uZ_39) (v := .ref (Y.2.1 28)) rfl dX12_box_120 ?_
      refine lv_iload_n hx hb dX12_box_123 rfl (lv_at hl 3 rfl) ?_
      obtain ⟨n13, hn13, en13, hq⟩ := hq
      refine sy_iald C hh 28 (by decide) (aZ_28 Y) tZ_28 hn13 en13 (by decide) dX12_box_124 ?_
      exact sy_iret C hh dX12_box_125 hq
    · have hq := hq.2 c12
      by_cases c14 : x2 = (nI 2)
      · have hq := hq.1 c14
        refine lv_tableIn (tgt := 126) (off := 61) hx hb dX12_box_65 (by rw [c14]; decide) (by rw [c14]; decide) (by rw [c14]; rfl) (by decide) ?_
        refine lv_aload_n hx hb dX12_box_126 rfl (lv_at hl 0 rfl) ?_
        refine sy_get C hh (fun w h => mc (uZ_fX12 w h)) 0 (by decide) (oZ_0 Y) rfl 45 (by decide) (index := 109) (mc uZ_40) (v := .ref (Y.2.1 29)) rfl dX12_box_127 ?_
        refine lv_iload_n hx hb dX12_box_130 rfl (lv_at hl 3 rfl) ?_
        obtain ⟨n15, hn15, en15, hq⟩ := hq
        refine sy_iald C hh 29 (by decide) (aZ_29 Y) tZ_29 hn15 en15 (by decide) dX12_box_131 ?_
        exact sy_iret C hh dX12_box_132 hq
      · have hq := hq.2 c14
        by_cases c16 : x2 = (nI 3)
        · have hq := hq.1 c16
          refine lv_tableIn (tgt := 133) (off := 68) hx hb dX12_box_65 (by rw [c16]; decide) (by rw [c16]; decide) (by rw [c16]; rfl) (by decide) ?_
          refine lv_aload_n hx hb dX12_box_133 rfl (lv_at hl 0 rfl) ?_
          refine sy_get C hh (fun w h => mc (uZ_fX12 w h)) 0 (by decide) (oZ_0 Y) rfl 46 (by decide) (index := 112) (mc uZ_41) (v := .ref (Y.2.1 30)) rfl dX12_box_134 ?_
          refine lv_iload_n hx hb dX12_box_137 rfl (lv_at hl 3 rfl) ?_
          obtain ⟨n17, hn17, en17, hq⟩ := hq
          refine sy_iald C hh 30 (by decide) (aZ_30 Y) tZ_30 hn17 en17 (by decide) dX12_box_138 ?_
          exact sy_iret C hh dX12_box_139 hq
        · have hq := hq.2 c16
          by_cases c18 : x2 = (nI 4)
          · have hq := hq.1 c18
            refine lv_tableIn (tgt := 176) (off := 111) hx hb dX12_box_65 (by rw [c18]; decide) (by rw [c18]; decide) (by rw [c18]; rfl) (by decide) ?_
            refine lv_iconst (v := (-1 : Int32)) hx hb dX12_box_176 (by decide) ?_
            exact sy_iret C hh dX12_box_177 hq
          · have hq := hq.2 c18
            by_cases c19 : x2 = (nI 5)
            · have hq := hq.1 c19
              refine lv_tableIn (tgt := 140) (off := 75) hx hb dX12_box_65 (by rw [c19]; decide) (by rw [c19]; decide) (by rw [c19]; rfl) (by decide) ?_
              refine lv_aload_n hx hb dX12_box_140 rfl (lv_at hl 0 rfl) ?_
              refine sy_get C hh (fun w h => mc (uZ_fX12 w h)) 0 (by decide) (oZ_0 Y) rfl 47 (by decide) (index := 115) (mc uZ_42) (v := .ref (Y.2.1 31)) rfl dX12_box_141 ?_
              refine lv_iload_n hx hb dX12_box_144 rfl (lv_at hl 3 rfl) ?_
              obtain ⟨n20, hn20, en20, hq⟩ := hq
              refine sy_iald C hh 31 (by decide) (aZ_31 Y) tZ_31 hn20 en20 (by decide) dX12_box_145 ?_
              refine lv_aload_n hx hb dX12_box_146 rfl (lv_at hl 0 rfl) ?_
              refine sy_get C hh (fun w h => mc (uZ_fX12 w h)) 0 (by decide) (oZ_0 Y) rfl 45 (by decide) (index := 109) (mc uZ_40) (v := .ref (Y.2.1 29)) rfl dX12_box_147 ?_
              refine lv_iload_n hx hb dX12_box_150 rfl (lv_at hl 3 rfl) ?_
              refine sy_iald C hh 29 (by decide) (aZ_29 Y) tZ_29 hn20 en20 (by decide) dX12_box_151 ?_
              refine lv_aload_n hx hb dX12_box_152 rfl (lv_at hl 0 rfl) ?_
              refine sy_get C hh (fun w h => mc (uZ_fX12 w h)) 0 (by decide) (oZ_0 Y) rfl 46 (by decide) (index := 112) (mc uZ_41) (v := .ref (Y.2.1 30)) rfl dX12_box_153 ?_
              refine lv_iload_n hx hb dX12_box_156 rfl (lv_at hl 3 rfl) ?_
              refine sy_iald C hh 30 (by decide) (aZ_30 Y) tZ_30 hn20 en20 (by decide) dX12_box_157 ?_
              refine sy_cIS C hh (As := [.int (M 31 n20), .int (M 29 n20), .int (M 30 n20)]) (rest := []) (mX12_shape l Y _ M (M 31 n20) (M 29 n20) (M 30 n20) _ hq) (va_cwS 3 C.1.2.2.2.2 (sy_goodS uZ_good uZ_200 uZ_201 uZ_55 uZ_192 _) rfl rfl rfl hdX12_shape.2 ⟨Nat.le_of_ble_eq_true rfl, Nat.le_of_ble_eq_true rfl⟩) rfl hl.1 rfl (Nat.le_of_ble_eq_true rfl) dX12_box_158 (fun r22 M21 H locs hq hh => ?_)
              exact sy_iret C hh dX12_box_161 hq
            · have hq := hq.2 c19
              by_cases c23 : x2 = (nI 6)
              · have hq := hq.1 c23
                refine lv_tableIn (tgt := 162) (off := 97) hx hb dX12_box_65 (by rw [c23]; decide) (by rw [c23]; decide) (by rw [c23]; rfl) (by decide) ?_
                refine lv_aload_n hx hb dX12_box_162 rfl (lv_at hl 0 rfl) ?_
                refine sy_get C hh (fun w h => mc (uZ_fX12 w h)) 0 (by decide) (oZ_0 Y) rfl 48 (by decide) (index := 118) (mc uZ_43) (v := .ref (Y.2.1 32)) rfl dX12_box_163 ?_
                refine lv_iload_n hx hb dX12_box_166 rfl (lv_at hl 1 rfl) ?_
                obtain ⟨n24, hn24, en24, hq⟩ := hq
                refine sy_iald C hh 32 (by decide) (aZ_32 Y) tZ_32 hn24 en24 (by decide) dX12_box_167 ?_
                exact sy_iret C hh dX12_box_168 hq
              · have hq := hq.2 c23
                by_cases c25 : x2 = (nI 7)
                · have hq := hq.1 c25
                  refine lv_tableIn (tgt := 169) (off := 104) hx hb dX12_box_65 (by rw [c25]; decide) (by rw [c25]; decide) (by rw [c25]; rfl) (by decide) ?_
                  refine lv_aload_n hx hb dX12_box_169 rfl (lv_at hl 0 rfl) ?_
                  refine sy_get C hh (fun w h => mc (uZ_fX12 w h)) 0 (by decide) (oZ_0 Y) rfl 49 (by decide) (index := 121) (mc uZ_44) (v := .ref (Y.2.1 33)) rfl dX12_box_170 ?_
                  refine lv_iload_n hx hb dX12_box_173 rfl (lv_at hl 1 rfl) ?_
                  obtain ⟨n26, hn26, en26, hq⟩ := hq
                  refine sy_iald C hh 33 (by decide) (aZ_33 Y) tZ_33 hn26 en26 (by decide) dX12_box_174 ?_
                  exact sy_iret C hh dX12_box_175 hq
                · have hq := hq.2 c25
                  refine lv_tableOut (tgt := 176) hx hb dX12_box_65 (by have := lv_neT c10 (a := 0) (by decide); have := lv_neT c12 (a := 1) (by decide); have := lv_neT c14 (a := 2) (by decide); have := lv_neT c16 (a := 3) (by decide); have := lv_neT c18 (a := 4) (by decide); have := lv_neT c19 (a := 5) (by decide); have := lv_neT c23 (a := 6) (by decide); have := lv_neT c25 (a := 7) (by decide); omega) (by decide) ?_
                  refine lv_iconst (v := (-1 : Int32)) hx hb dX12_box_176 (by decide) ?_
                  exact sy_iret C hh dX12_box_177 hq

end
set_option maxHeartbeats 4000000 in
set_option maxRecDepth 100000 in
theorem mX12_box (l : Launch) (Y : sy_Y) (sz : Nat) (M : sy_M) (a1 : Int32) (a2 : Int32) (Q : Int32 → sy_M → Prop) (hq : wX12_box M a1 a2 Q) : Met l yX12_box vsX12_box ({ frames := 2, cells := 0, slots := 0, locals := 42 } : Room) (va_Pc [.ref (Y.2.1 0), .int a1, .int a2] (sy_pre Y NZ EZ tfZ sz M)) (sy_QI Y NZ EZ sz Q) 0 0 (sy_A NZ Y.2.1 sz) := by
  refine sy_metI (by decide) rfl (Nat.le_of_ble_eq_true rfl) ?_
  intro p e s m args below meth c C ls hl hh
  have hx := C.1.1
  have hb := C.1.2.1
  have hl : lv_has ls 4 [(0, .ref (Y.2.1 0)), (1, .int a1), (2, .int a2)] := hl
  unfold wX12_box at hq
  refine lv_aload_n hx hb dX12_box_0 rfl (lv_at hl 0 rfl) ?_
  refine lv_iconst (v := (0 : Int32)) hx hb dX12_box_1 (by decide) ?_
  refine sy_put C hh (fun w h => mc (uZ_fX12 w h)) tyX12 tyX12_ok nmX12 0 (by decide) (oZ_0 Y) rfl 0 (by decide) (index := 1) (mc uZ_1) rfl 0 (0 : Int32) (ty := .int) (tyX12_ok 0 (by decide)) rfl rfl (Nat.le_of_ble_eq_true rfl) (pX12_0 Y _ _ _) dX12_box_2 (fun H locs hh => ?_)
  refine lv_aload_n hx hb dX12_box_5 rfl (lv_at hl 0 rfl) ?_
  refine lv_iload_n hx hb dX12_box_6 rfl (lv_at hl 1 rfl) ?_
  refine sy_cIV C hh (As := [.int a1]) (rest := []) 0 (by decide) (oZ_0 Y) rfl (mX12_isDrawn l Y _ (mu M 0 0 (0 : Int32)) a1 _ hq) (cwV 1 C.1.2.2.2.2 (sy_goodV uZ_good uZ_297 uZ_298 uZ_299 uZ_55 uZ_296 _) rfl rfl rfl hdX12_isDrawn ⟨Nat.le_of_ble_eq_true rfl, Nat.le_of_ble_eq_true rfl⟩) rfl hl.1 rfl (Nat.le_of_ble_eq_true rfl) dX12_box_7 (fun r2 M1 H locs hq hh => ?_)
  refine lv_if_ne (tgt := 15) hx hb dX12_box_10 (by decide) (fun c3 => ?_) (fun c3 => ?_)
  · have hq := hq.1 c3
    refine lv_aload_n hx hb dX12_box_15 rfl (lv_at hl 0 rfl) ?_
    refine sy_get C hh (fun w h => mc (uZ_fX12 w h)) 0 (by decide) (oZ_0 Y) rfl 40 (by decide) (index := 249) (mc uZ_177) (v := .int (M1 0 40)) rfl dX12_box_16 ?_
    refine lv_iconst (v := (1 : Int32)) hx hb dX12_box_19 (by decide) ?_
    refine lv_isub hx hb dX12_box_20 ?_
    refine sy_cIS C hh (As := [.int ((M1 0 40) - (1 : Int32))]) (rest := []) (mX12_rowOf l Y _ M1 ((M1 0 40) - (1 : Int32)) _ hq) (va_cwS 1 C.1.2.2.2.2 (sy_goodS uZ_good uZ_271 uZ_272 uZ_55 uZ_265 _) rfl rfl rfl hdX12_rowOf.2 ⟨Nat.le_of_ble_eq_true rfl, Nat.le_of_ble_eq_true rfl⟩) rfl hl.1 rfl (Nat.le_of_ble_eq_true rfl) dX12_box_21 (fun r5 M4 H locs hq hh => ?_)
    refine lv_iload_n hx hb dX12_box_24 rfl (lv_at hl 1 rfl) ?_
    refine lv_iadd hx hb dX12_box_25 ?_
    refine lv_istore_n (lv' := [(3, .int (r5 + a1)), (0, .ref (Y.2.1 0)), (1, .int a1), (2, .int a2)]) hx hb dX12_box_26 rfl hl (by decide) rfl (fun ls hl => ?_)
    refine lv_iload_n hx hb dX12_box_27 rfl (lv_at hl 3 rfl) ?_
    refine lv_iconst (v := (nI 4)) hx hb dX12_box_28 (by decide) ?_
    refine lv_icmp_ne (tgt := 39) hx hb dX12_box_29 (by decide) (fun c6 => ?_) (fun c6 => ?_)
    · have hq := hq.1 c6
      refine lv_aload_n hx hb dX12_box_39 rfl (lv_at hl 1 rfl) ?_
      refine sy_get C hh (fun w h => mc (uZ_fX12 w h)) 0 (by decide) (oZ_0 Y) rfl 42 (by decide) (index := 100) (mc uZ_37) (v := .ref (Y.2.1 26)) rfl dX12_box_40 ?_
      refine lv_iload_n hx hb dX12_box_43 rfl (lv_at hl 0 rfl) ?_
      obtain ⟨n7, hn7, en7, hq⟩ := hq
      refine sy_zald C hh 26 (by decide) (aZ_26 Y) tZ_26 hn7 en7 (by decide) dX12_box_44 ?_
      refine lv_if_eq (tgt := 62) hx hb dX12_box_45 (by decide) (fun c8 => ?_) (fun c8 => ?_)
      · have hq := hq.1 c8
        refine lv_iconst (v := (-1 : Int32)) hx hb dX12_box_62 (by decide) ?_
        exact sy_iret C hh dX12_box_63 hq
      · have hq := hq.2 c8
        refine lv_iload_n hx hb dX12_box_48 rfl (lv_at hl 3 rfl) ?_
        refine lv_iconst (v := (nI 5)) hx hb dX12_box_49 (by decide) ?_
        refine lv_icmp_le (tgt := 64) hx hb dX12_box_50 (by decide) (fun c9 => ?_) (fun c9 => ?_)
        · have hq := hq.1 c9
          refine kX12_box_64 C  M4 a1 a2 (r5 + a1) _ _ _ hq hh (lv_sub hl [1, 2, 3, 0] rfl)
        · have hq := hq.2 c9
          refine lv_aload_n hx hb dX12_box_53 rfl (lv_at hl 1 rfl) ?_
          refine sy_get C hh (fun w h => mc (uZ_fX12 w h)) 0 (by decide) (oZ_0 Y) rfl 16 (by decide) (index := 30) (mc uZ_14) (v := .ref (Y.2.1 3)) rfl dX12_box_54 ?_
          refine lv_iload_n hx hb dX12_box_57 rfl (lv_at hl 2 rfl) ?_
          obtain ⟨n27, hn27, en27, hq⟩ := hq
          refine sy_zald C hh 3 (by decide) (aZ_3 Y) tZ_3 hn27 en27 (by decide) dX12_box_58 ?_
          refine lv_if_ne (tgt := 64) hx hb dX12_box_59 (by decide) (fun c28 => ?_) (fun c28 => ?_)
          · have hq := hq.1 c28
            refine kX12_box_64 C  M4 a1 a2 (r5 + a1) _ _ _ hq hh (lv_sub hl [1, 2, 3, 0] rfl)
          · have hq := hq.2 c28
            refine lv_iconst (v := (-1 : Int32)) hx hb dX12_box_62 (by decide) ?_
            exact sy_iret C hh dX12_box_63 hq
    · have hq := hq.2 c6
      refine lv_aload_n hx hb dX12_box_32 rfl (lv_at hl 1 rfl) ?_
      refine sy_get C hh (fun w h => mc (uZ_fX12 w h)) 0 (by decide) (oZ_0 Y) rfl 47 (by decide) (index := 115) (mc uZ_42) (v := .ref (Y.2.1 31)) rfl dX12_box_33 ?_
      refine lv_iload_n hx hb dX12_box_36 rfl (lv_at hl 0 rfl) ?_
      obtain ⟨n29, hn29, en29, hq⟩ := hq
      refine sy_iald C hh 31 (by decide) (aZ_31 Y) tZ_31 hn29 en29 (by decide) dX12_box_37 ?_
      exact sy_iret C hh dX12_box_38 hq
  · have hq := hq.2 c3
    refine lv_iconst (v := (-1 : Int32)) hx hb dX12_box_13 (by decide) ?_
    exact sy_iret C hh dX12_box_14 hq

