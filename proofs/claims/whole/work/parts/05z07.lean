/-! AreaSetterModel.drawGroup(III)V -/
def wX12_drawGroup_185 (Q : sy_M → Prop) : Nat → sy_M → Int32 → Int32 → Int32 → Prop
  | 0, _, _, _, _ => False
  | n + 1, M, x1, x2, x9 => (((M 0 30) ≤ x9 → Q M) ∧ (¬ (M 0 30) ≤ x9 → ∃ n17 : Nat, n17 < 9 ∧ x9 = nI n17 ∧ ((¬ (M 16 n17) = (-1 : Int32) → ∃ n19 : Nat, n19 < 9 ∧ x9 = nI n19 ∧ ∃ n20 : Nat, n20 < 2091 ∧ (x2 + (M 16 n19)) = nI n20 ∧ ∃ n21 : Nat, n21 < 9 ∧ x9 = nI n21 ∧ ∃ n22 : Nat, n22 < 2091 ∧ (x2 + (M 16 n19)) = nI n22 ∧ ∃ n23 : Nat, n23 < 9 ∧ x9 = nI n23 ∧ ∃ n24 : Nat, n24 < 2091 ∧ (x2 + (M 16 n19)) = nI n24 ∧ ∃ n25 : Nat, n25 < 9 ∧ x9 = nI n25 ∧ ∃ n26 : Nat, n26 < 2091 ∧ (x2 + (M 16 n19)) = nI n26 ∧ ∃ n27 : Nat, n27 < 9 ∧ x9 = nI n27 ∧ ∃ n28 : Nat, n28 < 2091 ∧ (x2 + (M 16 n19)) = nI n28 ∧ wX12_drawGroup_185 Q n (mu (mu (mu (mu (mu M 26 n20 (vp_nar .boolean (1 : Int32))) 27 n22 ((mu M 26 n20 (vp_nar .boolean (1 : Int32))) 18 n21)) 28 n24 ((mu (mu M 26 n20 (vp_nar .boolean (1 : Int32))) 27 n22 ((mu M 26 n20 (vp_nar .boolean (1 : Int32))) 18 n21)) 19 n23)) 29 n26 ((mu (mu (mu M 26 n20 (vp_nar .boolean (1 : Int32))) 27 n22 ((mu M 26 n20 (vp_nar .boolean (1 : Int32))) 18 n21)) 28 n24 ((mu (mu M 26 n20 (vp_nar .boolean (1 : Int32))) 27 n22 ((mu M 26 n20 (vp_nar .boolean (1 : Int32))) 18 n21)) 19 n23)) 20 n25)) 30 n28 ((mu (mu (mu (mu M 26 n20 (vp_nar .boolean (1 : Int32))) 27 n22 ((mu M 26 n20 (vp_nar .boolean (1 : Int32))) 18 n21)) 28 n24 ((mu (mu M 26 n20 (vp_nar .boolean (1 : Int32))) 27 n22 ((mu M 26 n20 (vp_nar .boolean (1 : Int32))) 18 n21)) 19 n23)) 29 n26 ((mu (mu (mu M 26 n20 (vp_nar .boolean (1 : Int32))) 27 n22 ((mu M 26 n20 (vp_nar .boolean (1 : Int32))) 18 n21)) 28 n24 ((mu (mu M 26 n20 (vp_nar .boolean (1 : Int32))) 27 n22 ((mu M 26 n20 (vp_nar .boolean (1 : Int32))) 18 n21)) 19 n23)) 20 n25)) 21 n27)) x1 x2 (x9 + (1 : Int32))) ∧ ((M 16 n17) = (-1 : Int32) → ∃ n29 : Nat, n29 < 9 ∧ x9 = nI n29 ∧ ∃ n30 : Nat, n30 < 41 ∧ x1 = nI n30 ∧ ∃ n31 : Nat, n31 < 9 ∧ x9 = nI n31 ∧ ∃ n32 : Nat, n32 < 41 ∧ x1 = nI n32 ∧ ∃ n33 : Nat, n33 < 9 ∧ x9 = nI n33 ∧ ∃ n34 : Nat, n34 < 41 ∧ x1 = nI n34 ∧ ∃ n35 : Nat, n35 < 9 ∧ x9 = nI n35 ∧ ∃ n36 : Nat, n36 < 41 ∧ x1 = nI n36 ∧ wX12_drawGroup_185 Q n (mu (mu (mu (mu M 36 n30 (M 18 n29)) 37 n32 ((mu M 36 n30 (M 18 n29)) 19 n31)) 38 n34 ((mu (mu M 36 n30 (M 18 n29)) 37 n32 ((mu M 36 n30 (M 18 n29)) 19 n31)) 20 n33)) 39 n36 ((mu (mu (mu M 36 n30 (M 18 n29)) 37 n32 ((mu M 36 n30 (M 18 n29)) 19 n31)) 38 n34 ((mu (mu M 36 n30 (M 18 n29)) 37 n32 ((mu M 36 n30 (M 18 n29)) 19 n31)) 20 n33)) 21 n35)) x1 x2 (x9 + (1 : Int32))))))
def wX12_drawGroup_171 (Q : sy_M → Prop) (M : sy_M) (x1 : Int32) (x2 : Int32) (s1 : Int32) (s2 : Int32) : Prop := ∃ n12 : Nat, n12 < 41 ∧ s1 = nI n12 ∧ wX12_worst (mu M 32 n12 s2) (fun r14 M13 => ∃ n15 : Nat, n15 < 41 ∧ x1 = nI n15 ∧ ∃ n37 : Nat, wX12_drawGroup_185  Q n37 (mu M13 33 n15 r14) x1 x2 (0 : Int32))
def wX12_drawGroup_134 (Q : sy_M → Prop) (M : sy_M) (x1 : Int32) (x2 : Int32) (x4 : Int32) (x5 : Int32) (x6 : Int32) (x7 : Int32) (x8 : Int32) : Prop := wX12_lays M x8 x4 x5 x6 x7 (fun M8 => wX12_sum M8 (0 : Int32) (M8 0 30) (fun r10 M9 => ((¬ r10 = 0 → wX12_drawGroup_171  Q M9 x1 x2 x1 x8) ∧ (r10 = 0 → wX12_drawGroup_171  Q M9 x1 x2 x1 (0 : Int32)))))
def wX12_drawGroup_120 (K_66 : sy_M → Int32 → Int32 → Int32 → Int32 → Int32 → Int32 → Int32 → Int32 → Int32 → Prop) (Q : sy_M → Prop) (M : sy_M) (x1 : Int32) (x2 : Int32) (x4 : Int32) (x5 : Int32) (x6 : Int32) (x7 : Int32) (x10 : Int32) (x11 : Int32) : Prop := K_66 M x1 x2 x4 x5 x6 x7 x10 x11 (x10 + (1 : Int32))
def wX12_drawGroup_66 (K_134 : sy_M → Int32 → Int32 → Int32 → Int32 → Int32 → Int32 → Int32 → Prop) (Q : sy_M → Prop) : Nat → sy_M → Int32 → Int32 → Int32 → Int32 → Int32 → Int32 → Int32 → Int32 → Int32 → Prop
  | 0, _, _, _, _, _, _, _, _, _, _ => False
  | n + 1, M, x1, x2, x4, x5, x6, x7, x8, x9, x10 => (((nI 3) ≤ x10 → K_134 M x1 x2 x4 x5 x6 x7 x8) ∧ (¬ (nI 3) ≤ x10 → wX12_lays M x10 x4 x5 x6 x7 (fun M39 => wX12_worst M39 (fun r41 M40 => wX12_moves M40 (fun r43 M42 => ((x10 ≤ 0 → wX12_drawGroup_120 (fun (M45 : sy_M) (x1_46 : Int32) (x2_47 : Int32) (x4_48 : Int32) (x5_49 : Int32) (x6_50 : Int32) (x7_51 : Int32) (x8_52 : Int32) (x9_53 : Int32) (x10_54 : Int32) => wX12_drawGroup_66 K_134 Q n M45 x1_46 x2_47 x4_48 x5_49 x6_50 x7_51 x8_52 x9_53 x10_54) Q M42 x1 x2 x4 x5 x6 x7 x10 (r41 + (((M40 0 3) * r43) / (nI 100)))) ∧ (¬ x10 ≤ 0 → (((r41 + (((M40 0 3) * r43) / (nI 100))) < x9 → wX12_drawGroup_120 (fun (M56 : sy_M) (x1_57 : Int32) (x2_58 : Int32) (x4_59 : Int32) (x5_60 : Int32) (x6_61 : Int32) (x7_62 : Int32) (x8_63 : Int32) (x9_64 : Int32) (x10_65 : Int32) => wX12_drawGroup_66 K_134 Q n M56 x1_57 x2_58 x4_59 x5_60 x6_61 x7_62 x8_63 x9_64 x10_65) Q M42 x1 x2 x4 x5 x6 x7 x10 (r41 + (((M40 0 3) * r43) / (nI 100)))) ∧ (¬ (r41 + (((M40 0 3) * r43) / (nI 100))) < x9 → wX12_drawGroup_66 K_134 Q n M42 x1 x2 x4 x5 x6 x7 x8 x9 (x10 + (1 : Int32)))))))))))
def wX12_drawGroup (M : sy_M) (a1 : Int32) (a2 : Int32) (a3 : Int32) (Q : sy_M → Prop) : Prop := ∃ n1 : Nat, n1 < 2091 ∧ (a2 + a1) = nI n1 ∧ ∃ n2 : Nat, n2 < 2091 ∧ (a2 + a1) = nI n2 ∧ ∃ n3 : Nat, n3 < 2091 ∧ (a2 + a1) = nI n3 ∧ ∃ n4 : Nat, n4 < 2091 ∧ (a2 + a1) = nI n4 ∧ wX12_findItems M a1 a3 (fun M5 => ∃ n6 : Nat, n6 < 82 ∧ a1 = nI n6 ∧ ((¬ (M5 6 n6) = (nI 3) → wX12_drawGroup_134  Q M5 a1 a2 (M 27 n1) (M 28 n2) (M 29 n3) (M 30 n4) (M5 6 n6)) ∧ ((M5 6 n6) = (nI 3) → ∃ n74 : Nat, wX12_drawGroup_66 (fun (M66 : sy_M) (x1_67 : Int32) (x2_68 : Int32) (x4_69 : Int32) (x5_70 : Int32) (x6_71 : Int32) (x7_72 : Int32) (x8_73 : Int32) => wX12_drawGroup_134  Q M66 x1_67 x2_68 x4_69 x5_70 x6_71 x7_72 x8_73) Q n74 M5 a1 a2 (M 27 n1) (M 28 n2) (M 29 n3) (M 30 n4) (M5 6 n6) (0 : Int32) (0 : Int32))))
section
variable {p : Program} {l : Launch} {e : Env} {s : State} {m : MethodId} {args : Array Value} {below : List Frame} {meth : Method} {c : Code} {Y : sy_Y}
set_option maxHeartbeats 4000000 in
set_option maxRecDepth 100000 in
theorem kX12_drawGroup_185 (C : sy_C p m c cX12_drawGroup 12 s args vsX12_drawGroup RX12 meth none Y NZ tfZ) {Q : sy_M → Prop} :
    ∀ (n : Nat) (M : sy_M) (x1 : Int32) (x2 : Int32) (x9 : Int32) (H : Heap) (locs : List Loc) (ls : Array Slot), wX12_drawGroup_185 Q n M x1 x2 x9 → sy_H Y NZ EZ s H locs M → lv_has ls 12 [(0, .ref (Y.2.1 0)), (1, .int x1), (2, .int x2), (9, .int x9)] → W p l e ({ frames := 40, cells := 0, slots := 0, locals := 1218 } : Room) s m args below meth c H locs 0 0 (sy_ZV below args s Y NZ EZ Q) (F0 m 185 ls []) := by
  have hx := C.1.1
  have hb := C.1.2.1
  intro n
  induction n with
  | zero =>
    intro M x1 x2 x9 H locs ls hq hh hl
    unfold wX12_drawGroup_185 at hq
    exact hq.elim
  | succ n ih =>
    intro M x1 x2 x9 H locs ls hq hh hl
    unfold wX12_drawGroup_185 at hq
    refine lv_iload hx hb dX12_drawGroup_185 (lv_at hl 3 rfl) ?_
    refine lv_aload_n hx hb dX12_drawGroup_187 rfl (lv_at hl 0 rfl) ?_
    refine sy_get C hh (fun w h => mc (uZ_fX12 w h)) 0 (by decide) (oZ_0 Y) rfl 30 (by decide) (index := 261) (mc uZ_195) (v := .int (M 0 30)) rfl dX12_drawGroup_188 ?_
    refine lv_icmp_ge (tgt := 341) hx hb dX12_drawGroup_191 (by decide) (fun c16 => ?_) (fun c16 => ?_)
    · have hq := hq.1 c16
      exact sy_vret C hh dX12_drawGroup_341 hq
    · have hq := hq.2 c16
      refine lv_aload_n hx hb dX12_drawGroup_194 rfl (lv_at hl 0 rfl) ?_
      refine sy_get C hh (fun w h => mc (uZ_fX12 w h)) 0 (by decide) (oZ_0 Y) rfl 31 (by decide) (index := 70) (mc uZ_27) (v := .ref (Y.2.1 16)) rfl dX12_drawGroup_195 ?_
      refine lv_iload hx hb dX12_drawGroup_198 (lv_at hl 3 rfl) ?_
      obtain ⟨n17, hn17, en17, hq⟩ := hq
      refine sy_iald C hh 16 (by decide) (aZ_16 Y) tZ_16 hn17 en17 (by decide) dX12_drawGroup_200 ?_
      refine lv_iconst (v := (-1 : Int32)) hx hb dX12_drawGroup_201 (by decide) ?_
      refine lv_icmp_ne (tgt := 260) hx hb dX12_drawGroup_202 (by decide) (fun c18 => ?_) (fun c18 => ?_)
      · have hq := hq.1 c18
        refine lv_iload_n hx hb dX12_drawGroup_260 rfl (lv_at hl 2 rfl) ?_
        refine lv_aload_n hx hb dX12_drawGroup_261 rfl (lv_at hl 0 rfl) ?_
        refine sy_get C hh (fun w h => mc (uZ_fX12 w h)) 0 (by decide) (oZ_0 Y) rfl 31 (by decide) (index := 70) (mc uZ_27) (v := .ref (Y.2.1 16)) rfl dX12_drawGroup_262 ?_
        refine lv_iload hx hb dX12_drawGroup_265 (lv_at hl 3 rfl) ?_
        obtain ⟨n19, hn19, en19, hq⟩ := hq
        refine sy_iald C hh 16 (by decide) (aZ_16 Y) tZ_16 hn19 en19 (by decide) dX12_drawGroup_267 ?_
        refine lv_iadd hx hb dX12_drawGroup_268 ?_
        refine lv_istore (lv' := [(10, .int (x2 + (M 16 n19))), (0, .ref (Y.2.1 0)), (1, .int x1), (2, .int x2), (9, .int x9)]) hx hb dX12_drawGroup_269 hl (by decide) rfl (fun ls hl => ?_)
        refine lv_aload_n hx hb dX12_drawGroup_271 rfl (lv_at hl 1 rfl) ?_
        refine sy_get C hh (fun w h => mc (uZ_fX12 w h)) 0 (by decide) (oZ_0 Y) rfl 42 (by decide) (index := 100) (mc uZ_37) (v := .ref (Y.2.1 26)) rfl dX12_drawGroup_272 ?_
        refine lv_iload hx hb dX12_drawGroup_275 (lv_at hl 0 rfl) ?_
        refine lv_iconst (v := (1 : Int32)) hx hb dX12_drawGroup_277 (by decide) ?_
        obtain ⟨n20, hn20, en20, hq⟩ := hq
        refine sy_zast C hh 26 (by decide) (aZ_26 Y) tZ_26 hn20 en20 (by decide) dX12_drawGroup_278 (fun H locs hh => ?_)
        refine lv_aload_n hx hb dX12_drawGroup_279 rfl (lv_at hl 1 rfl) ?_
        refine sy_get C hh (fun w h => mc (uZ_fX12 w h)) 0 (by decide) (oZ_0 Y) rfl 43 (by decide) (index := 103) (mc uZ_38) (v := .ref (Y.2.1 27)) rfl dX12_drawGroup_280 ?_
        refine lv_iload hx hb dX12_drawGroup_283 (lv_at hl 0 rfl) ?_
        refine lv_aload_n hx hb dX12_drawGroup_285 rfl (lv_at hl 1 rfl) ?_
        refine sy_get C hh (fun w h => mc (uZ_fX12 w h)) 0 (by decide) (oZ_0 Y) rfl 33 (by decide) (index := 76) (mc uZ_29) (v := .ref (Y.2.1 18)) rfl dX12_drawGroup_286 ?_
        refine lv_iload hx hb dX12_drawGroup_289 (lv_at hl 4 rfl) ?_
        obtain ⟨n21, hn21, en21, hq⟩ := hq
        refine sy_iald C hh 18 (by decide) (aZ_18 Y) tZ_18 hn21 en21 (by decide) dX12_drawGroup_291 ?_
        obtain ⟨n22, hn22, en22, hq⟩ := hq
        refine sy_iast C hh 27 (by decide) (aZ_27 Y) tZ_27 hn22 en22 (by decide) dX12_drawGroup_292 (fun H locs hh => ?_)
        refine lv_aload_n hx hb dX12_drawGroup_293 rfl (lv_at hl 1 rfl) ?_
        refine sy_get C hh (fun w h => mc (uZ_fX12 w h)) 0 (by decide) (oZ_0 Y) rfl 44 (by decide) (index := 106) (mc uZ_39) (v := .ref (Y.2.1 28)) rfl dX12_drawGroup_294 ?_
        refine lv_iload hx hb dX12_drawGroup_297 (lv_at hl 0 rfl) ?_
        refine lv_aload_n hx hb dX12_drawGroup_299 rfl (lv_at hl 1 rfl) ?_
        refine sy_get C hh (fun w h => mc (uZ_fX12 w h)) 0 (by decide) (oZ_0 Y) rfl 34 (by decide) (index := 79) (mc uZ_30) (v := .ref (Y.2.1 19)) rfl dX12_drawGroup_300 ?_
        refine lv_iload hx hb dX12_drawGroup_303 (lv_at hl 4 rfl) ?_
        obtain ⟨n23, hn23, en23, hq⟩ := hq
        refine sy_iald C hh 19 (by decide) (aZ_19 Y) tZ_19 hn23 en23 (by decide) dX12_drawGroup_305 ?_
        obtain ⟨n24, hn24, en24, hq⟩ := hq
        refine sy_iast C hh 28 (by decide) (aZ_28 Y) tZ_28 hn24 en24 (by decide) dX12_drawGroup_306 (fun H locs hh => ?_)
        refine lv_aload_n hx hb dX12_drawGroup_307 rfl (lv_at hl 1 rfl) ?_
        refine sy_get C hh (fun w h => mc (uZ_fX12 w h)) 0 (by decide) (oZ_0 Y) rfl 45 (by decide) (index := 109) (mc uZ_40) (v := .ref (Y.2.1 29)) rfl dX12_drawGroup_308 ?_
        refine lv_iload hx hb dX12_drawGroup_311 (lv_at hl 0 rfl) ?_
        refine lv_aload_n hx hb dX12_drawGroup_313 rfl (lv_at hl 1 rfl) ?_
        refine sy_get C hh (fun w h => mc (uZ_fX12 w h)) 0 (by decide) (oZ_0 Y) rfl 35 (by decide) (index := 82) (mc uZ_31) (v := .ref (Y.2.1 20)) rfl dX12_drawGroup_314 ?_
        refine lv_iload hx hb dX12_drawGroup_317 (lv_at hl 4 rfl) ?_
        obtain ⟨n25, hn25, en25, hq⟩ := hq
        refine sy_iald C hh 20 (by decide) (aZ_20 Y) tZ_20 hn25 en25 (by decide) dX12_drawGroup_319 ?_
        obtain ⟨n26, hn26, en26, hq⟩ := hq
        refine sy_iast C hh 29 (by decide) (aZ_29 Y) tZ_29 hn26 en26 (by decide) dX12_drawGroup_320 (fun H locs hh => ?_)
        refine lv_aload_n hx hb dX12_drawGroup_321 rfl (lv_at hl 1 rfl) ?_
        refine sy_get C hh (fun w h => mc (uZ_fX12 w h)) 0 (by decide) (oZ_0 Y) rfl 46 (by decide) (index := 112) (mc uZ_41) (v := .ref (Y.2.1 30)) rfl dX12_drawGroup_322 ?_
        refine lv_iload hx hb dX12_drawGroup_325 (lv_at hl 0 rfl) ?_
        refine lv_aload_n hx hb dX12_drawGroup_327 rfl (lv_at hl 1 rfl) ?_
        refine sy_get C hh (fun w h => mc (uZ_fX12 w h)) 0 (by decide) (oZ_0 Y) rfl 36 (by decide) (index := 85) (mc uZ_32) (v := .ref (Y.2.1 21)) rfl dX12_drawGroup_328 ?_
        refine lv_iload hx hb dX12_drawGroup_331 (lv_at hl 4 rfl) ?_
        obtain ⟨n27, hn27, en27, hq⟩ := hq
        refine sy_iald C hh 21 (by decide) (aZ_21 Y) tZ_21 hn27 en27 (by decide) dX12_drawGroup_333 ?_
        obtain ⟨n28, hn28, en28, hq⟩ := hq
        refine sy_iast C hh 30 (by decide) (aZ_30 Y) tZ_30 hn28 en28 (by decide) dX12_drawGroup_334 (fun H locs hh => ?_)
        refine lv_iinc (v := (x9 + (1 : Int32))) (lv' := [(9, .int (x9 + (1 : Int32))), (10, .int (x2 + (M 16 n19))), (0, .ref (Y.2.1 0)), (1, .int x1), (2, .int x2)]) hx hb dX12_drawGroup_335 hl (k := 4) rfl (sy_inc (by decide)) (by decide) rfl (fun ls hl => ?_)
        refine lv_goto (tgt := 185) hx hb dX12_drawGroup_338 (by decide) ?_
        exact ih (mu (mu (mu (mu (mu M 26 n20 (vp_nar .boolean (1 : Int32))) 27 n22 ((mu M 26 n20 (vp_nar .boolean (1 : Int32))) 18 n21)) 28 n24 ((mu (mu M 26 n20 (vp_nar .boolean (1 : Int32))) 27 n22 ((mu M 26 n20 (vp_nar .boolean (1 : Int32))) 18 n21)) 19 n23)) 29 n26 ((mu (mu (mu M 26 n20 (vp_nar .boolean (1 : Int32))) 27 n22 ((mu M 26 n20 (vp_nar .boolean (1 : Int32))) 18 n21)) 28 n24 ((mu (mu M 26 n20 (vp_nar .boolean (1 : Int32))) 27 n22 ((mu M 26 n20 (vp_nar .boolean (1 : Int32))) 18 n21)) 19 n23)) 20 n25)) 30 n28 ((mu (mu (mu (mu M 26 n20 (vp_nar .boolean (1 : Int32))) 27 n22 ((mu M 26 n20 (vp_nar .boolean (1 : Int32))) 18 n21)) 28 n24 ((mu (mu M 26 n20 (vp_nar .boolean (1 : Int32))) 27 n22 ((mu M 26 n20 (vp_nar .boolean (1 : Int32))) 18 n21)) 19 n23)) 29 n26 ((mu (mu (mu M 26 n20 (vp_nar .boolean (1 : Int32))) 27 n22 ((mu M 26 n20 (vp_nar .boolean (1 : Int32))) 18 n21)) 28 n24 ((mu (mu M 26 n20 (vp_nar .boolean (1 : Int32))) 27 n22 ((mu M 26 n20 (vp_nar .boolean (1 : Int32))) 18 n21)) 19 n23)) 20 n25)) 21 n27)) x1 x2 (x9 + (1 : Int32)) _ _ _ hq hh (lv_sub hl [2, 3, 4, 0] rfl)
      · have hq := hq.2 c18
        refine lv_aload_n hx hb dX12_drawGroup_205 rfl (lv_at hl 0 rfl) ?_
        refine sy_get C hh (fun w h => mc (uZ_fX12 w h)) 0 (by decide) (oZ_0 Y) rfl 52 (by decide) (index := 130) (mc uZ_47) (v := .ref (Y.2.1 36)) rfl dX12_drawGroup_206 ?_
        refine lv_iload_n hx hb dX12_drawGroup_209 rfl (lv_at hl 1 rfl) ?_
        refine lv_aload_n hx hb dX12_drawGroup_210 rfl (lv_at hl 0 rfl) ?_
        refine sy_get C hh (fun w h => mc (uZ_fX12 w h)) 0 (by decide) (oZ_0 Y) rfl 33 (by decide) (index := 76) (mc uZ_29) (v := .ref (Y.2.1 18)) rfl dX12_drawGroup_211 ?_
        refine lv_iload hx hb dX12_drawGroup_214 (lv_at hl 3 rfl) ?_
        obtain ⟨n29, hn29, en29, hq⟩ := hq
        refine sy_iald C hh 18 (by decide) (aZ_18 Y) tZ_18 hn29 en29 (by decide) dX12_drawGroup_216 ?_
        obtain ⟨n30, hn30, en30, hq⟩ := hq
        refine sy_iast C hh 36 (by decide) (aZ_36 Y) tZ_36 hn30 en30 (by decide) dX12_drawGroup_217 (fun H locs hh => ?_)
        refine lv_aload_n hx hb dX12_drawGroup_218 rfl (lv_at hl 0 rfl) ?_
        refine sy_get C hh (fun w h => mc (uZ_fX12 w h)) 0 (by decide) (oZ_0 Y) rfl 53 (by decide) (index := 133) (mc uZ_48) (v := .ref (Y.2.1 37)) rfl dX12_drawGroup_219 ?_
        refine lv_iload_n hx hb dX12_drawGroup_222 rfl (lv_at hl 1 rfl) ?_
        refine lv_aload_n hx hb dX12_drawGroup_223 rfl (lv_at hl 0 rfl) ?_
        refine sy_get C hh (fun w h => mc (uZ_fX12 w h)) 0 (by decide) (oZ_0 Y) rfl 34 (by decide) (index := 79) (mc uZ_30) (v := .ref (Y.2.1 19)) rfl dX12_drawGroup_224 ?_
        refine lv_iload hx hb dX12_drawGroup_227 (lv_at hl 3 rfl) ?_
        obtain ⟨n31, hn31, en31, hq⟩ := hq
        refine sy_iald C hh 19 (by decide) (aZ_19 Y) tZ_19 hn31 en31 (by decide) dX12_drawGroup_229 ?_
        obtain ⟨n32, hn32, en32, hq⟩ := hq
        refine sy_iast C hh 37 (by decide) (aZ_37 Y) tZ_37 hn32 en32 (by decide) dX12_drawGroup_230 (fun H locs hh => ?_)
        refine lv_aload_n hx hb dX12_drawGroup_231 rfl (lv_at hl 0 rfl) ?_
        refine sy_get C hh (fun w h => mc (uZ_fX12 w h)) 0 (by decide) (oZ_0 Y) rfl 54 (by decide) (index := 136) (mc uZ_49) (v := .ref (Y.2.1 38)) rfl dX12_drawGroup_232 ?_
        refine lv_iload_n hx hb dX12_drawGroup_235 rfl (lv_at hl 1 rfl) ?_
        refine lv_aload_n hx hb dX12_drawGroup_236 rfl (lv_at hl 0 rfl) ?_
        refine sy_get C hh (fun w h => mc (uZ_fX12 w h)) 0 (by decide) (oZ_0 Y) rfl 35 (by decide) (index := 82) (mc uZ_31) (v := .ref (Y.2.1 20)) rfl dX12_drawGroup_237 ?_
        refine lv_iload hx hb dX12_drawGroup_240 (lv_at hl 3 rfl) ?_
        obtain ⟨n33, hn33, en33, hq⟩ := hq
        refine sy_iald C hh 20 (by decide) (aZ_20 Y) tZ_20 hn33 en33 (by decide) dX12_drawGroup_242 ?_
        obtain ⟨n34, hn34, en34, hq⟩ := hq
        refine sy_iast C hh 38 (by decide) (aZ_38 Y) tZ_38 hn34 en34 (by decide) dX12_drawGroup_243 (fun H locs hh => ?_)
        refine lv_aload_n hx hb dX12_drawGroup_244 rfl (lv_at hl 0 rfl) ?_
        refine sy_get C hh (fun w h => mc (uZ_fX12 w h)) 0 (by decide) (oZ_0 Y) rfl 55 (by decide) (index := 139) (mc uZ_50) (v := .ref (Y.2.1 39)) rfl dX12_drawGroup_245 ?_
        refine lv_iload_n hx hb dX12_drawGroup_248 rfl (lv_at hl 1 rfl) ?_
        refine lv_aload_n hx hb dX12_drawGroup_249 rfl (lv_at hl 0 rfl) ?_
        refine sy_get C hh (fun w h => mc (uZ_fX12 w h)) 0 (by decide) (oZ_0 Y) rfl 36 (by decide) (index := 85) (mc uZ_32) (v := .ref (Y.2.1 21)) rfl dX12_drawGroup_250 ?_
        refine lv_iload hx hb dX12_drawGroup_253 (lv_at hl 3 rfl) ?_
        obtain ⟨n35, hn35, en35, hq⟩ := hq
        refine sy_iald C hh 21 (by decide) (aZ_21 Y) tZ_21 hn35 en35 (by decide) dX12_drawGroup_255 ?_
        obtain ⟨n36, hn36, en36, hq⟩ := hq
        refine sy_iast C hh 39 (by decide) (aZ_39 Y) tZ_39 hn36 en36 (by decide) dX12_drawGroup_256 (fun H locs hh => ?_)
        refine lv_goto (tgt := 335) hx hb dX12_drawGroup_257 (by decide) ?_
        refine lv_iinc (v := (x9 + (1 : Int32))) (lv' := [(9, .int (x9 + (1 : Int32))), (0, .ref (Y.2.1 0)), (1, .int x1), (2, .int x2)]) hx hb dX12_drawGroup_335 hl (k := 3) rfl (sy_inc (by decide)) (by decide) rfl (fun ls hl => ?_)
        refine lv_goto (tgt := 185) hx hb dX12_drawGroup_338 (by decide) ?_
        exact ih (mu (mu (mu (mu M 36 n30 (M 18 n29)) 37 n32 ((mu M 36 n30 (M 18 n29)) 19 n31)) 38 n34 ((mu (mu M 36 n30 (M 18 n29)) 37 n32 ((mu M 36 n30 (M 18 n29)) 19 n31)) 20 n33)) 39 n36 ((mu (mu (mu M 36 n30 (M 18 n29)) 37 n32 ((mu M 36 n30 (M 18 n29)) 19 n31)) 38 n34 ((mu (mu M 36 n30 (M 18 n29)) 37 n32 ((mu M 36 n30 (M 18 n29)) 19 n31)) 20 n33)) 21 n35)) x1 x2 (x9 + (1 : Int32)) _ _ _ hq hh (lv_sub hl [1, 2, 3, 0] rfl)

set_option maxHeartbeats 4000000 in
set_option maxRecDepth 100000 in
theorem kX12_drawGroup_171 (C : sy_C p m c cX12_drawGroup 12 s args vsX12_drawGroup RX12 meth none Y NZ tfZ) {Q : sy_M → Prop} :
    ∀ (M : sy_M) (x1 : Int32) (x2 : Int32) (s1 : Int32) (s2 : Int32) (H : Heap) (locs : List Loc) (ls : Array Slot), wX12_drawGroup_171 Q M x1 x2 s1 s2 → sy_H Y NZ EZ s H locs M → lv_has ls 12 [(0, .ref (Y.2.1 0)), (1, .int x1), (2, .int x2)] → W p l e ({ frames := 40, cells := 0, slots := 0, locals := 1218 } : Room) s m args below meth c H locs 0 0 (sy_ZV below args s Y NZ EZ Q) (F0 m 171 ls [.int s2, .int s1, .ref (Y.2.1 32)]) := by
  have hx := C.1.1
  have hb := C.1.2.1
  intro M x1 x2 s1 s2 H locs ls hq hh hl
  unfold wX12_drawGroup_171 at hq
  obtain ⟨n12, hn12, en12, hq⟩ := hq
  refine sy_iast C hh 32 (by decide) (aZ_32 Y) tZ_32 hn12 en12 (by decide) dX12_drawGroup_171 (fun H locs hh => ?_)
  refine lv_aload_n hx hb dX12_drawGroup_172 rfl (lv_at hl 0 rfl) ?_
  refine sy_get C hh (fun w h => mc (uZ_fX12 w h)) 0 (by decide) (oZ_0 Y) rfl 49 (by decide) (index := 121) (mc uZ_44) (v := .ref (Y.2.1 33)) rfl dX12_drawGroup_173 ?_
  refine lv_iload_n hx hb dX12_drawGroup_176 rfl (lv_at hl 1 rfl) ?_
  refine lv_aload_n hx hb dX12_drawGroup_177 rfl (lv_at hl 0 rfl) ?_
  refine sy_cIV C hh (As := []) (rest := [.int x1, .ref (Y.2.1 33)]) 0 (by decide) (oZ_0 Y) rfl (mX12_worst l Y _ (mu M 32 n12 s2)  _ hq) (cwV 0 C.1.2.2.2.2 (sy_goodV uZ_good uZ_228 uZ_229 uZ_230 uZ_55 uZ_194 _) rfl rfl rfl hdX12_worst ⟨Nat.le_of_ble_eq_true rfl, Nat.le_of_ble_eq_true rfl⟩) rfl hl.1 rfl (Nat.le_of_ble_eq_true rfl) dX12_drawGroup_178 (fun r14 M13 H locs hq hh => ?_)
  obtain ⟨n15, hn15, en15, hq⟩ := hq
  refine sy_iast C hh 33 (by decide) (aZ_33 Y) tZ_33 hn15 en15 (by decide) dX12_drawGroup_181 (fun H locs hh => ?_)
  refine lv_iconst (v := (0 : Int32)) hx hb dX12_drawGroup_182 (by decide) ?_
  refine lv_istore (lv' := [(9, .int (0 : Int32)), (0, .ref (Y.2.1 0)), (1, .int x1), (2, .int x2)]) hx hb dX12_drawGroup_183 hl (by decide) rfl (fun ls hl => ?_)
  obtain ⟨n37, hq⟩ := hq
  refine kX12_drawGroup_185 C  n37 (mu M13 33 n15 r14) x1 x2 (0 : Int32) _ _ _ hq hh (lv_sub hl [1, 2, 3, 0] rfl)

set_option maxHeartbeats 4000000 in
set_option maxRecDepth 100000 in
theorem kX12_drawGroup_134 (C : sy_C p m c cX12_drawGroup 12 s args vsX12_drawGroup RX12 meth none Y NZ tfZ) {Q : sy_M → Prop} :
    ∀ (M : sy_M) (x1 : Int32) (x2 : Int32) (x4 : Int32) (x5 : Int32) (x6 : Int32) (x7 : Int32) (x8 : Int32) (H : Heap) (locs : List Loc) (ls : Array Slot), wX12_drawGroup_134 Q M x1 x2 x4 x5 x6 x7 x8 → sy_H Y NZ EZ s H locs M → lv_has ls 12 [(0, .ref (Y.2.1 0)), (1, .int x1), (2, .int x2), (4, .int x4), (5, .int x5), (6, .int x6), (7, .int x7), (8, .int x8)] → W p l e ({ frames := 40, cells := 0, slots := 0, locals := 1218 } : Room) s m args below meth c H locs 0 0 (sy_ZV below args s Y NZ EZ Q) (F0 m 134 ls []) := by
  have hx := C.1.1
  have hb := C.1.2.1
  intro M x1 x2 x4 x5 x6 x7 x8 H locs ls hq hh hl
  unfold wX12_drawGroup_134 at hq
  refine lv_aload_n hx hb dX12_drawGroup_134 rfl (lv_at hl 0 rfl) ?_
  refine lv_iload hx hb dX12_drawGroup_135 (lv_at hl 7 rfl) ?_
  refine lv_iload hx hb dX12_drawGroup_137 (lv_at hl 3 rfl) ?_
  refine lv_iload hx hb dX12_drawGroup_139 (lv_at hl 4 rfl) ?_
  refine lv_iload hx hb dX12_drawGroup_141 (lv_at hl 5 rfl) ?_
  refine lv_iload hx hb dX12_drawGroup_143 (lv_at hl 6 rfl) ?_
  refine sy_cVV C hh (As := [.int x8, .int x4, .int x5, .int x6, .int x7]) (rest := []) 0 (by decide) (oZ_0 Y) rfl (mX12_lays l Y _ M x8 x4 x5 x6 x7 _ hq) (cwV 5 C.1.2.2.2.2 (sy_goodV uZ_good uZ_285 uZ_286 uZ_287 uZ_55 uZ_264 _) rfl rfl rfl hdX12_lays ⟨Nat.le_of_ble_eq_true rfl, Nat.le_of_ble_eq_true rfl⟩) rfl hl.1 rfl (Nat.le_of_ble_eq_true rfl) dX12_drawGroup_145 (fun M8 H locs hq hh => ?_)
  refine lv_aload_n hx hb dX12_drawGroup_148 rfl (lv_at hl 0 rfl) ?_
  refine sy_get C hh (fun w h => mc (uZ_fX12 w h)) 0 (by decide) (oZ_0 Y) rfl 48 (by decide) (index := 118) (mc uZ_43) (v := .ref (Y.2.1 32)) rfl dX12_drawGroup_149 ?_
  refine lv_iload_n hx hb dX12_drawGroup_152 rfl (lv_at hl 1 rfl) ?_
  refine lv_aload_n hx hb dX12_drawGroup_153 rfl (lv_at hl 0 rfl) ?_
  refine lv_iconst (v := (0 : Int32)) hx hb dX12_drawGroup_154 (by decide) ?_
  refine lv_aload_n hx hb dX12_drawGroup_155 rfl (lv_at hl 0 rfl) ?_
  refine sy_get C hh (fun w h => mc (uZ_fX12 w h)) 0 (by decide) (oZ_0 Y) rfl 30 (by decide) (index := 261) (mc uZ_195) (v := .int (M8 0 30)) rfl dX12_drawGroup_156 ?_
  refine sy_cIV C hh (As := [.int (0 : Int32), .int (M8 0 30)]) (rest := [.int x1, .ref (Y.2.1 32)]) 0 (by decide) (oZ_0 Y) rfl (mX12_sum l Y _ M8 (0 : Int32) (M8 0 30) _ hq) (cwV 2 C.1.2.2.2.2 (sy_goodV uZ_good uZ_204 uZ_205 uZ_206 uZ_55 uZ_202 _) rfl rfl rfl hdX12_sum ⟨Nat.le_of_ble_eq_true rfl, Nat.le_of_ble_eq_true rfl⟩) rfl hl.1 rfl (Nat.le_of_ble_eq_true rfl) dX12_drawGroup_159 (fun r10 M9 H locs hq hh => ?_)
  refine lv_if_ne (tgt := 169) hx hb dX12_drawGroup_162 (by decide) (fun c11 => ?_) (fun c11 => ?_)
  · have hq := hq.1 c11
    refine lv_iload hx hb dX12_drawGroup_169 (lv_at hl 7 rfl) ?_
    refine kX12_drawGroup_171 C  M9 x1 x2 x1 x8 _ _ _ hq hh (lv_sub hl [0, 1, 2] rfl)
  · have hq := hq.2 c11
    refine lv_iconst (v := (0 : Int32)) hx hb dX12_drawGroup_165 (by decide) ?_
    refine lv_goto (tgt := 171) hx hb dX12_drawGroup_166 (by decide) ?_
    refine kX12_drawGroup_171 C  M9 x1 x2 x1 (0 : Int32) _ _ _ hq hh (lv_sub hl [0, 1, 2] rfl)

set_option maxHeartbeats 4000000 in
set_option maxRecDepth 100000 in
theorem kX12_drawGroup_120 (C : sy_C p m c cX12_drawGroup 12 s args vsX12_drawGroup RX12 meth none Y NZ tfZ) {Q : sy_M → Prop} {K_66 : sy_M → Int32 → Int32 → Int32 → Int32 → Int32 → Int32 → Int32 → Int32 → Int32 → Prop} (hK_66 : ∀ (M : sy_M) (x1 : Int32) (x2 : Int32) (x4 : Int32) (x5 : Int32) (x6 : Int32) (x7 : Int32) (x8 : Int32) (x9 : Int32) (x10 : Int32) (H : Heap) (locs : List Loc) (ls : Array Slot), K_66 M x1 x2 x4 x5 x6 x7 x8 x9 x10 → sy_H Y NZ EZ s H locs M → lv_has ls 12 [(0, .ref (Y.2.1 0)), (1, .int x1), (2, .int x2), (4, .int x4), (5, .int x5), (6, .int x6), (7, .int x7), (8, .int x8), (9, .int x9), (10, .int x10)] → W p l e ({ frames := 40, cells := 0, slots := 0, locals := 1218 } : Room) s m args below meth c H locs 0 0 (sy_ZV below args s Y NZ EZ Q) (F0 m 66 ls [])) :
    ∀ (M : sy_M) (x1 : Int32) (x2 : Int32) (x4 : Int32) (x5 : Int32) (x6 : Int32) (x7 : Int32) (x10 : Int32) (x11 : Int32) (H : Heap) (locs : List Loc) (ls : Array Slot), wX12_drawGroup_120 K_66 Q M x1 x2 x4 x5 x6 x7 x10 x11 → sy_H Y NZ EZ s H locs M → lv_has ls 12 [(0, .ref (Y.2.1 0)), (1, .int x1), (2, .int x2), (4, .int x4), (5, .int x5), (6, .int x6), (7, .int x7), (10, .int x10), (11, .int x11)] → W p l e ({ frames := 40, cells := 0, slots := 0, locals := 1218 } : Room) s m args below meth c H locs 0 0 (sy_ZV below args s Y NZ EZ Q) (F0 m 120 ls []) := by
  have hx := C.1.1
  have hb := C.1.2.1
  intro M x1 x2 x4 x5 x6 x7 x10 x11 H locs ls hq hh hl
  unfold wX12_drawGroup_120 at hq
  refine lv_iload hx hb dX12_drawGroup_120 (lv_at hl 7 rfl) ?_
  refine lv_istore (lv' := [(8, .int x10), (0, .ref (Y.2.1 0)), (1, .int x1), (2, .int x2), (4, .int x4), (5, .int x5), (6, .int x6), (7, .int x7), (10, .int x10), (11, .int x11)]) hx hb dX12_drawGroup_122 hl (by decide) rfl (fun ls hl => ?_)
  refine lv_iload hx hb dX12_drawGroup_124 (lv_at hl 9 rfl) ?_
  refine lv_istore (lv' := [(9, .int x11), (8, .int x10), (0, .ref (Y.2.1 0)), (1, .int x1), (2, .int x2), (4, .int x4), (5, .int x5), (6, .int x6), (7, .int x7), (10, .int x10), (11, .int x11)]) hx hb dX12_drawGroup_126 hl (by decide) rfl (fun ls hl => ?_)
  refine lv_iinc (v := (x10 + (1 : Int32))) (lv' := [(10, .int (x10 + (1 : Int32))), (9, .int x11), (8, .int x10), (0, .ref (Y.2.1 0)), (1, .int x1), (2, .int x2), (4, .int x4), (5, .int x5), (6, .int x6), (7, .int x7), (11, .int x11)]) hx hb dX12_drawGroup_128 hl (k := 9) rfl (sy_inc (by decide)) (by decide) rfl (fun ls hl => ?_)
  refine lv_goto (tgt := 66) hx hb dX12_drawGroup_131 (by decide) ?_
  exact hK_66 M x1 x2 x4 x5 x6 x7 x10 x11 (x10 + (1 : Int32)) _ _ _ hq hh (lv_sub hl [3, 4, 5, 6, 7, 8, 9, 2, 1, 0] rfl)

set_option maxHeartbeats 4000000 in
set_option maxRecDepth 100000 in
theorem kX12_drawGroup_66 (C : sy_C p m c cX12_drawGroup 12 s args vsX12_drawGroup RX12 meth none Y NZ tfZ) {Q : sy_M → Prop} {K_134 : sy_M → Int32 → Int32 → Int32 → Int32 → Int32 → Int32 → Int32 → Prop} (hK_134 : ∀ (M : sy_M) (x1 : Int32) (x2 : Int32) (x4 : Int32) (x5 : Int32) (x6 : Int32) (x7 : Int32) (x8 : Int32) (H : Heap) (locs : List Loc) (ls : Array Slot), K_134 M x1 x2 x4 x5 x6 x7 x8 → sy_H Y NZ EZ s H locs M → lv_has ls 12 [(0, .ref (Y.2.1 0)), (1, .int x1), (2, .int x2), (4, .int x4), (5, .int x5), (6, .int x6), (7, .int x7), (8, .int x8)] → W p l e ({ frames := 40, cells := 0, slots := 0, locals := 1218 } : Room) s m args below meth c H locs 0 0 (sy_ZV below args s Y NZ EZ Q) (F0 m 134 ls [])) :
    ∀ (n : Nat) (M : sy_M) (x1 : Int32) (x2 : Int32) (x4 : Int32) (x5 : Int32) (x6 : Int32) (x7 : Int32) (x8 : Int32) (x9 : Int32) (x10 : Int32) (H : Heap) (locs : List Loc) (ls : Array Slot), wX12_drawGroup_66 K_134 Q n M x1 x2 x4 x5 x6 x7 x8 x9 x10 → sy_H Y NZ EZ s H locs M → lv_has ls 12 [(0, .ref (Y.2.1 0)), (1, .int x1), (2, .int x2), (4, .int x4), (5, .int x5), (6, .int x6), (7, .int x7), (8, .int x8), (9, .int x9), (10, .int x10)] → W p l e ({ frames := 40, cells := 0, slots := 0, locals := 1218 } : Room) s m args below meth c H locs 0 0 (sy_ZV below args s Y NZ EZ Q) (F0 m 66 ls []) := by
  have hx := C.1.1
  have hb := C.1.2.1
  intro n
  induction n with
  | zero =>
    intro M x1 x2 x4 x5 x6 x7 x8 x9 x10 H locs ls hq hh hl
    unfold wX12_drawGroup_66 at hq
    exact hq.elim
  | succ n ih =>
    intro M x1 x2 x4 x5 x6 x7 x8 x9 x10 H locs ls hq hh hl
    unfold wX12_drawGroup_66 at hq
    refine lv_iload hx hb dX12_drawGroup_66 (lv_at hl 9 rfl) ?_
    refine lv_iconst (v := (nI 3)) hx hb dX12_drawGroup_68 (by decide) ?_
    refine lv_icmp_ge (tgt := 134) hx hb dX12_drawGroup_69 (by decide) (fun c38 => ?_) (fun c38 => ?_)
    · have hq := hq.1 c38
      exact hK_134 M x1 x2 x4 x5 x6 x7 x8 _ _ _ hq hh (lv_sub hl [0, 1, 2, 3, 4, 5, 6, 7] rfl)
    · have hq := hq.2 c38
      refine lv_aload_n hx hb dX12_drawGroup_72 rfl (lv_at hl 0 rfl) ?_
      refine lv_iload hx hb dX12_drawGroup_73 (lv_at hl 9 rfl) ?_
      refine lv_iload hx hb dX12_drawGroup_75 (lv_at hl 3 rfl) ?_
      refine lv_iload hx hb dX12_drawGroup_77 (lv_at hl 4 rfl) ?_
      refine lv_iload hx hb dX12_drawGroup_79 (lv_at hl 5 rfl) ?_
      refine lv_iload hx hb dX12_drawGroup_81 (lv_at hl 6 rfl) ?_
      refine sy_cVV C hh (As := [.int x10, .int x4, .int x5, .int x6, .int x7]) (rest := []) 0 (by decide) (oZ_0 Y) rfl (mX12_lays l Y _ M x10 x4 x5 x6 x7 _ hq) (cwV 5 C.1.2.2.2.2 (sy_goodV uZ_good uZ_285 uZ_286 uZ_287 uZ_55 uZ_264 _) rfl rfl rfl hdX12_lays ⟨Nat.le_of_ble_eq_true rfl, Nat.le_of_ble_eq_true rfl⟩) rfl hl.1 rfl (Nat.le_of_ble_eq_true rfl) dX12_drawGroup_83 (fun M39 H locs hq hh => ?_)
      refine lv_aload_n hx hb dX12_drawGroup_86 rfl (lv_at hl 0 rfl) ?_
      refine sy_cIV C hh (As := []) (rest := []) 0 (by decide) (oZ_0 Y) rfl (mX12_worst l Y _ M39  _ hq) (cwV 0 C.1.2.2.2.2 (sy_goodV uZ_good uZ_228 uZ_229 uZ_230 uZ_55 uZ_194 _) rfl rfl rfl hdX12_worst ⟨Nat.le_of_ble_eq_true rfl, Nat.le_of_ble_eq_true rfl⟩) rfl hl.1 rfl (Nat.le_of_ble_eq_true rfl) dX12_drawGroup_87 (fun r41 M40 H locs hq hh => ?_)
      refine lv_aload_n hx hb dX12_drawGroup_90 rfl (lv_at hl 0 rfl) ?_
      refine sy_get C hh (fun w h => mc (uZ_fX12 w h)) 0 (by decide) (oZ_0 Y) rfl 3 (by decide) (index := 146) (mc uZ_57) (v := .int (M40 0 3)) rfl dX12_drawGroup_91 ?_
      refine lv_aload_n hx hb dX12_drawGroup_94 rfl (lv_at hl 0 rfl) ?_
      refine sy_cIV C hh (As := []) (rest := [.int (M40 0 3), .int r41]) 0 (by decide) (oZ_0 Y) rfl (mX12_moves l Y _ M40  _ hq) (cwV 0 C.1.2.2.2.2 (sy_goodV uZ_good uZ_288 uZ_289 uZ_290 uZ_55 uZ_270 _) rfl rfl rfl hdX12_moves ⟨Nat.le_of_ble_eq_true rfl, Nat.le_of_ble_eq_true rfl⟩) rfl hl.1 rfl (Nat.le_of_ble_eq_true rfl) dX12_drawGroup_95 (fun r43 M42 H locs hq hh => ?_)
      refine lv_imul hx hb dX12_drawGroup_98 ?_
      refine lv_bipush (v := (nI 100)) hx hb dX12_drawGroup_99 (by decide) ?_
      refine lv_idiv hx hb dX12_drawGroup_101 (by decide) ?_
      refine lv_iadd hx hb dX12_drawGroup_102 ?_
      refine lv_istore (lv' := [(11, .int (r41 + (((M40 0 3) * r43) / (nI 100)))), (0, .ref (Y.2.1 0)), (1, .int x1), (2, .int x2), (4, .int x4), (5, .int x5), (6, .int x6), (7, .int x7), (8, .int x8), (9, .int x9), (10, .int x10)]) hx hb dX12_drawGroup_103 hl (by decide) rfl (fun ls hl => ?_)
      refine lv_iload hx hb dX12_drawGroup_105 (lv_at hl 10 rfl) ?_
      refine lv_if_le (tgt := 120) hx hb dX12_drawGroup_107 (by decide) (fun c44 => ?_) (fun c44 => ?_)
      · have hq := hq.1 c44
        refine kX12_drawGroup_120 C (fun M45 x1_46 x2_47 x4_48 x5_49 x6_50 x7_51 x8_52 x9_53 x10_54 H locs ls hq hh hl => ?_) M42 x1 x2 x4 x5 x6 x7 x10 (r41 + (((M40 0 3) * r43) / (nI 100))) _ _ _ hq hh (lv_sub hl [1, 2, 3, 4, 5, 6, 7, 10, 0] rfl)
        · exact ih M45 x1_46 x2_47 x4_48 x5_49 x6_50 x7_51 x8_52 x9_53 x10_54 _ _ _ hq hh (lv_sub hl [0, 1, 2, 3, 4, 5, 6, 7, 8, 9] rfl)
      · have hq := hq.2 c44
        refine lv_iload hx hb dX12_drawGroup_110 (lv_at hl 0 rfl) ?_
        refine lv_iload hx hb dX12_drawGroup_112 (lv_at hl 9 rfl) ?_
        refine lv_icmp_lt (tgt := 120) hx hb dX12_drawGroup_114 (by decide) (fun c55 => ?_) (fun c55 => ?_)
        · have hq := hq.1 c55
          refine kX12_drawGroup_120 C (fun M56 x1_57 x2_58 x4_59 x5_60 x6_61 x7_62 x8_63 x9_64 x10_65 H locs ls hq hh hl => ?_) M42 x1 x2 x4 x5 x6 x7 x10 (r41 + (((M40 0 3) * r43) / (nI 100))) _ _ _ hq hh (lv_sub hl [1, 2, 3, 4, 5, 6, 7, 10, 0] rfl)
          · exact ih M56 x1_57 x2_58 x4_59 x5_60 x6_61 x7_62 x8_63 x9_64 x10_65 _ _ _ hq hh (lv_sub hl [0, 1, 2, 3, 4, 5, 6, 7, 8, 9] rfl)
        · have hq := hq.2 c55
          refine lv_goto (tgt := 128) hx hb dX12_drawGroup_117 (by decide) ?_
          refine lv_iinc (v := (x10 + (1 : Int32))) (lv' := [(10, .int (x10 + (1 : Int32))), (11, .int (r41 + (((M40 0 3) * r43) / (nI 100)))), (0, .ref (Y.2.1 0)), (1, .int x1), (2, .int x2), (4, .int x4), (5, .int x5), (6, .int x6), (7, .int x7), (8, .int x8), (9, .int x9)]) hx hb dX12_drawGroup_128 hl (k := 10) rfl (sy_inc (by decide)) (by decide) rfl (fun ls hl => ?_)
          refine lv_goto (tgt := 66) hx hb dX12_drawGroup_131 (by decide) ?_
          exact ih M42 x1 x2 x4 x5 x6 x7 x8 x9 (x10 + (1 : Int32)) _ _ _ hq hh (lv_sub hl [2, 3, 4, 5, 6, 7, 8, 9, 10, 0] rfl)

end
set_option maxHeartbeats 4000000 in
set_option maxRecDepth 100000 in
theorem mX12_drawGroup (l : Launch) (Y : sy_Y) (sz : Nat) (M : sy_M) (a1 : Int32) (a2 : Int32) (a3 : Int32) (Q : sy_M → Prop) (hq : wX12_drawGroup M a1 a2 a3 Q) : Met l yX12_drawGroup vsX12_drawGroup ({ frames := 40, cells := 0, slots := 0, locals := 1218 } : Room) (va_Pc [.ref (Y.2.1 0), .int a1, .int a2, .int a3] (sy_pre Y NZ EZ tfZ sz M)) (sy_QV Y NZ EZ sz Q) 0 0 (sy_A NZ Y.2.1 sz) := by
  refine sy_metV (by decide) rfl (Nat.le_of_ble_eq_true rfl) ?_
  intro p e s m args below meth c C ls hl hh
  have hx := C.1.1
  have hb := C.1.2.1
  have hl : lv_has ls 12 [(0, .ref (Y.2.1 0)), (1, .int a1), (2, .int a2), (3, .int a3)] := hl
  unfold wX12_drawGroup at hq
  refine lv_aload_n hx hb dX12_drawGroup_0 rfl (lv_at hl 0 rfl) ?_
  refine sy_get C hh (fun w h => mc (uZ_fX12 w h)) 0 (by decide) (oZ_0 Y) rfl 43 (by decide) (index := 103) (mc uZ_38) (v := .ref (Y.2.1 27)) rfl dX12_drawGroup_1 ?_
  refine lv_iload_n hx hb dX12_drawGroup_4 rfl (lv_at hl 2 rfl) ?_
  refine lv_iload_n hx hb dX12_drawGroup_5 rfl (lv_at hl 1 rfl) ?_
  refine lv_iadd hx hb dX12_drawGroup_6 ?_
  obtain ⟨n1, hn1, en1, hq⟩ := hq
  refine sy_iald C hh 27 (by decide) (aZ_27 Y) tZ_27 hn1 en1 (by decide) dX12_drawGroup_7 ?_
  refine lv_istore (lv' := [(4, .int (M 27 n1)), (0, .ref (Y.2.1 0)), (1, .int a1), (2, .int a2), (3, .int a3)]) hx hb dX12_drawGroup_8 hl (by decide) rfl (fun ls hl => ?_)
  refine lv_aload_n hx hb dX12_drawGroup_10 rfl (lv_at hl 1 rfl) ?_
  refine sy_get C hh (fun w h => mc (uZ_fX12 w h)) 0 (by decide) (oZ_0 Y) rfl 44 (by decide) (index := 106) (mc uZ_39) (v := .ref (Y.2.1 28)) rfl dX12_drawGroup_11 ?_
  refine lv_iload_n hx hb dX12_drawGroup_14 rfl (lv_at hl 3 rfl) ?_
  refine lv_iload_n hx hb dX12_drawGroup_15 rfl (lv_at hl 2 rfl) ?_
  refine lv_iadd hx hb dX12_drawGroup_16 ?_
  obtain ⟨n2, hn2, en2, hq⟩ := hq
  refine sy_iald C hh 28 (by decide) (aZ_28 Y) tZ_28 hn2 en2 (by decide) dX12_drawGroup_17 ?_
  refine lv_istore (lv' := [(5, .int (M 28 n2)), (4, .int (M 27 n1)), (0, .ref (Y.2.1 0)), (1, .int a1), (2, .int a2), (3, .int a3)]) hx hb dX12_drawGroup_18 hl (by decide) rfl (fun ls hl => ?_)
  refine lv_aload_n hx hb dX12_drawGroup_20 rfl (lv_at hl 2 rfl) ?_
  refine sy_get C hh (fun w h => mc (uZ_fX12 w h)) 0 (by decide) (oZ_0 Y) rfl 45 (by decide) (index := 109) (mc uZ_40) (v := .ref (Y.2.1 29)) rfl dX12_drawGroup_21 ?_
  refine lv_iload_n hx hb dX12_drawGroup_24 rfl (lv_at hl 4 rfl) ?_
  refine lv_iload_n hx hb dX12_drawGroup_25 rfl (lv_at hl 3 rfl) ?_
  refine lv_iadd hx hb dX12_drawGroup_26 ?_
  obtain ⟨n3, hn3, en3, hq⟩ := hq
  refine sy_iald C hh 29 (by decide) (aZ_29 Y) tZ_29 hn3 en3 (by decide) dX12_drawGroup_27 ?_
  refine lv_istore (lv' := [(6, .int (M 29 n3)), (5, .int (M 28 n2)), (4, .int (M 27 n1)), (0, .ref (Y.2.1 0)), (1, .int a1), (2, .int a2), (3, .int a3)]) hx hb dX12_drawGroup_28 hl (by decide) rfl (fun ls hl => ?_)
  refine lv_aload_n hx hb dX12_drawGroup_30 rfl (lv_at hl 3 rfl) ?_
  refine sy_get C hh (fun w h => mc (uZ_fX12 w h)) 0 (by decide) (oZ_0 Y) rfl 46 (by decide) (index := 112) (mc uZ_41) (v := .ref (Y.2.1 30)) rfl dX12_drawGroup_31 ?_
  refine lv_iload_n hx hb dX12_drawGroup_34 rfl (lv_at hl 5 rfl) ?_
  refine lv_iload_n hx hb dX12_drawGroup_35 rfl (lv_at hl 4 rfl) ?_
  refine lv_iadd hx hb dX12_drawGroup_36 ?_
  obtain ⟨n4, hn4, en4, hq⟩ := hq
  refine sy_iald C hh 30 (by decide) (aZ_30 Y) tZ_30 hn4 en4 (by decide) dX12_drawGroup_37 ?_
  refine lv_istore (lv' := [(7, .int (M 30 n4)), (6, .int (M 29 n3)), (5, .int (M 28 n2)), (4, .int (M 27 n1)), (0, .ref (Y.2.1 0)), (1, .int a1), (2, .int a2), (3, .int a3)]) hx hb dX12_drawGroup_38 hl (by decide) rfl (fun ls hl => ?_)
  refine lv_aload_n hx hb dX12_drawGroup_40 rfl (lv_at hl 4 rfl) ?_
  refine lv_iload_n hx hb dX12_drawGroup_41 rfl (lv_at hl 5 rfl) ?_
  refine lv_iload_n hx hb dX12_drawGroup_42 rfl (lv_at hl 7 rfl) ?_
  refine sy_cVV C hh (As := [.int a1, .int a3]) (rest := []) 0 (by decide) (oZ_0 Y) rfl (mX12_findItems l Y _ M a1 a3 _ hq) (cwV 2 C.1.2.2.2.2 (sy_goodV uZ_good uZ_282 uZ_283 uZ_284 uZ_55 uZ_281 _) rfl rfl rfl hdX12_findItems ⟨Nat.le_of_ble_eq_true rfl, Nat.le_of_ble_eq_true rfl⟩) rfl hl.1 rfl (Nat.le_of_ble_eq_true rfl) dX12_drawGroup_43 (fun M5 H locs hq hh => ?_)
  refine lv_aload_n hx hb dX12_drawGroup_46 rfl (lv_at hl 4 rfl) ?_
  refine sy_get C hh (fun w h => mc (uZ_fX12 w h)) 0 (by decide) (oZ_0 Y) rfl 19 (by decide) (index := 40) (mc uZ_17) (v := .ref (Y.2.1 6)) rfl dX12_drawGroup_47 ?_
  refine lv_iload_n hx hb dX12_drawGroup_50 rfl (lv_at hl 5 rfl) ?_
  obtain ⟨n6, hn6, en6, hq⟩ := hq
  refine sy_iald C hh 6 (by decide) (aZ_6 Y) tZ_6 hn6 en6 (by decide) dX12_drawGroup_51 ?_
  refine lv_istore (lv' := [(8, .int (M5 6 n6)), (7, .int (M 30 n4)), (6, .int (M 29 n3)), (5, .int (M 28 n2)), (4, .int (M 27 n1)), (0, .ref (Y.2.1 0)), (1, .int a1), (2, .int a2), (3, .int a3)]) hx hb dX12_drawGroup_52 hl (by decide) rfl (fun ls hl => ?_)
  refine lv_iload hx hb dX12_drawGroup_54 (lv_at hl 0 rfl) ?_
  refine lv_iconst (v := (nI 3)) hx hb dX12_drawGroup_56 (by decide) ?_
  refine lv_icmp_ne (tgt := 134) hx hb dX12_drawGroup_57 (by decide) (fun c7 => ?_) (fun c7 => ?_)
  · have hq := hq.1 c7
    refine kX12_drawGroup_134 C  M5 a1 a2 (M 27 n1) (M 28 n2) (M 29 n3) (M 30 n4) (M5 6 n6) _ _ _ hq hh (lv_sub hl [5, 6, 7, 4, 3, 2, 1, 0] rfl)
  · have hq := hq.2 c7
    refine lv_iconst (v := (0 : Int32)) hx hb dX12_drawGroup_60 (by decide) ?_
    refine lv_istore (lv' := [(9, .int (0 : Int32)), (8, .int (M5 6 n6)), (7, .int (M 30 n4)), (6, .int (M 29 n3)), (5, .int (M 28 n2)), (4, .int (M 27 n1)), (0, .ref (Y.2.1 0)), (1, .int a1), (2, .int a2), (3, .int a3)]) hx hb dX12_drawGroup_61 hl (by decide) rfl (fun ls hl => ?_)
    refine lv_iconst (v := (0 : Int32)) hx hb dX12_drawGroup_63 (by decide) ?_
    refine lv_istore (lv' := [(10, .int (0 : Int32)), (9, .int (0 : Int32)), (8, .int (M5 6 n6)), (7, .int (M 30 n4)), (6, .int (M 29 n3)), (5, .int (M 28 n2)), (4, .int (M 27 n1)), (0, .ref (Y.2.1 0)), (1, .int a1), (2, .int a2), (3, .int a3)]) hx hb dX12_drawGroup_64 hl (by decide) rfl (fun ls hl => ?_)
    obtain ⟨n74, hq⟩ := hq
    refine kX12_drawGroup_66 C (fun M66 x1_67 x2_68 x4_69 x5_70 x6_71 x7_72 x8_73 H locs ls hq hh hl => ?_) n74 M5 a1 a2 (M 27 n1) (M 28 n2) (M 29 n3) (M 30 n4) (M5 6 n6) (0 : Int32) (0 : Int32) _ _ _ hq hh (lv_sub hl [7, 8, 9, 6, 5, 4, 3, 2, 1, 0] rfl)
    · refine kX12_drawGroup_134 C  M66 x1_67 x2_68 x4_69 x5_70 x6_71 x7_72 x8_73 _ _ _ hq hh (lv_sub hl [0, 1, 2, 3, 4, 5, 6, 7] rfl)

/-! AreaSetterModel.draw(I)I -/
def wX12_draw_72 (K_48 : sy_M → Int32 → Int32 → Int32 → Prop) (Q : Int32 → sy_M → Prop) (M : sy_M) (x1 : Int32) (x2 : Int32) (x3 : Int32) (s1 : Int32) (s2 : Int32) : Prop := ∃ n10 : Nat, n10 < 2091 ∧ s1 = nI n10 ∧ wX12_sizeOf 8 (mu M 26 n10 (vp_nar .boolean s2)) x3 x1 (fun r12 M11 => ∃ n13 : Nat, n13 < 2091 ∧ (x2 + x3) = nI n13 ∧ K_48 (mu M11 31 n13 r12) x1 x2 (x3 + (1 : Int32)))
def wX12_draw_48 (K_93 : sy_M → Int32 → Int32 → Prop) (Q : Int32 → sy_M → Prop) : Nat → sy_M → Int32 → Int32 → Int32 → Prop
  | 0, _, _, _, _ => False
  | n + 1, M, x1, x2, x3 => (((M 0 13) ≤ x3 → K_93 M x1 x2) ∧ (¬ (M 0 13) ≤ x3 → ((¬ x3 = 0 → wX12_draw_72 (fun (M14 : sy_M) (x1_15 : Int32) (x2_16 : Int32) (x3_17 : Int32) => wX12_draw_48 K_93 Q n M14 x1_15 x2_16 x3_17) Q M x1 x2 x3 (x2 + x3) (0 : Int32)) ∧ (x3 = 0 → wX12_draw_72 (fun (M18 : sy_M) (x1_19 : Int32) (x2_20 : Int32) (x3_21 : Int32) => wX12_draw_48 K_93 Q n M18 x1_19 x2_20 x3_21) Q M x1 x2 x3 (x2 + x3) (1 : Int32)))))
def wX12_draw_129 (K_159 : sy_M → Prop) (Q : Int32 → sy_M → Prop) : Nat → sy_M → Int32 → Int32 → Int32 → Prop
  | 0, _, _, _, _ => False
  | n + 1, M, x1, x2, x3 => (((M 0 13) ≤ x3 → K_159 M) ∧ (¬ (M 0 13) ≤ x3 → ∃ n30 : Nat, n30 < 82 ∧ x3 = nI n30 ∧ (((M 3 n30) = 0 → wX12_draw_129 K_159 Q n M x1 x2 (x3 + (1 : Int32))) ∧ (¬ (M 3 n30) = 0 → wX12_drawGroup M x3 x2 x1 (fun M32 => wX12_draw_129 K_159 Q n M32 x1 x2 (x3 + (1 : Int32)))))))
def wX12_draw (M : sy_M) (a1 : Int32) (Q : Int32 → sy_M → Prop) : Prop := ((((mu M 0 0 (0 : Int32)) 0 13) = 0 → Q (-1 : Int32) (mu M 0 0 (0 : Int32))) ∧ (¬ ((mu M 0 0 (0 : Int32)) 0 13) = 0 → wX12_within (mu M 0 0 (0 : Int32)) a1 (0 : Int32) (nI 999) (fun r3 M2 => ((¬ r3 = 0 → wX12_rowOf M2 (M2 0 40) (fun r6 M5 => ∃ n7 : Nat, n7 < 51 ∧ ((M5 0 40) - (M5 0 40) / (nI 51) * (nI 51)) = nI n7 ∧ ∃ n35 : Nat, wX12_draw_48 (fun (M22 : sy_M) (x1_23 : Int32) (x2_24 : Int32) => ∃ n25 : Nat, n25 < 2091 ∧ x2_24 = nI n25 ∧ ∃ n26 : Nat, n26 < 2091 ∧ x2_24 = nI n26 ∧ ∃ n27 : Nat, n27 < 2091 ∧ x2_24 = nI n27 ∧ ∃ n28 : Nat, n28 < 2091 ∧ x2_24 = nI n28 ∧ ∃ n34 : Nat, wX12_draw_129 (fun (M33 : sy_M) => Q (((mu M33 0 40 ((M33 0 40) + (1 : Int32))) 0 40) - (1 : Int32)) (mu M33 0 40 ((M33 0 40) + (1 : Int32)))) Q n34 (mu (mu (mu (mu M22 27 n25 (0 : Int32)) 28 n26 (0 : Int32)) 29 n27 ((mu (mu M22 27 n25 (0 : Int32)) 28 n26 (0 : Int32)) 0 1)) 30 n28 ((mu (mu (mu M22 27 n25 (0 : Int32)) 28 n26 (0 : Int32)) 29 n27 ((mu (mu M22 27 n25 (0 : Int32)) 28 n26 (0 : Int32)) 0 1)) 0 2)) x1_23 x2_24 (0 : Int32)) Q n35 (mu M5 25 n7 a1) a1 r6 (0 : Int32))) ∧ (r3 = 0 → Q (-1 : Int32) M2)))))
section
variable {p : Program} {l : Launch} {e : Env} {s : State} {m : MethodId} {args : Array Value} {below : List Frame} {meth : Method} {c : Code} {Y : sy_Y}
set_option maxHeartbeats 4000000 in
set_option maxRecDepth 100000 in
theorem kX12_draw_72 (C : sy_C p m c cX12_draw 4 s args vsX12_draw RX12 meth (some .int) Y NZ tfZ) {Q : Int32 → sy_M → Prop} {K_48 : sy_M → Int32 → Int32 → Int32 → Prop} (hK_48 : ∀ (M : sy_M) (x1 : Int32) (x2 : Int32) (x3 : Int32) (H : Heap) (locs : List Loc) (ls : Array Slot), K_48 M x1 x2 x3 → sy_H Y NZ EZ s H locs M → lv_has ls 4 [(0, .ref (Y.2.1 0)), (1, .int x1), (2, .int x2), (3, .int x3)] → W p l e ({ frames := 41, cells := 0, slots := 0, locals := 1249 } : Room) s m args below meth c H locs 0 0 (sy_ZI below args s Y NZ EZ Q) (F0 m 48 ls [])) :
    ∀ (M : sy_M) (x1 : Int32) (x2 : Int32) (x3 : Int32) (s1 : Int32) (s2 : Int32) (H : Heap) (locs : List Loc) (ls : Array Slot), wX12_draw_72 K_48 Q M x1 x2 x3 s1 s2 → sy_H Y NZ EZ s H locs M → lv_has ls 4 [(0, .ref (Y.2.1 0)), (1, .int x1), (2, .int x2), (3, .int x3)] → W p l e ({ frames := 41, cells := 0, slots := 0, locals := 1249 } : Room) s m args below meth c H locs 0 0 (sy_ZI below args s Y NZ EZ Q) (F0 m 72 ls [.int s2, .int s1, .ref (Y.2.1 26)]) := by
  have hx := C.1.1
  have hb := C.1.2.1
  intro M x1 x2 x3 s1 s2 H locs ls hq hh hl
  unfold wX12_draw_72 at hq
  obtain ⟨n10, hn10, en10, hq⟩ := hq
  refine sy_zast C hh 26 (by decide) (aZ_26 Y) tZ_26 hn10 en10 (by decide) dX12_draw_72 (fun H locs hh => ?_)
  refine lv_aload_n hx hb dX12_draw_73 rfl (lv_at hl 0 rfl) ?_
  refine sy_get C hh (fun w h => mc (uZ_fX12 w h)) 0 (by decide) (oZ_0 Y) rfl 47 (by decide) (index := 115) (mc uZ_42) (v := .ref (Y.2.1 31)) rfl dX12_draw_74 ?_
  refine lv_iload_n hx hb dX12_draw_77 rfl (lv_at hl 2 rfl) ?_
  refine lv_iload_n hx hb dX12_draw_78 rfl (lv_at hl 3 rfl) ?_
  refine lv_iadd hx hb dX12_draw_79 ?_
  refine lv_aload_n hx hb dX12_draw_80 rfl (lv_at hl 0 rfl) ?_
  refine lv_iload_n hx hb dX12_draw_81 rfl (lv_at hl 3 rfl) ?_
  refine lv_iload_n hx hb dX12_draw_82 rfl (lv_at hl 1 rfl) ?_
  refine sy_cIV C hh (As := [.int x3, .int x1]) (rest := [.int (x2 + x3), .ref (Y.2.1 31)]) 0 (by decide) (oZ_0 Y) rfl (mX12_sizeOf l Y 8 _ (mu M 26 n10 (vp_nar .boolean s2)) x3 x1 _ hq) (cwV 2 C.1.2.2.2.2 (sy_goodV uZ_good uZ_187 uZ_188 uZ_189 uZ_55 uZ_186 _) rfl rfl rfl hdX12_sizeOf ⟨Nat.le_of_ble_eq_true rfl, Nat.le_of_ble_eq_true rfl⟩) rfl hl.1 rfl (Nat.le_of_ble_eq_true rfl) dX12_draw_83 (fun r12 M11 H locs hq hh => ?_)
  obtain ⟨n13, hn13, en13, hq⟩ := hq
  refine sy_iast C hh 31 (by decide) (aZ_31 Y) tZ_31 hn13 en13 (by decide) dX12_draw_86 (fun H locs hh => ?_)
  refine lv_iinc (v := (x3 + (1 : Int32))) (lv' := [(3, .int (x3 + (1 : Int32))), (0, .ref (Y.2.1 0)), (1, .int x1), (2, .int x2)]) hx hb dX12_draw_87 hl (k := 3) rfl (sy_inc (by decide)) (by decide) rfl (fun ls hl => ?_)
  refine lv_goto (tgt := 48) hx hb dX12_draw_90 (by decide) ?_
  exact hK_48 (mu M11 31 n13 r12) x1 x2 (x3 + (1 : Int32)) _ _ _ hq hh (lv_sub hl [1, 2, 3, 0] rfl)

set_option maxHeartbeats 4000000 in
set_option maxRecDepth 100000 in
theorem kX12_draw_48 (C : sy_C p m c cX12_draw 4 s args vsX12_draw RX12 meth (some .int) Y NZ tfZ) {Q : Int32 → sy_M → Prop} {K_93 : sy_M → Int32 → Int32 → Prop} (hK_93 : ∀ (M : sy_M) (x1 : Int32) (x2 : Int32) (H : Heap) (locs : List Loc) (ls : Array Slot), K_93 M x1 x2 → sy_H Y NZ EZ s H locs M → lv_has ls 4 [(0, .ref (Y.2.1 0)), (1, .int x1), (2, .int x2)] → W p l e ({ frames := 41, cells := 0, slots := 0, locals := 1249 } : Room) s m args below meth c H locs 0 0 (sy_ZI below args s Y NZ EZ Q) (F0 m 93 ls [])) :
    ∀ (n : Nat) (M : sy_M) (x1 : Int32) (x2 : Int32) (x3 : Int32) (H : Heap) (locs : List Loc) (ls : Array Slot), wX12_draw_48 K_93 Q n M x1 x2 x3 → sy_H Y NZ EZ s H locs M → lv_has ls 4 [(0, .ref (Y.2.1 0)), (1, .int x1), (2, .int x2), (3, .int x3)] → W p l e ({ frames := 41, cells := 0, slots := 0, locals := 1249 } : Room) s m args below meth c H locs 0 0 (sy_ZI below args s Y NZ EZ Q) (F0 m 48 ls []) := by
  have hx := C.1.1
  have hb := C.1.2.1
  intro n
  induction n with
  | zero =>
    intro M x1 x2 x3 H locs ls hq hh hl
    unfold wX12_draw_48 at hq
    exact hq.elim
  | succ n ih =>
    intro M x1 x2 x3 H locs ls hq hh hl
    unfold wX12_draw_48 at hq
    refine lv_iload_n hx hb dX12_draw_48 rfl (lv_at hl 3 rfl) ?_
    refine lv_aload_n hx hb dX12_draw_49 rfl (lv_at hl 0 rfl) ?_
    refine sy_get C hh (fun w h => mc (uZ_fX12 w h)) 0 (by decide) (oZ_0 Y) rfl 13 (by decide) (index := 243) (mc uZ_175) (v := .int (M 0 13)) rfl dX12_draw_50 ?_
    refine lv_icmp_ge (tgt := 93) hx hb dX12_draw_53 (by decide) (fun c8 => ?_) (fun c8 => ?_)
    · have hq := hq.1 c8
      exact hK_93 M x1 x2 _ _ _ hq hh (lv_sub hl [0, 1, 2] rfl)
    · have hq := hq.2 c8
      refine lv_aload_n hx hb dX12_draw_56 rfl (lv_at hl 0 rfl) ?_
      refine sy_get C hh (fun w h => mc (uZ_fX12 w h)) 0 (by decide) (oZ_0 Y) rfl 42 (by decide) (index := 100) (mc uZ_37) (v := .ref (Y.2.1 26)) rfl dX12_draw_57 ?_
      refine lv_iload_n hx hb dX12_draw_60 rfl (lv_at hl 2 rfl) ?_
      refine lv_iload_n hx hb dX12_draw_61 rfl (lv_at hl 3 rfl) ?_
      refine lv_iadd hx hb dX12_draw_62 ?_
      refine lv_iload_n hx hb dX12_draw_63 rfl (lv_at hl 3 rfl) ?_
      refine lv_if_ne (tgt := 71) hx hb dX12_draw_64 (by decide) (fun c9 => ?_) (fun c9 => ?_)
      · have hq := hq.1 c9
        refine lv_iconst (v := (0 : Int32)) hx hb dX12_draw_71 (by decide) ?_
        refine kX12_draw_72 C (fun M14 x1_15 x2_16 x3_17 H locs ls hq hh hl => ?_) M x1 x2 x3 (x2 + x3) (0 : Int32) _ _ _ hq hh (lv_sub hl [0, 1, 2, 3] rfl)
        · exact ih M14 x1_15 x2_16 x3_17 _ _ _ hq hh (lv_sub hl [0, 1, 2, 3] rfl)
      · have hq := hq.2 c9
        refine lv_iconst (v := (1 : Int32)) hx hb dX12_draw_67 (by decide) ?_
        refine lv_goto (tgt := 72) hx hb dX12_draw_68 (by decide) ?_
        refine kX12_draw_72 C (fun M18 x1_19 x2_20 x3_21 H locs ls hq hh hl => ?_) M x1 x2 x3 (x2 + x3) (1 : Int32) _ _ _ hq hh (lv_sub hl [0, 1, 2, 3] rfl)
        · exact ih M18 x1_19 x2_20 x3_21 _ _ _ hq hh (lv_sub hl [0, 1, 2, 3] rfl)

set_option maxHeartbeats 4000000 in
set_option maxRecDepth 100000 in
theorem kX12_draw_129 (C : sy_C p m c cX12_draw 4 s args vsX12_draw RX12 meth (some .int) Y NZ tfZ) {Q : Int32 → sy_M → Prop} {K_159 : sy_M → Prop} (hK_159 : ∀ (M : sy_M) (H : Heap) (locs : List Loc) (ls : Array Slot), K_159 M → sy_H Y NZ EZ s H locs M → lv_has ls 4 [(0, .ref (Y.2.1 0))] → W p l e ({ frames := 41, cells := 0, slots := 0, locals := 1249 } : Room) s m args below meth c H locs 0 0 (sy_ZI below args s Y NZ EZ Q) (F0 m 159 ls [])) :
    ∀ (n : Nat) (M : sy_M) (x1 : Int32) (x2 : Int32) (x3 : Int32) (H : Heap) (locs : List Loc) (ls : Array Slot), wX12_draw_129 K_159 Q n M x1 x2 x3 → sy_H Y NZ EZ s H locs M → lv_has ls 4 [(0, .ref (Y.2.1 0)), (1, .int x1), (2, .int x2), (3, .int x3)] → W p l e ({ frames := 41, cells := 0, slots := 0, locals := 1249 } : Room) s m args below meth c H locs 0 0 (sy_ZI below args s Y NZ EZ Q) (F0 m 129 ls []) := by
  have hx := C.1.1
  have hb := C.1.2.1
  intro n
  induction n with
  | zero =>
    intro M x1 x2 x3 H locs ls hq hh hl
    unfold wX12_draw_129 at hq
    exact hq.elim
  | succ n ih =>
    intro M x1 x2 x3 H locs ls hq hh hl
    unfold wX12_draw_129 at hq
    refine lv_iload_n hx hb dX12_draw_129 rfl (lv_at hl 3 rfl) ?_
    refine lv_aload_n hx hb dX12_draw_130 rfl (lv_at hl 0 rfl) ?_
    refine sy_get C hh (fun w h => mc (uZ_fX12 w h)) 0 (by decide) (oZ_0 Y) rfl 13 (by decide) (index := 243) (mc uZ_175) (v := .int (M 0 13)) rfl dX12_draw_131 ?_
    refine lv_icmp_ge (tgt := 159) hx hb dX12_draw_134 (by decide) (fun c29 => ?_) (fun c29 => ?_)
    · have hq := hq.1 c29
      exact hK_159 M  _ _ _ hq hh (lv_sub hl [0] rfl)
    · have hq := hq.2 c29
      refine lv_aload_n hx hb dX12_draw_137 rfl (lv_at hl 0 rfl) ?_
      refine sy_get C hh (fun w h => mc (uZ_fX12 w h)) 0 (by decide) (oZ_0 Y) rfl 16 (by decide) (index := 30) (mc uZ_14) (v := .ref (Y.2.1 3)) rfl dX12_draw_138 ?_
      refine lv_iload_n hx hb dX12_draw_141 rfl (lv_at hl 3 rfl) ?_
      obtain ⟨n30, hn30, en30, hq⟩ := hq
      refine sy_zald C hh 3 (by decide) (aZ_3 Y) tZ_3 hn30 en30 (by decide) dX12_draw_142 ?_
      refine lv_if_eq (tgt := 153) hx hb dX12_draw_143 (by decide) (fun c31 => ?_) (fun c31 => ?_)
      · have hq := hq.1 c31
        refine lv_iinc (v := (x3 + (1 : Int32))) (lv' := [(3, .int (x3 + (1 : Int32))), (0, .ref (Y.2.1 0)), (1, .int x1), (2, .int x2)]) hx hb dX12_draw_153 hl (k := 3) rfl (sy_inc (by decide)) (by decide) rfl (fun ls hl => ?_)
        refine lv_goto (tgt := 129) hx hb dX12_draw_156 (by decide) ?_
        exact ih M x1 x2 (x3 + (1 : Int32)) _ _ _ hq hh (lv_sub hl [1, 2, 3, 0] rfl)
      · have hq := hq.2 c31
        refine lv_aload_n hx hb dX12_draw_146 rfl (lv_at hl 0 rfl) ?_
        refine lv_iload_n hx hb dX12_draw_147 rfl (lv_at hl 3 rfl) ?_
        refine lv_iload_n hx hb dX12_draw_148 rfl (lv_at hl 2 rfl) ?_
        refine lv_iload_n hx hb dX12_draw_149 rfl (lv_at hl 1 rfl) ?_
        refine sy_cVV C hh (As := [.int x3, .int x2, .int x1]) (rest := []) 0 (by decide) (oZ_0 Y) rfl (mX12_drawGroup l Y _ M x3 x2 x1 _ hq) (cwV 3 C.1.2.2.2.2 (sy_goodV uZ_good uZ_292 uZ_293 uZ_294 uZ_55 uZ_291 _) rfl rfl rfl hdX12_drawGroup ⟨Nat.le_of_ble_eq_true rfl, Nat.le_of_ble_eq_true rfl⟩) rfl hl.1 rfl (Nat.le_of_ble_eq_true rfl) dX12_draw_150 (fun M32 H locs hq hh => ?_)
        refine lv_iinc (v := (x3 + (1 : Int32))) (lv' := [(3, .int (x3 + (1 : Int32))), (0, .ref (Y.2.1 0)), (1, .int x1), (2, .int x2)]) hx hb dX12_draw_153 hl (k := 3) rfl (sy_inc (by decide)) (by decide) rfl (fun ls hl => ?_)
        refine lv_goto (tgt := 129) hx hb dX12_draw_156 (by decide) ?_
        exact ih M32 x1 x2 (x3 + (1 : Int32)) _ _ _ hq hh (lv_sub hl [1, 2, 3, 0] rfl)

end
set_option maxHeartbeats 4000000 in
set_option maxRecDepth 100000 in
theorem mX12_draw (l : Launch) (Y : sy_Y) (sz : Nat) (M : sy_M) (a1 : Int32) (Q : Int32 → sy_M → Prop) (hq : wX12_draw M a1 Q) : Met l yX12_draw vsX12_draw ({ frames := 41, cells := 0, slots := 0, locals := 1249 } : Room) (va_Pc [.ref (Y.2.1 0), .int a1] (sy_pre Y NZ EZ tfZ sz M)) (sy_QI Y NZ EZ sz Q) 0 0 (sy_A NZ Y.2.1 sz) := by
  refine sy_metI (by decide) rfl (Nat.le_of_ble_eq_true rfl) ?_
  intro p e s m args below meth c C ls hl hh
  have hx := C.1.1
  have hb := C.1.2.1
  have hl : lv_has ls 4 [(0, .ref (Y.2.1 0)), (1, .int a1)] := hl
  unfold wX12_draw at hq
  refine lv_aload_n hx hb dX12_draw_0 rfl (lv_at hl 0 rfl) ?_
  refine lv_iconst (v := (0 : Int32)) hx hb dX12_draw_1 (by decide) ?_
  refine sy_put C hh (fun w h => mc (uZ_fX12 w h)) tyX12 tyX12_ok nmX12 0 (by decide) (oZ_0 Y) rfl 0 (by decide) (index := 1) (mc uZ_1) rfl (0 : Int32) (ty := .int) (tyX12_ok 0 (by decide)) rfl rfl (Nat.le_of_ble_eq_true rfl) (pX12_0 Y _ _ _) dX12_draw_2 (fun H locs hh => ?_)
  refine lv_aload_n hx hb dX12_draw_5 rfl (lv_at hl 0 rfl) ?_
  refine sy_get C hh (fun w h => mc (uZ_fX12 w h)) 0 (by decide) (oZ_0 Y) rfl 13 (by decide) (index := 243) (mc uZ_175) (v := .int ((mu M 0 0 (0 : Int32)) 0 13)) rfl dX12_draw_6 ?_
  refine lv_if_eq (tgt := 23) hx hb dX12_draw_9 (by decide) (fun c1 => ?_) (fun c1 => ?_)
  · have hq := hq.1 c1
    refine lv_iconst (v := (-1 : Int32)) hx hb dX12_draw_23 (by decide) ?_
    exact sy_iret C hh dX12_draw_24 hq
  · have hq := hq.2 c1
    refine lv_iload_n hx hb dX12_draw_12 rfl (lv_at hl 1 rfl) ?_
    refine lv_iconst (v := (0 : Int32)) hx hb dX12_draw_13 (by decide) ?_
    refine lv_sipush (v := (nI 999)) hx hb dX12_draw_14 (by decide) ?_
    refine sy_cIS C hh (As := [.int a1, .int (0 : Int32), .int (nI 999)]) (rest := []) (mX12_within l Y _ (mu M 0 0 (0 : Int32)) a1 (0 : Int32) (nI 999) _ hq) (va_cwS 3 C.1.2.2.2.2 (sy_goodS uZ_good uZ_53 uZ_54 uZ_55 uZ_2 _) rfl rfl rfl hdX12_within.2 ⟨Nat.le_of_ble_eq_true rfl, Nat.le_of_ble_eq_true rfl⟩) rfl hl.1 rfl (Nat.le_of_ble_eq_true rfl) dX12_draw_17 (fun r3 M2 H locs hq hh => ?_)
    refine lv_if_ne (tgt := 25) hx hb dX12_draw_20 (by decide) (fun c4 => ?_) (fun c4 => ?_)
    · have hq := hq.1 c4
      refine lv_aload_n hx hb dX12_draw_25 rfl (lv_at hl 0 rfl) ?_
      refine sy_get C hh (fun w h => mc (uZ_fX12 w h)) 0 (by decide) (oZ_0 Y) rfl 40 (by decide) (index := 249) (mc uZ_177) (v := .int (M2 0 40)) rfl dX12_draw_26 ?_
      refine sy_cIS C hh (As := [.int (M2 0 40)]) (rest := []) (mX12_rowOf l Y _ M2 (M2 0 40) _ hq) (va_cwS 1 C.1.2.2.2.2 (sy_goodS uZ_good uZ_271 uZ_272 uZ_55 uZ_265 _) rfl rfl rfl hdX12_rowOf.2 ⟨Nat.le_of_ble_eq_true rfl, Nat.le_of_ble_eq_true rfl⟩) rfl hl.1 rfl (Nat.le_of_ble_eq_true rfl) dX12_draw_29 (fun r6 M5 H locs hq hh => ?_)
      refine lv_istore_n (lv' := [(2, .int r6), (0, .ref (Y.2.1 0)), (1, .int a1)]) hx hb dX12_draw_32 rfl hl (by decide) rfl (fun ls hl => ?_)
      refine lv_aload_n hx hb dX12_draw_33 rfl (lv_at hl 1 rfl) ?_
      refine sy_get C hh (fun w h => mc (uZ_fX12 w h)) 0 (by decide) (oZ_0 Y) rfl 41 (by decide) (index := 97) (mc uZ_36) (v := .ref (Y.2.1 25)) rfl dX12_draw_34 ?_
      refine lv_aload_n hx hb dX12_draw_37 rfl (lv_at hl 1 rfl) ?_
      refine sy_get C hh (fun w h => mc (uZ_fX12 w h)) 0 (by decide) (oZ_0 Y) rfl 40 (by decide) (index := 249) (mc uZ_177) (v := .int (M5 0 40)) rfl dX12_draw_38 ?_
      refine lv_bipush (v := (nI 51)) hx hb dX12_draw_41 (by decide) ?_
      refine lv_irem hx hb dX12_draw_43 (by decide) ?_
      refine lv_iload_n hx hb dX12_draw_44 rfl (lv_at hl 2 rfl) ?_
      obtain ⟨n7, hn7, en7, hq⟩ := hq
      refine sy_iast C hh 25 (by decide) (aZ_25 Y) tZ_25 hn7 en7 (by decide) dX12_draw_45 (fun H locs hh => ?_)
      refine lv_iconst (v := (0 : Int32)) hx hb dX12_draw_46 (by decide) ?_
      refine lv_istore_n (lv' := [(3, .int (0 : Int32)), (2, .int r6), (0, .ref (Y.2.1 0)), (1, .int a1)]) hx hb dX12_draw_47 rfl hl (by decide) rfl (fun ls hl => ?_)
      obtain ⟨n35, hq⟩ := hq
      refine kX12_draw_48 C (fun M22 x1_23 x2_24 H locs ls hq hh hl => ?_) n35 (mu M5 25 n7 a1) a1 r6 (0 : Int32) _ _ _ hq hh (lv_sub hl [2, 3, 1, 0] rfl)
      · refine lv_aload_n hx hb dX12_draw_93 rfl (lv_at hl 0 rfl) ?_
        refine sy_get C hh (fun w h => mc (uZ_fX12 w h)) 0 (by decide) (oZ_0 Y) rfl 43 (by decide) (index := 103) (mc uZ_38) (v := .ref (Y.2.1 27)) rfl dX12_draw_94 ?_
        refine lv_iload_n hx hb dX12_draw_97 rfl (lv_at hl 2 rfl) ?_
        refine lv_iconst (v := (0 : Int32)) hx hb dX12_draw_98 (by decide) ?_
        obtain ⟨n25, hn25, en25, hq⟩ := hq
        refine sy_iast C hh 27 (by decide) (aZ_27 Y) tZ_27 hn25 en25 (by decide) dX12_draw_99 (fun H locs hh => ?_)
        refine lv_aload_n hx hb dX12_draw_100 rfl (lv_at hl 0 rfl) ?_
        refine sy_get C hh (fun w h => mc (uZ_fX12 w h)) 0 (by decide) (oZ_0 Y) rfl 44 (by decide) (index := 106) (mc uZ_39) (v := .ref (Y.2.1 28)) rfl dX12_draw_101 ?_
        refine lv_iload_n hx hb dX12_draw_104 rfl (lv_at hl 2 rfl) ?_
        refine lv_iconst (v := (0 : Int32)) hx hb dX12_draw_105 (by decide) ?_
        obtain ⟨n26, hn26, en26, hq⟩ := hq
        refine sy_iast C hh 28 (by decide) (aZ_28 Y) tZ_28 hn26 en26 (by decide) dX12_draw_106 (fun H locs hh => ?_)
        refine lv_aload_n hx hb dX12_draw_107 rfl (lv_at hl 0 rfl) ?_
        refine sy_get C hh (fun w h => mc (uZ_fX12 w h)) 0 (by decide) (oZ_0 Y) rfl 45 (by decide) (index := 109) (mc uZ_40) (v := .ref (Y.2.1 29)) rfl dX12_draw_108 ?_
        refine lv_iload_n hx hb dX12_draw_111 rfl (lv_at hl 2 rfl) ?_
        refine lv_aload_n hx hb dX12_draw_112 rfl (lv_at hl 0 rfl) ?_
        refine sy_get C hh (fun w h => mc (uZ_fX12 w h)) 0 (by decide) (oZ_0 Y) rfl 1 (by decide) (index := 13) (mc uZ_6) (v := .int ((mu (mu M22 27 n25 (0 : Int32)) 28 n26 (0 : Int32)) 0 1)) rfl dX12_draw_113 ?_
        obtain ⟨n27, hn27, en27, hq⟩ := hq
        refine sy_iast C hh 29 (by decide) (aZ_29 Y) tZ_29 hn27 en27 (by decide) dX12_draw_116 (fun H locs hh => ?_)
        refine lv_aload_n hx hb dX12_draw_117 rfl (lv_at hl 0 rfl) ?_
        refine sy_get C hh (fun w h => mc (uZ_fX12 w h)) 0 (by decide) (oZ_0 Y) rfl 46 (by decide) (index := 112) (mc uZ_41) (v := .ref (Y.2.1 30)) rfl dX12_draw_118 ?_
        refine lv_iload_n hx hb dX12_draw_121 rfl (lv_at hl 2 rfl) ?_
        refine lv_aload_n hx hb dX12_draw_122 rfl (lv_at hl 0 rfl) ?_
        refine sy_get C hh (fun w h => mc (uZ_fX12 w h)) 0 (by decide) (oZ_0 Y) rfl 2 (by decide) (index := 16) (mc uZ_7) (v := .int ((mu (mu (mu M22 27 n25 (0 : Int32)) 28 n26 (0 : Int32)) 29 n27 ((mu (mu M22 27 n25 (0 : Int32)) 28 n26 (0 : Int32)) 0 1)) 0 2)) rfl dX12_draw_123 ?_
        obtain ⟨n28, hn28, en28, hq⟩ := hq
        refine sy_iast C hh 30 (by decide) (aZ_30 Y) tZ_30 hn28 en28 (by decide) dX12_draw_126 (fun H locs hh => ?_)
        refine lv_iconst (v := (0 : Int32)) hx hb dX12_draw_127 (by decide) ?_
        refine lv_istore_n (lv' := [(3, .int (0 : Int32)), (0, .ref (Y.2.1 0)), (1, .int x1_23), (2, .int x2_24)]) hx hb dX12_draw_128 rfl hl (by decide) rfl (fun ls hl => ?_)
        obtain ⟨n34, hq⟩ := hq
        refine kX12_draw_129 C (fun M33 H locs ls hq hh hl => ?_) n34 (mu (mu (mu (mu M22 27 n25 (0 : Int32)) 28 n26 (0 : Int32)) 29 n27 ((mu (mu M22 27 n25 (0 : Int32)) 28 n26 (0 : Int32)) 0 1)) 30 n28 ((mu (mu (mu M22 27 n25 (0 : Int32)) 28 n26 (0 : Int32)) 29 n27 ((mu (mu M22 27 n25 (0 : Int32)) 28 n26 (0 : Int32)) 0 1)) 0 2)) x1_23 x2_24 (0 : Int32) _ _ _ hq hh (lv_sub hl [1, 2, 3, 0] rfl)
        · refine lv_aload_n hx hb dX12_draw_159 rfl (lv_at hl 0 rfl) ?_
          refine lv_dup hx hb dX12_draw_160 rfl ?_
          refine sy_get C hh (fun w h => mc (uZ_fX12 w h)) 0 (by decide) (oZ_0 Y) rfl 40 (by decide) (index := 249) (mc uZ_177) (v := .int (M33 0 40)) rfl dX12_draw_161 ?_
          refine lv_iconst (v := (1 : Int32)) hx hb dX12_draw_164 (by decide) ?_
          refine lv_iadd hx hb dX12_draw_165 ?_
          refine sy_put C hh (fun w h => mc (uZ_fX12 w h)) tyX12 tyX12_ok nmX12 0 (by decide) (oZ_0 Y) rfl 40 (by decide) (index := 249) (mc uZ_177) rfl ((M33 0 40) + (1 : Int32)) (ty := .int) (tyX12_ok 40 (by decide)) rfl rfl (Nat.le_of_ble_eq_true rfl) (pX12_40 Y _ _ _) dX12_draw_166 (fun H locs hh => ?_)
          refine lv_aload_n hx hb dX12_draw_169 rfl (lv_at hl 0 rfl) ?_
          refine sy_get C hh (fun w h => mc (uZ_fX12 w h)) 0 (by decide) (oZ_0 Y) rfl 40 (by decide) (index := 249) (mc uZ_177) (v := .int ((mu M33 0 40 ((M33 0 40) + (1 : Int32))) 0 40)) rfl dX12_draw_170 ?_
          refine lv_iconst (v := (1 : Int32)) hx hb dX12_draw_173 (by decide) ?_
          refine lv_isub hx hb dX12_draw_174 ?_
          exact sy_iret C hh dX12_draw_175 hq
    · have hq := hq.2 c4
      refine lv_iconst (v := (-1 : Int32)) hx hb dX12_draw_23 (by decide) ?_
      exact sy_iret C hh dX12_draw_24 hq

