/-! the law's cases, walked -/
section LWC
variable {p : Program} {l : Launch} {e : Env} {s : State} {m : MethodId} {below : List Frame} {meth : Method} {c : Code} {b L j : Nat} {xs : Nat → Int32} {YX YZ : sy_Y} {oa : Nat} {oc : ClassId} {cells slots : Nat} {Qf : State → Prop} {H : Heap} {locs : List Loc} {A B : sy_M} {f : Nat → Int64} {ls : Array Slot}
set_option maxHeartbeats 4000000 in
set_option maxRecDepth 100000 in
theorem lc_0 (C : lwC p l s m c b L xs YX YZ oa oc) (hh : lwH s YX YZ oa oc H locs A B f) (hR : Rel j A B) (hj : 6 * j + 6 ≤ L) (hL : L ≤ 3072) (hl : lv_has ls 7 [(0, .ref b), (1, .ref (YX.2.1 0)), (2, .ref (YZ.2.1 0)), (3, .ref oa), (4, .int (nI (6 * j)))]) (hc : cells + 1 ≤ 601024 ∧ slots + 6 ≤ 7293034) (kk : ∀ (A1 B1 : sy_M) (f1 : Nat → Int64) (H1 : Heap) (locs1 : List Loc) (ls1 : Array Slot), Rel (j + 1) A1 B1 → lwH s YX YZ oa oc H1 locs1 A1 B1 f1 → lv_has ls1 7 [(0, .ref b), (1, .ref (YX.2.1 0)), (2, .ref (YZ.2.1 0)), (3, .ref oa), (4, .int (nI (6 * j)))] → W p l e room_1 s m #[Value.ref b] below meth c H1 locs1 (cells + 1) (slots + 6) Qf (F0 m 851 ls1 [])) : W p l e room_1 s m #[Value.ref b] below meth c H locs cells slots Qf (F0 m 136 ls []) := by
  have hx := C.1.1
  have hb := C.1.2.1
  have hts := C.1.2.2.2.2
  have hX := C.2.2.2.2.2.2.2.2.2.2.2.2.2.1
  have hbl := C.2.2.2.2.2.2.2.2.2.2.2.2.2.2
  have hbA : ¬ (fun q : Nat => s.heap.size ≤ q) b := Nat.not_le.mpr hbl
  refine lv_aload_n hx hb dL_law_136 rfl (lv_at hl 1 rfl) ?_
  refine lv_aload_n hx hb dL_law_137 rfl (lv_at hl 0 rfl) ?_
  refine lv_iload hx hb dL_law_138 (lv_at hl 4 rfl) ?_
  refine lv_iconst (v := nI 1) hx hb dL_law_140 (by decide) ?_
  refine lv_iadd hx hb dL_law_141 ?_
  refine va_sld hx hb hX hbl hbA hh.2.2.2 (lw_in hj (by decide) hL) dL_law_142 ?_
  refine lv_aload_n hx hb dL_law_143 rfl (lv_at hl 0 rfl) ?_
  refine lv_iload hx hb dL_law_144 (lv_at hl 4 rfl) ?_
  refine lv_iconst (v := nI 2) hx hb dL_law_146 (by decide) ?_
  refine lv_iadd hx hb dL_law_147 ?_
  refine va_sld hx hb hX hbl hbA hh.2.2.2 (lw_in hj (by decide) hL) dL_law_148 ?_
  refine lw_cX C hh (As := [.int (xs (nI (6 * j) + nI 1).toNatClampNeg), .int (xs (nI (6 * j) + nI 2).toNatClampNeg)]) (rest := []) (mX11_sheet l YX _ A (xs (nI (6 * j) + nI 1).toNatClampNeg) (xs (nI (6 * j) + nI 2).toNatClampNeg) (fun r A' => wX12_sheet B (xs (nI (6 * j) + nI 1).toNatClampNeg) (xs (nI (6 * j) + nI 2).toNatClampNeg) (fun r' B' => r = r' ∧ Rel (j + 1) A' B')) (op_sheet hR (xs (nI (6 * j) + nI 1).toNatClampNeg) (xs (nI (6 * j) + nI 2).toNatClampNeg) (fun _ _ h => h.up))) (cwV 2 hts (sy_goodVL uX_in gL_19 uX_507) rfl rfl rfl (by decide +kernel) ⟨Nat.le_of_ble_eq_true rfl, Nat.le_of_ble_eq_true rfl⟩) rfl hl.1 rfl (Nat.le_of_ble_eq_true rfl) dL_law_149 ⟨by omega, by omega⟩ (fun r A1 H1 locs1 hw hh => ?_)
  refine lv_aload_n hx hb dL_law_152 rfl (lv_at hl 2 rfl) ?_
  refine lv_aload_n hx hb dL_law_153 rfl (lv_at hl 0 rfl) ?_
  refine lv_iload hx hb dL_law_154 (lv_at hl 4 rfl) ?_
  refine lv_iconst (v := nI 1) hx hb dL_law_156 (by decide) ?_
  refine lv_iadd hx hb dL_law_157 ?_
  refine va_sld hx hb hX hbl hbA hh.2.2.2 (lw_in hj (by decide) hL) dL_law_158 ?_
  refine lv_aload_n hx hb dL_law_159 rfl (lv_at hl 0 rfl) ?_
  refine lv_iload hx hb dL_law_160 (lv_at hl 4 rfl) ?_
  refine lv_iconst (v := nI 2) hx hb dL_law_162 (by decide) ?_
  refine lv_iadd hx hb dL_law_163 ?_
  refine va_sld hx hb hX hbl hbA hh.2.2.2 (lw_in hj (by decide) hL) dL_law_164 ?_
  refine lw_cZ C hh (As := [.int (xs (nI (6 * j) + nI 1).toNatClampNeg), .int (xs (nI (6 * j) + nI 2).toNatClampNeg)]) (rest := [.int r]) (mX12_sheet l YZ _ B (xs (nI (6 * j) + nI 1).toNatClampNeg) (xs (nI (6 * j) + nI 2).toNatClampNeg) _ hw) (cwV 2 hts (sy_goodVL uZ_in gL_23 uZ_52) rfl rfl rfl (by decide +kernel) ⟨Nat.le_of_ble_eq_true rfl, Nat.le_of_ble_eq_true rfl⟩) rfl hl.1 rfl (Nat.le_of_ble_eq_true rfl) dL_law_165 ⟨by omega, by omega⟩ (fun r2 B1 H2 locs2 hw hh => ?_)
  refine lv_icmp_eq (tgt := 851) hx hb dL_law_168 (by decide) (fun _ => ?_) (fun z => absurd hw.1 z)
  refine W.widen (k := cells + 1) (n := slots + 6) (by omega) (by omega) ?_
  exact kk A1 B1 f _ _ ls hw.2 hh hl

set_option maxHeartbeats 4000000 in
set_option maxRecDepth 100000 in
theorem lc_1 (C : lwC p l s m c b L xs YX YZ oa oc) (hh : lwH s YX YZ oa oc H locs A B f) (hR : Rel j A B) (hj : 6 * j + 6 ≤ L) (hL : L ≤ 3072) (hl : lv_has ls 7 [(0, .ref b), (1, .ref (YX.2.1 0)), (2, .ref (YZ.2.1 0)), (3, .ref oa), (4, .int (nI (6 * j)))]) (hc : cells + 1 ≤ 601024 ∧ slots + 6 ≤ 7293034) (kk : ∀ (A1 B1 : sy_M) (f1 : Nat → Int64) (H1 : Heap) (locs1 : List Loc) (ls1 : Array Slot), Rel (j + 1) A1 B1 → lwH s YX YZ oa oc H1 locs1 A1 B1 f1 → lv_has ls1 7 [(0, .ref b), (1, .ref (YX.2.1 0)), (2, .ref (YZ.2.1 0)), (3, .ref oa), (4, .int (nI (6 * j)))] → W p l e room_1 s m #[Value.ref b] below meth c H1 locs1 (cells + 1) (slots + 6) Qf (F0 m 851 ls1 [])) : W p l e room_1 s m #[Value.ref b] below meth c H locs cells slots Qf (F0 m 173 ls []) := by
  have hx := C.1.1
  have hb := C.1.2.1
  have hts := C.1.2.2.2.2
  have hX := C.2.2.2.2.2.2.2.2.2.2.2.2.2.1
  have hbl := C.2.2.2.2.2.2.2.2.2.2.2.2.2.2
  have hbA : ¬ (fun q : Nat => s.heap.size ≤ q) b := Nat.not_le.mpr hbl
  refine lv_aload_n hx hb dL_law_173 rfl (lv_at hl 1 rfl) ?_
  refine lv_aload_n hx hb dL_law_174 rfl (lv_at hl 0 rfl) ?_
  refine lv_iload hx hb dL_law_175 (lv_at hl 4 rfl) ?_
  refine lv_iconst (v := nI 1) hx hb dL_law_177 (by decide) ?_
  refine lv_iadd hx hb dL_law_178 ?_
  refine va_sld hx hb hX hbl hbA hh.2.2.2 (lw_in hj (by decide) hL) dL_law_179 ?_
  refine lw_cX C hh (As := [.int (xs (nI (6 * j) + nI 1).toNatClampNeg)]) (rest := []) (mX11_price l YX _ A (xs (nI (6 * j) + nI 1).toNatClampNeg) (fun r A' => wX12_price B (xs (nI (6 * j) + nI 1).toNatClampNeg) (fun r' B' => r = r' ∧ Rel (j + 1) A' B')) (op_price hR (xs (nI (6 * j) + nI 1).toNatClampNeg) (fun _ _ h => h.up))) (cwV 1 hts (sy_goodVL uX_in gL_24 uX_510) rfl rfl rfl (by decide +kernel) ⟨Nat.le_of_ble_eq_true rfl, Nat.le_of_ble_eq_true rfl⟩) rfl hl.1 rfl (Nat.le_of_ble_eq_true rfl) dL_law_180 ⟨by omega, by omega⟩ (fun r A1 H1 locs1 hw hh => ?_)
  refine lv_aload_n hx hb dL_law_183 rfl (lv_at hl 2 rfl) ?_
  refine lv_aload_n hx hb dL_law_184 rfl (lv_at hl 0 rfl) ?_
  refine lv_iload hx hb dL_law_185 (lv_at hl 4 rfl) ?_
  refine lv_iconst (v := nI 1) hx hb dL_law_187 (by decide) ?_
  refine lv_iadd hx hb dL_law_188 ?_
  refine va_sld hx hb hX hbl hbA hh.2.2.2 (lw_in hj (by decide) hL) dL_law_189 ?_
  refine lw_cZ C hh (As := [.int (xs (nI (6 * j) + nI 1).toNatClampNeg)]) (rest := [.int r]) (mX12_price l YZ _ B (xs (nI (6 * j) + nI 1).toNatClampNeg) _ hw) (cwV 1 hts (sy_goodVL uZ_in gL_28 uZ_56) rfl rfl rfl (by decide +kernel) ⟨Nat.le_of_ble_eq_true rfl, Nat.le_of_ble_eq_true rfl⟩) rfl hl.1 rfl (Nat.le_of_ble_eq_true rfl) dL_law_190 ⟨by omega, by omega⟩ (fun r2 B1 H2 locs2 hw hh => ?_)
  refine lv_icmp_eq (tgt := 851) hx hb dL_law_193 (by decide) (fun _ => ?_) (fun z => absurd hw.1 z)
  refine W.widen (k := cells + 1) (n := slots + 6) (by omega) (by omega) ?_
  exact kk A1 B1 f _ _ ls hw.2 hh hl

set_option maxHeartbeats 4000000 in
set_option maxRecDepth 100000 in
theorem lc_2 (C : lwC p l s m c b L xs YX YZ oa oc) (hh : lwH s YX YZ oa oc H locs A B f) (hR : Rel j A B) (hj : 6 * j + 6 ≤ L) (hL : L ≤ 3072) (hl : lv_has ls 7 [(0, .ref b), (1, .ref (YX.2.1 0)), (2, .ref (YZ.2.1 0)), (3, .ref oa), (4, .int (nI (6 * j)))]) (hc : cells + 1 ≤ 601024 ∧ slots + 6 ≤ 7293034) (kk : ∀ (A1 B1 : sy_M) (f1 : Nat → Int64) (H1 : Heap) (locs1 : List Loc) (ls1 : Array Slot), Rel (j + 1) A1 B1 → lwH s YX YZ oa oc H1 locs1 A1 B1 f1 → lv_has ls1 7 [(0, .ref b), (1, .ref (YX.2.1 0)), (2, .ref (YZ.2.1 0)), (3, .ref oa), (4, .int (nI (6 * j)))] → W p l e room_1 s m #[Value.ref b] below meth c H1 locs1 (cells + 1) (slots + 6) Qf (F0 m 851 ls1 [])) : W p l e room_1 s m #[Value.ref b] below meth c H locs cells slots Qf (F0 m 198 ls []) := by
  have hx := C.1.1
  have hb := C.1.2.1
  have hts := C.1.2.2.2.2
  have hX := C.2.2.2.2.2.2.2.2.2.2.2.2.2.1
  have hbl := C.2.2.2.2.2.2.2.2.2.2.2.2.2.2
  have hbA : ¬ (fun q : Nat => s.heap.size ≤ q) b := Nat.not_le.mpr hbl
  refine lv_aload_n hx hb dL_law_198 rfl (lv_at hl 1 rfl) ?_
  refine lv_aload_n hx hb dL_law_199 rfl (lv_at hl 0 rfl) ?_
  refine lv_iload hx hb dL_law_200 (lv_at hl 4 rfl) ?_
  refine lv_iconst (v := nI 1) hx hb dL_law_202 (by decide) ?_
  refine lv_iadd hx hb dL_law_203 ?_
  refine va_sld hx hb hX hbl hbA hh.2.2.2 (lw_in hj (by decide) hL) dL_law_204 ?_
  refine lv_aload_n hx hb dL_law_205 rfl (lv_at hl 0 rfl) ?_
  refine lv_iload hx hb dL_law_206 (lv_at hl 4 rfl) ?_
  refine lv_iconst (v := nI 2) hx hb dL_law_208 (by decide) ?_
  refine lv_iadd hx hb dL_law_209 ?_
  refine va_sld hx hb hX hbl hbA hh.2.2.2 (lw_in hj (by decide) hL) dL_law_210 ?_
  refine lv_aload_n hx hb dL_law_211 rfl (lv_at hl 0 rfl) ?_
  refine lv_iload hx hb dL_law_212 (lv_at hl 4 rfl) ?_
  refine lv_iconst (v := nI 3) hx hb dL_law_214 (by decide) ?_
  refine lv_iadd hx hb dL_law_215 ?_
  refine va_sld hx hb hX hbl hbA hh.2.2.2 (lw_in hj (by decide) hL) dL_law_216 ?_
  refine lv_aload_n hx hb dL_law_217 rfl (lv_at hl 0 rfl) ?_
  refine lv_iload hx hb dL_law_218 (lv_at hl 4 rfl) ?_
  refine lv_iconst (v := nI 4) hx hb dL_law_220 (by decide) ?_
  refine lv_iadd hx hb dL_law_221 ?_
  refine va_sld hx hb hX hbl hbA hh.2.2.2 (lw_in hj (by decide) hL) dL_law_222 ?_
  refine lv_aload_n hx hb dL_law_223 rfl (lv_at hl 0 rfl) ?_
  refine lv_iload hx hb dL_law_224 (lv_at hl 4 rfl) ?_
  refine lv_iconst (v := nI 5) hx hb dL_law_226 (by decide) ?_
  refine lv_iadd hx hb dL_law_227 ?_
  refine va_sld hx hb hX hbl hbA hh.2.2.2 (lw_in hj (by decide) hL) dL_law_228 ?_
  refine lw_cX C hh (As := [.int (xs (nI (6 * j) + nI 1).toNatClampNeg), .int (xs (nI (6 * j) + nI 2).toNatClampNeg), .int (xs (nI (6 * j) + nI 3).toNatClampNeg), .int (xs (nI (6 * j) + nI 4).toNatClampNeg), .int (xs (nI (6 * j) + nI 5).toNatClampNeg)]) (rest := []) (mX11_feed l YX _ A (xs (nI (6 * j) + nI 1).toNatClampNeg) (xs (nI (6 * j) + nI 2).toNatClampNeg) (xs (nI (6 * j) + nI 3).toNatClampNeg) (xs (nI (6 * j) + nI 4).toNatClampNeg) (xs (nI (6 * j) + nI 5).toNatClampNeg) (fun r A' => wX12_feed B (xs (nI (6 * j) + nI 1).toNatClampNeg) (xs (nI (6 * j) + nI 2).toNatClampNeg) (xs (nI (6 * j) + nI 3).toNatClampNeg) (xs (nI (6 * j) + nI 4).toNatClampNeg) (xs (nI (6 * j) + nI 5).toNatClampNeg) (fun r' B' => r = r' ∧ Rel (j + 1) A' B')) (op_feed hR (xs (nI (6 * j) + nI 1).toNatClampNeg) (xs (nI (6 * j) + nI 2).toNatClampNeg) (xs (nI (6 * j) + nI 3).toNatClampNeg) (xs (nI (6 * j) + nI 4).toNatClampNeg) (xs (nI (6 * j) + nI 5).toNatClampNeg) (fun _ _ h => h.up))) (cwV 5 hts (sy_goodVL uX_in gL_29 uX_512) rfl rfl rfl (by decide +kernel) ⟨Nat.le_of_ble_eq_true rfl, Nat.le_of_ble_eq_true rfl⟩) rfl hl.1 rfl (Nat.le_of_ble_eq_true rfl) dL_law_229 ⟨by omega, by omega⟩ (fun r A1 H1 locs1 hw hh => ?_)
  refine lv_aload_n hx hb dL_law_232 rfl (lv_at hl 2 rfl) ?_
  refine lv_aload_n hx hb dL_law_233 rfl (lv_at hl 0 rfl) ?_
  refine lv_iload hx hb dL_law_234 (lv_at hl 4 rfl) ?_
  refine lv_iconst (v := nI 1) hx hb dL_law_236 (by decide) ?_
  refine lv_iadd hx hb dL_law_237 ?_
  refine va_sld hx hb hX hbl hbA hh.2.2.2 (lw_in hj (by decide) hL) dL_law_238 ?_
  refine lv_aload_n hx hb dL_law_239 rfl (lv_at hl 0 rfl) ?_
  refine lv_iload hx hb dL_law_240 (lv_at hl 4 rfl) ?_
  refine lv_iconst (v := nI 2) hx hb dL_law_242 (by decide) ?_
  refine lv_iadd hx hb dL_law_243 ?_
  refine va_sld hx hb hX hbl hbA hh.2.2.2 (lw_in hj (by decide) hL) dL_law_244 ?_
  refine lv_aload_n hx hb dL_law_245 rfl (lv_at hl 0 rfl) ?_
  refine lv_iload hx hb dL_law_246 (lv_at hl 4 rfl) ?_
  refine lv_iconst (v := nI 3) hx hb dL_law_248 (by decide) ?_
  refine lv_iadd hx hb dL_law_249 ?_
  refine va_sld hx hb hX hbl hbA hh.2.2.2 (lw_in hj (by decide) hL) dL_law_250 ?_
  refine lv_aload_n hx hb dL_law_251 rfl (lv_at hl 0 rfl) ?_
  refine lv_iload hx hb dL_law_252 (lv_at hl 4 rfl) ?_
  refine lv_iconst (v := nI 4) hx hb dL_law_254 (by decide) ?_
  refine lv_iadd hx hb dL_law_255 ?_
  refine va_sld hx hb hX hbl hbA hh.2.2.2 (lw_in hj (by decide) hL) dL_law_256 ?_
  refine lv_aload_n hx hb dL_law_257 rfl (lv_at hl 0 rfl) ?_
  refine lv_iload hx hb dL_law_258 (lv_at hl 4 rfl) ?_
  refine lv_iconst (v := nI 5) hx hb dL_law_260 (by decide) ?_
  refine lv_iadd hx hb dL_law_261 ?_
  refine va_sld hx hb hX hbl hbA hh.2.2.2 (lw_in hj (by decide) hL) dL_law_262 ?_
  refine lw_cZ C hh (As := [.int (xs (nI (6 * j) + nI 1).toNatClampNeg), .int (xs (nI (6 * j) + nI 2).toNatClampNeg), .int (xs (nI (6 * j) + nI 3).toNatClampNeg), .int (xs (nI (6 * j) + nI 4).toNatClampNeg), .int (xs (nI (6 * j) + nI 5).toNatClampNeg)]) (rest := [.int r]) (mX12_feed l YZ _ B (xs (nI (6 * j) + nI 1).toNatClampNeg) (xs (nI (6 * j) + nI 2).toNatClampNeg) (xs (nI (6 * j) + nI 3).toNatClampNeg) (xs (nI (6 * j) + nI 4).toNatClampNeg) (xs (nI (6 * j) + nI 5).toNatClampNeg) _ hw) (cwV 5 hts (sy_goodVL uZ_in gL_33 uZ_58) rfl rfl rfl (by decide +kernel) ⟨Nat.le_of_ble_eq_true rfl, Nat.le_of_ble_eq_true rfl⟩) rfl hl.1 rfl (Nat.le_of_ble_eq_true rfl) dL_law_263 ⟨by omega, by omega⟩ (fun r2 B1 H2 locs2 hw hh => ?_)
  refine lv_icmp_eq (tgt := 851) hx hb dL_law_266 (by decide) (fun _ => ?_) (fun z => absurd hw.1 z)
  refine W.widen (k := cells + 1) (n := slots + 6) (by omega) (by omega) ?_
  exact kk A1 B1 f _ _ ls hw.2 hh hl

set_option maxHeartbeats 4000000 in
set_option maxRecDepth 100000 in
theorem lc_3 (C : lwC p l s m c b L xs YX YZ oa oc) (hh : lwH s YX YZ oa oc H locs A B f) (hR : Rel j A B) (hj : 6 * j + 6 ≤ L) (hL : L ≤ 3072) (hl : lv_has ls 7 [(0, .ref b), (1, .ref (YX.2.1 0)), (2, .ref (YZ.2.1 0)), (3, .ref oa), (4, .int (nI (6 * j)))]) (hc : cells + 1 ≤ 601024 ∧ slots + 6 ≤ 7293034) (kk : ∀ (A1 B1 : sy_M) (f1 : Nat → Int64) (H1 : Heap) (locs1 : List Loc) (ls1 : Array Slot), Rel (j + 1) A1 B1 → lwH s YX YZ oa oc H1 locs1 A1 B1 f1 → lv_has ls1 7 [(0, .ref b), (1, .ref (YX.2.1 0)), (2, .ref (YZ.2.1 0)), (3, .ref oa), (4, .int (nI (6 * j)))] → W p l e room_1 s m #[Value.ref b] below meth c H1 locs1 (cells + 1) (slots + 6) Qf (F0 m 851 ls1 [])) : W p l e room_1 s m #[Value.ref b] below meth c H locs cells slots Qf (F0 m 271 ls []) := by
  have hx := C.1.1
  have hb := C.1.2.1
  have hts := C.1.2.2.2.2
  have hX := C.2.2.2.2.2.2.2.2.2.2.2.2.2.1
  have hbl := C.2.2.2.2.2.2.2.2.2.2.2.2.2.2
  have hbA : ¬ (fun q : Nat => s.heap.size ≤ q) b := Nat.not_le.mpr hbl
  refine lv_aload_n hx hb dL_law_271 rfl (lv_at hl 1 rfl) ?_
  refine lv_aload_n hx hb dL_law_272 rfl (lv_at hl 0 rfl) ?_
  refine lv_iload hx hb dL_law_273 (lv_at hl 4 rfl) ?_
  refine lv_iconst (v := nI 1) hx hb dL_law_275 (by decide) ?_
  refine lv_iadd hx hb dL_law_276 ?_
  refine va_sld hx hb hX hbl hbA hh.2.2.2 (lw_in hj (by decide) hL) dL_law_277 ?_
  refine lw_cX C hh (As := [.int (xs (nI (6 * j) + nI 1).toNatClampNeg)]) (rest := []) (mX11_end l YX _ A (xs (nI (6 * j) + nI 1).toNatClampNeg) (fun r A' => wX12_end B (xs (nI (6 * j) + nI 1).toNatClampNeg) (fun r' B' => r = r' ∧ Rel (j + 1) A' B')) (op_end hR (xs (nI (6 * j) + nI 1).toNatClampNeg) (fun _ _ h => h.up))) (cwV 1 hts (sy_goodVL uX_in gL_34 uX_517) rfl rfl rfl (by decide +kernel) ⟨Nat.le_of_ble_eq_true rfl, Nat.le_of_ble_eq_true rfl⟩) rfl hl.1 rfl (Nat.le_of_ble_eq_true rfl) dL_law_278 ⟨by omega, by omega⟩ (fun r A1 H1 locs1 hw hh => ?_)
  refine lv_aload_n hx hb dL_law_281 rfl (lv_at hl 2 rfl) ?_
  refine lv_aload_n hx hb dL_law_282 rfl (lv_at hl 0 rfl) ?_
  refine lv_iload hx hb dL_law_283 (lv_at hl 4 rfl) ?_
  refine lv_iconst (v := nI 1) hx hb dL_law_285 (by decide) ?_
  refine lv_iadd hx hb dL_law_286 ?_
  refine va_sld hx hb hX hbl hbA hh.2.2.2 (lw_in hj (by decide) hL) dL_law_287 ?_
  refine lw_cZ C hh (As := [.int (xs (nI (6 * j) + nI 1).toNatClampNeg)]) (rest := [.int r]) (mX12_end l YZ _ B (xs (nI (6 * j) + nI 1).toNatClampNeg) _ hw) (cwV 1 hts (sy_goodVL uZ_in gL_38 uZ_60) rfl rfl rfl (by decide +kernel) ⟨Nat.le_of_ble_eq_true rfl, Nat.le_of_ble_eq_true rfl⟩) rfl hl.1 rfl (Nat.le_of_ble_eq_true rfl) dL_law_288 ⟨by omega, by omega⟩ (fun r2 B1 H2 locs2 hw hh => ?_)
  refine lv_icmp_eq (tgt := 851) hx hb dL_law_291 (by decide) (fun _ => ?_) (fun z => absurd hw.1 z)
  refine W.widen (k := cells + 1) (n := slots + 6) (by omega) (by omega) ?_
  exact kk A1 B1 f _ _ ls hw.2 hh hl

set_option maxHeartbeats 4000000 in
set_option maxRecDepth 100000 in
theorem lc_4 (C : lwC p l s m c b L xs YX YZ oa oc) (hh : lwH s YX YZ oa oc H locs A B f) (hR : Rel j A B) (hj : 6 * j + 6 ≤ L) (hL : L ≤ 3072) (hl : lv_has ls 7 [(0, .ref b), (1, .ref (YX.2.1 0)), (2, .ref (YZ.2.1 0)), (3, .ref oa), (4, .int (nI (6 * j)))]) (hc : cells + 1 ≤ 601024 ∧ slots + 6 ≤ 7293034) (kk : ∀ (A1 B1 : sy_M) (f1 : Nat → Int64) (H1 : Heap) (locs1 : List Loc) (ls1 : Array Slot), Rel (j + 1) A1 B1 → lwH s YX YZ oa oc H1 locs1 A1 B1 f1 → lv_has ls1 7 [(0, .ref b), (1, .ref (YX.2.1 0)), (2, .ref (YZ.2.1 0)), (3, .ref oa), (4, .int (nI (6 * j)))] → W p l e room_1 s m #[Value.ref b] below meth c H1 locs1 (cells + 1) (slots + 6) Qf (F0 m 851 ls1 [])) : W p l e room_1 s m #[Value.ref b] below meth c H locs cells slots Qf (F0 m 296 ls []) := by
  have hx := C.1.1
  have hb := C.1.2.1
  have hts := C.1.2.2.2.2
  have hX := C.2.2.2.2.2.2.2.2.2.2.2.2.2.1
  have hbl := C.2.2.2.2.2.2.2.2.2.2.2.2.2.2
  have hbA : ¬ (fun q : Nat => s.heap.size ≤ q) b := Nat.not_le.mpr hbl
  refine lv_aload_n hx hb dL_law_296 rfl (lv_at hl 1 rfl) ?_
  refine lw_cX C hh (As := []) (rest := []) (mX11_tree l YX _ A  (fun r A' => wX12_tree B  (fun r' B' => r = r' ∧ Rel (j + 1) A' B')) (op_tree hR  (fun _ _ h => h.up))) (cwV 0 hts (sy_goodVL uX_in gL_39 uX_525) rfl rfl rfl (by decide +kernel) ⟨Nat.le_of_ble_eq_true rfl, Nat.le_of_ble_eq_true rfl⟩) rfl hl.1 rfl (Nat.le_of_ble_eq_true rfl) dL_law_297 ⟨by omega, by omega⟩ (fun r A1 H1 locs1 hw hh => ?_)
  refine lv_aload_n hx hb dL_law_300 rfl (lv_at hl 2 rfl) ?_
  refine lw_cZ C hh (As := []) (rest := [.int r]) (mX12_tree l YZ _ B  _ hw) (cwV 0 hts (sy_goodVL uZ_in gL_43 uZ_178) rfl rfl rfl (by decide +kernel) ⟨Nat.le_of_ble_eq_true rfl, Nat.le_of_ble_eq_true rfl⟩) rfl hl.1 rfl (Nat.le_of_ble_eq_true rfl) dL_law_301 ⟨by omega, by omega⟩ (fun r2 B1 H2 locs2 hw hh => ?_)
  refine lv_icmp_eq (tgt := 851) hx hb dL_law_304 (by decide) (fun _ => ?_) (fun z => absurd hw.1 z)
  refine W.widen (k := cells + 1) (n := slots + 6) (by omega) (by omega) ?_
  exact kk A1 B1 f _ _ ls hw.2 hh hl

set_option maxHeartbeats 4000000 in
set_option maxRecDepth 100000 in
theorem lc_5 (C : lwC p l s m c b L xs YX YZ oa oc) (hh : lwH s YX YZ oa oc H locs A B f) (hR : Rel j A B) (hj : 6 * j + 6 ≤ L) (hL : L ≤ 3072) (hl : lv_has ls 7 [(0, .ref b), (1, .ref (YX.2.1 0)), (2, .ref (YZ.2.1 0)), (3, .ref oa), (4, .int (nI (6 * j)))]) (hc : cells + 1 ≤ 601024 ∧ slots + 6 ≤ 7293034) (kk : ∀ (A1 B1 : sy_M) (f1 : Nat → Int64) (H1 : Heap) (locs1 : List Loc) (ls1 : Array Slot), Rel (j + 1) A1 B1 → lwH s YX YZ oa oc H1 locs1 A1 B1 f1 → lv_has ls1 7 [(0, .ref b), (1, .ref (YX.2.1 0)), (2, .ref (YZ.2.1 0)), (3, .ref oa), (4, .int (nI (6 * j)))] → W p l e room_1 s m #[Value.ref b] below meth c H1 locs1 (cells + 1) (slots + 6) Qf (F0 m 851 ls1 [])) : W p l e room_1 s m #[Value.ref b] below meth c H locs cells slots Qf (F0 m 309 ls []) := by
  have hx := C.1.1
  have hb := C.1.2.1
  have hts := C.1.2.2.2.2
  have hX := C.2.2.2.2.2.2.2.2.2.2.2.2.2.1
  have hbl := C.2.2.2.2.2.2.2.2.2.2.2.2.2.2
  have hbA : ¬ (fun q : Nat => s.heap.size ≤ q) b := Nat.not_le.mpr hbl
  refine lv_aload_n hx hb dL_law_309 rfl (lv_at hl 1 rfl) ?_
  refine lw_cX C hh (As := []) (rest := []) (mX11_place l YX _ A  (fun r A' => wX12_place B  (fun r' B' => r = r' ∧ Rel (j + 1) A' B')) (op_place hR  (fun _ _ h => h.up))) (cwV 0 hts (sy_goodVL uX_in gL_44 uX_526) rfl rfl rfl (by decide +kernel) ⟨Nat.le_of_ble_eq_true rfl, Nat.le_of_ble_eq_true rfl⟩) rfl hl.1 rfl (Nat.le_of_ble_eq_true rfl) dL_law_310 ⟨by omega, by omega⟩ (fun r A1 H1 locs1 hw hh => ?_)
  refine lv_aload_n hx hb dL_law_313 rfl (lv_at hl 2 rfl) ?_
  refine lw_cZ C hh (As := []) (rest := [.int r]) (mX12_place l YZ _ B  _ hw) (cwV 0 hts (sy_goodVL uZ_in gL_47 uZ_179) rfl rfl rfl (by decide +kernel) ⟨Nat.le_of_ble_eq_true rfl, Nat.le_of_ble_eq_true rfl⟩) rfl hl.1 rfl (Nat.le_of_ble_eq_true rfl) dL_law_314 ⟨by omega, by omega⟩ (fun r2 B1 H2 locs2 hw hh => ?_)
  refine lv_icmp_eq (tgt := 851) hx hb dL_law_317 (by decide) (fun _ => ?_) (fun z => absurd hw.1 z)
  refine W.widen (k := cells + 1) (n := slots + 6) (by omega) (by omega) ?_
  exact kk A1 B1 f _ _ ls hw.2 hh hl

set_option maxHeartbeats 4000000 in
set_option maxRecDepth 100000 in
theorem lc_6 (C : lwC p l s m c b L xs YX YZ oa oc) (hh : lwH s YX YZ oa oc H locs A B f) (hR : Rel j A B) (hj : 6 * j + 6 ≤ L) (hL : L ≤ 3072) (hl : lv_has ls 7 [(0, .ref b), (1, .ref (YX.2.1 0)), (2, .ref (YZ.2.1 0)), (3, .ref oa), (4, .int (nI (6 * j)))]) (hc : cells + 1 ≤ 601024 ∧ slots + 6 ≤ 7293034) (kk : ∀ (A1 B1 : sy_M) (f1 : Nat → Int64) (H1 : Heap) (locs1 : List Loc) (ls1 : Array Slot), Rel (j + 1) A1 B1 → lwH s YX YZ oa oc H1 locs1 A1 B1 f1 → lv_has ls1 7 [(0, .ref b), (1, .ref (YX.2.1 0)), (2, .ref (YZ.2.1 0)), (3, .ref oa), (4, .int (nI (6 * j)))] → W p l e room_1 s m #[Value.ref b] below meth c H1 locs1 (cells + 1) (slots + 6) Qf (F0 m 851 ls1 [])) : W p l e room_1 s m #[Value.ref b] below meth c H locs cells slots Qf (F0 m 322 ls []) := by
  have hx := C.1.1
  have hb := C.1.2.1
  have hts := C.1.2.2.2.2
  have hX := C.2.2.2.2.2.2.2.2.2.2.2.2.2.1
  have hbl := C.2.2.2.2.2.2.2.2.2.2.2.2.2.2
  have hbA : ¬ (fun q : Nat => s.heap.size ≤ q) b := Nat.not_le.mpr hbl
  refine lv_aload_n hx hb dL_law_322 rfl (lv_at hl 1 rfl) ?_
  refine lv_aload_n hx hb dL_law_323 rfl (lv_at hl 0 rfl) ?_
  refine lv_iload hx hb dL_law_324 (lv_at hl 4 rfl) ?_
  refine lv_iconst (v := nI 1) hx hb dL_law_326 (by decide) ?_
  refine lv_iadd hx hb dL_law_327 ?_
  refine va_sld hx hb hX hbl hbA hh.2.2.2 (lw_in hj (by decide) hL) dL_law_328 ?_
  refine lv_aload_n hx hb dL_law_329 rfl (lv_at hl 0 rfl) ?_
  refine lv_iload hx hb dL_law_330 (lv_at hl 4 rfl) ?_
  refine lv_iconst (v := nI 2) hx hb dL_law_332 (by decide) ?_
  refine lv_iadd hx hb dL_law_333 ?_
  refine va_sld hx hb hX hbl hbA hh.2.2.2 (lw_in hj (by decide) hL) dL_law_334 ?_
  refine lv_aload_n hx hb dL_law_335 rfl (lv_at hl 0 rfl) ?_
  refine lv_iload hx hb dL_law_336 (lv_at hl 4 rfl) ?_
  refine lv_iconst (v := nI 3) hx hb dL_law_338 (by decide) ?_
  refine lv_iadd hx hb dL_law_339 ?_
  refine va_sld hx hb hX hbl hbA hh.2.2.2 (lw_in hj (by decide) hL) dL_law_340 ?_
  refine lw_cX C hh (As := [.int (xs (nI (6 * j) + nI 1).toNatClampNeg), .int (xs (nI (6 * j) + nI 2).toNatClampNeg), .int (xs (nI (6 * j) + nI 3).toNatClampNeg)]) (rest := []) (mX11_size l YX _ A (xs (nI (6 * j) + nI 1).toNatClampNeg) (xs (nI (6 * j) + nI 2).toNatClampNeg) (xs (nI (6 * j) + nI 3).toNatClampNeg) (fun r A' => wX12_size B (xs (nI (6 * j) + nI 1).toNatClampNeg) (xs (nI (6 * j) + nI 2).toNatClampNeg) (xs (nI (6 * j) + nI 3).toNatClampNeg) (fun r' B' => r = r' ∧ Rel (j + 1) A' B')) (op_size hR (xs (nI (6 * j) + nI 1).toNatClampNeg) (xs (nI (6 * j) + nI 2).toNatClampNeg) (xs (nI (6 * j) + nI 3).toNatClampNeg) (fun _ _ h => h.up))) (cwV 3 hts (sy_goodVL uX_in gL_48 uX_536) rfl rfl rfl (by decide +kernel) ⟨Nat.le_of_ble_eq_true rfl, Nat.le_of_ble_eq_true rfl⟩) rfl hl.1 rfl (Nat.le_of_ble_eq_true rfl) dL_law_341 ⟨by omega, by omega⟩ (fun r A1 H1 locs1 hw hh => ?_)
  refine lv_aload_n hx hb dL_law_344 rfl (lv_at hl 2 rfl) ?_
  refine lv_aload_n hx hb dL_law_345 rfl (lv_at hl 0 rfl) ?_
  refine lv_iload hx hb dL_law_346 (lv_at hl 4 rfl) ?_
  refine lv_iconst (v := nI 1) hx hb dL_law_348 (by decide) ?_
  refine lv_iadd hx hb dL_law_349 ?_
  refine va_sld hx hb hX hbl hbA hh.2.2.2 (lw_in hj (by decide) hL) dL_law_350 ?_
  refine lv_aload_n hx hb dL_law_351 rfl (lv_at hl 0 rfl) ?_
  refine lv_iload hx hb dL_law_352 (lv_at hl 4 rfl) ?_
  refine lv_iconst (v := nI 2) hx hb dL_law_354 (by decide) ?_
  refine lv_iadd hx hb dL_law_355 ?_
  refine va_sld hx hb hX hbl hbA hh.2.2.2 (lw_in hj (by decide) hL) dL_law_356 ?_
  refine lv_aload_n hx hb dL_law_357 rfl (lv_at hl 0 rfl) ?_
  refine lv_iload hx hb dL_law_358 (lv_at hl 4 rfl) ?_
  refine lv_iconst (v := nI 3) hx hb dL_law_360 (by decide) ?_
  refine lv_iadd hx hb dL_law_361 ?_
  refine va_sld hx hb hX hbl hbA hh.2.2.2 (lw_in hj (by decide) hL) dL_law_362 ?_
  refine lw_cZ C hh (As := [.int (xs (nI (6 * j) + nI 1).toNatClampNeg), .int (xs (nI (6 * j) + nI 2).toNatClampNeg), .int (xs (nI (6 * j) + nI 3).toNatClampNeg)]) (rest := [.int r]) (mX12_size l YZ _ B (xs (nI (6 * j) + nI 1).toNatClampNeg) (xs (nI (6 * j) + nI 2).toNatClampNeg) (xs (nI (6 * j) + nI 3).toNatClampNeg) _ hw) (cwV 3 hts (sy_goodVL uZ_in gL_51 uZ_181) rfl rfl rfl (by decide +kernel) ⟨Nat.le_of_ble_eq_true rfl, Nat.le_of_ble_eq_true rfl⟩) rfl hl.1 rfl (Nat.le_of_ble_eq_true rfl) dL_law_363 ⟨by omega, by omega⟩ (fun r2 B1 H2 locs2 hw hh => ?_)
  refine lv_icmp_eq (tgt := 851) hx hb dL_law_366 (by decide) (fun _ => ?_) (fun z => absurd hw.1 z)
  refine W.widen (k := cells + 1) (n := slots + 6) (by omega) (by omega) ?_
  exact kk A1 B1 f _ _ ls hw.2 hh hl

set_option maxHeartbeats 4000000 in
set_option maxRecDepth 100000 in
theorem lc_7 (C : lwC p l s m c b L xs YX YZ oa oc) (hh : lwH s YX YZ oa oc H locs A B f) (hR : Rel j A B) (hj : 6 * j + 6 ≤ L) (hL : L ≤ 3072) (hl : lv_has ls 7 [(0, .ref b), (1, .ref (YX.2.1 0)), (2, .ref (YZ.2.1 0)), (3, .ref oa), (4, .int (nI (6 * j)))]) (hc : cells + 1 ≤ 601024 ∧ slots + 6 ≤ 7293034) (kk : ∀ (A1 B1 : sy_M) (f1 : Nat → Int64) (H1 : Heap) (locs1 : List Loc) (ls1 : Array Slot), Rel (j + 1) A1 B1 → lwH s YX YZ oa oc H1 locs1 A1 B1 f1 → lv_has ls1 7 [(0, .ref b), (1, .ref (YX.2.1 0)), (2, .ref (YZ.2.1 0)), (3, .ref oa), (4, .int (nI (6 * j)))] → W p l e room_1 s m #[Value.ref b] below meth c H1 locs1 (cells + 1) (slots + 6) Qf (F0 m 851 ls1 [])) : W p l e room_1 s m #[Value.ref b] below meth c H locs cells slots Qf (F0 m 371 ls []) := by
  have hx := C.1.1
  have hb := C.1.2.1
  have hts := C.1.2.2.2.2
  have hX := C.2.2.2.2.2.2.2.2.2.2.2.2.2.1
  have hbl := C.2.2.2.2.2.2.2.2.2.2.2.2.2.2
  have hbA : ¬ (fun q : Nat => s.heap.size ≤ q) b := Nat.not_le.mpr hbl
  refine lv_aload_n hx hb dL_law_371 rfl (lv_at hl 1 rfl) ?_
  refine lv_aload_n hx hb dL_law_372 rfl (lv_at hl 0 rfl) ?_
  refine lv_iload hx hb dL_law_373 (lv_at hl 4 rfl) ?_
  refine lv_iconst (v := nI 1) hx hb dL_law_375 (by decide) ?_
  refine lv_iadd hx hb dL_law_376 ?_
  refine va_sld hx hb hX hbl hbA hh.2.2.2 (lw_in hj (by decide) hL) dL_law_377 ?_
  refine lv_aload_n hx hb dL_law_378 rfl (lv_at hl 0 rfl) ?_
  refine lv_iload hx hb dL_law_379 (lv_at hl 4 rfl) ?_
  refine lv_iconst (v := nI 2) hx hb dL_law_381 (by decide) ?_
  refine lv_iadd hx hb dL_law_382 ?_
  refine va_sld hx hb hX hbl hbA hh.2.2.2 (lw_in hj (by decide) hL) dL_law_383 ?_
  refine lv_aload_n hx hb dL_law_384 rfl (lv_at hl 0 rfl) ?_
  refine lv_iload hx hb dL_law_385 (lv_at hl 4 rfl) ?_
  refine lv_iconst (v := nI 3) hx hb dL_law_387 (by decide) ?_
  refine lv_iadd hx hb dL_law_388 ?_
  refine va_sld hx hb hX hbl hbA hh.2.2.2 (lw_in hj (by decide) hL) dL_law_389 ?_
  refine lv_if_eq (tgt := 397) hx hb dL_law_390 (by decide) (fun t1 => ?_) (fun t1 => ?_)
  · refine lv_iconst (v := nI 0) hx hb dL_law_397 (by decide) ?_
    refine lw_cX C hh (As := [.int (xs (nI (6 * j) + nI 1).toNatClampNeg), .int (xs (nI (6 * j) + nI 2).toNatClampNeg), .int (nI 0)]) (rest := []) (mX11_rest l YX _ A (xs (nI (6 * j) + nI 1).toNatClampNeg) (xs (nI (6 * j) + nI 2).toNatClampNeg) (nI 0) (fun r A' => wX12_rest B (xs (nI (6 * j) + nI 1).toNatClampNeg) (xs (nI (6 * j) + nI 2).toNatClampNeg) (nI 0) (fun r' B' => r = r' ∧ Rel (j + 1) A' B')) (op_rest hR (xs (nI (6 * j) + nI 1).toNatClampNeg) (xs (nI (6 * j) + nI 2).toNatClampNeg) (nI 0) (Or.inl rfl) (fun _ _ h => h.up))) (cwV 3 hts (sy_goodVL uX_in gL_52 uX_537) rfl rfl rfl (by decide +kernel) ⟨Nat.le_of_ble_eq_true rfl, Nat.le_of_ble_eq_true rfl⟩) rfl hl.1 rfl (Nat.le_of_ble_eq_true rfl) dL_law_398 ⟨by omega, by omega⟩ (fun r A1 H1 locs1 hw hh => ?_)
    refine lv_aload_n hx hb dL_law_401 rfl (lv_at hl 2 rfl) ?_
    refine lv_aload_n hx hb dL_law_402 rfl (lv_at hl 0 rfl) ?_
    refine lv_iload hx hb dL_law_403 (lv_at hl 4 rfl) ?_
    refine lv_iconst (v := nI 1) hx hb dL_law_405 (by decide) ?_
    refine lv_iadd hx hb dL_law_406 ?_
    refine va_sld hx hb hX hbl hbA hh.2.2.2 (lw_in hj (by decide) hL) dL_law_407 ?_
    refine lv_aload_n hx hb dL_law_408 rfl (lv_at hl 0 rfl) ?_
    refine lv_iload hx hb dL_law_409 (lv_at hl 4 rfl) ?_
    refine lv_iconst (v := nI 2) hx hb dL_law_411 (by decide) ?_
    refine lv_iadd hx hb dL_law_412 ?_
    refine va_sld hx hb hX hbl hbA hh.2.2.2 (lw_in hj (by decide) hL) dL_law_413 ?_
    refine lv_aload_n hx hb dL_law_414 rfl (lv_at hl 0 rfl) ?_
    refine lv_iload hx hb dL_law_415 (lv_at hl 4 rfl) ?_
    refine lv_iconst (v := nI 3) hx hb dL_law_417 (by decide) ?_
    refine lv_iadd hx hb dL_law_418 ?_
    refine va_sld hx hb hX hbl hbA hh.2.2.2 (lw_in hj (by decide) hL) dL_law_419 ?_
    refine lv_if_eq (tgt := 427) hx hb dL_law_420 (by decide) (fun _ => ?_) (fun z => absurd t1 z)
    refine lv_iconst (v := nI 0) hx hb dL_law_427 (by decide) ?_
    refine lw_cZ C hh (As := [.int (xs (nI (6 * j) + nI 1).toNatClampNeg), .int (xs (nI (6 * j) + nI 2).toNatClampNeg), .int (nI 0)]) (rest := [.int r]) (mX12_rest l YZ _ B (xs (nI (6 * j) + nI 1).toNatClampNeg) (xs (nI (6 * j) + nI 2).toNatClampNeg) (nI 0) _ hw) (cwV 3 hts (sy_goodVL uZ_in gL_56 uZ_191) rfl rfl rfl (by decide +kernel) ⟨Nat.le_of_ble_eq_true rfl, Nat.le_of_ble_eq_true rfl⟩) rfl hl.1 rfl (Nat.le_of_ble_eq_true rfl) dL_law_428 ⟨by omega, by omega⟩ (fun r2 B1 H2 locs2 hw hh => ?_)
    refine lv_icmp_eq (tgt := 851) hx hb dL_law_431 (by decide) (fun _ => ?_) (fun z => absurd hw.1 z)
    refine W.widen (k := cells + 1) (n := slots + 6) (by omega) (by omega) ?_
    exact kk A1 B1 f _ _ ls hw.2 hh hl
  · refine lv_iconst (v := nI 1) hx hb dL_law_393 (by decide) ?_
    refine lv_goto (tgt := 398) hx hb dL_law_394 (by decide) ?_
    refine lw_cX C hh (As := [.int (xs (nI (6 * j) + nI 1).toNatClampNeg), .int (xs (nI (6 * j) + nI 2).toNatClampNeg), .int (nI 1)]) (rest := []) (mX11_rest l YX _ A (xs (nI (6 * j) + nI 1).toNatClampNeg) (xs (nI (6 * j) + nI 2).toNatClampNeg) (nI 1) (fun r A' => wX12_rest B (xs (nI (6 * j) + nI 1).toNatClampNeg) (xs (nI (6 * j) + nI 2).toNatClampNeg) (nI 1) (fun r' B' => r = r' ∧ Rel (j + 1) A' B')) (op_rest hR (xs (nI (6 * j) + nI 1).toNatClampNeg) (xs (nI (6 * j) + nI 2).toNatClampNeg) (nI 1) (Or.inr rfl) (fun _ _ h => h.up))) (cwV 3 hts (sy_goodVL uX_in gL_52 uX_537) rfl rfl rfl (by decide +kernel) ⟨Nat.le_of_ble_eq_true rfl, Nat.le_of_ble_eq_true rfl⟩) rfl hl.1 rfl (Nat.le_of_ble_eq_true rfl) dL_law_398 ⟨by omega, by omega⟩ (fun r A1 H1 locs1 hw hh => ?_)
    refine lv_aload_n hx hb dL_law_401 rfl (lv_at hl 2 rfl) ?_
    refine lv_aload_n hx hb dL_law_402 rfl (lv_at hl 0 rfl) ?_
    refine lv_iload hx hb dL_law_403 (lv_at hl 4 rfl) ?_
    refine lv_iconst (v := nI 1) hx hb dL_law_405 (by decide) ?_
    refine lv_iadd hx hb dL_law_406 ?_
    refine va_sld hx hb hX hbl hbA hh.2.2.2 (lw_in hj (by decide) hL) dL_law_407 ?_
    refine lv_aload_n hx hb dL_law_408 rfl (lv_at hl 0 rfl) ?_
    refine lv_iload hx hb dL_law_409 (lv_at hl 4 rfl) ?_
    refine lv_iconst (v := nI 2) hx hb dL_law_411 (by decide) ?_
    refine lv_iadd hx hb dL_law_412 ?_
    refine va_sld hx hb hX hbl hbA hh.2.2.2 (lw_in hj (by decide) hL) dL_law_413 ?_
    refine lv_aload_n hx hb dL_law_414 rfl (lv_at hl 0 rfl) ?_
    refine lv_iload hx hb dL_law_415 (lv_at hl 4 rfl) ?_
    refine lv_iconst (v := nI 3) hx hb dL_law_417 (by decide) ?_
    refine lv_iadd hx hb dL_law_418 ?_
    refine va_sld hx hb hX hbl hbA hh.2.2.2 (lw_in hj (by decide) hL) dL_law_419 ?_
    refine lv_if_eq (tgt := 427) hx hb dL_law_420 (by decide) (fun z => absurd z t1) (fun _ => ?_)
    refine lv_iconst (v := nI 1) hx hb dL_law_423 (by decide) ?_
    refine lv_goto (tgt := 428) hx hb dL_law_424 (by decide) ?_
    refine lw_cZ C hh (As := [.int (xs (nI (6 * j) + nI 1).toNatClampNeg), .int (xs (nI (6 * j) + nI 2).toNatClampNeg), .int (nI 1)]) (rest := [.int r]) (mX12_rest l YZ _ B (xs (nI (6 * j) + nI 1).toNatClampNeg) (xs (nI (6 * j) + nI 2).toNatClampNeg) (nI 1) _ hw) (cwV 3 hts (sy_goodVL uZ_in gL_56 uZ_191) rfl rfl rfl (by decide +kernel) ⟨Nat.le_of_ble_eq_true rfl, Nat.le_of_ble_eq_true rfl⟩) rfl hl.1 rfl (Nat.le_of_ble_eq_true rfl) dL_law_428 ⟨by omega, by omega⟩ (fun r2 B1 H2 locs2 hw hh => ?_)
    refine lv_icmp_eq (tgt := 851) hx hb dL_law_431 (by decide) (fun _ => ?_) (fun z => absurd hw.1 z)
    refine W.widen (k := cells + 1) (n := slots + 6) (by omega) (by omega) ?_
    exact kk A1 B1 f _ _ ls hw.2 hh hl

set_option maxHeartbeats 4000000 in
set_option maxRecDepth 100000 in
theorem lc_8 (C : lwC p l s m c b L xs YX YZ oa oc) (hh : lwH s YX YZ oa oc H locs A B f) (hR : Rel j A B) (hj : 6 * j + 6 ≤ L) (hL : L ≤ 3072) (hl : lv_has ls 7 [(0, .ref b), (1, .ref (YX.2.1 0)), (2, .ref (YZ.2.1 0)), (3, .ref oa), (4, .int (nI (6 * j)))]) (hc : cells + 1 ≤ 601024 ∧ slots + 6 ≤ 7293034) (kk : ∀ (A1 B1 : sy_M) (f1 : Nat → Int64) (H1 : Heap) (locs1 : List Loc) (ls1 : Array Slot), Rel (j + 1) A1 B1 → lwH s YX YZ oa oc H1 locs1 A1 B1 f1 → lv_has ls1 7 [(0, .ref b), (1, .ref (YX.2.1 0)), (2, .ref (YZ.2.1 0)), (3, .ref oa), (4, .int (nI (6 * j)))] → W p l e room_1 s m #[Value.ref b] below meth c H1 locs1 (cells + 1) (slots + 6) Qf (F0 m 851 ls1 [])) : W p l e room_1 s m #[Value.ref b] below meth c H locs cells slots Qf (F0 m 436 ls []) := by
  have hx := C.1.1
  have hb := C.1.2.1
  have hts := C.1.2.2.2.2
  have hX := C.2.2.2.2.2.2.2.2.2.2.2.2.2.1
  have hbl := C.2.2.2.2.2.2.2.2.2.2.2.2.2.2
  have hbA : ¬ (fun q : Nat => s.heap.size ≤ q) b := Nat.not_le.mpr hbl
  refine lv_aload_n hx hb dL_law_436 rfl (lv_at hl 1 rfl) ?_
  refine lv_aload_n hx hb dL_law_437 rfl (lv_at hl 0 rfl) ?_
  refine lv_iload hx hb dL_law_438 (lv_at hl 4 rfl) ?_
  refine lv_iconst (v := nI 1) hx hb dL_law_440 (by decide) ?_
  refine lv_iadd hx hb dL_law_441 ?_
  refine va_sld hx hb hX hbl hbA hh.2.2.2 (lw_in hj (by decide) hL) dL_law_442 ?_
  refine lw_cX C hh (As := [.int (xs (nI (6 * j) + nI 1).toNatClampNeg)]) (rest := []) (mX11_draw l YX _ A (xs (nI (6 * j) + nI 1).toNatClampNeg) (fun r A' => wX12_draw B (xs (nI (6 * j) + nI 1).toNatClampNeg) (fun r' B' => r = r' ∧ Rel (j + 1) A' B')) (op_draw (by omega) hR (xs (nI (6 * j) + nI 1).toNatClampNeg) (fun _ _ h => h))) (cwV 1 hts (sy_goodVL uX_in gL_57 uX_551) rfl rfl rfl (by decide +kernel) ⟨Nat.le_of_ble_eq_true rfl, Nat.le_of_ble_eq_true rfl⟩) rfl hl.1 rfl (Nat.le_of_ble_eq_true rfl) dL_law_443 ⟨by omega, by omega⟩ (fun r A1 H1 locs1 hw hh => ?_)
  refine lv_aload_n hx hb dL_law_446 rfl (lv_at hl 2 rfl) ?_
  refine lv_aload_n hx hb dL_law_447 rfl (lv_at hl 0 rfl) ?_
  refine lv_iload hx hb dL_law_448 (lv_at hl 4 rfl) ?_
  refine lv_iconst (v := nI 1) hx hb dL_law_450 (by decide) ?_
  refine lv_iadd hx hb dL_law_451 ?_
  refine va_sld hx hb hX hbl hbA hh.2.2.2 (lw_in hj (by decide) hL) dL_law_452 ?_
  refine lw_cZ C hh (As := [.int (xs (nI (6 * j) + nI 1).toNatClampNeg)]) (rest := [.int r]) (mX12_draw l YZ _ B (xs (nI (6 * j) + nI 1).toNatClampNeg) _ hw) (cwV 1 hts (sy_goodVL uZ_in gL_60 uZ_295) rfl rfl rfl (by decide +kernel) ⟨Nat.le_of_ble_eq_true rfl, Nat.le_of_ble_eq_true rfl⟩) rfl hl.1 rfl (Nat.le_of_ble_eq_true rfl) dL_law_453 ⟨by omega, by omega⟩ (fun r2 B1 H2 locs2 hw hh => ?_)
  refine lv_icmp_eq (tgt := 851) hx hb dL_law_456 (by decide) (fun _ => ?_) (fun z => absurd hw.1 z)
  refine W.widen (k := cells + 1) (n := slots + 6) (by omega) (by omega) ?_
  exact kk A1 B1 f _ _ ls hw.2 hh hl

set_option maxHeartbeats 4000000 in
set_option maxRecDepth 100000 in
theorem lc_9 (C : lwC p l s m c b L xs YX YZ oa oc) (hh : lwH s YX YZ oa oc H locs A B f) (hR : Rel j A B) (hj : 6 * j + 6 ≤ L) (hL : L ≤ 3072) (hl : lv_has ls 7 [(0, .ref b), (1, .ref (YX.2.1 0)), (2, .ref (YZ.2.1 0)), (3, .ref oa), (4, .int (nI (6 * j)))]) (hc : cells + 1 ≤ 601024 ∧ slots + 6 ≤ 7293034) (kk : ∀ (A1 B1 : sy_M) (f1 : Nat → Int64) (H1 : Heap) (locs1 : List Loc) (ls1 : Array Slot), Rel (j + 1) A1 B1 → lwH s YX YZ oa oc H1 locs1 A1 B1 f1 → lv_has ls1 7 [(0, .ref b), (1, .ref (YX.2.1 0)), (2, .ref (YZ.2.1 0)), (3, .ref oa), (4, .int (nI (6 * j)))] → W p l e room_1 s m #[Value.ref b] below meth c H1 locs1 (cells + 1) (slots + 6) Qf (F0 m 851 ls1 [])) : W p l e room_1 s m #[Value.ref b] below meth c H locs cells slots Qf (F0 m 461 ls []) := by
  have hx := C.1.1
  have hb := C.1.2.1
  have hts := C.1.2.2.2.2
  have hX := C.2.2.2.2.2.2.2.2.2.2.2.2.2.1
  have hbl := C.2.2.2.2.2.2.2.2.2.2.2.2.2.2
  have hbA : ¬ (fun q : Nat => s.heap.size ≤ q) b := Nat.not_le.mpr hbl
  refine lv_aload_n hx hb dL_law_461 rfl (lv_at hl 1 rfl) ?_
  refine lv_aload_n hx hb dL_law_462 rfl (lv_at hl 0 rfl) ?_
  refine lv_iload hx hb dL_law_463 (lv_at hl 4 rfl) ?_
  refine lv_iconst (v := nI 1) hx hb dL_law_465 (by decide) ?_
  refine lv_iadd hx hb dL_law_466 ?_
  refine va_sld hx hb hX hbl hbA hh.2.2.2 (lw_in hj (by decide) hL) dL_law_467 ?_
  refine lv_aload_n hx hb dL_law_468 rfl (lv_at hl 0 rfl) ?_
  refine lv_iload hx hb dL_law_469 (lv_at hl 4 rfl) ?_
  refine lv_iconst (v := nI 2) hx hb dL_law_471 (by decide) ?_
  refine lv_iadd hx hb dL_law_472 ?_
  refine va_sld hx hb hX hbl hbA hh.2.2.2 (lw_in hj (by decide) hL) dL_law_473 ?_
  refine lw_cX C hh (As := [.int (xs (nI (6 * j) + nI 1).toNatClampNeg), .int (xs (nI (6 * j) + nI 2).toNatClampNeg)]) (rest := []) (mX11_box l YX _ A (xs (nI (6 * j) + nI 1).toNatClampNeg) (xs (nI (6 * j) + nI 2).toNatClampNeg) (fun r A' => wX12_box B (xs (nI (6 * j) + nI 1).toNatClampNeg) (xs (nI (6 * j) + nI 2).toNatClampNeg) (fun r' B' => r = r' ∧ Rel (j + 1) A' B')) (op_box (by omega) hR (xs (nI (6 * j) + nI 1).toNatClampNeg) (xs (nI (6 * j) + nI 2).toNatClampNeg) (fun _ _ h => h.up))) (cwV 2 hts (sy_goodVL uX_in gL_61 uX_562) rfl rfl rfl (by decide +kernel) ⟨Nat.le_of_ble_eq_true rfl, Nat.le_of_ble_eq_true rfl⟩) rfl hl.1 rfl (Nat.le_of_ble_eq_true rfl) dL_law_474 ⟨by omega, by omega⟩ (fun r A1 H1 locs1 hw hh => ?_)
  refine lv_aload_n hx hb dL_law_477 rfl (lv_at hl 2 rfl) ?_
  refine lv_aload_n hx hb dL_law_478 rfl (lv_at hl 0 rfl) ?_
  refine lv_iload hx hb dL_law_479 (lv_at hl 4 rfl) ?_
  refine lv_iconst (v := nI 1) hx hb dL_law_481 (by decide) ?_
  refine lv_iadd hx hb dL_law_482 ?_
  refine va_sld hx hb hX hbl hbA hh.2.2.2 (lw_in hj (by decide) hL) dL_law_483 ?_
  refine lv_aload_n hx hb dL_law_484 rfl (lv_at hl 0 rfl) ?_
  refine lv_iload hx hb dL_law_485 (lv_at hl 4 rfl) ?_
  refine lv_iconst (v := nI 2) hx hb dL_law_487 (by decide) ?_
  refine lv_iadd hx hb dL_law_488 ?_
  refine va_sld hx hb hX hbl hbA hh.2.2.2 (lw_in hj (by decide) hL) dL_law_489 ?_
  refine lw_cZ C hh (As := [.int (xs (nI (6 * j) + nI 1).toNatClampNeg), .int (xs (nI (6 * j) + nI 2).toNatClampNeg)]) (rest := [.int r]) (mX12_box l YZ _ B (xs (nI (6 * j) + nI 1).toNatClampNeg) (xs (nI (6 * j) + nI 2).toNatClampNeg) _ hw) (cwV 2 hts (sy_goodVL uZ_in gL_65 uZ_300) rfl rfl rfl (by decide +kernel) ⟨Nat.le_of_ble_eq_true rfl, Nat.le_of_ble_eq_true rfl⟩) rfl hl.1 rfl (Nat.le_of_ble_eq_true rfl) dL_law_490 ⟨by omega, by omega⟩ (fun r2 B1 H2 locs2 hw hh => ?_)
  refine lv_icmp_eq (tgt := 851) hx hb dL_law_493 (by decide) (fun _ => ?_) (fun z => absurd hw.1 z)
  refine W.widen (k := cells + 1) (n := slots + 6) (by omega) (by omega) ?_
  exact kk A1 B1 f _ _ ls hw.2 hh hl

set_option maxHeartbeats 4000000 in
set_option maxRecDepth 100000 in
theorem lc_10 (C : lwC p l s m c b L xs YX YZ oa oc) (hh : lwH s YX YZ oa oc H locs A B f) (hR : Rel j A B) (hj : 6 * j + 6 ≤ L) (hL : L ≤ 3072) (hl : lv_has ls 7 [(0, .ref b), (1, .ref (YX.2.1 0)), (2, .ref (YZ.2.1 0)), (3, .ref oa), (4, .int (nI (6 * j)))]) (hc : cells + 1 ≤ 601024 ∧ slots + 6 ≤ 7293034) (kk : ∀ (A1 B1 : sy_M) (f1 : Nat → Int64) (H1 : Heap) (locs1 : List Loc) (ls1 : Array Slot), Rel (j + 1) A1 B1 → lwH s YX YZ oa oc H1 locs1 A1 B1 f1 → lv_has ls1 7 [(0, .ref b), (1, .ref (YX.2.1 0)), (2, .ref (YZ.2.1 0)), (3, .ref oa), (4, .int (nI (6 * j)))] → W p l e room_1 s m #[Value.ref b] below meth c H1 locs1 (cells + 1) (slots + 6) Qf (F0 m 851 ls1 [])) : W p l e room_1 s m #[Value.ref b] below meth c H locs cells slots Qf (F0 m 498 ls []) := by
  have hx := C.1.1
  have hb := C.1.2.1
  have hts := C.1.2.2.2.2
  have hX := C.2.2.2.2.2.2.2.2.2.2.2.2.2.1
  have hbl := C.2.2.2.2.2.2.2.2.2.2.2.2.2.2
  have hbA : ¬ (fun q : Nat => s.heap.size ≤ q) b := Nat.not_le.mpr hbl
  refine lv_aload_n hx hb dL_law_498 rfl (lv_at hl 1 rfl) ?_
  refine lv_aload_n hx hb dL_law_499 rfl (lv_at hl 0 rfl) ?_
  refine lv_iload hx hb dL_law_500 (lv_at hl 4 rfl) ?_
  refine lv_iconst (v := nI 1) hx hb dL_law_502 (by decide) ?_
  refine lv_iadd hx hb dL_law_503 ?_
  refine va_sld hx hb hX hbl hbA hh.2.2.2 (lw_in hj (by decide) hL) dL_law_504 ?_
  refine lv_aload_n hx hb dL_law_505 rfl (lv_at hl 0 rfl) ?_
  refine lv_iload hx hb dL_law_506 (lv_at hl 4 rfl) ?_
  refine lv_iconst (v := nI 2) hx hb dL_law_508 (by decide) ?_
  refine lv_iadd hx hb dL_law_509 ?_
  refine va_sld hx hb hX hbl hbA hh.2.2.2 (lw_in hj (by decide) hL) dL_law_510 ?_
  refine lw_cX C hh (As := [.int (xs (nI (6 * j) + nI 1).toNatClampNeg), .int (xs (nI (6 * j) + nI 2).toNatClampNeg)]) (rest := []) (mX11_restOf l YX _ A (xs (nI (6 * j) + nI 1).toNatClampNeg) (xs (nI (6 * j) + nI 2).toNatClampNeg) (fun r A' => wX12_restOf B (xs (nI (6 * j) + nI 1).toNatClampNeg) (xs (nI (6 * j) + nI 2).toNatClampNeg) (fun r' B' => r = r' ∧ Rel (j + 1) A' B')) (op_restOf (by omega) hR (xs (nI (6 * j) + nI 1).toNatClampNeg) (xs (nI (6 * j) + nI 2).toNatClampNeg) (fun _ _ h => h.up))) (cwV 2 hts (sy_goodVL uX_in gL_66 uX_565) rfl rfl rfl (by decide +kernel) ⟨Nat.le_of_ble_eq_true rfl, Nat.le_of_ble_eq_true rfl⟩) rfl hl.1 rfl (Nat.le_of_ble_eq_true rfl) dL_law_511 ⟨by omega, by omega⟩ (fun r A1 H1 locs1 hw hh => ?_)
  refine lv_aload_n hx hb dL_law_514 rfl (lv_at hl 2 rfl) ?_
  refine lv_aload_n hx hb dL_law_515 rfl (lv_at hl 0 rfl) ?_
  refine lv_iload hx hb dL_law_516 (lv_at hl 4 rfl) ?_
  refine lv_iconst (v := nI 1) hx hb dL_law_518 (by decide) ?_
  refine lv_iadd hx hb dL_law_519 ?_
  refine va_sld hx hb hX hbl hbA hh.2.2.2 (lw_in hj (by decide) hL) dL_law_520 ?_
  refine lv_aload_n hx hb dL_law_521 rfl (lv_at hl 0 rfl) ?_
  refine lv_iload hx hb dL_law_522 (lv_at hl 4 rfl) ?_
  refine lv_iconst (v := nI 2) hx hb dL_law_524 (by decide) ?_
  refine lv_iadd hx hb dL_law_525 ?_
  refine va_sld hx hb hX hbl hbA hh.2.2.2 (lw_in hj (by decide) hL) dL_law_526 ?_
  refine lw_cZ C hh (As := [.int (xs (nI (6 * j) + nI 1).toNatClampNeg), .int (xs (nI (6 * j) + nI 2).toNatClampNeg)]) (rest := [.int r]) (mX12_restOf l YZ _ B (xs (nI (6 * j) + nI 1).toNatClampNeg) (xs (nI (6 * j) + nI 2).toNatClampNeg) _ hw) (cwV 2 hts (sy_goodVL uZ_in gL_69 uZ_301) rfl rfl rfl (by decide +kernel) ⟨Nat.le_of_ble_eq_true rfl, Nat.le_of_ble_eq_true rfl⟩) rfl hl.1 rfl (Nat.le_of_ble_eq_true rfl) dL_law_527 ⟨by omega, by omega⟩ (fun r2 B1 H2 locs2 hw hh => ?_)
  refine lv_icmp_eq (tgt := 851) hx hb dL_law_530 (by decide) (fun _ => ?_) (fun z => absurd hw.1 z)
  refine W.widen (k := cells + 1) (n := slots + 6) (by omega) (by omega) ?_
  exact kk A1 B1 f _ _ ls hw.2 hh hl

set_option maxHeartbeats 4000000 in
set_option maxRecDepth 100000 in
theorem lc_11 (C : lwC p l s m c b L xs YX YZ oa oc) (hh : lwH s YX YZ oa oc H locs A B f) (hR : Rel j A B) (hj : 6 * j + 6 ≤ L) (hL : L ≤ 3072) (hl : lv_has ls 7 [(0, .ref b), (1, .ref (YX.2.1 0)), (2, .ref (YZ.2.1 0)), (3, .ref oa), (4, .int (nI (6 * j)))]) (hc : cells + 1 ≤ 601024 ∧ slots + 6 ≤ 7293034) (kk : ∀ (A1 B1 : sy_M) (f1 : Nat → Int64) (H1 : Heap) (locs1 : List Loc) (ls1 : Array Slot), Rel (j + 1) A1 B1 → lwH s YX YZ oa oc H1 locs1 A1 B1 f1 → lv_has ls1 7 [(0, .ref b), (1, .ref (YX.2.1 0)), (2, .ref (YZ.2.1 0)), (3, .ref oa), (4, .int (nI (6 * j)))] → W p l e room_1 s m #[Value.ref b] below meth c H1 locs1 (cells + 1) (slots + 6) Qf (F0 m 851 ls1 [])) : W p l e room_1 s m #[Value.ref b] below meth c H locs cells slots Qf (F0 m 535 ls []) := by
  have hx := C.1.1
  have hb := C.1.2.1
  have hts := C.1.2.2.2.2
  have hX := C.2.2.2.2.2.2.2.2.2.2.2.2.2.1
  have hbl := C.2.2.2.2.2.2.2.2.2.2.2.2.2.2
  have hbA : ¬ (fun q : Nat => s.heap.size ≤ q) b := Nat.not_le.mpr hbl
  refine lv_aload_n hx hb dL_law_535 rfl (lv_at hl 1 rfl) ?_
  refine lv_aload_n hx hb dL_law_536 rfl (lv_at hl 0 rfl) ?_
  refine lv_iload hx hb dL_law_537 (lv_at hl 4 rfl) ?_
  refine lv_iconst (v := nI 1) hx hb dL_law_539 (by decide) ?_
  refine lv_iadd hx hb dL_law_540 ?_
  refine va_sld hx hb hX hbl hbA hh.2.2.2 (lw_in hj (by decide) hL) dL_law_541 ?_
  refine lv_aload_n hx hb dL_law_542 rfl (lv_at hl 0 rfl) ?_
  refine lv_iload hx hb dL_law_543 (lv_at hl 4 rfl) ?_
  refine lv_iconst (v := nI 2) hx hb dL_law_545 (by decide) ?_
  refine lv_iadd hx hb dL_law_546 ?_
  refine va_sld hx hb hX hbl hbA hh.2.2.2 (lw_in hj (by decide) hL) dL_law_547 ?_
  refine lw_cX C hh (As := [.int (xs (nI (6 * j) + nI 1).toNatClampNeg), .int (xs (nI (6 * j) + nI 2).toNatClampNeg)]) (rest := []) (mX11_under l YX _ A (xs (nI (6 * j) + nI 1).toNatClampNeg) (xs (nI (6 * j) + nI 2).toNatClampNeg) (fun r A' => wX12_under B (xs (nI (6 * j) + nI 1).toNatClampNeg) (xs (nI (6 * j) + nI 2).toNatClampNeg) (fun r' B' => r = r' ∧ Rel (j + 1) A' B')) (op_under (by omega) hR (xs (nI (6 * j) + nI 1).toNatClampNeg) (xs (nI (6 * j) + nI 2).toNatClampNeg) (fun _ _ h => h.up))) (cwV 2 hts (sy_goodVL uX_in gL_70 uX_572) rfl rfl rfl (by decide +kernel) ⟨Nat.le_of_ble_eq_true rfl, Nat.le_of_ble_eq_true rfl⟩) rfl hl.1 rfl (Nat.le_of_ble_eq_true rfl) dL_law_548 ⟨by omega, by omega⟩ (fun r A1 H1 locs1 hw hh => ?_)
  refine lv_aload_n hx hb dL_law_551 rfl (lv_at hl 2 rfl) ?_
  refine lv_aload_n hx hb dL_law_552 rfl (lv_at hl 0 rfl) ?_
  refine lv_iload hx hb dL_law_553 (lv_at hl 4 rfl) ?_
  refine lv_iconst (v := nI 1) hx hb dL_law_555 (by decide) ?_
  refine lv_iadd hx hb dL_law_556 ?_
  refine va_sld hx hb hX hbl hbA hh.2.2.2 (lw_in hj (by decide) hL) dL_law_557 ?_
  refine lv_aload_n hx hb dL_law_558 rfl (lv_at hl 0 rfl) ?_
  refine lv_iload hx hb dL_law_559 (lv_at hl 4 rfl) ?_
  refine lv_iconst (v := nI 2) hx hb dL_law_561 (by decide) ?_
  refine lv_iadd hx hb dL_law_562 ?_
  refine va_sld hx hb hX hbl hbA hh.2.2.2 (lw_in hj (by decide) hL) dL_law_563 ?_
  refine lw_cZ C hh (As := [.int (xs (nI (6 * j) + nI 1).toNatClampNeg), .int (xs (nI (6 * j) + nI 2).toNatClampNeg)]) (rest := [.int r]) (mX12_under l YZ _ B (xs (nI (6 * j) + nI 1).toNatClampNeg) (xs (nI (6 * j) + nI 2).toNatClampNeg) _ hw) (cwV 2 hts (sy_goodVL uZ_in gL_73 uZ_303) rfl rfl rfl (by decide +kernel) ⟨Nat.le_of_ble_eq_true rfl, Nat.le_of_ble_eq_true rfl⟩) rfl hl.1 rfl (Nat.le_of_ble_eq_true rfl) dL_law_564 ⟨by omega, by omega⟩ (fun r2 B1 H2 locs2 hw hh => ?_)
  refine lv_icmp_eq (tgt := 851) hx hb dL_law_567 (by decide) (fun _ => ?_) (fun z => absurd hw.1 z)
  refine W.widen (k := cells + 1) (n := slots + 6) (by omega) (by omega) ?_
  exact kk A1 B1 f _ _ ls hw.2 hh hl

set_option maxHeartbeats 4000000 in
set_option maxRecDepth 100000 in
theorem lc_12 (C : lwC p l s m c b L xs YX YZ oa oc) (hh : lwH s YX YZ oa oc H locs A B f) (hR : Rel j A B) (hj : 6 * j + 6 ≤ L) (hL : L ≤ 3072) (hl : lv_has ls 7 [(0, .ref b), (1, .ref (YX.2.1 0)), (2, .ref (YZ.2.1 0)), (3, .ref oa), (4, .int (nI (6 * j)))]) (hc : cells + 1 ≤ 601024 ∧ slots + 6 ≤ 7293034) (kk : ∀ (A1 B1 : sy_M) (f1 : Nat → Int64) (H1 : Heap) (locs1 : List Loc) (ls1 : Array Slot), Rel (j + 1) A1 B1 → lwH s YX YZ oa oc H1 locs1 A1 B1 f1 → lv_has ls1 7 [(0, .ref b), (1, .ref (YX.2.1 0)), (2, .ref (YZ.2.1 0)), (3, .ref oa), (4, .int (nI (6 * j)))] → W p l e room_1 s m #[Value.ref b] below meth c H1 locs1 (cells + 1) (slots + 6) Qf (F0 m 851 ls1 [])) : W p l e room_1 s m #[Value.ref b] below meth c H locs cells slots Qf (F0 m 572 ls []) := by
  have hx := C.1.1
  have hb := C.1.2.1
  have hts := C.1.2.2.2.2
  have hX := C.2.2.2.2.2.2.2.2.2.2.2.2.2.1
  have hbl := C.2.2.2.2.2.2.2.2.2.2.2.2.2.2
  have hbA : ¬ (fun q : Nat => s.heap.size ≤ q) b := Nat.not_le.mpr hbl
  refine lv_aload_n hx hb dL_law_572 rfl (lv_at hl 1 rfl) ?_
  refine lv_aload_n hx hb dL_law_573 rfl (lv_at hl 0 rfl) ?_
  refine lv_iload hx hb dL_law_574 (lv_at hl 4 rfl) ?_
  refine lv_iconst (v := nI 1) hx hb dL_law_576 (by decide) ?_
  refine lv_iadd hx hb dL_law_577 ?_
  refine va_sld hx hb hX hbl hbA hh.2.2.2 (lw_in hj (by decide) hL) dL_law_578 ?_
  refine lw_cX C hh (As := [.int (xs (nI (6 * j) + nI 1).toNatClampNeg)]) (rest := []) (mX11_letters l YX _ A (xs (nI (6 * j) + nI 1).toNatClampNeg) (fun r A' => wX12_letters B (xs (nI (6 * j) + nI 1).toNatClampNeg) (fun r' B' => r = r' ∧ Rel (j + 1) A' B')) (op_letters (by omega) hR (xs (nI (6 * j) + nI 1).toNatClampNeg) (fun _ _ h => h.up))) (cwV 1 hts (sy_goodVL uX_in gL_74 uX_577) rfl rfl rfl (by decide +kernel) ⟨Nat.le_of_ble_eq_true rfl, Nat.le_of_ble_eq_true rfl⟩) rfl hl.1 rfl (Nat.le_of_ble_eq_true rfl) dL_law_579 ⟨by omega, by omega⟩ (fun r A1 H1 locs1 hw hh => ?_)
  refine lv_aload_n hx hb dL_law_582 rfl (lv_at hl 2 rfl) ?_
  refine lv_aload_n hx hb dL_law_583 rfl (lv_at hl 0 rfl) ?_
  refine lv_iload hx hb dL_law_584 (lv_at hl 4 rfl) ?_
  refine lv_iconst (v := nI 1) hx hb dL_law_586 (by decide) ?_
  refine lv_iadd hx hb dL_law_587 ?_
  refine va_sld hx hb hX hbl hbA hh.2.2.2 (lw_in hj (by decide) hL) dL_law_588 ?_
  refine lw_cZ C hh (As := [.int (xs (nI (6 * j) + nI 1).toNatClampNeg)]) (rest := [.int r]) (mX12_letters l YZ _ B (xs (nI (6 * j) + nI 1).toNatClampNeg) _ hw) (cwV 1 hts (sy_goodVL uZ_in gL_77 uZ_306) rfl rfl rfl (by decide +kernel) ⟨Nat.le_of_ble_eq_true rfl, Nat.le_of_ble_eq_true rfl⟩) rfl hl.1 rfl (Nat.le_of_ble_eq_true rfl) dL_law_589 ⟨by omega, by omega⟩ (fun r2 B1 H2 locs2 hw hh => ?_)
  refine lv_icmp_eq (tgt := 851) hx hb dL_law_592 (by decide) (fun _ => ?_) (fun z => absurd hw.1 z)
  refine W.widen (k := cells + 1) (n := slots + 6) (by omega) (by omega) ?_
  exact kk A1 B1 f _ _ ls hw.2 hh hl

set_option maxHeartbeats 4000000 in
set_option maxRecDepth 100000 in
theorem lc_13 (C : lwC p l s m c b L xs YX YZ oa oc) (hh : lwH s YX YZ oa oc H locs A B f) (hR : Rel j A B) (hj : 6 * j + 6 ≤ L) (hL : L ≤ 3072) (hl : lv_has ls 7 [(0, .ref b), (1, .ref (YX.2.1 0)), (2, .ref (YZ.2.1 0)), (3, .ref oa), (4, .int (nI (6 * j)))]) (hc : cells + 1 ≤ 601024 ∧ slots + 6 ≤ 7293034) (kk : ∀ (A1 B1 : sy_M) (f1 : Nat → Int64) (H1 : Heap) (locs1 : List Loc) (ls1 : Array Slot), Rel (j + 1) A1 B1 → lwH s YX YZ oa oc H1 locs1 A1 B1 f1 → lv_has ls1 7 [(0, .ref b), (1, .ref (YX.2.1 0)), (2, .ref (YZ.2.1 0)), (3, .ref oa), (4, .int (nI (6 * j)))] → W p l e room_1 s m #[Value.ref b] below meth c H1 locs1 (cells + 1) (slots + 6) Qf (F0 m 851 ls1 [])) : W p l e room_1 s m #[Value.ref b] below meth c H locs cells slots Qf (F0 m 597 ls []) := by
  have hx := C.1.1
  have hb := C.1.2.1
  have hts := C.1.2.2.2.2
  have hX := C.2.2.2.2.2.2.2.2.2.2.2.2.2.1
  have hbl := C.2.2.2.2.2.2.2.2.2.2.2.2.2.2
  have hbA : ¬ (fun q : Nat => s.heap.size ≤ q) b := Nat.not_le.mpr hbl
  refine lv_aload_n hx hb dL_law_597 rfl (lv_at hl 1 rfl) ?_
  refine lv_aload_n hx hb dL_law_598 rfl (lv_at hl 0 rfl) ?_
  refine lv_iload hx hb dL_law_599 (lv_at hl 4 rfl) ?_
  refine lv_iconst (v := nI 1) hx hb dL_law_601 (by decide) ?_
  refine lv_iadd hx hb dL_law_602 ?_
  refine va_sld hx hb hX hbl hbA hh.2.2.2 (lw_in hj (by decide) hL) dL_law_603 ?_
  refine lw_cX C hh (As := [.int (xs (nI (6 * j) + nI 1).toNatClampNeg)]) (rest := []) (mX11_moved l YX _ A (xs (nI (6 * j) + nI 1).toNatClampNeg) (fun r A' => wX12_moved B (xs (nI (6 * j) + nI 1).toNatClampNeg) (fun r' B' => r = r' ∧ Rel (j + 1) A' B')) (op_moved (by omega) hR (xs (nI (6 * j) + nI 1).toNatClampNeg) (fun _ _ h => h.up))) (cwV 1 hts (sy_goodVL uX_in gL_78 uX_580) rfl rfl rfl (by decide +kernel) ⟨Nat.le_of_ble_eq_true rfl, Nat.le_of_ble_eq_true rfl⟩) rfl hl.1 rfl (Nat.le_of_ble_eq_true rfl) dL_law_604 ⟨by omega, by omega⟩ (fun r A1 H1 locs1 hw hh => ?_)
  refine lv_aload_n hx hb dL_law_607 rfl (lv_at hl 2 rfl) ?_
  refine lv_aload_n hx hb dL_law_608 rfl (lv_at hl 0 rfl) ?_
  refine lv_iload hx hb dL_law_609 (lv_at hl 4 rfl) ?_
  refine lv_iconst (v := nI 1) hx hb dL_law_611 (by decide) ?_
  refine lv_iadd hx hb dL_law_612 ?_
  refine va_sld hx hb hX hbl hbA hh.2.2.2 (lw_in hj (by decide) hL) dL_law_613 ?_
  refine lw_cZ C hh (As := [.int (xs (nI (6 * j) + nI 1).toNatClampNeg)]) (rest := [.int r]) (mX12_moved l YZ _ B (xs (nI (6 * j) + nI 1).toNatClampNeg) _ hw) (cwV 1 hts (sy_goodVL uZ_in gL_81 uZ_307) rfl rfl rfl (by decide +kernel) ⟨Nat.le_of_ble_eq_true rfl, Nat.le_of_ble_eq_true rfl⟩) rfl hl.1 rfl (Nat.le_of_ble_eq_true rfl) dL_law_614 ⟨by omega, by omega⟩ (fun r2 B1 H2 locs2 hw hh => ?_)
  refine lv_icmp_eq (tgt := 851) hx hb dL_law_617 (by decide) (fun _ => ?_) (fun z => absurd hw.1 z)
  refine W.widen (k := cells + 1) (n := slots + 6) (by omega) (by omega) ?_
  exact kk A1 B1 f _ _ ls hw.2 hh hl

set_option maxHeartbeats 4000000 in
set_option maxRecDepth 100000 in
theorem lc_15 (C : lwC p l s m c b L xs YX YZ oa oc) (hh : lwH s YX YZ oa oc H locs A B f) (hR : Rel j A B) (hj : 6 * j + 6 ≤ L) (hL : L ≤ 3072) (hl : lv_has ls 7 [(0, .ref b), (1, .ref (YX.2.1 0)), (2, .ref (YZ.2.1 0)), (3, .ref oa), (4, .int (nI (6 * j)))]) (hc : cells + 1 ≤ 601024 ∧ slots + 6 ≤ 7293034) (kk : ∀ (A1 B1 : sy_M) (f1 : Nat → Int64) (H1 : Heap) (locs1 : List Loc) (ls1 : Array Slot), Rel (j + 1) A1 B1 → lwH s YX YZ oa oc H1 locs1 A1 B1 f1 → lv_has ls1 7 [(0, .ref b), (1, .ref (YX.2.1 0)), (2, .ref (YZ.2.1 0)), (3, .ref oa), (4, .int (nI (6 * j)))] → W p l e room_1 s m #[Value.ref b] below meth c H1 locs1 (cells + 1) (slots + 6) Qf (F0 m 851 ls1 [])) : W p l e room_1 s m #[Value.ref b] below meth c H locs cells slots Qf (F0 m 702 ls []) := by
  have hx := C.1.1
  have hb := C.1.2.1
  have hts := C.1.2.2.2.2
  have hX := C.2.2.2.2.2.2.2.2.2.2.2.2.2.1
  have hbl := C.2.2.2.2.2.2.2.2.2.2.2.2.2.2
  have hbA : ¬ (fun q : Nat => s.heap.size ≤ q) b := Nat.not_le.mpr hbl
  refine lv_aload_n hx hb dL_law_702 rfl (lv_at hl 1 rfl) ?_
  refine lv_aload_n hx hb dL_law_703 rfl (lv_at hl 0 rfl) ?_
  refine lv_iload hx hb dL_law_704 (lv_at hl 4 rfl) ?_
  refine lv_iconst (v := nI 1) hx hb dL_law_706 (by decide) ?_
  refine lv_iadd hx hb dL_law_707 ?_
  refine va_sld hx hb hX hbl hbA hh.2.2.2 (lw_in hj (by decide) hL) dL_law_708 ?_
  refine lv_aload_n hx hb dL_law_709 rfl (lv_at hl 0 rfl) ?_
  refine lv_iload hx hb dL_law_710 (lv_at hl 4 rfl) ?_
  refine lv_iconst (v := nI 2) hx hb dL_law_712 (by decide) ?_
  refine lv_iadd hx hb dL_law_713 ?_
  refine va_sld hx hb hX hbl hbA hh.2.2.2 (lw_in hj (by decide) hL) dL_law_714 ?_
  refine lw_cX C hh (As := [.int (xs (nI (6 * j) + nI 1).toNatClampNeg), .int (xs (nI (6 * j) + nI 2).toNatClampNeg)]) (rest := []) (mX11_about l YX _ A (xs (nI (6 * j) + nI 1).toNatClampNeg) (xs (nI (6 * j) + nI 2).toNatClampNeg) (fun r A' => wX12_about B (xs (nI (6 * j) + nI 1).toNatClampNeg) (xs (nI (6 * j) + nI 2).toNatClampNeg) (fun r' B' => r = r' ∧ Rel (j + 1) A' B')) (op_about hR (xs (nI (6 * j) + nI 1).toNatClampNeg) (xs (nI (6 * j) + nI 2).toNatClampNeg) (fun _ _ h => h.up))) (cwV 2 hts (sy_goodVL uX_in gL_91 uX_597) rfl rfl rfl (by decide +kernel) ⟨Nat.le_of_ble_eq_true rfl, Nat.le_of_ble_eq_true rfl⟩) rfl hl.1 rfl (Nat.le_of_ble_eq_true rfl) dL_law_715 ⟨by omega, by omega⟩ (fun r A1 H1 locs1 hw hh => ?_)
  refine lv_aload_n hx hb dL_law_718 rfl (lv_at hl 2 rfl) ?_
  refine lv_aload_n hx hb dL_law_719 rfl (lv_at hl 0 rfl) ?_
  refine lv_iload hx hb dL_law_720 (lv_at hl 4 rfl) ?_
  refine lv_iconst (v := nI 1) hx hb dL_law_722 (by decide) ?_
  refine lv_iadd hx hb dL_law_723 ?_
  refine va_sld hx hb hX hbl hbA hh.2.2.2 (lw_in hj (by decide) hL) dL_law_724 ?_
  refine lv_aload_n hx hb dL_law_725 rfl (lv_at hl 0 rfl) ?_
  refine lv_iload hx hb dL_law_726 (lv_at hl 4 rfl) ?_
  refine lv_iconst (v := nI 2) hx hb dL_law_728 (by decide) ?_
  refine lv_iadd hx hb dL_law_729 ?_
  refine va_sld hx hb hX hbl hbA hh.2.2.2 (lw_in hj (by decide) hL) dL_law_730 ?_
  refine lw_cZ C hh (As := [.int (xs (nI (6 * j) + nI 1).toNatClampNeg), .int (xs (nI (6 * j) + nI 2).toNatClampNeg)]) (rest := [.int r]) (mX12_about l YZ _ B (xs (nI (6 * j) + nI 1).toNatClampNeg) (xs (nI (6 * j) + nI 2).toNatClampNeg) _ hw) (cwV 2 hts (sy_goodVL uZ_in gL_94 uZ_309) rfl rfl rfl (by decide +kernel) ⟨Nat.le_of_ble_eq_true rfl, Nat.le_of_ble_eq_true rfl⟩) rfl hl.1 rfl (Nat.le_of_ble_eq_true rfl) dL_law_731 ⟨by omega, by omega⟩ (fun r2 B1 H2 locs2 hw hh => ?_)
  refine lv_icmp_eq (tgt := 851) hx hb dL_law_734 (by decide) (fun _ => ?_) (fun z => absurd hw.1 z)
  refine W.widen (k := cells + 1) (n := slots + 6) (by omega) (by omega) ?_
  exact kk A1 B1 f _ _ ls hw.2 hh hl

set_option maxHeartbeats 4000000 in
set_option maxRecDepth 100000 in
theorem lc_16 (C : lwC p l s m c b L xs YX YZ oa oc) (hh : lwH s YX YZ oa oc H locs A B f) (hR : Rel j A B) (hj : 6 * j + 6 ≤ L) (hL : L ≤ 3072) (hl : lv_has ls 7 [(0, .ref b), (1, .ref (YX.2.1 0)), (2, .ref (YZ.2.1 0)), (3, .ref oa), (4, .int (nI (6 * j)))]) (hc : cells + 1 ≤ 601024 ∧ slots + 6 ≤ 7293034) (kk : ∀ (A1 B1 : sy_M) (f1 : Nat → Int64) (H1 : Heap) (locs1 : List Loc) (ls1 : Array Slot), Rel (j + 1) A1 B1 → lwH s YX YZ oa oc H1 locs1 A1 B1 f1 → lv_has ls1 7 [(0, .ref b), (1, .ref (YX.2.1 0)), (2, .ref (YZ.2.1 0)), (3, .ref oa), (4, .int (nI (6 * j)))] → W p l e room_1 s m #[Value.ref b] below meth c H1 locs1 (cells + 1) (slots + 6) Qf (F0 m 851 ls1 [])) : W p l e room_1 s m #[Value.ref b] below meth c H locs cells slots Qf (F0 m 739 ls []) := by
  have hx := C.1.1
  have hb := C.1.2.1
  have hts := C.1.2.2.2.2
  have hX := C.2.2.2.2.2.2.2.2.2.2.2.2.2.1
  have hbl := C.2.2.2.2.2.2.2.2.2.2.2.2.2.2
  have hbA : ¬ (fun q : Nat => s.heap.size ≤ q) b := Nat.not_le.mpr hbl
  refine lv_aload_n hx hb dL_law_739 rfl (lv_at hl 1 rfl) ?_
  refine lv_aload_n hx hb dL_law_740 rfl (lv_at hl 0 rfl) ?_
  refine lv_iload hx hb dL_law_741 (lv_at hl 4 rfl) ?_
  refine lv_iconst (v := nI 1) hx hb dL_law_743 (by decide) ?_
  refine lv_iadd hx hb dL_law_744 ?_
  refine va_sld hx hb hX hbl hbA hh.2.2.2 (lw_in hj (by decide) hL) dL_law_745 ?_
  refine lv_aload_n hx hb dL_law_746 rfl (lv_at hl 0 rfl) ?_
  refine lv_iload hx hb dL_law_747 (lv_at hl 4 rfl) ?_
  refine lv_iconst (v := nI 2) hx hb dL_law_749 (by decide) ?_
  refine lv_iadd hx hb dL_law_750 ?_
  refine va_sld hx hb hX hbl hbA hh.2.2.2 (lw_in hj (by decide) hL) dL_law_751 ?_
  refine lw_cX C hh (As := [.int (xs (nI (6 * j) + nI 1).toNatClampNeg), .int (xs (nI (6 * j) + nI 2).toNatClampNeg)]) (rest := []) (mX11_letter l YX _ A (xs (nI (6 * j) + nI 1).toNatClampNeg) (xs (nI (6 * j) + nI 2).toNatClampNeg) (fun r A' => wX12_letter B (xs (nI (6 * j) + nI 1).toNatClampNeg) (xs (nI (6 * j) + nI 2).toNatClampNeg) (fun r' B' => r = r' ∧ Rel (j + 1) A' B')) (op_letter hR (xs (nI (6 * j) + nI 1).toNatClampNeg) (xs (nI (6 * j) + nI 2).toNatClampNeg) (fun _ _ h => h.up))) (cwV 2 hts (sy_goodVL uX_in gL_95 uX_598) rfl rfl rfl (by decide +kernel) ⟨Nat.le_of_ble_eq_true rfl, Nat.le_of_ble_eq_true rfl⟩) rfl hl.1 rfl (Nat.le_of_ble_eq_true rfl) dL_law_752 ⟨by omega, by omega⟩ (fun r A1 H1 locs1 hw hh => ?_)
  refine lv_aload_n hx hb dL_law_755 rfl (lv_at hl 2 rfl) ?_
  refine lv_aload_n hx hb dL_law_756 rfl (lv_at hl 0 rfl) ?_
  refine lv_iload hx hb dL_law_757 (lv_at hl 4 rfl) ?_
  refine lv_iconst (v := nI 1) hx hb dL_law_759 (by decide) ?_
  refine lv_iadd hx hb dL_law_760 ?_
  refine va_sld hx hb hX hbl hbA hh.2.2.2 (lw_in hj (by decide) hL) dL_law_761 ?_
  refine lv_aload_n hx hb dL_law_762 rfl (lv_at hl 0 rfl) ?_
  refine lv_iload hx hb dL_law_763 (lv_at hl 4 rfl) ?_
  refine lv_iconst (v := nI 2) hx hb dL_law_765 (by decide) ?_
  refine lv_iadd hx hb dL_law_766 ?_
  refine va_sld hx hb hX hbl hbA hh.2.2.2 (lw_in hj (by decide) hL) dL_law_767 ?_
  refine lw_cZ C hh (As := [.int (xs (nI (6 * j) + nI 1).toNatClampNeg), .int (xs (nI (6 * j) + nI 2).toNatClampNeg)]) (rest := [.int r]) (mX12_letter l YZ _ B (xs (nI (6 * j) + nI 1).toNatClampNeg) (xs (nI (6 * j) + nI 2).toNatClampNeg) _ hw) (cwV 2 hts (sy_goodVL uZ_in gL_98 uZ_310) rfl rfl rfl (by decide +kernel) ⟨Nat.le_of_ble_eq_true rfl, Nat.le_of_ble_eq_true rfl⟩) rfl hl.1 rfl (Nat.le_of_ble_eq_true rfl) dL_law_768 ⟨by omega, by omega⟩ (fun r2 B1 H2 locs2 hw hh => ?_)
  refine lv_icmp_eq (tgt := 851) hx hb dL_law_771 (by decide) (fun _ => ?_) (fun z => absurd hw.1 z)
  refine W.widen (k := cells + 1) (n := slots + 6) (by omega) (by omega) ?_
  exact kk A1 B1 f _ _ ls hw.2 hh hl

set_option maxHeartbeats 4000000 in
set_option maxRecDepth 100000 in
theorem lc_17 (C : lwC p l s m c b L xs YX YZ oa oc) (hh : lwH s YX YZ oa oc H locs A B f) (hR : Rel j A B) (hj : 6 * j + 6 ≤ L) (hL : L ≤ 3072) (hl : lv_has ls 7 [(0, .ref b), (1, .ref (YX.2.1 0)), (2, .ref (YZ.2.1 0)), (3, .ref oa), (4, .int (nI (6 * j)))]) (hc : cells + 1 ≤ 601024 ∧ slots + 6 ≤ 7293034) (kk : ∀ (A1 B1 : sy_M) (f1 : Nat → Int64) (H1 : Heap) (locs1 : List Loc) (ls1 : Array Slot), Rel (j + 1) A1 B1 → lwH s YX YZ oa oc H1 locs1 A1 B1 f1 → lv_has ls1 7 [(0, .ref b), (1, .ref (YX.2.1 0)), (2, .ref (YZ.2.1 0)), (3, .ref oa), (4, .int (nI (6 * j)))] → W p l e room_1 s m #[Value.ref b] below meth c H1 locs1 (cells + 1) (slots + 6) Qf (F0 m 851 ls1 [])) : W p l e room_1 s m #[Value.ref b] below meth c H locs cells slots Qf (F0 m 776 ls []) := by
  have hx := C.1.1
  have hb := C.1.2.1
  have hts := C.1.2.2.2.2
  have hX := C.2.2.2.2.2.2.2.2.2.2.2.2.2.1
  have hbl := C.2.2.2.2.2.2.2.2.2.2.2.2.2.2
  have hbA : ¬ (fun q : Nat => s.heap.size ≤ q) b := Nat.not_le.mpr hbl
  refine lv_aload_n hx hb dL_law_776 rfl (lv_at hl 1 rfl) ?_
  refine lw_cX C hh (As := []) (rest := []) (mX11_named l YX _ A  (fun r A' => wX12_named B  (fun r' B' => r = r' ∧ Rel (j + 1) A' B')) (op_named hR  (fun _ _ h => h.up))) (cwV 0 hts (sy_goodVL uX_in gL_99 uX_601) rfl rfl rfl (by decide +kernel) ⟨Nat.le_of_ble_eq_true rfl, Nat.le_of_ble_eq_true rfl⟩) rfl hl.1 rfl (Nat.le_of_ble_eq_true rfl) dL_law_777 ⟨by omega, by omega⟩ (fun r A1 H1 locs1 hw hh => ?_)
  refine lv_aload_n hx hb dL_law_780 rfl (lv_at hl 2 rfl) ?_
  refine lw_cZ C hh (As := []) (rest := [.int r]) (mX12_named l YZ _ B  _ hw) (cwV 0 hts (sy_goodVL uZ_in gL_102 uZ_311) rfl rfl rfl (by decide +kernel) ⟨Nat.le_of_ble_eq_true rfl, Nat.le_of_ble_eq_true rfl⟩) rfl hl.1 rfl (Nat.le_of_ble_eq_true rfl) dL_law_781 ⟨by omega, by omega⟩ (fun r2 B1 H2 locs2 hw hh => ?_)
  refine lv_icmp_eq (tgt := 851) hx hb dL_law_784 (by decide) (fun _ => ?_) (fun z => absurd hw.1 z)
  refine W.widen (k := cells + 1) (n := slots + 6) (by omega) (by omega) ?_
  exact kk A1 B1 f _ _ ls hw.2 hh hl

set_option maxHeartbeats 4000000 in
set_option maxRecDepth 100000 in
theorem lc_18 (C : lwC p l s m c b L xs YX YZ oa oc) (hh : lwH s YX YZ oa oc H locs A B f) (hR : Rel j A B) (hj : 6 * j + 6 ≤ L) (hL : L ≤ 3072) (hl : lv_has ls 7 [(0, .ref b), (1, .ref (YX.2.1 0)), (2, .ref (YZ.2.1 0)), (3, .ref oa), (4, .int (nI (6 * j)))]) (hc : cells + 1 ≤ 601024 ∧ slots + 6 ≤ 7293034) (kk : ∀ (A1 B1 : sy_M) (f1 : Nat → Int64) (H1 : Heap) (locs1 : List Loc) (ls1 : Array Slot), Rel (j + 1) A1 B1 → lwH s YX YZ oa oc H1 locs1 A1 B1 f1 → lv_has ls1 7 [(0, .ref b), (1, .ref (YX.2.1 0)), (2, .ref (YZ.2.1 0)), (3, .ref oa), (4, .int (nI (6 * j)))] → W p l e room_1 s m #[Value.ref b] below meth c H1 locs1 (cells + 1) (slots + 6) Qf (F0 m 851 ls1 [])) : W p l e room_1 s m #[Value.ref b] below meth c H locs cells slots Qf (F0 m 789 ls []) := by
  have hx := C.1.1
  have hb := C.1.2.1
  have hts := C.1.2.2.2.2
  have hX := C.2.2.2.2.2.2.2.2.2.2.2.2.2.1
  have hbl := C.2.2.2.2.2.2.2.2.2.2.2.2.2.2
  have hbA : ¬ (fun q : Nat => s.heap.size ≤ q) b := Nat.not_le.mpr hbl
  refine lv_aload_n hx hb dL_law_789 rfl (lv_at hl 1 rfl) ?_
  refine lv_aload_n hx hb dL_law_790 rfl (lv_at hl 0 rfl) ?_
  refine lv_iload hx hb dL_law_791 (lv_at hl 4 rfl) ?_
  refine lv_iconst (v := nI 1) hx hb dL_law_793 (by decide) ?_
  refine lv_iadd hx hb dL_law_794 ?_
  refine va_sld hx hb hX hbl hbA hh.2.2.2 (lw_in hj (by decide) hL) dL_law_795 ?_
  refine lv_aload_n hx hb dL_law_796 rfl (lv_at hl 0 rfl) ?_
  refine lv_iload hx hb dL_law_797 (lv_at hl 4 rfl) ?_
  refine lv_iconst (v := nI 2) hx hb dL_law_799 (by decide) ?_
  refine lv_iadd hx hb dL_law_800 ?_
  refine va_sld hx hb hX hbl hbA hh.2.2.2 (lw_in hj (by decide) hL) dL_law_801 ?_
  refine lw_cX C hh (As := [.int (xs (nI (6 * j) + nI 1).toNatClampNeg), .int (xs (nI (6 * j) + nI 2).toNatClampNeg)]) (rest := []) (mX11_sizeIn l YX _ A (xs (nI (6 * j) + nI 1).toNatClampNeg) (xs (nI (6 * j) + nI 2).toNatClampNeg) (fun r A' => wX12_sizeIn B (xs (nI (6 * j) + nI 1).toNatClampNeg) (xs (nI (6 * j) + nI 2).toNatClampNeg) (fun r' B' => r = r' ∧ Rel (j + 1) A' B')) (op_sizeIn hR (xs (nI (6 * j) + nI 1).toNatClampNeg) (xs (nI (6 * j) + nI 2).toNatClampNeg) (fun _ _ h => h.up))) (cwV 2 hts (sy_goodVL uX_in gL_103 uX_602) rfl rfl rfl (by decide +kernel) ⟨Nat.le_of_ble_eq_true rfl, Nat.le_of_ble_eq_true rfl⟩) rfl hl.1 rfl (Nat.le_of_ble_eq_true rfl) dL_law_802 ⟨by omega, by omega⟩ (fun r A1 H1 locs1 hw hh => ?_)
  refine lv_aload_n hx hb dL_law_805 rfl (lv_at hl 2 rfl) ?_
  refine lv_aload_n hx hb dL_law_806 rfl (lv_at hl 0 rfl) ?_
  refine lv_iload hx hb dL_law_807 (lv_at hl 4 rfl) ?_
  refine lv_iconst (v := nI 1) hx hb dL_law_809 (by decide) ?_
  refine lv_iadd hx hb dL_law_810 ?_
  refine va_sld hx hb hX hbl hbA hh.2.2.2 (lw_in hj (by decide) hL) dL_law_811 ?_
  refine lv_aload_n hx hb dL_law_812 rfl (lv_at hl 0 rfl) ?_
  refine lv_iload hx hb dL_law_813 (lv_at hl 4 rfl) ?_
  refine lv_iconst (v := nI 2) hx hb dL_law_815 (by decide) ?_
  refine lv_iadd hx hb dL_law_816 ?_
  refine va_sld hx hb hX hbl hbA hh.2.2.2 (lw_in hj (by decide) hL) dL_law_817 ?_
  refine lw_cZ C hh (As := [.int (xs (nI (6 * j) + nI 1).toNatClampNeg), .int (xs (nI (6 * j) + nI 2).toNatClampNeg)]) (rest := [.int r]) (mX12_sizeIn l YZ _ B (xs (nI (6 * j) + nI 1).toNatClampNeg) (xs (nI (6 * j) + nI 2).toNatClampNeg) _ hw) (cwV 2 hts (sy_goodVL uZ_in gL_106 uZ_190) rfl rfl rfl (by decide +kernel) ⟨Nat.le_of_ble_eq_true rfl, Nat.le_of_ble_eq_true rfl⟩) rfl hl.1 rfl (Nat.le_of_ble_eq_true rfl) dL_law_818 ⟨by omega, by omega⟩ (fun r2 B1 H2 locs2 hw hh => ?_)
  refine lv_icmp_eq (tgt := 851) hx hb dL_law_821 (by decide) (fun _ => ?_) (fun z => absurd hw.1 z)
  refine W.widen (k := cells + 1) (n := slots + 6) (by omega) (by omega) ?_
  exact kk A1 B1 f _ _ ls hw.2 hh hl

set_option maxHeartbeats 4000000 in
set_option maxRecDepth 100000 in
theorem lc_19 (C : lwC p l s m c b L xs YX YZ oa oc) (hh : lwH s YX YZ oa oc H locs A B f) (hR : Rel j A B) (hj : 6 * j + 6 ≤ L) (hL : L ≤ 3072) (hl : lv_has ls 7 [(0, .ref b), (1, .ref (YX.2.1 0)), (2, .ref (YZ.2.1 0)), (3, .ref oa), (4, .int (nI (6 * j)))]) (hc : cells + 1 ≤ 601024 ∧ slots + 6 ≤ 7293034) (kk : ∀ (A1 B1 : sy_M) (f1 : Nat → Int64) (H1 : Heap) (locs1 : List Loc) (ls1 : Array Slot), Rel (j + 1) A1 B1 → lwH s YX YZ oa oc H1 locs1 A1 B1 f1 → lv_has ls1 7 [(0, .ref b), (1, .ref (YX.2.1 0)), (2, .ref (YZ.2.1 0)), (3, .ref oa), (4, .int (nI (6 * j)))] → W p l e room_1 s m #[Value.ref b] below meth c H1 locs1 (cells + 1) (slots + 6) Qf (F0 m 851 ls1 [])) : W p l e room_1 s m #[Value.ref b] below meth c H locs cells slots Qf (F0 m 826 ls []) := by
  have hx := C.1.1
  have hb := C.1.2.1
  have hts := C.1.2.2.2.2
  have hX := C.2.2.2.2.2.2.2.2.2.2.2.2.2.1
  have hbl := C.2.2.2.2.2.2.2.2.2.2.2.2.2.2
  have hbA : ¬ (fun q : Nat => s.heap.size ≤ q) b := Nat.not_le.mpr hbl
  refine lv_aload_n hx hb dL_law_826 rfl (lv_at hl 1 rfl) ?_
  refine lv_aload_n hx hb dL_law_827 rfl (lv_at hl 0 rfl) ?_
  refine lv_iload hx hb dL_law_828 (lv_at hl 4 rfl) ?_
  refine lv_iconst (v := nI 1) hx hb dL_law_830 (by decide) ?_
  refine lv_iadd hx hb dL_law_831 ?_
  refine va_sld hx hb hX hbl hbA hh.2.2.2 (lw_in hj (by decide) hL) dL_law_832 ?_
  refine lw_cX C hh (As := [.int (xs (nI (6 * j) + nI 1).toNatClampNeg)]) (rest := []) (mX11_count l YX _ A (xs (nI (6 * j) + nI 1).toNatClampNeg) (fun r A' => wX12_count B (xs (nI (6 * j) + nI 1).toNatClampNeg) (fun r' B' => r = r' ∧ Rel (j + 1) A' B')) (op_count (by omega) hR (xs (nI (6 * j) + nI 1).toNatClampNeg) (fun _ _ h => h.up))) (cwV 1 hts (sy_goodVL uX_in gL_107 uX_610) rfl rfl rfl (by decide +kernel) ⟨Nat.le_of_ble_eq_true rfl, Nat.le_of_ble_eq_true rfl⟩) rfl hl.1 rfl (Nat.le_of_ble_eq_true rfl) dL_law_833 ⟨by omega, by omega⟩ (fun r A1 H1 locs1 hw hh => ?_)
  refine lv_aload_n hx hb dL_law_836 rfl (lv_at hl 2 rfl) ?_
  refine lv_aload_n hx hb dL_law_837 rfl (lv_at hl 0 rfl) ?_
  refine lv_iload hx hb dL_law_838 (lv_at hl 4 rfl) ?_
  refine lv_iconst (v := nI 1) hx hb dL_law_840 (by decide) ?_
  refine lv_iadd hx hb dL_law_841 ?_
  refine va_sld hx hb hX hbl hbA hh.2.2.2 (lw_in hj (by decide) hL) dL_law_842 ?_
  refine lw_cZ C hh (As := [.int (xs (nI (6 * j) + nI 1).toNatClampNeg)]) (rest := [.int r]) (mX12_count l YZ _ B (xs (nI (6 * j) + nI 1).toNatClampNeg) _ hw) (cwV 1 hts (sy_goodVL uZ_in gL_110 uZ_324) rfl rfl rfl (by decide +kernel) ⟨Nat.le_of_ble_eq_true rfl, Nat.le_of_ble_eq_true rfl⟩) rfl hl.1 rfl (Nat.le_of_ble_eq_true rfl) dL_law_843 ⟨by omega, by omega⟩ (fun r2 B1 H2 locs2 hw hh => ?_)
  refine lv_icmp_eq (tgt := 851) hx hb dL_law_846 (by decide) (fun _ => ?_) (fun z => absurd hw.1 z)
  refine W.widen (k := cells + 1) (n := slots + 6) (by omega) (by omega) ?_
  exact kk A1 B1 f _ _ ls hw.2 hh hl

set_option maxHeartbeats 4000000 in
set_option maxRecDepth 100000 in
theorem lc_14 (C : lwC p l s m c b L xs YX YZ oa oc) (hh : lwH s YX YZ oa oc H locs A B f) (hR : Rel j A B) (hj : 6 * j + 6 ≤ L) (hL : L ≤ 3072) (hl : lv_has ls 7 [(0, .ref b), (1, .ref (YX.2.1 0)), (2, .ref (YZ.2.1 0)), (3, .ref oa), (4, .int (nI (6 * j)))]) (hc : cells + 1 ≤ 601024 ∧ slots + 6 ≤ 7293034) (kk : ∀ (A1 B1 : sy_M) (f1 : Nat → Int64) (H1 : Heap) (locs1 : List Loc) (ls1 : Array Slot), Rel (j + 1) A1 B1 → lwH s YX YZ oa oc H1 locs1 A1 B1 f1 → lv_has ls1 7 [(0, .ref b), (1, .ref (YX.2.1 0)), (2, .ref (YZ.2.1 0)), (3, .ref oa), (4, .int (nI (6 * j)))] → W p l e room_1 s m #[Value.ref b] below meth c H1 locs1 (cells + 1) (slots + 6) Qf (F0 m 851 ls1 [])) : W p l e room_1 s m #[Value.ref b] below meth c H locs cells slots Qf (F0 m 622 ls []) := by
  have hx := C.1.1
  have hb := C.1.2.1
  have hts := C.1.2.2.2.2
  have hX := C.2.2.2.2.2.2.2.2.2.2.2.2.2.1
  have hbl := C.2.2.2.2.2.2.2.2.2.2.2.2.2.2
  have hbA : ¬ (fun q : Nat => s.heap.size ≤ q) b := Nat.not_le.mpr hbl
  refine lv_aload_n hx hb dL_law_622 rfl (lv_at hl 1 rfl) ?_
  refine lv_aload_n hx hb dL_law_623 rfl (lv_at hl 0 rfl) ?_
  refine lv_iload hx hb dL_law_624 (lv_at hl 4 rfl) ?_
  refine lv_iconst (v := nI 1) hx hb dL_law_626 (by decide) ?_
  refine lv_iadd hx hb dL_law_627 ?_
  refine va_sld hx hb hX hbl hbA hh.2.2.2 (lw_in hj (by decide) hL) dL_law_628 ?_
  refine lv_aload_n hx hb dL_law_629 rfl (lv_at hl 0 rfl) ?_
  refine lv_iload hx hb dL_law_630 (lv_at hl 4 rfl) ?_
  refine lv_iconst (v := nI 2) hx hb dL_law_632 (by decide) ?_
  refine lv_iadd hx hb dL_law_633 ?_
  refine va_sld hx hb hX hbl hbA hh.2.2.2 (lw_in hj (by decide) hL) dL_law_634 ?_
  refine lv_aload_n hx hb dL_law_635 rfl (lv_at hl 0 rfl) ?_
  refine lv_iload hx hb dL_law_636 (lv_at hl 4 rfl) ?_
  refine lv_iconst (v := nI 3) hx hb dL_law_638 (by decide) ?_
  refine lv_iadd hx hb dL_law_639 ?_
  refine va_sld hx hb hX hbl hbA hh.2.2.2 (lw_in hj (by decide) hL) dL_law_640 ?_
  refine lv_aload_n hx hb dL_law_641 rfl (lv_at hl 3 rfl) ?_
  refine lw_cP C hh (op_past (by omega) hR (xs (nI (6 * j) + nI 1).toNatClampNeg) (xs (nI (6 * j) + nI 2).toNatClampNeg) (xs (nI (6 * j) + nI 3).toNatClampNeg) (fun _ _ h => h.up)) gLP hl.1 dL_law_642 hc (fun r A1 f1 H1 locs1 hw hh => ?_)
  refine lv_istore (lv' := [(5, .int r), (0, .ref b), (1, .ref (YX.2.1 0)), (2, .ref (YZ.2.1 0)), (3, .ref oa), (4, .int (nI (6 * j)))]) hx hb dL_law_645 hl (by decide) rfl (fun ls hl => ?_)
  refine lv_aload_n hx hb dL_law_647 rfl (lv_at hl 3 rfl) ?_
  refine lv_aload_n hx hb dL_law_648 rfl (lv_at hl 1 rfl) ?_
  refine lv_iload hx hb dL_law_649 (lv_at hl 5 rfl) ?_
  refine lv_iconst (v := nI 1) hx hb dL_law_651 (by decide) ?_
  refine lv_iadd hx hb dL_law_652 ?_
  refine va_sld hx hb hX hbl hbA hh.2.2.2 (lw_in hj (by decide) hL) dL_law_653 ?_
  refine lv_aload_n hx hb dL_law_654 rfl (lv_at hl 1 rfl) ?_
  refine lv_iload hx hb dL_law_655 (lv_at hl 5 rfl) ?_
  refine lv_iconst (v := nI 2) hx hb dL_law_657 (by decide) ?_
  refine lv_iadd hx hb dL_law_658 ?_
  refine va_sld hx hb hX hbl hbA hh.2.2.2 (lw_in hj (by decide) hL) dL_law_659 ?_
  refine lv_aload_n hx hb dL_law_660 rfl (lv_at hl 1 rfl) ?_
  refine lv_iload hx hb dL_law_661 (lv_at hl 5 rfl) ?_
  refine lv_iconst (v := nI 3) hx hb dL_law_663 (by decide) ?_
  refine lv_iadd hx hb dL_law_664 ?_
  refine va_sld hx hb hX hbl hbA hh.2.2.2 (lw_in hj (by decide) hL) dL_law_665 ?_
  rcases hw with ⟨hr0, v, hw, hf⟩ | ⟨hr1, hw⟩
  · refine lw_cZ C hh (As := [.int (xs (nI (6 * j) + nI 1).toNatClampNeg), .int (xs (nI (6 * j) + nI 2).toNatClampNeg), .int (xs (nI (6 * j) + nI 3).toNatClampNeg)]) (rest := []) (mX12_past l YZ _ B (xs (nI (6 * j) + nI 1).toNatClampNeg) (xs (nI (6 * j) + nI 2).toNatClampNeg) (xs (nI (6 * j) + nI 3).toNatClampNeg) _ hw) (cwV 3 hts (sy_goodVL uZ_in gL_87 uZ_308) rfl rfl rfl (by decide +kernel) ⟨Nat.le_of_ble_eq_true rfl, Nat.le_of_ble_eq_true rfl⟩) rfl hl.1 rfl (Nat.le_of_ble_eq_true rfl) dL_law_666 hc (fun r2 B1 H2 locs2 hw hh => ?_)
    refine lv_istore (lv' := [(6, .int r2), (5, .int r), (0, .ref b), (1, .ref (YX.2.1 0)), (2, .ref (YZ.2.1 0)), (3, .ref oa), (4, .int (nI (6 * j)))]) hx hb dL_law_669 hl (by decide) rfl (fun ls hl => ?_)
    refine lv_aload_n hx hb dL_law_671 rfl (lv_at hl 4 rfl) ?_
    refine lw_cZ C hh (As := []) (rest := []) (mX12_thrown l YZ _ B1 (fun r3 B2 => r3 = B1 0 0 ∧ B2 = B1) (by unfold wX12_thrown; exact ⟨rfl, rfl⟩)) (cwV 0 hts (sy_goodVL uZ_in gL_88 uZ_0) rfl rfl rfl (by decide +kernel) ⟨Nat.le_of_ble_eq_true rfl, Nat.le_of_ble_eq_true rfl⟩) rfl hl.1 rfl (Nat.le_of_ble_eq_true rfl) dL_law_672 hc (fun r3 B2 H3 locs3 hw3 hh3 => ?_)
    obtain ⟨e3, e4⟩ := hw3
    rw [e4] at hh3
    refine lv_iload hx hb dL_law_675 (lv_at hl 1 rfl) ?_
    refine lv_icmp_eq (tgt := 682) hx hb dL_law_677 (by decide) (fun _ => ?_) (fun z => absurd (by rw [e3, hw.1, hr0]) z)
    refine lv_iload hx hb dL_law_682 (lv_at hl 1 rfl) ?_
    refine lv_if_ne (tgt := 699) hx hb dL_law_684 (by decide) (fun z => absurd hr0 z) (fun _ => ?_)
    refine lv_aload_n hx hb dL_law_687 rfl (lv_at hl 5 rfl) ?_
    refine lv_iconst (v := (0 : Int32)) hx hb dL_law_688 (by decide) ?_
    refine va_lald hx hb C.2.2.2.2.2.2.2.2.2.2.1 hh3.2.2.1 0 0 rfl rfl (vp_in_nI (n := 0) (by decide) (by decide)) dL_law_689 ?_
    refine lv_iload hx hb dL_law_690 (lv_at hl 0 rfl) ?_
    refine lv_i2l (v := r2.toInt64) hx hb dL_law_692 rfl ?_
    refine W.lcmp hx hb dL_law_693 ?_
    refine lv_if_eq (tgt := 699) hx hb dL_law_694 (by decide) (fun _ => ?_) (fun z => absurd (by rw [show (0 : Int32).toNatClampNeg = 0 from rfl, show f1 0 = v.toInt64 from hf, hw.2.1]; exact lg_cmp_self _) z)
    refine lv_goto (tgt := 851) hx hb dL_law_699 (by decide) ?_
    exact kk A1 B1 f1 _ _ ls hw.2.2 hh3 (lv_sub hl [2, 3, 4, 5, 6] rfl)
  · refine lw_cZ C hh (As := [.int (xs (nI (6 * j) + nI 1).toNatClampNeg), .int (xs (nI (6 * j) + nI 2).toNatClampNeg), .int (xs (nI (6 * j) + nI 3).toNatClampNeg)]) (rest := []) (mX12_past l YZ _ B (xs (nI (6 * j) + nI 1).toNatClampNeg) (xs (nI (6 * j) + nI 2).toNatClampNeg) (xs (nI (6 * j) + nI 3).toNatClampNeg) _ hw) (cwV 3 hts (sy_goodVL uZ_in gL_87 uZ_308) rfl rfl rfl (by decide +kernel) ⟨Nat.le_of_ble_eq_true rfl, Nat.le_of_ble_eq_true rfl⟩) rfl hl.1 rfl (Nat.le_of_ble_eq_true rfl) dL_law_666 hc (fun r2 B1 H2 locs2 hw hh => ?_)
    refine lv_istore (lv' := [(6, .int r2), (5, .int r), (0, .ref b), (1, .ref (YX.2.1 0)), (2, .ref (YZ.2.1 0)), (3, .ref oa), (4, .int (nI (6 * j)))]) hx hb dL_law_669 hl (by decide) rfl (fun ls hl => ?_)
    refine lv_aload_n hx hb dL_law_671 rfl (lv_at hl 4 rfl) ?_
    refine lw_cZ C hh (As := []) (rest := []) (mX12_thrown l YZ _ B1 (fun r3 B2 => r3 = B1 0 0 ∧ B2 = B1) (by unfold wX12_thrown; exact ⟨rfl, rfl⟩)) (cwV 0 hts (sy_goodVL uZ_in gL_88 uZ_0) rfl rfl rfl (by decide +kernel) ⟨Nat.le_of_ble_eq_true rfl, Nat.le_of_ble_eq_true rfl⟩) rfl hl.1 rfl (Nat.le_of_ble_eq_true rfl) dL_law_672 hc (fun r3 B2 H3 locs3 hw3 hh3 => ?_)
    obtain ⟨e3, e4⟩ := hw3
    rw [e4] at hh3
    refine lv_iload hx hb dL_law_675 (lv_at hl 1 rfl) ?_
    refine lv_icmp_eq (tgt := 682) hx hb dL_law_677 (by decide) (fun _ => ?_) (fun z => absurd (by rw [e3, hw.1, hr1]) z)
    refine lv_iload hx hb dL_law_682 (lv_at hl 1 rfl) ?_
    refine lv_if_ne (tgt := 699) hx hb dL_law_684 (by decide) (fun _ => ?_) (fun z => absurd (hr1.symm.trans z) (by decide))
    refine lv_goto (tgt := 851) hx hb dL_law_699 (by decide) ?_
    exact kk A1 B1 f1 _ _ ls hw.2 hh3 (lv_sub hl [2, 3, 4, 5, 6] rfl)
end LWC
