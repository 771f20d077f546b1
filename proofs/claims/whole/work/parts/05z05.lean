/-! java/lang/Integer.bitCount(I)I -/
def wJ6_bitCount_0f7a4 (M : sy_M) (a1 : Int32) (Q : Int32 → sy_M → Prop) : Prop := Q ((((((((a1 - (((a1.toUInt32 >>> ((1 : Int32).toUInt32 &&& Int32.toUInt32 31)).toInt32) &&& (nI 1431655765))) &&& (nI 858993459)) + ((((a1 - (((a1.toUInt32 >>> ((1 : Int32).toUInt32 &&& Int32.toUInt32 31)).toInt32) &&& (nI 1431655765))).toUInt32 >>> ((nI 2).toUInt32 &&& Int32.toUInt32 31)).toInt32) &&& (nI 858993459))) + (((((a1 - (((a1.toUInt32 >>> ((1 : Int32).toUInt32 &&& Int32.toUInt32 31)).toInt32) &&& (nI 1431655765))) &&& (nI 858993459)) + ((((a1 - (((a1.toUInt32 >>> ((1 : Int32).toUInt32 &&& Int32.toUInt32 31)).toInt32) &&& (nI 1431655765))).toUInt32 >>> ((nI 2).toUInt32 &&& Int32.toUInt32 31)).toInt32) &&& (nI 858993459))).toUInt32 >>> ((nI 4).toUInt32 &&& Int32.toUInt32 31)).toInt32)) &&& (nI 252645135)) + (((((((a1 - (((a1.toUInt32 >>> ((1 : Int32).toUInt32 &&& Int32.toUInt32 31)).toInt32) &&& (nI 1431655765))) &&& (nI 858993459)) + ((((a1 - (((a1.toUInt32 >>> ((1 : Int32).toUInt32 &&& Int32.toUInt32 31)).toInt32) &&& (nI 1431655765))).toUInt32 >>> ((nI 2).toUInt32 &&& Int32.toUInt32 31)).toInt32) &&& (nI 858993459))) + (((((a1 - (((a1.toUInt32 >>> ((1 : Int32).toUInt32 &&& Int32.toUInt32 31)).toInt32) &&& (nI 1431655765))) &&& (nI 858993459)) + ((((a1 - (((a1.toUInt32 >>> ((1 : Int32).toUInt32 &&& Int32.toUInt32 31)).toInt32) &&& (nI 1431655765))).toUInt32 >>> ((nI 2).toUInt32 &&& Int32.toUInt32 31)).toInt32) &&& (nI 858993459))).toUInt32 >>> ((nI 4).toUInt32 &&& Int32.toUInt32 31)).toInt32)) &&& (nI 252645135)).toUInt32 >>> ((nI 8).toUInt32 &&& Int32.toUInt32 31)).toInt32)) + ((((((((a1 - (((a1.toUInt32 >>> ((1 : Int32).toUInt32 &&& Int32.toUInt32 31)).toInt32) &&& (nI 1431655765))) &&& (nI 858993459)) + ((((a1 - (((a1.toUInt32 >>> ((1 : Int32).toUInt32 &&& Int32.toUInt32 31)).toInt32) &&& (nI 1431655765))).toUInt32 >>> ((nI 2).toUInt32 &&& Int32.toUInt32 31)).toInt32) &&& (nI 858993459))) + (((((a1 - (((a1.toUInt32 >>> ((1 : Int32).toUInt32 &&& Int32.toUInt32 31)).toInt32) &&& (nI 1431655765))) &&& (nI 858993459)) + ((((a1 - (((a1.toUInt32 >>> ((1 : Int32).toUInt32 &&& Int32.toUInt32 31)).toInt32) &&& (nI 1431655765))).toUInt32 >>> ((nI 2).toUInt32 &&& Int32.toUInt32 31)).toInt32) &&& (nI 858993459))).toUInt32 >>> ((nI 4).toUInt32 &&& Int32.toUInt32 31)).toInt32)) &&& (nI 252645135)) + (((((((a1 - (((a1.toUInt32 >>> ((1 : Int32).toUInt32 &&& Int32.toUInt32 31)).toInt32) &&& (nI 1431655765))) &&& (nI 858993459)) + ((((a1 - (((a1.toUInt32 >>> ((1 : Int32).toUInt32 &&& Int32.toUInt32 31)).toInt32) &&& (nI 1431655765))).toUInt32 >>> ((nI 2).toUInt32 &&& Int32.toUInt32 31)).toInt32) &&& (nI 858993459))) + (((((a1 - (((a1.toUInt32 >>> ((1 : Int32).toUInt32 &&& Int32.toUInt32 31)).toInt32) &&& (nI 1431655765))) &&& (nI 858993459)) + ((((a1 - (((a1.toUInt32 >>> ((1 : Int32).toUInt32 &&& Int32.toUInt32 31)).toInt32) &&& (nI 1431655765))).toUInt32 >>> ((nI 2).toUInt32 &&& Int32.toUInt32 31)).toInt32) &&& (nI 858993459))).toUInt32 >>> ((nI 4).toUInt32 &&& Int32.toUInt32 31)).toInt32)) &&& (nI 252645135)).toUInt32 >>> ((nI 8).toUInt32 &&& Int32.toUInt32 31)).toInt32)).toUInt32 >>> ((nI 16).toUInt32 &&& Int32.toUInt32 31)).toInt32)) &&& (nI 63)) M
section
variable {p : Program} {l : Launch} {e : Env} {s : State} {m : MethodId} {args : Array Value} {below : List Frame} {meth : Method} {c : Code} {Y : sy_Y}
end
set_option maxHeartbeats 4000000 in
set_option maxRecDepth 100000 in
theorem mJ6_bitCount_0f7a4 (l : Launch) (Y : sy_Y) (sz : Nat) (M : sy_M) (a1 : Int32) (Q : Int32 → sy_M → Prop) (hq : wJ6_bitCount_0f7a4 M a1 Q) : Met l yJ6_bitCount_0f7a4 vsJ6_bitCount_0f7a4 ({ frames := 0, cells := 0, slots := 0, locals := 0 } : Room) (va_Pc [.int a1] (sy_pre Y NZ EZ tfZ sz M)) (sy_QI Y NZ EZ sz Q) 0 0 (sy_A NZ Y.2.1 sz) := by
  refine sy_metI (by decide) rfl (Nat.le_of_ble_eq_true rfl) ?_
  intro p e s m args below meth c C ls hl hh
  have hx := C.1.1
  have hb := C.1.2.1
  have hl : lv_has ls 1 [(0, .int a1)] := hl
  unfold wJ6_bitCount_0f7a4 at hq
  refine lv_iload_n hx hb dJ6_bitCount_0f7a4_0 rfl (lv_at hl 0 rfl) ?_
  refine lv_iload_n hx hb dJ6_bitCount_0f7a4_1 rfl (lv_at hl 0 rfl) ?_
  refine lv_iconst (v := (1 : Int32)) hx hb dJ6_bitCount_0f7a4_2 (by decide) ?_
  refine lv_iushr (v := ((a1.toUInt32 >>> ((1 : Int32).toUInt32 &&& Int32.toUInt32 31)).toInt32)) hx hb dJ6_bitCount_0f7a4_3 rfl ?_
  refine lv_ldcw (v := (nI 1431655765)) hx hb C.1.2.2.2.1 (C.1.2.2.2.2 (.constant RJ6 265 (nI 1431655765)) (mc uZ_222)) dJ6_bitCount_0f7a4_4 ?_
  refine lv_iand hx hb dJ6_bitCount_0f7a4_7 ?_
  refine lv_isub hx hb dJ6_bitCount_0f7a4_8 ?_
  refine lv_istore_n (lv' := [(0, .int (a1 - (((a1.toUInt32 >>> ((1 : Int32).toUInt32 &&& Int32.toUInt32 31)).toInt32) &&& (nI 1431655765))))]) hx hb dJ6_bitCount_0f7a4_9 rfl hl (by decide) rfl (fun ls hl => ?_)
  refine lv_iload_n hx hb dJ6_bitCount_0f7a4_10 rfl (lv_at hl 0 rfl) ?_
  refine lv_ldcw (v := (nI 858993459)) hx hb C.1.2.2.2.1 (C.1.2.2.2.2 (.constant RJ6 266 (nI 858993459)) (mc uZ_223)) dJ6_bitCount_0f7a4_11 ?_
  refine lv_iand hx hb dJ6_bitCount_0f7a4_14 ?_
  refine lv_iload_n hx hb dJ6_bitCount_0f7a4_15 rfl (lv_at hl 0 rfl) ?_
  refine lv_iconst (v := (nI 2)) hx hb dJ6_bitCount_0f7a4_16 (by decide) ?_
  refine lv_iushr (v := (((a1 - (((a1.toUInt32 >>> ((1 : Int32).toUInt32 &&& Int32.toUInt32 31)).toInt32) &&& (nI 1431655765))).toUInt32 >>> ((nI 2).toUInt32 &&& Int32.toUInt32 31)).toInt32)) hx hb dJ6_bitCount_0f7a4_17 rfl ?_
  refine lv_ldcw (v := (nI 858993459)) hx hb C.1.2.2.2.1 (C.1.2.2.2.2 (.constant RJ6 266 (nI 858993459)) (mc uZ_223)) dJ6_bitCount_0f7a4_18 ?_
  refine lv_iand hx hb dJ6_bitCount_0f7a4_21 ?_
  refine lv_iadd hx hb dJ6_bitCount_0f7a4_22 ?_
  refine lv_istore_n (lv' := [(0, .int (((a1 - (((a1.toUInt32 >>> ((1 : Int32).toUInt32 &&& Int32.toUInt32 31)).toInt32) &&& (nI 1431655765))) &&& (nI 858993459)) + ((((a1 - (((a1.toUInt32 >>> ((1 : Int32).toUInt32 &&& Int32.toUInt32 31)).toInt32) &&& (nI 1431655765))).toUInt32 >>> ((nI 2).toUInt32 &&& Int32.toUInt32 31)).toInt32) &&& (nI 858993459))))]) hx hb dJ6_bitCount_0f7a4_23 rfl hl (by decide) rfl (fun ls hl => ?_)
  refine lv_iload_n hx hb dJ6_bitCount_0f7a4_24 rfl (lv_at hl 0 rfl) ?_
  refine lv_iload_n hx hb dJ6_bitCount_0f7a4_25 rfl (lv_at hl 0 rfl) ?_
  refine lv_iconst (v := (nI 4)) hx hb dJ6_bitCount_0f7a4_26 (by decide) ?_
  refine lv_iushr (v := (((((a1 - (((a1.toUInt32 >>> ((1 : Int32).toUInt32 &&& Int32.toUInt32 31)).toInt32) &&& (nI 1431655765))) &&& (nI 858993459)) + ((((a1 - (((a1.toUInt32 >>> ((1 : Int32).toUInt32 &&& Int32.toUInt32 31)).toInt32) &&& (nI 1431655765))).toUInt32 >>> ((nI 2).toUInt32 &&& Int32.toUInt32 31)).toInt32) &&& (nI 858993459))).toUInt32 >>> ((nI 4).toUInt32 &&& Int32.toUInt32 31)).toInt32)) hx hb dJ6_bitCount_0f7a4_27 rfl ?_
  refine lv_iadd hx hb dJ6_bitCount_0f7a4_28 ?_
  refine lv_ldcw (v := (nI 252645135)) hx hb C.1.2.2.2.1 (C.1.2.2.2.2 (.constant RJ6 267 (nI 252645135)) (mc uZ_224)) dJ6_bitCount_0f7a4_29 ?_
  refine lv_iand hx hb dJ6_bitCount_0f7a4_32 ?_
  refine lv_istore_n (lv' := [(0, .int (((((a1 - (((a1.toUInt32 >>> ((1 : Int32).toUInt32 &&& Int32.toUInt32 31)).toInt32) &&& (nI 1431655765))) &&& (nI 858993459)) + ((((a1 - (((a1.toUInt32 >>> ((1 : Int32).toUInt32 &&& Int32.toUInt32 31)).toInt32) &&& (nI 1431655765))).toUInt32 >>> ((nI 2).toUInt32 &&& Int32.toUInt32 31)).toInt32) &&& (nI 858993459))) + (((((a1 - (((a1.toUInt32 >>> ((1 : Int32).toUInt32 &&& Int32.toUInt32 31)).toInt32) &&& (nI 1431655765))) &&& (nI 858993459)) + ((((a1 - (((a1.toUInt32 >>> ((1 : Int32).toUInt32 &&& Int32.toUInt32 31)).toInt32) &&& (nI 1431655765))).toUInt32 >>> ((nI 2).toUInt32 &&& Int32.toUInt32 31)).toInt32) &&& (nI 858993459))).toUInt32 >>> ((nI 4).toUInt32 &&& Int32.toUInt32 31)).toInt32)) &&& (nI 252645135)))]) hx hb dJ6_bitCount_0f7a4_33 rfl hl (by decide) rfl (fun ls hl => ?_)
  refine lv_iload_n hx hb dJ6_bitCount_0f7a4_34 rfl (lv_at hl 0 rfl) ?_
  refine lv_iload_n hx hb dJ6_bitCount_0f7a4_35 rfl (lv_at hl 0 rfl) ?_
  refine lv_bipush (v := (nI 8)) hx hb dJ6_bitCount_0f7a4_36 (by decide) ?_
  refine lv_iushr (v := (((((((a1 - (((a1.toUInt32 >>> ((1 : Int32).toUInt32 &&& Int32.toUInt32 31)).toInt32) &&& (nI 1431655765))) &&& (nI 858993459)) + ((((a1 - (((a1.toUInt32 >>> ((1 : Int32).toUInt32 &&& Int32.toUInt32 31)).toInt32) &&& (nI 1431655765))).toUInt32 >>> ((nI 2).toUInt32 &&& Int32.toUInt32 31)).toInt32) &&& (nI 858993459))) + (((((a1 - (((a1.toUInt32 >>> ((1 : Int32).toUInt32 &&& Int32.toUInt32 31)).toInt32) &&& (nI 1431655765))) &&& (nI 858993459)) + ((((a1 - (((a1.toUInt32 >>> ((1 : Int32).toUInt32 &&& Int32.toUInt32 31)).toInt32) &&& (nI 1431655765))).toUInt32 >>> ((nI 2).toUInt32 &&& Int32.toUInt32 31)).toInt32) &&& (nI 858993459))).toUInt32 >>> ((nI 4).toUInt32 &&& Int32.toUInt32 31)).toInt32)) &&& (nI 252645135)).toUInt32 >>> ((nI 8).toUInt32 &&& Int32.toUInt32 31)).toInt32)) hx hb dJ6_bitCount_0f7a4_38 rfl ?_
  refine lv_iadd hx hb dJ6_bitCount_0f7a4_39 ?_
  refine lv_istore_n (lv' := [(0, .int ((((((a1 - (((a1.toUInt32 >>> ((1 : Int32).toUInt32 &&& Int32.toUInt32 31)).toInt32) &&& (nI 1431655765))) &&& (nI 858993459)) + ((((a1 - (((a1.toUInt32 >>> ((1 : Int32).toUInt32 &&& Int32.toUInt32 31)).toInt32) &&& (nI 1431655765))).toUInt32 >>> ((nI 2).toUInt32 &&& Int32.toUInt32 31)).toInt32) &&& (nI 858993459))) + (((((a1 - (((a1.toUInt32 >>> ((1 : Int32).toUInt32 &&& Int32.toUInt32 31)).toInt32) &&& (nI 1431655765))) &&& (nI 858993459)) + ((((a1 - (((a1.toUInt32 >>> ((1 : Int32).toUInt32 &&& Int32.toUInt32 31)).toInt32) &&& (nI 1431655765))).toUInt32 >>> ((nI 2).toUInt32 &&& Int32.toUInt32 31)).toInt32) &&& (nI 858993459))).toUInt32 >>> ((nI 4).toUInt32 &&& Int32.toUInt32 31)).toInt32)) &&& (nI 252645135)) + (((((((a1 - (((a1.toUInt32 >>> ((1 : Int32).toUInt32 &&& Int32.toUInt32 31)).toInt32) &&& (nI 1431655765))) &&& (nI 858993459)) + ((((a1 - (((a1.toUInt32 >>> ((1 : Int32).toUInt32 &&& Int32.toUInt32 31)).toInt32) &&& (nI 1431655765))).toUInt32 >>> ((nI 2).toUInt32 &&& Int32.toUInt32 31)).toInt32) &&& (nI 858993459))) + (((((a1 - (((a1.toUInt32 >>> ((1 : Int32).toUInt32 &&& Int32.toUInt32 31)).toInt32) &&& (nI 1431655765))) &&& (nI 858993459)) + ((((a1 - (((a1.toUInt32 >>> ((1 : Int32).toUInt32 &&& Int32.toUInt32 31)).toInt32) &&& (nI 1431655765))).toUInt32 >>> ((nI 2).toUInt32 &&& Int32.toUInt32 31)).toInt32) &&& (nI 858993459))).toUInt32 >>> ((nI 4).toUInt32 &&& Int32.toUInt32 31)).toInt32)) &&& (nI 252645135)).toUInt32 >>> ((nI 8).toUInt32 &&& Int32.toUInt32 31)).toInt32)))]) hx hb dJ6_bitCount_0f7a4_40 rfl hl (by decide) rfl (fun ls hl => ?_)
  refine lv_iload_n hx hb dJ6_bitCount_0f7a4_41 rfl (lv_at hl 0 rfl) ?_
  refine lv_iload_n hx hb dJ6_bitCount_0f7a4_42 rfl (lv_at hl 0 rfl) ?_
  refine lv_bipush (v := (nI 16)) hx hb dJ6_bitCount_0f7a4_43 (by decide) ?_
  refine lv_iushr (v := ((((((((a1 - (((a1.toUInt32 >>> ((1 : Int32).toUInt32 &&& Int32.toUInt32 31)).toInt32) &&& (nI 1431655765))) &&& (nI 858993459)) + ((((a1 - (((a1.toUInt32 >>> ((1 : Int32).toUInt32 &&& Int32.toUInt32 31)).toInt32) &&& (nI 1431655765))).toUInt32 >>> ((nI 2).toUInt32 &&& Int32.toUInt32 31)).toInt32) &&& (nI 858993459))) + (((((a1 - (((a1.toUInt32 >>> ((1 : Int32).toUInt32 &&& Int32.toUInt32 31)).toInt32) &&& (nI 1431655765))) &&& (nI 858993459)) + ((((a1 - (((a1.toUInt32 >>> ((1 : Int32).toUInt32 &&& Int32.toUInt32 31)).toInt32) &&& (nI 1431655765))).toUInt32 >>> ((nI 2).toUInt32 &&& Int32.toUInt32 31)).toInt32) &&& (nI 858993459))).toUInt32 >>> ((nI 4).toUInt32 &&& Int32.toUInt32 31)).toInt32)) &&& (nI 252645135)) + (((((((a1 - (((a1.toUInt32 >>> ((1 : Int32).toUInt32 &&& Int32.toUInt32 31)).toInt32) &&& (nI 1431655765))) &&& (nI 858993459)) + ((((a1 - (((a1.toUInt32 >>> ((1 : Int32).toUInt32 &&& Int32.toUInt32 31)).toInt32) &&& (nI 1431655765))).toUInt32 >>> ((nI 2).toUInt32 &&& Int32.toUInt32 31)).toInt32) &&& (nI 858993459))) + (((((a1 - (((a1.toUInt32 >>> ((1 : Int32).toUInt32 &&& Int32.toUInt32 31)).toInt32) &&& (nI 1431655765))) &&& (nI 858993459)) + ((((a1 - (((a1.toUInt32 >>> ((1 : Int32).toUInt32 &&& Int32.toUInt32 31)).toInt32) &&& (nI 1431655765))).toUInt32 >>> ((nI 2).toUInt32 &&& Int32.toUInt32 31)).toInt32) &&& (nI 858993459))).toUInt32 >>> ((nI 4).toUInt32 &&& Int32.toUInt32 31)).toInt32)) &&& (nI 252645135)).toUInt32 >>> ((nI 8).toUInt32 &&& Int32.toUInt32 31)).toInt32)).toUInt32 >>> ((nI 16).toUInt32 &&& Int32.toUInt32 31)).toInt32)) hx hb dJ6_bitCount_0f7a4_45 rfl ?_
  refine lv_iadd hx hb dJ6_bitCount_0f7a4_46 ?_
  refine lv_istore_n (lv' := [(0, .int (((((((a1 - (((a1.toUInt32 >>> ((1 : Int32).toUInt32 &&& Int32.toUInt32 31)).toInt32) &&& (nI 1431655765))) &&& (nI 858993459)) + ((((a1 - (((a1.toUInt32 >>> ((1 : Int32).toUInt32 &&& Int32.toUInt32 31)).toInt32) &&& (nI 1431655765))).toUInt32 >>> ((nI 2).toUInt32 &&& Int32.toUInt32 31)).toInt32) &&& (nI 858993459))) + (((((a1 - (((a1.toUInt32 >>> ((1 : Int32).toUInt32 &&& Int32.toUInt32 31)).toInt32) &&& (nI 1431655765))) &&& (nI 858993459)) + ((((a1 - (((a1.toUInt32 >>> ((1 : Int32).toUInt32 &&& Int32.toUInt32 31)).toInt32) &&& (nI 1431655765))).toUInt32 >>> ((nI 2).toUInt32 &&& Int32.toUInt32 31)).toInt32) &&& (nI 858993459))).toUInt32 >>> ((nI 4).toUInt32 &&& Int32.toUInt32 31)).toInt32)) &&& (nI 252645135)) + (((((((a1 - (((a1.toUInt32 >>> ((1 : Int32).toUInt32 &&& Int32.toUInt32 31)).toInt32) &&& (nI 1431655765))) &&& (nI 858993459)) + ((((a1 - (((a1.toUInt32 >>> ((1 : Int32).toUInt32 &&& Int32.toUInt32 31)).toInt32) &&& (nI 1431655765))).toUInt32 >>> ((nI 2).toUInt32 &&& Int32.toUInt32 31)).toInt32) &&& (nI 858993459))) + (((((a1 - (((a1.toUInt32 >>> ((1 : Int32).toUInt32 &&& Int32.toUInt32 31)).toInt32) &&& (nI 1431655765))) &&& (nI 858993459)) + ((((a1 - (((a1.toUInt32 >>> ((1 : Int32).toUInt32 &&& Int32.toUInt32 31)).toInt32) &&& (nI 1431655765))).toUInt32 >>> ((nI 2).toUInt32 &&& Int32.toUInt32 31)).toInt32) &&& (nI 858993459))).toUInt32 >>> ((nI 4).toUInt32 &&& Int32.toUInt32 31)).toInt32)) &&& (nI 252645135)).toUInt32 >>> ((nI 8).toUInt32 &&& Int32.toUInt32 31)).toInt32)) + ((((((((a1 - (((a1.toUInt32 >>> ((1 : Int32).toUInt32 &&& Int32.toUInt32 31)).toInt32) &&& (nI 1431655765))) &&& (nI 858993459)) + ((((a1 - (((a1.toUInt32 >>> ((1 : Int32).toUInt32 &&& Int32.toUInt32 31)).toInt32) &&& (nI 1431655765))).toUInt32 >>> ((nI 2).toUInt32 &&& Int32.toUInt32 31)).toInt32) &&& (nI 858993459))) + (((((a1 - (((a1.toUInt32 >>> ((1 : Int32).toUInt32 &&& Int32.toUInt32 31)).toInt32) &&& (nI 1431655765))) &&& (nI 858993459)) + ((((a1 - (((a1.toUInt32 >>> ((1 : Int32).toUInt32 &&& Int32.toUInt32 31)).toInt32) &&& (nI 1431655765))).toUInt32 >>> ((nI 2).toUInt32 &&& Int32.toUInt32 31)).toInt32) &&& (nI 858993459))).toUInt32 >>> ((nI 4).toUInt32 &&& Int32.toUInt32 31)).toInt32)) &&& (nI 252645135)) + (((((((a1 - (((a1.toUInt32 >>> ((1 : Int32).toUInt32 &&& Int32.toUInt32 31)).toInt32) &&& (nI 1431655765))) &&& (nI 858993459)) + ((((a1 - (((a1.toUInt32 >>> ((1 : Int32).toUInt32 &&& Int32.toUInt32 31)).toInt32) &&& (nI 1431655765))).toUInt32 >>> ((nI 2).toUInt32 &&& Int32.toUInt32 31)).toInt32) &&& (nI 858993459))) + (((((a1 - (((a1.toUInt32 >>> ((1 : Int32).toUInt32 &&& Int32.toUInt32 31)).toInt32) &&& (nI 1431655765))) &&& (nI 858993459)) + ((((a1 - (((a1.toUInt32 >>> ((1 : Int32).toUInt32 &&& Int32.toUInt32 31)).toInt32) &&& (nI 1431655765))).toUInt32 >>> ((nI 2).toUInt32 &&& Int32.toUInt32 31)).toInt32) &&& (nI 858993459))).toUInt32 >>> ((nI 4).toUInt32 &&& Int32.toUInt32 31)).toInt32)) &&& (nI 252645135)).toUInt32 >>> ((nI 8).toUInt32 &&& Int32.toUInt32 31)).toInt32)).toUInt32 >>> ((nI 16).toUInt32 &&& Int32.toUInt32 31)).toInt32)))]) hx hb dJ6_bitCount_0f7a4_47 rfl hl (by decide) rfl (fun ls hl => ?_)
  refine lv_iload_n hx hb dJ6_bitCount_0f7a4_48 rfl (lv_at hl 0 rfl) ?_
  refine lv_bipush (v := (nI 63)) hx hb dJ6_bitCount_0f7a4_49 (by decide) ?_
  refine lv_iand hx hb dJ6_bitCount_0f7a4_51 ?_
  exact sy_iret C hh dJ6_bitCount_0f7a4_52 hq

/-! AreaSetterModel.isAhead(II)Z -/
def wX12_isAhead_27 (K_55 : sy_M → Int32 → Int32 → Prop) (Q : Int32 → sy_M → Prop) : Nat → sy_M → Int32 → Int32 → Int32 → Prop
  | 0, _, _, _, _ => False
  | n + 1, M, x1, x2, x4 => (((nI 8) ≤ x4 → K_55 M x2 x4) ∧ (¬ (nI 8) ≤ x4 → ((¬ ((x1 >>> (x4 &&& 31)) &&& (1 : Int32)) = ((x2 >>> (x4 &&& 31)) &&& (1 : Int32)) → K_55 M x2 x4) ∧ (((x1 >>> (x4 &&& 31)) &&& (1 : Int32)) = ((x2 >>> (x4 &&& 31)) &&& (1 : Int32)) → wX12_isAhead_27 K_55 Q n M x1 x2 (x4 + (1 : Int32))))))
def wX12_isAhead_55 (Q : Int32 → sy_M → Prop) (M : sy_M) (x2 : Int32) (x4 : Int32) : Prop := (((nI 8) ≤ x4 → Q (0 : Int32) M) ∧ (¬ (nI 8) ≤ x4 → ((¬ ((x2 >>> (x4 &&& 31)) &&& (1 : Int32)) = (1 : Int32) → Q (0 : Int32) M) ∧ (((x2 >>> (x4 &&& 31)) &&& (1 : Int32)) = (1 : Int32) → Q (1 : Int32) M))))
def wX12_isAhead (M : sy_M) (a1 : Int32) (a2 : Int32) (Q : Int32 → sy_M → Prop) : Prop := wJ6_bitCount_0f7a4 M a1 (fun r2 M1 => wJ6_bitCount_0f7a4 M1 a2 (fun r4 M3 => (((r2 - r4) = 0 → ∃ n13 : Nat, wX12_isAhead_27 (fun (M8 : sy_M) (x2_9 : Int32) (x4_10 : Int32) => wX12_isAhead_55  Q M8 x2_9 x4_10) Q n13 M3 a1 a2 (0 : Int32)) ∧ (¬ (r2 - r4) = 0 → ((0 ≤ (r2 - r4) → Q (0 : Int32) M3) ∧ (¬ 0 ≤ (r2 - r4) → Q (1 : Int32) M3))))))
section
variable {p : Program} {l : Launch} {e : Env} {s : State} {m : MethodId} {args : Array Value} {below : List Frame} {meth : Method} {c : Code} {Y : sy_Y}
set_option maxHeartbeats 4000000 in
set_option maxRecDepth 100000 in
theorem kX12_isAhead_27 (C : sy_C p m c cX12_isAhead 5 s args vsX12_isAhead RX12 meth (some .boolean) Y NZ tfZ) {Q : Int32 → sy_M → Prop} {K_55 : sy_M → Int32 → Int32 → Prop} (hK_55 : ∀ (M : sy_M) (x2 : Int32) (x4 : Int32) (H : Heap) (locs : List Loc) (ls : Array Slot), K_55 M x2 x4 → sy_H Y NZ EZ s H locs M → lv_has ls 5 [(2, .int x2), (4, .int x4)] → W p l e ({ frames := 1, cells := 0, slots := 0, locals := 20 } : Room) s m args below meth c H locs 0 0 (sy_ZI below args s Y NZ EZ Q) (F0 m 55 ls [])) :
    ∀ (n : Nat) (M : sy_M) (x1 : Int32) (x2 : Int32) (x4 : Int32) (H : Heap) (locs : List Loc) (ls : Array Slot), wX12_isAhead_27 K_55 Q n M x1 x2 x4 → sy_H Y NZ EZ s H locs M → lv_has ls 5 [(1, .int x1), (2, .int x2), (4, .int x4)] → W p l e ({ frames := 1, cells := 0, slots := 0, locals := 20 } : Room) s m args below meth c H locs 0 0 (sy_ZI below args s Y NZ EZ Q) (F0 m 27 ls []) := by
  have hx := C.1.1
  have hb := C.1.2.1
  intro n
  induction n with
  | zero =>
    intro M x1 x2 x4 H locs ls hq hh hl
    unfold wX12_isAhead_27 at hq
    exact hq.elim
  | succ n ih =>
    intro M x1 x2 x4 H locs ls hq hh hl
    unfold wX12_isAhead_27 at hq
    refine lv_iload hx hb dX12_isAhead_27 (lv_at hl 2 rfl) ?_
    refine lv_bipush (v := (nI 8)) hx hb dX12_isAhead_29 (by decide) ?_
    refine lv_icmp_ge (tgt := 55) hx hb dX12_isAhead_31 (by decide) (fun c6 => ?_) (fun c6 => ?_)
    · have hq := hq.1 c6
      exact hK_55 M x2 x4 _ _ _ hq hh (lv_sub hl [1, 2] rfl)
    · have hq := hq.2 c6
      refine lv_iload_n hx hb dX12_isAhead_34 rfl (lv_at hl 0 rfl) ?_
      refine lv_iload hx hb dX12_isAhead_35 (lv_at hl 2 rfl) ?_
      refine lv_ishr hx hb dX12_isAhead_37 ?_
      refine lv_iconst (v := (1 : Int32)) hx hb dX12_isAhead_38 (by decide) ?_
      refine lv_iand hx hb dX12_isAhead_39 ?_
      refine lv_iload_n hx hb dX12_isAhead_40 rfl (lv_at hl 1 rfl) ?_
      refine lv_iload hx hb dX12_isAhead_41 (lv_at hl 2 rfl) ?_
      refine lv_ishr hx hb dX12_isAhead_43 ?_
      refine lv_iconst (v := (1 : Int32)) hx hb dX12_isAhead_44 (by decide) ?_
      refine lv_iand hx hb dX12_isAhead_45 ?_
      refine lv_icmp_ne (tgt := 55) hx hb dX12_isAhead_46 (by decide) (fun c7 => ?_) (fun c7 => ?_)
      · have hq := hq.1 c7
        exact hK_55 M x2 x4 _ _ _ hq hh (lv_sub hl [1, 2] rfl)
      · have hq := hq.2 c7
        refine lv_iinc (v := (x4 + (1 : Int32))) (lv' := [(4, .int (x4 + (1 : Int32))), (1, .int x1), (2, .int x2)]) hx hb dX12_isAhead_49 hl (k := 2) rfl (sy_inc (by decide)) (by decide) rfl (fun ls hl => ?_)
        refine lv_goto (tgt := 27) hx hb dX12_isAhead_52 (by decide) ?_
        exact ih M x1 x2 (x4 + (1 : Int32)) _ _ _ hq hh (lv_sub hl [1, 2, 0] rfl)

set_option maxHeartbeats 4000000 in
set_option maxRecDepth 100000 in
theorem kX12_isAhead_55 (C : sy_C p m c cX12_isAhead 5 s args vsX12_isAhead RX12 meth (some .boolean) Y NZ tfZ) {Q : Int32 → sy_M → Prop} :
    ∀ (M : sy_M) (x2 : Int32) (x4 : Int32) (H : Heap) (locs : List Loc) (ls : Array Slot), wX12_isAhead_55 Q M x2 x4 → sy_H Y NZ EZ s H locs M → lv_has ls 5 [(2, .int x2), (4, .int x4)] → W p l e ({ frames := 1, cells := 0, slots := 0, locals := 20 } : Room) s m args below meth c H locs 0 0 (sy_ZI below args s Y NZ EZ Q) (F0 m 55 ls []) := by
  have hx := C.1.1
  have hb := C.1.2.1
  intro M x2 x4 H locs ls hq hh hl
  unfold wX12_isAhead_55 at hq
  refine lv_iload hx hb dX12_isAhead_55 (lv_at hl 1 rfl) ?_
  refine lv_bipush (v := (nI 8)) hx hb dX12_isAhead_57 (by decide) ?_
  refine lv_icmp_ge (tgt := 76) hx hb dX12_isAhead_59 (by decide) (fun c11 => ?_) (fun c11 => ?_)
  · have hq := hq.1 c11
    refine lv_iconst (v := (0 : Int32)) hx hb dX12_isAhead_76 (by decide) ?_
    exact sy_zret C hh dX12_isAhead_77 (by decide) hq
  · have hq := hq.2 c11
    refine lv_iload_n hx hb dX12_isAhead_62 rfl (lv_at hl 0 rfl) ?_
    refine lv_iload hx hb dX12_isAhead_63 (lv_at hl 1 rfl) ?_
    refine lv_ishr hx hb dX12_isAhead_65 ?_
    refine lv_iconst (v := (1 : Int32)) hx hb dX12_isAhead_66 (by decide) ?_
    refine lv_iand hx hb dX12_isAhead_67 ?_
    refine lv_iconst (v := (1 : Int32)) hx hb dX12_isAhead_68 (by decide) ?_
    refine lv_icmp_ne (tgt := 76) hx hb dX12_isAhead_69 (by decide) (fun c12 => ?_) (fun c12 => ?_)
    · have hq := hq.1 c12
      refine lv_iconst (v := (0 : Int32)) hx hb dX12_isAhead_76 (by decide) ?_
      exact sy_zret C hh dX12_isAhead_77 (by decide) hq
    · have hq := hq.2 c12
      refine lv_iconst (v := (1 : Int32)) hx hb dX12_isAhead_72 (by decide) ?_
      refine lv_goto (tgt := 77) hx hb dX12_isAhead_73 (by decide) ?_
      exact sy_zret C hh dX12_isAhead_77 (by decide) hq

end
set_option maxHeartbeats 4000000 in
set_option maxRecDepth 100000 in
theorem mX12_isAhead (l : Launch) (Y : sy_Y) (sz : Nat) (M : sy_M) (a1 : Int32) (a2 : Int32) (Q : Int32 → sy_M → Prop) (hq : wX12_isAhead M a1 a2 Q) : Met l yX12_isAhead vsX12_isAhead ({ frames := 1, cells := 0, slots := 0, locals := 20 } : Room) (va_Pc [.ref (Y.2.1 0), .int a1, .int a2] (sy_pre Y NZ EZ tfZ sz M)) (sy_QI Y NZ EZ sz Q) 0 0 (sy_A NZ Y.2.1 sz) := by
  refine sy_metI (by decide) rfl (Nat.le_of_ble_eq_true rfl) ?_
  intro p e s m args below meth c C ls hl hh
  have hx := C.1.1
  have hb := C.1.2.1
  have hl : lv_has ls 5 [(0, .ref (Y.2.1 0)), (1, .int a1), (2, .int a2)] := hl
  unfold wX12_isAhead at hq
  refine lv_iload_n hx hb dX12_isAhead_0 rfl (lv_at hl 1 rfl) ?_
  refine sy_cIS C hh (As := [.int a1]) (rest := []) (mJ6_bitCount_0f7a4 l Y _ M a1 _ hq) (va_cwS 1 C.1.2.2.2.2 (sy_goodS uZ_good uZ_218 uZ_219 uZ_220 uZ_221 _) rfl rfl rfl hdJ6_bitCount_0f7a4.2 ⟨Nat.le_of_ble_eq_true rfl, Nat.le_of_ble_eq_true rfl⟩) rfl hl.1 rfl (Nat.le_of_ble_eq_true rfl) dX12_isAhead_1 (fun r2 M1 H locs hq hh => ?_)
  refine lv_iload_n hx hb dX12_isAhead_4 rfl (lv_at hl 2 rfl) ?_
  refine sy_cIS C hh (As := [.int a2]) (rest := [.int r2]) (mJ6_bitCount_0f7a4 l Y _ M1 a2 _ hq) (va_cwS 1 C.1.2.2.2.2 (sy_goodS uZ_good uZ_218 uZ_219 uZ_220 uZ_221 _) rfl rfl rfl hdJ6_bitCount_0f7a4.2 ⟨Nat.le_of_ble_eq_true rfl, Nat.le_of_ble_eq_true rfl⟩) rfl hl.1 rfl (Nat.le_of_ble_eq_true rfl) dX12_isAhead_5 (fun r4 M3 H locs hq hh => ?_)
  refine lv_isub hx hb dX12_isAhead_8 ?_
  refine lv_istore_n (lv' := [(3, .int (r2 - r4)), (0, .ref (Y.2.1 0)), (1, .int a1), (2, .int a2)]) hx hb dX12_isAhead_9 rfl hl (by decide) rfl (fun ls hl => ?_)
  refine lv_iload_n hx hb dX12_isAhead_10 rfl (lv_at hl 0 rfl) ?_
  refine lv_if_eq (tgt := 24) hx hb dX12_isAhead_11 (by decide) (fun c5 => ?_) (fun c5 => ?_)
  · have hq := hq.1 c5
    refine lv_iconst (v := (0 : Int32)) hx hb dX12_isAhead_24 (by decide) ?_
    refine lv_istore (lv' := [(4, .int (0 : Int32)), (3, .int (r2 - r4)), (0, .ref (Y.2.1 0)), (1, .int a1), (2, .int a2)]) hx hb dX12_isAhead_25 hl (by decide) rfl (fun ls hl => ?_)
    obtain ⟨n13, hq⟩ := hq
    refine kX12_isAhead_27 C (fun M8 x2_9 x4_10 H locs ls hq hh hl => ?_) n13 M3 a1 a2 (0 : Int32) _ _ _ hq hh (lv_sub hl [3, 4, 0] rfl)
    · refine kX12_isAhead_55 C  M8 x2_9 x4_10 _ _ _ hq hh (lv_sub hl [0, 1] rfl)
  · have hq := hq.2 c5
    refine lv_iload_n hx hb dX12_isAhead_14 rfl (lv_at hl 0 rfl) ?_
    refine lv_if_ge (tgt := 22) hx hb dX12_isAhead_15 (by decide) (fun c14 => ?_) (fun c14 => ?_)
    · have hq := hq.1 c14
      refine lv_iconst (v := (0 : Int32)) hx hb dX12_isAhead_22 (by decide) ?_
      exact sy_zret C hh dX12_isAhead_23 (by decide) hq
    · have hq := hq.2 c14
      refine lv_iconst (v := (1 : Int32)) hx hb dX12_isAhead_18 (by decide) ?_
      refine lv_goto (tgt := 23) hx hb dX12_isAhead_19 (by decide) ?_
      exact sy_zret C hh dX12_isAhead_23 (by decide) hq

/-! AreaSetterModel.breaks(IIII)I -/
def wX12_breaks_78 (K_9 : sy_M → Int32 → Int32 → Int32 → Int32 → Int32 → Int32 → Int32 → Prop) (Q : Int32 → sy_M → Prop) (M : sy_M) (x1 : Int32) (x2 : Int32) (x3 : Int32) (x4 : Int32) (x5 : Int32) (x6 : Int32) (x7 : Int32) : Prop := K_9 M x1 x2 x3 x4 x5 x6 (x7 + (1 : Int32))
def wX12_breaks_70 (K_9 : sy_M → Int32 → Int32 → Int32 → Int32 → Int32 → Int32 → Int32 → Prop) (Q : Int32 → sy_M → Prop) (M : sy_M) (x1 : Int32) (x2 : Int32) (x3 : Int32) (x4 : Int32) (x7 : Int32) (x8 : Int32) : Prop := wX12_breaks_78 K_9 Q M x1 x2 x3 x4 x7 x8 x7
def wX12_breaks_9 (Q : Int32 → sy_M → Prop) : Nat → sy_M → Int32 → Int32 → Int32 → Int32 → Int32 → Int32 → Int32 → Prop
  | 0, _, _, _, _, _, _, _, _ => False
  | n + 1, M, x1, x2, x3, x4, x5, x6, x7 => ((((1 : Int32) <<< (((M 0 30) - (1 : Int32)) &&& 31)) ≤ x7 → Q x5 M) ∧ (¬ ((1 : Int32) <<< (((M 0 30) - (1 : Int32)) &&& 31)) ≤ x7 → wX12_laysRows M x7 x1 x2 x3 x4 (fun M2 => wX12_worst M2 (fun r4 M3 => ((x5 = (-1 : Int32) → wX12_breaks_70 (fun (M6 : sy_M) (x1_7 : Int32) (x2_8 : Int32) (x3_9 : Int32) (x4_10 : Int32) (x5_11 : Int32) (x6_12 : Int32) (x7_13 : Int32) => wX12_breaks_9 Q n M6 x1_7 x2_8 x3_9 x4_10 x5_11 x6_12 x7_13) Q M3 x1 x2 x3 x4 x7 r4) ∧ (¬ x5 = (-1 : Int32) → ((r4 < x6 → wX12_breaks_70 (fun (M15 : sy_M) (x1_16 : Int32) (x2_17 : Int32) (x3_18 : Int32) (x4_19 : Int32) (x5_20 : Int32) (x6_21 : Int32) (x7_22 : Int32) => wX12_breaks_9 Q n M15 x1_16 x2_17 x3_18 x4_19 x5_20 x6_21 x7_22) Q M3 x1 x2 x3 x4 x7 r4) ∧ (¬ r4 < x6 → ((¬ r4 = x6 → wX12_breaks_78 (fun (M24 : sy_M) (x1_25 : Int32) (x2_26 : Int32) (x3_27 : Int32) (x4_28 : Int32) (x5_29 : Int32) (x6_30 : Int32) (x7_31 : Int32) => wX12_breaks_9 Q n M24 x1_25 x2_26 x3_27 x4_28 x5_29 x6_30 x7_31) Q M3 x1 x2 x3 x4 x5 x6 x7) ∧ (r4 = x6 → wX12_isAhead M3 x7 x5 (fun r33 M32 => ((r33 = 0 → wX12_breaks_78 (fun (M35 : sy_M) (x1_36 : Int32) (x2_37 : Int32) (x3_38 : Int32) (x4_39 : Int32) (x5_40 : Int32) (x6_41 : Int32) (x7_42 : Int32) => wX12_breaks_9 Q n M35 x1_36 x2_37 x3_38 x4_39 x5_40 x6_41 x7_42) Q M32 x1 x2 x3 x4 x5 x6 x7) ∧ (¬ r33 = 0 → wX12_breaks_70 (fun (M43 : sy_M) (x1_44 : Int32) (x2_45 : Int32) (x3_46 : Int32) (x4_47 : Int32) (x5_48 : Int32) (x6_49 : Int32) (x7_50 : Int32) => wX12_breaks_9 Q n M43 x1_44 x2_45 x3_46 x4_47 x5_48 x6_49 x7_50) Q M32 x1 x2 x3 x4 x7 r4)))))))))))))
def wX12_breaks (M : sy_M) (a1 : Int32) (a2 : Int32) (a3 : Int32) (a4 : Int32) (Q : Int32 → sy_M → Prop) : Prop := ∃ n51 : Nat, wX12_breaks_9  Q n51 M a1 a2 a3 a4 (-1 : Int32) (0 : Int32) (0 : Int32)
section
variable {p : Program} {l : Launch} {e : Env} {s : State} {m : MethodId} {args : Array Value} {below : List Frame} {meth : Method} {c : Code} {Y : sy_Y}
set_option maxHeartbeats 4000000 in
set_option maxRecDepth 100000 in
theorem kX12_breaks_78 (C : sy_C p m c cX12_breaks 9 s args vsX12_breaks RX12 meth (some .int) Y NZ tfZ) {Q : Int32 → sy_M → Prop} {K_9 : sy_M → Int32 → Int32 → Int32 → Int32 → Int32 → Int32 → Int32 → Prop} (hK_9 : ∀ (M : sy_M) (x1 : Int32) (x2 : Int32) (x3 : Int32) (x4 : Int32) (x5 : Int32) (x6 : Int32) (x7 : Int32) (H : Heap) (locs : List Loc) (ls : Array Slot), K_9 M x1 x2 x3 x4 x5 x6 x7 → sy_H Y NZ EZ s H locs M → lv_has ls 9 [(0, .ref (Y.2.1 0)), (1, .int x1), (2, .int x2), (3, .int x3), (4, .int x4), (5, .int x5), (6, .int x6), (7, .int x7)] → W p l e ({ frames := 3, cells := 0, slots := 0, locals := 75 } : Room) s m args below meth c H locs 0 0 (sy_ZI below args s Y NZ EZ Q) (F0 m 9 ls [])) :
    ∀ (M : sy_M) (x1 : Int32) (x2 : Int32) (x3 : Int32) (x4 : Int32) (x5 : Int32) (x6 : Int32) (x7 : Int32) (H : Heap) (locs : List Loc) (ls : Array Slot), wX12_breaks_78 K_9 Q M x1 x2 x3 x4 x5 x6 x7 → sy_H Y NZ EZ s H locs M → lv_has ls 9 [(0, .ref (Y.2.1 0)), (1, .int x1), (2, .int x2), (3, .int x3), (4, .int x4), (5, .int x5), (6, .int x6), (7, .int x7)] → W p l e ({ frames := 3, cells := 0, slots := 0, locals := 75 } : Room) s m args below meth c H locs 0 0 (sy_ZI below args s Y NZ EZ Q) (F0 m 78 ls []) := by
  have hx := C.1.1
  have hb := C.1.2.1
  intro M x1 x2 x3 x4 x5 x6 x7 H locs ls hq hh hl
  unfold wX12_breaks_78 at hq
  refine lv_iinc (v := (x7 + (1 : Int32))) (lv' := [(7, .int (x7 + (1 : Int32))), (0, .ref (Y.2.1 0)), (1, .int x1), (2, .int x2), (3, .int x3), (4, .int x4), (5, .int x5), (6, .int x6)]) hx hb dX12_breaks_78 hl (k := 7) rfl (sy_inc (by decide)) (by decide) rfl (fun ls hl => ?_)
  refine lv_goto (tgt := 9) hx hb dX12_breaks_81 (by decide) ?_
  exact hK_9 M x1 x2 x3 x4 x5 x6 (x7 + (1 : Int32)) _ _ _ hq hh (lv_sub hl [1, 2, 3, 4, 5, 6, 7, 0] rfl)

set_option maxHeartbeats 4000000 in
set_option maxRecDepth 100000 in
theorem kX12_breaks_70 (C : sy_C p m c cX12_breaks 9 s args vsX12_breaks RX12 meth (some .int) Y NZ tfZ) {Q : Int32 → sy_M → Prop} {K_9 : sy_M → Int32 → Int32 → Int32 → Int32 → Int32 → Int32 → Int32 → Prop} (hK_9 : ∀ (M : sy_M) (x1 : Int32) (x2 : Int32) (x3 : Int32) (x4 : Int32) (x5 : Int32) (x6 : Int32) (x7 : Int32) (H : Heap) (locs : List Loc) (ls : Array Slot), K_9 M x1 x2 x3 x4 x5 x6 x7 → sy_H Y NZ EZ s H locs M → lv_has ls 9 [(0, .ref (Y.2.1 0)), (1, .int x1), (2, .int x2), (3, .int x3), (4, .int x4), (5, .int x5), (6, .int x6), (7, .int x7)] → W p l e ({ frames := 3, cells := 0, slots := 0, locals := 75 } : Room) s m args below meth c H locs 0 0 (sy_ZI below args s Y NZ EZ Q) (F0 m 9 ls [])) :
    ∀ (M : sy_M) (x1 : Int32) (x2 : Int32) (x3 : Int32) (x4 : Int32) (x7 : Int32) (x8 : Int32) (H : Heap) (locs : List Loc) (ls : Array Slot), wX12_breaks_70 K_9 Q M x1 x2 x3 x4 x7 x8 → sy_H Y NZ EZ s H locs M → lv_has ls 9 [(0, .ref (Y.2.1 0)), (1, .int x1), (2, .int x2), (3, .int x3), (4, .int x4), (7, .int x7), (8, .int x8)] → W p l e ({ frames := 3, cells := 0, slots := 0, locals := 75 } : Room) s m args below meth c H locs 0 0 (sy_ZI below args s Y NZ EZ Q) (F0 m 70 ls []) := by
  have hx := C.1.1
  have hb := C.1.2.1
  intro M x1 x2 x3 x4 x7 x8 H locs ls hq hh hl
  unfold wX12_breaks_70 at hq
  refine lv_iload hx hb dX12_breaks_70 (lv_at hl 5 rfl) ?_
  refine lv_istore (lv' := [(5, .int x7), (0, .ref (Y.2.1 0)), (1, .int x1), (2, .int x2), (3, .int x3), (4, .int x4), (7, .int x7), (8, .int x8)]) hx hb dX12_breaks_72 hl (by decide) rfl (fun ls hl => ?_)
  refine lv_iload hx hb dX12_breaks_74 (lv_at hl 7 rfl) ?_
  refine lv_istore (lv' := [(6, .int x8), (5, .int x7), (0, .ref (Y.2.1 0)), (1, .int x1), (2, .int x2), (3, .int x3), (4, .int x4), (7, .int x7), (8, .int x8)]) hx hb dX12_breaks_76 hl (by decide) rfl (fun ls hl => ?_)
  refine kX12_breaks_78 C hK_9 M x1 x2 x3 x4 x7 x8 x7 _ _ _ hq hh (lv_sub hl [2, 3, 4, 5, 6, 1, 0, 7] rfl)

set_option maxHeartbeats 4000000 in
set_option maxRecDepth 100000 in
theorem kX12_breaks_9 (C : sy_C p m c cX12_breaks 9 s args vsX12_breaks RX12 meth (some .int) Y NZ tfZ) {Q : Int32 → sy_M → Prop} :
    ∀ (n : Nat) (M : sy_M) (x1 : Int32) (x2 : Int32) (x3 : Int32) (x4 : Int32) (x5 : Int32) (x6 : Int32) (x7 : Int32) (H : Heap) (locs : List Loc) (ls : Array Slot), wX12_breaks_9 Q n M x1 x2 x3 x4 x5 x6 x7 → sy_H Y NZ EZ s H locs M → lv_has ls 9 [(0, .ref (Y.2.1 0)), (1, .int x1), (2, .int x2), (3, .int x3), (4, .int x4), (5, .int x5), (6, .int x6), (7, .int x7)] → W p l e ({ frames := 3, cells := 0, slots := 0, locals := 75 } : Room) s m args below meth c H locs 0 0 (sy_ZI below args s Y NZ EZ Q) (F0 m 9 ls []) := by
  have hx := C.1.1
  have hb := C.1.2.1
  intro n
  induction n with
  | zero =>
    intro M x1 x2 x3 x4 x5 x6 x7 H locs ls hq hh hl
    unfold wX12_breaks_9 at hq
    exact hq.elim
  | succ n ih =>
    intro M x1 x2 x3 x4 x5 x6 x7 H locs ls hq hh hl
    unfold wX12_breaks_9 at hq
    refine lv_iload hx hb dX12_breaks_9 (lv_at hl 7 rfl) ?_
    refine lv_iconst (v := (1 : Int32)) hx hb dX12_breaks_11 (by decide) ?_
    refine lv_aload_n hx hb dX12_breaks_12 rfl (lv_at hl 0 rfl) ?_
    refine sy_get C hh (fun w h => mc (uZ_fX12 w h)) 0 (by decide) (oZ_0 Y) rfl 30 (by decide) (index := 261) (mc uZ_195) (v := .int (M 0 30)) rfl dX12_breaks_13 ?_
    refine lv_iconst (v := (1 : Int32)) hx hb dX12_breaks_16 (by decide) ?_
    refine lv_isub hx hb dX12_breaks_17 ?_
    refine lv_ishl hx hb dX12_breaks_18 ?_
    refine lv_icmp_ge (tgt := 84) hx hb dX12_breaks_19 (by decide) (fun c1 => ?_) (fun c1 => ?_)
    · have hq := hq.1 c1
      refine lv_iload hx hb dX12_breaks_84 (lv_at hl 5 rfl) ?_
      exact sy_iret C hh dX12_breaks_86 hq
    · have hq := hq.2 c1
      refine lv_aload_n hx hb dX12_breaks_22 rfl (lv_at hl 0 rfl) ?_
      refine lv_iload hx hb dX12_breaks_23 (lv_at hl 7 rfl) ?_
      refine lv_iload_n hx hb dX12_breaks_25 rfl (lv_at hl 1 rfl) ?_
      refine lv_iload_n hx hb dX12_breaks_26 rfl (lv_at hl 2 rfl) ?_
      refine lv_iload_n hx hb dX12_breaks_27 rfl (lv_at hl 3 rfl) ?_
      refine lv_iload hx hb dX12_breaks_28 (lv_at hl 4 rfl) ?_
      refine sy_cVV C hh (As := [.int x7, .int x1, .int x2, .int x3, .int x4]) (rest := []) 0 (by decide) (oZ_0 Y) rfl (mX12_laysRows l Y _ M x7 x1 x2 x3 x4 _ hq) (cwV 5 C.1.2.2.2.2 (sy_goodV uZ_good uZ_225 uZ_226 uZ_227 uZ_55 uZ_216 _) rfl rfl rfl hdX12_laysRows ⟨Nat.le_of_ble_eq_true rfl, Nat.le_of_ble_eq_true rfl⟩) rfl hl.1 rfl (Nat.le_of_ble_eq_true rfl) dX12_breaks_30 (fun M2 H locs hq hh => ?_)
      refine lv_aload_n hx hb dX12_breaks_33 rfl (lv_at hl 0 rfl) ?_
      refine sy_cIV C hh (As := []) (rest := []) 0 (by decide) (oZ_0 Y) rfl (mX12_worst l Y _ M2  _ hq) (cwV 0 C.1.2.2.2.2 (sy_goodV uZ_good uZ_228 uZ_229 uZ_230 uZ_55 uZ_194 _) rfl rfl rfl hdX12_worst ⟨Nat.le_of_ble_eq_true rfl, Nat.le_of_ble_eq_true rfl⟩) rfl hl.1 rfl (Nat.le_of_ble_eq_true rfl) dX12_breaks_34 (fun r4 M3 H locs hq hh => ?_)
      refine lv_istore (lv' := [(8, .int r4), (0, .ref (Y.2.1 0)), (1, .int x1), (2, .int x2), (3, .int x3), (4, .int x4), (5, .int x5), (6, .int x6), (7, .int x7)]) hx hb dX12_breaks_37 hl (by decide) rfl (fun ls hl => ?_)
      refine lv_iload hx hb dX12_breaks_39 (lv_at hl 6 rfl) ?_
      refine lv_iconst (v := (-1 : Int32)) hx hb dX12_breaks_41 (by decide) ?_
      refine lv_icmp_eq (tgt := 70) hx hb dX12_breaks_42 (by decide) (fun c5 => ?_) (fun c5 => ?_)
      · have hq := hq.1 c5
        refine kX12_breaks_70 C (fun M6 x1_7 x2_8 x3_9 x4_10 x5_11 x6_12 x7_13 H locs ls hq hh hl => ?_) M3 x1 x2 x3 x4 x7 r4 _ _ _ hq hh (lv_sub hl [1, 2, 3, 4, 5, 8, 0] rfl)
        · exact ih M6 x1_7 x2_8 x3_9 x4_10 x5_11 x6_12 x7_13 _ _ _ hq hh (lv_sub hl [0, 1, 2, 3, 4, 5, 6, 7] rfl)
      · have hq := hq.2 c5
        refine lv_iload hx hb dX12_breaks_45 (lv_at hl 0 rfl) ?_
        refine lv_iload hx hb dX12_breaks_47 (lv_at hl 7 rfl) ?_
        refine lv_icmp_lt (tgt := 70) hx hb dX12_breaks_49 (by decide) (fun c14 => ?_) (fun c14 => ?_)
        · have hq := hq.1 c14
          refine kX12_breaks_70 C (fun M15 x1_16 x2_17 x3_18 x4_19 x5_20 x6_21 x7_22 H locs ls hq hh hl => ?_) M3 x1 x2 x3 x4 x7 r4 _ _ _ hq hh (lv_sub hl [1, 2, 3, 4, 5, 8, 0] rfl)
          · exact ih M15 x1_16 x2_17 x3_18 x4_19 x5_20 x6_21 x7_22 _ _ _ hq hh (lv_sub hl [0, 1, 2, 3, 4, 5, 6, 7] rfl)
        · have hq := hq.2 c14
          refine lv_iload hx hb dX12_breaks_52 (lv_at hl 0 rfl) ?_
          refine lv_iload hx hb dX12_breaks_54 (lv_at hl 7 rfl) ?_
          refine lv_icmp_ne (tgt := 78) hx hb dX12_breaks_56 (by decide) (fun c23 => ?_) (fun c23 => ?_)
          · have hq := hq.1 c23
            refine kX12_breaks_78 C (fun M24 x1_25 x2_26 x3_27 x4_28 x5_29 x6_30 x7_31 H locs ls hq hh hl => ?_) M3 x1 x2 x3 x4 x5 x6 x7 _ _ _ hq hh (lv_sub hl [1, 2, 3, 4, 5, 6, 7, 8] rfl)
            · exact ih M24 x1_25 x2_26 x3_27 x4_28 x5_29 x6_30 x7_31 _ _ _ hq hh (lv_sub hl [0, 1, 2, 3, 4, 5, 6, 7] rfl)
          · have hq := hq.2 c23
            refine lv_aload_n hx hb dX12_breaks_59 rfl (lv_at hl 1 rfl) ?_
            refine lv_iload hx hb dX12_breaks_60 (lv_at hl 8 rfl) ?_
            refine lv_iload hx hb dX12_breaks_62 (lv_at hl 6 rfl) ?_
            refine sy_cIV C hh (As := [.int x7, .int x5]) (rest := []) 0 (by decide) (oZ_0 Y) rfl (mX12_isAhead l Y _ M3 x7 x5 _ hq) (cwV 2 C.1.2.2.2.2 (sy_goodV uZ_good uZ_231 uZ_232 uZ_233 uZ_55 uZ_217 _) rfl rfl rfl hdX12_isAhead ⟨Nat.le_of_ble_eq_true rfl, Nat.le_of_ble_eq_true rfl⟩) rfl hl.1 rfl (Nat.le_of_ble_eq_true rfl) dX12_breaks_64 (fun r33 M32 H locs hq hh => ?_)
            refine lv_if_eq (tgt := 78) hx hb dX12_breaks_67 (by decide) (fun c34 => ?_) (fun c34 => ?_)
            · have hq := hq.1 c34
              refine kX12_breaks_78 C (fun M35 x1_36 x2_37 x3_38 x4_39 x5_40 x6_41 x7_42 H locs ls hq hh hl => ?_) M32 x1 x2 x3 x4 x5 x6 x7 _ _ _ hq hh (lv_sub hl [1, 2, 3, 4, 5, 6, 7, 8] rfl)
              · exact ih M35 x1_36 x2_37 x3_38 x4_39 x5_40 x6_41 x7_42 _ _ _ hq hh (lv_sub hl [0, 1, 2, 3, 4, 5, 6, 7] rfl)
            · have hq := hq.2 c34
              refine kX12_breaks_70 C (fun M43 x1_44 x2_45 x3_46 x4_47 x5_48 x6_49 x7_50 H locs ls hq hh hl => ?_) M32 x1 x2 x3 x4 x7 r4 _ _ _ hq hh (lv_sub hl [1, 2, 3, 4, 5, 8, 0] rfl)
              · exact ih M43 x1_44 x2_45 x3_46 x4_47 x5_48 x6_49 x7_50 _ _ _ hq hh (lv_sub hl [0, 1, 2, 3, 4, 5, 6, 7] rfl)

end
set_option maxHeartbeats 4000000 in
set_option maxRecDepth 100000 in
theorem mX12_breaks (l : Launch) (Y : sy_Y) (sz : Nat) (M : sy_M) (a1 : Int32) (a2 : Int32) (a3 : Int32) (a4 : Int32) (Q : Int32 → sy_M → Prop) (hq : wX12_breaks M a1 a2 a3 a4 Q) : Met l yX12_breaks vsX12_breaks ({ frames := 3, cells := 0, slots := 0, locals := 75 } : Room) (va_Pc [.ref (Y.2.1 0), .int a1, .int a2, .int a3, .int a4] (sy_pre Y NZ EZ tfZ sz M)) (sy_QI Y NZ EZ sz Q) 0 0 (sy_A NZ Y.2.1 sz) := by
  refine sy_metI (by decide) rfl (Nat.le_of_ble_eq_true rfl) ?_
  intro p e s m args below meth c C ls hl hh
  have hx := C.1.1
  have hb := C.1.2.1
  have hl : lv_has ls 9 [(0, .ref (Y.2.1 0)), (1, .int a1), (2, .int a2), (3, .int a3), (4, .int a4)] := hl
  unfold wX12_breaks at hq
  refine lv_iconst (v := (-1 : Int32)) hx hb dX12_breaks_0 (by decide) ?_
  refine lv_istore (lv' := [(5, .int (-1 : Int32)), (0, .ref (Y.2.1 0)), (1, .int a1), (2, .int a2), (3, .int a3), (4, .int a4)]) hx hb dX12_breaks_1 hl (by decide) rfl (fun ls hl => ?_)
  refine lv_iconst (v := (0 : Int32)) hx hb dX12_breaks_3 (by decide) ?_
  refine lv_istore (lv' := [(6, .int (0 : Int32)), (5, .int (-1 : Int32)), (0, .ref (Y.2.1 0)), (1, .int a1), (2, .int a2), (3, .int a3), (4, .int a4)]) hx hb dX12_breaks_4 hl (by decide) rfl (fun ls hl => ?_)
  refine lv_iconst (v := (0 : Int32)) hx hb dX12_breaks_6 (by decide) ?_
  refine lv_istore (lv' := [(7, .int (0 : Int32)), (6, .int (0 : Int32)), (5, .int (-1 : Int32)), (0, .ref (Y.2.1 0)), (1, .int a1), (2, .int a2), (3, .int a3), (4, .int a4)]) hx hb dX12_breaks_7 hl (by decide) rfl (fun ls hl => ?_)
  obtain ⟨n51, hq⟩ := hq
  refine kX12_breaks_9 C  n51 M a1 a2 a3 a4 (-1 : Int32) (0 : Int32) (0 : Int32) _ _ _ hq hh (lv_sub hl [3, 4, 5, 6, 7, 2, 1, 0] rfl)

/-! AreaSetterModel.firstPart(IIII)I -/
def wX12_firstPart (M : sy_M) (a1 : Int32) (a2 : Int32) (a3 : Int32) (a4 : Int32) (Q : Int32 → sy_M → Prop) : Prop := wX12_sum M a2 a4 (fun r2 M1 => ((¬ r2 = 0 → wX12_sum M1 a2 (a2 + a3) (fun r5 M4 => (¬ (r2.toInt64) = 0) ∧ Q ((((a1.toInt64) * (r5.toInt64)) / (r2.toInt64)).toInt32) M4)) ∧ (r2 = 0 → Q (0 : Int32) M1)))
section
variable {p : Program} {l : Launch} {e : Env} {s : State} {m : MethodId} {args : Array Value} {below : List Frame} {meth : Method} {c : Code} {Y : sy_Y}
end
set_option maxHeartbeats 4000000 in
set_option maxRecDepth 100000 in
theorem mX12_firstPart (l : Launch) (Y : sy_Y) (sz : Nat) (M : sy_M) (a1 : Int32) (a2 : Int32) (a3 : Int32) (a4 : Int32) (Q : Int32 → sy_M → Prop) (hq : wX12_firstPart M a1 a2 a3 a4 Q) : Met l yX12_firstPart vsX12_firstPart ({ frames := 1, cells := 0, slots := 0, locals := 22 } : Room) (va_Pc [.ref (Y.2.1 0), .int a1, .int a2, .int a3, .int a4] (sy_pre Y NZ EZ tfZ sz M)) (sy_QI Y NZ EZ sz Q) 0 0 (sy_A NZ Y.2.1 sz) := by
  refine sy_metI (by decide) rfl (Nat.le_of_ble_eq_true rfl) ?_
  intro p e s m args below meth c C ls hl hh
  have hx := C.1.1
  have hb := C.1.2.1
  have hl : lv_has ls 6 [(0, .ref (Y.2.1 0)), (1, .int a1), (2, .int a2), (3, .int a3), (4, .int a4)] := hl
  unfold wX12_firstPart at hq
  refine lv_aload_n hx hb dX12_firstPart_0 rfl (lv_at hl 0 rfl) ?_
  refine lv_iload_n hx hb dX12_firstPart_1 rfl (lv_at hl 2 rfl) ?_
  refine lv_iload hx hb dX12_firstPart_2 (lv_at hl 4 rfl) ?_
  refine sy_cIV C hh (As := [.int a2, .int a4]) (rest := []) 0 (by decide) (oZ_0 Y) rfl (mX12_sum l Y _ M a2 a4 _ hq) (cwV 2 C.1.2.2.2.2 (sy_goodV uZ_good uZ_204 uZ_205 uZ_206 uZ_55 uZ_202 _) rfl rfl rfl hdX12_sum ⟨Nat.le_of_ble_eq_true rfl, Nat.le_of_ble_eq_true rfl⟩) rfl hl.1 rfl (Nat.le_of_ble_eq_true rfl) dX12_firstPart_4 (fun r2 M1 H locs hq hh => ?_)
  refine lv_istore (lv' := [(5, .int r2), (0, .ref (Y.2.1 0)), (1, .int a1), (2, .int a2), (3, .int a3), (4, .int a4)]) hx hb dX12_firstPart_7 hl (by decide) rfl (fun ls hl => ?_)
  refine lv_iload hx hb dX12_firstPart_9 (lv_at hl 0 rfl) ?_
  refine lv_if_ne (tgt := 18) hx hb dX12_firstPart_11 (by decide) (fun c3 => ?_) (fun c3 => ?_)
  · have hq := hq.1 c3
    refine lv_iload_n hx hb dX12_firstPart_18 rfl (lv_at hl 2 rfl) ?_
    refine lv_i2l (v := (a1.toInt64)) hx hb dX12_firstPart_19 rfl ?_
    refine lv_aload_n hx hb dX12_firstPart_20 rfl (lv_at hl 1 rfl) ?_
    refine lv_iload_n hx hb dX12_firstPart_21 rfl (lv_at hl 3 rfl) ?_
    refine lv_iload_n hx hb dX12_firstPart_22 rfl (lv_at hl 3 rfl) ?_
    refine lv_iload_n hx hb dX12_firstPart_23 rfl (lv_at hl 4 rfl) ?_
    refine lv_iadd hx hb dX12_firstPart_24 ?_
    refine sy_cIV C hh (As := [.int a2, .int (a2 + a3)]) (rest := [.long (a1.toInt64)]) 0 (by decide) (oZ_0 Y) rfl (mX12_sum l Y _ M1 a2 (a2 + a3) _ hq) (cwV 2 C.1.2.2.2.2 (sy_goodV uZ_good uZ_204 uZ_205 uZ_206 uZ_55 uZ_202 _) rfl rfl rfl hdX12_sum ⟨Nat.le_of_ble_eq_true rfl, Nat.le_of_ble_eq_true rfl⟩) rfl hl.1 rfl (Nat.le_of_ble_eq_true rfl) dX12_firstPart_25 (fun r5 M4 H locs hq hh => ?_)
    refine lv_i2l (v := (r5.toInt64)) hx hb dX12_firstPart_28 rfl ?_
    refine lv_lmul hx hb dX12_firstPart_29 ?_
    refine lv_iload hx hb dX12_firstPart_30 (lv_at hl 0 rfl) ?_
    refine lv_i2l (v := (r2.toInt64)) hx hb dX12_firstPart_32 rfl ?_
    obtain ⟨e6, hq⟩ := hq
    refine lv_ldiv hx hb dX12_firstPart_33 e6 ?_
    refine lv_l2i (v := ((((a1.toInt64) * (r5.toInt64)) / (r2.toInt64)).toInt32)) hx hb dX12_firstPart_34 rfl ?_
    exact sy_iret C hh dX12_firstPart_35 hq
  · have hq := hq.2 c3
    refine lv_iconst (v := (0 : Int32)) hx hb dX12_firstPart_14 (by decide) ?_
    refine lv_goto (tgt := 35) hx hb dX12_firstPart_15 (by decide) ?_
    exact sy_iret C hh dX12_firstPart_35 hq

/-! AreaSetterModel.cutBy(IIIIII)I -/
def wX12_cutBy_90 (rec : sy_M → Int32 → Int32 → Int32 → Int32 → (Int32 → sy_M → Prop) → Prop) (Q : Int32 → sy_M → Prop) (M : sy_M) (x8 : Int32) (s1 : Int32) (s2 : Int32) (s3 : Int32) (s4 : Int32) : Prop := rec M s1 s2 s3 s4 (fun r11 M10 => Q (imax x8 r11) M10)
def wX12_cutBy_75 (rec : sy_M → Int32 → Int32 → Int32 → Int32 → (Int32 → sy_M → Prop) → Prop) (Q : Int32 → sy_M → Prop) (M : sy_M) (x4 : Int32) (x6 : Int32) (x7 : Int32) (x8 : Int32) (s1 : Int32) (s2 : Int32) (s3 : Int32) : Prop := ((¬ x4 = 0 → wX12_cutBy_90 rec  Q M x8 s1 s2 s3 (x6 - x7)) ∧ (x4 = 0 → wX12_cutBy_90 rec  Q M x8 s1 s2 s3 x6))
def wX12_cutBy_50 (rec : sy_M → Int32 → Int32 → Int32 → Int32 → (Int32 → sy_M → Prop) → Prop) (Q : Int32 → sy_M → Prop) (M : sy_M) (x1 : Int32) (x2 : Int32) (x3 : Int32) (x4 : Int32) (x5 : Int32) (x6 : Int32) (x7 : Int32) (s1 : Int32) (s2 : Int32) (s3 : Int32) (s4 : Int32) : Prop := rec M s1 s2 s3 s4 (fun r7 M6 => ((¬ x4 = 0 → wX12_cutBy_75 rec  Q M6 x4 x6 x7 r7 (x1 + x3) x2 x5) ∧ (x4 = 0 → wX12_cutBy_75 rec  Q M6 x4 x6 x7 r7 (x1 + x3) x2 (x5 - x7))))
def wX12_cutBy_38 (rec : sy_M → Int32 → Int32 → Int32 → Int32 → (Int32 → sy_M → Prop) → Prop) (Q : Int32 → sy_M → Prop) (M : sy_M) (x1 : Int32) (x2 : Int32) (x3 : Int32) (x4 : Int32) (x5 : Int32) (x6 : Int32) (x7 : Int32) (s1 : Int32) (s2 : Int32) (s3 : Int32) : Prop := ((¬ x4 = 0 → wX12_cutBy_50 rec  Q M x1 x2 x3 x4 x5 x6 x7 s1 s2 s3 x7) ∧ (x4 = 0 → wX12_cutBy_50 rec  Q M x1 x2 x3 x4 x5 x6 x7 s1 s2 s3 x6))
def wX12_cutBy_13 (rec : sy_M → Int32 → Int32 → Int32 → Int32 → (Int32 → sy_M → Prop) → Prop) (Q : Int32 → sy_M → Prop) (M : sy_M) (x1 : Int32) (x2 : Int32) (x3 : Int32) (x4 : Int32) (x5 : Int32) (x6 : Int32) (s1 : Int32) : Prop := wX12_firstPart M s1 x1 x3 x2 (fun r3 M2 => ((¬ x4 = 0 → wX12_cutBy_38 rec  Q M2 x1 x2 x3 x4 x5 x6 r3 x1 (x1 + x3) x5) ∧ (x4 = 0 → wX12_cutBy_38 rec  Q M2 x1 x2 x3 x4 x5 x6 r3 x1 (x1 + x3) r3)))
def wX12_cutBy (rec : sy_M → Int32 → Int32 → Int32 → Int32 → (Int32 → sy_M → Prop) → Prop) (M : sy_M) (a1 : Int32) (a2 : Int32) (a3 : Int32) (a4 : Int32) (a5 : Int32) (a6 : Int32) (Q : Int32 → sy_M → Prop) : Prop := ((¬ a4 = 0 → wX12_cutBy_13 rec  Q M a1 a2 a3 a4 a5 a6 a6) ∧ (a4 = 0 → wX12_cutBy_13 rec  Q M a1 a2 a3 a4 a5 a6 a5))
section
variable {p : Program} {l : Launch} {e : Env} {s : State} {m : MethodId} {args : Array Value} {below : List Frame} {meth : Method} {c : Code} {Y : sy_Y}
set_option maxHeartbeats 4000000 in
set_option maxRecDepth 100000 in
theorem kX12_cutBy_90 (C : sy_C p m c cX12_cutBy 10 s args vsX12_cutBy RX12 meth (some .int) Y NZ tfZ) {rec : sy_M → Int32 → Int32 → Int32 → Int32 → (Int32 → sy_M → Prop) → Prop} {rm0 : Room} (hrec : ∀ (sz : Nat) (M : sy_M) (a1 : Int32) (a2 : Int32) (a3 : Int32) (a4 : Int32) (Q : Int32 → sy_M → Prop), rec M a1 a2 a3 a4 Q → Met l yX12_cutWorst vsX12_cutWorst rm0 (va_Pc [.ref (Y.2.1 0), .int a1, .int a2, .int a3, .int a4] (sy_pre Y NZ EZ tfZ sz M)) (sy_QI Y NZ EZ sz Q) 0 0 (sy_A NZ Y.2.1 sz)) (hrf : rm0.frames + 1 ≤ rm0.frames + 1 + 0) (hrl : 8 + (8 + 11) + rm0.locals ≤ rm0.locals + 27 + 0) {Q : Int32 → sy_M → Prop} :
    ∀ (M : sy_M) (x8 : Int32) (s1 : Int32) (s2 : Int32) (s3 : Int32) (s4 : Int32) (H : Heap) (locs : List Loc) (ls : Array Slot), wX12_cutBy_90 rec Q M x8 s1 s2 s3 s4 → sy_H Y NZ EZ s H locs M → lv_has ls 10 [(8, .int x8)] → W p l e ({ frames := rm0.frames + 1 + 0, cells := 0, slots := 0, locals := rm0.locals + 27 + 0 } : Room) s m args below meth c H locs 0 0 (sy_ZI below args s Y NZ EZ Q) (F0 m 90 ls [.int s4, .int s3, .int s2, .int s1, .ref (Y.2.1 0)]) := by
  have hx := C.1.1
  have hb := C.1.2.1
  intro M x8 s1 s2 s3 s4 H locs ls hq hh hl
  unfold wX12_cutBy_90 at hq
  refine sy_cIV C hh (As := [.int s1, .int s2, .int s3, .int s4]) (rest := []) 0 (by decide) (oZ_0 Y) rfl (hrec _ M s1 s2 s3 s4 _ hq) (cwV 4 C.1.2.2.2.2 (sy_goodV uZ_good uZ_239 uZ_240 uZ_241 uZ_55 uZ_242 _) rfl rfl rfl hdX12_cutWorst ⟨hrf, hrl⟩) rfl hl.1 rfl (Nat.le_of_ble_eq_true rfl) dX12_cutBy_90 (fun r11 M10 H locs hq hh => ?_)
  refine lv_istore (lv' := [(9, .int r11), (8, .int x8)]) hx hb dX12_cutBy_93 hl (by decide) rfl (fun ls hl => ?_)
  refine lv_iload hx hb dX12_cutBy_95 (lv_at hl 1 rfl) ?_
  refine lv_iload hx hb dX12_cutBy_97 (lv_at hl 0 rfl) ?_
  refine sy_mmax C hl (index := 268) (mc uZ_196) (mc uZ_197) (mc uZ_198) (mc uZ_199) (by show _ ≤ _; simp only []; omega) (by show _ ≤ _; simp only []; omega) dX12_cutBy_99 ?_
  exact sy_iret C hh dX12_cutBy_102 hq

set_option maxHeartbeats 4000000 in
set_option maxRecDepth 100000 in
theorem kX12_cutBy_75 (C : sy_C p m c cX12_cutBy 10 s args vsX12_cutBy RX12 meth (some .int) Y NZ tfZ) {rec : sy_M → Int32 → Int32 → Int32 → Int32 → (Int32 → sy_M → Prop) → Prop} {rm0 : Room} (hrec : ∀ (sz : Nat) (M : sy_M) (a1 : Int32) (a2 : Int32) (a3 : Int32) (a4 : Int32) (Q : Int32 → sy_M → Prop), rec M a1 a2 a3 a4 Q → Met l yX12_cutWorst vsX12_cutWorst rm0 (va_Pc [.ref (Y.2.1 0), .int a1, .int a2, .int a3, .int a4] (sy_pre Y NZ EZ tfZ sz M)) (sy_QI Y NZ EZ sz Q) 0 0 (sy_A NZ Y.2.1 sz)) (hrf : rm0.frames + 1 ≤ rm0.frames + 1 + 0) (hrl : 8 + (8 + 11) + rm0.locals ≤ rm0.locals + 27 + 0) {Q : Int32 → sy_M → Prop} :
    ∀ (M : sy_M) (x4 : Int32) (x6 : Int32) (x7 : Int32) (x8 : Int32) (s1 : Int32) (s2 : Int32) (s3 : Int32) (H : Heap) (locs : List Loc) (ls : Array Slot), wX12_cutBy_75 rec Q M x4 x6 x7 x8 s1 s2 s3 → sy_H Y NZ EZ s H locs M → lv_has ls 10 [(4, .int x4), (6, .int x6), (7, .int x7), (8, .int x8)] → W p l e ({ frames := rm0.frames + 1 + 0, cells := 0, slots := 0, locals := rm0.locals + 27 + 0 } : Room) s m args below meth c H locs 0 0 (sy_ZI below args s Y NZ EZ Q) (F0 m 75 ls [.int s3, .int s2, .int s1, .ref (Y.2.1 0)]) := by
  have hx := C.1.1
  have hb := C.1.2.1
  intro M x4 x6 x7 x8 s1 s2 s3 H locs ls hq hh hl
  unfold wX12_cutBy_75 at hq
  refine lv_iload hx hb dX12_cutBy_75 (lv_at hl 0 rfl) ?_
  refine lv_if_ne (tgt := 85) hx hb dX12_cutBy_77 (by decide) (fun c9 => ?_) (fun c9 => ?_)
  · have hq := hq.1 c9
    refine lv_iload hx hb dX12_cutBy_85 (lv_at hl 1 rfl) ?_
    refine lv_iload hx hb dX12_cutBy_87 (lv_at hl 2 rfl) ?_
    refine lv_isub hx hb dX12_cutBy_89 ?_
    refine kX12_cutBy_90 C hrec hrf hrl  M x8 s1 s2 s3 (x6 - x7) _ _ _ hq hh (lv_sub hl [3] rfl)
  · have hq := hq.2 c9
    refine lv_iload hx hb dX12_cutBy_80 (lv_at hl 1 rfl) ?_
    refine lv_goto (tgt := 90) hx hb dX12_cutBy_82 (by decide) ?_
    refine kX12_cutBy_90 C hrec hrf hrl  M x8 s1 s2 s3 x6 _ _ _ hq hh (lv_sub hl [3] rfl)

set_option maxHeartbeats 4000000 in
set_option maxRecDepth 100000 in
theorem kX12_cutBy_50 (C : sy_C p m c cX12_cutBy 10 s args vsX12_cutBy RX12 meth (some .int) Y NZ tfZ) {rec : sy_M → Int32 → Int32 → Int32 → Int32 → (Int32 → sy_M → Prop) → Prop} {rm0 : Room} (hrec : ∀ (sz : Nat) (M : sy_M) (a1 : Int32) (a2 : Int32) (a3 : Int32) (a4 : Int32) (Q : Int32 → sy_M → Prop), rec M a1 a2 a3 a4 Q → Met l yX12_cutWorst vsX12_cutWorst rm0 (va_Pc [.ref (Y.2.1 0), .int a1, .int a2, .int a3, .int a4] (sy_pre Y NZ EZ tfZ sz M)) (sy_QI Y NZ EZ sz Q) 0 0 (sy_A NZ Y.2.1 sz)) (hrf : rm0.frames + 1 ≤ rm0.frames + 1 + 0) (hrl : 8 + (8 + 11) + rm0.locals ≤ rm0.locals + 27 + 0) {Q : Int32 → sy_M → Prop} :
    ∀ (M : sy_M) (x1 : Int32) (x2 : Int32) (x3 : Int32) (x4 : Int32) (x5 : Int32) (x6 : Int32) (x7 : Int32) (s1 : Int32) (s2 : Int32) (s3 : Int32) (s4 : Int32) (H : Heap) (locs : List Loc) (ls : Array Slot), wX12_cutBy_50 rec Q M x1 x2 x3 x4 x5 x6 x7 s1 s2 s3 s4 → sy_H Y NZ EZ s H locs M → lv_has ls 10 [(0, .ref (Y.2.1 0)), (1, .int x1), (2, .int x2), (3, .int x3), (4, .int x4), (5, .int x5), (6, .int x6), (7, .int x7)] → W p l e ({ frames := rm0.frames + 1 + 0, cells := 0, slots := 0, locals := rm0.locals + 27 + 0 } : Room) s m args below meth c H locs 0 0 (sy_ZI below args s Y NZ EZ Q) (F0 m 50 ls [.int s4, .int s3, .int s2, .int s1, .ref (Y.2.1 0)]) := by
  have hx := C.1.1
  have hb := C.1.2.1
  intro M x1 x2 x3 x4 x5 x6 x7 s1 s2 s3 s4 H locs ls hq hh hl
  unfold wX12_cutBy_50 at hq
  refine sy_cIV C hh (As := [.int s1, .int s2, .int s3, .int s4]) (rest := []) 0 (by decide) (oZ_0 Y) rfl (hrec _ M s1 s2 s3 s4 _ hq) (cwV 4 C.1.2.2.2.2 (sy_goodV uZ_good uZ_239 uZ_240 uZ_241 uZ_55 uZ_242 _) rfl rfl rfl hdX12_cutWorst ⟨hrf, hrl⟩) rfl hl.1 rfl (Nat.le_of_ble_eq_true rfl) dX12_cutBy_50 (fun r7 M6 H locs hq hh => ?_)
  refine lv_istore (lv' := [(8, .int r7), (0, .ref (Y.2.1 0)), (1, .int x1), (2, .int x2), (3, .int x3), (4, .int x4), (5, .int x5), (6, .int x6), (7, .int x7)]) hx hb dX12_cutBy_53 hl (by decide) rfl (fun ls hl => ?_)
  refine lv_aload_n hx hb dX12_cutBy_55 rfl (lv_at hl 1 rfl) ?_
  refine lv_iload_n hx hb dX12_cutBy_56 rfl (lv_at hl 2 rfl) ?_
  refine lv_iload_n hx hb dX12_cutBy_57 rfl (lv_at hl 4 rfl) ?_
  refine lv_iadd hx hb dX12_cutBy_58 ?_
  refine lv_iload_n hx hb dX12_cutBy_59 rfl (lv_at hl 3 rfl) ?_
  refine lv_iload hx hb dX12_cutBy_60 (lv_at hl 5 rfl) ?_
  refine lv_if_ne (tgt := 73) hx hb dX12_cutBy_62 (by decide) (fun c8 => ?_) (fun c8 => ?_)
  · have hq := hq.1 c8
    refine lv_iload hx hb dX12_cutBy_73 (lv_at hl 6 rfl) ?_
    refine kX12_cutBy_75 C hrec hrf hrl  M6 x4 x6 x7 r7 (x1 + x3) x2 x5 _ _ _ hq hh (lv_sub hl [5, 7, 8, 0] rfl)
  · have hq := hq.2 c8
    refine lv_iload hx hb dX12_cutBy_65 (lv_at hl 6 rfl) ?_
    refine lv_iload hx hb dX12_cutBy_67 (lv_at hl 8 rfl) ?_
    refine lv_isub hx hb dX12_cutBy_69 ?_
    refine lv_goto (tgt := 75) hx hb dX12_cutBy_70 (by decide) ?_
    refine kX12_cutBy_75 C hrec hrf hrl  M6 x4 x6 x7 r7 (x1 + x3) x2 (x5 - x7) _ _ _ hq hh (lv_sub hl [5, 7, 8, 0] rfl)

set_option maxHeartbeats 4000000 in
set_option maxRecDepth 100000 in
theorem kX12_cutBy_38 (C : sy_C p m c cX12_cutBy 10 s args vsX12_cutBy RX12 meth (some .int) Y NZ tfZ) {rec : sy_M → Int32 → Int32 → Int32 → Int32 → (Int32 → sy_M → Prop) → Prop} {rm0 : Room} (hrec : ∀ (sz : Nat) (M : sy_M) (a1 : Int32) (a2 : Int32) (a3 : Int32) (a4 : Int32) (Q : Int32 → sy_M → Prop), rec M a1 a2 a3 a4 Q → Met l yX12_cutWorst vsX12_cutWorst rm0 (va_Pc [.ref (Y.2.1 0), .int a1, .int a2, .int a3, .int a4] (sy_pre Y NZ EZ tfZ sz M)) (sy_QI Y NZ EZ sz Q) 0 0 (sy_A NZ Y.2.1 sz)) (hrf : rm0.frames + 1 ≤ rm0.frames + 1 + 0) (hrl : 8 + (8 + 11) + rm0.locals ≤ rm0.locals + 27 + 0) {Q : Int32 → sy_M → Prop} :
    ∀ (M : sy_M) (x1 : Int32) (x2 : Int32) (x3 : Int32) (x4 : Int32) (x5 : Int32) (x6 : Int32) (x7 : Int32) (s1 : Int32) (s2 : Int32) (s3 : Int32) (H : Heap) (locs : List Loc) (ls : Array Slot), wX12_cutBy_38 rec Q M x1 x2 x3 x4 x5 x6 x7 s1 s2 s3 → sy_H Y NZ EZ s H locs M → lv_has ls 10 [(0, .ref (Y.2.1 0)), (1, .int x1), (2, .int x2), (3, .int x3), (4, .int x4), (5, .int x5), (6, .int x6), (7, .int x7)] → W p l e ({ frames := rm0.frames + 1 + 0, cells := 0, slots := 0, locals := rm0.locals + 27 + 0 } : Room) s m args below meth c H locs 0 0 (sy_ZI below args s Y NZ EZ Q) (F0 m 38 ls [.int s3, .int s2, .int s1, .ref (Y.2.1 0)]) := by
  have hx := C.1.1
  have hb := C.1.2.1
  intro M x1 x2 x3 x4 x5 x6 x7 s1 s2 s3 H locs ls hq hh hl
  unfold wX12_cutBy_38 at hq
  refine lv_iload hx hb dX12_cutBy_38 (lv_at hl 4 rfl) ?_
  refine lv_if_ne (tgt := 48) hx hb dX12_cutBy_40 (by decide) (fun c5 => ?_) (fun c5 => ?_)
  · have hq := hq.1 c5
    refine lv_iload hx hb dX12_cutBy_48 (lv_at hl 7 rfl) ?_
    refine kX12_cutBy_50 C hrec hrf hrl  M x1 x2 x3 x4 x5 x6 x7 s1 s2 s3 x7 _ _ _ hq hh (lv_sub hl [0, 1, 2, 3, 4, 5, 6, 7] rfl)
  · have hq := hq.2 c5
    refine lv_iload hx hb dX12_cutBy_43 (lv_at hl 6 rfl) ?_
    refine lv_goto (tgt := 50) hx hb dX12_cutBy_45 (by decide) ?_
    refine kX12_cutBy_50 C hrec hrf hrl  M x1 x2 x3 x4 x5 x6 x7 s1 s2 s3 x6 _ _ _ hq hh (lv_sub hl [0, 1, 2, 3, 4, 5, 6, 7] rfl)

set_option maxHeartbeats 4000000 in
set_option maxRecDepth 100000 in
theorem kX12_cutBy_13 (C : sy_C p m c cX12_cutBy 10 s args vsX12_cutBy RX12 meth (some .int) Y NZ tfZ) {rec : sy_M → Int32 → Int32 → Int32 → Int32 → (Int32 → sy_M → Prop) → Prop} {rm0 : Room} (hrec : ∀ (sz : Nat) (M : sy_M) (a1 : Int32) (a2 : Int32) (a3 : Int32) (a4 : Int32) (Q : Int32 → sy_M → Prop), rec M a1 a2 a3 a4 Q → Met l yX12_cutWorst vsX12_cutWorst rm0 (va_Pc [.ref (Y.2.1 0), .int a1, .int a2, .int a3, .int a4] (sy_pre Y NZ EZ tfZ sz M)) (sy_QI Y NZ EZ sz Q) 0 0 (sy_A NZ Y.2.1 sz)) (hrf : rm0.frames + 1 ≤ rm0.frames + 1 + 0) (hrl : 8 + (8 + 11) + rm0.locals ≤ rm0.locals + 27 + 0) {Q : Int32 → sy_M → Prop} :
    ∀ (M : sy_M) (x1 : Int32) (x2 : Int32) (x3 : Int32) (x4 : Int32) (x5 : Int32) (x6 : Int32) (s1 : Int32) (H : Heap) (locs : List Loc) (ls : Array Slot), wX12_cutBy_13 rec Q M x1 x2 x3 x4 x5 x6 s1 → sy_H Y NZ EZ s H locs M → lv_has ls 10 [(0, .ref (Y.2.1 0)), (1, .int x1), (2, .int x2), (3, .int x3), (4, .int x4), (5, .int x5), (6, .int x6)] → W p l e ({ frames := rm0.frames + 1 + 0, cells := 0, slots := 0, locals := rm0.locals + 27 + 0 } : Room) s m args below meth c H locs 0 0 (sy_ZI below args s Y NZ EZ Q) (F0 m 13 ls [.int s1, .ref (Y.2.1 0)]) := by
  have hx := C.1.1
  have hb := C.1.2.1
  intro M x1 x2 x3 x4 x5 x6 s1 H locs ls hq hh hl
  unfold wX12_cutBy_13 at hq
  refine lv_iload_n hx hb dX12_cutBy_13 rfl (lv_at hl 1 rfl) ?_
  refine lv_iload_n hx hb dX12_cutBy_14 rfl (lv_at hl 3 rfl) ?_
  refine lv_iload_n hx hb dX12_cutBy_15 rfl (lv_at hl 2 rfl) ?_
  refine sy_cIV C hh (As := [.int s1, .int x1, .int x3, .int x2]) (rest := []) 0 (by decide) (oZ_0 Y) rfl (mX12_firstPart l Y _ M s1 x1 x3 x2 _ hq) (cwV 4 C.1.2.2.2.2 (sy_goodV uZ_good uZ_236 uZ_237 uZ_238 uZ_55 uZ_235 _) rfl rfl rfl hdX12_firstPart ⟨by first | exact Nat.le_of_ble_eq_true rfl | (simp only []; omega), by first | exact Nat.le_of_ble_eq_true rfl | (simp only []; omega)⟩) rfl hl.1 rfl (Nat.le_of_ble_eq_true rfl) dX12_cutBy_16 (fun r3 M2 H locs hq hh => ?_)
  refine lv_istore (lv' := [(7, .int r3), (0, .ref (Y.2.1 0)), (1, .int x1), (2, .int x2), (3, .int x3), (4, .int x4), (5, .int x5), (6, .int x6)]) hx hb dX12_cutBy_19 hl (by decide) rfl (fun ls hl => ?_)
  refine lv_aload_n hx hb dX12_cutBy_21 rfl (lv_at hl 1 rfl) ?_
  refine lv_iload_n hx hb dX12_cutBy_22 rfl (lv_at hl 2 rfl) ?_
  refine lv_iload_n hx hb dX12_cutBy_23 rfl (lv_at hl 2 rfl) ?_
  refine lv_iload_n hx hb dX12_cutBy_24 rfl (lv_at hl 4 rfl) ?_
  refine lv_iadd hx hb dX12_cutBy_25 ?_
  refine lv_iload hx hb dX12_cutBy_26 (lv_at hl 5 rfl) ?_
  refine lv_if_ne (tgt := 36) hx hb dX12_cutBy_28 (by decide) (fun c4 => ?_) (fun c4 => ?_)
  · have hq := hq.1 c4
    refine lv_iload hx hb dX12_cutBy_36 (lv_at hl 6 rfl) ?_
    refine kX12_cutBy_38 C hrec hrf hrl  M2 x1 x2 x3 x4 x5 x6 r3 x1 (x1 + x3) x5 _ _ _ hq hh (lv_sub hl [1, 2, 3, 4, 5, 6, 7, 0] rfl)
  · have hq := hq.2 c4
    refine lv_iload hx hb dX12_cutBy_31 (lv_at hl 0 rfl) ?_
    refine lv_goto (tgt := 38) hx hb dX12_cutBy_33 (by decide) ?_
    refine kX12_cutBy_38 C hrec hrf hrl  M2 x1 x2 x3 x4 x5 x6 r3 x1 (x1 + x3) r3 _ _ _ hq hh (lv_sub hl [1, 2, 3, 4, 5, 6, 7, 0] rfl)

end
set_option maxHeartbeats 4000000 in
set_option maxRecDepth 100000 in
theorem mX12_cutBy {l : Launch} {Y : sy_Y} {rec : sy_M → Int32 → Int32 → Int32 → Int32 → (Int32 → sy_M → Prop) → Prop} {rm0 : Room} (hrec : ∀ (sz : Nat) (M : sy_M) (a1 : Int32) (a2 : Int32) (a3 : Int32) (a4 : Int32) (Q : Int32 → sy_M → Prop), rec M a1 a2 a3 a4 Q → Met l yX12_cutWorst vsX12_cutWorst rm0 (va_Pc [.ref (Y.2.1 0), .int a1, .int a2, .int a3, .int a4] (sy_pre Y NZ EZ tfZ sz M)) (sy_QI Y NZ EZ sz Q) 0 0 (sy_A NZ Y.2.1 sz)) (sz : Nat) (M : sy_M) (a1 : Int32) (a2 : Int32) (a3 : Int32) (a4 : Int32) (a5 : Int32) (a6 : Int32) (Q : Int32 → sy_M → Prop) (hq : wX12_cutBy rec M a1 a2 a3 a4 a5 a6 Q) : Met l yX12_cutBy vsX12_cutBy ({ frames := rm0.frames + 1 + 0, cells := 0, slots := 0, locals := rm0.locals + 27 + 0 } : Room) (va_Pc [.ref (Y.2.1 0), .int a1, .int a2, .int a3, .int a4, .int a5, .int a6] (sy_pre Y NZ EZ tfZ sz M)) (sy_QI Y NZ EZ sz Q) 0 0 (sy_A NZ Y.2.1 sz) := by
  refine sy_metI (by decide) rfl (Nat.le_of_ble_eq_true rfl) ?_
  intro p e s m args below meth c C ls hl hh
  have hx := C.1.1
  have hb := C.1.2.1
  have hl : lv_has ls 10 [(0, .ref (Y.2.1 0)), (1, .int a1), (2, .int a2), (3, .int a3), (4, .int a4), (5, .int a5), (6, .int a6)] := hl
  have hrf : rm0.frames + 1 ≤ rm0.frames + 1 + 0 := by first | exact Nat.le_refl _ | omega
  have hrl : 8 + (8 + 11) + rm0.locals ≤ rm0.locals + 27 + 0 := by first | exact Nat.le_refl _ | omega
  unfold wX12_cutBy at hq
  refine lv_aload_n hx hb dX12_cutBy_0 rfl (lv_at hl 0 rfl) ?_
  refine lv_iload hx hb dX12_cutBy_1 (lv_at hl 4 rfl) ?_
  refine lv_if_ne (tgt := 11) hx hb dX12_cutBy_3 (by decide) (fun c1 => ?_) (fun c1 => ?_)
  · have hq := hq.1 c1
    refine lv_iload hx hb dX12_cutBy_11 (lv_at hl 6 rfl) ?_
    refine kX12_cutBy_13 C hrec hrf hrl  M a1 a2 a3 a4 a5 a6 a6 _ _ _ hq hh (lv_sub hl [0, 1, 2, 3, 4, 5, 6] rfl)
  · have hq := hq.2 c1
    refine lv_iload hx hb dX12_cutBy_6 (lv_at hl 5 rfl) ?_
    refine lv_goto (tgt := 13) hx hb dX12_cutBy_8 (by decide) ?_
    refine kX12_cutBy_13 C hrec hrf hrl  M a1 a2 a3 a4 a5 a6 a5 _ _ _ hq hh (lv_sub hl [0, 1, 2, 3, 4, 5, 6] rfl)

