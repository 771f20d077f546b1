section SYS
variable {p : Program} {l : Launch} {e : Env} {R : Room} {s : State} {m : MethodId} {args : Array Value} {below : List Frame} {meth : Method} {c : Code} {H : Heap} {locs : List Loc} {Qf : State → Prop}
variable {cc : ByteArray} {pc nL : Nat} {ls : Array Slot} {rest : List Value} {Y : sy_Y} {N : Nat} {E : sy_Y → sy_E} {tf : Nat → Option FieldType} {M : sy_M} {Ts : List Cond} {own : String} {rt : Option FieldType}
theorem sy_nret {Q : Int32 → sy_M → Prop} {r : Int32} {ty : FieldType} (C : sy_C p m c cc nL s args Ts own meth (some ty) Y N tf) (hh : sy_H Y N E s H locs M) (hdg : decode cc pc = .ok (.ireturn, 1)) (hn : narrow ty (.int r) = .int r) (hq : Q r M) : W p l e R s m args below meth c H locs 0 0 (sy_ZI below args s Y N E Q) (F0 m pc ls [.int r]) := by
  have hlocks := C.2.2.1
  exact W.zret (v := r) C.1.1 C.1.2.1 C.2.2.2 hn (fun t ht hW => ⟨⟨r, M, rfl, hq, by rw [sy_B, ht]; exact hh.1⟩, hh.2.F ht⟩) hh.2.2.2 hdg
theorem sy_cIR (C : sy_C p m c cc nL s args Ts own meth rt Y N tf) (hh : sy_H Y N E s H locs M) {y : MethodName} {ws : List Cond} {rm : Room} {bytes : ByteArray} {maxL n index : Nat} {ret : Option FieldType} {C0 : String} {As rest st0 : List Value} {Q : Int32 → sy_M → Prop} (b : Nat) (hrc : ∃ cell : Cell, H[b]? = some cell ∧ cell.vm.isStatics = false ∧ s.vm.findClass C0 = some cell.cls) (hM : Met l y ws rm (va_Pc (.ref b :: As) (sy_pre Y N E tf H.size M)) (sy_QI Y N E H.size Q) 0 0 (sy_A N Y.2.1 H.size)) (cw : CallW R s args own C0 index y bytes maxL ret ws rm 0 0 n) (hn : As.length = n) (hsize : ls.size = nL) (hstack : st0 = As.reverse ++ .ref b :: rest) (hW : (rest.map fun v => v.category).sum ≤ 8) (hdg : decode cc pc = .ok (.invokevirtual index, 3))
    (kk : ∀ (r : Int32) (M1 : sy_M) (H1 : Heap) (locs1 : List Loc), Q r M1 → sy_H Y N E s H1 locs1 M1 → W p l e R s m args below meth c H1 locs1 0 0 Qf (F0 m (pc + 3) ls (.int r :: rest))) : W p l e R s m args below meth c H locs 0 0 Qf (F0 m pc ls st0) := by
  refine va_calli (va_runV (As := As) (rest := rest) C.1 hM cw ⟨sy_pre.blind, hrc, fun U hU hW => ⟨rfl, by rw [hU], by rw [hU]; exact hh.1, by rw [hU]; exact sy_G.call hW hh.2 C.2.1⟩⟩ rfl hn hsize hstack (lv_room hW) hdg ⟨Nat.zero_le _, Nat.zero_le _⟩) hh.2 (fun q _ h => sy_A_le hh.2.1 q h) (fun q h => sy_A_le hh.2.1 q h) (fun r u t H1 locs1 ht hvm hw hB hz1 hk1 hS => ?_)
  exact kk r u H1 locs1 hw ⟨by rw [← ht]; exact hB, hS⟩
end SYS
theorem sy_wlen {w : Nat} (hw : w < 5) : (Int32.ofNat (sy_len.getD w 0)) >>> ((0 : Int32) &&& 31) = nI (sy_len.getD w 0) := by
  match w, hw with
  | 0, _ => decide
  | 1, _ => decide
  | 2, _ => decide
  | 3, _ => decide
  | 4, _ => decide
theorem sy_wlt {w : Nat} (hw : w < 5) : sy_len.getD w 0 < 7 := by
  match w, hw with
  | 0, _ => decide
  | 1, _ => decide
  | 2, _ => decide
  | 3, _ => decide
  | 4, _ => decide
theorem sy_wch : ∀ w, w < 5 → ∀ n, n < sy_len.getD w 0 → (((sy_byt.getD w []).getD n 0 &&& 255).toUInt32 % 65536).toInt32 = (sy_byt.getD w []).getD n 0 ∧ narrow .char (.int ((sy_byt.getD w []).getD n 0)) = .int ((sy_byt.getD w []).getD n 0) := by decide +kernel

theorem hdJ0_coder_7d493 : yJ0_coder_7d493.cls = RJ0 ∧ yJ0_coder_7d493.cls ≠ "java/lang/invoke/MethodHandle" ∧ yJ0_coder_7d493.cls ≠ "java/lang/invoke/VarHandle" ∧ (parseMethodDescriptor yJ0_coder_7d493.desc).map (fun d => d.parameters.length) = some 0 := by decide +kernel
theorem hdJ0_isLatin1_aae02 : yJ0_isLatin1_aae02.cls = RJ0 ∧ yJ0_isLatin1_aae02.cls ≠ "java/lang/invoke/MethodHandle" ∧ yJ0_isLatin1_aae02.cls ≠ "java/lang/invoke/VarHandle" ∧ (parseMethodDescriptor yJ0_isLatin1_aae02.desc).map (fun d => d.parameters.length) = some 0 := by decide +kernel
theorem hdJ0_length_8abf5 : yJ0_length_8abf5.cls = RJ0 ∧ yJ0_length_8abf5.cls ≠ "java/lang/invoke/MethodHandle" ∧ yJ0_length_8abf5.cls ≠ "java/lang/invoke/VarHandle" ∧ (parseMethodDescriptor yJ0_length_8abf5.desc).map (fun d => d.parameters.length) = some 0 := by decide +kernel
theorem hdJ0_charAt_5068e : yJ0_charAt_5068e.cls = RJ0 ∧ yJ0_charAt_5068e.cls ≠ "java/lang/invoke/MethodHandle" ∧ yJ0_charAt_5068e.cls ≠ "java/lang/invoke/VarHandle" ∧ (parseMethodDescriptor yJ0_charAt_5068e.desc).map (fun d => d.parameters.length) = some 1 := by decide +kernel
theorem hdJ0_checkIndex_df160 : yJ0_checkIndex_df160.cls = RJ0 ∧ yJ0_checkIndex_df160.cls ≠ "java/lang/invoke/MethodHandle" ∧ yJ0_checkIndex_df160.cls ≠ "java/lang/invoke/VarHandle" ∧ (parseMethodDescriptor yJ0_checkIndex_df160.desc).map (fun d => d.parameters.length) = some 2 := by decide +kernel
theorem hdJ1_charAt_3b067 : yJ1_charAt_3b067.cls = RJ1 ∧ yJ1_charAt_3b067.cls ≠ "java/lang/invoke/MethodHandle" ∧ yJ1_charAt_3b067.cls ≠ "java/lang/invoke/VarHandle" ∧ (parseMethodDescriptor yJ1_charAt_3b067.desc).map (fun d => d.parameters.length) = some 2 := by decide +kernel
theorem hdJ3_checkIndex_8e157 : yJ3_checkIndex_8e157.cls = RJ3 ∧ yJ3_checkIndex_8e157.cls ≠ "java/lang/invoke/MethodHandle" ∧ yJ3_checkIndex_8e157.cls ≠ "java/lang/invoke/VarHandle" ∧ (parseMethodDescriptor yJ3_checkIndex_8e157.desc).map (fun d => d.parameters.length) = some 3 := by decide +kernel
abbrev vsJ0_coder_7d493_Z : List Cond := .code yJ0_coder_7d493 cJ0_coder_7d493 1 (some .byte) :: uZ
abbrev vsJ0_isLatin1_aae02_Z : List Cond := .code yJ0_isLatin1_aae02 cJ0_isLatin1_aae02 1 (some .boolean) :: uZ
abbrev vsJ0_length_8abf5_Z : List Cond := .code yJ0_length_8abf5 cJ0_length_8abf5 1 (some .int) :: uZ
abbrev vsJ0_charAt_5068e_Z : List Cond := .code yJ0_charAt_5068e cJ0_charAt_5068e 2 (some .char) :: uZ
abbrev vsJ0_checkIndex_df160_Z : List Cond := .code yJ0_checkIndex_df160 cJ0_checkIndex_df160 2 none :: uZ
abbrev vsJ1_charAt_3b067_Z : List Cond := .code yJ1_charAt_3b067 cJ1_charAt_3b067 2 (some .char) :: uZ
abbrev vsJ3_checkIndex_8e157_Z : List Cond := .code yJ3_checkIndex_8e157 cJ3_checkIndex_8e157 3 (some .int) :: uZ
set_option maxHeartbeats 4000000 in
set_option maxRecDepth 100000 in
theorem sJ0_coder_7d493_Z (l : Launch) (Y : sy_Y) (sz : Nat) (M : sy_M) (w : Nat) (hw : w < 5) (Q : Int32 → sy_M → Prop) (hq : Q 0 M) : Met l yJ0_coder_7d493 vsJ0_coder_7d493_Z ({ frames := 0, cells := 0, slots := 0, locals := 0 } : Room) (va_Pc [.ref (Y.2.2.2.1 w)] (sy_pre Y NZ EZ tfZ sz M)) (sy_QI Y NZ EZ sz Q) 0 0 (sy_A NZ Y.2.1 sz) := by
  refine sy_metI (by decide) rfl (Nat.le_of_ble_eq_true rfl) ?_
  intro p e s m args below meth c C ls hl hh
  have hx := C.1.1
  have hb := C.1.2.1
  have hl : lv_has ls 1 [(0, .ref (Y.2.2.2.1 w))] := hl
  refine va_gets hx hb C.2.1.2.2.1.2.2.1 hh.2 C.1.2.2.2.1 (C.1.2.2.2.2 _ (mc uZ_86)) (fun _ h9 => h9) dJ0_coder_7d493_0 ?_
  refine lv_if_eq (tgt := 13) hx hb dJ0_coder_7d493_3 (by decide) (fun c => absurd c (by decide)) (fun _ => ?_)
  refine lv_aload_n hx hb dJ0_coder_7d493_6 rfl (lv_at hl 0 rfl) ?_
  refine vk_getf hx hb (C.2.1.2.2.1.1.1 w hw).2.1 hh.2 C.1.2.2.2.1 (C.1.2.2.2.2 _ (mc uZ_87)) (fun _ h9 => h9) dJ0_coder_7d493_7 ?_
  refine lv_goto (tgt := 14) hx hb dJ0_coder_7d493_10 (by decide) ?_
  exact sy_nret C hh dJ0_coder_7d493_14 (by decide) hq

set_option maxHeartbeats 4000000 in
set_option maxRecDepth 100000 in
theorem sJ0_isLatin1_aae02_Z (l : Launch) (Y : sy_Y) (sz : Nat) (M : sy_M) (w : Nat) (hw : w < 5) (Q : Int32 → sy_M → Prop) (hq : Q 1 M) : Met l yJ0_isLatin1_aae02 vsJ0_isLatin1_aae02_Z ({ frames := 0, cells := 0, slots := 0, locals := 0 } : Room) (va_Pc [.ref (Y.2.2.2.1 w)] (sy_pre Y NZ EZ tfZ sz M)) (sy_QI Y NZ EZ sz Q) 0 0 (sy_A NZ Y.2.1 sz) := by
  refine sy_metI (by decide) rfl (Nat.le_of_ble_eq_true rfl) ?_
  intro p e s m args below meth c C ls hl hh
  have hx := C.1.1
  have hb := C.1.2.1
  have hl : lv_has ls 1 [(0, .ref (Y.2.2.2.1 w))] := hl
  refine va_gets hx hb C.2.1.2.2.1.2.2.1 hh.2 C.1.2.2.2.1 (C.1.2.2.2.2 _ (mc uZ_86)) (fun _ h9 => h9) dJ0_isLatin1_aae02_0 ?_
  refine lv_if_eq (tgt := 17) hx hb dJ0_isLatin1_aae02_3 (by decide) (fun c => absurd c (by decide)) (fun _ => ?_)
  refine lv_aload_n hx hb dJ0_isLatin1_aae02_6 rfl (lv_at hl 0 rfl) ?_
  refine vk_getf hx hb (C.2.1.2.2.1.1.1 w hw).2.1 hh.2 C.1.2.2.2.1 (C.1.2.2.2.2 _ (mc uZ_87)) (fun _ h9 => h9) dJ0_isLatin1_aae02_7 ?_
  refine lv_if_ne (tgt := 17) hx hb dJ0_isLatin1_aae02_10 (by decide) (fun c => absurd rfl c) (fun _ => ?_)
  refine lv_iconst (v := (1 : Int32)) hx hb dJ0_isLatin1_aae02_13 (by decide) ?_
  refine lv_goto (tgt := 18) hx hb dJ0_isLatin1_aae02_14 (by decide) ?_
  exact sy_zret C hh dJ0_isLatin1_aae02_18 (by decide) hq

set_option maxHeartbeats 4000000 in
set_option maxRecDepth 100000 in
theorem sJ0_length_8abf5_Z (l : Launch) (Y : sy_Y) (sz : Nat) (M : sy_M) (w : Nat) (hw : w < 5) (Q : Int32 → sy_M → Prop) (hq : Q (nI (sy_len.getD w 0)) M) : Met l yJ0_length_8abf5 vsJ0_length_8abf5_Z ({ frames := 1, cells := 0, slots := 0, locals := 20 } : Room) (va_Pc [.ref (Y.2.2.2.1 w)] (sy_pre Y NZ EZ tfZ sz M)) (sy_QI Y NZ EZ sz Q) 0 0 (sy_A NZ Y.2.1 sz) := by
  refine sy_metI (by decide) rfl (Nat.le_of_ble_eq_true rfl) ?_
  intro p e s m args below meth c C ls hl hh
  have hx := C.1.1
  have hb := C.1.2.1
  have hl : lv_has ls 1 [(0, .ref (Y.2.2.2.1 w))] := hl
  refine lv_aload_n hx hb dJ0_length_8abf5_0 rfl (lv_at hl 0 rfl) ?_
  refine vk_getf hx hb (C.2.1.2.2.1.1.1 w hw).2.2.1 hh.2 C.1.2.2.2.1 (C.1.2.2.2.2 _ (mc uZ_81)) (fun _ h9 => h9) dJ0_length_8abf5_1 ?_
  refine va_tlen hx hb (C.2.1.2.2.1.1.1 w hw).2.2.2 hh.2 rfl dJ0_length_8abf5_4 ?_
  refine lv_aload_n hx hb dJ0_length_8abf5_5 rfl (lv_at hl 0 rfl) ?_
  refine sy_cIR C hh (As := []) (rest := [.int (Int32.ofNat (sy_len.getD w 0))]) (Y.2.2.2.1 w) (vk_recv C.2.1.2.2.1.1 hw hh.2) (sJ0_coder_7d493_Z l Y _ M w hw (fun r M1 => r = 0 ∧ M1 = M) ⟨rfl, rfl⟩) (cwV 0 C.1.2.2.2.2 (sy_goodV uZ_good uZ_82 uZ_83 uZ_84 uZ_79 uZ_85 _) rfl rfl rfl hdJ0_coder_7d493 ⟨Nat.le_of_ble_eq_true rfl, Nat.le_of_ble_eq_true rfl⟩) rfl hl.1 rfl (Nat.le_of_ble_eq_true rfl) dJ0_length_8abf5_6 (fun r M1 H locs hr hh2 => ?_)
  obtain ⟨rfl, rfl⟩ := hr
  clear hh
  have hh := hh2
  refine lv_ishr hx hb dJ0_length_8abf5_9 ?_
  rw [sy_wlen hw]
  exact sy_iret C hh dJ0_length_8abf5_10 hq

set_option maxHeartbeats 4000000 in
set_option maxRecDepth 100000 in
theorem sJ3_checkIndex_8e157_Z (l : Launch) (Y : sy_Y) (sz : Nat) (M : sy_M) (i n : Int32) (v : Value) (h0 : ¬ i < 0) (h1 : i < n) (hv : v = .null ∨ ∃ t, v = .ref t) (Q : Int32 → sy_M → Prop) (hq : Q i M) : Met l yJ3_checkIndex_8e157 vsJ3_checkIndex_8e157_Z ({ frames := 0, cells := 0, slots := 0, locals := 0 } : Room) (va_Pc [.int i, .int n, v] (sy_pre Y NZ EZ tfZ sz M)) (sy_QI Y NZ EZ sz Q) 0 0 (sy_A NZ Y.2.1 sz) := by
  have hlen : (lg_sl [.int i, .int n, v]).length ≤ 3 := by
    rcases hv with h | ⟨t, h⟩ <;> subst h <;> exact Nat.le_of_ble_eq_true rfl
  have hargs : (lv_args 0 [.int i, .int n, v])[0]? = some (0, .int i) ∧ (lv_args 0 [.int i, .int n, v])[1]? = some (1, .int n) := by
    rcases hv with h | ⟨t, h⟩ <;> subst h <;> exact ⟨rfl, rfl⟩
  refine sy_metI (by decide) rfl hlen ?_
  intro p e s m args below meth c C ls hl hh
  have hx := C.1.1
  have hb := C.1.2.1
  refine lv_iload_n hx hb dJ3_checkIndex_8e157_0 rfl (lv_at hl 0 hargs.1) ?_
  refine lv_if_lt (tgt := 9) hx hb dJ3_checkIndex_8e157_1 (by decide) (fun c => absurd c h0) (fun _ => ?_)
  refine lv_iload_n hx hb dJ3_checkIndex_8e157_4 rfl (lv_at hl 0 hargs.1) ?_
  refine lv_iload_n hx hb dJ3_checkIndex_8e157_5 rfl (lv_at hl 1 hargs.2) ?_
  refine lv_icmp_lt (tgt := 16) hx hb dJ3_checkIndex_8e157_6 (by decide) (fun _ => ?_) (fun c => absurd h1 c)
  refine lv_iload_n hx hb dJ3_checkIndex_8e157_16 rfl (lv_at hl 0 hargs.1) ?_
  exact sy_iret C hh dJ3_checkIndex_8e157_17 hq

set_option maxHeartbeats 4000000 in
set_option maxRecDepth 100000 in
theorem sJ0_checkIndex_df160_Z (l : Launch) (Y : sy_Y) (sz : Nat) (M : sy_M) (i n : Int32) (h0 : ¬ i < 0) (h1 : i < n) (Q : sy_M → Prop) (hq : Q M) : Met l yJ0_checkIndex_df160 vsJ0_checkIndex_df160_Z ({ frames := 1, cells := 0, slots := 0, locals := 22 } : Room) (va_Pc [.int i, .int n] (sy_pre Y NZ EZ tfZ sz M)) (sy_QV Y NZ EZ sz Q) 0 0 (sy_A NZ Y.2.1 sz) := by
  refine sy_metV (by decide) rfl (Nat.le_of_ble_eq_true rfl) ?_
  intro p e s m args below meth c C ls hl hh
  have hx := C.1.1
  have hb := C.1.2.1
  have hl : lv_has ls 2 [(0, .int i), (1, .int n)] := hl
  refine lv_iload_n hx hb dJ0_checkIndex_df160_0 rfl (lv_at hl 0 rfl) ?_
  refine lv_iload_n hx hb dJ0_checkIndex_df160_1 rfl (lv_at hl 1 rfl) ?_
  have hz := C.2.1.2.2.1.2.2.2
  have key : ∀ v : Value, (v = .null ∨ ∃ t, v = .ref t) → W p l e ({ frames := 1, cells := 0, slots := 0, locals := 22 } : Room) s m args below meth c s.heap [] 0 0 (sy_ZV below args s Y NZ EZ Q) (F0 m 5 ls [v, .int n, .int i]) := by
    intro v hv
    refine sy_cIS C hh (As := [.int i, .int n, v]) (rest := []) (sJ3_checkIndex_8e157_Z l Y _ M i n v h0 h1 hv (fun r M1 => M1 = M) rfl) (va_cwS 3 C.1.2.2.2.2 (sy_goodS uZ_good uZ_104 uZ_105 uZ_106 uZ_107 _) rfl rfl rfl hdJ3_checkIndex_8e157.2 ⟨Nat.le_of_ble_eq_true rfl, Nat.le_of_ble_eq_true rfl⟩) rfl hl.1 rfl (Nat.le_of_ble_eq_true rfl) dJ0_checkIndex_df160_5 (fun r M1 H locs hr hh2 => ?_)
    subst hr
    clear hh
    have hh := hh2
    refine lv_pop hx hb dJ0_checkIndex_df160_8 rfl ?_
    exact sy_vret C hh dJ0_checkIndex_df160_9 hq
  rcases hz with h | ⟨t, h⟩
  · exact va_gets hx hb h hh.2 C.1.2.2.2.1 (C.1.2.2.2.2 _ (mc uZ_103)) (fun _ h9 => h9) dJ0_checkIndex_df160_2 (key _ (Or.inl rfl))
  · exact va_gets hx hb h hh.2 C.1.2.2.2.1 (C.1.2.2.2.2 _ (mc uZ_103)) (fun _ h9 => h9) dJ0_checkIndex_df160_2 (key _ (Or.inr ⟨t, rfl⟩))

set_option maxHeartbeats 4000000 in
set_option maxRecDepth 100000 in
theorem sJ1_charAt_3b067_Z (l : Launch) (Y : sy_Y) (sz : Nat) (M : sy_M) (w : Nat) (hw : w < 5) (n : Nat) (hn : n < sy_len.getD w 0) (Q : Int32 → sy_M → Prop) (hq : Q ((sy_byt.getD w []).getD n 0) M) : Met l yJ1_charAt_3b067 vsJ1_charAt_3b067_Z ({ frames := 2, cells := 0, slots := 0, locals := 43 } : Room) (va_Pc [.ref (Y.2.2.2.2 w), .int (nI n)] (sy_pre Y NZ EZ tfZ sz M)) (sy_QI Y NZ EZ sz Q) 0 0 (sy_A NZ Y.2.1 sz) := by
  refine sy_metI (by decide) rfl (Nat.le_of_ble_eq_true rfl) ?_
  intro p e s m args below meth c C ls hl hh
  have hx := C.1.1
  have hb := C.1.2.1
  have hl : lv_has ls 2 [(0, .ref (Y.2.2.2.2 w)), (1, .int (nI n))] := hl
  have h7 := sy_wlt hw
  refine lv_iload_n hx hb dJ1_charAt_3b067_0 rfl (lv_at hl 1 rfl) ?_
  refine lv_aload_n hx hb dJ1_charAt_3b067_1 rfl (lv_at hl 0 rfl) ?_
  refine va_tlen hx hb (C.2.1.2.2.1.1.1 w hw).2.2.2 hh.2 (v := nI (sy_len.getD w 0)) rfl dJ1_charAt_3b067_2 ?_
  refine sy_cVS C hh (As := [.int (nI n), .int (nI (sy_len.getD w 0))]) (rest := []) (sJ0_checkIndex_df160_Z l Y _ M (nI n) (nI (sy_len.getD w 0)) (nI_pos (by omega)) (nI_lt hn (by omega)) (fun M1 => M1 = M) rfl) (va_cwS 2 C.1.2.2.2.2 (sy_goodS uZ_good uZ_100 uZ_101 uZ_79 uZ_102 _) rfl rfl rfl hdJ0_checkIndex_df160.2 ⟨Nat.le_of_ble_eq_true rfl, Nat.le_of_ble_eq_true rfl⟩) rfl hl.1 rfl (Nat.le_of_ble_eq_true rfl) dJ1_charAt_3b067_3 (fun M1 H locs hr hh2 => ?_)
  subst hr
  clear hh
  have hh := hh2
  refine lv_aload_n hx hb dJ1_charAt_3b067_6 rfl (lv_at hl 0 rfl) ?_
  refine lv_iload_n hx hb dJ1_charAt_3b067_7 rfl (lv_at hl 1 rfl) ?_
  refine va_tb hx hb (C.2.1.2.2.1.1.1 w hw).2.2.2 hh.2 (vp_in_nI hn (by omega)) (v := .int ((sy_byt.getD w []).getD n 0)) (by rw [nI_clamp (by omega)]) dJ1_charAt_3b067_8 ?_
  refine lv_sipush (v := (255 : Int32)) hx hb dJ1_charAt_3b067_9 (by decide) ?_
  refine lv_iand hx hb dJ1_charAt_3b067_12 ?_
  refine lv_i2c (v := (sy_byt.getD w []).getD n 0) hx hb dJ1_charAt_3b067_13 (sy_wch w hw n hn).1 ?_
  exact sy_nret C hh dJ1_charAt_3b067_14 (sy_wch w hw n hn).2 hq

set_option maxHeartbeats 4000000 in
set_option maxRecDepth 100000 in
theorem sJ0_charAt_5068e_Z (l : Launch) (Y : sy_Y) (sz : Nat) (M : sy_M) (w : Nat) (hw : w < 5) (n : Nat) (hn : n < sy_len.getD w 0) (Q : Int32 → sy_M → Prop) (hq : Q ((sy_byt.getD w []).getD n 0) M) : Met l yJ0_charAt_5068e vsJ0_charAt_5068e_Z ({ frames := 3, cells := 0, slots := 0, locals := 64 } : Room) (va_Pc [.ref (Y.2.2.2.1 w), .int (nI n)] (sy_pre Y NZ EZ tfZ sz M)) (sy_QI Y NZ EZ sz Q) 0 0 (sy_A NZ Y.2.1 sz) := by
  refine sy_metI (by decide) rfl (Nat.le_of_ble_eq_true rfl) ?_
  intro p e s m args below meth c C ls hl hh
  have hx := C.1.1
  have hb := C.1.2.1
  have hl : lv_has ls 2 [(0, .ref (Y.2.2.2.1 w)), (1, .int (nI n))] := hl
  refine lv_aload_n hx hb dJ0_charAt_5068e_0 rfl (lv_at hl 0 rfl) ?_
  refine sy_cIR C hh (As := []) (rest := []) (Y.2.2.2.1 w) (vk_recv C.2.1.2.2.1.1 hw hh.2) (sJ0_isLatin1_aae02_Z l Y _ M w hw (fun r M1 => r = 1 ∧ M1 = M) ⟨rfl, rfl⟩) (cwV 0 C.1.2.2.2.2 (sy_goodV uZ_good uZ_92 uZ_93 uZ_94 uZ_79 uZ_95 _) rfl rfl rfl hdJ0_isLatin1_aae02 ⟨Nat.le_of_ble_eq_true rfl, Nat.le_of_ble_eq_true rfl⟩) rfl hl.1 rfl (Nat.le_of_ble_eq_true rfl) dJ0_charAt_5068e_1 (fun r M1 H locs hr hh2 => ?_)
  obtain ⟨rfl, rfl⟩ := hr
  clear hh
  have hh := hh2
  refine lv_if_eq (tgt := 16) hx hb dJ0_charAt_5068e_4 (by decide) (fun c => absurd c (by decide)) (fun _ => ?_)
  refine lv_aload_n hx hb dJ0_charAt_5068e_7 rfl (lv_at hl 0 rfl) ?_
  refine vk_getf hx hb (C.2.1.2.2.1.1.1 w hw).2.2.1 hh.2 C.1.2.2.2.1 (C.1.2.2.2.2 _ (mc uZ_81)) (fun _ h9 => h9) dJ0_charAt_5068e_8 ?_
  refine lv_iload_n hx hb dJ0_charAt_5068e_11 rfl (lv_at hl 1 rfl) ?_
  refine sy_cIS C hh (As := [.ref (Y.2.2.2.2 w), .int (nI n)]) (rest := []) (sJ1_charAt_3b067_Z l Y _ M1 w hw n hn (fun r M2 => r = (sy_byt.getD w []).getD n 0 ∧ M2 = M1) ⟨rfl, rfl⟩) (va_cwS 2 C.1.2.2.2.2 (sy_goodS uZ_good uZ_96 uZ_97 uZ_98 uZ_99 _) rfl rfl rfl hdJ1_charAt_3b067.2 ⟨Nat.le_of_ble_eq_true rfl, Nat.le_of_ble_eq_true rfl⟩) rfl hl.1 rfl (Nat.le_of_ble_eq_true rfl) dJ0_charAt_5068e_12 (fun r M2 H locs hr hh3 => ?_)
  obtain ⟨rfl, rfl⟩ := hr
  clear hh
  have hh := hh3
  exact sy_nret C hh dJ0_charAt_5068e_15 (sy_wch w hw n hn).2 hq

section
variable {p : Program} {l : Launch} {e : Env} {s : State} {m : MethodId} {args : Array Value} {below : List Frame} {meth : Method} {c : Code} {H : Heap} {locs : List Loc} {Qf : State → Prop} {pc : Nat} {ls : Array Slot} {rest : List Value} {Y : sy_Y} {M : sy_M}
theorem sy_slen_X12_isWord (C : sy_C p m c cX12_isWord 3 s args vsX12_isWord RX12 meth (some .boolean) Y NZ tfZ) (hh : sy_H Y NZ EZ s H locs M) {lv : List (Nat × Value)} (hl : lv_has ls 3 lv) {w : Nat} (hw : w < 5) (hr : (rest.map fun v => v.category).sum ≤ 8) (hdg : decode cX12_isWord pc = .ok (.invokevirtual 175, 3))
    (kk : ∀ (H : Heap) (locs : List Loc), sy_H Y NZ EZ s H locs M → W p l e ({ frames := 6, cells := 0, slots := 0, locals := 200 } : Room) s m args below meth c H locs 0 0 Qf (F0 m (pc + 3) ls (.int (nI (sy_len.getD w 0)) :: rest))) : W p l e ({ frames := 6, cells := 0, slots := 0, locals := 200 } : Room) s m args below meth c H locs 0 0 Qf (F0 m pc ls (.ref (Y.2.2.2.1 w) :: rest)) := by
  refine sy_cIR C hh (As := []) (rest := rest) (Y.2.2.2.1 w) (vk_recv C.2.1.2.2.1.1 hw hh.2) (sJ0_length_8abf5_Z l Y _ M w hw (fun r M1 => r = nI (sy_len.getD w 0) ∧ M1 = M) ⟨rfl, rfl⟩) (cwV 0 C.1.2.2.2.2 (sy_goodV uZ_good uZ_76 uZ_77 uZ_78 uZ_79 uZ_80 _) rfl rfl rfl hdJ0_length_8abf5 ⟨Nat.le_of_ble_eq_true rfl, Nat.le_of_ble_eq_true rfl⟩) rfl hl.1 rfl hr hdg (fun r M1 H locs hr hh2 => ?_)
  obtain ⟨rfl, rfl⟩ := hr
  exact kk H locs hh2
theorem sy_schar_X12_isWord (C : sy_C p m c cX12_isWord 3 s args vsX12_isWord RX12 meth (some .boolean) Y NZ tfZ) (hh : sy_H Y NZ EZ s H locs M) {lv : List (Nat × Value)} (hl : lv_has ls 3 lv) {w : Nat} (hw : w < 5) {n : Nat} {i : Int32} (hn : n < sy_len.getD w 0) (hi : i = nI n) (hr : (rest.map fun v => v.category).sum ≤ 8) (hdg : decode cX12_isWord pc = .ok (.invokevirtual 181, 3))
    (kk : ∀ (H : Heap) (locs : List Loc), sy_H Y NZ EZ s H locs M → W p l e ({ frames := 6, cells := 0, slots := 0, locals := 200 } : Room) s m args below meth c H locs 0 0 Qf (F0 m (pc + 3) ls (.int ((sy_byt.getD w []).getD n 0) :: rest))) : W p l e ({ frames := 6, cells := 0, slots := 0, locals := 200 } : Room) s m args below meth c H locs 0 0 Qf (F0 m pc ls (.int i :: .ref (Y.2.2.2.1 w) :: rest)) := by
  subst hi
  refine sy_cIR C hh (As := [.int (nI n)]) (rest := rest) (Y.2.2.2.1 w) (vk_recv C.2.1.2.2.1.1 hw hh.2) (sJ0_charAt_5068e_Z l Y _ M w hw n hn (fun r M1 => r = (sy_byt.getD w []).getD n 0 ∧ M1 = M) ⟨rfl, rfl⟩) (cwV 1 C.1.2.2.2.2 (sy_goodV uZ_good uZ_88 uZ_89 uZ_90 uZ_79 uZ_91 _) rfl rfl rfl hdJ0_charAt_5068e ⟨Nat.le_of_ble_eq_true rfl, Nat.le_of_ble_eq_true rfl⟩) rfl hl.1 rfl hr hdg (fun r M1 H locs hr hh2 => ?_)
  obtain ⟨rfl, rfl⟩ := hr
  exact kk H locs hh2
end
abbrev vsJ0_coder_7d493_X : List Cond := .code yJ0_coder_7d493 cJ0_coder_7d493 1 (some .byte) :: uX
abbrev vsJ0_isLatin1_aae02_X : List Cond := .code yJ0_isLatin1_aae02 cJ0_isLatin1_aae02 1 (some .boolean) :: uX
abbrev vsJ0_length_8abf5_X : List Cond := .code yJ0_length_8abf5 cJ0_length_8abf5 1 (some .int) :: uX
abbrev vsJ0_charAt_5068e_X : List Cond := .code yJ0_charAt_5068e cJ0_charAt_5068e 2 (some .char) :: uX
abbrev vsJ0_checkIndex_df160_X : List Cond := .code yJ0_checkIndex_df160 cJ0_checkIndex_df160 2 none :: uX
abbrev vsJ1_charAt_3b067_X : List Cond := .code yJ1_charAt_3b067 cJ1_charAt_3b067 2 (some .char) :: uX
abbrev vsJ3_checkIndex_8e157_X : List Cond := .code yJ3_checkIndex_8e157 cJ3_checkIndex_8e157 3 (some .int) :: uX
set_option maxHeartbeats 4000000 in
set_option maxRecDepth 100000 in
theorem sJ0_coder_7d493_X (l : Launch) (Y : sy_Y) (sz : Nat) (M : sy_M) (w : Nat) (hw : w < 5) (Q : Int32 → sy_M → Prop) (hq : Q 0 M) : Met l yJ0_coder_7d493 vsJ0_coder_7d493_X ({ frames := 0, cells := 0, slots := 0, locals := 0 } : Room) (va_Pc [.ref (Y.2.2.2.1 w)] (sy_pre Y NX EX tfX sz M)) (sy_QI Y NX EX sz Q) 0 0 (sy_A NX Y.2.1 sz) := by
  refine sy_metI (by decide) rfl (Nat.le_of_ble_eq_true rfl) ?_
  intro p e s m args below meth c C ls hl hh
  have hx := C.1.1
  have hb := C.1.2.1
  have hl : lv_has ls 1 [(0, .ref (Y.2.2.2.1 w))] := hl
  refine va_gets hx hb C.2.1.2.2.1.2.2.1 hh.2 C.1.2.2.2.1 (C.1.2.2.2.2 _ (mc uX_364)) (fun _ h9 => h9) dJ0_coder_7d493_0 ?_
  refine lv_if_eq (tgt := 13) hx hb dJ0_coder_7d493_3 (by decide) (fun c => absurd c (by decide)) (fun _ => ?_)
  refine lv_aload_n hx hb dJ0_coder_7d493_6 rfl (lv_at hl 0 rfl) ?_
  refine vk_getf hx hb (C.2.1.2.2.1.1.1 w hw).2.1 hh.2 C.1.2.2.2.1 (C.1.2.2.2.2 _ (mc uX_365)) (fun _ h9 => h9) dJ0_coder_7d493_7 ?_
  refine lv_goto (tgt := 14) hx hb dJ0_coder_7d493_10 (by decide) ?_
  exact sy_nret C hh dJ0_coder_7d493_14 (by decide) hq

set_option maxHeartbeats 4000000 in
set_option maxRecDepth 100000 in
theorem sJ0_isLatin1_aae02_X (l : Launch) (Y : sy_Y) (sz : Nat) (M : sy_M) (w : Nat) (hw : w < 5) (Q : Int32 → sy_M → Prop) (hq : Q 1 M) : Met l yJ0_isLatin1_aae02 vsJ0_isLatin1_aae02_X ({ frames := 0, cells := 0, slots := 0, locals := 0 } : Room) (va_Pc [.ref (Y.2.2.2.1 w)] (sy_pre Y NX EX tfX sz M)) (sy_QI Y NX EX sz Q) 0 0 (sy_A NX Y.2.1 sz) := by
  refine sy_metI (by decide) rfl (Nat.le_of_ble_eq_true rfl) ?_
  intro p e s m args below meth c C ls hl hh
  have hx := C.1.1
  have hb := C.1.2.1
  have hl : lv_has ls 1 [(0, .ref (Y.2.2.2.1 w))] := hl
  refine va_gets hx hb C.2.1.2.2.1.2.2.1 hh.2 C.1.2.2.2.1 (C.1.2.2.2.2 _ (mc uX_364)) (fun _ h9 => h9) dJ0_isLatin1_aae02_0 ?_
  refine lv_if_eq (tgt := 17) hx hb dJ0_isLatin1_aae02_3 (by decide) (fun c => absurd c (by decide)) (fun _ => ?_)
  refine lv_aload_n hx hb dJ0_isLatin1_aae02_6 rfl (lv_at hl 0 rfl) ?_
  refine vk_getf hx hb (C.2.1.2.2.1.1.1 w hw).2.1 hh.2 C.1.2.2.2.1 (C.1.2.2.2.2 _ (mc uX_365)) (fun _ h9 => h9) dJ0_isLatin1_aae02_7 ?_
  refine lv_if_ne (tgt := 17) hx hb dJ0_isLatin1_aae02_10 (by decide) (fun c => absurd rfl c) (fun _ => ?_)
  refine lv_iconst (v := (1 : Int32)) hx hb dJ0_isLatin1_aae02_13 (by decide) ?_
  refine lv_goto (tgt := 18) hx hb dJ0_isLatin1_aae02_14 (by decide) ?_
  exact sy_zret C hh dJ0_isLatin1_aae02_18 (by decide) hq

set_option maxHeartbeats 4000000 in
set_option maxRecDepth 100000 in
theorem sJ0_length_8abf5_X (l : Launch) (Y : sy_Y) (sz : Nat) (M : sy_M) (w : Nat) (hw : w < 5) (Q : Int32 → sy_M → Prop) (hq : Q (nI (sy_len.getD w 0)) M) : Met l yJ0_length_8abf5 vsJ0_length_8abf5_X ({ frames := 1, cells := 0, slots := 0, locals := 20 } : Room) (va_Pc [.ref (Y.2.2.2.1 w)] (sy_pre Y NX EX tfX sz M)) (sy_QI Y NX EX sz Q) 0 0 (sy_A NX Y.2.1 sz) := by
  refine sy_metI (by decide) rfl (Nat.le_of_ble_eq_true rfl) ?_
  intro p e s m args below meth c C ls hl hh
  have hx := C.1.1
  have hb := C.1.2.1
  have hl : lv_has ls 1 [(0, .ref (Y.2.2.2.1 w))] := hl
  refine lv_aload_n hx hb dJ0_length_8abf5_0 rfl (lv_at hl 0 rfl) ?_
  refine vk_getf hx hb (C.2.1.2.2.1.1.1 w hw).2.2.1 hh.2 C.1.2.2.2.1 (C.1.2.2.2.2 _ (mc uX_359)) (fun _ h9 => h9) dJ0_length_8abf5_1 ?_
  refine va_tlen hx hb (C.2.1.2.2.1.1.1 w hw).2.2.2 hh.2 rfl dJ0_length_8abf5_4 ?_
  refine lv_aload_n hx hb dJ0_length_8abf5_5 rfl (lv_at hl 0 rfl) ?_
  refine sy_cIR C hh (As := []) (rest := [.int (Int32.ofNat (sy_len.getD w 0))]) (Y.2.2.2.1 w) (vk_recv C.2.1.2.2.1.1 hw hh.2) (sJ0_coder_7d493_X l Y _ M w hw (fun r M1 => r = 0 ∧ M1 = M) ⟨rfl, rfl⟩) (cwV 0 C.1.2.2.2.2 (sy_goodV uX_good uX_360 uX_361 uX_362 uX_357 uX_363 _) rfl rfl rfl hdJ0_coder_7d493 ⟨Nat.le_of_ble_eq_true rfl, Nat.le_of_ble_eq_true rfl⟩) rfl hl.1 rfl (Nat.le_of_ble_eq_true rfl) dJ0_length_8abf5_6 (fun r M1 H locs hr hh2 => ?_)
  obtain ⟨rfl, rfl⟩ := hr
  clear hh
  have hh := hh2
  refine lv_ishr hx hb dJ0_length_8abf5_9 ?_
  rw [sy_wlen hw]
  exact sy_iret C hh dJ0_length_8abf5_10 hq

set_option maxHeartbeats 4000000 in
set_option maxRecDepth 100000 in
theorem sJ3_checkIndex_8e157_X (l : Launch) (Y : sy_Y) (sz : Nat) (M : sy_M) (i n : Int32) (v : Value) (h0 : ¬ i < 0) (h1 : i < n) (hv : v = .null ∨ ∃ t, v = .ref t) (Q : Int32 → sy_M → Prop) (hq : Q i M) : Met l yJ3_checkIndex_8e157 vsJ3_checkIndex_8e157_X ({ frames := 0, cells := 0, slots := 0, locals := 0 } : Room) (va_Pc [.int i, .int n, v] (sy_pre Y NX EX tfX sz M)) (sy_QI Y NX EX sz Q) 0 0 (sy_A NX Y.2.1 sz) := by
  have hlen : (lg_sl [.int i, .int n, v]).length ≤ 3 := by
    rcases hv with h | ⟨t, h⟩ <;> subst h <;> exact Nat.le_of_ble_eq_true rfl
  have hargs : (lv_args 0 [.int i, .int n, v])[0]? = some (0, .int i) ∧ (lv_args 0 [.int i, .int n, v])[1]? = some (1, .int n) := by
    rcases hv with h | ⟨t, h⟩ <;> subst h <;> exact ⟨rfl, rfl⟩
  refine sy_metI (by decide) rfl hlen ?_
  intro p e s m args below meth c C ls hl hh
  have hx := C.1.1
  have hb := C.1.2.1
  refine lv_iload_n hx hb dJ3_checkIndex_8e157_0 rfl (lv_at hl 0 hargs.1) ?_
  refine lv_if_lt (tgt := 9) hx hb dJ3_checkIndex_8e157_1 (by decide) (fun c => absurd c h0) (fun _ => ?_)
  refine lv_iload_n hx hb dJ3_checkIndex_8e157_4 rfl (lv_at hl 0 hargs.1) ?_
  refine lv_iload_n hx hb dJ3_checkIndex_8e157_5 rfl (lv_at hl 1 hargs.2) ?_
  refine lv_icmp_lt (tgt := 16) hx hb dJ3_checkIndex_8e157_6 (by decide) (fun _ => ?_) (fun c => absurd h1 c)
  refine lv_iload_n hx hb dJ3_checkIndex_8e157_16 rfl (lv_at hl 0 hargs.1) ?_
  exact sy_iret C hh dJ3_checkIndex_8e157_17 hq

set_option maxHeartbeats 4000000 in
set_option maxRecDepth 100000 in
theorem sJ0_checkIndex_df160_X (l : Launch) (Y : sy_Y) (sz : Nat) (M : sy_M) (i n : Int32) (h0 : ¬ i < 0) (h1 : i < n) (Q : sy_M → Prop) (hq : Q M) : Met l yJ0_checkIndex_df160 vsJ0_checkIndex_df160_X ({ frames := 1, cells := 0, slots := 0, locals := 22 } : Room) (va_Pc [.int i, .int n] (sy_pre Y NX EX tfX sz M)) (sy_QV Y NX EX sz Q) 0 0 (sy_A NX Y.2.1 sz) := by
  refine sy_metV (by decide) rfl (Nat.le_of_ble_eq_true rfl) ?_
  intro p e s m args below meth c C ls hl hh
  have hx := C.1.1
  have hb := C.1.2.1
  have hl : lv_has ls 2 [(0, .int i), (1, .int n)] := hl
  refine lv_iload_n hx hb dJ0_checkIndex_df160_0 rfl (lv_at hl 0 rfl) ?_
  refine lv_iload_n hx hb dJ0_checkIndex_df160_1 rfl (lv_at hl 1 rfl) ?_
  have hz := C.2.1.2.2.1.2.2.2
  have key : ∀ v : Value, (v = .null ∨ ∃ t, v = .ref t) → W p l e ({ frames := 1, cells := 0, slots := 0, locals := 22 } : Room) s m args below meth c s.heap [] 0 0 (sy_ZV below args s Y NX EX Q) (F0 m 5 ls [v, .int n, .int i]) := by
    intro v hv
    refine sy_cIS C hh (As := [.int i, .int n, v]) (rest := []) (sJ3_checkIndex_8e157_X l Y _ M i n v h0 h1 hv (fun r M1 => M1 = M) rfl) (va_cwS 3 C.1.2.2.2.2 (sy_goodS uX_good uX_383 uX_384 uX_385 uX_386 _) rfl rfl rfl hdJ3_checkIndex_8e157.2 ⟨Nat.le_of_ble_eq_true rfl, Nat.le_of_ble_eq_true rfl⟩) rfl hl.1 rfl (Nat.le_of_ble_eq_true rfl) dJ0_checkIndex_df160_5 (fun r M1 H locs hr hh2 => ?_)
    subst hr
    clear hh
    have hh := hh2
    refine lv_pop hx hb dJ0_checkIndex_df160_8 rfl ?_
    exact sy_vret C hh dJ0_checkIndex_df160_9 hq
  rcases hz with h | ⟨t, h⟩
  · exact va_gets hx hb h hh.2 C.1.2.2.2.1 (C.1.2.2.2.2 _ (mc uX_382)) (fun _ h9 => h9) dJ0_checkIndex_df160_2 (key _ (Or.inl rfl))
  · exact va_gets hx hb h hh.2 C.1.2.2.2.1 (C.1.2.2.2.2 _ (mc uX_382)) (fun _ h9 => h9) dJ0_checkIndex_df160_2 (key _ (Or.inr ⟨t, rfl⟩))

set_option maxHeartbeats 4000000 in
set_option maxRecDepth 100000 in
theorem sJ1_charAt_3b067_X (l : Launch) (Y : sy_Y) (sz : Nat) (M : sy_M) (w : Nat) (hw : w < 5) (n : Nat) (hn : n < sy_len.getD w 0) (Q : Int32 → sy_M → Prop) (hq : Q ((sy_byt.getD w []).getD n 0) M) : Met l yJ1_charAt_3b067 vsJ1_charAt_3b067_X ({ frames := 2, cells := 0, slots := 0, locals := 43 } : Room) (va_Pc [.ref (Y.2.2.2.2 w), .int (nI n)] (sy_pre Y NX EX tfX sz M)) (sy_QI Y NX EX sz Q) 0 0 (sy_A NX Y.2.1 sz) := by
  refine sy_metI (by decide) rfl (Nat.le_of_ble_eq_true rfl) ?_
  intro p e s m args below meth c C ls hl hh
  have hx := C.1.1
  have hb := C.1.2.1
  have hl : lv_has ls 2 [(0, .ref (Y.2.2.2.2 w)), (1, .int (nI n))] := hl
  have h7 := sy_wlt hw
  refine lv_iload_n hx hb dJ1_charAt_3b067_0 rfl (lv_at hl 1 rfl) ?_
  refine lv_aload_n hx hb dJ1_charAt_3b067_1 rfl (lv_at hl 0 rfl) ?_
  refine va_tlen hx hb (C.2.1.2.2.1.1.1 w hw).2.2.2 hh.2 (v := nI (sy_len.getD w 0)) rfl dJ1_charAt_3b067_2 ?_
  refine sy_cVS C hh (As := [.int (nI n), .int (nI (sy_len.getD w 0))]) (rest := []) (sJ0_checkIndex_df160_X l Y _ M (nI n) (nI (sy_len.getD w 0)) (nI_pos (by omega)) (nI_lt hn (by omega)) (fun M1 => M1 = M) rfl) (va_cwS 2 C.1.2.2.2.2 (sy_goodS uX_good uX_379 uX_380 uX_357 uX_381 _) rfl rfl rfl hdJ0_checkIndex_df160.2 ⟨Nat.le_of_ble_eq_true rfl, Nat.le_of_ble_eq_true rfl⟩) rfl hl.1 rfl (Nat.le_of_ble_eq_true rfl) dJ1_charAt_3b067_3 (fun M1 H locs hr hh2 => ?_)
  subst hr
  clear hh
  have hh := hh2
  refine lv_aload_n hx hb dJ1_charAt_3b067_6 rfl (lv_at hl 0 rfl) ?_
  refine lv_iload_n hx hb dJ1_charAt_3b067_7 rfl (lv_at hl 1 rfl) ?_
  refine va_tb hx hb (C.2.1.2.2.1.1.1 w hw).2.2.2 hh.2 (vp_in_nI hn (by omega)) (v := .int ((sy_byt.getD w []).getD n 0)) (by rw [nI_clamp (by omega)]) dJ1_charAt_3b067_8 ?_
  refine lv_sipush (v := (255 : Int32)) hx hb dJ1_charAt_3b067_9 (by decide) ?_
  refine lv_iand hx hb dJ1_charAt_3b067_12 ?_
  refine lv_i2c (v := (sy_byt.getD w []).getD n 0) hx hb dJ1_charAt_3b067_13 (sy_wch w hw n hn).1 ?_
  exact sy_nret C hh dJ1_charAt_3b067_14 (sy_wch w hw n hn).2 hq

set_option maxHeartbeats 4000000 in
set_option maxRecDepth 100000 in
theorem sJ0_charAt_5068e_X (l : Launch) (Y : sy_Y) (sz : Nat) (M : sy_M) (w : Nat) (hw : w < 5) (n : Nat) (hn : n < sy_len.getD w 0) (Q : Int32 → sy_M → Prop) (hq : Q ((sy_byt.getD w []).getD n 0) M) : Met l yJ0_charAt_5068e vsJ0_charAt_5068e_X ({ frames := 3, cells := 0, slots := 0, locals := 64 } : Room) (va_Pc [.ref (Y.2.2.2.1 w), .int (nI n)] (sy_pre Y NX EX tfX sz M)) (sy_QI Y NX EX sz Q) 0 0 (sy_A NX Y.2.1 sz) := by
  refine sy_metI (by decide) rfl (Nat.le_of_ble_eq_true rfl) ?_
  intro p e s m args below meth c C ls hl hh
  have hx := C.1.1
  have hb := C.1.2.1
  have hl : lv_has ls 2 [(0, .ref (Y.2.2.2.1 w)), (1, .int (nI n))] := hl
  refine lv_aload_n hx hb dJ0_charAt_5068e_0 rfl (lv_at hl 0 rfl) ?_
  refine sy_cIR C hh (As := []) (rest := []) (Y.2.2.2.1 w) (vk_recv C.2.1.2.2.1.1 hw hh.2) (sJ0_isLatin1_aae02_X l Y _ M w hw (fun r M1 => r = 1 ∧ M1 = M) ⟨rfl, rfl⟩) (cwV 0 C.1.2.2.2.2 (sy_goodV uX_good uX_371 uX_372 uX_373 uX_357 uX_374 _) rfl rfl rfl hdJ0_isLatin1_aae02 ⟨Nat.le_of_ble_eq_true rfl, Nat.le_of_ble_eq_true rfl⟩) rfl hl.1 rfl (Nat.le_of_ble_eq_true rfl) dJ0_charAt_5068e_1 (fun r M1 H locs hr hh2 => ?_)
  obtain ⟨rfl, rfl⟩ := hr
  clear hh
  have hh := hh2
  refine lv_if_eq (tgt := 16) hx hb dJ0_charAt_5068e_4 (by decide) (fun c => absurd c (by decide)) (fun _ => ?_)
  refine lv_aload_n hx hb dJ0_charAt_5068e_7 rfl (lv_at hl 0 rfl) ?_
  refine vk_getf hx hb (C.2.1.2.2.1.1.1 w hw).2.2.1 hh.2 C.1.2.2.2.1 (C.1.2.2.2.2 _ (mc uX_359)) (fun _ h9 => h9) dJ0_charAt_5068e_8 ?_
  refine lv_iload_n hx hb dJ0_charAt_5068e_11 rfl (lv_at hl 1 rfl) ?_
  refine sy_cIS C hh (As := [.ref (Y.2.2.2.2 w), .int (nI n)]) (rest := []) (sJ1_charAt_3b067_X l Y _ M1 w hw n hn (fun r M2 => r = (sy_byt.getD w []).getD n 0 ∧ M2 = M1) ⟨rfl, rfl⟩) (va_cwS 2 C.1.2.2.2.2 (sy_goodS uX_good uX_375 uX_376 uX_377 uX_378 _) rfl rfl rfl hdJ1_charAt_3b067.2 ⟨Nat.le_of_ble_eq_true rfl, Nat.le_of_ble_eq_true rfl⟩) rfl hl.1 rfl (Nat.le_of_ble_eq_true rfl) dJ0_charAt_5068e_12 (fun r M2 H locs hr hh3 => ?_)
  obtain ⟨rfl, rfl⟩ := hr
  clear hh
  have hh := hh3
  exact sy_nret C hh dJ0_charAt_5068e_15 (sy_wch w hw n hn).2 hq

section
variable {p : Program} {l : Launch} {e : Env} {s : State} {m : MethodId} {args : Array Value} {below : List Frame} {meth : Method} {c : Code} {H : Heap} {locs : List Loc} {Qf : State → Prop} {pc : Nat} {ls : Array Slot} {rest : List Value} {Y : sy_Y} {M : sy_M}
theorem sy_slen_X9_says (C : sy_C p m c cX9_says 5 s args vsX9_says RX9 meth (some .boolean) Y NX tfX) (hh : sy_H Y NX EX s H locs M) {lv : List (Nat × Value)} (hl : lv_has ls 5 lv) {w : Nat} (hw : w < 5) (hr : (rest.map fun v => v.category).sum ≤ 8) (hdg : decode cX9_says pc = .ok (.invokevirtual 19, 3))
    (kk : ∀ (H : Heap) (locs : List Loc), sy_H Y NX EX s H locs M → W p l e ({ frames := 6, cells := 0, slots := 0, locals := 200 } : Room) s m args below meth c H locs 0 0 Qf (F0 m (pc + 3) ls (.int (nI (sy_len.getD w 0)) :: rest))) : W p l e ({ frames := 6, cells := 0, slots := 0, locals := 200 } : Room) s m args below meth c H locs 0 0 Qf (F0 m pc ls (.ref (Y.2.2.2.1 w) :: rest)) := by
  refine sy_cIR C hh (As := []) (rest := rest) (Y.2.2.2.1 w) (vk_recv C.2.1.2.2.1.1 hw hh.2) (sJ0_length_8abf5_X l Y _ M w hw (fun r M1 => r = nI (sy_len.getD w 0) ∧ M1 = M) ⟨rfl, rfl⟩) (cwV 0 C.1.2.2.2.2 (sy_goodV uX_good uX_354 uX_355 uX_356 uX_357 uX_358 _) rfl rfl rfl hdJ0_length_8abf5 ⟨Nat.le_of_ble_eq_true rfl, Nat.le_of_ble_eq_true rfl⟩) rfl hl.1 rfl hr hdg (fun r M1 H locs hr hh2 => ?_)
  obtain ⟨rfl, rfl⟩ := hr
  exact kk H locs hh2
theorem sy_schar_X9_says (C : sy_C p m c cX9_says 5 s args vsX9_says RX9 meth (some .boolean) Y NX tfX) (hh : sy_H Y NX EX s H locs M) {lv : List (Nat × Value)} (hl : lv_has ls 5 lv) {w : Nat} (hw : w < 5) {n : Nat} {i : Int32} (hn : n < sy_len.getD w 0) (hi : i = nI n) (hr : (rest.map fun v => v.category).sum ≤ 8) (hdg : decode cX9_says pc = .ok (.invokevirtual 28, 3))
    (kk : ∀ (H : Heap) (locs : List Loc), sy_H Y NX EX s H locs M → W p l e ({ frames := 6, cells := 0, slots := 0, locals := 200 } : Room) s m args below meth c H locs 0 0 Qf (F0 m (pc + 3) ls (.int ((sy_byt.getD w []).getD n 0) :: rest))) : W p l e ({ frames := 6, cells := 0, slots := 0, locals := 200 } : Room) s m args below meth c H locs 0 0 Qf (F0 m pc ls (.int i :: .ref (Y.2.2.2.1 w) :: rest)) := by
  subst hi
  refine sy_cIR C hh (As := [.int (nI n)]) (rest := rest) (Y.2.2.2.1 w) (vk_recv C.2.1.2.2.1.1 hw hh.2) (sJ0_charAt_5068e_X l Y _ M w hw n hn (fun r M1 => r = (sy_byt.getD w []).getD n 0 ∧ M1 = M) ⟨rfl, rfl⟩) (cwV 1 C.1.2.2.2.2 (sy_goodV uX_good uX_367 uX_368 uX_369 uX_357 uX_370 _) rfl rfl rfl hdJ0_charAt_5068e ⟨Nat.le_of_ble_eq_true rfl, Nat.le_of_ble_eq_true rfl⟩) rfl hl.1 rfl hr hdg (fun r M1 H locs hr hh2 => ?_)
  obtain ⟨rfl, rfl⟩ := hr
  exact kk H locs hh2
end
