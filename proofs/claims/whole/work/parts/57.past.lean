/-! past: it may throw -/
theorem sy_iretP {p : Program} {l : Launch} {e : Env} {R : Room} {s : State} {m : MethodId} {args : Array Value} {below : List Frame} {meth : Method} {c : Code} {H : Heap} {locs : List Loc} {cc : ByteArray} {pc nL : Nat} {ls : Array Slot} {Y : sy_Y} {N : Nat} {E : sy_Y → sy_E} {tf : Nat → Option FieldType} {M : sy_M} {Ts : List Cond} {own : String} {Q : Int32 → sy_M → Prop} {r : Int32} {mc ms : Nat} (C : sy_C p m c cc nL s args Ts own meth (some .int) Y N tf) (hh : sy_H Y N E s H locs M) (hdg : decode cc pc = .ok (.ireturn, 1)) (hq : Q r M) : W p l e R s m args below meth c H locs 0 0 (MQ below (sy_QI Y N E s.heap.size Q) args s mc ms (sy_A N Y.2.1 s.heap.size)) (F0 m pc ls [.int r]) := by
  have hlocks := C.2.2.1
  refine W.widen (k := mc) (n := ms) (Nat.zero_le _) (Nat.zero_le _) ?_
  exact W.iret (v := r) C.1.1 C.1.2.1 C.2.2.2 (fun t ht hW => ⟨⟨r, M, rfl, hq, by rw [sy_B, ht]; exact hh.1⟩, hh.2.F ht⟩) hh.2.2.2 hdg
abbrev nse : String := "java/util/NoSuchElementException"
abbrev nsN : List String := ["java/lang/RuntimeException", "java/lang/Exception"]
def atP : List Cond := (vx_at0 RX11 199 nse nsN).filter goodWord
/-- those of its words that are no good words -/
def faP : List Cond := (vx_at0 RX11 199 nse nsN).filter (fun w => !goodWord w)
theorem faP_ok : faP.all (fun w => w.onTables && w.faceAtom) = true := by decide +kernel
theorem faP_cast : Cond.castable nse nse ∈ faP := by decide +kernel
theorem face_moved {u U : State} {w : Cond} {args a' : Array Value} (h1 : w.onTables = true) (h2 : w.faceAtom = true) (hvm : u.vm.Alike U.vm) (h : w.before args u = true) : w.before a' U = true := by
  have e1 := Cond.faceAtom_setVm (args := args) hvm w h2 h
  have e2 := Cond.onTables_vm (A := a') (A' := args) (U := U) (U' := u) U.vm w h1
  show w.before a' (U.setVm U.vm) = true
  rw [e2]
  exact e1
theorem faP_moved {u U : State} {w : Cond} {args a' : Array Value} (hw : w ∈ faP) (hvm : u.vm.Alike U.vm) (h : w.before args u = true) : w.before a' U = true := by
  have h1 := List.all_eq_true.mp faP_ok w hw
  rw [Bool.and_eq_true] at h1
  exact face_moved h1.1 h1.2 hvm h
theorem mp {w c0 : Cond} (h : w ∈ uX) : w ∈ c0 :: (uX ++ atP) := List.mem_cons_of_mem _ (List.mem_append_left _ h)
theorem gmP {c0 : Cond} {ws : List Cond} (h : GoodIn (c0 :: uX) ws) : GoodIn (c0 :: (uX ++ atP)) ws := fun w hw => ⟨(List.mem_cons.mp (h w hw).1).elim (fun e => e ▸ List.mem_cons_self) (fun z => mp z), (h w hw).2⟩
abbrev vsP : List Cond := .code yX11_past cX11_past 5 (some .int) :: (uX ++ atP)
/-- the two statics of Throwable that a throw reads -/
def sy_U (A : Nat → Prop) (U : State) (H : Heap) : Prop := vx_Zq Bundle.tN "UNASSIGNED_STACK" Bundle.steD A U H ∧ vx_Zq Bundle.tN "SUPPRESSED_SENTINEL" Bundle.listD A U H ∧ ∀ w ∈ faP, ∀ a' : Array Value, w.before a' U = true
theorem sy_U.moved {A : Nat → Prop} {u U : State} {H : Heap} (hvm : u.vm.Alike U.vm) (h : sy_U A u H) : sy_U A U H := ⟨h.1.moved hvm, h.2.1.moved hvm, fun w hw a' => faP_moved hw hvm (h.2.2 w hw a')⟩
theorem sy_U.kept {A : Nat → Prop} {U : State} {H H1 : Heap} (h : sy_U A U H) (hq : ∀ a : Nat, a < H.size → ¬ A a → H1[a]? = H[a]?) : sy_U A U H1 := ⟨h.1.kept hq, h.2.1.kept hq, h.2.2⟩
theorem sy_U.narrow {A B : Nat → Prop} {U : State} {H : Heap} (h : sy_U A U H) (hAB : ∀ q, B q → A q) : sy_U B U H := ⟨h.1.narrow hAB, h.2.1.narrow hAB, h.2.2⟩
def paPre (Y : sy_Y) (sz : Nat) (M : sy_M) (U : State) : Prop := sy_pre Y NX EX tfX sz M U ∧ sy_U (sy_A NX Y.2.1 sz) U U.heap
abbrev paX (Y : sy_Y) (sz : Nat) (P : sy_M → Prop) : String → State → State → Prop := vx_X P (fun E u t => E = nse ∧ sy_B Y NX EX u t) (sy_A NX Y.2.1 sz)
theorem paPre.blind {Y : sy_Y} {sz : Nat} {M : sy_M} {av : List Value} : FrameBlind (va_Pc av (paPre Y sz M)) := by
  intro a U g mk h
  exact ⟨h.1, ⟨h.2.1.1, h.2.1.2.1, sy_G.same (u := U) (U := U.calling g mk a) rfl h.2.1.2.2⟩, sy_U.moved (u := U) (U := U.calling g mk a) (Vm.Alike.refl U.vm) h.2.2⟩
def wX11_past (M : sy_M) (a1 : Int32) (a2 : Int32) (a3 : Int32) (Q : Int32 → sy_M → Prop) (P : sy_M → Prop) : Prop := wX2_keeps M a1 (fun r2 M1 => ((r2 = 0 → P M1) ∧ (¬ r2 = 0 → ∃ t4 : Nat, (M1 0 6) = nI t4 ∧ iX10 t4 ∧ wX10_has M1 t4 a2 (fun r6 M5 => ((r6 = 0 → P M5) ∧ (¬ r6 = 0 → wX11_isFrom M5 (0 : Int32) (nI 5) a3 (fun r9 M8 => ((¬ r9 = 0 → wX2_cell M8 a1 a2 (fun r12 M11 => ((¬ a3 = (nI 5) → ((a3 = (nI 4) → wX7_tell M11 11 r12 a3 (fun r16 M15 => Q r16 M15)) ∧ (¬ a3 = (nI 4) → ∃ n17 : Nat, n17 < 2000 ∧ r12 = nI n17 ∧ ((¬ (M11 17 n17) = 0 → wX7_tell M11 11 r12 a3 (fun r20 M19 => Q r20 M19)) ∧ ((M11 17 n17) = 0 → P M11))))) ∧ (a3 = (nI 5) → ∃ n21 : Nat, n21 < 50 ∧ (a1 - a1 / (nI 50) * (nI 50)) = nI n21 ∧ Q (M11 10 n21) M11)))) ∧ (r9 = 0 → P M8)))))))))
set_option maxHeartbeats 4000000 in
set_option maxRecDepth 100000 in
theorem mX11_past (l : Launch) (hst : l.stackTraces = false) (Y : sy_Y) (sz : Nat) (M : sy_M) (a1 a2 a3 : Int32) (Q : Int32 → sy_M → Prop) (P : sy_M → Prop) (hq : wX11_past M a1 a2 a3 Q P) : vx_Met l yX11_past vsP ({ frames := 6, cells := 1, slots := 6, locals := 120 } : Room) (va_Pc [.ref (Y.2.1 0), .int a1, .int a2, .int a3] (paPre Y sz M)) (sy_QI Y NX EX sz Q) (paX Y sz P) 1 6 (sy_A NX Y.2.1 sz) := by
  refine vx_ofW (cc := cX11_past) (maxL := 5) (ret := some .int) (by decide) rfl ?_
  intro p e s m args below meth c s₁ B hml htab hv
  obtain ⟨rfl, ⟨hsz, hP, hG⟩, hU⟩ := hv
  subst hsz
  have hl := lv_entry [.ref (Y.2.1 0), .int a1, .int a2, .int a3] (n := 5) (Nat.le_of_ble_eq_true rfl)
  rw [lg_entry_eq]
  generalize (lg_sl [.ref (Y.2.1 0), .int a1, .int a2, .int a3] ++ List.replicate (5 - (lg_sl [.ref (Y.2.1 0), .int a1, .int a2, .int a3]).length) Slot.unset).toArray = ls at hl ⊢
  have hl : lv_has ls 5 [(0, .ref (Y.2.1 0)), (1, .int a1), (2, .int a2), (3, .int a3)] := hl
  have C : sy_C p m c cX11_past 5 s _ vsP RX11 meth (some .int) Y NX tfX := ⟨⟨B.exec, B.bytes, hml, findClass_of_methodNamed B.named, atoms_spec (ws := vsP) B.pre⟩, hG, B.notSynchronized, B.returns⟩
  have hh : sy_H Y NX EX s s.heap [] M := ⟨hP, va_S.rf⟩
  have hx := C.1.1
  have hb := C.1.2.1
  have hts := C.1.2.2.2.2
  have hth : ∀ (pc : Nat), decode cX11_past pc = .ok (.new 197, 3) → decode cX11_past (pc + 3) = .ok (.dup, 1) → decode cX11_past (pc + 4) = .ok (.invokespecial 199, 3) → decode cX11_past (pc + 7) = .ok (.athrow, 1) → ∀ {M1 : sy_M} {H : Heap} {locs : List Loc} {ls : Array Slot}, P M1 → sy_H Y NX EX s H locs M1 → ls.size = 5 → W p l e ({ frames := 6, cells := 1, slots := 6, locals := 120 } : Room) s m [Value.ref (Y.2.1 0), .int a1, .int a2, .int a3].toArray below meth c H locs 0 0 (vx_MQ below (sy_QI Y NX EX s.heap.size Q) (paX Y s.heap.size P) [Value.ref (Y.2.1 0), .int a1, .int a2, .int a3].toArray s 1 6 (sy_A NX Y.2.1 s.heap.size)) (F0 m pc ls []) := by
    intro pc d0 d3 d4 d7 M1 H locs ls hp hh hsize
    refine vx_throw0 (own := RX11) (cls := nse) (names := nsN) (ik := 197) (ic := 199) (A := sy_A NX Y.2.1 s.heap.size) hx hb hst C.1.2.2.2.1 (by decide +kernel) (by decide +kernel) (hts _ (mp uX_581)) (hts _ (mp uX_582)) (fun w hw => ?_) (by decide +kernel) hU.1 hU.2.1 hh.2 (by rw [hml]; exact hsize) d0 d3 d4 d7 (fun x hx => (htab x hx).elim) (by decide) (by decide) (by decide) (by decide) B.notSynchronized (fun t ha hz hk => ?_) hh.2.2.2 (by decide) (by decide)
    · by_cases g : goodWord w = true
      · exact hts w (List.mem_cons_of_mem _ (List.mem_append_right _ (List.mem_filter.mpr ⟨hw, g⟩)))
      · have : w ∈ (vx_at0 RX11 199 nse nsN).filter (fun w => !goodWord w) := List.mem_filter.mpr ⟨hw, by simp [g]⟩
        exact hU.2.2 w this _
    · refine ⟨M1, hp, ⟨rfl, ?_⟩, ?_, ?_⟩
      · exact hh.1.kept (fun k q hk2 => hk q.1 (hh.1 k q hk2).lt)
      · exact Nat.le_trans hh.2.1 hz
      · intro q h1 h2
        rw [hk q (Nat.lt_of_lt_of_le h1 hh.2.1)]
        exact hh.2.2.1 q h1 h2
  unfold wX11_past at hq
  refine lv_aload_n hx hb dX11_past_0 rfl (lv_at hl 0 rfl) ?_
  refine sy_get C hh (fun w h => mp (uX_fX11 w h)) 0 (by decide) (oX_0 Y) rfl 3 (by decide) (index := 31) (mp uX_492) (v := .ref (Y.2.1 9)) rfl dX11_past_1 ?_
  refine lv_iload_n hx hb dX11_past_4 rfl (lv_at hl 1 rfl) ?_
  refine sy_cIV C hh (As := [.int a1]) (rest := []) 9 (by decide) (oX_9 Y) rfl (mX2_keeps l Y _ M a1 _ hq) (cwV 1 C.1.2.2.2.2 (gmP (sy_goodV uX_good uX_584 uX_585 uX_586 uX_114 uX_108 _)) rfl rfl rfl hdX2_keeps ⟨Nat.le_of_ble_eq_true rfl, Nat.le_of_ble_eq_true rfl⟩) rfl hl.1 rfl (Nat.le_of_ble_eq_true rfl) dX11_past_5 (fun r2 M1 H locs hq hh => ?_)
  refine lv_if_eq (tgt := 31) hx hb dX11_past_8 (by decide) (fun c3 => ?_) (fun c3 => ?_)
  · have hq := hq.1 c3
    exact hth 31 dX11_past_31 dX11_past_34 dX11_past_35 dX11_past_38 hq hh hl.1
  · have hq := hq.2 c3
    refine lv_aload_n hx hb dX11_past_11 rfl (lv_at hl 0 rfl) ?_
    obtain ⟨t4, et4, ht4, hq⟩ := hq
    refine sy_get C hh (fun w h => mp (uX_fX11 w h)) 0 (by decide) (oX_0 Y) rfl 6 (by decide) (index := 49) (mp uX_498) (v := .ref (Y.2.1 t4)) (sy_rf_of et4 (by have := iX10_lt ht4; omega)) dX11_past_12 ?_
    refine lv_iload_n hx hb dX11_past_15 rfl (lv_at hl 2 rfl) ?_
    refine sy_cIV C hh (As := [.int a2]) (rest := []) t4 (iX10_N ht4) (oX10 ht4) rfl (mX10_has l Y _ M1 t4 ht4 a2 _ hq) (cwV 1 C.1.2.2.2.2 (gmP (sy_goodV uX_good uX_557 uX_18 uX_19 uX_20 uX_11 _)) rfl rfl rfl hdX10_has ⟨Nat.le_of_ble_eq_true rfl, Nat.le_of_ble_eq_true rfl⟩) rfl hl.1 rfl (Nat.le_of_ble_eq_true rfl) dX11_past_16 (fun r6 M5 H locs hq hh => ?_)
    refine lv_if_eq (tgt := 31) hx hb dX11_past_19 (by decide) (fun c7 => ?_) (fun c7 => ?_)
    · have hq := hq.1 c7
      exact hth 31 dX11_past_31 dX11_past_34 dX11_past_35 dX11_past_38 hq hh hl.1
    · have hq := hq.2 c7
      refine lv_iconst (v := (0 : Int32)) hx hb dX11_past_22 (by decide) ?_
      refine lv_iconst (v := (nI 5)) hx hb dX11_past_23 (by decide) ?_
      refine lv_iload_n hx hb dX11_past_24 rfl (lv_at hl 3 rfl) ?_
      refine sy_cIS C hh (As := [.int (0 : Int32), .int (nI 5), .int a3]) (rest := []) (mX11_isFrom l Y _ M5 (0 : Int32) (nI 5) a3 _ hq) (va_cwS 3 C.1.2.2.2.2 (gmP (sy_goodS uX_good uX_508 uX_509 uX_58 uX_506 _)) rfl rfl rfl hdX11_isFrom.2 ⟨Nat.le_of_ble_eq_true rfl, Nat.le_of_ble_eq_true rfl⟩) rfl hl.1 rfl (Nat.le_of_ble_eq_true rfl) dX11_past_25 (fun r9 M8 H locs hq hh => ?_)
      refine lv_if_ne (tgt := 39) hx hb dX11_past_28 (by decide) (fun c10 => ?_) (fun c10 => ?_)
      · have hq := hq.1 c10
        refine lv_aload_n hx hb dX11_past_39 rfl (lv_at hl 0 rfl) ?_
        refine sy_get C hh (fun w h => mp (uX_fX11 w h)) 0 (by decide) (oX_0 Y) rfl 3 (by decide) (index := 31) (mp uX_492) (v := .ref (Y.2.1 9)) rfl dX11_past_40 ?_
        refine lv_iload_n hx hb dX11_past_43 rfl (lv_at hl 1 rfl) ?_
        refine lv_iload_n hx hb dX11_past_44 rfl (lv_at hl 2 rfl) ?_
        refine sy_cIV C hh (As := [.int a1, .int a2]) (rest := []) 9 (by decide) (oX_9 Y) rfl (mX2_cell l Y _ M8 a1 a2 _ hq) (cwV 2 C.1.2.2.2.2 (gmP (sy_goodV uX_good uX_578 uX_112 uX_113 uX_114 uX_109 _)) rfl rfl rfl hdX2_cell ⟨Nat.le_of_ble_eq_true rfl, Nat.le_of_ble_eq_true rfl⟩) rfl hl.1 rfl (Nat.le_of_ble_eq_true rfl) dX11_past_45 (fun r12 M11 H locs hq hh => ?_)
        refine lv_istore (lv' := [(4, .int r12), (0, .ref (Y.2.1 0)), (1, .int a1), (2, .int a2), (3, .int a3)]) hx hb dX11_past_48 hl (by decide) rfl (fun ls hl => ?_)
        refine lv_iload_n hx hb dX11_past_50 rfl (lv_at hl 4 rfl) ?_
        refine lv_iconst (v := (nI 5)) hx hb dX11_past_51 (by decide) ?_
        refine lv_icmp_ne (tgt := 68) hx hb dX11_past_52 (by decide) (fun c13 => ?_) (fun c13 => ?_)
        · have hq := hq.1 c13
          refine lv_iload_n hx hb dX11_past_68 rfl (lv_at hl 4 rfl) ?_
          refine lv_iconst (v := (nI 4)) hx hb dX11_past_69 (by decide) ?_
          refine lv_icmp_eq (tgt := 94) hx hb dX11_past_70 (by decide) (fun c14 => ?_) (fun c14 => ?_)
          · have hq := hq.1 c14
            refine lv_aload_n hx hb dX11_past_94 rfl (lv_at hl 1 rfl) ?_
            refine sy_get C hh (fun w h => mp (uX_fX11 w h)) 0 (by decide) (oX_0 Y) rfl 3 (by decide) (index := 31) (mp uX_492) (v := .ref (Y.2.1 9)) rfl dX11_past_95 ?_
            refine sy_get C hh (fun w h => mp (uX_fX2 w h)) 9 (by decide) (oX_9 Y) rfl 2 (by decide) (index := 141) (mp uX_552) (v := .ref (Y.2.1 11)) rfl dX11_past_98 ?_
            refine lv_iload hx hb dX11_past_101 (lv_at hl 0 rfl) ?_
            refine lv_iload_n hx hb dX11_past_103 rfl (lv_at hl 4 rfl) ?_
            refine sy_cIV C hh (As := [.int r12, .int a3]) (rest := []) 11 (by decide) (oX_11 Y) rfl (mX7_tell l Y _ M11 11 iX7_11 r12 a3 _ hq) (cwV 2 C.1.2.2.2.2 (gmP (sy_goodV uX_good uX_559 uX_560 uX_561 uX_37 uX_477 _)) rfl rfl rfl hdX7_tell ⟨Nat.le_of_ble_eq_true rfl, Nat.le_of_ble_eq_true rfl⟩) rfl hl.1 rfl (Nat.le_of_ble_eq_true rfl) dX11_past_104 (fun r16 M15 H locs hq hh => ?_)
            exact vx_ret (sy_iretP C hh dX11_past_107 hq)
          · have hq := hq.2 c14
            refine lv_aload_n hx hb dX11_past_73 rfl (lv_at hl 1 rfl) ?_
            refine sy_get C hh (fun w h => mp (uX_fX11 w h)) 0 (by decide) (oX_0 Y) rfl 3 (by decide) (index := 31) (mp uX_492) (v := .ref (Y.2.1 9)) rfl dX11_past_74 ?_
            refine sy_get C hh (fun w h => mp (uX_fX2 w h)) 9 (by decide) (oX_9 Y) rfl 3 (by decide) (index := 147) (mp uX_554) (v := .ref (Y.2.1 17)) rfl dX11_past_77 ?_
            refine lv_iload hx hb dX11_past_80 (lv_at hl 0 rfl) ?_
            obtain ⟨n17, hn17, en17, hq⟩ := hq
            refine sy_zald C hh 17 (by decide) (aX_17 Y) tX_17 hn17 en17 (by decide) dX11_past_82 ?_
            refine lv_if_ne (tgt := 94) hx hb dX11_past_83 (by decide) (fun c18 => ?_) (fun c18 => ?_)
            · have hq := hq.1 c18
              refine lv_aload_n hx hb dX11_past_94 rfl (lv_at hl 1 rfl) ?_
              refine sy_get C hh (fun w h => mp (uX_fX11 w h)) 0 (by decide) (oX_0 Y) rfl 3 (by decide) (index := 31) (mp uX_492) (v := .ref (Y.2.1 9)) rfl dX11_past_95 ?_
              refine sy_get C hh (fun w h => mp (uX_fX2 w h)) 9 (by decide) (oX_9 Y) rfl 2 (by decide) (index := 141) (mp uX_552) (v := .ref (Y.2.1 11)) rfl dX11_past_98 ?_
              refine lv_iload hx hb dX11_past_101 (lv_at hl 0 rfl) ?_
              refine lv_iload_n hx hb dX11_past_103 rfl (lv_at hl 4 rfl) ?_
              refine sy_cIV C hh (As := [.int r12, .int a3]) (rest := []) 11 (by decide) (oX_11 Y) rfl (mX7_tell l Y _ M11 11 iX7_11 r12 a3 _ hq) (cwV 2 C.1.2.2.2.2 (gmP (sy_goodV uX_good uX_559 uX_560 uX_561 uX_37 uX_477 _)) rfl rfl rfl hdX7_tell ⟨Nat.le_of_ble_eq_true rfl, Nat.le_of_ble_eq_true rfl⟩) rfl hl.1 rfl (Nat.le_of_ble_eq_true rfl) dX11_past_104 (fun r20 M19 H locs hq hh => ?_)
              exact vx_ret (sy_iretP C hh dX11_past_107 hq)
            · have hq := hq.2 c18
              exact hth 86 dX11_past_86 dX11_past_89 dX11_past_90 dX11_past_93 hq hh hl.1
        · have hq := hq.2 c13
          refine lv_aload_n hx hb dX11_past_55 rfl (lv_at hl 1 rfl) ?_
          refine sy_get C hh (fun w h => mp (uX_fX11 w h)) 0 (by decide) (oX_0 Y) rfl 3 (by decide) (index := 31) (mp uX_492) (v := .ref (Y.2.1 9)) rfl dX11_past_56 ?_
          refine sy_get C hh (fun w h => mp (uX_fX2 w h)) 9 (by decide) (oX_9 Y) rfl 1 (by decide) (index := 200) (mp uX_583) (v := .ref (Y.2.1 10)) rfl dX11_past_59 ?_
          refine lv_iload_n hx hb dX11_past_62 rfl (lv_at hl 2 rfl) ?_
          refine lv_bipush (v := (nI 50)) hx hb dX11_past_63 (by decide) ?_
          refine lv_irem hx hb dX11_past_65 (by decide) ?_
          obtain ⟨n21, hn21, en21, hq⟩ := hq
          refine sy_iald C hh 10 (by decide) (aX_10 Y) tX_10 hn21 en21 (by decide) dX11_past_66 ?_
          exact vx_ret (sy_iretP C hh dX11_past_67 hq)
      · have hq := hq.2 c10
        exact hth 31 dX11_past_31 dX11_past_34 dX11_past_35 dX11_past_38 hq hh hl.1
