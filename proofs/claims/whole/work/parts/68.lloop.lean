/-! the law's loop -/
def R_law : String := "AreaSetterLaw"
def lw_P (b : Addr) (xs : List Int32) (args : Array Value) (s : State) : Prop := args = #[.ref b] ∧ s.IntsAt b xs ∧ xs.length ≤ 3072 ∧ (Jvm.Cond.and given_1 narrow_1).before args s = true
def lw_Q (_ : Array Value) (s : State) (o : Outcome) (t : State) : Prop := o = .returned (some (.int 1)) ∧ Framed s o t [] 601024 7293034
def lw_Z (below : List Frame) (a : Array Value) (s : State) : State → Prop := fun t => ∃ o, t.status = .running ∧ Ended t below o ∧ lw_Q a s o t
/-- the law's own end, with 1 on the stack, nothing written that was there before, its room as the claim has it -/
theorem lw_ret {p : Program} {l : Launch} {e : Env} {s : State} {m : MethodId} {below : List Frame} {meth : Method} {c : Code} {b : Nat} (hx : p.tables.exec = Jvm.exec) (hb : c.code = code) (hr : meth.sig.returnType = ret) (hlocks : meth.locks = false) {pc : Nat} {H : Heap} {ls : Array Slot} (hdg : decode code pc = .ok (.ireturn, 1)) : W p l e room_1 s m #[Value.ref b] below meth c H [] 601024 7293034 (lw_Z below #[Value.ref b] s) (F0 m pc ls [.int 1]) := by
  intro T hT X
  obtain ⟨fs, hret, hrun, hended, hW, hframe⟩ := X.leave (v := some (.int 1)) (hlocks := hlocks) (fun h => by rw [hr] at h; cases h)
  have hmeth' : T.vm.method? m = some meth := X.method'
  refine ⟨T.setFrames fs, ?_, .returned (some (.int 1)), hrun, hended, rfl, ⟨_, rfl⟩, hW, hframe⟩
  jvm_step X.here [X.here.top, hx, hb, hdg, hmeth', hr, ret, narrow_b1]
  (try refine ⟨rfl, ?_⟩); (try refine ⟨rfl, ?_⟩)
  first | (intro acts; rw [hret _ acts rfl rfl rfl]) | rw [hret _ _ rfl rfl rfl]
  exact Steps.refl _
/-- what holds at the law's entry: the machine, the code, the tables' words (any of lw_tbl by 'hts w (by decide +kernel)'), the script of L ints xs at the cell b, what the Statement gives of the start (any of its parts by flat_of_before) -/
def lw_At (p : Program) (s : State) (m : MethodId) (meth : Method) (c : Code) (b L : Nat) (xs : Nat → Int32) : Prop :=
  p.tables.exec = Jvm.exec ∧ c.code = code ∧ meth.sig.returnType = ret ∧ c.maxLocals = 7 ∧ s.vm.findClass R_law = some m.cls ∧ (∀ w ∈ lw_tbl, w.before #[Value.ref b] s = true) ∧ va_X b L xs s s.heap ∧ b < s.heap.size ∧ meth.locks = false ∧ (Jvm.Cond.and given_1 narrow_1).before #[Value.ref b] s = true
theorem lw_ge {L j : Nat} (hL : L ≤ 3072) (hj : j ≤ 513) (h : ¬ (Int32.ofNat L - nI 6 < nI (6 * j))) : 6 * j + 6 ≤ L := by
  have h' : ¬ (nI L - nI 6 < nI (6 * j)) := h
  rw [Int32.lt_iff_toInt_lt, nI_toInt (by omega), pk_sub_toInt (by omega) (by omega)] at h'
  omega
set_option maxHeartbeats 4000000 in
set_option maxRecDepth 100000 in
theorem law_loop {p : Program} {l : Launch} {e : Env} {s : State} {m : MethodId} {below : List Frame} {meth : Method} {c : Code} {b L : Nat} {xs : Nat → Int32} {YX YZ : sy_Y} {oa : Nat} {oc : ClassId} (C : lwC p l s m c b L xs YX YZ oa oc) (hL : L ≤ 3072) (hr : meth.sig.returnType = ret) (hlk : meth.locks = false) :
    ∀ (n j : Nat) (A B : sy_M) (f : Nat → Int64) (H : Heap) (locs : List Loc) (ls : Array Slot), j + n = 513 → 6 * j ≤ L → Rel j A B → lwH s YX YZ oa oc H locs A B f → lv_has ls 7 [(0, .ref b), (1, .ref (YX.2.1 0)), (2, .ref (YZ.2.1 0)), (3, .ref oa), (4, .int (nI (6 * j)))] → W p l e room_1 s m #[Value.ref b] below meth c H locs (123 + j) (31214 + 6 * j) (lw_Z below #[Value.ref b] s) (F0 m 23 ls []) := by
  have hx := C.1.1
  have hb := C.1.2.1
  have hts := C.1.2.2.2.2
  have hX := C.2.2.2.2.2.2.2.2.2.2.2.2.2.1
  have hbl := C.2.2.2.2.2.2.2.2.2.2.2.2.2.2
  have hbA : ¬ (fun q : Nat => s.heap.size ≤ q) b := Nat.not_le.mpr hbl
  intro n
  induction n with
  | zero =>
    intro j A B f H locs ls h1 h2
    omega
  | succ n ih =>
    intro j A B f H locs ls hjn hjL hR hh hl
    refine lv_iload hx hb dL_law_23 (lv_at hl 4 rfl) ?_
    refine lv_aload_n hx hb dL_law_25 rfl (lv_at hl 0 rfl) ?_
    refine va_slen hx hb hX hbl hbA hh.2.2.2 dL_law_26 ?_
    refine lv_bipush (v := nI 6) hx hb dL_law_27 (by decide) ?_
    refine lv_isub hx hb dL_law_29 ?_
    refine lv_icmp_gt (tgt := 857) hx hb dL_law_30 (by decide) (fun _ => ?_) (fun hgt => ?_)
    · refine lv_iconst (v := 1) hx hb dL_law_857 (by decide) ?_
      refine va_forget (fun q hq => hh.2.2.2.2.2 q hq) ?_
      refine W.widen (k := 601024) (n := 7293034) (by omega) (by omega) ?_
      exact lw_ret hx hb hr hlk dL_law_858
    · have hj := lw_ge hL (by omega) hgt
      have kk : ∀ (A1 B1 : sy_M) (f1 : Nat → Int64) (H1 : Heap) (locs1 : List Loc) (ls1 : Array Slot), Rel (j + 1) A1 B1 → lwH s YX YZ oa oc H1 locs1 A1 B1 f1 → lv_has ls1 7 [(0, .ref b), (1, .ref (YX.2.1 0)), (2, .ref (YZ.2.1 0)), (3, .ref oa), (4, .int (nI (6 * j)))] → W p l e room_1 s m #[Value.ref b] below meth c H1 locs1 (123 + j + 1) (31214 + 6 * j + 6) (lw_Z below #[Value.ref b] s) (F0 m 851 ls1 []) := by
        intro A1 B1 f1 H1 locs1 ls1 hR hh hl
        refine lv_iinc (v := nI (6 * (j + 1))) (lv' := [(4, .int (nI (6 * (j + 1)))), (0, .ref b), (1, .ref (YX.2.1 0)), (2, .ref (YZ.2.1 0)), (3, .ref oa)]) hx hb dL_law_851 hl (k := 4) rfl (by rw [show Int32.ofInt 6 = nI 6 from rfl, nI_add]; rfl) (by decide) rfl (fun ls hl => ?_)
        refine lv_goto (tgt := 23) hx hb dL_law_854 (by decide) ?_
        refine W.widen (k := 123 + (j + 1)) (n := 31214 + 6 * (j + 1)) (by omega) (by omega) ?_
        exact ih (j + 1) A1 B1 f1 H1 locs1 ls (by omega) (by omega) hR hh (lv_sub hl [1, 2, 3, 4, 0] rfl)
      refine lv_aload_n hx hb dL_law_33 rfl (lv_at hl 0 rfl) ?_
      refine lv_iload hx hb dL_law_34 (lv_at hl 4 rfl) ?_
      refine va_sld hx hb hX hbl hbA hh.2.2.2 (vp_in_nI (by omega) (by omega)) dL_law_36 ?_
      refine lv_bipush (v := nI 31) hx hb dL_law_37 (by decide) ?_
      refine lv_iand hx hb dL_law_39 ?_
      have hc : 123 + j + 1 ≤ 601024 ∧ 31214 + 6 * j + 6 ≤ 7293034 := ⟨by omega, by omega⟩
      generalize xs (nI (6 * j)).toNatClampNeg &&& nI 31 = v
      by_cases h0 : v = (0 : Int32)
      · refine lv_tableIn (tgt := 136) (off := 96) hx hb dL_law_40 (by rw [h0]; decide) (by rw [h0]; decide) (by rw [h0]; rfl) (by decide) ?_
        exact lc_0 C hh hR hj hL hl hc kk
      by_cases h1 : v = (1 : Int32)
      · refine lv_tableIn (tgt := 173) (off := 133) hx hb dL_law_40 (by rw [h1]; decide) (by rw [h1]; decide) (by rw [h1]; rfl) (by decide) ?_
        exact lc_1 C hh hR hj hL hl hc kk
      by_cases h2 : v = (nI 2)
      · refine lv_tableIn (tgt := 198) (off := 158) hx hb dL_law_40 (by rw [h2]; decide) (by rw [h2]; decide) (by rw [h2]; rfl) (by decide) ?_
        exact lc_2 C hh hR hj hL hl hc kk
      by_cases h3 : v = (nI 3)
      · refine lv_tableIn (tgt := 271) (off := 231) hx hb dL_law_40 (by rw [h3]; decide) (by rw [h3]; decide) (by rw [h3]; rfl) (by decide) ?_
        exact lc_3 C hh hR hj hL hl hc kk
      by_cases h4 : v = (nI 4)
      · refine lv_tableIn (tgt := 296) (off := 256) hx hb dL_law_40 (by rw [h4]; decide) (by rw [h4]; decide) (by rw [h4]; rfl) (by decide) ?_
        exact lc_4 C hh hR hj hL hl hc kk
      by_cases h5 : v = (nI 5)
      · refine lv_tableIn (tgt := 309) (off := 269) hx hb dL_law_40 (by rw [h5]; decide) (by rw [h5]; decide) (by rw [h5]; rfl) (by decide) ?_
        exact lc_5 C hh hR hj hL hl hc kk
      by_cases h6 : v = (nI 6)
      · refine lv_tableIn (tgt := 322) (off := 282) hx hb dL_law_40 (by rw [h6]; decide) (by rw [h6]; decide) (by rw [h6]; rfl) (by decide) ?_
        exact lc_6 C hh hR hj hL hl hc kk
      by_cases h7 : v = (nI 7)
      · refine lv_tableIn (tgt := 371) (off := 331) hx hb dL_law_40 (by rw [h7]; decide) (by rw [h7]; decide) (by rw [h7]; rfl) (by decide) ?_
        exact lc_7 C hh hR hj hL hl hc kk
      by_cases h8 : v = (nI 8)
      · refine lv_tableIn (tgt := 436) (off := 396) hx hb dL_law_40 (by rw [h8]; decide) (by rw [h8]; decide) (by rw [h8]; rfl) (by decide) ?_
        exact lc_8 C hh hR hj hL hl hc kk
      by_cases h9 : v = (nI 9)
      · refine lv_tableIn (tgt := 461) (off := 421) hx hb dL_law_40 (by rw [h9]; decide) (by rw [h9]; decide) (by rw [h9]; rfl) (by decide) ?_
        exact lc_9 C hh hR hj hL hl hc kk
      by_cases h10 : v = (nI 10)
      · refine lv_tableIn (tgt := 498) (off := 458) hx hb dL_law_40 (by rw [h10]; decide) (by rw [h10]; decide) (by rw [h10]; rfl) (by decide) ?_
        exact lc_10 C hh hR hj hL hl hc kk
      by_cases h11 : v = (nI 11)
      · refine lv_tableIn (tgt := 535) (off := 495) hx hb dL_law_40 (by rw [h11]; decide) (by rw [h11]; decide) (by rw [h11]; rfl) (by decide) ?_
        exact lc_11 C hh hR hj hL hl hc kk
      by_cases h12 : v = (nI 12)
      · refine lv_tableIn (tgt := 572) (off := 532) hx hb dL_law_40 (by rw [h12]; decide) (by rw [h12]; decide) (by rw [h12]; rfl) (by decide) ?_
        exact lc_12 C hh hR hj hL hl hc kk
      by_cases h13 : v = (nI 13)
      · refine lv_tableIn (tgt := 597) (off := 557) hx hb dL_law_40 (by rw [h13]; decide) (by rw [h13]; decide) (by rw [h13]; rfl) (by decide) ?_
        exact lc_13 C hh hR hj hL hl hc kk
      by_cases h14 : v = (nI 14)
      · refine lv_tableIn (tgt := 622) (off := 582) hx hb dL_law_40 (by rw [h14]; decide) (by rw [h14]; decide) (by rw [h14]; rfl) (by decide) ?_
        exact lc_14 C hh hR hj hL hl hc kk
      by_cases h15 : v = (nI 15)
      · refine lv_tableIn (tgt := 702) (off := 662) hx hb dL_law_40 (by rw [h15]; decide) (by rw [h15]; decide) (by rw [h15]; rfl) (by decide) ?_
        exact lc_15 C hh hR hj hL hl hc kk
      by_cases h16 : v = (nI 16)
      · refine lv_tableIn (tgt := 739) (off := 699) hx hb dL_law_40 (by rw [h16]; decide) (by rw [h16]; decide) (by rw [h16]; rfl) (by decide) ?_
        exact lc_16 C hh hR hj hL hl hc kk
      by_cases h17 : v = (nI 17)
      · refine lv_tableIn (tgt := 776) (off := 736) hx hb dL_law_40 (by rw [h17]; decide) (by rw [h17]; decide) (by rw [h17]; rfl) (by decide) ?_
        exact lc_17 C hh hR hj hL hl hc kk
      by_cases h18 : v = (nI 18)
      · refine lv_tableIn (tgt := 789) (off := 749) hx hb dL_law_40 (by rw [h18]; decide) (by rw [h18]; decide) (by rw [h18]; rfl) (by decide) ?_
        exact lc_18 C hh hR hj hL hl hc kk
      by_cases h19 : v = (nI 19)
      · refine lv_tableIn (tgt := 826) (off := 786) hx hb dL_law_40 (by rw [h19]; decide) (by rw [h19]; decide) (by rw [h19]; rfl) (by decide) ?_
        exact lc_19 C hh hR hj hL hl hc kk
      refine lv_tableOut (tgt := 851) hx hb dL_law_40 (by have := lv_neT h0 (a := 0) (by decide); have := lv_neT h1 (a := 1) (by decide); have := lv_neT h2 (a := 2) (by decide); have := lv_neT h3 (a := 3) (by decide); have := lv_neT h4 (a := 4) (by decide); have := lv_neT h5 (a := 5) (by decide); have := lv_neT h6 (a := 6) (by decide); have := lv_neT h7 (a := 7) (by decide); have := lv_neT h8 (a := 8) (by decide); have := lv_neT h9 (a := 9) (by decide); have := lv_neT h10 (a := 10) (by decide); have := lv_neT h11 (a := 11) (by decide); have := lv_neT h12 (a := 12) (by decide); have := lv_neT h13 (a := 13) (by decide); have := lv_neT h14 (a := 14) (by decide); have := lv_neT h15 (a := 15) (by decide); have := lv_neT h16 (a := 16) (by decide); have := lv_neT h17 (a := 17) (by decide); have := lv_neT h18 (a := 18) (by decide); have := lv_neT h19 (a := 19) (by decide); omega) (by decide) ?_
      refine W.widen (k := 123 + j + 1) (n := 31214 + 6 * j + 6) (by omega) (by omega) ?_
      exact kk A B f H locs ls hR.up hh hl
