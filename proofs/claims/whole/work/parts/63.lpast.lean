theorem dL_past_0 : decode cL_past 0 = .ok (.aload 4, 2) := by decide +kernel
theorem dL_past_2 : decode cL_past 2 = .ok (.iconst 0, 1) := by decide +kernel
theorem dL_past_3 : decode cL_past 3 = .ok (.aload_n 0, 1) := by decide +kernel
theorem dL_past_4 : decode cL_past 4 = .ok (.iload_n 1, 1) := by decide +kernel
theorem dL_past_5 : decode cL_past 5 = .ok (.iload_n 2, 1) := by decide +kernel
theorem dL_past_6 : decode cL_past 6 = .ok (.iload_n 3, 1) := by decide +kernel
theorem dL_past_7 : decode cL_past 7 = .ok (.invokevirtual 7, 3) := by decide +kernel
theorem dL_past_10 : decode cL_past 10 = .ok (.i2l, 1) := by decide +kernel
theorem dL_past_11 : decode cL_past 11 = .ok (.lastore, 1) := by decide +kernel
theorem dL_past_12 : decode cL_past 12 = .ok (.goto 7, 3) := by decide +kernel
theorem dL_past_15 : decode cL_past 15 = .ok (.astore 5, 2) := by decide +kernel
theorem dL_past_17 : decode cL_past 17 = .ok (.iconst 1, 1) := by decide +kernel
theorem dL_past_18 : decode cL_past 18 = .ok (.ireturn, 1) := by decide +kernel
theorem dL_past_19 : decode cL_past 19 = .ok (.iconst 0, 1) := by decide +kernel
theorem dL_past_20 : decode cL_past 20 = .ok (.ireturn, 1) := by decide +kernel
/-! the law's own past: it catches -/
theorem met_of_vx {l : Launch} {y : MethodName} {ws : List Cond} {rm : Room} {Pc : Array Value → State → Prop} {Qc : Array Value → State → Outcome → State → Prop} {mc ms : Nat} {free : Addr → Prop} (h : vx_Met l y ws rm Pc Qc (fun _ _ _ => False) mc ms free) : Met l y ws rm Pc Qc mc ms free := by
  intro p e ha hc hk s m args below hf happ hP hx
  obtain ⟨k, o, h1, h2, h3, hQ⟩ := h p e ha hc hk s m args below hf happ hP hx
  rcases hQ with hQ | ⟨q, -, E, ce, L, hF, -⟩
  · exact ⟨k, o, h1, h2, h3, hQ⟩
  · exact hF.elim
abbrev lpW : List Cond := [.classLink RL 13 nse, .methodLink RL 7 yX11_past, .instanceMethod yX11_past, .selects RX11 yX11_past yX11_past]
abbrev wsLP : List Cond := .codeWith yL_past cL_past 6 (some .int) [(0, 12, 15, 13)] :: (lpW ++ (uX ++ atP))
theorem atP_good : atP.all goodWord = true := by decide +kernel
theorem atP_self : GoodIn atP atP := goodIn_sub (fun _ h => h) atP_good
theorem lp_good {c0 : Cond} : GoodIn (c0 :: (lpW ++ (uX ++ atP))) (wsV RL 7 RX11 yX11_past vsP) := by
  have hu : ∀ w ∈ uX, w ∈ c0 :: (lpW ++ (uX ++ atP)) := fun w h => List.mem_cons_of_mem _ (List.mem_append_right _ (List.mem_append_left _ h))
  have hl : ∀ w ∈ lpW, w ∈ c0 :: (lpW ++ (uX ++ atP)) := fun w h => List.mem_cons_of_mem _ (List.mem_append_left _ h)
  have gl : GoodIn lpW lpW := goodIn_sub (fun _ h => h) (by decide +kernel)
  have key : ∀ w ∈ wsV RL 7 RX11 yX11_past vsP, w ∈ lpW ∨ w ∈ uX ∨ w ∈ atP := by
    intro w hw
    simp only [wsV, List.mem_append, List.mem_cons, List.not_mem_nil, or_false] at hw
    rcases hw with (h | h | h | h) | h | h | h
    · left; rw [h]; exact List.mem_cons_of_mem _ List.mem_cons_self
    · left; rw [h]; exact List.mem_cons_of_mem _ (List.mem_cons_of_mem _ List.mem_cons_self)
    · left; rw [h]; exact List.mem_cons_of_mem _ (List.mem_cons_of_mem _ (List.mem_cons_of_mem _ List.mem_cons_self))
    · right; left; rw [h]; exact uX_58
    · right; left; rw [h]; exact uX_587
    · right; left; exact h
    · right; right; exact h
  intro w hw
  rcases key w hw with h | h | h
  · exact ⟨hl w h, (gl w h).2⟩
  · exact ⟨hu w h, (uX_good w h).2⟩
  · exact ⟨List.mem_cons_of_mem _ (List.mem_append_right _ (List.mem_append_right _ h)), (atP_self w h).2⟩
def lpA (Y : sy_Y) (oa sz : Nat) : Nat → Prop := fun q => sy_A NX Y.2.1 sz q ∨ q = oa
def lpO (oa : Nat) (oc : ClassId) (f : Nat → Int64) : Nat × va_E := (oa, .inl (oc, 1, .inr (.inl f)))
def lpPre (Y : sy_Y) (oa : Nat) (oc : ClassId) (sz : Nat) (M : sy_M) (f : Nat → Int64) (U : State) : Prop := paPre Y sz M U ∧ va_P Y.1 vwCl [lpO oa oc f] U.heap ∧ va_K Y.1 vwCl [(oc, .long)] U ∧ ∀ k, k < NX → Y.2.1 k ≠ oa
def lpQ (Q : Int32 → sy_M → Prop) (P : sy_M → Prop) (r : Int32) (u : sy_M × (Nat → Int64)) : Prop := (r = 0 ∧ ∃ v : Int32, Q v u.1 ∧ u.2 0 = v.toInt64) ∨ (r = 1 ∧ P u.1)
def lpB (Y : sy_Y) (oa : Nat) (oc : ClassId) (u : sy_M × (Nat → Int64)) (t : State) : Prop := va_P Y.1 vwCl (sy_w NX Y.2.1 (EX Y) u.1 ++ [lpO oa oc u.2]) t.heap
theorem lpPre.blind {Y : sy_Y} {oa : Nat} {oc : ClassId} {sz : Nat} {M : sy_M} {f : Nat → Int64} {av : List Value} : FrameBlind (va_Pc av (lpPre Y oa oc sz M f)) := by
  intro a U g mk h
  obtain ⟨h1, ⟨⟨h2, h3, h4⟩, h5⟩, h6, h7, h8⟩ := h
  exact ⟨h1, ⟨⟨h2, h3, sy_G.same (u := U) (U := U.calling g mk a) rfl h4⟩, sy_U.moved (u := U) (U := U.calling g mk a) (Vm.Alike.refl U.vm) h5⟩, h6, va_K.moved (u := U) (U := U.calling g mk a) (Vm.Alike.refl U.vm) h7, h8⟩
theorem lp_len {N : Nat} {ad : Nat → Nat} {E : sy_E} {M : sy_M} : (sy_w N ad E M).length = N := by simp [sy_w]
theorem lp_at {N : Nat} {ad : Nat → Nat} {E : sy_E} {M : sy_M} {x : Nat × va_E} : (sy_w N ad E M ++ [x])[N]? = some x := by
  rw [List.getElem?_append_right (by rw [lp_len]; omega), lp_len, Nat.sub_self]
  rfl
theorem lp_set {N : Nat} {ad : Nat → Nat} {E : sy_E} {M : sy_M} {x y : Nat × va_E} : (sy_w N ad E M ++ [x]).set N y = sy_w N ad E M ++ [y] := by
  rw [List.set_append_right _ _ (by rw [lp_len]; omega), lp_len, Nat.sub_self]
  rfl
theorem lp_D {Y : sy_Y} {oa sz : Nat} {oc : ClassId} {f : Nat → Int64} {M : sy_M} (hJ : sy_J NX Y.2.1) (hne : ∀ k, k < NX → Y.2.1 k ≠ oa) : va_D (lpA Y oa sz) (sy_w NX Y.2.1 (EX Y) M ++ [lpO oa oc f]) := by
  have at' : ∀ k q, (sy_w NX Y.2.1 (EX Y) M ++ [lpO oa oc f])[k]? = some q → (k < NX ∧ q.1 = Y.2.1 k) ∨ (k = NX ∧ q.1 = oa) := by
    intro k q hk
    by_cases h : k < NX
    · rw [List.getElem?_append_left (by rw [lp_len]; exact h)] at hk
      obtain ⟨h1, rfl⟩ := sy_w_of hk
      exact Or.inl ⟨h, rfl⟩
    · by_cases h2 : k = NX
      · subst h2
        rw [lp_at] at hk
        cases hk
        exact Or.inr ⟨rfl, rfl⟩
      · rw [List.getElem?_eq_none (by rw [List.length_append, lp_len]; show NX + 1 ≤ k; omega)] at hk
        cases hk
  refine ⟨fun i j p q hp hq e => ?_, fun k q hk => ?_⟩
  · rcases at' i p hp with ⟨h1, h2⟩ | ⟨h1, h2⟩ <;> rcases at' j q hq with ⟨h3, h4⟩ | ⟨h3, h4⟩
    · exact hJ i j h1 h3 (by rw [← h2, ← h4]; exact e)
    · exact absurd (by rw [← h2, ← h4]; exact e) (hne i h1)
    · exact absurd (by rw [← h2, ← h4]; exact e.symm) (hne j h3)
    · rw [h1, h3]
  · rcases at' k q hk with ⟨h1, h2⟩ | ⟨h1, h2⟩
    · left; exact Or.inl ⟨k, h1, h2⟩
    · right; exact h2
set_option maxHeartbeats 4000000 in
set_option maxRecDepth 100000 in
theorem mL_past (l : Launch) (hst : l.stackTraces = false) (Y : sy_Y) (oa : Nat) (oc : ClassId) (sz : Nat) (M : sy_M) (f : Nat → Int64) (a1 a2 a3 : Int32) (Q : Int32 → sy_M → Prop) (P : sy_M → Prop) (hq : wX11_past M a1 a2 a3 Q P) : Met l yL_past wsLP ({ frames := 7, cells := 1, slots := 6, locals := 160 } : Room) (va_Pc [.ref (Y.2.1 0), .int a1, .int a2, .int a3, .ref oa] (lpPre Y oa oc sz M f)) (va_Qi (lpQ Q P) (lpB Y oa oc) (lpA Y oa sz)) 1 6 (lpA Y oa sz) := by
  refine met_of_vx (vx_ofWH (cc := cL_past) (maxL := 6) (ret := some .int) (hh := [(0, 12, 15, 13)]) (by decide) rfl ?_)
  intro p e s m args below meth c s₁ B hml hv
  have htab := vx_table (x := yL_past) B (atoms_spec (ws := wsLP) B.pre _ List.mem_cons_self)
  obtain ⟨rfl, ⟨⟨hsz, hPX, hG⟩, hU⟩, hPo, hK, hne⟩ := hv
  subst hsz
  have hl := lv_entry [.ref (Y.2.1 0), .int a1, .int a2, .int a3, .ref oa] (n := 6) (Nat.le_of_ble_eq_true rfl)
  rw [lg_entry_eq]
  generalize (lg_sl [.ref (Y.2.1 0), .int a1, .int a2, .int a3, .ref oa] ++ List.replicate (6 - (lg_sl [.ref (Y.2.1 0), .int a1, .int a2, .int a3, .ref oa]).length) Slot.unset).toArray = ls at hl ⊢
  have hl : lv_has ls 6 [(0, .ref (Y.2.1 0)), (1, .int a1), (2, .int a2), (3, .int a3), (4, .ref oa)] := hl
  have hx := B.exec
  have hb := B.bytes
  have hr := B.returns
  have hts := atoms_spec (ws := wsLP) B.pre
  have hown : s.vm.findClass RL = some m.cls := findClass_of_methodNamed B.named
  have hlocks := B.notSynchronized
  have hS : va_S (lpA Y oa s.heap.size) s.heap s.heap [] := va_S.rf
  have hAA : ∀ q, sy_A NX Y.2.1 s.heap.size q → lpA Y oa s.heap.size q := fun q h => Or.inl h
  have hnA : ∀ H : Heap, va_P Y.1 vwCl [lpO oa oc f] H → ¬ sy_A NX Y.2.1 s.heap.size oa := by
    intro H _ z
    rcases z with ⟨k, h1, h2⟩ | z
    · exact hne k h1 h2.symm
    · exact absurd (vx_lt (k := 0) hPo rfl) (Nat.not_lt.mpr z)
  refine lv_aload hx hb dL_past_0 (lv_at hl 4 rfl) ?_
  refine lv_iconst (v := (0 : Int32)) hx hb dL_past_2 (by decide) ?_
  refine lv_aload_n hx hb dL_past_3 rfl (lv_at hl 0 rfl) ?_
  refine lv_iload_n hx hb dL_past_4 rfl (lv_at hl 1 rfl) ?_
  refine lv_iload_n hx hb dL_past_5 rfl (lv_at hl 2 rfl) ?_
  refine lv_iload_n hx hb dL_past_6 rfl (lv_at hl 3 rfl) ?_
  refine vx_calli (vx_runV (As := [.int a1, .int a2, .int a3]) (rest := [.int 0, .ref oa]) ⟨hx, hb, hml, hown, hts⟩ (mX11_past l hst Y s.heap.size M a1 a2 a3 Q P hq) (cwV 3 hts lp_good rfl rfl rfl (by decide +kernel) ⟨Nat.le_of_ble_eq_true rfl, Nat.le_of_ble_eq_true rfl⟩) ⟨paPre.blind, va_recv hG.1.1 hPX (ci := 11) (q0 := 0) rfl (by rw [sy_w_at (by decide)]; rfl), fun U hU2 hW => ⟨rfl, ⟨by rw [hU2], by rw [hU2]; exact hPX, by rw [hU2]; exact sy_G.call hW (va_S.rf) hG⟩, by rw [hU2]; exact hU.moved hW.alike⟩⟩ rfl rfl hl.1 rfl (lv_room (Nat.le_of_ble_eq_true rfl)) dL_past_7 ⟨Nat.le_of_ble_eq_true rfl, Nat.le_of_ble_eq_true rfl⟩) hS (fun q _ h => hAA q h) hAA (fun q _ h => hAA q h) (fun E ce q9 M1 t H1 locs1 ht hvm hp hB hz hk hS hce hcv hcl => ?_) (fun r M1 t H1 locs1 ht hvm hp hB hz hk hS => ?_)
  · obtain ⟨rfl, hB⟩ := hB
    have hP1 : va_P Y.1 vwCl (sy_w NX Y.2.1 (EX Y) M1) H1 := by rw [← ht]; exact hB
    have hPo1 : va_P Y.1 vwCl [lpO oa oc f] H1 := hPo.kept (fun k q hk2 => by
      cases k with
      | zero => cases hk2; exact hk oa (vx_lt (k := 0) hPo rfl) (hnA _ hPo)
      | succ n => cases hk2)
    refine vx_catch (own := RL) (name := nse) hown [] ⟨0, 12, 15, 13⟩ [] htab (fun z hz => nomatch hz) (by decide) (by decide) (hts _ (List.mem_cons_of_mem _ List.mem_cons_self)) (hU.2.2 _ faP_cast _) hce hcv hcl ?_
    refine lv_astore (lv' := [(5, .ref q9), (0, .ref (Y.2.1 0)), (1, .int a1), (2, .int a2), (3, .int a3), (4, .ref oa)]) hx hb dL_past_15 hl (by decide) rfl (fun ls hl => ?_)
    refine lv_iconst (v := (1 : Int32)) hx hb dL_past_17 (by decide) ?_
    refine vx_ret ?_
    exact W.iret (v := 1) hx hb hr (fun t2 ht2 hW => ⟨⟨1, (M1, f), rfl, Or.inr ⟨rfl, hp⟩, by rw [lpB, ht2]; exact hP1.app hPo1⟩, hS.F ht2⟩) hS.2.2 dL_past_18
  · have hP1 : va_P Y.1 vwCl (sy_w NX Y.2.1 (EX Y) M1) H1 := by rw [← ht]; exact hB
    have hPo1 : va_P Y.1 vwCl [lpO oa oc f] H1 := hPo.kept (fun k q hk2 => by
      cases k with
      | zero => cases hk2; exact hk oa (vx_lt (k := 0) hPo rfl) (hnA _ hPo)
      | succ n => cases hk2)
    refine lv_i2l (v := r.toInt64) hx hb dL_past_10 rfl ?_
    refine va_last hx hb hK (hP1.app hPo1) (lp_D hG.2.2.2 hne) hS NX 0 lp_at rfl (vp_in_nI (n := 0) (by decide) (by decide)) dL_past_11 (fun H2 locs2 hP2 _ hS2 => ?_)
    rw [lp_set] at hP2
    refine lv_goto (tgt := 19) hx hb dL_past_12 (by decide) ?_
    refine lv_iconst (v := (0 : Int32)) hx hb dL_past_19 (by decide) ?_
    refine vx_ret ?_
    exact W.iret (v := 0) hx hb hr (fun t2 ht2 hW => ⟨⟨0, (M1, vp_updL f (0 : Int32).toNatClampNeg r.toInt64), rfl, Or.inl ⟨rfl, r, hp, by simp [vp_updL]⟩, by rw [lpB, ht2]; exact hP2⟩, hS2.F ht2⟩) hS2.2.2 dL_past_20
