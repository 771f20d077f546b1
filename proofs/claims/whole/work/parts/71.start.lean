/-! whole_start -/
set_option maxHeartbeats 4000000 in
set_option maxRecDepth 100000 in
theorem whole_start {p : Program} {e : Env} {s : State} {m : MethodId} {below : List Frame} {meth : Method} {c : Code} (l : Launch) (hst : l.stackTraces = false) {b L : Nat} {xs : Nat → Int32} (hL : L ≤ 3072) (C0 : lw_At p s m meth c b L xs) : W p l e room_1 s m #[Value.ref b] below meth c s.heap [] 0 0 (lw_Z below #[Value.ref b] s) (entryFrame m ([Value.ref b] : List Value).toArray 7) := by
  obtain ⟨hx, hb, hr, hml, hown, hts, hX, hbl, hlocks, hgv⟩ := id C0
  have hown : s.vm.findClass RL = some m.cls := hown
  have hA : ∀ q : Nat, s.heap.size ≤ q → (fun q : Nat => s.heap.size ≤ q) q := fun _ h => h
  have hA' : ∀ a : Nat, a < s.heap.size → ¬ (fun q : Nat => s.heap.size ≤ q) a := fun a h => Nat.not_le.mpr h
  have htb : ∀ w ∈ tables_1, w.before #[Value.ref b] s = true := fun w h => hts w (List.mem_append_right _ h)
  obtain ⟨D, hK⟩ := st_K hts
  obtain ⟨aK, aV, hSt⟩ := st_St (A := fun q : Nat => s.heap.size ≤ q) hts hgv hA'
  have hU := st_U (A := fun q : Nat => s.heap.size ≤ q) hts hgv hA'
  have hE : ctE s := ⟨fun q hq => va_Nw.of rfl (htb _ (st_ctn q hq)), va_AO.of (htb _ st_ao)⟩
  have hNe : sy_Ne s := fun q hq => va_Nw.of rfl (htb _ (st_nest q hq))
  have hS : va_S (fun q : Nat => s.heap.size ≤ q) s.heap s.heap [] := va_S.rf
  have hP : va_P D vwCl [] s.heap := fun k q h => by simp at h
  have hD : va_D (fun q : Nat => s.heap.size ≤ q) [] := ⟨fun i j p q h => by simp at h, fun k q h => by simp at h⟩
  have hl := lv_entry ([.ref b]) (n := 7) (Nat.le_of_ble_eq_true rfl)
  rw [lg_entry_eq]
  generalize (lg_sl ([.ref b]) ++ List.replicate (7 - (lg_sl ([.ref b])).length) Slot.unset).toArray = ls at hl ⊢
  have hl : lv_has ls 7 [(0, .ref b)] := hl
  refine va_new (ci := 11) (fs := [.null, .null, .null, .null, .null, .null, .null, .int 0, .int 0]) (C := RX11) (T := TX11) (N := 9) hx hb hts (fun w h => (ufX11_in w h).1) tyX11 tyX11_ok hown (hts _ (gs_in _ (List.mem_of_getElem? (i := 0) rfl)).1) (hts _ (gs_in _ (List.mem_of_getElem? (i := 18) rfl)).1) (hts _ (gs_in _ (List.mem_of_getElem? (i := 20) rfl)).1) hK hP hD hS hA rfl (fun j hj => by rcases (show j = 0 ∨ j = 1 ∨ j = 2 ∨ j = 3 ∨ j = 4 ∨ j = 5 ∨ j = 6 ∨ j = 7 ∨ j = 8 by omega) with rfl | rfl | rfl | rfl | rfl | rfl | rfl | rfl | rfl <;> rfl) (Nat.le_of_ble_eq_true rfl) (Nat.le_of_ble_eq_true rfl) dL_law_0 (fun q1 H hP hD hS => ?_)
  refine W.widen (k := 1) (n := 10) (Nat.le_of_ble_eq_true rfl) (Nat.le_of_ble_eq_true rfl) ?_
  have hP : va_P D vwCl ([(q1, .inr (11, [.null, .null, .null, .null, .null, .null, .null, .int 0, .int 0]))]) H := hP
  have hD : va_D (fun q : Nat => s.heap.size ≤ q) ([(q1, .inr (11, [.null, .null, .null, .null, .null, .null, .null, .int 0, .int 0]))]) := hD
  refine lv_dup hx hb dL_law_3 rfl ?_
  have hPc := hP.sub (ws' := [(q1, .inr (11, [.null, .null, .null, .null, .null, .null, .null, .int 0, .int 0]))]) [0] rfl
  have hDc := hD.sub (ws' := [(q1, .inr (11, [.null, .null, .null, .null, .null, .null, .null, .int 0, .int 0]))]) [0] (by decide) rfl
  have hFc := va_free (wc := [(q1, .inr (11, [.null, .null, .null, .null, .null, .null, .null, .int 0, .int 0]))]) hD hS hA [0] rfl
  refine va_callv (va_runI (As := []) (rest := [.ref q1]) ⟨hx, hb, hml, hown, hts⟩ (cX11 l D q1 H.size) (cwI 0 hts (goodC uX_in (List.mem_append_left _ (List.mem_of_getElem? (i := 505) rfl))) rfl rfl rfl (hts _ (gs_in _ (List.mem_of_getElem? (i := 20) rfl)).1) (hts _ (gs_in _ (List.mem_of_getElem? (i := 1) rfl)).1) (hts _ (gs_in _ (List.mem_of_getElem? (i := 2) rfl)).1) rfl (by decide +kernel) ⟨Nat.le_of_ble_eq_true rfl, Nat.le_of_ble_eq_true rfl⟩) ⟨ctPre.blind, fun U hU hW => ⟨rfl, by rw [hU], by rw [hU]; exact hPc, va_K.moved hW.alike hK, hDc.weaken (fun _ _ _ _ => trivial), hE.warm hW⟩⟩ rfl rfl hl.1 rfl (lv_room (Nat.le_of_ble_eq_true rfl)) dL_law_4 ⟨Nat.le_of_ble_eq_true rfl, Nat.le_of_ble_eq_true rfl⟩) hS (fun q _ h => hFc q h) hFc (fun u1 t H1 locs ht hvm hw hB hz1 hk1 hS => ?_)
  refine W.widen (k := 82) (n := 15455) (Nat.le_of_ble_eq_true rfl) (Nat.le_of_ble_eq_true rfl) ?_
  obtain ⟨hP1, hKX, hD1⟩ := hB
  rw [ht] at hP1
  have hKX := va_K.moved hvm.symm hKX
  obtain ⟨hP, hD⟩ := va_join (wr := []) (w1 := wX11 q1 u1) hP hD [0] [] rfl rfl (by decide) (by decide) hk1 hFc hP1 hD1
  generalize H1 = H at hP hS ⊢
  have hP : va_P D vwCl (wX11 q1 u1) H := hP
  have hD : va_D (fun q : Nat => s.heap.size ≤ q) (wX11 q1 u1) := hD
  refine lv_astore_n (lv' := [(1, .ref q1), (0, .ref b)]) hx hb dL_law_7 rfl hl (by decide) rfl (fun ls hl => ?_)
  refine va_new (ci := 12) (fs := [.int 0, .int 0, .int 0, .int 0, .null, .int 0, .int 0, .int 0, .int 0, .int 0, .int 0, .int 0, .int 0, .int 0, .int 0, .null, .null, .null, .null, .null, .null, .null, .null, .null, .int 0, .null, .null, .null, .null, .null, .int 0, .null, .null, .null, .null, .null, .null, .null, .null, .null, .int 0, .null, .null, .null, .null, .null, .null, .null, .null, .null, .null, .null, .null, .null, .null, .null]) (C := RX12) (T := TX12) (N := 56) hx hb hts (fun w h => (ufX12_in w h).1) tyX12 tyX12_ok hown (hts _ (gs_in _ (List.mem_of_getElem? (i := 3) rfl)).1) (hts _ (gs_in _ (List.mem_of_getElem? (i := 19) rfl)).1) (hts _ (gs_in _ (List.mem_of_getElem? (i := 21) rfl)).1) hK hP hD hS hA rfl (fun j hj => by rcases (show j = 0 ∨ j = 1 ∨ j = 2 ∨ j = 3 ∨ j = 4 ∨ j = 5 ∨ j = 6 ∨ j = 7 ∨ j = 8 ∨ j = 9 ∨ j = 10 ∨ j = 11 ∨ j = 12 ∨ j = 13 ∨ j = 14 ∨ j = 15 ∨ j = 16 ∨ j = 17 ∨ j = 18 ∨ j = 19 ∨ j = 20 ∨ j = 21 ∨ j = 22 ∨ j = 23 ∨ j = 24 ∨ j = 25 ∨ j = 26 ∨ j = 27 ∨ j = 28 ∨ j = 29 ∨ j = 30 ∨ j = 31 ∨ j = 32 ∨ j = 33 ∨ j = 34 ∨ j = 35 ∨ j = 36 ∨ j = 37 ∨ j = 38 ∨ j = 39 ∨ j = 40 ∨ j = 41 ∨ j = 42 ∨ j = 43 ∨ j = 44 ∨ j = 45 ∨ j = 46 ∨ j = 47 ∨ j = 48 ∨ j = 49 ∨ j = 50 ∨ j = 51 ∨ j = 52 ∨ j = 53 ∨ j = 54 ∨ j = 55 by omega) with rfl | rfl | rfl | rfl | rfl | rfl | rfl | rfl | rfl | rfl | rfl | rfl | rfl | rfl | rfl | rfl | rfl | rfl | rfl | rfl | rfl | rfl | rfl | rfl | rfl | rfl | rfl | rfl | rfl | rfl | rfl | rfl | rfl | rfl | rfl | rfl | rfl | rfl | rfl | rfl | rfl | rfl | rfl | rfl | rfl | rfl | rfl | rfl | rfl | rfl | rfl | rfl | rfl | rfl | rfl | rfl <;> rfl) (Nat.le_of_ble_eq_true rfl) (Nat.le_of_ble_eq_true rfl) dL_law_8 (fun q2 H hP hD hS => ?_)
  refine W.widen (k := 83) (n := 15511) (Nat.le_of_ble_eq_true rfl) (Nat.le_of_ble_eq_true rfl) ?_
  have hP : va_P D vwCl (wX11 q1 u1 ++ [(q2, .inr (12, [.int 0, .int 0, .int 0, .int 0, .null, .int 0, .int 0, .int 0, .int 0, .int 0, .int 0, .int 0, .int 0, .int 0, .int 0, .null, .null, .null, .null, .null, .null, .null, .null, .null, .int 0, .null, .null, .null, .null, .null, .int 0, .null, .null, .null, .null, .null, .null, .null, .null, .null, .int 0, .null, .null, .null, .null, .null, .null, .null, .null, .null, .null, .null, .null, .null, .null, .null]))]) H := hP
  have hD : va_D (fun q : Nat => s.heap.size ≤ q) (wX11 q1 u1 ++ [(q2, .inr (12, [.int 0, .int 0, .int 0, .int 0, .null, .int 0, .int 0, .int 0, .int 0, .int 0, .int 0, .int 0, .int 0, .int 0, .int 0, .null, .null, .null, .null, .null, .null, .null, .null, .null, .int 0, .null, .null, .null, .null, .null, .int 0, .null, .null, .null, .null, .null, .null, .null, .null, .null, .int 0, .null, .null, .null, .null, .null, .null, .null, .null, .null, .null, .null, .null, .null, .null, .null]))]) := hD
  refine lv_dup hx hb dL_law_11 rfl ?_
  have hPc := hP.sub (ws' := [(q2, .inr (12, [.int 0, .int 0, .int 0, .int 0, .null, .int 0, .int 0, .int 0, .int 0, .int 0, .int 0, .int 0, .int 0, .int 0, .int 0, .null, .null, .null, .null, .null, .null, .null, .null, .null, .int 0, .null, .null, .null, .null, .null, .int 0, .null, .null, .null, .null, .null, .null, .null, .null, .null, .int 0, .null, .null, .null, .null, .null, .null, .null, .null, .null, .null, .null, .null, .null, .null, .null]))]) [82] rfl
  have hDc := hD.sub (ws' := [(q2, .inr (12, [.int 0, .int 0, .int 0, .int 0, .null, .int 0, .int 0, .int 0, .int 0, .int 0, .int 0, .int 0, .int 0, .int 0, .int 0, .null, .null, .null, .null, .null, .null, .null, .null, .null, .int 0, .null, .null, .null, .null, .null, .int 0, .null, .null, .null, .null, .null, .null, .null, .null, .null, .int 0, .null, .null, .null, .null, .null, .null, .null, .null, .null, .null, .null, .null, .null, .null, .null]))]) [82] (by decide) rfl
  have hFc := va_free (wc := [(q2, .inr (12, [.int 0, .int 0, .int 0, .int 0, .null, .int 0, .int 0, .int 0, .int 0, .int 0, .int 0, .int 0, .int 0, .int 0, .int 0, .null, .null, .null, .null, .null, .null, .null, .null, .null, .int 0, .null, .null, .null, .null, .null, .int 0, .null, .null, .null, .null, .null, .null, .null, .null, .null, .int 0, .null, .null, .null, .null, .null, .null, .null, .null, .null, .null, .null, .null, .null, .null, .null]))]) hD hS hA [82] rfl
  refine va_callv (va_runI (As := []) (rest := [.ref q2]) ⟨hx, hb, hml, hown, hts⟩ (cX12 l D q2 H.size) (cwI 0 hts (goodC uZ_in (List.mem_append_left _ (List.mem_of_getElem? (i := 51) rfl))) rfl rfl rfl (hts _ (gs_in _ (List.mem_of_getElem? (i := 21) rfl)).1) (hts _ (gs_in _ (List.mem_of_getElem? (i := 4) rfl)).1) (hts _ (gs_in _ (List.mem_of_getElem? (i := 5) rfl)).1) rfl (by decide +kernel) ⟨Nat.le_of_ble_eq_true rfl, Nat.le_of_ble_eq_true rfl⟩) ⟨ctPre.blind, fun U hU hW => ⟨rfl, by rw [hU], by rw [hU]; exact hPc, va_K.moved hW.alike hK, hDc.weaken (fun _ _ _ _ => trivial), hE.warm hW⟩⟩ rfl rfl hl.1 rfl (lv_room (Nat.le_of_ble_eq_true rfl)) dL_law_12 ⟨Nat.le_of_ble_eq_true rfl, Nat.le_of_ble_eq_true rfl⟩) hS (fun q _ h => hFc q h) hFc (fun u2 t H1 locs ht hvm hw hB hz1 hk1 hS => ?_)
  refine W.widen (k := 122) (n := 31213) (Nat.le_of_ble_eq_true rfl) (Nat.le_of_ble_eq_true rfl) ?_
  obtain ⟨hP1, hKZ, hD1⟩ := hB
  rw [ht] at hP1
  have hKZ := va_K.moved hvm.symm hKZ
  obtain ⟨hP, hD⟩ := va_join (wr := wX11 q1 u1) (w1 := wX12 q2 u2) hP hD [82] [0, 1, 2, 3, 4, 5, 6, 7, 8, 9, 10, 11, 12, 13, 14, 15, 16, 17, 18, 19, 20, 21, 22, 23, 24, 25, 26, 27, 28, 29, 30, 31, 32, 33, 34, 35, 36, 37, 38, 39, 40, 41, 42, 43, 44, 45, 46, 47, 48, 49, 50, 51, 52, 53, 54, 55, 56, 57, 58, 59, 60, 61, 62, 63, 64, 65, 66, 67, 68, 69, 70, 71, 72, 73, 74, 75, 76, 77, 78, 79, 80, 81] rfl rfl (by decide) (by decide) hk1 hFc hP1 hD1
  generalize H1 = H at hP hS ⊢
  have hP : va_P D vwCl (wX11 q1 u1 ++ wX12 q2 u2) H := hP
  have hD : va_D (fun q : Nat => s.heap.size ≤ q) (wX11 q1 u1 ++ wX12 q2 u2) := hD
  refine lv_astore_n (lv' := [(2, .ref q2), (1, .ref q1), (0, .ref b)]) hx hb dL_law_15 rfl hl (by decide) rfl (fun ls hl => ?_)
  refine lv_iconst (v := (1 : Int32)) hx hb dL_law_16 (by decide) ?_
  refine va_newa (atype := .long) hx hb (hts (.arrayClass .long) (gs_in _ (List.mem_of_getElem? (i := 6) rfl)).1) (ty := .long) rfl hK hP hD hS hA (n := (1 : Int32)) (N' := 1) (a0 := (1, .inr (.inl (fun _ => 0)))) (ct_al 1) (by decide +kernel) (by decide +kernel) (by decide +kernel) (Nat.le_of_ble_eq_true rfl) (Nat.le_of_ble_eq_true rfl) dL_law_17 (fun q3 c3 H hKo hP hD hS => ?_)
  refine W.widen (k := 123) (n := 31214) (Nat.le_of_ble_eq_true rfl) (Nat.le_of_ble_eq_true rfl) ?_
  refine lv_astore_n (lv' := [(3, .ref q3), (2, .ref q2), (1, .ref q1), (0, .ref b)]) hx hb dL_law_19 rfl hl (by decide) rfl (fun ls hl => ?_)
  refine lv_iconst (v := (0 : Int32)) hx hb dL_law_20 (by decide) ?_
  refine lv_istore (lv' := [(4, .int 0), (3, .ref q3), (2, .ref q2), (1, .ref q1), (0, .ref b)]) hx hb dL_law_21 hl (by decide) rfl (fun ls hl => ?_)
  have hDa := D_l hD
  obtain ⟨jX, gX⟩ := ajX q1 u1 (D_l hDa)
  obtain ⟨jZ, gZ⟩ := ajZ q2 u2 (D_r hDa)
  have hge : s.heap.size ≤ q3 := (D_r hD).2 0 _ rfl
  have nXZ : ∀ i j, i < NX → j < NZ → ctAX q1 u1 i ≠ ctA q2 u2 j := by
    intro i j hi hj
    obtain ⟨x, h1, h2⟩ := kyX q1 u1 i hi
    obtain ⟨y, h3, h4⟩ := kyZ q2 u2 j hj
    rw [← h2, ← h4]
    exact D_x hDa h1 h3
  have nX3 : ∀ i, i < NX → ctAX q1 u1 i ≠ q3 := by
    intro i hi
    obtain ⟨x, h1, h2⟩ := kyX q1 u1 i hi
    rw [← h2]
    exact D_x (q := (q3, .inl (c3, (1, .inr (.inl (fun _ => 0)))))) (j := 0) hD (by rw [List.getElem?_append_left (List.getElem?_eq_some_iff.mp h1).1]; exact h1) rfl
  have nZ3 : ∀ i, i < NZ → ctA q2 u2 i ≠ q3 := by
    intro i hi
    obtain ⟨x, h1, h2⟩ := kyZ q2 u2 i hi
    rw [← h2]
    exact D_x (q := (q3, .inl (c3, (1, .inr (.inl (fun _ => 0)))))) (i := (wX11 q1 u1).length + i) (j := 0) hD (by rw [List.getElem?_append_right (Nat.le_add_right _ _), Nat.add_sub_cancel_left]; exact h1) rfl
  have rX : ∀ q, sy_A NX (ctAX q1 u1) s.heap.size q → s.heap.size ≤ q := by
    intro q h
    rcases h with ⟨k, h2, h3⟩ | h
    · rw [h3]; exact gX k h2
    · exact h
  have rZ : ∀ q, sy_A NZ (ctA q2 u2) s.heap.size q → s.heap.size ≤ q := by
    intro q h
    rcases h with ⟨k, h2, h3⟩ | h
    · rw [h3]; exact gZ k h2
    · exact h
  have C : lwC p l s m c b L xs (D, ctAX q1 u1, ctCX u1, aK, aV) (D, ctA q2 u2, u2.2, aK, aV) q3 c3 :=
    ⟨⟨hx, hb, hml, hown, hts⟩, ⟨⟨hK, akX hKX⟩, hNe, (hSt (D, ctAX q1 u1, ctCX u1, aK, aV) rfl rfl).narrow rX, jX⟩, ⟨⟨hK, akZ hKZ⟩, hNe, (hSt (D, ctA q2 u2, u2.2, aK, aV) rfl rfl).narrow rZ, jZ⟩, rfl, gX, gZ, nXZ, hge, nX3, nZ3, hKo, hU, hst, hX, hbl⟩
  have hh : lwH s (D, ctAX q1 u1, ctCX u1, aK, aV) (D, ctA q2 u2, u2.2, aK, aV) q3 c3 H _ M0X M0Z (fun _ => 0) := ⟨atX D q1 u1 aK aV (P_l (P_l hP)), atZ D q2 u2 aK aV (P_r (P_l hP)), P_r hP, hS⟩
  exact law_loop C hL hr hlocks 513 0 M0X M0Z (fun _ => 0) H _ ls (by omega) (by omega) Rel_0 hh (lv_sub hl [4, 3, 2, 1, 0] rfl)
