/-! the law: what stands while it runs -/
def lwC (p : Program) (l : Launch) (s : State) (m : MethodId) (c : Code) (b L : Nat) (xs : Nat → Int32) (YX YZ : sy_Y) (oa : Nat) (oc : ClassId) : Prop :=
  CallFix p m c code 7 s #[Value.ref b] lw_tbl RL ∧ sy_G YX NX tfX s.heap.size s s.heap ∧ sy_G YZ NZ tfZ s.heap.size s s.heap ∧ YX.1 = YZ.1 ∧ (∀ k, k < NX → s.heap.size ≤ YX.2.1 k) ∧ (∀ k, k < NZ → s.heap.size ≤ YZ.2.1 k) ∧ (∀ i j, i < NX → j < NZ → YX.2.1 i ≠ YZ.2.1 j) ∧ s.heap.size ≤ oa ∧ (∀ i, i < NX → YX.2.1 i ≠ oa) ∧ (∀ j, j < NZ → YZ.2.1 j ≠ oa) ∧ va_K YX.1 vwCl [(oc, .long)] s ∧ sy_U (fun q => s.heap.size ≤ q) s s.heap ∧ l.stackTraces = false ∧ va_X b L xs s s.heap ∧ b < s.heap.size
def lwH (s : State) (YX YZ : sy_Y) (oa : Nat) (oc : ClassId) (H : Heap) (locs : List Loc) (A B : sy_M) (f : Nat → Int64) : Prop :=
  va_P YX.1 vwCl (sy_w NX YX.2.1 (EX YX) A) H ∧ va_P YX.1 vwCl (sy_w NZ YZ.2.1 (EZ YZ) B) H ∧ va_P YX.1 vwCl [lpO oa oc f] H ∧ va_S (fun q => s.heap.size ≤ q) s.heap H locs
theorem sy_goodVL {u : List Cond} (hu : GoodIn lw_tbl u) {own C : String} {idx : Nat} {y : MethodName} {c1 : Cond} (h4 : GoodIn lw_tbl [.methodLink own idx y, .instanceMethod y, .selects C y y, .initialized C]) (h5 : c1 ∈ u) : GoodIn lw_tbl (wsV own idx C y (c1 :: u)) := by
  intro w hw
  rcases List.mem_append.mp hw with h | h
  · exact h4 w h
  · rcases List.mem_cons.mp h with h | h
    · rw [h]; exact hu _ h5
    · exact hu w h
theorem sy_w_kept {D : va_G} {N N2 : Nat} {ad ad2 : Nat → Nat} {E2 : sy_E} {M2 : sy_M} {H H1 : Heap} (hP : va_P D vwCl (sy_w N2 ad2 E2 M2) H) (hd : ∀ i j, i < N → j < N2 → ad i ≠ ad2 j) (hk : ∀ q : Nat, q < H.size → ¬ sy_A N ad H.size q → H1[q]? = H[q]?) : va_P D vwCl (sy_w N2 ad2 E2 M2) H1 := by
  refine hP.kept (fun k q hq => ?_)
  have hlt := vx_lt hP hq
  obtain ⟨h1, rfl⟩ := sy_w_of hq
  refine hk _ hlt (fun z => ?_)
  rcases z with ⟨i, h2, h3⟩ | z
  · exact hd i k h2 h1 h3.symm
  · exact absurd hlt (Nat.not_lt.mpr z)
theorem lpO_kept {D : va_G} {N : Nat} {ad : Nat → Nat} {oa : Nat} {oc : ClassId} {f : Nat → Int64} {H H1 : Heap} (hP : va_P D vwCl [lpO oa oc f] H) (hd : ∀ i, i < N → ad i ≠ oa) (hk : ∀ q : Nat, q < H.size → ¬ sy_A N ad H.size q → H1[q]? = H[q]?) : va_P D vwCl [lpO oa oc f] H1 := by
  refine hP.kept (fun k q hq => ?_)
  have hlt := vx_lt hP hq
  cases k with
  | zero =>
    cases hq
    refine hk _ hlt (fun z => ?_)
    rcases z with ⟨i, h2, h3⟩ | z
    · exact hd i h2 h3.symm
    · exact absurd hlt (Nat.not_lt.mpr z)
  | succ n => cases hq
section LWR
variable {p : Program} {l : Launch} {e : Env} {s : State} {m : MethodId} {below : List Frame} {meth : Method} {c : Code} {b L : Nat} {xs : Nat → Int32} {YX YZ : sy_Y} {oa : Nat} {oc : ClassId} {cells slots : Nat} {Qf : State → Prop} {H : Heap} {locs : List Loc} {A B : sy_M} {f : Nat → Int64} {pc : Nat} {ls : Array Slot}
theorem lw_sub {N : Nat} {ad : Nat → Nat} (h1 : ∀ k, k < N → s.heap.size ≤ ad k) (hS : va_S (fun q => s.heap.size ≤ q) s.heap H locs) : ∀ q, sy_A N ad H.size q → s.heap.size ≤ q := by
  intro q h
  rcases h with ⟨k, h2, h3⟩ | h
  · rw [h3]; exact h1 k h2
  · exact Nat.le_trans hS.1 h
theorem lw_S {N : Nat} {ad : Nat → Nat} (hS : va_S (fun q => s.heap.size ≤ q) s.heap H locs) : va_S (sy_A N ad s.heap.size) s.heap H locs := by
  refine ⟨hS.1, fun q h1 h2 => hS.2.1 q h1 (fun z => h2 (Or.inr z)), fun z hz => Or.inr (hS.2.2 z hz)⟩
/-- a call of the class -/
theorem lw_cX (C : lwC p l s m c b L xs YX YZ oa oc) (hh : lwH s YX YZ oa oc H locs A B f) {y : MethodName} {ws : List Cond} {rm : Room} {bytes : ByteArray} {maxL n index : Nat} {ret : Option FieldType} {As rest st0 : List Value} {Q : Int32 → sy_M → Prop} (hM : Met l y ws rm (va_Pc (.ref (YX.2.1 0) :: As) (sy_pre YX NX EX tfX H.size A)) (sy_QI YX NX EX H.size Q) 0 0 (sy_A NX YX.2.1 H.size)) (cw : CallW room_1 s #[Value.ref b] RL RX11 index y bytes maxL ret ws rm 0 0 n) (hn : As.length = n) (hsize : ls.size = 7) (hstack : st0 = As.reverse ++ .ref (YX.2.1 0) :: rest) (hW : (rest.map fun v => v.category).sum ≤ 8) (hdg : decode code pc = .ok (.invokevirtual index, 3)) (hc : cells ≤ 601024 ∧ slots ≤ 7293034)
    (kk : ∀ (r : Int32) (A1 : sy_M) (H1 : Heap) (locs1 : List Loc), Q r A1 → lwH s YX YZ oa oc H1 locs1 A1 B f → W p l e room_1 s m #[Value.ref b] below meth c H1 locs1 cells slots Qf (F0 m (pc + 3) ls (.int r :: rest))) : W p l e room_1 s m #[Value.ref b] below meth c H locs cells slots Qf (F0 m pc ls st0) := by
  obtain ⟨c1, c2, c3, c4, c5, c6, c7, c8, c9, c10, c11, c12, c13, c14, c15⟩ := C
  obtain ⟨h1, h2, h3, h4⟩ := hh
  refine va_calli (va_runV (As := As) (rest := rest) c1 hM cw ⟨sy_pre.blind, va_recv c2.1.1 h1 (ci := 11) (q0 := 0) rfl (by rw [sy_w_at (by decide)]; rfl), fun U hU hW => ⟨rfl, by rw [hU], by rw [hU]; exact h1, by rw [hU]; exact sy_G.call hW (lw_S h4) c2⟩⟩ rfl hn hsize hstack (lv_room hW) hdg hc) h4 (fun q _ h => lw_sub c5 h4 q h) (fun q h => lw_sub c5 h4 q h) (fun r u t H1 locs1 ht hvm hw hB hz1 hk1 hS => ?_)
  exact kk r u H1 locs1 hw ⟨by rw [← ht]; exact hB, sy_w_kept h2 c7 hk1, lpO_kept h3 c9 hk1, hS⟩
/-- a call of the reference -/
theorem lw_cZ (C : lwC p l s m c b L xs YX YZ oa oc) (hh : lwH s YX YZ oa oc H locs A B f) {y : MethodName} {ws : List Cond} {rm : Room} {bytes : ByteArray} {maxL n index : Nat} {ret : Option FieldType} {As rest st0 : List Value} {Q : Int32 → sy_M → Prop} (hM : Met l y ws rm (va_Pc (.ref (YZ.2.1 0) :: As) (sy_pre YZ NZ EZ tfZ H.size B)) (sy_QI YZ NZ EZ H.size Q) 0 0 (sy_A NZ YZ.2.1 H.size)) (cw : CallW room_1 s #[Value.ref b] RL RX12 index y bytes maxL ret ws rm 0 0 n) (hn : As.length = n) (hsize : ls.size = 7) (hstack : st0 = As.reverse ++ .ref (YZ.2.1 0) :: rest) (hW : (rest.map fun v => v.category).sum ≤ 8) (hdg : decode code pc = .ok (.invokevirtual index, 3)) (hc : cells ≤ 601024 ∧ slots ≤ 7293034)
    (kk : ∀ (r : Int32) (B1 : sy_M) (H1 : Heap) (locs1 : List Loc), Q r B1 → lwH s YX YZ oa oc H1 locs1 A B1 f → W p l e room_1 s m #[Value.ref b] below meth c H1 locs1 cells slots Qf (F0 m (pc + 3) ls (.int r :: rest))) : W p l e room_1 s m #[Value.ref b] below meth c H locs cells slots Qf (F0 m pc ls st0) := by
  obtain ⟨c1, c2, c3, c4, c5, c6, c7, c8, c9, c10, c11, c12, c13, c14, c15⟩ := C
  obtain ⟨h1, h2, h3, h4⟩ := hh
  have h2' : va_P YZ.1 vwCl (sy_w NZ YZ.2.1 (EZ YZ) B) H := by rw [← c4]; exact h2
  refine va_calli (va_runV (As := As) (rest := rest) c1 hM cw ⟨sy_pre.blind, va_recv c3.1.1 h2' (ci := 12) (q0 := 0) rfl (by rw [sy_w_at (by decide)]; rfl), fun U hU hW => ⟨rfl, by rw [hU], by rw [hU]; exact h2', by rw [hU]; exact sy_G.call hW (lw_S h4) c3⟩⟩ rfl hn hsize hstack (lv_room hW) hdg hc) h4 (fun q _ h => lw_sub c6 h4 q h) (fun q h => lw_sub c6 h4 q h) (fun r u t H1 locs1 ht hvm hw hB hz1 hk1 hS => ?_)
  exact kk r u H1 locs1 hw ⟨sy_w_kept h1 (fun i j hi hj e => c7 j i hj hi e.symm) hk1, by rw [c4, ← ht]; exact hB, lpO_kept h3 c10 hk1, hS⟩
/-- the call of the law's own past -/
theorem lw_cP (C : lwC p l s m c b L xs YX YZ oa oc) (hh : lwH s YX YZ oa oc H locs A B f) {a1 a2 a3 : Int32} {Q : Int32 → sy_M → Prop} {P : sy_M → Prop} (hq : wX11_past A a1 a2 a3 Q P) (hG : GoodIn lw_tbl (va_wsS RL 82 yL_past wsLP)) (hsize : ls.size = 7) (hdg : decode code pc = .ok (.invokestatic 82, 3)) (hc : cells + 1 ≤ 601024 ∧ slots + 6 ≤ 7293034)
    (kk : ∀ (r : Int32) (A1 : sy_M) (f1 : Nat → Int64) (H1 : Heap) (locs1 : List Loc), lpQ Q P r (A1, f1) → lwH s YX YZ oa oc H1 locs1 A1 B f1 → W p l e room_1 s m #[Value.ref b] below meth c H1 locs1 (cells + 1) (slots + 6) Qf (F0 m (pc + 3) ls [.int r])) : W p l e room_1 s m #[Value.ref b] below meth c H locs cells slots Qf (F0 m pc ls [.ref oa, .int a3, .int a2, .int a1, .ref (YX.2.1 0)]) := by
  obtain ⟨c1, c2, c3, c4, c5, c6, c7, c8, c9, c10, c11, c12, c13, c14, c15⟩ := C
  obtain ⟨h1, h2, h3, h4⟩ := hh
  have hts := c1.2.2.2.2
  have hA : ∀ q, lpA YX oa H.size q → s.heap.size ≤ q := by
    intro q h
    rcases h with h | h
    · exact lw_sub c5 h4 q h
    · rw [h]; exact c8
  refine va_calli (vx_runSW (As := [.ref (YX.2.1 0), .int a1, .int a2, .int a3, .ref oa]) (rest := []) c1 (mL_past l c13 YX oa oc H.size A f a1 a2 a3 Q P hq) (vx_cwSW 5 hts hG rfl rfl rfl (by decide +kernel) ⟨Nat.le_of_ble_eq_true rfl, Nat.le_of_ble_eq_true rfl⟩) ⟨lpPre.blind, fun U hU hW => ⟨rfl, ⟨⟨by rw [hU], by rw [hU]; exact h1, by rw [hU]; exact sy_G.call hW (lw_S h4) c2⟩, ?_⟩, by rw [hU]; exact h3, va_K.moved hW.alike c11, c9⟩⟩ rfl rfl hsize rfl (lv_room (Nat.le_of_ble_eq_true rfl)) hdg hc) h4 (fun q _ h => hA q h) (fun q h => hA q h) (fun r u t H1 locs1 ht hvm hw hB hz1 hk1 hS => ?_)
  · rw [hU]
    exact (c12.moved hW.alike |>.kept (fun a z1 z2 => h4.2.1 a z1 z2)).narrow (fun q h => lw_sub c5 h4 q h)
  · obtain ⟨A1, f1⟩ := u
    have hB' : va_P YX.1 vwCl (sy_w NX YX.2.1 (EX YX) A1 ++ [lpO oa oc f1]) H1 := by rw [← ht]; exact hB
    refine kk r A1 f1 H1 locs1 hw ⟨?_, ?_, ?_, hS⟩
    · intro k q hk
      have hlt : k < NX := by
        have := (sy_w_of hk).1
        exact this
      exact hB' k q (by rw [List.getElem?_append_left (by rw [lp_len]; exact hlt)]; exact hk)
    · refine h2.kept (fun k q hq2 => ?_)
      have hlt := vx_lt h2 hq2
      obtain ⟨g1, rfl⟩ := sy_w_of hq2
      refine hk1 _ hlt (fun z => ?_)
      rcases z with (⟨i, z2, z3⟩ | z) | z
      · exact c7 i k z2 g1 z3.symm
      · exact absurd hlt (Nat.not_lt.mpr z)
      · exact c10 k g1 z
    · intro k q hk
      cases k with
      | zero => cases hk; exact hB' NX _ lp_at
      | succ n => cases hk
end LWR
theorem lw_in {j k L : Nat} (h : 6 * j + 6 ≤ L) (hk : k ≤ 5) (hL : L ≤ 3072) : vp_in (nI (6 * j) + nI k) L := by
  rw [nI_add]
  exact vp_in_nI (by omega) (by omega)
