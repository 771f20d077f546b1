/-! THE LAW, FROM ITS ENTRY -/
theorem P_l {D : va_G} {a b : va_W} {H : Heap} (h : va_P D vwCl (a ++ b) H) : va_P D vwCl a H := fun k q hk => h k q (by rw [List.getElem?_append_left (List.getElem?_eq_some_iff.mp hk).1]; exact hk)
theorem P_r {D : va_G} {a b : va_W} {H : Heap} (h : va_P D vwCl (a ++ b) H) : va_P D vwCl b H := fun k q hk => h (a.length + k) q (by rw [List.getElem?_append_right (Nat.le_add_right _ _), Nat.add_sub_cancel_left]; exact hk)
theorem D_l {A : Nat → Prop} {a b : va_W} (h : va_D A (a ++ b)) : va_D A a := by
  have e : ∀ k q, a[k]? = some q → (a ++ b)[k]? = some q := fun k q hk => by rw [List.getElem?_append_left (List.getElem?_eq_some_iff.mp hk).1]; exact hk
  exact ⟨fun i j p q hp hq z => h.1 i j p q (e i p hp) (e j q hq) z, fun k q hk => h.2 k q (e k q hk)⟩
theorem D_r {A : Nat → Prop} {a b : va_W} (h : va_D A (a ++ b)) : va_D A b := by
  have e : ∀ k q, b[k]? = some q → (a ++ b)[a.length + k]? = some q := fun k q hk => by rw [List.getElem?_append_right (Nat.le_add_right _ _), Nat.add_sub_cancel_left]; exact hk
  exact ⟨fun i j p q hp hq z => by have := h.1 _ _ p q (e i p hp) (e j q hq) z; omega, fun k q hk => h.2 _ q (e k q hk)⟩
theorem D_x {A : Nat → Prop} {a b : va_W} (h : va_D A (a ++ b)) {i j : Nat} {p q : Nat × va_E} (hp : a[i]? = some p) (hq : b[j]? = some q) : p.1 ≠ q.1 := by
  intro z
  have hi := (List.getElem?_eq_some_iff.mp hp).1
  have := h.1 i (a.length + j) p q (by rw [List.getElem?_append_left hi]; exact hp) (by rw [List.getElem?_append_right (Nat.le_add_right _ _), Nat.add_sub_cancel_left]; exact hq) z
  omega
theorem ct_al (n : Nat) (cA : ClassId) : vp_cell cA (n, .inr (.inl (fun _ => 0))) = arrV cA n (fun _ => defaultValue .long) := rfl
theorem goodC {u : List Cond} (hu : GoodIn lw_tbl u) {c1 : Cond} (h5 : c1 ∈ u) : GoodIn lw_tbl (c1 :: u) := fun w hw => (List.mem_cons.mp hw).elim (fun e => by rw [e]; exact hu _ h5) (hu w)
theorem Rel_0 : Rel 0 M0X M0Z := by
  refine ⟨60, 0, 0, 0, 0, s00, s00, s00, s00, fun _ => s00, fun _ => 0, s00, Or.inl ⟨rfl, rfl, rfl⟩, ?_, ?_, ?_, ?_, Nat.le_refl _, ?_, ?_, ?_⟩
  · exact ⟨Nat.zero_le _, fun z => absurd z (Nat.lt_irrefl 0), fun b z => absurd z (Nat.not_lt_zero b), fun b z => absurd z (Nat.not_lt_zero b), fun b z => absurd z (Nat.not_lt_zero b), fun b c z => absurd z (Nat.not_lt_zero b)⟩
  · exact ⟨rfl, rfl, rfl, fun b z => absurd z (Nat.not_lt_zero b)⟩
  · exact fun b z => absurd z (Nat.not_lt_zero b)
  · exact ⟨Nat.zero_le _, rfl, rfl, fun b z => absurd z (Nat.not_lt_zero b)⟩
  · exact ⟨rfl, rfl, fun z => absurd z (Nat.lt_irrefl 0), fun b z => absurd z (Nat.not_lt_zero b), fun z => absurd z (Nat.lt_irrefl 0)⟩
  · exact ⟨Nat.zero_le _, rfl, rfl, fun b z => absurd z (Nat.not_lt_zero b)⟩
  · exact ⟨⟨600, by omega, by omega, rfl, rfl⟩, ⟨400, by omega, by omega, rfl, rfl⟩, ⟨0, by omega, rfl, rfl⟩, rfl, rfl⟩
abbrev gsL : List Cond := [Cond.classLink RL 8 RX11, Cond.methodLink RL 15 yX11_init, Cond.instanceMethod yX11_init, Cond.classLink RL 16 RX12, Cond.methodLink RL 18 yX12_init, Cond.instanceMethod yX12_init, Cond.arrayClass .long, Cond.instantiable RX0 5, Cond.instantiable RX1 1, Cond.instantiable RX2 8, Cond.instantiable RX3 9, Cond.instantiable RX4 5, Cond.instantiable RX5 2, Cond.instantiable RX6 8, Cond.instantiable RX7 5, Cond.instantiable RX8 4, Cond.instantiable RX9 2, Cond.instantiable RX10 12, Cond.instantiable RX11 9, Cond.instantiable RX12 56, Cond.initialized RX11, Cond.initialized RX12]
set_option maxRecDepth 100000 in
theorem gs_in : GoodIn lw_tbl gsL := goodIn_r _ [87, 89, 90, 992, 994, 995, 1439, 219, 428, 242, 334, 328, 395, 96, 248, 389, 102, 118, 88, 993, 64, 77] (by rfl) (by decide +kernel)
theorem st_K {args : Array Value} {s : State} (hts : ∀ w ∈ lw_tbl, w.before args s = true) : ∃ D : va_G, va_K D vwCl [] s := by
  obtain ⟨c0, i0, k0⟩ := u_known (C := RX0) (T := TX0) (N := 5) (n := 5) hts (fun w h => (ufX0_in w h).1) (hts _ (gs_in _ (List.mem_of_getElem? (i := 7) rfl)).1)
  obtain ⟨c1, i1, k1⟩ := u_known (C := RX1) (T := TX1) (N := 1) (n := 1) hts (fun w h => (ufX1_in w h).1) (hts _ (gs_in _ (List.mem_of_getElem? (i := 8) rfl)).1)
  obtain ⟨c2, i2, k2⟩ := u_known (C := RX2) (T := TX2) (N := 8) (n := 8) hts (fun w h => (ufX2_in w h).1) (hts _ (gs_in _ (List.mem_of_getElem? (i := 9) rfl)).1)
  obtain ⟨c3, i3, k3⟩ := u_known (C := RX3) (T := TX3) (N := 9) (n := 9) hts (fun w h => (ufX3_in w h).1) (hts _ (gs_in _ (List.mem_of_getElem? (i := 10) rfl)).1)
  obtain ⟨c4, i4, k4⟩ := u_known (C := RX4) (T := TX4) (N := 5) (n := 5) hts (fun w h => (ufX4_in w h).1) (hts _ (gs_in _ (List.mem_of_getElem? (i := 11) rfl)).1)
  obtain ⟨c5, i5, k5⟩ := u_known (C := RX5) (T := TX5) (N := 2) (n := 2) hts (fun w h => (ufX5_in w h).1) (hts _ (gs_in _ (List.mem_of_getElem? (i := 12) rfl)).1)
  obtain ⟨c6, i6, k6⟩ := u_known (C := RX6) (T := TX6) (N := 8) (n := 8) hts (fun w h => (ufX6_in w h).1) (hts _ (gs_in _ (List.mem_of_getElem? (i := 13) rfl)).1)
  obtain ⟨c7, i7, k7⟩ := u_known (C := RX7) (T := TX7) (N := 5) (n := 5) hts (fun w h => (ufX7_in w h).1) (hts _ (gs_in _ (List.mem_of_getElem? (i := 14) rfl)).1)
  obtain ⟨c8, i8, k8⟩ := u_known (C := RX8) (T := TX8) (N := 4) (n := 4) hts (fun w h => (ufX8_in w h).1) (hts _ (gs_in _ (List.mem_of_getElem? (i := 15) rfl)).1)
  obtain ⟨c9, i9, k9⟩ := u_known (C := RX9) (T := TX9) (N := 2) (n := 2) hts (fun w h => (ufX9_in w h).1) (hts _ (gs_in _ (List.mem_of_getElem? (i := 16) rfl)).1)
  obtain ⟨c10, i10, k10⟩ := u_known (C := RX10) (T := TX10) (N := 12) (n := 12) hts (fun w h => (ufX10_in w h).1) (hts _ (gs_in _ (List.mem_of_getElem? (i := 17) rfl)).1)
  obtain ⟨c11, i11, k11⟩ := u_known (C := RX11) (T := TX11) (N := 9) (n := 9) hts (fun w h => (ufX11_in w h).1) (hts _ (gs_in _ (List.mem_of_getElem? (i := 18) rfl)).1)
  obtain ⟨c12, i12, k12⟩ := u_known (C := RX12) (T := TX12) (N := 56) (n := 56) hts (fun w h => (ufX12_in w h).1) (hts _ (gs_in _ (List.mem_of_getElem? (i := 19) rfl)).1)
  refine ⟨(fun k => ([c0, c1, c2, c3, c4, c5, c6, c7, c8, c9, c10, c11, c12] : List ClassId).getD k c0, fun k => ([i0, i1, i2, i3, i4, i5, i6, i7, i8, i9, i10, i11, i12] : List (Nat → Nat)).getD k i0), fun k q hq => ?_, fun k q h => by simp at h⟩
  match k, hq with
  | 0, hq => cases hq; exact k0
  | 1, hq => cases hq; exact k1
  | 2, hq => cases hq; exact k2
  | 3, hq => cases hq; exact k3
  | 4, hq => cases hq; exact k4
  | 5, hq => cases hq; exact k5
  | 6, hq => cases hq; exact k6
  | 7, hq => cases hq; exact k7
  | 8, hq => cases hq; exact k8
  | 9, hq => cases hq; exact k9
  | 10, hq => cases hq; exact k10
  | 11, hq => cases hq; exact k11
  | 12, hq => cases hq; exact k12
  | n + 13, hq => simp [vwCl] at hq
theorem st_St {args : Array Value} {s : State} {A : Nat → Prop} (hts : ∀ w ∈ lw_tbl, w.before args s = true) (hgv : (Jvm.Cond.and given_1 narrow_1).before args s = true) (hA : ∀ a : Nat, a < s.heap.size → ¬ A a) : ∃ aK aV : Nat → Nat, ∀ Y : sy_Y, Y.2.2.2.1 = aK → Y.2.2.2.2 = aV → sy_St Y A s s.heap := by
  have hs := flat_of_before _ hgv
  have ht : ∀ w ∈ tables_1, w.before args s = true := fun w h => hts w (List.mem_append_right _ h)
  obtain ⟨aK, aV, h1, h2⟩ := vk_Sof (args := args) (s := s) (N := 5) (tm := tmL) (len := sy_len) (byt := sy_byt) (A := A) (by decide +kernel) (fun i hi => hs _ (st_ex i hi)) (fun i hi => hs _ (st_co i hi)) (fun i hi => hs _ (st_ar i hi)) (fun i hi => hs _ (st_le i hi)) (fun i hi j hj => hs _ (st_el i hi j hj)) (fun i j hi hj hij => by
    rcases Nat.lt_or_gt_of_ne hij with h | h
    · exact Or.inl (hs _ (st_ne i hi j hj h))
    · exact Or.inr (hs _ (st_ne j hj i hi h))) hA
  have h3 : ∀ i, i < 5 → (tmZ i).eval args s none [] s = some (.ref (aK i)) := fun i hi => va_eqR (hs _ (st_eq i hi)) (h2 i hi)
  refine ⟨aK, aV, fun Y e1 e2 => ?_⟩
  unfold sy_St
  rw [e1, e2]
  refine ⟨h1, fun q hq => ?_, va_Zof (ht _ st_z.1.1) (ht _ st_z.1.2.1) (va_eqt (hs _ st_z.1.2.2)) hA, va_Zqof (ht _ st_z.2.1) (ht _ st_z.2.2.1) (hs _ st_z.2.2.2) hA⟩
  have h4 := ht _ (st_rf q hq)
  simp only [sy_ldc, List.mem_cons, List.not_mem_nil, or_false] at hq
  rcases hq with rfl | rfl | rfl | rfl | rfl | rfl | rfl | rfl | rfl | rfl
  · exact vk_R.of h4 (h2 0 (by decide))
  · exact vk_R.of h4 (h2 1 (by decide))
  · exact vk_R.of h4 (h2 2 (by decide))
  · exact vk_R.of h4 (h2 3 (by decide))
  · exact vk_R.of h4 (h2 4 (by decide))
  · exact vk_R.of h4 (h3 0 (by decide))
  · exact vk_R.of h4 (h3 1 (by decide))
  · exact vk_R.of h4 (h3 2 (by decide))
  · exact vk_R.of h4 (h3 3 (by decide))
  · exact vk_R.of h4 (h3 4 (by decide))
theorem sy_St.narrow {Y : sy_Y} {A B : Nat → Prop} {U : State} {H : Heap} (h : sy_St Y A U H) (hAB : ∀ q, B q → A q) : sy_St Y B U H := ⟨h.1.narrow hAB, h.2.1, h.2.2.1.narrow hAB, h.2.2.2.narrow hAB⟩
theorem st_U {args : Array Value} {s : State} {A : Nat → Prop} (hts : ∀ w ∈ lw_tbl, w.before args s = true) (hgv : (Jvm.Cond.and given_1 narrow_1).before args s = true) (hA : ∀ a : Nat, a < s.heap.size → ¬ A a) : sy_U A s s.heap := by
  have hs := flat_of_before _ hgv
  have ht : ∀ w ∈ tables_1, w.before args s = true := fun w h => hts w (List.mem_append_right _ h)
  exact ⟨vx_Zqof (ht _ st_u.1.1) (ht _ st_u.1.2.2) (hs _ st_u.2.1) hA, vx_Zqof (ht _ st_u.1.2.1) (ht _ st_u.1.2.2) (hs _ st_u.2.2) hA, fun w hw a' => faP_moved hw (Vm.Alike.refl s.vm) (hts w (faP_in w hw))⟩
