/-! each part of the tie speaks of some cells alone -/
theorem rlT.cg {t nb : Nat} {T V : Nat → Nat → Nat} {A B A' B' : sy_M} (hw : wfT nb T V) (h : rlT t nb T V A B) (hA : ∀ k, k ≤ 10 → ∀ i, A' (t + k) i = A (t + k) i) (h0 : B' 0 13 = B 0 13) (hB : ∀ p, 2 ≤ p → p ≤ 9 → ∀ i, i < 41 → B' p i = B p i) (hB2 : ∀ i, i < 328 → B' 10 i = B 10 i) : rlT t nb T V A' B' := by
  obtain ⟨h1, h2, h3, h4⟩ := h
  have hn := hw.1
  refine ⟨by rw [← h1]; exact hA 0 (by omega) 0, by rw [h0]; exact h2, by rw [← h3]; exact hA 0 (by omega) 1, fun b hb => ?_⟩
  obtain ⟨⟨a1, a2⟩, ⟨a3, a4, a5⟩, ⟨a6, a7⟩, ⟨a8, a9⟩, a10, a11, ⟨a12, a13⟩, ⟨a14, a15⟩, a16⟩ := h4 b hb
  have hl := (hw.2.2.2.1 b hb).2.2.2.2.1
  refine ⟨⟨by rw [hA 1 (by omega)]; exact a1, by rw [hB 2 (by omega) (by omega) b (by omega)]; exact a2⟩, ⟨by rw [hA 2 (by omega)]; exact a3, by rw [hB 3 (by omega) (by omega) b (by omega)]; exact a4, fun hg => by rw [hB 6 (by omega) (by omega) b (by omega)]; exact a5 hg⟩,
    ⟨by rw [hA 3 (by omega)]; exact a6, by rw [hB 4 (by omega) (by omega) b (by omega)]; exact a7⟩, ⟨by rw [hA 4 (by omega)]; exact a8, by rw [hB 5 (by omega) (by omega) b (by omega)]; exact a9⟩,
    fun hg => ⟨by rw [hA 5 (by omega)]; exact (a10 hg).1, by rw [hB 8 (by omega) (by omega) b (by omega)]; exact (a10 hg).2⟩, fun hg => by rw [hA 5 (by omega)]; exact a11 hg,
    ⟨by rw [hA 6 (by omega)]; exact a12, by rw [hB 9 (by omega) (by omega) b (by omega)]; exact a13⟩, ⟨by rw [hA 7 (by omega)]; exact a14, by rw [hB 7 (by omega) (by omega) b (by omega)]; exact a15⟩,
    fun k hk => ⟨by rw [hA 10 (by omega)]; exact (a16 k hk).1, by rw [hB2 _ (by omega)]; exact (a16 k hk).2⟩⟩
theorem rlL.cg {t nb : Nat} {L : Nat → Nat → Nat} {A B A' B' : sy_M} (h : rlL t nb L A B) (hA8 : ∀ i, i < nb → A' (t + 8) i = A (t + 8) i) (hA9 : ∀ i, i < nb → A' (t + 9) i = A (t + 9) i) (hB1 : ∀ i, i < nb → B' 14 i = B 14 i) (hB2 : ∀ i, i < nb → B' 15 i = B 15 i) : rlL t nb L A' B' := by
  intro b hb
  obtain ⟨⟨h1, h2, h3⟩, h4, h5, h6⟩ := h b hb
  exact ⟨⟨h1, by rw [hA8 b hb]; exact h2, by rw [hB1 b hb]; exact h3⟩, h4, by rw [hA9 b hb]; exact h5, by rw [hB2 b hb]; exact h6⟩
theorem rlC.cg {nb nc : Nat} {T C : Nat → Nat → Nat} {A B A' B' : sy_M} (h : rlC nb nc T C A B) (h0 : A' 4 0 = A 4 0) (hA : ∀ p, 5 ≤ p → p ≤ 7 → ∀ i, A' p i = A p i) (h1 : B' 0 24 = B 0 24) (hB : ∀ p, 11 ≤ p → p ≤ 13 → ∀ i, B' p i = B p i) : rlC nb nc T C A' B' := by
  obtain ⟨a1, a2, a3, a4⟩ := h
  refine ⟨a1, by rw [h0]; exact a2, by rw [h1]; exact a3, fun k hk => ?_⟩
  obtain ⟨⟨b1, b2, b3, b4⟩, ⟨b5, b6, b7⟩, b8, b9, b10⟩ := a4 k hk
  exact ⟨⟨b1, b2, by rw [hA 5 (by omega) (by omega)]; exact b3, by rw [hB 11 (by omega) (by omega)]; exact b4⟩, ⟨b5, by rw [hA 6 (by omega) (by omega)]; exact b6, by rw [hB 12 (by omega) (by omega)]; exact b7⟩, b8, by rw [hA 7 (by omega) (by omega)]; exact b9, by rw [hB 13 (by omega) (by omega)]; exact b10⟩
theorem rlG.cg {rx rz nb : Nat} {G : Nat → Nat → Nat} {A B A' B' : sy_M} (h : rlG rx rz nb G A B) (hA : ∀ p, 12 ≤ p → p ≤ 17 → ∀ b, b < nb → A' p (rx * 40 + b) = A p (rx * 40 + b)) (hB : ∀ p, 26 ≤ p → p ≤ 31 → ∀ b, b < nb → B' p (41 * rz + b) = B p (41 * rz + b)) : rlG rx rz nb G A' B' := by
  intro b hb
  obtain ⟨⟨a1, a2, a3⟩, ⟨a4, a5, a6⟩, a7⟩ := h b hb
  refine ⟨⟨a1, by rw [hA 17 (by omega) (by omega) b hb]; exact a2, by rw [hB 26 (by omega) (by omega) b hb]; exact a3⟩, ⟨a4, by rw [hA 16 (by omega) (by omega) b hb]; exact a5, by rw [hB 31 (by omega) (by omega) b hb]; exact a6⟩, fun hs => ?_⟩
  obtain ⟨⟨c1, c2⟩, ⟨c3, c4⟩, ⟨c5, c6⟩, ⟨c7, c8⟩, c9⟩ := a7 hs
  exact ⟨⟨by rw [hA 12 (by omega) (by omega) b hb]; exact c1, by rw [hB 27 (by omega) (by omega) b hb]; exact c2⟩, ⟨by rw [hA 13 (by omega) (by omega) b hb]; exact c3, by rw [hB 28 (by omega) (by omega) b hb]; exact c4⟩, ⟨by rw [hA 14 (by omega) (by omega) b hb]; exact c5, by rw [hB 29 (by omega) (by omega) b hb]; exact c6⟩, ⟨by rw [hA 15 (by omega) (by omega) b hb]; exact c7, by rw [hB 30 (by omega) (by omega) b hb]; exact c8⟩, c9⟩
theorem rlR.cg {nb : Nat} {T R : Nat → Nat → Nat} {A B A' B' : sy_M} (h : rlR nb T R A B) (hA : ∀ p, 18 ≤ p → p ≤ 26 → ∀ b, A' p b = A p b) (hB : ∀ p, 32 ≤ p → p ≤ 39 → ∀ b, B' p b = B p b) : rlR nb T R A' B' := by
  intro b hb hg
  obtain ⟨⟨a1, a2, a3⟩, ⟨a4, a5, a6⟩, ⟨a7, a8, a9⟩, a10⟩ := h b hb hg
  refine ⟨⟨a1, by rw [hA 18 (by omega) (by omega)]; exact a2, by rw [hB 32 (by omega) (by omega)]; exact a3⟩, ⟨a4, by rw [hA 19 (by omega) (by omega)]; exact a5, by rw [hB 33 (by omega) (by omega)]; exact a6⟩, ⟨a7, by rw [hA 26 (by omega) (by omega)]; exact a8, by rw [hB 34 (by omega) (by omega)]; exact a9⟩, fun hs => ?_⟩
  obtain ⟨⟨c1, c2⟩, ⟨c3, c4⟩, ⟨c5, c6⟩, ⟨c7, c8⟩, ⟨c9, c10⟩, c11⟩ := a10 hs
  exact ⟨⟨by rw [hA 21 (by omega) (by omega)]; exact c1, by rw [hB 36 (by omega) (by omega)]; exact c2⟩, ⟨by rw [hA 22 (by omega) (by omega)]; exact c3, by rw [hB 37 (by omega) (by omega)]; exact c4⟩, ⟨by rw [hA 23 (by omega) (by omega)]; exact c5, by rw [hB 38 (by omega) (by omega)]; exact c6⟩, ⟨by rw [hA 24 (by omega) (by omega)]; exact c7, by rw [hB 39 (by omega) (by omega)]; exact c8⟩, ⟨by rw [hA 25 (by omega) (by omega)]; exact c9, by rw [hB 35 (by omega) (by omega)]; exact c10⟩, c11⟩
theorem rlD.cg {d nb : Nat} {T : Nat → Nat → Nat} {G : Nat → Nat → Nat → Nat} {K : Nat → Nat} {R : Nat → Nat → Nat} {A B A' B' : sy_M} (h : rlD d nb T G K R A B) (h0 : A' 9 0 = A 9 0) (hA : ∀ p, (p = 10 ∨ (12 ≤ p ∧ p ≤ 26)) → ∀ i, A' p i = A p i) (h1 : B' 0 40 = B 0 40) (hB : ∀ p, 25 ≤ p → p ≤ 39 → ∀ i, B' p i = B p i) : rlD d nb T G K R A' B' := by
  obtain ⟨a1, a2, a3, a4, a5⟩ := h
  refine ⟨by rw [h0]; exact a1, by rw [h1]; exact a2, a3, fun j hj hk => ?_, fun hd => (a5 hd).cg (fun p h1 h2 b => hA p (by omega) b) (fun p h1 h2 b => hB p (by omega) (by omega) b)⟩
  obtain ⟨⟨b1, b2, b3⟩, b4⟩ := a4 j hj hk
  exact ⟨⟨b1, by rw [hA 10 (by omega)]; exact b2, by rw [hB 25 (by omega) (by omega)]; exact b3⟩, b4.cg (fun p h1 h2 b _ => hA p (by omega) _) (fun p h1 h2 b _ => hB p (by omega) (by omega) _)⟩
theorem rlP.cg {n : Nat} {A B A' B' : sy_M} (h : rlP n A B) (h0 : A' 1 0 = A 1 0) (hA : ∀ i, A' 2 i = A 2 i) (h1 : B' 0 5 = B 0 5) (hB : ∀ i, B' 1 i = B 1 i) : rlP n A' B' := by
  obtain ⟨a1, a2, a3, a4⟩ := h
  refine ⟨a1, by rw [h0]; exact a2, by rw [h1]; exact a3, fun i hi => ?_⟩
  rw [hA, hB]
  exact a4 i hi
theorem rlS.cg {A B A' B' : sy_M} (h : rlS A B) (h0 : A' 0 8 = A 0 8) (h1 : A' 0 9 = A 0 9) (h2 : A' 27 0 = A 27 0) (h3 : A' 3 0 = A 3 0) (g0 : B' 0 1 = B 0 1) (g1 : B' 0 2 = B 0 2) (g2 : B' 0 3 = B 0 3) (g3 : B' 0 12 = B 0 12) (h4 : A' 31 0 = A 31 0 := by rfl) : rlS A' B' := by
  unfold rlS
  rw [h0, h1, h2, h3, g0, g1, g2, g3, h4]
  exact h
theorem rlQ.cg {t : Nat} {A A' : sy_M} (h : rlQ t A) (h0 : A' 0 6 = A 0 6) (h1 : A' 3 2 = A 3 2) : rlQ t A' := by
  unfold rlQ
  rw [h0, h1]
  exact h
theorem rlQ.t {t : Nat} {A : sy_M} (h : rlQ t A) : A 0 6 = nI t ∧ iX10 t ∧ 60 ≤ t ∧ t ≤ 71 := by
  rcases h with ⟨h1, h2, h3⟩ | ⟨h1, h2, h3⟩
  · subst h1; exact ⟨h2, Or.inl rfl, by omega, by omega⟩
  · subst h1; exact ⟨h2, Or.inr rfl, by omega, by omega⟩
/-- thrown is told anew by each call, and no part of the tie -/
theorem Rel.z0 {cn : Nat} {A B : sy_M} {v : Int32} (h : Rel cn A B) : Rel cn A (mu B 0 0 v) := by
  obtain ⟨t, nb, nc, d, n, T, V, L, C, G, K, R, hQ, hw, hT, hL, hC, hd, hD, hP, hS⟩ := h
  refine ⟨t, nb, nc, d, n, T, V, L, C, G, K, R, hQ, hw, hT.cg hw (fun _ _ _ => rfl) rfl (fun p h1 h2 i _ => mu_n1 _ _ _ _ (by omega)) (fun i _ => rfl), hL.cg (fun _ _ => rfl) (fun _ _ => rfl) (fun _ _ => rfl) (fun _ _ => rfl), hC.cg rfl (fun _ _ _ _ => rfl) rfl (fun p h1 h2 i => mu_n1 _ _ _ _ (by omega)), hd, hD.cg rfl (fun _ _ _ => rfl) rfl (fun p h1 h2 i => mu_n1 _ _ _ _ (by omega)), hP.cg rfl (fun _ => rfl) rfl (fun _ => rfl), hS.cg rfl rfl rfl rfl rfl rfl rfl rfl⟩
theorem Rel.up {cn : Nat} {A B : sy_M} (h : Rel cn A B) : Rel (cn + 1) A B := by
  obtain ⟨t, nb, nc, d, n, T, V, L, C, G, K, R, hQ, hw, hT, hL, hC, hd, hD, hP, hS⟩ := h
  exact ⟨t, nb, nc, d, n, T, V, L, C, G, K, R, hQ, hw, hT, hL, hC, by omega, hD, hP, hS⟩
/-! sheet, price, end, place -/
theorem op_sheet {cn : Nat} {A B : sy_M} (h : Rel cn A B) (a1 a2 : Int32) {F : sy_M → sy_M → Prop} (hF : ∀ A' B', Rel cn A' B' → F A' B') : wX11_sheet A a1 a2 (fun r A' => wX12_sheet B a1 a2 (fun r' B' => r = r' ∧ F A' B')) := by
  have hz : Rel cn A (mu B 0 0 0) := h.z0
  unfold wX11_sheet wX12_sheet wX11_isFrom wX12_within
  by_cases c1 : a1 < 1
  · simp [c1]; exact hF _ _ hz
  by_cases c2 : nI 3000 < a1
  · simp [c1, c2]; exact hF _ _ hz
  by_cases c3 : a2 < 1
  · simp [c1, c2, c3]; exact hF _ _ hz
  by_cases c4 : nI 3000 < a2
  · simp [c1, c2, c3, c4]; exact hF _ _ hz
  simp [c1, c2, c3, c4]
  apply hF
  obtain ⟨w, hw1, hw2, rfl⟩ := nI_rng (lo := 1) (hi := 3000) c1 c2 (by decide) (by decide)
  obtain ⟨v, hv1, hv2, rfl⟩ := nI_rng (lo := 1) (hi := 3000) c3 c4 (by decide) (by decide)
  obtain ⟨t, nb, nc, d, n, T, V, L, C, G, K, R, hQ, hw, hT, hL, hC, hd, hD, hP, hS⟩ := hz
  have ht := hQ.t
  refine ⟨t, nb, nc, d, n, T, V, L, C, G, K, R, hQ.cg rfl rfl, hw, hT.cg hw (fun k hk i => by rw [mu_n1 _ _ _ _ (by omega), mu_n1 _ _ _ _ (by omega)]) rfl (fun p h1 h2 i _ => by rw [mu_n1 _ _ _ _ (by omega), mu_n1 _ _ _ _ (by omega)]) (fun i _ => rfl), hL.cg (fun _ _ => by rw [mu_n1 _ _ _ _ (by omega), mu_n1 _ _ _ _ (by omega)]) (fun _ _ => by rw [mu_n1 _ _ _ _ (by omega), mu_n1 _ _ _ _ (by omega)]) (fun _ _ => rfl) (fun _ _ => rfl), hC.cg rfl (fun p h1 h2 i => by rw [mu_n1 _ _ _ _ (by omega), mu_n1 _ _ _ _ (by omega)]) rfl (fun p h1 h2 i => by rw [mu_n1 _ _ _ _ (by omega), mu_n1 _ _ _ _ (by omega)]), hd, hD.cg rfl (fun p h1 i => by rw [mu_n1 _ _ _ _ (by omega), mu_n1 _ _ _ _ (by omega)]) rfl (fun p h1 h2 i => by rw [mu_n1 _ _ _ _ (by omega), mu_n1 _ _ _ _ (by omega)]), hP.cg rfl (fun _ => rfl) rfl (fun _ => rfl), ?_⟩
  exact ⟨⟨w, hw1, hw2, rfl, rfl⟩, ⟨v, hv1, hv2, rfl, rfl⟩, hS.2.2.1, hS.2.2.2⟩
