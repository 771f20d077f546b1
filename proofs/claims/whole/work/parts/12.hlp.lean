/-! the small methods, as equivalences to rewrite with -/
theorem ex_nI {N k : Nat} {P : Nat → Prop} (hk : k < N) (hN : N ≤ 2 ^ 31) : (∃ n : Nat, n < N ∧ nI k = nI n ∧ P n) ↔ P k := by
  constructor
  · rintro ⟨n, h1, h2, h3⟩
    rw [nI_eq (by omega) (by omega)] at h2
    subst h2
    exact h3
  · intro h
    exact ⟨k, hk, rfl, h⟩
theorem ex_t {x : Int32} {t : Nat} {P : Nat → Prop} (hx : x = nI t) (ht : iX10 t) : (∃ n : Nat, x = nI n ∧ iX10 n ∧ P n) ↔ P t := by
  subst hx
  constructor
  · rintro ⟨n, h1, h2, h3⟩
    have e1 := iX10_lt ht
    have e2 := iX10_lt h2
    rw [nI_eq (by omega) (by omega)] at h1
    subst h1
    exact h3
  · intro h
    exact ⟨t, rfl, ht, h⟩
theorem has_y {M : sy_M} {p nb b : Nat} {Q : Int32 → sy_M → Prop} (hn : M p 0 = nI nb) (hb : b < nb) (hnb : nb ≤ 40) : wX10_has M p (nI b) Q ↔ Q 1 M := by
  unfold wX10_has
  rw [hn]
  have h1 : ¬ nI b < 0 := nI_pos (by omega)
  have h2 : ¬ nI nb ≤ nI b := nI_ge hb (by omega)
  simp [h1, h2]
theorem has_n {M : sy_M} {p nb : Nat} {a : Int32} {Q : Int32 → sy_M → Prop} (hn : M p 0 = nI nb) (hno : ¬ ∃ b, b < nb ∧ a = nI b) (hnb : nb ≤ 40) : wX10_has M p a Q ↔ Q 0 M := by
  unfold wX10_has
  rw [hn]
  by_cases h1 : a < 0
  · simp [h1]
  · by_cases h2 : nI nb ≤ a
    · simp [h1, h2]
    · exact absurd (nI_ofx h1 h2 (by omega)) hno
theorem isBox_y {M : sy_M} {nb b : Nat} {Q : Int32 → sy_M → Prop} (hn : M 0 13 = nI nb) (hb : b < nb) (hnb : nb ≤ 40) : wX12_isBox M (nI b) Q ↔ Q 1 M := by
  unfold wX12_isBox
  rw [hn]
  have h1 : ¬ nI b < 0 := nI_pos (by omega)
  have h2 : ¬ nI nb ≤ nI b := nI_ge hb (by omega)
  simp [h1, h2]
theorem isBox_n {M : sy_M} {nb : Nat} {a : Int32} {Q : Int32 → sy_M → Prop} (hn : M 0 13 = nI nb) (hno : ¬ ∃ b, b < nb ∧ a = nI b) (hnb : nb ≤ 40) : wX12_isBox M a Q ↔ Q 0 M := by
  unfold wX12_isBox
  rw [hn]
  by_cases h1 : a < 0
  · simp [h1]
  · by_cases h2 : nI nb ≤ a
    · simp [h1, h2]
    · exact absurd (nI_ofx h1 h2 (by omega)) hno
theorem isGroup_y {M : sy_M} {p nb b x : Nat} {Q : Int32 → sy_M → Prop} (hn : M p 0 = nI nb) (hb : b < nb) (hnb : nb ≤ 40) (hx : M (p + 2) b = pm x) (hx4 : x ≤ 4) : wX10_isGroup M p (nI b) Q ↔ Q (b01 x) M := by
  unfold wX10_isGroup
  rw [has_y hn hb hnb]
  simp only [ex_nI (show b < 40 by omega) (by omega), hx, pm_m1 (show x < 2 ^ 31 by omega)]
  unfold b01
  by_cases h : x = 0 <;> simp [h]
theorem isGroup_n {M : sy_M} {p nb : Nat} {a : Int32} {Q : Int32 → sy_M → Prop} (hn : M p 0 = nI nb) (hno : ¬ ∃ b, b < nb ∧ a = nI b) (hnb : nb ≤ 40) : wX10_isGroup M p a Q ↔ Q 0 M := by
  unfold wX10_isGroup
  rw [has_n hn hno hnb]
  simp
theorem isLeaf_y {M : sy_M} {p nb b x : Nat} {Q : Int32 → sy_M → Prop} (hn : M p 0 = nI nb) (hb : b < nb) (hnb : nb ≤ 40) (hx : M (p + 2) b = pm x) (hx4 : x ≤ 4) : wX10_isLeaf M p (nI b) Q ↔ Q (if x = 0 then 1 else 0) M := by
  unfold wX10_isLeaf
  rw [has_y hn hb hnb]
  simp only [ex_nI (show b < 40 by omega) (by omega), hx, pm_m1 (show x < 2 ^ 31 by omega)]
  by_cases h : x = 0 <;> simp [h]
theorem isLeaf_n {M : sy_M} {p nb : Nat} {a : Int32} {Q : Int32 → sy_M → Prop} (hn : M p 0 = nI nb) (hno : ¬ ∃ b, b < nb ∧ a = nI b) (hnb : nb ≤ 40) : wX10_isLeaf M p a Q ↔ Q 0 M := by
  unfold wX10_isLeaf
  rw [has_n hn hno hnb]
  simp
theorem b01_0 (n : Nat) : b01 n = 0 ↔ n = 0 := by
  unfold b01
  by_cases h : n = 0 <;> simp [h]
theorem nI_0i {n : Nat} (h : n < 2 ^ 31) : nI n = 0 ↔ n = 0 := by
  rw [← nI_0, nI_eq h (by decide)]
theorem latest_y {M : sy_M} {d b : Nat} {Q : Int32 → sy_M → Prop} (hd : M 9 0 = nI d) (h0 : 0 < d) (hd2 : d < 2 ^ 20) : wX2_latestCell M (nI b) Q ↔ Q (nI ((d - 1) % 50 * 40 + b)) M := by
  unfold wX2_latestCell wX2_cell
  rw [hd]
  have h1 : ¬ nI d ≤ 0 := nI_nle h0 (by omega)
  have h2 : nI d - 1 = nI (d - 1) := by
    have := nI_pred (d - 1)
    rwa [show d - 1 + 1 = d by omega] at this
  simp only [h1, not_false_eq_true, true_implies, false_implies, true_and, h2, pk_rem (show d - 1 < 2 ^ 31 by omega) (show 0 < 50 by omega) (show 50 < 2 ^ 31 by omega), pk_mul, nI_add]
theorem cell_y {M : sy_M} {j b : Nat} {Q : Int32 → sy_M → Prop} (hj : j < 2 ^ 20) : wX2_cell M (nI j) (nI b) Q ↔ Q (nI (j % 50 * 40 + b)) M := by
  unfold wX2_cell
  simp only [pk_rem (show j < 2 ^ 31 by omega) (show 0 < 50 by omega) (show 50 < 2 ^ 31 by omega), pk_mul, nI_add]
theorem rowOf_y {M : sy_M} {j : Nat} {Q : Int32 → sy_M → Prop} (hj : j < 2 ^ 20) : wX12_rowOf M (nI j) Q ↔ Q (nI (41 * (j % 51))) M := by
  unfold wX12_rowOf
  simp only [pk_rem (show j < 2 ^ 31 by omega) (show 0 < 51 by omega) (show 51 < 2 ^ 31 by omega), pk_mul]
theorem nI_m1 {d : Nat} (h : 0 < d) : nI d - 1 = nI (d - 1) := by
  have := nI_pred (d - 1)
  rwa [show d - 1 + 1 = d by omega] at this
theorem isDrawn_y {M : sy_M} {d nb b : Nat} {Q : Int32 → sy_M → Prop} (hd : M 0 40 = nI d) (h0 : 0 < d) (hd2 : d < 2 ^ 20) (hn : M 0 13 = nI nb) (hb : b < nb) (hnb : nb ≤ 40) : wX12_isDrawn M (nI b) Q ↔ Q 1 M := by
  unfold wX12_isDrawn
  rw [hd, isBox_y hn hb hnb]
  have h1 : ¬ nI d ≤ 0 := nI_nle h0 (by omega)
  simp [h1]
theorem isDrawn_n {M : sy_M} {nb : Nat} {a : Int32} {Q : Int32 → sy_M → Prop} (hn : M 0 13 = nI nb) (hno : ¬ ∃ b, b < nb ∧ a = nI b) (hnb : nb ≤ 40) : wX12_isDrawn M a Q ↔ Q 0 M := by
  unfold wX12_isDrawn
  rw [isBox_n hn hno hnb]
  by_cases h1 : M 0 40 ≤ 0 <;> simp [h1]
theorem isDrawn_0 {M : sy_M} {a : Int32} {Q : Int32 → sy_M → Prop} (hd : M 0 40 = nI 0) : wX12_isDrawn M a Q ↔ Q 0 M := by
  unfold wX12_isDrawn
  rw [hd]
  have : nI 0 ≤ 0 := by decide
  simp [this]
theorem op_price {cn : Nat} {A B : sy_M} (h : Rel cn A B) (a1 : Int32) {F : sy_M → sy_M → Prop} (hF : ∀ A' B', Rel cn A' B' → F A' B') : wX11_price A a1 (fun r A' => wX12_price B a1 (fun r' B' => r = r' ∧ F A' B')) := by
  have hz : Rel cn A (mu B 0 0 0) := h.z0
  unfold wX11_price wX12_price wX11_isFrom wX12_within
  by_cases c1 : a1 < 0
  · simp [c1]; exact hF _ _ hz
  by_cases c2 : nI 1000 < a1
  · simp [c1, c2]; exact hF _ _ hz
  simp [c1, c2]
  apply hF
  obtain ⟨w, hw1, hw2, rfl⟩ := nI_rng (lo := 0) (hi := 1000) c1 c2 (by decide) (by decide)
  obtain ⟨t, nb, nc, d, n, T, V, L, C, G, K, R, hQ, hw, hT, hL, hC, hd, hD, hP, hS⟩ := hz
  have ht := hQ.t
  refine ⟨t, nb, nc, d, n, T, V, L, C, G, K, R, hQ.cg rfl rfl, hw, hT.cg hw (fun k hk i => by rw [mu_n1 _ _ _ _ (by omega)]) rfl (fun p h1 h2 i _ => by rw [mu_n1 _ _ _ _ (by omega)]) (fun i _ => rfl), hL.cg (fun _ _ => by rw [mu_n1 _ _ _ _ (by omega)]) (fun _ _ => by rw [mu_n1 _ _ _ _ (by omega)]) (fun _ _ => rfl) (fun _ _ => rfl), hC.cg rfl (fun p h1 h2 i => by rw [mu_n1 _ _ _ _ (by omega)]) rfl (fun p h1 h2 i => by rw [mu_n1 _ _ _ _ (by omega)]), hd, hD.cg rfl (fun p h1 i => by rw [mu_n1 _ _ _ _ (by omega)]) rfl (fun p h1 h2 i => by rw [mu_n1 _ _ _ _ (by omega)]), hP.cg rfl (fun _ => rfl) rfl (fun _ => rfl), ?_⟩
  exact ⟨hS.1, hS.2.1, ⟨w, hw2, rfl, rfl⟩, hS.2.2.2⟩
theorem op_place {cn : Nat} {A B : sy_M} (h : Rel cn A B) {F : sy_M → sy_M → Prop} (hF : ∀ A' B', Rel cn A' B' → F A' B') : wX11_place A (fun r A' => wX12_place B (fun r' B' => r = r' ∧ F A' B')) := by
  have hz : Rel cn A (mu B 0 0 0) := h.z0
  unfold wX11_place wX12_place
  obtain ⟨t, nb, nc, d, n, T, V, L, C, G, K, R, hQ, hw, hT, hL, hC, hd, hD, hP, hS⟩ := h
  exact ⟨hS.2.2.2.1, hF _ _ hz⟩
/-- the tape gets its first m bytes alone -/
theorem Rel.tape {cn : Nat} {A B : sy_M} (h : Rel cn A B) {n m : Nat} (hn : A 1 0 = nI n) (hn2 : n < 2 ^ 31) (hm : m ≤ n) : Rel cn (mu A 1 0 (nI m)) (mu B 0 5 (nI m)) := by
  obtain ⟨t, nb, nc, d, n', T, V, L, C, G, K, R, hQ, hw, hT, hL, hC, hd, hD, hP, hS⟩ := h
  have ht := hQ.t
  obtain ⟨p1, p2, p3, p4⟩ := hP
  have e : n' = n := by rw [p2, nI_eq (by omega) hn2] at hn; exact hn
  subst e
  refine ⟨t, nb, nc, d, m, T, V, L, C, G, K, R, hQ.cg rfl rfl, hw, hT.cg hw (fun k hk i => by rw [mu_n1 _ _ _ _ (by omega)]) rfl (fun p h1 h2 i _ => by rw [mu_n1 _ _ _ _ (by omega)]) (fun i _ => rfl), hL.cg (fun _ _ => by rw [mu_n1 _ _ _ _ (by omega)]) (fun _ _ => by rw [mu_n1 _ _ _ _ (by omega)]) (fun _ _ => rfl) (fun _ _ => rfl), hC.cg rfl (fun p h1 h2 i => by rw [mu_n1 _ _ _ _ (by omega)]) rfl (fun p h1 h2 i => by rw [mu_n1 _ _ _ _ (by omega)]), hd, hD.cg rfl (fun p h1 i => by rw [mu_n1 _ _ _ _ (by omega)]) rfl (fun p h1 h2 i => by rw [mu_n1 _ _ _ _ (by omega)]), ⟨by omega, rfl, rfl, fun i hi => p4 i (by omega)⟩, hS.cg rfl rfl rfl rfl rfl rfl rfl rfl⟩
theorem Rel.len {cn : Nat} {A B : sy_M} (h : Rel cn A B) : ∃ n, n ≤ 1000 ∧ A 1 0 = nI n ∧ B 0 5 = nI n := by
  obtain ⟨t, nb, nc, d, n', T, V, L, C, G, K, R, hQ, hw, hT, hL, hC, hd, hD, hP, hS⟩ := h
  exact ⟨n', hP.1, hP.2.1, hP.2.2.1⟩
theorem op_end {cn : Nat} {A B : sy_M} (h : Rel cn A B) (a1 : Int32) {F : sy_M → sy_M → Prop} (hF : ∀ A' B', Rel cn A' B' → F A' B') : wX11_end A a1 (fun r A' => wX12_end B a1 (fun r' B' => r = r' ∧ F A' B')) := by
  have hz : Rel cn A (mu B 0 0 0) := h.z0
  obtain ⟨n, h1, h2, h3⟩ := h.len
  unfold wX11_end wX12_end wX11_isFrom
  rw [h2]
  have h3' : mu B 0 0 0 0 5 = nI n := h3
  simp only [h3, h3']
  by_cases c1 : a1 < 0
  · simp [c1]; exact hF _ _ hz
  by_cases c2 : nI n < a1
  · have c3 : ¬ a1 ≤ nI n := by
      obtain ⟨j, hj, rfl⟩ := nI_of c1
      rw [nI_ltI (by omega) hj] at c2
      rw [nI_leI hj (by omega)]
      omega
    simp [c1, c2, c3]; exact hF _ _ hz
  obtain ⟨m, hm1, hm2, rfl⟩ := nI_rng (lo := 0) (hi := n) c1 c2 (by decide) (by omega)
  have c3 : nI m ≤ nI n := nI_le hm2 (by omega)
  simp [c1, c2, c3]
  exact hF _ _ (hz.tape h2 (by omega) hm2)
