/-! count, under, named: loops over the boxes -/
def cntN (g : Nat → Nat) : Nat → Nat
  | 0 => 0
  | b + 1 => if g b = 0 then cntN g b else cntN g b + 1
def mxN (g r : Nat → Nat) : Nat → Nat
  | 0 => 0
  | b + 1 => if g b = 0 then mxN g r b else max (mxN g r b) (r b)
theorem cnt_filter (g : Nat → Nat) : ∀ b, cntN g b = ((List.range b).filter (fun c => g c ≠ 0)).length
  | 0 => rfl
  | b + 1 => by
    have := cnt_filter g b
    rw [cntN, List.range_succ, List.filter_append, List.length_append, ← this]
    by_cases h : g b = 0 <;> simp [h, List.filter_cons]
theorem countShownX {M : sy_M} {t nb d : Nat} {g : Nat → Nat} {Q : Int32 → sy_M → Prop} (hn : M t 0 = nI nb) (hnb : nb ≤ 40) (hd : M 9 0 = nI d) (hd2 : d < 2 ^ 20) (hg : 0 < d → ∀ b, b < nb → g b ≤ 1 ∧ M 17 ((d - 1) % 50 * 40 + b) = nI (g b))
    (hq : Q (nI (if d = 0 then 0 else cntN g nb)) M) : wX2_countShown M t Q := by
  unfold wX2_countShown
  by_cases h0 : d = 0
  · refine ⟨1, ?_⟩
    rw [wX2_countShown_4, hd]
    subst h0
    have : nI 0 ≤ 0 := by decide
    simp only [this, true_implies, not_true_eq_false, false_implies, and_true]
    rw [if_pos rfl] at hq
    exact ⟨fun _ => hq, fun _ => hq⟩
  · rw [if_neg h0] at hq
    have m1 : (d - 1) % 50 < 50 := Nat.mod_lt _ (by omega)
    have key : ∀ r b, b + r = nb → wX2_countShown_4 Q (r + 1) M t (nI (cntN g b)) (nI b) := by
      intro r
      induction r with
      | zero =>
        intro b hb
        have : b = nb := by omega
        subst this
        rw [wX2_countShown_4, hn]
        have : nI b ≤ nI b := nI_le (Nat.le_refl _) (by omega)
        exact ⟨fun _ => hq, fun h => absurd this h⟩
      | succ r ih =>
        intro b hb
        rw [wX2_countShown_4, hn, hd]
        have h1 : ¬ nI nb ≤ nI b := nI_ge (by omega) (by omega)
        have h2 : ¬ nI d ≤ 0 := nI_nle (by omega) (by omega)
        simp only [h1, h2, not_false_eq_true, true_implies, false_implies, true_and]
        rw [latest_y hd (by omega) (by omega), ex_nI (show (d - 1) % 50 * 40 + b < 2000 by omega) (by omega)]
        obtain ⟨e1, e2⟩ := hg (by omega) b (by omega)
        rw [e2, nI_0i (by omega), nI_1, nI_1]
        have := ih (b + 1) (by omega)
        rw [cntN] at this
        by_cases hgb : g b = 0
        · simp only [hgb, not_true_eq_false, if_true, true_implies, false_implies, and_true] at this ⊢
          exact this
        · simp only [hgb, not_false_eq_true, if_false, true_implies, false_implies, true_and] at this ⊢
          exact this
    exact ⟨nb + 1, key nb 0 (by omega)⟩
theorem shownZ {M : sy_M} {nb d : Nat} {g : Nat → Nat} {Q : Int32 → sy_M → Prop} (hn : M 0 13 = nI nb) (hnb : nb ≤ 40) (hd : M 0 40 = nI d) (hd2 : d < 2 ^ 20) (hg : 0 < d → ∀ b, b < nb → g b ≤ 1 ∧ M 26 (41 * ((d - 1) % 51) + b) = nI (g b))
    (hq : Q (nI (if d = 0 then 0 else cntN g nb)) M) : wX12_shown M Q := by
  unfold wX12_shown
  by_cases h0 : d = 0
  · refine ⟨1, ?_⟩
    rw [wX12_shown_4, hd]
    subst h0
    have : nI 0 ≤ 0 := by decide
    simp only [this, true_implies, not_true_eq_false, false_implies, and_true]
    rw [if_pos rfl] at hq
    exact ⟨fun _ => hq, fun _ => hq⟩
  · rw [if_neg h0] at hq
    have m1 : (d - 1) % 51 < 51 := Nat.mod_lt _ (by omega)
    have key : ∀ r b, b + r = nb → wX12_shown_4 Q (r + 1) M (nI (cntN g b)) (nI b) := by
      intro r
      induction r with
      | zero =>
        intro b hb
        have : b = nb := by omega
        subst this
        rw [wX12_shown_4, hn]
        have : nI b ≤ nI b := nI_le (Nat.le_refl _) (by omega)
        exact ⟨fun _ => hq, fun h => absurd this h⟩
      | succ r ih =>
        intro b hb
        rw [wX12_shown_4, hn, hd]
        have h1 : ¬ nI nb ≤ nI b := nI_ge (by omega) (by omega)
        have h2 : ¬ nI d ≤ 0 := nI_nle (by omega) (by omega)
        simp only [h1, h2, not_false_eq_true, true_implies, false_implies, true_and]
        rw [nI_m1 (by omega), rowOf_y (by omega), nI_add, ex_nI (show 41 * ((d - 1) % 51) + b < 2091 by omega) (by omega)]
        obtain ⟨e1, e2⟩ := hg (by omega) b (by omega)
        rw [e2, nI_0i (by omega), nI_1, nI_1]
        have := ih (b + 1) (by omega)
        rw [cntN] at this
        by_cases hgb : g b = 0
        · simp only [hgb, not_true_eq_false, if_true, true_implies, false_implies, and_true] at this ⊢
          exact this
        · simp only [hgb, not_false_eq_true, if_false, true_implies, false_implies, true_and] at this ⊢
          exact this
    exact ⟨nb + 1, key nb 0 (by omega)⟩
theorem groupsZ {M : sy_M} {nb : Nat} {g : Nat → Nat} {Q : Int32 → sy_M → Prop} (hn : M 0 13 = nI nb) (hnb : nb ≤ 40) (hg : ∀ b, b < nb → M 3 b = b01 (g b))
    (hq : Q (nI (cntN g nb)) M) : wX12_groups M Q := by
  have key : ∀ r b, b + r = nb → wX12_groups_4 Q (r + 1) M (nI (cntN g b)) (nI b) := by
    intro r
    induction r with
    | zero =>
      intro b hb
      have : b = nb := by omega
      subst this
      rw [wX12_groups_4, hn]
      have : nI b ≤ nI b := nI_le (Nat.le_refl _) (by omega)
      exact ⟨fun _ => hq, fun h => absurd this h⟩
    | succ r ih =>
      intro b hb
      rw [wX12_groups_4, hn]
      have h1 : ¬ nI nb ≤ nI b := nI_ge (by omega) (by omega)
      simp only [h1, not_false_eq_true, true_implies, false_implies, true_and]
      rw [ex_nI (show b < 82 by omega) (by omega), hg b (by omega), b01_0, nI_1, nI_1]
      have := ih (b + 1) (by omega)
      rw [cntN] at this
      by_cases hgb : g b = 0
      · simp only [hgb, not_true_eq_false, if_true, true_implies, false_implies, and_true] at this ⊢
        exact this
      · simp only [hgb, not_false_eq_true, if_false, true_implies, false_implies, true_and] at this ⊢
        exact this
  exact ⟨nb + 1, key nb 0 (by omega)⟩
theorem fold_max {g r : Nat → Nat} {N : Nat} : ∀ b, (∀ i, i < b → g i ≠ 0 → r i ≤ N) → mxN g r b ≤ N
  | 0, _ => Nat.zero_le _
  | b + 1, h => by
    have h1 := fold_max (N := N) b (fun i hi => h i (by omega))
    rw [mxN]
    by_cases hg : g b = 0
    · rw [if_pos hg]
      exact h1
    · rw [if_neg hg]
      have := h b (by omega) hg
      omega
theorem worstX {M : sy_M} {t nb d : Nat} {g r : Nat → Nat} {Q : Int32 → sy_M → Prop} (hn : M t 0 = nI nb) (hnb : nb ≤ 40) (hd : M 9 0 = nI d) (hd2 : d < 2 ^ 20) (hg : ∀ b, b < nb → g b ≤ 4 ∧ M (t + 2) b = pm (g b)) (hr : 0 < d → ∀ b, b < nb → g b ≠ 0 → r b ≤ 3000000 ∧ M 19 b = nI (r b))
    (hq : Q (nI (if d = 0 then 0 else mxN g r nb)) M) : wX2_greatestWorst M t Q := by
  unfold wX2_greatestWorst
  by_cases h0 : d = 0
  · refine ⟨1, ?_⟩
    rw [wX2_greatestWorst_4, hd]
    subst h0
    have : nI 0 ≤ 0 := by decide
    simp only [this, true_implies, not_true_eq_false, false_implies, and_true]
    rw [if_pos rfl] at hq
    exact ⟨fun _ => hq, fun _ => hq⟩
  · rw [if_neg h0] at hq
    have key : ∀ q b, b + q = nb → wX2_greatestWorst_4 Q (q + 1) M t (nI (mxN g r b)) (nI b) := by
      intro q
      induction q with
      | zero =>
        intro b hb
        have : b = nb := by omega
        subst this
        rw [wX2_greatestWorst_4, hn]
        have : nI b ≤ nI b := nI_le (Nat.le_refl _) (by omega)
        exact ⟨fun _ => hq, fun h => absurd this h⟩
      | succ q ih =>
        intro b hb
        rw [wX2_greatestWorst_4, hn, hd]
        have h1 : ¬ nI nb ≤ nI b := nI_ge (by omega) (by omega)
        have h2 : ¬ nI d ≤ 0 := nI_nle (by omega) (by omega)
        obtain ⟨e1, e2⟩ := hg b (by omega)
        simp only [h1, h2, not_false_eq_true, true_implies, false_implies, true_and, isGroup_y hn (show b < nb by omega) hnb e2 e1, b01_0]
        have := ih (b + 1) (by omega)
        rw [mxN] at this
        have hm := fold_max (g := g) (r := r) (N := 3000000) b (fun i hi hgi => (hr (by omega) i (by omega) hgi).1)
        rw [nI_1]
        by_cases hgb : g b = 0
        · simp only [hgb, not_true_eq_false, if_true, true_implies, false_implies, and_true] at this ⊢
          exact this
        · obtain ⟨e3, e4⟩ := hr (by omega) b (by omega) hgb
          simp only [hgb, not_false_eq_true, if_false, true_implies, false_implies, true_and] at this ⊢
          rw [ex_nI (show b < 40 by omega) (by omega), e4, imax_nI (by omega) (by omega)]
          exact this
    exact ⟨nb + 1, key nb 0 (by omega)⟩
theorem worstZ {M : sy_M} {nb d : Nat} {g r : Nat → Nat} {Q : Int32 → sy_M → Prop} (hn : M 0 13 = nI nb) (hnb : nb ≤ 40) (hd : M 0 40 = nI d) (hd2 : d < 2 ^ 20) (hg : ∀ b, b < nb → M 3 b = b01 (g b)) (hr : 0 < d → ∀ b, b < nb → g b ≠ 0 → r b ≤ 3000000 ∧ M 33 b = nI (r b))
    (hq : Q (nI (if d = 0 then 0 else mxN g r nb)) M) : wX12_greatestWorst M Q := by
  unfold wX12_greatestWorst
  by_cases h0 : d = 0
  · refine ⟨1, ?_⟩
    rw [wX12_greatestWorst_4, hd]
    subst h0
    have : nI 0 ≤ 0 := by decide
    simp only [this, true_implies, not_true_eq_false, false_implies, and_true]
    rw [if_pos rfl] at hq
    exact ⟨fun _ => hq, fun _ => hq⟩
  · rw [if_neg h0] at hq
    have key : ∀ q b, b + q = nb → wX12_greatestWorst_4 Q (q + 1) M (nI (mxN g r b)) (nI b) := by
      intro q
      induction q with
      | zero =>
        intro b hb
        have : b = nb := by omega
        subst this
        rw [wX12_greatestWorst_4, hn]
        have : nI b ≤ nI b := nI_le (Nat.le_refl _) (by omega)
        exact ⟨fun _ => hq, fun h => absurd this h⟩
      | succ q ih =>
        intro b hb
        rw [wX12_greatestWorst_4, hn, hd]
        have h1 : ¬ nI nb ≤ nI b := nI_ge (by omega) (by omega)
        have h2 : ¬ nI d ≤ 0 := nI_nle (by omega) (by omega)
        simp only [h1, h2, not_false_eq_true, true_implies, false_implies, true_and]
        rw [ex_nI (show b < 82 by omega) (by omega), hg b (by omega), b01_0, nI_1]
        have := ih (b + 1) (by omega)
        rw [mxN] at this
        have hm := fold_max (g := g) (r := r) (N := 3000000) b (fun i hi hgi => (hr (by omega) i (by omega) hgi).1)
        by_cases hgb : g b = 0
        · simp only [hgb, not_true_eq_false, if_true, true_implies, false_implies, and_true] at this ⊢
          exact this
        · obtain ⟨e3, e4⟩ := hr (by omega) b (by omega) hgb
          simp only [hgb, not_false_eq_true, if_false, true_implies, false_implies, true_and] at this ⊢
          rw [e4, imax_nI (by omega) (by omega)]
          exact ⟨by omega, this⟩
    exact ⟨nb + 1, key nb 0 (by omega)⟩
theorem op_count {cn : Nat} {A B : sy_M} (hcn : cn < 2 ^ 20) (h : Rel cn A B) (a1 : Int32) {F : sy_M → sy_M → Prop} (hF : ∀ A' B', Rel cn A' B' → F A' B') : wX11_count A a1 (fun r A' => wX12_count B a1 (fun r' B' => r = r' ∧ F A' B')) := by
  have hz := hF _ _ (h.z0 (v := 0))
  obtain ⟨t, nb, nc, d, n, T, V, L, C, G, K, R, hQ, hw, hT, hL, hC, hd, hD, hP, hS⟩ := h
  obtain ⟨q1, q2, q3, q4⟩ := hQ.t
  have hnb := hw.1
  have hB13 : mu B 0 0 0 0 13 = nI nb := hT.2.1
  have hB40 : mu B 0 0 0 0 40 = nI d := hD.2.1
  have e1 : ∀ p, 2 ≤ p → ∀ i, mu B 0 0 0 p i = B p i := fun p hp i => mu_n1 _ _ _ _ (by omega)
  unfold wX11_count wX12_count
  simp only [ex_t q1 q2, hT.1, hT.2.1, hC.2.1, hC.2.2.1, hD.1, hD.2.1, hP.2.1, hP.2.2.1]
  rcases sw9 a1 with ⟨s0, s1, s2, s3, s4, s5, s6, s7, s8⟩ | ⟨s0, s1, s2, s3, s4, s5, s6, s7, s8⟩ | ⟨s0, s1, s2, s3, s4, s5, s6, s7, s8⟩ | ⟨s0, s1, s2, s3, s4, s5, s6, s7, s8⟩ | ⟨s0, s1, s2, s3, s4, s5, s6, s7, s8⟩ | ⟨s0, s1, s2, s3, s4, s5, s6, s7, s8⟩ | ⟨s0, s1, s2, s3, s4, s5, s6, s7, s8⟩ | ⟨s0, s1, s2, s3, s4, s5, s6, s7, s8⟩ | ⟨s0, s1, s2, s3, s4, s5, s6, s7, s8⟩ | ⟨s0, s1, s2, s3, s4, s5, s6, s7, s8⟩ <;> simp only [s0, s1, s2, s3, s4, s5, s6, s7, s8, true_implies, false_implies, not_true_eq_false, not_false_eq_true, and_true, true_and, i10, eq_self] <;> try exact hz
  · refine groupsZ (g := T 1) hB13 hnb (fun b hb => by rw [e1 3 (by omega)]; exact (hT.2.2.2 b hb).2.1.2.1) ⟨?_, hz⟩
    rw [hT.2.2.1, cnt_filter]
  · refine countShownX (g := G (d - 1) 0) hT.1 hnb hD.1 (by omega) (fun h0 b hb => ?_) ?_
    · obtain ⟨-, hg⟩ := hD.2.2.2.1 (d - 1) (by omega) (by omega)
      exact ⟨(hg b hb).1.1, (hg b hb).1.2.1⟩
    · refine shownZ (g := G (d - 1) 0) hB13 hnb hB40 (by omega) (fun h0 b hb => ?_) ⟨rfl, hz⟩
      obtain ⟨-, hg⟩ := hD.2.2.2.1 (d - 1) (by omega) (by omega)
      exact ⟨(hg b hb).1.1, by rw [e1 26 (by omega)]; exact (hg b hb).1.2.2⟩
  · refine worstX (g := T 1) (r := R 1) hT.1 hnb hD.1 (by omega) (fun b hb => ⟨(hw.2.2.2.1 b hb).1, (hT.2.2.2 b hb).2.1.1⟩) (fun h0 b hb hg => ⟨(hD.2.2.2.2 h0 b hb hg).2.1.1, (hD.2.2.2.2 h0 b hb hg).2.1.2.1⟩) ?_
    refine worstZ (g := T 1) (r := R 1) hB13 hnb hB40 (by omega) (fun b hb => by rw [e1 3 (by omega)]; exact (hT.2.2.2 b hb).2.1.2.1) (fun h0 b hb hg => ⟨(hD.2.2.2.2 h0 b hb hg).2.1.1, by rw [e1 33 (by omega)]; exact (hD.2.2.2.2 h0 b hb hg).2.1.2.2⟩) ⟨rfl, hz⟩
