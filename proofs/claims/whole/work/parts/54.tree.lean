/-! tree -/
def cpR (s : Nat → Nat → Nat) (M : sy_M) (c : Nat) : Prop :=
  M 2 c = pm (s 0 c) ∧ M 3 c = b01 (s 1 c) ∧ M 4 c = nI (s 2 c) ∧ M 5 c = nI (s 3 c) ∧ (s 1 c ≠ 0 → M 6 c = pm (s 1 c)) ∧ M 7 c = nI (s 6 c) ∧ M 8 c = nI (s 4 c) ∧ M 9 c = nI (s 5 c) ∧ (∀ k, k < s 5 c → M 10 (8 * c + k) = nI (s (10 + k) c)) ∧ M 14 c = 0 ∧ M 15 c = 0
theorem cpyZ {M : sy_M} {b : Nat} {K : sy_M → Int32 → Prop} {Q : Int32 → sy_M → Prop} (hb : b < 40)
    (hq : ∀ M', (∀ k, k < 8 → M' 10 (8 * b + k) = vp_nar .byte (M 10 (8 * (41 + b) + k))) → (∀ j, (j < 8 * b ∨ 8 * b + 8 ≤ j) → M' 10 j = M 10 j) → (∀ q, q ≠ 10 → M' q = M q) → K M' (nI b)) : ∃ m, wX12_tree_260 K Q m M (nI b) 0 := by
  have key : ∀ r j M1, j + r = 8 → (∀ k, k < j → M1 10 (8 * b + k) = vp_nar .byte (M 10 (8 * (41 + b) + k))) → (∀ i, (i < 8 * b ∨ 8 * b + 8 ≤ i) → M1 10 i = M 10 i) → (∀ q, q ≠ 10 → M1 q = M q) → wX12_tree_260 K Q (r + 1) M1 (nI b) (nI j) := by
    intro r
    induction r with
    | zero =>
      intro j M1 hj g1 g2 g3
      rw [wX12_tree_260, nI_leI (by omega) (by omega)]
      simp only [eq_true (show 8 ≤ j by omega), true_implies, not_true_eq_false, false_implies, and_true]
      exact hq M1 (fun k hk => g1 k (by omega)) g2 g3
    | succ r ih =>
      intro j M1 hj g1 g2 g3
      rw [wX12_tree_260, nI_leI (by omega) (by omega)]
      simp only [eq_false (show ¬ 8 ≤ j by omega), true_implies, not_false_eq_true, false_implies, true_and]
      rw [nI_add, pk_mul, pk_mul, nI_add, nI_add, ex_nI (by omega) (by omega), ex_nI (by omega) (by omega), nI_1, g2 _ (by omega)]
      refine ih (j + 1) _ (by omega) (fun k hk => ?_) (fun i hi => ?_) (fun q hq => ?_)
      · by_cases hkj : k = j
        · rw [hkj, mu_eq]
        · rw [mu_n2 _ _ _ _ (by omega)]; exact g1 k (by omega)
      · rw [mu_n2 _ _ _ _ (by omega)]; exact g2 i hi
      · rw [mu_oth hq]; exact g3 q hq
  exact ⟨_, key 8 0 M (by omega) (fun k hk => absurd hk (by omega)) (fun _ _ => rfl) (fun _ _ => rfl)⟩
theorem copyZ {M : sy_M} {nb : Nat} {s : Nat → Nat → Nat} {Q : Int32 → sy_M → Prop} (hw : wfA nb s) (h13 : M 0 13 = nI nb) (hb : ∀ b, b < nb → bxZ s M b)
    (hq : ∀ M', (∀ c, c < nb → cpR s M' c) → (∀ q, q = 0 ∨ q = 1 ∨ q = 11 ∨ q = 12 ∨ q = 13 ∨ 16 ≤ q → M' q = M q) → Q (nI nb) (mu (mu M' 0 24 0) 0 40 0)) : ∃ m, wX12_tree_110 Q m M 0 := by
  have hnb := hw.1
  have key : ∀ r b M1, b + r = nb → (∀ c, c < b → cpR s M1 c) → (∀ c, c < nb → bxZ s M1 c) → (∀ q, q = 0 ∨ q = 1 ∨ q = 11 ∨ q = 12 ∨ q = 13 ∨ 16 ≤ q → M1 q = M q) → wX12_tree_110 Q (r + 1) M1 (nI b) := by
    intro r
    induction r with
    | zero =>
      intro b M1 hj g1 g2 g3
      rw [wX12_tree_110, g3 0 (by omega), h13, nI_leI (by omega) (by omega)]
      simp only [eq_true (show nb ≤ b by omega), true_implies, not_true_eq_false, false_implies, and_true]
      exact hq M1 (fun c hc => g1 c (by omega)) g3
    | succ r ih =>
      intro b M1 hj g1 g2 g3
      have hbn : b < nb := by omega
      obtain ⟨a2, a3, a4, a5, a6, a7, a8, a9, a10⟩ := g2 b hbn
      obtain ⟨w1, w2, w3, w4, w5, w6, w7, w8, w9⟩ := hw.2.2.2.1 b hbn
      have hs0 : s 0 b ≤ 40 := by
        by_cases z : b = 0
        · rw [z, (hw.2.1 (by omega)).1]; omega
        · have := (hw.2.2.1 b hbn (by omega)).2.1; omega
      have main : wX12_tree_152 (fun (M29 : sy_M) (x2_30 : Int32) => wX12_tree_110 Q (r + 1) M29 x2_30) Q M1 (nI b) (nI b) (pm (s 0 b)) := by
        unfold wX12_tree_152
        rw [ex_nI (by omega) (by omega), nI_add, ex_nI (by omega) (by omega), ex_nI (by omega) (by omega), a3, a4, a5, a7, a8, a9]
        have n3 : vp_nar .boolean (b01 (s 1 b)) = b01 (s 1 b) := nar01 (by unfold b01; split; exact Or.inl rfl; exact Or.inr rfl)
        have n7 : vp_nar .boolean (nI (s 6 b)) = nI (s 6 b) := nar01 (by
          have : s 6 b = 0 ∨ s 6 b = 1 := by omega
          rcases this with z | z
          · left; rw [z]; rfl
          · right; rw [z]; rfl)
        rw [n3, n7]
        obtain ⟨M2, hM2⟩ : ∃ M2, M2 = mu (mu (mu (mu (mu (mu (mu (mu M1 2 b (pm (s 0 b))) 3 b (b01 (s 1 b))) 4 b (nI (s 2 b))) 5 b (nI (s 3 b))) 6 b (M1 6 (41 + b))) 7 b (nI (s 6 b))) 8 b (nI (s 4 b))) 9 b (nI (s 5 b)) := ⟨_, rfl⟩
        rw [← hM2]
        have m2 : M2 2 b = pm (s 0 b) := by
          rw [hM2, mu_n1 _ _ _ _ (by omega), mu_n1 _ _ _ _ (by omega), mu_n1 _ _ _ _ (by omega), mu_n1 _ _ _ _ (by omega), mu_n1 _ _ _ _ (by omega), mu_n1 _ _ _ _ (by omega), mu_n1 _ _ _ _ (by omega), mu_eq]
        have m3 : M2 3 b = b01 (s 1 b) := by
          rw [hM2, mu_n1 _ _ _ _ (by omega), mu_n1 _ _ _ _ (by omega), mu_n1 _ _ _ _ (by omega), mu_n1 _ _ _ _ (by omega), mu_n1 _ _ _ _ (by omega), mu_n1 _ _ _ _ (by omega), mu_eq]
        have m4 : M2 4 b = nI (s 2 b) := by
          rw [hM2, mu_n1 _ _ _ _ (by omega), mu_n1 _ _ _ _ (by omega), mu_n1 _ _ _ _ (by omega), mu_n1 _ _ _ _ (by omega), mu_n1 _ _ _ _ (by omega), mu_eq]
        have m5 : M2 5 b = nI (s 3 b) := by
          rw [hM2, mu_n1 _ _ _ _ (by omega), mu_n1 _ _ _ _ (by omega), mu_n1 _ _ _ _ (by omega), mu_n1 _ _ _ _ (by omega), mu_eq]
        have m6 : M2 6 b = M1 6 (41 + b) := by
          rw [hM2, mu_n1 _ _ _ _ (by omega), mu_n1 _ _ _ _ (by omega), mu_n1 _ _ _ _ (by omega), mu_eq]
        have m7 : M2 7 b = nI (s 6 b) := by
          rw [hM2, mu_n1 _ _ _ _ (by omega), mu_n1 _ _ _ _ (by omega), mu_eq]
        have m8 : M2 8 b = nI (s 4 b) := by
          rw [hM2, mu_n1 _ _ _ _ (by omega), mu_eq]
        have m9 : M2 9 b = nI (s 5 b) := by
          rw [hM2, mu_eq]
        have mo : ∀ q c, c ≠ b → M2 q c = M1 q c := fun q c hc => by
          rw [hM2, mu_n2 _ _ _ _ hc, mu_n2 _ _ _ _ hc, mu_n2 _ _ _ _ hc, mu_n2 _ _ _ _ hc, mu_n2 _ _ _ _ hc, mu_n2 _ _ _ _ hc, mu_n2 _ _ _ _ hc, mu_n2 _ _ _ _ hc]
        have mq : ∀ q, q < 2 ∨ 10 ≤ q → M2 q = M1 q := fun q hq => by
          rw [hM2, mu_oth (by omega), mu_oth (by omega), mu_oth (by omega), mu_oth (by omega), mu_oth (by omega), mu_oth (by omega), mu_oth (by omega), mu_oth (by omega)]
        clear hM2
        refine cpyZ (by omega) (fun M3 e1 e2 e3 => ?_)
        rw [ex_nI (by omega) (by omega), nar01 (Or.inl rfl), nI_1]
        have o3 : ∀ q c, q ≠ 10 → c ≠ b → mu (mu M3 14 b 0) 15 b 0 q c = M1 q c := fun q c hq hc => by
          rw [mu_n2 _ _ _ _ hc, mu_n2 _ _ _ _ hc, e3 q hq, mo q c hc]
        have o2 : ∀ q, q ≠ 14 → q ≠ 15 → ∀ c, mu (mu M3 14 b 0) 15 b 0 q c = M3 q c := fun q h1 h2 c => by
          rw [mu_n1 _ _ _ _ h2, mu_n1 _ _ _ _ h1]
        have o10 : ∀ j, (j < 8 * b ∨ 8 * b + 8 ≤ j) → mu (mu M3 14 b 0) 15 b 0 10 j = M1 10 j := fun j hj => by
          rw [o2 10 (by omega) (by omega), e2 j hj, mq 10 (by omega)]
        refine ih (b + 1) _ (by omega) (fun c hc => ?_) (fun c hc => ?_) (fun q hq => ?_)
        · by_cases hcb : c = b
          · subst hcb
            unfold cpR
            rw [o2 2 (by omega) (by omega), o2 3 (by omega) (by omega), o2 4 (by omega) (by omega), o2 5 (by omega) (by omega), o2 6 (by omega) (by omega), o2 7 (by omega) (by omega), o2 8 (by omega) (by omega), o2 9 (by omega) (by omega), e3 2 (by omega), e3 3 (by omega), e3 4 (by omega), e3 5 (by omega), e3 6 (by omega), e3 7 (by omega), e3 8 (by omega), e3 9 (by omega), mu_n1 _ _ _ _ (show (14 : Nat) ≠ 15 by omega), mu_eq, mu_eq]
            refine ⟨m2, m3, m4, m5, fun z => by rw [m6]; exact a6 z, m7, m8, m9, fun k hk => ?_, rfl, rfl⟩
            have := w9 k hk
            rw [o2 10 (by omega) (by omega), e1 k (by omega), mq 10 (by omega), a10 k hk, (narb _ (by omega)).2]
          · obtain ⟨b2, b3, b4, b5, b6, b7, b8, b9, b10, b14, b15⟩ := g1 c (by omega)
            have h8 := (hw.2.2.2.1 c (by omega)).2.2.2.2.1
            unfold cpR
            rw [o3 2 c (by omega) hcb, o3 3 c (by omega) hcb, o3 4 c (by omega) hcb, o3 5 c (by omega) hcb, o3 6 c (by omega) hcb, o3 7 c (by omega) hcb, o3 8 c (by omega) hcb, o3 9 c (by omega) hcb, o3 14 c (by omega) hcb, o3 15 c (by omega) hcb]
            exact ⟨b2, b3, b4, b5, b6, b7, b8, b9, fun k hk => by rw [o10 _ (by omega)]; exact b10 k hk, b14, b15⟩
        · have h8 := (hw.2.2.2.1 c hc).2.2.2.2.1
          obtain ⟨b2, b3, b4, b5, b6, b7, b8, b9, b10⟩ := g2 c hc
          unfold bxZ
          rw [o3 2 _ (by omega) (by omega), o3 3 _ (by omega) (by omega), o3 4 _ (by omega) (by omega), o3 5 _ (by omega) (by omega), o3 6 _ (by omega) (by omega), o3 7 _ (by omega) (by omega), o3 8 _ (by omega) (by omega), o3 9 _ (by omega) (by omega)]
          exact ⟨b2, b3, b4, b5, b6, b7, b8, b9, fun k hk => by rw [o10 _ (by omega)]; exact b10 k hk⟩
        · rw [mu_oth (by omega), mu_oth (by omega), e3 q (by omega), mq q (by omega)]
          exact g3 q hq
      rw [wX12_tree_110, g3 0 (by omega), h13, nI_leI (by omega) (by omega)]
      simp only [eq_false (show ¬ nb ≤ b by omega), true_implies, not_false_eq_true, false_implies, true_and]
      rw [nI_add, ex_nI (by omega) (by omega), a2]
      by_cases hz : s 0 b = 0
      · rw [if_pos hz]
        simp only [true_implies, not_true_eq_false, false_implies, true_and]
        rw [hz, pm_0] at main
        exact main
      · rw [if_neg hz]
        have hne : ¬ nI (40 + s 0 b) = -1 := nI_ne_m1 (by omega)
        simp only [eq_false hne, true_implies, not_false_eq_true, false_implies, and_true]
        rw [pk_sub (by omega), show 40 + s 0 b - 41 = s 0 b - 1 by omega]
        rw [show s 0 b = (s 0 b - 1) + 1 by omega, pm_s] at main
        exact main
  exact ⟨_, key nb 0 M (by omega) (fun c hc => absurd hc (by omega)) hb (fun _ _ => rfl)⟩
theorem treeZ {B : sy_M} {n : Nat} {bt : Nat → Nat} {Q : Int32 → sy_M → Prop} (tp0 : tpZ n bt B)
    (hq : ∀ j s' M', itT bt n j s00 4 s' → wfS n s' → s' 20 1 = 5 → (∀ c, c < s' 20 3 → cpR s' M' c) → M' 0 5 = 0 → M' 0 12 = -1 → M' 0 13 = nI (s' 20 3) → M' 0 24 = 0 → M' 0 40 = 0 → (∀ k, 1 ≤ k → k ≤ 3 → M' 0 k = B 0 k) → Q (nI (s' 20 3)) M')
    (hx : ∀ j s' c M', itT bt n j s00 c s' → 1 ≤ c → c ≤ 3 → fpZ B M' → Q (-2 - nI c) (mu (mu M' 0 5 0) 0 12 (nI (tfT bt n (s' 20 0))))) : wX12_tree B Q := by
  have ill61 : ∀ j s' c M', itT bt n j s00 c s' → 1 ≤ c → c ≤ 3 → erZ B (tfT bt n (s' 20 0)) c M' → wX12_tree_61 Q M' := by
    intro j s' c M' h1 h2 h3 h4
    unfold wX12_tree_61 wX12_isWell
    dsimp only
    have e10 : mu M' 0 5 0 0 10 = nI c := by rw [mu_n2 _ _ _ _ (by omega)]; exact h4.2.1
    have e11 : mu M' 0 5 0 0 11 = nI (tfT bt n (s' 20 0)) := by rw [mu_n2 _ _ _ _ (by omega)]; exact h4.2.2
    rw [e10, e11, nI_0i (by omega)]
    simp only [eq_false (show ¬ c = 0 by omega), true_implies, not_false_eq_true, false_implies, and_true]
    unfold wX12_tree_82 wX12_isWell
    dsimp only
    rw [mu_n2 _ _ _ _ (show (10 : Nat) ≠ 12 by omega), e10, nI_0i (by omega)]
    simp only [eq_false (show ¬ c = 0 by omega), true_implies, not_false_eq_true, not_true_eq_false, false_implies, and_true, true_and]
    exact hx j s' c M' h1 h2 h3 h4.1
  have ill42 : ∀ j s' c M', itT bt n j s00 c s' → 1 ≤ c → c ≤ 3 → erZ B (tfT bt n (s' 20 0)) c M' → wX12_tree_42 Q M' := by
    intro j s' c M' h1 h2 h3 h4
    unfold wX12_tree_42
    refine illZ h4 h2 h3 ?_
    simp only [true_implies, not_true_eq_false, false_implies, and_true]
    exact ill61 j s' c M' h1 h2 h3 h4
  unfold wX12_tree
  have hm0 : mZ B s00 (mu (mu (mu (mu B 0 0 0) 0 10 0) 0 14 0) 0 6 0) := by
    refine ⟨⟨fun q c h1 h2 _ => ?_, fun c _ => ?_, ?_, fun q hq => ?_, fun k h1 h2 h3 h4 h5 h6 h7 h8 => ?_⟩, ?_, ?_, fun b hb => absurd hb (Nat.not_lt_zero b)⟩
    · rw [mu_n1 _ _ _ _ (by omega), mu_n1 _ _ _ _ (by omega), mu_n1 _ _ _ _ (by omega), mu_n1 _ _ _ _ (by omega)]
    · rw [mu_n1 _ _ _ _ (by omega), mu_n1 _ _ _ _ (by omega), mu_n1 _ _ _ _ (by omega), mu_n1 _ _ _ _ (by omega)]
    · rw [mu_oth (by omega), mu_oth (by omega), mu_oth (by omega), mu_oth (by omega)]
    · rw [mu_oth (by omega), mu_oth (by omega), mu_oth (by omega), mu_oth (by omega)]
    · rw [mu_n2 _ _ _ _ h2, mu_n2 _ _ _ _ h8, mu_n2 _ _ _ _ h6, mu_n2 _ _ _ _ h1]
    · rw [mu_n2 _ _ _ _ (by omega), mu_n2 _ _ _ _ (by omega), mu_eq]
    · rw [mu_n2 _ _ _ _ (by omega), mu_eq]; rfl
  refine stepZ tp0 hm0 (mu_eq _ _ _ _) (Nat.zero_le _) (fun M1 hm1 hk1 => ?_)
  have e : (-1 : Int32) = (if s00 20 2 = 0 then -1 else nI (40 + s00 20 2)) := rfl
  rw [e]
  refine newBoxZ tp0 (wfS_0 n) hm1 rfl hk1 rfl (fun M2 hst hm2 hk2 => ?_) (fun M2 c c1 c3 hst he => ?_)
  · refine wellZ hm2 ?_
    simp only [i10, true_implies, not_false_eq_true, false_implies, true_and]
    have hws := (wfS_step (wfS_0 n) hst).1
    obtain ⟨v0, v1, v2, v3, vo⟩ := sN_v bt n (tfT bt n (s00 20 0)) s00
    generalize sN bt n (tfT bt n (s00 20 0)) s00 = s1 at *
    have v3' : s1 20 3 = 1 := v3
    have v2' : s1 20 2 = 0 := v2
    have hgs := GS_all tp0 8 M2 s1 (fun M36 => wX12_tree_42 Q M36) hws hm2 hk2 v1 (Or.inr v2') (by omega)
    rw [show 40 + s1 20 3 = 41 + s00 20 3 by rw [v3]; omega] at hgs
    refine hgs (fun M' s' j a1 a2 a3 a4 a5 a6 a7 a8 => ?_) (fun M' s' j c a1 a2 a3 a4 => ?_)
    · rw [if_pos v2'] at a5
      have hit := itT_app 1 s00 (itT_one hst) a1
      have := sr_le bt n (tfT bt n (s' 20 0))
      unfold wX12_tree_42
      refine wellZ a3 ?_
      rw [a4.2.2.1, nI_0i (by omega)]
      simp only [i10, true_implies, not_false_eq_true, false_implies, true_and]
      by_cases h0 : srT bt n (tfT bt n (s' 20 0)) = 0
      · simp only [eq_true h0, true_implies, not_true_eq_false, false_implies, and_true]
        have hit4 := itT_app _ s00 hit (itT_one (st5e (s := s') rfl a5 (sr0.mp h0)))
        unfold wX12_tree_61 wX12_isWell
        dsimp only
        have e10 : mu M' 0 5 0 0 10 = 0 := by rw [mu_n2 _ _ _ _ (by omega)]; exact a3.2.1
        rw [e10]
        simp only [i10, true_implies, not_true_eq_false, not_false_eq_true, false_implies, true_and]
        unfold wX12_tree_82 wX12_isWell
        dsimp only
        rw [mu_n2 _ _ _ _ (show (10 : Nat) ≠ 12 by omega), e10]
        simp only [i10, true_implies, not_true_eq_false, not_false_eq_true, false_implies, true_and, and_true]
        have e14 : mu (mu M' 0 5 0) 0 12 (-1) 0 14 = nI (s' 20 3) := by
          rw [mu_n2 _ _ _ _ (by omega), mu_n2 _ _ _ _ (by omega)]; exact a3.2.2.1
        rw [e14]
        refine copyZ (s := s') a2.1 (mu_eq _ _ _ _) (fun b hb => ?_) (fun M3 g1 g2 => ?_)
        · unfold bxZ
          rw [mu_oth (show (2 : Nat) ≠ 0 by omega), mu_oth (show (2 : Nat) ≠ 0 by omega), mu_oth (show (2 : Nat) ≠ 0 by omega), mu_oth (show (3 : Nat) ≠ 0 by omega), mu_oth (show (3 : Nat) ≠ 0 by omega), mu_oth (show (3 : Nat) ≠ 0 by omega), mu_oth (show (4 : Nat) ≠ 0 by omega), mu_oth (show (4 : Nat) ≠ 0 by omega), mu_oth (show (4 : Nat) ≠ 0 by omega), mu_oth (show (5 : Nat) ≠ 0 by omega), mu_oth (show (5 : Nat) ≠ 0 by omega), mu_oth (show (5 : Nat) ≠ 0 by omega), mu_oth (show (6 : Nat) ≠ 0 by omega), mu_oth (show (6 : Nat) ≠ 0 by omega), mu_oth (show (6 : Nat) ≠ 0 by omega)]
          rw [mu_oth (show (7 : Nat) ≠ 0 by omega), mu_oth (show (7 : Nat) ≠ 0 by omega), mu_oth (show (7 : Nat) ≠ 0 by omega), mu_oth (show (8 : Nat) ≠ 0 by omega), mu_oth (show (8 : Nat) ≠ 0 by omega), mu_oth (show (8 : Nat) ≠ 0 by omega), mu_oth (show (9 : Nat) ≠ 0 by omega), mu_oth (show (9 : Nat) ≠ 0 by omega), mu_oth (show (9 : Nat) ≠ 0 by omega), mu_oth (show (10 : Nat) ≠ 0 by omega), mu_oth (show (10 : Nat) ≠ 0 by omega), mu_oth (show (10 : Nat) ≠ 0 by omega)]
          exact a3.2.2.2 b hb
        · have z : ∀ q, q ≠ 0 → mu (mu M3 0 24 0) 0 40 0 q = M3 q := fun q hq => by rw [mu_oth hq, mu_oth hq]
          refine hq _ s' _ hit4 a2 a5 (fun c hc => ?_) ?_ ?_ ?_ ?_ (mu_eq _ _ _ _) (fun k k1 k3 => ?_)
          · unfold cpR
            rw [z 2 (by omega), z 3 (by omega), z 4 (by omega), z 5 (by omega), z 6 (by omega), z 7 (by omega), z 8 (by omega), z 9 (by omega), z 10 (by omega), z 14 (by omega), z 15 (by omega)]
            exact g1 c hc
          · rw [mu_n2 _ _ _ _ (by omega), mu_n2 _ _ _ _ (by omega), g2 0 (by omega), mu_n2 _ _ _ _ (by omega), mu_n2 _ _ _ _ (by omega), mu_eq]
          · rw [mu_n2 _ _ _ _ (by omega), mu_n2 _ _ _ _ (by omega), g2 0 (by omega), mu_n2 _ _ _ _ (by omega), mu_eq]
          · rw [mu_n2 _ _ _ _ (by omega), mu_n2 _ _ _ _ (by omega), g2 0 (by omega), mu_eq]
          · rw [mu_n2 _ _ _ _ (by omega), mu_eq]
          · rw [mu_n2 _ _ _ _ (by omega), mu_n2 _ _ _ _ (by omega), g2 0 (by omega), mu_n2 _ _ _ _ (by omega), mu_n2 _ _ _ _ (by omega), mu_n2 _ _ _ _ (by omega)]
            exact a3.1.2.2.2.2 k (by omega) (by omega) (by omega) (by omega) (by omega) (by omega) (by omega) (by omega)
      · simp only [eq_false h0, true_implies, not_false_eq_true, false_implies, true_and]
        refine failsZ (c := 1) a3 a4.1 (fun M3 he => ?_)
        exact ill61 _ s' 1 M3 (itT_app _ s00 hit (itT_one (st5n (s := s') rfl a5 (fun z => h0 (sr0.mpr z))))) (by omega) (by omega) he
    · exact ill42 _ s' c M' (itT_app 1 s00 (itT_one hst) a1) a2 a3 a4
  · refine illZ he c1 c3 ?_
    simp only [true_implies, not_true_eq_false, false_implies, and_true]
    exact ill42 1 s00 c M2 (itT_one hst) c1 c3 he
