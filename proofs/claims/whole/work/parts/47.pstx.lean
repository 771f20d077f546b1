/-! the class's reader, token by token -/
def bxX (t : Nat) (s : Nat → Nat → Nat) (M : sy_M) (b : Nat) : Prop :=
  M (t + 1) b = pm (s 0 b) ∧ M (t + 2) b = pm (s 1 b) ∧ M (t + 3) b = nI (s 2 b) ∧ M (t + 4) b = nI (s 3 b) ∧ M (t + 5) b = nI (s 4 b) ∧ M (t + 6) b = nI (s 5 b) ∧ M (t + 7) b = nI (s 6 b) ∧ M (t + 8) b = 0 ∧ M (t + 9) b = 0 ∧ ∀ k, k < s 5 b → M (t + 10) (8 * b + k) = nI (s (10 + k) b)
def mX (t : Nat) (s : Nat → Nat → Nat) (M : sy_M) : Prop :=
  M t 0 = nI (s 20 3) ∧ M t 1 = nI (smN (fun c => decide (s 1 c ≠ 0)) 0 (s 20 3)) ∧ True ∧ M 3 2 = nI t ∧ M 3 3 = nI (s 20 1) ∧ M 3 4 = pm (s 20 2) ∧ ∀ b, b < s 20 3 → bxX t s M b
def ldX (bt : Nat → Nat) (n : Nat) (s : Nat → Nat → Nat) (M : sy_M) : Prop :=
  M 3 5 = pm (kcT bt n (tfT bt n (s 20 0))) ∧ M 3 6 = nI (tfT bt n (s 20 0)) ∧ M 3 7 = nI (ttT bt n (tfT bt n (s 20 0)))
def fpX (t : Nat) (M M' : sy_M) : Prop := ∀ q, q ≠ 3 → ¬ (t ≤ q ∧ q ≤ t + 10) → M' q = M q
theorem fpX.tr {t : Nat} {M M' M'' : sy_M} (h : fpX t M M') (h2 : fpX t M' M'') : fpX t M M'' := fun q a b => (h2 q a b).trans (h q a b)
theorem kc_le {bt : Nat → Nat} {n f : Nat} (hb : ∀ i, i < n → bt i < 256) : kcT bt n f ≤ 256 := by
  unfold kcT
  split
  · next h => have := kN_lt (hb f h); omega
  · omega
theorem tt_le {bt : Nat → Nat} {n f : Nat} (h : f ≤ n) : f < ttT bt n f ∧ ttT bt n f ≤ n + 1 := by
  by_cases z : f < n
  · have := ttT_b bt z; omega
  · unfold ttT; rw [if_neg (by omega)]; omega
theorem isWordX {M : sy_M} {n w f : Nat} {bt : Nat → Nat} {Q : Int32 → sy_M → Prop} (h : tpX n bt M) (hw : w < 5) (hf : f ≤ n) (h5 : M 3 5 = pm (kcT bt n f)) (h6 : M 3 6 = nI f) (h7 : M 3 7 = nI (ttT bt n f))
    (hq : Q (if wdB bt n w f = true then 1 else 0) M) : wX6_isWord M w Q := by
  have hn := h.1
  have hkc := kc_le (bt := bt) (n := n) (f := f) (fun i hi => (h.2.2 i hi).1)
  have htt := tt_le (bt := bt) hf
  obtain ⟨l6, l1⟩ := sy_len6 w hw
  unfold wX6_isWord
  rw [h5, pm_nI (by omega) (by omega)]
  by_cases hk : kcT bt n f = 98
  · simp only [eq_true hk, true_implies, not_true_eq_false, false_implies, true_and]
    obtain ⟨hfn, hk'⟩ := kc_kN hk
    have htb := ttT_b bt hfn
    unfold wX9_says
    rw [h6, h7, pk_sub (by omega), nI_eq (by omega) (by omega)]
    by_cases hl : ttT bt n f - f = sy_len.getD w 0
    · simp only [eq_true hl, true_implies, not_true_eq_false, false_implies, and_true]
      refine ⟨sy_len.getD w 0 + 1, ?_⟩
      have key : ∀ r j, j + r = sy_len.getD w 0 → (∀ k, k < j → bt (f + k) = wcN w k) → wX9_says_15 (fun r4 M3 => ((r4 = 0 → Q (0 : Int32) M3) ∧ (¬ r4 = 0 → Q (1 : Int32) M3))) (r + 1) M w (nI f) (nI j) := by
        intro r
        induction r with
        | zero =>
          intro j hj hp
          rw [wX9_says_15, nI_leI (by omega) (by omega)]
          simp only [eq_true (show sy_len.getD w 0 ≤ j by omega), true_implies, not_true_eq_false, false_implies, and_true, i10, not_false_eq_true, true_and]
          have e : wdB bt n w f = true := by
            unfold wdB
            rw [decide_eq_true hk, decide_eq_true hl, decide_eq_true (fun k hk => hp k (by omega))]
            rfl
          rw [if_pos e] at hq
          exact hq
        | succ r ih =>
          intro j hj hp
          rw [wX9_says_15, nI_leI (by omega) (by omega)]
          simp only [eq_false (show ¬ sy_len.getD w 0 ≤ j by omega), true_implies, not_false_eq_true, false_implies, true_and]
          rw [nI_add, byX h (by omega), if_pos (by omega), ex_nI (by omega) (by omega)]
          obtain ⟨e1, e2⟩ := wcN_c w hw j (by omega)
          have hb := (h.2.2 (f + j) (by omega)).1
          rw [e1, nI_eq (by omega) (by omega)]
          by_cases he : bt (f + j) = wcN w j
          · simp only [eq_true he, true_implies, not_true_eq_false, false_implies, and_true]
            rw [nI_1]
            refine ih (j + 1) (by omega) (fun k hk => ?_)
            by_cases hkj : k = j
            · rw [hkj]; exact he
            · exact hp k (by omega)
          · simp only [eq_false he, true_implies, not_true_eq_false, not_false_eq_true, false_implies, and_true, true_and]
            have e : ¬ wdB bt n w f = true := by
              unfold wdB
              rw [Bool.and_eq_true, Bool.and_eq_true]
              intro z
              exact he (of_decide_eq_true z.2.2 j (by omega))
            rw [if_neg e] at hq
            exact hq
      exact key (sy_len.getD w 0) 0 (by omega) (fun k hk => absurd hk (by omega))
    · simp only [eq_false hl, true_implies, not_true_eq_false, not_false_eq_true, false_implies, and_true, true_and]
      have e : ¬ wdB bt n w f = true := by
        unfold wdB
        rw [Bool.and_eq_true, Bool.and_eq_true]
        intro z
        exact hl (of_decide_eq_true z.2.1)
      rw [if_neg e] at hq
      exact hq
  · simp only [eq_false hk, true_implies, not_false_eq_true, false_implies, and_true]
    have e : ¬ wdB bt n w f = true := fun z => hk (wdB_kc z)
    rw [if_neg e] at hq
    exact hq
theorem howX {M : sy_M} {n f : Nat} {bt : Nat → Nat} {Q : Int32 → sy_M → Prop} (h : tpX n bt M) (hf : f ≤ n) (h5 : M 3 5 = pm (kcT bt n f)) (h6 : M 3 6 = nI f) (h7 : M 3 7 = nI (ttT bt n f))
    (hq : Q (pm (hwT bt n f)) M) : wX6_howOfWord M Q := by
  unfold hwT at hq
  unfold wX6_howOfWord
  refine isWordX h (by omega) hf h5 h6 h7 ?_
  by_cases e1 : wdB bt n 1 f = true
  · rw [if_pos e1] at hq ⊢
    simp only [i10, true_implies, not_false_eq_true, false_implies, and_true, true_and]
    exact hq
  · rw [if_neg e1] at hq ⊢
    simp only [true_implies, not_true_eq_false, false_implies, and_true, true_and]
    refine isWordX h (by omega) hf h5 h6 h7 ?_
    by_cases e2 : wdB bt n 2 f = true
    · rw [if_pos e2] at hq ⊢
      simp only [i10, true_implies, not_false_eq_true, false_implies, and_true, true_and]
      exact hq
    · rw [if_neg e2] at hq ⊢
      simp only [true_implies, not_true_eq_false, false_implies, and_true, true_and]
      refine isWordX h (by omega) hf h5 h6 h7 ?_
      by_cases e3 : wdB bt n 3 f = true
      · rw [if_pos e3] at hq ⊢
        simp only [i10, true_implies, not_false_eq_true, false_implies, and_true, true_and]
        exact hq
      · rw [if_neg e3] at hq ⊢
        simp only [true_implies, not_true_eq_false, false_implies, and_true, true_and]
        refine isWordX h (by omega) hf h5 h6 h7 ?_
        by_cases e4 : wdB bt n 4 f = true
        · rw [if_pos e4] at hq ⊢
          simp only [i10, true_implies, not_false_eq_true, false_implies, and_true, true_and]
          exact hq
        · rw [if_neg e4] at hq ⊢
          simp only [true_implies, not_true_eq_false, false_implies, and_true, true_and]
          exact hq
theorem narb : ∀ c, c < 128 → vp_nar .byte ((nI c).toInt8.toInt32) = nI c ∧ vp_nar .byte (nI c) = nI c := by decide +kernel
/-- a box more -/
theorem adbX {M : sy_M} {t n f nb wi : Nat} {bt : Nat → Nat} {Q : sy_M → Prop} (ht : t = 60 ∨ t = 71) (h : tpX n bt M) (hf : f < n) (hl8 : ttT bt n f - f ≤ 8) (hlt : ∀ k, k < ttT bt n f - f → bt (f + k) < 128) (h0 : M t 0 = nI nb) (hnb : nb < 40) (hwi : wi ≤ nb)
    (hq : ∀ M', M' t 0 = nI (nb + 1) → M' t 1 = M t 1 → M' (t + 1) nb = pm wi → M' (t + 2) nb = -1 → M' (t + 3) nb = 0 → (wi = 0 → M' (t + 4) nb = 0) → (wi ≠ 0 → M' (t + 4) nb = M (t + 4) (wi - 1) + 1) → M' (t + 5) nb = 0 → M' (t + 6) nb = nI (ttT bt n f - f) → M' (t + 7) nb = 0 → M' (t + 8) nb = 0 → M' (t + 9) nb = 0 →
      (∀ k, k < ttT bt n f - f → M' (t + 10) (8 * nb + k) = nI (bt (f + k))) → (∀ j, j < 8 * nb → M' (t + 10) j = M (t + 10) j) → (∀ i c, 1 ≤ i → i ≤ 9 → c < nb → (i ≠ 3 ∨ c + 1 ≠ wi) → M' (t + i) c = M (t + i) c) → (wi ≠ 0 → M' (t + 3) (wi - 1) = M (t + 3) (wi - 1) + 1) → (∀ q, ¬ (t ≤ q ∧ q ≤ t + 10) → M' q = M q) → Q M') :
    wX10_addBox M t (pm wi) (nI f) (nI (ttT bt n f)) Q := by
  have hn := h.1
  have htb := ttT_b bt hf
  have loop : ∀ (M0 : sy_M), tpX n bt M0 → M0 (t + 6) nb = nI (ttT bt n f - f) → (∀ M', (∀ k, k < ttT bt n f - f → M' (t + 10) (8 * nb + k) = nI (bt (f + k))) → (∀ j, j < 8 * nb → M' (t + 10) j = M0 (t + 10) j) → (∀ q, q ≠ t + 10 → M' q = M0 q) → Q M') →
      wX10_addBox_142 Q (ttT bt n f - f + 1) M0 t (nI f) (nI nb) (nI 0) := by
    intro M0 hp0 e6 hq0
    have key : ∀ r j M1, j + r = ttT bt n f - f → (∀ k, k < j → M1 (t + 10) (8 * nb + k) = nI (bt (f + k))) → (∀ i, i < 8 * nb → M1 (t + 10) i = M0 (t + 10) i) → (∀ q, q ≠ t + 10 → M1 q = M0 q) → wX10_addBox_142 Q (r + 1) M1 t (nI f) (nI nb) (nI j) := by
      intro r
      induction r with
      | zero =>
        intro j M1 hj g1 g2 g3
        rw [wX10_addBox_142, ex_nI (by omega) (by omega), g3 (t + 6) (by omega), e6, nI_leI (by omega) (by omega)]
        simp only [eq_true (show ttT bt n f - f ≤ j by omega), true_implies, not_true_eq_false, false_implies, and_true]
        exact hq0 M1 (fun k hk => g1 k (by omega)) g2 g3
      | succ r ih =>
        intro j M1 hj g1 g2 g3
        have hp1 : tpX n bt M1 := hp0.cg (g3 1 (by omega)) (g3 2 (by omega))
        rw [wX10_addBox_142, ex_nI (by omega) (by omega), g3 (t + 6) (by omega), e6, nI_leI (by omega) (by omega)]
        simp only [eq_false (show ¬ ttT bt n f - f ≤ j by omega), true_implies, not_false_eq_true, false_implies, true_and]
        rw [nI_add, byX hp1 (by omega), if_pos (by omega), pk_mul, nI_add, ex_nI (by omega) (by omega), (narb _ (hlt j (by omega))).1, nI_1, Nat.mul_comm nb 8]
        refine ih (j + 1) _ (by omega) (fun k hk => ?_) (fun i hi => ?_) (fun q hq => ?_)
        · by_cases hkj : k = j
          · rw [hkj, mu_eq]
          · rw [mu_n2 _ _ _ _ (by omega)]; exact g1 k (by omega)
        · rw [mu_n2 _ _ _ _ (by omega)]; exact g2 i hi
        · rw [mu_oth hq]; exact g3 q hq
    exact key _ 0 M0 (by omega) (fun k hk => absurd hk (by omega)) (fun _ _ => rfl) (fun _ _ => rfl)
  unfold wX10_addBox
  rw [h0, nI_ltI (by omega) (by omega)]
  simp only [eq_true hnb, true_implies, not_true_eq_false, false_implies, and_true]
  rw [ex_nI (by omega) (by omega), nI_1]
  obtain ⟨M1, hM1⟩ : ∃ M1, M1 = mu (mu (mu (mu (mu (mu (mu (mu (mu M t 0 (nI (nb + 1))) (t + 1) nb (pm wi)) (t + 2) nb (-1 : Int32)) (t + 3) nb (0 : Int32)) (t + 4) nb (0 : Int32)) (t + 5) nb (0 : Int32)) (t + 7) nb (vp_nar .boolean (0 : Int32))) (t + 8) nb (0 : Int32)) (t + 9) nb (vp_nar .boolean (0 : Int32)) := ⟨_, rfl⟩
  rw [nar01 (Or.inl rfl)] at hM1 ⊢
  rw [← hM1]
  have a0 : M1 t 0 = nI (nb + 1) := by
    rw [hM1, mu_n1 _ _ _ _ (by omega), mu_n1 _ _ _ _ (by omega), mu_n1 _ _ _ _ (by omega), mu_n1 _ _ _ _ (by omega), mu_n1 _ _ _ _ (by omega), mu_n1 _ _ _ _ (by omega), mu_n1 _ _ _ _ (by omega), mu_n1 _ _ _ _ (by omega), mu_eq]
  have a01 : M1 t 1 = M t 1 := by
    rw [hM1, mu_n1 _ _ _ _ (by omega), mu_n1 _ _ _ _ (by omega), mu_n1 _ _ _ _ (by omega), mu_n1 _ _ _ _ (by omega), mu_n1 _ _ _ _ (by omega), mu_n1 _ _ _ _ (by omega), mu_n1 _ _ _ _ (by omega), mu_n1 _ _ _ _ (by omega), mu_n2 _ _ _ _ (by omega)]
  have a1 : M1 (t + 1) nb = pm wi := by
    rw [hM1, mu_n1 _ _ _ _ (by omega), mu_n1 _ _ _ _ (by omega), mu_n1 _ _ _ _ (by omega), mu_n1 _ _ _ _ (by omega), mu_n1 _ _ _ _ (by omega), mu_n1 _ _ _ _ (by omega), mu_n1 _ _ _ _ (by omega), mu_eq]
  have a2 : M1 (t + 2) nb = -1 := by
    rw [hM1, mu_n1 _ _ _ _ (by omega), mu_n1 _ _ _ _ (by omega), mu_n1 _ _ _ _ (by omega), mu_n1 _ _ _ _ (by omega), mu_n1 _ _ _ _ (by omega), mu_n1 _ _ _ _ (by omega), mu_eq]
  have a3 : M1 (t + 3) nb = 0 := by
    rw [hM1, mu_n1 _ _ _ _ (by omega), mu_n1 _ _ _ _ (by omega), mu_n1 _ _ _ _ (by omega), mu_n1 _ _ _ _ (by omega), mu_n1 _ _ _ _ (by omega), mu_eq]
  have a4 : M1 (t + 4) nb = 0 := by
    rw [hM1, mu_n1 _ _ _ _ (by omega), mu_n1 _ _ _ _ (by omega), mu_n1 _ _ _ _ (by omega), mu_n1 _ _ _ _ (by omega), mu_eq]
  have a5 : M1 (t + 5) nb = 0 := by
    rw [hM1, mu_n1 _ _ _ _ (by omega), mu_n1 _ _ _ _ (by omega), mu_n1 _ _ _ _ (by omega), mu_eq]
  have a7 : M1 (t + 7) nb = 0 := by
    rw [hM1, mu_n1 _ _ _ _ (by omega), mu_n1 _ _ _ _ (by omega), mu_eq]
  have a8 : M1 (t + 8) nb = 0 := by
    rw [hM1, mu_n1 _ _ _ _ (by omega), mu_eq]
  have a9 : M1 (t + 9) nb = 0 := by
    rw [hM1, mu_eq]
  have ao : ∀ q c, q ≠ t → c ≠ nb → M1 q c = M q c := by
    intro q c hq hc
    rw [hM1, mu_n2 _ _ _ _ hc, mu_n2 _ _ _ _ hc, mu_n2 _ _ _ _ hc, mu_n2 _ _ _ _ hc, mu_n2 _ _ _ _ hc, mu_n2 _ _ _ _ hc, mu_n2 _ _ _ _ hc, mu_n2 _ _ _ _ hc, mu_n1 _ _ _ _ hq]
  have aq : ∀ q, ¬ (t ≤ q ∧ q ≤ t + 9) → M1 q = M q := by
    intro q hq
    rw [hM1, mu_oth (by omega), mu_oth (by omega), mu_oth (by omega), mu_oth (by omega), mu_oth (by omega), mu_oth (by omega), mu_oth (by omega), mu_oth (by omega), mu_oth (by omega)]
  have a6 : M1 (t + 6) = M (t + 6) := by
    rw [hM1, mu_oth (by omega), mu_oth (by omega), mu_oth (by omega), mu_oth (by omega), mu_oth (by omega), mu_oth (by omega), mu_oth (by omega), mu_oth (by omega), mu_oth (by omega)]
  have a10 : M1 (t + 10) = M (t + 10) := aq _ (by omega)
  clear hM1
  by_cases hw0 : wi = 0
  · subst hw0
    rw [pm_0, has_n a0 (fun z => by obtain ⟨b, hb, e⟩ := z; exact nI_ne_m1 (by omega) e.symm) (by omega)]
    simp only [true_implies, not_true_eq_false, false_implies, and_true]
    unfold wX10_addBox_123
    rw [ex_nI (by omega) (by omega), pk_sub (by omega), imin_nI (by omega) (by omega), show min (ttT bt n f - f) 8 = ttT bt n f - f by omega]
    refine ⟨_, loop _ ?_ (mu_eq _ _ _ _) ?_⟩
    · exact h.cg (by rw [mu_oth (by omega), aq 1 (by omega)]) (by rw [mu_oth (by omega), aq 2 (by omega)])
    · intro M' g1 g2 g3
      refine hq M' ?_ ?_ ?_ ?_ ?_ (fun _ => ?_) (fun z => absurd rfl z) ?_ ?_ ?_ ?_ ?_ g1 ?_ ?_ (fun z => absurd rfl z) ?_
      · rw [g3 _ (by omega), mu_n1 _ _ _ _ (by omega), a0]
      · rw [g3 _ (by omega), mu_n1 _ _ _ _ (by omega), a01]
      · rw [g3 _ (by omega), mu_n1 _ _ _ _ (by omega), a1]
      · rw [g3 _ (by omega), mu_n1 _ _ _ _ (by omega), a2]
      · rw [g3 _ (by omega), mu_n1 _ _ _ _ (by omega), a3]
      · rw [g3 _ (by omega), mu_n1 _ _ _ _ (by omega), a4]
      · rw [g3 _ (by omega), mu_n1 _ _ _ _ (by omega), a5]
      · rw [g3 _ (by omega), mu_eq]
      · rw [g3 _ (by omega), mu_n1 _ _ _ _ (by omega), a7]
      · rw [g3 _ (by omega), mu_n1 _ _ _ _ (by omega), a8]
      · rw [g3 _ (by omega), mu_n1 _ _ _ _ (by omega), a9]
      · intro j hj
        rw [g2 j hj, mu_n1 _ _ _ _ (by omega), a10]
      · intro i c i1 i2 hc _
        rw [g3 _ (by omega), mu_n2 _ _ _ _ (by omega), ao _ _ (by omega) (by omega)]
      · intro q hq
        rw [g3 _ (by omega), mu_oth (by omega), aq _ (by omega)]
  · obtain ⟨g, rfl⟩ : ∃ g, wi = g + 1 := ⟨wi - 1, by omega⟩
    rw [pm_s, has_y a0 (by omega) (by omega)]
    simp only [i10, true_implies, not_false_eq_true, false_implies, true_and]
    rw [ex_nI (by omega) (by omega)]
    unfold wX10_addBox_123
    rw [ex_nI (by omega) (by omega), pk_sub (by omega), imin_nI (by omega) (by omega), show min (ttT bt n f - f) 8 = ttT bt n f - f by omega]
    rw [mu_n1 _ _ _ _ (show t + 4 ≠ t + 3 by omega), ao (t + 4) g (by omega) (by omega), ao (t + 3) g (by omega) (by omega)]
    refine ⟨_, loop _ ?_ (mu_eq _ _ _ _) ?_⟩
    · exact h.cg (by rw [mu_oth (by omega), mu_oth (by omega), mu_oth (by omega), aq 1 (by omega)]) (by rw [mu_oth (by omega), mu_oth (by omega), mu_oth (by omega), aq 2 (by omega)])
    · intro M' g1 g2 g3
      refine hq M' ?_ ?_ ?_ ?_ ?_ (fun z => absurd z (by omega)) (fun _ => ?_) ?_ ?_ ?_ ?_ ?_ g1 ?_ ?_ (fun _ => ?_) ?_
      · rw [g3 _ (by omega), mu_n1 _ _ _ _ (by omega), mu_n1 _ _ _ _ (by omega), mu_n1 _ _ _ _ (by omega), a0]
      · rw [g3 _ (by omega), mu_n1 _ _ _ _ (by omega), mu_n1 _ _ _ _ (by omega), mu_n1 _ _ _ _ (by omega), a01]
      · rw [g3 _ (by omega), mu_n1 _ _ _ _ (by omega), mu_n1 _ _ _ _ (by omega), mu_n1 _ _ _ _ (by omega), a1]
      · rw [g3 _ (by omega), mu_n1 _ _ _ _ (by omega), mu_n1 _ _ _ _ (by omega), mu_n1 _ _ _ _ (by omega), a2]
      · rw [g3 _ (by omega), mu_n1 _ _ _ _ (by omega), mu_n1 _ _ _ _ (by omega), mu_n2 _ _ _ _ (by omega), a3]
      · rw [g3 _ (by omega), mu_n1 _ _ _ _ (by omega), mu_eq, show g + 1 - 1 = g by omega]
      · rw [g3 _ (by omega), mu_n1 _ _ _ _ (by omega), mu_n1 _ _ _ _ (by omega), mu_n1 _ _ _ _ (by omega), a5]
      · rw [g3 _ (by omega), mu_eq]
      · rw [g3 _ (by omega), mu_n1 _ _ _ _ (by omega), mu_n1 _ _ _ _ (by omega), mu_n1 _ _ _ _ (by omega), a7]
      · rw [g3 _ (by omega), mu_n1 _ _ _ _ (by omega), mu_n1 _ _ _ _ (by omega), mu_n1 _ _ _ _ (by omega), a8]
      · rw [g3 _ (by omega), mu_n1 _ _ _ _ (by omega), mu_n1 _ _ _ _ (by omega), mu_n1 _ _ _ _ (by omega), a9]
      · intro j hj
        rw [g2 j hj, mu_n1 _ _ _ _ (by omega), mu_n1 _ _ _ _ (by omega), mu_n1 _ _ _ _ (by omega), a10]
      · intro i c i1 i2 hc hx
        rw [g3 _ (by omega), mu_n2 _ _ _ _ (by omega), mu_n2 _ _ _ _ (by omega)]
        rcases hx with hx | hx
        · rw [mu_n1 _ _ _ _ (by omega), ao _ _ (by omega) (by omega)]
        · rw [mu_n2 _ _ _ _ (by omega), ao _ _ (by omega) (by omega)]
      · rw [g3 _ (by omega), mu_n1 _ _ _ _ (by omega), mu_n1 _ _ _ _ (by omega), show g + 1 - 1 = g by omega, mu_eq]
      · intro q hq
        rw [g3 _ (by omega), mu_oth (by omega), mu_oth (by omega), mu_oth (by omega), aq _ (by omega)]
