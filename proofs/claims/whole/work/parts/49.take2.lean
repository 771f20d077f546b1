/-! the class takes the other tokens, and reads to the end -/
theorem takeNumX {M : sy_M} {t n : Nat} {bt : Nat → Nat} {s : Nat → Nat → Nat} {K : Int32 → sy_M → Prop} (ht : t = 60 ∨ t = 71) (tp : tpX n bt M) (hw : wfS n s) (m : mX t s M) (ld : ldX bt n s M) (hd : s 20 1 = 1) (hkc : kcT bt n (tfT bt n (s 20 0)) = 49) (hwi : s 20 2 ≠ 0)
    (h0 : ∀ s' M', stT bt n s 0 s' → mX t s' M' → (∀ k, k = 0 ∨ 5 ≤ k → M' 3 k = M 3 k) → fpX t M M' → K 0 M')
    (h1 : stT bt n s 1 s → K 1 M) : wX6_takeNumber M K := by
  have hn := tp.1
  obtain ⟨l5, l6, l7⟩ := ld
  obtain ⟨m0, m1, m2, m3, m4, m5, m6⟩ := m
  obtain ⟨ha, hc⟩ := hw
  have hfb := tfT_b bt hc.1
  generalize hfe : tfT bt n (s 20 0) = f at l5 l6 l7 hfb hkc
  have htt := tt_le (bt := bt) hfb.2
  obtain ⟨hfn, hk'⟩ := kc_kN hkc
  have htb := ttT_b bt hfn
  have hnb := ha.1
  have hdg : ∀ i, i < ttT bt n f - f → 48 ≤ bt (f + i) ∧ bt (f + i) ≤ 57 := by
    intro i hi
    have := htb.2.2 (f + i) (by omega) (by omega)
    rw [hk'] at this
    exact kN_48.mp this
  obtain ⟨d1, d2, d3, d4⟩ := hc.2.2.2.2.2.2.2.1 hd
  unfold wX6_takeNumber
  rw [l6, l7, pk_sub (by omega), nI_leI (by omega) (by omega)]
  by_cases hl : ttT bt n f - f ≤ 6
  · simp only [eq_true hl, true_implies, not_true_eq_false, false_implies, and_true]
    have key : ∀ (KK : sy_M → Int32 → Prop), KK M (nI (nuT bt f (ttT bt n f - f))) → ∀ r j, j + r = ttT bt n f - f → wX6_takeNumber_23 KK K (r + 1) M (nI (nuT bt f j)) (nI (f + j)) := by
      intro KK hKK r
      induction r with
      | zero =>
        intro j hj
        rw [wX6_takeNumber_23, l7, nI_leI (by omega) (by omega)]
        simp only [eq_true (show ttT bt n f ≤ f + j by omega), true_implies, not_true_eq_false, false_implies, and_true]
        rw [show j = ttT bt n f - f by omega]
        exact hKK
      | succ r ih =>
        intro j hj
        rw [wX6_takeNumber_23, l7, nI_leI (by omega) (by omega)]
        simp only [eq_false (show ¬ ttT bt n f ≤ f + j by omega), true_implies, not_false_eq_true, false_implies, true_and]
        have q := hdg j (by omega)
        rw [byX tp (by omega), if_pos (by omega), pk_mul, nI_add, pk_sub (by omega), nI_1, show nuT bt f j * 10 + bt (f + j) - 48 = nuT bt f (j + 1) by rw [nuT]; omega]
        exact ih (j + 1) (by omega)
    refine ⟨_, key _ ?_ (ttT bt n f - f) 0 (by omega)⟩
    refine ⟨t, m3, ht, t, m3, ht, ?_⟩
    obtain ⟨g, hg⟩ : ∃ g, s 20 3 = g + 1 := ⟨s 20 3 - 1, by omega⟩
    rw [m0, show nI (s 20 3) - 1 = nI g by rw [hg]; exact pm_s g, has_y m0 (by omega) (by omega)]
    simp only [i10, true_implies, not_false_eq_true, false_implies, true_and]
    refine ⟨t, m3, ht, ?_⟩
    rw [ex_nI (by omega) (by omega)]
    obtain ⟨v0, v1, v2, v3, vo⟩ := sV_v bt n f s
    have hg' : s 20 3 - 1 = g := by omega
    rw [hg'] at vo
    refine h0 (sV bt n f s) _ (st1v hfe hd hkc hwi hl) ?_ ?_ ?_
    · refine ⟨?_, ?_, ?_, ?_, ?_, ?_, fun b hb => ?_⟩
      · rw [mu_n1 _ _ _ _ (by omega), mu_n1 _ _ _ _ (by omega), m0, v3]
      · rw [mu_n1 _ _ _ _ (by omega), mu_n1 _ _ _ _ (by omega), m1, v3]
        exact congrArg nI (smN_cg 0 _ (fun k _ _ => by rw [vo 1 k (by omega), su_1 (by omega)]))
      · trivial
      · rw [mu_n2 _ _ _ _ (by omega), mu_n1 _ _ _ _ (by omega), m3]
      · rw [mu_eq, v1]
      · rw [mu_n2 _ _ _ _ (by omega), mu_n1 _ _ _ _ (by omega), m5, v2]
      · rw [v3] at hb
        by_cases hbg : b = g
        · subst hbg
          obtain ⟨a1, a2, a3, a4, a5, a6, a7, a8, a9, a10⟩ := m6 b hb
          unfold bxX
          have z : ∀ q c, q ≠ 3 → q ≠ t + 5 → mu (mu M (t + 5) b (nI (nuT bt f (ttT bt n f - f)))) 3 3 (nI 4) q c = M q c := fun q c z1 z2 => by rw [mu_n1 _ _ _ _ z1, mu_n1 _ _ _ _ z2]
          have y : ∀ q c, q ≠ 20 → q ≠ 4 → sV bt n f s q c = s q c := fun q c z1 z2 => by rw [vo q c z1, su_1 z2]
          rw [y 0 _ (by omega) (by omega), y 1 _ (by omega) (by omega), y 2 _ (by omega) (by omega), y 3 _ (by omega) (by omega), y 5 _ (by omega) (by omega), y 6 _ (by omega) (by omega)]
          rw [z (t + 1) b (by omega) (by omega), z (t + 2) b (by omega) (by omega), z (t + 3) b (by omega) (by omega), z (t + 4) b (by omega) (by omega), z (t + 6) b (by omega) (by omega), z (t + 7) b (by omega) (by omega), z (t + 8) b (by omega) (by omega), z (t + 9) b (by omega) (by omega)]
          refine ⟨a1, a2, a3, a4, ?_, a6, a7, a8, a9, fun k hk => ?_⟩
          · rw [mu_n1 _ _ _ _ (by omega), mu_eq, vo 4 b (by omega), su_e]
          · rw [z (t + 10) _ (by omega) (by omega), y (10 + k) b (by have := (ha.2.2.2.1 b hb).2.2.2.2.1; omega) (by omega), a10 k hk]
        · refine (m6 b hb).cg (ha.2.2.2.1 b hb).2.2.2.2.1 (fun q hq => ?_) (fun i _ _ => ?_) (fun k _ => ?_)
          · rw [vo q b hq, su_2 hbg]
          · rw [mu_n1 _ _ _ _ (by omega), mu_n2 _ _ _ _ hbg]
          · rw [mu_n1 _ _ _ _ (by omega), mu_n1 _ _ _ _ (by omega)]
    · intro k hk
      rw [mu_n2 _ _ _ _ (by omega), mu_n1 _ _ _ _ (by omega)]
    · intro q q3 qt
      rw [mu_oth q3, mu_oth (by omega)]
  · simp only [eq_false hl, true_implies, not_false_eq_true, false_implies, true_and]
    exact h1 (st1l hfe hd hkc hwi (by omega))
theorem takeHowX {M : sy_M} {t n : Nat} {bt : Nat → Nat} {s : Nat → Nat → Nat} {K : Int32 → sy_M → Prop} (ht : t = 60 ∨ t = 71) (tp : tpX n bt M) (hw : wfS n s) (m : mX t s M) (ld : ldX bt n s M) (hd : s 20 1 = 1) (hno : ¬ (kcT bt n (tfT bt n (s 20 0)) = 49 ∧ s 20 2 ≠ 0))
    (h0 : ∀ s' M', stT bt n s 0 s' → mX t s' M' → (∀ k, k = 0 ∨ 5 ≤ k → M' 3 k = M 3 k) → fpX t M M' → K 0 M')
    (h1 : stT bt n s 1 s → K 1 M) (h2 : stT bt n s 2 s → K (nI 2) M) : wX6_takeHow M K := by
  have hn := tp.1
  obtain ⟨l5, l6, l7⟩ := ld
  obtain ⟨m0, m1, m2, m3, m4, m5, m6⟩ := m
  obtain ⟨ha, hc⟩ := hw
  have hfb := tfT_b bt hc.1
  generalize hfe : tfT bt n (s 20 0) = f at l5 l6 l7 hfb hno
  have hnb := ha.1
  obtain ⟨d1, d2, d3, d4⟩ := hc.2.2.2.2.2.2.2.1 hd
  have hh4 := hwT_le bt n f
  unfold wX6_takeHow
  refine howX tp hfb.2 l5 l6 l7 ?_
  refine ⟨t, m3, ht, ?_⟩
  rw [pm_m1 (by omega)]
  by_cases hh : hwT bt n f = 0
  · simp only [eq_true hh, true_implies, not_true_eq_false, false_implies, and_true]
    exact h1 (st1n hfe hd hno hh)
  · simp only [eq_false hh, true_implies, not_false_eq_true, false_implies, true_and]
    refine ⟨t, m3, ht, ?_⟩
    obtain ⟨g, hg⟩ : ∃ g, s 20 3 = g + 1 := ⟨s 20 3 - 1, by omega⟩
    have hg' : s 20 3 - 1 = g := by omega
    rw [m0, show nI (s 20 3) - 1 = nI g by rw [hg]; exact pm_s g, has_y m0 (by omega) (by omega)]
    simp only [i10, true_implies, not_false_eq_true, false_implies, and_true]
    refine ⟨t, m3, ht, ?_⟩
    have q3 := (ha.2.2.2.1 g (by omega)).2.2.2.2.2.2.1
    rw [ex_nI (by omega) (by omega), (m6 g (by omega)).2.2.2.1, nI_leI (by omega) (by omega)]
    by_cases h5 : s 3 g ≤ 5
    · simp only [eq_true h5, true_implies, not_true_eq_false, false_implies, and_true]
      refine ⟨t, m3, ht, t, by rw [mu_n1 _ _ _ _ (by omega)]; exact m3, ht, ?_⟩
      rw [mu_n1 _ _ _ _ (show t ≠ t + 2 by omega), m1, nI_1]
      obtain ⟨v0, v1, v2, v3, vo⟩ := sH_v bt n f s
      rw [hg'] at vo
      refine h0 (sH bt n f s) _ (st1h hfe hd hno hh (by rw [hg']; exact h5)) ?_ ?_ ?_
      · have z : ∀ q c, q ≠ 3 → q ≠ t → q ≠ t + 2 → mu (mu (mu (mu M (t + 2) g (pm (hwT bt n f))) t 1 (nI (smN (fun c => decide (s 1 c ≠ 0)) 0 (s 20 3) + 1))) 3 4 (nI g)) 3 3 (nI 2) q c = M q c := fun q c z1 z2 z3 => by rw [mu_n1 _ _ _ _ z1, mu_n1 _ _ _ _ z1, mu_n1 _ _ _ _ z2, mu_n1 _ _ _ _ z3]
        refine ⟨?_, ?_, ?_, ?_, ?_, ?_, fun b hb => ?_⟩
        · rw [mu_n1 _ _ _ _ (by omega), mu_n1 _ _ _ _ (by omega), mu_n2 _ _ _ _ (by omega), mu_n1 _ _ _ _ (by omega), m0, v3]
        · rw [mu_n1 _ _ _ _ (by omega), mu_n1 _ _ _ _ (by omega), mu_eq, v3, hg, smN, smN, Nat.zero_add, vo 1 g (by omega), su_e]
          rw [hg'] at d2
          have e : smN (fun c => decide (sH bt n f s 1 c ≠ 0)) 0 g = smN (fun c => decide (s 1 c ≠ 0)) 0 g := smN_cg 0 _ (fun k _ hk => by rw [vo 1 k (by omega), su_2 (by omega)])
          rw [e, d2, decide_eq_true hh]
          rfl
        · trivial
        · rw [mu_n2 _ _ _ _ (by omega), mu_n2 _ _ _ _ (by omega), mu_n1 _ _ _ _ (by omega), mu_n1 _ _ _ _ (by omega), m3]
        · rw [mu_eq, v1]
        · rw [mu_n2 _ _ _ _ (by omega), mu_eq, v2, hg, pm_s]
        · rw [v3] at hb
          by_cases hbg : b = g
          · subst hbg
            obtain ⟨a1, a2, a3, a4, a5, a6, a7, a8, a9, a10⟩ := m6 b hb
            unfold bxX
            have y : ∀ q c, q ≠ 20 → q ≠ 1 → sH bt n f s q c = s q c := fun q c z1 z2 => by rw [vo q c z1, su_1 z2]
            rw [y 0 _ (by omega) (by omega), y 2 _ (by omega) (by omega), y 3 _ (by omega) (by omega), y 4 _ (by omega) (by omega), y 5 _ (by omega) (by omega), y 6 _ (by omega) (by omega)]
            rw [z (t + 1) b (by omega) (by omega) (by omega), z (t + 3) b (by omega) (by omega) (by omega), z (t + 4) b (by omega) (by omega) (by omega), z (t + 5) b (by omega) (by omega) (by omega), z (t + 6) b (by omega) (by omega) (by omega), z (t + 7) b (by omega) (by omega) (by omega), z (t + 8) b (by omega) (by omega) (by omega), z (t + 9) b (by omega) (by omega) (by omega)]
            refine ⟨a1, ?_, a3, a4, a5, a6, a7, a8, a9, fun k hk => ?_⟩
            · rw [mu_n1 _ _ _ _ (by omega), mu_n1 _ _ _ _ (by omega), mu_n1 _ _ _ _ (by omega), mu_eq, vo 1 b (by omega), su_e]
            · rw [z (t + 10) _ (by omega) (by omega) (by omega), y (10 + k) b (by have := (ha.2.2.2.1 b hb).2.2.2.2.1; omega) (by omega), a10 k hk]
          · refine (m6 b hb).cg (ha.2.2.2.1 b hb).2.2.2.2.1 (fun q hq => ?_) (fun i _ _ => ?_) (fun k _ => ?_)
            · rw [vo q b hq, su_2 hbg]
            · rw [mu_n1 _ _ _ _ (by omega), mu_n1 _ _ _ _ (by omega), mu_n1 _ _ _ _ (by omega), mu_n2 _ _ _ _ hbg]
            · rw [z _ _ (by omega) (by omega) (by omega)]
      · intro k hk
        rw [mu_n2 _ _ _ _ (by omega), mu_n2 _ _ _ _ (by omega), mu_n1 _ _ _ _ (by omega), mu_n1 _ _ _ _ (by omega)]
      · intro q q3 qt
        rw [mu_oth q3, mu_oth q3, mu_oth (by omega), mu_oth (by omega)]
    · simp only [eq_false h5, true_implies, not_false_eq_true, false_implies, true_and]
      exact h2 (st1m hfe hd hno hh (by rw [hg']; omega))
theorem takeSortX {M : sy_M} {t n : Nat} {bt : Nat → Nat} {s : Nat → Nat → Nat} {K : Int32 → sy_M → Prop} (ht : t = 60 ∨ t = 71) (tp : tpX n bt M) (hw : wfS n s) (m : mX t s M) (hd : s 20 1 = 2) (hkc : wdB bt n 0 (tfT bt n (s 20 0)) = true)
    (h0 : ∀ s' M', stT bt n s 0 s' → mX t s' M' → (∀ k, k = 0 ∨ 5 ≤ k → M' 3 k = M 3 k) → fpX t M M' → K 0 M') : wX6_takeSorted M K := by
  have hn := tp.1
  obtain ⟨m0, m1, m2, m3, m4, m5, m6⟩ := m
  obtain ⟨ha, hc⟩ := hw
  generalize hfe : tfT bt n (s 20 0) = f at hkc
  have hnb := ha.1
  have hwl := hc.2.2.1
  have hwi := hc.2.2.2.2.2.2.2.2.1 (Or.inl hd)
  unfold wX6_takeSorted
  refine ⟨t, m3, ht, ?_⟩
  obtain ⟨g, hg⟩ : ∃ g, s 20 2 = g + 1 := ⟨s 20 2 - 1, by omega⟩
  have hg' : s 20 2 - 1 = g := by omega
  rw [m5, hg, pm_s, has_y m0 (by omega) (by omega)]
  simp only [i10, true_implies, not_false_eq_true, false_implies, true_and]
  refine ⟨t, m3, ht, ?_⟩
  rw [m5, hg, pm_s, ex_nI (by omega) (by omega), nar01 (Or.inr rfl)]
  obtain ⟨v0, v1, v2, v3, vo⟩ := sS_v bt n f s
  rw [hg'] at vo
  refine h0 (sS bt n f s) _ (st2s hfe hd hkc) ?_ ?_ ?_
  · refine ⟨?_, ?_, ?_, ?_, ?_, ?_, fun b hb => ?_⟩
    · rw [mu_n1 _ _ _ _ (by omega), mu_n1 _ _ _ _ (by omega), m0, v3]
    · rw [mu_n1 _ _ _ _ (by omega), mu_n1 _ _ _ _ (by omega), m1, v3]
      exact congrArg nI (smN_cg 0 _ (fun k _ _ => by rw [vo 1 k (by omega), su_1 (by omega)]))
    · trivial
    · rw [mu_n2 _ _ _ _ (by omega), mu_n1 _ _ _ _ (by omega), m3]
    · rw [mu_eq, v1]
    · rw [mu_n2 _ _ _ _ (by omega), mu_n1 _ _ _ _ (by omega), m5, v2]
    · rw [v3] at hb
      by_cases hbg : b = g
      · subst hbg
        obtain ⟨a1, a2, a3, a4, a5, a6, a7, a8, a9, a10⟩ := m6 b hb
        unfold bxX
        have z : ∀ q c, q ≠ 3 → q ≠ t + 7 → mu (mu M (t + 7) b 1) 3 3 (nI 3) q c = M q c := fun q c z1 z2 => by rw [mu_n1 _ _ _ _ z1, mu_n1 _ _ _ _ z2]
        have y : ∀ q c, q ≠ 20 → q ≠ 6 → sS bt n f s q c = s q c := fun q c z1 z2 => by rw [vo q c z1, su_1 z2]
        rw [y 0 _ (by omega) (by omega), y 1 _ (by omega) (by omega), y 2 _ (by omega) (by omega), y 3 _ (by omega) (by omega), y 4 _ (by omega) (by omega), y 5 _ (by omega) (by omega)]
        rw [z (t + 1) b (by omega) (by omega), z (t + 2) b (by omega) (by omega), z (t + 3) b (by omega) (by omega), z (t + 4) b (by omega) (by omega), z (t + 5) b (by omega) (by omega), z (t + 6) b (by omega) (by omega), z (t + 8) b (by omega) (by omega), z (t + 9) b (by omega) (by omega)]
        refine ⟨a1, a2, a3, a4, a5, a6, ?_, a8, a9, fun k hk => ?_⟩
        · rw [mu_n1 _ _ _ _ (by omega), mu_eq, vo 6 b (by omega), su_e]; rfl
        · rw [z (t + 10) _ (by omega) (by omega), y (10 + k) b (by have := (ha.2.2.2.1 b hb).2.2.2.2.1; omega) (by omega), a10 k hk]
      · refine (m6 b hb).cg (ha.2.2.2.1 b hb).2.2.2.2.1 (fun q hq => ?_) (fun i _ _ => ?_) (fun k _ => ?_)
        · rw [vo q b hq, su_2 hbg]
        · rw [mu_n1 _ _ _ _ (by omega), mu_n2 _ _ _ _ hbg]
        · rw [mu_n1 _ _ _ _ (by omega), mu_n1 _ _ _ _ (by omega)]
  · intro k hk
    rw [mu_n2 _ _ _ _ (by omega), mu_n1 _ _ _ _ (by omega)]
  · intro q q3 qt
    rw [mu_oth q3, mu_oth (by omega)]
/-- a sign that is due, and after it a name -/
theorem takeSignX {M : sy_M} {t n : Nat} {bt : Nat → Nat} {s : Nat → Nat → Nat} {K : Int32 → sy_M → Prop} {c : Nat} (ht : t = 60 ∨ t = 71) (tp : tpX n bt M) (hw : wfS n s) (m : mX t s M) (ld : ldX bt n s M) (hc40 : c < 100)
    (hy : kcT bt n (tfT bt n (s 20 0)) = c + 1 → stT bt n s 0 (sO bt n (tfT bt n (s 20 0)) s)) (hn : kcT bt n (tfT bt n (s 20 0)) ≠ c + 1 → stT bt n s 1 s)
    (h0 : ∀ s' M', stT bt n s 0 s' → mX t s' M' → (∀ k, k = 0 ∨ 5 ≤ k → M' 3 k = M 3 k) → fpX t M M' → K 0 M')
    (h1 : stT bt n s 1 s → K 1 M) : wX6_takeSign M (nI c) 0 K := by
  have hkc := kc_le (bt := bt) (n := n) (f := tfT bt n (s 20 0)) (fun i hi => (tp.2.2 i hi).1)
  unfold wX6_takeSign
  rw [ld.1, pm_nI (by omega) (by omega)]
  by_cases hk : kcT bt n (tfT bt n (s 20 0)) = c + 1
  · simp only [eq_true hk, true_implies, not_true_eq_false, false_implies, and_true]
    obtain ⟨v0, v1, v2, v3, vo⟩ := sO_v bt n (tfT bt n (s 20 0)) s
    refine h0 _ _ (hy hk) ?_ ?_ ?_
    · refine m.ctl hw.1 vo v3 (fun q hq => mu_oth (by omega)) (mu_n2 _ _ _ _ (by omega)) (mu_n2 _ _ _ _ (by omega)) ?_ ?_
      · rw [mu_eq, v1]; rfl
      · rw [mu_n2 _ _ _ _ (by omega), m.2.2.2.2.2.1, v2]
    · intro k hk
      rw [mu_n2 _ _ _ _ (by omega)]
    · intro q q3 qt
      rw [mu_oth q3]
  · simp only [eq_false hk, true_implies, not_false_eq_true, false_implies, true_and]
    exact h1 (hn hk)
theorem takeX {M : sy_M} {t n : Nat} {bt : Nat → Nat} {s : Nat → Nat → Nat} {K : Int32 → sy_M → Prop} (ht : t = 60 ∨ t = 71) (tp : tpX n bt M) (hw : wfS n s) (m : mX t s M) (ld : ldX bt n s M)
    (h0 : ∀ s' M', stT bt n s 0 s' → mX t s' M' → (∀ k, k = 0 ∨ 5 ≤ k → M' 3 k = M 3 k) → fpX t M M' → K 0 M')
    (h4 : stT bt n s 4 s → K 0 M) (h1 : stT bt n s 1 s → K 1 M) (h2 : stT bt n s 2 s → K (nI 2) M) (h3 : stT bt n s 3 s → K (nI 3) M) : wX6_take M K := by
  have hkc := kc_le (bt := bt) (n := n) (f := tfT bt n (s 20 0)) (fun i hi => (tp.2.2 i hi).1)
  have hdu := hw.2.2.1
  have hnb := hw.1.1
  have hwl := hw.2.2.2.1
  have hfb := tfT_b bt hw.2.1
  have e0 : ((0 : Int32) = nI 0) := rfl
  have e1 : ((1 : Int32) = nI 1) := rfl
  unfold wX6_take
  rw [m.2.2.2.2.1, e1, e0, nI_eq (by omega) (by omega), nI_eq (by omega) (by omega), nI_eq (by omega) (by omega), nI_eq (by omega) (by omega), nI_eq (by omega) (by omega), ← e0, ← e1]
  by_cases d0 : s 20 1 = 0
  · simp only [eq_true d0, true_implies, not_true_eq_false, false_implies, and_true]
    exact takeNameX ht tp hw m ld d0 h0 h1 h2 h3
  · simp only [eq_false d0, true_implies, not_false_eq_true, false_implies, true_and]
    by_cases d1 : s 20 1 = 1
    · simp only [eq_true d1, true_implies, not_true_eq_false, false_implies, and_true]
      rw [ld.1, m.2.2.2.2.2.1, pm_nI (by omega) (by omega), pm_m1 (by omega)]
      have how : ¬ (kcT bt n (tfT bt n (s 20 0)) = 49 ∧ s 20 2 ≠ 0) → wX6_take_69 K M := fun z => takeHowX ht tp hw m ld d1 z h0 h1 h2
      by_cases k48 : kcT bt n (tfT bt n (s 20 0)) = 48 + 1
      · simp only [eq_true k48, true_implies, not_true_eq_false, false_implies, true_and]
        by_cases hw0 : s 20 2 = 0
        · simp only [eq_true hw0, true_implies, not_true_eq_false, false_implies, and_true]
          exact how (fun z => z.2 hw0)
        · simp only [eq_false hw0, true_implies, not_false_eq_true, false_implies, true_and]
          exact takeNumX ht tp hw m ld d1 k48 hw0 h0 h1
      · simp only [eq_false k48, true_implies, not_false_eq_true, false_implies, and_true]
        exact how (fun z => k48 z.1)
    · simp only [eq_false d1, true_implies, not_false_eq_true, false_implies, true_and]
      by_cases d2 : s 20 1 = 2
      · simp only [eq_true d2, true_implies, not_true_eq_false, false_implies, and_true]
        refine isWordX tp (by omega) hfb.2 ld.1 ld.2.1 ld.2.2 ?_
        by_cases hs : wdB bt n 0 (tfT bt n (s 20 0)) = true
        · rw [if_pos hs]
          simp only [i10, true_implies, not_false_eq_true, false_implies, true_and]
          exact takeSortX ht tp hw m d2 hs h0
        · rw [if_neg hs]
          simp only [true_implies, not_true_eq_false, false_implies, and_true]
          exact takeSignX ht tp hw m ld (by omega) (fun z => st2o rfl d2 (by simpa using hs) z) (fun z => st2n rfl d2 (by simpa using hs) z) h0 h1
      · simp only [eq_false d2, true_implies, not_false_eq_true, false_implies, true_and]
        by_cases d3 : s 20 1 = 3
        · simp only [eq_true d3, true_implies, not_true_eq_false, false_implies, and_true]
          exact takeSignX ht tp hw m ld (by omega) (fun z => st3o rfl d3 z) (fun z => st3n rfl d3 z) h0 h1
        · simp only [eq_false d3, true_implies, not_false_eq_true, false_implies, true_and]
          by_cases d4 : s 20 1 = 4
          · simp only [eq_true d4, true_implies, not_true_eq_false, false_implies, and_true]
            have c9 := hw.2.2.2.2.2.2.2.2.2.1 (Or.inr (Or.inr d4))
            rw [ld.1, pm_nI (by omega) (by omega)]
            by_cases k41 : kcT bt n (tfT bt n (s 20 0)) = 41 + 1
            · simp only [eq_true k41, true_implies, not_true_eq_false, false_implies, true_and]
              obtain ⟨m0, m1, m2, m3, m4, m5, m6⟩ := m
              have m : mX t s M := ⟨m0, m1, m2, m3, m4, m5, m6⟩
              unfold wX6_takeClosing
              refine ⟨t, m3, ht, ?_⟩
              obtain ⟨g, hg⟩ : ∃ g, s 20 2 = g + 1 := ⟨s 20 2 - 1, by omega⟩
              have hg' : s 20 2 - 1 = g := by omega
              rw [m5, hg, pm_s, has_y m0 (by omega) (by omega)]
              simp only [i10, true_implies, not_false_eq_true, false_implies, true_and]
              refine ⟨t, m3, ht, ?_⟩
              rw [m5, hg, pm_s, ex_nI (by omega) (by omega), (m6 g (by omega)).1]
              unfold wX6_takeClosing_31
              have hs0 : s 0 g ≤ 40 := by
                by_cases z : g = 0
                · rw [z, (hw.1.2.1 (by omega)).1]; omega
                · have := (hw.1.2.2.1 g (by omega) (by omega)).2.1; omega
              rw [pm_m1 (by omega)]
              obtain ⟨v0, v1, v2, v3, vo⟩ := sE_v bt n (tfT bt n (s 20 0)) s
              rw [hg'] at v1 v2
              by_cases hp : s 0 g = 0
              · simp only [eq_true hp, true_implies, not_true_eq_false, false_implies, true_and]
                refine h0 _ _ (st4e rfl d4 k41) ?_ ?_ ?_
                · refine m.ctl hw.1 vo v3 (fun q hq => by rw [mu_oth (by omega), mu_oth (by omega)]) ?_ ?_ ?_ ?_
                  · rw [mu_n2 _ _ _ _ (by omega), mu_n2 _ _ _ _ (by omega)]
                  · rw [mu_n2 _ _ _ _ (by omega), mu_n2 _ _ _ _ (by omega)]
                  · rw [mu_eq, v1, if_pos hp]
                  · rw [mu_n2 _ _ _ _ (by omega), mu_eq, v2]
                · intro k hk
                  rw [mu_n2 _ _ _ _ (by omega), mu_n2 _ _ _ _ (by omega)]
                · intro q q3 qt
                  rw [mu_oth q3, mu_oth q3]
              · simp only [eq_false hp, true_implies, not_false_eq_true, false_implies, and_true]
                refine h0 _ _ (st4e rfl d4 k41) ?_ ?_ ?_
                · refine m.ctl hw.1 vo v3 (fun q hq => by rw [mu_oth (by omega), mu_oth (by omega)]) ?_ ?_ ?_ ?_
                  · rw [mu_n2 _ _ _ _ (by omega), mu_n2 _ _ _ _ (by omega)]
                  · rw [mu_n2 _ _ _ _ (by omega), mu_n2 _ _ _ _ (by omega)]
                  · rw [mu_eq, v1, if_neg hp]
                  · rw [mu_n2 _ _ _ _ (by omega), mu_eq, v2]
                · intro k hk
                  rw [mu_n2 _ _ _ _ (by omega), mu_n2 _ _ _ _ (by omega)]
                · intro q q3 qt
                  rw [mu_oth q3, mu_oth q3]
            · simp only [eq_false k41, true_implies, not_false_eq_true, false_implies, and_true]
              exact takeSignX ht tp hw m ld (by omega) (fun z => st4o rfl d4 z) (fun z => st4n rfl d4 k41 z) h0 h1
          · simp only [eq_false d4, true_implies, not_false_eq_true, false_implies, true_and]
            have d5 : s 20 1 = 5 := by omega
            rw [ld.1, pm_m1 (by omega)]
            by_cases k0 : kcT bt n (tfT bt n (s 20 0)) = 0
            · simp only [eq_true k0, true_implies, not_true_eq_false, false_implies, true_and]
              exact h4 (st5e rfl d5 k0)
            · simp only [eq_false k0, true_implies, not_false_eq_true, false_implies, and_true]
              exact h1 (st5n rfl d5 k0)
/-- to the end -/
theorem readX {M : sy_M} {t n : Nat} {bt : Nat → Nat} {Q : Int32 → sy_M → Prop} (ht : t = 60 ∨ t = 71) (h32 : M 3 2 = nI t) (tp : tpX n bt M)
    (hq : ∀ j s' M', itT bt n j s00 4 s' → wfS n s' → s' 20 1 = 5 → mX t s' M' → M' 3 0 = -1 → fpX t M M' → Q 0 M')
    (hx : ∀ j s' M' c, itT bt n j s00 c s' → 1 ≤ c → c ≤ 3 → M' 3 0 = nI (tfT bt n (s' 20 0)) → M' 3 2 = nI t → fpX t M M' → Q (nI c) M') : wX6_read M Q := by
  have hn := tp.1
  have key : ∀ r i M1 j s, i + r = 1001 → i ≤ s 20 0 → itT bt n j s00 0 s → wfS n s → mX t s M1 → M1 3 0 = -1 → M1 3 7 = nI (s 20 0) → fpX t M M1 → wX6_read_38 Q (r + 1) M1 (nI i) := by
    intro r
    induction r with
    | zero =>
      intro i M1 j s hir his _ hw _ _ _ _
      have := hw.2.1
      omega
    | succ r ih =>
      intro i M1 j s hir his hit hw hm h30 h37 hfr
      have hp := hw.2.1
      have tp1 : tpX n bt M1 := tp.cg (hfr 1 (by omega) (by omega)) (hfr 2 (by omega) (by omega))
      rw [wX6_read_38, nI_ltI (by omega) (by omega)]
      simp only [eq_false (show ¬ 1000 < i by omega), true_implies, not_false_eq_true, false_implies, true_and]
      refine nextX tp1 h37 hp (fun M2 e5 e6 e7 nx => ?_)
      have tp2 : tpX n bt M2 := tp1.cg (nx.1 1 (by omega)) (nx.1 2 (by omega))
      have hm2 : mX t s M2 := hm.ctl hw.1 (fun _ _ _ => rfl) rfl (fun q hq => nx.1 q (by omega)) (nx.2 1 (by omega) (by omega) (by omega)) (nx.2 2 (by omega) (by omega) (by omega)) (by rw [nx.2 3 (by omega) (by omega) (by omega)]; exact hm.2.2.2.2.1) (by rw [nx.2 4 (by omega) (by omega) (by omega)]; exact hm.2.2.2.2.2.1)
      have hfr2 : fpX t M M2 := fun q a b => by rw [nx.1 q a, hfr q a b]
      have h302 : M2 3 0 = -1 := by rw [nx.2 0 (by omega) (by omega) (by omega), h30]
      have hkc := kc_le (bt := bt) (n := n) (f := tfT bt n (s 20 0)) (fun i hi => (tp.2.2 i hi).1)
      have bad : ∀ c, 1 ≤ c → c ≤ 3 → stT bt n s c s → Q (nI c) (mu M2 3 0 (M2 3 6)) := by
        intro c c1 c3 hst
        refine hx _ s _ c (itT_app j s00 hit (itT_one hst)) c1 c3 ?_ ?_ ?_
        · rw [mu_eq, e6]
        · rw [mu_n2 _ _ _ _ (by omega)]; exact hm2.2.2.2.1
        · intro q a b
          rw [mu_oth a]; exact hfr2 q a b
      refine takeX ht tp2 hw hm2 ⟨e5, e6, e7⟩ (fun s' M3 hst hm3 hk3 hf3 => ?_) (fun hst => ?_) (fun hst => ?_) (fun hst => ?_) (fun hst => ?_)
      · obtain ⟨w1, w2, w3, w4⟩ := wfS_step hw hst
        simp only [true_implies, not_true_eq_false, false_implies, and_true]
        rw [hk3 5 (by omega), e5, pm_m1 (by omega)]
        simp only [eq_false w3, true_implies, not_false_eq_true, false_implies, and_true]
        rw [nI_1]
        refine ih (i + 1) M3 (j + 1) s' (by omega) (by omega) (itT_app j s00 hit (itT_one hst)) w1 hm3 ?_ ?_ ?_
        · rw [hk3 0 (by omega), h302]
        · rw [hk3 7 (by omega), e7, w4]
        · intro q a b
          rw [hf3 q a b]; exact hfr2 q a b
      · simp only [true_implies, not_true_eq_false, false_implies, and_true]
        have d5 : s 20 1 = 5 ∧ kcT bt n (tfT bt n (s 20 0)) = 0 := by
          rcases hst with ⟨d, h⟩ | ⟨d, h⟩ | ⟨d, h⟩ | ⟨d, h⟩ | ⟨d, h⟩ | ⟨d, h⟩
          · rcases h with ⟨-, z, -⟩ | ⟨-, -, z, -⟩ | ⟨-, -, -, z, -⟩ | ⟨-, -, -, z, -⟩ <;> exact absurd z (by omega)
          · rcases h with ⟨-, -, ⟨-, z, -⟩ | ⟨-, z, -⟩⟩ | ⟨-, ⟨-, z, -⟩ | ⟨-, -, z, -⟩ | ⟨-, -, z, -⟩⟩ <;> exact absurd z (by omega)
          · rcases h with ⟨-, z, -⟩ | ⟨-, -, z, -⟩ | ⟨-, -, z, -⟩ <;> exact absurd z (by omega)
          · rcases h with ⟨-, z, -⟩ | ⟨-, z, -⟩ <;> exact absurd z (by omega)
          · rcases h with ⟨-, z, -⟩ | ⟨-, z, -⟩ | ⟨-, -, z, -⟩ <;> exact absurd z (by omega)
          · rcases h with ⟨z, -, -⟩ | ⟨-, z, -⟩
            · exact ⟨d, z⟩
            · exact absurd z (by omega)
        rw [e5, pm_m1 (by omega)]
        simp only [eq_true d5.2, true_implies, not_true_eq_false, false_implies, true_and]
        exact hq _ s M2 (itT_app j s00 hit (itT_one hst)) hw d5.1 hm2 h302 hfr2
      · simp only [i10, true_implies, not_false_eq_true, false_implies, true_and]
        exact bad 1 (by omega) (by omega) hst
      · simp only [eq_false (show ¬ nI 2 = 0 by decide), true_implies, not_false_eq_true, false_implies, true_and]
        exact bad 2 (by omega) (by omega) hst
      · simp only [eq_false (show ¬ nI 3 = 0 by decide), true_implies, not_false_eq_true, false_implies, true_and]
        exact bad 3 (by omega) (by omega) hst
  unfold wX6_read
  refine ⟨t, h32, ht, t, ?_, ht, _, key 1001 0 _ 0 s00 (by omega) (Nat.zero_le _) ⟨rfl, rfl⟩ (wfS_0 n) ?_ ?_ ?_ ?_⟩
  · rw [mu_n1 _ _ _ _ (by omega)]; exact h32
  · refine ⟨?_, ?_, trivial, ?_, ?_, ?_, fun b hb => absurd hb (Nat.not_lt_zero b)⟩
    · rw [mu_n1 _ _ _ _ (by omega), mu_n1 _ _ _ _ (by omega), mu_n1 _ _ _ _ (by omega), mu_n1 _ _ _ _ (by omega), mu_n2 _ _ _ _ (by omega), mu_eq]; rfl
    · rw [mu_n1 _ _ _ _ (by omega), mu_n1 _ _ _ _ (by omega), mu_n1 _ _ _ _ (by omega), mu_n1 _ _ _ _ (by omega), mu_eq]; rfl
    · rw [mu_n2 _ _ _ _ (by omega), mu_n2 _ _ _ _ (by omega), mu_n2 _ _ _ _ (by omega), mu_n2 _ _ _ _ (by omega), mu_n1 _ _ _ _ (by omega), mu_n1 _ _ _ _ (by omega)]; exact h32
    · rw [mu_n2 _ _ _ _ (by omega), mu_n2 _ _ _ _ (by omega), mu_n2 _ _ _ _ (by omega), mu_eq]; rfl
    · rw [mu_n2 _ _ _ _ (by omega), mu_n2 _ _ _ _ (by omega), mu_eq]; rfl
  · rw [mu_eq]
  · rw [mu_n2 _ _ _ _ (by omega), mu_eq]; rfl
  · intro q a b
    rw [mu_oth a, mu_oth a, mu_oth a, mu_oth a, mu_oth (by omega), mu_oth (by omega)]
