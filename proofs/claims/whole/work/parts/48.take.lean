/-! the class takes a token -/
theorem bxX.cg {t b : Nat} {s s' : Nat → Nat → Nat} {M M' : sy_M} (h : bxX t s M b) (h8 : s 5 b ≤ 8) (es : ∀ q, q ≠ 20 → s' q b = s q b) (e : ∀ i, 1 ≤ i → i ≤ 9 → M' (t + i) b = M (t + i) b) (e10 : ∀ k, k < 8 → M' (t + 10) (8 * b + k) = M (t + 10) (8 * b + k)) : bxX t s' M' b := by
  obtain ⟨a1, a2, a3, a4, a5, a6, a7, a8, a9, a10⟩ := h
  refine ⟨?_, ?_, ?_, ?_, ?_, ?_, ?_, ?_, ?_, fun k hk => ?_⟩
  · rw [e 1 (by omega) (by omega), es 0 (by omega), a1]
  · rw [e 2 (by omega) (by omega), es 1 (by omega), a2]
  · rw [e 3 (by omega) (by omega), es 2 (by omega), a3]
  · rw [e 4 (by omega) (by omega), es 3 (by omega), a4]
  · rw [e 5 (by omega) (by omega), es 4 (by omega), a5]
  · rw [e 6 (by omega) (by omega), es 5 (by omega), a6]
  · rw [e 7 (by omega) (by omega), es 6 (by omega), a7]
  · rw [e 8 (by omega) (by omega), a8]
  · rw [e 9 (by omega) (by omega), a9]
  · rw [es 5 (by omega)] at hk
    rw [e10 k (by omega), es (10 + k) (by omega), a10 k hk]
/-- only what is due and within has changed -/
theorem mX.ctl {t : Nat} {s s' : Nat → Nat → Nat} {M M' : sy_M} (hw : wfA (s 20 3) s) (h : mX t s M) (es : ∀ q c, q ≠ 20 → s' q c = s q c) (e3 : s' 20 3 = s 20 3) (e : ∀ q, t ≤ q → M' q = M q) (x1 : M' 3 1 = M 3 1) (x2 : M' 3 2 = M 3 2) (x3 : M' 3 3 = nI (s' 20 1)) (x4 : M' 3 4 = pm (s' 20 2)) : mX t s' M' := by
  obtain ⟨m0, m1, m2, m3, m4, m5, m6⟩ := h
  refine ⟨?_, ?_, trivial, by rw [x2, m3], x3, x4, fun b hb => ?_⟩
  · rw [e t (by omega), e3, m0]
  · rw [e t (by omega), m1, e3]
    exact congrArg nI (smN_cg 0 _ (fun k _ _ => by rw [es 1 k (by omega)]))
  · rw [e3] at hb
    exact (m6 b hb).cg (hw.2.2.2.1 b hb).2.2.2.2.1 (fun q hq => es q b hq) (fun i _ _ => by rw [e (t + i) (by omega)]) (fun k _ => by rw [e (t + 10) (by omega)])
theorem takeNameX {M : sy_M} {t n : Nat} {bt : Nat → Nat} {s : Nat → Nat → Nat} {K : Int32 → sy_M → Prop} (ht : t = 60 ∨ t = 71) (tp : tpX n bt M) (hw : wfS n s) (m : mX t s M) (ld : ldX bt n s M) (hd : s 20 1 = 0)
    (h0 : ∀ s' M', stT bt n s 0 s' → mX t s' M' → (∀ k, k = 0 ∨ 5 ≤ k → M' 3 k = M 3 k) → fpX t M M' → K 0 M')
    (h1 : stT bt n s 1 s → K 1 M) (h2 : stT bt n s 2 s → K (nI 2) M) (h3 : stT bt n s 3 s → K (nI 3) M) : wX6_takeName M K := by
  have hn := tp.1
  obtain ⟨l5, l6, l7⟩ := ld
  obtain ⟨m0, m1, m2, m3, m4, m5, m6⟩ := m
  obtain ⟨ha, hc⟩ := hw
  have hfb := tfT_b bt hc.1
  generalize hfe : tfT bt n (s 20 0) = f at l5 l6 l7 hfb
  have htt := tt_le (bt := bt) hfb.2
  have hkc := kc_le (bt := bt) (n := n) (f := f) (fun i hi => (tp.2.2 i hi).1)
  have hnb := ha.1
  have hwi := hc.2.2.1
  unfold wX6_takeName
  rw [l5, pm_nI (by omega) (by omega)]
  by_cases hk : kcT bt n f = 98
  · simp only [eq_true hk, true_implies, not_true_eq_false, false_implies, true_and]
    rw [l6, l7, pk_sub (by omega), nI_ltI (by omega) (by omega)]
    by_cases hl : 8 < ttT bt n f - f
    · simp only [eq_true hl, true_implies, not_true_eq_false, false_implies, and_true]
      exact h1 (st0n hfe hd (fun z => by have := z.2.1; omega))
    · simp only [eq_false hl, not_false_eq_true, true_implies, false_implies, true_and]
      refine isWordX tp (by omega) hfb.2 l5 l6 l7 ?_
      by_cases hs : wdB bt n 0 f = true
      · rw [if_pos hs]
        simp only [i10, true_implies, not_false_eq_true, false_implies, and_true]
        exact h1 (st0n hfe hd (fun z => by have := z.2.2.1; rw [hs] at this; exact absurd this (by decide)))
      · rw [if_neg hs]
        simp only [true_implies, not_true_eq_false, false_implies, true_and]
        refine howX tp hfb.2 l5 l6 l7 ?_
        have hh4 := hwT_le bt n f
        rw [pm_m1 (by omega)]
        by_cases hh : hwT bt n f = 0
        · simp only [eq_true hh, true_implies, not_true_eq_false, false_implies, and_true]
          have hnm : nmT bt n f := ⟨hk, by omega, by simpa using hs, hh⟩
          obtain ⟨hfn, hk'⟩ := kc_kN hk
          have htb := ttT_b bt hfn
          refine ⟨t, m3, ht, ?_⟩
          rw [m0, nI_leI (by omega) (by omega)]
          by_cases h40 : 40 ≤ s 20 3
          · simp only [eq_true h40, true_implies, not_true_eq_false, false_implies, and_true]
            exact h2 (st0m hfe hd hnm (Or.inl h40))
          · simp only [eq_false h40, not_false_eq_true, true_implies, false_implies, true_and]
            refine ⟨t, m3, ht, ?_⟩
            have fin : ¬ liT s → wX6_takeName_87 K M := by
              intro hli
              unfold wX6_takeName_87
              refine ⟨t, m3, ht, ?_⟩
              rw [l6, l7]
              refine findX (T := s) (V := fun b k => s (10 + k) b) m0 hnb tp.2.1 hn (by omega) htb.2.1 (fun b hb => ?_) (fun b hb e1 e2 _ => ?_) (fun hno => ?_)
              · have q := ha.2.2.2.1 b hb
                exact ⟨q.2.2.2.2.1, (m6 b hb).2.2.2.2.2.1, fun k hk => ⟨by have := q.2.2.2.2.2.2.2.2 k hk; omega, (m6 b hb).2.2.2.2.2.2.2.2.2 k hk⟩⟩
              · have nb1 : ¬ nI b = -1 := nI_ne_m1 (by omega)
                simp only [eq_false nb1, not_false_eq_true, true_implies, false_implies, true_and]
                refine h3 (st0k hfe hd hnm hli ⟨b, hb, e1, fun k hk => ?_⟩)
                have := e2 k (by omega)
                rw [(tp.2.2 (f + k) (by omega)).2] at this
                exact this.symm
              · simp only [true_implies, not_true_eq_false, false_implies, and_true]
                refine ⟨t, m3, ht, ?_⟩
                rw [m5, l6, l7]
                have hlt : ∀ k, k < ttT bt n f - f → bt (f + k) < 128 := by
                  intro k hk
                  have := htb.2.2 (f + k) (by omega) (by omega)
                  rw [hk'] at this
                  have := kN_97.mp this
                  omega
                refine adbX ht tp hfn (by omega) hlt m0 (by omega) hwi ?_
                intro M' g0 g01 g1 g2 g3 g4 g4' g5 g6 g7 g8 g9 g10 go go2 gk gf
                have hkn : ¬ knT bt n f s := by
                  rintro ⟨b, hb, e1, e2⟩
                  refine hno b hb ⟨e1, fun k hk => ?_⟩
                  rw [(tp.2.2 (f + k) (by omega)).2]
                  exact (e2 k (by omega)).symm
                obtain ⟨v0, v1, v2, v3, vo⟩ := sN_v bt n f s
                obtain ⟨w0, w1, w2, w3, w4, w5, w6⟩ := ad_new bt f (ttT bt n f - f) s
                have f3 : M' 3 = M 3 := gf 3 (by omega)
                refine h0 (sN bt n f s) _ (st0 hfe hd hnm hli hkn) ?_ ?_ ?_
                · have z : ∀ q c, q ≠ 3 → mu M' 3 3 (1 : Int32) q c = M' q c := fun q c hq => mu_n1 _ _ _ _ hq
                  refine ⟨?_, ?_, ?_, ?_, ?_, ?_, fun b hb => ?_⟩
                  · rw [z t 0 (by omega), g0, v3]
                  · rw [z t 1 (by omega), g01, m1, v3, smN]
                    have e : smN (fun c => decide (sN bt n f s 1 c ≠ 0)) 0 (s 20 3) = smN (fun c => decide (s 1 c ≠ 0)) 0 (s 20 3) := by
                      refine smN_cg 0 _ (fun k _ hk => ?_)
                      rw [vo 1 k (by omega), ad_old (Or.inl (by omega)) (Or.inl (by omega))]
                    rw [e, Nat.zero_add, vo 1 _ (by omega), w1]
                    rfl
                  · trivial
                  · rw [mu_n2 _ _ _ _ (by omega), f3, m3]
                  · rw [mu_eq, v1]; rfl
                  · rw [mu_n2 _ _ _ _ (by omega), f3, m5, v2]
                  · rw [v3] at hb
                    unfold bxX
                    by_cases hbn : b = s 20 3
                    · subst hbn
                      rw [z _ _ (by omega), z _ _ (by omega), z _ _ (by omega), z _ _ (by omega), z _ _ (by omega), z _ _ (by omega), z _ _ (by omega), z _ _ (by omega), z _ _ (by omega)]
                      rw [vo 0 _ (by omega), vo 1 _ (by omega), vo 2 _ (by omega), vo 3 _ (by omega), vo 4 _ (by omega), vo 5 _ (by omega), vo 6 _ (by omega), w0, w1, w2, w3, w4, w5, w6]
                      refine ⟨g1, g2, g3, ?_, g5, g6, g7, g8, g9, fun k hk => ?_⟩
                      · by_cases hw0 : s 20 2 = 0
                        · rw [if_pos hw0, g4 hw0]; rfl
                        · rw [if_neg hw0, g4' hw0, (m6 (s 20 2 - 1) (by omega)).2.2.2.1, nI_1]
                      · rw [z _ _ (by omega), vo _ _ (by omega), ad_let (by omega), g10 k hk]
                    · have hb' : b < s 20 3 := by omega
                      have q := m6 b hb'
                      have o : ∀ q, q ≠ 20 → q ≠ 2 → sN bt n f s q b = s q b := fun q z1 z2 => by rw [vo q b z1, ad_old (Or.inl hbn) (Or.inl z2)]
                      obtain ⟨a1, a2, a3, a4, a5, a6, a7, a8, a9, a10⟩ := q
                      have h8 := (ha.2.2.2.1 b hb').2.2.2.2.1
                      rw [z _ _ (by omega), z _ _ (by omega), z _ _ (by omega), z _ _ (by omega), z _ _ (by omega), z _ _ (by omega), z _ _ (by omega), z _ _ (by omega), z _ _ (by omega)]
                      rw [o 0 (by omega) (by omega), o 1 (by omega) (by omega), o 3 (by omega) (by omega), o 4 (by omega) (by omega), o 5 (by omega) (by omega), o 6 (by omega) (by omega)]
                      refine ⟨?_, ?_, ?_, ?_, ?_, ?_, ?_, ?_, ?_, fun k hk => ?_⟩
                      · rw [go2 1 b (by omega) (by omega) hb' (by omega), a1]
                      · rw [go2 2 b (by omega) (by omega) hb' (by omega), a2]
                      · by_cases hbw : b + 1 = s 20 2
                        · have e : b = s 20 2 - 1 := by omega
                          rw [vo 2 b (by omega), ad_kid hbn hbw]
                          rw [← nI_1, ← a3, e]
                          exact gk (by omega)
                        · rw [go2 3 b (by omega) (by omega) hb' (Or.inr hbw), vo 2 b (by omega), ad_old (Or.inl hbn) (Or.inr hbw), a3]
                      · rw [go2 4 b (by omega) (by omega) hb' (by omega), a4]
                      · rw [go2 5 b (by omega) (by omega) hb' (by omega), a5]
                      · rw [go2 6 b (by omega) (by omega) hb' (by omega), a6]
                      · rw [go2 7 b (by omega) (by omega) hb' (by omega), a7]
                      · rw [go2 8 b (by omega) (by omega) hb' (by omega), a8]
                      · rw [go2 9 b (by omega) (by omega) hb' (by omega), a9]
                      · rw [z _ _ (by omega), go _ (by omega), o _ (by omega) (by omega), a10 k hk]
                · intro k hk
                  rw [mu_n2 _ _ _ _ (by omega), f3]
                · intro q q3 qt
                  rw [mu_oth q3, gf q qt]
            rw [m5]
            by_cases hw0 : s 20 2 = 0
            · rw [hw0, pm_0, has_n m0 (fun z => by obtain ⟨b, hb, e⟩ := z; exact nI_ne_m1 (by omega) e.symm) (by omega)]
              simp only [true_implies, not_true_eq_false, false_implies, and_true]
              exact fin (fun z => by rcases z with z | z <;> omega)
            · obtain ⟨g, hg⟩ : ∃ g, s 20 2 = g + 1 := ⟨s 20 2 - 1, by omega⟩
              rw [hg, pm_s, has_y m0 (by omega) (by omega)]
              simp only [i10, true_implies, not_false_eq_true, false_implies, true_and]
              refine ⟨t, m3, ht, ?_⟩
              have q2 := (ha.2.2.2.1 g (by omega)).2.1
              rw [m5, hg, pm_s, ex_nI (by omega) (by omega), (m6 g (by omega)).2.2.1, nI_ltI (by omega) (by omega)]
              by_cases h8 : s 2 g < 8
              · simp only [eq_true h8, true_implies, not_true_eq_false, false_implies, and_true]
                refine fin (fun z => ?_)
                rcases z with z | z
                · omega
                · rw [hg, Nat.add_sub_cancel] at z; omega
              · simp only [eq_false h8, true_implies, not_false_eq_true, false_implies, true_and]
                exact h2 (st0m hfe hd hnm (Or.inr ⟨by omega, by rw [hg, Nat.add_sub_cancel]; omega⟩))
        · simp only [eq_false hh, not_false_eq_true, true_implies, false_implies, true_and]
          exact h1 (st0n hfe hd (fun z => hh z.2.2.2))
  · simp only [eq_false hk, not_false_eq_true, true_implies, false_implies, and_true]
    exact h1 (st0n hfe hd (fun z => hk z.1))
