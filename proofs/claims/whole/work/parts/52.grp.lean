/-! the reference: groups and children -/
theorem bxZ.cg {b : Nat} {s s' : Nat → Nat → Nat} {M M' : sy_M} (h : bxZ s M b) (h8 : s 5 b ≤ 8) (es : ∀ q, q ≠ 20 → s' q b = s q b) (e : ∀ q, 2 ≤ q → q ≤ 9 → M' q (41 + b) = M q (41 + b)) (e10 : M' 10 = M 10) : bxZ s' M' b := by
  obtain ⟨a2, a3, a4, a5, a6, a7, a8, a9, a10⟩ := h
  unfold bxZ
  rw [e 2 (by omega) (by omega), e 3 (by omega) (by omega), e 4 (by omega) (by omega), e 5 (by omega) (by omega), e 6 (by omega) (by omega), e 7 (by omega) (by omega), e 8 (by omega) (by omega), e 9 (by omega) (by omega), e10]
  rw [es 0 (by omega), es 1 (by omega), es 2 (by omega), es 3 (by omega), es 4 (by omega), es 5 (by omega), es 6 (by omega)]
  exact ⟨a2, a3, a4, a5, a6, a7, a8, a9, fun k hk => by rw [es (10 + k) (by omega)]; exact a10 k hk⟩
theorem mZ.ctl {M0 M : sy_M} {s s' : Nat → Nat → Nat} (hw : wfA (s 20 3) s) (h : mZ M0 s M) (es : ∀ q c, q ≠ 20 → s' q c = s q c) (e3 : s' 20 3 = s 20 3) : mZ M0 s' M := by
  obtain ⟨a, b, c, d⟩ := h
  refine ⟨a, b, by rw [c, e3], fun x hx => ?_⟩
  rw [e3] at hx
  exact (d x hx).cg (hw.2.2.2.1 x hx).2.2.2.2.1 (fun q hq => es q x hq) (fun _ _ _ => rfl) rfl
/-- a cell of a row of the new tree -/
theorem fpZ.up {M0 M : sy_M} {q r : Nat} {v : Int32} (h : fpZ M0 M) (q2 : 2 ≤ q) (q9 : q ≤ 9) (hr : 41 ≤ r) : fpZ M0 (mu M q r v) := by
  obtain ⟨a, b, c, d, e⟩ := h
  refine ⟨fun q' i h1 h2 h3 => ?_, fun i hi => ?_, ?_, fun q' hq => ?_, fun k h1 h2 h3 h4 h5 h6 h7 h8 => ?_⟩
  · rw [mu_n2 _ _ _ _ (by omega)]; exact a q' i h1 h2 h3
  · rw [mu_n1 _ _ _ _ (by omega)]; exact b i hi
  · rw [mu_oth (by omega)]; exact c
  · rw [mu_oth (by omega)]; exact d q' hq
  · rw [mu_n1 _ _ _ _ (by omega)]; exact e k h1 h2 h3 h4 h5 h6 h7 h8
theorem mZ_V {M0 M : sy_M} {n f : Nat} {bt : Nat → Nat} {s : Nat → Nat → Nat} (hw : wfS n s) (h : mZ M0 s M) (hd : s 20 1 = 1) : mZ M0 (sV bt n f s) (mu M 8 (40 + s 20 3) (nI (nuT bt f (ttT bt n f - f)))) := by
  obtain ⟨d1, d2, d3, d4⟩ := hw.2.2.2.2.2.2.2.2.1 hd
  obtain ⟨v0, v1, v2, v3, vo⟩ := sV_v bt n f s
  obtain ⟨a, b, c, d⟩ := h
  refine ⟨a.up (by omega) (by omega) (by omega), by rw [mu_n1 _ _ _ _ (by omega), b], by rw [mu_n1 _ _ _ _ (by omega), c, v3], fun x hx => ?_⟩
  rw [v3] at hx
  have h8 := (hw.1.2.2.2.1 x hx).2.2.2.2.1
  by_cases hxe : x = s 20 3 - 1
  · obtain ⟨a2, a3, a4, a5, a6, a7, a8, a9, a10⟩ := d x hx
    have y : ∀ q c, q ≠ 20 → q ≠ 4 → sV bt n f s q c = s q c := fun q c z1 z2 => by rw [vo q c z1, su_1 z2]
    unfold bxZ
    rw [y 0 _ (by omega) (by omega), y 1 _ (by omega) (by omega), y 2 _ (by omega) (by omega), y 3 _ (by omega) (by omega), y 5 _ (by omega) (by omega), y 6 _ (by omega) (by omega), vo 4 x (by omega), hxe, su_e, show 41 + (s 20 3 - 1) = 40 + s 20 3 by omega, mu_eq]
    rw [hxe, show 41 + (s 20 3 - 1) = 40 + s 20 3 by omega] at a2 a3 a4 a5 a6 a7 a8 a9 a10
    rw [mu_n1 _ _ _ _ (by omega), mu_n1 _ _ _ _ (by omega), mu_n1 _ _ _ _ (by omega), mu_n1 _ _ _ _ (by omega), mu_n1 _ _ _ _ (by omega), mu_n1 _ _ _ _ (by omega), mu_n1 _ _ _ _ (by omega)]
    refine ⟨a2, a3, a4, a5, a6, a7, rfl, a9, fun k hk => ?_⟩
    rw [mu_n1 _ _ _ _ (by omega), y (10 + k) _ (by rw [hxe] at h8; omega) (by omega)]
    exact a10 k hk
  · refine (d x hx).cg h8 (fun q hq => by rw [vo q x hq, su_2 hxe]) (fun q _ _ => by rw [mu_n2 _ _ _ _ (by omega)]) (mu_oth (by omega))
theorem mZ_H {M0 M : sy_M} {n f : Nat} {bt : Nat → Nat} {s : Nat → Nat → Nat} (hw : wfS n s) (h : mZ M0 s M) (hd : s 20 1 = 1) (hh : hwT bt n f ≠ 0) : mZ M0 (sH bt n f s) (mu (mu M 3 (40 + s 20 3) 1) 6 (40 + s 20 3) (pm (hwT bt n f))) := by
  obtain ⟨d1, d2, d3, d4⟩ := hw.2.2.2.2.2.2.2.2.1 hd
  obtain ⟨v0, v1, v2, v3, vo⟩ := sH_v bt n f s
  obtain ⟨a, b, c, d⟩ := h
  refine ⟨(a.up (by omega) (by omega) (by omega)).up (by omega) (by omega) (by omega), by rw [mu_n1 _ _ _ _ (by omega), mu_n1 _ _ _ _ (by omega), b], by rw [mu_n1 _ _ _ _ (by omega), mu_n1 _ _ _ _ (by omega), c, v3], fun x hx => ?_⟩
  rw [v3] at hx
  have h8 := (hw.1.2.2.2.1 x hx).2.2.2.2.1
  by_cases hxe : x = s 20 3 - 1
  · obtain ⟨a2, a3, a4, a5, a6, a7, a8, a9, a10⟩ := d x hx
    have y : ∀ q c, q ≠ 20 → q ≠ 1 → sH bt n f s q c = s q c := fun q c z1 z2 => by rw [vo q c z1, su_1 z2]
    unfold bxZ
    rw [y 0 _ (by omega) (by omega), y 2 _ (by omega) (by omega), y 3 _ (by omega) (by omega), y 4 _ (by omega) (by omega), y 5 _ (by omega) (by omega), y 6 _ (by omega) (by omega), vo 1 x (by omega), hxe, su_e, show 41 + (s 20 3 - 1) = 40 + s 20 3 by omega]
    rw [hxe, show 41 + (s 20 3 - 1) = 40 + s 20 3 by omega] at a2 a3 a4 a5 a6 a7 a8 a9 a10
    refine ⟨?_, ?_, ?_, ?_, fun _ => mu_eq _ _ _ _, ?_, ?_, ?_, fun k hk => ?_⟩
    · rw [mu_n1 _ _ _ _ (by omega), mu_n1 _ _ _ _ (by omega)]; exact a2
    · rw [mu_n1 _ _ _ _ (by omega), mu_eq]; unfold b01; rw [if_neg hh]
    · rw [mu_n1 _ _ _ _ (by omega), mu_n1 _ _ _ _ (by omega)]; exact a4
    · rw [mu_n1 _ _ _ _ (by omega), mu_n1 _ _ _ _ (by omega)]; exact a5
    · rw [mu_n1 _ _ _ _ (by omega), mu_n1 _ _ _ _ (by omega)]; exact a7
    · rw [mu_n1 _ _ _ _ (by omega), mu_n1 _ _ _ _ (by omega)]; exact a8
    · rw [mu_n1 _ _ _ _ (by omega), mu_n1 _ _ _ _ (by omega)]; exact a9
    · rw [mu_n1 _ _ _ _ (by omega), mu_n1 _ _ _ _ (by omega), y (10 + k) _ (by rw [hxe] at h8; omega) (by omega)]
      exact a10 k hk
  · refine (d x hx).cg h8 (fun q hq => by rw [vo q x hq, su_2 hxe]) (fun q _ _ => by rw [mu_n2 _ _ _ _ (by omega), mu_n2 _ _ _ _ (by omega)]) (by rw [mu_oth (by omega), mu_oth (by omega)])
theorem mZ_S {M0 M : sy_M} {n f : Nat} {bt : Nat → Nat} {s : Nat → Nat → Nat} (hw : wfS n s) (h : mZ M0 s M) (hd : s 20 1 = 2) : mZ M0 (sS bt n f s) (mu M 7 (40 + s 20 2) 1) := by
  have d1 := hw.2.2.2.2.2.2.2.2.2.1 (Or.inl hd)
  obtain ⟨v0, v1, v2, v3, vo⟩ := sS_v bt n f s
  obtain ⟨a, b, c, d⟩ := h
  refine ⟨a.up (by omega) (by omega) (by omega), by rw [mu_n1 _ _ _ _ (by omega), b], by rw [mu_n1 _ _ _ _ (by omega), c, v3], fun x hx => ?_⟩
  rw [v3] at hx
  have h8 := (hw.1.2.2.2.1 x hx).2.2.2.2.1
  by_cases hxe : x = s 20 2 - 1
  · obtain ⟨a2, a3, a4, a5, a6, a7, a8, a9, a10⟩ := d x hx
    have y : ∀ q c, q ≠ 20 → q ≠ 6 → sS bt n f s q c = s q c := fun q c z1 z2 => by rw [vo q c z1, su_1 z2]
    unfold bxZ
    rw [y 0 _ (by omega) (by omega), y 1 _ (by omega) (by omega), y 2 _ (by omega) (by omega), y 3 _ (by omega) (by omega), y 4 _ (by omega) (by omega), y 5 _ (by omega) (by omega), vo 6 x (by omega), hxe, su_e, show 41 + (s 20 2 - 1) = 40 + s 20 2 by omega, mu_eq]
    rw [hxe, show 41 + (s 20 2 - 1) = 40 + s 20 2 by omega] at a2 a3 a4 a5 a6 a7 a8 a9 a10
    rw [mu_n1 _ _ _ _ (by omega), mu_n1 _ _ _ _ (by omega), mu_n1 _ _ _ _ (by omega), mu_n1 _ _ _ _ (by omega), mu_n1 _ _ _ _ (by omega), mu_n1 _ _ _ _ (by omega), mu_n1 _ _ _ _ (by omega)]
    refine ⟨a2, a3, a4, a5, a6, rfl, a8, a9, fun k hk => ?_⟩
    rw [mu_n1 _ _ _ _ (by omega), y (10 + k) _ (by rw [hxe] at h8; omega) (by omega)]
    exact a10 k hk
  · refine (d x hx).cg h8 (fun q hq => by rw [vo q x hq, su_2 hxe]) (fun q _ _ => by rw [mu_n2 _ _ _ _ (by omega)]) (mu_oth (by omega))
theorem wantZ {M0 M : sy_M} {n f c : Nat} {bt : Nat → Nat} {s : Nat → Nat → Nat} {Q : sy_M → Prop} (tp0 : tpZ n bt M0) (h : mZ M0 s M) (hc : c = 40 ∨ c = 41 ∨ c = 44) (hk : tkZ bt n f M) (h1 : kcT bt n f = c + 1 → wX12_next M Q) (h0 : kcT bt n f ≠ c + 1 → ∀ M', erZ M0 f 1 M' → Q M') : wX12_want M (nI c) Q := by
  unfold wX12_want
  refine wellZ h ?_
  simp only [i10, true_implies, not_false_eq_true, false_implies, and_true]
  refine isZ (h.1.tp tp0) hc hk (fun z => ?_) (fun z => ?_)
  · simp only [i10, true_implies, not_false_eq_true, false_implies, true_and]
    exact h1 z
  · simp only [true_implies, not_true_eq_false, false_implies, and_true]
    exact failsZ (c := 1) h hk.1 (fun M' he => h0 z M' he)
theorem wantE {M0 M : sy_M} {f c : Nat} {a : Int32} {Q : sy_M → Prop} (h : erZ M0 f c M) (c1 : 1 ≤ c) (c3 : c ≤ 3) (hq : Q M) : wX12_want M a Q := by
  unfold wX12_want
  refine illZ h c1 c3 ?_
  simp only [true_implies, not_true_eq_false, false_implies, true_and]
  exact hq
def kpS (m : Nat) (s s' : Nat → Nat → Nat) : Prop := ∀ c, c < m → s' 0 c = s 0 c ∧ s' 3 c = s 3 c
/-- what a group does, D deep at most -/
def GS (bt : Nat → Nat) (n : Nat) (M0 : sy_M) (D : Nat) : Prop :=
  ∀ (M : sy_M) (s : Nat → Nat → Nat) (Q : sy_M → Prop), wfS n s → mZ M0 s M → tkZ bt n (tfT bt n (s 20 0)) M → s 20 1 = 1 → (srT bt n (tfT bt n (s 20 0)) ≠ 2 ∨ s 20 2 = 0) → 7 ≤ s 3 (s 20 3 - 1) + D →
    (∀ M' s' j, itT bt n j s 0 s' → wfS n s' → mZ M0 s' M' → tkZ bt n (tfT bt n (s' 20 0)) M' → s' 20 1 = (if s 20 2 = 0 then 5 else 4) → s' 20 2 = s 20 2 → s 20 3 ≤ s' 20 3 → kpS (s 20 3) s s' → Q M') →
    (∀ M' s' j c, itT bt n j s c s' → 1 ≤ c → c ≤ 3 → erZ M0 (tfT bt n (s' 20 0)) c M' → Q M') → wX12_group D M (nI (40 + s 20 3)) Q
theorem childZ {bt : Nat → Nat} {n D : Nat} {M0 M : sy_M} {s : Nat → Nat → Nat} {Q : sy_M → Prop} (tp0 : tpZ n bt M0) (ih : GS bt n M0 D) (hw : wfS n s) (h : mZ M0 s M) (hk : tkZ bt n (tfT bt n (s 20 0)) M) (hd : s 20 1 = 0) (hwi : s 20 2 ≠ 0) (hdp : 7 ≤ s 3 (s 20 2 - 1) + 1 + D)
    (h0 : ∀ M' s' j, itT bt n j s 0 s' → wfS n s' → mZ M0 s' M' → tkZ bt n (tfT bt n (s' 20 0)) M' → s' 20 1 = 4 → s' 20 2 = s 20 2 → s 20 3 < s' 20 3 → kpS (s 20 3) s s' → Q M')
    (hx : ∀ M' s' j c, itT bt n j s c s' → 1 ≤ c → c ≤ 3 → erZ M0 (tfT bt n (s' 20 0)) c M' → Q M') : wX12_child (wX12_group D) M (nI (40 + s 20 2)) Q := by
  unfold wX12_child
  have e : nI (40 + s 20 2) = (if s 20 2 = 0 then -1 else nI (40 + s 20 2)) := by rw [if_neg hwi]
  rw [e]
  refine newBoxZ tp0 hw h rfl hk hd (fun M1 hst hm1 hk1 => ?_) (fun M1 c c1 c3 hst he => ?_)
  · refine wellZ hm1 ?_
    simp only [i10, true_implies, not_false_eq_true, false_implies, and_true]
    have hw1 := (wfS_step hw hst).1
    generalize hs1 : sN bt n (tfT bt n (s 20 0)) s = s1 at *
    obtain ⟨v0, v1, v2, v3, vo⟩ := sN_v bt n (tfT bt n (s 20 0)) s
    rw [hs1] at v0 v1 v2 v3
    obtain ⟨w0, w1, w2, w3, w4, w5, w6⟩ := ad_new bt (tfT bt n (s 20 0)) (ttT bt n (tfT bt n (s 20 0)) - tfT bt n (s 20 0)) s
    have kp1 : kpS (s 20 3) s s1 := fun c hc => by
      rw [← hs1, vo 0 c (by omega), vo 3 c (by omega), ad_old (Or.inl (by omega)) (Or.inl (by omega)), ad_old (Or.inl (by omega)) (Or.inl (by omega))]
      exact ⟨rfl, rfl⟩
    have d3 : s1 3 (s 20 3) = s 3 (s 20 2 - 1) + 1 := by rw [← hs1, vo 3 _ (by omega), w3, if_neg hwi]
    have := sr_le bt n (tfT bt n (s1 20 0))
    have hnb1 := hw1.1.1
    rw [hk1.2.2.1, nI_eq (by omega) (by omega)]
    by_cases h2 : srT bt n (tfT bt n (s1 20 0)) = 2
    · simp only [eq_true h2, true_implies, not_true_eq_false, false_implies, true_and]
      obtain ⟨k1, k2⟩ := sr2.mp h2
      have hst1 := st1v (s := s1) rfl v1 k1 (by rw [v2]; exact hwi) k2
      have hws := (wfS_step hw1 hst1).1
      have hm2 := mZ_V (f := tfT bt n (s1 20 0)) (bt := bt) hw1 hm1 v1
      rw [ex_nI (by omega) (by omega), hk1.2.2.2.1 h2, show 41 + s 20 3 = 40 + s1 20 3 by omega]
      obtain ⟨u0, u1, u2, u3, uo⟩ := sV_v bt n (tfT bt n (s1 20 0)) s1
      refine stepZ tp0 hm2 ?_ hws.2.1 (fun M' g1 g2 => ?_)
      · rw [mu_n1 _ _ _ _ (by omega), hk1.2.1 (kc_kN k1).1, u0]
      · refine h0 M' _ (1 + 1) (itT_app 1 s (itT_one hst) (itT_one hst1)) hws g1 g2 u1 (by rw [u2, v2]) (by omega) (fun c hc => ?_)
        rw [uo 0 c (by omega), uo 3 c (by omega), su_1 (by omega), su_1 (by omega)]
        exact kp1 c hc
    · simp only [eq_false h2, true_implies, not_false_eq_true, false_implies, and_true]
      rw [show 41 + s 20 3 = 40 + s1 20 3 by omega]
      refine ih M1 s1 Q hw1 hm1 hk1 v1 (Or.inl h2) (by rw [v3, Nat.add_sub_cancel, d3]; omega) (fun M' s' j a1 a2 a3 a4 a5 a6 a7 a8 => ?_) (fun M' s' j c a1 a2 a3 a4 => ?_)
      · refine h0 M' s' (1 + j) (itT_app 1 s (itT_one hst) a1) a2 a3 a4 (by rw [a5, v2, if_neg hwi]) (by rw [a6, v2]) (by omega) (fun c hc => ?_)
        have := a8 c (by omega)
        rw [this.1, this.2]
        exact kp1 c hc
      · exact hx M' s' (1 + j) c (itT_app 1 s (itT_one hst) a1) a2 a3 a4
  · refine illZ he c1 c3 ?_
    simp only [true_implies, not_true_eq_false, false_implies, true_and]
    exact hx M1 s 1 c (itT_one hst) c1 c3 he
