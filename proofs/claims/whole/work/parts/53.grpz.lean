/-! the reference: all of a group -/
theorem endE {bt : Nat → Nat} {n D r f c : Nat} {M0 M : sy_M} {a : Int32} {Q : sy_M → Prop} (h : erZ M0 f c M) (c1 : 1 ≤ c) (c3 : c ≤ 3) (hq : Q M) : wX12_group_83 (wX12_group D) Q (r + 1) M a 0 := by
  rw [wX12_group_83]
  simp only [true_implies, not_true_eq_false, false_implies, and_true]
  exact wantE h c1 c3 hq
theorem kidsZ {bt : Nat → Nat} {n D : Nat} {M0 : sy_M} {s0 : Nat → Nat → Nat} {Q : sy_M → Prop} (tp0 : tpZ n bt M0) (ih : GS bt n M0 D) (hp0 : 0 < s0 20 3) (hs0 : s0 0 (s0 20 3 - 1) = s0 20 2) (hdp : 7 ≤ s0 3 (s0 20 3 - 1) + 1 + D)
    (h0 : ∀ M' s' j, itT bt n j s0 0 s' → wfS n s' → mZ M0 s' M' → tkZ bt n (tfT bt n (s' 20 0)) M' → s' 20 1 = (if s0 20 2 = 0 then 5 else 4) → s' 20 2 = s0 20 2 → s0 20 3 ≤ s' 20 3 → kpS (s0 20 3) s0 s' → Q M')
    (hx : ∀ M' s' j c, itT bt n j s0 c s' → 1 ≤ c → c ≤ 3 → erZ M0 (tfT bt n (s' 20 0)) c M' → Q M') :
    ∀ r M s j, 41 ≤ s 20 3 + r → itT bt n j s0 0 s → wfS n s → mZ M0 s M → tkZ bt n (tfT bt n (s 20 0)) M → s 20 1 = 0 → s 20 2 = s0 20 3 → s0 20 3 ≤ s 20 3 → kpS (s0 20 3) s0 s → wX12_group_83 (wX12_group D) Q (r + 1) M (nI (40 + s0 20 3)) 1 := by
  intro r
  induction r with
  | zero =>
    intro M s j hr _ hw _ _ _ _ _ _
    have := hw.1.1
    omega
  | succ r ihr =>
    intro M s j hr hit hw hm hk hd hwi hle hkp
    rw [wX12_group_83]
    simp only [i10, true_implies, not_false_eq_true, false_implies, true_and]
    rw [← hwi]
    refine childZ tp0 ih hw hm hk hd (by omega) (by rw [hwi, (hkp (s0 20 3 - 1) (by omega)).2]; exact hdp) (fun M1 s1 j1 a1 a2 a3 a4 a5 a6 a7 a8 => ?_) (fun M1 s1 j1 c a1 a2 a3 a4 => ?_)
    · have hit1 := itT_app j s0 hit a1
      have kp1 : kpS (s0 20 3) s0 s1 := fun c hc => by
        have q1 := a8 c (by omega)
        have q2 := hkp c hc
        rw [q1.1, q1.2]; exact q2
      refine wellZ a3 ?_
      simp only [i10, true_implies, not_false_eq_true, false_implies, true_and]
      refine isZ (a3.1.tp tp0) (Or.inr (Or.inr rfl)) a4 (fun z => ?_) (fun z => ?_)
      · simp only [i10, true_implies, not_false_eq_true, false_implies, true_and]
        unfold wX12_group_113
        simp only [i10, true_implies, not_false_eq_true, false_implies, true_and]
        have hst := st4o (s := s1) rfl a5 z
        have hws := (wfS_step a2 hst).1
        obtain ⟨v0, v1, v2, v3, vo⟩ := sO_v bt n (tfT bt n (s1 20 0)) s1
        refine stepZ tp0 (a3.ctl a2.1 vo v3) (by rw [a4.2.1 (kc_kN z).1, v0]) hws.2.1 (fun M2 g1 g2 => ?_)
        rw [hwi]
        refine ihr M2 _ _ (by omega) (itT_app _ s0 hit1 (itT_one hst)) hws g1 g2 v1 (by rw [v2, a6, hwi]) (by omega) (fun c hc => ?_)
        rw [vo 0 c (by omega), vo 3 c (by omega)]
        exact kp1 c hc
      · simp only [true_implies, not_true_eq_false, false_implies, and_true]
        unfold wX12_group_112 wX12_group_113
        simp only [true_implies, not_true_eq_false, false_implies, and_true]
        obtain ⟨r', hr'⟩ : ∃ r', r + 1 = r' + 1 := ⟨r, rfl⟩
        rw [wX12_group_83]
        simp only [true_implies, not_true_eq_false, false_implies, and_true]
        refine wantZ tp0 a3 (Or.inr (Or.inl rfl)) a4 (fun y => ?_) (fun y M2 he => ?_)
        · have hst := st4e (s := s1) rfl a5 y
          have hws := (wfS_step a2 hst).1
          obtain ⟨v0, v1, v2, v3, vo⟩ := sE_v bt n (tfT bt n (s1 20 0)) s1
          have e : s1 0 (s1 20 2 - 1) = s0 20 2 := by rw [a6, hwi, (kp1 (s0 20 3 - 1) (by omega)).1, hs0]
          rw [e] at v1 v2
          refine stepZ tp0 (a3.ctl a2.1 vo v3) (by rw [a4.2.1 (kc_kN y).1, v0]) hws.2.1 (fun M2 g1 g2 => ?_)
          refine h0 M2 _ _ (itT_app _ s0 hit1 (itT_one hst)) hws g1 g2 v1 v2 (by omega) (fun c hc => ?_)
          rw [vo 0 c (by omega), vo 3 c (by omega)]
          exact kp1 c hc
        · exact hx M2 s1 _ 1 (itT_app _ s0 hit1 (itT_one (st4n rfl a5 y z))) (by omega) (by omega) he
    · refine illZ a4 a2 a3 ?_
      simp only [true_implies, not_true_eq_false, false_implies, and_true]
      unfold wX12_group_112 wX12_group_113
      simp only [true_implies, not_true_eq_false, false_implies, and_true]
      exact endE (bt := bt) (n := n) a4 a2 a3 (hx M1 s1 _ c (itT_app j s0 hit a1) a2 a3 a4)
theorem GS_all {bt : Nat → Nat} {n : Nat} {M0 : sy_M} (tp0 : tpZ n bt M0) : ∀ D, GS bt n M0 D := by
  intro D
  induction D with
  | zero =>
    intro M s Q hw hm hk hd hn2 hdp h0 hx
    have d1 := (hw.2.2.2.2.2.2.2.2.1 hd).1
    have := (hw.1.2.2.2.1 (s 20 3 - 1) (by omega)).2.2.2.2.2.2.1
    omega
  | succ D ih =>
    intro M s Q hw hm hk hd hn2 hdp h0 hx
    have tp := hm.1.tp tp0
    have hnb := hw.1.1
    obtain ⟨d1, d2, d3, d4⟩ := hw.2.2.2.2.2.2.2.2.1 hd
    have h6 := (hw.1.2.2.2.1 (s 20 3 - 1) (by omega)).2.2.2.2.2.2.1
    have hh4 := hwT_le bt n (tfT bt n (s 20 0))
    rw [wX12_group]
    unfold wX12_group_b
    refine howZ tp hk ?_
    rw [pm_m1 (by omega)]
    by_cases hh : hwT bt n (tfT bt n (s 20 0)) = 0
    · simp only [eq_true hh, true_implies, not_true_eq_false, false_implies, true_and]
      refine failsZ (c := 1) hm hk.1 (fun M' he => ?_)
      refine hx M' s 1 1 (itT_one ?_) (by omega) (by omega) he
      by_cases h49 : kcT bt n (tfT bt n (s 20 0)) = 49 ∧ s 20 2 ≠ 0
      · refine st1l rfl hd h49.1 h49.2 ?_
        rcases hn2 with z | z
        · rw [Ne, sr2] at z
          by_cases y : ttT bt n (tfT bt n (s 20 0)) - tfT bt n (s 20 0) ≤ 6
          · exact absurd ⟨h49.1, y⟩ z
          · omega
        · exact absurd z h49.2
      · exact st1n rfl hd h49 hh
    · have h49 : ¬ (kcT bt n (tfT bt n (s 20 0)) = 49 ∧ s 20 2 ≠ 0) := by
        intro z
        have := hwT_kc hh
        omega
      simp only [eq_false hh, true_implies, not_false_eq_true, false_implies, and_true]
      have e5 : M 5 (40 + s 20 3) = nI (s 3 (s 20 3 - 1)) := by
        have := (hm.2.2.2 (s 20 3 - 1) (by omega)).2.2.2.1
        rw [show 41 + (s 20 3 - 1) = 40 + s 20 3 by omega] at this
        exact this
      rw [ex_nI (by omega) (by omega), e5, nI_eq (by omega) (by omega)]
      by_cases hs6 : s 3 (s 20 3 - 1) = 6
      · simp only [eq_true hs6, true_implies, not_true_eq_false, false_implies, true_and]
        refine failsZ (c := 2) hm hk.1 (fun M' he => ?_)
        exact hx M' s 1 2 (itT_one (st1m rfl hd h49 hh (by omega))) (by omega) (by omega) he
      · simp only [eq_false hs6, true_implies, not_false_eq_true, false_implies, and_true]
        have hst := st1h (s := s) rfl hd h49 hh (by omega)
        have hws := (wfS_step hw hst).1
        have hmH := mZ_H (f := tfT bt n (s 20 0)) (bt := bt) hw hm hd hh
        obtain ⟨v0, v1, v2, v3, vo⟩ := sH_v bt n (tfT bt n (s 20 0)) s
        have hfn := (kc_kN (hwT_kc hh)).1
        rw [nar01 (Or.inr rfl)]
        refine howZ (n := n) (f := tfT bt n (s 20 0)) (bt := bt) ?_ ?_ ?_
        · exact tp.cg (mu_n1 _ _ _ _ (by omega)) (mu_oth (by omega))
        · obtain ⟨k7, k6, k8, k9, k4⟩ := hk
          refine ⟨?_, fun z => ?_, ?_, fun z => ?_, fun z => ?_⟩ <;> rw [mu_n1 _ _ _ _ (by omega)]
          · exact k7
          · exact k6 z
          · exact k8
          · exact k9 z
          · exact k4 z
        · refine stepZ tp0 hmH ?_ hws.2.1 (fun M1 g1 g2 => ?_)
          · rw [mu_n1 _ _ _ _ (by omega), mu_n1 _ _ _ _ (by omega), hk.2.1 hfn, v0]
          · have kpH : kpS (s 20 3) s (sH bt n (tfT bt n (s 20 0)) s) := fun c _ => by
              rw [vo 0 c (by omega), vo 3 c (by omega), su_1 (by omega), su_1 (by omega)]; exact ⟨rfl, rfl⟩
            have hit1 := itT_one hst
            generalize sH bt n (tfT bt n (s 20 0)) s = s1 at *
            -- the opening, from a state with 2 or 3 due
            have opn : ∀ M2 s2 j2, itT bt n j2 s 0 s2 → wfS n s2 → mZ M0 s2 M2 → tkZ bt n (tfT bt n (s2 20 0)) M2 → ((s2 20 1 = 2 ∧ wdB bt n 0 (tfT bt n (s2 20 0)) = false) ∨ s2 20 1 = 3) → s2 20 2 = s 20 3 → s2 20 3 = s 20 3 → kpS (s 20 3) s s2 → wX12_group_72 (wX12_group D) Q M2 (nI (40 + s 20 3)) := by
              intro M2 s2 j2 b1 b2 b3 b4 b5 b6 b7 b8
              unfold wX12_group_72
              refine wantZ tp0 b3 (Or.inl rfl) b4 (fun z => ?_) (fun z M3 he => ?_)
              · have hst2 : stT bt n s2 0 (sO bt n (tfT bt n (s2 20 0)) s2) := by
                  rcases b5 with b5 | b5
                  · exact st2o rfl b5.1 b5.2 z
                  · exact st3o rfl b5 z
                have hws2 := (wfS_step b2 hst2).1
                obtain ⟨u0, u1, u2, u3, uo⟩ := sO_v bt n (tfT bt n (s2 20 0)) s2
                refine stepZ tp0 (b3.ctl b2.1 uo u3) (by rw [b4.2.1 (kc_kN z).1, u0]) hws2.2.1 (fun M3 q1 q2 => ?_)
                refine wellZ q1 ?_
                refine ⟨_, kidsZ tp0 ih d1 d3 (by omega) h0 hx 41 M3 _ _ (by omega) (itT_app _ s b1 (itT_one hst2)) hws2 q1 q2 u1 (by rw [u2, b6]) (by omega) (fun c hc => ?_)⟩
                rw [uo 0 c (by omega), uo 3 c (by omega)]
                exact b8 c hc
              · refine illZ he (by omega) (by omega) ⟨1, ?_⟩
                have hst2 : stT bt n s2 1 s2 := by
                  rcases b5 with b5 | b5
                  · exact st2n rfl b5.1 b5.2 z
                  · exact st3n rfl b5 z
                exact endE (bt := bt) (n := n) he (by omega) (by omega) (hx M3 s2 _ 1 (itT_app _ s b1 (itT_one hst2)) (by omega) (by omega) he)
            refine isWordZ (g1.1.tp tp0) (by omega) g2 ?_
            by_cases hso : wdB bt n 0 (tfT bt n (s1 20 0)) = true
            · rw [if_pos hso]
              simp only [i10, true_implies, not_false_eq_true, false_implies, true_and]
              have hst2 := st2s (s := s1) rfl v1 hso
              have hws2 := (wfS_step hws hst2).1
              have hmS := mZ_S (f := tfT bt n (s1 20 0)) (bt := bt) hws g1 v1
              obtain ⟨u0, u1, u2, u3, uo⟩ := sS_v bt n (tfT bt n (s1 20 0)) s1
              rw [v2] at hmS
              refine stepZ tp0 hmS ?_ hws2.2.1 (fun M2 q1 q2 => ?_)
              · rw [mu_n1 _ _ _ _ (by omega), g2.2.1 (kc_kN (wdB_kc hso)).1, u0]
              · refine opn M2 _ _ (itT_app 1 s hit1 (itT_one hst2)) hws2 q1 q2 (Or.inr u1) (by rw [u2, v2]) (by rw [u3, v3]) (fun c hc => ?_)
                rw [uo 0 c (by omega), uo 3 c (by omega), su_1 (by omega), su_1 (by omega)]
                exact kpH c hc
            · rw [if_neg hso]
              simp only [true_implies, not_true_eq_false, false_implies, and_true]
              exact opn M1 s1 1 hit1 hws g1 g2 (Or.inl ⟨v1, by simpa using hso⟩) v2 v3 kpH
