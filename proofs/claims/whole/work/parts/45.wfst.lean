/-! a token taken well: the shape stays, the place grows -/
theorem hwT_le (bt : Nat → Nat) (n f : Nat) : hwT bt n f ≤ 4 := by
  unfold hwT
  repeat' split
  all_goals omega
theorem wdB_kc {bt : Nat → Nat} {n w f : Nat} (h : wdB bt n w f = true) : kcT bt n f = 98 := by
  unfold wdB at h
  rw [Bool.and_eq_true] at h
  exact of_decide_eq_true h.1
theorem hwT_kc {bt : Nat → Nat} {n f : Nat} (h : hwT bt n f ≠ 0) : kcT bt n f = 98 := by
  unfold hwT at h
  by_cases h1 : wdB bt n 1 f = true
  · exact wdB_kc h1
  · by_cases h2 : wdB bt n 2 f = true
    · exact wdB_kc h2
    · by_cases h3 : wdB bt n 3 f = true
      · exact wdB_kc h3
      · by_cases h4 : wdB bt n 4 f = true
        · exact wdB_kc h4
        · rw [if_neg h1, if_neg h2, if_neg h3, if_neg h4] at h
          exact absurd rfl h
theorem nu_le {bt : Nat → Nat} {n f : Nat} (hk : kcT bt n f = 49) (hl : ttT bt n f - f ≤ 6) : nuT bt f (ttT bt n f - f) ≤ 999999 := by
  obtain ⟨hf, hk⟩ := kc_kN hk
  obtain ⟨t1, t2, t3⟩ := ttT_b bt hf
  have := nuT_lt (bt := bt) (f := f) (ttT bt n f - f) (fun i hi => by
    have := t3 (f + i) (by omega) (by omega)
    rw [hk] at this
    have := kN_48.mp this
    omega)
  have h2 : 10 ^ (ttT bt n f - f) ≤ 10 ^ 6 := Nat.pow_le_pow_right (by omega) hl
  omega
theorem wfS_step {bt : Nat → Nat} {n : Nat} {s s' : Nat → Nat → Nat} (h : wfS n s) (hs : stT bt n s 0 s') : wfS n s' ∧ s 20 0 < s' 20 0 ∧ kcT bt n (tfT bt n (s 20 0)) ≠ 0 ∧ s' 20 0 = ttT bt n (tfT bt n (s 20 0)) := by
  obtain ⟨ha, hc⟩ := h
  have hc0 := hc
  obtain ⟨c1, c2, c3, c4, c5, c6, c7, c8, c9, c10, c11⟩ := hc
  have hfb := tfT_b bt c1
  unfold stT at hs
  dsimp only at hs
  generalize hfe : tfT bt n (s 20 0) = f at hs hfb ⊢
  have key : ∀ q : kcT bt n f ≠ 0, f < n ∧ s 20 0 < ttT bt n f ∧ ttT bt n f ≤ n := by
    intro q
    have h1 := kc_lt q
    have h2 := ttT_b bt h1
    exact ⟨h1, by omega, h2.2.1⟩
  rcases hs with ⟨d, hs⟩ | ⟨d, hs⟩ | ⟨d, hs⟩ | ⟨d, hs⟩ | ⟨d, hs⟩ | ⟨d, hs⟩
  · rcases hs with ⟨-, z, -⟩ | ⟨-, -, z, -⟩ | ⟨-, -, -, z, -⟩ | ⟨a1, a2, a3, -, e⟩
    · exact absurd z (by omega)
    · exact absurd z (by omega)
    · exact absurd z (by omega)
    · have hk : kcT bt n f ≠ 0 := by rw [a1.1]; omega
      obtain ⟨k1, k2, k3⟩ := key hk
      have hA := wfA_ad ha hc0 d k1 a1 a2 a3
      obtain ⟨w0, w1, w2, w3, w4, w5, w6⟩ := ad_new bt f (ttT bt n f - f) s
      have o1 : ∀ c, c ≠ s 20 3 → adS bt f (ttT bt n f - f) s 1 c = s 1 c := fun c z => ad_old (Or.inl z) (Or.inl (by omega))
      have o2 : ∀ c, c < s 20 3 → s 2 c ≤ adS bt f (ttT bt n f - f) s 2 c ∧ (c + 1 = s 20 2 → 1 ≤ adS bt f (ttT bt n f - f) s 2 c) := by
        intro c z
        by_cases hz : c + 1 = s 20 2
        · rw [ad_kid (by omega) hz]; omega
        · rw [ad_old (Or.inl (by omega)) (Or.inr hz)]; exact ⟨Nat.le_refl _, fun z => absurd z hz⟩
      have e0 : s' 20 0 = ttT bt n f := by rw [e, su_2 (by omega), su_2 (by omega), su_e]
      have e1 : s' 20 1 = 1 := by rw [e, su_2 (by omega), su_e]
      have e2 : s' 20 2 = s 20 2 := by rw [e, su_2 (by omega), su_2 (by omega), su_2 (by omega), ad_old (Or.inr (by omega)) (Or.inl (by omega))]
      have e3 : s' 20 3 = s 20 3 + 1 := by rw [e, su_e]
      have eo : ∀ q c, q ≠ 20 → s' q c = adS bt f (ttT bt n f - f) s q c := fun q c z => by rw [e, su_1 z, su_1 z, su_1 z]
      refine ⟨⟨?_, ?_⟩, by omega, hk, e0⟩
      · rw [e3]; exact hA.cg eo
      · unfold wfC
        rw [e0, e1, e2, e3]
        refine ⟨k3, by omega, by omega, fun z => by omega, fun _ => ?_, fun z => ?_, fun z => by omega, fun _ => ⟨by omega, ?_, ?_, ?_⟩, fun z => by omega, fun z => by omega, fun b hb hg => ?_⟩
        · by_cases z : s 20 3 = 0
          · right; exact ⟨rfl, by omega⟩
          · left
            rw [eo 1 0 (by omega), o1 0 (by omega)]
            rcases c5 (by omega) with y | y
            · exact y
            · omega
        · rw [eo 1 _ (by omega), o1 _ (by omega)]; exact c6 z
        · rw [eo 1 _ (by omega), Nat.add_sub_cancel, w1]
        · rw [eo 0 _ (by omega), Nat.add_sub_cancel, w0]
        · rw [eo 4 _ (by omega), Nat.add_sub_cancel, w4]
        · rw [eo 1 _ (by omega)] at hg
          rw [eo 2 _ (by omega)]
          by_cases hbn : b = s 20 3
          · rw [hbn] at hg; exact absurd w1 hg
          · rw [o1 b hbn] at hg
            have hb' : b < s 20 3 := by omega
            have y := o2 b hb'
            rcases c11 b hb' hg with z | z
            · left; omega
            · left; exact y.2 z.1
  · rcases hs with ⟨a1, a2, hs⟩ | ⟨a1, hs⟩
    · rcases hs with ⟨-, z, -⟩ | ⟨a3, -, e⟩
      · exact absurd z (by omega)
      · have hk : kcT bt n f ≠ 0 := by rw [a1]; omega
        obtain ⟨k1, k2, k3⟩ := key hk
        obtain ⟨d1, d2, d3, d4⟩ := c8 d
        have hA := wfA_num (b := s 20 3 - 1) (v := nuT bt f (ttT bt n f - f)) ha d2 (nu_le a1 a3)
        have e0 : s' 20 0 = ttT bt n f := by rw [e, su_2 (by omega), su_e]
        have e1 : s' 20 1 = 4 := by rw [e, su_e]
        have e2 : s' 20 2 = s 20 2 := by rw [e, su_2 (by omega), su_2 (by omega), su_1 (by omega)]
        have e3 : s' 20 3 = s 20 3 := by rw [e, su_2 (by omega), su_2 (by omega), su_1 (by omega)]
        have eo : ∀ q c, q ≠ 20 → s' q c = su s 4 (s 20 3 - 1) (nuT bt f (ttT bt n f - f)) q c := fun q c z => by rw [e, su_1 z, su_1 z]
        have eo1 : ∀ c, s' 1 c = s 1 c := fun c => by rw [eo 1 c (by omega), su_1 (by omega)]
        have eo2 : ∀ c, s' 2 c = s 2 c := fun c => by rw [eo 2 c (by omega), su_1 (by omega)]
        refine ⟨⟨?_, ?_⟩, by omega, hk, e0⟩
        · rw [e3]; exact hA.cg eo
        · unfold wfC
          rw [e0, e1, e2, e3]
          refine ⟨k3, by omega, by omega, fun z => by omega, fun _ => ?_, fun z => ?_, fun z => by omega, fun z => by omega, fun z => a2, fun z => by omega, fun b hb hg => ?_⟩
          · rw [eo1]
            rcases c5 (by omega) with y | y
            · left; exact y
            · exfalso
              rw [y.2] at d3
              have := (ha.2.1 (by omega)).1
              exact a2 (by rw [← d3]; exact this)
          · rw [eo1]; exact c6 z
          · rw [eo1] at hg
            rw [eo2]
            rcases c11 b hb hg with y | y
            · left; exact y
            · omega
    · rcases hs with ⟨-, z, -⟩ | ⟨-, -, z, -⟩ | ⟨a2, a3, -, e⟩
      · exact absurd z (by omega)
      · exact absurd z (by omega)
      · have hk : kcT bt n f ≠ 0 := by rw [hwT_kc a2]; omega
        obtain ⟨k1, k2, k3⟩ := key hk
        obtain ⟨d1, d2, d3, d4⟩ := c8 d
        have hA := wfA_how (b := s 20 3 - 1) (v := hwT bt n f) ha a2 (hwT_le bt n f) a3 d4
        have e0 : s' 20 0 = ttT bt n f := by rw [e, su_2 (by omega), su_2 (by omega), su_e]
        have e1 : s' 20 1 = 2 := by rw [e, su_2 (by omega), su_e]
        have e2 : s' 20 2 = s 20 3 := by rw [e, su_e]
        have e3 : s' 20 3 = s 20 3 := by rw [e, su_2 (by omega), su_2 (by omega), su_2 (by omega), su_1 (by omega)]
        have eo : ∀ q c, q ≠ 20 → s' q c = su s 1 (s 20 3 - 1) (hwT bt n f) q c := fun q c z => by rw [e, su_1 z, su_1 z, su_1 z]
        have eo1 : ∀ c, c ≠ s 20 3 - 1 → s' 1 c = s 1 c := fun c z => by rw [eo 1 c (by omega), su_2 z]
        have eo1' : s' 1 (s 20 3 - 1) ≠ 0 := by rw [eo 1 _ (by omega), su_e]; exact a2
        have eo2 : ∀ c, s' 2 c = s 2 c := fun c => by rw [eo 2 c (by omega), su_1 (by omega)]
        refine ⟨⟨?_, ?_⟩, by omega, hk, e0⟩
        · rw [e3]; exact hA.cg eo
        · unfold wfC
          rw [e0, e1, e2, e3]
          refine ⟨k3, by omega, by omega, fun z => by omega, fun _ => ?_, fun z => eo1', fun z => by omega, fun z => by omega, fun z => by omega, fun z => by omega, fun b hb hg => ?_⟩
          · left
            by_cases y : s 20 3 - 1 = 0
            · rw [y] at eo1'; exact eo1'
            · rw [eo1 0 (by omega)]
              rcases c5 (by omega) with y | y
              · exact y
              · omega
          · rw [eo2]
            by_cases y : b = s 20 3 - 1
            · right; exact ⟨by omega, Or.inl rfl⟩
            · rw [eo1 b y] at hg
              rcases c11 b hb hg with y | y
              · left; exact y
              · omega
  · rcases hs with ⟨a1, -, e⟩ | ⟨a1, a2, -, e⟩ | ⟨-, -, z, -⟩
    · have hk : kcT bt n f ≠ 0 := by rw [wdB_kc a1]; omega
      obtain ⟨k1, k2, k3⟩ := key hk
      have hA := wfA_srt (b := s 20 2 - 1) ha
      have e0 : s' 20 0 = ttT bt n f := by rw [e, su_2 (by omega), su_e]
      have e1 : s' 20 1 = 3 := by rw [e, su_e]
      have e2 : s' 20 2 = s 20 2 := by rw [e, su_2 (by omega), su_2 (by omega), su_1 (by omega)]
      have e3 : s' 20 3 = s 20 3 := by rw [e, su_2 (by omega), su_2 (by omega), su_1 (by omega)]
      have eo : ∀ q c, q ≠ 20 → s' q c = su s 6 (s 20 2 - 1) 1 q c := fun q c z => by rw [e, su_1 z, su_1 z]
      have eo1 : ∀ c, s' 1 c = s 1 c := fun c => by rw [eo 1 c (by omega), su_1 (by omega)]
      have eo2 : ∀ c, s' 2 c = s 2 c := fun c => by rw [eo 2 c (by omega), su_1 (by omega)]
      refine ⟨⟨?_, ?_⟩, by omega, hk, e0⟩
      · rw [e3]; exact hA.cg eo
      · have c9 := c9 (Or.inl d)
        unfold wfC
        rw [e0, e1, e2, e3]
        refine ⟨k3, by omega, by omega, fun z => by omega, fun z => ?_, fun z => ?_, fun z => by omega, fun z => by omega, fun z => by omega, fun z => by omega, fun b hb hg => ?_⟩
        · rw [eo1]
          rcases c5 z with y | y
          · left; exact y
          · omega
        · rw [eo1]; exact c6 z
        · rw [eo1] at hg
          rw [eo2]
          rcases c11 b hb hg with y | y
          · left; exact y
          · right; exact ⟨y.1, Or.inr (Or.inl rfl)⟩
    · have hk : kcT bt n f ≠ 0 := by rw [a2]; omega
      obtain ⟨k1, k2, k3⟩ := key hk
      have e0 : s' 20 0 = ttT bt n f := by rw [e, su_2 (by omega), su_e]
      have e1 : s' 20 1 = 0 := by rw [e, su_e]
      have e2 : s' 20 2 = s 20 2 := by rw [e, su_2 (by omega), su_2 (by omega)]
      have e3 : s' 20 3 = s 20 3 := by rw [e, su_2 (by omega), su_2 (by omega)]
      have eo : ∀ q c, q ≠ 20 → s' q c = s q c := fun q c z => by rw [e, su_1 z, su_1 z]
      have c9 := c9 (Or.inl d)
      refine ⟨⟨?_, ?_⟩, by omega, hk, e0⟩
      · rw [e3]; exact ha.cg eo
      · unfold wfC
        rw [e0, e1, e2, e3]
        refine ⟨k3, by omega, by omega, fun z => by omega, fun z => ?_, fun z => ?_, fun z => by omega, fun z => by omega, fun z => by omega, fun z => by omega, fun b hb hg => ?_⟩
        · rw [eo 1 _ (by omega)]
          rcases c5 z with y | y
          · left; exact y
          · omega
        · rw [eo 1 _ (by omega)]; exact c6 z
        · rw [eo 1 _ (by omega)] at hg
          rw [eo 2 _ (by omega)]
          rcases c11 b hb hg with y | y
          · left; exact y
          · right; exact ⟨y.1, Or.inr (Or.inr rfl)⟩
    · exact absurd z (by omega)
  · rcases hs with ⟨a2, -, e⟩ | ⟨-, z, -⟩
    · have hk : kcT bt n f ≠ 0 := by rw [a2]; omega
      obtain ⟨k1, k2, k3⟩ := key hk
      have e0 : s' 20 0 = ttT bt n f := by rw [e, su_2 (by omega), su_e]
      have e1 : s' 20 1 = 0 := by rw [e, su_e]
      have e2 : s' 20 2 = s 20 2 := by rw [e, su_2 (by omega), su_2 (by omega)]
      have e3 : s' 20 3 = s 20 3 := by rw [e, su_2 (by omega), su_2 (by omega)]
      have eo : ∀ q c, q ≠ 20 → s' q c = s q c := fun q c z => by rw [e, su_1 z, su_1 z]
      have c9 := c9 (Or.inr (Or.inl d))
      refine ⟨⟨?_, ?_⟩, by omega, hk, e0⟩
      · rw [e3]; exact ha.cg eo
      · unfold wfC
        rw [e0, e1, e2, e3]
        refine ⟨k3, by omega, by omega, fun z => by omega, fun z => ?_, fun z => ?_, fun z => by omega, fun z => by omega, fun z => by omega, fun z => by omega, fun b hb hg => ?_⟩
        · rw [eo 1 _ (by omega)]
          rcases c5 z with y | y
          · left; exact y
          · omega
        · rw [eo 1 _ (by omega)]; exact c6 z
        · rw [eo 1 _ (by omega)] at hg
          rw [eo 2 _ (by omega)]
          rcases c11 b hb hg with y | y
          · left; exact y
          · right; exact ⟨y.1, Or.inr (Or.inr rfl)⟩
    · exact absurd z (by omega)
  · have c9 := c9 (Or.inr (Or.inr d))
    have g1 := c6 c9
    have g2 : 1 ≤ s 2 (s 20 2 - 1) := by
      rcases c11 _ (by omega) g1 with y | y
      · exact y
      · omega
    have gall : ∀ b, b < s 20 3 → s 1 b ≠ 0 → 1 ≤ s 2 b := by
      intro b hb hg
      rcases c11 b hb hg with y | y
      · exact y
      · omega
    have g0 : s 1 0 ≠ 0 := by
      rcases c5 (by omega) with y | y
      · exact y
      · omega
    rcases hs with ⟨a2, -, e⟩ | ⟨a2, -, e⟩ | ⟨-, -, z, -⟩
    · have hk : kcT bt n f ≠ 0 := by rw [a2]; omega
      obtain ⟨k1, k2, k3⟩ := key hk
      have e0 : s' 20 0 = ttT bt n f := by rw [e, su_2 (by omega), su_2 (by omega), su_e]
      have e1 : s' 20 1 = (if s 0 (s 20 2 - 1) = 0 then 5 else 4) := by rw [e, su_e]
      have e2 : s' 20 2 = s 0 (s 20 2 - 1) := by rw [e, su_2 (by omega), su_e]
      have e3 : s' 20 3 = s 20 3 := by rw [e, su_2 (by omega), su_2 (by omega), su_2 (by omega)]
      have eo : ∀ q c, q ≠ 20 → s' q c = s q c := fun q c z => by rw [e, su_1 z, su_1 z, su_1 z]
      have p1 : s 0 (s 20 2 - 1) ≤ s 20 2 - 1 ∧ (s 0 (s 20 2 - 1) ≠ 0 → s 1 (s 0 (s 20 2 - 1) - 1) ≠ 0) := by
        by_cases y : s 20 2 - 1 = 0
        · rw [y, (ha.2.1 (by omega)).1]; exact ⟨by omega, fun z => absurd rfl z⟩
        · have := ha.2.2.1 (s 20 2 - 1) (by omega) (by omega)
          exact ⟨this.2.1, fun _ => this.2.2.1⟩
      refine ⟨⟨?_, ?_⟩, by omega, hk, e0⟩
      · rw [e3]; exact ha.cg eo
      · unfold wfC
        rw [e0, e1, e2, e3]
        refine ⟨k3, ?_, by omega, fun z => by omega, fun z => ?_, fun z => ?_, fun z => ?_, fun z => ?_, fun z => ?_, fun z => ?_, fun b hb hg => ?_⟩
        · split <;> omega
        · rw [eo 1 _ (by omega)]; left; exact g0
        · rw [eo 1 _ (by omega)]; exact p1.2 z
        · split at z <;> omega
        · split at z <;> omega
        · split at z <;> omega
        · split at z <;> omega
        · rw [eo 1 _ (by omega)] at hg
          rw [eo 2 _ (by omega)]
          left; exact gall b hb hg
    · have hk : kcT bt n f ≠ 0 := by rw [a2]; omega
      obtain ⟨k1, k2, k3⟩ := key hk
      have e0 : s' 20 0 = ttT bt n f := by rw [e, su_2 (by omega), su_e]
      have e1 : s' 20 1 = 0 := by rw [e, su_e]
      have e2 : s' 20 2 = s 20 2 := by rw [e, su_2 (by omega), su_2 (by omega)]
      have e3 : s' 20 3 = s 20 3 := by rw [e, su_2 (by omega), su_2 (by omega)]
      have eo : ∀ q c, q ≠ 20 → s' q c = s q c := fun q c z => by rw [e, su_1 z, su_1 z]
      refine ⟨⟨?_, ?_⟩, by omega, hk, e0⟩
      · rw [e3]; exact ha.cg eo
      · unfold wfC
        rw [e0, e1, e2, e3]
        refine ⟨k3, by omega, by omega, fun z => by omega, fun z => ?_, fun z => ?_, fun z => by omega, fun z => by omega, fun z => by omega, fun z => by omega, fun b hb hg => ?_⟩
        · rw [eo 1 _ (by omega)]; left; exact g0
        · rw [eo 1 _ (by omega)]; exact c6 z
        · rw [eo 1 _ (by omega)] at hg
          rw [eo 2 _ (by omega)]
          left; exact gall b hb hg
    · exact absurd z (by omega)
  · rcases hs with ⟨-, z, -⟩ | ⟨-, z, -⟩
    · exact absurd z (by omega)
    · exact absurd z (by omega)
/-- the beginning of a reading -/
def s00 : Nat → Nat → Nat := fun _ _ => 0
theorem wfS_0 (n : Nat) : wfS n s00 := by
  refine ⟨⟨by show 0 ≤ 40; omega, fun z => absurd z (Nat.lt_irrefl 0), fun b z => absurd z (Nat.not_lt_zero b), fun b z => absurd z (Nat.not_lt_zero b), fun b z => absurd z (Nat.not_lt_zero b), fun b c z => absurd z (Nat.not_lt_zero b)⟩, ?_⟩
  refine ⟨Nat.zero_le _, Nat.zero_le _, Nat.le_refl _, fun _ => ⟨rfl, rfl⟩, fun z => absurd z (Nat.lt_irrefl 0), fun z => absurd rfl z, fun _ => Or.inl rfl, fun z => absurd z (by show ¬ (0 = 1); omega), fun z => absurd z (by show ¬ (0 = 2 ∨ 0 = 3 ∨ 0 = 4); omega), fun z => absurd z (by show ¬ (0 = 5); omega), fun b z => absurd z (Nat.not_lt_zero b)⟩
/-- it ends well: the shape of a TREE -/
theorem wfS_end {n : Nat} {s : Nat → Nat → Nat} (h : wfS n s) (hd : s 20 1 = 5) : wfT (s 20 3) s (fun b k => s (10 + k) b) := by
  obtain ⟨⟨h1, h2, h3, h4, h5, h6⟩, c1, c2, c3, c4, c5, c6, c7, c8, c9, c10, c11⟩ := h
  obtain ⟨d1, d2⟩ := c10 hd
  refine ⟨h1, fun z => ⟨(h2 z).1, ?_, (h2 z).2⟩, h3, fun b hb => ?_, fun b hb => ?_, h6⟩
  · rcases c5 z with y | y
    · exact y
    · omega
  · obtain ⟨a1, a2, a3, a4, a5, a6, a7, a8, a9⟩ := h4 b hb
    refine ⟨a1, a2, a3, a4, a5, a6, a7, fun z => ⟨(a8 z).1, ?_⟩, a9⟩
    rcases c11 b hb z with y | y
    · exact y
    · omega
  · rw [h5 b hb, smN_filter]
