/-! the state of a reading keeps its shape -/
def wfA (nb : Nat) (s : Nat → Nat → Nat) : Prop :=
  nb ≤ 40 ∧ (0 < nb → s 0 0 = 0 ∧ s 3 0 = 0) ∧
  (∀ b, b < nb → 0 < b → 0 < s 0 b ∧ s 0 b ≤ b ∧ s 1 (s 0 b - 1) ≠ 0 ∧ s 3 b = s 3 (s 0 b - 1) + 1) ∧
  (∀ b, b < nb → s 1 b ≤ 4 ∧ s 2 b ≤ 8 ∧ s 4 b ≤ 999999 ∧ 1 ≤ s 5 b ∧ s 5 b ≤ 8 ∧ s 6 b ≤ 1 ∧ s 3 b ≤ 6 ∧ (s 1 b ≠ 0 → s 3 b ≤ 5 ∧ s 4 b = 0) ∧ ∀ k, k < s 5 b → 97 ≤ s (10 + k) b ∧ s (10 + k) b ≤ 122) ∧
  (∀ b, b < nb → s 2 b = smN (fun c => decide (s 0 c = b + 1)) 0 nb) ∧
  ∀ b c, b < nb → c < nb → s 5 b = s 5 c → (∀ k, k < s 5 b → s (10 + k) b = s (10 + k) c) → b = c
def wfC (n : Nat) (s : Nat → Nat → Nat) : Prop :=
  s 20 0 ≤ n ∧ s 20 1 ≤ 5 ∧ s 20 2 ≤ s 20 3 ∧ (s 20 3 = 0 → s 20 1 = 0 ∧ s 20 2 = 0) ∧ (0 < s 20 3 → s 1 0 ≠ 0 ∨ (s 20 1 = 1 ∧ s 20 3 = 1)) ∧
  (s 20 2 ≠ 0 → s 1 (s 20 2 - 1) ≠ 0) ∧
  (s 20 1 = 0 → s 20 3 = 0 ∨ s 20 2 ≠ 0) ∧
  (s 20 1 = 1 → 0 < s 20 3 ∧ s 1 (s 20 3 - 1) = 0 ∧ s 0 (s 20 3 - 1) = s 20 2 ∧ s 4 (s 20 3 - 1) = 0) ∧
  (s 20 1 = 2 ∨ s 20 1 = 3 ∨ s 20 1 = 4 → s 20 2 ≠ 0) ∧ (s 20 1 = 5 → s 20 2 = 0 ∧ 0 < s 20 3) ∧
  ∀ b, b < s 20 3 → s 1 b ≠ 0 → 1 ≤ s 2 b ∨ (b + 1 = s 20 2 ∧ (s 20 1 = 2 ∨ s 20 1 = 3 ∨ s 20 1 = 0))
def wfS (n : Nat) (s : Nat → Nat → Nat) : Prop := wfA (s 20 3) s ∧ wfC n s
theorem wfA.cg {nb : Nat} {s s' : Nat → Nat → Nat} (h : wfA nb s) (e : ∀ q c, q ≠ 20 → s' q c = s q c) : wfA nb s' := by
  obtain ⟨h1, h2, h3, h4, h5, h6⟩ := h
  have e0 := fun c => e 0 c (by omega)
  have e1 := fun c => e 1 c (by omega)
  have e2 := fun c => e 2 c (by omega)
  have e3 := fun c => e 3 c (by omega)
  have e4 := fun c => e 4 c (by omega)
  have e5 := fun c => e 5 c (by omega)
  have e6 := fun c => e 6 c (by omega)
  refine ⟨h1, ?_, ?_, ?_, ?_, ?_⟩
  · rw [e0, e3]; exact h2
  · intro b; rw [e0, e1, e3, e3]; exact h3 b
  · intro b hb
    rw [e1, e2, e3, e4, e5, e6]
    obtain ⟨a1, a2, a3, a4, a5, a6, a7, a8, a9⟩ := h4 b hb
    refine ⟨a1, a2, a3, a4, a5, a6, a7, a8, fun k hk => ?_⟩
    rw [e (10 + k) b (by omega)]
    exact a9 k hk
  · intro b hb
    rw [e2, h5 b hb]
    exact smN_cg 0 _ (fun k _ _ => by rw [e0])
  · intro b c hb hc
    rw [e5, e5]
    intro q1 q2
    refine h6 b c hb hc q1 (fun k hk => ?_)
    have := (h4 b hb).2.2.2.2.1
    have q3 := q2 k hk
    rw [e (10 + k) b (by omega), e (10 + k) c (by omega)] at q3
    exact q3
theorem wfA_num {nb b v : Nat} {s : Nat → Nat → Nat} (h : wfA nb s) (hb : s 1 b = 0) (hv : v ≤ 999999) : wfA nb (su s 4 b v) := by
  obtain ⟨h1, h2, h3, h4, h5, h6⟩ := h
  have e : ∀ q c, q ≠ 4 → su s 4 b v q c = s q c := fun q c z => su_1 z
  have e0 := fun c => e 0 c (by omega)
  have e1 := fun c => e 1 c (by omega)
  have e2 := fun c => e 2 c (by omega)
  have e3 := fun c => e 3 c (by omega)
  have e5 := fun c => e 5 c (by omega)
  have e6 := fun c => e 6 c (by omega)
  refine ⟨h1, ?_, ?_, ?_, ?_, ?_⟩
  · rw [e0, e3]; exact h2
  · intro c; rw [e0, e1, e3, e3]; exact h3 c
  · intro c hc
    rw [e1, e2, e3, e5, e6]
    obtain ⟨a1, a2, a3, a4, a5, a6, a7, a8, a9⟩ := h4 c hc
    have q : su s 4 b v 4 c ≤ 999999 ∧ (s 1 c ≠ 0 → su s 4 b v 4 c = s 4 c) := by
      by_cases hcb : c = b
      · subst hcb; rw [su_e]; exact ⟨hv, fun z => absurd hb z⟩
      · rw [su_2 hcb]; exact ⟨a3, fun _ => rfl⟩
    refine ⟨a1, a2, q.1, a4, a5, a6, a7, fun z => ?_, fun k hk => ?_⟩
    · rw [q.2 z]; exact a8 z
    · rw [e (10 + k) c (by omega)]
      exact a9 k hk
  · intro c hc
    rw [e2, h5 c hc]
    exact smN_cg 0 _ (fun k _ _ => by rw [e0])
  · intro c d hc hd
    rw [e5, e5]
    intro q1 q2
    refine h6 c d hc hd q1 (fun k hk => ?_)
    have q3 := q2 k hk
    rw [e (10 + k) c (by omega), e (10 + k) d (by omega)] at q3
    exact q3
theorem wfA_how {nb b v : Nat} {s : Nat → Nat → Nat} (h : wfA nb s) (hv0 : v ≠ 0) (hv : v ≤ 4) (hb3 : s 3 b ≤ 5) (hb4 : s 4 b = 0) : wfA nb (su s 1 b v) := by
  obtain ⟨h1, h2, h3, h4, h5, h6⟩ := h
  have e : ∀ q c, q ≠ 1 → su s 1 b v q c = s q c := fun q c z => su_1 z
  have e0 := fun c => e 0 c (by omega)
  have e2 := fun c => e 2 c (by omega)
  have e3 := fun c => e 3 c (by omega)
  have e4 := fun c => e 4 c (by omega)
  have e5 := fun c => e 5 c (by omega)
  have e6 := fun c => e 6 c (by omega)
  have e1 : ∀ c, s 1 c ≠ 0 → su s 1 b v 1 c ≠ 0 := by
    intro c hc
    by_cases hcb : c = b
    · subst hcb; rw [su_e]; exact hv0
    · rw [su_2 hcb]; exact hc
  refine ⟨h1, ?_, ?_, ?_, ?_, ?_⟩
  · rw [e0, e3]; exact h2
  · intro c hc h0
    rw [e0, e3, e3]
    obtain ⟨a1, a2, a3, a4⟩ := h3 c hc h0
    exact ⟨a1, a2, e1 _ a3, a4⟩
  · intro c hc
    rw [e2, e3, e4, e5, e6]
    obtain ⟨a1, a2, a3, a4, a5, a6, a7, a8, a9⟩ := h4 c hc
    have q : su s 1 b v 1 c ≤ 4 ∧ (su s 1 b v 1 c ≠ 0 → s 3 c ≤ 5 ∧ s 4 c = 0) := by
      by_cases hcb : c = b
      · subst hcb; rw [su_e]; exact ⟨hv, fun _ => ⟨hb3, hb4⟩⟩
      · rw [su_2 hcb]; exact ⟨a1, a8⟩
    refine ⟨q.1, a2, a3, a4, a5, a6, a7, q.2, fun k hk => ?_⟩
    rw [e (10 + k) c (by omega)]
    exact a9 k hk
  · intro c hc
    rw [e2, h5 c hc]
    exact smN_cg 0 _ (fun k _ _ => by rw [e0])
  · intro c d hc hd
    rw [e5, e5]
    intro q1 q2
    refine h6 c d hc hd q1 (fun k hk => ?_)
    have q3 := q2 k hk
    rw [e (10 + k) c (by omega), e (10 + k) d (by omega)] at q3
    exact q3
theorem wfA_srt {nb b : Nat} {s : Nat → Nat → Nat} (h : wfA nb s) : wfA nb (su s 6 b 1) := by
  obtain ⟨h1, h2, h3, h4, h5, h6⟩ := h
  have e : ∀ q c, q ≠ 6 → su s 6 b 1 q c = s q c := fun q c z => su_1 z
  have e0 := fun c => e 0 c (by omega)
  have e1 := fun c => e 1 c (by omega)
  have e2 := fun c => e 2 c (by omega)
  have e3 := fun c => e 3 c (by omega)
  have e4 := fun c => e 4 c (by omega)
  have e5 := fun c => e 5 c (by omega)
  refine ⟨h1, ?_, ?_, ?_, ?_, ?_⟩
  · rw [e0, e3]; exact h2
  · intro c; rw [e0, e1, e3, e3]; exact h3 c
  · intro c hc
    rw [e1, e2, e3, e4, e5]
    obtain ⟨a1, a2, a3, a4, a5, a6, a7, a8, a9⟩ := h4 c hc
    have q : su s 6 b 1 6 c ≤ 1 := by
      by_cases hcb : c = b
      · subst hcb; rw [su_e]; omega
      · rw [su_2 hcb]; exact a6
    refine ⟨a1, a2, a3, a4, a5, q, a7, a8, fun k hk => ?_⟩
    rw [e (10 + k) c (by omega)]
    exact a9 k hk
  · intro c hc
    rw [e2, h5 c hc]
    exact smN_cg 0 _ (fun k _ _ => by rw [e0])
  · intro c d hc hd
    rw [e5, e5]
    intro q1 q2
    refine h6 c d hc hd q1 (fun k hk => ?_)
    have q3 := q2 k hk
    rw [e (10 + k) c (by omega), e (10 + k) d (by omega)] at q3
    exact q3
theorem ad_old {bt : Nat → Nat} {f len q c : Nat} {s : Nat → Nat → Nat} (h1 : c ≠ s 20 3 ∨ 18 ≤ q) (h2 : q ≠ 2 ∨ c + 1 ≠ s 20 2) : adS bt f len s q c = s q c := by
  unfold adS
  rw [if_neg (by omega), if_neg (by omega), if_neg (by omega)]
theorem ad_kid {bt : Nat → Nat} {f len c : Nat} {s : Nat → Nat → Nat} (h1 : c ≠ s 20 3) (h2 : c + 1 = s 20 2) : adS bt f len s 2 c = s 2 c + 1 := by
  unfold adS
  rw [if_neg (by omega), if_neg (by omega), if_pos ⟨rfl, h2⟩]
theorem ad_let {bt : Nat → Nat} {f len k : Nat} {s : Nat → Nat → Nat} (hk : k < 8) : adS bt f len s (10 + k) (s 20 3) = bt (f + k) := by
  unfold adS
  rw [if_neg (by omega), if_pos (by omega), show 10 + k - 10 = k by omega]
theorem ad_new (bt : Nat → Nat) (f len : Nat) (s : Nat → Nat → Nat) : adS bt f len s 0 (s 20 3) = s 20 2 ∧ adS bt f len s 1 (s 20 3) = 0 ∧ adS bt f len s 2 (s 20 3) = 0 ∧ adS bt f len s 3 (s 20 3) = (if s 20 2 = 0 then 0 else s 3 (s 20 2 - 1) + 1) ∧ adS bt f len s 4 (s 20 3) = 0 ∧ adS bt f len s 5 (s 20 3) = len ∧ adS bt f len s 6 (s 20 3) = 0 := by
  unfold adS
  refine ⟨?_, ?_, ?_, ?_, ?_, ?_, ?_⟩ <;> (rw [if_pos (by omega)]; first | rfl | (rw [if_neg (by omega), if_neg (by omega), if_neg (by omega)]) | (rw [if_neg (by omega), if_pos rfl]))
theorem kc_lt {bt : Nat → Nat} {n f : Nat} (h : kcT bt n f ≠ 0) : f < n := by
  unfold kcT at h
  by_cases z : f < n
  · exact z
  · rw [if_neg z] at h; exact absurd rfl h
theorem kc_kN {bt : Nat → Nat} {n f k : Nat} (h : kcT bt n f = k + 1) : f < n ∧ kN (bt f) = k := by
  have h1 := kc_lt (bt := bt) (n := n) (f := f) (by omega)
  unfold kcT at h
  rw [if_pos h1] at h
  exact ⟨h1, by omega⟩
theorem wfA_ad {bt : Nat → Nat} {n f : Nat} {s : Nat → Nat → Nat} (h : wfA (s 20 3) s) (hc : wfC n s) (hd : s 20 1 = 0) (hf : f < n) (hn : nmT bt n f) (hl : ¬ (40 ≤ s 20 3 ∨ (s 20 2 ≠ 0 ∧ 8 ≤ s 2 (s 20 2 - 1)))) (hk : ¬ knT bt n f s) : wfA (s 20 3 + 1) (adS bt f (ttT bt n f - f) s) := by
  obtain ⟨h1, h2, h3, h4, h5, h6⟩ := h
  obtain ⟨c1, c2, c3, c4, c5, c6, c7, c8, c9, c10, c11⟩ := hc
  obtain ⟨n1, n2, n3, n4⟩ := hn
  obtain ⟨-, n1'⟩ := kc_kN n1
  obtain ⟨t1, t2, t3⟩ := ttT_b bt hf
  have c7 := c7 hd
  have lt : ∀ k, k < ttT bt n f - f → 97 ≤ bt (f + k) ∧ bt (f + k) ≤ 122 := by
    intro k hk
    have := t3 (f + k) (by omega) (by omega)
    rw [n1'] at this
    exact kN_97.mp this
  obtain ⟨w0, w1, w2, w3, w4, w5, w6⟩ := ad_new bt f (ttT bt n f - f) s
  obtain ⟨nb, hnb⟩ : ∃ x, x = s 20 3 := ⟨_, rfl⟩
  obtain ⟨wi, hwi⟩ : ∃ x, x = s 20 2 := ⟨_, rfl⟩
  have o : ∀ q c, c < nb → q ≠ 2 → adS bt f (ttT bt n f - f) s q c = s q c := fun q c z1 z2 => ad_old (Or.inl (by omega)) (Or.inl z2)
  have o2 : ∀ c, c < nb → c + 1 ≠ wi → adS bt f (ttT bt n f - f) s 2 c = s 2 c := fun c z1 z2 => ad_old (Or.inl (by omega)) (Or.inr (by omega))
  have o3 : ∀ c, c < nb → c + 1 = wi → adS bt f (ttT bt n f - f) s 2 c = s 2 c + 1 := fun c z1 z2 => ad_kid (by omega) (by omega)
  have o4 : ∀ k, k < 8 → adS bt f (ttT bt n f - f) s (10 + k) nb = bt (f + k) := fun k z => by rw [hnb]; exact ad_let z
  simp only [← hnb, ← hwi] at h1 h2 h3 h4 h5 h6 c3 c4 c5 c6 c7 c8 c9 c10 c11 hl w0 w1 w2 w3 w4 w5 w6 ⊢
  generalize adS bt f (ttT bt n f - f) s = s' at *
  have hx : ∀ b c, b < nb + 1 → c < nb → s' 5 b = s' 5 c → (∀ k, k < s' 5 b → s' (10 + k) b = s' (10 + k) c) → b = c := by
    intro b c hb hc q1 q2
    by_cases hbn : b = nb
    · exfalso
      apply hk
      rw [hbn, w5, o 5 c hc (by omega)] at q1
      refine ⟨c, by rw [← hnb]; exact hc, q1.symm, fun k hk => ?_⟩
      have q3 := q2 k (by rw [hbn, w5]; exact hk)
      rw [hbn, o4 k (by omega), o (10 + k) c hc (by omega)] at q3
      exact q3.symm
    · have hb' : b < nb := by omega
      rw [o 5 b hb' (by omega), o 5 c hc (by omega)] at q1
      refine h6 b c hb' hc q1 (fun k hk => ?_)
      have q3 := q2 k (by rw [o 5 b hb' (by omega)]; exact hk)
      rw [o (10 + k) b hb' (by omega), o (10 + k) c hc (by omega)] at q3
      exact q3
  refine ⟨by omega, ?_, ?_, ?_, ?_, ?_⟩
  · intro _
    by_cases z : nb = 0
    · have z2 := (c4 z).2
      rw [z] at w0 w3
      rw [w0, w3, z2]
      exact ⟨rfl, if_pos rfl⟩
    · rw [o 0 0 (by omega) (by omega), o 3 0 (by omega) (by omega)]
      exact h2 (by omega)
  · intro b hb h0
    by_cases hbn : b = nb
    · subst hbn
      have z : wi ≠ 0 := by omega
      rw [w0, w3, if_neg z, o 1 (wi - 1) (by omega) (by omega), o 3 (wi - 1) (by omega) (by omega)]
      exact ⟨by omega, by omega, c6 z, rfl⟩
    · obtain ⟨a1, a2, a3, a4⟩ := h3 b (by omega) h0
      rw [o 0 b (by omega) (by omega), o 1 _ (by omega) (by omega), o 3 b (by omega) (by omega), o 3 _ (by omega) (by omega)]
      exact ⟨a1, a2, a3, a4⟩
  · intro b hb
    by_cases hbn : b = nb
    · subst hbn
      rw [w1, w2, w3, w4, w5, w6]
      refine ⟨by omega, by omega, by omega, by omega, by omega, by omega, ?_, fun z => absurd rfl z, fun k hk => ?_⟩
      · by_cases z : wi = 0
        · rw [if_pos z]; omega
        · rw [if_neg z]
          have := ((h4 (wi - 1) (by omega)).2.2.2.2.2.2.2.1 (c6 z)).1
          omega
      · rw [o4 k (by omega)]
        exact lt k hk
    · have hb' : b < nb := by omega
      obtain ⟨a1, a2, a3, a4, a5, a6, a7, a8, a9⟩ := h4 b hb'
      rw [o 1 b hb' (by omega), o 3 b hb' (by omega), o 4 b hb' (by omega), o 5 b hb' (by omega), o 6 b hb' (by omega)]
      refine ⟨a1, ?_, a3, a4, a5, a6, a7, a8, fun k hk => ?_⟩
      · by_cases z : b + 1 = wi
        · rw [o3 b hb' z]
          have : b = wi - 1 := by omega
          subst this
          omega
        · rw [o2 b hb' z]; exact a2
      · rw [o (10 + k) b hb' (by omega)]
        exact a9 k hk
  · intro b hb
    rw [smN, Nat.zero_add, w0]
    have e : smN (fun c => decide (s' 0 c = b + 1)) 0 nb = smN (fun c => decide (s 0 c = b + 1)) 0 nb := smN_cg 0 _ (fun k _ z => by rw [o 0 k (by omega) (by omega)])
    rw [e]
    by_cases hbn : b = nb
    · subst hbn
      rw [w2, if_neg (by rw [decide_eq_true_eq]; omega), smN_0]
      intro i _ hi
      rw [decide_eq_false_iff_not]
      by_cases hi0 : i = 0
      · subst hi0
        rw [(h2 (by omega)).1]; omega
      · have := (h3 i (by omega) (by omega)).2.1
        omega
    · have hb' : b < nb := by omega
      by_cases z : b + 1 = wi
      · rw [o3 b hb' z, if_pos (by rw [decide_eq_true_eq]; omega), h5 b hb']
      · rw [o2 b hb' z, if_neg (by rw [decide_eq_true_eq]; omega), h5 b hb']; exact (Nat.add_zero _).symm
  · intro b c hb hc q1 q2
    by_cases hcn : c = nb
    · by_cases hbn : b = nb
      · omega
      · exact (hx c b hc (by omega) q1.symm (fun k hk => (q2 k (by rw [q1]; exact hk)).symm)).symm
    · exact hx b c hb (by omega) q1 q2
