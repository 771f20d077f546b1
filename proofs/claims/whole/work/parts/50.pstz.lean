/-! the reference's reader: the token at hand -/
theorem sr3 {bt : Nat → Nat} {n f : Nat} : srT bt n f = 3 ↔ (kcT bt n f = 98 ∧ ttT bt n f - f ≤ 8) := by
  unfold srT kcT
  by_cases h : n ≤ f
  · rw [if_pos h, if_neg (show ¬ f < n by omega)]
    constructor
    · intro z; omega
    · intro z; omega
  · rw [if_neg h, if_pos (show f < n by omega)]
    by_cases h1 : kN (bt f) = 97
    · rw [if_pos h1, h1]
      split
      · next z => exact ⟨fun _ => ⟨rfl, z⟩, fun _ => rfl⟩
      · next z => exact ⟨fun y => by omega, fun y => absurd y.2 z⟩
    · rw [if_neg h1]
      constructor
      · intro z
        split at z <;> (try split at z) <;> omega
      · intro z; omega
theorem sr2 {bt : Nat → Nat} {n f : Nat} : srT bt n f = 2 ↔ (kcT bt n f = 49 ∧ ttT bt n f - f ≤ 6) := by
  unfold srT kcT
  by_cases h : n ≤ f
  · rw [if_pos h, if_neg (show ¬ f < n by omega)]
    constructor
    · intro z; omega
    · intro z; omega
  · rw [if_neg h, if_pos (show f < n by omega)]
    by_cases h1 : kN (bt f) = 97
    · rw [if_pos h1, h1]
      constructor
      · intro z
        split at z <;> omega
      · intro z; omega
    · rw [if_neg h1]
      by_cases h2 : kN (bt f) = 48
      · rw [if_pos h2, h2]
        split
        · next z => exact ⟨fun _ => ⟨rfl, z⟩, fun _ => rfl⟩
        · next z => exact ⟨fun y => by omega, fun y => absurd y.2 z⟩
      · rw [if_neg h2]
        constructor
        · intro z
          split at z <;> omega
        · intro z; omega
theorem sr0 {bt : Nat → Nat} {n f : Nat} : srT bt n f = 0 ↔ kcT bt n f = 0 := by
  unfold srT kcT
  by_cases h : n ≤ f
  · rw [if_pos h, if_neg (show ¬ f < n by omega)]
  · rw [if_neg h, if_pos (show f < n by omega)]
    constructor
    · intro z
      split at z <;> (try split at z) <;> (try split at z) <;> omega
    · intro z; omega
/-- a sign -/
theorem sr4 {bt : Nat → Nat} {n f c : Nat} (hc : c = 40 ∨ c = 41 ∨ c = 44) : (srT bt n f = 4 ∧ bt f = c) ↔ kcT bt n f = c + 1 := by
  unfold srT kcT
  by_cases h : n ≤ f
  · rw [if_pos h, if_neg (show ¬ f < n by omega)]
    constructor
    · intro z; omega
    · intro z; omega
  · rw [if_neg h, if_pos (show f < n by omega)]
    by_cases h1 : kN (bt f) = 97
    · rw [if_pos h1]
      constructor
      · intro z
        have := z.1
        split at this <;> omega
      · intro z; omega
    · rw [if_neg h1]
      by_cases h2 : kN (bt f) = 48
      · rw [if_pos h2]
        constructor
        · intro z
          have := z.1
          split at this <;> omega
        · intro z; omega
      · rw [if_neg h2]
        have e : kN (bt f) = bt f := by
          unfold kN at h1 h2 ⊢
          split
          · next y => rw [if_pos y] at h1; exact absurd rfl h1
          · next y =>
            rw [if_neg y] at h2
            split
            · next x => rw [if_pos x] at h2; exact absurd rfl h2
            · rfl
        rw [e]
        constructor
        · intro z; omega
        · intro z
          rw [if_pos (by omega)]
          exact ⟨rfl, by omega⟩
theorem sr_le (bt : Nat → Nat) (n f : Nat) : srT bt n f ≤ 4 := by
  unfold srT
  repeat' split
  all_goals omega
def tkZ (bt : Nat → Nat) (n f : Nat) (M : sy_M) : Prop :=
  M 0 7 = nI f ∧ (f < n → M 0 6 = nI (ttT bt n f)) ∧ M 0 8 = nI (srT bt n f) ∧ (srT bt n f = 2 → M 0 9 = nI (nuT bt f (ttT bt n f - f))) ∧ (srT bt n f = 4 → M 0 9 = nI (bt f))
theorem isZ {M : sy_M} {n f c : Nat} {bt : Nat → Nat} {Q : Int32 → sy_M → Prop} (h : tpZ n bt M) (hc : c = 40 ∨ c = 41 ∨ c = 44) (hk : tkZ bt n f M) (h1 : kcT bt n f = c + 1 → Q 1 M) (h0 : kcT bt n f ≠ c + 1 → Q 0 M) : wX12_is M (nI c) Q := by
  obtain ⟨k7, k6, k8, k9, k4⟩ := hk
  have := sr_le bt n f
  unfold wX12_is
  rw [k8, nI_eq (by omega) (by omega)]
  by_cases hs : srT bt n f = 4
  · have hfn : f < n := by
      have : srT bt n f ≠ 0 := by omega
      rw [Ne, sr0] at this
      exact kc_lt this
    have := (h.2.2 f hfn).1
    simp only [eq_true hs, not_true_eq_false, false_implies, true_implies, true_and]
    rw [k4 hs, nI_eq (by omega) (by omega)]
    refine ⟨fun z => h0 (fun y => z ((sr4 hc).mpr y).2), fun z => h1 ((sr4 hc).mp ⟨hs, z⟩)⟩
  · simp only [eq_false hs, not_false_eq_true, false_implies, true_implies, and_true]
    exact h0 (fun y => hs ((sr4 hc).mpr y).1)
theorem isWordZ {M : sy_M} {n w f : Nat} {bt : Nat → Nat} {Q : Int32 → sy_M → Prop} (h : tpZ n bt M) (hw : w < 5) (hk : tkZ bt n f M)
    (hq : Q (if wdB bt n w f = true then 1 else 0) M) : wX12_isWord M w Q := by
  have hn := h.1
  obtain ⟨k7, k6, k8, k9, k4⟩ := hk
  have := sr_le bt n f
  obtain ⟨l6, l1⟩ := sy_len6 w hw
  unfold wX12_isWord
  rw [k8, nI_eq (by omega) (by omega)]
  by_cases hs : srT bt n f = 3
  · obtain ⟨hk, h8⟩ := sr3.mp hs
    simp only [eq_true hs, true_implies, not_true_eq_false, false_implies, true_and]
    obtain ⟨hfn, hk'⟩ := kc_kN hk
    have htb := ttT_b bt hfn
    rw [k6 hfn, k7, pk_sub (by omega), nI_eq (by omega) (by omega)]
    by_cases hl : ttT bt n f - f = sy_len.getD w 0
    · simp only [eq_true hl, true_implies, not_true_eq_false, false_implies, and_true]
      refine ⟨sy_len.getD w 0 + 1, ?_⟩
      have key : ∀ r j, j + r = sy_len.getD w 0 → (∀ k, k < j → bt (f + k) = wcN w k) → wX12_isWord_28 Q (r + 1) M w (nI j) := by
        intro r
        induction r with
        | zero =>
          intro j hj hp
          rw [wX12_isWord_28, nI_leI (by omega) (by omega)]
          simp only [eq_true (show sy_len.getD w 0 ≤ j by omega), true_implies, not_true_eq_false, false_implies, and_true]
          have e : wdB bt n w f = true := by
            unfold wdB
            rw [decide_eq_true hk, decide_eq_true hl, decide_eq_true (fun k hk => hp k (by omega))]
            rfl
          rw [if_pos e] at hq
          exact hq
        | succ r ih =>
          intro j hj hp
          rw [wX12_isWord_28, nI_leI (by omega) (by omega)]
          simp only [eq_false (show ¬ sy_len.getD w 0 ≤ j by omega), true_implies, not_false_eq_true, false_implies, true_and]
          rw [k7, nI_add, ex_nI (by omega) (by omega), ex_nI (by omega) (by omega)]
          obtain ⟨e1, e2⟩ := wcN_c w hw j (by omega)
          obtain ⟨hb, hbe⟩ := h.2.2 (f + j) (by omega)
          rw [e1, hbe, sb_eq hb e2]
          by_cases he : bt (f + j) = wcN w j
          · simp only [eq_true he, true_implies, not_true_eq_false, false_implies, and_true]
            rw [nI_1]
            refine ih (j + 1) (by omega) (fun k hk => ?_)
            by_cases hkj : k = j
            · rw [hkj]; exact he
            · exact hp k (by omega)
          · simp only [eq_false he, true_implies, not_true_eq_false, not_false_eq_true, false_implies, and_true, true_and]
            have e : ¬ wdB bt n w f = true := by
              unfold wdB
              rw [Bool.and_eq_true, Bool.and_eq_true]
              intro z
              exact he (of_decide_eq_true z.2.2 j (by omega))
            rw [if_neg e] at hq
            exact hq
      exact key (sy_len.getD w 0) 0 (by omega) (fun k hk => absurd hk (by omega))
    · simp only [eq_false hl, true_implies, not_true_eq_false, not_false_eq_true, false_implies, and_true, true_and]
      have e : ¬ wdB bt n w f = true := by
        unfold wdB
        rw [Bool.and_eq_true, Bool.and_eq_true]
        intro z
        exact hl (of_decide_eq_true z.2.1)
      rw [if_neg e] at hq
      exact hq
  · simp only [eq_false hs, true_implies, not_false_eq_true, false_implies, and_true]
    have e : ¬ wdB bt n w f = true := by
      intro z
      refine hs (sr3.mpr ⟨wdB_kc z, ?_⟩)
      unfold wdB at z
      rw [Bool.and_eq_true, Bool.and_eq_true] at z
      have := of_decide_eq_true z.2.1
      omega
    rw [if_neg e] at hq
    exact hq
theorem howZ {M : sy_M} {n f : Nat} {bt : Nat → Nat} {Q : Int32 → sy_M → Prop} (h : tpZ n bt M) (hk : tkZ bt n f M) (hq : Q (pm (hwT bt n f)) M) : wX12_how M Q := by
  unfold hwT at hq
  unfold wX12_how
  refine isWordZ h (by omega) hk ?_
  by_cases e1 : wdB bt n 1 f = true
  · rw [if_pos e1] at hq ⊢
    simp only [i10, true_implies, not_false_eq_true, false_implies, and_true, true_and]
    exact hq
  · rw [if_neg e1] at hq ⊢
    simp only [true_implies, not_true_eq_false, false_implies, and_true, true_and]
    refine isWordZ h (by omega) hk ?_
    by_cases e2 : wdB bt n 2 f = true
    · rw [if_pos e2] at hq ⊢
      simp only [i10, true_implies, not_false_eq_true, false_implies, and_true, true_and]
      exact hq
    · rw [if_neg e2] at hq ⊢
      simp only [true_implies, not_true_eq_false, false_implies, and_true, true_and]
      refine isWordZ h (by omega) hk ?_
      by_cases e3 : wdB bt n 3 f = true
      · rw [if_pos e3] at hq ⊢
        simp only [i10, true_implies, not_false_eq_true, false_implies, and_true, true_and]
        exact hq
      · rw [if_neg e3] at hq ⊢
        simp only [true_implies, not_true_eq_false, false_implies, and_true, true_and]
        refine isWordZ h (by omega) hk ?_
        by_cases e4 : wdB bt n 4 f = true
        · rw [if_pos e4] at hq ⊢
          simp only [i10, true_implies, not_false_eq_true, false_implies, and_true, true_and]
          exact hq
        · rw [if_neg e4] at hq ⊢
          simp only [true_implies, not_true_eq_false, false_implies, and_true, true_and]
          exact hq
theorem isNameZ {M : sy_M} {n f : Nat} {bt : Nat → Nat} {Q : Int32 → sy_M → Prop} (h : tpZ n bt M) (hk : tkZ bt n f M) (h1 : nmT bt n f → Q 1 M) (h0 : ¬ nmT bt n f → Q 0 M) : wX12_isName M Q := by
  have := sr_le bt n f
  have hh4 := hwT_le bt n f
  unfold wX12_isName
  rw [hk.2.2.1, nI_eq (by omega) (by omega)]
  by_cases hs : srT bt n f = 3
  · obtain ⟨hk1, h8⟩ := sr3.mp hs
    simp only [eq_true hs, true_implies, not_true_eq_false, false_implies, true_and]
    refine howZ h hk ?_
    rw [pm_m1 (by omega)]
    by_cases hh : hwT bt n f = 0
    · simp only [eq_true hh, true_implies, not_true_eq_false, false_implies, true_and]
      refine isWordZ h (by omega) hk ?_
      by_cases hw : wdB bt n 0 f = true
      · rw [if_pos hw]
        simp only [i10, true_implies, not_false_eq_true, false_implies, and_true]
        exact h0 (fun z => by have := z.2.2.1; rw [hw] at this; exact absurd this (by decide))
      · rw [if_neg hw]
        simp only [true_implies, not_true_eq_false, false_implies, true_and]
        exact h1 ⟨hk1, h8, by simpa using hw, hh⟩
    · simp only [eq_false hh, true_implies, not_false_eq_true, false_implies, and_true]
      exact h0 (fun z => hh z.2.2.2)
  · simp only [eq_false hs, true_implies, not_false_eq_true, false_implies, and_true]
    exact h0 (fun z => hs (sr3.mpr ⟨z.1, z.2.1⟩))
def bxZ (s : Nat → Nat → Nat) (M : sy_M) (b : Nat) : Prop :=
  M 2 (41 + b) = (if s 0 b = 0 then -1 else nI (40 + s 0 b)) ∧ M 3 (41 + b) = b01 (s 1 b) ∧ M 4 (41 + b) = nI (s 2 b) ∧ M 5 (41 + b) = nI (s 3 b) ∧ (s 1 b ≠ 0 → M 6 (41 + b) = pm (s 1 b)) ∧ M 7 (41 + b) = nI (s 6 b) ∧ M 8 (41 + b) = nI (s 4 b) ∧ M 9 (41 + b) = nI (s 5 b) ∧ ∀ k, k < s 5 b → M 10 (8 * (41 + b) + k) = nI (s (10 + k) b)
def fpZ (M0 M : sy_M) : Prop :=
  (∀ q c, 2 ≤ q → q ≤ 9 → c < 41 → M q c = M0 q c) ∧ (∀ c, c < 328 → M 10 c = M0 10 c) ∧ M 1 = M0 1 ∧ (∀ q, 11 ≤ q → M q = M0 q) ∧ ∀ k, k ≠ 0 → k ≠ 6 → k ≠ 7 → k ≠ 8 → k ≠ 9 → k ≠ 10 → k ≠ 11 → k ≠ 14 → M 0 k = M0 0 k
def mZ (M0 : sy_M) (s : Nat → Nat → Nat) (M : sy_M) : Prop := fpZ M0 M ∧ M 0 10 = 0 ∧ M 0 14 = nI (s 20 3) ∧ ∀ b, b < s 20 3 → bxZ s M b
def erZ (M0 : sy_M) (f c : Nat) (M : sy_M) : Prop := fpZ M0 M ∧ M 0 10 = nI c ∧ M 0 11 = nI f
theorem fpZ.tp {n : Nat} {bt : Nat → Nat} {M0 M : sy_M} (h : fpZ M0 M) (tp : tpZ n bt M0) : tpZ n bt M := tp.cg (h.2.2.2.2 5 (by omega) (by omega) (by omega) (by omega) (by omega) (by omega) (by omega) (by omega)) h.2.2.1
theorem fpZ.nx {M0 M M' : sy_M} (h : fpZ M0 M) (nx : nxZ M M') : fpZ M0 M' := by
  obtain ⟨a, b, c, d, e⟩ := h
  refine ⟨fun q i h1 h2 h3 => ?_, fun i hi => ?_, ?_, fun q hq => ?_, fun k h1 h2 h3 h4 h5 h6 h7 h8 => ?_⟩
  · rw [nx.1 q (by omega)]; exact a q i h1 h2 h3
  · rw [nx.1 10 (by omega)]; exact b i hi
  · rw [nx.1 1 (by omega)]; exact c
  · rw [nx.1 q (by omega)]; exact d q hq
  · rw [nx.2 k h2 h3 h4 h5]; exact e k h1 h2 h3 h4 h5 h6 h7 h8
theorem mZ.nx {M0 M M' : sy_M} {s : Nat → Nat → Nat} (h : mZ M0 s M) (nx : nxZ M M') : mZ M0 s M' := by
  obtain ⟨a, b, c, d⟩ := h
  refine ⟨a.nx nx, ?_, ?_, fun x hx => ?_⟩
  · rw [nx.2 10 (by omega) (by omega) (by omega) (by omega)]; exact b
  · rw [nx.2 14 (by omega) (by omega) (by omega) (by omega)]; exact c
  · unfold bxZ
    rw [nx.1 2 (by omega), nx.1 3 (by omega), nx.1 4 (by omega), nx.1 5 (by omega), nx.1 6 (by omega), nx.1 7 (by omega), nx.1 8 (by omega), nx.1 9 (by omega), nx.1 10 (by omega)]
    exact d x hx
/-- the next token -/
theorem stepZ {M0 M : sy_M} {n : Nat} {bt : Nat → Nat} {s : Nat → Nat → Nat} {Q : sy_M → Prop} (tp : tpZ n bt M0) (h : mZ M0 s M) (h6 : M 0 6 = nI (s 20 0)) (hp : s 20 0 ≤ n)
    (hq : ∀ M', mZ M0 s M' → tkZ bt n (tfT bt n (s 20 0)) M' → Q M') : wX12_next M Q :=
  nextZ (h.1.tp tp) h6 hp (fun M' a b c d e nx => hq M' (h.nx nx) ⟨a, b, c, d, e⟩)
theorem failsZ {M0 M : sy_M} {s : Nat → Nat → Nat} {f c : Nat} {Q : sy_M → Prop} (h : mZ M0 s M) (h7 : M 0 7 = nI f) (hq : ∀ M', erZ M0 f c M' → Q M') : wX12_fails M (nI c) Q := by
  unfold wX12_fails
  rw [h.2.1]
  simp only [true_implies, not_true_eq_false, false_implies, and_true]
  refine hq _ ⟨?_, ?_, ?_⟩
  · obtain ⟨a, b, c, d, e⟩ := h.1
    refine ⟨fun q i h1 h2 h3 => ?_, fun i hi => ?_, ?_, fun q hq => ?_, fun k h1 h2 h3 h4 h5 h6 h7 h8 => ?_⟩
    · rw [mu_n1 _ _ _ _ (by omega), mu_n1 _ _ _ _ (by omega)]; exact a q i h1 h2 h3
    · rw [mu_n1 _ _ _ _ (by omega), mu_n1 _ _ _ _ (by omega)]; exact b i hi
    · rw [mu_oth (by omega), mu_oth (by omega)]; exact c
    · rw [mu_oth (by omega), mu_oth (by omega)]; exact d q hq
    · rw [mu_n2 _ _ _ _ h7, mu_n2 _ _ _ _ h6]; exact e k h1 h2 h3 h4 h5 h6 h7 h8
  · rw [mu_n2 _ _ _ _ (by omega), mu_eq]
  · rw [mu_eq, h7]
theorem wellZ {M0 M : sy_M} {s : Nat → Nat → Nat} {Q : Int32 → sy_M → Prop} (h : mZ M0 s M) (hq : Q 1 M) : wX12_isWell M Q := by
  unfold wX12_isWell
  rw [h.2.1]
  simp only [true_implies, not_true_eq_false, false_implies, true_and]
  exact hq
theorem illZ {M0 M : sy_M} {f c : Nat} {Q : Int32 → sy_M → Prop} (h : erZ M0 f c M) (c1 : 1 ≤ c) (c3 : c ≤ 3) (hq : Q 0 M) : wX12_isWell M Q := by
  unfold wX12_isWell
  rw [h.2.1, nI_0i (by omega)]
  simp only [eq_false (show ¬ c = 0 by omega), true_implies, not_false_eq_true, false_implies, and_true]
  exact hq
/-- is the name known? -/
theorem known_in {M : sy_M} {n b len f e : Nat} {v bt : Nat → Nat} {KZ : sy_M → Int32 → Int32 → Int32 → Prop} {QZ : Int32 → sy_M → Prop} {x1 : Int32} (tp : tpZ n bt M) (hb : b < 40) (h7 : M 0 7 = nI f) (he : f < e) (hen : e ≤ n) (hl : M 9 (41 + b) = nI len) (hl8 : len ≤ 8) (hv : ∀ k, k < len → v k < 128 ∧ M 10 (8 * (41 + b) + k) = nI (v k))
    (h1 : len = e - f → (∀ k, k < len → v k = bt (f + k)) → KZ M x1 (nI (41 + b)) 1) (h0 : ¬ (len = e - f ∧ ∀ k, k < len → v k = bt (f + k)) → KZ M x1 (nI (41 + b)) 0) : ∃ m, wX12_isKnown_43 KZ QZ m M x1 (nI (41 + b)) (if len = e - f then 1 else 0) 0 := by
  have hn := tp.1
  by_cases hln : len = e - f
  · rw [if_pos hln]
    have key : ∀ r k, k + r = len → (∀ j, j < k → v j = bt (f + j)) → wX12_isKnown_43 KZ QZ (r + 2) M x1 (nI (41 + b)) 1 (nI k) := by
      intro r
      induction r with
      | zero =>
        intro k hk hj
        rw [wX12_isKnown_43, ex_nI (by omega) (by omega), hl]
        have : nI len ≤ nI k := nI_le (by omega) (by omega)
        exact ⟨fun _ => h1 hln (fun j hj2 => hj j (by omega)), fun h => absurd this h⟩
      | succ r ih =>
        intro k hk hj
        rw [wX12_isKnown_43, ex_nI (by omega) (by omega), hl]
        have e1 : ¬ nI len ≤ nI k := nI_ge (by omega) (by omega)
        simp only [e1, i10, false_implies, true_implies, not_false_eq_true, true_and]
        obtain ⟨v1, v2⟩ := hv k (by omega)
        obtain ⟨b1, b2⟩ := tp.2.2 (f + k) (by omega)
        rw [pk_mul, nI_add, ex_nI (show 8 * (41 + b) + k < 656 by omega) (by omega), h7, nI_add, ex_nI (show f + k < 1000 by omega) (by omega), v2, b2, nI_1]
        have e2 : (nI (v k) = sb (bt (f + k))) ↔ v k = bt (f + k) := by
          rw [eq_comm, sb_eq b1 v1, eq_comm]
        rw [e2]
        refine ⟨fun hne => ?_, fun heq => ?_⟩
        · rw [wX12_isKnown_43, ex_nI (by omega) (by omega), hl]
          have hK : KZ M x1 (nI (41 + b)) 0 := h0 (fun h => hne (h.2 k (by omega)))
          by_cases c : nI len ≤ nI (k + 1)
          · exact ⟨fun _ => hK, fun h => absurd c h⟩
          · exact ⟨fun h => absurd h c, fun _ => ⟨fun _ => hK, fun h => absurd rfl h⟩⟩
        · refine ih (k + 1) (by omega) (fun j hj2 => ?_)
          by_cases hjk : j = k
          · subst hjk; exact heq
          · exact hj j (by omega)
    exact ⟨len + 2, key len 0 (by omega) (fun j hj => absurd hj (by omega))⟩
  · rw [if_neg hln]
    refine ⟨1, ?_⟩
    rw [wX12_isKnown_43, ex_nI (by omega) (by omega), hl]
    have hK : KZ M x1 (nI (41 + b)) 0 := h0 (fun h => hln h.1)
    by_cases c : nI len ≤ 0
    · exact ⟨fun _ => hK, fun h => absurd c h⟩
    · exact ⟨fun h => absurd h c, fun _ => ⟨fun _ => hK, fun h => absurd rfl h⟩⟩
theorem knownZ {M0 M : sy_M} {n f : Nat} {bt : Nat → Nat} {s : Nat → Nat → Nat} {Q : Int32 → sy_M → Prop} (tp : tpZ n bt M) (hw : wfA (s 20 3) s) (h : mZ M0 s M) (hk : tkZ bt n f M) (hf : f < n) (h1 : knT bt n f s → Q 1 M) (h0 : ¬ knT bt n f s → Q 0 M) : wX12_isKnown M Q := by
  have hn := tp.1
  have hnb := hw.1
  have htb := ttT_b bt hf
  have key : ∀ r b x, b + r = s 20 3 → ((x = 0 ∧ ∀ c, c < b → ¬ (s 5 c = ttT bt n f - f ∧ ∀ k, k < s 5 c → s (10 + k) c = bt (f + k))) ∨ (x = 1 ∧ knT bt n f s)) → wX12_isKnown_5 Q (r + 1) M x (nI (41 + b)) := by
    intro r
    induction r with
    | zero =>
      intro b x hbr hx
      rw [wX12_isKnown_5, h.2.2.1, nI_add, nI_leI (by omega) (by omega)]
      simp only [eq_true (show 41 + s 20 3 ≤ 41 + b by omega), true_implies, not_true_eq_false, false_implies, and_true]
      rcases hx with ⟨e, hx⟩ | ⟨e, hx⟩
      · subst e
        refine ⟨Or.inl rfl, h0 ?_⟩
        rintro ⟨c, hc, e1, e2⟩
        exact hx c (by omega) ⟨e1, fun k hk => e2 k (by omega)⟩
      · subst e
        exact ⟨Or.inr rfl, h1 hx⟩
    | succ r ih =>
      intro b x hbr hx
      rw [wX12_isKnown_5, h.2.2.1, nI_add, nI_leI (by omega) (by omega)]
      simp only [eq_false (show ¬ 41 + s 20 3 ≤ 41 + b by omega), true_implies, not_false_eq_true, false_implies, true_and]
      have hb : b < s 20 3 := by omega
      obtain ⟨z2, z3, z4, z5, z6, z7, z8, z9, z10⟩ := h.2.2.2 b hb
      obtain ⟨a1, a2, a3, a4, a5, a6, a7, a8, a9⟩ := hw.2.2.2.1 b hb
      rw [ex_nI (by omega) (by omega), z9, hk.2.1 hf, hk.1, pk_sub (by omega), nI_eq (by omega) (by omega)]
      have inner : ∃ m, wX12_isKnown_43 (fun (M10 : sy_M) (x1_11 : Int32) (x2_12 : Int32) (x3_13 : Int32) => wX12_isKnown_97 (fun (M16 : sy_M) (x1_17 : Int32) (x2_18 : Int32) => wX12_isKnown_5 Q (r + 1) M16 x1_17 x2_18) Q M10 x1_11 x2_12 x3_13) Q m M x (nI (41 + b)) (if s 5 b = ttT bt n f - f then 1 else 0) 0 := by
        refine known_in (v := fun k => s (10 + k) b) tp (by omega) hk.1 htb.1 htb.2.1 z9 a5 (fun k hk => ⟨by have := a9 k hk; omega, z10 k hk⟩) (fun e1 e2 => ?_) (fun e1 => ?_)
        · unfold wX12_isKnown_97
          have hkn : knT bt n f s := ⟨b, hb, e1, fun k hk => e2 k (by omega)⟩
          have q := ih (b + 1) 1 (by omega) (Or.inr ⟨rfl, hkn⟩)
          rw [show 41 + (b + 1) = 41 + b + 1 by omega, ← nI_1] at q
          rcases hx with ⟨e, -⟩ | ⟨e, -⟩
          · subst e
            simp only [i10, true_implies, not_true_eq_false, not_false_eq_true, false_implies, true_and]
            exact q
          · subst e
            simp only [i10, true_implies, not_false_eq_true, false_implies, and_true]
            exact q
        · unfold wX12_isKnown_97
          rcases hx with ⟨e, hx⟩ | ⟨e, hx⟩
          · subst e
            simp only [true_implies, not_true_eq_false, false_implies, and_true, true_and]
            have q := ih (b + 1) 0 (by omega) (Or.inl ⟨rfl, fun c hc => ?_⟩)
            · rw [show 41 + (b + 1) = 41 + b + 1 by omega, ← nI_1] at q
              exact q
            · by_cases hcb : c = b
              · rw [hcb]; exact e1
              · exact hx c (by omega)
          · subst e
            simp only [i10, true_implies, not_false_eq_true, false_implies, and_true]
            have q := ih (b + 1) 1 (by omega) (Or.inr ⟨rfl, hx⟩)
            rw [show 41 + (b + 1) = 41 + b + 1 by omega, ← nI_1] at q
            exact q
      refine ⟨fun z => ?_, fun z => ?_⟩
      · rw [if_neg z] at inner; exact inner
      · rw [if_pos z] at inner; exact inner
  unfold wX12_isKnown
  exact ⟨_, key (s 20 3) 0 0 (by omega) (Or.inl ⟨rfl, fun c hc => absurd hc (by omega)⟩)⟩
