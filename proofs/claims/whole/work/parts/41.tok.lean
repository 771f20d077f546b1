/-! TOKENS, by numbers; both read them alike -/
def kN (c : Nat) : Nat := if 97 ≤ c ∧ c ≤ 122 then 97 else if 48 ≤ c ∧ c ≤ 57 then 48 else c
def kcT (bt : Nat → Nat) (n p : Nat) : Nat := if p < n then kN (bt p) + 1 else 0
def skT (bt : Nat → Nat) : Nat → Nat → Nat
  | 0, p => p
  | r + 1, p => if bt p = 32 ∨ bt p = 10 then skT bt r (p + 1) else p
def tfT (bt : Nat → Nat) (n p : Nat) : Nat := skT bt (n - p) p
def rnT (bt : Nat → Nat) (kk : Nat) : Nat → Nat → Nat
  | 0, q => q
  | r + 1, q => if kN (bt q) = kk then rnT bt kk r (q + 1) else q
def ttT (bt : Nat → Nat) (n f : Nat) : Nat := if f < n ∧ (kN (bt f) = 97 ∨ kN (bt f) = 48) then rnT bt (kN (bt f)) (n - (f + 1)) (f + 1) else f + 1
theorem skT_b (bt : Nat → Nat) : ∀ r p, p ≤ skT bt r p ∧ skT bt r p ≤ p + r
  | 0, p => by rw [skT]; omega
  | r + 1, p => by
    have := skT_b bt r (p + 1)
    rw [skT]
    split <;> omega
theorem tfT_b (bt : Nat → Nat) {n p : Nat} (h : p ≤ n) : p ≤ tfT bt n p ∧ tfT bt n p ≤ n := by
  have := skT_b bt (n - p) p
  unfold tfT
  omega
theorem rnT_b (bt : Nat → Nat) (kk : Nat) : ∀ r q, (q ≤ rnT bt kk r q ∧ rnT bt kk r q ≤ q + r) ∧ ∀ i, q ≤ i → i < rnT bt kk r q → kN (bt i) = kk
  | 0, q => by rw [rnT]; exact ⟨by omega, fun i h1 h2 => absurd h2 (by omega)⟩
  | r + 1, q => by
    have ih := rnT_b bt kk r (q + 1)
    rw [rnT]
    by_cases h : kN (bt q) = kk
    · rw [if_pos h]
      refine ⟨by omega, fun i h1 h2 => ?_⟩
      by_cases hi : i = q
      · rw [hi]; exact h
      · exact ih.2 i (by omega) h2
    · rw [if_neg h]
      exact ⟨by omega, fun i h1 h2 => absurd h2 (by omega)⟩
theorem ttT_b (bt : Nat → Nat) {n f : Nat} (h : f < n) : f < ttT bt n f ∧ ttT bt n f ≤ n ∧ ∀ i, f ≤ i → i < ttT bt n f → kN (bt i) = kN (bt f) := by
  unfold ttT
  split
  · obtain ⟨a, b⟩ := rnT_b bt (kN (bt f)) (n - (f + 1)) (f + 1)
    refine ⟨by omega, by omega, fun i h1 h2 => ?_⟩
    by_cases hi : i = f
    · rw [hi]
    · exact b i (by omega) h2
  · refine ⟨by omega, by omega, fun i h1 h2 => ?_⟩
    rw [show i = f by omega]
theorem kN_lt {c : Nat} (h : c < 256) : kN c < 256 := by
  unfold kN
  split
  · omega
  · split <;> omega
theorem kN_97 {c : Nat} : kN c = 97 ↔ 97 ≤ c ∧ c ≤ 122 := by
  unfold kN
  by_cases h1 : 97 ≤ c ∧ c ≤ 122
  · rw [if_pos h1]; exact ⟨fun _ => h1, fun _ => rfl⟩
  · rw [if_neg h1]
    split <;> constructor <;> intro <;> omega
theorem kN_48 {c : Nat} : kN c = 48 ↔ 48 ≤ c ∧ c ≤ 57 := by
  unfold kN
  by_cases h1 : 97 ≤ c ∧ c ≤ 122
  · rw [if_pos h1]; constructor <;> intro <;> omega
  · rw [if_neg h1]
    by_cases h2 : 48 ≤ c ∧ c ≤ 57
    · rw [if_pos h2]; exact ⟨fun _ => h2, fun _ => rfl⟩
    · rw [if_neg h2]; constructor <;> intro <;> omega
theorem kindX {M : sy_M} {c : Nat} {Q : Int32 → sy_M → Prop} (hc : c < 256) : wX6_kindOf M (nI c) Q ↔ Q (nI (kN c)) M := by
  unfold wX6_kindOf wX6_kindOf_15 kN
  rw [nI_ltI (by omega) (by omega), nI_ltI (by omega) (by omega), nI_ltI (by omega) (by omega), nI_ltI (by omega) (by omega)]
  by_cases h1 : c < 97
  · simp only [h1, true_implies, not_true_eq_false, false_implies, and_true]
    rw [if_neg (by omega)]
    by_cases h2 : c < 48
    · simp only [h2, true_implies, not_true_eq_false, false_implies, and_true]
      rw [if_neg (by omega)]
    · simp only [h2, not_false_eq_true, true_implies, false_implies, true_and]
      by_cases h3 : 57 < c
      · simp only [h3, true_implies, not_true_eq_false, false_implies, and_true]
        rw [if_neg (by omega)]
      · simp only [h3, not_false_eq_true, true_implies, false_implies, true_and]
        rw [if_pos (by omega)]
  · simp only [h1, not_false_eq_true, true_implies, false_implies, true_and]
    by_cases h2 : 122 < c
    · have h4 : ¬ c < 48 := by omega
      have h5 : 57 < c := by omega
      simp only [h2, h4, h5, not_false_eq_true, true_implies, not_true_eq_false, false_implies, and_true, true_and]
      rw [if_neg (by omega), if_neg (by omega)]
    · simp only [h2, not_false_eq_true, true_implies, false_implies, true_and]
      rw [if_pos (by omega)]
theorem kindX_m1 {M : sy_M} {Q : Int32 → sy_M → Prop} : wX6_kindOf M (-1) Q ↔ Q (-1) M := by
  unfold wX6_kindOf wX6_kindOf_15
  have h1 : (-1 : Int32) < nI 97 := by decide
  have h2 : (-1 : Int32) < nI 48 := by decide
  simp only [h1, h2, true_implies, not_true_eq_false, false_implies, and_true]
/-- the tape as the class has it -/
def tpX (n : Nat) (bt : Nat → Nat) (M : sy_M) : Prop := n ≤ 1000 ∧ M 1 0 = nI n ∧ ∀ i, i < n → bt i < 256 ∧ kp (M 2 i) = bt i
theorem byX {M : sy_M} {n i : Nat} {bt : Nat → Nat} {Q : Int32 → sy_M → Prop} (h : tpX n bt M) (hi : i < 2 ^ 31) : wX9_byteAt M (nI i) Q ↔ Q (if i < n then nI (bt i) else -1) M := by
  by_cases hin : i < n
  · rw [byteAt_y h.2.1 h.1 hin, (h.2.2 i hin).2, if_pos hin]
  · rw [byteAt_n h.2.1 h.1 (by omega) hi, if_neg hin]
theorem tpX.cg {n : Nat} {bt : Nat → Nat} {M M' : sy_M} (h : tpX n bt M) (e1 : M' 1 = M 1) (e2 : M' 2 = M 2) : tpX n bt M' := by
  unfold tpX
  rw [e1, e2]
  exact h
def nxX (M M' : sy_M) : Prop := (∀ q, q ≠ 3 → M' q = M q) ∧ ∀ k, k ≠ 5 → k ≠ 6 → k ≠ 7 → M' 3 k = M 3 k
theorem nextX {M : sy_M} {n p : Nat} {bt : Nat → Nat} {Q : sy_M → Prop} (h : tpX n bt M) (h7 : M 3 7 = nI p) (hp : p ≤ n)
    (hq : ∀ M', M' 3 5 = pm (kcT bt n (tfT bt n p)) → M' 3 6 = nI (tfT bt n p) → M' 3 7 = nI (ttT bt n (tfT bt n p)) → nxX M M' → Q M') : wX6_nextToken M Q := by
  have hn := h.1
  have hfb := tfT_b bt hp
  obtain ⟨f, hf⟩ : ∃ f, f = tfT bt n p := ⟨_, rfl⟩
  rw [← hf] at hq hfb
  -- how long the token is
  have stretch : ∀ kk, kk = kN (bt f) → f < n → (kk = 97 ∨ kk = 48) → (∀ M', M' 3 5 = nI kk → M' 3 6 = nI f → M' 3 7 = nI (rnT bt kk (n - (f + 1)) (f + 1)) → nxX M M' → Q M') → ∀ r q M1, q + r = n → M1 3 5 = nI kk → M1 3 6 = nI f → M1 3 7 = nI q → nxX M M1 → rnT bt kk r q = rnT bt kk (n - (f + 1)) (f + 1) → wX6_nextToken_80 Q (r + 1) M1 := by
    intro kk hkk hfn hk hK r
    induction r with
    | zero =>
      intro q M1 hq1 e5 e6 e7 ex er
      rw [wX6_nextToken_80]
      rw [ex.1 1 (by omega), h.2.1, e7]
      have : nI n ≤ nI q := nI_le (by omega) (by omega)
      refine ⟨fun _ => hK M1 e5 e6 ?_ ex, fun z => absurd this z⟩
      rw [e7, ← er, rnT]
    | succ r ih =>
      intro q M1 hq1 e5 e6 e7 ex er
      have hT1 : tpX n bt M1 := h.cg (ex.1 1 (by omega)) (ex.1 2 (by omega))
      rw [wX6_nextToken_80]
      rw [hT1.2.1, e7]
      have e1 : ¬ nI n ≤ nI q := nI_ge (by omega) (by omega)
      refine ⟨fun z => absurd z e1, fun _ => ?_⟩
      have body : wX6_nextToken_112 (fun (M24 : sy_M) => wX6_nextToken_80 Q (r + 1) M24) Q M1 := by
        unfold wX6_nextToken_112
        rw [e7, byX hT1 (by omega), if_pos (show q < n by omega), kindX (h.2.2 q (by omega)).1, e5]
        have hkl := kN_lt (h.2.2 q (by omega)).1
        rw [nI_eq (by omega) (by omega), e7, nI_1]
        rw [rnT] at er
        refine ⟨fun hne => ?_, fun he => ?_⟩
        · rw [if_neg hne] at er
          exact hK M1 e5 e6 (by rw [e7, er]) ex
        · rw [if_pos he] at er
          refine ih (q + 1) _ (by omega) (by rw [mu_n2 _ _ _ _ (by omega)]; exact e5) (by rw [mu_n2 _ _ _ _ (by omega)]; exact e6) (mu_eq _ _ _ _) ⟨fun q' z => by rw [mu_oth z]; exact ex.1 q' z, fun k z1 z2 z3 => by rw [mu_n2 _ _ _ _ z3]; exact ex.2 k z1 z2 z3⟩ er
      rw [e5]
      refine ⟨fun _ => body, fun hn97 => ⟨fun hn48 => ?_, fun _ => body⟩⟩
      rcases hk with e | e
      · rw [e] at hn97; exact absurd rfl hn97
      · rw [e] at hn48; exact absurd rfl hn48
  have kinds : ∀ M1, M1 3 6 = nI f → nxX M M1 → wX6_nextToken_52 Q M1 := by
    intro M1 e6 ex
    have hT1 : tpX n bt M1 := h.cg (ex.1 1 (by omega)) (ex.1 2 (by omega))
    unfold wX6_nextToken_52
    rw [e6, byX hT1 (by omega)]
    by_cases hfn : f < n
    · rw [if_pos hfn, kindX (h.2.2 f hfn).1]
      have hkl := kN_lt (h.2.2 f hfn).1
      obtain ⟨M2, hM2⟩ : ∃ M2, M2 = mu (mu M1 3 5 (nI (kN (bt f)))) 3 7 (nI (f + 1)) := ⟨_, rfl⟩
      have x5 : M2 3 5 = nI (kN (bt f)) := by rw [hM2, mu_n2 _ _ _ _ (by omega), mu_eq]
      have x6 : M2 3 6 = nI f := by rw [hM2, mu_n2 _ _ _ _ (by omega), mu_n2 _ _ _ _ (by omega)]; exact e6
      have x7 : M2 3 7 = nI (f + 1) := by rw [hM2, mu_eq]
      have xx : nxX M M2 := ⟨fun q' z => by rw [hM2, mu_oth z, mu_oth z]; exact ex.1 q' z, fun k z1 z2 z3 => by rw [hM2, mu_n2 _ _ _ _ z3, mu_n2 _ _ _ _ z1]; exact ex.2 k z1 z2 z3⟩
      rw [e6, nI_1, ← hM2]
      have hkc : kcT bt n f = kN (bt f) + 1 := by unfold kcT; rw [if_pos hfn]
      by_cases hk : kN (bt f) = 97 ∨ kN (bt f) = 48
      · refine ⟨n - (f + 1) + 1, stretch (kN (bt f)) rfl hfn hk (fun M' y5 y6 y7 yx => hq M' (by rw [hkc, pm_s]; exact y5) y6 ?_ yx) (n - (f + 1)) (f + 1) M2 (by omega) x5 x6 x7 xx rfl⟩
        unfold ttT
        rw [if_pos ⟨hfn, hk⟩]
        exact y7
      · refine ⟨1, ?_⟩
        have fin : Q M2 := hq M2 (by rw [hkc, pm_s]; exact x5) x6 (by unfold ttT; rw [if_neg (fun z => hk z.2)]; exact x7) xx
        rw [wX6_nextToken_80]
        refine ⟨fun _ => fin, fun _ => ⟨fun z => ?_, fun _ => ⟨fun _ => fin, fun z => ?_⟩⟩⟩
        · rw [x5, nI_eq (by omega) (by omega)] at z; exact absurd (Or.inl z) hk
        · rw [x5, nI_eq (by omega) (by omega)] at z; exact absurd (Or.inr z) hk
    · rw [if_neg hfn, kindX_m1]
      obtain ⟨M2, hM2⟩ : ∃ M2, M2 = mu (mu M1 3 5 (-1)) 3 7 (nI (f + 1)) := ⟨_, rfl⟩
      have x5 : M2 3 5 = -1 := by rw [hM2, mu_n2 _ _ _ _ (by omega), mu_eq]
      have x6 : M2 3 6 = nI f := by rw [hM2, mu_n2 _ _ _ _ (by omega), mu_n2 _ _ _ _ (by omega)]; exact e6
      have x7 : M2 3 7 = nI (f + 1) := by rw [hM2, mu_eq]
      have xx : nxX M M2 := ⟨fun q' z => by rw [hM2, mu_oth z, mu_oth z]; exact ex.1 q' z, fun k z1 z2 z3 => by rw [hM2, mu_n2 _ _ _ _ z3, mu_n2 _ _ _ _ z1]; exact ex.2 k z1 z2 z3⟩
      rw [e6, nI_1, ← hM2]
      refine ⟨1, ?_⟩
      have fin : Q M2 := hq M2 (by unfold kcT; rw [if_neg hfn, pm_0]; exact x5) x6 (by unfold ttT; rw [if_neg (fun z => hfn z.1)]; exact x7) xx
      rw [wX6_nextToken_80]
      refine ⟨fun _ => fin, fun _ => ⟨fun z => ?_, fun _ => ⟨fun _ => fin, fun z => ?_⟩⟩⟩
      · rw [x5] at z; exact absurd z.symm (nI_ne_m1 (by omega))
      · rw [x5] at z; exact absurd z.symm (nI_ne_m1 (by omega))
  have skip : ∀ r q M1, q + r = n → skT bt r q = f → M1 3 6 = nI q → nxX M M1 → wX6_nextToken_8 (fun (M9 : sy_M) => wX6_nextToken_52 Q M9) Q (r + 1) M1 := by
    intro r
    induction r with
    | zero =>
      intro q M1 hq1 hs e6 ex
      rw [wX6_nextToken_8]
      rw [skT] at hs
      subst hs
      refine ⟨fun _ => kinds M1 e6 ex, fun z => ?_⟩
      rw [ex.1 1 (by omega), h.2.1, e6] at z
      exact absurd (nI_le (by omega) (by omega)) z
    | succ r ih =>
      intro q M1 hq1 hs e6 ex
      have hT1 : tpX n bt M1 := h.cg (ex.1 1 (by omega)) (ex.1 2 (by omega))
      rw [wX6_nextToken_8]
      refine ⟨fun z => ?_, fun _ => ?_⟩
      · rw [hT1.2.1, e6] at z
        exact absurd z (nI_ge (by omega) (by omega))
      · rw [e6, byX hT1 (by omega), if_pos (show q < n by omega)]
        have hb := (h.2.2 q (by omega)).1
        unfold wX6_isBlank
        rw [nI_eq (by omega) (by omega), nI_eq (by omega) (by omega)]
        dsimp only
        rw [e6, nI_1]
        rw [skT] at hs
        have go : (bt q = 32 ∨ bt q = 10) → wX6_nextToken_8 (fun (M9 : sy_M) => wX6_nextToken_52 Q M9) Q (r + 1) (mu M1 3 6 (nI (q + 1))) := by
          intro hb
          rw [if_pos hb] at hs
          exact ih (q + 1) _ (by omega) hs (mu_eq _ _ _ _) ⟨fun q' z => by rw [mu_oth z]; exact ex.1 q' z, fun k z1 z2 z3 => by rw [mu_n2 _ _ _ _ z2]; exact ex.2 k z1 z2 z3⟩
        refine ⟨fun h32 => ⟨fun z => absurd z (by decide), fun _ => go (Or.inl h32)⟩, fun h32 => ⟨fun h10 => ⟨fun _ => ?_, fun z => absurd rfl z⟩, fun h10 => ⟨fun z => absurd z (by decide), fun _ => go (Or.inr h10)⟩⟩⟩
        rw [if_neg (by intro z; rcases z with z | z; exact h32 z; exact h10 z)] at hs
        subst hs
        exact kinds M1 e6 ex
  unfold wX6_nextToken
  refine ⟨n - p + 1, skip (n - p) p _ (by omega) hf.symm ?_ ⟨fun q z => mu_oth z, fun k z1 z2 z3 => mu_n2 _ _ _ _ z2⟩⟩
  rw [mu_eq]
  exact h7
