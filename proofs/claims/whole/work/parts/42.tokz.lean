/-! TOKENS: the reference's next -/
def tpZ (n : Nat) (bt : Nat → Nat) (M : sy_M) : Prop := n ≤ 1000 ∧ M 0 5 = nI n ∧ ∀ i, i < n → bt i < 256 ∧ M 1 i = sb (bt i)
def nuT (bt : Nat → Nat) (f : Nat) : Nat → Nat
  | 0 => 0
  | j + 1 => 10 * nuT bt f j + (bt (f + j) - 48)
def srT (bt : Nat → Nat) (n f : Nat) : Nat :=
  if n ≤ f then 0 else if kN (bt f) = 97 then (if ttT bt n f - f ≤ 8 then 3 else 1) else if kN (bt f) = 48 then (if ttT bt n f - f ≤ 6 then 2 else 1) else if bt f = 40 ∨ bt f = 41 ∨ bt f = 44 then 4 else 1
def nxZ (M M' : sy_M) : Prop := (∀ q, q ≠ 0 → M' q = M q) ∧ ∀ k, k ≠ 6 → k ≠ 7 → k ≠ 8 → k ≠ 9 → M' 0 k = M 0 k
theorem sb_ltL {c d : Nat} (hc : c < 256) (hd : d < 128) (h0 : 0 < d) : sb c < nI d ↔ (c < d ∨ 128 ≤ c) := by
  rw [Int32.lt_iff_toInt_lt, sb_toInt hc, nI_toInt (by omega)]
  split <;> omega
theorem sb_ltR {c d : Nat} (hc : c < 256) (hd : d < 128) : nI d < sb c ↔ (d < c ∧ c < 128) := by
  rw [Int32.lt_iff_toInt_lt, sb_toInt hc, nI_toInt (by omega)]
  split <;> omega
theorem sb_eq {c d : Nat} (hc : c < 256) (hd : d < 128) : sb c = nI d ↔ c = d := by
  have e : nI d = sb d := by unfold sb; rw [if_pos hd]
  rw [e]
  exact ⟨fun h => sb_inj hc (by omega) h, fun h => by rw [h]⟩
theorem sb_nI {c : Nat} (h : c < 128) : sb c = nI c := by unfold sb; rw [if_pos h]
theorem smallZ {M : sy_M} {c : Nat} {Q : Int32 → sy_M → Prop} (hc : c < 256) : wX12_isSmall M (sb c) Q ↔ Q (if kN c = 97 then 1 else 0) M := by
  unfold wX12_isSmall
  rw [sb_ltL hc (by omega) (by omega), sb_ltR hc (by omega)]
  by_cases h : kN c = 97
  · have h' := kN_97.mp h
    have h1 : ¬ (c < 97 ∨ 128 ≤ c) := by omega
    have h2 : ¬ (122 < c ∧ c < 128) := by omega
    simp only [h, h1, h2, if_true, not_false_eq_true, true_implies, false_implies, true_and]
  · have h' : ¬ (97 ≤ c ∧ c ≤ 122) := fun z => h (kN_97.mpr z)
    rw [if_neg h]
    by_cases h1 : c < 97 ∨ 128 ≤ c
    · simp only [h1, true_implies, not_true_eq_false, false_implies, and_true]
    · have h2 : 122 < c ∧ c < 128 := by omega
      simp only [h1, h2, and_self, not_false_eq_true, true_implies, false_implies, true_and, not_true_eq_false, and_true]
theorem digitZ {M : sy_M} {c : Nat} {Q : Int32 → sy_M → Prop} (hc : c < 256) : wX12_isDigit M (sb c) Q ↔ Q (if kN c = 48 then 1 else 0) M := by
  unfold wX12_isDigit
  rw [sb_ltL hc (by omega) (by omega), sb_ltR hc (by omega)]
  by_cases h : kN c = 48
  · have h' := kN_48.mp h
    have h1 : ¬ (c < 48 ∨ 128 ≤ c) := by omega
    have h2 : ¬ (57 < c ∧ c < 128) := by omega
    simp only [h, h1, h2, if_true, not_false_eq_true, true_implies, false_implies, true_and]
  · have h' : ¬ (48 ≤ c ∧ c ≤ 57) := fun z => h (kN_48.mpr z)
    rw [if_neg h]
    by_cases h1 : c < 48 ∨ 128 ≤ c
    · simp only [h1, true_implies, not_true_eq_false, false_implies, and_true]
    · have h2 : 57 < c ∧ c < 128 := by omega
      simp only [h1, h2, and_self, not_false_eq_true, true_implies, false_implies, true_and, not_true_eq_false, and_true]
theorem seeZ {M : sy_M} {n i : Nat} {bt : Nat → Nat} {Q : Int32 → sy_M → Prop} (h : tpZ n bt M) (hi : i < 2 ^ 31) : wX12_see M (nI i) Q ↔ Q (if i < n then sb (bt i) else sb 0) M := by
  unfold wX12_see
  have := h.1
  rw [h.2.1, nI_leI (by omega) hi]
  by_cases hin : i < n
  · have h1 : ¬ n ≤ i := by omega
    simp only [h1, not_false_eq_true, true_implies, false_implies, true_and]
    rw [ex_nI (show i < 1000 by omega) (by omega), (h.2.2 i hin).2, if_pos hin]
  · have h1 : n ≤ i := by omega
    simp only [h1, not_true_eq_false, true_implies, false_implies, and_true]
    rw [if_neg hin]
    exact Iff.rfl
theorem tpZ.cg {n : Nat} {bt : Nat → Nat} {M M' : sy_M} (h : tpZ n bt M) (e1 : M' 0 5 = M 0 5) (e2 : M' 1 = M 1) : tpZ n bt M' := by
  unfold tpZ
  rw [e1, e2]
  exact h
theorem nuT_lt {bt : Nat → Nat} {f : Nat} : ∀ j, (∀ i, i < j → bt (f + i) - 48 ≤ 9) → nuT bt f j < 10 ^ j
  | 0, _ => by show 0 < 1; omega
  | j + 1, h => by
    have ih := nuT_lt (bt := bt) (f := f) j (fun i hi => h i (by omega))
    have := h j (by omega)
    rw [nuT, Nat.pow_succ]
    omega
theorem nextZ {M : sy_M} {n p : Nat} {bt : Nat → Nat} {Q : sy_M → Prop} (h : tpZ n bt M) (h6 : M 0 6 = nI p) (hp : p ≤ n)
    (hq : ∀ M', M' 0 7 = nI (tfT bt n p) → (tfT bt n p < n → M' 0 6 = nI (ttT bt n (tfT bt n p))) → M' 0 8 = nI (srT bt n (tfT bt n p)) → (srT bt n (tfT bt n p) = 2 → M' 0 9 = nI (nuT bt (tfT bt n p) (ttT bt n (tfT bt n p) - tfT bt n p))) → (srT bt n (tfT bt n p) = 4 → M' 0 9 = nI (bt (tfT bt n p))) → nxZ M M' → Q M') : wX12_next M Q := by
  have hn := h.1
  have hfb := tfT_b bt hp
  obtain ⟨f, hf⟩ : ∃ f, f = tfT bt n p := ⟨_, rfl⟩
  rw [← hf] at hq hfb
  have words : kN (bt f) = 97 → f < n → ∀ (K : sy_M → Prop), (∀ M', M' 0 7 = nI f → M' 0 6 = nI (ttT bt n f) → nxZ M M' → K M') → ∀ r q M1, q + r = n → M1 0 7 = nI f → M1 0 6 = nI q → nxZ M M1 → rnT bt 97 r q = ttT bt n f → wX12_next_104 K Q (r + 1) M1 := by
    intro hk hfn K hK r
    induction r with
    | zero =>
      intro q M1 hq1 e7 e6 ex er
      have hT1 : tpZ n bt M1 := h.cg (ex.2 5 (by omega) (by omega) (by omega) (by omega)) (ex.1 1 (by omega))
      rw [wX12_next_104, e6, seeZ hT1 (by omega), if_neg (show ¬ q < n by omega), smallZ (by omega), if_neg (by decide)]
      refine ⟨fun _ => hK M1 e7 ?_ ex, fun z => absurd rfl z⟩
      rw [e6, ← er, rnT]
    | succ r ih =>
      intro q M1 hq1 e7 e6 ex er
      have hT1 : tpZ n bt M1 := h.cg (ex.2 5 (by omega) (by omega) (by omega) (by omega)) (ex.1 1 (by omega))
      rw [wX12_next_104, e6, seeZ hT1 (by omega), if_pos (show q < n by omega), smallZ (h.2.2 q (by omega)).1]
      rw [rnT] at er
      by_cases hkq : kN (bt q) = 97
      · rw [if_pos hkq] at er ⊢
        refine ⟨fun z => absurd z (by decide), fun _ => ?_⟩
        rw [e6, nI_1]
        exact ih (q + 1) _ (by omega) (by rw [mu_n2 _ _ _ _ (by omega)]; exact e7) (mu_eq _ _ _ _) ⟨fun q' z => by rw [mu_oth z]; exact ex.1 q' z, fun k z1 z2 z3 z4 => by rw [mu_n2 _ _ _ _ z1]; exact ex.2 k z1 z2 z3 z4⟩ er
      · rw [if_neg hkq] at er ⊢
        exact ⟨fun _ => hK M1 e7 (by rw [e6, er]) ex, fun z => absurd rfl z⟩
  have digits : kN (bt f) = 48 → f < n → ∀ (K : sy_M → Prop), (∀ M', M' 0 7 = nI f → M' 0 6 = nI (ttT bt n f) → (ttT bt n f - f ≤ 6 → M' 0 9 = nI (nuT bt f (ttT bt n f - f))) → nxZ M M' → K M') → ∀ r q M1, q + r = n → f < q → M1 0 7 = nI f → M1 0 6 = nI q → (q - f ≤ 6 → M1 0 9 = nI (nuT bt f (q - f))) → nxZ M M1 → rnT bt 48 r q = ttT bt n f → wX12_next_172 K Q (r + 1) M1 := by
    intro hk hfn K hK r
    have htb := ttT_b bt hfn
    induction r with
    | zero =>
      intro q M1 hq1 hfq e7 e6 e9 ex er
      have hT1 : tpZ n bt M1 := h.cg (ex.2 5 (by omega) (by omega) (by omega) (by omega)) (ex.1 1 (by omega))
      rw [wX12_next_172, e6, seeZ hT1 (by omega), if_neg (show ¬ q < n by omega), digitZ (by omega), if_neg (by decide)]
      rw [rnT] at er
      refine ⟨fun _ => hK M1 e7 (by rw [e6, er]) (by rw [← er]; exact e9) ex, fun z => absurd rfl z⟩
    | succ r ih =>
      intro q M1 hq1 hfq e7 e6 e9 ex er
      have hT1 : tpZ n bt M1 := h.cg (ex.2 5 (by omega) (by omega) (by omega) (by omega)) (ex.1 1 (by omega))
      rw [wX12_next_172, e6, seeZ hT1 (by omega), if_pos (show q < n by omega), digitZ (h.2.2 q (by omega)).1]
      rw [rnT] at er
      by_cases hkq : kN (bt q) = 48
      · have hkq' := kN_48.mp hkq
        rw [if_pos hkq] at er ⊢
        have hqt : q < ttT bt n f := by
          have := (rnT_b bt 48 r (q + 1)).1.1
          omega
        refine ⟨fun z => absurd z (by decide), fun _ => ?_⟩
        rw [e6, e7, pk_sub (by omega), nI_leI (by omega) (by omega)]
        unfold wX12_next_223
        refine ⟨fun h6 => ?_, fun h6 => ?_⟩
        · rw [e6, nI_1]
          exact ih (q + 1) _ (by omega) (by omega) (by rw [mu_n2 _ _ _ _ (by omega)]; exact e7) (mu_eq _ _ _ _) (fun z => absurd z (by omega)) ⟨fun q' z => by rw [mu_oth z]; exact ex.1 q' z, fun k z1 z2 z3 z4 => by rw [mu_n2 _ _ _ _ z1]; exact ex.2 k z1 z2 z3 z4⟩ er
        · rw [seeZ hT1 (by omega), if_pos (show q < n by omega), mu_n2 _ _ _ _ (show (6 : Nat) ≠ 9 by omega), e6, nI_1, e9 (by omega), sb_nI (by omega), pk_mul, nI_add, pk_sub (by omega)]
          refine ih (q + 1) _ (by omega) (by omega) (by rw [mu_n2 _ _ _ _ (by omega), mu_n2 _ _ _ _ (by omega)]; exact e7) (mu_eq _ _ _ _) (fun z => ?_) ⟨fun q' z => by rw [mu_oth z, mu_oth z]; exact ex.1 q' z, fun k z1 z2 z3 z4 => by rw [mu_n2 _ _ _ _ z1, mu_n2 _ _ _ _ z4]; exact ex.2 k z1 z2 z3 z4⟩ er
          rw [mu_n2 _ _ _ _ (by omega), mu_eq, show q + 1 - f = (q - f) + 1 by omega, nuT, show f + (q - f) = q by omega]
          congr 1
          omega
      · rw [if_neg hkq] at er ⊢
        exact ⟨fun _ => hK M1 e7 (by rw [e6, er]) (by rw [← er]; exact e9) ex, fun z => absurd rfl z⟩
  have kinds : ∀ M1, M1 0 6 = nI f → nxZ M M1 → wX12_next_52 Q M1 := by
    intro M1 e6 ex
    have hT1 : tpZ n bt M1 := h.cg (ex.2 5 (by omega) (by omega) (by omega) (by omega)) (ex.1 1 (by omega))
    unfold wX12_next_52
    rw [e6, hT1.2.1, nI_ltI (by omega) (by omega)]
    refine ⟨fun hfn => ?_, fun hfn => ?_⟩
    · rw [ex_nI (show f < 1000 by omega) (by omega), (hT1.2.2 f hfn).2]
      have hc := (h.2.2 f hfn).1
      have htb := ttT_b bt hfn
      obtain ⟨M2, hM2⟩ : ∃ M2, M2 = mu (mu M1 0 7 (nI f)) 0 6 (nI (f + 1)) := ⟨_, rfl⟩
      have x7 : M2 0 7 = nI f := by rw [hM2, mu_n2 _ _ _ _ (by omega), mu_eq]
      have x6 : M2 0 6 = nI (f + 1) := by rw [hM2, mu_eq]
      have xx : nxZ M M2 := ⟨fun q' z => by rw [hM2, mu_oth z, mu_oth z]; exact ex.1 q' z, fun k z1 z2 z3 z4 => by rw [hM2, mu_n2 _ _ _ _ z1, mu_n2 _ _ _ _ z2]; exact ex.2 k z1 z2 z3 z4⟩
      rw [nI_1, ← hM2, smallZ hc]
      have set8 : ∀ M3 v, M3 0 7 = nI f → M3 0 6 = nI (ttT bt n f) → nxZ M M3 → v = srT bt n f → (srT bt n f = 2 → M3 0 9 = nI (nuT bt f (ttT bt n f - f))) → (srT bt n f = 4 → M3 0 9 = nI (bt f)) → Q (mu M3 0 8 (nI v)) := by
        intro M3 v y7 y6 yx hv y9 y4
        refine hq _ (by rw [mu_n2 _ _ _ _ (by omega)]; exact y7) (fun _ => by rw [mu_n2 _ _ _ _ (by omega)]; exact y6) (by rw [mu_eq, hv]) (fun z => by rw [mu_n2 _ _ _ _ (by omega)]; exact y9 z) (fun z => by rw [mu_n2 _ _ _ _ (by omega)]; exact y4 z) ⟨fun q' z => by rw [mu_oth z]; exact yx.1 q' z, fun k z1 z2 z3 z4 => by rw [mu_n2 _ _ _ _ z3]; exact yx.2 k z1 z2 z3 z4⟩
      by_cases hk : kN (bt f) = 97
      · rw [if_pos hk]
        refine ⟨fun z => absurd z (by decide), fun _ => ⟨n - (f + 1) + 1, ?_⟩⟩
        refine words hk hfn _ (fun M3 y7 y6 yx => ?_) (n - (f + 1)) (f + 1) M2 (by omega) x7 x6 xx (by unfold ttT; rw [if_pos ⟨hfn, Or.inl hk⟩, hk])
        rw [y7, y6, pk_sub (by omega), nI_leI (by omega) (by omega)]
        have e : srT bt n f = if ttT bt n f - f ≤ 8 then 3 else 1 := by unfold srT; rw [if_neg (by omega), if_pos hk]
        refine ⟨fun z => set8 M3 3 y7 y6 yx (by rw [e, if_pos z]) (fun w => ?_) (fun w => ?_), fun z => set8 M3 1 y7 y6 yx (by rw [e, if_neg z]) (fun w => ?_) (fun w => ?_)⟩
        · rw [e, if_pos z] at w; omega
        · rw [e, if_pos z] at w; omega
        · rw [e, if_neg z] at w; omega
        · rw [e, if_neg z] at w; omega
      · rw [if_neg hk]
        refine ⟨fun _ => ?_, fun z => absurd rfl z⟩
        rw [digitZ hc]
        by_cases hk2 : kN (bt f) = 48
        · have hk2' := kN_48.mp hk2
          rw [if_pos hk2]
          refine ⟨fun z => absurd z (by decide), fun _ => ⟨n - (f + 1) + 1, ?_⟩⟩
          rw [sb_nI (by omega), pk_sub (by omega)]
          refine digits hk2 hfn _ (fun M3 y7 y6 y9 yx => ?_) (n - (f + 1)) (f + 1) _ (by omega) (by omega) (by rw [mu_n2 _ _ _ _ (by omega)]; exact x7) (by rw [mu_n2 _ _ _ _ (by omega)]; exact x6) (fun _ => by rw [mu_eq, show f + 1 - f = 0 + 1 by omega, nuT, nuT]; congr 1; rw [Nat.add_zero]; omega) ⟨fun q' z => by rw [mu_oth z]; exact xx.1 q' z, fun k z1 z2 z3 z4 => by rw [mu_n2 _ _ _ _ z4]; exact xx.2 k z1 z2 z3 z4⟩ (by unfold ttT; rw [if_pos ⟨hfn, Or.inr hk2⟩, hk2])
          rw [y7, y6, pk_sub (by omega), nI_leI (by omega) (by omega)]
          have e : srT bt n f = if ttT bt n f - f ≤ 6 then 2 else 1 := by unfold srT; rw [if_neg (by omega), if_neg hk, if_pos hk2]
          refine ⟨fun z => set8 M3 2 y7 y6 yx (by rw [e, if_pos z]) (fun _ => y9 z) (fun w => ?_), fun z => set8 M3 1 y7 y6 yx (by rw [e, if_neg z]) (fun w => ?_) (fun w => ?_)⟩
          · rw [e, if_pos z] at w; omega
          · rw [e, if_neg z] at w; omega
          · rw [e, if_neg z] at w; omega
        · rw [if_neg hk2]
          refine ⟨fun _ => ?_, fun z => absurd rfl z⟩
          have hkN : kN (bt f) = bt f := by
            unfold kN
            rw [if_neg (fun z => hk (kN_97.mpr z)), if_neg (fun z => hk2 (kN_48.mpr z))]
          have htt : ttT bt n f = f + 1 := by unfold ttT; rw [if_neg (by omega)]
          have e : srT bt n f = if bt f = 40 ∨ bt f = 41 ∨ bt f = 44 then 4 else 1 := by unfold srT; rw [if_neg (by omega), if_neg hk, if_neg hk2]
          have go : ∀ v, v = srT bt n f → Q (mu (mu M2 0 9 (sb (bt f))) 0 8 (nI v)) := by
            intro v hv
            refine set8 _ v (by rw [mu_n2 _ _ _ _ (by omega)]; exact x7) (by rw [mu_n2 _ _ _ _ (by omega), htt]; exact x6) ⟨fun q' z => by rw [mu_oth z]; exact xx.1 q' z, fun k z1 z2 z3 z4 => by rw [mu_n2 _ _ _ _ z4]; exact xx.2 k z1 z2 z3 z4⟩ hv (fun w => ?_) (fun w => ?_)
            · rw [e] at w
              split at w <;> omega
            · rw [mu_eq]
              rw [e] at w
              have : bt f = 40 ∨ bt f = 41 ∨ bt f = 44 := by
                split at w
                · assumption
                · omega
              exact sb_nI (by omega)
          rw [sb_eq hc (by omega), sb_eq hc (by omega), sb_eq hc (by omega)]
          refine ⟨fun z => go 4 (by rw [e, if_pos (Or.inl z)]), fun z1 => ⟨fun z => go 4 (by rw [e, if_pos (Or.inr (Or.inl z))]), fun z2 => ⟨fun z3 => go 1 (by rw [e, if_neg (by omega)]), fun z => go 4 (by rw [e, if_pos (Or.inr (Or.inr z))])⟩⟩⟩
    · have e : srT bt n f = 0 := by unfold srT; rw [if_pos (by omega)]
      refine hq _ (by rw [mu_n2 _ _ _ _ (by omega), mu_eq]) (fun z => absurd z hfn) (by rw [mu_eq, e]; rfl) (fun z => by omega) (fun z => by omega) ⟨fun q' z => by rw [mu_oth z, mu_oth z]; exact ex.1 q' z, fun k z1 z2 z3 z4 => by rw [mu_n2 _ _ _ _ z3, mu_n2 _ _ _ _ z2]; exact ex.2 k z1 z2 z3 z4⟩
  have skip : ∀ r q M1, q + r = n → skT bt r q = f → M1 0 6 = nI q → nxZ M M1 → wX12_next_0 (fun (M7 : sy_M) => wX12_next_52 Q M7) Q (r + 1) M1 := by
    intro r
    induction r with
    | zero =>
      intro q M1 hq1 hs e6 ex
      rw [wX12_next_0]
      rw [skT] at hs
      subst hs
      refine ⟨fun _ => kinds M1 e6 ex, fun z => ?_⟩
      rw [ex.2 5 (by omega) (by omega) (by omega) (by omega), h.2.1, e6] at z
      exact absurd (nI_le (by omega) (by omega)) z
    | succ r ih =>
      intro q M1 hq1 hs e6 ex
      have hT1 : tpZ n bt M1 := h.cg (ex.2 5 (by omega) (by omega) (by omega) (by omega)) (ex.1 1 (by omega))
      have hb := (h.2.2 q (by omega)).1
      rw [wX12_next_0, hT1.2.1, e6]
      refine ⟨fun z => absurd z (nI_ge (by omega) (by omega)), fun _ => ?_⟩
      rw [ex_nI (show q < 1000 by omega) (by omega), (hT1.2.2 q (by omega)).2, sb_eq hb (by omega), sb_eq hb (by omega)]
      unfold wX12_next_39
      rw [e6, nI_1]
      rw [skT] at hs
      have go : (bt q = 32 ∨ bt q = 10) → wX12_next_0 (fun (M7 : sy_M) => wX12_next_52 Q M7) Q (r + 1) (mu M1 0 6 (nI (q + 1))) := by
        intro hb
        rw [if_pos hb] at hs
        exact ih (q + 1) _ (by omega) hs (mu_eq _ _ _ _) ⟨fun q' z => by rw [mu_oth z]; exact ex.1 q' z, fun k z1 z2 z3 z4 => by rw [mu_n2 _ _ _ _ z1]; exact ex.2 k z1 z2 z3 z4⟩
      refine ⟨fun z => go (Or.inl z), fun h32 => ⟨fun h10 => ?_, fun z => go (Or.inr z)⟩⟩
      rw [if_neg (by intro z; rcases z with z | z; exact h32 z; exact h10 z)] at hs
      subst hs
      exact kinds M1 e6 ex
  exact ⟨n - p + 1, skip (n - p) p M (by omega) hf.symm h6 ⟨fun _ _ => rfl, fun _ _ _ _ _ => rfl⟩⟩
