/-! ITEMS of a GROUP, by numbers: m of them, f i the box and one (0: the rest), g i the size -/
abbrev itS : Type := Nat × (Nat → Nat) × (Nat → Nat)
def ipos (g : Nat → Nat) (s : Nat) : Nat → Nat
  | 0 => 0
  | k + 1 => if g k < s then ipos g s k else k + 1
theorem ipos_le (g : Nat → Nat) (s : Nat) : ∀ k, ipos g s k ≤ k
  | 0 => Nat.le_refl _
  | k + 1 => by
    have := ipos_le g s k
    rw [ipos]
    split <;> omega
def insF (f : Nat → Nat) (p c : Nat) : Nat → Nat := fun i => if i < p then f i else if i = p then c else f (i - 1)
def insI (srt : Bool) (σ : itS) (c s : Nat) : itS := (σ.1 + 1, insF σ.2.1 (if srt then ipos σ.2.2 s σ.1 else σ.1) c, insF σ.2.2 (if srt then ipos σ.2.2 s σ.1 else σ.1) s)
/-- the class's cells hold the items -/
def itX (σ : itS) (M : sy_M) : Prop := M 28 0 = nI σ.1 ∧ ∀ i, i < σ.1 → M 29 i = pm (σ.2.1 i) ∧ M 30 i = nI (σ.2.2 i)
def itZ (σ : itS) (M : sy_M) : Prop := M 0 30 = nI σ.1 ∧ ∀ i, i < σ.1 → M 16 i = pm (σ.2.1 i) ∧ M 17 i = nI (σ.2.2 i)
theorem addI_X {M : sy_M} {σ : itS} {srt : Bool} {c s : Nat} {Q : sy_M → Prop} (hM : itX σ M) (hm : σ.1 < 8) (hs : ∀ i, i < σ.1 → σ.2.2 i < 2 ^ 31) (hs2 : s < 2 ^ 31)
    (hq : ∀ M', itX (insI srt σ c s) M' → (∀ q, q ≠ 29 → q ≠ 30 → q ≠ 28 → M' q = M q) → (∀ k, k ≠ 0 → M' 28 k = M 28 k) → Q M') : wX3_add M (pm c) (nI s) (if srt then 1 else 0) Q := by
  obtain ⟨m, f, g⟩ := σ
  obtain ⟨h0, h1⟩ := hM
  simp only at h0 h1 hm hs
  unfold wX3_add
  rw [h0]
  have e1 : nI m < nI 8 := nI_lt hm (by decide)
  refine ⟨fun _ => ?_, fun h => absurd e1 h⟩
  -- the place found: all is laid
  have fin : ∀ (p : Nat) (M1 : sy_M), p ≤ m → p = (if srt then ipos g s m else m) → M1 28 0 = nI m → (∀ q, q ≠ 29 → q ≠ 30 → M1 q = M q) → (∀ i, i < p → M1 29 i = pm (f i) ∧ M1 30 i = nI (g i)) → (∀ i, p < i → i ≤ m → M1 29 i = pm (f (i - 1)) ∧ M1 30 i = nI (g (i - 1))) → wX3_add_76 Q M1 (pm c) (nI s) (nI p) := by
    intro p M1 hp hpe h28 hk hlo hhi
    unfold wX3_add_76
    rw [ex_nI (show p < 8 by omega) (by omega), h28, nI_1]
    refine hq _ ⟨mu_eq _ _ _ _, fun i hi => ?_⟩ (fun q q1 q2 q3 => by rw [mu_oth q3, mu_oth q2, mu_oth q1]; exact hk q q1 q2) (fun k hk2 => by rw [mu_n2 _ _ _ _ hk2, mu_n1 _ _ _ _ (by omega), mu_n1 _ _ _ _ (by omega), hk 28 (by omega) (by omega)])
    have v1 : mu (mu (mu M1 29 p (pm c)) 30 p (nI s)) 28 0 (nI (m + 1)) 29 i = if i = p then (pm c) else M1 29 i := by simp [mu_ap]
    have v2 : mu (mu (mu M1 29 p (pm c)) 30 p (nI s)) 28 0 (nI (m + 1)) 30 i = if i = p then nI s else M1 30 i := by simp [mu_ap]
    rw [v1, v2]
    show _ = pm (insF f (if srt then ipos g s m else m) c i) ∧ _ = nI (insF g (if srt then ipos g s m else m) s i)
    rw [← hpe]
    unfold insF
    have hi : i < m + 1 := hi
    by_cases c1 : i < p
    · rw [if_pos c1, if_pos c1, if_neg (show ¬ i = p by omega), if_neg (show ¬ i = p by omega)]
      exact hlo i c1
    · by_cases c2 : i = p
      · rw [if_pos c2, if_pos c2, if_neg c1, if_neg c1, if_pos c2, if_pos c2]
        exact ⟨rfl, rfl⟩
      · rw [if_neg c2, if_neg c2, if_neg c1, if_neg c1, if_neg c2, if_neg c2]
        exact hhi i (by omega) (by omega)
  have key : ∀ r k M1, k = r → k ≤ m → (srt = true → ipos g s m = ipos g s k) → (srt = false → k = m) → M1 28 0 = nI m → (∀ q, q ≠ 29 → q ≠ 30 → M1 q = M q) → (∀ i, i < k → M1 29 i = pm (f i) ∧ M1 30 i = nI (g i)) → (∀ i, k < i → i ≤ m → M1 29 i = pm (f (i - 1)) ∧ M1 30 i = nI (g (i - 1))) → wX3_add_16 (fun M7 x1_8 x2_9 x4_10 => wX3_add_76 Q M7 x1_8 x2_9 x4_10) Q (r + 1) M1 (pm c) (nI s) (if srt then 1 else 0) (nI k) := by
    intro r
    induction r with
    | zero =>
      intro k M1 hk hkm hi1 hi2 h28 hkp hlo hhi
      subst hk
      rw [wX3_add_16]
      cases srt with
      | false =>
        simp only [Bool.false_eq_true, if_false, true_implies, not_true_eq_false, false_implies, and_true]
        exact fin 0 M1 hkm (by simpa using hi2 rfl) h28 hkp hlo hhi
      | true =>
        simp only [if_true, i10, false_implies, true_and, not_false_eq_true, true_implies]
        refine ⟨fun _ => fin 0 M1 hkm (by rw [if_pos rfl, hi1 rfl]; rfl) h28 hkp hlo hhi, fun h => absurd (by decide) h⟩
    | succ r ih =>
      intro k M1 hk hkm hi1 hi2 h28 hkp hlo hhi
      subst hk
      rw [wX3_add_16]
      cases srt with
      | false =>
        simp only [Bool.false_eq_true, if_false, true_implies, not_true_eq_false, false_implies, and_true]
        exact fin (r + 1) M1 hkm (by simpa using hi2 rfl) h28 hkp hlo hhi
      | true =>
        simp only [if_true, i10, false_implies, true_and, not_false_eq_true, true_implies]
        have e2 : ¬ nI (r + 1) ≤ 0 := nI_nle (by omega) (by omega)
        simp only [e2, false_implies, true_and, not_false_eq_true, true_implies]
        rw [nI_pred, ex_nI (show r < 8 by omega) (by omega), (hlo r (by omega)).2, (hlo r (by omega)).1, nI_leI hs2 (hs r (by omega))]
        refine ⟨fun hle => fin (r + 1) M1 hkm (by rw [if_pos rfl, hi1 rfl, ipos, if_neg (by omega)]) h28 hkp hlo hhi, fun hgt => ?_⟩
        rw [ex_nI (show r + 1 < 8 by omega) (by omega), pk_m1]
        refine ih r _ rfl (by omega) (fun _ => by rw [hi1 rfl, ipos, if_pos (by omega)]) (fun h => by cases h) (by rw [mu_n1 _ _ _ _ (by omega), mu_n1 _ _ _ _ (by omega)]; exact h28) (fun q q1 q2 => by rw [mu_oth q2, mu_oth q1]; exact hkp q q1 q2) (fun i hi => ?_) (fun i hi hi3 => ?_)
        · have v1 : mu (mu M1 29 (r + 1) (pm (f r))) 30 (r + 1) (nI (g r)) 29 i = M1 29 i := by simp [mu_ap]; omega
          have v2 : mu (mu M1 29 (r + 1) (pm (f r))) 30 (r + 1) (nI (g r)) 30 i = M1 30 i := by simp [mu_ap]; omega
          rw [v1, v2]
          exact hlo i (by omega)
        · have v1 : mu (mu M1 29 (r + 1) (pm (f r))) 30 (r + 1) (nI (g r)) 29 i = if i = r + 1 then pm (f r) else M1 29 i := by simp [mu_ap]
          have v2 : mu (mu M1 29 (r + 1) (pm (f r))) 30 (r + 1) (nI (g r)) 30 i = if i = r + 1 then nI (g r) else M1 30 i := by simp [mu_ap]
          rw [v1, v2]
          by_cases c1 : i = r + 1
          · subst c1
            rw [if_pos rfl, if_pos rfl]
            exact ⟨rfl, rfl⟩
          · rw [if_neg c1, if_neg c1]
            exact hhi i (by omega) hi3
  exact ⟨m + 1, key m m M rfl (Nat.le_refl _) (fun _ => rfl) (fun _ => rfl) h0 (fun _ _ _ => rfl) h1 (fun i h2 h3 => absurd h2 (by omega))⟩
theorem addI_Z {M : sy_M} {σ : itS} {srt : Bool} {c s gr : Nat} {x2 x4 : Int32} {KZ : sy_M → Int32 → Int32 → Int32 → Int32 → Prop} {Q : sy_M → Prop} (hM : itZ σ M) (hm : σ.1 < 9) (hs : ∀ i, i < σ.1 → σ.2.2 i < 2 ^ 31) (hs2 : s < 2 ^ 31) (hgr : gr < 41) (hsrt : M 7 gr = if srt then 1 else 0)
    (hq : ∀ M', itZ (insI srt σ (c + 1) s) M' → (∀ q, q ≠ 16 → q ≠ 17 → q ≠ 0 → M' q = M q) → (∀ k, k ≠ 30 → M' 0 k = M 0 k) → KZ M' (nI gr) x2 x4 (nI c + 1)) : ∃ n, wX12_findItems_169 (fun M28 x1_29 x2_30 x4_31 x5_32 x6_33 x7_34 => wX12_findItems_235 (fun M36 x1_37 x2_38 x4_39 x5_40 => KZ M36 x1_37 x2_38 x4_39 x5_40) Q M28 x1_29 x2_30 x4_31 x5_32 x6_33 x7_34) Q n M (nI gr) x2 x4 (nI c) (nI s) (M 0 30) := by
  obtain ⟨m, f, g⟩ := σ
  obtain ⟨h0, h1⟩ := hM
  simp only at h0 h1 hm hs
  rw [h0]
  have fin : ∀ (p : Nat) (M1 : sy_M), p ≤ m → p = (if srt then ipos g s m else m) → M1 0 30 = nI m → (∀ q, q ≠ 16 → q ≠ 17 → M1 q = M q) → (∀ i, i < p → M1 16 i = pm (f i) ∧ M1 17 i = nI (g i)) → (∀ i, p < i → i ≤ m → M1 16 i = pm (f (i - 1)) ∧ M1 17 i = nI (g (i - 1))) → wX12_findItems_235 (fun M36 x1_37 x2_38 x4_39 x5_40 => KZ M36 x1_37 x2_38 x4_39 x5_40) Q M1 (nI gr) x2 x4 (nI c) (nI s) (nI p) := by
    intro p M1 hp hpe h28 hk hlo hhi
    unfold wX12_findItems_235
    rw [ex_nI (show p < 9 by omega) (by omega), h28, nI_1]
    refine hq _ ⟨mu_eq _ _ _ _, fun i hi => ?_⟩ (fun q q1 q2 q3 => by rw [mu_oth q3, mu_oth q2, mu_oth q1]; exact hk q q1 q2) (fun k hk2 => by rw [mu_n2 _ _ _ _ hk2, mu_n1 _ _ _ _ (by omega), mu_n1 _ _ _ _ (by omega), hk 0 (by omega) (by omega)])
    have v1 : mu (mu (mu M1 16 p (nI c)) 17 p (nI s)) 0 30 (nI (m + 1)) 16 i = if i = p then (nI c) else M1 16 i := by simp [mu_ap]
    have v2 : mu (mu (mu M1 16 p (nI c)) 17 p (nI s)) 0 30 (nI (m + 1)) 17 i = if i = p then nI s else M1 17 i := by simp [mu_ap]
    rw [v1, v2]
    show _ = pm (insF f (if srt then ipos g s m else m) (c + 1) i) ∧ _ = nI (insF g (if srt then ipos g s m else m) s i)
    rw [← hpe]
    unfold insF
    have hi : i < m + 1 := hi
    by_cases c1 : i < p
    · rw [if_pos c1, if_pos c1, if_neg (show ¬ i = p by omega), if_neg (show ¬ i = p by omega)]
      exact hlo i c1
    · by_cases c2 : i = p
      · rw [if_pos c2, if_pos c2, if_neg c1, if_neg c1, if_pos c2, if_pos c2, pm_s]
        exact ⟨rfl, rfl⟩
      · rw [if_neg c2, if_neg c2, if_neg c1, if_neg c1, if_neg c2, if_neg c2]
        exact hhi i (by omega) (by omega)
  have key : ∀ r k M1, k = r → k ≤ m → (srt = true → ipos g s m = ipos g s k) → (srt = false → k = m) → M1 0 30 = nI m → (∀ q, q ≠ 16 → q ≠ 17 → M1 q = M q) → (∀ i, i < k → M1 16 i = pm (f i) ∧ M1 17 i = nI (g i)) → (∀ i, k < i → i ≤ m → M1 16 i = pm (f (i - 1)) ∧ M1 17 i = nI (g (i - 1))) → wX12_findItems_169 (fun M28 x1_29 x2_30 x4_31 x5_32 x6_33 x7_34 => wX12_findItems_235 (fun M36 x1_37 x2_38 x4_39 x5_40 => KZ M36 x1_37 x2_38 x4_39 x5_40) Q M28 x1_29 x2_30 x4_31 x5_32 x6_33 x7_34) Q (r + 1) M1 (nI gr) x2 x4 (nI c) (nI s) (nI k) := by
    intro r
    induction r with
    | zero =>
      intro k M1 hk hkm hi1 hi2 h28 hkp hlo hhi
      subst hk
      rw [wX12_findItems_169]
      refine ⟨fun _ => fin 0 M1 hkm ?_ h28 hkp hlo hhi, fun h => absurd (by decide) h⟩
      cases srt with
      | false => simpa using hi2 rfl
      | true => rw [if_pos rfl, hi1 rfl]; rfl
    | succ r ih =>
      intro k M1 hk hkm hi1 hi2 h28 hkp hlo hhi
      subst hk
      rw [wX12_findItems_169]
      have e2 : ¬ nI (r + 1) ≤ 0 := nI_nle (by omega) (by omega)
      simp only [e2, false_implies, true_and, not_false_eq_true, true_implies]
      rw [ex_nI (show gr < 82 by omega) (by omega), hkp 7 (by omega) (by omega), hsrt]
      cases srt with
      | false =>
        simp only [Bool.false_eq_true, if_false, true_implies, not_true_eq_false, false_implies, and_true]
        exact fin (r + 1) M1 hkm (by simpa using hi2 rfl) h28 hkp hlo hhi
      | true =>
        simp only [if_true, i10, false_implies, true_and, not_false_eq_true, true_implies]
        rw [nI_pred, ex_nI (show r < 9 by omega) (by omega), (hlo r (by omega)).2, (hlo r (by omega)).1, nI_leI hs2 (hs r (by omega))]
        refine ⟨fun hle => fin (r + 1) M1 hkm (by rw [if_pos rfl, hi1 rfl, ipos, if_neg (by omega)]) h28 hkp hlo hhi, fun hgt => ?_⟩
        rw [ex_nI (show r + 1 < 9 by omega) (by omega), pk_m1]
        refine ih r _ rfl (by omega) (fun _ => by rw [hi1 rfl, ipos, if_pos (by omega)]) (fun h => by cases h) (by rw [mu_n1 _ _ _ _ (by omega), mu_n1 _ _ _ _ (by omega)]; exact h28) (fun q q1 q2 => by rw [mu_oth q2, mu_oth q1]; exact hkp q q1 q2) (fun i hi => ?_) (fun i hi hi3 => ?_)
        · have v1 : mu (mu M1 16 (r + 1) (pm (f r))) 17 (r + 1) (nI (g r)) 16 i = M1 16 i := by simp [mu_ap]; omega
          have v2 : mu (mu M1 16 (r + 1) (pm (f r))) 17 (r + 1) (nI (g r)) 17 i = M1 17 i := by simp [mu_ap]; omega
          rw [v1, v2]
          exact hlo i (by omega)
        · have v1 : mu (mu M1 16 (r + 1) (pm (f r))) 17 (r + 1) (nI (g r)) 16 i = if i = r + 1 then pm (f r) else M1 16 i := by simp [mu_ap]
          have v2 : mu (mu M1 16 (r + 1) (pm (f r))) 17 (r + 1) (nI (g r)) 17 i = if i = r + 1 then nI (g r) else M1 17 i := by simp [mu_ap]
          rw [v1, v2]
          by_cases c1 : i = r + 1
          · subst c1
            rw [if_pos rfl, if_pos rfl]
            exact ⟨rfl, rfl⟩
          · rw [if_neg c1, if_neg c1]
            exact hhi i (by omega) hi3
  exact ⟨m + 1, key m m M rfl (Nat.le_refl _) (fun _ => rfl) (fun _ => rfl) h0 (fun _ _ _ => rfl) h1 (fun i h2 h3 => absurd h2 (by omega))⟩
