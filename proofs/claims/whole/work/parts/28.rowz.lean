/-! ROWS: the reference tries all breaks -/
theorem bitZ : ∀ b, b < 128 → ∀ k, k < 8 → ((nI b >>> (nI k &&& 31)) &&& 1) = (if b.testBit k = true then 1 else 0 : Int32) := by decide +kernel
def pcN (b : Nat) : Nat := smN (Nat.testBit b) 0 8
theorem bcZ0 : ∀ b, b < 128 → wJ6_bitCount_0f7a4 (fun _ _ => 0) (nI b) (fun r _ => r = nI (pcN b)) := by
  unfold wJ6_bitCount_0f7a4
  decide +kernel
theorem bcZ {M : sy_M} {b : Nat} {Q : Int32 → sy_M → Prop} (hb : b < 128) : wJ6_bitCount_0f7a4 M (nI b) Q ↔ Q (nI (pcN b)) M := by
  have := bcZ0 b hb
  unfold wJ6_bitCount_0f7a4 at this ⊢
  rw [this]
theorem pcN_le (b : Nat) : pcN b ≤ 8 := by
  have : ∀ n, smN (Nat.testBit b) 0 n ≤ n := by
    intro n
    induction n with
    | zero => exact Nat.le_refl _
    | succ n ih => rw [smN]; split <;> omega
  exact this 8
/-- which breaks come first among those of one worst -/
def ahP (a b : Nat) : Prop := pcN a < pcN b ∨ (pcN a = pcN b ∧ ∃ k, k < 8 ∧ (∀ j, j < k → a.testBit j = b.testBit j) ∧ a.testBit k = false ∧ b.testBit k = true)
theorem ahP_ir (a : Nat) : ¬ ahP a a := by
  intro h
  rcases h with h | ⟨_, k, _, _, h1, h2⟩
  · omega
  · rw [h1] at h2; exact absurd h2 (by decide)
theorem ahP_tr {a b c : Nat} (h1 : ahP a b) (h2 : ahP b c) : ahP a c := by
  rcases h1 with h1 | ⟨e1, k, k1, k2, k3, k4⟩
  · rcases h2 with h2 | ⟨e2, _⟩
    · exact Or.inl (by omega)
    · exact Or.inl (by omega)
  · rcases h2 with h2 | ⟨e2, l, l1, l2, l3, l4⟩
    · exact Or.inl (by omega)
    · refine Or.inr ⟨by omega, ?_⟩
      by_cases hkl : k < l
      · refine ⟨k, k1, fun j hj => by rw [k2 j hj, l2 j (by omega)], k3, by rw [← l2 k hkl]; exact k4⟩
      · by_cases hlk : l < k
        · refine ⟨l, l1, fun j hj => by rw [k2 j (by omega), l2 j hj], by rw [k2 l hlk]; exact l3, l4⟩
        · have : k = l := by omega
          subst this
          rw [k4] at l3
          exact absurd l3 (by decide)
theorem isAheadZ {M : sy_M} {a b : Nat} {Q : Int32 → sy_M → Prop} (ha : a < 128) (hb : b < 128) (h1 : ahP a b → Q 1 M) (h0 : ¬ ahP a b → Q 0 M) : wX12_isAhead M (nI a) (nI b) Q := by
  have pa := pcN_le a
  have pb := pcN_le b
  unfold wX12_isAhead
  rw [bcZ ha, bcZ hb]
  have key : pcN a = pcN b → ∀ r k, k + r = 8 → (∀ j, j < k → a.testBit j = b.testBit j) → wX12_isAhead_27 (fun (M8 : sy_M) (x2_9 : Int32) (x4_10 : Int32) => wX12_isAhead_55 Q M8 x2_9 x4_10) Q (r + 1) M (nI a) (nI b) (nI k) := by
    intro hp r
    induction r with
    | zero =>
      intro k hk he
      rw [wX12_isAhead_27]
      have : nI 8 ≤ nI k := nI_le (by omega) (by omega)
      refine ⟨fun _ => ?_, fun h => absurd this h⟩
      unfold wX12_isAhead_55
      refine ⟨fun _ => h0 (fun h => ?_), fun h => absurd this h⟩
      rcases h with h | ⟨_, l, l1, l2, l3, l4⟩
      · omega
      · rw [he l (by omega), l4] at l3; exact absurd l3 (by decide)
    | succ r ih =>
      intro k hk he
      rw [wX12_isAhead_27]
      have e1 : ¬ nI 8 ≤ nI k := nI_ge (by omega) (by omega)
      simp only [e1, false_implies, true_implies, not_false_eq_true, true_and]
      unfold wX12_isAhead_55
      rw [bitZ a ha k (by omega), bitZ b hb k (by omega), nI_1]
      refine ⟨fun hne => ⟨fun h => absurd h e1, fun _ => ⟨fun hb1 => ?_, fun hb1 => ?_⟩⟩, fun heq => ?_⟩
      · refine h0 (fun h => ?_)
        have tb : b.testBit k = false := by
          cases hh : b.testBit k
          · rfl
          · rw [hh] at hb1; exact absurd rfl hb1
        have ta : a.testBit k = true := by
          cases hh : a.testBit k
          · rw [hh, tb] at hne; exact absurd rfl hne
          · rfl
        rcases h with h | ⟨_, l, l1, l2, l3, l4⟩
        · omega
        · by_cases hlk : l < k
          · rw [he l hlk, l4] at l3; exact absurd l3 (by decide)
          · by_cases hkl : k < l
            · have := l2 k hkl
              rw [ta, tb] at this
              exact absurd this (by decide)
            · have : l = k := by omega
              subst this
              rw [tb] at l4
              exact absurd l4 (by decide)
      · have tb : b.testBit k = true := by
          cases hh : b.testBit k
          · rw [hh] at hb1; exact absurd hb1 (by decide)
          · rfl
        have ta : a.testBit k = false := by
          cases hh : a.testBit k
          · rfl
          · rw [hh, tb] at hne; exact absurd rfl hne
        exact h1 (Or.inr ⟨hp, k, by omega, he, ta, tb⟩)
      · refine ih (k + 1) (by omega) (fun j hj => ?_)
        by_cases hjk : j = k
        · subst hjk
          cases ta : a.testBit j <;> cases tb : b.testBit j
          · rfl
          · rw [ta, tb] at heq; exact absurd heq (by decide)
          · rw [ta, tb] at heq; exact absurd heq (by decide)
          · rfl
        · exact he j (by omega)
  have e0 : nI (pcN a) - nI (pcN b) = 0 ↔ pcN a = pcN b := by
    have e := pk_sub_toInt (show pcN a < 2 ^ 30 by omega) (show pcN b < 2 ^ 30 by omega)
    constructor
    · intro q
      rw [q] at e
      have : (0 : Int32).toInt = 0 := by decide
      omega
    · intro q
      rw [q]
      exact Int32.sub_self _
  rw [e0]
  refine ⟨fun hp => ⟨9, key hp 8 0 (by omega) (fun j hj => absurd hj (by omega))⟩, fun hp => ⟨fun hle => h0 (fun h => ?_), fun hgt => h1 (Or.inl ?_)⟩⟩
  · rcases h with h | ⟨h, _⟩
    · have := pk_sneg (show pcN b < 2 ^ 30 by omega) h
      exact absurd hle (by rw [Int32.not_le]; exact this)
    · exact hp h
  · refine Nat.lt_of_not_le (fun q => hgt ?_)
    rw [pk_sub q]
    exact nI_pos' (by omega)
/-- the reference's rows by bits -/
theorem laysRowsZ {M : sy_M} {m b x y w h : Nat} {g : Nat → Nat} {Q : sy_M → Prop} (hi : inZ m g M) (hb : b < 128) (hxw : x + w ≤ 3000) (hyh : y + h ≤ 3000)
    (hq : ∀ M', plZ (roR g (Nat.testBit b) m x y w h) m M' → frZ M M' → Q M') : wX12_laysRows M (nI b) (nI x) (nI y) (nI w) (nI h) Q := by
  obtain ⟨hm1, i1, i6, i7⟩ := id hi
  have hm8 := i7.1
  obtain ⟨β, hβ⟩ : ∃ β, β = Nat.testBit b := ⟨_, rfl⟩
  have hbit : ∀ k, k < 8 → ((nI b >>> (nI k &&& 31)) &&& 1) = (if β k = true then 1 else 0 : Int32) := fun k hk => by rw [hβ]; exact bitZ b hb k hk
  rw [← hβ] at hq
  -- the items of one row
  have items : ∀ (K : sy_M → Int32 → Int32 → Int32 → Int32 → Int32 → Prop) f t, f < m → t = re β m f → rf β f = f → (∀ M', plZ (roR g β m x y w h) t M' → (∀ k, k ≤ m → M' 24 k = nI (bg g k h 0 m)) → frZ M M' → K M' (nI b) (nI x) (nI y) (nI w) (nI t)) → ∀ r k M1, k + r = t → f ≤ k → plZ (roR g β m x y w h) k M1 → (∀ k, k ≤ m → M1 24 k = nI (bg g k h 0 m)) → (∀ k, f ≤ k → k < t → M1 22 k = nI (bg g k w f t)) → frZ M M1 → wX12_laysRows_112 K Q (r + 1) M1 (nI b) (nI x) (nI y) (nI w) (nI f) (nI t) (nI k) := by
    intro K f t hf ht hs hK r
    have hbd := re_b β hf
    rw [← ht] at hbd
    induction r with
    | zero =>
      intro k M1 hk hfk h1 h2 h3 h4
      have : k = t := by omega
      subst this
      rw [wX12_laysRows_112]
      have : nI k ≤ nI k := nI_le (Nat.le_refl _) (by omega)
      exact ⟨fun _ => hK M1 h1 h2 h4, fun h => absurd this h⟩
    | succ r ih =>
      intro k M1 hk hfk h1 h2 h3 h4
      rw [wX12_laysRows_112]
      have e1 : ¬ nI t ≤ nI k := nI_ge (by omega) (by omega)
      simp only [e1, false_implies, true_implies, not_false_eq_true, true_and]
      obtain ⟨r1, r2⟩ := row_in β hs hf hfk (by rw [← ht]; omega)
      rw [← ht] at r2
      have bm := bg_mono g w f t (show k ≤ k + 1 by omega)
      have cm := bg_mono g h 0 m (show f ≤ t by omega)
      rw [ex_nI (show k < 9 by omega) (by omega), ex_nI (show f < 10 by omega) (by omega), h3 k hfk (by omega), h2 f (by omega), nI_add, nI_add]
      rw [partEndZ (f := f) (g := g) (by omega) (by omega) (fun j q1 q2 => by rw [mu_n1 _ _ _ _ (by omega), mu_n1 _ _ _ _ (by omega)]; exact h3 j q1 q2) hfk]
      rw [ex_nI (show t < 10 by omega) (by omega)]
      have v1 : mu (mu M1 18 k (nI (x + bg g k w f t))) 19 k (nI (y + bg g f h 0 m)) 22 k = nI (bg g k w f t) := by rw [mu_n1 _ _ _ _ (by omega), mu_n1 _ _ _ _ (by omega)]; exact h3 k hfk (by omega)
      have v2 : mu (mu M1 18 k (nI (x + bg g k w f t))) 19 k (nI (y + bg g f h 0 m)) 24 t = nI (bg g t h 0 m) := by rw [mu_n1 _ _ _ _ (by omega), mu_n1 _ _ _ _ (by omega)]; exact h2 t (by omega)
      have v3 : mu (mu M1 18 k (nI (x + bg g k w f t))) 19 k (nI (y + bg g f h 0 m)) 24 f = nI (bg g f h 0 m) := by rw [mu_n1 _ _ _ _ (by omega), mu_n1 _ _ _ _ (by omega)]; exact h2 f (by omega)
      rw [v1, v2, v3, pk_sub bm, pk_sub cm, nI_1]
      have s0 : roR g β m x y w h 0 k = x + bg g k w f t := by unfold roR; rw [r1, r2]; rfl
      have s1 : roR g β m x y w h 1 k = y + bg g f h 0 m := by unfold roR; rw [r1]; rfl
      have s2 : roR g β m x y w h 2 k = bg g (k + 1) w f t - bg g k w f t := by unfold roR; rw [r1, r2]; rfl
      have s3 : roR g β m x y w h 3 k = bg g t h 0 m - bg g f h 0 m := by unfold roR; rw [r1, r2]; rfl
      refine ih (k + 1) _ (by omega) (by omega) (fun i hi2 => ?_) (fun j hj => ?_) (fun j q1 q2 => ?_) (fun q q1 q2 q3 q4 q5 q6 => by rw [mu_oth q4, mu_oth q3, mu_oth q2, mu_oth q1]; exact h4 q q1 q2 q3 q4 q5 q6)
      · by_cases hik : i = k
        · subst hik
          rw [s0, s1, s2, s3]
          simp [mu_ap]
        · have := h1 i (by omega)
          simp [mu_ap, hik]
          exact this
      · rw [mu_n1 _ _ _ _ (by omega), mu_n1 _ _ _ _ (by omega), mu_n1 _ _ _ _ (by omega), mu_n1 _ _ _ _ (by omega)]; exact h2 j hj
      · rw [mu_n1 _ _ _ _ (by omega), mu_n1 _ _ _ _ (by omega), mu_n1 _ _ _ _ (by omega), mu_n1 _ _ _ _ (by omega)]; exact h3 j q1 q2
  -- where a row ends
  have ends : ∀ (K : sy_M → Int32 → Int32 → Int32 → Int32 → Int32 → Int32 → Prop) M1 f, f < m → M1 0 30 = nI m → K M1 (nI b) (nI x) (nI y) (nI w) (nI f) (nI (re β m f)) → ∀ r t, t + r = m → f < t → (∀ k, f ≤ k → k + 1 < t → β k = false) → wX12_laysRows_72 K Q (r + 1) M1 (nI b) (nI x) (nI y) (nI w) (nI f) (nI t) := by
    intro K M1 f hf hM1 hK r
    induction r with
    | zero =>
      intro t ht hft hk
      have : t = m := by omega
      subst this
      rw [wX12_laysRows_72, hM1]
      have : nI t ≤ nI t := nI_le (Nat.le_refl _) (by omega)
      refine ⟨fun _ => ?_, fun h => absurd this h⟩
      rw [re_eq β (Nat.le_refl t) (fun q => absurd q (by omega)) (t - 1 - f) f (by omega) hk] at hK
      exact hK
    | succ r ih =>
      intro t ht hft hk
      rw [wX12_laysRows_72, hM1]
      have e1 : ¬ nI m ≤ nI t := nI_ge (by omega) (by omega)
      simp only [e1, false_implies, true_implies, not_false_eq_true, true_and]
      rw [nI_m1 (by omega), hbit (t - 1) (by omega), nI_1]
      by_cases hbt : β (t - 1) = true
      · rw [if_pos hbt]
        refine ⟨fun _ => ?_, fun h => absurd h (by decide)⟩
        rw [re_eq β (show t ≤ m by omega) (fun _ => hbt) (t - 1 - f) f (by omega) hk] at hK
        exact hK
      · rw [if_neg hbt]
        refine ⟨fun h => absurd rfl h, fun _ => ih (t + 1) (by omega) (by omega) (fun k q1 q2 => ?_)⟩
        by_cases hkt : k = t - 1
        · rw [hkt]; exact Bool.eq_false_iff.mpr hbt
        · exact hk k q1 (by omega)
  have rows : ∀ r f M1, m ≤ f + r → f ≤ m → (f < m → rf β f = f) → plZ (roR g β m x y w h) f M1 → (∀ k, k ≤ m → M1 24 k = nI (bg g k h 0 m)) → frZ M M1 → wX12_laysRows_57 Q (r + 1) M1 (nI b) (nI x) (nI y) (nI w) (nI f) := by
    intro r
    induction r with
    | zero =>
      intro f M1 hr hfm hs h1 h2 h3
      have : f = m := by omega
      subst this
      rw [wX12_laysRows_57, (hi.fr h3).2.1]
      have : nI f ≤ nI f := nI_le (Nat.le_refl _) (by omega)
      exact ⟨fun _ => hq M1 h1 h3, fun h => absurd this h⟩
    | succ r ih =>
      intro f M1 hr hfm hs h1 h2 h3
      have hX := hi.fr h3
      rw [wX12_laysRows_57, hX.2.1]
      by_cases hf : f = m
      · subst hf
        have : nI f ≤ nI f := nI_le (Nat.le_refl _) (by omega)
        exact ⟨fun _ => hq M1 h1 h3, fun h => absurd this h⟩
      · have e1 : ¬ nI m ≤ nI f := nI_ge (by omega) (by omega)
        simp only [e1, false_implies, true_implies, not_false_eq_true, true_and]
        have hfm2 : f < m := by omega
        have hbd := re_b β hfm2
        have hrow := row_st β hfm2
        rw [nI_1]
        refine ⟨m - (f + 1) + 1, ends _ M1 f hfm2 hX.2.1 ?_ (m - (f + 1)) (f + 1) (by omega) (by omega) (fun k q1 q2 => absurd q2 (by omega))⟩
        unfold wX12_laysRows_98
        refine partsZ hX.2.2.2 (show w ≤ 3000 by omega) (by omega) hbd.2 (fun M2 p1 p2 => ⟨re β m f - f + 1, ?_⟩)
        refine items _ f (re β m f) hfm2 rfl (hs hfm2) (fun M3 u1 u2 u3 => ih (re β m f) M3 (by omega) hbd.2 hrow u1 u2 u3) (re β m f - f) f M2 (by omega) (Nat.le_refl _) (fun i hi2 => ?_) (fun k hk => by rw [p2 24 (by omega)]; exact h2 k hk) p1 (fun q q1 q2 q3 q4 q5 q6 => by rw [p2 q q5]; exact h3 q q1 q2 q3 q4 q5 q6)
        rw [p2 18 (by omega), p2 19 (by omega), p2 20 (by omega), p2 21 (by omega)]
        exact h1 i hi2
  have copy : ∀ r k M1, k + r = m → (∀ j, j < m → M1 22 j = nI (bg g j h 0 m)) → (∀ j, j < k → M1 24 j = nI (bg g j h 0 m)) → frZ M M1 → wX12_laysRows_14 (fun (M5 : sy_M) (x1_6 : Int32) (x2_7 : Int32) (x3_8 : Int32) (x4_9 : Int32) (x5_10 : Int32) => ∃ n11 : Nat, n11 < 10 ∧ (M5 0 30) = nI n11 ∧ ∃ n43 : Nat, wX12_laysRows_57 Q n43 (mu M5 24 n11 x5_10) x1_6 x2_7 x3_8 x4_9 (0 : Int32)) Q (r + 1) M1 (nI b) (nI x) (nI y) (nI w) (nI h) (nI k) := by
    intro r
    induction r with
    | zero =>
      intro k M1 hk h1 h2 h3
      have : k = m := by omega
      subst this
      have hX := hi.fr h3
      rw [wX12_laysRows_14, hX.2.1]
      have : nI k ≤ nI k := nI_le (Nat.le_refl _) (by omega)
      refine ⟨fun _ => ?_, fun h => absurd this h⟩
      rw [ex_nI (show k < 10 by omega) (by omega)]
      refine ⟨k + 1, rows k 0 _ (by omega) (by omega) (fun _ => rfl) (fun i hi => absurd hi (by omega)) (fun j hj => ?_) (fun q q1 q2 q3 q4 q5 q6 => by rw [mu_oth q6]; exact h3 q q1 q2 q3 q4 q5 q6)⟩
      by_cases hjk : j = k
      · subst hjk
        rw [mu_eq]
        unfold bg
        rw [if_pos (Nat.le_refl _)]
      · rw [mu_n2 _ _ _ _ hjk]; exact h2 j (by omega)
    | succ r ih =>
      intro k M1 hk h1 h2 h3
      have hX := hi.fr h3
      rw [wX12_laysRows_14, hX.2.1]
      have e1 : ¬ nI m ≤ nI k := nI_ge (by omega) (by omega)
      simp only [e1, false_implies, true_implies, not_false_eq_true, true_and]
      rw [ex_nI (show k < 9 by omega) (by omega), nI_1, h1 k (by omega)]
      refine ⟨by omega, ih (k + 1) _ (by omega) (fun j hj => by rw [mu_n1 _ _ _ _ (by omega)]; exact h1 j hj) (fun j hj => ?_) (fun q q1 q2 q3 q4 q5 q6 => by rw [mu_oth q6]; exact h3 q q1 q2 q3 q4 q5 q6)⟩
      by_cases hjk : j = k
      · subst hjk; exact mu_eq _ _ _ _
      · rw [mu_n2 _ _ _ _ hjk]; exact h2 j (by omega)
  unfold wX12_laysRows
  rw [i1, show (0 : Int32) = nI 0 from rfl]
  refine partsZ i7 (show h ≤ 3000 by omega) (by omega) (Nat.le_refl _) (fun M1 h1 h2 => ⟨m + 1, ?_⟩)
  exact copy m 0 M1 (by omega) (fun j hj => h1 j (by omega) hj) (fun j hj => absurd hj (by omega)) (fun q q1 q2 q3 q4 q5 q6 => h2 q q5)
