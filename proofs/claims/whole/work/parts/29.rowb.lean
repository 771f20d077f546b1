/-! ROWS: both choose the same breaks -/
def vB (g : Nat → Nat) (m w h b : Nat) : Nat := wtR g (Nat.testBit b) m w h m 0
def betP (g : Nat → Nat) (m w h a b : Nat) : Prop := vB g m w h a < vB g m w h b ∨ (vB g m w h a = vB g m w h b ∧ ahP a b)
theorem betP_tr {g : Nat → Nat} {m w h a b c : Nat} (h1 : betP g m w h a b) (h2 : betP g m w h b c) : betP g m w h a c := by
  unfold betP at *
  rcases h1 with h1 | ⟨h1, k1⟩
  · rcases h2 with h2 | ⟨h2, k2⟩
    · exact Or.inl (by omega)
    · exact Or.inl (by omega)
  · rcases h2 with h2 | ⟨h2, k2⟩
    · exact Or.inl (by omega)
    · exact Or.inr ⟨by omega, ahP_tr k1 k2⟩
theorem betP_ir (g : Nat → Nat) (m w h a : Nat) : ¬ betP g m w h a a := by
  intro q
  rcases q with q | ⟨_, q⟩
  · omega
  · exact ahP_ir a q
theorem shl1 : ∀ m, m < 9 → 1 ≤ m → ((1 : Int32) <<< ((nI m - 1) &&& 31)) = nI (2 ^ (m - 1)) := by decide +kernel
theorem pow_le (m : Nat) (h : m ≤ 8) : 2 ^ (m - 1) ≤ 128 := Nat.pow_le_pow_right (show 0 < 2 by omega) (show m - 1 ≤ 7 by omega)
theorem breaksZ {M : sy_M} {m x y w h : Nat} {g : Nat → Nat} {Q : Int32 → sy_M → Prop} (hi : inZ m g M) (hxw : x + w ≤ 3000) (hyh : y + h ≤ 3000)
    (hq : ∀ M' b, b < 2 ^ (m - 1) → (∀ b', b' < 2 ^ (m - 1) → ¬ betP g m w h b' b) → frZ M M' → Q (nI b) M') : wX12_breaks M (nI x) (nI y) (nI w) (nI h) Q := by
  obtain ⟨hm1, i1, i6, i7⟩ := id hi
  have hm8 := i7.1
  have hpw := pow_le m hm8
  have hpos : 0 < 2 ^ (m - 1) := Nat.two_pow_pos _
  have vle : ∀ b, vB g m w h b ≤ 3000000 := fun b => by
    unfold vB
    rw [← wtR_ws g (Nat.testBit b) m x y w h]
    exact wsN_le m (fun i _ => roR_bd g _ (by omega) (by omega) i)
  have one : ∀ (K : Int32 → sy_M → Prop) M1 c, c < 128 → frZ M M1 → (∀ M2, frZ M M2 → K (nI (vB g m w h c)) M2) → wX12_laysRows M1 (nI c) (nI x) (nI y) (nI w) (nI h) (fun M2 => wX12_worst M2 K) := by
    intro K M1 c hc hf hK
    refine laysRowsZ (hi.fr hf) hc hxw hyh (fun M2 p1 p2 => ?_)
    have f2 : frZ M M2 := fun q q1 q2 q3 q4 q5 q6 => by rw [p2 q q1 q2 q3 q4 q5 q6]; exact hf q q1 q2 q3 q4 q5 q6
    have hX := hi.fr f2
    refine worstZ2 hX.2.1 hm8 hX.2.2.1 (fun i _ => roR_bd g _ (by omega) (by omega) i) p1 ?_
    rw [wtR_ws]
    exact hK M2 f2
  have key : ∀ r c M1 best, c + r = 2 ^ (m - 1) → best < c → (∀ b', b' < c → ¬ betP g m w h b' best) → frZ M M1 → wX12_breaks_9 Q (r + 1) M1 (nI x) (nI y) (nI w) (nI h) (nI best) (nI (vB g m w h best)) (nI c) := by
    intro r
    induction r with
    | zero =>
      intro c M1 best hc hbc h1 h2
      have hX := hi.fr h2
      rw [wX12_breaks_9, hX.2.1, shl1 m (by omega) hm1]
      have : nI (2 ^ (m - 1)) ≤ nI c := nI_le (by omega) (by omega)
      exact ⟨fun _ => hq M1 best (by omega) (fun b' hb' => h1 b' (by omega)) h2, fun h => absurd this h⟩
    | succ r ih =>
      intro c M1 best hc hbc h1 h2
      have hX := hi.fr h2
      rw [wX12_breaks_9, hX.2.1, shl1 m (by omega) hm1]
      have e1 : ¬ nI (2 ^ (m - 1)) ≤ nI c := nI_ge (by omega) (by omega)
      simp only [e1, false_implies, true_implies, not_false_eq_true, true_and]
      refine one _ M1 c (by omega) h2 (fun M2 f2 => ?_)
      have v1 := vle c
      have v2 := vle best
      have hn1 : ¬ nI best = -1 := nI_ne_m1 (by omega)
      simp only [hn1, false_implies, true_implies, not_false_eq_true, true_and]
      unfold wX12_breaks_70
      rw [nI_ltI (by omega) (by omega), nI_eq (by omega) (by omega), nI_1]
      have take : betP g m w h c best → wX12_breaks_9 Q (r + 1) M2 (nI x) (nI y) (nI w) (nI h) (nI c) (nI (vB g m w h c)) (nI (c + 1)) := by
        intro hb
        refine ih (c + 1) M2 c (by omega) (by omega) (fun b' hb' hbb => ?_) f2
        by_cases hbc2 : b' = c
        · subst hbc2; exact betP_ir g m w h b' hbb
        · exact h1 b' (by omega) (betP_tr hbb hb)
      have leave : ¬ betP g m w h c best → wX12_breaks_9 Q (r + 1) M2 (nI x) (nI y) (nI w) (nI h) (nI best) (nI (vB g m w h best)) (nI (c + 1)) := by
        intro hb
        refine ih (c + 1) M2 best (by omega) (by omega) (fun b' hb' => ?_) f2
        by_cases hbc2 : b' = c
        · subst hbc2; exact hb
        · exact h1 b' (by omega)
      refine ⟨fun hlt => take (Or.inl hlt), fun hge => ⟨fun hne => leave (fun q => ?_), fun he => ?_⟩⟩
      · rcases q with q | q
        · exact hge q
        · exact hne q.1
      · refine isAheadZ (by omega) (by omega) (fun hah => ⟨fun h => absurd h (by decide), fun _ => take (Or.inr ⟨he, hah⟩)⟩) (fun hah => ⟨fun _ => leave (fun q => ?_), fun h => absurd rfl h⟩)
        rcases q with q | q
        · exact hge q
        · exact hah q.2
  refine ⟨2 ^ (m - 1) + 1, ?_⟩
  rw [wX12_breaks_9, i1, shl1 m (by omega) hm1]
  have e1 : ¬ nI (2 ^ (m - 1)) ≤ nI 0 := nI_ge hpos (by omega)
  rw [← nI_0]
  simp only [e1, false_implies, true_implies, not_false_eq_true, true_and]
  refine one _ M 0 (by omega) (fun q _ _ _ _ _ _ => rfl) (fun M2 f2 => ⟨?_, fun h => absurd trivial h⟩)
  unfold wX12_breaks_70
  rw [nI_1]
  have := key (2 ^ (m - 1) - 1) 1 M2 0 (by omega) (by omega) (fun b' hb' => by rw [show b' = 0 by omega]; exact betP_ir g m w h 0) f2
  rw [show 2 ^ (m - 1) - 1 + 1 = 2 ^ (m - 1) by omega] at this
  exact this
/-- breaks told by fewer bits -/
theorem reN_cg {β γ : Nat → Bool} : ∀ n i, (∀ k, i ≤ k → k < i + n → β k = γ k) → reN β n i = reN γ n i
  | 0, i, _ => rfl
  | n + 1, i, h => by rw [reN, reN, h i (by omega) (by omega), reN_cg n (i + 1) (fun k q1 q2 => h k (by omega) (by omega))]
theorem re_cg {β γ : Nat → Bool} {m : Nat} (h : ∀ k, k + 1 < m → β k = γ k) (i : Nat) : re β m i = re γ m i := reN_cg _ i (fun k q1 q2 => h k (by omega))
theorem rf_cg {β γ : Nat → Bool} {m : Nat} (h : ∀ k, k + 1 < m → β k = γ k) : ∀ i, i < m → rf β i = rf γ i
  | 0, _ => rfl
  | i + 1, hi => by rw [rf, rf, h i (by omega), rf_cg h i (by omega)]
theorem roR_cg {g : Nat → Nat} {β γ : Nat → Bool} {m x y w h : Nat} (hb : ∀ k, k + 1 < m → β k = γ k) {i : Nat} (hi : i < m) (k : Nat) : roR g β m x y w h k i = roR g γ m x y w h k i := by
  unfold roR
  rw [re_cg hb, rf_cg hb i hi]
theorem wtR_cg {g : Nat → Nat} {β γ : Nat → Bool} {m w h : Nat} (hb : ∀ k, k + 1 < m → β k = γ k) : ∀ n f, wtR g β m w h n f = wtR g γ m w h n f
  | 0, _ => rfl
  | n + 1, f => by rw [wtR, wtR, re_cg hb, wtR_cg hb n]
theorem smN_cg {P P' : Nat → Bool} (a : Nat) : ∀ n, (∀ k, a ≤ k → k < a + n → P k = P' k) → smN P a n = smN P' a n
  | 0, _ => rfl
  | n + 1, h => by rw [smN, smN, smN_cg a n (fun k q1 q2 => h k q1 (by omega)), h (a + n) (by omega) (by omega)]
theorem nrR_cg {β γ : Nat → Bool} {m : Nat} (hb : ∀ k, k + 1 < m → β k = γ k) (f : Nat) : nrR β m f = nrR γ m f := by
  unfold nrR
  rw [smN_cg f _ (fun k q1 q2 => hb k (by omega))]
def encB : Nat → (Nat → Bool) → Nat
  | 0, _ => 0
  | n + 1, β => (if β 0 = true then 1 else 0) + 2 * encB n (fun k => β (k + 1))
theorem encB_lt : ∀ n β, encB n β < 2 ^ n
  | 0, _ => Nat.zero_lt_one
  | n + 1, β => by
    have := encB_lt n (fun k => β (k + 1))
    rw [encB, Nat.pow_succ]
    split <;> omega
theorem encB_bit : ∀ n β k, k < n → (encB n β).testBit k = β k
  | 0, _, k, h => absurd h (by omega)
  | n + 1, β, 0, _ => by
    rw [encB, Nat.testBit_zero]
    cases β 0 <;> simp <;> omega
  | n + 1, β, k + 1, h => by
    rw [Nat.testBit_succ, encB]
    have : ((if β 0 = true then 1 else 0) + 2 * encB n (fun k => β (k + 1))) / 2 = encB n (fun k => β (k + 1)) := by split <;> omega
    rw [this, encB_bit n _ k (by omega)]
theorem pc_nr {m b : Nat} (hm1 : 1 ≤ m) (hm8 : m ≤ 8) (hb : b < 2 ^ (m - 1)) : nrR (Nat.testBit b) m 0 = 1 + pcN b := by
  unfold nrR pcN
  rw [if_neg (by omega)]
  have := smN_split (Nat.testBit b) 0 (m - 1) (8 - (m - 1))
  rw [show m - 1 + (8 - (m - 1)) = 8 by omega, smN_0 _ (0 + (m - 1)) (8 - (m - 1)) (fun i q1 q2 => ?_)] at this
  · rw [this]
    simp
  · refine Nat.testBit_lt_two_pow (Nat.lt_of_lt_of_le hb ?_)
    exact Nat.pow_le_pow_right (by omega) (by omega)
theorem rows_same {g : Nat → Nat} {m w h b : Nat} {β : Nat → Bool} (hm1 : 1 ≤ m) (hm8 : m ≤ 8) (hB : bestB g m w h β) (hb : b < 2 ^ (m - 1)) (hZ : ∀ b', b' < 2 ^ (m - 1) → ¬ betP g m w h b' b) : ∀ k, k + 1 < m → Nat.testBit b k = β k := by
  have c1 : ∀ k, k + 1 < m → β k = (encB (m - 1) β).testBit k := fun k hk => (encB_bit (m - 1) β k (by omega)).symm
  have h1 := hZ _ (encB_lt (m - 1) β)
  have e1 : vB g m w h (encB (m - 1) β) = wtR g β m w h m 0 := (wtR_cg c1 m 0).symm
  have e2 := nrR_cg c1 0
  rw [pc_nr hm1 hm8 (encB_lt _ _)] at e2
  have e3 := pc_nr hm1 hm8 hb
  unfold betP at h1
  rw [e1] at h1
  rcases hB (Nat.testBit b) with q | ⟨q, q2 | ⟨q2, q3 | ⟨k, k1, k2, k3, k4⟩⟩⟩
  · exact absurd (Or.inl q) h1
  · exact absurd (Or.inr ⟨q, Or.inl (by omega)⟩) h1
  · exact q3
  · refine absurd (Or.inr ⟨q, Or.inr ⟨by omega, k, by omega, fun j hj => ?_, ?_, k3⟩⟩) h1
    · rw [k2 j hj]; exact (c1 j (by omega)).symm
    · rw [← c1 k k1]; exact k4
