/-! SIZES in a TICK -/
/-- the CHANGE (and one) of b that counts in tick tk, among the first j -/
def bst (C : Nat → Nat → Nat) (b tk : Nat) : Nat → Nat
  | 0 => 0
  | j + 1 => if C 0 j = b ∧ C 1 j ≤ tk ∧ (bst C b tk j = 0 ∨ C 1 (bst C b tk j - 1) ≤ C 1 j) then j + 1 else bst C b tk j
theorem bst_le (C : Nat → Nat → Nat) (b tk : Nat) : ∀ j, bst C b tk j ≤ j
  | 0 => Nat.le_refl _
  | j + 1 => by
    have := bst_le C b tk j
    rw [bst]
    split <;> omega
def lsz (T C : Nat → Nat → Nat) (nc tk b : Nat) : Nat := if bst C b tk nc = 0 then T 4 b else C 2 (bst C b tk nc - 1)
def rs (f : Nat → Nat) (a : Nat) : Nat → Nat
  | 0 => 0
  | n + 1 => rs f a n + f (a + n)
theorem rs_front (f : Nat → Nat) : ∀ n a, rs f a (n + 1) = f a + rs f (a + 1) n
  | 0, a => by simp [rs]
  | n + 1, a => by
    rw [rs, rs_front f n a, rs, Nat.add_assoc, show a + 1 + n = a + (n + 1) by omega]
theorem rs_cg {f g : Nat → Nat} (a : Nat) : ∀ n, (∀ i, a ≤ i → i < a + n → f i = g i) → rs f a n = rs g a n
  | 0, _ => rfl
  | n + 1, h => by
    rw [rs, rs, rs_cg a n (fun i h1 h2 => h i h1 (by omega)), h (a + n) (by omega) (by omega)]
theorem rs_z {f : Nat → Nat} (a : Nat) : ∀ n, (∀ i, a ≤ i → i < a + n → f i = 0) → rs f a n = 0
  | 0, _ => rfl
  | n + 1, h => by
    rw [rs, rs_z a n (fun i h1 h2 => h i h1 (by omega)), h (a + n) (by omega) (by omega)]
theorem rs_split (f : Nat → Nat) (a m : Nat) : ∀ n, rs f a (m + n) = rs f a m + rs f (a + m) n
  | 0 => rfl
  | n + 1 => by
    rw [show m + (n + 1) = (m + n) + 1 by omega, rs, rs_split f a m n, rs, Nat.add_assoc, show a + (m + n) = a + m + n by omega]
def szf (T : Nat → Nat → Nat) (l : Nat → Nat) (nb : Nat) : Nat → Nat → Nat
  | 0, _ => 0
  | f + 1, b => if T 1 b = 0 then l b else rs (fun c => if T 0 c = b + 1 then szf T l nb f c else 0) (b + 1) (nb - (b + 1))
/-- SIZE of a box -/
def SZ (T : Nat → Nat → Nat) (l : Nat → Nat) (nb b : Nat) : Nat := szf T l nb (7 - T 3 b) b
theorem SZ_leaf {T V : Nat → Nat → Nat} {l : Nat → Nat} {nb b : Nat} (hw : wfT nb T V) (hb : b < nb) (h : T 1 b = 0) : SZ T l nb b = l b := by
  unfold SZ
  have := (hw.2.2.2.1 b hb).2.2.2.2.2.2.1
  rw [show 7 - T 3 b = (6 - T 3 b) + 1 by omega, szf, if_pos h]
theorem SZ_group {T V : Nat → Nat → Nat} {l : Nat → Nat} {nb b : Nat} (hw : wfT nb T V) (hb : b < nb) (h : T 1 b ≠ 0) : SZ T l nb b = rs (fun c => if T 0 c = b + 1 then SZ T l nb c else 0) (b + 1) (nb - (b + 1)) := by
  have h5 := ((hw.2.2.2.1 b hb).2.2.2.2.2.2.2.1 h).1
  rw [SZ, show 7 - T 3 b = (6 - T 3 b) + 1 by omega, szf, if_neg h]
  refine rs_cg _ _ (fun c h1 h2 => ?_)
  by_cases hc : T 0 c = b + 1
  · rw [if_pos hc, if_pos hc, SZ]
    have h3 := (hw.2.2.1 c (by omega) (by omega)).2.2.2
    rw [hc, Nat.add_sub_cancel] at h3
    congr 1
    omega
  · rw [if_neg hc, if_neg hc]
/-- what sizes are made of, in the reference's memory -/
def szZ (nb nc : Nat) (T C : Nat → Nat → Nat) (M : sy_M) : Prop :=
  M 0 13 = nI nb ∧ M 0 24 = nI nc ∧ (∀ b, b < nb → M 2 b = pm (T 0 b) ∧ M 3 b = b01 (T 1 b) ∧ (T 1 b = 0 → M 8 b = nI (T 4 b))) ∧ ∀ k, k < nc → M 11 k = nI (C 0 k) ∧ M 12 k = nI (C 1 k) ∧ M 13 k = nI (C 2 k)
def bdC (nb nc : Nat) (T C : Nat → Nat → Nat) : Prop := nc ≤ 100 ∧ ∀ k, k < nc → C 0 k < nb ∧ T 1 (C 0 k) = 0 ∧ C 1 k ≤ 999 ∧ C 2 k ≤ 999999
theorem sizeOfZ {nb nc tk : Nat} {T V C : Nat → Nat → Nat} {M : sy_M} (hw : wfT nb T V) (hbd : bdC nb nc T C) (hM : szZ nb nc T C M) (htk : tk ≤ 999) :
    ∀ (d b : Nat) (Q : Int32 → sy_M → Prop), b < nb → 7 ≤ d + T 3 b → Q (nI (SZ T (lsz T C nc tk) nb b)) M → wX12_sizeOf d M (nI b) (nI tk) Q := by
  obtain ⟨m1, m2, m3, m4⟩ := hM
  obtain ⟨c1, c2⟩ := hbd
  have hnb := hw.1
  intro d
  induction d with
  | zero =>
    intro b Q hb hd
    have := (hw.2.2.2.1 b hb).2.2.2.2.2.2.1
    omega
  | succ d ih =>
    intro b Q hb hd hq
    rw [wX12_sizeOf]
    unfold wX12_sizeOf_b
    rw [ex_nI (show b < 82 by omega) (by omega), (m3 b hb).2.1, b01_0]
    refine ⟨fun hleaf => ?_, fun hgrp => ?_⟩
    · rw [SZ_leaf hw hb hleaf] at hq
      have key : ∀ (KZ : sy_M → Int32 → Int32 → Prop), KZ M (nI b) (pm (bst C b tk nc)) → ∀ r j, j + r = nc → wX12_sizeOf_59 (wX12_sizeOf d) KZ Q (r + 1) M (nI b) (nI tk) (pm (bst C b tk j)) (nI j) := by
        intro KZ hk r
        induction r with
        | zero =>
          intro j hj
          have : j = nc := by omega
          subst this
          rw [wX12_sizeOf_59, m2]
          have : nI j ≤ nI j := nI_le (Nat.le_refl _) (by omega)
          exact ⟨fun _ => hk, fun h => absurd this h⟩
        | succ r ih2 =>
          intro j hj
          rw [wX12_sizeOf_59, m2]
          have e1 : ¬ nI nc ≤ nI j := nI_ge (by omega) (by omega)
          simp only [e1, false_implies, true_implies, not_false_eq_true, true_and]
          obtain ⟨k1, k2, k3⟩ := m4 j (by omega)
          obtain ⟨u1, u2, u3, u4⟩ := c2 j (by omega)
          have hle := bst_le C b tk j
          rw [ex_nI (show j < 100 by omega) (by omega), k1, k2, nI_eq (by omega) (by omega), nI_ltI (by omega) (by omega), pm_m1 (by omega), nI_1]
          have hn := ih2 (j + 1) (by omega)
          rw [bst] at hn
          refine ⟨fun h => ?_, fun h => ⟨fun h2 => ?_, fun h2 => ⟨fun h3 => ?_, fun h3 => ?_⟩⟩⟩
          · rw [if_neg (by omega)] at hn; exact hn
          · rw [if_neg (by omega)] at hn; exact hn
          · rw [if_pos ⟨h, by omega, Or.inl h3⟩, pm_s] at hn; exact hn
          · obtain ⟨i, hi⟩ : ∃ i, bst C b tk j = i + 1 := ⟨bst C b tk j - 1, by omega⟩
            rw [hi] at hn
            rw [hi, pm_s, ex_nI (show i < 100 by omega) (by omega), (m4 i (by omega)).2.1, nI_ltI (by omega) (by have := (c2 i (by omega)).2.2.1; omega)]
            rw [Nat.add_sub_cancel] at hn
            refine ⟨fun h4 => ?_, fun h4 => ?_⟩
            · rw [if_neg (by omega), pm_s] at hn; exact hn
            · rw [if_pos ⟨h, by omega, Or.inr (by omega)⟩, pm_s] at hn; exact hn
      refine ⟨nc + 1, key _ ?_ nc 0 (by omega)⟩
      unfold lsz at hq
      have hle := bst_le C b tk nc
      rw [pm_m1 (by omega)]
      refine ⟨fun h => ?_, fun h => ?_⟩
      · rw [if_neg h] at hq
        obtain ⟨i, hi⟩ : ∃ i, bst C b tk nc = i + 1 := ⟨bst C b tk nc - 1, by omega⟩
        rw [hi, Nat.add_sub_cancel] at hq
        rw [hi, pm_s, ex_nI (show i < 100 by omega) (by omega), (m4 i (by omega)).2.2]
        exact hq
      · rw [if_pos h] at hq
        rw [ex_nI (show b < 82 by omega) (by omega), (m3 b hb).2.2 hleaf]
        exact hq
    · rw [SZ_group hw hb hgrp] at hq
      have h5 := ((hw.2.2.2.1 b hb).2.2.2.2.2.2.2.1 hgrp).1
      have key : ∀ r j, b + 1 + j + r = nb → wX12_sizeOf_16 (wX12_sizeOf d) Q (r + 1) M (nI b) (nI tk) (nI (rs (fun c => if T 0 c = b + 1 then SZ T (lsz T C nc tk) nb c else 0) (b + 1) j)) (nI (b + 1 + j)) := by
        intro r
        induction r with
        | zero =>
          intro j hj
          rw [wX12_sizeOf_16, m1]
          have : nI nb ≤ nI (b + 1 + j) := nI_le (by omega) (by omega)
          rw [show nb - (b + 1) = j by omega] at hq
          exact ⟨fun _ => hq, fun h => absurd this h⟩
        | succ r ih2 =>
          intro j hj
          rw [wX12_sizeOf_16, m1]
          have e1 : ¬ nI nb ≤ nI (b + 1 + j) := nI_ge (by omega) (by omega)
          simp only [e1, false_implies, true_implies, not_false_eq_true, true_and]
          have hc : b + 1 + j < nb := by omega
          have ht := hw.2.2.1 (b + 1 + j) hc (by omega)
          rw [ex_nI (show b + 1 + j < 82 by omega) (by omega), (m3 _ hc).1, pm_nI (by omega) (by omega), nI_1]
          have hn := ih2 (j + 1) (by omega)
          rw [rs] at hn
          refine ⟨fun h => ?_, fun h => ?_⟩
          · rw [if_neg h] at hn
            exact hn
          · rw [if_pos h] at hn
            have h3 := ht.2.2.2
            rw [h, Nat.add_sub_cancel] at h3
            refine ih (b + 1 + j) _ hc (by omega) ?_
            rw [nI_add]
            exact hn
      refine ⟨nb - (b + 1) + 1, ?_⟩
      have := key (nb - (b + 1)) 0 (by omega)
      rw [nI_1]
      exact this
/-! the class: the same sizes, all at once -/
/-- the class's cell of j, once all from m on are added to their parents -/
def DZ (T : Nat → Nat → Nat) (l : Nat → Nat) (nb m j : Nat) : Nat := if T 1 j = 0 then l j else rs (fun c => if T 0 c = j + 1 then SZ T l nb c else 0) m (nb - m)
theorem DZ_own {T V : Nat → Nat → Nat} {l : Nat → Nat} {nb m : Nat} (hw : wfT nb T V) (hm : m < nb) : DZ T l nb (m + 1) m = SZ T l nb m := by
  unfold DZ
  by_cases h : T 1 m = 0
  · rw [if_pos h, SZ_leaf hw hm h]
  · rw [if_neg h, SZ_group hw hm h]
theorem DZ_step {T V : Nat → Nat → Nat} {l : Nat → Nat} {nb m j : Nat} (hw : wfT nb T V) (hm : m < nb) (h0 : 0 < m) (hj : j < m) : DZ T l nb m j = DZ T l nb (m + 1) j + if T 0 m = j + 1 then SZ T l nb m else 0 := by
  unfold DZ
  by_cases h : T 1 j = 0
  · rw [if_pos h, if_pos h]
    have := (hw.2.2.1 m hm h0).2.2.1
    rw [if_neg (fun e => by rw [e, Nat.add_sub_cancel] at this; exact this h)]
    rfl
  · rw [if_neg h, if_neg h, show nb - m = (nb - (m + 1)) + 1 by omega, rs_front]
    omega
theorem DZ_all {T V : Nat → Nat → Nat} {l : Nat → Nat} {nb : Nat} (hw : wfT nb T V) (hb : 0 < nb) : DZ T l nb 1 0 = SZ T l nb 0 := DZ_own hw hb
def szX (p nb nc : Nat) (T C : Nat → Nat → Nat) (M : sy_M) : Prop :=
  M p 0 = nI nb ∧ M 4 0 = nI nc ∧ (∀ b, b < nb → M (p + 1) b = pm (T 0 b) ∧ (T 1 b = 0 → M (p + 5) b = nI (T 4 b)) ∧ (T 1 b ≠ 0 → M (p + 5) b = 0)) ∧ ∀ k, k < nc → M 5 k = nI (C 0 k) ∧ M 6 k = nI (C 1 k) ∧ M 7 k = nI (C 2 k)
theorem szX.cg {p nb nc : Nat} {T C : Nat → Nat → Nat} {M M' : sy_M} (h : szX p nb nc T C M) (hp : 60 ≤ p ∧ p ≤ 71) (e : ∀ q, q ≠ 59 → q ≠ 8 → M' q = M q) : szX p nb nc T C M' := by
  unfold szX
  rw [e p (by omega) (by omega), e 4 (by omega) (by omega), e (p + 1) (by omega) (by omega), e (p + 5) (by omega) (by omega), e 5 (by omega) (by omega), e 6 (by omega) (by omega), e 7 (by omega) (by omega)]
  exact h
theorem mu_oth {M : sy_M} {p k : Nat} {v : Int32} {q : Nat} (h : q ≠ p) : mu M p k v q = M q := mu_ne _ _ _ h
theorem tellX {nb nc tk p : Nat} {T V C : Nat → Nat → Nat} {M : sy_M} {Q : sy_M → Prop} (hp : 60 ≤ p ∧ p ≤ 71) (hw : wfT nb T V) (hbd : bdC nb nc T C) (hM : szX p nb nc T C M) (htk : tk ≤ 999)
    (hq : ∀ M', (∀ b, b < nb → M' 59 b = nI (SZ T (lsz T C nc tk) nb b)) → (∀ q, q ≠ 59 → q ≠ 8 → M' q = M q) → Q M') : wX0_tellSizes M p (nI tk) Q := by
  have hnb := hw.1
  obtain ⟨c1, c2⟩ := hbd
  have l3 : ∀ r m M1, m = r → m < nb → (∀ q, q ≠ 59 → q ≠ 8 → M1 q = M q) → (∀ j, j ≤ m → M1 59 j = nI (DZ T (lsz T C nc tk) nb (m + 1) j)) → (∀ j, m < j → j < nb → M1 59 j = nI (SZ T (lsz T C nc tk) nb j)) → wX0_tellSizes_134 Q (r + 1) M1 p (nI m) := by
    intro r
    induction r with
    | zero =>
      intro m M1 hm hmn he h1 h2
      subst hm
      rw [wX0_tellSizes_134]
      refine ⟨fun _ => hq M1 (fun b hb => ?_) he, fun h => absurd (by decide) h⟩
      by_cases hb0 : b = 0
      · subst hb0
        rw [h1 0 (Nat.le_refl _), DZ_all hw hb]
      · exact h2 b (by omega) hb
    | succ r ih =>
      intro m M1 hm hmn he h1 h2
      subst hm
      have hX := hM.cg hp he
      rw [wX0_tellSizes_134]
      have e1 : ¬ nI (r + 1) ≤ 0 := nI_nle (by omega) (by omega)
      simp only [e1, false_implies, true_implies, not_false_eq_true, true_and]
      have ht := hw.2.2.1 (r + 1) hmn (by omega)
      obtain ⟨g, hg⟩ : ∃ g, T 0 (r + 1) = g + 1 := ⟨T 0 (r + 1) - 1, by omega⟩
      rw [ex_nI (show r + 1 < 40 by omega) (by omega), (hX.2.2.1 (r + 1) hmn).1, hg, pm_s, has_y hX.1 (show g < nb by omega) hnb]
      simp only [i10, false_implies, true_implies, not_false_eq_true, true_and]
      rw [(hX.2.2.1 (r + 1) hmn).1, hg, pm_s, ex_nI (show g < 40 by omega) (by omega), h1 g (by omega), h1 (r + 1) (Nat.le_refl _), DZ_own hw hmn, nI_add, pk_m1]
      refine ih r _ rfl (by omega) (fun q h3 h4 => by rw [mu_oth h3]; exact he q h3 h4) (fun j hj => ?_) (fun j hj hj2 => ?_)
      · rw [DZ_step hw hmn (by omega) (show j < r + 1 by omega), hg, mu_ap]
        by_cases hjg : j = g
        · subst hjg
          rw [if_pos ⟨rfl, rfl⟩, if_pos rfl]
        · rw [if_neg (by omega), if_neg (by omega), h1 j (by omega)]
          rfl
      · rw [mu_n2 _ _ _ _ (by omega)]
        by_cases hjr : j = r + 1
        · subst hjr
          rw [h1 (r + 1) (Nat.le_refl _), DZ_own hw hmn]
        · exact h2 j (by omega) hj2
  have l2 : ∀ (K2 : sy_M → Nat → Prop), (∀ M1, (∀ q, q ≠ 59 → q ≠ 8 → M1 q = M q) → (∀ b, b < nb → M1 59 b = nI (if T 1 b = 0 then lsz T C nc tk b else 0)) → K2 M1 p) → ∀ r j M1, j + r = nc → (∀ q, q ≠ 59 → q ≠ 8 → M1 q = M q) → (∀ b, b < nb → M1 59 b = nI (if T 1 b = 0 then lsz T C j tk b else 0)) → (∀ b, b < nb → T 1 b = 0 → M1 8 b = pm (if bst C b tk j = 0 then 0 else C 1 (bst C b tk j - 1) + 1)) → wX0_tellSizes_40 K2 Q (r + 1) M1 p (nI tk) (nI j) := by
    intro K2 hk r
    induction r with
    | zero =>
      intro j M1 hj he h1 h2
      have : j = nc := by omega
      subst this
      have hX := hM.cg hp he
      rw [wX0_tellSizes_40, hX.2.1]
      have : nI j ≤ nI j := nI_le (Nat.le_refl _) (by omega)
      exact ⟨fun _ => hk M1 he h1, fun h => absurd this h⟩
    | succ r ih =>
      intro j M1 hj he h1 h2
      have hX := hM.cg hp he
      rw [wX0_tellSizes_40, hX.2.1]
      have e1 : ¬ nI nc ≤ nI j := nI_ge (by omega) (by omega)
      simp only [e1, false_implies, true_implies, not_false_eq_true, true_and]
      obtain ⟨k1, k2, k3⟩ := hX.2.2.2 j (by omega)
      obtain ⟨u1, u2, u3, u4⟩ := c2 j (by omega)
      rw [ex_nI (show j < 100 by omega) (by omega), k1, has_y hX.1 u1 hnb]
      simp only [i10, false_implies, true_implies, not_false_eq_true, true_and]
      rw [k2, nI_ltI (by omega) (by omega), nI_1]
      have hle := bst_le C (C 0 j) tk j
      -- nothing changes
      have stay : ¬ (C 1 j ≤ tk ∧ (bst C (C 0 j) tk j = 0 ∨ C 1 (bst C (C 0 j) tk j - 1) ≤ C 1 j)) → wX0_tellSizes_40 K2 Q (r + 1) M1 p (nI tk) (nI (j + 1)) := by
        intro hno
        have hb : ∀ b, bst C b tk (j + 1) = bst C b tk j := by
          intro b
          rw [bst, if_neg]
          rintro ⟨rfl, h3⟩
          exact hno h3
        refine ih (j + 1) M1 (by omega) he (fun b hb2 => ?_) (fun b hb2 hl => ?_)
        · rw [h1 b hb2]
          unfold lsz
          rw [hb]
        · rw [h2 b hb2 hl, hb]
      refine ⟨fun h => stay (fun h3 => by omega), fun h => ?_⟩
      rw [ex_nI (show C 0 j < 40 by omega) (by omega), h2 (C 0 j) u1 u2]
      have hcmp : nI (C 1 j) < pm (if bst C (C 0 j) tk j = 0 then 0 else C 1 (bst C (C 0 j) tk j - 1) + 1) ↔ ¬ (bst C (C 0 j) tk j = 0 ∨ C 1 (bst C (C 0 j) tk j - 1) ≤ C 1 j) := by
        by_cases hb0 : bst C (C 0 j) tk j = 0
        · rw [if_pos hb0, pm_0]
          have : ¬ nI (C 1 j) < -1 := by
            rw [Int32.lt_iff_toInt_lt, nI_toInt (by omega)]
            have : (-1 : Int32).toInt = -1 := by decide
            omega
          simp [hb0, this]
        · rw [if_neg hb0, pm_s, nI_ltI (by omega) (by have := (c2 (bst C (C 0 j) tk j - 1) (by omega)).2.2.1; omega)]
          simp [hb0]
      rw [hcmp]
      refine ⟨fun h3 => stay (fun h4 => h3 h4.2), fun h3 => ?_⟩
      have h3 := Decidable.not_not.mp h3
      have hself : bst C (C 0 j) tk (j + 1) = j + 1 := by rw [bst, if_pos ⟨rfl, by omega, h3⟩]
      have hoth : ∀ b, b ≠ C 0 j → bst C b tk (j + 1) = bst C b tk j := fun b hb => by rw [bst, if_neg (fun h5 => hb h5.1.symm)]
      refine ih (j + 1) _ (by omega) (fun q h5 h6 => by rw [mu_oth h6, mu_oth h5]; exact he q h5 h6) (fun b hb2 => ?_) (fun b hb2 hl => ?_)
      · rw [mu_n1 _ _ _ _ (by omega), mu_ap]
        by_cases hbc : b = C 0 j
        · subst hbc
          rw [if_pos ⟨rfl, rfl⟩, if_pos u2, k3]
          unfold lsz
          rw [hself, if_neg (by omega), Nat.add_sub_cancel]
        · rw [if_neg (by omega), h1 b hb2]
          unfold lsz
          rw [hoth b hbc]
      · rw [mu_ap]
        by_cases hbc : b = C 0 j
        · subst hbc
          rw [if_pos ⟨rfl, rfl⟩, hself, if_neg (by omega), pm_s, Nat.add_sub_cancel]
        · rw [if_neg (by omega), mu_n1 _ _ _ _ (by omega), h2 b hb2 hl, hoth b hbc]
  have l1 : ∀ (K1 : sy_M → Nat → Int32 → Prop), (∀ M1, (∀ q, q ≠ 59 → q ≠ 8 → M1 q = M q) → (∀ b, b < nb → M1 59 b = nI (if T 1 b = 0 then lsz T C 0 tk b else 0)) → (∀ b, b < nb → M1 8 b = -1) → K1 M1 p (nI tk)) → ∀ r j M1, j + r = nb → (∀ q, q ≠ 59 → q ≠ 8 → M1 q = M q) → (∀ b, b < j → M1 59 b = nI (if T 1 b = 0 then lsz T C 0 tk b else 0)) → (∀ b, b < j → M1 8 b = -1) → wX0_tellSizes_3 K1 Q (r + 1) M1 p (nI tk) (nI j) := by
    intro K1 hk r
    induction r with
    | zero =>
      intro j M1 hj he h1 h2
      have : j = nb := by omega
      subst this
      have hX := hM.cg hp he
      rw [wX0_tellSizes_3, hX.1]
      have : nI j ≤ nI j := nI_le (Nat.le_refl _) (by omega)
      exact ⟨fun _ => hk M1 he h1 h2, fun h => absurd this h⟩
    | succ r ih =>
      intro j M1 hj he h1 h2
      have hX := hM.cg hp he
      rw [wX0_tellSizes_3, hX.1]
      have e1 : ¬ nI nb ≤ nI j := nI_ge (by omega) (by omega)
      simp only [e1, false_implies, true_implies, not_false_eq_true, true_and]
      rw [ex_nI (show j < 40 by omega) (by omega), nI_1]
      refine ih (j + 1) _ (by omega) (fun q h5 h6 => by rw [mu_oth h6, mu_oth h5]; exact he q h5 h6) (fun b hb => ?_) (fun b hb => ?_)
      · rw [mu_n1 _ _ _ _ (by omega), mu_ap]
        by_cases hbj : b = j
        · subst hbj
          rw [if_pos ⟨rfl, rfl⟩]
          obtain ⟨-, x1, x2⟩ := hX.2.2.1 b (by omega)
          by_cases hl : T 1 b = 0
          · rw [if_pos hl, x1 hl]
            rfl
          · rw [if_neg hl, x2 hl]
            rfl
        · rw [if_neg (by omega)]
          exact h1 b (by omega)
      · rw [mu_ap]
        by_cases hbj : b = j
        · subst hbj
          rw [if_pos ⟨rfl, rfl⟩]
        · rw [if_neg (by omega), mu_n1 _ _ _ _ (by omega)]
          exact h2 b (by omega)
  refine ⟨nb + 1, l1 _ ?_ nb 0 M (by omega) (fun _ _ _ => rfl) (fun b hb => absurd hb (by omega)) (fun b hb => absurd hb (by omega))⟩
  intro M1 he h1 h2
  refine ⟨nc + 1, l2 _ ?_ nc 0 M1 (by omega) he h1 (fun b hb _ => by rw [h2 b hb]; rfl)⟩
  intro M2 he2 h3
  have hX := hM.cg hp he2
  rw [hX.1]
  by_cases h0 : nb = 0
  · subst h0
    refine ⟨1, ?_⟩
    rw [wX0_tellSizes_134]
    have : nI 0 - 1 ≤ 0 := by decide
    exact ⟨fun _ => hq M2 (fun b hb => absurd hb (by omega)) he2, fun h => absurd this h⟩
  · rw [nI_m1 (by omega)]
    refine ⟨nb - 1 + 1, l3 (nb - 1) (nb - 1) M2 rfl (by omega) he2 (fun j hj => ?_) (fun j hj hj2 => absurd hj (by omega))⟩
    rw [h3 j (by omega)]
    unfold DZ
    rw [show nb - 1 + 1 = nb by omega, Nat.sub_self]
    rfl
theorem rel_szX {t nb nc : Nat} {T V C : Nat → Nat → Nat} {A B : sy_M} (hT : rlT t nb T V A B) (hC : rlC nb nc T C A B) : szX t nb nc T C A :=
  ⟨hT.1, hC.2.1, fun b hb => ⟨(hT.2.2.2 b hb).1.1, fun h => ((hT.2.2.2 b hb).2.2.2.2.1 h).1, (hT.2.2.2 b hb).2.2.2.2.2.1⟩, fun k hk => ⟨(hC.2.2.2 k hk).1.2.2.1, (hC.2.2.2 k hk).2.1.2.1, (hC.2.2.2 k hk).2.2.2.1⟩⟩
theorem rel_szZ {t nb nc : Nat} {T V C : Nat → Nat → Nat} {A B : sy_M} (hT : rlT t nb T V A B) (hC : rlC nb nc T C A B) : szZ nb nc T C B :=
  ⟨hT.2.1, hC.2.2.1, fun b hb => ⟨(hT.2.2.2 b hb).1.2, (hT.2.2.2 b hb).2.1.2.1, fun h => ((hT.2.2.2 b hb).2.2.2.2.1 h).2⟩, fun k hk => ⟨(hC.2.2.2 k hk).1.2.2.2, (hC.2.2.2 k hk).2.1.2.2, (hC.2.2.2 k hk).2.2.2.2⟩⟩
theorem rel_bdC {nb nc : Nat} {T C : Nat → Nat → Nat} {A B : sy_M} (hC : rlC nb nc T C A B) : bdC nb nc T C :=
  ⟨hC.1, fun k hk => ⟨(hC.2.2.2 k hk).1.1, (hC.2.2.2 k hk).1.2.1, (hC.2.2.2 k hk).2.1.1, (hC.2.2.2 k hk).2.2.1⟩⟩
theorem op_sizeIn {cn : Nat} {A B : sy_M} (h : Rel cn A B) (a1 a2 : Int32) {F : sy_M → sy_M → Prop} (hF : ∀ A' B', Rel cn A' B' → F A' B') : wX11_sizeIn A a1 a2 (fun r A' => wX12_sizeIn B a1 a2 (fun r' B' => r = r' ∧ F A' B')) := by
  have hz := hF _ _ (h.z0 (v := 0))
  have hR := h.z0 (v := 0)
  obtain ⟨t, nb, nc, d, n, T, V, L, C, G, K, R, hQ, hw, hT, hL, hC, hd, hD, hP, hS⟩ := hR
  obtain ⟨q1, q2, q3, q4⟩ := hQ.t
  have hnb := hw.1
  unfold wX11_sizeIn wX12_sizeIn wX11_isTick
  rw [ex_t q1 q2]
  by_cases hb : ∃ b, b < nb ∧ a1 = nI b
  · obtain ⟨b, hb, rfl⟩ := hb
    rw [has_y hT.1 hb hnb]
    simp only [isBox_y hT.2.1 hb hnb, isFromX, withinZ, i10, false_implies, true_implies, not_false_eq_true, true_and]
    by_cases c2 : ¬ a2 < 0 ∧ ¬ nI 999 < a2
    · obtain ⟨k, -, hk, rfl⟩ := nI_rng (lo := 0) (hi := 999) c2.1 c2.2 (by decide) (by decide)
      simp only [c2, if_pos, not_false_eq_true, and_self, i10, true_implies, false_implies, and_true, true_and]
      refine ⟨Or.inr trivial, ?_⟩
      rw [ex_t q1 q2]
      refine tellX ⟨q3, q4⟩ hw (rel_bdC hC) (rel_szX hT hC) hk (fun M' h1 h2 => ?_)
      rw [ex_nI (show b < 40 by omega) (by omega), h1 b hb]
      refine sizeOfZ hw (rel_bdC hC) (rel_szZ hT hC) hk 8 b _ hb (by omega) ⟨rfl, hF _ _ ?_⟩
      refine ⟨t, nb, nc, d, n, T, V, L, C, G, K, R, hQ.cg (by rw [h2 0 (by omega) (by omega)]) (by rw [h2 3 (by omega) (by omega)]), hw, hT.cg hw (fun j hj i => by rw [h2 _ (by omega) (by omega)]) rfl (fun _ _ _ _ _ => rfl) (fun _ _ => rfl), hL.cg (fun _ _ => by rw [h2 _ (by omega) (by omega)]) (fun _ _ => by rw [h2 _ (by omega) (by omega)]) (fun _ _ => rfl) (fun _ _ => rfl), hC.cg (by rw [h2 _ (by omega) (by omega)]) (fun p h3 h4 i => by rw [h2 _ (by omega) (by omega)]) rfl (fun _ _ _ _ => rfl), hd, hD.cg (by rw [h2 _ (by omega) (by omega)]) (fun p h3 i => by rw [h2 _ (by omega) (by omega)]) rfl (fun _ _ _ _ => rfl), hP.cg (by rw [h2 _ (by omega) (by omega)]) (fun _ => by rw [h2 _ (by omega) (by omega)]) rfl (fun _ => rfl), hS.cg (by rw [h2 _ (by omega) (by omega)]) (by rw [h2 _ (by omega) (by omega)]) (by rw [h2 _ (by omega) (by omega)]) (by rw [h2 _ (by omega) (by omega)]) rfl rfl rfl rfl (by rw [h2 _ (by omega) (by omega)])⟩
    · simp only [c2, if_neg, if_false, not_false_eq_true, not_true_eq_false, eq_self, i10, true_implies, false_implies, and_true, true_and]
      exact ⟨Or.inl trivial, hz⟩
  · rw [has_n hT.1 hb hnb]
    simp only [isBox_n hT.2.1 hb hnb]
    simp [hz]
