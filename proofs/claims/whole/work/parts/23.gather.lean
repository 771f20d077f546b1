/-! the ITEMS of a GROUP: the class and the reference find the same -/
/-- items and the rest's size, from the boxes g + 1 .. g + j -/
def itsP (T : Nat → Nat → Nat) (S : Nat → Nat) (tog : Bool) (P : Nat → Bool) (srt : Bool) (g : Nat) : Nat → itS × Nat
  | 0 => ((0, fun _ => 0, fun _ => 0), 0)
  | j + 1 => if T 0 (g + 1 + j) = g + 1 then (if tog && P (g + 1 + j) then ((itsP T S tog P srt g j).1, (itsP T S tog P srt g j).2 + S (g + 1 + j)) else (insI srt (itsP T S tog P srt g j).1 (g + 1 + j + 1) (S (g + 1 + j)), (itsP T S tog P srt g j).2)) else itsP T S tog P srt g j
def itsE (tog : Bool) (q : itS × Nat) : itS := if tog then insI false q.1 0 q.2 else q.1
theorem itsP_cnt (T : Nat → Nat → Nat) (S : Nat → Nat) (tog : Bool) (P : Nat → Bool) (srt : Bool) (g : Nat) (hP : ∀ b, P b = true → T 0 b = g + 1) : ∀ j, (itsP T S tog P srt g j).1.1 + (if tog then smN P (g + 1) j else 0) = smN (fun b => decide (T 0 b = g + 1)) (g + 1) j
  | 0 => by cases tog <;> rfl
  | j + 1 => by
    have ih := itsP_cnt T S tog P srt g hP j
    rw [itsP, smN, smN]
    by_cases h : T 0 (g + 1 + j) = g + 1
    · rw [if_pos h, show decide (T 0 (g + 1 + j) = g + 1) = true from decide_eq_true h]
      cases tog with
      | false =>
        simp only [Bool.false_and, Bool.false_eq_true, if_false, if_true, insI] at ih ⊢
        omega
      | true =>
        cases hp : P (g + 1 + j) with
        | true => simp only [Bool.true_and, if_true] at ih ⊢; omega
        | false => simp only [Bool.true_and, Bool.false_eq_true, if_false, if_true, insI] at ih ⊢; omega
    · rw [if_neg h, show decide (T 0 (g + 1 + j) = g + 1) = false from decide_eq_false h]
      have hp : P (g + 1 + j) = false := by
        cases hp : P (g + 1 + j) with
        | true => exact absurd (hP _ hp) h
        | false => rfl
      rw [hp]
      simp only [Bool.false_eq_true, if_false]
      exact ih
theorem smN_0 (P : Nat → Bool) (a : Nat) : ∀ n, (∀ i, a ≤ i → i < a + n → P i = false) → smN P a n = 0
  | 0, _ => rfl
  | n + 1, h => by rw [smN, smN_0 P a n (fun i h1 h2 => h i h1 (by omega)), h (a + n) (by omega) (by omega)]; rfl
theorem smN_split (P : Nat → Bool) (a m : Nat) : ∀ n, smN P a (m + n) = smN P a m + smN P (a + m) n
  | 0 => rfl
  | n + 1 => by rw [show m + (n + 1) = (m + n) + 1 by omega, smN, smN_split P a m n, smN, Nat.add_assoc, show a + (m + n) = a + m + n by omega]
theorem smN_filter (P : Nat → Bool) : ∀ n, smN P 0 n = ((List.range n).filter P).length
  | 0 => rfl
  | n + 1 => by
    rw [smN, smN_filter P n, List.range_succ, List.filter_append, List.length_append, Nat.zero_add]
    cases h : P n <;> simp [h, List.filter_cons]
theorem smN_mono (P : Nat → Bool) (a : Nat) : ∀ n k, k ≤ n → smN P a k ≤ smN P a n
  | 0, k, h => by rw [show k = 0 by omega]; exact Nat.le_refl _
  | n + 1, k, h => by
    by_cases hk : k = n + 1
    · subst hk; exact Nat.le_refl _
    · have := smN_mono P a n k (by omega)
      rw [smN]
      omega
theorem kids {nb g : Nat} {T V : Nat → Nat → Nat} (hw : wfT nb T V) (hg : g < nb) : smN (fun b => decide (T 0 b = g + 1)) (g + 1) (nb - (g + 1)) = T 2 g := by
  rw [hw.2.2.2.2.1 g hg, ← smN_filter]
  have h1 := smN_split (fun b => decide (T 0 b = g + 1)) 0 (g + 1) (nb - (g + 1))
  rw [show g + 1 + (nb - (g + 1)) = nb by omega, Nat.zero_add] at h1
  have h2 : smN (fun b => decide (T 0 b = g + 1)) 0 (g + 1) = 0 := by
    refine smN_0 _ _ _ (fun i _ hi => decide_eq_false (fun e => ?_))
    by_cases h0 : i = 0
    · subst h0
      rw [(hw.2.1 (by omega)).1] at e
      omega
    · have := (hw.2.2.1 i (by omega) (by omega)).2.1
      omega
  rw [h1, h2, Nat.zero_add]
theorem itsP_bd (T : Nat → Nat → Nat) (S : Nat → Nat) (tog : Bool) (P : Nat → Bool) (srt : Bool) (g nb : Nat) (hS : ∀ c, c < nb → S c ≤ 39999960) : ∀ j, g + 1 + j ≤ nb → ∀ i, i < (itsP T S tog P srt g j).1.1 → (itsP T S tog P srt g j).1.2.2 i ≤ 39999960
  | 0, _, i, h => absurd h (by show ¬ i < 0; omega)
  | j + 1, hj, i, h => by
    have ih := itsP_bd T S tog P srt g nb hS j (by omega)
    rw [itsP] at h ⊢
    by_cases hc : T 0 (g + 1 + j) = g + 1
    · rw [if_pos hc] at h ⊢
      by_cases hp : (tog && P (g + 1 + j)) = true
      · rw [if_pos hp] at h ⊢
        exact ih i h
      · rw [if_neg hp] at h ⊢
        simp only [insI] at h ⊢
        unfold insF
        have hpl : (if srt then ipos (itsP T S tog P srt g j).1.2.2 (S (g + 1 + j)) (itsP T S tog P srt g j).1.1 else (itsP T S tog P srt g j).1.1) ≤ (itsP T S tog P srt g j).1.1 := by
          cases srt
          · exact Nat.le_refl _
          · exact ipos_le _ _ _
        generalize (if srt then ipos (itsP T S tog P srt g j).1.2.2 (S (g + 1 + j)) (itsP T S tog P srt g j).1.1 else (itsP T S tog P srt g j).1.1) = pp at hpl ⊢
        by_cases q1 : i < pp
        · rw [if_pos q1]; exact ih i (by omega)
        · rw [if_neg q1]
          by_cases q2 : i = pp
          · rw [if_pos q2]; exact hS (g + 1 + j) (by omega)
          · rw [if_neg q2]; exact ih (i - 1) (by omega)
    · rw [if_neg hc] at h ⊢
      exact ih i h
/-- what the class's gather stands on -/
def gaX (p nb d g lim opn : Nat) (T : Nat → Nat → Nat) (S : Nat → Nat) (M : sy_M) : Prop :=
  M p 0 = nI nb ∧ (∀ b, b < nb → M (p + 1) b = pm (T 0 b) ∧ M (p + 2) b = pm (T 1 b)) ∧ M (p + 7) g = nI (T 6 g) ∧ M (p + 8) g = nI lim ∧ M (p + 9) g = nI opn ∧ M 9 0 = nI d ∧ (∀ c, c < nb → S c ≤ 39999960 ∧ M 16 ((d - 1) % 50 * 40 + c) = nI (S c))
theorem gaX.cg {p nb d g lim opn : Nat} {T : Nat → Nat → Nat} {S : Nat → Nat} {M M' : sy_M} (h : gaX p nb d g lim opn T S M) (hp : 60 ≤ p ∧ p ≤ 71) (e : ∀ q, q ≠ 28 → q ≠ 29 → q ≠ 30 → q ≠ 31 → M' q = M q) : gaX p nb d g lim opn T S M' := by
  unfold gaX
  rw [e p (by omega) (by omega) (by omega) (by omega), e (p + 1) (by omega) (by omega) (by omega) (by omega), e (p + 2) (by omega) (by omega) (by omega) (by omega), e (p + 7) (by omega) (by omega) (by omega) (by omega), e (p + 8) (by omega) (by omega) (by omega) (by omega), e (p + 9) (by omega) (by omega) (by omega) (by omega), e 9 (by omega) (by omega) (by omega) (by omega), e 16 (by omega) (by omega) (by omega) (by omega)]
  exact h
/-- how many are put together -/
def togN (opn sm : Nat) : Nat := if opn = 0 ∧ 2 ≤ sm then sm else 0
theorem gatherX {M : sy_M} {p nb d g lim opn : Nat} {T V : Nat → Nat → Nat} {S : Nat → Nat} {x y w h : Nat} {Q : sy_M → Prop} (hp : 60 ≤ p ∧ p ≤ 71) (hw : wfT nb T V) (hgn : g < nb) (hgg : T 1 g ≠ 0) (hM : gaX p nb d g lim opn T S M) (hlim : lim ≤ 999) (hopn : opn ≤ 1) (hd0 : 0 < d) (hd2 : d < 2 ^ 20) (h31 : M 31 0 = 0)
    (hr : M 12 ((d - 1) % 50 * 40 + g) = nI x ∧ M 13 ((d - 1) % 50 * 40 + g) = nI y ∧ M 14 ((d - 1) % 50 * 40 + g) = nI w ∧ M 15 ((d - 1) % 50 * 40 + g) = nI h)
    (hq : ∀ M' sm σ, sm = smN (smB T S lim g) (g + 1) (nb - (g + 1)) → σ = itsE (decide (togN opn sm ≠ 0)) (itsP T S (decide (togN opn sm ≠ 0)) (smB T S lim g) (decide (T 6 g ≠ 0)) g (nb - (g + 1))) → itX σ M' → M' 28 1 = nI (togN opn sm) → (∀ i, i ≤ σ.1 → M' 31 i = nI (rs σ.2.2 0 i)) → (M' 28 4 = nI x ∧ M' 28 5 = nI y ∧ M' 28 6 = nI w ∧ M' 28 7 = nI h) → (∀ q, q ≠ 28 → q ≠ 29 → q ≠ 30 → q ≠ 31 → M' q = M q) → Q M') : wX3_gather M p (nI g) Q := by
  have hnb := hw.1
  have m1 : (d - 1) % 50 < 50 := Nat.mod_lt _ (by omega)
  have hk := kids hw hgn
  have hT2 := (hw.2.2.2.1 g hgn).2.1
  have hT6 := (hw.2.2.2.1 g hgn).2.2.2.2.2.1
  obtain ⟨P, hPe⟩ : ∃ P, P = smB T S lim g := ⟨_, rfl⟩
  have hPk : ∀ b, P b = true → T 0 b = g + 1 := fun b hb => by rw [hPe] at hb; unfold smB at hb; exact (of_decide_eq_true hb).1
  obtain ⟨srt, hsr⟩ : ∃ srt, srt = decide (T 6 g ≠ 0) := ⟨_, rfl⟩
  have hsv : nI (T 6 g) = if srt then 1 else 0 := by
    rw [hsr]
    by_cases h6 : T 6 g = 0
    · simp [h6, nI_0]
    · have : T 6 g = 1 := by omega
      simp [this]
      rfl
  have hP0 : (-1 : Int32) = pm 0 := pm_0.symm
  -- the sums ahead, and the frame
  have tail : ∀ (σ : itS) (sm : Nat) (M1 : sy_M), σ.1 ≤ 8 → sm = smN P (g + 1) (nb - (g + 1)) → σ = itsE (decide (togN opn sm ≠ 0)) (itsP T S (decide (togN opn sm ≠ 0)) P srt g (nb - (g + 1))) → itX σ M1 → M1 28 1 = nI (togN opn sm) → (∀ q, q ≠ 28 → q ≠ 29 → q ≠ 30 → q ≠ 31 → M1 q = M q) → M1 31 0 = 0 → ∃ n, wX3_gather_154 (fun M36 x2_37 => wX2_latestCell M36 x2_37 (fun r39 M38 => wX3_setFrame M38 r39 (fun M40 => Q M40))) Q n M1 (nI g) 0 := by
    intro σ sm M1 hσ hsm hσe hit htog hke h310
    have key : ∀ r k M2, k + r = σ.1 → itX σ M2 → M2 28 1 = nI (togN opn sm) → (∀ q, q ≠ 28 → q ≠ 29 → q ≠ 30 → q ≠ 31 → M2 q = M q) → (∀ i, i ≤ k → M2 31 i = nI (rs σ.2.2 0 i)) → wX3_gather_154 (fun M36 x2_37 => wX2_latestCell M36 x2_37 (fun r39 M38 => wX3_setFrame M38 r39 (fun M40 => Q M40))) Q (r + 1) M2 (nI g) (nI k) := by
      intro r
      induction r with
      | zero =>
        intro k M2 hkr hit2 htog2 hke2 hah
        have : k = σ.1 := by omega
        subst this
        rw [wX3_gather_154, hit2.1]
        have : nI σ.1 ≤ nI σ.1 := nI_le (Nat.le_refl _) (by omega)
        refine ⟨fun _ => ?_, fun h => absurd this h⟩
        have hga := hM.cg hp hke2
        rw [latest_y hga.2.2.2.2.2.1 hd0 hd2]
        unfold wX3_setFrame
        rw [ex_nI (show (d - 1) % 50 * 40 + g < 2000 by omega) (by omega), hke2 12 (by omega) (by omega) (by omega) (by omega), hke2 13 (by omega) (by omega) (by omega) (by omega), hke2 14 (by omega) (by omega) (by omega) (by omega), hke2 15 (by omega) (by omega) (by omega) (by omega), hr.1, hr.2.1, hr.2.2.1, hr.2.2.2]
        refine hq _ sm σ (by rw [hsm, hPe]) (by rw [hσe, hPe, hsr]) ⟨hit2.1, fun i hi => ?_⟩ htog2 (fun i hi => ?_) ⟨rfl, rfl, rfl, rfl⟩ (fun q q1 q2 q3 q4 => ?_)
        · rw [mu_n1 _ _ _ _ (by omega), mu_n1 _ _ _ _ (by omega), mu_n1 _ _ _ _ (by omega), mu_n1 _ _ _ _ (by omega), mu_n1 _ _ _ _ (by omega), mu_n1 _ _ _ _ (by omega), mu_n1 _ _ _ _ (by omega), mu_n1 _ _ _ _ (by omega)]
          exact hit2.2 i hi
        · rw [mu_n1 _ _ _ _ (by omega), mu_n1 _ _ _ _ (by omega), mu_n1 _ _ _ _ (by omega), mu_n1 _ _ _ _ (by omega)]
          exact hah i hi
        · rw [mu_oth q1, mu_oth q1, mu_oth q1, mu_oth q1]
          exact hke2 q q1 q2 q3 q4
      | succ r ih =>
        intro k M2 hkr hit2 htog2 hke2 hah
        rw [wX3_gather_154, hit2.1]
        have e1 : ¬ nI σ.1 ≤ nI k := nI_ge (by omega) (by omega)
        simp only [e1, false_implies, true_implies, not_false_eq_true, true_and]
        rw [ex_nI (show k < 9 by omega) (by omega), nI_1]
        refine ⟨by omega, ?_⟩
        rw [ex_nI (show k + 1 < 9 by omega) (by omega), hah k (Nat.le_refl _), (hit2.2 k (by omega)).2, nI_add]
        refine ih (k + 1) _ (by omega) ⟨hit2.1, fun i hi => ?_⟩ htog2 (fun q q1 q2 q3 q4 => by rw [mu_oth q4]; exact hke2 q q1 q2 q3 q4) (fun i hi => ?_)
        · rw [mu_n1 _ _ _ _ (by omega), mu_n1 _ _ _ _ (by omega)]
          exact hit2.2 i hi
        · rw [mu_ap]
          by_cases hi2 : i = k + 1
          · subst hi2
            rw [if_pos ⟨rfl, rfl⟩, rs, Nat.zero_add]
          · rw [if_neg (by omega)]
            exact hah i (by omega)
    exact ⟨σ.1 + 1, key σ.1 0 M1 (by omega) hit htog hke (fun i hi => by rw [show i = 0 by omega]; exact h310)⟩
  -- the boxes, one by one
  have main : ∀ (sm : Nat) (M1 : sy_M), sm = smN P (g + 1) (nb - (g + 1)) → M1 28 0 = 0 → M1 28 1 = nI (togN opn sm) → (∀ q, q ≠ 28 → M1 q = M q) → ∃ n, wX3_gather_50 (fun (M28 : sy_M) (x2_29 : Int32) (x5_30 : Int32) => (((M28 28 1) ≤ 0 → ∃ n41 : Nat, wX3_gather_154 (fun (M36 : sy_M) (x2_37 : Int32) => wX2_latestCell M36 x2_37 (fun r39 M38 => wX3_setFrame M38 r39 (fun M40 => Q M40))) Q n41 M28 x2_29 (0 : Int32)) ∧ (¬ (M28 28 1) ≤ 0 → wX3_add M28 (-1 : Int32) x5_30 (0 : Int32) (fun M42 => ∃ n48 : Nat, wX3_gather_154 (fun (M43 : sy_M) (x2_44 : Int32) => wX2_latestCell M43 x2_44 (fun r46 M45 => wX3_setFrame M45 r46 (fun M47 => Q M47))) Q n48 M42 x2_29 (0 : Int32))))) Q n M1 p (nI g) 0 (nI g + 1) := by
    intro sm M1 hsm h280 h281 hke0
    have htl : togN opn sm ≤ 40 := by
      have h1 := itsP_cnt T S true P srt g hPk (nb - (g + 1))
      rw [hk, if_pos rfl, ← hsm] at h1
      unfold togN
      split <;> omega
    obtain ⟨tog, htg⟩ : ∃ tog, tog = decide (togN opn sm ≠ 0) := ⟨_, rfl⟩
    have htc : nI (togN opn sm) ≤ 0 ↔ tog = false := by
      rw [htg]
      by_cases h0 : togN opn sm = 0
      · rw [h0]; simp; decide
      · have : ¬ nI (togN opn sm) ≤ 0 := nI_nle (by omega) (by omega)
        simp [h0, this]
    have hcnt := itsP_cnt T S tog P srt g hPk
    have key : ∀ r j M2, g + 1 + j + r = nb → itX (itsP T S tog P srt g j).1 M2 → M2 28 1 = nI (togN opn sm) → (∀ q, q ≠ 28 → q ≠ 29 → q ≠ 30 → q ≠ 31 → M2 q = M q) → M2 31 0 = 0 → wX3_gather_50 (fun (M28 : sy_M) (x2_29 : Int32) (x5_30 : Int32) => (((M28 28 1) ≤ 0 → ∃ n41 : Nat, wX3_gather_154 (fun (M36 : sy_M) (x2_37 : Int32) => wX2_latestCell M36 x2_37 (fun r39 M38 => wX3_setFrame M38 r39 (fun M40 => Q M40))) Q n41 M28 x2_29 (0 : Int32)) ∧ (¬ (M28 28 1) ≤ 0 → wX3_add M28 (-1 : Int32) x5_30 (0 : Int32) (fun M42 => ∃ n48 : Nat, wX3_gather_154 (fun (M43 : sy_M) (x2_44 : Int32) => wX2_latestCell M43 x2_44 (fun r46 M45 => wX3_setFrame M45 r46 (fun M47 => Q M47))) Q n48 M42 x2_29 (0 : Int32))))) Q (r + 1) M2 p (nI g) (nI (itsP T S tog P srt g j).2) (nI (g + 1 + j)) := by
      intro r
      induction r with
      | zero =>
        intro j M2 hj hit htog hke h310
        have hj2 : j = nb - (g + 1) := by omega
        have hga := hM.cg hp hke
        have hbd := itsP_bd T S tog P srt g nb (fun c hc => (hga.2.2.2.2.2.2 c hc).1) j (by omega)
        have hc2 := hcnt j
        rw [hj2, hk, ← hj2] at hc2
        rw [wX3_gather_50, hga.1]
        have : nI nb ≤ nI (g + 1 + j) := nI_le (by omega) (by omega)
        refine ⟨fun _ => ?_, fun h => absurd this h⟩
        rw [htog, htc]
        cases htv : tog with
        | false =>
          rw [htv] at hc2 hit
          simp only [Bool.false_eq_true, if_false] at hc2
          refine ⟨fun _ => ?_, fun h => absurd rfl h⟩
          refine tail (itsP T S false P srt g j).1 sm M2 (by omega) hsm ?_ hit htog hke h310
          rw [← htg, htv, hj2]
          rfl
        | true =>
          rw [htv] at hc2 hit hbd
          simp only [if_true] at hc2
          have hsm2 : 2 ≤ smN P (g + 1) j := by
            rw [htg] at htv
            have := of_decide_eq_true htv
            unfold togN at this
            rw [hsm, ← hj2] at this
            by_cases h2 : opn = 0 ∧ 2 ≤ smN P (g + 1) j
            · exact h2.2
            · rw [if_neg h2] at this; exact absurd rfl this
          refine ⟨fun h => absurd h (by simp), fun _ => ?_⟩
          rw [hP0, show (0 : Int32) = if false then 1 else 0 from rfl]
          have hrb : (itsP T S true P srt g j).2 < 2 ^ 31 := by
            have : ∀ i, g + 1 + i ≤ nb → (itsP T S true P srt g i).2 ≤ i * 39999960 := by
              intro i
              induction i with
              | zero => intro _; exact Nat.le_refl _
              | succ i ih2 =>
                intro hi
                have := ih2 (by omega)
                have h2 := (hga.2.2.2.2.2.2 (g + 1 + i) (by omega)).1
                rw [itsP]
                have h3 : i * 39999960 ≤ (i + 1) * 39999960 := Nat.mul_le_mul_right _ (Nat.le_succ _)
                split
                · split
                  · show _ + _ ≤ _
                    rw [Nat.add_mul, Nat.one_mul]
                    exact Nat.add_le_add this h2
                  · exact Nat.le_trans this h3
                · exact Nat.le_trans this h3
            have h2 := this j (by omega)
            omega
          refine addI_X (c := 0) (s := (itsP T S true P srt g j).2) hit (by omega) (fun i hi => by have := hbd i hi; omega) hrb (fun M3 h3 h4 h5 => ?_)
          refine tail (insI false (itsP T S true P srt g j).1 0 (itsP T S true P srt g j).2) sm M3 (by show _ + 1 ≤ 8; omega) hsm ?_ h3 (by rw [h5 1 (by omega)]; exact htog) (fun q q1 q2 q3 q4 => by rw [h4 q q2 q3 q1]; exact hke q q1 q2 q3 q4) (by rw [h4 31 (by omega) (by omega) (by omega)]; exact h310)
          rw [← htg, htv, hj2]
          rfl
      | succ r ih =>
        intro j M2 hj hit htog hke h310
        have hga := hM.cg hp hke
        have hbd := itsP_bd T S tog P srt g nb (fun c hc => (hga.2.2.2.2.2.2 c hc).1) j (by omega)
        have hc : g + 1 + j < nb := by omega
        have ht := hw.2.2.1 (g + 1 + j) hc (by omega)
        have hc2 := hcnt (j + 1)
        have hmono := smN_mono (fun b => decide (T 0 b = g + 1)) (g + 1) (nb - (g + 1)) (j + 1) (by omega)
        rw [hk] at hmono
        rw [wX3_gather_50, hga.1]
        have e1 : ¬ nI nb ≤ nI (g + 1 + j) := nI_ge (by omega) (by omega)
        simp only [e1, false_implies, true_implies, not_false_eq_true, true_and]
        rw [ex_nI (show g + 1 + j < 40 by omega) (by omega), (hga.2.1 _ hc).1, pm_nI (by omega) (by omega), nI_1]
        have hs := fun M3 => ih (j + 1) M3 (by omega)
        rw [itsP] at hs hc2
        refine ⟨fun hch => ?_, fun hch => ?_⟩
        · rw [if_pos hch] at hs hc2
          obtain ⟨hSb, hSv⟩ := hga.2.2.2.2.2.2 _ hc
          rw [latest_y hga.2.2.2.2.2.1 hd0 hd2, ex_nI (show (d - 1) % 50 * 40 + (g + 1 + j) < 2000 by omega) (by omega), htog, htc, hSv]
          have putIt : (tog && P (g + 1 + j)) = false → wX3_gather_116 (fun (M15 : sy_M) (x1_16 : Nat) (x2_17 : Int32) (x5_18 : Int32) (x6_19 : Int32) => wX3_gather_50 (fun (M28 : sy_M) (x2_29 : Int32) (x5_30 : Int32) => (((M28 28 1) ≤ 0 → ∃ n41 : Nat, wX3_gather_154 (fun (M36 : sy_M) (x2_37 : Int32) => wX2_latestCell M36 x2_37 (fun r39 M38 => wX3_setFrame M38 r39 (fun M40 => Q M40))) Q n41 M28 x2_29 (0 : Int32)) ∧ (¬ (M28 28 1) ≤ 0 → wX3_add M28 (-1 : Int32) x5_30 (0 : Int32) (fun M42 => ∃ n48 : Nat, wX3_gather_154 (fun (M43 : sy_M) (x2_44 : Int32) => wX2_latestCell M43 x2_44 (fun r46 M45 => wX3_setFrame M45 r46 (fun M47 => Q M47))) Q n48 M42 x2_29 (0 : Int32))))) Q (r + 1) M15 x1_16 x2_17 x5_18 x6_19) Q M2 p (nI g) (nI (itsP T S tog P srt g j).2) (nI (g + 1 + j)) (nI (S (g + 1 + j))) := by
            intro hno
            rw [hno] at hs hc2
            simp only [Bool.false_eq_true, if_false, insI] at hs hc2
            unfold wX3_gather_116
            rw [ex_nI (show g < 40 by omega) (by omega), hga.2.2.1, hsv]
            simp only [nI_1]
            rw [← pm_s (g + 1 + j)]
            refine addI_X hit (by omega) (fun i hi => by have := hbd i hi; omega) (by omega) (fun M3 h3 h4 h5 => ?_)
            exact hs M3 h3 (by rw [h5 1 (by omega)]; exact htog) (fun q q1 q2 q3 q4 => by rw [h4 q q2 q3 q1]; exact hke q q1 q2 q3 q4) (by rw [h4 31 (by omega) (by omega) (by omega)]; exact h310)
          refine ⟨fun htf => putIt (by rw [htf]; rfl), fun htf => ?_⟩
          have htt : tog = true := by simpa using htf
          rw [isSmallX hw hc hch hgn hga.1 (hga.2.1 _ hc).1 (hga.2.1 _ hc).2 hga.2.2.2.1 hlim hga.2.2.2.2.2.1 hd0 hd2 hga.2.2.2.2.2.2, ← hPe]
          cases hpv : P (g + 1 + j) with
          | false =>
            simp only [Bool.false_eq_true, if_false, not_true_eq_false, false_implies, true_implies, and_true]
            exact putIt (by rw [hpv, Bool.and_false])
          | true =>
            simp only [if_true, i10, false_implies, true_implies, not_false_eq_true, true_and]
            rw [hpv, htt] at hs
            simp only [Bool.true_and, if_true] at hs
            rw [nI_add]
            rw [htt] at hit ⊢
            exact hs M2 hit htog hke h310
        · rw [if_neg hch] at hs
          exact hs M2 hit htog hke h310
    refine ⟨nb - (g + 1) + 1, ?_⟩
    have h1 := key (nb - (g + 1)) 0 M1 (by omega) ⟨h280, fun i hi => absurd hi (by show ¬ i < 0; omega)⟩ h281 (fun q q1 _ _ _ => hke0 q q1) (by rw [hke0 31 (by omega)]; exact h31)
    rw [nI_1]
    exact h1
  unfold wX3_gather
  rw [ex_nI (show g < 40 by omega) (by omega), mu_n1 _ _ _ _ (show p + 9 ≠ 28 by omega), hM.2.2.2.2.1, nI_0i (by omega)]
  have hga0 : gaX p nb d g lim opn T S (mu M 28 0 0) := hM.cg hp (fun q q1 _ _ _ => mu_oth q1)
  have g24 : ∀ (s0 sm : Nat), sm = smN P (g + 1) (nb - (g + 1)) → s0 ≤ 40 → (s0 = if opn = 0 then sm else 0) → wX3_gather_24 Q (mu M 28 0 0) p (nI g) (nI s0) := by
    intro s0 sm hsm hs40 hs0
    unfold wX3_gather_24
    rw [nI_ltI (by omega) (by omega)]
    refine ⟨fun h => ?_, fun h => ?_⟩
    · unfold wX3_gather_39
      refine main sm _ hsm rfl ?_ (fun q q1 => by rw [mu_oth q1, mu_oth q1])
      rw [mu_eq]
      unfold togN
      rw [if_neg, nI_0]
      rintro ⟨h1, h2⟩
      rw [if_pos h1] at hs0
      omega
    · unfold wX3_gather_39
      refine main sm _ hsm rfl ?_ (fun q q1 => by rw [mu_oth q1, mu_oth q1])
      rw [mu_eq]
      unfold togN
      by_cases h1 : opn = 0
      · rw [if_pos h1] at hs0
        rw [if_pos ⟨h1, by omega⟩, hs0]
      · rw [if_neg h1] at hs0
        omega
  have hsml : smN P (g + 1) (nb - (g + 1)) ≤ 40 := by
    have h1 := itsP_cnt T S true P srt g hPk (nb - (g + 1))
    rw [hk, if_pos rfl] at h1
    omega
  refine ⟨fun h0 => ?_, fun h0 => ?_⟩
  · refine countX hw hgn hga0.1 hga0.2.1 hga0.2.2.2.1 hlim hga0.2.2.2.2.2.1 hd0 hd2 hga0.2.2.2.2.2.2 ?_
    rw [← hPe]
    exact g24 _ _ rfl hsml (by rw [if_pos h0])
  · have := g24 0 _ rfl (by omega) (by rw [if_neg h0])
    rw [nI_0] at this
    exact this
/-- the reference's own -/
theorem findZ {M : sy_M} {nb nc g lim opn tk : Nat} {T V C : Nat → Nat → Nat} {Q : sy_M → Prop} (hw : wfT nb T V) (hbd : bdC nb nc T C) (hgn : g < nb) (hM : szZ nb nc T C M) (htk : tk ≤ 999) (h14 : M 14 g = nI lim) (hlim : lim ≤ 999) (h15 : M 15 g = nI opn) (hopn : opn ≤ 1) (h7 : M 7 g = nI (T 6 g))
    (hq : ∀ M' sm σ S, S = SZ T (lsz T C nc tk) nb → sm = smN (smB T S lim g) (g + 1) (nb - (g + 1)) → σ = itsE (decide (togN opn sm ≠ 0)) (itsP T S (decide (togN opn sm ≠ 0)) (smB T S lim g) (decide (T 6 g ≠ 0)) g (nb - (g + 1))) → itZ σ M' → M' 34 g = nI (togN opn sm) → (togN opn sm ≠ 0 → M' 35 g = nI (itsP T S (decide (togN opn sm ≠ 0)) (smB T S lim g) (decide (T 6 g ≠ 0)) g (nb - (g + 1))).2) → (∀ i, i ≤ σ.1 → M' 23 i = nI (rs σ.2.2 0 i)) → (∀ q, q ≠ 0 → q ≠ 16 → q ≠ 17 → q ≠ 23 → q ≠ 34 → q ≠ 35 → M' q = M q) → (∀ k, k ≠ 30 → M' 0 k = M 0 k) → (∀ k, k ≠ g → M' 34 k = M 34 k ∧ M' 35 k = M 35 k) → Q M') : wX12_findItems M (nI g) (nI tk) Q := by
  have hnb := hw.1
  have hk := kids hw hgn
  have hT2 := (hw.2.2.2.1 g hgn).2.1
  have hT6 := (hw.2.2.2.1 g hgn).2.2.2.2.2.1
  obtain ⟨S, hSe⟩ : ∃ S, S = SZ T (lsz T C nc tk) nb := ⟨_, rfl⟩
  have hSb : ∀ c, c < nb → S c ≤ 39999960 := fun c hc => by rw [hSe]; exact SZ_bd hw (lsz_bd hw hbd) hc
  obtain ⟨P, hPe⟩ : ∃ P, P = smB T S lim g := ⟨_, rfl⟩
  have hPk : ∀ b, P b = true → T 0 b = g + 1 := fun b hb => by rw [hPe] at hb; unfold smB at hb; exact (of_decide_eq_true hb).1
  obtain ⟨srt, hsr⟩ : ∃ srt, srt = decide (T 6 g ≠ 0) := ⟨_, rfl⟩
  have hsv : nI (T 6 g) = if srt then 1 else 0 := by
    rw [hsr]
    by_cases h6 : T 6 g = 0
    · simp [h6, nI_0]
    · have : T 6 g = 1 := by omega
      simp [this]
      rfl
  have hP0 : (-1 : Int32) = pm 0 := pm_0.symm
  have szcg : ∀ M1 : sy_M, (∀ q, q ≠ 0 → q ≠ 16 → q ≠ 17 → q ≠ 23 → q ≠ 34 → q ≠ 35 → M1 q = M q) → (∀ k, k ≠ 30 → M1 0 k = M 0 k) → szZ nb nc T C M1 := by
    intro M1 h1 h2
    unfold szZ
    rw [h2 13 (by omega), h2 24 (by omega), h1 2 (by omega) (by omega) (by omega) (by omega) (by omega) (by omega), h1 3 (by omega) (by omega) (by omega) (by omega) (by omega) (by omega), h1 8 (by omega) (by omega) (by omega) (by omega) (by omega) (by omega), h1 11 (by omega) (by omega) (by omega) (by omega) (by omega) (by omega), h1 12 (by omega) (by omega) (by omega) (by omega) (by omega) (by omega), h1 13 (by omega) (by omega) (by omega) (by omega) (by omega) (by omega)]
    exact hM
  -- the sums ahead
  have tail : ∀ (σ : itS) (sm : Nat) (M1 : sy_M), σ.1 ≤ 8 → sm = smN P (g + 1) (nb - (g + 1)) → σ = itsE (decide (togN opn sm ≠ 0)) (itsP T S (decide (togN opn sm ≠ 0)) P srt g (nb - (g + 1))) → itZ σ M1 → M1 34 g = nI (togN opn sm) → (togN opn sm ≠ 0 → M1 35 g = nI (itsP T S (decide (togN opn sm ≠ 0)) P srt g (nb - (g + 1))).2) → (∀ q, q ≠ 0 → q ≠ 16 → q ≠ 17 → q ≠ 23 → q ≠ 34 → q ≠ 35 → M1 q = M q) → (∀ k, k ≠ 30 → M1 0 k = M 0 k) → (∀ k, k ≠ g → M1 34 k = M 34 k ∧ M1 35 k = M 35 k) → wX12_findItems_309 Q M1 := by
    intro σ sm M1 hσ hsm hσe hit h34 h35 hke hk0 hkg
    have key : ∀ r k M2, k + r = σ.1 → itZ σ M2 → M2 34 g = nI (togN opn sm) → (togN opn sm ≠ 0 → M2 35 g = nI (itsP T S (decide (togN opn sm ≠ 0)) P srt g (nb - (g + 1))).2) → (∀ q, q ≠ 0 → q ≠ 16 → q ≠ 17 → q ≠ 23 → q ≠ 34 → q ≠ 35 → M2 q = M q) → (∀ j, j ≠ 30 → M2 0 j = M 0 j) → (∀ j, j ≠ g → M2 34 j = M 34 j ∧ M2 35 j = M 35 j) → (∀ i, i ≤ k → M2 23 i = nI (rs σ.2.2 0 i)) → wX12_findItems_319 Q (r + 1) M2 (nI k) := by
      intro r
      induction r with
      | zero =>
        intro k M2 hkr hit2 h342 h352 hke2 hk02 hkg2 hah
        have : k = σ.1 := by omega
        subst this
        rw [wX12_findItems_319, hit2.1]
        have : nI σ.1 ≤ nI σ.1 := nI_le (Nat.le_refl _) (by omega)
        refine ⟨fun _ => ?_, fun h => absurd this h⟩
        refine hq _ sm σ S hSe (by rw [hsm, hPe]) (by rw [hσe, hPe, hsr]) hit2 h342 (fun h => by rw [h352 h, hPe, hsr]) hah hke2 hk02 hkg2
      | succ r ih =>
        intro k M2 hkr hit2 h342 h352 hke2 hk02 hkg2 hah
        rw [wX12_findItems_319, hit2.1]
        have e1 : ¬ nI σ.1 ≤ nI k := nI_ge (by omega) (by omega)
        simp only [e1, false_implies, true_implies, not_false_eq_true, true_and]
        rw [ex_nI (show k < 10 by omega) (by omega), nI_1]
        refine ⟨by omega, ?_⟩
        rw [ex_nI (show k + 1 < 10 by omega) (by omega), hah k (Nat.le_refl _), (hit2.2 k (by omega)).2, nI_add]
        refine ih (k + 1) _ (by omega) ⟨hit2.1, fun i hi => ?_⟩ h342 h352 (fun q q1 q2 q3 q4 q5 q6 => by rw [mu_oth q4]; exact hke2 q q1 q2 q3 q4 q5 q6) hk02 hkg2 (fun i hi => ?_)
        · rw [mu_n1 _ _ _ _ (by omega), mu_n1 _ _ _ _ (by omega)]
          exact hit2.2 i hi
        · rw [mu_ap]
          by_cases hi2 : i = k + 1
          · subst hi2
            rw [if_pos ⟨rfl, rfl⟩, rs, Nat.zero_add]
          · rw [if_neg (by omega)]
            exact hah i (by omega)
    unfold wX12_findItems_309
    rw [show (0 : Int32) = nI 0 from rfl, ex_nI (show 0 < 10 by omega) (by omega)]
    refine ⟨σ.1 + 1, key σ.1 0 _ (by omega) ⟨hit.1, fun i hi => ?_⟩ h34 h35 (fun q q1 q2 q3 q4 q5 q6 => by rw [mu_oth q4]; exact hke q q1 q2 q3 q4 q5 q6) hk0 hkg (fun i hi => by rw [show i = 0 by omega]; rfl)⟩
    rw [mu_n1 _ _ _ _ (by omega), mu_n1 _ _ _ _ (by omega)]
    exact hit.2 i hi
  have hsml : smN P (g + 1) (nb - (g + 1)) ≤ 40 := by
    have h1 := itsP_cnt T S true P srt g hPk (nb - (g + 1))
    rw [hk, if_pos rfl] at h1
    omega
  -- the boxes, one by one
  have main : ∀ (sm : Nat) (tog : Bool) (M1 : sy_M), sm = smN P (g + 1) (nb - (g + 1)) → tog = decide (togN opn sm ≠ 0) → M1 0 30 = 0 → (∀ q, q ≠ 0 → M1 q = M q) → (∀ k, k ≠ 30 → M1 0 k = M 0 k) → wX12_findItems_88 Q M1 (nI g) (nI tk) (if tog then 1 else 0) (nI g) (nI (togN opn sm)) := by
    intro sm tog M1 hsm htg h30 hke0 hk00
    have hcnt := itsP_cnt T S tog P srt g hPk
    unfold wX12_findItems_88
    rw [ex_nI (show g < 41 by omega) (by omega), ex_nI (show g < 41 by omega) (by omega)]
    have key : ∀ r j M2, g + 1 + j + r = nb → itZ (itsP T S tog P srt g j).1 M2 → M2 34 g = nI (togN opn sm) → M2 35 g = nI (itsP T S tog P srt g j).2 → (∀ q, q ≠ 0 → q ≠ 16 → q ≠ 17 → q ≠ 23 → q ≠ 34 → q ≠ 35 → M2 q = M q) → (∀ k, k ≠ 30 → M2 0 k = M 0 k) → (∀ k, k ≠ g → M2 34 k = M 34 k ∧ M2 35 k = M 35 k) → wX12_findItems_101 (fun (M59 : sy_M) (x1_60 : Int32) (x4_61 : Int32) => ((x4_61 = 0 → wX12_findItems_309  Q M59) ∧ (¬ x4_61 = 0 → ∃ n69 : Nat, n69 < 9 ∧ (M59 0 30) = nI n69 ∧ ∃ n70 : Nat, n70 < 41 ∧ x1_60 = nI n70 ∧ wX12_findItems_309  Q (mu (mu (mu M59 16 n69 (-1 : Int32)) 17 n69 (M59 35 n70)) 0 30 ((M59 0 30) + (1 : Int32)))))) Q (r + 1) M2 (nI g) (nI tk) (if tog then 1 else 0) (nI (g + 1 + j)) := by
      intro r
      induction r with
      | zero =>
        intro j M2 hj hit h34 h35 hke hk0 hkg
        have hj2 : j = nb - (g + 1) := by omega
        have hz := szcg M2 hke hk0
        have hc2 := hcnt j
        rw [hj2, hk, ← hj2] at hc2
        rw [wX12_findItems_101, hz.1]
        have : nI nb ≤ nI (g + 1 + j) := nI_le (by omega) (by omega)
        refine ⟨fun _ => ?_, fun h => absurd this h⟩
        cases htv : tog with
        | false =>
          rw [htv] at hc2 hit h35
          simp only [Bool.false_eq_true, if_false, true_implies, not_true_eq_false, false_implies, and_true] at hc2 ⊢
          refine tail (itsP T S false P srt g j).1 sm M2 (by omega) hsm ?_ hit h34 (fun h => ?_) hke hk0 hkg
          · rw [← htg, htv, hj2]
            rfl
          · rw [htg] at htv
            exact absurd h (by simpa using htv)
        | true =>
          rw [htv] at hc2 hit h35
          have hsm2 : 2 ≤ smN P (g + 1) j := by
            have htv2 := htv
            rw [htg] at htv2
            have := of_decide_eq_true htv2
            unfold togN at this
            rw [hsm, ← hj2] at this
            by_cases h2 : opn = 0 ∧ 2 ≤ smN P (g + 1) j
            · exact h2.2
            · rw [if_neg h2] at this; exact absurd rfl this
          simp only [if_true, i10, true_implies, not_false_eq_true, false_implies, true_and] at hc2 ⊢
          rw [hit.1, ex_nI (show (itsP T S true P srt g j).1.1 < 9 by omega) (by omega), ex_nI (show g < 41 by omega) (by omega), h35, nI_1, hP0]
          refine tail (insI false (itsP T S true P srt g j).1 0 (itsP T S true P srt g j).2) sm _ (by show _ + 1 ≤ 8; omega) hsm ?_ ⟨rfl, fun i hi => ?_⟩ h34 (fun _ => ?_) (fun q q1 q2 q3 q4 q5 q6 => by rw [mu_oth q1, mu_oth q3, mu_oth q2]; exact hke q q1 q2 q3 q4 q5 q6) (fun k hk2 => by rw [mu_n2 _ _ _ _ hk2, mu_n1 _ _ _ _ (by omega), mu_n1 _ _ _ _ (by omega)]; exact hk0 k hk2) hkg
          · rw [← htg, htv, hj2]
            rfl
          · have v1 : mu (mu (mu M2 16 (itsP T S true P srt g j).1.1 (pm 0)) 17 (itsP T S true P srt g j).1.1 (nI (itsP T S true P srt g j).2)) 0 30 (nI ((itsP T S true P srt g j).1.1 + 1)) 16 i = if i = (itsP T S true P srt g j).1.1 then pm 0 else M2 16 i := by simp [mu_ap]
            have v2 : mu (mu (mu M2 16 (itsP T S true P srt g j).1.1 (pm 0)) 17 (itsP T S true P srt g j).1.1 (nI (itsP T S true P srt g j).2)) 0 30 (nI ((itsP T S true P srt g j).1.1 + 1)) 17 i = if i = (itsP T S true P srt g j).1.1 then nI (itsP T S true P srt g j).2 else M2 17 i := by simp [mu_ap]
            rw [v1, v2]
            simp only [insI, insF, Bool.false_eq_true, if_false] at hi ⊢
            by_cases q2 : i = (itsP T S true P srt g j).1.1
            · have q3 : ¬ i < (itsP T S true P srt g j).1.1 := by omega
              simp only [eq_true q2, eq_false q3, if_true, if_false]
              exact ⟨trivial, trivial⟩
            · have q3 : i < (itsP T S true P srt g j).1.1 := by omega
              simp only [eq_false q2, eq_true q3, if_true, if_false]
              exact hit.2 i (by omega)
          · rw [← htg, htv, ← hj2]
            exact h35
      | succ r ih =>
        intro j M2 hj hit h34 h35 hke hk0 hkg
        have hz := szcg M2 hke hk0
        have hbd2 := itsP_bd T S tog P srt g nb hSb j (by omega)
        have hc : g + 1 + j < nb := by omega
        have ht := hw.2.2.1 (g + 1 + j) hc (by omega)
        have hc2 := hcnt (j + 1)
        have hmono := smN_mono (fun b => decide (T 0 b = g + 1)) (g + 1) (nb - (g + 1)) (j + 1) (by omega)
        rw [hk] at hmono
        rw [wX12_findItems_101, hz.1]
        have e1 : ¬ nI nb ≤ nI (g + 1 + j) := nI_ge (by omega) (by omega)
        simp only [e1, false_implies, true_implies, not_false_eq_true, true_and]
        rw [ex_nI (show g + 1 + j < 82 by omega) (by omega), (hz.2.2.1 _ hc).1, pm_nI (by omega) (by omega), nI_1]
        have hs := fun M3 => ih (j + 1) M3 (by omega)
        rw [itsP] at hs hc2
        refine ⟨fun hch => ?_, fun hch => ?_⟩
        · rw [if_pos hch] at hs hc2
          have hSc := hSb _ hc
          refine sizeOfZ hw hbd hz htk 8 (g + 1 + j) _ hc (by omega) ?_
          rw [← hSe]
          have putIt : (tog && P (g + 1 + j)) = false → ∃ n, wX12_findItems_169 (fun (M28 : sy_M) (x1_29 : Int32) (x2_30 : Int32) (x4_31 : Int32) (x5_32 : Int32) (x6_33 : Int32) (x7_34 : Int32) => wX12_findItems_235 (fun (M36 : sy_M) (x1_37 : Int32) (x2_38 : Int32) (x4_39 : Int32) (x5_40 : Int32) => wX12_findItems_101 (fun (M59 : sy_M) (x1_60 : Int32) (x4_61 : Int32) => ((x4_61 = 0 → wX12_findItems_309  Q M59) ∧ (¬ x4_61 = 0 → ∃ n69 : Nat, n69 < 9 ∧ (M59 0 30) = nI n69 ∧ ∃ n70 : Nat, n70 < 41 ∧ x1_60 = nI n70 ∧ wX12_findItems_309  Q (mu (mu (mu M59 16 n69 (-1 : Int32)) 17 n69 (M59 35 n70)) 0 30 ((M59 0 30) + (1 : Int32)))))) Q (r + 1) M36 x1_37 x2_38 x4_39 x5_40) Q M28 x1_29 x2_30 x4_31 x5_32 x6_33 x7_34) Q n M2 (nI g) (nI tk) (if tog then 1 else 0) (nI (g + 1 + j)) (nI (S (g + 1 + j))) (M2 0 30) := by
            intro hno
            rw [hno] at hs hc2
            simp only [Bool.false_eq_true, if_false, insI] at hs hc2
            refine addI_Z hit (by omega) (fun i hi => by have := hbd2 i hi; omega) (by omega) (by omega) (by rw [hke 7 (by omega) (by omega) (by omega) (by omega) (by omega) (by omega), h7]; exact hsv) (fun M3 h3 h4 h5 => ?_)
            rw [nI_1]
            exact hs M3 h3 (by rw [h4 34 (by omega) (by omega) (by omega)]; exact h34) (by rw [h4 35 (by omega) (by omega) (by omega)]; exact h35) (fun q q1 q2 q3 q4 q5 q6 => by rw [h4 q q2 q3 q1]; exact hke q q1 q2 q3 q4 q5 q6) (fun k hk2 => by rw [h5 k hk2]; exact hk0 k hk2) (fun k hk2 => by rw [h4 34 (by omega) (by omega) (by omega), h4 35 (by omega) (by omega) (by omega)]; exact hkg k hk2)
          cases htv : tog with
          | false =>
            simp only [Bool.false_eq_true, if_false, true_implies, not_true_eq_false, false_implies, and_true]
            have := putIt (by rw [htv]; rfl)
            rw [htv] at this
            exact this
          | true =>
            simp only [if_true, i10, true_implies, not_false_eq_true, false_implies, true_and]
            refine isSmallZ hw hbd hz htk hc hch hgn (by rw [hke 14 (by omega) (by omega) (by omega) (by omega) (by omega) (by omega)]; exact h14) hlim ?_
            rw [← hSe, ← hPe]
            cases hpv : P (g + 1 + j) with
            | false =>
              simp only [Bool.false_eq_true, if_false, not_true_eq_false, false_implies, true_implies, and_true]
              have := putIt (by rw [hpv, Bool.and_false])
              rw [htv] at this
              exact this
            | true =>
              simp only [if_true, i10, false_implies, true_implies, not_false_eq_true, true_and]
              rw [ex_nI (show g < 41 by omega) (by omega), h35, htv]
              rw [hpv, htv] at hs
              simp only [Bool.true_and, if_true] at hs
              rw [nI_add]
              rw [htv] at hit
              exact hs _ ⟨hit.1, fun i hi => by rw [mu_n1 _ _ _ _ (by omega), mu_n1 _ _ _ _ (by omega)]; exact hit.2 i hi⟩ h34 (mu_eq _ _ _ _) (fun q q1 q2 q3 q4 q5 q6 => by rw [mu_oth q6]; exact hke q q1 q2 q3 q4 q5 q6) hk0 (fun k hk2 => by rw [mu_n2 _ _ _ _ hk2, mu_n2 _ _ _ _ hk2]; exact hkg k hk2)
        · rw [if_neg hch] at hs
          exact hs M2 hit h34 h35 hke hk0 hkg
    refine ⟨nb - (g + 1) + 1, ?_⟩
    have h1 := key (nb - (g + 1)) 0 (mu (mu M1 34 g (nI (togN opn sm))) 35 g 0) (by omega) ⟨h30, fun i hi => absurd hi (by show ¬ i < 0; omega)⟩ (by rw [mu_n1 _ _ _ _ (by omega), mu_eq]) (mu_eq _ _ _ _) (fun q q1 q2 q3 q4 q5 q6 => by rw [mu_oth q6, mu_oth q5]; exact hke0 q q1) hk00 (fun k hk2 => by rw [mu_n1 _ _ _ _ (by omega), mu_n2 _ _ _ _ hk2, mu_n2 _ _ _ _ hk2, mu_n1 _ _ _ _ (by omega), hke0 34 (by omega), hke0 35 (by omega)]; exact ⟨rfl, rfl⟩)
    rw [nI_1]
    exact h1
  unfold wX12_findItems
  refine countZ hw hbd hM htk hgn h14 hlim ?_
  rw [← hSe, ← hPe, ex_nI (show g < 41 by omega) (by omega), h15, nI_0i (by omega), nI_ltI (by omega) (by omega)]
  have m0 : ∀ tog : Bool, tog = decide (togN opn (smN P (g + 1) (nb - (g + 1))) ≠ 0) → wX12_findItems_88 Q (mu M 0 30 0) (nI g) (nI tk) (if tog then 1 else 0) (nI g) (nI (togN opn (smN P (g + 1) (nb - (g + 1))))) := fun tog ht => main _ tog _ rfl ht rfl (fun q q1 => mu_oth q1) (fun k hk2 => mu_n2 _ _ _ _ hk2)
  have no : togN opn (smN P (g + 1) (nb - (g + 1))) = 0 → wX12_findItems_65 Q M (nI g) (nI tk) (nI (smN P (g + 1) (nb - (g + 1)))) := by
    intro h0
    unfold wX12_findItems_65 wX12_findItems_66
    have := m0 false (by rw [h0]; rfl)
    rw [h0, nI_0] at this
    simp only [Bool.false_eq_true, if_false] at this
    exact ⟨fun _ => this, fun h => absurd rfl h⟩
  refine ⟨fun h => no (by unfold togN; rw [if_neg (fun h2 => h h2.1)]), fun h => ⟨fun h2 => no (by unfold togN; rw [if_neg (by omega)]), fun h2 => ?_⟩⟩
  have ht : togN opn (smN P (g + 1) (nb - (g + 1))) = smN P (g + 1) (nb - (g + 1)) := by unfold togN; rw [if_pos ⟨h, by omega⟩]
  have := m0 true (by rw [ht]; exact (decide_eq_true (by omega)).symm)
  rw [ht] at this
  unfold wX12_findItems_66
  simp only [if_true] at this
  simp only [i10, false_implies, true_implies, not_false_eq_true, true_and]
  exact this
