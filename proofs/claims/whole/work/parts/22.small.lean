/-! how great a size can be; which boxes are small, and how many -/
theorem rs_add (f g : Nat → Nat) (a : Nat) : ∀ n, rs (fun j => f j + g j) a n = rs f a n + rs g a n
  | 0 => rfl
  | n + 1 => by rw [rs, rs, rs, rs_add f g a n]; omega
theorem rs_one (c v : Nat) : ∀ m, 1 ≤ c → rs (fun j => if c = j + 1 then v else 0) 0 m = if c ≤ m then v else 0
  | 0, h => by rw [if_neg (by omega)]; rfl
  | m + 1, h => by
    rw [rs, rs_one c v m h, Nat.zero_add]
    by_cases h1 : c ≤ m
    · rw [if_pos h1, if_neg (by omega), if_pos (by omega)]
      rfl
    · rw [if_neg h1]
      by_cases h2 : c = m + 1
      · rw [if_pos h2, if_pos (by omega), Nat.zero_add]
      · rw [if_neg h2, if_neg (by omega)]
theorem rs_le_mem (f : Nat → Nat) (a : Nat) : ∀ n i, i < n → f (a + i) ≤ rs f a n
  | 0, _, h => absurd h (by omega)
  | n + 1, i, h => by
    rw [rs]
    by_cases hi : i = n
    · subst hi; omega
    · have := rs_le_mem f a n i (by omega)
      omega
theorem rs_bd (f : Nat → Nat) (a B : Nat) : ∀ n, (∀ i, a ≤ i → i < a + n → f i ≤ B) → rs f a n ≤ n * B
  | 0, _ => by simp [rs]
  | n + 1, h => by
    have h1 := rs_bd f a B n (fun i h1 h2 => h i h1 (by omega))
    have h2 := h (a + n) (by omega) (by omega)
    rw [rs, Nat.add_mul]
    omega
theorem DZ_sum {T V : Nat → Nat → Nat} {l : Nat → Nat} {nb : Nat} (hw : wfT nb T V) : ∀ k m, m + k = nb → 1 ≤ m → rs (fun j => DZ T l nb m j) 0 m = rs (fun j => DZ T l nb nb j) 0 nb
  | 0, m, h, _ => by rw [show m = nb by omega]
  | k + 1, m, h, h1 => by
    rw [← DZ_sum hw k (m + 1) (by omega) (by omega), rs]
    have ht := hw.2.2.1 m (by omega) (by omega)
    rw [Nat.zero_add, DZ_own hw (by omega)]
    have e : rs (fun j => DZ T l nb m j) 0 m = rs (fun j => DZ T l nb (m + 1) j + if T 0 m = j + 1 then SZ T l nb m else 0) 0 m := rs_cg 0 m (fun i _ hi => DZ_step hw (by omega) (by omega) (by omega))
    rw [e, rs_add, rs_one _ _ _ ht.1, if_pos ht.2.1]
theorem SZ_bd {T V : Nat → Nat → Nat} {l : Nat → Nat} {nb b : Nat} (hw : wfT nb T V) (hl : ∀ c, c < nb → T 1 c = 0 → l c ≤ 999999) (hb : b < nb) : SZ T l nb b ≤ 39999960 := by
  have h1 := DZ_sum (l := l) hw (nb - (b + 1)) (b + 1) (by omega) (by omega)
  have h2 := rs_le_mem (fun j => DZ T l nb (b + 1) j) 0 (b + 1) b (by omega)
  rw [Nat.zero_add, h1] at h2
  have h3 := rs_bd (fun j => DZ T l nb nb j) 0 999999 nb (fun i _ hi => by
    unfold DZ
    by_cases hg : T 1 i = 0
    · rw [if_pos hg]; exact hl i (by omega) hg
    · rw [if_neg hg, Nat.sub_self]; exact Nat.zero_le _)
  rw [DZ_own hw hb] at h2
  have := hw.1
  have h4 : nb * 999999 ≤ 40 * 999999 := Nat.mul_le_mul_right _ this
  omega
theorem lsz_bd {nb nc tk : Nat} {T V C : Nat → Nat → Nat} (hw : wfT nb T V) (hbd : bdC nb nc T C) : ∀ c, c < nb → T 1 c = 0 → lsz T C nc tk c ≤ 999999 := by
  intro c hc _
  unfold lsz
  have := bst_le C c tk nc
  by_cases h : bst C c tk nc = 0
  · rw [if_pos h]; exact (hw.2.2.2.1 c hc).2.2.1
  · rw [if_neg h]; exact (hbd.2 (bst C c tk nc - 1) (by omega)).2.2.2
/-- whether b is a small one of g; S the sizes, lim the limit -/
def smB (T : Nat → Nat → Nat) (S : Nat → Nat) (lim g b : Nat) : Bool := decide (T 0 b = g + 1 ∧ T 1 b = 0 ∧ S b * 1000 < lim * S g)
theorem cmp64 {a b c : Nat} (ha : a ≤ 39999960) (hb : b ≤ 999) (hc : c ≤ 39999960) : 0 ≤ lg_cmp ((nI a).toInt64 * 1000) ((nI b).toInt64 * (nI c).toInt64) ↔ ¬ a * 1000 < b * c := by
  have hbc : b * c ≤ 999 * 39999960 := Nat.mul_le_mul hb hc
  rw [lg_cmp_ge, nI_l (by omega), nI_l (by omega), nI_l (by omega), show (1000 : Int64) = lN 1000 from rfl, lN_mul, lN_mul, pk_lLE (by omega) (by omega)]
  omega
theorem isSmallX {M : sy_M} {p nb d b g lim : Nat} {T V : Nat → Nat → Nat} {S : Nat → Nat} {Q : Int32 → sy_M → Prop} (hw : wfT nb T V) (hb : b < nb) (hg : T 0 b = g + 1) (hgn : g < nb) (hn : M p 0 = nI nb) (h1 : M (p + 1) b = pm (T 0 b)) (h2 : M (p + 2) b = pm (T 1 b)) (h8 : M (p + 8) g = nI lim) (hlim : lim ≤ 999) (hd : M 9 0 = nI d) (hd0 : 0 < d) (hd2 : d < 2 ^ 20)
    (hS : ∀ c, c < nb → S c ≤ 39999960 ∧ M 16 ((d - 1) % 50 * 40 + c) = nI (S c)) : wX3_isSmall M p (nI b) Q ↔ Q (if smB T S lim g b then 1 else 0) M := by
  have hnb := hw.1
  have m1 : (d - 1) % 50 < 50 := Nat.mod_lt _ (by omega)
  obtain ⟨y1, -⟩ := hw.2.2.2.1 b hb
  unfold wX3_isSmall smB
  rw [ex_nI (show b < 40 by omega) (by omega), isLeaf_y hn hb hnb h2 y1, h1, hg, pm_s]
  simp only [has_y hn hgn hnb, latest_y hd hd0 hd2, ex_nI (show g < 40 by omega) (by omega), ex_nI (show (d - 1) % 50 * 40 + g < 2000 by omega) (by omega), ex_nI (show (d - 1) % 50 * 40 + b < 2000 by omega) (by omega), h8, (hS g hgn).2, (hS b hb).2, cmp64 (hS b hb).1 hlim (hS g hgn).1, i10, not_false_eq_true, true_implies, false_implies, and_true, true_and]
  by_cases c1 : T 1 b = 0
  · by_cases c2 : S b * 1000 < lim * S g <;> simp [c1, c2, hg]
  · simp [c1]
theorem isSmallZ {M : sy_M} {nb nc b g lim tk : Nat} {T V C : Nat → Nat → Nat} {Q : Int32 → sy_M → Prop} (hw : wfT nb T V) (hbd : bdC nb nc T C) (hM : szZ nb nc T C M) (htk : tk ≤ 999) (hb : b < nb) (hg : T 0 b = g + 1) (hgn : g < nb) (h14 : M 14 g = nI lim) (hlim : lim ≤ 999)
    (hq : Q (if smB T (SZ T (lsz T C nc tk) nb) lim g b then 1 else 0) M) : wX12_isSmallOne M (nI b) (nI g) (nI tk) Q := by
  have hnb := hw.1
  unfold wX12_isSmallOne
  rw [ex_nI (show b < 82 by omega) (by omega), (hM.2.2.1 b hb).2.1, b01_0]
  unfold smB at hq
  have bl := lsz_bd (tk := tk) hw hbd
  refine ⟨fun h => ?_, fun h => ?_⟩
  · rw [show decide (T 0 b = g + 1 ∧ T 1 b = 0 ∧ SZ T (lsz T C nc tk) nb b * 1000 < lim * SZ T (lsz T C nc tk) nb g) = false from decide_eq_false (fun h2 => h h2.2.1)] at hq
    exact hq
  · refine sizeOfZ hw hbd hM htk 8 b _ hb (by omega) ?_
    rw [ex_nI (show g < 41 by omega) (by omega)]
    refine sizeOfZ hw hbd hM htk 8 g _ hgn (by omega) ?_
    rw [h14, show ((1000 : Int64) * (nI (SZ T (lsz T C nc tk) nb b)).toInt64) = (nI (SZ T (lsz T C nc tk) nb b)).toInt64 * 1000 from Int64.mul_comm _ _, cmp64 (SZ_bd hw bl hb) hlim (SZ_bd hw bl hgn)]
    by_cases c2 : SZ T (lsz T C nc tk) nb b * 1000 < lim * SZ T (lsz T C nc tk) nb g
    · rw [show decide (T 0 b = g + 1 ∧ T 1 b = 0 ∧ SZ T (lsz T C nc tk) nb b * 1000 < lim * SZ T (lsz T C nc tk) nb g) = true from decide_eq_true ⟨hg, h, c2⟩] at hq
      exact ⟨fun h => absurd c2 h, fun _ => hq⟩
    · rw [show decide (T 0 b = g + 1 ∧ T 1 b = 0 ∧ SZ T (lsz T C nc tk) nb b * 1000 < lim * SZ T (lsz T C nc tk) nb g) = false from decide_eq_false (fun h2 => c2 h2.2.2)] at hq
      exact ⟨fun _ => hq, fun h => absurd c2 h⟩
/-- how many small ones there are among g + 1 .. g + j -/
def smN (P : Nat → Bool) (a : Nat) : Nat → Nat
  | 0 => 0
  | j + 1 => smN P a j + if P (a + j) then 1 else 0
theorem countX {M : sy_M} {p nb d g lim : Nat} {T V : Nat → Nat → Nat} {S : Nat → Nat} {Q : Int32 → sy_M → Prop} (hw : wfT nb T V) (hgn : g < nb) (hn : M p 0 = nI nb) (h12 : ∀ b, b < nb → M (p + 1) b = pm (T 0 b) ∧ M (p + 2) b = pm (T 1 b)) (h8 : M (p + 8) g = nI lim) (hlim : lim ≤ 999) (hd : M 9 0 = nI d) (hd0 : 0 < d) (hd2 : d < 2 ^ 20)
    (hS : ∀ c, c < nb → S c ≤ 39999960 ∧ M 16 ((d - 1) % 50 * 40 + c) = nI (S c)) (hq : Q (nI (smN (smB T S lim g) (g + 1) (nb - (g + 1)))) M) : wX3_countSmall M p (nI g) Q := by
  have hnb := hw.1
  have key : ∀ r j, g + 1 + j + r = nb → wX3_countSmall_7 Q (r + 1) M p (nI g) (nI (smN (smB T S lim g) (g + 1) j)) (nI (g + 1 + j)) := by
    intro r
    induction r with
    | zero =>
      intro j hj
      rw [wX3_countSmall_7, hn]
      have : nI nb ≤ nI (g + 1 + j) := nI_le (by omega) (by omega)
      rw [show nb - (g + 1) = j by omega] at hq
      exact ⟨fun _ => hq, fun h => absurd this h⟩
    | succ r ih =>
      intro j hj
      rw [wX3_countSmall_7, hn]
      have e1 : ¬ nI nb ≤ nI (g + 1 + j) := nI_ge (by omega) (by omega)
      simp only [e1, false_implies, true_implies, not_false_eq_true, true_and]
      have hc : g + 1 + j < nb := by omega
      have ht := hw.2.2.1 (g + 1 + j) hc (by omega)
      rw [ex_nI (show g + 1 + j < 40 by omega) (by omega), (h12 _ hc).1, pm_nI (by omega) (by omega), nI_1]
      have hs := ih (j + 1) (by omega)
      rw [smN] at hs
      refine ⟨fun h => ?_, fun h => ?_⟩
      · rw [show smB T S lim g (g + 1 + j) = false from decide_eq_false (fun h2 => h h2.1)] at hs
        exact hs
      · rw [isSmallX hw hc h hgn hn (h12 _ hc).1 (h12 _ hc).2 h8 hlim hd hd0 hd2 hS, nI_1]
        by_cases c2 : smB T S lim g (g + 1 + j) = true
        · rw [c2] at hs ⊢
          simp only [if_true, i10, false_implies, true_implies, not_false_eq_true, true_and]
          exact hs
        · have c2 : smB T S lim g (g + 1 + j) = false := by simpa using c2
          rw [c2] at hs ⊢
          simp only [Bool.false_eq_true, if_false, not_true_eq_false, false_implies, true_implies, and_true]
          exact hs
  refine ⟨nb - (g + 1) + 1, ?_⟩
  have := key (nb - (g + 1)) 0 (by omega)
  rw [nI_1]
  exact this
theorem countZ {M : sy_M} {nb nc g lim tk : Nat} {T V C : Nat → Nat → Nat} {KZ : sy_M → Int32 → Int32 → Int32 → Prop} {Q : sy_M → Prop} (hw : wfT nb T V) (hbd : bdC nb nc T C) (hM : szZ nb nc T C M) (htk : tk ≤ 999) (hgn : g < nb) (h14 : M 14 g = nI lim) (hlim : lim ≤ 999)
    (hq : KZ M (nI g) (nI tk) (nI (smN (smB T (SZ T (lsz T C nc tk) nb) lim g) (g + 1) (nb - (g + 1))))) : ∃ n, wX12_findItems_7 KZ Q n M (nI g) (nI tk) 0 (nI g + 1) := by
  have hnb := hw.1
  have key : ∀ r j, g + 1 + j + r = nb → wX12_findItems_7 KZ Q (r + 1) M (nI g) (nI tk) (nI (smN (smB T (SZ T (lsz T C nc tk) nb) lim g) (g + 1) j)) (nI (g + 1 + j)) := by
    intro r
    induction r with
    | zero =>
      intro j hj
      rw [wX12_findItems_7, hM.1]
      have : nI nb ≤ nI (g + 1 + j) := nI_le (by omega) (by omega)
      rw [show nb - (g + 1) = j by omega] at hq
      exact ⟨fun _ => hq, fun h => absurd this h⟩
    | succ r ih =>
      intro j hj
      rw [wX12_findItems_7, hM.1]
      have e1 : ¬ nI nb ≤ nI (g + 1 + j) := nI_ge (by omega) (by omega)
      simp only [e1, false_implies, true_implies, not_false_eq_true, true_and]
      have hc : g + 1 + j < nb := by omega
      have ht := hw.2.2.1 (g + 1 + j) hc (by omega)
      rw [ex_nI (show g + 1 + j < 82 by omega) (by omega), (hM.2.2.1 _ hc).1, pm_nI (by omega) (by omega), nI_1]
      have hs := ih (j + 1) (by omega)
      rw [smN] at hs
      refine ⟨fun h => ?_, fun h => ?_⟩
      · rw [show smB T (SZ T (lsz T C nc tk) nb) lim g (g + 1 + j) = false from decide_eq_false (fun h2 => h h2.1)] at hs
        exact hs
      · refine isSmallZ hw hbd hM htk hc h hgn h14 hlim ?_
        rw [nI_1]
        by_cases c2 : smB T (SZ T (lsz T C nc tk) nb) lim g (g + 1 + j) = true
        · rw [c2] at hs ⊢
          simp only [if_true, i10, false_implies, true_implies, not_false_eq_true, true_and]
          exact hs
        · have c2 : smB T (SZ T (lsz T C nc tk) nb) lim g (g + 1 + j) = false := by simpa using c2
          rw [c2] at hs ⊢
          simp only [Bool.false_eq_true, if_false, not_true_eq_false, false_implies, true_implies, and_true]
          exact hs
  refine ⟨nb - (g + 1) + 1, ?_⟩
  have := key (nb - (g + 1)) 0 (by omega)
  rw [nI_1]
  exact this
