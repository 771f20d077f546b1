/-! a GROUP is drawn: the reference -/
def frGZ (d : Nat) (M M' : sy_M) : Prop := (∀ q, 1 ≤ q → q ≤ 15 → M' q = M q) ∧ M' 25 = M 25 ∧ M' 31 = M 31 ∧ (∀ k, k ≠ 30 → M' 0 k = M 0 k) ∧ ∀ q, 26 ≤ q → q ≤ 31 → ∀ i, (i < 41 * (d % 51) ∨ 41 * (d % 51) + 41 ≤ i) → M' q i = M q i
theorem showsZ {M : sy_M} {m b d nb tg : Nat} {bx : Nat → Nat} {P G : Nat → Nat → Nat} {Q : sy_M → Prop} (hm8 : m ≤ 8) (h30 : M 0 30 = nI m) (hnb : nb ≤ 40) (hb : b < nb) (hbx : ∀ i, i < m → bx i ≤ nb ∧ M 16 i = pm (bx i) ∧ (bx i = 0 ↔ tg ≠ 0 ∧ i + 1 = m)) (hpl : plZ P m M) (hG : gZ (d % 51) nb G M)
    (hq : ∀ M', gZ (d % 51) nb (shG bx P G m) M' → (tg ≠ 0 → 0 < m → M' 36 b = nI (P 0 (m - 1)) ∧ M' 37 b = nI (P 1 (m - 1)) ∧ M' 38 b = nI (P 2 (m - 1)) ∧ M' 39 b = nI (P 3 (m - 1))) → (∀ q, (q < 26 ∨ (30 < q ∧ q < 36) ∨ 39 < q) → M' q = M q) → (∀ q, 26 ≤ q → q ≤ 31 → ∀ i, (i < 41 * (d % 51) ∨ 41 * (d % 51) + 41 ≤ i) → M' q i = M q i) → (∀ q, 36 ≤ q → q ≤ 39 → ∀ c, c ≠ b → M' q c = M q c) → Q M') : ∃ n, wX12_drawGroup_185 Q n M (nI b) (nI (41 * (d % 51))) (nI 0) := by
  have md : d % 51 < 51 := Nat.mod_lt _ (by omega)
  have key : ∀ r i M1, i + r = m → gZ (d % 51) nb (shG bx P G i) M1 → (tg ≠ 0 → 0 < m → i = m → M1 36 b = nI (P 0 (m - 1)) ∧ M1 37 b = nI (P 1 (m - 1)) ∧ M1 38 b = nI (P 2 (m - 1)) ∧ M1 39 b = nI (P 3 (m - 1))) → (∀ q, (q < 26 ∨ (30 < q ∧ q < 36) ∨ 39 < q) → M1 q = M q) → (∀ q, 26 ≤ q → q ≤ 31 → ∀ i, (i < 41 * (d % 51) ∨ 41 * (d % 51) + 41 ≤ i) → M1 q i = M q i) → (∀ q, 36 ≤ q → q ≤ 39 → ∀ c, c ≠ b → M1 q c = M q c) → wX12_drawGroup_185 Q (r + 1) M1 (nI b) (nI (41 * (d % 51))) (nI i) := by
    intro r
    induction r with
    | zero =>
      intro i M1 hi h1 h2 h3 h4 h5
      have : i = m := by omega
      subst this
      rw [wX12_drawGroup_185, h3 0 (by omega), h30]
      have : nI i ≤ nI i := nI_le (Nat.le_refl _) (by omega)
      exact ⟨fun _ => hq M1 h1 (fun z1 z2 => h2 z1 z2 rfl) h3 h4 h5, fun h => absurd this h⟩
    | succ r ih =>
      intro i M1 hi h1 h2 h3 h4 h5
      rw [wX12_drawGroup_185, h3 0 (by omega), h30]
      have e1 : ¬ nI m ≤ nI i := nI_ge (by omega) (by omega)
      simp only [e1, false_implies, true_implies, not_false_eq_true, true_and]
      obtain ⟨b1, b2, b3⟩ := hbx i (by omega)
      have pl : M1 18 i = nI (P 0 i) ∧ M1 19 i = nI (P 1 i) ∧ M1 20 i = nI (P 2 i) ∧ M1 21 i = nI (P 3 i) := by
        rw [h3 18 (by omega), h3 19 (by omega), h3 20 (by omega), h3 21 (by omega)]
        exact hpl i (by omega)
      rw [ex_nI (show i < 9 by omega) (by omega), h3 16 (by omega), b2, pm_m1 (by omega), pl.1, pl.2.1, pl.2.2.1, pl.2.2.2, nI_1]
      refine ⟨fun hb0 => ?_, fun hb0 => ?_⟩
      · obtain ⟨c, hc⟩ : ∃ c, bx i = c + 1 := ⟨bx i - 1, by omega⟩
        rw [hc, pm_s, nI_add, ex_nI (show 41 * (d % 51) + c < 2091 by omega) (by omega), nar01 (Or.inr rfl)]
        refine ih (i + 1) _ (by omega) (fun c2 hc2 => ?_) (fun z1 z2 z3 => absurd hb0 (by rw [Classical.not_not]; exact b3.mpr ⟨z1, z3⟩)) (fun q q1 => ?_) (fun q q1 q2 j q3 => ?_) (fun q q1 q2 c2 q3 => ?_)
        · rw [shG, if_neg hb0]
          obtain ⟨g1, g2, g3⟩ := h1 c2 hc2
          by_cases hcc : c2 = c
          · subst hcc
            simp only [hc, if_true, if_pos rfl, if_neg (show ¬ (5 : Nat) = 0 by omega), if_neg (show ¬ (1 : Nat) = 0 by omega), if_neg (show ¬ (1 : Nat) = 5 by omega), if_neg (show ¬ (2 : Nat) = 0 by omega), if_neg (show ¬ (2 : Nat) = 5 by omega), if_neg (show ¬ (3 : Nat) = 0 by omega), if_neg (show ¬ (3 : Nat) = 5 by omega), if_neg (show ¬ (4 : Nat) = 0 by omega), if_neg (show ¬ (4 : Nat) = 5 by omega)]
            refine ⟨?_, ?_, fun _ => ⟨?_, ?_, ?_, ?_⟩⟩
            · rw [mu_n1 _ _ _ _ (by omega), mu_n1 _ _ _ _ (by omega), mu_n1 _ _ _ _ (by omega), mu_n1 _ _ _ _ (by omega)]
              exact mu_eq _ _ _ _
            · rw [mu_n1 _ _ _ _ (by omega), mu_n1 _ _ _ _ (by omega), mu_n1 _ _ _ _ (by omega), mu_n1 _ _ _ _ (by omega), mu_n1 _ _ _ _ (by omega)]
              exact g2
            · rw [mu_n1 _ _ _ _ (by omega), mu_n1 _ _ _ _ (by omega), mu_n1 _ _ _ _ (by omega)]
              exact mu_eq _ _ _ _
            · rw [mu_n1 _ _ _ _ (by omega), mu_n1 _ _ _ _ (by omega)]
              exact mu_eq _ _ _ _
            · rw [mu_n1 _ _ _ _ (by omega)]
              exact mu_eq _ _ _ _
            · exact mu_eq _ _ _ _
          · have hne : ¬ c2 + 1 = bx i := by omega
            have hno : ∀ v0 v1 v2 v3 v4 q, mu (mu (mu (mu (mu M1 26 (41 * (d % 51) + c) v0) 27 (41 * (d % 51) + c) v1) 28 (41 * (d % 51) + c) v2) 29 (41 * (d % 51) + c) v3) 30 (41 * (d % 51) + c) v4 q (41 * (d % 51) + c2) = M1 q (41 * (d % 51) + c2) := by
              intro v0 v1 v2 v3 v4 q
              rw [mu_n2 _ _ _ _ (by omega), mu_n2 _ _ _ _ (by omega), mu_n2 _ _ _ _ (by omega), mu_n2 _ _ _ _ (by omega), mu_n2 _ _ _ _ (by omega)]
            rw [hno, hno, hno, hno, hno, hno]
            simp only [if_neg hne]
            exact ⟨g1, g2, g3⟩
        · rw [mu_oth (by omega), mu_oth (by omega), mu_oth (by omega), mu_oth (by omega), mu_oth (by omega)]
          exact h3 q q1
        · rw [mu_n2 _ _ _ _ (by omega), mu_n2 _ _ _ _ (by omega), mu_n2 _ _ _ _ (by omega), mu_n2 _ _ _ _ (by omega), mu_n2 _ _ _ _ (by omega)]
          exact h4 q q1 q2 j q3
        · rw [mu_n1 _ _ _ _ (by omega), mu_n1 _ _ _ _ (by omega), mu_n1 _ _ _ _ (by omega), mu_n1 _ _ _ _ (by omega), mu_n1 _ _ _ _ (by omega)]
          exact h5 q q1 q2 c2 q3
      · have him := (b3.mp hb0).2
        rw [ex_nI (show b < 41 by omega) (by omega)]
        refine ih (i + 1) _ (by omega) ?_ (fun z1 z2 z3 => ?_) (fun q q1 => ?_) (fun q q1 q2 j q3 => ?_) (fun q q1 q2 c q3 => ?_)
        · rw [shG, if_pos hb0]
          refine h1.cg (fun q q1 q2 c hc => ?_)
          rw [mu_n1 _ _ _ _ (by omega), mu_n1 _ _ _ _ (by omega), mu_n1 _ _ _ _ (by omega), mu_n1 _ _ _ _ (by omega)]
        · rw [show m - 1 = i by omega]
          simp [mu_ap]
        · rw [mu_oth (by omega), mu_oth (by omega), mu_oth (by omega), mu_oth (by omega)]
          exact h3 q q1
        · rw [mu_n1 _ _ _ _ (by omega), mu_n1 _ _ _ _ (by omega), mu_n1 _ _ _ _ (by omega), mu_n1 _ _ _ _ (by omega)]
          exact h4 q q1 q2 j q3
        · rw [mu_n2 _ _ _ _ q3, mu_n2 _ _ _ _ q3, mu_n2 _ _ _ _ q3, mu_n2 _ _ _ _ q3]
          exact h5 q q1 q2 c q3
  refine ⟨m + 1, key m 0 M (by omega) hG (fun z1 z2 z3 => absurd z2 (by omega)) (fun _ _ => rfl) (fun _ _ _ _ _ => rfl) (fun _ _ _ _ _ => rfl)⟩
theorem drawGroupZ {M : sy_M} {nb nc d b lim opn pr tk : Nat} {T V C : Nat → Nat → Nat} {S : Nat → Nat} {Gp G R : Nat → Nat → Nat} {σ : itS} {β : Nat → Bool} {Q : sy_M → Prop} (hw : wfT nb T V) (hbd : bdC nb nc T C) (hb : b < nb) (hg : T 1 b ≠ 0) (hM : szZ nb nc T C M) (htk : tk ≤ 999) (h14 : M 14 b = nI lim) (hlim : lim ≤ 999) (h15 : M 15 b = nI opn) (hopn : opn ≤ 1) (h7 : M 7 b = nI (T 6 b)) (h6 : M 6 b = pm (T 1 b)) (hS : S = SZ T (lsz T C nc tk) nb) (hσ : σ = sig T S nb lim opn b) (hpr : prZ d nb Gp M) (h3 : M 0 3 = nI pr) (hpr2 : pr ≤ 1000) (hG : gZ (d % 51) nb G M) (hGB : gB nb G) (hG0 : G 0 b = 1) (hR : rZ b T R M) (hok : okB σ (T 1 b - 1) G b β)
    (hq : ∀ M', gZ (d % 51) nb (sG σ (T 1 b - 1) pr d Gp G b β) M' → rZ (b + 1) T (sR σ (T 1 b - 1) pr d Gp G b β (tgN T S nb lim opn b) R) M' → frGZ d M M' → Q M') : wX12_drawGroup M (nI b) (nI (41 * (d % 51))) (nI tk) Q := by
  have hnb := hw.1
  have md : d % 51 < 51 := Nat.mod_lt _ (by omega)
  have hT1 := (hw.2.2.2.1 b hb).1
  have hall := sig_all (lim := lim) (opn := opn) hw hb hg hS
  rw [← hσ] at hall
  obtain ⟨⟨hm1, hm8⟩, hsum, hbx, hrs, -, htg8⟩ := hall
  obtain ⟨hd, -, hgBp, h9, hprev⟩ := id hpr
  obtain ⟨g1, g2, g3⟩ := hG b hb
  obtain ⟨q1, q2, q3, q4⟩ := g3 hG0
  obtain ⟨xw, yh⟩ := (hGB b hb).2.2 hG0
  have hSbb : S b ≤ 39999960 := by rw [hS]; exact SZ_bd hw (lsz_bd hw hbd) hb
  unfold wX12_drawGroup
  rw [nI_add, ex_nI (show 41 * (d % 51) + b < 2091 by omega) (by omega), q1, q2, q3, q4]
  refine findZ hw hbd hb hM htk h14 hlim h15 hopn h7 (fun M2 sm σ' S' hS' hsm hσ' hit h34 h35 hah hfr hf0 hf34 => ?_)
  have eS : S' = S := by rw [hS', hS]
  subst eS
  have es : σ' = σ := by rw [hσ', hσ, hsm]; rfl
  subst es
  have etg : togN opn sm = tgN T S' nb lim opn b := by rw [hsm]; rfl
  have ers : (itsP T S' (decide (togN opn sm ≠ 0)) (smB T S' lim b) (decide (T 6 b ≠ 0)) b (nb - (b + 1))).2 = rsz T S' nb lim opn b := by rw [hsm]; rfl
  rw [ers, etg] at h35
  rw [etg] at h34
  have gle : ∀ i, i < σ'.1 → σ'.2.2 i ≤ 39999960 := fun i hi => by
    have := rs_le_mem σ'.2.2 0 σ'.1 i hi
    unfold ahd at hsum
    rw [Nat.zero_add] at this
    omega
  have hi2 : inZ σ'.1 σ'.2.2 M2 := ⟨hm1, hit.1, fun i hi => ⟨by have := gle i hi; omega, (hit.2 i hi).2⟩, hm8, by omega, hah⟩
  rw [ex_nI (show b < 82 by omega) (by omega), hfr 6 (by omega) (by omega) (by omega) (by omega) (by omega) (by omega), h6]
  obtain ⟨how, hhow⟩ : ∃ how, T 1 b = how + 1 := ⟨T 1 b - 1, by omega⟩
  rw [hhow, Nat.add_sub_cancel] at hok hq
  rw [hhow, pm_s, nI_eq (by omega) (by omega)]
  have bd : ∀ k i, i < σ'.1 → PK σ'.2.2 σ'.1 (G 1 b) (G 2 b) (G 3 b) (G 4 b) β k 0 i + PK σ'.2.2 σ'.1 (G 1 b) (G 2 b) (G 3 b) (G 4 b) β k 2 i ≤ 3000 ∧ PK σ'.2.2 σ'.1 (G 1 b) (G 2 b) (G 3 b) (G 4 b) β k 1 i + PK σ'.2.2 σ'.1 (G 1 b) (G 2 b) (G 3 b) (G 4 b) β k 3 i ≤ 3000 := fun k i hi => by
    have := PK_bd σ'.2.2 (x := G 1 b) (y := G 2 b) (w := G 3 b) (h := G 4 b) β k i (by omega) hm8 hi
    omega
  -- what was chosen is laid and shown
  have fin : ∀ k M3, k ≤ 2 → (ahd σ'.2.2 σ'.1 ≠ 0 → k = sK σ' how pr d Gp G b β) → (k = 1 → how = 1 ∨ how = 3) → frZ M2 M3 → wX12_drawGroup_134 Q M3 (nI b) (nI (41 * (d % 51))) (nI (G 1 b)) (nI (G 2 b)) (nI (G 3 b)) (nI (G 4 b)) (nI k) := by
    intro k M3 hk2 hk hkh hf3
    unfold wX12_drawGroup_134
    refine laysZ (β := β) (hi2.fr hf3) xw yh hk2 (fun z1 z2 => hok z1 (hkh z2)) (fun M4 p1 p2 => ?_)
    have f4 : frZ M2 M4 := fun q z1 z2 z3 z4 z5 z6 => by rw [p2 q z1 z2 z3 z4 z5 z6]; exact hf3 q z1 z2 z3 z4 z5 z6
    have hi4 := hi2.fr f4
    have eP : PK σ'.2.2 σ'.1 (G 1 b) (G 2 b) (G 3 b) (G 4 b) β k = sP σ' how pr d Gp G b β := by
      unfold sP
      by_cases z : ahd σ'.2.2 σ'.1 = 0
      · unfold PK; rw [if_pos z, if_pos z]
      · rw [← hk z]
    rw [hi4.2.1, show (0 : Int32) = nI 0 from rfl, sumZ hi4.2.2.2 (by omega) (Nat.le_refl _), show ahd σ'.2.2 0 = 0 from rfl, Nat.sub_zero, nI_eq (by omega) (by omega)]
    have tail : ∀ k', k' = sK σ' how pr d Gp G b β → wX12_drawGroup_171 Q M4 (nI b) (nI (41 * (d % 51))) (nI b) (nI k') := by
      intro k' hk'
      unfold wX12_drawGroup_171
      rw [ex_nI (show b < 41 by omega) (by omega)]
      refine worstZ2 (m := σ'.1) (g := σ'.2.2) (r := sP σ' how pr d Gp G b β) (by rw [mu_n1 _ _ _ _ (by omega)]; exact hi4.2.1) hm8 (fun i hi => by rw [mu_n1 _ _ _ _ (by omega)]; exact hi4.2.2.1 i hi) (fun i hi => by rw [← eP]; have := bd k i hi; omega) (fun i hi => by rw [mu_n1 _ _ _ _ (by omega), mu_n1 _ _ _ _ (by omega), mu_n1 _ _ _ _ (by omega), mu_n1 _ _ _ _ (by omega), ← eP]; exact p1 i hi) ?_
      rw [ex_nI (show b < 41 by omega) (by omega)]
      have f4' : ∀ q, (q < 16 ∨ 24 < q) → M4 q = M2 q := fun q z => f4 q (by omega) (by omega) (by omega) (by omega) (by omega) (by omega)
      have o2 : ∀ v0 v1 q, q ≠ 32 → q ≠ 33 → mu (mu M4 32 b v0) 33 b v1 q = M4 q := fun v0 v1 q z1 z2 => by rw [mu_oth z2, mu_oth z1]
      refine showsZ (tg := tgN T S' nb lim opn b) (bx := σ'.2.1) (P := sP σ' how pr d Gp G b β) (G := G) hm8 (by rw [o2 _ _ 0 (by omega) (by omega)]; exact hi4.2.1) hnb hb (fun i hi => ⟨(hbx i hi).1, by rw [o2 _ _ 16 (by omega) (by omega), f4 16 (by omega) (by omega) (by omega) (by omega) (by omega) (by omega)]; exact (hit.2 i hi).1, (hbx i hi).2⟩) (fun i hi => by rw [o2 _ _ 18 (by omega) (by omega), o2 _ _ 19 (by omega) (by omega), o2 _ _ 20 (by omega) (by omega), o2 _ _ 21 (by omega) (by omega), ← eP]; exact p1 i hi) (hG.cg (fun p z1 z2 c _ => by rw [o2 _ _ p (by omega) (by omega), f4' p (by omega), hfr p (by omega) (by omega) (by omega) (by omega) (by omega) (by omega)])) (fun M5 s1 s2 s3 s4 s5 => ?_)
      have f5 : ∀ q, (q < 16 ∨ q = 25 ∨ q = 31) → M5 q = M2 q := fun q z => by rw [s3 q (by omega), o2 _ _ q (by omega) (by omega), f4' q (by omega)]
      refine hq M5 s1 (fun c hc hgc => ?_) ⟨fun q z1 z2 => ?_, ?_, ?_, fun k z => ?_, fun q z1 z2 i z3 => ?_⟩
      · unfold sR upR
        rw [← hk']
        by_cases hcb : c = b
        · subst hcb
          simp only [if_pos rfl, if_neg (show ¬ (1 : Nat) = 0 by omega), if_neg (show ¬ (2 : Nat) = 0 by omega), if_neg (show ¬ (2 : Nat) = 1 by omega), if_neg (show ¬ (3 : Nat) = 0 by omega), if_neg (show ¬ (3 : Nat) = 1 by omega), if_neg (show ¬ (3 : Nat) = 2 by omega), if_neg (show ¬ (3 : Nat) = 7 by omega), if_neg (show ¬ (4 : Nat) = 0 by omega), if_neg (show ¬ (4 : Nat) = 1 by omega), if_neg (show ¬ (4 : Nat) = 2 by omega), if_neg (show ¬ (4 : Nat) = 7 by omega), if_neg (show ¬ (5 : Nat) = 0 by omega), if_neg (show ¬ (5 : Nat) = 1 by omega), if_neg (show ¬ (5 : Nat) = 2 by omega), if_neg (show ¬ (5 : Nat) = 7 by omega), if_neg (show ¬ (6 : Nat) = 0 by omega), if_neg (show ¬ (6 : Nat) = 1 by omega), if_neg (show ¬ (6 : Nat) = 2 by omega), if_neg (show ¬ (6 : Nat) = 7 by omega), if_neg (show ¬ (7 : Nat) = 0 by omega), if_neg (show ¬ (7 : Nat) = 1 by omega), if_neg (show ¬ (7 : Nat) = 2 by omega)]
          refine ⟨?_, ?_, ?_, fun htz => ?_⟩
          · rw [s3 32 (by omega), mu_n1 _ _ _ _ (by omega)]; exact mu_eq _ _ _ _
          · rw [s3 33 (by omega)]; exact mu_eq _ _ _ _
          · rw [s3 34 (by omega), o2 _ _ 34 (by omega) (by omega), f4' 34 (by omega)]; exact h34
          · obtain ⟨u1, u2, u3, u4⟩ := s2 htz (by omega)
            refine ⟨u1, u2, u3, u4, ?_⟩
            rw [s3 35 (by omega), o2 _ _ 35 (by omega) (by omega), f4' 35 (by omega), hrs htz]
            exact h35 htz
        · simp only [if_neg hcb]
          have o3 : ∀ q, (q = 32 ∨ q = 33) → M5 q c = M q c := fun q z => by
            rw [s3 q (by omega), mu_n2 _ _ _ _ hcb, mu_n2 _ _ _ _ hcb, f4' q (by omega), hfr q (by omega) (by omega) (by omega) (by omega) (by omega) (by omega)]
          have o4 : ∀ q, 36 ≤ q → q ≤ 39 → M5 q c = M q c := fun q z1 z2 => by
            rw [s5 q z1 z2 c hcb, o2 _ _ q (by omega) (by omega), f4' q (by omega), hfr q (by omega) (by omega) (by omega) (by omega) (by omega) (by omega)]
          have o5 : M5 34 c = M 34 c := by rw [s3 34 (by omega), o2 _ _ 34 (by omega) (by omega), f4' 34 (by omega)]; exact (hf34 c hcb).1
          have o6 : M5 35 c = M 35 c := by rw [s3 35 (by omega), o2 _ _ 35 (by omega) (by omega), f4' 35 (by omega)]; exact (hf34 c hcb).2
          rw [o3 32 (by omega), o3 33 (by omega), o5, o6, o4 36 (by omega) (by omega), o4 37 (by omega) (by omega), o4 38 (by omega) (by omega), o4 39 (by omega) (by omega)]
          exact hR c (by omega) hgc
      · rw [f5 q (by omega), hfr q (by omega) (by omega) (by omega) (by omega) (by omega) (by omega)]
      · rw [f5 25 (by omega), hfr 25 (by omega) (by omega) (by omega) (by omega) (by omega) (by omega)]
      · rw [f5 31 (by omega), hfr 31 (by omega) (by omega) (by omega) (by omega) (by omega) (by omega)]
      · rw [f5 0 (by omega)]; exact hf0 k z
      · rw [s4 q z1 z2 i z3, o2 _ _ q (by omega) (by omega), f4' q (by omega), hfr q (by omega) (by omega) (by omega) (by omega) (by omega) (by omega)]
    refine ⟨fun hz => tail k (hk hz), fun hz => tail 0 ?_⟩
    unfold sK
    rw [if_pos hz]
  refine ⟨fun hn3 => fin how M2 (by omega) (fun hz => ?_) (fun e => Or.inl e) (fun _ _ _ _ _ _ _ => rfl), fun h3e => ?_⟩
  · unfold sK pik
    rw [if_neg hz, if_pos (by omega)]
  · subst h3e
    have one : ∀ (K : Int32 → sy_M → Int32 → sy_M → Prop) k M3, k ≤ 2 → frZ M2 M3 → (∀ M4, frZ M2 M4 → K (nI (wsN σ'.2.2 (PK σ'.2.2 σ'.1 (G 1 b) (G 2 b) (G 3 b) (G 4 b) β k) σ'.1)) M4 (nI (mvN d Gp σ'.2.1 (PK σ'.2.2 σ'.1 (G 1 b) (G 2 b) (G 3 b) (G 4 b) β k) σ'.1)) M4) → wX12_lays M3 (nI k) (nI (G 1 b)) (nI (G 2 b)) (nI (G 3 b)) (nI (G 4 b)) (fun M20 => wX12_worst M20 (fun r22 M21 => wX12_moves M21 (fun r24 M23 => K r22 M21 r24 M23))) := by
      intro K k M3 hk hf3 hK
      refine laysZ (β := β) (hi2.fr hf3) xw yh hk (fun z1 z2 => hok z1 (Or.inr rfl)) (fun M4 p1 p2 => ?_)
      have f4 : frZ M2 M4 := fun q z1 z2 z3 z4 z5 z6 => by rw [p2 q z1 z2 z3 z4 z5 z6]; exact hf3 q z1 z2 z3 z4 z5 z6
      have hi4 := hi2.fr f4
      refine worstZ2 hi4.2.1 hm8 hi4.2.2.1 (fun i hi => by have := bd k i hi; omega) p1 ?_
      have f4' : ∀ q, (q < 16 ∨ 24 < q) → M4 q = M2 q := fun q z => f4 q (by omega) (by omega) (by omega) (by omega) (by omega) (by omega)
      refine movesZ (d := d) (nb := nb) (Gp := Gp) (bx := σ'.2.1) hm8 hi4.2.1 (fun i hi => ⟨(hbx i hi).1, by rw [f4 16 (by omega) (by omega) (by omega) (by omega) (by omega) (by omega)]; exact (hit.2 i hi).1⟩) ⟨hd, hnb, hgBp, by rw [f4' 0 (by omega), hf0 40 (by omega)]; exact h9, fun hd0 => (hprev hd0).cg (fun p z1 z2 c _ => by rw [f4' p (by omega), hfr p (by omega) (by omega) (by omega) (by omega) (by omega) (by omega)])⟩ p1 (bd k) (hK M4 f4)
    have cN : ∀ k M4, frZ M2 M4 → nI (wsN σ'.2.2 (PK σ'.2.2 σ'.1 (G 1 b) (G 2 b) (G 3 b) (G 4 b) β k) σ'.1) + (M4 0 3 * nI (mvN d Gp σ'.2.1 (PK σ'.2.2 σ'.1 (G 1 b) (G 2 b) (G 3 b) (G 4 b) β k) σ'.1)) / nI 100 = nI (cst σ'.2.2 σ'.1 pr d Gp σ'.2.1 (PK σ'.2.2 σ'.1 (G 1 b) (G 2 b) (G 3 b) (G 4 b) β k)) := fun k M4 f4 => by
      rw [f4 0 (by omega) (by omega) (by omega) (by omega) (by omega) (by omega), hf0 3 (by omega), h3]
      exact (cst_nI (g := σ'.2.2) (d := d) hm8 hpr2 hgBp (fun i hi => (hbx i hi).1) (bd k)).1
    have cL : ∀ k, cst σ'.2.2 σ'.1 pr d Gp σ'.2.1 (PK σ'.2.2 σ'.1 (G 1 b) (G 2 b) (G 3 b) (G 4 b) β k) < 2147483647 := fun k => (cst_nI (g := σ'.2.2) (d := d) hm8 hpr2 hgBp (fun i hi => (hbx i hi).1) (bd k)).2
    generalize ec0 : cst σ'.2.2 σ'.1 pr d Gp σ'.2.1 (PK σ'.2.2 σ'.1 (G 1 b) (G 2 b) (G 3 b) (G 4 b) β 0) = c0
    have ends : ∀ k M3 (x9 : Int32), k = bst3 (cst σ'.2.2 σ'.1 pr d Gp σ'.2.1 (PK σ'.2.2 σ'.1 (G 1 b) (G 2 b) (G 3 b) (G 4 b) β 0)) (cst σ'.2.2 σ'.1 pr d Gp σ'.2.1 (PK σ'.2.2 σ'.1 (G 1 b) (G 2 b) (G 3 b) (G 4 b) β 1)) (cst σ'.2.2 σ'.1 pr d Gp σ'.2.1 (PK σ'.2.2 σ'.1 (G 1 b) (G 2 b) (G 3 b) (G 4 b) β 2)) → k ≤ 2 → frZ M2 M3 → wX12_drawGroup_66 (fun (M47 : sy_M) (x1_48 : Int32) (x2_49 : Int32) (x4_50 : Int32) (x5_51 : Int32) (x6_52 : Int32) (x7_53 : Int32) (x8_54 : Int32) => wX12_drawGroup_134 Q M47 x1_48 x2_49 x4_50 x5_51 x6_52 x7_53 x8_54) Q 1 M3 (nI b) (nI (41 * (d % 51))) (nI (G 1 b)) (nI (G 2 b)) (nI (G 3 b)) (nI (G 4 b)) (nI k) x9 (nI 3) := by
      intro k M3 x9 hk hk2 hf3
      rw [wX12_drawGroup_66]
      have : nI 3 ≤ nI 3 := by decide
      refine ⟨fun _ => fin k M3 hk2 (fun hz => ?_) (fun _ => Or.inr rfl) hf3, fun h => absurd this h⟩
      unfold sK pik
      rw [if_neg hz, if_neg (by omega)]
      exact hk
    have n30 : ¬ nI 3 ≤ nI 0 := by decide
    have n31 : ¬ nI 3 ≤ nI 1 := by decide
    have n32 : ¬ nI 3 ≤ nI 2 := by decide
    have p0 : nI 0 ≤ 0 := by decide
    have p1 : ¬ nI 1 ≤ 0 := by decide
    have p2 : ¬ nI 2 ≤ 0 := by decide
    have lastz : ∀ l B M3, (l = if cst σ'.2.2 σ'.1 pr d Gp σ'.2.1 (PK σ'.2.2 σ'.1 (G 1 b) (G 2 b) (G 3 b) (G 4 b) β 1) < cst σ'.2.2 σ'.1 pr d Gp σ'.2.1 (PK σ'.2.2 σ'.1 (G 1 b) (G 2 b) (G 3 b) (G 4 b) β 0) then 1 else 0) → (B = if cst σ'.2.2 σ'.1 pr d Gp σ'.2.1 (PK σ'.2.2 σ'.1 (G 1 b) (G 2 b) (G 3 b) (G 4 b) β 1) < cst σ'.2.2 σ'.1 pr d Gp σ'.2.1 (PK σ'.2.2 σ'.1 (G 1 b) (G 2 b) (G 3 b) (G 4 b) β 0) then cst σ'.2.2 σ'.1 pr d Gp σ'.2.1 (PK σ'.2.2 σ'.1 (G 1 b) (G 2 b) (G 3 b) (G 4 b) β 1) else cst σ'.2.2 σ'.1 pr d Gp σ'.2.1 (PK σ'.2.2 σ'.1 (G 1 b) (G 2 b) (G 3 b) (G 4 b) β 0)) → frZ M2 M3 → wX12_drawGroup_66 (fun (M47 : sy_M) (x1_48 : Int32) (x2_49 : Int32) (x4_50 : Int32) (x5_51 : Int32) (x6_52 : Int32) (x7_53 : Int32) (x8_54 : Int32) => wX12_drawGroup_134 Q M47 x1_48 x2_49 x4_50 x5_51 x6_52 x7_53 x8_54) Q 2 M3 (nI b) (nI (41 * (d % 51))) (nI (G 1 b)) (nI (G 2 b)) (nI (G 3 b)) (nI (G 4 b)) (nI l) (nI B) (nI 2) := by
      intro l B M3 hl hB hf3
      have L0 := cL 0
      have L1 := cL 1
      have L2 := cL 2
      have hB2 : B < 2147483647 := by rw [hB]; split <;> omega
      have l2 : l ≤ 2 := by rw [hl]; split <;> omega
      rw [wX12_drawGroup_66]
      refine ⟨fun h => absurd h n32, fun _ => one _ 2 M3 (by omega) hf3 (fun M4 f4 => ⟨fun h => absurd h p2, fun _ => ?_⟩)⟩
      unfold wX12_drawGroup_120
      rw [cN 2 M4 f4, nI_ltI (by omega) (by omega), nI_1]
      have pk : bst3 (cst σ'.2.2 σ'.1 pr d Gp σ'.2.1 (PK σ'.2.2 σ'.1 (G 1 b) (G 2 b) (G 3 b) (G 4 b) β 0)) (cst σ'.2.2 σ'.1 pr d Gp σ'.2.1 (PK σ'.2.2 σ'.1 (G 1 b) (G 2 b) (G 3 b) (G 4 b) β 1)) (cst σ'.2.2 σ'.1 pr d Gp σ'.2.1 (PK σ'.2.2 σ'.1 (G 1 b) (G 2 b) (G 3 b) (G 4 b) β 2)) = if cst σ'.2.2 σ'.1 pr d Gp σ'.2.1 (PK σ'.2.2 σ'.1 (G 1 b) (G 2 b) (G 3 b) (G 4 b) β 2) < B then 2 else l := by
        unfold bst3
        rw [hl, hB]
        by_cases z : cst σ'.2.2 σ'.1 pr d Gp σ'.2.1 (PK σ'.2.2 σ'.1 (G 1 b) (G 2 b) (G 3 b) (G 4 b) β 1) < cst σ'.2.2 σ'.1 pr d Gp σ'.2.1 (PK σ'.2.2 σ'.1 (G 1 b) (G 2 b) (G 3 b) (G 4 b) β 0)
        · rw [if_pos z, if_pos z, if_pos z]
        · rw [if_neg z, if_neg z, if_neg z]
      refine ⟨fun hlt => ends 2 M4 _ ?_ (by omega) f4, fun hge => ends l M4 _ ?_ l2 f4⟩
      · rw [pk, if_pos hlt]
      · rw [pk, if_neg hge]
    refine ⟨4, ?_⟩
    rw [wX12_drawGroup_66, show (0 : Int32) = nI 0 from rfl]
    refine ⟨fun h => absurd h n30, fun _ => one _ 0 M2 (by omega) (fun _ _ _ _ _ _ _ => rfl) (fun M3 f3 => ⟨fun _ => ?_, fun h => absurd p0 h⟩)⟩
    unfold wX12_drawGroup_120
    rw [cN 0 M3 f3, nI_1]
    dsimp only
    rw [wX12_drawGroup_66]
    refine ⟨fun h => absurd h n31, fun _ => one _ 1 M3 (by omega) f3 (fun M4 f4 => ⟨fun h => absurd h p1, fun _ => ?_⟩)⟩
    unfold wX12_drawGroup_120
    have L0 := cL 0
    have L1 := cL 1
    rw [cN 1 M4 f4, nI_ltI (by omega) (by omega), nI_1]
    refine ⟨fun hlt => lastz 1 _ M4 ?_ ?_ f4, fun hge => lastz 0 _ M4 ?_ ?_ f4⟩
    · rw [if_pos hlt]
    · rw [if_pos hlt]
    · rw [if_neg hge]
    · rw [if_neg hge]
