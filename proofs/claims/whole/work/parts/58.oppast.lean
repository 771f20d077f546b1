/-! op_past -/
theorem lt50 {j d : Nat} (hj : j < 2 ^ 20) (hd : d < 2 ^ 20) : nI j < nI d - nI 50 ↔ j + 50 < d := by
  rw [Int32.lt_iff_toInt_lt, nI_toInt (by omega), pk_sub_toInt (by omega) (by omega)]
  omega
theorem keeps_y {M : sy_M} {j d : Nat} {Q : Int32 → sy_M → Prop} (h9 : M 9 0 = nI d) (hd : d < 2 ^ 20) (h1 : j < d) (h2 : d ≤ j + 50) : wX2_keeps M (nI j) Q ↔ Q 1 M := by
  unfold wX2_keeps
  rw [h9, nI_leI (by omega) (by omega), lt50 (by omega) hd]
  simp only [eq_false (nI_pos (show j < 2 ^ 31 by omega)), eq_false (show ¬ d ≤ j by omega), eq_false (show ¬ j + 50 < d by omega), true_implies, not_false_eq_true, false_implies, true_and]
theorem keeps_n {M : sy_M} {d : Nat} {a : Int32} {Q : Int32 → sy_M → Prop} (h9 : M 9 0 = nI d) (hd : d < 2 ^ 20) (h1 : ¬ ∃ j, j < d ∧ d ≤ j + 50 ∧ a = nI j) : wX2_keeps M a Q ↔ Q 0 M := by
  unfold wX2_keeps
  rw [h9]
  by_cases c1 : a < 0
  · simp only [eq_true c1, true_implies, not_true_eq_false, false_implies, and_true]
  · by_cases c2 : nI d ≤ a
    · simp only [eq_false c1, eq_true c2, true_implies, not_false_eq_true, not_true_eq_false, false_implies, true_and, and_true]
    · obtain ⟨j, hj, e⟩ := nI_ofx c1 c2 (by omega)
      subst e
      have c3 : nI j < nI d - nI 50 := by
        rw [lt50 (by omega) hd]
        by_cases z : j + 50 < d
        · exact z
        · exact absurd ⟨j, hj, by omega, rfl⟩ h1
      simp only [eq_false c1, eq_false c2, eq_true c3, true_implies, not_false_eq_true, not_true_eq_false, false_implies, true_and, and_true]
theorem isFrom_y {M : sy_M} {w n : Nat} {Q : Int32 → sy_M → Prop} (hw : w ≤ n) (hn : n < 2 ^ 31) : wX11_isFrom M 0 (nI n) (nI w) Q ↔ Q 1 M := by
  unfold wX11_isFrom
  rw [nI_ltI (by omega) (by omega)]
  simp only [eq_false (nI_pos (show w < 2 ^ 31 by omega)), eq_false (show ¬ n < w by omega), true_implies, not_false_eq_true, false_implies, true_and]
theorem isFrom_n {M : sy_M} {a : Int32} {n : Nat} {Q : Int32 → sy_M → Prop} (hn : n < 2 ^ 31) (h : ¬ ∃ w, w ≤ n ∧ a = nI w) : wX11_isFrom M 0 (nI n) a Q ↔ Q 0 M := by
  unfold wX11_isFrom
  by_cases c1 : a < 0
  · simp only [eq_true c1, true_implies, not_true_eq_false, false_implies, and_true]
  · by_cases c2 : nI n < a
    · simp only [eq_false c1, eq_true c2, true_implies, not_false_eq_true, not_true_eq_false, false_implies, true_and, and_true]
    · obtain ⟨w, -, h2, e⟩ := nI_rng (lo := 0) (hi := n) c1 c2 (by omega) hn
      exact absurd ⟨w, h2, e⟩ h
theorem within_y {M : sy_M} {w n : Nat} {Q : Int32 → sy_M → Prop} (hw : w ≤ n) (hn : n < 2 ^ 31) : wX12_within M (nI w) 0 (nI n) Q ↔ Q 1 M := by
  unfold wX12_within
  rw [nI_ltI (by omega) (by omega)]
  simp only [eq_false (nI_pos (show w < 2 ^ 31 by omega)), eq_false (show ¬ n < w by omega), true_implies, not_false_eq_true, false_implies, true_and]
theorem within_n {M : sy_M} {a : Int32} {n : Nat} {Q : Int32 → sy_M → Prop} (hn : n < 2 ^ 31) (h : ¬ ∃ w, w ≤ n ∧ a = nI w) : wX12_within M a 0 (nI n) Q ↔ Q 0 M := by
  unfold wX12_within
  by_cases c1 : a < 0
  · simp only [eq_true c1, true_implies, not_true_eq_false, false_implies, and_true]
  · by_cases c2 : nI n < a
    · simp only [eq_false c1, eq_true c2, true_implies, not_false_eq_true, not_true_eq_false, false_implies, true_and, and_true]
    · obtain ⟨w, -, h2, e⟩ := nI_rng (lo := 0) (hi := n) c1 c2 (by omega) hn
      exact absurd ⟨w, h2, e⟩ h
theorem pastZ_n {B : sy_M} {d nb : Nat} {a1 a2 a3 : Int32} {W : Int32 → sy_M → Prop} (h13 : B 0 13 = nI nb) (hnb : nb ≤ 40) (h40 : B 0 40 = nI d) (hd : d < 2 ^ 20) (h : ¬ ((∃ b, b < nb ∧ a2 = nI b) ∧ (∃ w, w ≤ 5 ∧ a3 = nI w) ∧ ∃ j, j < d ∧ d ≤ j + 50 ∧ a1 = nI j)) (hW : W 0 (mu (mu B 0 0 0) 0 0 1)) : wX12_past B a1 a2 a3 W := by
  have fin : wX12_past_49 W (mu B 0 0 0) a1 a2 a3 := by
    unfold wX12_past_49 wX12_past_50
    simp only [true_implies, not_true_eq_false, false_implies, and_true]
    unfold wX12_past_67
    simp only [true_implies, not_true_eq_false, false_implies, and_true]
    exact hW
  have e13 : mu B 0 0 0 0 13 = nI nb := by rw [mu_n2 _ _ _ _ (by omega), h13]
  have e40 : mu B 0 0 0 0 40 = nI d := by rw [mu_n2 _ _ _ _ (by omega), h40]
  unfold wX12_past
  by_cases kB : ∃ b, b < nb ∧ a2 = nI b
  · obtain ⟨b, hb, rfl⟩ := kB
    rw [isBox_y e13 hb hnb]
    simp only [i10, true_implies, not_false_eq_true, false_implies, true_and]
    by_cases kT : ∃ w, w ≤ 5 ∧ a3 = nI w
    · obtain ⟨w, hw, rfl⟩ := kT
      rw [within_y hw (by omega)]
      simp only [i10, true_implies, not_false_eq_true, false_implies, true_and]
      rw [e40]
      by_cases c1 : a1 < 0
      · simp only [eq_true c1, true_implies, not_true_eq_false, false_implies, and_true]
        exact fin
      · by_cases c2 : nI d ≤ a1
        · simp only [eq_false c1, eq_true c2, true_implies, not_false_eq_true, not_true_eq_false, false_implies, true_and, and_true]
          exact fin
        · obtain ⟨j, hj, e⟩ := nI_ofx c1 c2 (by omega)
          subst e
          have c3 : nI j < nI d - nI 50 := by
            rw [lt50 (by omega) hd]
            by_cases z : j + 50 < d
            · exact z
            · exact absurd ⟨⟨b, hb, rfl⟩, ⟨w, hw, rfl⟩, j, hj, by omega, rfl⟩ h
          simp only [eq_false c1, eq_false c2, eq_true c3, true_implies, not_false_eq_true, not_true_eq_false, false_implies, true_and, and_true]
          exact fin
    · rw [within_n (by omega) kT]
      simp only [true_implies, not_true_eq_false, false_implies, and_true]
      exact fin
  · rw [isBox_n e13 kB hnb]
    simp only [true_implies, not_true_eq_false, false_implies, and_true]
    exact fin
theorem pastZ_y {B : sy_M} {d nb b w j : Nat} {W : Int32 → sy_M → Prop} (h13 : B 0 13 = nI nb) (hnb : nb ≤ 40) (h40 : B 0 40 = nI d) (hd : d < 2 ^ 20) (hb : b < nb) (hw : w ≤ 5) (h1 : j < d) (h2 : d ≤ j + 50) (hW : wX12_past_67 W (mu B 0 0 0) (nI j) (nI w) 1 (nI (41 * (j % 51) + b))) : wX12_past B (nI j) (nI b) (nI w) W := by
  have e13 : mu B 0 0 0 0 13 = nI nb := by rw [mu_n2 _ _ _ _ (by omega), h13]
  have e40 : mu B 0 0 0 0 40 = nI d := by rw [mu_n2 _ _ _ _ (by omega), h40]
  unfold wX12_past
  rw [isBox_y e13 hb hnb]
  simp only [i10, true_implies, not_false_eq_true, false_implies, true_and]
  rw [within_y hw (by omega)]
  simp only [i10, true_implies, not_false_eq_true, false_implies, true_and]
  rw [e40, nI_leI (by omega) (by omega), lt50 (by omega) hd]
  simp only [eq_false (nI_pos (show j < 2 ^ 31 by omega)), eq_false (show ¬ d ≤ j by omega), eq_false (show ¬ j + 50 < d by omega), true_implies, not_false_eq_true, false_implies, true_and]
  unfold wX12_past_50
  simp only [i10, true_implies, not_false_eq_true, false_implies, true_and]
  rw [rowOf_y (by omega), nI_add]
  exact hW
theorem op_past {cn : Nat} {A B : sy_M} (hcn : cn < 2 ^ 20) (h : Rel cn A B) (a1 a2 a3 : Int32) {F : sy_M → sy_M → Prop} (hF : ∀ A' B', Rel cn A' B' → F A' B') :
    wX11_past A a1 a2 a3 (fun r A' => wX12_past B a1 a2 a3 (fun r' B' => B' 0 0 = 0 ∧ r = r' ∧ F A' B')) (fun A' => wX12_past B a1 a2 a3 (fun _ B' => B' 0 0 = 1 ∧ F A' B')) := by
  have f0 : F A (mu B 0 0 0) := hF _ _ h.z0
  have f1 : F A (mu (mu B 0 0 0) 0 0 1) := hF _ _ h.z0.z0
  obtain ⟨t, nb, nc, d, n, T, V, L, C, G, K, R, hQ, hw, hT, hL, hC, hd, hD, hP, hS⟩ := h
  obtain ⟨q1, q2, q3, q4⟩ := hQ.t
  have hnb := hw.1
  obtain ⟨hD1, hD2, hD3, hD4, hD5⟩ := hD
  have bad : ¬ ((∃ b, b < nb ∧ a2 = nI b) ∧ (∃ w, w ≤ 5 ∧ a3 = nI w) ∧ ∃ j, j < d ∧ d ≤ j + 50 ∧ a1 = nI j) → wX12_past B a1 a2 a3 (fun _ B' => B' 0 0 = 1 ∧ F A B') := fun z =>
    pastZ_n hT.2.1 hnb hD2 (by omega) z ⟨mu_eq _ _ _ _, f1⟩
  unfold wX11_past
  by_cases kD : ∃ j, j < d ∧ d ≤ j + 50 ∧ a1 = nI j
  · obtain ⟨j, h1, h2, rfl⟩ := kD
    rw [keeps_y hD1 (by omega) h1 h2]
    simp only [i10, true_implies, not_false_eq_true, false_implies, true_and]
    rw [ex_t q1 q2]
    by_cases kB : ∃ b, b < nb ∧ a2 = nI b
    · obtain ⟨b, hb, rfl⟩ := kB
      rw [has_y hT.1 hb hnb]
      simp only [i10, true_implies, not_false_eq_true, false_implies, true_and]
      by_cases kT : ∃ w, w ≤ 5 ∧ a3 = nI w
      · obtain ⟨w, hw5, rfl⟩ := kT
        rw [isFrom_y hw5 (by omega)]
        simp only [i10, true_implies, not_false_eq_true, false_implies, and_true]
        obtain ⟨⟨g1, g2, g3⟩, gG⟩ := hD4 j h1 h2
        obtain ⟨⟨s1, s2, s3⟩, ⟨z1, z2, z3⟩, ss⟩ := gG b hb
        have hj50 : j % 50 < 50 := Nat.mod_lt _ (by omega)
        have hj51 : j % 51 < 51 := Nat.mod_lt _ (by omega)
        have me : ∀ q c, q ≠ 0 → mu B 0 0 0 q c = B q c := fun q c hq => mu_n1 _ _ _ _ hq
        have e00 : mu B 0 0 0 0 0 = 0 := mu_eq _ _ _ _
        rw [cell_y (by omega), nI_eq (by omega) (by omega), nI_eq (by omega) (by omega)]
        by_cases w5 : w = 5
        · subst w5
          simp only [true_implies, not_true_eq_false, false_implies, true_and]
          rw [pk_rem (by omega) (by omega) (by omega), ex_nI hj50 (by omega)]
          refine pastZ_y hT.2.1 hnb hD2 (by omega) hb (by omega) h1 h2 ?_
          unfold wX12_past_67
          rw [nI_leI (by omega) (by omega)]
          simp only [i10, eq_true (show 4 ≤ 5 by omega), true_implies, not_false_eq_true, not_true_eq_false, false_implies, true_and, and_true]
          unfold wX12_past_96
          simp only [eq_false (show ¬ nI 5 = 0 by decide), eq_false (show ¬ nI 5 = 1 by decide), eq_false (show ¬ nI 5 = nI 2 by decide), eq_false (show ¬ nI 5 = nI 3 by decide), eq_false (show ¬ nI 5 = nI 4 by decide), true_implies, not_false_eq_true, false_implies, true_and]
          rw [pk_rem (by omega) (by omega) (by omega), ex_nI hj51 (by omega), me 25 _ (by omega), g2, g3]
          exact ⟨e00, rfl, f0⟩
        · simp only [eq_false w5, true_implies, not_false_eq_true, false_implies, and_true]
          by_cases w4 : w = 4
          · subst w4
            simp only [true_implies, not_true_eq_false, false_implies, and_true]
            unfold wX7_tell
            simp only [eq_false (show ¬ nI 4 = 0 by decide), eq_false (show ¬ nI 4 = 1 by decide), eq_false (show ¬ nI 4 = nI 2 by decide), eq_false (show ¬ nI 4 = nI 3 by decide), true_implies, not_false_eq_true, not_true_eq_false, false_implies, true_and, and_true]
            rw [ex_nI (show j % 50 * 40 + b < lX7 11 by show _ < 2000; omega) (by show 2000 ≤ _; omega)]
            refine pastZ_y hT.2.1 hnb hD2 (by omega) hb (by omega) h1 h2 ?_
            unfold wX12_past_67
            rw [nI_leI (by omega) (by omega)]
            simp only [i10, eq_true (show 4 ≤ 4 by omega), true_implies, not_false_eq_true, not_true_eq_false, false_implies, true_and, and_true]
            unfold wX12_past_96
            simp only [eq_false (show ¬ nI 4 = 0 by decide), eq_false (show ¬ nI 4 = 1 by decide), eq_false (show ¬ nI 4 = nI 2 by decide), eq_false (show ¬ nI 4 = nI 3 by decide), true_implies, not_false_eq_true, not_true_eq_false, false_implies, true_and, and_true]
            rw [ex_nI (show 41 * (j % 51) + b < 2091 by omega) (by omega), me 31 _ (by omega), z3]
            exact ⟨e00, z2, f0⟩
          · simp only [eq_false w4, true_implies, not_false_eq_true, false_implies, true_and]
            rw [ex_nI (show j % 50 * 40 + b < 2000 by omega) (by omega), s2, nI_0i (by omega)]
            by_cases hs0 : G j 0 b = 0
            · simp only [eq_true hs0, true_implies, not_true_eq_false, false_implies, true_and]
              refine pastZ_y hT.2.1 hnb hD2 (by omega) hb (by omega) h1 h2 ?_
              unfold wX12_past_67
              rw [nI_leI (by omega) (by omega)]
              simp only [i10, eq_false (show ¬ 4 ≤ w by omega), true_implies, not_false_eq_true, not_true_eq_false, false_implies, true_and, and_true]
              rw [ex_nI (show 41 * (j % 51) + b < 2091 by omega) (by omega), me 26 _ (by omega), s3, nI_0i (by omega)]
              simp only [eq_true hs0, true_implies, not_true_eq_false, false_implies, true_and]
              exact ⟨mu_eq _ _ _ _, f1⟩
            · simp only [eq_false hs0, true_implies, not_false_eq_true, false_implies, and_true]
              obtain ⟨⟨x1, x1'⟩, ⟨x2, x2'⟩, ⟨x3, x3'⟩, ⟨x4, x4'⟩, -, -⟩ := ss (by omega)
              have zz : ∀ W : Int32 → sy_M → Prop, wX12_past_96 W (mu B 0 0 0) (nI j) (nI w) (nI (41 * (j % 51) + b)) → wX12_past B (nI j) (nI b) (nI w) W := by
                intro W hW
                refine pastZ_y hT.2.1 hnb hD2 (by omega) hb (by omega) h1 h2 ?_
                unfold wX12_past_67
                rw [nI_leI (by omega) (by omega)]
                simp only [i10, eq_false (show ¬ 4 ≤ w by omega), true_implies, not_false_eq_true, not_true_eq_false, false_implies, true_and, and_true]
                rw [ex_nI (show 41 * (j % 51) + b < 2091 by omega) (by omega), me 26 _ (by omega), s3, nI_0i (by omega)]
                simp only [eq_false hs0, true_implies, not_false_eq_true, false_implies, and_true]
                exact hW
              have hl7 : j % 50 * 40 + b < lX7 11 := by show _ < 2000; omega
              have hl7' : lX7 11 ≤ 2 ^ 31 := by show 2000 ≤ _; omega
              unfold wX7_tell
              have hw4 : w = 0 ∨ w = 1 ∨ w = 2 ∨ w = 3 := by omega
              rcases hw4 with e | e | e | e
              · subst e
                simp only [show (nI 0 = 0) = True from eq_true rfl, true_implies, not_true_eq_false, false_implies, and_true]
                rw [ex_nI hl7 hl7']
                apply zz
                unfold wX12_past_96
                simp only [show (nI 0 = 0) = True from eq_true rfl, true_implies, not_true_eq_false, false_implies, and_true]
                rw [ex_nI (show 41 * (j % 51) + b < 2091 by omega) (by omega), me 27 _ (by omega), x1']
                exact ⟨e00, x1, f0⟩
              · subst e
                simp only [eq_false (show ¬ nI 1 = 0 by decide), show (nI 1 = 1) = True from eq_true rfl, true_implies, not_false_eq_true, not_true_eq_false, false_implies, true_and, and_true]
                rw [ex_nI hl7 hl7']
                apply zz
                unfold wX12_past_96
                simp only [eq_false (show ¬ nI 1 = 0 by decide), show (nI 1 = 1) = True from eq_true rfl, true_implies, not_false_eq_true, not_true_eq_false, false_implies, true_and, and_true]
                rw [ex_nI (show 41 * (j % 51) + b < 2091 by omega) (by omega), me 28 _ (by omega), x2']
                exact ⟨e00, x2, f0⟩
              · subst e
                simp only [eq_false (show ¬ nI 2 = 0 by decide), eq_false (show ¬ nI 2 = 1 by decide), true_implies, not_false_eq_true, not_true_eq_false, false_implies, true_and, and_true]
                rw [ex_nI hl7 hl7']
                apply zz
                unfold wX12_past_96
                simp only [eq_false (show ¬ nI 2 = 0 by decide), eq_false (show ¬ nI 2 = 1 by decide), true_implies, not_false_eq_true, not_true_eq_false, false_implies, true_and, and_true]
                rw [ex_nI (show 41 * (j % 51) + b < 2091 by omega) (by omega), me 29 _ (by omega), x3']
                exact ⟨e00, x3, f0⟩
              · subst e
                simp only [eq_false (show ¬ nI 3 = 0 by decide), eq_false (show ¬ nI 3 = 1 by decide), eq_false (show ¬ nI 3 = nI 2 by decide), true_implies, not_false_eq_true, not_true_eq_false, false_implies, true_and, and_true]
                rw [ex_nI hl7 hl7']
                apply zz
                unfold wX12_past_96
                simp only [eq_false (show ¬ nI 3 = 0 by decide), eq_false (show ¬ nI 3 = 1 by decide), eq_false (show ¬ nI 3 = nI 2 by decide), true_implies, not_false_eq_true, not_true_eq_false, false_implies, true_and, and_true]
                rw [ex_nI (show 41 * (j % 51) + b < 2091 by omega) (by omega), me 30 _ (by omega), x4']
                exact ⟨e00, x4, f0⟩
      · rw [isFrom_n (by omega) kT]
        simp only [true_implies, not_true_eq_false, false_implies, true_and]
        exact bad (fun z => kT z.2.1)
    · rw [has_n hT.1 kB hnb]
      simp only [true_implies, not_true_eq_false, false_implies, and_true]
      exact bad (fun z => kB z.1)
  · rw [keeps_n hD1 (by omega) kD]
    simp only [true_implies, not_true_eq_false, false_implies, and_true]
    exact bad (fun z => kD z.2.2)
