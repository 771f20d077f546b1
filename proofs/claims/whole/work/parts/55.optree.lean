/-! op_tree -/
theorem op_tree {cn : Nat} {A B : sy_M} (h : Rel cn A B) {F : sy_M → sy_M → Prop} (hF : ∀ A' B', Rel cn A' B' → F A' B') : wX11_tree A (fun r A' => wX12_tree B (fun r' B' => r = r' ∧ F A' B')) := by
  obtain ⟨t, nb, nc, d, n, T, V, L, C, G, K, R, hQ, hw, hT, hL, hC, hd, hD, hP, hS⟩ := h
  have hn := hP.1
  obtain ⟨t2, ht2, ht, h07, h06, hne⟩ : ∃ t2, (t2 = 60 ∨ t2 = 71) ∧ (t = 60 ∨ t = 71) ∧ A 3 2 = nI t2 ∧ A 0 6 = nI t ∧ (t + 10 < t2 ∨ t2 + 10 < t) := by
    rcases hQ with ⟨a, b, c⟩ | ⟨a, b, c⟩
    · exact ⟨71, Or.inr rfl, Or.inl a, c, by rw [a]; exact b, by omega⟩
    · exact ⟨60, Or.inl rfl, Or.inr a, c, by rw [a]; exact b, by omega⟩
  have tx : tpX n (fun i => kp (A 2 i)) A := ⟨hn, hP.2.1, fun i _ => ⟨kp_lt _, rfl⟩⟩
  have tz : tpZ n (fun i => kp (A 2 i)) B := ⟨hn, hP.2.2.1, fun i hi => ⟨kp_lt _, (hP.code hi).2⟩⟩
  generalize (fun i => kp (A 2 i)) = bt at tx tz
  unfold wX11_tree
  refine readX ht2 h07 tx (fun j s A1 hit hws hd5 hm h30 hfr => ?_) (fun j s A1 c hit c1 c3 h30 h32 hfr => ?_)
  · simp only [true_implies, not_true_eq_false, false_implies, and_true]
    have z0 : A1 0 = A 0 := hfr 0 (by omega) (by omega)
    refine ⟨t, by rw [z0]; exact h06, ht, t2, hm.2.2.2.1, ht2, t2, rfl, ht2, ?_⟩
    obtain ⟨m0, m1, m2, m3, m4, m5, m6⟩ := hm
    have zt : ∀ q, t2 ≤ q → mu (mu (mu (mu (mu A1 1 0 0) 0 6 (nI t2)) 3 2 (nI t)) 4 0 0) 9 0 0 q = A1 q := fun q hq => by
      rw [mu_oth (by omega), mu_oth (by omega), mu_oth (by omega), mu_oth (by omega), mu_oth (by omega)]
    rw [zt t2 (by omega), m0]
    refine treeZ tz (fun j' s' B1 hit' hws' hd5' cp y5 y12 y13 y24 y40 yk => ?_) (fun j' s' c B1 hit' c1 c3 _ => ?_)
    · obtain ⟨-, es⟩ := itT_det (by omega) (by omega) j j' s00 hit hit'
      subst es
      refine ⟨rfl, hF _ _ ?_⟩
      obtain ⟨⟨w, s1, s2, s3, s4⟩, ⟨hh, s5, s6, s7, s8⟩, ⟨v, s9, s10, s11⟩, s12, s13⟩ := hS
      refine ⟨t2, s 20 3, 0, 0, 0, s, (fun b k => s (10 + k) b), (fun _ _ => 0), C, G, K, R, ?_, wfS_end hws hd5, ?_, ?_, ?_, Nat.zero_le _, ?_, ?_, ?_⟩
      · have e6 : mu (mu (mu (mu (mu A1 1 0 0) 0 6 (nI t2)) 3 2 (nI t)) 4 0 0) 9 0 0 0 6 = nI t2 := by
          rw [mu_n1 _ _ _ _ (by omega), mu_n1 _ _ _ _ (by omega), mu_n1 _ _ _ _ (by omega), mu_eq]
        have e7 : mu (mu (mu (mu (mu A1 1 0 0) 0 6 (nI t2)) 3 2 (nI t)) 4 0 0) 9 0 0 3 2 = nI t := by
          rw [mu_n1 _ _ _ _ (by omega), mu_n1 _ _ _ _ (by omega), mu_eq]
        unfold rlQ
        rw [e6, e7]
        rcases ht2 with a | a
        · left; exact ⟨a, by rw [a], by rw [show t = 71 by omega]⟩
        · right; exact ⟨a, by rw [a], by rw [show t = 60 by omega]⟩
      · refine ⟨by rw [zt t2 (by omega), m0], y13, ?_, fun b hb => ?_⟩
        · rw [zt t2 (by omega), m1, smN_filter]
        · obtain ⟨x1, x2, x3, x4, x5, x6, x7, x8, x9, x10⟩ := m6 b hb
          obtain ⟨c2, c3, c4, c5, c6, c7, c8, c9, c10, c14, c15⟩ := cp b hb
          have q := (hws.1.2.2.2.1 b hb).2.2.2.2.2.2.2.1
          rw [zt (t2 + 1) (by omega), zt (t2 + 2) (by omega), zt (t2 + 3) (by omega), zt (t2 + 4) (by omega), zt (t2 + 5) (by omega), zt (t2 + 6) (by omega), zt (t2 + 7) (by omega), zt (t2 + 10) (by omega)]
          exact ⟨⟨x1, c2⟩, ⟨x2, c3, c6⟩, ⟨x3, c4⟩, ⟨x4, c5⟩, fun _ => ⟨x5, c8⟩, fun z => by rw [x5, (q z).2]; rfl, ⟨x6, c9⟩, ⟨x7, c7⟩, fun k hk => ⟨x10 k hk, c10 k hk⟩⟩
      · intro b hb
        obtain ⟨x1, x2, x3, x4, x5, x6, x7, x8, x9, x10⟩ := m6 b hb
        obtain ⟨c2, c3, c4, c5, c6, c7, c8, c9, c10, c14, c15⟩ := cp b hb
        rw [zt (t2 + 8) (by omega), zt (t2 + 9) (by omega)]
        exact ⟨⟨Nat.zero_le _, x8, c14⟩, ⟨Nat.zero_le _, x9, c15⟩⟩
      · refine ⟨Nat.zero_le _, ?_, y24, fun k hk => absurd hk (by omega)⟩
        rw [mu_n1 _ _ _ _ (by omega), mu_eq]; rfl
      · refine ⟨?_, y40, fun z => absurd z (by omega), fun k hk => absurd hk (by omega), fun z => absurd z (by omega)⟩
        rw [mu_eq]; rfl
      · refine ⟨Nat.zero_le _, ?_, y5, fun k hk => absurd hk (by omega)⟩
        rw [mu_n1 _ _ _ _ (by omega), mu_n1 _ _ _ _ (by omega), mu_n1 _ _ _ _ (by omega), mu_n1 _ _ _ _ (by omega), mu_eq]; rfl
      · refine ⟨⟨w, s1, s2, ?_, by rw [yk 1 (by omega) (by omega)]; exact s4⟩, ⟨hh, s5, s6, ?_, by rw [yk 2 (by omega) (by omega)]; exact s8⟩, ⟨v, s9, ?_, by rw [yk 3 (by omega) (by omega)]; exact s11⟩, ?_, ?_⟩
        · rw [mu_n1 _ _ _ _ (by omega), mu_n1 _ _ _ _ (by omega), mu_n1 _ _ _ _ (by omega), mu_n2 _ _ _ _ (by omega), mu_n1 _ _ _ _ (by omega), z0]; exact s3
        · rw [mu_n1 _ _ _ _ (by omega), mu_n1 _ _ _ _ (by omega), mu_n1 _ _ _ _ (by omega), mu_n2 _ _ _ _ (by omega), mu_n1 _ _ _ _ (by omega), z0]; exact s7
        · rw [mu_n1 _ _ _ _ (by omega), mu_n1 _ _ _ _ (by omega), mu_n1 _ _ _ _ (by omega), mu_n1 _ _ _ _ (by omega), mu_n1 _ _ _ _ (by omega), hfr 27 (by omega) (by omega)]; exact s10
        · rw [mu_n1 _ _ _ _ (by omega), mu_n1 _ _ _ _ (by omega), mu_n2 _ _ _ _ (by omega), mu_n1 _ _ _ _ (by omega), mu_n1 _ _ _ _ (by omega), h30, y12]
        · rw [mu_n1 _ _ _ _ (by omega), mu_n1 _ _ _ _ (by omega), mu_n1 _ _ _ _ (by omega), mu_n1 _ _ _ _ (by omega), mu_n1 _ _ _ _ (by omega), hfr 31 (by omega) (by omega)]; exact s13
    · have := (itT_det (by omega) (by omega) j j' s00 hit hit').1
      omega
  · have hc0 : ¬ nI c = 0 := by rw [nI_0i (by omega)]; omega
    simp only [eq_false hc0, true_implies, not_false_eq_true, false_implies, true_and]
    refine treeZ tz (fun j' s' B1 hit' _ _ _ _ _ _ _ _ _ => ?_) (fun j' s' c' B1 hit' c1' c3' hfz => ?_)
    · have := (itT_det (by omega) (by omega) j j' s00 hit hit').1
      omega
    · obtain ⟨ec, es⟩ := itT_det (by omega) (by omega) j j' s00 hit hit'
      subst ec es
      refine ⟨?_, hF _ _ ?_⟩
      · have : c = 1 ∨ c = 2 ∨ c = 3 := by omega
        rcases this with z | z | z <;> (subst z; decide)
      · have zx : ∀ q, q ≠ 3 → q ≠ 1 → ¬ (t2 ≤ q ∧ q ≤ t2 + 10) → mu A1 1 0 0 q = A q := fun q h1 h2 h3 => by rw [mu_oth h2]; exact hfr q h1 h3
        have zz : ∀ q, q ≠ 0 → mu (mu B1 0 5 0) 0 12 (nI (tfT bt n (s 20 0))) q = B1 q := fun q hq => by rw [mu_oth hq, mu_oth hq]
        obtain ⟨f1, f2, f3, f4, f5⟩ := hfz
        have zs : ∀ k, k ≠ 0 → k ≠ 5 → k ≠ 6 → k ≠ 7 → k ≠ 8 → k ≠ 9 → k ≠ 10 → k ≠ 11 → k ≠ 12 → k ≠ 14 → mu (mu B1 0 5 0) 0 12 (nI (tfT bt n (s 20 0))) 0 k = B 0 k := fun k h0 h1 h2 h3 h4 h5 h6 h7 h8 h9 => by
          rw [mu_n2 _ _ _ _ h8, mu_n2 _ _ _ _ h1]; exact f5 k h0 h2 h3 h4 h5 h6 h7 h9
        refine ⟨t, nb, nc, d, 0, T, V, L, C, G, K, R, hQ.cg (by rw [zx 0 (by omega) (by omega) (by omega)]) (by rw [mu_n1 _ _ _ _ (by omega), h32, h07]), hw, ?_, ?_, ?_, hd, ?_, ?_, ?_⟩
        · refine hT.cg hw (fun k hk i => by rw [zx (t + k) (by omega) (by omega) (by omega)]) (zs 13 (by omega) (by omega) (by omega) (by omega) (by omega) (by omega) (by omega) (by omega) (by omega) (by omega)) (fun p p1 p2 i hi => ?_) (fun i hi => ?_)
          · rw [zz p (by omega)]; exact f1 p i p1 p2 hi
          · rw [zz 10 (by omega)]; exact f2 i hi
        · refine hL.cg (fun i _ => by rw [zx (t + 8) (by omega) (by omega) (by omega)]) (fun i _ => by rw [zx (t + 9) (by omega) (by omega) (by omega)]) (fun i _ => by rw [zz 14 (by omega), f4 14 (by omega)]) (fun i _ => by rw [zz 15 (by omega), f4 15 (by omega)])
        · refine hC.cg (by rw [zx 4 (by omega) (by omega) (by omega)]) (fun p p1 p2 i => by rw [zx p (by omega) (by omega) (by omega)]) (zs 24 (by omega) (by omega) (by omega) (by omega) (by omega) (by omega) (by omega) (by omega) (by omega) (by omega)) (fun p p1 p2 i => by rw [zz p (by omega), f4 p (by omega)])
        · refine hD.cg (by rw [zx 9 (by omega) (by omega) (by omega)]) (fun p hp i => by rw [zx p (by omega) (by omega) (by omega)]) (zs 40 (by omega) (by omega) (by omega) (by omega) (by omega) (by omega) (by omega) (by omega) (by omega) (by omega)) (fun p p1 p2 i => by rw [zz p (by omega), f4 p (by omega)])
        · refine ⟨Nat.zero_le _, ?_, ?_, fun k hk => absurd hk (by omega)⟩
          · rw [mu_eq]; rfl
          · rw [mu_n2 _ _ _ _ (by omega), mu_eq]; rfl
        · obtain ⟨⟨w, s1, s2, s3, s4⟩, ⟨hh, s5, s6, s7, s8⟩, ⟨v, s9, s10, s11⟩, s12, s13⟩ := hS
          refine ⟨⟨w, s1, s2, ?_, ?_⟩, ⟨hh, s5, s6, ?_, ?_⟩, ⟨v, s9, ?_, ?_⟩, ?_, ?_⟩
          · rw [zx 0 (by omega) (by omega) (by omega)]; exact s3
          · rw [zs 1 (by omega) (by omega) (by omega) (by omega) (by omega) (by omega) (by omega) (by omega) (by omega) (by omega)]; exact s4
          · rw [zx 0 (by omega) (by omega) (by omega)]; exact s7
          · rw [zs 2 (by omega) (by omega) (by omega) (by omega) (by omega) (by omega) (by omega) (by omega) (by omega) (by omega)]; exact s8
          · rw [zx 27 (by omega) (by omega) (by omega)]; exact s10
          · rw [zs 3 (by omega) (by omega) (by omega) (by omega) (by omega) (by omega) (by omega) (by omega) (by omega) (by omega)]; exact s11
          · rw [mu_n1 _ _ _ _ (by omega), h30, mu_eq]
          · rw [zx 31 (by omega) (by omega) (by omega)]; exact s13
