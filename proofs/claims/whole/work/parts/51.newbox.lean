/-! the reference: a box more -/
theorem nbZ {M0 M M4 : sy_M} {n f : Nat} {bt : Nat → Nat} {s : Nat → Nat → Nat} (hw : wfS n s) (h : mZ M0 s M) (hl8 : ttT bt n f - f ≤ 8) (hwi : s 20 2 ≤ s 20 3)
    (e14 : M4 0 14 = nI (s 20 3 + 1)) (e0 : ∀ k, k ≠ 14 → M4 0 k = M 0 k) (e2 : M4 2 (41 + s 20 3) = (if s 20 2 = 0 then -1 else nI (40 + s 20 2))) (e3 : M4 3 (41 + s 20 3) = 0) (e4 : M4 4 (41 + s 20 3) = 0)
    (e5 : s 20 2 = 0 → M4 5 (41 + s 20 3) = 0) (e5' : s 20 2 ≠ 0 → M4 5 (41 + s 20 3) = M 5 (40 + s 20 2) + 1) (e7 : M4 7 (41 + s 20 3) = 0) (e8 : M4 8 (41 + s 20 3) = 0) (e9 : M4 9 (41 + s 20 3) = nI (ttT bt n f - f)) (e10 : ∀ k, k < ttT bt n f - f → M4 10 (8 * (41 + s 20 3) + k) = nI (bt (f + k)))
    (eo : ∀ q c, 2 ≤ q → q ≤ 9 → c < 41 + s 20 3 → (q ≠ 4 ∨ s 20 2 = 0 ∨ c ≠ 40 + s 20 2) → M4 q c = M q c) (ek : s 20 2 ≠ 0 → M4 4 (40 + s 20 2) = M 4 (40 + s 20 2) + 1) (el : ∀ c, c < 8 * (41 + s 20 3) → M4 10 c = M 10 c) (e1 : M4 1 = M 1) (eq : ∀ q, 11 ≤ q → M4 q = M q) : mZ M0 (sN bt n f s) M4 := by
  obtain ⟨ha, hc⟩ := hw
  obtain ⟨hf, h10, h14, hb⟩ := h
  obtain ⟨f1, f2, f3, f4, f5⟩ := hf
  obtain ⟨v0, v1, v2, v3, vo⟩ := sN_v bt n f s
  obtain ⟨w0, w1, w2, w3, w4, w5, w6⟩ := ad_new bt f (ttT bt n f - f) s
  refine ⟨⟨fun q c a1 a2 a3 => ?_, fun c a => ?_, ?_, fun q a => ?_, fun k a1 a2 a3 a4 a5 a6 a7 a8 => ?_⟩, ?_, ?_, fun b hbn => ?_⟩
  · rw [eo q c a1 a2 (by omega) (by omega)]; exact f1 q c a1 a2 a3
  · rw [el c (by omega)]; exact f2 c a
  · rw [e1, f3]
  · rw [eq q a, f4 q a]
  · rw [e0 k a8]; exact f5 k a1 a2 a3 a4 a5 a6 a7 a8
  · rw [e0 10 (by omega), h10]
  · rw [e14, v3]
  · rw [v3] at hbn
    unfold bxZ
    by_cases hbe : b = s 20 3
    · subst hbe
      rw [vo 0 _ (by omega), vo 1 _ (by omega), vo 2 _ (by omega), vo 3 _ (by omega), vo 4 _ (by omega), vo 5 _ (by omega), vo 6 _ (by omega), w0, w1, w2, w3, w4, w5, w6]
      refine ⟨e2, e3, e4, ?_, fun z => absurd rfl z, e7, e8, e9, fun k hk => ?_⟩
      · by_cases hw0 : s 20 2 = 0
        · rw [if_pos hw0, e5 hw0]; rfl
        · rw [if_neg hw0, e5' hw0, show 40 + s 20 2 = 41 + (s 20 2 - 1) by omega, (hb (s 20 2 - 1) (by omega)).2.2.2.1, nI_1]
      · rw [e10 k hk, vo _ _ (by omega), ad_let (by omega)]
    · have hb' : b < s 20 3 := by omega
      have o : ∀ q, q ≠ 20 → q ≠ 2 → sN bt n f s q b = s q b := fun q z1 z2 => by rw [vo q b z1, ad_old (Or.inl hbe) (Or.inl z2)]
      obtain ⟨a2, a3, a4, a5, a6, a7, a8, a9, a10⟩ := hb b hb'
      have h8 := (ha.2.2.2.1 b hb').2.2.2.2.1
      rw [o 0 (by omega) (by omega), o 1 (by omega) (by omega), o 3 (by omega) (by omega), o 4 (by omega) (by omega), o 5 (by omega) (by omega), o 6 (by omega) (by omega)]
      rw [eo 2 _ (by omega) (by omega) (by omega) (by omega), eo 3 _ (by omega) (by omega) (by omega) (by omega), eo 5 _ (by omega) (by omega) (by omega) (by omega), eo 6 _ (by omega) (by omega) (by omega) (by omega), eo 7 _ (by omega) (by omega) (by omega) (by omega), eo 8 _ (by omega) (by omega) (by omega) (by omega), eo 9 _ (by omega) (by omega) (by omega) (by omega)]
      refine ⟨a2, a3, ?_, a5, a6, a7, a8, a9, fun k hk => ?_⟩
      · by_cases hbw : b + 1 = s 20 2
        · rw [vo 2 b (by omega), ad_kid hbe hbw, ← nI_1, ← a4, show 41 + b = 40 + s 20 2 by omega]
          exact ek (by omega)
        · rw [eo 4 _ (by omega) (by omega) (by omega) (by omega), vo 2 b (by omega), ad_old (Or.inl hbe) (Or.inr hbw), a4]
      · rw [el _ (by omega), o _ (by omega) (by omega), a10 k hk]
theorem lettZ {M : sy_M} {n f r len : Nat} {bt : Nat → Nat} {x1 : Int32} {K : sy_M → Int32 → Int32 → Prop} {Q : Int32 → sy_M → Prop} (tp : tpZ n bt M) (h7 : M 0 7 = nI f) (hr : r < 82) (h9 : M 9 r = nI len) (hl : len ≤ 8) (hfn : f + len ≤ n) (hlt : ∀ k, k < len → bt (f + k) < 128)
    (hq : ∀ M', (∀ k, k < len → M' 10 (8 * r + k) = nI (bt (f + k))) → (∀ j, j < 8 * r → M' 10 j = M 10 j) → (∀ q, q ≠ 10 → M' q = M q) → K M' x1 (nI r)) : ∃ m, wX12_newBox_160 K Q m M x1 (nI r) 0 := by
  have hn := tp.1
  have key : ∀ i j M1, j + i = len → (∀ k, k < j → M1 10 (8 * r + k) = nI (bt (f + k))) → (∀ j, j < 8 * r → M1 10 j = M 10 j) → (∀ q, q ≠ 10 → M1 q = M q) → wX12_newBox_160 K Q (i + 1) M1 x1 (nI r) (nI j) := by
    intro i
    induction i with
    | zero =>
      intro j M1 hj g1 g2 g3
      rw [wX12_newBox_160, ex_nI (by omega) (by omega), g3 9 (by omega), h9, nI_leI (by omega) (by omega)]
      simp only [eq_true (show len ≤ j by omega), true_implies, not_true_eq_false, false_implies, and_true]
      exact hq M1 (fun k hk => g1 k (by omega)) g2 g3
    | succ i ih =>
      intro j M1 hj g1 g2 g3
      rw [wX12_newBox_160, ex_nI (by omega) (by omega), g3 9 (by omega), h9, nI_leI (by omega) (by omega)]
      simp only [eq_false (show ¬ len ≤ j by omega), true_implies, not_false_eq_true, false_implies, true_and]
      obtain ⟨b1, b2⟩ := tp.2.2 (f + j) (by omega)
      have hb := hlt j (by omega)
      rw [g3 0 (by omega), h7, nI_add, ex_nI (by omega) (by omega), pk_mul, nI_add, ex_nI (by omega) (by omega), g3 1 (by omega), b2, sb_nI hb, (narb _ hb).2, nI_1]
      refine ih (j + 1) _ (by omega) (fun k hk => ?_) (fun k hk => ?_) (fun q hq => ?_)
      · by_cases hkj : k = j
        · rw [hkj, mu_eq]
        · rw [mu_n2 _ _ _ _ (by omega)]; exact g1 k (by omega)
      · rw [mu_n2 _ _ _ _ (by omega)]; exact g2 k hk
      · rw [mu_oth hq]; exact g3 q hq
  exact ⟨_, key len 0 M (by omega) (fun k hk => absurd hk (by omega)) (fun _ _ => rfl) (fun _ _ => rfl)⟩
theorem newBoxZ {M0 M : sy_M} {n f : Nat} {bt : Nat → Nat} {s : Nat → Nat → Nat} {Q : Int32 → sy_M → Prop} (tp0 : tpZ n bt M0) (hw : wfS n s) (h : mZ M0 s M) (hfe : tfT bt n (s 20 0) = f) (hk : tkZ bt n f M) (hd : s 20 1 = 0)
    (h0 : ∀ M', stT bt n s 0 (sN bt n f s) → mZ M0 (sN bt n f s) M' → tkZ bt n (tfT bt n (sN bt n f s 20 0)) M' → Q (nI (41 + s 20 3)) M')
    (hx : ∀ M' c, 1 ≤ c → c ≤ 3 → stT bt n s c s → erZ M0 f c M' → Q (-1) M') : wX12_newBox M (if s 20 2 = 0 then -1 else nI (40 + s 20 2)) Q := by
  have tp := h.1.tp tp0
  have hn := tp.1
  have hnb := hw.1.1
  have hwi := hw.2.2.2.1
  have hm := h
  obtain ⟨hf, h10, h14, hb⟩ := h
  unfold wX12_newBox
  refine isNameZ tp hk (fun hnm => ?_) (fun hnm => ?_)
  · simp only [i10, true_implies, not_false_eq_true, false_implies, and_true]
    obtain ⟨hfn, hk'⟩ := kc_kN hnm.1
    have htb := ttT_b bt hfn
    have hl8 := hnm.2.1
    have hlt : ∀ k, k < ttT bt n f - f → bt (f + k) < 128 := by
      intro k hk
      have := htb.2.2 (f + k) (by omega) (by omega)
      rw [hk'] at this
      have := kN_97.mp this
      omega
    rw [h14, nI_eq (by omega) (by omega)]
    have many : liT s → wX12_newBox_39 Q M := by
      intro hli
      unfold wX12_newBox_39
      refine failsZ (c := 2) hm hk.1 (fun M' he => ?_)
      exact hx M' 2 (by omega) (by omega) (st0m hfe hd hnm hli) he
    by_cases h40 : s 20 3 = 40
    · simp only [eq_true h40, true_implies, not_true_eq_false, false_implies, and_true]
      exact many (Or.inl (by omega))
    · simp only [eq_false h40, true_implies, not_false_eq_true, false_implies, true_and]
      have go : ¬ liT s → wX12_newBox_46 Q M (if s 20 2 = 0 then -1 else nI (40 + s 20 2)) := by
        intro hli
        unfold wX12_newBox_46
        refine knownZ tp hw.1 hm hk hfn (fun hkn => ?_) (fun hkn => ?_)
        · simp only [i10, true_implies, not_false_eq_true, false_implies, true_and]
          refine failsZ (c := 3) hm hk.1 (fun M' he => ?_)
          exact hx M' 3 (by omega) (by omega) (st0k hfe hd hnm hli hkn) he
        · simp only [true_implies, not_true_eq_false, false_implies, and_true]
          have hst := st0 hfe hd hnm hli hkn
          have hws := (wfS_step hw hst).1
          obtain ⟨v0, v1, v2, v3, vo⟩ := sN_v bt n f s
          rw [h14, nI_add, nI_1, ex_nI (by omega) (by omega), nar01 (Or.inl rfl)]
          have fin : ∀ M4, mZ M0 (sN bt n f s) M4 → (∀ k, k ≠ 14 → M4 0 k = M 0 k) → wX12_newBox_213 Q M4 (nI (41 + s 20 3)) := by
            intro M4 hm4 hs4
            unfold wX12_newBox_213
            refine stepZ tp0 hm4 (by rw [hs4 6 (by omega), hk.2.1 hfn, v0]) hws.2.1 (fun M' g1 g2 => h0 M' hst g1 g2)
          by_cases hw0 : s 20 2 = 0
          · rw [if_pos hw0]
            simp only [true_implies, not_true_eq_false, false_implies, true_and]
            unfold wX12_newBox_121
            rw [ex_nI (by omega) (by omega), ex_nI (by omega) (by omega), nar01 (Or.inl rfl)]
            obtain ⟨M2, hM2⟩ : ∃ M2, M2 = mu (mu (mu (mu (mu (mu (mu (mu M 0 14 (nI (s 20 3 + 1))) 2 (41 + s 20 3) (-1)) 3 (41 + s 20 3) 0) 4 (41 + s 20 3) 0) 5 (41 + s 20 3) 0) 6 (41 + s 20 3) 0) 7 (41 + s 20 3) 0) 8 (41 + s 20 3) 0 := ⟨_, rfl⟩
            rw [← hM2]
            have x6 : (mu (mu (mu (mu M 0 14 (nI (s 20 3 + 1))) 2 (41 + s 20 3) (-1)) 3 (41 + s 20 3) 0) 4 (41 + s 20 3) 0) 0 6 = nI (ttT bt n f) := by
              rw [mu_n1 _ _ _ _ (by omega), mu_n1 _ _ _ _ (by omega), mu_n1 _ _ _ _ (by omega), mu_n2 _ _ _ _ (by omega), hk.2.1 hfn]
            have x7 : (mu (mu (mu (mu M 0 14 (nI (s 20 3 + 1))) 2 (41 + s 20 3) (-1)) 3 (41 + s 20 3) 0) 4 (41 + s 20 3) 0) 0 7 = nI f := by
              rw [mu_n1 _ _ _ _ (by omega), mu_n1 _ _ _ _ (by omega), mu_n1 _ _ _ _ (by omega), mu_n2 _ _ _ _ (by omega), hk.1]
            rw [x6, x7, pk_sub (by omega)]
            have m0 : ∀ k, k ≠ 14 → M2 0 k = M 0 k := fun k hk => by
              rw [hM2, mu_n1 _ _ _ _ (by omega), mu_n1 _ _ _ _ (by omega), mu_n1 _ _ _ _ (by omega), mu_n1 _ _ _ _ (by omega), mu_n1 _ _ _ _ (by omega), mu_n1 _ _ _ _ (by omega), mu_n1 _ _ _ _ (by omega), mu_n2 _ _ _ _ hk]
            have m14 : M2 0 14 = nI (s 20 3 + 1) := by
              rw [hM2, mu_n1 _ _ _ _ (by omega), mu_n1 _ _ _ _ (by omega), mu_n1 _ _ _ _ (by omega), mu_n1 _ _ _ _ (by omega), mu_n1 _ _ _ _ (by omega), mu_n1 _ _ _ _ (by omega), mu_n1 _ _ _ _ (by omega), mu_eq]
            have m2 : M2 2 (41 + s 20 3) = -1 := by
              rw [hM2, mu_n1 _ _ _ _ (by omega), mu_n1 _ _ _ _ (by omega), mu_n1 _ _ _ _ (by omega), mu_n1 _ _ _ _ (by omega), mu_n1 _ _ _ _ (by omega), mu_n1 _ _ _ _ (by omega), mu_eq]
            have m3 : M2 3 (41 + s 20 3) = 0 := by
              rw [hM2, mu_n1 _ _ _ _ (by omega), mu_n1 _ _ _ _ (by omega), mu_n1 _ _ _ _ (by omega), mu_n1 _ _ _ _ (by omega), mu_n1 _ _ _ _ (by omega), mu_eq]
            have m4 : M2 4 (41 + s 20 3) = 0 := by
              rw [hM2, mu_n1 _ _ _ _ (by omega), mu_n1 _ _ _ _ (by omega), mu_n1 _ _ _ _ (by omega), mu_n1 _ _ _ _ (by omega), mu_eq]
            have m5 : M2 5 (41 + s 20 3) = 0 := by
              rw [hM2, mu_n1 _ _ _ _ (by omega), mu_n1 _ _ _ _ (by omega), mu_n1 _ _ _ _ (by omega), mu_eq]
            have m7 : M2 7 (41 + s 20 3) = 0 := by
              rw [hM2, mu_n1 _ _ _ _ (by omega), mu_eq]
            have m8 : M2 8 (41 + s 20 3) = 0 := by
              rw [hM2, mu_eq]
            have mo : ∀ q c, q ≠ 0 → c ≠ 41 + s 20 3 → M2 q c = M q c := fun q c hq hc => by
              rw [hM2, mu_n2 _ _ _ _ hc, mu_n2 _ _ _ _ hc, mu_n2 _ _ _ _ hc, mu_n2 _ _ _ _ hc, mu_n2 _ _ _ _ hc, mu_n2 _ _ _ _ hc, mu_n2 _ _ _ _ hc, mu_n1 _ _ _ _ hq]
            have mq : ∀ q, q = 1 ∨ 9 ≤ q → M2 q = M q := fun q hq => by
              rw [hM2, mu_oth (by omega), mu_oth (by omega), mu_oth (by omega), mu_oth (by omega), mu_oth (by omega), mu_oth (by omega), mu_oth (by omega), mu_oth (by omega)]
            clear hM2 x6 x7
            refine lettZ (n := n) (f := f) (bt := bt) (len := ttT bt n f - f) ?_ ?_ (by omega) (mu_eq _ _ _ _) hl8 (by omega) hlt (fun M3 g1 g2 g3 => ?_)
            · refine tp.cg ?_ ?_
              · rw [mu_n1 _ _ _ _ (by omega), m0 5 (by omega)]
              · rw [mu_oth (by omega), mq 1 (by omega)]
            · rw [mu_n1 _ _ _ _ (by omega), m0 7 (by omega), hk.1]
            · simp only [true_implies, not_true_eq_false, false_implies, and_true]
              refine fin M3 (nbZ hw hm hl8 hwi ?_ ?_ ?_ ?_ ?_ (fun _ => ?_) (fun z => absurd hw0 z) ?_ ?_ ?_ g1 ?_ (fun z => absurd hw0 z) ?_ ?_ ?_) ?_
              · rw [g3 0 (by omega), mu_n1 _ _ _ _ (by omega), m14]
              · intro k hk; rw [g3 0 (by omega), mu_n1 _ _ _ _ (by omega), m0 k hk]
              · rw [if_pos hw0, g3 2 (by omega), mu_n1 _ _ _ _ (by omega), m2]
              · rw [g3 3 (by omega), mu_n1 _ _ _ _ (by omega), m3]
              · rw [g3 4 (by omega), mu_n1 _ _ _ _ (by omega), m4]
              · rw [g3 5 (by omega), mu_n1 _ _ _ _ (by omega), m5]
              · rw [g3 7 (by omega), mu_n1 _ _ _ _ (by omega), m7]
              · rw [g3 8 (by omega), mu_n1 _ _ _ _ (by omega), m8]
              · rw [g3 9 (by omega), mu_eq]
              · intro q c a1 a2 a3 _
                rw [g3 q (by omega), mu_n2 _ _ _ _ (by omega), mo q c (by omega) (by omega)]
              · intro c hc
                rw [g2 c hc, mu_n1 _ _ _ _ (by omega), mq 10 (by omega)]
              · rw [g3 1 (by omega), mu_oth (by omega), mq 1 (by omega)]
              · intro q hq
                rw [g3 q (by omega), mu_oth (by omega), mq q (by omega)]
              · intro k hk; rw [g3 0 (by omega), mu_n1 _ _ _ _ (by omega), m0 k hk]
          · rw [if_neg hw0]
            have hne : ¬ nI (40 + s 20 2) = -1 := nI_ne_m1 (by omega)
            simp only [eq_false hne, true_implies, not_false_eq_true, false_implies, and_true]
            rw [ex_nI (by omega) (by omega)]
            unfold wX12_newBox_121
            rw [ex_nI (by omega) (by omega), ex_nI (by omega) (by omega), nar01 (Or.inl rfl)]
            obtain ⟨M2, hM2⟩ : ∃ M2, M2 = mu (mu (mu (mu (mu (mu (mu (mu M 0 14 (nI (s 20 3 + 1))) 2 (41 + s 20 3) (nI (40 + s 20 2))) 3 (41 + s 20 3) 0) 4 (41 + s 20 3) 0) 5 (41 + s 20 3) (M 5 (40 + s 20 2) + 1)) 6 (41 + s 20 3) 0) 7 (41 + s 20 3) 0) 8 (41 + s 20 3) 0 := ⟨_, rfl⟩
            rw [← hM2]
            have x6 : (mu (mu (mu (mu M 0 14 (nI (s 20 3 + 1))) 2 (41 + s 20 3) (nI (40 + s 20 2))) 3 (41 + s 20 3) 0) 4 (41 + s 20 3) 0) 0 6 = nI (ttT bt n f) := by
              rw [mu_n1 _ _ _ _ (by omega), mu_n1 _ _ _ _ (by omega), mu_n1 _ _ _ _ (by omega), mu_n2 _ _ _ _ (by omega), hk.2.1 hfn]
            have x7 : (mu (mu (mu (mu M 0 14 (nI (s 20 3 + 1))) 2 (41 + s 20 3) (nI (40 + s 20 2))) 3 (41 + s 20 3) 0) 4 (41 + s 20 3) 0) 0 7 = nI f := by
              rw [mu_n1 _ _ _ _ (by omega), mu_n1 _ _ _ _ (by omega), mu_n1 _ _ _ _ (by omega), mu_n2 _ _ _ _ (by omega), hk.1]
            rw [x6, x7, pk_sub (by omega)]
            have m0 : ∀ k, k ≠ 14 → M2 0 k = M 0 k := fun k hk => by
              rw [hM2, mu_n1 _ _ _ _ (by omega), mu_n1 _ _ _ _ (by omega), mu_n1 _ _ _ _ (by omega), mu_n1 _ _ _ _ (by omega), mu_n1 _ _ _ _ (by omega), mu_n1 _ _ _ _ (by omega), mu_n1 _ _ _ _ (by omega), mu_n2 _ _ _ _ hk]
            have m14 : M2 0 14 = nI (s 20 3 + 1) := by
              rw [hM2, mu_n1 _ _ _ _ (by omega), mu_n1 _ _ _ _ (by omega), mu_n1 _ _ _ _ (by omega), mu_n1 _ _ _ _ (by omega), mu_n1 _ _ _ _ (by omega), mu_n1 _ _ _ _ (by omega), mu_n1 _ _ _ _ (by omega), mu_eq]
            have m2 : M2 2 (41 + s 20 3) = nI (40 + s 20 2) := by
              rw [hM2, mu_n1 _ _ _ _ (by omega), mu_n1 _ _ _ _ (by omega), mu_n1 _ _ _ _ (by omega), mu_n1 _ _ _ _ (by omega), mu_n1 _ _ _ _ (by omega), mu_n1 _ _ _ _ (by omega), mu_eq]
            have m3 : M2 3 (41 + s 20 3) = 0 := by
              rw [hM2, mu_n1 _ _ _ _ (by omega), mu_n1 _ _ _ _ (by omega), mu_n1 _ _ _ _ (by omega), mu_n1 _ _ _ _ (by omega), mu_n1 _ _ _ _ (by omega), mu_eq]
            have m4 : M2 4 (41 + s 20 3) = 0 := by
              rw [hM2, mu_n1 _ _ _ _ (by omega), mu_n1 _ _ _ _ (by omega), mu_n1 _ _ _ _ (by omega), mu_n1 _ _ _ _ (by omega), mu_eq]
            have m5 : M2 5 (41 + s 20 3) = M 5 (40 + s 20 2) + 1 := by
              rw [hM2, mu_n1 _ _ _ _ (by omega), mu_n1 _ _ _ _ (by omega), mu_n1 _ _ _ _ (by omega), mu_eq]
            have m7 : M2 7 (41 + s 20 3) = 0 := by
              rw [hM2, mu_n1 _ _ _ _ (by omega), mu_eq]
            have m8 : M2 8 (41 + s 20 3) = 0 := by
              rw [hM2, mu_eq]
            have mo : ∀ q c, q ≠ 0 → c ≠ 41 + s 20 3 → M2 q c = M q c := fun q c hq hc => by
              rw [hM2, mu_n2 _ _ _ _ hc, mu_n2 _ _ _ _ hc, mu_n2 _ _ _ _ hc, mu_n2 _ _ _ _ hc, mu_n2 _ _ _ _ hc, mu_n2 _ _ _ _ hc, mu_n2 _ _ _ _ hc, mu_n1 _ _ _ _ hq]
            have mq : ∀ q, q = 1 ∨ 9 ≤ q → M2 q = M q := fun q hq => by
              rw [hM2, mu_oth (by omega), mu_oth (by omega), mu_oth (by omega), mu_oth (by omega), mu_oth (by omega), mu_oth (by omega), mu_oth (by omega), mu_oth (by omega)]
            clear hM2 x6 x7
            refine lettZ (n := n) (f := f) (bt := bt) (len := ttT bt n f - f) ?_ ?_ (by omega) (mu_eq _ _ _ _) hl8 (by omega) hlt (fun M3 g1 g2 g3 => ?_)
            · refine tp.cg ?_ ?_
              · rw [mu_n1 _ _ _ _ (by omega), m0 5 (by omega)]
              · rw [mu_oth (by omega), mq 1 (by omega)]
            · rw [mu_n1 _ _ _ _ (by omega), m0 7 (by omega), hk.1]
            · simp only [eq_false hne, true_implies, not_false_eq_true, false_implies, true_and]
              rw [ex_nI (by omega) (by omega)]
              have k4 : M3 4 (40 + s 20 2) = M 4 (40 + s 20 2) := by
                rw [g3 4 (by omega), mu_n1 _ _ _ _ (by omega), mo 4 _ (by omega) (by omega)]
              rw [k4]
              refine fin _ (nbZ hw hm hl8 hwi ?_ ?_ ?_ ?_ ?_ (fun z => absurd z hw0) (fun _ => ?_) ?_ ?_ ?_ ?_ ?_ (fun _ => mu_eq _ _ _ _) ?_ ?_ ?_) ?_
              · rw [mu_n1 _ _ _ _ (by omega), g3 0 (by omega), mu_n1 _ _ _ _ (by omega), m14]
              · intro k hk; rw [mu_n1 _ _ _ _ (by omega), g3 0 (by omega), mu_n1 _ _ _ _ (by omega), m0 k hk]
              · rw [if_neg hw0, mu_n1 _ _ _ _ (by omega), g3 2 (by omega), mu_n1 _ _ _ _ (by omega), m2]
              · rw [mu_n1 _ _ _ _ (by omega), g3 3 (by omega), mu_n1 _ _ _ _ (by omega), m3]
              · rw [mu_n2 _ _ _ _ (by omega), g3 4 (by omega), mu_n1 _ _ _ _ (by omega), m4]
              · rw [mu_n1 _ _ _ _ (by omega), g3 5 (by omega), mu_n1 _ _ _ _ (by omega), m5]
              · rw [mu_n1 _ _ _ _ (by omega), g3 7 (by omega), mu_n1 _ _ _ _ (by omega), m7]
              · rw [mu_n1 _ _ _ _ (by omega), g3 8 (by omega), mu_n1 _ _ _ _ (by omega), m8]
              · rw [mu_n1 _ _ _ _ (by omega), g3 9 (by omega), mu_eq]
              · intro k hk; rw [mu_n1 _ _ _ _ (by omega)]; exact g1 k hk
              · intro q c a1 a2 a3 a4
                have e : mu M3 4 (40 + s 20 2) (M 4 (40 + s 20 2) + 1) q c = M3 q c := by
                  rcases a4 with a4 | a4 | a4
                  · rw [mu_n1 _ _ _ _ a4]
                  · exact absurd a4 hw0
                  · rw [mu_n2 _ _ _ _ a4]
                rw [e, g3 q (by omega), mu_n2 _ _ _ _ (by omega), mo q c (by omega) (by omega)]
              · intro c hc
                rw [mu_n1 _ _ _ _ (by omega), g2 c hc, mu_n1 _ _ _ _ (by omega), mq 10 (by omega)]
              · rw [mu_oth (by omega), g3 1 (by omega), mu_oth (by omega), mq 1 (by omega)]
              · intro q hq
                rw [mu_oth (by omega), g3 q (by omega), mu_oth (by omega), mq q (by omega)]
              · intro k hk; rw [mu_n1 _ _ _ _ (by omega), g3 0 (by omega), mu_n1 _ _ _ _ (by omega), m0 k hk]
      by_cases hw0 : s 20 2 = 0
      · have g := go (fun z => by rcases z with z | z <;> omega)
        rw [if_pos hw0] at g ⊢
        simp only [true_implies, not_true_eq_false, false_implies, and_true]
        exact g
      · rw [if_neg hw0] at go ⊢
        have hne : ¬ nI (40 + s 20 2) = -1 := nI_ne_m1 (by omega)
        simp only [eq_false hne, true_implies, not_false_eq_true, false_implies, true_and]
        have q2 := (hw.1.2.2.2.1 (s 20 2 - 1) (by omega)).2.1
        have e4 : M 4 (40 + s 20 2) = nI (s 2 (s 20 2 - 1)) := by
          have := (hb (s 20 2 - 1) (by omega)).2.2.1
          rw [show 41 + (s 20 2 - 1) = 40 + s 20 2 by omega] at this
          exact this
        rw [ex_nI (by omega) (by omega), e4, nI_eq (by omega) (by omega)]
        by_cases h8 : s 2 (s 20 2 - 1) = 8
        · simp only [eq_true h8, true_implies, not_true_eq_false, false_implies, true_and]
          exact many (Or.inr ⟨hw0, by omega⟩)
        · simp only [eq_false h8, true_implies, not_false_eq_true, false_implies, and_true]
          exact go (fun z => by rcases z with z | z <;> omega)
  · simp only [true_implies, not_true_eq_false, false_implies, true_and]
    refine failsZ (c := 1) hm hk.1 (fun M' he => ?_)
    exact hx M' 1 (by omega) (by omega) (st0n hfe hd hnm) he
