/-! feed, size, rest -/
/-- byte j of a number, the highest first -/
def byj (v : Int32) (j : Nat) : Int32 := (v >>> (nI (24 - 8 * j) &&& 31)).toInt8.toInt32
theorem shr_0 (v : Int32) : v >>> (nI 0 &&& 31) = v := by
  apply Int32.toInt_inj.mp
  rw [pk_shr v (nI 0 &&& 31) 0 (by decide)]
  simp
theorem byj_3 (v : Int32) : byj v 3 = v.toInt8.toInt32 := by
  unfold byj
  rw [show 24 - 8 * 3 = 0 from rfl, shr_0]
/-- the tape's memory with four bytes more -/
def ad4 (M : sy_M) (m : Nat) (v : Int32) : sy_M := mu (mu (mu (mu (mu M 2 m (byj v 0)) 2 (m + 1) (byj v 1)) 2 (m + 2) (byj v 2)) 2 (m + 3) (byj v 3)) 1 0 (nI (m + 4))
theorem addX {M : sy_M} {m : Nat} {v : Int32} {Q : sy_M → Prop} (hm : M 1 0 = nI m) (h : m ≤ 996) : wX9_add M v Q ↔ Q (ad4 M m v) := by
  unfold wX9_add
  have h1 : nI m ≤ nI 996 := nI_le h (by decide)
  rw [hm]
  simp only [h1, true_implies, not_true_eq_false, false_implies, and_true]
  rw [ex_nI (show m < 1000 by omega) (by omega), show (1 : Int32) = nI 1 from rfl, nI_add, ex_nI (show m + 1 < 1000 by omega) (by omega), nI_add, ex_nI (show m + 2 < 1000 by omega) (by omega), nI_add, ex_nI (show m + 3 < 1000 by omega) (by omega), nI_add, pk_vb, pk_vb, pk_vb, pk_vb]
  unfold ad4
  rw [byj_3]
  rfl
theorem ad4_len (M : sy_M) (m : Nat) (v : Int32) : ad4 M m v 1 0 = nI (m + 4) := rfl
def sel5 (a b c d e : Int32) (k : Nat) : Int32 := if k < 4 then a else if k < 8 then b else if k < 12 then c else if k < 16 then d else e
def fz (B : sy_M) (m : Nat) (a b c d e : Int32) : Nat → sy_M
  | 0 => B
  | k + 1 => mu (mu (fz B m a b c d e k) 1 (m + k) (byj (sel5 a b c d e k) (k % 4))) 0 5 (nI (m + k + 1))
theorem fz_5 (B : sy_M) {m : Nat} (a b c d e : Int32) (h : B 0 5 = nI m) : ∀ k, fz B m a b c d e k 0 5 = nI (m + k)
  | 0 => h
  | k + 1 => by unfold fz; rw [mu_eq]; rfl
theorem fz_step {M : sy_M} {n m k : Nat} {a b c d e : Int32} {Q : Int32 → sy_M → Prop} (hk : k < 20) (hm : M 0 5 = nI m) (hm2 : m < 1000) : wX12_feed_23 Q (n + 1) M a b c d e (nI k) ↔ wX12_feed_23 Q n (mu (mu M 1 m (byj (sel5 a b c d e k) (k % 4))) 0 5 (nI (m + 1))) a b c d e (nI (k + 1)) := by
  rw [wX12_feed_23]
  have e1 : ¬ nI 20 ≤ nI k := nI_ge hk (by omega)
  have key : ∀ v : Int32, wX12_feed_76 (fun M8 x1_9 x2_10 x3_11 x4_12 x5_13 x6_14 => wX12_feed_23 Q n M8 x1_9 x2_10 x3_11 x4_12 x5_13 x6_14) Q M a b c d e (nI k) v ↔ wX12_feed_23 Q n (mu (mu M 1 m (byj v (k % 4))) 0 5 (nI (m + 1))) a b c d e (nI (k + 1)) := by
    intro v
    unfold wX12_feed_76
    rw [hm, ex_nI hm2 (by omega), pk_rem (show k < 2 ^ 31 by omega) (show 0 < 4 by omega) (show 4 < 2 ^ 31 by omega), pk_mul, pk_sub (show 8 * (k % 4) ≤ 24 by omega), nI_1, nI_1]
    rw [show vp_nar FieldType.byte ((v >>> (nI (24 - 8 * (k % 4)) &&& 31)).toInt8.toInt32) = byj v (k % 4) from pk_vb _]
  simp only [e1, false_implies, true_and, not_false_eq_true, true_implies, key, nI_leI (show 4 < 2 ^ 31 by omega) (show k < 2 ^ 31 by omega), nI_leI (show 8 < 2 ^ 31 by omega) (show k < 2 ^ 31 by omega), nI_leI (show 12 < 2 ^ 31 by omega) (show k < 2 ^ 31 by omega), nI_leI (show 16 < 2 ^ 31 by omega) (show k < 2 ^ 31 by omega)]
  unfold sel5
  by_cases h4 : k < 4
  · simp [h4, show ¬ 4 ≤ k by omega]
  by_cases h8 : k < 8
  · simp [h4, h8, show 4 ≤ k by omega, show ¬ 8 ≤ k by omega]
  by_cases h12 : k < 12
  · simp [h4, h8, h12, show 4 ≤ k by omega, show 8 ≤ k by omega, show ¬ 12 ≤ k by omega]
  by_cases h16 : k < 16
  · simp [h4, h8, h12, h16, show 4 ≤ k by omega, show 8 ≤ k by omega, show 12 ≤ k by omega, show ¬ 16 ≤ k by omega]
  · simp [h4, h8, h12, h16, show 4 ≤ k by omega, show 8 ≤ k by omega, show 12 ≤ k by omega, show 16 ≤ k by omega]
theorem fz_all {B : sy_M} {m : Nat} {a b c d e : Int32} {Q : Int32 → sy_M → Prop} (hm : B 0 5 = nI m) (hm2 : m ≤ 980) (hq : Q (nI (m + 20)) (fz B m a b c d e 20)) : ∀ r k, k + r = 20 → wX12_feed_23 Q (r + 1) (fz B m a b c d e k) a b c d e (nI k)
  | 0, k, h => by
    have : k = 20 := by omega
    subst this
    rw [wX12_feed_23, fz_5 B a b c d e hm]
    have : nI 20 ≤ nI 20 := by decide
    simp [this, hq]
  | r + 1, k, h => by
    rw [fz_step (show k < 20 by omega) (fz_5 B a b c d e hm k) (show m + k < 1000 by omega)]
    exact fz_all hm hm2 hq r (k + 1) (by omega)
theorem fz_o (B : sy_M) (m : Nat) (a b c d e : Int32) {q : Nat} (i : Nat) (h1 : q ≠ 1) (h2 : q ≠ 0 ∨ i ≠ 5) : ∀ k, fz B m a b c d e k q i = B q i
  | 0 => rfl
  | k + 1 => by
    unfold fz
    rw [mu_ap, if_neg (by omega), mu_n1 _ _ _ _ h1]
    exact fz_o B m a b c d e i h1 h2 k
theorem fz_in (B : sy_M) (m : Nat) (a b c d e : Int32) (j : Nat) : ∀ k, j < k → fz B m a b c d e k 1 (m + j) = byj (sel5 a b c d e j) (j % 4)
  | 0, h => absurd h (by omega)
  | k + 1, h => by
    unfold fz
    rw [mu_n1 _ _ _ _ (by omega), mu_ap]
    by_cases hj : j = k
    · subst hj; simp
    · rw [if_neg (by omega)]
      exact fz_in B m a b c d e j k (by omega)
theorem fz_lo (B : sy_M) (m : Nat) (a b c d e : Int32) {i : Nat} (hi : i < m) : ∀ k, fz B m a b c d e k 1 i = B 1 i
  | 0 => rfl
  | k + 1 => by
    unfold fz
    rw [mu_n1 _ _ _ _ (by omega), mu_n2 _ _ _ _ (by omega)]
    exact fz_lo B m a b c d e hi k
/-- five numbers more -/
def ad20 (A : sy_M) (m : Nat) (a b c d e : Int32) : sy_M := ad4 (ad4 (ad4 (ad4 (ad4 A m a) (m + 4) b) (m + 8) c) (m + 12) d) (m + 16) e
theorem ad4_o (M : sy_M) (m : Nat) (v : Int32) {q : Nat} (i : Nat) (h : q ≠ 1) (h2 : q ≠ 2) : ad4 M m v q i = M q i := by
  unfold ad4
  rw [mu_n1 _ _ _ _ h, mu_n1 _ _ _ _ h2, mu_n1 _ _ _ _ h2, mu_n1 _ _ _ _ h2, mu_n1 _ _ _ _ h2]
theorem ad4_lo (M : sy_M) (m : Nat) (v : Int32) {i : Nat} (h : i < m ∨ m + 4 ≤ i) : ad4 M m v 2 i = M 2 i := by
  unfold ad4
  rw [mu_n1 _ _ _ _ (by omega), mu_n2 _ _ _ _ (by omega), mu_n2 _ _ _ _ (by omega), mu_n2 _ _ _ _ (by omega), mu_n2 _ _ _ _ (by omega)]
theorem ad4_in (M : sy_M) (m : Nat) (v : Int32) {j : Nat} (h : j < 4) : ad4 M m v 2 (m + j) = byj v j := by
  unfold ad4
  rw [mu_n1 _ _ _ _ (by omega)]
  match j, h with
  | 0, _ => rw [mu_n2 _ _ _ _ (by omega), mu_n2 _ _ _ _ (by omega), mu_n2 _ _ _ _ (by omega)]; exact mu_eq _ _ _ _
  | 1, _ => rw [mu_n2 _ _ _ _ (by omega), mu_n2 _ _ _ _ (by omega)]; exact mu_eq _ _ _ _
  | 2, _ => rw [mu_n2 _ _ _ _ (by omega)]; exact mu_eq _ _ _ _
  | 3, _ => exact mu_eq _ _ _ _
theorem ad20_in (A : sy_M) (m : Nat) (a b c d e : Int32) {j : Nat} (h : j < 20) : ad20 A m a b c d e 2 (m + j) = byj (sel5 a b c d e j) (j % 4) := by
  unfold ad20 sel5
  by_cases h16 : 16 ≤ j
  · rw [show m + j = m + 16 + (j - 16) by omega, ad4_in _ _ _ (by omega), if_neg (by omega), if_neg (by omega), if_neg (by omega), if_neg (by omega)]
    congr 1
    omega
  rw [ad4_lo _ _ _ (by omega)]
  by_cases h12 : 12 ≤ j
  · rw [show m + j = m + 12 + (j - 12) by omega, ad4_in _ _ _ (by omega), if_neg (by omega), if_neg (by omega), if_neg (by omega), if_pos (by omega)]
    congr 1
    omega
  rw [ad4_lo _ _ _ (by omega)]
  by_cases h8 : 8 ≤ j
  · rw [show m + j = m + 8 + (j - 8) by omega, ad4_in _ _ _ (by omega), if_neg (by omega), if_neg (by omega), if_pos (by omega)]
    congr 1
    omega
  rw [ad4_lo _ _ _ (by omega)]
  by_cases h4 : 4 ≤ j
  · rw [show m + j = m + 4 + (j - 4) by omega, ad4_in _ _ _ (by omega), if_neg (by omega), if_pos (by omega)]
    congr 1
    omega
  rw [ad4_lo _ _ _ (by omega), ad4_in _ _ _ (by omega), if_pos (by omega)]
  congr 1
  omega
theorem ad20_lo (A : sy_M) (m : Nat) (a b c d e : Int32) {i : Nat} (h : i < m) : ad20 A m a b c d e 2 i = A 2 i := by
  unfold ad20
  rw [ad4_lo _ _ _ (by omega), ad4_lo _ _ _ (by omega), ad4_lo _ _ _ (by omega), ad4_lo _ _ _ (by omega), ad4_lo _ _ _ (by omega)]
theorem ad20_o (A : sy_M) (m : Nat) (a b c d e : Int32) {q : Nat} (i : Nat) (h : q ≠ 1) (h2 : q ≠ 2) : ad20 A m a b c d e q i = A q i := by
  unfold ad20
  rw [ad4_o _ _ _ _ h h2, ad4_o _ _ _ _ h h2, ad4_o _ _ _ _ h h2, ad4_o _ _ _ _ h h2, ad4_o _ _ _ _ h h2]
theorem op_feed {cn : Nat} {A B : sy_M} (h : Rel cn A B) (a b c d e : Int32) {F : sy_M → sy_M → Prop} (hF : ∀ A' B', Rel cn A' B' → F A' B') : wX11_feed A a b c d e (fun r A' => wX12_feed B a b c d e (fun r' B' => r = r' ∧ F A' B')) := by
  have hz : Rel cn A (mu B 0 0 0) := h.z0
  obtain ⟨m, h1, h2, h3⟩ := h.len
  have h3' : mu B 0 0 0 0 5 = nI m := h3
  unfold wX11_feed wX12_feed
  rw [h2]
  simp only [h3, nI_add, nI_leI (show m < 2 ^ 31 by omega) (show 980 < 2 ^ 31 by omega), nI_leI (show m + 20 < 2 ^ 31 by omega) (show 1000 < 2 ^ 31 by omega)]
  by_cases c1 : m ≤ 980
  · have c2 : m + 20 ≤ 1000 := by omega
    simp only [c1, c2, true_implies, not_true_eq_false, false_implies, and_true]
    rw [addX h2 (by omega), addX (ad4_len _ _ _) (by omega), addX (ad4_len _ _ _) (by omega), addX (ad4_len _ _ _) (by omega), addX (ad4_len _ _ _) (by omega)]
    refine ⟨21, fz_all h3' c1 ⟨?_, ?_⟩ 20 0 rfl⟩
    · rfl
    · apply hF
      obtain ⟨t, nb, nc, dd, n, T, V, L, C, G, K, R, hQ, hw, hT, hL, hC, hd, hD, hP, hS⟩ := hz
      have ht := hQ.t
      have ex : n = m := by have := hP.2.1; rw [h2, nI_eq (by omega) (by have := hP.1; omega)] at this; exact this.symm
      subst ex
      show Rel cn (ad20 A n a b c d e) (fz (mu B 0 0 0) n a b c d e 20)
      refine ⟨t, nb, nc, dd, n + 20, T, V, L, C, G, K, R, hQ.cg (ad20_o _ _ _ _ _ _ _ _ (by omega) (by omega)) (ad20_o _ _ _ _ _ _ _ _ (by omega) (by omega)), hw, hT.cg hw (fun k hk i => ad20_o _ _ _ _ _ _ _ _ (by omega) (by omega)) (fz_o _ _ _ _ _ _ _ _ (by omega) (by omega) _) (fun p h1 h2 i _ => fz_o _ _ _ _ _ _ _ _ (by omega) (by omega) _) (fun i _ => fz_o _ _ _ _ _ _ _ _ (by omega) (by omega) _), hL.cg (fun _ _ => ad20_o _ _ _ _ _ _ _ _ (by omega) (by omega)) (fun _ _ => ad20_o _ _ _ _ _ _ _ _ (by omega) (by omega)) (fun _ _ => fz_o _ _ _ _ _ _ _ _ (by omega) (by omega) _) (fun _ _ => fz_o _ _ _ _ _ _ _ _ (by omega) (by omega) _), hC.cg (ad20_o _ _ _ _ _ _ _ _ (by omega) (by omega)) (fun p h1 h2 i => ad20_o _ _ _ _ _ _ _ _ (by omega) (by omega)) (fz_o _ _ _ _ _ _ _ _ (by omega) (by omega) _) (fun p h1 h2 i => fz_o _ _ _ _ _ _ _ _ (by omega) (by omega) _), hd, hD.cg (ad20_o _ _ _ _ _ _ _ _ (by omega) (by omega)) (fun p h1 i => ad20_o _ _ _ _ _ _ _ _ (by omega) (by omega)) (fz_o _ _ _ _ _ _ _ _ (by omega) (by omega) _) (fun p h1 h2 i => fz_o _ _ _ _ _ _ _ _ (by omega) (by omega) _), ⟨by omega, rfl, fz_5 _ _ _ _ _ _ h3' 20, fun i hi => ?_⟩, hS.cg (ad20_o _ _ _ _ _ _ _ _ (by omega) (by omega)) (ad20_o _ _ _ _ _ _ _ _ (by omega) (by omega)) (ad20_o _ _ _ _ _ _ _ _ (by omega) (by omega)) (ad20_o _ _ _ _ _ _ _ _ (by omega) (by omega)) (fz_o _ _ _ _ _ _ _ _ (by omega) (by omega) _) (fz_o _ _ _ _ _ _ _ _ (by omega) (by omega) _) (fz_o _ _ _ _ _ _ _ _ (by omega) (by omega) _) (fz_o _ _ _ _ _ _ _ _ (by omega) (by omega) _) (ad20_o _ _ _ _ _ _ _ _ (by omega) (by omega))⟩
      by_cases hi2 : i < n
      · rw [ad20_lo _ _ _ _ _ _ _ hi2, fz_lo _ _ _ _ _ _ _ hi2]
        exact hP.2.2.2 i hi2
      · obtain ⟨j, rfl⟩ : ∃ j, i = n + j := ⟨i - n, by omega⟩
        rw [ad20_in _ _ _ _ _ _ _ (by omega), fz_in _ _ _ _ _ _ _ _ _ (by omega)]
        exact ⟨rfl, _, rfl⟩
  · have c2 : ¬ m + 20 ≤ 1000 := by omega
    simp only [c1, c2, true_implies, not_false_eq_true, false_implies, true_and]
    exact hF _ _ hz
theorem nar01 {x : Int32} (h : x = 0 ∨ x = 1) : vp_nar .boolean x = x := by
  rcases h with h | h <;> subst h <;> decide
theorem isFromX (M : sy_M) (lo hi v : Int32) (Q : Int32 → sy_M → Prop) : wX11_isFrom M lo hi v Q ↔ if ¬ v < lo ∧ ¬ hi < v then Q 1 M else Q 0 M := by
  unfold wX11_isFrom
  by_cases h1 : v < lo <;> by_cases h2 : hi < v <;> simp [h1, h2]
theorem withinZ (M : sy_M) (lo hi v : Int32) (Q : Int32 → sy_M → Prop) : wX12_within M v lo hi Q ↔ if ¬ v < lo ∧ ¬ hi < v then Q 1 M else Q 0 M := by
  unfold wX12_within
  by_cases h1 : v < lo <;> by_cases h2 : hi < v <;> simp [h1, h2]
theorem op_size {cn : Nat} {A B : sy_M} (h : Rel cn A B) (a1 a2 a3 : Int32) {F : sy_M → sy_M → Prop} (hF : ∀ A' B', Rel cn A' B' → F A' B') : wX11_size A a1 a2 a3 (fun r A' => wX12_size B a1 a2 a3 (fun r' B' => r = r' ∧ F A' B')) := by
  have hz := hF _ _ (h.z0 (v := 0))
  have hR := h.z0 (v := 0)
  obtain ⟨t, nb, nc, d, n, T, V, L, C, G, K, R, hQ, hw, hT, hL, hC, hd, hD, hP, hS⟩ := h
  obtain ⟨q1, q2, q3, q4⟩ := hQ.t
  have hnb := hw.1
  have hB13 : mu B 0 0 0 0 13 = nI nb := hT.2.1
  unfold wX11_size wX12_size wX11_isTick
  rw [ex_t q1 q2]
  by_cases hb : ∃ b, b < nb ∧ a1 = nI b
  · obtain ⟨b, hb, rfl⟩ := hb
    obtain ⟨-, ⟨x3, x4, x5⟩, -⟩ := hT.2.2.2 b hb
    obtain ⟨y1, -⟩ := hw.2.2.2.1 b hb
    have e1 : ∀ p, 2 ≤ p → ∀ i, mu B 0 0 0 p i = B p i := fun p hp i => mu_n1 _ _ _ _ (by omega)
    rw [isLeaf_y hT.1 hb hnb x3 y1]
    simp only [isBox_y hB13 hb hnb, ex_nI (show b < 82 by omega) (by omega), e1 3 (by omega), x4, b01_0, isFromX, withinZ, i10]
    by_cases gg : T 1 b = 0
    · by_cases c2 : ¬ a2 < 0 ∧ ¬ nI 999 < a2
      · by_cases c3 : ¬ a3 < 0 ∧ ¬ nI 999999 < a3
        · obtain ⟨k, -, hk, rfl⟩ := nI_rng (lo := 0) (hi := 999) c2.1 c2.2 (by decide) (by decide)
          obtain ⟨v, -, hv, rfl⟩ := nI_rng (lo := 0) (hi := 999999) c3.1 c3.2 (by decide) (by decide)
          obtain ⟨u1, u2, u3, u4⟩ := hC
          have u3' : mu B 0 0 0 0 24 = nI nc := u3
          simp only [gg, c2, c3, if_pos, not_false_eq_true, and_self, i10, not_true_eq_false, true_implies, false_implies, and_true, true_and, wX0_add, u2, u3', nI_ltI (show nc < 2 ^ 31 by omega) (show 100 < 2 ^ 31 by omega), nI_eq (show nc < 2 ^ 31 by omega) (show 100 < 2 ^ 31 by omega)]
          by_cases c4 : nc < 100
          · have c5 : ¬ nc = 100 := by omega
            simp only [c4, c5, true_implies, false_implies, not_true_eq_false, not_false_eq_true, and_true, true_and]
            rw [ex_nI c4 (by omega), ex_nI c4 (by omega)]
            refine ⟨Or.inr trivial, hF _ _ ?_⟩
            rw [nI_1]
            refine ⟨t, nb, nc + 1, d, n, T, V, L, (fun q i => if i = nc then (if q = 0 then b else if q = 1 then k else v) else C q i), G, K, R, hQ.cg rfl rfl, hw, hT.cg hw (fun j hj i => by repeat rw [mu_n1 _ _ _ _ (by omega)]) rfl (fun p h1 h2 i _ => by repeat rw [mu_n1 _ _ _ _ (by omega)]) (fun i _ => rfl), hL.cg (fun _ _ => by repeat rw [mu_n1 _ _ _ _ (by omega)]) (fun _ _ => by repeat rw [mu_n1 _ _ _ _ (by omega)]) (fun _ _ => rfl) (fun _ _ => rfl), ?_, hd, hD.cg rfl (fun p h1 i => by repeat rw [mu_n1 _ _ _ _ (by omega)]) rfl (fun p h1 h2 i => by repeat rw [mu_n1 _ _ _ _ (by omega)]), hP.cg rfl (fun _ => rfl) rfl (fun _ => rfl), hS.cg rfl rfl rfl rfl rfl rfl rfl rfl⟩
            refine ⟨by omega, rfl, rfl, fun i hi => ?_⟩
            by_cases hi2 : i = nc
            · subst hi2
              refine ⟨⟨?_, ?_, ?_, ?_⟩, ⟨?_, ?_, ?_⟩, ?_, ?_, ?_⟩ <;> simp [mu_ap] <;> first | assumption | omega
            · obtain ⟨⟨w1, w2, w3, w4⟩, ⟨w5, w6, w7⟩, w8, w9, w10⟩ := u4 i (by omega)
              refine ⟨⟨?_, ?_, ?_, ?_⟩, ⟨?_, ?_, ?_⟩, ?_, ?_, ?_⟩ <;> simp [mu_ap, hi2] <;> assumption
          · have c5 : nc = 100 := by omega
            simp [c4, c5, hz]
        · simp only [gg, c2, c3, if_pos, if_neg, not_false_eq_true, and_self, i10, not_true_eq_false, true_implies, false_implies, and_true, true_and, if_false, if_true, eq_self]
          exact ⟨Or.inr trivial, hz⟩
      · simp only [gg, c2, if_neg, if_pos, not_false_eq_true, i10, not_true_eq_false, true_implies, false_implies, and_true, true_and, if_false, if_true, eq_self]
        exact ⟨Or.inl trivial, hz⟩
    · simp only [gg, if_neg, not_false_eq_true, i10, not_true_eq_false, true_implies, false_implies, and_true, true_and, if_false, eq_self]
      exact hz
  · rw [isLeaf_n hT.1 hb hnb]
    simp only [isBox_n hB13 hb hnb]
    simp [hz]
theorem op_rest {cn : Nat} {A B : sy_M} (h : Rel cn A B) (a1 a2 a3 : Int32) (ha3 : a3 = 0 ∨ a3 = 1) {F : sy_M → sy_M → Prop} (hF : ∀ A' B', Rel cn A' B' → F A' B') : wX11_rest A a1 a2 a3 (fun r A' => wX12_rest B a1 a2 a3 (fun r' B' => r = r' ∧ F A' B')) := by
  have hz := hF _ _ (h.z0 (v := 0))
  obtain ⟨t, nb, nc, d, n, T, V, L, C, G, K, R, hQ, hw, hT, hL, hC, hd, hD, hP, hS⟩ := h
  obtain ⟨q1, q2, q3, q4⟩ := hQ.t
  have hnb := hw.1
  have hB13 : mu B 0 0 0 0 13 = nI nb := hT.2.1
  unfold wX11_rest wX12_rest
  rw [ex_t q1 q2]
  by_cases hb : ∃ b, b < nb ∧ a1 = nI b
  · obtain ⟨b, hb, rfl⟩ := hb
    obtain ⟨-, ⟨x3, x4, x5⟩, -⟩ := hT.2.2.2 b hb
    obtain ⟨y1, -⟩ := hw.2.2.2.1 b hb
    have e1 : ∀ p, 2 ≤ p → ∀ i, mu B 0 0 0 p i = B p i := fun p hp i => mu_n1 _ _ _ _ (by omega)
    rw [isGroup_y hT.1 hb hnb x3 y1]
    simp only [isBox_y hB13 hb hnb, ex_nI (show b < 82 by omega) (by omega), e1 3 (by omega), x4, b01_0, isFromX, withinZ, i10]
    by_cases gg : T 1 b = 0
    · simp [gg, hz]
    by_cases c2 : ¬ a2 < 0 ∧ ¬ nI 999 < a2
    · obtain ⟨k, -, hk, rfl⟩ := nI_rng (lo := 0) (hi := 999) c2.1 c2.2 (by decide) (by decide)
      simp only [gg, c2, if_pos, not_false_eq_true, and_self, i10, not_true_eq_false, true_implies, false_implies, and_true, true_and]
      rw [ex_t q1 q2, ex_nI (show b < 40 by omega) (by omega), ex_t (show (mu A (t + 8) b (nI k)) 0 6 = nI t by rw [mu_n1 _ _ _ _ (by omega)]; exact q1) q2, nar01 ha3]
      refine ⟨by omega, by omega, hF _ _ ?_⟩
      obtain ⟨o, ho, rfl⟩ : ∃ o : Nat, o ≤ 1 ∧ a3 = nI o := by
        rcases ha3 with e | e
        · exact ⟨0, by omega, e⟩
        · exact ⟨1, by omega, e⟩
      refine ⟨t, nb, nc, d, n, T, V, (fun q i => if i = b then (if q = 0 then k else o) else L q i), C, G, K, R, hQ.cg (by repeat rw [mu_n1 _ _ _ _ (by omega)]) (by repeat rw [mu_n1 _ _ _ _ (by omega)]), hw, ?_, ?_, hC.cg (by repeat rw [mu_n1 _ _ _ _ (by omega)]) (fun p h1 h2 i => by repeat rw [mu_n1 _ _ _ _ (by omega)]) rfl (fun p h1 h2 i => by repeat rw [mu_n1 _ _ _ _ (by omega)]), hd, hD.cg (by repeat rw [mu_n1 _ _ _ _ (by omega)]) (fun p h1 i => by repeat rw [mu_n1 _ _ _ _ (by omega)]) rfl (fun p h1 h2 i => by repeat rw [mu_n1 _ _ _ _ (by omega)]), hP.cg (by repeat rw [mu_n1 _ _ _ _ (by omega)]) (fun _ => by repeat rw [mu_n1 _ _ _ _ (by omega)]) rfl (fun _ => rfl), hS.cg (by repeat rw [mu_n1 _ _ _ _ (by omega)]) (by repeat rw [mu_n1 _ _ _ _ (by omega)]) (by repeat rw [mu_n1 _ _ _ _ (by omega)]) (by repeat rw [mu_n1 _ _ _ _ (by omega)]) rfl rfl rfl rfl (by repeat rw [mu_n1 _ _ _ _ (by omega)])⟩
      · obtain ⟨g1, g2, g3, g4⟩ := hT
        refine ⟨by rw [mu_n1 _ _ _ _ (by omega), mu_n1 _ _ _ _ (by omega)]; exact g1, g2, by rw [mu_n1 _ _ _ _ (by omega), mu_n1 _ _ _ _ (by omega)]; exact g3, fun c hc => ?_⟩
        simp only [mu_ap, show ¬ (t + 1 = t + 8) by omega, show ¬ (t + 1 = t + 9) by omega, show ¬ (t + 2 = t + 8) by omega, show ¬ (t + 2 = t + 9) by omega, show ¬ (t + 3 = t + 8) by omega, show ¬ (t + 3 = t + 9) by omega, show ¬ (t + 4 = t + 8) by omega, show ¬ (t + 4 = t + 9) by omega, show ¬ (t + 5 = t + 8) by omega, show ¬ (t + 5 = t + 9) by omega, show ¬ (t + 6 = t + 8) by omega, show ¬ (t + 6 = t + 9) by omega, show ¬ (t + 7 = t + 8) by omega, show ¬ (t + 7 = t + 9) by omega, show ¬ (t + 10 = t + 8) by omega, show ¬ (t + 10 = t + 9) by omega, false_and, if_false]
        exact g4 c hc
      · intro c hc
        by_cases hc2 : c = b
        · subst hc2
          refine ⟨⟨?_, ?_, ?_⟩, ?_, ?_, ?_⟩ <;> simp [mu_ap] <;> omega
        · obtain ⟨⟨w1, w2, w3⟩, w4, w5, w6⟩ := hL c hc
          refine ⟨⟨?_, ?_, ?_⟩, ?_, ?_, ?_⟩ <;> simp [mu_ap, hc2] <;> assumption
    · simp only [gg, c2, if_neg, not_false_eq_true, i10, not_true_eq_false, true_implies, false_implies, and_true, true_and, if_false, eq_self]
      exact hz
  · rw [isGroup_n hT.1 hb hnb]
    simp only [isBox_n hB13 hb hnb]
    simp [hz]
