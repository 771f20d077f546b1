/-! the calls that only read -/
theorem i10 : ((1 : Int32) = 0) = False := eq_false (by decide)
theorem sw9 (a : Int32) : (((a = 0) = True) ∧ ((a = 1) = False) ∧ ((a = nI 2) = False) ∧ ((a = nI 3) = False) ∧ ((a = nI 4) = False) ∧ ((a = nI 5) = False) ∧ ((a = nI 6) = False) ∧ ((a = nI 7) = False) ∧ ((a = nI 8) = False)) ∨ (((a = 0) = False) ∧ ((a = 1) = True) ∧ ((a = nI 2) = False) ∧ ((a = nI 3) = False) ∧ ((a = nI 4) = False) ∧ ((a = nI 5) = False) ∧ ((a = nI 6) = False) ∧ ((a = nI 7) = False) ∧ ((a = nI 8) = False)) ∨ (((a = 0) = False) ∧ ((a = 1) = False) ∧ ((a = nI 2) = True) ∧ ((a = nI 3) = False) ∧ ((a = nI 4) = False) ∧ ((a = nI 5) = False) ∧ ((a = nI 6) = False) ∧ ((a = nI 7) = False) ∧ ((a = nI 8) = False)) ∨ (((a = 0) = False) ∧ ((a = 1) = False) ∧ ((a = nI 2) = False) ∧ ((a = nI 3) = True) ∧ ((a = nI 4) = False) ∧ ((a = nI 5) = False) ∧ ((a = nI 6) = False) ∧ ((a = nI 7) = False) ∧ ((a = nI 8) = False)) ∨ (((a = 0) = False) ∧ ((a = 1) = False) ∧ ((a = nI 2) = False) ∧ ((a = nI 3) = False) ∧ ((a = nI 4) = True) ∧ ((a = nI 5) = False) ∧ ((a = nI 6) = False) ∧ ((a = nI 7) = False) ∧ ((a = nI 8) = False)) ∨ (((a = 0) = False) ∧ ((a = 1) = False) ∧ ((a = nI 2) = False) ∧ ((a = nI 3) = False) ∧ ((a = nI 4) = False) ∧ ((a = nI 5) = True) ∧ ((a = nI 6) = False) ∧ ((a = nI 7) = False) ∧ ((a = nI 8) = False)) ∨ (((a = 0) = False) ∧ ((a = 1) = False) ∧ ((a = nI 2) = False) ∧ ((a = nI 3) = False) ∧ ((a = nI 4) = False) ∧ ((a = nI 5) = False) ∧ ((a = nI 6) = True) ∧ ((a = nI 7) = False) ∧ ((a = nI 8) = False)) ∨ (((a = 0) = False) ∧ ((a = 1) = False) ∧ ((a = nI 2) = False) ∧ ((a = nI 3) = False) ∧ ((a = nI 4) = False) ∧ ((a = nI 5) = False) ∧ ((a = nI 6) = False) ∧ ((a = nI 7) = True) ∧ ((a = nI 8) = False)) ∨ (((a = 0) = False) ∧ ((a = 1) = False) ∧ ((a = nI 2) = False) ∧ ((a = nI 3) = False) ∧ ((a = nI 4) = False) ∧ ((a = nI 5) = False) ∧ ((a = nI 6) = False) ∧ ((a = nI 7) = False) ∧ ((a = nI 8) = True)) ∨ (((a = 0) = False) ∧ ((a = 1) = False) ∧ ((a = nI 2) = False) ∧ ((a = nI 3) = False) ∧ ((a = nI 4) = False) ∧ ((a = nI 5) = False) ∧ ((a = nI 6) = False) ∧ ((a = nI 7) = False) ∧ ((a = nI 8) = False)) := by
  by_cases c0 : a = 0
  · exact Or.inl ⟨eq_true c0, eq_false (by rw [c0]; decide), eq_false (by rw [c0]; decide), eq_false (by rw [c0]; decide), eq_false (by rw [c0]; decide), eq_false (by rw [c0]; decide), eq_false (by rw [c0]; decide), eq_false (by rw [c0]; decide), eq_false (by rw [c0]; decide)⟩
  by_cases c1 : a = 1
  · exact Or.inr (Or.inl ⟨eq_false (by rw [c1]; decide), eq_true c1, eq_false (by rw [c1]; decide), eq_false (by rw [c1]; decide), eq_false (by rw [c1]; decide), eq_false (by rw [c1]; decide), eq_false (by rw [c1]; decide), eq_false (by rw [c1]; decide), eq_false (by rw [c1]; decide)⟩)
  by_cases c2 : a = nI 2
  · exact Or.inr (Or.inr (Or.inl ⟨eq_false (by rw [c2]; decide), eq_false (by rw [c2]; decide), eq_true c2, eq_false (by rw [c2]; decide), eq_false (by rw [c2]; decide), eq_false (by rw [c2]; decide), eq_false (by rw [c2]; decide), eq_false (by rw [c2]; decide), eq_false (by rw [c2]; decide)⟩))
  by_cases c3 : a = nI 3
  · exact Or.inr (Or.inr (Or.inr (Or.inl ⟨eq_false (by rw [c3]; decide), eq_false (by rw [c3]; decide), eq_false (by rw [c3]; decide), eq_true c3, eq_false (by rw [c3]; decide), eq_false (by rw [c3]; decide), eq_false (by rw [c3]; decide), eq_false (by rw [c3]; decide), eq_false (by rw [c3]; decide)⟩)))
  by_cases c4 : a = nI 4
  · exact Or.inr (Or.inr (Or.inr (Or.inr (Or.inl ⟨eq_false (by rw [c4]; decide), eq_false (by rw [c4]; decide), eq_false (by rw [c4]; decide), eq_false (by rw [c4]; decide), eq_true c4, eq_false (by rw [c4]; decide), eq_false (by rw [c4]; decide), eq_false (by rw [c4]; decide), eq_false (by rw [c4]; decide)⟩))))
  by_cases c5 : a = nI 5
  · exact Or.inr (Or.inr (Or.inr (Or.inr (Or.inr (Or.inl ⟨eq_false (by rw [c5]; decide), eq_false (by rw [c5]; decide), eq_false (by rw [c5]; decide), eq_false (by rw [c5]; decide), eq_false (by rw [c5]; decide), eq_true c5, eq_false (by rw [c5]; decide), eq_false (by rw [c5]; decide), eq_false (by rw [c5]; decide)⟩)))))
  by_cases c6 : a = nI 6
  · exact Or.inr (Or.inr (Or.inr (Or.inr (Or.inr (Or.inr (Or.inl ⟨eq_false (by rw [c6]; decide), eq_false (by rw [c6]; decide), eq_false (by rw [c6]; decide), eq_false (by rw [c6]; decide), eq_false (by rw [c6]; decide), eq_false (by rw [c6]; decide), eq_true c6, eq_false (by rw [c6]; decide), eq_false (by rw [c6]; decide)⟩))))))
  by_cases c7 : a = nI 7
  · exact Or.inr (Or.inr (Or.inr (Or.inr (Or.inr (Or.inr (Or.inr (Or.inl ⟨eq_false (by rw [c7]; decide), eq_false (by rw [c7]; decide), eq_false (by rw [c7]; decide), eq_false (by rw [c7]; decide), eq_false (by rw [c7]; decide), eq_false (by rw [c7]; decide), eq_false (by rw [c7]; decide), eq_true c7, eq_false (by rw [c7]; decide)⟩)))))))
  by_cases c8 : a = nI 8
  · exact Or.inr (Or.inr (Or.inr (Or.inr (Or.inr (Or.inr (Or.inr (Or.inr (Or.inl ⟨eq_false (by rw [c8]; decide), eq_false (by rw [c8]; decide), eq_false (by rw [c8]; decide), eq_false (by rw [c8]; decide), eq_false (by rw [c8]; decide), eq_false (by rw [c8]; decide), eq_false (by rw [c8]; decide), eq_false (by rw [c8]; decide), eq_true c8⟩))))))))
  exact Or.inr (Or.inr (Or.inr (Or.inr (Or.inr (Or.inr (Or.inr (Or.inr (Or.inr ⟨eq_false c0, eq_false c1, eq_false c2, eq_false c3, eq_false c4, eq_false c5, eq_false c6, eq_false c7, eq_false c8⟩))))))))
theorem op_about {cn : Nat} {A B : sy_M} (h : Rel cn A B) (a1 a2 : Int32) {F : sy_M → sy_M → Prop} (hF : ∀ A' B', Rel cn A' B' → F A' B') : wX11_about A a1 a2 (fun r A' => wX12_about B a1 a2 (fun r' B' => r = r' ∧ F A' B')) := by
  have hz := hF _ _ (h.z0 (v := 0))
  obtain ⟨t, nb, nc, d, n, T, V, L, C, G, K, R, hQ, hw, hT, hL, hC, hd, hD, hP, hS⟩ := h
  obtain ⟨q1, q2, q3, q4⟩ := hQ.t
  have hnb := hw.1
  have hB13 : mu B 0 0 0 0 13 = nI nb := hT.2.1
  unfold wX11_about wX12_about
  rw [ex_t q1 q2]
  by_cases hb : ∃ b, b < nb ∧ a1 = nI b
  · obtain ⟨b, hb, rfl⟩ := hb
    obtain ⟨⟨x1, x2⟩, ⟨x3, x4, x5⟩, ⟨x6, x7⟩, ⟨x8, x9⟩, x10, x11, ⟨x12, x13⟩, ⟨x14, x15⟩, x16⟩ := hT.2.2.2 b hb
    obtain ⟨y1, y2, y3, y4, y5, y6, y7, y8, y9⟩ := hw.2.2.2.1 b hb
    obtain ⟨⟨z1, z2, z3⟩, z4, z5, z6⟩ := hL b hb
    have e1 : ∀ p, 2 ≤ p → mu B 0 0 0 p b = B p b := fun p hp => mu_n1 _ _ _ _ (by omega)
    rw [has_y hT.1 hb hnb]
    simp only [isBox_y hB13 hb hnb, ex_t q1 q2, ex_nI (show b < 40 by omega) (by omega), ex_nI (show b < 82 by omega) (by omega), isGroup_y hT.1 hb hnb x3 y1, wX11_aboutGroup, e1 2 (by omega), e1 3 (by omega), e1 4 (by omega), e1 5 (by omega), e1 6 (by omega), e1 7 (by omega), e1 9 (by omega), e1 14 (by omega), e1 15 (by omega), x1, x2, x3, x4, x6, x7, x8, x9, x12, x13, x14, x15, z2, z3, z5, z6, b01_0, nI_0i (show T 6 b < 2 ^ 31 by omega), nI_0i (show L 1 b < 2 ^ 31 by omega)]
    have hb41 : b < 41 := by omega
    by_cases g : T 1 b = 0
    · have s : (T 1 b = 0) = True := eq_true g
      rcases sw9 a2 with ⟨s0, s1, s2, s3, s4, s5, s6, s7, s8⟩ | ⟨s0, s1, s2, s3, s4, s5, s6, s7, s8⟩ | ⟨s0, s1, s2, s3, s4, s5, s6, s7, s8⟩ | ⟨s0, s1, s2, s3, s4, s5, s6, s7, s8⟩ | ⟨s0, s1, s2, s3, s4, s5, s6, s7, s8⟩ | ⟨s0, s1, s2, s3, s4, s5, s6, s7, s8⟩ | ⟨s0, s1, s2, s3, s4, s5, s6, s7, s8⟩ | ⟨s0, s1, s2, s3, s4, s5, s6, s7, s8⟩ | ⟨s0, s1, s2, s3, s4, s5, s6, s7, s8⟩ | ⟨s0, s1, s2, s3, s4, s5, s6, s7, s8⟩ <;> simp only [s0, s1, s2, s3, s4, s5, s6, s7, s8, true_implies, false_implies, not_true_eq_false, not_false_eq_true, and_true, true_and, i10, eq_self,  s, hb41] <;> exact hz
    · have x5 := x5 g
      have s : (T 1 b = 0) = False := eq_false g
      by_cases g6 : T 6 b = 0 <;> by_cases g1 : L 1 b = 0 <;> simp only [g6, g1] <;> rcases sw9 a2 with ⟨s0, s1, s2, s3, s4, s5, s6, s7, s8⟩ | ⟨s0, s1, s2, s3, s4, s5, s6, s7, s8⟩ | ⟨s0, s1, s2, s3, s4, s5, s6, s7, s8⟩ | ⟨s0, s1, s2, s3, s4, s5, s6, s7, s8⟩ | ⟨s0, s1, s2, s3, s4, s5, s6, s7, s8⟩ | ⟨s0, s1, s2, s3, s4, s5, s6, s7, s8⟩ | ⟨s0, s1, s2, s3, s4, s5, s6, s7, s8⟩ | ⟨s0, s1, s2, s3, s4, s5, s6, s7, s8⟩ | ⟨s0, s1, s2, s3, s4, s5, s6, s7, s8⟩ | ⟨s0, s1, s2, s3, s4, s5, s6, s7, s8⟩ <;> simp only [s0, s1, s2, s3, s4, s5, s6, s7, s8, true_implies, false_implies, not_true_eq_false, not_false_eq_true, and_true, true_and, i10, eq_self,  s, hb41, x5] <;> exact hz
  · rw [has_n hT.1 hb hnb]
    simp only [isBox_n hB13 hb hnb]
    simp [hz]
theorem op_letter {cn : Nat} {A B : sy_M} (h : Rel cn A B) (a1 a2 : Int32) {F : sy_M → sy_M → Prop} (hF : ∀ A' B', Rel cn A' B' → F A' B') : wX11_letter A a1 a2 (fun r A' => wX12_letter B a1 a2 (fun r' B' => r = r' ∧ F A' B')) := by
  have hz := hF _ _ (h.z0 (v := 0))
  obtain ⟨t, nb, nc, d, n, T, V, L, C, G, K, R, hQ, hw, hT, hL, hC, hd, hD, hP, hS⟩ := h
  obtain ⟨q1, q2, q3, q4⟩ := hQ.t
  have hnb := hw.1
  have hB13 : mu B 0 0 0 0 13 = nI nb := hT.2.1
  unfold wX11_letter wX12_letter
  rw [ex_t q1 q2]
  by_cases hb : ∃ b, b < nb ∧ a1 = nI b
  · obtain ⟨b, hb, rfl⟩ := hb
    obtain ⟨⟨x1, x2⟩, ⟨x3, x4, x5⟩, ⟨x6, x7⟩, ⟨x8, x9⟩, x10, x11, ⟨x12, x13⟩, ⟨x14, x15⟩, x16⟩ := hT.2.2.2 b hb
    obtain ⟨y1, y2, y3, y4, y5, y6, y7, y8, y9⟩ := hw.2.2.2.1 b hb
    have e1 : ∀ p, 2 ≤ p → ∀ i, mu B 0 0 0 p i = B p i := fun p hp i => mu_n1 _ _ _ _ (by omega)
    rw [has_y hT.1 hb hnb]
    simp only [isBox_y hB13 hb hnb, ex_t q1 q2, ex_nI (show b < 40 by omega) (by omega), ex_nI (show b < 82 by omega) (by omega), e1 9 (by omega), e1 10 (by omega), x12, x13]
    by_cases c1 : a2 < 0
    · simp [c1, hz]
    · by_cases c2 : nI (T 5 b) ≤ a2
      · simp [c1, c2, hz]
      · obtain ⟨k, hk, rfl⟩ := nI_ofx c1 c2 (by omega)
        obtain ⟨u1, u2⟩ := x16 k hk
        have hv := y9 k hk
        have hand : nI (V b k) &&& nI 255 = nI (V b k) := by
          rw [show nI 255 = nI (2 ^ 8 - 1) from rfl, pk_andN (show V b k < 2 ^ 32 by omega) 8 (by decide)]
          congr 1
          omega
        simp only [c1, c2, not_false_eq_true, true_implies, false_implies, and_true, true_and, wX10_nameByte, pk_mul, nI_add, ex_nI (show b * 8 + k < 320 by omega) (by omega), ex_nI (show 8 * b + k < 320 by omega) (by omega), ex_nI (show 8 * b + k < 656 by omega) (by omega), u2, show b * 8 + k = 8 * b + k by omega, u1, hand]
        simp [hz]
  · rw [has_n hT.1 hb hnb]
    simp only [isBox_n hB13 hb hnb]
    simp [hz]
/-- SHAPE, by numbers -/
def shp (s w h : Nat) : Nat := if s = 0 then 0 else if w = 0 ∨ h = 0 then 1000000 else max w h * 1000 / min w h
theorem imin_nI {a b : Nat} (ha : a < 2 ^ 31) (hb : b < 2 ^ 31) : imin (nI a) (nI b) = nI (min a b) := by
  unfold imin
  by_cases h : b < a
  · rw [if_pos (by rw [nI_ltI hb ha]; exact h)]; congr 1; omega
  · rw [if_neg (by rw [nI_ltI hb ha]; exact h)]; congr 1; omega
theorem imax_nI {a b : Nat} (ha : a < 2 ^ 31) (hb : b < 2 ^ 31) : imax (nI a) (nI b) = nI (max a b) := by
  unfold imax
  by_cases h : a < b
  · rw [if_pos (by rw [nI_ltI ha hb]; exact h)]; congr 1; omega
  · rw [if_neg (by rw [nI_ltI ha hb]; exact h)]; congr 1; omega
theorem nI_0p {n : Nat} (h : n < 2 ^ 31) : 0 < nI n ↔ 0 < n := by
  rw [← nI_0, nI_ltI (by decide) h]
theorem shapeX {M : sy_M} {s w h : Nat} {Q : Int32 → sy_M → Prop} (hs : s < 2 ^ 31) (hw : w ≤ 3000) (hh : h ≤ 3000) : wX11_shapeOf M (nI s) (nI w) (nI h) Q ↔ Q (nI (shp s w h)) M := by
  have key : ∀ a b, a ≤ 3000 → b ≤ 3000 → (wX11_shapeOf_27 Q M (nI a) (nI b) ↔ Q (nI (if a = 0 then 1000000 else b * 1000 / a)) M) := by
    intro a b ha hb
    unfold wX11_shapeOf_27
    rw [nI_0p (by omega), nI_0i (by omega), pk_mul]
    by_cases h3 : a = 0
    · have h4 : ¬ 0 < a := by omega
      simp only [eq_true h3, eq_false h4, false_implies, true_implies, not_false_eq_true, true_and, if_true]
    · have h4 : 0 < a := by omega
      rw [pk_div (show b * 1000 < 2 ^ 31 by omega) h4 (by omega)]
      simp only [eq_false h3, eq_true h4, false_implies, true_implies, not_true_eq_false, not_false_eq_true, true_and, and_true, if_false]
  unfold wX11_shapeOf wX11_shapeOf_16 shp
  simp only [key w w hw hw, key w h hw hh, key h w hh hw, key h h hh hh, nI_0i hs, nI_leI (show h < 2 ^ 31 by omega) (show w < 2 ^ 31 by omega)]
  by_cases h1 : s = 0
  · simp [h1, nI_0]
  · by_cases h2 : h ≤ w
    · have e1 : max w h = w := by omega
      have e2 : min w h = h := by omega
      simp only [eq_false h1, eq_true h2, false_implies, true_implies, not_true_eq_false, not_false_eq_true, true_and, and_true, if_false, e1, e2]
      by_cases h3 : h = 0
      · rw [if_pos h3, if_pos (Or.inr h3)]
      · rw [if_neg h3, if_neg (by omega)]
    · have e1 : max w h = h := by omega
      have e2 : min w h = w := by omega
      simp only [eq_false h1, eq_false h2, false_implies, true_implies, not_true_eq_false, not_false_eq_true, true_and, and_true, if_false, e1, e2]
      by_cases h3 : w = 0
      · rw [if_pos h3, if_pos (Or.inl h3)]
      · rw [if_neg h3, if_neg (by omega)]
theorem shapeZ {M : sy_M} {s w h : Nat} {Q : Int32 → sy_M → Prop} (hs : s < 2 ^ 31) (hw : w ≤ 3000) (hh : h ≤ 3000) : wX12_shape M (nI s) (nI w) (nI h) Q ↔ Q (nI (shp s w h)) M := by
  unfold wX12_shape wX12_shape_28 shp
  simp only [nI_0i hs, nI_0i (show w < 2 ^ 31 by omega), nI_0i (show h < 2 ^ 31 by omega), nI_leI (show w < 2 ^ 31 by omega) (show h < 2 ^ 31 by omega), pk_mul]
  by_cases h1 : s = 0
  · simp [h1, nI_0]
  · by_cases h2 : w = 0
    · simp [h1, h2]
    · by_cases h3 : h = 0
      · simp [h1, h2, h3]
      · by_cases h4 : w ≤ h
        · rw [pk_div (show h * 1000 < 2 ^ 31 by omega) (show 0 < w by omega) (show w < 2 ^ 31 by omega)]
          simp [h1, h2, h3, h4, Nat.max_eq_right h4, Nat.min_eq_left h4]
        · have h5 : h ≤ w := by omega
          rw [pk_div (show w * 1000 < 2 ^ 31 by omega) (show 0 < h by omega) (show h < 2 ^ 31 by omega)]
          simp [h1, h2, h3, h4, Nat.max_eq_left h5, Nat.min_eq_right h5]
theorem Rel.d {cn : Nat} {A B : sy_M} (h : Rel cn A B) : ∃ d, d ≤ cn ∧ A 9 0 = nI d ∧ B 0 40 = nI d := by
  obtain ⟨t, nb, nc, d, n, T, V, L, C, G, K, R, hQ, hw, hT, hL, hC, hd, hD, hP, hS⟩ := h
  exact ⟨d, hd, hD.1, hD.2.1⟩
theorem op_box {cn : Nat} {A B : sy_M} (hcn : cn < 2 ^ 20) (h : Rel cn A B) (a1 a2 : Int32) {F : sy_M → sy_M → Prop} (hF : ∀ A' B', Rel cn A' B' → F A' B') : wX11_box A a1 a2 (fun r A' => wX12_box B a1 a2 (fun r' B' => r = r' ∧ F A' B')) := by
  have hz := hF _ _ (h.z0 (v := 0))
  obtain ⟨t, nb, nc, d, n, T, V, L, C, G, K, R, hQ, hw, hT, hL, hC, hd, hD, hP, hS⟩ := h
  obtain ⟨q1, q2, q3, q4⟩ := hQ.t
  have hnb := hw.1
  have hB13 : mu B 0 0 0 0 13 = nI nb := hT.2.1
  have hB40 : mu B 0 0 0 0 40 = nI d := hD.2.1
  unfold wX11_box wX12_box
  rw [hD.1, ex_t q1 q2]
  by_cases h0 : d = 0
  · subst h0
    have : nI 0 = 0 := nI_0
    simp only [isDrawn_0 hB40]
    simp [this, hz]
  have h0' : 0 < d := by omega
  have hd0 : ¬ nI d = 0 := nI_ne0 h0' (by omega)
  by_cases hb : ∃ b, b < nb ∧ a1 = nI b
  · obtain ⟨b, hb, rfl⟩ := hb
    obtain ⟨⟨x1, x2⟩, ⟨x3, x4, x5⟩, -⟩ := hT.2.2.2 b hb
    obtain ⟨y1, -⟩ := hw.2.2.2.1 b hb
    have e1 : ∀ p, 2 ≤ p → ∀ i, mu B 0 0 0 p i = B p i := fun p hp i => mu_n1 _ _ _ _ (by omega)
    obtain ⟨-, hg⟩ := hD.2.2.2.1 (d - 1) (by omega) (by omega)
    obtain ⟨⟨g1, g2, g3⟩, ⟨g4, g5, g6⟩, g7⟩ := hg b hb
    have m1 : (d - 1) % 50 < 50 := Nat.mod_lt _ (by omega)
    have m2 : (d - 1) % 51 < 51 := Nat.mod_lt _ (by omega)
    rw [has_y hT.1 hb hnb]
    simp only [isDrawn_y hB40 h0' (by omega) hB13 hb hnb, hB40, nI_m1 h0', rowOf_y (show d - 1 < 2 ^ 20 by omega), latest_y hD.1 h0' (by omega), nI_add, ex_nI (show (d - 1) % 50 * 40 + b < 2000 by omega) (by omega), ex_nI (show 41 * ((d - 1) % 51) + b < 2091 by omega) (by omega), ex_nI (show b < 82 by omega) (by omega), e1 26 (by omega), e1 31 (by omega), e1 3 (by omega), g2, g3, g5, g6, nI_0i (show G (d - 1) 0 b < 2 ^ 31 by omega), x4, b01_0]
    by_cases c4 : a2 = nI 4
    · simp [c4, hd0, hz]
    by_cases s0 : G (d - 1) 0 b = 0
    · simp [c4, s0, hd0, hz]
    obtain ⟨⟨k1, k2⟩, ⟨k3, k4⟩, ⟨k5, k6⟩, ⟨k7, k8⟩, k9, k10⟩ := g7 (by omega)
    simp only [wX11_box_76, wX12_box_64, wX7_tell, ex_t q1 q2, isGroup_y hT.1 hb hnb x3 y1, nI_add, ex_nI (show (d - 1) % 50 * 40 + b < lX7 11 by show _ < 2000; omega) (by decide), ex_nI (show 41 * ((d - 1) % 51) + b < 2091 by omega) (by omega), ex_nI (show b < 40 by omega) (by omega), ex_nI (show b < 41 by omega) (by omega), e1 27 (by omega), e1 28 (by omega), e1 29 (by omega), e1 30 (by omega), e1 31 (by omega), e1 32 (by omega), e1 33 (by omega), k1, k2, k3, k4, k5, k6, k7, k8, g5, g6, shapeX (show G (d - 1) 5 b < 2 ^ 31 by omega) (show G (d - 1) 3 b ≤ 3000 by omega) (show G (d - 1) 4 b ≤ 3000 by omega), shapeZ (show G (d - 1) 5 b < 2 ^ 31 by omega) (show G (d - 1) 3 b ≤ 3000 by omega) (show G (d - 1) 4 b ≤ 3000 by omega), b01_0]
    have hd0' : (nI d = 0) = False := eq_false hd0
    have s0' : (G (d - 1) 0 b = 0) = False := eq_false s0
    have c5 : ((a2 ≤ nI 5) = True ∧ (a2 = nI 6) = False ∧ (a2 = nI 7) = False) ∨ ((a2 ≤ nI 5) = False ∧ (a2 = 0) = False ∧ (a2 = 1) = False ∧ (a2 = nI 2) = False ∧ (a2 = nI 3) = False ∧ (a2 = nI 5) = False) := by
      by_cases c5 : a2 ≤ nI 5
      · exact Or.inl ⟨eq_true c5, eq_false (fun e => absurd c5 (by rw [e]; decide)), eq_false (fun e => absurd c5 (by rw [e]; decide))⟩
      · exact Or.inr ⟨eq_false c5, eq_false (fun e => c5 (by rw [e]; decide)), eq_false (fun e => c5 (by rw [e]; decide)), eq_false (fun e => c5 (by rw [e]; decide)), eq_false (fun e => c5 (by rw [e]; decide)), eq_false (fun e => c5 (by rw [e]; decide))⟩
    by_cases gg : T 1 b = 0
    · have s : (T 1 b = 0) = True := eq_true gg
      rcases c5 with ⟨l5, l6, l7⟩ | ⟨l5, l0, l1, l2, l3, l4⟩
      · simp only [l5, l6, l7, s, hd0', s0', eq_false c4, true_implies, false_implies, not_true_eq_false, not_false_eq_true, and_true, true_and, i10, eq_self]
        rcases sw9 a2 with ⟨s0, s1, s2, s3, s4, s5, s6, s7, s8⟩ | ⟨s0, s1, s2, s3, s4, s5, s6, s7, s8⟩ | ⟨s0, s1, s2, s3, s4, s5, s6, s7, s8⟩ | ⟨s0, s1, s2, s3, s4, s5, s6, s7, s8⟩ | ⟨s0, s1, s2, s3, s4, s5, s6, s7, s8⟩ | ⟨s0, s1, s2, s3, s4, s5, s6, s7, s8⟩ | ⟨s0, s1, s2, s3, s4, s5, s6, s7, s8⟩ | ⟨s0, s1, s2, s3, s4, s5, s6, s7, s8⟩ | ⟨s0, s1, s2, s3, s4, s5, s6, s7, s8⟩ | ⟨s0, s1, s2, s3, s4, s5, s6, s7, s8⟩ <;> simp only [s0, s1, s2, s3, s4, s5, s6, s7, s8, true_implies, false_implies, not_true_eq_false, not_false_eq_true, and_true, true_and, i10, eq_self,  hz]
      · simp only [l5, l0, l1, l2, l3, l4, s, hd0', s0', eq_false c4, true_implies, false_implies, not_true_eq_false, not_false_eq_true, and_true, true_and, i10, eq_self]
        rcases sw9 a2 with ⟨s0, s1, s2, s3, s4, s5, s6, s7, s8⟩ | ⟨s0, s1, s2, s3, s4, s5, s6, s7, s8⟩ | ⟨s0, s1, s2, s3, s4, s5, s6, s7, s8⟩ | ⟨s0, s1, s2, s3, s4, s5, s6, s7, s8⟩ | ⟨s0, s1, s2, s3, s4, s5, s6, s7, s8⟩ | ⟨s0, s1, s2, s3, s4, s5, s6, s7, s8⟩ | ⟨s0, s1, s2, s3, s4, s5, s6, s7, s8⟩ | ⟨s0, s1, s2, s3, s4, s5, s6, s7, s8⟩ | ⟨s0, s1, s2, s3, s4, s5, s6, s7, s8⟩ | ⟨s0, s1, s2, s3, s4, s5, s6, s7, s8⟩ <;> simp only [s0, s1, s2, s3, s4, s5, s6, s7, s8, true_implies, false_implies, not_true_eq_false, not_false_eq_true, and_true, true_and, i10, eq_self,  hz]
    · obtain ⟨⟨r1, r2, r3⟩, ⟨r4, r5, r6⟩, -⟩ := hD.2.2.2.2 h0' b hb gg
      have s : (T 1 b = 0) = False := eq_false gg
      rcases c5 with ⟨l5, l6, l7⟩ | ⟨l5, l0, l1, l2, l3, l4⟩
      · simp only [r2, r3, r5, r6, l5, l6, l7, s, hd0', s0', eq_false c4, true_implies, false_implies, not_true_eq_false, not_false_eq_true, and_true, true_and, i10, eq_self]
        rcases sw9 a2 with ⟨s0, s1, s2, s3, s4, s5, s6, s7, s8⟩ | ⟨s0, s1, s2, s3, s4, s5, s6, s7, s8⟩ | ⟨s0, s1, s2, s3, s4, s5, s6, s7, s8⟩ | ⟨s0, s1, s2, s3, s4, s5, s6, s7, s8⟩ | ⟨s0, s1, s2, s3, s4, s5, s6, s7, s8⟩ | ⟨s0, s1, s2, s3, s4, s5, s6, s7, s8⟩ | ⟨s0, s1, s2, s3, s4, s5, s6, s7, s8⟩ | ⟨s0, s1, s2, s3, s4, s5, s6, s7, s8⟩ | ⟨s0, s1, s2, s3, s4, s5, s6, s7, s8⟩ | ⟨s0, s1, s2, s3, s4, s5, s6, s7, s8⟩ <;> simp only [s0, s1, s2, s3, s4, s5, s6, s7, s8, true_implies, false_implies, not_true_eq_false, not_false_eq_true, and_true, true_and, i10, eq_self,  hz]
      · simp only [r2, r3, r5, r6, l5, l0, l1, l2, l3, l4, s, hd0', s0', eq_false c4, true_implies, false_implies, not_true_eq_false, not_false_eq_true, and_true, true_and, i10, eq_self]
        rcases sw9 a2 with ⟨s0, s1, s2, s3, s4, s5, s6, s7, s8⟩ | ⟨s0, s1, s2, s3, s4, s5, s6, s7, s8⟩ | ⟨s0, s1, s2, s3, s4, s5, s6, s7, s8⟩ | ⟨s0, s1, s2, s3, s4, s5, s6, s7, s8⟩ | ⟨s0, s1, s2, s3, s4, s5, s6, s7, s8⟩ | ⟨s0, s1, s2, s3, s4, s5, s6, s7, s8⟩ | ⟨s0, s1, s2, s3, s4, s5, s6, s7, s8⟩ | ⟨s0, s1, s2, s3, s4, s5, s6, s7, s8⟩ | ⟨s0, s1, s2, s3, s4, s5, s6, s7, s8⟩ | ⟨s0, s1, s2, s3, s4, s5, s6, s7, s8⟩ <;> simp only [s0, s1, s2, s3, s4, s5, s6, s7, s8, true_implies, false_implies, not_true_eq_false, not_false_eq_true, and_true, true_and, i10, eq_self,  hz]
  · rw [has_n hT.1 hb hnb]
    simp only [isDrawn_n hB13 hb hnb]
    simp [hd0, hz]
