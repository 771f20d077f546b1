theorem i32_ss (a b c : Int32) : a - b - c = a - (b + c) := by
  rw [Int32.sub_eq_add_neg, Int32.sub_eq_add_neg, Int32.sub_eq_add_neg, Int32.neg_add, Int32.add_assoc, Int32.sub_eq_add_neg]
theorem i32_ns (a b : Int32) : 0 - (a - b) = b - a := by
  rw [Int32.zero_sub, Int32.neg_sub]
def absd (a b : Nat) : Nat := max a b - min a b
theorem iabs_nI {a b : Nat} (ha : a < 2 ^ 30) (hb : b < 2 ^ 30) : iabs (nI a - nI b) = nI (absd a b) := by
  unfold iabs absd
  by_cases h : b ≤ a
  · rw [pk_sub h, if_pos (nI_pos' (by omega))]
    congr 1
    omega
  · rw [if_neg, i32_ns, pk_sub (by omega)]
    · congr 1
      omega
    · intro h2
      have h3 := pk_sneg hb (show a < b by omega)
      rw [Int32.le_iff_toInt_le] at h2
      rw [Int32.lt_iff_toInt_lt] at h3
      omega
theorem absd_c (a b : Nat) : absd a b = absd b a := by unfold absd; omega
/-- MOVES of one: how far the four sides are apart -/
def mvd (x y w h x2 y2 w2 h2 : Nat) : Nat := absd x x2 + absd y y2 + absd (x + w) (x2 + w2) + absd (y + h) (y2 + h2)
theorem distX {M : sy_M} {p q i k x y w h x2 y2 w2 h2 : Nat} {Q : Int32 → sy_M → Prop} (hi : i < lX7 p) (hk : k < lX7 q) (b1 : x + w ≤ 3000) (b2 : y + h ≤ 3000) (b3 : x2 + w2 ≤ 3000) (b4 : y2 + h2 ≤ 3000)
    (e1 : M (p + 1) i = nI x) (e2 : M (p + 2) i = nI y) (e3 : M (p + 3) i = nI w) (e4 : M (p + 4) i = nI h) (e5 : M (q + 1) k = nI x2) (e6 : M (q + 2) k = nI y2) (e7 : M (q + 3) k = nI w2) (e8 : M (q + 4) k = nI h2) :
    wX7_distance M p (nI i) q (nI k) Q ↔ Q (nI (mvd x y w h x2 y2 w2 h2)) M := by
  have l1 := lX7_lt p
  have l2 := lX7_lt q
  unfold wX7_distance
  rw [ex_nI hi (by omega)]
  rw [ex_nI hk (by omega), e1, e2, e3, e4, e5, e6, e7, e8, i32_ss, i32_ss, nI_add, nI_add, nI_add, nI_add, iabs_nI (by omega) (by omega), iabs_nI (by omega) (by omega), iabs_nI (by omega) (by omega), iabs_nI (by omega) (by omega), nI_add, nI_add, nI_add]
  rfl
theorem sizeZ {M : sy_M} {a b : Nat} {Q : Int32 → sy_M → Prop} (ha : a < 2 ^ 30) (hb : b < 2 ^ 30) : wX12_size_ M (nI a - nI b) Q ↔ Q (nI (absd a b)) M := by
  rw [← iabs_nI ha hb]
  unfold wX12_size_ iabs
  by_cases h : 0 ≤ nI a - nI b
  · simp [h]
  · simp [h, Int32.zero_sub]
theorem farZ {M : sy_M} {r b x y w h x2 y2 w2 h2 : Nat} {Q : Int32 → sy_M → Prop} (hi : r + b < 2091) (b1 : x + w ≤ 3000) (b2 : y + h ≤ 3000) (b3 : x2 + w2 ≤ 3000) (b4 : y2 + h2 ≤ 3000)
    (e5 : M 27 (r + b) = nI x2) (e6 : M 28 (r + b) = nI y2) (e7 : M 29 (r + b) = nI w2) (e8 : M 30 (r + b) = nI h2) :
    wX12_far M (nI r) (nI b) (nI x) (nI y) (nI w) (nI h) Q ↔ Q (nI (mvd x y w h x2 y2 w2 h2)) M := by
  unfold wX12_far
  rw [nI_add, ex_nI hi (by omega)]
  simp only [e5, e6, e7, e8, i32_ss, nI_add, sizeZ (show x < 2 ^ 30 by omega) (show x2 < 2 ^ 30 by omega), sizeZ (show y < 2 ^ 30 by omega) (show y2 < 2 ^ 30 by omega), sizeZ (show x + w < 2 ^ 30 by omega) (show x2 + w2 < 2 ^ 30 by omega), sizeZ (show y + h < 2 ^ 30 by omega) (show y2 + h2 < 2 ^ 30 by omega)]
  rfl
theorem mvd_c (x y w h x2 y2 w2 h2 : Nat) : mvd x y w h x2 y2 w2 h2 = mvd x2 y2 w2 h2 x y w h := by unfold mvd; rw [absd_c x, absd_c y, absd_c (x + w), absd_c (y + h)]
theorem op_moved {cn : Nat} {A B : sy_M} (hcn : cn < 2 ^ 20) (h : Rel cn A B) (a1 : Int32) {F : sy_M → sy_M → Prop} (hF : ∀ A' B', Rel cn A' B' → F A' B') : wX11_moved A a1 (fun r A' => wX12_moved B a1 (fun r' B' => r = r' ∧ F A' B')) := by
  have hz := hF _ _ (h.z0 (v := 0))
  obtain ⟨t, nb, nc, d, n, T, V, L, C, G, K, R, hQ, hw, hT, hL, hC, hd, hD, hP, hS⟩ := h
  obtain ⟨q1, q2, q3, q4⟩ := hQ.t
  have hnb := hw.1
  have hB13 : mu B 0 0 0 0 13 = nI nb := hT.2.1
  have hB40 : mu B 0 0 0 0 40 = nI d := hD.2.1
  unfold wX11_moved wX12_moved
  rw [hD.1, ex_t q1 q2]
  simp only [hD.2.1, nI_ltI (show d < 2 ^ 31 by omega) (show 2 < 2 ^ 31 by omega)]
  by_cases h2 : d < 2
  · simp [h2, hz]
  have s2 : (d < 2) = False := eq_false h2
  by_cases hb : ∃ b, b < nb ∧ a1 = nI b
  · obtain ⟨b, hb, rfl⟩ := hb
    have e1 : ∀ p, 2 ≤ p → ∀ i, mu B 0 0 0 p i = B p i := fun p hp i => mu_n1 _ _ _ _ (by omega)
    obtain ⟨-, hg⟩ := hD.2.2.2.1 (d - 1) (by omega) (by omega)
    obtain ⟨⟨g1, g2, g3⟩, -, g7⟩ := hg b hb
    obtain ⟨-, hg⟩ := hD.2.2.2.1 (d - 2) (by omega) (by omega)
    obtain ⟨⟨f1, f2, f3⟩, -, f7⟩ := hg b hb
    have m1 : (d - 1) % 50 < 50 := Nat.mod_lt _ (by omega)
    have m2 : (d - 1) % 51 < 51 := Nat.mod_lt _ (by omega)
    have m3 : (d - 2) % 50 < 50 := Nat.mod_lt _ (by omega)
    have m4 : (d - 2) % 51 < 51 := Nat.mod_lt _ (by omega)
    rw [has_y hT.1 hb hnb]
    simp only [s2, false_implies, true_implies, not_false_eq_true, not_true_eq_false, true_and, and_true, i10, isBox_y hB13 hb hnb, hD.1, hB40, nI_m1 (show 0 < d by omega), pk_sub (show 2 ≤ d by omega), rowOf_y (show d - 1 < 2 ^ 20 by omega), rowOf_y (show d - 2 < 2 ^ 20 by omega), cell_y (show d - 2 < 2 ^ 20 by omega), latest_y hD.1 (show 0 < d by omega) (by omega), nI_add, ex_nI (show (d - 1) % 50 * 40 + b < 2000 by omega) (by omega), ex_nI (show (d - 2) % 50 * 40 + b < 2000 by omega) (by omega), ex_nI (show 41 * ((d - 1) % 51) + b < 2091 by omega) (by omega), ex_nI (show 41 * ((d - 2) % 51) + b < 2091 by omega) (by omega), e1 26 (by omega), g2, g3, f2, f3, nI_0i (show G (d - 1) 0 b < 2 ^ 31 by omega), nI_0i (show G (d - 2) 0 b < 2 ^ 31 by omega)]
    by_cases s0 : G (d - 1) 0 b = 0
    · by_cases s1 : G (d - 2) 0 b = 0 <;> simp [s0, s1, hz]
    by_cases s1 : G (d - 2) 0 b = 0
    · simp [s0, s1, hz]
    obtain ⟨⟨k1, k2⟩, ⟨k3, k4⟩, ⟨k5, k6⟩, ⟨k7, k8⟩, k9, k10⟩ := g7 (by omega)
    obtain ⟨⟨j1, j2⟩, ⟨j3, j4⟩, ⟨j5, j6⟩, ⟨j7, j8⟩, j9, j10⟩ := f7 (by omega)
    simp only [eq_false s0, eq_false s1, false_implies, true_implies, not_false_eq_true, not_true_eq_false, true_and, and_true]
    rw [distX (p := 11) (q := 11) (show _ < 2000 by omega) (show _ < 2000 by omega) j9 j10 k9 k10 j1 j3 j5 j7 k1 k3 k5 k7]
    simp only [e1 27 (by omega), e1 28 (by omega), e1 29 (by omega), e1 30 (by omega), k2, k4, k6, k8]
    rw [farZ (show 41 * ((d - 2) % 51) + b < 2091 by omega) k9 k10 j9 j10 (by rw [e1 27 (by omega)]; exact j2) (by rw [e1 28 (by omega)]; exact j4) (by rw [e1 29 (by omega)]; exact j6) (by rw [e1 30 (by omega)]; exact j8), mvd_c]
    exact ⟨rfl, hz⟩
  · rw [has_n hT.1 hb hnb]
    simp only [isBox_n hB13 hb hnb]
    simp [s2, hz]
theorem op_letters {cn : Nat} {A B : sy_M} (hcn : cn < 2 ^ 20) (h : Rel cn A B) (a1 : Int32) {F : sy_M → sy_M → Prop} (hF : ∀ A' B', Rel cn A' B' → F A' B') : wX11_letters A a1 (fun r A' => wX12_letters B a1 (fun r' B' => r = r' ∧ F A' B')) := by
  have hz := hF _ _ (h.z0 (v := 0))
  obtain ⟨t, nb, nc, d, n, T, V, L, C, G, K, R, hQ, hw, hT, hL, hC, hd, hD, hP, hS⟩ := h
  obtain ⟨q1, q2, q3, q4⟩ := hQ.t
  have hnb := hw.1
  have hB13 : mu B 0 0 0 0 13 = nI nb := hT.2.1
  have hB40 : mu B 0 0 0 0 40 = nI d := hD.2.1
  unfold wX11_letters wX12_letters
  rw [hD.1, ex_t q1 q2]
  by_cases h0 : d = 0
  · subst h0
    have : nI 0 = 0 := nI_0
    simp only [isDrawn_0 hB40]
    simp [this, hz]
  have h0' : 0 < d := by omega
  have hd0 : (nI d = 0) = False := eq_false (nI_ne0 h0' (by omega))
  by_cases hb : ∃ b, b < nb ∧ a1 = nI b
  · obtain ⟨b, hb, rfl⟩ := hb
    obtain ⟨-, -, -, -, -, -, ⟨x12, x13⟩, -⟩ := hT.2.2.2 b hb
    obtain ⟨y1, y2, y3, y4, y5, -⟩ := hw.2.2.2.1 b hb
    have e1 : ∀ p, 2 ≤ p → ∀ i, mu B 0 0 0 p i = B p i := fun p hp i => mu_n1 _ _ _ _ (by omega)
    obtain ⟨-, hg⟩ := hD.2.2.2.1 (d - 1) (by omega) (by omega)
    obtain ⟨⟨g1, g2, g3⟩, -, g7⟩ := hg b hb
    have m1 : (d - 1) % 50 < 50 := Nat.mod_lt _ (by omega)
    have m2 : (d - 1) % 51 < 51 := Nat.mod_lt _ (by omega)
    rw [has_y hT.1 hb hnb]
    simp only [hd0, false_implies, true_implies, not_false_eq_true, not_true_eq_false, true_and, and_true, i10, isDrawn_y hB40 h0' (by omega) hB13 hb hnb, hB40, nI_m1 h0', rowOf_y (show d - 1 < 2 ^ 20 by omega), latest_y hD.1 h0' (by omega), nI_add, ex_nI (show (d - 1) % 50 * 40 + b < 2000 by omega) (by omega), ex_nI (show 41 * ((d - 1) % 51) + b < 2091 by omega) (by omega), ex_nI (show b < 82 by omega) (by omega), ex_nI (show b < 40 by omega) (by omega), e1 26 (by omega), e1 30 (by omega), e1 29 (by omega), e1 9 (by omega), g2, g3, nI_0i (show G (d - 1) 0 b < 2 ^ 31 by omega), ex_t q1 q2, x12, x13]
    by_cases s0 : G (d - 1) 0 b = 0
    · simp [s0, hz]
    obtain ⟨⟨k1, k2⟩, ⟨k3, k4⟩, ⟨k5, k6⟩, ⟨k7, k8⟩, k9, k10⟩ := g7 (by omega)
    simp only [eq_false s0, false_implies, true_implies, not_false_eq_true, not_true_eq_false, true_and, and_true, k5, k6, k7, k8]
    by_cases s1 : nI (G (d - 1) 4 b) < nI 10
    · simp [s1, hz]
    by_cases s2 : 2 ≤ G (d - 1) 3 b
    · have u1 : nI 2 ≤ nI (G (d - 1) 3 b) := nI_le s2 (by omega)
      have u2 : 0 ≤ nI (G (d - 1) 3 b) - nI 2 := by rw [pk_sub s2]; exact nI_pos' (by omega)
      simp [s1, u1, u2, hz]
    · have u1 : ¬ nI 2 ≤ nI (G (d - 1) 3 b) := nI_ge (by omega) (by omega)
      have u2 : ¬ 0 ≤ nI (G (d - 1) 3 b) - nI 2 := by
        have h3 := pk_sneg (show 2 < 2 ^ 30 by omega) (show G (d - 1) 3 b < 2 by omega)
        intro h4
        rw [Int32.le_iff_toInt_le] at h4
        rw [Int32.lt_iff_toInt_lt] at h3
        omega
      simp [s1, u1, u2, hz]
  · rw [has_n hT.1 hb hnb]
    simp only [isDrawn_n hB13 hb hnb]
    simp [hd0, hz]
theorem op_restOf {cn : Nat} {A B : sy_M} (hcn : cn < 2 ^ 20) (h : Rel cn A B) (a1 a2 : Int32) {F : sy_M → sy_M → Prop} (hF : ∀ A' B', Rel cn A' B' → F A' B') : wX11_restOf A a1 a2 (fun r A' => wX12_restOf B a1 a2 (fun r' B' => r = r' ∧ F A' B')) := by
  have hz := hF _ _ (h.z0 (v := 0))
  obtain ⟨t, nb, nc, d, n, T, V, L, C, G, K, R, hQ, hw, hT, hL, hC, hd, hD, hP, hS⟩ := h
  obtain ⟨q1, q2, q3, q4⟩ := hQ.t
  have hnb := hw.1
  have hB13 : mu B 0 0 0 0 13 = nI nb := hT.2.1
  have hB40 : mu B 0 0 0 0 40 = nI d := hD.2.1
  unfold wX11_restOf wX12_restOf
  rw [hD.1, ex_t q1 q2]
  by_cases h0 : d = 0
  · subst h0
    have : nI 0 = 0 := nI_0
    simp only [isDrawn_0 hB40]
    simp [this, hz]
  have h0' : 0 < d := by omega
  have hd0 : (nI d = 0) = False := eq_false (nI_ne0 h0' (by omega))
  by_cases hb : ∃ b, b < nb ∧ a1 = nI b
  · obtain ⟨b, hb, rfl⟩ := hb
    obtain ⟨-, ⟨x3, x4, x5⟩, -⟩ := hT.2.2.2 b hb
    obtain ⟨y1, y2, y3, y4, y5, -⟩ := hw.2.2.2.1 b hb
    have e1 : ∀ p, 2 ≤ p → ∀ i, mu B 0 0 0 p i = B p i := fun p hp i => mu_n1 _ _ _ _ (by omega)
    rw [isGroup_y hT.1 hb hnb x3 y1]
    simp only [hd0, false_implies, true_implies, not_false_eq_true, not_true_eq_false, true_and, and_true, i10, isDrawn_y hB40 h0' (by omega) hB13 hb hnb, ex_nI (show b < 82 by omega) (by omega), ex_nI (show b < 40 by omega) (by omega), e1 3 (by omega), e1 34 (by omega), e1 35 (by omega), e1 36 (by omega), e1 37 (by omega), e1 38 (by omega), e1 39 (by omega), x4, b01_0]
    by_cases gg : T 1 b = 0
    · simp [gg, hz]
    obtain ⟨-, -, ⟨r7, r8, r9⟩, r10⟩ := hD.2.2.2.2 h0' b hb gg
    simp only [eq_false gg, false_implies, true_implies, not_false_eq_true, not_true_eq_false, true_and, and_true, r8, r9, nI_0i (show R 2 b < 2 ^ 31 by omega)]
    by_cases s0 : R 2 b = 0
    · simp [s0, hz, show b < 41 by omega]
    obtain ⟨⟨k1, k2⟩, ⟨k3, k4⟩, ⟨k5, k6⟩, ⟨k7, k8⟩, ⟨k9, k10⟩, k11, k12, k13⟩ := r10 s0
    simp only [eq_false s0, false_implies, true_implies, not_false_eq_true, not_true_eq_false, true_and, and_true, wX7_tell, ex_nI (show b < lX7 20 by show _ < 40; omega) (by decide), k1, k2, k3, k4, k5, k6, k7, k8, k9, k10, shapeX (show R 7 b < 2 ^ 31 by omega) (show R 5 b ≤ 3000 by omega) (show R 6 b ≤ 3000 by omega), shapeZ (show R 7 b < 2 ^ 31 by omega) (show R 5 b ≤ 3000 by omega) (show R 6 b ≤ 3000 by omega), show b < 41 by omega]
    rcases sw9 a2 with ⟨s0, s1, s2, s3, s4, s5, s6, s7, s8⟩ | ⟨s0, s1, s2, s3, s4, s5, s6, s7, s8⟩ | ⟨s0, s1, s2, s3, s4, s5, s6, s7, s8⟩ | ⟨s0, s1, s2, s3, s4, s5, s6, s7, s8⟩ | ⟨s0, s1, s2, s3, s4, s5, s6, s7, s8⟩ | ⟨s0, s1, s2, s3, s4, s5, s6, s7, s8⟩ | ⟨s0, s1, s2, s3, s4, s5, s6, s7, s8⟩ | ⟨s0, s1, s2, s3, s4, s5, s6, s7, s8⟩ | ⟨s0, s1, s2, s3, s4, s5, s6, s7, s8⟩ | ⟨s0, s1, s2, s3, s4, s5, s6, s7, s8⟩ <;> simp only [s0, s1, s2, s3, s4, s5, s6, s7, s8, true_implies, false_implies, not_true_eq_false, not_false_eq_true, and_true, true_and, i10, eq_self] <;> exact hz
  · rw [isGroup_n hT.1 hb hnb]
    simp only [isDrawn_n hB13 hb hnb]
    simp [hd0, hz]
