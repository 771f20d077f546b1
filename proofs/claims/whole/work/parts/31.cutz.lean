/-! CUTS: the reference's -/
theorem firstPartZ {M : sy_M} {g : Nat → Nat} {m n f k t : Nat} {Q : Int32 → sy_M → Prop} (h : ahZ g m M) (hn : n ≤ 3000) (hk : f + k ≤ t) (ht : t ≤ m) : wX12_firstPart M (nI n) (nI f) (nI k) (nI t) Q ↔ Q (nI (cfp g n f k t)) M := by
  have hm := h.1
  have m3 := ahd_mono g ht
  have m4 := h.2.1
  have m1 := ahd_mono g (show f ≤ f + k by omega)
  have m2 := ahd_mono g hk
  unfold wX12_firstPart cfp shr
  rw [sumZ h (by omega) ht, nI_0i (by omega), nI_add, sumZ h (by omega) (by omega)]
  by_cases h0 : ahd g t - ahd g f = 0
  · simp [h0, nI_0]
  · have hns : n * (ahd g (f + k) - ahd g f) ≤ 3000 * 400000000 := Nat.mul_le_mul hn (by omega)
    rw [nI_l (show n < 2 ^ 31 by omega), nI_l (show ahd g (f + k) - ahd g f < 2 ^ 31 by omega), nI_l (show ahd g t - ahd g f < 2 ^ 31 by omega), lN_mul, pk_lDiv (show n * (ahd g (f + k) - ahd g f) < 2 ^ 63 by omega) (by omega) (by omega), lN_i]
    have h2 : ¬ lN (ahd g t - ahd g f) = 0 := by
      rw [show (0 : Int64) = lN 0 from rfl, pk_lEQ (by omega) (by omega)]
      exact h0
    simp only [h0, h2, not_false_eq_true, true_implies, false_implies, and_true, true_and, if_false]
theorem cutByZ {M : sy_M} {g : Nat → Nat} {m f k t way w h : Nat} {rec : sy_M → Int32 → Int32 → Int32 → Int32 → (Int32 → sy_M → Prop) → Prop} {Q : Int32 → sy_M → Prop} (ha : ahZ g m M) (hw : w ≤ 3000) (hh : h ≤ 3000) (hk1 : 1 ≤ k) (hk : f + k < t) (ht : t ≤ m) (hway : way ≤ 1)
    (hrec : ∀ (K : Int32 → sy_M → Prop) f' t' w' h', f ≤ f' → f' < t' → t' ≤ t → t' - f' < t - f → w' ≤ 3000 → h' ≤ 3000 → K (nI (cv g f' t' w' h')) M → rec M (nI f') (nI t') (nI w') (nI h') K)
    (hq : Q (nI (cbv g f t k way w h)) M) : wX12_cutBy rec M (nI f) (nI t) (nI k) (nI way) (nI w) (nI h) Q := by
  have c1 := cfp_le g (n := w) (show f + k ≤ t by omega)
  have c2 := cfp_le g (n := h) (show f + k ≤ t by omega)
  unfold wX12_cutBy wX12_cutBy_13 wX12_cutBy_38 wX12_cutBy_50 wX12_cutBy_75 wX12_cutBy_90
  have b1 := fun w' h' => cv_bd g (f := f) (t := f + k) (w := w') (h := h')
  have b2 := fun w' h' => cv_bd g (f := f + k) (t := t) (w := w') (h := h')
  rcases (show way = 0 ∨ way = 1 by omega) with e | e
  · subst e
    simp only [nI_0, not_true_eq_false, false_implies, true_implies, true_and]
    rw [firstPartZ ha hw (by omega) ht, nI_add, pk_sub c1]
    refine hrec _ f (f + k) _ h (Nat.le_refl _) (by omega) (by omega) (by omega) (by omega) hh ?_
    refine hrec _ (f + k) t _ h (by omega) (by omega) (Nat.le_refl _) (by omega) (by omega) hh ?_
    have := b1 (cfp g w f k t) h (by omega) hh
    have := b2 (w - cfp g w f k t) h (by omega) hh
    rw [imax_nI (by omega) (by omega)]
    exact hq
  · subst e
    have i1 : ¬ nI 1 = 0 := by decide
    simp only [i1, not_false_eq_true, false_implies, true_implies, and_true]
    rw [firstPartZ ha hh (by omega) ht, nI_add, pk_sub c2]
    refine hrec _ f (f + k) w _ (Nat.le_refl _) (by omega) (by omega) (by omega) hw (by omega) ?_
    refine hrec _ (f + k) t w _ (by omega) (by omega) (Nat.le_refl _) (by omega) hw (by omega) ?_
    have := b1 w (cfp g h f k t) hw (by omega)
    have := b2 w (h - cfp g h f k t) hw (by omega)
    rw [imax_nI (by omega) (by omega)]
    exact hq
theorem cmn_bd {F : Nat → Nat} : ∀ n, cmn F n ≤ 2147483647
  | 0 => Nat.le_refl _
  | n + 1 => by
    have := cmn_bd (F := F) n
    rw [cmn]
    omega
theorem cutWorstZ {M : sy_M} {g : Nat → Nat} {m : Nat} (hi : inZ m g M) : ∀ D f t w h (Q : Int32 → sy_M → Prop), f < t → t ≤ m → t ≤ f + D → w ≤ 3000 → h ≤ 3000 → Q (nI (cv g f t w h)) M → wX12_cutWorst D M (nI f) (nI t) (nI w) (nI h) Q := by
  obtain ⟨hm1, i1, i6, i7⟩ := id hi
  have hm8 := i7.1
  intro D
  induction D with
  | zero => intro f t w h Q h1 h2 h3; omega
  | succ D ih =>
    intro f t w h Q h1 h2 h3 hw hh hq
    rw [wX12_cutWorst]
    unfold wX12_cutWorst_b
    rw [pk_sub (by omega), show (1 : Int32) = nI 1 from rfl, nI_eq (by omega) (by omega)]
    refine ⟨fun hs => ?_, fun hs => ?_⟩
    · have hB : ∀ (K : Int32 → sy_M → Prop) k way, 1 ≤ k → f + k < t → way ≤ 1 → K (nI (cbv g f t k way w h)) M → wX12_cutBy (wX12_cutWorst D) M (nI f) (nI t) (nI k) (nI way) (nI w) (nI h) K := by
        intro K k way q1 q2 q3 q4
        refine cutByZ i7 hw hh q1 q2 h2 q3 (fun K2 f' t' w' h' u1 u2 u3 u4 u5 u6 u7 => ih f' t' w' h' K2 u2 (by omega) (by omega) u5 u6 u7) q4
      have key : ∀ r k, k + 1 + r = t - f → wX12_cutWorst_28 (wX12_cutWorst D) Q (r + 1) M (nI f) (nI t) (nI w) (nI h) (nI (cmn (fun k => min (cbv g f t k 0 w h) (cbv g f t k 1 w h)) k)) (nI (k + 1)) := by
        intro r
        induction r with
        | zero =>
          intro k hk
          rw [wX12_cutWorst_28, pk_sub (by omega)]
          have : nI (t - f) ≤ nI (k + 1) := nI_le (by omega) (by omega)
          refine ⟨fun _ => ?_, fun h => absurd this h⟩
          rw [cv_s g (by omega) (by omega), show t - f - 1 = k by omega] at hq
          exact hq
        | succ r ihr =>
          intro k hk
          rw [wX12_cutWorst_28, pk_sub (by omega)]
          have e1 : ¬ nI (t - f) ≤ nI (k + 1) := nI_ge (by omega) (by omega)
          simp only [e1, false_implies, true_implies, not_false_eq_true, true_and]
          refine ⟨3, ?_⟩
          have b0 := cmn_bd (F := fun k => min (cbv g f t k 0 w h) (cbv g f t k 1 w h)) k
          have b1 := cbv_bd g (f := f) (t := t) (k := k + 1) (way := 0) (by omega) hw hh
          have b2 := cbv_bd g (f := f) (t := t) (k := k + 1) (way := 1) (by omega) hw hh
          have n02 : ¬ nI 2 ≤ nI 0 := by decide
          have n12 : ¬ nI 2 ≤ nI 1 := by decide
          have n22 : nI 2 ≤ nI 2 := by decide
          rw [wX12_cutWorst_39, show (0 : Int32) = nI 0 from rfl]
          refine ⟨fun h => absurd h n02, fun _ => hB _ (k + 1) 0 (by omega) (by omega) (by omega) ?_⟩
          rw [wX12_cutWorst_39, nI_1, imin_nI (by omega) (by omega)]
          refine ⟨fun h => absurd h n12, fun _ => hB _ (k + 1) 1 (by omega) (by omega) (by omega) ?_⟩
          rw [wX12_cutWorst_39, nI_1, imin_nI (by omega) (by omega)]
          refine ⟨fun _ => ?_, fun h => absurd n22 h⟩
          rw [nI_1]
          have := ihr (k + 1) (by omega)
          rw [cmn, ← Nat.min_assoc] at this
          exact this
      exact ⟨t - f - 1 + 1, key (t - f - 1) 0 (by omega)⟩
    · have : f < m := by omega
      rw [ex_nI (show f < 9 by omega) (by omega), (i6 f this).2, shapeZ (i6 f this).1 hw hh]
      rw [cv_1 g (by omega)] at hq
      exact hq
/-- items f .. t of a laying, in the reference's rows; all else as it was -/
def plI (R : Nat → Nat → Nat) (f t : Nat) (M M' : sy_M) : Prop := (∀ i, f ≤ i → i < t → M' 18 i = nI (R 0 i) ∧ M' 19 i = nI (R 1 i) ∧ M' 20 i = nI (R 2 i) ∧ M' 21 i = nI (R 3 i)) ∧ (∀ q i, (i < f ∨ t ≤ i) → M' q i = M q i) ∧ ∀ q, q ≠ 18 → q ≠ 19 → q ≠ 20 → q ≠ 21 → M' q = M q
theorem laysCutsZ {g : Nat → Nat} {m : Nat} : ∀ D f t x y w h M (Q : sy_M → Prop), inZ m g M → f < t → t ≤ m → t ≤ f + D → w ≤ 3000 → h ≤ 3000 → (∀ M', plI (cuR g D f t x y w h) f t M M' → Q M') → wX12_laysCuts D M (nI f) (nI t) (nI x) (nI y) (nI w) (nI h) Q := by
  intro D
  induction D with
  | zero => intro f t x y w h M Q _ h1 h2 h3; omega
  | succ D ih =>
    intro f t x y w h M Q hi h1 h2 h3 hw hh hq
    obtain ⟨hm1, i1, i6, i7⟩ := id hi
    have hm8 := i7.1
    rw [wX12_laysCuts]
    unfold wX12_laysCuts_b
    rw [pk_sub (by omega), show (1 : Int32) = nI 1 from rfl, nI_eq (by omega) (by omega)]
    refine ⟨fun hs => ?_, fun hs => ?_⟩
    · have hB : ∀ (K : Int32 → sy_M → Prop) c, 2 ≤ c → c < 2 * (t - f) → K (nI (cF g f t w h c)) M → wX12_cutBy (wX12_cutWorst 9) M (nI f) (nI t) (nI c / nI 2) (nI c - nI c / nI 2 * nI 2) (nI w) (nI h) K := by
        intro K c q1 q2 q4
        rw [pk_rem (by omega) (by omega) (by omega), pk_div (by omega) (by omega) (by omega)]
        refine cutByZ i7 hw hh (by omega) (by omega) h2 (by omega) (fun K2 f' t' w' h' u1 u2 u3 u4 u5 u6 u7 => cutWorstZ hi 9 f' t' w' h' K2 u2 (by omega) (by omega) u5 u6 u7) q4
      have hFb : ∀ c, 2 ≤ c → c < 2 * (t - f) → cF g f t w h c ≤ 3000000 := fun c q1 q2 => cbv_bd g (by omega) hw hh
      have hb := cB_b g (w := w) (h := h) (show f + 1 < t by omega)
      have c1 := cfp_le g (n := w) (f := f) (k := cB g f t w h / 2) (t := t) (by omega)
      have c2 := cfp_le g (n := h) (f := f) (k := cB g f t w h / 2) (t := t) (by omega)
      have ap : ∀ k i, cuR g (D + 1) f t x y w h k i = if i < f + cB g f t w h / 2 then (if cB g f t w h % 2 = 0 then cuR g D f (f + cB g f t w h / 2) x y (cfp g w f (cB g f t w h / 2) t) h k i else cuR g D f (f + cB g f t w h / 2) x y w (cfp g h f (cB g f t w h / 2) t) k i)
      else (if cB g f t w h % 2 = 0 then cuR g D (f + cB g f t w h / 2) t (x + cfp g w f (cB g f t w h / 2) t) y (w - cfp g w f (cB g f t w h / 2) t) h k i else cuR g D (f + cB g f t w h / 2) t x (y + cfp g h f (cB g f t w h / 2) t) w (h - cfp g h f (cB g f t w h / 2) t) k i) := by
        intro k i
        rw [cuR]
        simp only [if_neg (show ¬ t ≤ f + 1 by omega)]
      -- the two parts
      have two : ∀ xa ya wa ha xb yb wb hb, wa ≤ 3000 → ha ≤ 3000 → wb ≤ 3000 → hb ≤ 3000 → (∀ k i, f ≤ i → i < f + cB g f t w h / 2 → cuR g (D + 1) f t x y w h k i = cuR g D f (f + cB g f t w h / 2) xa ya wa ha k i) → (∀ k i, f + cB g f t w h / 2 ≤ i → i < t → cuR g (D + 1) f t x y w h k i = cuR g D (f + cB g f t w h / 2) t xb yb wb hb k i) →
          wX12_laysCuts D M (nI f) (nI (f + cB g f t w h / 2)) (nI xa) (nI ya) (nI wa) (nI ha) (fun M41 => wX12_laysCuts D M41 (nI (f + cB g f t w h / 2)) (nI t) (nI xb) (nI yb) (nI wb) (nI hb) Q) := by
        intro xa ya wa ha xb yb wb hb2 z1 z2 z3 z4 ea eb
        refine ih _ _ _ _ _ _ M _ hi (by omega) (by omega) (by omega) z1 z2 (fun M1 p1 => ?_)
        have hi1 : inZ m g M1 := hi.cg (p1.2.2 0 (by omega) (by omega) (by omega) (by omega)) (p1.2.2 17 (by omega) (by omega) (by omega) (by omega)) (p1.2.2 23 (by omega) (by omega) (by omega) (by omega))
        refine ih _ _ _ _ _ _ M1 _ hi1 (by omega) (by omega) (by omega) z3 z4 (fun M2 p2 => hq M2 ⟨fun i q1 q2 => ?_, fun q i q1 => ?_, fun q q1 q2 q3 q4 => ?_⟩)
        · by_cases hik : i < f + cB g f t w h / 2
          · rw [ea 0 i q1 hik, ea 1 i q1 hik, ea 2 i q1 hik, ea 3 i q1 hik, p2.2.1 18 i (Or.inl hik), p2.2.1 19 i (Or.inl hik), p2.2.1 20 i (Or.inl hik), p2.2.1 21 i (Or.inl hik)]
            exact p1.1 i q1 hik
          · rw [eb 0 i (by omega) q2, eb 1 i (by omega) q2, eb 2 i (by omega) q2, eb 3 i (by omega) q2]
            exact p2.1 i (by omega) q2
        · rw [p2.2.1 q i (by omega), p1.2.1 q i (by omega)]
        · rw [p2.2.2 q q1 q2 q3 q4, p1.2.2 q q1 q2 q3 q4]
      have fin : (¬ (nI (cB g f t w h) - nI (cB g f t w h) / nI 2 * nI 2) = 0 → wX12_laysCuts_126 (wX12_laysCuts D) Q M (nI f) (nI t) (nI x) (nI y) (nI w) (nI h) (nI (cB g f t w h) / (nI 2)) (0 : Int32)) ∧ ((nI (cB g f t w h) - nI (cB g f t w h) / nI 2 * nI 2) = 0 → wX12_laysCuts_126 (wX12_laysCuts D) Q M (nI f) (nI t) (nI x) (nI y) (nI w) (nI h) (nI (cB g f t w h) / (nI 2)) (1 : Int32)) := by
        rw [pk_rem (by omega) (by omega) (by omega), pk_div (by omega) (by omega) (by omega), nI_0i (by omega)]
        unfold wX12_laysCuts_126 wX12_laysCuts_141 wX12_laysCuts_171 wX12_laysCuts_183 wX12_laysCuts_205 wX12_laysCuts_220 wX12_laysCuts_235
        simp only [i10, eq_self, false_implies, true_implies, not_false_eq_true, not_true_eq_false, true_and, and_true]
        rw [firstPartZ i7 hh (by omega) h2, firstPartZ i7 hw (by omega) h2, nI_add, nI_add, nI_add, pk_sub c1, pk_sub c2]
        refine ⟨fun hc => two _ _ _ _ _ _ _ _ hw (by omega) hw (by omega) (fun k i q1 q2 => ?_) (fun k i q1 q2 => ?_), fun hc => two _ _ _ _ _ _ _ _ (by omega) hh (by omega) hh (fun k i q1 q2 => ?_) (fun k i q1 q2 => ?_)⟩
        · rw [ap, if_pos q2, if_neg hc]
        · rw [ap, if_neg (by omega), if_neg hc]
        · rw [ap, if_pos q2, if_pos hc]
        · rw [ap, if_neg (by omega), if_pos hc]
      have key : ∀ r j, 2 + j + 1 + r = 2 * (t - f) → wX12_laysCuts_48 (wX12_laysCuts D) (fun (M27 : sy_M) (x1_28 : Int32) (x2_29 : Int32) (x3_30 : Int32) (x4_31 : Int32) (x5_32 : Int32) (x6_33 : Int32) (x7_34 : Int32) => ((¬ (x7_34 - x7_34 / (nI 2) * (nI 2)) = 0 → wX12_laysCuts_126 (wX12_laysCuts D) Q M27 x1_28 x2_29 x3_30 x4_31 x5_32 x6_33 (x7_34 / (nI 2)) (0 : Int32)) ∧ ((x7_34 - x7_34 / (nI 2) * (nI 2)) = 0 → wX12_laysCuts_126 (wX12_laysCuts D) Q M27 x1_28 x2_29 x3_30 x4_31 x5_32 x6_33 (x7_34 / (nI 2)) (1 : Int32)))) Q (r + 1) M (nI f) (nI t) (nI x) (nI y) (nI w) (nI h) (nI (fm (cF g f t w h) j)) (nI (cF g f t w h (fm (cF g f t w h) j))) (nI (2 + j + 1)) := by
        intro r
        induction r with
        | zero =>
          intro j hj
          rw [wX12_laysCuts_48, pk_sub (by omega), pk_mul]
          have : nI (2 * (t - f)) ≤ nI (2 + j + 1) := nI_le (by omega) (by omega)
          refine ⟨fun _ => ?_, fun h => absurd this h⟩
          have e : fm (cF g f t w h) j = cB g f t w h := by unfold cB; rw [show 2 * (t - f) - 3 = j by omega]
          rw [e]
          exact fin
        | succ r ihr =>
          intro j hj
          rw [wX12_laysCuts_48, pk_sub (by omega), pk_mul]
          have e1 : ¬ nI (2 * (t - f)) ≤ nI (2 + j + 1) := nI_ge (by omega) (by omega)
          simp only [e1, false_implies, true_implies, not_false_eq_true, true_and]
          refine hB _ (2 + j + 1) (by omega) (by omega) ?_
          have hfb := fm_b (cF g f t w h) j
          have v1 := hFb (2 + j + 1) (by omega) (by omega)
          have v2 := hFb (fm (cF g f t w h) j) (by omega) (by omega)
          have hn1 : ¬ nI (fm (cF g f t w h) j) = -1 := nI_ne_m1 (by omega)
          simp only [hn1, false_implies, true_implies, not_false_eq_true, true_and]
          unfold wX12_laysCuts_94
          rw [nI_ltI (by omega) (by omega), nI_1]
          have := ihr (j + 1) (by omega)
          rw [fm, ← Nat.add_assoc] at this
          refine ⟨fun hlt => ?_, fun hge => ?_⟩
          · rw [if_pos hlt] at this
            exact this
          · rw [if_neg hge] at this
            exact this
      refine ⟨2 * (t - f) - 3 + 1 + 1, ?_⟩
      rw [wX12_laysCuts_48, pk_sub (by omega), pk_mul]
      have e1 : ¬ nI (2 * (t - f)) ≤ nI 2 := nI_ge (by omega) (by omega)
      simp only [e1, false_implies, true_implies, not_false_eq_true, true_and]
      refine hB _ 2 (by omega) (by omega) ⟨fun _ => ?_, fun h => absurd rfl h⟩
      unfold wX12_laysCuts_94
      rw [nI_1]
      exact key (2 * (t - f) - 3) 0 (by omega)
    · rw [ex_nI (show f < 9 by omega) (by omega)]
      refine hq _ ⟨fun i q1 q2 => ?_, fun q i q1 => ?_, fun q q1 q2 q3 q4 => by rw [mu_oth q4, mu_oth q3, mu_oth q2, mu_oth q1]⟩
      · have : i = f := by omega
        subst this
        rw [cuR]
        simp only [if_pos (show t ≤ i + 1 by omega)]
        simp [mu_ap]
      · rw [mu_n2 _ _ _ _ (by omega), mu_n2 _ _ _ _ (by omega), mu_n2 _ _ _ _ (by omega), mu_n2 _ _ _ _ (by omega)]
