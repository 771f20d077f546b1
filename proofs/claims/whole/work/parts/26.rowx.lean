/-! ROWS: the class's -/
theorem bg_0 (g : Nat → Nat) {f t : Nat} (n : Nat) (h : f < t) : bg g f n f t = 0 := by
  unfold bg shr
  rw [if_neg (by omega), Nat.sub_self, Nat.mul_zero, Nat.zero_div]
  split <;> rfl
theorem rwk_le {g : Nat → Nat} {m w h f t i : Nat} (hw : w ≤ 3000) (hh : h ≤ 3000) : rwk g m w h f t i ≤ 3000000 := by
  have b1 := bg_le g (i + 1) w f t
  have b2 := bg_le g t h 0 m
  exact shp_le (by omega) (by omega)
theorem rwN_bd {g : Nat → Nat} {m w h f t j : Nat} (hw : w ≤ 3000) (hh : h ≤ 3000) : rwN g m w h f t j ≤ 3000000 := by
  rw [rwN_le]
  exact fun i _ _ => rwk_le hw hh
theorem worstRowX {M : sy_M} {m x y w h f t : Nat} {g : Nat → Nat} {Q : Int32 → sy_M → Prop} (hi : inX m g x y w h M) (hft : f < t) (ht : t ≤ m) (hq : Q (nI (rwv g m w h f t)) M) : wX8_worstOfRow M (nI f) (nI t) Q := by
  obtain ⟨⟨hm1, hxw, hyh⟩, i1, ⟨i2, i3, i4, i5⟩, i6, i7⟩ := id hi
  have hm8 := i7.1
  have key : ∀ r i, i + r = t → f ≤ i → wX8_worstOfRow_39 Q (r + 1) M (nI f) (nI t) (nI (bg g t h 0 m - bg g f h 0 m)) (nI (rwN g m w h f t (i - f))) (nI (bg g i w f t)) (nI i) := by
    intro r
    induction r with
    | zero =>
      intro i hi hf
      have : i = t := by omega
      subst this
      rw [wX8_worstOfRow_39]
      have : nI i ≤ nI i := nI_le (Nat.le_refl _) (by omega)
      exact ⟨fun _ => hq, fun h => absurd this h⟩
    | succ r ih =>
      intro i hi hf
      rw [wX8_worstOfRow_39]
      have e1 : ¬ nI t ≤ nI i := nI_ge (by omega) (by omega)
      simp only [e1, false_implies, true_implies, not_false_eq_true, true_and]
      have b1 := bg_mono g w f t (show i ≤ i + 1 by omega)
      have b2 := bg_le g (i + 1) w f t
      have b3 := bg_le g t h 0 m
      have b4 := rwk_le (g := g) (m := m) (f := f) (t := t) (i := i) (show w ≤ 3000 by omega) (show h ≤ 3000 by omega)
      have b5 := rwN_bd (g := g) (m := m) (f := f) (t := t) (j := i - f) (show w ≤ 3000 by omega) (show h ≤ 3000 by omega)
      rw [nI_1, i4, beginX i7 (by omega) (by omega) (by omega) ht (by omega), ex_nI (show i < 8 by omega) (by omega), (i6 i (by omega)).2, pk_sub b1, shapeX (i6 i (by omega)).1 (by omega) (by omega)]
      have := ih (i + 1) (by omega) (by omega)
      rw [show i + 1 - f = (i - f) + 1 by omega, rwN, show f + (i - f) = i by omega] at this
      rw [imax_nI (by omega) (by unfold rwk at b4; omega)]
      exact this
  unfold wX8_worstOfRow
  have c1 := bg_mono g h 0 m (show f ≤ t by omega)
  rw [i1, i5, show (0 : Int32) = nI 0 from rfl, beginX i7 (by omega) (by omega) (by omega) (Nat.le_refl _) (by omega), i1, i5, beginX i7 (by omega) (by omega) (by omega) (Nat.le_refl _) (by omega), pk_sub c1]
  have := key (t - f) f (by omega) (Nat.le_refl _)
  rw [Nat.sub_self, bg_0 g w hft] at this
  exact ⟨t - f + 1, this⟩
/-- what the row breaker may change -/
def frB (M M' : sy_M) : Prop := ∀ q, (q < 55 ∨ 57 < q) → M' q = M q
theorem inX.frb {m x y w h : Nat} {g : Nat → Nat} {M M' : sy_M} (hi : inX m g x y w h M) (hf : frB M M') : inX m g x y w h M' := hi.cg (hf 28 (by omega)) (hf 30 (by omega)) (hf 31 (by omega))
def tbW (g : Nat → Nat) (m w h f0 : Nat) (M : sy_M) : Prop := ∀ f t, f0 ≤ f → f < t → t ≤ m → M 55 (f * 9 + t) = nI (rwv g m w h f t)
theorem lay10X {M : sy_M} {m x y w h : Nat} {g : Nat → Nat} {K : sy_M → Int32 → Prop} {Q : sy_M → Prop} (hi : inX m g x y w h M) (hq : ∀ M', tbW g m w h 0 M' → frB M M' → K M' (nI m)) : ∃ n, wX8_lay_9 K Q n M (nI m) (nI m - 1) := by
  obtain ⟨⟨hm1, hxw, hyh⟩, i1, ⟨i2, i3, i4, i5⟩, i6, i7⟩ := id hi
  have hm8 := i7.1
  have inner : ∀ (K2 : sy_M → Int32 → Int32 → Prop) f, f < m → (∀ M', tbW g m w h f M' → frB M M' → K2 M' (nI m) (nI f)) → ∀ r t M1, t + r = m + 1 → f < t → tbW g m w h (f + 1) M1 → (∀ t', f < t' → t' < t → M1 55 (f * 9 + t') = nI (rwv g m w h f t')) → frB M M1 → wX8_lay_18 K2 Q (r + 1) M1 (nI m) (nI f) (nI t) := by
    intro K2 f hf hK r
    induction r with
    | zero =>
      intro t M1 ht hft h1 h2 h3
      rw [wX8_lay_18]
      have : nI m < nI t := nI_lt (by omega) (by omega)
      refine ⟨fun _ => hK M1 (fun f' t' q1 q2 q3 => ?_) h3, fun h => absurd this h⟩
      by_cases hff : f' = f
      · subst hff; exact h2 t' q2 (by omega)
      · exact h1 f' t' (by omega) q2 q3
    | succ r ih =>
      intro t M1 ht hft h1 h2 h3
      rw [wX8_lay_18]
      have e1 : ¬ nI m < nI t := nI_nlt (by omega) (by omega)
      simp only [e1, false_implies, true_implies, not_false_eq_true, true_and]
      refine worstRowX (hi.frb h3) hft (by omega) ?_
      rw [pk_mul, nI_add, ex_nI (show f * 9 + t < 72 by omega) (by omega), nI_1]
      refine ih (t + 1) _ (by omega) (by omega) (fun f' t' q1 q2 q3 => ?_) (fun t' q1 q2 => ?_) (fun q hq => by rw [mu_oth (by omega)]; exact h3 q hq)
      · rw [mu_n2 _ _ _ _ (by omega)]; exact h1 f' t' q1 q2 q3
      · by_cases htt : t' = t
        · subst htt; exact mu_eq _ _ _ _
        · rw [mu_n2 _ _ _ _ (by omega)]; exact h2 t' q1 (by omega)
  have outer : ∀ r M1, r ≤ m → tbW g m w h r M1 → frB M M1 → wX8_lay_9 K Q (r + 1) M1 (nI m) (nI r - 1) := by
    intro r
    induction r with
    | zero =>
      intro M1 _ h1 h2
      rw [wX8_lay_9]
      have : nI 0 - 1 < 0 := by decide
      exact ⟨fun _ => hq M1 h1 h2, fun h => absurd this h⟩
    | succ r ih =>
      intro M1 hr h1 h2
      rw [wX8_lay_9, nI_pred]
      have e1 : ¬ nI r < 0 := nI_pos (by omega)
      simp only [e1, false_implies, true_implies, not_false_eq_true, true_and]
      refine ⟨m - r + 1, ?_⟩
      rw [nI_1]
      refine inner _ r (by omega) (fun M' q1 q2 => ?_) (m - r) (r + 1) M1 (by omega) (by omega) h1 (fun t' q1 q2 => absurd q2 (by omega)) h2
      have := ih M' (by omega) q1 q2
      rw [Int32.sub_eq_add_neg] at this
      exact this
  exact ⟨m + 1, outer m M (Nat.le_refl _) (fun f t q1 q2 q3 => absurd q3 (by omega)) (fun _ _ => rfl)⟩
theorem rwv_bd {g : Nat → Nat} {m w h f t : Nat} (hw : w ≤ 3000) (hh : h ≤ 3000) : rwv g m w h f t ≤ 3000000 := rwN_bd hw hh
def upN (L : Nat → Nat) (f v : Nat) : Nat → Nat := fun j => if j = f then v else L j
/-- the least worsts -/
theorem leastX {M : sy_M} {m w h : Nat} {g : Nat → Nat} {Q : sy_M → Prop} (hm1 : 1 ≤ m) (hm8 : m ≤ 8) (hw : w ≤ 3000) (hh : h ≤ 3000) (htb : tbW g m w h 0 M) (hq : ∀ M' L, L m = 0 → (∀ f, f < m → spL g m w h L f) → (∀ f, f ≤ m → L f ≤ 3000000 ∧ M' 56 f = nI (L f)) → (∀ q, q ≠ 56 → M' q = M q) → Q M') : wX8_findLeast M (nI m) Q := by
  have outer : ∀ r M1 L, r ≤ m → L m = 0 → (∀ f, r ≤ f → f < m → spL g m w h L f) → (∀ f, r ≤ f → f ≤ m → L f ≤ 3000000 ∧ M1 56 f = nI (L f)) → (∀ q, q ≠ 56 → M1 q = M q) → wX8_findLeast_11 Q (r + 1) M1 (nI m) (nI r - 1) := by
    intro r
    induction r with
    | zero =>
      intro M1 L _ h0 h1 h2 h3
      rw [wX8_findLeast_11]
      have : nI 0 - 1 < 0 := by decide
      exact ⟨fun _ => hq M1 L h0 (fun f hf => h1 f (by omega) hf) (fun f hf => h2 f (by omega) hf) h3, fun h => absurd this h⟩
    | succ r ih =>
      intro M1 L hr h0 h1 h2 h3
      rw [wX8_findLeast_11, nI_pred]
      have e1 : ¬ nI r < 0 := nI_pos (by omega)
      simp only [e1, false_implies, true_implies, not_false_eq_true, true_and]
      rw [ex_nI (show r < 9 by omega) (by omega), nI_1]
      refine ⟨m - r + 1, ?_⟩
      have inner : ∀ j t M2 v, t + j = m + 1 → r < t → (∀ f, r < f → f ≤ m → M2 56 f = nI (L f)) → (∀ q, q ≠ 56 → M2 q = M q) → M2 56 r = nI v → v ≤ 2147483647 → ((v = 2147483647 ∧ t = r + 1) ∨ (v ≤ 3000000 ∧ ∃ t', r < t' ∧ t' < t ∧ v = max (rwv g m w h r t') (L t'))) → (∀ t', r < t' → t' < t → v ≤ max (rwv g m w h r t') (L t')) → wX8_findLeast_27 (fun (M8 : sy_M) (x1_9 : Int32) (x2_10 : Int32) => wX8_findLeast_11 Q (r + 1) M8 x1_9 (x2_10 + (-1 : Int32))) Q (j + 1) M2 (nI m) (nI r) (nI t) := by
        intro j
        induction j with
        | zero =>
          intro t M2 v ht hrt g1 g2 g3 g4 g5 g6
          rw [wX8_findLeast_27]
          have : nI m < nI t := nI_lt (by omega) (by omega)
          refine ⟨fun _ => ?_, fun h => absurd this h⟩
          rcases g5 with g5 | ⟨g5, t', u1, u2, u3⟩
          · omega
          rw [← Int32.sub_eq_add_neg]
          refine ih M2 (upN L r v) (by omega) (by unfold upN; rw [if_neg (by omega)]; exact h0) (fun f q1 q2 => ?_) (fun f q1 q2 => ?_) g2
          · unfold spL
            by_cases hf : f = r
            · subst hf
              have ev : upN L f v f = v := by unfold upN; rw [if_pos rfl]
              have eo : ∀ t, f < t → upN L f v t = L t := fun t q => by unfold upN; rw [if_neg (by omega)]
              rw [ev]
              refine ⟨fun t'' q3 q4 => ?_, t', u1, by omega, ?_⟩
              · rw [eo _ q3]; exact g6 t'' q3 (by omega)
              · rw [eo _ u1]; exact u3
            · have eo : ∀ t, f ≤ t → upN L r v t = L t := fun t q => by unfold upN; rw [if_neg (by omega)]
              obtain ⟨s1, t2, s2, s3, s4⟩ := h1 f (by omega) q2
              refine ⟨fun t'' q3 q4 => ?_, t2, s2, s3, ?_⟩
              · rw [eo f (by omega), eo t'' (by omega)]; exact s1 t'' q3 q4
              · rw [eo f (by omega), eo t2 (by omega)]; exact s4
          · unfold upN
            by_cases hf : f = r
            · subst hf
              rw [if_pos rfl]
              exact ⟨g5, g3⟩
            · rw [if_neg hf]
              exact ⟨(h2 f (by omega) q2).1, g1 f (by omega) q2⟩
        | succ j ihj =>
          intro t M2 v ht hrt g1 g2 g3 g4 g5 g6
          rw [wX8_findLeast_27]
          have e2 : ¬ nI m < nI t := nI_nlt (by omega) (by omega)
          simp only [e2, false_implies, true_implies, not_false_eq_true, true_and]
          have b1 := rwv_bd (g := g) (m := m) (f := r) (t := t) hw hh
          have b2 := (h2 t (by omega) (by omega)).1
          rw [ex_nI (show r < 9 by omega) (by omega), pk_mul, nI_add, ex_nI (show r * 9 + t < 72 by omega) (by omega), ex_nI (show t < 9 by omega) (by omega), g1 t hrt (by omega), g2 55 (by omega), htb r t (by omega) hrt (by omega), g3, imax_nI (by omega) (by omega), imin_nI (by omega) (by omega), nI_1]
          refine ihj (t + 1) _ (min v (max (rwv g m w h r t) (L t))) (by omega) (by omega) (fun f q1 q2 => ?_) (fun q hq => by rw [mu_oth hq]; exact g2 q hq) (mu_eq _ _ _ _) (by omega) (Or.inr ⟨by omega, ?_⟩) (fun t' q1 q2 => ?_)
          · rw [mu_n2 _ _ _ _ (by omega)]; exact g1 f q1 q2
          · by_cases hv : v ≤ max (rwv g m w h r t) (L t)
            · rcases g5 with g5 | ⟨g5, t', u1, u2, u3⟩
              · omega
              · exact ⟨t', u1, by omega, by omega⟩
            · exact ⟨t, hrt, by omega, by omega⟩
          · by_cases htt : t' = t
            · subst htt; omega
            · have := g6 t' q1 (by omega); omega
      refine inner (m - r) (r + 1) _ 2147483647 (by omega) (by omega) (fun f q1 q2 => ?_) (fun q hq => by rw [mu_oth hq]; exact h3 q hq) (mu_eq _ _ _ _) (Nat.le_refl _) (Or.inl ⟨rfl, rfl⟩) (fun t' q1 q2 => absurd q2 (by omega))
      rw [mu_n2 _ _ _ _ (by omega)]
      exact (h2 f (by omega) q2).2
  unfold wX8_findLeast
  rw [ex_nI (show m < 9 by omega) (by omega)]
  refine ⟨m + 1, outer m _ (fun _ => 0) (Nat.le_refl _) rfl (fun f q1 q2 => absurd q2 (by omega)) (fun f q1 q2 => ?_) (fun q hq => mu_oth hq)⟩
  have : f = m := by omega
  subst this
  exact ⟨by omega, mu_eq _ _ _ _⟩
/-- the fewest rows -/
theorem fewestX {M : sy_M} {m w h l0 : Nat} {g : Nat → Nat} {Q : sy_M → Prop} (hm1 : 1 ≤ m) (hm8 : m ≤ 8) (hw : w ≤ 3000) (hh : h ≤ 3000) (htb : tbW g m w h 0 M) (hl0 : l0 ≤ 3000000) (hl : M 56 0 = nI l0) (hq : ∀ M' F, F m = 0 → (∀ f, f < m → spF g m w h l0 F f) → (∀ f, f ≤ m → F f ≤ 9 ∧ M' 57 f = nI (F f)) → (∀ q, q ≠ 57 → M' q = M q) → Q M') : wX8_findFewest M (nI m) Q := by
  have outer : ∀ r M1 F, r ≤ m → F m = 0 → (∀ f, r ≤ f → f < m → spF g m w h l0 F f) → (∀ f, r ≤ f → f ≤ m → F f ≤ 9 ∧ M1 57 f = nI (F f)) → (∀ q, q ≠ 57 → M1 q = M q) → wX8_findFewest_11 Q (r + 1) M1 (nI m) (nI r - 1) := by
    intro r
    induction r with
    | zero =>
      intro M1 F _ h0 h1 h2 h3
      rw [wX8_findFewest_11]
      have : nI 0 - 1 < 0 := by decide
      exact ⟨fun _ => hq M1 F h0 (fun f hf => h1 f (by omega) hf) (fun f hf => h2 f (by omega) hf) h3, fun h => absurd this h⟩
    | succ r ih =>
      intro M1 F hr h0 h1 h2 h3
      rw [wX8_findFewest_11, nI_pred]
      have e1 : ¬ nI r < 0 := nI_pos (by omega)
      simp only [e1, false_implies, true_implies, not_false_eq_true, true_and]
      rw [ex_nI (show r < 9 by omega) (by omega), nI_1]
      refine ⟨m - r + 1, ?_⟩
      have inner : ∀ j t M2 v, t + j = m + 1 → r < t → (∀ f, r < f → f ≤ m → M2 57 f = nI (F f)) → (∀ q, q ≠ 57 → M2 q = M q) → M2 57 r = nI v → v ≤ 9 → (v = 9 ∨ ∃ t', r < t' ∧ t' < t ∧ rwv g m w h r t' ≤ l0 ∧ v = F t' + 1) → (∀ t', r < t' → t' < t → rwv g m w h r t' ≤ l0 → v ≤ F t' + 1) → wX8_findFewest_27 (fun (M8 : sy_M) (x1_9 : Int32) (x2_10 : Int32) => wX8_findFewest_11 Q (r + 1) M8 x1_9 (x2_10 + (-1 : Int32))) Q (j + 1) M2 (nI m) (nI r) (nI t) := by
        intro j
        induction j with
        | zero =>
          intro t M2 v ht hrt g1 g2 g3 g4 g5 g6
          rw [wX8_findFewest_27]
          have : nI m < nI t := nI_lt (by omega) (by omega)
          refine ⟨fun _ => ?_, fun h => absurd this h⟩
          rw [← Int32.sub_eq_add_neg]
          have eo : ∀ t, t ≠ r → upN F r v t = F t := fun t q => by unfold upN; rw [if_neg q]
          refine ih M2 (upN F r v) (by omega) (by rw [eo _ (by omega)]; exact h0) (fun f q1 q2 => ?_) (fun f q1 q2 => ?_) g2
          · unfold spF
            by_cases hf : f = r
            · subst hf
              have ev : upN F f v f = v := by unfold upN; rw [if_pos rfl]
              rw [ev]
              refine ⟨g4, fun t'' q3 q4 q5 => ?_, ?_⟩
              · rw [eo _ (by omega)]; exact g6 t'' q3 (by omega) q5
              · rcases g5 with g5 | ⟨t', u1, u2, u3, u4⟩
                · exact Or.inl g5
                · exact Or.inr ⟨t', u1, by omega, u3, by rw [eo _ (by omega)]; exact u4⟩
            · obtain ⟨s0, s1, s2⟩ := h1 f (by omega) q2
              rw [eo f hf]
              refine ⟨s0, fun t'' q3 q4 q5 => ?_, ?_⟩
              · rw [eo t'' (by omega)]; exact s1 t'' q3 q4 q5
              · rcases s2 with s2 | ⟨t2, u1, u2, u3, u4⟩
                · exact Or.inl s2
                · exact Or.inr ⟨t2, u1, u2, u3, by rw [eo _ (by omega)]; exact u4⟩
          · by_cases hf : f = r
            · subst hf
              unfold upN
              rw [if_pos rfl]
              exact ⟨g4, g3⟩
            · rw [eo f hf]
              exact ⟨(h2 f (by omega) q2).1, g1 f (by omega) q2⟩
        | succ j ihj =>
          intro t M2 v ht hrt g1 g2 g3 g4 g5 g6
          rw [wX8_findFewest_27]
          have e2 : ¬ nI m < nI t := nI_nlt (by omega) (by omega)
          simp only [e2, false_implies, true_implies, not_false_eq_true, true_and]
          have b1 := rwv_bd (g := g) (m := m) (f := r) (t := t) hw hh
          have b2 := (h2 t (by omega) (by omega)).1
          rw [pk_mul, nI_add, ex_nI (show r * 9 + t < 72 by omega) (by omega), show (0 : Int32) = nI 0 from rfl, ex_nI (show 0 < 9 by omega) (by omega), g2 55 (by omega), g2 56 (by omega), hl, htb r t (by omega) hrt (by omega), nI_ltI (by omega) (by omega), nI_1]
          refine ⟨fun hlt => ?_, fun hge => ?_⟩
          · refine ihj (t + 1) M2 v (by omega) (by omega) g1 g2 g3 g4 ?_ (fun t' q1 q2 q3 => ?_)
            · rcases g5 with g5 | ⟨t', u1, u2, u3, u4⟩
              · exact Or.inl g5
              · exact Or.inr ⟨t', u1, by omega, u3, u4⟩
            · by_cases htt : t' = t
              · subst htt; omega
              · exact g6 t' q1 (by omega) q3
          · rw [ex_nI (show r < 9 by omega) (by omega), ex_nI (show t < 9 by omega) (by omega), g1 t hrt (by omega), g3, nI_1, imin_nI (by omega) (by omega)]
            refine ihj (t + 1) _ (min v (F t + 1)) (by omega) (by omega) (fun f q1 q2 => ?_) (fun q hq => by rw [mu_oth hq]; exact g2 q hq) (mu_eq _ _ _ _) (by omega) ?_ (fun t' q1 q2 q3 => ?_)
            · rw [mu_n2 _ _ _ _ (by omega)]; exact g1 f q1 q2
            · by_cases hv : v ≤ F t + 1
              · rw [Nat.min_eq_left hv]
                rcases g5 with g5 | ⟨t', u1, u2, u3, u4⟩
                · exact Or.inl g5
                · exact Or.inr ⟨t', u1, by omega, u3, u4⟩
              · exact Or.inr ⟨t, hrt, by omega, by omega, by omega⟩
            · by_cases htt : t' = t
              · subst htt; omega
              · have := g6 t' q1 (by omega) q3; omega
      refine inner (m - r) (r + 1) _ 9 (by omega) (by omega) (fun f q1 q2 => ?_) (fun q hq => by rw [mu_oth hq]; exact h3 q hq) (mu_eq _ _ _ _) (Nat.le_refl _) (Or.inl rfl) (fun t' q1 q2 => absurd q2 (by omega))
      rw [mu_n2 _ _ _ _ (by omega)]
      exact (h2 f (by omega) q2).2
  unfold wX8_findFewest
  rw [ex_nI (show m < 9 by omega) (by omega)]
  refine ⟨m + 1, outer m _ (fun _ => 0) (Nat.le_refl _) rfl (fun f q1 q2 => absurd q2 (by omega)) (fun f q1 q2 => ?_) (fun q hq => mu_oth hq)⟩
  have : f = m := by omega
  subst this
  exact ⟨by omega, mu_eq _ _ _ _⟩
/-- the row ends -/
def eN (P : Nat → Bool) (f : Nat) : Nat → Nat
  | 0 => f + 1
  | n + 1 => if P (f + 1 + n + 1) = true then f + 1 + n + 1 else eN P f n
def eP (g : Nat → Nat) (m w h l0 : Nat) (F : Nat → Nat) (f t : Nat) : Bool := decide (rwv g m w h f t ≤ l0 ∧ F t + 1 = F f)
def eE (g : Nat → Nat) (m w h l0 : Nat) (F : Nat → Nat) (f : Nat) : Nat := eN (eP g m w h l0 F f) f (m - (f + 1))
theorem eN_sp (P : Nat → Bool) (f : Nat) : ∀ n, (f < eN P f n ∧ eN P f n ≤ f + 1 + n) ∧ (eN P f n = f + 1 ∨ P (eN P f n) = true) ∧ ∀ t, eN P f n < t → t ≤ f + 1 + n → P t = false
  | 0 => by
    rw [eN]
    exact ⟨by omega, Or.inl rfl, fun t h1 h2 => absurd h2 (by omega)⟩
  | n + 1 => by
    obtain ⟨a, b, c⟩ := eN_sp P f n
    rw [eN]
    by_cases h : P (f + 1 + n + 1) = true
    · rw [if_pos h]
      exact ⟨by omega, Or.inr h, fun t h1 h2 => absurd h2 (by omega)⟩
    · rw [if_neg h]
      refine ⟨by omega, b, fun t h1 h2 => ?_⟩
      by_cases ht : t = f + 1 + n + 1
      · rw [ht]; exact Bool.eq_false_iff.mpr h
      · exact c t h1 (by omega)
theorem eE_sp (g : Nat → Nat) (m w h l0 : Nat) (F : Nat → Nat) {f : Nat} (hf : f < m) : spE g m w h l0 F (eE g m w h l0 F) f := by
  obtain ⟨a, b, c⟩ := eN_sp (eP g m w h l0 F f) f (m - (f + 1))
  refine ⟨a.1, by unfold eE; omega, ?_, fun t h1 h2 => ?_⟩
  · rcases b with b | b
    · exact Or.inl b
    · exact Or.inr (of_decide_eq_true b)
  · exact of_decide_eq_false (c t h1 (by omega))
theorem endX {M : sy_M} {m w h l0 f : Nat} {g F : Nat → Nat} {Q : Int32 → sy_M → Prop} (hm8 : m ≤ 8) (hw : w ≤ 3000) (hh : h ≤ 3000) (htb : tbW g m w h 0 M) (hl0 : l0 ≤ 3000000) (hl : M 56 0 = nI l0) (hF : ∀ f, f ≤ m → F f ≤ 9 ∧ M 57 f = nI (F f)) (hf : f < m) (hq : Q (nI (eE g m w h l0 F f)) M) : wX8_endOfRow M (nI f) (nI m) Q := by
  have key : ∀ n, f + 1 + n ≤ m → Q (nI (eN (eP g m w h l0 F f) f n)) M → wX8_endOfRow_2 Q (n + 1) M (nI f) (nI (f + 1 + n)) := by
    intro n
    induction n with
    | zero =>
      intro h1 h2
      rw [wX8_endOfRow_2, nI_1]
      have : nI (f + 1 + 0) ≤ nI (f + 1) := nI_le (Nat.le_refl _) (by omega)
      exact ⟨fun _ => h2, fun h => absurd this h⟩
    | succ n ih =>
      intro h1 h2
      rw [wX8_endOfRow_2, nI_1]
      have e1 : ¬ nI (f + 1 + (n + 1)) ≤ nI (f + 1) := nI_ge (by omega) (by omega)
      simp only [e1, false_implies, true_implies, not_false_eq_true, true_and]
      have b1 := rwv_bd (g := g) (m := m) (f := f) (t := f + 1 + (n + 1)) hw hh
      have b2 := (hF (f + 1 + (n + 1)) (by omega)).1
      have b3 := (hF f (by omega)).1
      rw [pk_mul, nI_add, ex_nI (show f * 9 + (f + 1 + (n + 1)) < 72 by omega) (by omega), show (0 : Int32) = nI 0 from rfl, ex_nI (show 0 < 9 by omega) (by omega), hl, htb f _ (by omega) (by omega) h1, nI_ltI (by omega) (by omega), ex_nI (show f + 1 + (n + 1) < 9 by omega) (by omega), ex_nI (show f < 9 by omega) (by omega), (hF _ h1).2, (hF f (by omega)).2, nI_1, nI_eq (by omega) (by omega), ← Nat.add_assoc, pk_m1]
      rw [eN] at h2
      have go : ¬ (rwv g m w h f (f + 1 + n + 1) ≤ l0 ∧ F (f + 1 + n + 1) + 1 = F f) → wX8_endOfRow_2 Q (n + 1) M (nI f) (nI (f + 1 + n)) := by
        intro hn
        rw [if_neg (by unfold eP; rw [decide_eq_true_iff]; exact hn)] at h2
        exact ih (by omega) h2
      refine ⟨fun hlt => go (by omega), fun hge => ⟨fun hne => go (fun q => hne q.2), fun he => ?_⟩⟩
      rw [if_pos (by unfold eP; rw [decide_eq_true_iff]; exact ⟨by omega, he⟩)] at h2
      exact h2
  have := key (m - (f + 1)) (by omega) hq
  rw [show f + 1 + (m - (f + 1)) = m by omega] at this
  exact ⟨_, this⟩
