/-! CUTS: the class's, with bounds -/
def bnd (r v B : Nat) : Prop := r < 2 ^ 31 ∧ (r = v ∨ (B ≤ r ∧ B ≤ v))
theorem worstCutX {M : sy_M} {g : Nat → Nat} {m f k t w h B : Nat} {rec : sy_M → Int32 → Int32 → Int32 → Int32 → Int32 → (Int32 → sy_M → Prop) → Prop} {Q : Int32 → sy_M → Prop} (ha : ahX g m M) (hw : w ≤ 3000) (hh : h ≤ 3000) (hB : B < 2 ^ 31) (hk1 : 1 ≤ k) (hk : f + k < t) (ht : t ≤ m)
    (hrec : ∀ (K : Int32 → sy_M → Prop) f' t' w' h', f ≤ f' → f' < t' → t' ≤ t → t' - f' < t - f → w' ≤ 3000 → h' ≤ 3000 → (∀ r, bnd r (cv g f' t' w' h') B → K (nI r) M) → rec M (nI f') (nI t') (nI w') (nI h') (nI B) K)
    (hq : ∀ r, bnd r (cbv g f t k 0 w h) B → Q (nI r) M) : wX1_worstOfCut rec M (nI f) (nI (f + k)) (nI t) (nI w) (nI h) (nI B) Q := by
  have hm := ha.1
  have m3 := ahd_mono g ht
  have m4 := ha.2.1
  have m1 := ahd_mono g (show f ≤ f + k by omega)
  have m2 := ahd_mono g (show f + k ≤ t by omega)
  have c1 := cfp_le g (n := w) (show f + k ≤ t by omega)
  have b1 := cv_bd g (f := f) (t := f + k) (w := cfp g w f k t) (h := h) (by omega) hh
  have b2 := cv_bd g (f := f + k) (t := t) (w := w - cfp g w f k t) (h := h) (by omega) hh
  have ec : cbv g f t k 0 w h = max (cv g f (f + k) (cfp g w f k t) h) (cv g (f + k) t (w - cfp g w f k t) h) := by unfold cbv cb; rw [if_pos rfl]
  rw [ec] at hq
  unfold wX1_worstOfCut
  rw [sumX ha (by omega) (by omega)]
  rw [sumX ha (by omega) ht, shareX hw (by omega) (by omega), pk_sub (by omega), pk_sub (by omega)]
  have e : shr w (ahd g (f + k) - ahd g f) (ahd g t - ahd g f) = cfp g w f k t := rfl
  rw [e]
  unfold wX1_worstOfCut_33 wX1_worstOfCut_70 wX1_worstOfCut_117
  rw [pk_sub c1]
  refine ⟨fun _ => ⟨fun _ => ?_, fun h => absurd rfl h⟩, fun _ => ⟨fun h => absurd h (by decide), fun _ => ?_⟩⟩
  · refine hrec _ (f + k) t _ h (by omega) (by omega) (Nat.le_refl _) (by omega) (by omega) hh (fun r hr => ?_)
    obtain ⟨r1, r2⟩ := hr
    rw [nI_ltI r1 hB]
    refine ⟨fun hlt => ⟨fun _ => ?_, fun h => absurd rfl h⟩, fun hge => hq r ⟨r1, by omega⟩⟩
    refine hrec _ f (f + k) _ h (Nat.le_refl _) (by omega) (by omega) (by omega) (by omega) hh (fun s hs => ?_)
    obtain ⟨s1, s2⟩ := hs
    rw [imax_nI r1 s1]
    exact hq _ ⟨by omega, by omega⟩
  · refine hrec _ f (f + k) _ h (Nat.le_refl _) (by omega) (by omega) (by omega) (by omega) hh (fun r hr => ?_)
    obtain ⟨r1, r2⟩ := hr
    rw [nI_ltI r1 hB]
    refine ⟨fun hlt => ⟨fun h => absurd h (by decide), fun _ => ?_⟩, fun hge => hq r ⟨r1, by omega⟩⟩
    refine hrec _ (f + k) t _ h (by omega) (by omega) (Nat.le_refl _) (by omega) (by omega) hh (fun s hs => ?_)
    obtain ⟨s1, s2⟩ := hs
    rw [imax_nI r1 s1]
    exact hq _ ⟨by omega, by omega⟩
theorem leastX2 {M : sy_M} {g : Nat → Nat} {m x y W H : Nat} (hi : inX m g x y W H M) : ∀ D f t w h B (Q : Int32 → sy_M → Prop), f < t → t ≤ m → t ≤ f + D → w ≤ 3000 → h ≤ 3000 → B < 2 ^ 31 → (∀ r, bnd r (cv g f t w h) B → Q (nI r) M) → wX1_leastWorst D M (nI f) (nI t) (nI w) (nI h) (nI B) Q := by
  obtain ⟨-, i1, -, i6, i7⟩ := id hi
  have hm8 := i7.1
  have m4 := i7.2.1
  intro D
  induction D with
  | zero => intro f t w h B Q h1 h2 h3; omega
  | succ D ih =>
    intro f t w h B Q h1 h2 h3 hw hh hB hq
    have m1 := ahd_mono g (show f ≤ t by omega)
    have m2 := ahd_mono g h2
    have hcb := cv_bd g (f := f) (t := t) hw hh
    rw [wX1_leastWorst]
    unfold wX1_leastWorst_b
    rw [pk_sub (by omega), show (1 : Int32) = nI 1 from rfl, nI_ltI (by omega) (by omega)]
    refine ⟨fun hs => ?_, fun hs => ?_⟩
    · rw [sumX i7 (by omega) h2, nI_0i (by omega), nI_0i (by omega), nI_0i (by omega)]
      refine ⟨fun hz => ⟨fun hw0 => ?_, fun hw0 => ⟨fun hh0 => ?_, fun hh0 => ?_⟩⟩, fun hz => ?_⟩
      · subst hw0
        have e := cw_fl g 9 f t h h1 (by omega)
        rw [if_neg (by omega)] at e
        exact hq 1000000 ⟨by omega, Or.inl e.symm⟩
      · have hW : ∀ (K : Int32 → sy_M → Prop) k B', B' < 2 ^ 31 → 1 ≤ k → f + k < t → (∀ r, bnd r (cbv g f t k 0 w h) B' → K (nI r) M) → wX1_worstOfCut (wX1_leastWorst D) M (nI f) (nI (f + k)) (nI t) (nI w) (nI h) (nI B') K := by
          intro K k B' q1 q2 q3 q4
          exact worstCutX i7 hw hh q1 q2 q3 h2 (fun K2 f' t' w' h' u1 u2 u3 u4 u5 u6 u7 => ih f' t' w' h' B' K2 u2 (by omega) (by omega) u5 u6 q1 u7) q4
        have hW2 : ∀ (K : Int32 → sy_M → Prop) k B', B' < 2 ^ 31 → 1 ≤ k → f + k < t → (∀ r, bnd r (cbv g f t k 1 w h) B' → K (nI r) M) → wX1_worstOfCut (wX1_leastWorst D) M (nI f) (nI (f + k)) (nI t) (nI h) (nI w) (nI B') K := by
          intro K k B' q1 q2 q3 q4
          rw [cbv_sy] at q4
          exact worstCutX i7 hh hw q1 q2 q3 h2 (fun K2 f' t' w' h' u1 u2 u3 u4 u5 u6 u7 => ih f' t' w' h' B' K2 u2 (by omega) (by omega) u5 u6 q1 u7) q4
        have key : ∀ r k, f + (k + 1) + r = t → wX1_leastWorst_52 (wX1_leastWorst D) Q (r + 1) M (nI f) (nI t) (nI w) (nI h) (nI (min B (cmn (fun k => min (cbv g f t k 0 w h) (cbv g f t k 1 w h)) k))) (nI (f + (k + 1))) := by
          intro r
          induction r with
          | zero =>
            intro k hk
            rw [wX1_leastWorst_52]
            have : nI t ≤ nI (f + (k + 1)) := nI_le (by omega) (by omega)
            refine ⟨fun _ => ?_, fun h => absurd this h⟩
            rw [cv_s g (by omega) (by omega), show t - f - 1 = k by omega] at hq
            exact hq _ ⟨by omega, by omega⟩
          | succ r ihr =>
            intro k hk
            rw [wX1_leastWorst_52]
            have e1 : ¬ nI t ≤ nI (f + (k + 1)) := nI_ge (by omega) (by omega)
            simp only [e1, false_implies, true_implies, not_false_eq_true, true_and]
            refine hW _ (k + 1) _ (by omega) (by omega) (by omega) (fun r1 hr1 => ?_)
            rw [imin_nI (by omega) hr1.1]
            refine hW2 _ (k + 1) _ (by have := hr1.1; omega) (by omega) (by omega) (fun r2 hr2 => ?_)
            rw [imin_nI (by have := hr1.1; omega) hr2.1, nI_1]
            have := ihr (k + 1) (by omega)
            rw [cmn] at this
            obtain ⟨u1, u2⟩ := hr1
            obtain ⟨u3, u4⟩ := hr2
            have e : min (min (min B (cmn (fun k => min (cbv g f t k 0 w h) (cbv g f t k 1 w h)) k)) r1) r2 = min B (min (cmn (fun k => min (cbv g f t k 0 w h) (cbv g f t k 1 w h)) k) (min (cbv g f t (k + 1) 0 w h) (cbv g f t (k + 1) 1 w h))) := by omega
            rw [e]
            exact this
        have := key (t - (f + 1)) 0 (by omega)
        rw [cmn, Nat.min_eq_left (show B ≤ 2147483647 by omega)] at this
        rw [show nI f + nI 1 = nI (f + (0 + 1)) from nI_add _ _]
        exact ⟨_, this⟩
      · subst hh0
        have e := cw_fl g 9 f t w h1 (by omega)
        rw [if_neg (by omega)] at e
        exact hq 1000000 ⟨by omega, Or.inl (by rw [cv_sy]; exact e.symm)⟩
      · have e := cw_z g 9 f t w h h1 (by omega) (by omega)
        rw [← nI_0]
        exact hq 0 ⟨by omega, Or.inl e.symm⟩
    · have : f < m := by omega
      rw [ex_nI (show f < 8 by omega) (by omega), (i6 f this).2, shapeX (i6 f this).1 hw hh]
      rw [cv_1 g (by omega)] at hq
      have := shp_le (s := g f) hw hh
      exact hq _ ⟨by omega, Or.inl rfl⟩
/-- items f .. t of a laying, in the plan at p; the worst is of those too; all else as it was -/
def plJ (p : Nat) (g : Nat → Nat) (R : Nat → Nat → Nat) (f t v : Nat) (M M' : sy_M) : Prop := (∀ i, f ≤ i → i < t → M' (p + 1 + 1) i = nI (R 0 i) ∧ M' (p + 1 + 2) i = nI (R 1 i) ∧ M' (p + 1 + 3) i = nI (R 2 i) ∧ M' (p + 1 + 4) i = nI (R 3 i)) ∧ (∀ k i, 1 ≤ k → (i < f ∨ t ≤ i) → M' (p + 1 + k) i = M (p + 1 + k) i) ∧ (∀ q, (q < p ∨ p + 6 ≤ q) → M' q = M q) ∧ ∃ v', v' ≤ 3000000 ∧ M' p 0 = nI v' ∧ ∀ u, v' ≤ u ↔ v ≤ u ∧ ∀ i, f ≤ i → i < t → shp (g i) (R 2 i) (R 3 i) ≤ u
theorem layPartX {g : Nat → Nat} {m p X Y W H : Nat} (hp : p = 47) : ∀ D f t x y w h v M (Q : sy_M → Prop), inX m g X Y W H M → M p 0 = nI v → v ≤ 3000000 → f < t → t ≤ m → t ≤ f + D → w ≤ 3000 → h ≤ 3000 → (∀ M', plJ p g (cuR g D f t x y w h) f t v M M' → Q M') → wX1_layPart D M (nI f) (nI t) (nI x) (nI y) (nI w) (nI h) Q := by
  have hp2 : 33 ≤ p ∧ p ≤ 47 := by omega
  subst hp
  intro D
  induction D with
  | zero => intro f t x y w h v M Q _ _ _ h1 h2 h3; omega
  | succ D ih =>
    intro f t x y w h v M Q hi hv hv3 h1 h2 h3 hw hh hq
    obtain ⟨-, i1, -, i6, i7⟩ := id hi
    have hm8 := i7.1
    have m4 := i7.2.1
    rw [wX1_layPart]
    unfold wX1_layPart_b
    rw [pk_sub (by omega), show (1 : Int32) = nI 1 from rfl, nI_ltI (by omega) (by omega)]
    refine ⟨fun hs => ?_, fun hs => ?_⟩
    · have hA : ∀ (K : Int32 → sy_M → Prop) k B', B' < 2 ^ 31 → 1 ≤ k → f + k < t → (∀ r, bnd r (cF g f t w h (2 * k)) B' → K (nI r) M) → wX1_worstOfCut (wX1_leastWorst 9) M (nI f) (nI (f + k)) (nI t) (nI w) (nI h) (nI B') K := by
        intro K k B' q1 q2 q3 q4
        unfold cF at q4
        rw [show 2 * k / 2 = k by omega, show 2 * k % 2 = 0 by omega] at q4
        exact worstCutX i7 hw hh q1 q2 q3 h2 (fun K2 f' t' w' h' u1 u2 u3 u4 u5 u6 u7 => leastX2 hi 9 f' t' w' h' B' K2 u2 (by omega) (by omega) u5 u6 q1 u7) q4
      have hD : ∀ (K : Int32 → sy_M → Prop) k B', B' < 2 ^ 31 → 1 ≤ k → f + k < t → (∀ r, bnd r (cF g f t w h (2 * k + 1)) B' → K (nI r) M) → wX1_worstOfCut (wX1_leastWorst 9) M (nI f) (nI (f + k)) (nI t) (nI h) (nI w) (nI B') K := by
        intro K k B' q1 q2 q3 q4
        unfold cF at q4
        rw [show (2 * k + 1) / 2 = k by omega, show (2 * k + 1) % 2 = 1 by omega, cbv_sy] at q4
        exact worstCutX i7 hh hw q1 q2 q3 h2 (fun K2 f' t' w' h' u1 u2 u3 u4 u5 u6 u7 => leastX2 hi 9 f' t' w' h' B' K2 u2 (by omega) (by omega) u5 u6 q1 u7) q4
      have hFb : ∀ c, 2 ≤ c → c < 2 * (t - f) → cF g f t w h c ≤ 3000000 := fun c q1 q2 => cbv_bd g (by omega) hw hh
      have hb := cB_b g (w := w) (h := h) (show f + 1 < t by omega)
      have c1 := cfp_le g (n := w) (f := f) (k := cB g f t w h / 2) (t := t) (by omega)
      have c2 := cfp_le g (n := h) (f := f) (k := cB g f t w h / 2) (t := t) (by omega)
      have ap : ∀ k i, cuR g (D + 1) f t x y w h k i = if i < f + cB g f t w h / 2 then (if cB g f t w h % 2 = 0 then cuR g D f (f + cB g f t w h / 2) x y (cfp g w f (cB g f t w h / 2) t) h k i else cuR g D f (f + cB g f t w h / 2) x y w (cfp g h f (cB g f t w h / 2) t) k i)
      else (if cB g f t w h % 2 = 0 then cuR g D (f + cB g f t w h / 2) t (x + cfp g w f (cB g f t w h / 2) t) y (w - cfp g w f (cB g f t w h / 2) t) h k i else cuR g D (f + cB g f t w h / 2) t x (y + cfp g h f (cB g f t w h / 2) t) w (h - cfp g h f (cB g f t w h / 2) t) k i) := by
        intro k i
        rw [cuR]
        simp only [if_neg (show ¬ t ≤ f + 1 by omega)]
      have two : ∀ xa ya wa ha xb yb wb hb, wa ≤ 3000 → ha ≤ 3000 → wb ≤ 3000 → hb ≤ 3000 → (∀ k i, f ≤ i → i < f + cB g f t w h / 2 → cuR g (D + 1) f t x y w h k i = cuR g D f (f + cB g f t w h / 2) xa ya wa ha k i) → (∀ k i, f + cB g f t w h / 2 ≤ i → i < t → cuR g (D + 1) f t x y w h k i = cuR g D (f + cB g f t w h / 2) t xb yb wb hb k i) →
          wX1_layPart D M (nI f) (nI (f + cB g f t w h / 2)) (nI xa) (nI ya) (nI wa) (nI ha) (fun M41 => wX1_layPart D M41 (nI (f + cB g f t w h / 2)) (nI t) (nI xb) (nI yb) (nI wb) (nI hb) (fun M42 => Q M42)) := by
        intro xa ya wa ha xb yb wb hb2 z1 z2 z3 z4 ea eb
        refine ih _ _ _ _ _ _ v M _ hi hv hv3 (by omega) (by omega) (by omega) z1 z2 (fun M1 p1 => ?_)
        obtain ⟨a1, a2, a3, v1, a4, a5, a6⟩ := p1
        have hi1 : inX m g X Y W H M1 := hi.cg (a3 28 (by omega)) (a3 30 (by omega)) (a3 31 (by omega))
        refine ih _ _ _ _ _ _ v1 M1 _ hi1 a5 a4 (by omega) (by omega) (by omega) z3 z4 (fun M2 p2 => ?_)
        obtain ⟨b1, b2, b3, v2, b4, b5, b6⟩ := p2
        refine hq M2 ⟨fun i q1 q2 => ?_, fun k i q0 q1 => ?_, fun q q1 => by rw [b3 q q1, a3 q q1], v2, b4, b5, fun u => ?_⟩
        · by_cases hik : i < f + cB g f t w h / 2
          · rw [ea 0 i q1 hik, ea 1 i q1 hik, ea 2 i q1 hik, ea 3 i q1 hik, b2 1 i (by omega) (Or.inl hik), b2 2 i (by omega) (Or.inl hik), b2 3 i (by omega) (Or.inl hik), b2 4 i (by omega) (Or.inl hik)]
            exact a1 i q1 hik
          · rw [eb 0 i (by omega) q2, eb 1 i (by omega) q2, eb 2 i (by omega) q2, eb 3 i (by omega) q2]
            exact b1 i (by omega) q2
        · rw [b2 k i q0 (by omega), a2 k i q0 (by omega)]
        · rw [b6, a6]
          constructor
          · intro ⟨⟨s1, s2⟩, s3⟩
            refine ⟨s1, fun i q1 q2 => ?_⟩
            by_cases hik : i < f + cB g f t w h / 2
            · rw [ea 2 i q1 hik, ea 3 i q1 hik]; exact s2 i q1 hik
            · rw [eb 2 i (by omega) q2, eb 3 i (by omega) q2]; exact s3 i (by omega) q2
          · intro ⟨s1, s2⟩
            refine ⟨⟨s1, fun i q1 q2 => ?_⟩, fun i q1 q2 => ?_⟩
            · have := s2 i q1 (by omega)
              rw [ea 2 i q1 q2, ea 3 i q1 q2] at this
              exact this
            · have := s2 i (by omega) q2
              rw [eb 2 i q1 q2, eb 3 i q1 q2] at this
              exact this
      have m0 := ahd_mono g h2
      have m1 := ahd_mono g (show f ≤ f + cB g f t w h / 2 by omega)
      have m2 := ahd_mono g (show f + cB g f t w h / 2 ≤ t by omega)
      have fin : ∀ s9 : Int32, s9 = nI (cB g f t w h % 2) → (s9 = 0 → wX1_layPart_134 (wX1_layPart D) Q M (nI f) (nI t) (nI x) (nI y) (nI w) (nI h) (nI (f + cB g f t w h / 2)) s9 (nI w)) ∧ (¬ s9 = 0 → wX1_layPart_134 (wX1_layPart D) Q M (nI f) (nI t) (nI x) (nI y) (nI w) (nI h) (nI (f + cB g f t w h / 2)) s9 (nI h)) := by
        intro s9 hs9
        have hz : s9 = 0 ↔ cB g f t w h % 2 = 0 := by rw [hs9, nI_0i (by omega)]
        have ew : shr w (ahd g (f + cB g f t w h / 2) - ahd g f) (ahd g t - ahd g f) = cfp g w f (cB g f t w h / 2) t := rfl
        have eh : shr h (ahd g (f + cB g f t w h / 2) - ahd g f) (ahd g t - ahd g f) = cfp g h f (cB g f t w h / 2) t := rfl
        unfold wX1_layPart_134
        refine ⟨fun hc => ?_, fun hc => ?_⟩
        · rw [sumX i7 (by omega) (by omega)]
          rw [sumX i7 (by omega) h2, shareX hw (by omega) (by omega), ew, nI_add, pk_sub c1]
          refine ⟨fun _ => ?_, fun h => absurd hc h⟩
          rw [hz] at hc
          refine two _ _ _ _ _ _ _ _ (by omega) hh (by omega) hh (fun k i q1 q2 => ?_) (fun k i q1 q2 => ?_)
          · rw [ap, if_pos q2, if_pos hc]
          · rw [ap, if_neg (by omega), if_pos hc]
        · rw [sumX i7 (by omega) (by omega)]
          rw [sumX i7 (by omega) h2, shareX hh (by omega) (by omega), eh, nI_add, nI_add, pk_sub c2]
          refine ⟨fun h => absurd h hc, fun _ => ?_⟩
          rw [hz] at hc
          refine two _ _ _ _ _ _ _ _ hw (by omega) hw (by omega) (fun k i q1 q2 => ?_) (fun k i q1 q2 => ?_)
          · rw [ap, if_pos q2, if_neg hc]
          · rw [ap, if_neg (by omega), if_neg hc]
      -- one middle: c = 2 k, 2 k + 1
      have step : ∀ j B r, B = cF g f t w h (fm (cF g f t w h) j) → bnd r (cF g f t w h (2 + (j + 1))) B → (B ≤ r → fm (cF g f t w h) (j + 1) = fm (cF g f t w h) j) ∧ (¬ B ≤ r → fm (cF g f t w h) (j + 1) = 2 + (j + 1) ∧ r = cF g f t w h (2 + (j + 1))) := by
        intro j B r hBe hr
        obtain ⟨r1, r2⟩ := hr
        rw [fm, ← hBe]
        refine ⟨fun q => if_neg (by omega), fun q => ⟨if_pos (by omega), by omega⟩⟩
      have key : ∀ r k c B, f + (k + 1) + r = t → 1 ≤ k → c = fm (cF g f t w h) (2 * k - 1) → B = cF g f t w h c → wX1_layPart_42 (wX1_layPart D) (fun (M31 : sy_M) (x1_32 : Int32) (x2_33 : Int32) (x3_34 : Int32) (x4_35 : Int32) (x5_36 : Int32) (x6_37 : Int32) (x8_38 : Int32) (x9_39 : Int32) => ((x9_39 = 0 → wX1_layPart_134 (wX1_layPart D) Q M31 x1_32 x2_33 x3_34 x4_35 x5_36 x6_37 x8_38 x9_39 x5_36) ∧ (¬ x9_39 = 0 → wX1_layPart_134 (wX1_layPart D) Q M31 x1_32 x2_33 x3_34 x4_35 x5_36 x6_37 x8_38 x9_39 x6_37))) Q (r + 1) M (nI f) (nI t) (nI x) (nI y) (nI w) (nI h) (nI B) (nI (f + c / 2)) (nI (c % 2)) (nI (f + (k + 1))) := by
        intro r
        induction r with
        | zero =>
          intro k c B hk hk1 hc hBe
          rw [wX1_layPart_42]
          have : nI t ≤ nI (f + (k + 1)) := nI_le (by omega) (by omega)
          refine ⟨fun _ => ?_, fun h => absurd this h⟩
          have e : c = cB g f t w h := by rw [hc]; unfold cB; rw [show 2 * (t - f) - 3 = 2 * k - 1 by omega]
          rw [e]
          exact fin _ rfl
        | succ r ihr =>
          intro k c B hk hk1 hc hBe
          have hfb := fm_b (cF g f t w h) (2 * k - 1)
          have vB := hFb c (by omega) (by omega)
          rw [wX1_layPart_42]
          have e1 : ¬ nI t ≤ nI (f + (k + 1)) := nI_ge (by omega) (by omega)
          simp only [e1, false_implies, true_implies, not_false_eq_true, true_and]
          refine hA _ (k + 1) B (by omega) (by omega) (by omega) (fun r1 hr1 => ?_)
          rw [show 2 * (k + 1) = 2 + (2 * k - 1 + 1) by omega] at hr1
          obtain ⟨s1, s2⟩ := step (2 * k - 1) B r1 (by rw [← hc]; exact hBe) hr1
          rw [nI_leI (by omega) hr1.1]
          unfold wX1_layPart_82
          have second : ∀ c1 B1, c1 = fm (cF g f t w h) (2 * k - 1 + 1) → B1 = cF g f t w h c1 → wX1_worstOfCut (wX1_leastWorst 9) M (nI f) (nI (f + (k + 1))) (nI t) (nI h) (nI w) (nI B1) (fun r7 M6 => ((nI B1 ≤ r7 → wX1_layPart_42 (wX1_layPart D) (fun (M31 : sy_M) (x1_32 : Int32) (x2_33 : Int32) (x3_34 : Int32) (x4_35 : Int32) (x5_36 : Int32) (x6_37 : Int32) (x8_38 : Int32) (x9_39 : Int32) => ((x9_39 = 0 → wX1_layPart_134 (wX1_layPart D) Q M31 x1_32 x2_33 x3_34 x4_35 x5_36 x6_37 x8_38 x9_39 x5_36) ∧ (¬ x9_39 = 0 → wX1_layPart_134 (wX1_layPart D) Q M31 x1_32 x2_33 x3_34 x4_35 x5_36 x6_37 x8_38 x9_39 x6_37))) Q (r + 1) M6 (nI f) (nI t) (nI x) (nI y) (nI w) (nI h) (nI B1) (nI (f + c1 / 2)) (nI (c1 % 2)) (nI (f + (k + 1)) + 1)) ∧ (¬ nI B1 ≤ r7 → wX1_layPart_42 (wX1_layPart D) (fun (M31 : sy_M) (x1_32 : Int32) (x2_33 : Int32) (x3_34 : Int32) (x4_35 : Int32) (x5_36 : Int32) (x6_37 : Int32) (x8_38 : Int32) (x9_39 : Int32) => ((x9_39 = 0 → wX1_layPart_134 (wX1_layPart D) Q M31 x1_32 x2_33 x3_34 x4_35 x5_36 x6_37 x8_38 x9_39 x5_36) ∧ (¬ x9_39 = 0 → wX1_layPart_134 (wX1_layPart D) Q M31 x1_32 x2_33 x3_34 x4_35 x5_36 x6_37 x8_38 x9_39 x6_37))) Q (r + 1) M6 (nI f) (nI t) (nI x) (nI y) (nI w) (nI h) r7 (nI (f + (k + 1))) (1 : Int32) (nI (f + (k + 1)) + 1)))) := by
            intro c1 B1 hc1 hB1
            have hfb1 := fm_b (cF g f t w h) (2 * k - 1 + 1)
            have vB1 := hFb c1 (by omega) (by omega)
            refine hD _ (k + 1) B1 (by omega) (by omega) (by omega) (fun r2 hr2 => ?_)
            rw [show 2 * (k + 1) + 1 = 2 + (2 * k - 1 + 1 + 1) by omega] at hr2
            obtain ⟨s3, s4⟩ := step (2 * k - 1 + 1) B1 r2 (by rw [← hc1]; exact hB1) hr2
            rw [nI_leI (by omega) hr2.1, nI_1]
            refine ⟨fun q => ?_, fun q => ?_⟩
            · exact ihr (k + 1) c1 B1 (by omega) (by omega) (by rw [hc1, show 2 * (k + 1) - 1 = 2 * k - 1 + 1 + 1 by omega, s3 q]) hB1
            · obtain ⟨s5, s6⟩ := s4 q
              have := ihr (k + 1) (2 * (k + 1) + 1) r2 (by omega) (by omega) (by rw [show 2 * (k + 1) - 1 = 2 * k - 1 + 1 + 1 by omega, s5]; omega) (by rw [s6]; congr 1; omega)
              rw [show (2 * (k + 1) + 1) / 2 = k + 1 by omega, show (2 * (k + 1) + 1) % 2 = 1 by omega] at this
              exact this
          refine ⟨fun q => ?_, fun q => ?_⟩
          · exact second c B (by rw [s1 q]; exact hc) hBe
          · obtain ⟨s5, s6⟩ := s2 q
            have := second (2 * (k + 1)) r1 (by rw [s5]; omega) (by rw [s6]; congr 1; omega)
            rw [show 2 * (k + 1) / 2 = k + 1 by omega, show 2 * (k + 1) % 2 = 0 by omega] at this
            exact this
      refine ⟨t - (f + 1) - 1 + 1 + 1, ?_⟩
      rw [wX1_layPart_42, show nI f + nI 1 = nI (f + 1) from nI_add _ _]
      have e1 : ¬ nI t ≤ nI (f + 1) := nI_ge (by omega) (by omega)
      simp only [e1, false_implies, true_implies, not_false_eq_true, true_and]
      have v2 := hFb 2 (by omega) (by omega)
      refine hA _ 1 2147483647 (by omega) (by omega) (by omega) (fun r1 hr1 => ?_)
      rw [show 2 * 1 = 2 from rfl] at hr1
      have er1 : r1 = cF g f t w h 2 := by
        rcases hr1.2 with q | q
        · exact q
        · omega
      subst er1
      have nle : ¬ nI 2147483647 ≤ nI (cF g f t w h 2) := nI_ge (by omega) (by omega)
      refine ⟨fun q => absurd q nle, fun _ => ?_⟩
      unfold wX1_layPart_82
      refine hD _ 1 _ (by omega) (by omega) (by omega) (fun r2 hr2 => ?_)
      obtain ⟨s3, s4⟩ := step 0 (cF g f t w h 2) r2 rfl hr2
      rw [nI_leI (by omega) hr2.1, nI_1]
      refine ⟨fun q => ?_, fun q => ?_⟩
      · exact key (t - (f + 1) - 1) 1 2 _ (by omega) (by omega) (by rw [show 2 * 1 - 1 = 0 + 1 by omega, s3 q]; rfl) rfl
      · obtain ⟨s5, s6⟩ := s4 q
        exact key (t - (f + 1) - 1) 1 3 _ (by omega) (by omega) (by rw [show 2 * 1 - 1 = 0 + 1 by omega, s5]) s6
    · have hf1 : f < m := by omega
      have sl := shp_le (s := g f) hw hh
      rw [putX iX5_47 (by omega) hw hh hv (by omega) (i6 f hf1).2 (i6 f hf1).1]
      have ec : ∀ k i, cuR g (D + 1) f t x y w h k i = if k = 0 then x else if k = 1 then y else if k = 2 then w else h := by
        intro k i
        rw [cuR]
        simp only [if_pos (show t ≤ f + 1 by omega)]
      refine hq _ ⟨fun i q1 q2 => ?_, fun k i q0 q1 => ptX_ne (by omega) k q0, fun q q1 => ptX_o q1, max v (shp (g f) w h), by omega, ptX_v _ _ _ _ _ _ _ _, fun u => ?_⟩
      · have : i = f := by omega
        subst this
        rw [ec, ec, ec, ec]
        exact ptX_in _ _ _ _ _ _ _ _
      · rw [Nat.max_le]
        constructor
        · intro ⟨s1, s2⟩
          refine ⟨s1, fun i q1 q2 => ?_⟩
          have : i = f := by omega
          subst this
          rw [ec, ec]
          exact s2
        · intro ⟨s1, s2⟩
          have := s2 f (Nat.le_refl _) (by omega)
          rw [ec, ec] at this
          exact ⟨s1, this⟩
theorem cutsX {M : sy_M} {p m x y w h : Nat} {g : Nat → Nat} {Q : sy_M → Prop} (hp : p = 47) (hi : inX m g x y w h M)
    (hq : ∀ M', plX p (cuR g 9 0 m x y w h) m M' → M' p 0 = nI (wsN g (cuR g 9 0 m x y w h) m) → frX p M M' → Q M') : wX1_lay M Q := by
  have hp2 : 33 ≤ p ∧ p ≤ 47 := by omega
  subst hp
  obtain ⟨⟨hm1, hxw, hyh⟩, i1, ⟨i2, i3, i4, i5⟩, i6, i7⟩ := id hi
  have hm8 := i7.1
  obtain ⟨M1, hM1⟩ : ∃ M1, M1 = mu M 47 0 (0 : Int32) := ⟨_, rfl⟩
  have eo : ∀ q, q ≠ 47 → M1 q = M q := fun q q2 => by rw [hM1, mu_oth q2]
  have hi1 : inX m g x y w h M1 := hi.cg (eo 28 (by omega)) (eo 30 (by omega)) (eo 31 (by omega))
  obtain ⟨-, j1, ⟨j2, j3, j4, j5⟩, j6, j7⟩ := id hi1
  unfold wX1_lay
  rw [← hM1, i1, i2, i3, i4, i5, show (0 : Int32) = nI 0 from rfl]
  refine layPartX rfl 9 0 m x y w h 0 M1 _ hi1 (by rw [hM1]; exact mu_eq _ _ _ _) (by omega) (by omega) (Nat.le_refl _) (by omega) (by omega) (by omega) (fun M2 p2 => ?_)
  obtain ⟨b1, b2, b3, v2, b4, b5, b6⟩ := p2
  refine hq M2 (fun i hi => b1 i (by omega) hi) ?_ (fun q q1 q2 => by rw [b3 q q1]; exact eo q (by omega))
  have e : ∀ u, v2 ≤ u ↔ wsN g (cuR g 9 0 m x y w h) m ≤ u := by
    intro u
    rw [b6, wsN_le2]
    exact ⟨fun s i q => s.2 i (by omega) q, fun s => ⟨Nat.zero_le _, fun i _ q => s i q⟩⟩
  have e1 := (e v2).mp (Nat.le_refl _)
  have e2 := (e (wsN g (cuR g 9 0 m x y w h) m)).mpr (Nat.le_refl _)
  rw [b5, show v2 = wsN g (cuR g 9 0 m x y w h) m by omega]
