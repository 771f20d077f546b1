/-! ROWS: the class lays the best breaks -/
def frP (p : Nat) (M M' : sy_M) : Prop := ∀ q, (q < p ∨ p + 6 ≤ q) → M' q = M q
theorem roR_bd (g : Nat → Nat) (β : Nat → Bool) {m x y w h : Nat} (hw : w ≤ 3000) (hh : h ≤ 3000) (i : Nat) : roR g β m x y w h 2 i ≤ 3000 ∧ roR g β m x y w h 3 i ≤ 3000 := by
  have b1 := bg_le g (i + 1) w (rf β i) (re β m i)
  have b2 := bg_le g (re β m i) h 0 m
  constructor
  · show bg g (i + 1) w (rf β i) (re β m i) - bg g i w (rf β i) (re β m i) ≤ 3000
    omega
  · show bg g (re β m i) h 0 m - bg g (rf β i) h 0 m ≤ 3000
    omega
theorem layRowX {M : sy_M} {p m x y w h f : Nat} {g : Nat → Nat} {β : Nat → Bool} {Q : sy_M → Prop} (hp : p = 40) (hi : inX m g x y w h M) (hf : f < m) (hs : rf β f = f) (hpl : plX p (roR g β m x y w h) f M) (hws : M p 0 = nI (wsN g (roR g β m x y w h) f))
    (hq : ∀ M', plX p (roR g β m x y w h) (re β m f) M' → M' p 0 = nI (wsN g (roR g β m x y w h) (re β m f)) → frP p M M' → Q M') : wX8_layRow M (nI f) (nI (re β m f)) Q := by
  have hp2 : 33 ≤ p ∧ p ≤ 47 := by omega
  subst hp
  obtain ⟨⟨hm1, hxw, hyh⟩, i1, ⟨i2, i3, i4, i5⟩, i6, i7⟩ := id hi
  have hm8 := i7.1
  have hb := re_b β hf
  obtain ⟨t, ht⟩ : ∃ t, t = re β m f := ⟨_, rfl⟩
  rw [← ht] at hb hq ⊢
  have c1 := bg_mono g h 0 m (show f ≤ t by omega)
  have key : ∀ r i M1, i + r = t → f ≤ i → plX 40 (roR g β m x y w h) i M1 → M1 40 0 = nI (wsN g (roR g β m x y w h) i) → frP 40 M M1 → wX8_layRow_38 Q (r + 1) M1 (nI f) (nI t) (nI (bg g f h 0 m)) (nI (bg g t h 0 m - bg g f h 0 m)) (nI i) := by
    intro r
    induction r with
    | zero =>
      intro i M1 hi1 hfi h1 h2 h3
      have : i = t := by omega
      subst this
      rw [wX8_layRow_38]
      have : nI i ≤ nI i := nI_le (Nat.le_refl _) (by omega)
      exact ⟨fun _ => hq M1 h1 h2 h3, fun h => absurd this h⟩
    | succ r ih =>
      intro i M1 hi1 hfi h1 h2 h3
      have hX : inX m g x y w h M1 := hi.cg (h3 28 (by omega)) (h3 30 (by omega)) (h3 31 (by omega))
      obtain ⟨-, j1, ⟨j2, j3, j4, j5⟩, j6, j7⟩ := id hX
      rw [wX8_layRow_38]
      have e1 : ¬ nI t ≤ nI i := nI_ge (by omega) (by omega)
      simp only [e1, false_implies, true_implies, not_false_eq_true, true_and]
      obtain ⟨r1, r2⟩ := row_in β hs hf hfi (by omega)
      have bm := bg_mono g w f t (show i ≤ i + 1 by omega)
      have bl := bg_le g (i + 1) w f t
      have bh := bg_le g t h 0 m
      have hwl := wsN_le (g := g) (r := roR g β m x y w h) i (fun i _ => roR_bd g β (by omega) (by omega) i)
      rw [j4, beginX j7 (by omega) (by omega) (by omega) hb.2 (by omega), nI_1, j4, beginX j7 (by omega) (by omega) (by omega) hb.2 (by omega), j2, j3, nI_add, nI_add, pk_sub bm, putX iX5_40 (by omega) (by omega) (by omega) h2 (by omega) (j6 i (by omega)).2 (j6 i (by omega)).1]
      have s0 : roR g β m x y w h 0 i = x + bg g i w f t := by unfold roR; rw [r1, r2, ← ht]; rfl
      have s1 : roR g β m x y w h 1 i = y + bg g f h 0 m := by unfold roR; rw [r1]; rfl
      have s2 : roR g β m x y w h 2 i = bg g (i + 1) w f t - bg g i w f t := by unfold roR; rw [r1, r2, ← ht]; rfl
      have s3 : roR g β m x y w h 3 i = bg g t h 0 m - bg g f h 0 m := by unfold roR; rw [r1, r2, ← ht]; rfl
      refine ih (i + 1) _ (by omega) (by omega) (fun k hk => ?_) ?_ (fun q hq => by rw [ptX_o hq]; exact h3 q hq)
      · by_cases hki : k = i
        · subst hki
          rw [s0, s1, s2, s3]
          exact ptX_in _ _ _ _ _ _ _ _
        · rw [ptX_ne hki 1 (by omega), ptX_ne hki 2 (by omega), ptX_ne hki 3 (by omega), ptX_ne hki 4 (by omega)]
          exact h1 k (by omega)
      · rw [ptX_v, wsN, s2, s3]
  unfold wX8_layRow
  rw [i1, i5, show (0 : Int32) = nI 0 from rfl, beginX i7 (by omega) (by omega) (by omega) (Nat.le_refl _) (by omega), i1, i5, beginX i7 (by omega) (by omega) (by omega) (Nat.le_refl _) (by omega), pk_sub c1]
  exact ⟨t - f + 1, key (t - f) f M (by omega) (Nat.le_refl _) hpl hws (fun _ _ => rfl)⟩
/-- the best breaks -/
def bestB (g : Nat → Nat) (m w h : Nat) (β : Nat → Bool) : Prop := ∀ β' : Nat → Bool, wtR g β m w h m 0 < wtR g β' m w h m 0 ∨ (wtR g β m w h m 0 = wtR g β' m w h m 0 ∧ (nrR β m 0 < nrR β' m 0 ∨ (nrR β m 0 = nrR β' m 0 ∧
  ((∀ k, k + 1 < m → β' k = β k) ∨ ∃ k, k + 1 < m ∧ (∀ j, j < k → β' j = β j) ∧ β' k = true ∧ β k = false))))
theorem ro_opt {g : Nat → Nat} {m w h : Nat} {L F E : Nat → Nat} (hm1 : 1 ≤ m) (hm8 : m ≤ 8) (hL0 : L m = 0) (hL : ∀ f, f < m → spL g m w h L f) (hF0 : F m = 0) (hF : ∀ f, f < m → spF g m w h (L 0) F f) (hE : ∀ f, f < m → spE g m w h (L 0) F E f) : bestB g m w h (btE E) := by
  intro β'
  have a1 := ro_A hL0 hL β' m 0 (by omega) (by omega)
  have a2 := ro_A hL0 hL (btE E) m 0 (by omega) (by omega)
  have b1 := ro_B hL hF0 hF m 0 (by omega) (by omega) (Nat.le_refl _)
  obtain ⟨d1, d2⟩ := ro_D hF0 hF hE m 0 (by omega) (by omega) (fun _ => rfl) (by omega)
  by_cases h1 : wtR g β' m w h m 0 ≤ L 0
  · refine Or.inr ⟨by omega, ?_⟩
    have e1 := ro_E hF0 hF β' m 0 (by omega) (by omega) h1
    by_cases h2 : nrR β' m 0 = F 0
    · refine Or.inr ⟨by omega, ?_⟩
      rcases ro_F hF0 hF hE β' m 0 (by omega) (by omega) (fun _ => rfl) (by omega) h1 h2 with q | ⟨k, -, k2, k3, k4, k5⟩
      · exact Or.inl (fun k hk => q k (by omega) hk)
      · exact Or.inr ⟨k, k2, fun j hj => k3 j (by omega) hj, k4, k5⟩
    · exact Or.inl (by omega)
  · exact Or.inl (by omega)
theorem rowsX {M : sy_M} {p m x y w h : Nat} {g : Nat → Nat} {Q : sy_M → Prop} (hp : p = 40) (hi : inX m g x y w h M)
    (hq : ∀ M' β, bestB g m w h β → plX p (roR g β m x y w h) m M' → M' p 0 = nI (wsN g (roR g β m x y w h) m) → frX p M M' → Q M') : wX8_lay M Q := by
  have hp2 : 33 ≤ p ∧ p ≤ 47 := by omega
  subst hp
  obtain ⟨⟨hm1, hxw, hyh⟩, i1, ⟨i2, i3, i4, i5⟩, i6, i7⟩ := id hi
  have hm8 := i7.1
  unfold wX8_lay
  rw [i1]
  refine lay10X hi (fun M1 t1 f1 => ?_)
  refine leastX hm1 hm8 (show w ≤ 3000 by omega) (show h ≤ 3000 by omega) t1 (fun M2 L l1 l2 l3 l4 => ?_)
  have t2 : tbW g m w h 0 M2 := fun f t q1 q2 q3 => by rw [l4 55 (by omega)]; exact t1 f t q1 q2 q3
  refine fewestX hm1 hm8 (show w ≤ 3000 by omega) (show h ≤ 3000 by omega) t2 (l3 0 (by omega)).1 (l3 0 (by omega)).2 (fun M3 F n1 n2 n3 n4 => ?_)
  have t3 : tbW g m w h 0 M3 := fun f t q1 q2 q3 => by rw [n4 55 (by omega)]; exact t2 f t q1 q2 q3
  have l03 : M3 56 0 = nI (L 0) := by rw [n4 56 (by omega)]; exact (l3 0 (by omega)).2
  have hEs : ∀ f, f < m → spE g m w h (L 0) F (eE g m w h (L 0) F) f := fun f hf => eE_sp g m w h (L 0) F hf
  have hEb : ∀ f, f < m → f < eE g m w h (L 0) F f ∧ eE g m w h (L 0) F f ≤ m := fun f hf => ⟨(hEs f hf).1, (hEs f hf).2.1⟩
  have hopt := ro_opt hm1 hm8 l1 l2 n1 n2 hEs
  have fr3 : ∀ q, (q < 55 ∨ 57 < q) → M3 q = M q := fun q hq => by rw [n4 q (by omega), l4 q (by omega)]; exact f1 q hq
  have key : ∀ r f row M4, row + r = m → row ≤ f → f ≤ m → (f < m → curE (eE g m w h (L 0) F) f = eE g m w h (L 0) F f ∧ rf (btE (eE g m w h (L 0) F)) f = f) → plX 40 (roR g (btE (eE g m w h (L 0) F)) m x y w h) f M4 → M4 40 0 = nI (wsN g (roR g (btE (eE g m w h (L 0) F)) m x y w h) f) → frP 40 M3 M4 → wX8_lay_78 Q (r + 1) M4 (nI m) (nI f) (nI row) := by
    have fin : ∀ M4, plX 40 (roR g (btE (eE g m w h (L 0) F)) m x y w h) m M4 → M4 40 0 = nI (wsN g (roR g (btE (eE g m w h (L 0) F)) m x y w h) m) → frP 40 M3 M4 → Q M4 := by
      intro M4 h1 h2 h3
      exact hq M4 _ hopt h1 h2 (fun q q1 q2 => by rw [h3 q q1]; exact fr3 q (by omega))
    intro r
    induction r with
    | zero =>
      intro f row M4 hr hrf hfm hs h1 h2 h3
      have : f = m := by omega
      subst this
      rw [wX8_lay_78]
      have : nI f ≤ nI row := nI_le (by omega) (by omega)
      exact ⟨fun _ => fin M4 h1 h2 h3, fun h => absurd this h⟩
    | succ r ih =>
      intro f row M4 hr hrf hfm hs h1 h2 h3
      rw [wX8_lay_78]
      have e1 : ¬ nI m ≤ nI row := nI_ge (by omega) (by omega)
      simp only [e1, false_implies, true_implies, not_false_eq_true, true_and]
      by_cases hf : f = m
      · subst hf
        have : nI f ≤ nI f := nI_le (Nat.le_refl _) (by omega)
        exact ⟨fun _ => fin M4 h1 h2 h3, fun h => absurd this h⟩
      · have e2 : ¬ nI m ≤ nI f := nI_ge (by omega) (by omega)
        simp only [e2, false_implies, true_implies, not_false_eq_true, true_and]
        have hfm2 : f < m := by omega
        obtain ⟨s1, s2⟩ := hs hfm2
        obtain ⟨u1, u2⟩ := btE_re hEb hfm2 s1
        refine endX (l0 := L 0) (F := F) hm8 (show w ≤ 3000 by omega) (show h ≤ 3000 by omega) (fun f t q1 q2 q3 => by rw [h3 55 (by omega)]; exact t3 f t q1 q2 q3) (l3 0 (by omega)).1 (by rw [h3 56 (by omega)]; exact l03) (fun f hf => by rw [h3 57 (by omega)]; exact n3 f hf) hfm2 ?_
        have hX : inX m g x y w h M4 := hi.cg (by rw [h3 28 (by omega)]; exact fr3 28 (by omega)) (by rw [h3 30 (by omega)]; exact fr3 30 (by omega)) (by rw [h3 31 (by omega)]; exact fr3 31 (by omega))
        have hrow := row_st (btE (eE g m w h (L 0) F)) hfm2
        have hb := re_b (btE (eE g m w h (L 0) F)) hfm2
        rw [← u1] at u2 ⊢
        refine layRowX rfl hX hfm2 s2 h1 h2 (fun M5 v1 v2 v3 => ?_)
        rw [nI_1]
        refine ih _ (row + 1) M5 (by omega) (by omega) hb.2 (fun q => ⟨?_, hrow q⟩) v1 v2 (fun q hq => by rw [v3 q hq]; exact h3 q hq)
        rw [u2 q, u1]
  refine ⟨m + 1, ?_⟩
  exact key m 0 0 _ (by omega) (Nat.le_refl _) (by omega) (fun _ => ⟨rfl, rfl⟩) (fun i hi => absurd hi (by omega)) (mu_eq _ _ _ _) (fun q hq => mu_oth (by omega))
