/-! draw: the class -/
def g0 (S : Nat → Nat) (sw sh : Nat) : Nat → Nat → Nat := fun q c => if q = 0 then (if c = 0 then 1 else 0) else if q = 3 then sw else if q = 4 then sh else if q = 5 then S c else 0
/-- what the class's draw stands on -/
def dwX (t nb d pr : Nat) (T L : Nat → Nat → Nat) (S : Nat → Nat) (Gp : Nat → Nat → Nat) (M : sy_M) : Prop :=
  M 0 6 = nI t ∧ M t 0 = nI nb ∧ (∀ b, b < nb → M (t + 1) b = pm (T 0 b) ∧ M (t + 2) b = pm (T 1 b) ∧ M (t + 7) b = nI (T 6 b) ∧ M (t + 8) b = nI (L 0 b) ∧ M (t + 9) b = nI (L 1 b)) ∧ prX d nb Gp M ∧ M 27 0 = nI pr ∧ M 31 0 = 0 ∧ ∀ c, c < nb → M 16 (d % 50 * 40 + c) = nI (S c)
theorem dwX.cg {t nb d pr : Nat} {T L : Nat → Nat → Nat} {S : Nat → Nat} {Gp : Nat → Nat → Nat} {M M' : sy_M} (ht : 60 ≤ t ∧ t ≤ 71) (h : dwX t nb d pr T L S Gp M) (e : frGX d M M') : dwX t nb d pr T L S Gp M' := by
  obtain ⟨h1, h2, h3, ⟨p1, p2, p3, p4, p5⟩, h5, h6, h7⟩ := h
  obtain ⟨e1, e2, e3, e4, e5, e6⟩ := e
  refine ⟨by rw [e1 0 (by omega)]; exact h1, by rw [e4 t (by omega)]; exact h2, fun b hb => ?_, ⟨p1, p2, p3, by rw [e1 9 (by omega)]; exact p4, fun hd => (p5 hd).cg (fun q z1 z2 c hc => e6 q z1 z2 _ (by omega))⟩, by rw [e3]; exact h5, e5, fun c hc => by rw [e2]; exact h7 c hc⟩
  rw [e4 (t + 1) (by omega), e4 (t + 2) (by omega), e4 (t + 7) (by omega), e4 (t + 8) (by omega), e4 (t + 9) (by omega)]
  exact h3 b hb
theorem frGX.tr {d : Nat} {M M' M'' : sy_M} (h : frGX d M M') (h' : frGX d M' M'') : frGX d M M'' := by
  obtain ⟨a1, a2, a3, a4, a5, a6⟩ := h
  obtain ⟨b1, b2, b3, b4, b5, b6⟩ := h'
  exact ⟨fun q z => by rw [b1 q z, a1 q z], by rw [b2, a2], by rw [b3, a3], fun q z => by rw [b4 q z, a4 q z], b5, fun q z1 z2 i z3 => by rw [b6 q z1 z2 i z3, a6 q z1 z2 i z3]⟩
def okC (T : Nat → Nat → Nat) (S : Nat → Nat) (L : Nat → Nat → Nat) (nb pr d : Nat) (Gp G0 : Nat → Nat → Nat) (βs : Nat → Nat → Bool) (n : Nat) : Prop := ∀ c, c < n → T 1 c ≠ 0 → okB (chS T S L nb c) (T 1 c - 1) (chG T S L nb pr d Gp G0 βs c) c (βs c)
theorem loopX {M : sy_M} {t nb d pr : Nat} {T V L : Nat → Nat → Nat} {S l : Nat → Nat} {Gp G0 : Nat → Nat → Nat} {Q : Int32 → sy_M → Prop} (ht : 60 ≤ t ∧ t ≤ 71) (ht2 : iX10 t) (hw : wfT nb T V) (hnb0 : 0 < nb) (hL : ∀ b, b < nb → L 0 b ≤ 999 ∧ L 1 b ≤ 1) (hS : S = SZ T l nb) (hSb : ∀ c, c < nb → S c ≤ 39999960) (hpr2 : pr ≤ 1000) (hM : dwX t nb d pr T L S Gp M) (hG0 : gB nb G0) (h00 : G0 0 0 = 1) (h05 : ∀ c, c < nb → G0 5 c = S c) (hGX : gX (d % 50) nb G0 M)
    (hq : ∀ M' βs, okC T S L nb pr d Gp G0 βs nb → gX (d % 50) nb (chG T S L nb pr d Gp G0 βs nb) M' → rX nb T (chR T S L nb pr d Gp G0 βs nb) M' → frGX d M M' → Q (nI d) M') : ∃ n, wX11_draw_74 Q n M (nI 0) := by
  have hnb := hw.1
  have key : ∀ r b M1 βs, b + r = nb → okC T S L nb pr d Gp G0 βs b → gX (d % 50) nb (chG T S L nb pr d Gp G0 βs b) M1 → rX b T (chR T S L nb pr d Gp G0 βs b) M1 → frGX d M M1 → wX11_draw_74 Q (r + 1) M1 (nI b) := by
    intro r
    induction r with
    | zero =>
      intro b M1 βs hb h1 h2 h3 h4
      have : b = nb := by omega
      subst this
      have hD := hM.cg ht h4
      rw [wX11_draw_74]
      refine ⟨t, hD.1, ht2, fun _ => ?_, fun h => ?_⟩
      · rw [hD.2.2.2.1.2.2.2.1, nI_pred]
        exact hq M1 βs h1 h2 h3 h4
      · rw [hD.2.1] at h
        exact absurd (nI_le (Nat.le_refl b) (by omega)) h
    | succ r ih =>
      intro b M1 βs hb h1 h2 h3 h4
      have hbn : b < nb := by omega
      have hD := hM.cg ht h4
      obtain ⟨d1, d2, d3, d4, d5, d6, d7⟩ := id hD
      have hc := ch_all (L := L) (pr := pr) (d := d) (Gp := Gp) (βs := βs) hw hS hSb hG0 h00 h05 b (by omega)
      obtain ⟨c1, c2, c3, c4⟩ := hc
      rw [wX11_draw_74]
      refine ⟨t, d1, ht2, fun h => ?_, fun _ => ⟨t, d1, ht2, ?_⟩⟩
      · rw [d2] at h
        exact absurd h (nI_ge (by omega) (by omega))
      · rw [isGroup_y d2 hbn hnb (d3 b hbn).2.1 (hw.2.2.2.1 b hbn).1, nI_1]
        unfold b01
        by_cases hg : T 1 b = 0
        · rw [if_pos hg]
          refine ⟨fun _ => ?_, fun h => absurd rfl h⟩
          refine ih (b + 1) M1 βs (by omega) (fun c hc hgc => ?_) (by rw [chG, if_pos hg]; exact h2) (fun c hc hgc => ?_) h4
          · by_cases hcb : c = b
            · subst hcb; exact absurd hg hgc
            · exact h1 c (by omega) hgc
          · rw [chR, if_pos hg]
            by_cases hcb : c = b
            · subst hcb; exact absurd hg hgc
            · exact h3 c (by omega) hgc
        · rw [if_neg hg]
          refine ⟨fun h => absurd h (by decide), fun _ => ⟨t, d1, ht2, ?_⟩⟩
          have hshown : chG T S L nb pr d Gp G0 βs b 0 b = 1 := by
            refine c4 b hbn hg ?_
            by_cases hb0 : b = 0
            · subst hb0; rw [(hw.2.1 (by omega)).1]; omega
            · exact (hw.2.2.1 b hbn (by omega)).2.1
          refine layGroupX (l := l) (σ := chS T S L nb b) ht hw hbn hg hS hSb rfl ⟨d2, fun c hc => ⟨(d3 c hc).1, (d3 c hc).2.1⟩, (d3 b hbn).2.2.1, (d3 b hbn).2.2.2.1, (d3 b hbn).2.2.2.2, d4.2.2.2.1, fun c hc => ⟨hSb c hc, by rw [Nat.add_sub_cancel]; exact d7 c hc⟩⟩ (hL b hbn).1 (hL b hbn).2 d4 d5 hpr2 d6 h2 c1 hshown h3 (fun M2 β k1 k2 k3 k4 => ?_)
          obtain ⟨γ, hγ⟩ : ∃ γ : Nat → Nat → Bool, γ = fun c => if c = b then β else βs c := ⟨_, rfl⟩
          have hγb : γ b = β := by rw [hγ]; exact if_pos rfl
          have hγo : ∀ c, c < b → γ c = βs c := fun c hc => by rw [hγ]; exact if_neg (by omega)
          have cg := chG_cg (T := T) (S := S) (L := L) (nb := nb) (pr := pr) (d := d) (Gp := Gp) (G0 := G0) b hγo
          refine ih (b + 1) M2 γ (by omega) (fun c hc hgc => ?_) ?_ ?_ (h4.tr k4)
          · by_cases hcb : c = b
            · subst hcb; rw [hγb, cg.1]; exact k1
            · have cg2 := chG_cg (T := T) (S := S) (L := L) (nb := nb) (pr := pr) (d := d) (Gp := Gp) (G0 := G0) c (fun c2 hc2 => hγo c2 (by omega))
              rw [hγo c (by omega), cg2.1]
              exact h1 c (by omega) hgc
          · rw [chG, if_neg hg, cg.1, hγb]; exact k2
          · rw [chR, if_neg hg, cg.1, cg.2, hγb]; exact k3
  exact ⟨nb + 1, key nb 0 M (fun _ _ => false) (by omega) (fun c hc => absurd hc (by omega)) hGX (fun c hc => absurd hc (by omega)) ⟨fun _ _ => rfl, rfl, rfl, fun _ _ => rfl, hM.2.2.2.2.2.1, fun _ _ _ _ _ => rfl⟩⟩
/-- a drawing is begun -/
theorem beginX2 {M : sy_M} {nb d : Nat} {S : Nat → Nat} {a : Int32} {Q : sy_M → Prop} (hnb : nb ≤ 40) (hd : d < 2 ^ 20 - 1) (h9 : M 9 0 = nI d) (h59 : ∀ c, c < nb → M 59 c = nI (S c))
    (hq : ∀ M', M' 9 0 = nI (d + 1) → M' 10 (d % 50) = a → (∀ i, i ≠ d % 50 → M' 10 i = M 10 i) → (∀ c, c < nb → M' 16 (d % 50 * 40 + c) = nI (S c) ∧ M' 17 (d % 50 * 40 + c) = 0) → (∀ q, q = 16 ∨ q = 17 → ∀ i, (i < d % 50 * 40 ∨ d % 50 * 40 + 40 ≤ i) → M' q i = M q i) → (∀ q, q ≠ 9 → q ≠ 10 → q ≠ 16 → q ≠ 17 → M' q = M q) → Q M') : wX2_begin M a (nI nb) Q := by
  have md : d % 50 < 50 := Nat.mod_lt _ (by omega)
  unfold wX2_begin
  rw [h9, pk_rem (by omega) (by omega) (by omega), ex_nI (show d % 50 < 50 by omega) (by omega), nI_1]
  have key : ∀ r b M1, b + r = nb → M1 9 0 = nI (d + 1) → M1 10 (d % 50) = a → (∀ i, i ≠ d % 50 → M1 10 i = M 10 i) → (∀ c, c < b → M1 16 (d % 50 * 40 + c) = nI (S c) ∧ M1 17 (d % 50 * 40 + c) = 0) → (∀ q, q = 16 ∨ q = 17 → ∀ i, (i < d % 50 * 40 ∨ d % 50 * 40 + 40 ≤ i) → M1 q i = M q i) → (∀ q, q ≠ 9 → q ≠ 10 → q ≠ 16 → q ≠ 17 → M1 q = M q) → wX2_begin_26 Q (r + 1) M1 (nI nb) (nI b) := by
    intro r
    induction r with
    | zero =>
      intro b M1 hb k1 k2 k3 k4 k5 k6
      have : b = nb := by omega
      subst this
      rw [wX2_begin_26]
      have : nI b ≤ nI b := nI_le (Nat.le_refl _) (by omega)
      exact ⟨fun _ => hq M1 k1 k2 k3 k4 k5 k6, fun h => absurd this h⟩
    | succ r ih =>
      intro b M1 hb k1 k2 k3 k4 k5 k6
      rw [wX2_begin_26]
      have e1 : ¬ nI nb ≤ nI b := nI_ge (by omega) (by omega)
      simp only [e1, false_implies, true_implies, not_false_eq_true, true_and]
      rw [latest_y (d := d + 1) k1 (by omega) (by omega), Nat.add_sub_cancel, ex_nI (show b < 40 by omega) (by omega), ex_nI (show d % 50 * 40 + b < 2000 by omega) (by omega), k6 59 (by omega) (by omega) (by omega) (by omega), h59 b (by omega), nar01 (Or.inl rfl), nI_1]
      refine ih (b + 1) _ (by omega) (by rw [mu_n1 _ _ _ _ (by omega), mu_n1 _ _ _ _ (by omega)]; exact k1) (by rw [mu_n1 _ _ _ _ (by omega), mu_n1 _ _ _ _ (by omega)]; exact k2) (fun i hi => by rw [mu_n1 _ _ _ _ (by omega), mu_n1 _ _ _ _ (by omega)]; exact k3 i hi) (fun c hc => ?_) (fun q hq i hi => ?_) (fun q z1 z2 z3 z4 => by rw [mu_oth z4, mu_oth z3]; exact k6 q z1 z2 z3 z4)
      · by_cases hcb : c = b
        · subst hcb
          refine ⟨?_, mu_eq _ _ _ _⟩
          rw [mu_n1 _ _ _ _ (by omega)]; exact mu_eq _ _ _ _
        · rw [mu_n2 _ _ _ _ (by omega), mu_n2 _ _ _ _ (by omega), mu_n2 _ _ _ _ (by omega), mu_n2 _ _ _ _ (by omega)]
          exact k4 c (by omega)
      · rw [mu_n2 _ _ _ _ (by omega), mu_n2 _ _ _ _ (by omega)]
        exact k5 q hq i hi
  refine ⟨nb + 1, key nb 0 _ (by omega) (mu_eq _ _ _ _) ?_ (fun i hi => ?_) (fun c hc => absurd hc (by omega)) (fun q hq i hi => ?_) (fun q z1 z2 z3 z4 => by rw [mu_oth z1, mu_oth z2])⟩
  · rw [mu_n1 _ _ _ _ (by omega)]; exact mu_eq _ _ _ _
  · rw [mu_n1 _ _ _ _ (by omega), mu_n2 _ _ _ _ hi]
  · rw [mu_n1 _ _ _ _ (by omega), mu_n1 _ _ _ _ (by omega)]
/-- the whole draw of the class: frames against the memory before -/
def frDX (d : Nat) (A A' : sy_M) : Prop := (∀ q, q < 8 → A' q = A q) ∧ A' 27 = A 27 ∧ (∀ q, 59 < q → A' q = A q) ∧ A' 31 0 = 0 ∧ (∀ q, 12 ≤ q → q ≤ 17 → ∀ i, (i < d % 50 * 40 ∨ d % 50 * 40 + 40 ≤ i) → A' q i = A q i) ∧ (∀ i, i ≠ d % 50 → A' 10 i = A 10 i)
theorem drawX {A : sy_M} {t nb nc d pr tk sw sh : Nat} {T V L C : Nat → Nat → Nat} {S : Nat → Nat} {Gp : Nat → Nat → Nat} {Q : Int32 → sy_M → Prop} (ht : 60 ≤ t ∧ t ≤ 71) (ht2 : iX10 t) (hw : wfT nb T V) (hnb0 : 0 < nb) (hbd : bdC nb nc T C) (hsz : szX t nb nc T C A) (htk : tk ≤ 999) (hS : S = SZ T (lsz T C nc tk) nb) (hd : d < 2 ^ 20 - 1) (h06 : A 0 6 = nI t) (hT : ∀ b, b < nb → A (t + 1) b = pm (T 0 b) ∧ A (t + 2) b = pm (T 1 b) ∧ A (t + 7) b = nI (T 6 b) ∧ A (t + 8) b = nI (L 0 b) ∧ A (t + 9) b = nI (L 1 b)) (hL : ∀ b, b < nb → L 0 b ≤ 999 ∧ L 1 b ≤ 1) (hpr : A 27 0 = nI pr) (hpr2 : pr ≤ 1000) (h31 : A 31 0 = 0) (h9 : A 9 0 = nI d) (hgp : gB nb Gp) (hgx : 0 < d → gX ((d - 1) % 50) nb Gp A) (hsw : A 0 8 = nI sw) (hsh : A 0 9 = nI sh) (hsw2 : sw ≤ 3000) (hsh2 : sh ≤ 3000)
    (hq : ∀ A' βs, okC T S L nb pr d Gp (g0 S sw sh) βs nb → gX (d % 50) nb (chG T S L nb pr d Gp (g0 S sw sh) βs nb) A' → rX nb T (chR T S L nb pr d Gp (g0 S sw sh) βs nb) A' → A' 9 0 = nI (d + 1) → A' 10 (d % 50) = nI tk → frDX d A A' → Q (nI d) A') : wX11_draw A (nI tk) Q := by
  have hnb := hw.1
  have md : d % 50 < 50 := Nat.mod_lt _ (by omega)
  have hSb : ∀ c, c < nb → S c ≤ 39999960 := fun c hc => by rw [hS]; exact SZ_bd hw (lsz_bd hw hbd) hc
  unfold wX11_draw wX11_isTick
  refine ⟨t, h06, ht2, fun h => ?_, fun _ => ?_⟩
  · rw [hsz.1, nI_0i (by omega)] at h
    omega
  rw [isFromX, if_pos ⟨nI_pos (by omega), nI_nlt (by omega) (by omega)⟩]
  refine ⟨Or.inr rfl, fun _ => ⟨t, h06, ht2, ?_⟩, fun h => absurd h (by decide)⟩
  refine tellX ht hw hbd hsz htk (fun M1 s1 s2 => ⟨t, by rw [s2 0 (by omega) (by omega)]; exact h06, ht2, ?_⟩)
  rw [s2 t (by omega) (by omega), hsz.1]
  refine beginX2 (S := S) hnb hd (by rw [s2 9 (by omega) (by omega)]; exact h9) (fun c hc => by rw [s1 c hc, hS]) (fun M2 b1 b2 b3 b4 b5 b6 => ?_)
  unfold wX2_show
  rw [show (0 : Int32) = nI 0 from rfl, latest_y (d := d + 1) b1 (by omega) (by omega), Nat.add_sub_cancel]
  unfold wX7_put
  rw [ex_nI (show d % 50 * 40 + 0 < lX7 11 by show _ < 2000; omega) (by show 2000 ≤ _; omega)]
  dsimp only
  rw [ex_nI (show d % 50 * 40 + 0 < 2000 by omega) (by omega), nar01 (Or.inr rfl)]
  obtain ⟨M3, hM3⟩ : ∃ M3, M3 = mu (mu (mu (mu (mu M2 (11 + 1) (d % 50 * 40 + 0) (nI 0)) (11 + 2) (d % 50 * 40 + 0) (nI 0)) (11 + 3) (d % 50 * 40 + 0) (M2 0 8)) (11 + 4) (d % 50 * 40 + 0) (M2 0 9)) 17 (d % 50 * 40 + 0) 1 := ⟨_, rfl⟩
  have o3 : ∀ q, (q < 12 ∨ q = 16 ∨ 17 < q) → M3 q = M2 q := fun q z => by rw [hM3, mu_oth (by omega), mu_oth (by omega), mu_oth (by omega), mu_oth (by omega), mu_oth (by omega)]
  have o4 : ∀ q i, i ≠ d % 50 * 40 + 0 → M3 q i = M2 q i := fun q i z => by rw [hM3, mu_n2 _ _ _ _ z, mu_n2 _ _ _ _ z, mu_n2 _ _ _ _ z, mu_n2 _ _ _ _ z, mu_n2 _ _ _ _ z]
  have f3 : ∀ q, q ≠ 8 → q ≠ 59 → (q < 9 ∨ q = 11 ∨ 17 < q) → M3 q = A q := fun q z1 z2 z3 => by rw [o3 q (by omega), b6 q (by omega) (by omega) (by omega) (by omega), s2 q z2 z1]
  have sw0 : M2 0 8 = nI sw := by rw [b6 0 (by omega) (by omega) (by omega) (by omega), s2 0 (by omega) (by omega)]; exact hsw
  have sh0 : M2 0 9 = nI sh := by rw [b6 0 (by omega) (by omega) (by omega) (by omega), s2 0 (by omega) (by omega)]; exact hsh
  have rows : ∀ q, 12 ≤ q → q ≤ 17 → ∀ i, (i < d % 50 * 40 ∨ d % 50 * 40 + 40 ≤ i) → M3 q i = A q i := fun q z1 z2 i z3 => by
    rw [o4 q i (by omega)]
    by_cases h6 : q = 16 ∨ q = 17
    · rw [b5 q h6 i z3, s2 q (by omega) (by omega)]
    · rw [b6 q (by omega) (by omega) (by omega) (by omega), s2 q (by omega) (by omega)]
  have hG0B : gB nb (g0 S sw sh) := by
    intro c hc
    refine ⟨?_, ?_, fun h => ?_⟩
    · show (if c = 0 then 1 else 0) ≤ 1
      split <;> omega
    · show S c ≤ 40000000
      have := hSb c hc
      omega
    · show 0 + sw ≤ 3000 ∧ 0 + sh ≤ 3000
      omega
  rw [← hM3]
  refine loopX (L := L) (Gp := Gp) (pr := pr) (T := T) (V := V) (S := S) (l := lsz T C nc tk) (G0 := g0 S sw sh) ht ht2 hw hnb0 hL hS hSb hpr2 ⟨by rw [f3 0 (by omega) (by omega) (by omega)]; exact h06, by rw [f3 t (by omega) (by omega) (by omega)]; exact hsz.1, fun b hb => ?_, ⟨hd, hnb, hgp, by rw [o3 9 (by omega)]; exact b1, fun hd0 => (hgx hd0).cg (fun q z1 z2 c hc => rows q z1 z2 _ (by omega))⟩, by rw [f3 27 (by omega) (by omega) (by omega)]; exact hpr, by rw [f3 31 (by omega) (by omega) (by omega)]; exact h31, fun c hc => by rw [o3 16 (by omega)]; exact (b4 c hc).1⟩ hG0B rfl (fun c hc => rfl) (fun c hc => ?_) (fun A' βs k1 k2 k3 k4 => ?_)
  · rw [f3 (t + 1) (by omega) (by omega) (by omega), f3 (t + 2) (by omega) (by omega) (by omega), f3 (t + 7) (by omega) (by omega) (by omega), f3 (t + 8) (by omega) (by omega) (by omega), f3 (t + 9) (by omega) (by omega) (by omega)]
    exact hT b hb
  · by_cases hc0 : c = 0
    · subst hc0
      refine ⟨?_, ?_, fun _ => ⟨?_, ?_, ?_, ?_⟩⟩
      · rw [hM3]; exact mu_eq _ _ _ _
      · rw [o3 16 (by omega)]; exact (b4 0 hc).1
      · rw [hM3, mu_n1 _ _ _ _ (by omega), mu_n1 _ _ _ _ (by omega), mu_n1 _ _ _ _ (by omega), mu_n1 _ _ _ _ (by omega)]; exact mu_eq _ _ _ _
      · rw [hM3, mu_n1 _ _ _ _ (by omega), mu_n1 _ _ _ _ (by omega), mu_n1 _ _ _ _ (by omega)]; exact mu_eq _ _ _ _
      · rw [hM3, mu_n1 _ _ _ _ (by omega), mu_n1 _ _ _ _ (by omega), sw0]; exact mu_eq _ _ _ _
      · rw [hM3, mu_n1 _ _ _ _ (by omega), sh0]; exact mu_eq _ _ _ _
    · have e0 : g0 S sw sh 0 c = 0 := by show (if c = 0 then 1 else 0) = 0; rw [if_neg hc0]
      rw [e0, o4 17 _ (by omega), o4 16 _ (by omega)]
      exact ⟨(b4 c hc).2, (b4 c hc).1, fun h => absurd h (by omega)⟩
  · obtain ⟨e1, e2, e3, e4, e5, e6⟩ := k4
    refine hq A' βs k1 k2 k3 (by rw [e1 9 (by omega), o3 9 (by omega)]; exact b1) (by rw [e1 10 (by omega), o3 10 (by omega)]; exact b2) ⟨fun q z => ?_, ?_, fun q z => ?_, e5, fun q z1 z2 i z3 => ?_, fun i z => ?_⟩
    · rw [e1 q (by omega)]; exact f3 q (by omega) (by omega) (by omega)
    · rw [e3]; exact f3 27 (by omega) (by omega) (by omega)
    · rw [e4 q (by omega)]; exact f3 q (by omega) (by omega) (by omega)
    · rw [e6 q z1 z2 i z3]; exact rows q z1 z2 i z3
    · rw [e1 10 (by omega), o3 10 (by omega), b3 i z, s2 10 (by omega) (by omega)]
