/-! draw: the reference; both -/
def dwZ (nb nc d pr : Nat) (T L C : Nat → Nat → Nat) (Gp : Nat → Nat → Nat) (M : sy_M) : Prop :=
  szZ nb nc T C M ∧ (∀ b, b < nb → M 14 b = nI (L 0 b) ∧ M 15 b = nI (L 1 b) ∧ M 7 b = nI (T 6 b) ∧ (T 1 b ≠ 0 → M 6 b = pm (T 1 b))) ∧ prZ d nb Gp M ∧ M 0 3 = nI pr
theorem dwZ.cg {nb nc d pr : Nat} {T L C : Nat → Nat → Nat} {Gp : Nat → Nat → Nat} {M M' : sy_M} (h : dwZ nb nc d pr T L C Gp M) (e1 : ∀ q, 1 ≤ q → q ≤ 15 → M' q = M q) (e2 : M' 0 13 = M 0 13 ∧ M' 0 24 = M 0 24 ∧ M' 0 40 = M 0 40 ∧ M' 0 3 = M 0 3) (e3 : ∀ q, 26 ≤ q → q ≤ 31 → ∀ i, (i < 41 * (d % 51) ∨ 41 * (d % 51) + 41 ≤ i) → M' q i = M q i) : dwZ nb nc d pr T L C Gp M' := by
  obtain ⟨⟨h1, h2, h3, h4⟩, h5, ⟨p1, p2, p3, p4, p5⟩, h6⟩ := h
  refine ⟨⟨by rw [e2.1]; exact h1, by rw [e2.2.1]; exact h2, fun b hb => ?_, fun k hk => ?_⟩, fun b hb => ?_, ⟨p1, p2, p3, by rw [e2.2.2.1]; exact p4, fun hd => (p5 hd).cg (fun q z1 z2 c hc => e3 q z1 z2 _ (by omega))⟩, by rw [e2.2.2.2]; exact h6⟩
  · rw [e1 2 (by omega) (by omega), e1 3 (by omega) (by omega), e1 8 (by omega) (by omega)]; exact h3 b hb
  · rw [e1 11 (by omega) (by omega), e1 12 (by omega) (by omega), e1 13 (by omega) (by omega)]; exact h4 k hk
  · rw [e1 14 (by omega) (by omega), e1 15 (by omega) (by omega), e1 7 (by omega) (by omega), e1 6 (by omega) (by omega)]; exact h5 b hb
theorem frGZ.tr {d : Nat} {M M' M'' : sy_M} (h : frGZ d M M') (h' : frGZ d M' M'') : frGZ d M M'' := by
  obtain ⟨a1, a2, a3, a4, a5⟩ := h
  obtain ⟨b1, b2, b3, b4, b5⟩ := h'
  exact ⟨fun q z1 z2 => by rw [b1 q z1 z2, a1 q z1 z2], by rw [b2, a2], by rw [b3, a3], fun k z => by rw [b4 k z, a4 k z], fun q z1 z2 i z3 => by rw [b5 q z1 z2 i z3, a5 q z1 z2 i z3]⟩
theorem dwZ.fr {nb nc d pr : Nat} {T L C : Nat → Nat → Nat} {Gp : Nat → Nat → Nat} {M M' : sy_M} (h : dwZ nb nc d pr T L C Gp M) (e : frGZ d M M') : dwZ nb nc d pr T L C Gp M' :=
  h.cg e.1 ⟨e.2.2.2.1 13 (by omega), e.2.2.2.1 24 (by omega), e.2.2.2.1 40 (by omega), e.2.2.2.1 3 (by omega)⟩ e.2.2.2.2
theorem loopZ {M : sy_M} {nb nc d pr tk : Nat} {T V L C : Nat → Nat → Nat} {S : Nat → Nat} {Gp G0 : Nat → Nat → Nat} {βs : Nat → Nat → Bool} {K : sy_M → Prop} {Q : Int32 → sy_M → Prop} (hw : wfT nb T V) (hbd : bdC nb nc T C) (hnb0 : 0 < nb) (hL : ∀ b, b < nb → L 0 b ≤ 999 ∧ L 1 b ≤ 1) (htk : tk ≤ 999) (hS : S = SZ T (lsz T C nc tk) nb) (hpr2 : pr ≤ 1000) (hM : dwZ nb nc d pr T L C Gp M) (hG0 : gB nb G0) (h00 : G0 0 0 = 1) (h05 : ∀ c, c < nb → G0 5 c = S c) (hGZ : gZ (d % 51) nb G0 M) (hok : okC T S L nb pr d Gp G0 βs nb)
    (hq : ∀ M', gZ (d % 51) nb (chG T S L nb pr d Gp G0 βs nb) M' → rZ nb T (chR T S L nb pr d Gp G0 βs nb) M' → frGZ d M M' → K M') : ∃ n, wX12_draw_129 K Q n M (nI tk) (nI (41 * (d % 51))) (nI 0) := by
  have hnb := hw.1
  have hSb : ∀ c, c < nb → S c ≤ 39999960 := fun c hc => by rw [hS]; exact SZ_bd hw (lsz_bd hw hbd) hc
  have key : ∀ r b M1, b + r = nb → gZ (d % 51) nb (chG T S L nb pr d Gp G0 βs b) M1 → rZ b T (chR T S L nb pr d Gp G0 βs b) M1 → frGZ d M M1 → wX12_draw_129 K Q (r + 1) M1 (nI tk) (nI (41 * (d % 51))) (nI b) := by
    intro r
    induction r with
    | zero =>
      intro b M1 hb h2 h3 h4
      have : b = nb := by omega
      subst this
      have hD := hM.fr h4
      rw [wX12_draw_129, hD.1.1]
      have : nI b ≤ nI b := nI_le (Nat.le_refl _) (by omega)
      exact ⟨fun _ => hq M1 h2 h3 h4, fun h => absurd this h⟩
    | succ r ih =>
      intro b M1 hb h2 h3 h4
      have hbn : b < nb := by omega
      have hD := hM.fr h4
      obtain ⟨d1, d2, d3, d4⟩ := id hD
      obtain ⟨c1, c2, c3, c4⟩ := ch_all (L := L) (pr := pr) (d := d) (Gp := Gp) (βs := βs) hw hS hSb hG0 h00 h05 b (by omega)
      rw [wX12_draw_129, d1.1]
      have e1 : ¬ nI nb ≤ nI b := nI_ge (by omega) (by omega)
      simp only [e1, false_implies, true_implies, not_false_eq_true, true_and]
      rw [ex_nI (show b < 82 by omega) (by omega), (d1.2.2.1 b hbn).2.1, nI_1]
      unfold b01
      by_cases hg : T 1 b = 0
      · rw [if_pos hg]
        refine ⟨fun _ => ?_, fun h => absurd rfl h⟩
        refine ih (b + 1) M1 (by omega) (by rw [chG, if_pos hg]; exact h2) (fun c hc hgc => ?_) h4
        rw [chR, if_pos hg]
        by_cases hcb : c = b
        · subst hcb; exact absurd hg hgc
        · exact h3 c (by omega) hgc
      · rw [if_neg hg]
        refine ⟨fun h => absurd h (by decide), fun _ => ?_⟩
        have hshown : chG T S L nb pr d Gp G0 βs b 0 b = 1 := by
          refine c4 b hbn hg ?_
          by_cases hb0 : b = 0
          · subst hb0; rw [(hw.2.1 (by omega)).1]; omega
          · exact (hw.2.2.1 b hbn (by omega)).2.1
        refine drawGroupZ (σ := chS T S L nb b) (β := βs b) hw hbd hbn hg d1 htk (d2 b hbn).1 (hL b hbn).1 (d2 b hbn).2.1 (hL b hbn).2 (d2 b hbn).2.2.1 ((d2 b hbn).2.2.2 hg) hS rfl d3 d4 hpr2 h2 c1 hshown h3 (hok b hbn hg) (fun M2 k2 k3 k4 => ?_)
        refine ih (b + 1) M2 (by omega) ?_ ?_ (h4.tr k4)
        · rw [chG, if_neg hg]; exact k2
        · rw [chR, if_neg hg]; exact k3
  exact ⟨nb + 1, key nb 0 M (by omega) hGZ (fun c hc => absurd hc (by omega)) ⟨fun _ _ _ => rfl, rfl, rfl, fun _ _ => rfl, fun _ _ _ _ _ => rfl⟩⟩
def frDZ (d : Nat) (B B' : sy_M) : Prop := (∀ q, 1 ≤ q → q ≤ 15 → B' q = B q) ∧ (∀ k, k ≠ 0 → k ≠ 30 → k ≠ 40 → B' 0 k = B 0 k) ∧ (∀ q, 26 ≤ q → q ≤ 31 → ∀ i, (i < 41 * (d % 51) ∨ 41 * (d % 51) + 41 ≤ i) → B' q i = B q i) ∧ (∀ i, i ≠ d % 51 → B' 25 i = B 25 i)
theorem drawZ {B : sy_M} {nb nc d pr tk sw sh : Nat} {T V L C : Nat → Nat → Nat} {S : Nat → Nat} {Gp : Nat → Nat → Nat} {βs : Nat → Nat → Bool} {Q : Int32 → sy_M → Prop} (hw : wfT nb T V) (hbd : bdC nb nc T C) (hnb0 : 0 < nb) (hL : ∀ b, b < nb → L 0 b ≤ 999 ∧ L 1 b ≤ 1) (htk : tk ≤ 999) (hS : S = SZ T (lsz T C nc tk) nb) (hpr2 : pr ≤ 1000) (hB : dwZ nb nc d pr T L C Gp B) (hsw : B 0 1 = nI sw) (hsh : B 0 2 = nI sh) (hsw2 : sw ≤ 3000) (hsh2 : sh ≤ 3000) (hok : okC T S L nb pr d Gp (g0 S sw sh) βs nb)
    (hq : ∀ B', gZ (d % 51) nb (chG T S L nb pr d Gp (g0 S sw sh) βs nb) B' → rZ nb T (chR T S L nb pr d Gp (g0 S sw sh) βs nb) B' → B' 0 40 = nI (d + 1) → B' 25 (d % 51) = nI tk → frDZ d B B' → Q (nI d) B') : wX12_draw B (nI tk) Q := by
  have hnb := hw.1
  have md : d % 51 < 51 := Nat.mod_lt _ (by omega)
  have hd := hB.2.2.1.1
  have hSb : ∀ c, c < nb → S c ≤ 39999960 := fun c hc => by rw [hS]; exact SZ_bd hw (lsz_bd hw hbd) hc
  unfold wX12_draw
  refine ⟨fun h => ?_, fun _ => ?_⟩
  · rw [hB.1.1, nI_0i (by omega)] at h
    omega
  rw [withinZ, if_pos ⟨nI_pos (by omega), nI_nlt (by omega) (by omega)⟩]
  refine ⟨fun _ => ?_, fun h => absurd h (by decide)⟩
  have e40 : mu B 0 0 (0 : Int32) 0 40 = nI d := by rw [mu_n2 _ _ _ _ (by omega)]; exact hB.2.2.1.2.2.2.1
  rw [e40, rowOf_y (by omega), e40, pk_rem (by omega) (by omega) (by omega), ex_nI (show d % 51 < 51 by omega) (by omega)]
  obtain ⟨M1, hM1⟩ : ∃ M1, M1 = mu (mu B 0 0 (0 : Int32)) 25 (d % 51) (nI tk) := ⟨_, rfl⟩
  rw [← hM1]
  have o1 : ∀ q, q ≠ 0 → q ≠ 25 → M1 q = B q := fun q z1 z2 => by rw [hM1, mu_oth z2, mu_oth z1]
  have o0 : ∀ k, k ≠ 0 → M1 0 k = B 0 k := fun k z => by rw [hM1, mu_n1 _ _ _ _ (by omega), mu_n2 _ _ _ _ z]
  have o25 : M1 25 (d % 51) = nI tk := by rw [hM1]; exact mu_eq _ _ _ _
  have o25' : ∀ i, i ≠ d % 51 → M1 25 i = B 25 i := fun i z => by rw [hM1, mu_n2 _ _ _ _ z, mu_n1 _ _ _ _ (by omega)]
  have key : ∀ (K : sy_M → Int32 → Int32 → Prop), (∀ M', (∀ c, c < nb → M' 26 (41 * (d % 51) + c) = (if c = 0 then 1 else 0) ∧ M' 31 (41 * (d % 51) + c) = nI (S c)) → (∀ q, q ≠ 26 → q ≠ 31 → M' q = M1 q) → (∀ q, q = 26 ∨ q = 31 → ∀ i, (i < 41 * (d % 51) ∨ 41 * (d % 51) + 41 ≤ i) → M' q i = M1 q i) → K M' (nI tk) (nI (41 * (d % 51)))) → ∀ r b M2, b + r = nb → (∀ c, c < b → M2 26 (41 * (d % 51) + c) = (if c = 0 then 1 else 0) ∧ M2 31 (41 * (d % 51) + c) = nI (S c)) → (∀ q, q ≠ 26 → q ≠ 31 → M2 q = M1 q) → (∀ q, q = 26 ∨ q = 31 → ∀ i, (i < 41 * (d % 51) ∨ 41 * (d % 51) + 41 ≤ i) → M2 q i = M1 q i) → wX12_draw_48 K Q (r + 1) M2 (nI tk) (nI (41 * (d % 51))) (nI b) := by
    intro K hK r
    induction r with
    | zero =>
      intro b M2 hb k1 k2 k3
      have : b = nb := by omega
      subst this
      rw [wX12_draw_48, k2 0 (by omega) (by omega), o0 13 (by omega), hB.1.1]
      have : nI b ≤ nI b := nI_le (Nat.le_refl _) (by omega)
      exact ⟨fun _ => hK M2 k1 k2 k3, fun h => absurd this h⟩
    | succ r ih =>
      intro b M2 hb k1 k2 k3
      have hbn : b < nb := by omega
      rw [wX12_draw_48, k2 0 (by omega) (by omega), o0 13 (by omega), hB.1.1]
      have e1 : ¬ nI nb ≤ nI b := nI_ge (by omega) (by omega)
      simp only [e1, false_implies, true_implies, not_false_eq_true, true_and]
      have go : ∀ v : Int32, v = (if b = 0 then 1 else 0) → wX12_draw_72 (fun (M14 : sy_M) (x1_15 : Int32) (x2_16 : Int32) (x3_17 : Int32) => wX12_draw_48 K Q (r + 1) M14 x1_15 x2_16 x3_17) Q M2 (nI tk) (nI (41 * (d % 51))) (nI b) (nI (41 * (d % 51)) + nI b) v := by
        intro v hv
        have hv01 : v = 0 ∨ v = 1 := by rw [hv]; split; exact Or.inr rfl; exact Or.inl rfl
        unfold wX12_draw_72
        rw [nI_add, ex_nI (show 41 * (d % 51) + b < 2091 by omega) (by omega), nar01 hv01]
        refine sizeOfZ hw hbd ?_ htk 8 b _ hbn (by omega) ?_
        · obtain ⟨s1, s2, s3, s4⟩ := hB.1
          have o2 : ∀ q, q ≠ 0 → q ≠ 25 → q ≠ 26 → q ≠ 31 → mu M2 26 (41 * (d % 51) + b) v q = B q := fun q z1 z2 z3 z4 => by rw [mu_oth z3, k2 q z3 z4, o1 q z1 z2]
          refine ⟨by rw [mu_n1 _ _ _ _ (by omega), k2 0 (by omega) (by omega), o0 13 (by omega)]; exact s1, by rw [mu_n1 _ _ _ _ (by omega), k2 0 (by omega) (by omega), o0 24 (by omega)]; exact s2, fun c hc => ?_, fun k hk => ?_⟩
          · rw [o2 2 (by omega) (by omega) (by omega) (by omega), o2 3 (by omega) (by omega) (by omega) (by omega), o2 8 (by omega) (by omega) (by omega) (by omega)]; exact s3 c hc
          · rw [o2 11 (by omega) (by omega) (by omega) (by omega), o2 12 (by omega) (by omega) (by omega) (by omega), o2 13 (by omega) (by omega) (by omega) (by omega)]; exact s4 k hk
        · rw [ex_nI (show 41 * (d % 51) + b < 2091 by omega) (by omega), nI_1, ← hS]
          refine ih (b + 1) _ (by omega) (fun c hc => ?_) (fun q z1 z2 => by rw [mu_oth z2, mu_oth z1]; exact k2 q z1 z2) (fun q z i zi => ?_)
          · by_cases hcb : c = b
            · subst hcb
              refine ⟨?_, mu_eq _ _ _ _⟩
              rw [mu_n1 _ _ _ _ (by omega), mu_eq, hv]
            · rw [mu_n2 _ _ _ _ (by omega), mu_n2 _ _ _ _ (by omega), mu_n2 _ _ _ _ (by omega), mu_n2 _ _ _ _ (by omega)]
              exact k1 c (by omega)
          · rw [mu_n2 _ _ _ _ (by omega), mu_n2 _ _ _ _ (by omega)]; exact k3 q z i zi
      rw [nI_0i (by omega)]
      exact ⟨fun hb0 => go 0 (by rw [if_neg hb0]), fun hb0 => go 1 (by rw [if_pos hb0])⟩
  refine ⟨nb + 1, key _ (fun M2 k1 k2 k3 => ?_) nb 0 M1 (by omega) (fun c hc => absurd hc (by omega)) (fun _ _ _ => rfl) (fun _ _ _ _ => rfl)⟩
  rw [ex_nI (show 41 * (d % 51) < 2091 by omega) (by omega)]
  obtain ⟨M3, hM3⟩ : ∃ M3, M3 = mu (mu (mu (mu M2 27 (41 * (d % 51)) (0 : Int32)) 28 (41 * (d % 51)) (0 : Int32)) 29 (41 * (d % 51)) (M2 0 1)) 30 (41 * (d % 51)) (M2 0 2) := ⟨_, rfl⟩
  rw [← hM3]
  have p1 : ∀ q, (q < 27 ∨ 30 < q) → M3 q = M2 q := fun q z => by rw [hM3, mu_oth (by omega), mu_oth (by omega), mu_oth (by omega), mu_oth (by omega)]
  have p2 : ∀ q i, i ≠ 41 * (d % 51) → M3 q i = M2 q i := fun q i z => by rw [hM3, mu_n2 _ _ _ _ z, mu_n2 _ _ _ _ z, mu_n2 _ _ _ _ z, mu_n2 _ _ _ _ z]
  have sw0 : M2 0 1 = nI sw := by rw [k2 0 (by omega) (by omega), o0 1 (by omega)]; exact hsw
  have sh0 : M2 0 2 = nI sh := by rw [k2 0 (by omega) (by omega), o0 2 (by omega)]; exact hsh
  have z3 : ∀ k, k ≠ 0 → M3 0 k = B 0 k := fun k z => by rw [p1 0 (by omega), k2 0 (by omega) (by omega), o0 k z]
  have w3 : ∀ q, 1 ≤ q → q ≤ 24 → M3 q = B q := fun q z1 z2 => by rw [p1 q (by omega), k2 q (by omega) (by omega), o1 q (by omega) (by omega)]
  have r3 : ∀ q, 26 ≤ q → q ≤ 31 → ∀ i, (i < 41 * (d % 51) ∨ 41 * (d % 51) + 41 ≤ i) → M3 q i = B q i := fun q z1 z2 i zi => by
    rw [p2 q i (by omega)]
    by_cases h6 : q = 26 ∨ q = 31
    · rw [k3 q h6 i zi, o1 q (by omega) (by omega)]
    · rw [k2 q (by omega) (by omega), o1 q (by omega) (by omega)]
  have hD3 : dwZ nb nc d pr T L C Gp M3 := hB.cg (fun q z1 z2 => w3 q z1 (by omega)) ⟨z3 13 (by omega), z3 24 (by omega), z3 40 (by omega), z3 3 (by omega)⟩ r3
  have hG0B : gB nb (g0 S sw sh) := by
    intro c hc
    refine ⟨?_, ?_, fun h => ?_⟩
    · show (if c = 0 then 1 else 0) ≤ 1
      split <;> omega
    · show S c ≤ 40000000
      have := hSb c hc
      omega
    · show 0 + sw ≤ 3000 ∧ 0 + sh ≤ 3000
      omega
  refine loopZ (G0 := g0 S sw sh) (βs := βs) hw hbd hnb0 hL htk hS hpr2 hD3 hG0B rfl (fun c hc => rfl) (fun c hc => ?_) hok (fun M4 e1 e2 e3 => ?_)
  · by_cases hc0 : c = 0
    · subst hc0
      rw [Nat.add_zero]
      refine ⟨?_, ?_, fun _ => ⟨?_, ?_, ?_, ?_⟩⟩
      · rw [p1 26 (by omega)]
        have := (k1 0 hc).1
        rw [Nat.add_zero] at this
        rw [this]; rfl
      · rw [p1 31 (by omega)]
        have := (k1 0 hc).2
        rw [Nat.add_zero] at this
        exact this
      · rw [hM3, mu_n1 _ _ _ _ (by omega), mu_n1 _ _ _ _ (by omega), mu_n1 _ _ _ _ (by omega)]; exact mu_eq _ _ _ _
      · rw [hM3, mu_n1 _ _ _ _ (by omega), mu_n1 _ _ _ _ (by omega)]; exact mu_eq _ _ _ _
      · rw [hM3, mu_n1 _ _ _ _ (by omega), sw0]; exact mu_eq _ _ _ _
      · rw [hM3, sh0]; exact mu_eq _ _ _ _
    · have e0 : g0 S sw sh 0 c = 0 := by show (if c = 0 then 1 else 0) = 0; rw [if_neg hc0]
      rw [e0, p1 26 (by omega), p1 31 (by omega)]
      have := k1 c hc
      rw [if_neg hc0] at this
      exact ⟨this.1, this.2, fun h => absurd h (by omega)⟩
  · have e40' : M4 0 40 = nI d := by rw [e3.2.2.2.1 40 (by omega), z3 40 (by omega)]; exact hB.2.2.1.2.2.2.1
    rw [e40', nI_1, nI_pred]
    refine hq _ (e1.cg (fun q z1 z2 c _ => mu_n1 _ _ _ _ (by omega))) (fun c hc hgc => ?_) (mu_eq _ _ _ _) ?_ ⟨fun q z1 z2 => ?_, fun k y1 y2 y3 => ?_, fun q z1 z2 i zi => ?_, fun i zi => ?_⟩
    · have ho : ∀ v q, q ≠ 0 → mu M4 0 40 v q c = M4 q c := fun v q z => mu_n1 _ _ _ _ z
      rw [ho _ 32 (by omega), ho _ 33 (by omega), ho _ 34 (by omega), ho _ 35 (by omega), ho _ 36 (by omega), ho _ 37 (by omega), ho _ 38 (by omega), ho _ 39 (by omega)]
      exact e2 c hc hgc
    · rw [mu_n1 _ _ _ _ (by omega), e3.2.1, p1 25 (by omega), k2 25 (by omega) (by omega)]; exact o25
    · rw [mu_oth (by omega), e3.1 q z1 z2]; exact w3 q z1 (by omega)
    · rw [mu_n2 _ _ _ _ y3, e3.2.2.2.1 k y2]; exact z3 k y1
    · rw [mu_n1 _ _ _ _ (by omega), e3.2.2.2.2 q z1 z2 i zi]; exact r3 q z1 z2 i zi
    · rw [mu_n1 _ _ _ _ (by omega), e3.2.1, p1 25 (by omega), k2 25 (by omega) (by omega)]; exact o25' i zi
theorem op_draw {cn : Nat} {A B : sy_M} (hcn : cn < 2 ^ 20 - 1) (h : Rel cn A B) (a1 : Int32) {F : sy_M → sy_M → Prop} (hF : ∀ A' B', Rel (cn + 1) A' B' → F A' B') : wX11_draw A a1 (fun r A' => wX12_draw B a1 (fun r' B' => r = r' ∧ F A' B')) := by
  have hz := hF _ _ (h.z0 (v := 0)).up
  obtain ⟨t, nb, nc, d, n, T, V, L, C, G, K, R, hQ, hw, hT, hL, hC, hd, hD, hP, hS⟩ := h
  obtain ⟨q1, q2, q3, q4⟩ := hQ.t
  have hnb := hw.1
  by_cases hnb0 : nb = 0
  · subst hnb0
    unfold wX11_draw wX12_draw
    refine ⟨t, q1, q2, fun _ => ⟨fun _ => ⟨rfl, hz⟩, fun h => ?_⟩, fun h => ?_⟩
    · rw [hT.2.1] at h; exact absurd rfl h
    · rw [hT.1] at h; exact absurd rfl h
  by_cases c2 : ¬ a1 < 0 ∧ ¬ nI 999 < a1
  · obtain ⟨tk, -, htk, rfl⟩ := nI_rng (lo := 0) (hi := 999) c2.1 c2.2 (by decide) (by decide)
    obtain ⟨⟨sw, sw1, sw2, sw3, sw4⟩, ⟨sh, sh1, sh2, sh3, sh4⟩, ⟨pr, pr1, pr2, pr3⟩, hpl, h31⟩ := id hS
    have hLb : ∀ b, b < nb → L 0 b ≤ 999 ∧ L 1 b ≤ 1 := fun b hb => ⟨(hL b hb).1.1, (hL b hb).2.1⟩
    obtain ⟨Gp, hGp⟩ : ∃ Gp : Nat → Nat → Nat, Gp = if d = 0 then (fun _ _ => 0) else G (d - 1) := ⟨_, rfl⟩
    have hprev : 0 < d → gX ((d - 1) % 50) nb Gp A ∧ gZ ((d - 1) % 51) nb Gp B ∧ gB nb Gp := fun hd0 => by
      rw [hGp, if_neg (by omega)]
      exact rlG_iff.mp (hD.2.2.2.1 (d - 1) (by omega) (by omega)).2
    have hgB : gB nb Gp := by
      by_cases hd0 : d = 0
      · rw [hGp, if_pos hd0]
        exact fun c hc => ⟨Nat.zero_le _, Nat.zero_le _, fun h => absurd h (show ¬ (0 : Nat) = 1 by omega)⟩
      · exact (hprev (by omega)).2.2
    refine drawX (L := L) (Gp := Gp) (pr := pr) (sw := sw) (sh := sh) ⟨q3, q4⟩ q2 hw (by omega) (rel_bdC hC) (rel_szX hT hC) htk rfl (by omega) q1 (fun b hb => ?_) hLb pr2 pr1 h31 hD.1 hgB (fun hd0 => (hprev hd0).1) sw3 sh3 sw2 sh2 (fun A' βs hok k1 k2 k3 k4 k5 => ?_)
    · obtain ⟨a1, a2, a3, a4, a5, a6, a7, a8, a9⟩ := hT.2.2.2 b hb
      exact ⟨a1.1, a2.1, a8.1, (hL b hb).1.2.1, (hL b hb).2.2.1⟩
    refine drawZ (L := L) (Gp := Gp) (pr := pr) (sw := sw) (sh := sh) (βs := βs) (d := d) hw (rel_bdC hC) (by omega) hLb htk rfl pr1 ⟨rel_szZ hT hC, fun b hb => ?_, ⟨by omega, hnb, hgB, hD.2.1, fun hd0 => (hprev hd0).2.1⟩, pr3⟩ sw4 sh4 sw2 sh2 hok (fun B' e1 e2 e3 e4 e5 => ⟨rfl, hF _ _ ?_⟩)
    · obtain ⟨a1, a2, a3, a4, a5, a6, a7, a8, a9⟩ := hT.2.2.2 b hb
      exact ⟨(hL b hb).1.2.2, (hL b hb).2.2.2, a8.2, a2.2.2⟩
    · have hSb : ∀ c, c < nb → SZ T (lsz T C nc tk) nb c ≤ 39999960 := fun c hc => SZ_bd hw (lsz_bd hw (rel_bdC hC)) hc
      have hG0B : gB nb (g0 (SZ T (lsz T C nc tk) nb) sw sh) := by
        intro c hc
        refine ⟨?_, ?_, fun h => ?_⟩
        · show (if c = 0 then 1 else 0) ≤ 1
          split <;> omega
        · show SZ T (lsz T C nc tk) nb c ≤ 40000000
          have := hSb c hc
          omega
        · show 0 + sw ≤ 3000 ∧ 0 + sh ≤ 3000
          omega
      obtain ⟨c1, c2, c3, c4⟩ := ch_all (L := L) (pr := pr) (d := d) (Gp := Gp) (βs := βs) hw rfl hSb hG0B rfl (fun c hc => rfl) nb (Nat.le_refl _)
      obtain ⟨f1, f2, f3, f4, f5, f6⟩ := k5
      obtain ⟨y1, y2, y3, y4⟩ := e5
      refine ⟨t, nb, nc, d + 1, n, T, V, L, C, fun j => if j = d then chG T (SZ T (lsz T C nc tk) nb) L nb pr d Gp (g0 (SZ T (lsz T C nc tk) nb) sw sh) βs nb else G j, fun j => if j = d then tk else K j, chR T (SZ T (lsz T C nc tk) nb) L nb pr d Gp (g0 (SZ T (lsz T C nc tk) nb) sw sh) βs nb, hQ.cg (by rw [f1 0 (by omega)]) (by rw [f1 3 (by omega)]), hw, hT.cg hw (fun j hj i => by rw [f3 _ (by omega)]) (y2 13 (by omega) (by omega) (by omega)) (fun p h1 h2 i _ => by rw [y1 p (by omega) (by omega)]) (fun i _ => by rw [y1 10 (by omega) (by omega)]), hL.cg (fun _ _ => by rw [f3 _ (by omega)]) (fun _ _ => by rw [f3 _ (by omega)]) (fun _ _ => by rw [y1 14 (by omega) (by omega)]) (fun _ _ => by rw [y1 15 (by omega) (by omega)]), hC.cg (by rw [f1 4 (by omega)]) (fun p h3 h4 i => by rw [f1 p (by omega)]) (y2 24 (by omega) (by omega) (by omega)) (fun p h3 h4 i => by rw [y1 p (by omega) (by omega)]), by omega, ⟨k3, e3, fun _ => by omega, fun j hj hj2 => ?_, fun _ => rlR_iff.mpr ⟨k2, e2, c2⟩⟩, hP.cg (by rw [f1 1 (by omega)]) (fun _ => by rw [f1 2 (by omega)]) (y2 5 (by omega) (by omega) (by omega)) (fun _ => by rw [y1 1 (by omega) (by omega)]), hS.cg (by rw [f1 0 (by omega)]) (by rw [f1 0 (by omega)]) (by rw [f2]) (by rw [f1 3 (by omega)]) (y2 1 (by omega) (by omega) (by omega)) (y2 2 (by omega) (by omega) (by omega)) (y2 3 (by omega) (by omega) (by omega)) (y2 12 (by omega) (by omega) (by omega)) (by rw [f4, h31])⟩
      by_cases hjd : j = d
      · subst hjd
        simp only [if_true]
        exact ⟨⟨htk, k4, e4⟩, rlG_iff.mpr ⟨k1, e1, c1⟩⟩
      · simp only [if_neg hjd]
        obtain ⟨⟨o1, o2, o3⟩, o4⟩ := hD.2.2.2.1 j (by omega) (by omega)
        refine ⟨⟨o1, by rw [f6 (j % 50) (by omega)]; exact o2, by rw [y4 (j % 51) (by omega)]; exact o3⟩, o4.cg (fun p h1 h2 b hb => f5 p h1 h2 _ (by omega)) (fun p h1 h2 b hb => y3 p h1 h2 _ (by omega))⟩
  · unfold wX11_draw wX12_draw wX11_isTick
    refine ⟨t, q1, q2, fun h => ?_, fun _ => ?_⟩
    · rw [hT.1, nI_0i (by omega)] at h; exact absurd h hnb0
    rw [isFromX, if_neg c2]
    refine ⟨Or.inl rfl, fun h => absurd rfl h, fun _ => ⟨fun h => ?_, fun _ => ?_⟩⟩
    · rw [hT.2.1, nI_0i (by omega)] at h; exact absurd h hnb0
    rw [withinZ, if_neg c2]
    exact ⟨fun h => absurd rfl h, fun _ => ⟨rfl, hz⟩⟩
