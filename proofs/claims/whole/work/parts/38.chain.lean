/-! the GROUPS of a TREE, one after another, by numbers -/
def chS (T : Nat → Nat → Nat) (S : Nat → Nat) (L : Nat → Nat → Nat) (nb b : Nat) : itS := sig T S nb (L 0 b) (L 1 b) b
def chG (T : Nat → Nat → Nat) (S : Nat → Nat) (L : Nat → Nat → Nat) (nb pr d : Nat) (Gp G0 : Nat → Nat → Nat) (βs : Nat → Nat → Bool) : Nat → Nat → Nat → Nat
  | 0 => G0
  | b + 1 => if T 1 b = 0 then chG T S L nb pr d Gp G0 βs b else sG (chS T S L nb b) (T 1 b - 1) pr d Gp (chG T S L nb pr d Gp G0 βs b) b (βs b)
def chR (T : Nat → Nat → Nat) (S : Nat → Nat) (L : Nat → Nat → Nat) (nb pr d : Nat) (Gp G0 : Nat → Nat → Nat) (βs : Nat → Nat → Bool) : Nat → Nat → Nat → Nat
  | 0 => fun _ _ => 0
  | b + 1 => if T 1 b = 0 then chR T S L nb pr d Gp G0 βs b else sR (chS T S L nb b) (T 1 b - 1) pr d Gp (chG T S L nb pr d Gp G0 βs b) b (βs b) (tgN T S nb (L 0 b) (L 1 b) b) (chR T S L nb pr d Gp G0 βs b)
theorem chG_cg {T : Nat → Nat → Nat} {S : Nat → Nat} {L : Nat → Nat → Nat} {nb pr d : Nat} {Gp G0 : Nat → Nat → Nat} {βs γs : Nat → Nat → Bool} : ∀ b, (∀ c, c < b → βs c = γs c) → chG T S L nb pr d Gp G0 βs b = chG T S L nb pr d Gp G0 γs b ∧ chR T S L nb pr d Gp G0 βs b = chR T S L nb pr d Gp G0 γs b
  | 0, _ => ⟨rfl, rfl⟩
  | b + 1, h => by
    obtain ⟨i1, i2⟩ := chG_cg (T := T) (S := S) (L := L) (nb := nb) (pr := pr) (d := d) (Gp := Gp) (G0 := G0) b (fun c hc => h c (by omega))
    rw [chG, chG, chR, chR, i1, i2, h b (by omega)]
    exact ⟨rfl, rfl⟩
theorem shG_sh {bx : Nat → Nat} {P G : Nat → Nat → Nat} {c : Nat} : ∀ i, (G 0 c = 1 → shG bx P G i 0 c = 1) ∧ ((∃ k, k < i ∧ bx k = c + 1) → shG bx P G i 0 c = 1)
  | 0 => ⟨fun h => h, fun ⟨k, h, _⟩ => absurd h (by omega)⟩
  | i + 1 => by
    obtain ⟨i1, i2⟩ := shG_sh (bx := bx) (P := P) (G := G) (c := c) i
    rw [shG]
    by_cases hb : bx i = 0
    · rw [if_pos hb]
      refine ⟨i1, fun ⟨k, h1, h2⟩ => i2 ⟨k, ?_, h2⟩⟩
      by_cases hk : k = i
      · subst hk; omega
      · omega
    · rw [if_neg hb]
      by_cases hc : c + 1 = bx i
      · simp only [if_pos hc, if_true]
        exact ⟨fun _ => trivial, fun _ => trivial⟩
      · simp only [if_neg hc]
        refine ⟨i1, fun ⟨k, h1, h2⟩ => i2 ⟨k, ?_, h2⟩⟩
        by_cases hk : k = i
        · subst hk; omega
        · omega
theorem shG_gB {nb m : Nat} {bx : Nat → Nat} {P G : Nat → Nat → Nat} (hG : gB nb G) (hP : ∀ i, i < m → P 0 i + P 2 i ≤ 3000 ∧ P 1 i + P 3 i ≤ 3000) : ∀ i, i ≤ m → gB nb (shG bx P G i)
  | 0, _ => hG
  | i + 1, hi => by
    have ih := shG_gB (bx := bx) hG hP i (by omega)
    intro c hc
    rw [shG]
    by_cases hb : bx i = 0
    · rw [if_pos hb]; exact ih c hc
    · rw [if_neg hb]
      by_cases hcc : c + 1 = bx i
      · simp only [if_pos hcc, if_pos rfl, if_neg (show ¬ (5 : Nat) = 0 by omega), if_neg (show ¬ (1 : Nat) = 0 by omega), if_neg (show ¬ (1 : Nat) = 5 by omega), if_neg (show ¬ (2 : Nat) = 0 by omega), if_neg (show ¬ (2 : Nat) = 5 by omega), if_neg (show ¬ (3 : Nat) = 0 by omega), if_neg (show ¬ (3 : Nat) = 5 by omega), if_neg (show ¬ (4 : Nat) = 0 by omega), if_neg (show ¬ (4 : Nat) = 5 by omega)]
        exact ⟨Nat.le_refl _, (ih c hc).2.1, fun _ => hP i (by omega)⟩
      · simp only [if_neg hcc]
        exact ih c hc
/-- what holds along the chain -/
theorem ch_all {T V : Nat → Nat → Nat} {S l : Nat → Nat} {L : Nat → Nat → Nat} {nb pr d : Nat} {Gp G0 : Nat → Nat → Nat} {βs : Nat → Nat → Bool} (hw : wfT nb T V) (hS : S = SZ T l nb) (hSb : ∀ c, c < nb → S c ≤ 39999960) (hG0 : gB nb G0) (h00 : G0 0 0 = 1) (h05 : ∀ c, c < nb → G0 5 c = S c) : ∀ b, b ≤ nb →
    gB nb (chG T S L nb pr d Gp G0 βs b) ∧ rBd b T (chR T S L nb pr d Gp G0 βs b) ∧ (∀ c, c < nb → chG T S L nb pr d Gp G0 βs b 5 c = S c) ∧ ∀ c, c < nb → T 1 c ≠ 0 → T 0 c ≤ b → chG T S L nb pr d Gp G0 βs b 0 c = 1
  | 0, _ => by
    refine ⟨hG0, fun c hc => absurd hc (by omega), h05, fun c hc hg hp => ?_⟩
    by_cases hc0 : c = 0
    · subst hc0; exact h00
    · have := (hw.2.2.1 c hc (by omega)).1
      omega
  | b + 1, hb => by
    obtain ⟨i1, i2, i3, i4⟩ := ch_all (L := L) (pr := pr) (d := d) (Gp := Gp) (βs := βs) hw hS hSb hG0 h00 h05 b (by omega)
    rw [chG, chR]
    by_cases hg : T 1 b = 0
    · rw [if_pos hg, if_pos hg]
      refine ⟨i1, fun c hc hgc => ?_, i3, fun c hc hgc hp => ?_⟩
      · by_cases hcb : c = b
        · subst hcb; exact absurd hg hgc
        · exact i2 c (by omega) hgc
      · by_cases hpb : T 0 c = b + 1
        · by_cases hc0 : c = 0
          · subst hc0
            rw [(hw.2.1 (by omega)).1] at hpb
            omega
          · have := (hw.2.2.1 c hc (by omega)).2.2.1
            rw [hpb, Nat.add_sub_cancel] at this
            exact absurd hg this
        · exact i4 c hc hgc (by omega)
    · rw [if_neg hg, if_neg hg]
      have hbn : b < nb := by omega
      have hall := sig_all (lim := L 0 b) (opn := L 1 b) hw hbn hg hS
      obtain ⟨⟨hm1, hm8⟩, hsum, hbx, hrs, hch, htg8⟩ := hall
      have hshown : chG T S L nb pr d Gp G0 βs b 0 b = 1 := by
        refine i4 b hbn hg ?_
        by_cases hb0 : b = 0
        · subst hb0; rw [(hw.2.1 (by omega)).1]; omega
        · exact (hw.2.2.1 b hbn (by omega)).2.1
      have hxy := (i1 b hbn).2.2 hshown
      have hSbb := hSb b hbn
      have bd : ∀ i, i < (sig T S nb (L 0 b) (L 1 b) b).1 → sP (sig T S nb (L 0 b) (L 1 b) b) (T 1 b - 1) pr d Gp (chG T S L nb pr d Gp G0 βs b) b (βs b) 0 i + sP (sig T S nb (L 0 b) (L 1 b) b) (T 1 b - 1) pr d Gp (chG T S L nb pr d Gp G0 βs b) b (βs b) 2 i ≤ 3000 ∧ sP (sig T S nb (L 0 b) (L 1 b) b) (T 1 b - 1) pr d Gp (chG T S L nb pr d Gp G0 βs b) b (βs b) 1 i + sP (sig T S nb (L 0 b) (L 1 b) b) (T 1 b - 1) pr d Gp (chG T S L nb pr d Gp G0 βs b) b (βs b) 3 i ≤ 3000 := by
        intro i hi
        have := PK_bd (sig T S nb (L 0 b) (L 1 b) b).2.2 (x := chG T S L nb pr d Gp G0 βs b 1 b) (y := chG T S L nb pr d Gp G0 βs b 2 b) (w := chG T S L nb pr d Gp G0 βs b 3 b) (h := chG T S L nb pr d Gp G0 βs b 4 b) (βs b) (sK (sig T S nb (L 0 b) (L 1 b) b) (T 1 b - 1) pr d Gp (chG T S L nb pr d Gp G0 βs b) b (βs b)) i (by omega) hm8 hi
        unfold sP
        omega
      unfold chS
      refine ⟨shG_gB i1 bd _ (Nat.le_refl _), fun c hc hgc => ?_, fun c hc => ?_, fun c hc hgc hp => ?_⟩
      · unfold sR upR
        by_cases hcb : c = b
        · subst hcb
          simp only [if_pos rfl, if_neg (show ¬ (1 : Nat) = 0 by omega), if_neg (show ¬ (2 : Nat) = 0 by omega), if_neg (show ¬ (2 : Nat) = 1 by omega), if_neg (show ¬ (3 : Nat) = 0 by omega), if_neg (show ¬ (3 : Nat) = 1 by omega), if_neg (show ¬ (3 : Nat) = 2 by omega), if_neg (show ¬ (3 : Nat) = 7 by omega), if_neg (show ¬ (4 : Nat) = 0 by omega), if_neg (show ¬ (4 : Nat) = 1 by omega), if_neg (show ¬ (4 : Nat) = 2 by omega), if_neg (show ¬ (4 : Nat) = 7 by omega), if_neg (show ¬ (5 : Nat) = 0 by omega), if_neg (show ¬ (5 : Nat) = 1 by omega), if_neg (show ¬ (5 : Nat) = 2 by omega), if_neg (show ¬ (5 : Nat) = 7 by omega), if_neg (show ¬ (6 : Nat) = 0 by omega), if_neg (show ¬ (6 : Nat) = 1 by omega), if_neg (show ¬ (6 : Nat) = 2 by omega), if_neg (show ¬ (6 : Nat) = 7 by omega), if_neg (show ¬ (7 : Nat) = 0 by omega), if_neg (show ¬ (7 : Nat) = 1 by omega), if_neg (show ¬ (7 : Nat) = 2 by omega)]
          refine ⟨sK_le _ _ _ _ _ _ _ _, wsN_le _ (fun i hi => ?_), htg8, fun _ => ?_⟩
          · have := bd i hi
            omega
          · have := bd ((sig T S nb (L 0 c) (L 1 c) c).1 - 1) (by omega)
            refine ⟨this.1, this.2, ?_⟩
            have h1 := rs_le_mem (sig T S nb (L 0 c) (L 1 c) c).2.2 0 (sig T S nb (L 0 c) (L 1 c) c).1 ((sig T S nb (L 0 c) (L 1 c) c).1 - 1) (by omega)
            unfold ahd at hsum
            rw [Nat.zero_add] at h1
            show (sig T S nb (L 0 c) (L 1 c) c).2.2 ((sig T S nb (L 0 c) (L 1 c) c).1 - 1) ≤ 40000000
            omega
        · simp only [if_neg hcb]
          exact i2 c (by omega) hgc
      · unfold sG
        rw [shG_5]
        exact i3 c hc
      · unfold sG
        by_cases hpb : T 0 c = b + 1
        · obtain ⟨i, z1, z2⟩ := hch c hc hpb hgc
          exact (shG_sh _).2 ⟨i, z1, z2⟩
        · exact (shG_sh _).1 (i4 c hc hgc (by omega))
