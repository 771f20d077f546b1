/-! a GROUP is drawn: the class -/
def shG (bx : Nat → Nat) (P G : Nat → Nat → Nat) : Nat → Nat → Nat → Nat
  | 0 => G
  | i + 1 => if bx i = 0 then shG bx P G i else fun q c => if c + 1 = bx i then (if q = 0 then 1 else if q = 5 then shG bx P G i q c else P (q - 1) i) else shG bx P G i q c
def upR (R : Nat → Nat → Nat) (b k W tg : Nat) (P : Nat → Nat → Nat) (i s : Nat) : Nat → Nat → Nat := fun q c => if c = b then (if q = 0 then k else if q = 1 then W else if q = 2 then tg else if q = 7 then s else P (q - 3) i) else R q c
def rX (n : Nat) (T R : Nat → Nat → Nat) (A : sy_M) : Prop := ∀ b, b < n → T 1 b ≠ 0 → A 18 b = nI (R 0 b) ∧ A 19 b = nI (R 1 b) ∧ A 26 b = nI (R 2 b) ∧ (R 2 b ≠ 0 → A 21 b = nI (R 3 b) ∧ A 22 b = nI (R 4 b) ∧ A 23 b = nI (R 5 b) ∧ A 24 b = nI (R 6 b) ∧ A 25 b = nI (R 7 b))
def rZ (n : Nat) (T R : Nat → Nat → Nat) (B : sy_M) : Prop := ∀ b, b < n → T 1 b ≠ 0 → B 32 b = nI (R 0 b) ∧ B 33 b = nI (R 1 b) ∧ B 34 b = nI (R 2 b) ∧ (R 2 b ≠ 0 → B 36 b = nI (R 3 b) ∧ B 37 b = nI (R 4 b) ∧ B 38 b = nI (R 5 b) ∧ B 39 b = nI (R 6 b) ∧ B 35 b = nI (R 7 b))
def rBd (n : Nat) (T R : Nat → Nat → Nat) : Prop := ∀ b, b < n → T 1 b ≠ 0 → R 0 b ≤ 2 ∧ R 1 b ≤ 3000000 ∧ R 2 b ≤ 8 ∧ (R 2 b ≠ 0 → R 3 b + R 5 b ≤ 3000 ∧ R 4 b + R 6 b ≤ 3000 ∧ R 7 b ≤ 40000000)
theorem rlR_iff {n : Nat} {T R : Nat → Nat → Nat} {A B : sy_M} : rlR n T R A B ↔ rX n T R A ∧ rZ n T R B ∧ rBd n T R := by
  constructor
  · intro h
    refine ⟨fun b hb hg => ?_, fun b hb hg => ?_, fun b hb hg => ?_⟩
    · obtain ⟨⟨a1, a2, a3⟩, ⟨a4, a5, a6⟩, ⟨a7, a8, a9⟩, c⟩ := h b hb hg
      exact ⟨a2, a5, a8, fun q => ⟨(c q).1.1, (c q).2.1.1, (c q).2.2.1.1, (c q).2.2.2.1.1, (c q).2.2.2.2.1.1⟩⟩
    · obtain ⟨⟨a1, a2, a3⟩, ⟨a4, a5, a6⟩, ⟨a7, a8, a9⟩, c⟩ := h b hb hg
      exact ⟨a3, a6, a9, fun q => ⟨(c q).1.2, (c q).2.1.2, (c q).2.2.1.2, (c q).2.2.2.1.2, (c q).2.2.2.2.1.2⟩⟩
    · obtain ⟨⟨a1, a2, a3⟩, ⟨a4, a5, a6⟩, ⟨a7, a8, a9⟩, c⟩ := h b hb hg
      exact ⟨a1, a4, a7, fun q => (c q).2.2.2.2.2⟩
  · intro ⟨h1, h2, h3⟩ b hb hg
    obtain ⟨a1, a2, a3, a4⟩ := h1 b hb hg
    obtain ⟨b1, b2, b3, b4⟩ := h2 b hb hg
    obtain ⟨c1, c2, c3, c4⟩ := h3 b hb hg
    exact ⟨⟨c1, a1, b1⟩, ⟨c2, a2, b2⟩, ⟨c3, a3, b3⟩, fun q => ⟨⟨(a4 q).1, (b4 q).1⟩, ⟨(a4 q).2.1, (b4 q).2.1⟩, ⟨(a4 q).2.2.1, (b4 q).2.2.1⟩, ⟨(a4 q).2.2.2.1, (b4 q).2.2.2.1⟩, ⟨(a4 q).2.2.2.2, (b4 q).2.2.2.2⟩, c4 q⟩⟩
def sK (σ : itS) (how pr d : Nat) (Gp G : Nat → Nat → Nat) (b : Nat) (β : Nat → Bool) : Nat := if ahd σ.2.2 σ.1 = 0 then 0 else pik how (cst σ.2.2 σ.1 pr d Gp σ.2.1 (PK σ.2.2 σ.1 (G 1 b) (G 2 b) (G 3 b) (G 4 b) β 0)) (cst σ.2.2 σ.1 pr d Gp σ.2.1 (PK σ.2.2 σ.1 (G 1 b) (G 2 b) (G 3 b) (G 4 b) β 1)) (cst σ.2.2 σ.1 pr d Gp σ.2.1 (PK σ.2.2 σ.1 (G 1 b) (G 2 b) (G 3 b) (G 4 b) β 2))
def sP (σ : itS) (how pr d : Nat) (Gp G : Nat → Nat → Nat) (b : Nat) (β : Nat → Bool) : Nat → Nat → Nat := PK σ.2.2 σ.1 (G 1 b) (G 2 b) (G 3 b) (G 4 b) β (sK σ how pr d Gp G b β)
def sG (σ : itS) (how pr d : Nat) (Gp G : Nat → Nat → Nat) (b : Nat) (β : Nat → Bool) : Nat → Nat → Nat := shG σ.2.1 (sP σ how pr d Gp G b β) G σ.1
def sR (σ : itS) (how pr d : Nat) (Gp G : Nat → Nat → Nat) (b : Nat) (β : Nat → Bool) (tg : Nat) (R : Nat → Nat → Nat) : Nat → Nat → Nat := upR R b (sK σ how pr d Gp G b β) (wsN σ.2.2 (sP σ how pr d Gp G b β) σ.1) tg (sP σ how pr d Gp G b β) (σ.1 - 1) (σ.2.2 (σ.1 - 1))
def okB (σ : itS) (how : Nat) (G : Nat → Nat → Nat) (b : Nat) (β : Nat → Bool) : Prop := ahd σ.2.2 σ.1 ≠ 0 → how = 1 ∨ how = 3 → bestB σ.2.2 σ.1 (G 3 b) (G 4 b) β
def frGX (d : Nat) (M M' : sy_M) : Prop := (∀ q, q < 12 → M' q = M q) ∧ M' 16 = M 16 ∧ M' 27 = M 27 ∧ (∀ q, 58 < q → M' q = M q) ∧ M' 31 0 = 0 ∧ ∀ q, 12 ≤ q → q ≤ 17 → ∀ i, (i < d % 50 * 40 ∨ d % 50 * 40 + 40 ≤ i) → M' q i = M q i
theorem shG_5 (bx : Nat → Nat) (P G : Nat → Nat → Nat) (c : Nat) : ∀ i, shG bx P G i 5 c = G 5 c
  | 0 => rfl
  | i + 1 => by
    have ih := shG_5 bx P G c i
    rw [shG]
    by_cases hb : bx i = 0
    · rw [if_pos hb]; exact ih
    · rw [if_neg hb]
      split
      · simp only [if_pos rfl, if_neg (show ¬ (5 : Nat) = 0 by omega)]; exact ih
      · exact ih
theorem pik_le {how c0 c1 c2 : Nat} : pik how c0 c1 c2 ≤ 2 := by
  unfold pik bst3
  split
  · omega
  · split <;> split <;> omega
theorem sK_le (σ : itS) (how pr d : Nat) (Gp G : Nat → Nat → Nat) (b : Nat) (β : Nat → Bool) : sK σ how pr d Gp G b β ≤ 2 := by
  unfold sK
  split
  · omega
  · exact pik_le
/-- the class shows what it has laid -/
theorem showsX {M : sy_M} {p m b d nb tg : Nat} {g bx : Nat → Nat} {P G : Nat → Nat → Nat} {K : sy_M → Int32 → Int32 → Nat → Prop} {x4 : Int32} {Q : sy_M → Prop} (hp : iX5 p) (hm8 : m ≤ 8) (h28 : M 28 0 = nI m) (hnb : nb ≤ 40) (hb : b < nb) (hd : d < 2 ^ 20 - 1) (h9 : M 9 0 = nI (d + 1)) (hbx : ∀ i, i < m → bx i ≤ nb ∧ M 29 i = pm (bx i) ∧ (bx i = 0 ↔ tg ≠ 0 ∧ i + 1 = m)) (hg : ∀ i, i < m → M 30 i = nI (g i)) (hpl : plX p P m M) (hG : gX (d % 50) nb G M)
    (hq : ∀ M', gX (d % 50) nb (shG bx P G m) M' → (tg ≠ 0 → 0 < m → M' 21 b = nI (P 0 (m - 1)) ∧ M' 22 b = nI (P 1 (m - 1)) ∧ M' 23 b = nI (P 2 (m - 1)) ∧ M' 24 b = nI (P 3 (m - 1)) ∧ M' 25 b = nI (g (m - 1))) → (∀ q, (q < 12 ∨ 16 = q ∨ (18 ≤ q ∧ q ≤ 20) ∨ 25 < q) → M' q = M q) → (∀ q, 12 ≤ q → q ≤ 17 → ∀ i, (i < d % 50 * 40 ∨ d % 50 * 40 + 40 ≤ i) → M' q i = M q i) → (∀ q, 21 ≤ q → q ≤ 25 → ∀ c, c ≠ b → M' q c = M q c) → K M' (nI b) x4 p) : ∃ n, wX4_layGroup_69 K Q n M (nI b) x4 p (nI 0) := by
  have hp2 : 33 ≤ p ∧ p ≤ 47 := by unfold iX5 at hp; omega
  have md : d % 50 < 50 := Nat.mod_lt _ (by omega)
  have key : ∀ r i M1, i + r = m → gX (d % 50) nb (shG bx P G i) M1 → (tg ≠ 0 → 0 < m → i = m → M1 21 b = nI (P 0 (m - 1)) ∧ M1 22 b = nI (P 1 (m - 1)) ∧ M1 23 b = nI (P 2 (m - 1)) ∧ M1 24 b = nI (P 3 (m - 1)) ∧ M1 25 b = nI (g (m - 1))) → (∀ q, (q < 12 ∨ 16 = q ∨ (18 ≤ q ∧ q ≤ 20) ∨ 25 < q) → M1 q = M q) → (∀ q, 12 ≤ q → q ≤ 17 → ∀ i, (i < d % 50 * 40 ∨ d % 50 * 40 + 40 ≤ i) → M1 q i = M q i) → (∀ q, 21 ≤ q → q ≤ 25 → ∀ c, c ≠ b → M1 q c = M q c) → wX4_layGroup_69 K Q (r + 1) M1 (nI b) x4 p (nI i) := by
    intro r
    induction r with
    | zero =>
      intro i M1 hi h1 h2 h3 h4 h5
      have : i = m := by omega
      subst this
      rw [wX4_layGroup_69, h3 28 (by omega), h28]
      have : nI i ≤ nI i := nI_le (Nat.le_refl _) (by omega)
      exact ⟨fun _ => hq M1 h1 (fun z1 z2 => h2 z1 z2 rfl) h3 h4 h5, fun h => absurd this h⟩
    | succ r ih =>
      intro i M1 hi h1 h2 h3 h4 h5
      rw [wX4_layGroup_69, h3 28 (by omega), h28]
      have e1 : ¬ nI m ≤ nI i := nI_ge (by omega) (by omega)
      simp only [e1, false_implies, true_implies, not_false_eq_true, true_and]
      obtain ⟨b1, b2, b3⟩ := hbx i (by omega)
      have l8 : i < lX7 (p + 1) := by rw [lX7_p hp]; omega
      have pl : M1 (p + 1 + 1) i = nI (P 0 i) ∧ M1 (p + 1 + 2) i = nI (P 1 i) ∧ M1 (p + 1 + 3) i = nI (P 2 i) ∧ M1 (p + 1 + 4) i = nI (P 3 i) := by
        rw [h3 (p + 1 + 1) (by omega), h3 (p + 1 + 2) (by omega), h3 (p + 1 + 3) (by omega), h3 (p + 1 + 4) (by omega)]
        exact hpl i (by omega)
      unfold wX4_show
      rw [ex_nI (show i < 8 by omega) (by omega), h3 29 (by omega), b2, pm_m1 (by omega), pl.1, pl.2.1, pl.2.2.1, pl.2.2.2, nI_1]
      refine ⟨fun hb0 => ⟨l8, l8, l8, l8, ?_⟩, fun hb0 => ⟨l8, l8, l8, l8, ?_⟩⟩
      · have him := (b3.mp hb0).2
        unfold wX7_put
        rw [ex_nI (show b < lX7 20 by show b < 40; omega) (by show 40 ≤ _; omega)]
        dsimp only
        rw [ex_nI (show b < 40 by omega) (by omega)]
        have e30 : mu (mu (mu (mu M1 (20 + 1) b (nI (P 0 i))) (20 + 2) b (nI (P 1 i))) (20 + 3) b (nI (P 2 i))) (20 + 4) b (nI (P 3 i)) 30 i = nI (g i) := by
          rw [mu_n1 _ _ _ _ (by omega), mu_n1 _ _ _ _ (by omega), mu_n1 _ _ _ _ (by omega), mu_n1 _ _ _ _ (by omega), h3 30 (by omega)]
          exact hg i (by omega)
        rw [e30]
        refine ih (i + 1) _ (by omega) ?_ (fun z1 z2 z3 => ?_) (fun q q1 => ?_) (fun q q1 q2 j q3 => ?_) (fun q q1 q2 c q3 => ?_)
        · rw [shG, if_pos hb0]
          refine h1.cg (fun q q1 q2 c hc => ?_)
          rw [mu_n1 _ _ _ _ (by omega), mu_n1 _ _ _ _ (by omega), mu_n1 _ _ _ _ (by omega), mu_n1 _ _ _ _ (by omega), mu_n1 _ _ _ _ (by omega)]
        · rw [show m - 1 = i by omega]
          simp [mu_ap]
        · rw [mu_oth (by omega), mu_oth (by omega), mu_oth (by omega), mu_oth (by omega), mu_oth (by omega)]
          exact h3 q q1
        · rw [mu_n1 _ _ _ _ (by omega), mu_n1 _ _ _ _ (by omega), mu_n1 _ _ _ _ (by omega), mu_n1 _ _ _ _ (by omega), mu_n1 _ _ _ _ (by omega)]
          exact h4 q q1 q2 j q3
        · rw [mu_n2 _ _ _ _ q3, mu_n2 _ _ _ _ q3, mu_n2 _ _ _ _ q3, mu_n2 _ _ _ _ q3, mu_n2 _ _ _ _ q3]
          exact h5 q q1 q2 c q3
      · obtain ⟨c, hc⟩ : ∃ c, bx i = c + 1 := ⟨bx i - 1, by omega⟩
        rw [hc, pm_s]
        unfold wX2_show
        rw [latest_y (d := d + 1) (by rw [h3 9 (by omega)]; exact h9) (by omega) (by omega), Nat.add_sub_cancel]
        unfold wX7_put
        rw [ex_nI (show d % 50 * 40 + c < lX7 11 by show _ < 2000; omega) (by show 2000 ≤ _; omega)]
        dsimp only
        rw [ex_nI (show d % 50 * 40 + c < 2000 by omega) (by omega), nar01 (Or.inr rfl)]
        refine ih (i + 1) _ (by omega) (fun c2 hc2 => ?_) (fun z1 z2 z3 => absurd hb0 (by rw [Classical.not_not]; exact b3.mpr ⟨z1, z3⟩)) (fun q q1 => ?_) (fun q q1 q2 j q3 => ?_) (fun q q1 q2 c2 q3 => ?_)
        · rw [shG, if_neg hb0]
          obtain ⟨g1, g2, g3⟩ := h1 c2 hc2
          by_cases hcc : c2 = c
          · subst hcc
            simp only [hc, if_true, if_pos rfl, if_neg (show ¬ (5 : Nat) = 0 by omega), if_neg (show ¬ (1 : Nat) = 0 by omega), if_neg (show ¬ (1 : Nat) = 5 by omega), if_neg (show ¬ (2 : Nat) = 0 by omega), if_neg (show ¬ (2 : Nat) = 5 by omega), if_neg (show ¬ (3 : Nat) = 0 by omega), if_neg (show ¬ (3 : Nat) = 5 by omega), if_neg (show ¬ (4 : Nat) = 0 by omega), if_neg (show ¬ (4 : Nat) = 5 by omega)]
            refine ⟨mu_eq _ _ _ _, ?_, fun _ => ⟨?_, ?_, ?_, ?_⟩⟩
            · rw [mu_n1 _ _ _ _ (by omega), mu_n1 _ _ _ _ (by omega), mu_n1 _ _ _ _ (by omega), mu_n1 _ _ _ _ (by omega), mu_n1 _ _ _ _ (by omega)]
              exact g2
            · rw [mu_n1 _ _ _ _ (by omega), mu_n1 _ _ _ _ (by omega), mu_n1 _ _ _ _ (by omega), mu_n1 _ _ _ _ (by omega)]
              exact mu_eq _ _ _ _
            · rw [mu_n1 _ _ _ _ (by omega), mu_n1 _ _ _ _ (by omega), mu_n1 _ _ _ _ (by omega)]
              exact mu_eq _ _ _ _
            · rw [mu_n1 _ _ _ _ (by omega), mu_n1 _ _ _ _ (by omega)]
              exact mu_eq _ _ _ _
            · rw [mu_n1 _ _ _ _ (by omega)]
              exact mu_eq _ _ _ _
          · have hne : ¬ c2 + 1 = bx i := by omega
            have hno : ∀ v0 v1 v2 v3 v4 q, mu (mu (mu (mu (mu M1 (11 + 1) (d % 50 * 40 + c) v0) (11 + 2) (d % 50 * 40 + c) v1) (11 + 3) (d % 50 * 40 + c) v2) (11 + 4) (d % 50 * 40 + c) v3) 17 (d % 50 * 40 + c) v4 q (d % 50 * 40 + c2) = M1 q (d % 50 * 40 + c2) := by
              intro v0 v1 v2 v3 v4 q
              rw [mu_n2 _ _ _ _ (by omega), mu_n2 _ _ _ _ (by omega), mu_n2 _ _ _ _ (by omega), mu_n2 _ _ _ _ (by omega), mu_n2 _ _ _ _ (by omega)]
            rw [hno, hno, hno, hno, hno, hno]
            simp only [if_neg hne]
            exact ⟨g1, g2, g3⟩
        · rw [mu_oth (by omega), mu_oth (by omega), mu_oth (by omega), mu_oth (by omega), mu_oth (by omega)]
          exact h3 q q1
        · rw [mu_n2 _ _ _ _ (by omega), mu_n2 _ _ _ _ (by omega), mu_n2 _ _ _ _ (by omega), mu_n2 _ _ _ _ (by omega), mu_n2 _ _ _ _ (by omega)]
          exact h4 q q1 q2 j q3
        · rw [mu_n1 _ _ _ _ (by omega), mu_n1 _ _ _ _ (by omega), mu_n1 _ _ _ _ (by omega), mu_n1 _ _ _ _ (by omega), mu_n1 _ _ _ _ (by omega)]
          exact h5 q q1 q2 c2 q3
  refine ⟨m + 1, key m 0 M (by omega) hG (fun z1 z2 z3 => absurd z2 (by omega)) (fun _ _ => rfl) (fun _ _ _ _ _ => rfl) (fun _ _ _ _ _ => rfl)⟩
theorem layGroupX {M : sy_M} {t nb d b lim opn pr : Nat} {T V : Nat → Nat → Nat} {S l : Nat → Nat} {Gp G R : Nat → Nat → Nat} {σ : itS} {Q : sy_M → Prop} (ht : 60 ≤ t ∧ t ≤ 71) (hw : wfT nb T V) (hb : b < nb) (hg : T 1 b ≠ 0) (hS : S = SZ T l nb) (hSb : ∀ c, c < nb → S c ≤ 39999960) (hσ : σ = sig T S nb lim opn b) (hM : gaX t nb (d + 1) b lim opn T S M) (hlim : lim ≤ 999) (hopn : opn ≤ 1) (hpr : prX d nb Gp M) (h27 : M 27 0 = nI pr) (hpr2 : pr ≤ 1000) (h31 : M 31 0 = 0) (hG : gX (d % 50) nb G M) (hGB : gB nb G) (hG0 : G 0 b = 1) (hR : rX b T R M)
    (hq : ∀ M' β, okB σ (T 1 b - 1) G b β → gX (d % 50) nb (sG σ (T 1 b - 1) pr d Gp G b β) M' → rX (b + 1) T (sR σ (T 1 b - 1) pr d Gp G b β (tgN T S nb lim opn b) R) M' → frGX d M M' → Q M') : wX4_layGroup M t (nI b) Q := by
  have hnb := hw.1
  have md : d % 50 < 50 := Nat.mod_lt _ (by omega)
  have hT1 := (hw.2.2.2.1 b hb).1
  have hall := sig_all (lim := lim) (opn := opn) hw hb hg hS
  rw [← hσ] at hall
  obtain ⟨⟨hm1, hm8⟩, hsum, hbx, hrs, -, htg8⟩ := hall
  obtain ⟨hd, -, hgBp, h9, hprev⟩ := id hpr
  obtain ⟨g1, g2, g3⟩ := hG b hb
  obtain ⟨q1, q2, q3, q4⟩ := g3 hG0
  obtain ⟨xw, yh⟩ := (hGB b hb).2.2 hG0
  have hSbb := hSb b hb
  unfold wX4_layGroup
  refine gatherX (d := d + 1) (x := G 1 b) (y := G 2 b) (w := G 3 b) (h := G 4 b) ht hw hb hg hM hlim hopn (by omega) (by omega) h31 (by rw [Nat.add_sub_cancel]; exact ⟨q1, q2, q3, q4⟩) (fun M1 sm σ' hsm hσ' hit htog hah hrect hfr => ?_)
  have es : σ' = σ := by rw [hσ', hσ, hsm]; rfl
  subst es
  have etg : togN opn sm = tgN T S nb lim opn b := by rw [hsm]; rfl
  rw [etg] at htog
  have gle : ∀ i, i < σ'.1 → σ'.2.2 i ≤ 39999960 := fun i hi => by
    have := rs_le_mem σ'.2.2 0 σ'.1 i hi
    unfold ahd at hsum
    rw [Nat.zero_add] at this
    omega
  have hi1 : inX σ'.1 σ'.2.2 (G 1 b) (G 2 b) (G 3 b) (G 4 b) M1 := ⟨⟨hm1, xw, yh⟩, hit.1, hrect, fun i hi => ⟨by have := gle i hi; omega, (hit.2 i hi).2⟩, hm8, by omega, hah⟩
  have hl1 : lyX σ'.1 d nb pr Gp σ'.2.1 M1 := by
    refine ⟨fun i hi => ⟨(hbx i hi).1, (hit.2 i hi).1⟩, ⟨hd, hnb, hgBp, by rw [hfr 9 (by omega) (by omega) (by omega) (by omega)]; exact h9, fun hd0 => (hprev hd0).cg (fun p z1 z2 c _ => by rw [hfr p (by omega) (by omega) (by omega) (by omega)])⟩, by rw [hfr 27 (by omega) (by omega) (by omega) (by omega)]; exact h27, hpr2⟩
  have fin : ∀ k P β M2, k = sK σ' (T 1 b - 1) pr d Gp G b β → P = sP σ' (T 1 b - 1) pr d Gp G b β → okB σ' (T 1 b - 1) G b β → plX (33 + 7 * k) P σ'.1 M2 → M2 (33 + 7 * k) 0 = nI (wsN σ'.2.2 P σ'.1) → frA M1 M2 → wX4_layGroup_57 Q M2 (nI b) (nI k) := by
    intro k P β M2 hk hP hok hpl hws hfA
    have hk2 : k ≤ 2 := by rw [hk]; exact sK_le _ _ _ _ _ _ _ _
    unfold wX4_layGroup_57
    rw [ex_nI (show k < 3 by omega) (by omega)]
    have f2 : ∀ q, (q < 28 ∨ 58 < q) → M2 q = M q := fun q z => by rw [hfA q (by omega), hfr q (by omega) (by omega) (by omega) (by omega)]
    refine showsX (tg := tgN T S nb lim opn b) (g := σ'.2.2) (bx := σ'.2.1) (P := P) (G := G) (by unfold iX5; omega) hm8 (by rw [hfA 28 (by omega)]; exact hit.1) hnb hb hd (by rw [f2 9 (by omega)]; exact h9) (fun i hi => ⟨(hbx i hi).1, by rw [hfA 29 (by omega)]; exact (hit.2 i hi).1, (hbx i hi).2⟩) (fun i hi => by rw [hfA 30 (by omega)]; exact (hit.2 i hi).2) hpl (hG.cg (fun p z1 z2 c _ => by rw [f2 p (by omega)])) (fun M3 s1 s2 s3 s4 s5 => ?_)
    rw [ex_nI (show b < 40 by omega) (by omega)]
    have w1 : M3 28 1 = nI (tgN T S nb lim opn b) := by rw [s3 28 (by omega), hfA 28 (by omega)]; exact htog
    have w2 : M3 (33 + 7 * k) 0 = nI (wsN σ'.2.2 P σ'.1) := by rw [s3 _ (by omega)]; exact hws
    rw [w1, mu_n1 _ _ _ _ (show 33 + 7 * k ≠ 18 by omega), mu_n1 _ _ _ _ (show 33 + 7 * k ≠ 26 by omega), w2]
    refine hq _ β hok ?_ ?_ ⟨fun q z => ?_, ?_, ?_, fun q z => ?_, ?_, fun q z1 z2 i z3 => ?_⟩
    · unfold sG
      rw [← hP]
      exact s1.cg (fun p z1 z2 c _ => by rw [mu_n1 _ _ _ _ (by omega), mu_n1 _ _ _ _ (by omega), mu_n1 _ _ _ _ (by omega)])
    · intro c hc hgc
      unfold sR upR
      rw [← hk, ← hP]
      by_cases hcb : c = b
      · subst hcb
        simp only [if_pos rfl, if_neg (show ¬ (1 : Nat) = 0 by omega), if_neg (show ¬ (2 : Nat) = 0 by omega), if_neg (show ¬ (2 : Nat) = 1 by omega), if_neg (show ¬ (3 : Nat) = 0 by omega), if_neg (show ¬ (3 : Nat) = 1 by omega), if_neg (show ¬ (3 : Nat) = 2 by omega), if_neg (show ¬ (3 : Nat) = 7 by omega), if_neg (show ¬ (4 : Nat) = 0 by omega), if_neg (show ¬ (4 : Nat) = 1 by omega), if_neg (show ¬ (4 : Nat) = 2 by omega), if_neg (show ¬ (4 : Nat) = 7 by omega), if_neg (show ¬ (5 : Nat) = 0 by omega), if_neg (show ¬ (5 : Nat) = 1 by omega), if_neg (show ¬ (5 : Nat) = 2 by omega), if_neg (show ¬ (5 : Nat) = 7 by omega), if_neg (show ¬ (6 : Nat) = 0 by omega), if_neg (show ¬ (6 : Nat) = 1 by omega), if_neg (show ¬ (6 : Nat) = 2 by omega), if_neg (show ¬ (6 : Nat) = 7 by omega), if_neg (show ¬ (7 : Nat) = 0 by omega), if_neg (show ¬ (7 : Nat) = 1 by omega), if_neg (show ¬ (7 : Nat) = 2 by omega)]
        refine ⟨?_, mu_eq _ _ _ _, ?_, fun htz => ?_⟩
        · rw [mu_n1 _ _ _ _ (by omega)]; exact mu_eq _ _ _ _
        · rw [mu_n1 _ _ _ _ (by omega), mu_n1 _ _ _ _ (by omega)]; exact mu_eq _ _ _ _
        · have ho : ∀ v0 v1 v2 q, 21 ≤ q → q ≤ 25 → mu (mu (mu M3 26 c v0) 18 c v1) 19 c v2 q c = M3 q c := fun v0 v1 v2 q z1 z2 => by
            rw [mu_n1 _ _ _ _ (by omega), mu_n1 _ _ _ _ (by omega), mu_n1 _ _ _ _ (by omega)]
          rw [ho _ _ _ 21 (by omega) (by omega), ho _ _ _ 22 (by omega) (by omega), ho _ _ _ 23 (by omega) (by omega), ho _ _ _ 24 (by omega) (by omega), ho _ _ _ 25 (by omega) (by omega)]
          exact s2 htz (by omega)
      · simp only [if_neg hcb]
        have ho : ∀ v0 v1 v2 q, mu (mu (mu M3 26 b v0) 18 b v1) 19 b v2 q c = M3 q c := fun v0 v1 v2 q => by
          rw [mu_n2 _ _ _ _ hcb, mu_n2 _ _ _ _ hcb, mu_n2 _ _ _ _ hcb]
        rw [ho, ho, ho, ho, ho, ho, ho, ho]
        rw [s3 18 (by omega), s3 19 (by omega), s3 26 (by omega), s5 21 (by omega) (by omega) c hcb, s5 22 (by omega) (by omega) c hcb, s5 23 (by omega) (by omega) c hcb, s5 24 (by omega) (by omega) c hcb, s5 25 (by omega) (by omega) c hcb]
        rw [f2 18 (by omega), f2 19 (by omega), f2 26 (by omega), f2 21 (by omega), f2 22 (by omega), f2 23 (by omega), f2 24 (by omega), f2 25 (by omega)]
        exact hR c (by omega) hgc
    · rw [mu_oth (by omega), mu_oth (by omega), mu_oth (by omega), s3 q (by omega)]; exact f2 q (by omega)
    · rw [mu_oth (by omega), mu_oth (by omega), mu_oth (by omega), s3 16 (by omega)]; exact f2 16 (by omega)
    · rw [mu_oth (by omega), mu_oth (by omega), mu_oth (by omega), s3 27 (by omega)]; exact f2 27 (by omega)
    · rw [mu_oth (by omega), mu_oth (by omega), mu_oth (by omega), s3 q (by omega)]; exact f2 q (by omega)
    · rw [mu_n1 _ _ _ _ (by omega), mu_n1 _ _ _ _ (by omega), mu_n1 _ _ _ _ (by omega), s3 31 (by omega), hfA 31 (by omega)]
      exact hah 0 (by omega)
    · rw [mu_n1 _ _ _ _ (by omega), mu_n1 _ _ _ _ (by omega), mu_n1 _ _ _ _ (by omega), s4 q z1 z2 i z3, f2 q (by omega)]
  rw [hit.1, show (0 : Int32) = nI 0 from rfl, sumX hi1.2.2.2.2 (by omega) (Nat.le_refl _), show ahd σ'.2.2 0 = 0 from rfl, Nat.sub_zero, nI_eq (by omega) (by omega)]
  refine ⟨fun hz => ?_, fun hz => ?_⟩
  · rw [ex_nI (show b < 40 by omega) (by omega), hfr (t + 2) (by omega) (by omega) (by omega) (by omega), (hM.2.1 b hb).2, show T 1 b = (T 1 b - 1) + 1 by omega, pm_s]
    have ePK : ∀ β k, PK σ'.2.2 σ'.1 (G 1 b) (G 2 b) (G 3 b) (G 4 b) β k = RR σ'.2.2 σ'.1 (G 1 b) (G 2 b) (G 3 b) (G 4 b) β k := fun β k => by unfold PK; rw [if_neg hz]
    refine layAsX hi1 hl1 (by omega) (fun M2 β k hbest hk2 hk hpl hws hfA => ?_)
    have ek : k = sK σ' (T 1 b - 1) pr d Gp G b β := by
      unfold sK
      rw [if_neg hz, ePK, ePK, ePK]
      exact hk
    refine fin k (RR σ'.2.2 σ'.1 (G 1 b) (G 2 b) (G 3 b) (G 4 b) β k) β M2 ek ?_ (fun _ => hbest) hpl hws hfA
    unfold sP
    rw [← ek, ePK]
  · rw [ex_nI (show 0 < 3 by omega) (by omega)]
    refine nothingX (by unfold iX5; omega) hi1 (fun M2 p1 p2 p3 => ?_)
    have ek : 0 = sK σ' (T 1 b - 1) pr d Gp G b (fun _ => false) := by
      unfold sK
      rw [if_pos hz]
    refine fin 0 (noR (G 1 b) (G 2 b)) (fun _ => false) M2 ek ?_ (fun z => absurd hz z) p1 p2 (fun q z => p3 q (by omega) (by omega))
    unfold sP PK
    rw [if_pos hz]
