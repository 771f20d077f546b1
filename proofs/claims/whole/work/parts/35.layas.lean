/-! by a HOW -/
theorem plX.cg {p m : Nat} {R : Nat → Nat → Nat} {M M' : sy_M} (h : plX p R m M) (e : ∀ q, p ≤ q → q < p + 6 → M' q = M q) : plX p R m M' := by
  intro i hi
  rw [e (p + 1 + 1) (by omega) (by omega), e (p + 1 + 2) (by omega) (by omega), e (p + 1 + 3) (by omega) (by omega), e (p + 1 + 4) (by omega) (by omega)]
  exact h i hi
def frA (M M' : sy_M) : Prop := ∀ q, (q < 33 ∨ 58 < q) → M' q = M q
/-- what laying a group stands on, beside inX -/
def lyX (m d nb pr : Nat) (Gp : Nat → Nat → Nat) (bx : Nat → Nat) (M : sy_M) : Prop := (∀ i, i < m → bx i ≤ nb ∧ M 29 i = pm (bx i)) ∧ prX d nb Gp M ∧ M 27 0 = nI pr ∧ pr ≤ 1000
theorem gX.cg {rx nb : Nat} {G : Nat → Nat → Nat} {A A' : sy_M} (h : gX rx nb G A) (e : ∀ p, 12 ≤ p → p ≤ 17 → ∀ b, b < nb → A' p (rx * 40 + b) = A p (rx * 40 + b)) : gX rx nb G A' := by
  intro b hb
  rw [e 12 (by omega) (by omega) b hb, e 13 (by omega) (by omega) b hb, e 14 (by omega) (by omega) b hb, e 15 (by omega) (by omega) b hb, e 16 (by omega) (by omega) b hb, e 17 (by omega) (by omega) b hb]
  exact h b hb
theorem gZ.cg {rz nb : Nat} {G : Nat → Nat → Nat} {A A' : sy_M} (h : gZ rz nb G A) (e : ∀ p, 26 ≤ p → p ≤ 31 → ∀ b, b < nb → A' p (41 * rz + b) = A p (41 * rz + b)) : gZ rz nb G A' := by
  intro b hb
  rw [e 26 (by omega) (by omega) b hb, e 27 (by omega) (by omega) b hb, e 28 (by omega) (by omega) b hb, e 29 (by omega) (by omega) b hb, e 30 (by omega) (by omega) b hb, e 31 (by omega) (by omega) b hb]
  exact h b hb
theorem lyX.fr {m d nb pr : Nat} {Gp : Nat → Nat → Nat} {bx : Nat → Nat} {M M' : sy_M} (h : lyX m d nb pr Gp bx M) (e : frA M M') : lyX m d nb pr Gp bx M' := by
  obtain ⟨h1, ⟨h2, h3, h4, h5, h6⟩, h7, h8⟩ := h
  refine ⟨fun i hi => by rw [e 29 (by omega)]; exact h1 i hi, ⟨h2, h3, h4, by rw [e 9 (by omega)]; exact h5, fun hd => (h6 hd).cg (fun p q1 q2 b _ => by rw [e p (by omega)])⟩, by rw [e 27 (by omega)]; exact h7, h8⟩
theorem l114 {M : sy_M} {m x y w h d nb pr k B : Nat} {g : Nat → Nat} {Gp : Nat → Nat → Nat} {bx : Nat → Nat} {P : Nat → Nat → Nat} {x4 x5 : Int32} {K : sy_M → Int32 → Int32 → Int32 → Int32 → Prop} {Q : Int32 → sy_M → Prop} (hi : inX m g x y w h M) (hl : lyX m d nb pr Gp bx M) (hk : k ≤ 2) (hpl : plX (33 + 7 * k) P m M) (hws : M (33 + 7 * k) 0 = nI (wsN g P m)) (hP : ∀ i, i < m → P 0 i + P 2 i ≤ 3000 ∧ P 1 i + P 3 i ≤ 3000) (hB : B ≤ 2147483647)
    (h1 : B ≤ cst g m pr d Gp bx P → K M x4 x5 (nI B) (nI (k + 1))) (h2 : ¬ B ≤ cst g m pr d Gp bx P → K M (nI k) x5 (nI (cst g m pr d Gp bx P)) (nI (k + 1))) : wX4_layAs_102 K Q M x4 x5 (nI B) (nI k) := by
  obtain ⟨l1, l2, l3, l4⟩ := hl
  have hp : iX5 (33 + 7 * k) := by unfold iX5; omega
  have c := cst_nI (g := g) (d := d) hi.2.2.2.2.1 l4 l2.2.2.1 (fun i hi => (l1 i hi).1) hP
  unfold wX4_layAs_102
  rw [ex_nI (show k < 3 by omega) (by omega)]
  refine movesX hp hi.2.2.2.2.1 hi.2.1 l1 l2 hpl hP ?_
  rw [hws, l3, c.1, nI_leI (by omega) (by omega), nI_1]
  exact ⟨h1, h2⟩
theorem RR_0 (g : Nat → Nat) (m x y w h : Nat) (β : Nat → Bool) : RR g m x y w h β 0 = slR g m x y w h := rfl
theorem RR_1 (g : Nat → Nat) (m x y w h : Nat) (β : Nat → Bool) : RR g m x y w h β 1 = roR g β m x y w h := rfl
theorem RR_2 (g : Nat → Nat) (m x y w h : Nat) (β : Nat → Bool) : RR g m x y w h β 2 = cuR g 9 0 m x y w h := rfl
theorem layAsX {M : sy_M} {m x y w h d nb pr how : Nat} {g : Nat → Nat} {Gp : Nat → Nat → Nat} {bx : Nat → Nat} {Q : Int32 → sy_M → Prop} (hi : inX m g x y w h M) (hl : lyX m d nb pr Gp bx M) (hhow : how ≤ 3)
    (hq : ∀ M' β k, (how = 1 ∨ how = 3 → bestB g m w h β) → k ≤ 2 → k = pik how (cst g m pr d Gp bx (RR g m x y w h β 0)) (cst g m pr d Gp bx (RR g m x y w h β 1)) (cst g m pr d Gp bx (RR g m x y w h β 2)) → plX (33 + 7 * k) (RR g m x y w h β k) m M' → M' (33 + 7 * k) 0 = nI (wsN g (RR g m x y w h β k) m) → frA M M' → Q (nI k) M') : wX4_layAs M (nI how) Q := by
  obtain ⟨⟨hm1, hxw, hyh⟩, i1, -, -, i7⟩ := id hi
  have hm8 := i7.1
  have bd : ∀ β k i, i < m → RR g m x y w h β k 0 i + RR g m x y w h β k 2 i ≤ 3000 ∧ RR g m x y w h β k 1 i + RR g m x y w h β k 3 i ≤ 3000 := fun β k i hi => by
    have := RR_bd g (x := x) (y := y) (w := w) (h := h) β k i (by omega) hm8 hi
    omega
  have cb : ∀ β k, cst g m pr d Gp bx (RR g m x y w h β k) < 2147483647 := fun β k => (cst_nI (g := g) (d := d) hm8 hl.2.2.2 hl.2.1.2.2.1 (fun i hi => (hl.1 i hi).1) (bd β k)).2
  have n1 : ¬ nI 0 = 1 := by decide
  have n2 : ¬ nI 0 = nI 2 := by decide
  have n3 : ¬ nI 2 = 1 := by decide
  have n4 : nI 1 = 1 := by decide
  -- each way of laying, as one round of the loop
  have r0 : ∀ n M1 (x4 x5 : Int32) B, frA M M1 → B ≤ 2147483647 → ¬ x5 < nI 0 → (∀ M2, plX 33 (slR g m x y w h) m M2 → M2 33 0 = nI (wsN g (slR g m x y w h) m) → frX 33 M1 M2 → (B ≤ cst g m pr d Gp bx (slR g m x y w h) → wX4_layAs_45 Q n M2 x4 x5 (nI B) (nI 1)) ∧ (¬ B ≤ cst g m pr d Gp bx (slR g m x y w h) → wX4_layAs_45 Q n M2 (nI 0) x5 (nI (cst g m pr d Gp bx (slR g m x y w h))) (nI 1))) → wX4_layAs_45 Q (n + 1) M1 x4 x5 (nI B) (nI 0) := by
    intro n M1 x4 x5 B hf hB hx5 hk
    have hi1 : inX m g x y w h M1 := hi.cg (hf 28 (by omega)) (hf 30 (by omega)) (hf 31 (by omega))
    rw [wX4_layAs_45]
    simp only [hx5, n1, n2, false_implies, true_implies, not_false_eq_true, true_and, and_true]
    rw [show (0 : Int32) = nI 0 from rfl, ex_nI (show 0 < 3 by omega) (by omega)]
    refine sliceX (by unfold iX5; omega) hi1 (fun M2 p1 p2 p3 => ?_)
    have f2 : frA M M2 := fun q q1 => by rw [p3 q (by omega) (by omega)]; exact hf q q1
    exact l114 (hi1.fr (by unfold iX5; omega) p3) (hl.fr f2) (by omega) p1 p2 (bd (fun _ => false) 0) hB (hk M2 p1 p2 p3).1 (hk M2 p1 p2 p3).2
  have r1 : ∀ n M1 (x4 x5 : Int32) B, frA M M1 → B ≤ 2147483647 → ¬ x5 < nI 1 → (∀ M2 β, bestB g m w h β → plX 40 (roR g β m x y w h) m M2 → M2 40 0 = nI (wsN g (roR g β m x y w h) m) → frX 40 M1 M2 → (B ≤ cst g m pr d Gp bx (roR g β m x y w h) → wX4_layAs_45 Q n M2 x4 x5 (nI B) (nI 2)) ∧ (¬ B ≤ cst g m pr d Gp bx (roR g β m x y w h) → wX4_layAs_45 Q n M2 (nI 1) x5 (nI (cst g m pr d Gp bx (roR g β m x y w h))) (nI 2))) → wX4_layAs_45 Q (n + 1) M1 x4 x5 (nI B) (nI 1) := by
    intro n M1 x4 x5 B hf hB hx5 hk
    have hi1 : inX m g x y w h M1 := hi.cg (hf 28 (by omega)) (hf 30 (by omega)) (hf 31 (by omega))
    rw [wX4_layAs_45]
    rw [n4] at hx5
    simp only [hx5, n4, false_implies, true_implies, not_false_eq_true, not_true_eq_false, true_and, and_true]
    rw [show (1 : Int32) = nI 1 from rfl]
    refine rowsX rfl hi1 (fun M2 β hb p1 p2 p3 => ?_)
    have f2 : frA M M2 := fun q q1 => by rw [p3 q (by omega) (by omega)]; exact hf q q1
    exact l114 (k := 1) (hi1.fr (by unfold iX5; omega) p3) (hl.fr f2) (by omega) p1 p2 (bd β 1) hB (hk M2 β hb p1 p2 p3).1 (hk M2 β hb p1 p2 p3).2
  have r2 : ∀ n M1 (x4 x5 : Int32) B, frA M M1 → B ≤ 2147483647 → ¬ x5 < nI 2 → (∀ M2, plX 47 (cuR g 9 0 m x y w h) m M2 → M2 47 0 = nI (wsN g (cuR g 9 0 m x y w h) m) → frX 47 M1 M2 → (B ≤ cst g m pr d Gp bx (cuR g 9 0 m x y w h) → wX4_layAs_45 Q n M2 x4 x5 (nI B) (nI 3)) ∧ (¬ B ≤ cst g m pr d Gp bx (cuR g 9 0 m x y w h) → wX4_layAs_45 Q n M2 (nI 2) x5 (nI (cst g m pr d Gp bx (cuR g 9 0 m x y w h))) (nI 3))) → wX4_layAs_45 Q (n + 1) M1 x4 x5 (nI B) (nI 2) := by
    intro n M1 x4 x5 B hf hB hx5 hk
    have hi1 : inX m g x y w h M1 := hi.cg (hf 28 (by omega)) (hf 30 (by omega)) (hf 31 (by omega))
    rw [wX4_layAs_45]
    simp only [hx5, n3, eq_self, false_implies, true_implies, not_false_eq_true, not_true_eq_false, true_and, and_true]
    refine cutsX rfl hi1 (fun M2 p1 p2 p3 => ?_)
    have f2 : frA M M2 := fun q q1 => by rw [p3 q (by omega) (by omega)]; exact hf q q1
    exact l114 (k := 2) (hi1.fr (by unfold iX5; omega) p3) (hl.fr f2) (by omega) p1 p2 (bd (fun _ => false) 2) hB (hk M2 p1 p2 p3).1 (hk M2 p1 p2 p3).2
  have stop : ∀ n M1 (x4 x6 : Int32) a b, a < b → b < 10 → Q x4 M1 → wX4_layAs_45 Q (n + 1) M1 x4 (nI a) x6 (nI b) := by
    intro n M1 x4 x6 a b hab hb hQ
    rw [wX4_layAs_45]
    have : nI a < nI b := nI_lt hab (by omega)
    exact ⟨fun _ => hQ, fun h => absurd this h⟩
  have f0 : frA M M := fun _ _ => rfl
  have fx : ∀ {p M1 M2}, iX5 p → frA M M1 → frX p M1 M2 → frA M M2 := by
    intro p M1 M2 hp h1 h2 q q1
    have hp2 : 33 ≤ p ∧ p ≤ 47 := by unfold iX5 at hp; omega
    rw [h2 q (by omega) (by omega)]; exact h1 q q1
  have i33 : iX5 33 := by unfold iX5; omega
  have i40 : iX5 40 := by unfold iX5; omega
  have i47 : iX5 47 := by unfold iX5; omega
  unfold wX4_layAs wX4_layAs_9 wX4_layAs_14 wX4_layAs_24
  have hneg : ¬ nI how < 0 := nI_pos (by omega)
  simp only [hneg, false_implies, true_implies, not_false_eq_true, true_and, eq_self, not_true_eq_false, and_true, i10]
  rw [nI_leI (by omega) (by omega)]
  refine ⟨fun h2 => ?_, fun h2 => ?_⟩
  · refine ⟨2, ?_⟩
    rcases (show how = 0 ∨ how = 1 ∨ how = 2 by omega) with e | e | e
    · subst e
      refine r0 1 M _ _ 2147483647 f0 (Nat.le_refl _) (nI_nlt (Nat.le_refl _) (by omega)) (fun M2 p1 p2 p3 => ?_)
      have fin : Q (nI 0) M2 := hq M2 (fun _ => false) 0 (fun q => by omega) (by omega) rfl p1 p2 (fx i33 f0 p3)
      exact ⟨fun _ => stop _ _ _ _ 0 1 (by omega) (by omega) fin, fun _ => stop _ _ _ _ 0 1 (by omega) (by omega) fin⟩
    · subst e
      refine r1 1 M _ _ 2147483647 f0 (Nat.le_refl _) (nI_nlt (Nat.le_refl _) (by omega)) (fun M2 β hb p1 p2 p3 => ?_)
      have fin : Q (nI 1) M2 := hq M2 β 1 (fun _ => hb) (by omega) rfl p1 p2 (fx i40 f0 p3)
      exact ⟨fun _ => stop _ _ _ _ 1 2 (by omega) (by omega) fin, fun _ => stop _ _ _ _ 1 2 (by omega) (by omega) fin⟩
    · subst e
      refine r2 1 M _ _ 2147483647 f0 (Nat.le_refl _) (nI_nlt (Nat.le_refl _) (by omega)) (fun M2 p1 p2 p3 => ?_)
      have fin : Q (nI 2) M2 := hq M2 (fun _ => false) 2 (fun q => by omega) (by omega) rfl p1 p2 (fx i47 f0 p3)
      exact ⟨fun _ => stop _ _ _ _ 2 3 (by omega) (by omega) fin, fun _ => stop _ _ _ _ 2 3 (by omega) (by omega) fin⟩
  · have h3 : how = 3 := by omega
    subst h3
    refine ⟨4, ?_⟩
    refine r0 3 M _ _ 2147483647 f0 (Nat.le_refl _) (by decide) (fun M1 a1 a2 a3 => ?_)
    have c0 := cb (fun _ => false) 0
    rw [RR_0] at c0
    refine ⟨fun hle => absurd hle (by omega), fun _ => ?_⟩
    refine r1 2 M1 _ _ _ (fx i33 f0 a3) (by omega) (by decide) (fun M2 β hb b1 b2 b3 => ?_)
    have c1 := cb β 1
    rw [RR_1] at c1
    have last : ∀ l B, (l = if cst g m pr d Gp bx (roR g β m x y w h) < cst g m pr d Gp bx (slR g m x y w h) then 1 else 0) → (B = if cst g m pr d Gp bx (roR g β m x y w h) < cst g m pr d Gp bx (slR g m x y w h) then cst g m pr d Gp bx (roR g β m x y w h) else cst g m pr d Gp bx (slR g m x y w h)) → wX4_layAs_45 Q 2 M2 (nI l) (nI 2) (nI B) (nI 2) := by
      intro l B hl1 hB1
      have hBB : B ≤ 2147483647 := by rw [hB1]; split <;> omega
      refine r2 1 M2 _ _ B (fx i40 (fx i33 f0 a3) b3) hBB (by decide) (fun M3 e1 e2 e3 => ?_)
      have f3 : frA M M3 := fx i47 (fx i40 (fx i33 f0 a3) b3) e3
      have s33 : ∀ q, 33 ≤ q → q < 33 + 6 → M3 q = M1 q := fun q q1 q2 => by rw [e3 q (by omega) (by omega), b3 q (by omega) (by omega)]
      have s40 : ∀ q, 40 ≤ q → q < 40 + 6 → M3 q = M2 q := fun q q1 q2 => e3 q (by omega) (by omega)
      have x0 : (33 + 7 * 0 : Nat) = 33 := rfl
      have fin : ∀ k, k = pik 3 (cst g m pr d Gp bx (RR g m x y w h β 0)) (cst g m pr d Gp bx (RR g m x y w h β 1)) (cst g m pr d Gp bx (RR g m x y w h β 2)) → k ≤ 2 → Q (nI k) M3 := by
        intro k hk hk2
        refine hq M3 β k (fun _ => hb) hk2 hk ?_ ?_ f3
        · rcases (show k = 0 ∨ k = 1 ∨ k = 2 by omega) with e | e | e
          · subst e; exact a1.cg s33
          · subst e; exact b1.cg s40
          · subst e; exact e1
        · rcases (show k = 0 ∨ k = 1 ∨ k = 2 by omega) with e | e | e
          · subst e
            show M3 33 0 = _
            rw [s33 33 (by omega) (by omega)]; exact a2
          · subst e
            show M3 40 0 = _
            rw [s40 40 (by omega) (by omega)]; exact b2
          · subst e; exact e2
      have pk : pik 3 (cst g m pr d Gp bx (RR g m x y w h β 0)) (cst g m pr d Gp bx (RR g m x y w h β 1)) (cst g m pr d Gp bx (RR g m x y w h β 2)) = if cst g m pr d Gp bx (cuR g 9 0 m x y w h) < B then 2 else l := by
        unfold pik bst3
        rw [if_neg (by omega), RR_0, RR_1, RR_2, hl1, hB1]
        by_cases z : cst g m pr d Gp bx (roR g β m x y w h) < cst g m pr d Gp bx (slR g m x y w h)
        · rw [if_pos z, if_pos z, if_pos z]
        · rw [if_neg z, if_neg z, if_neg z]
      have l2 : l ≤ 2 := by rw [hl1]; split <;> omega
      refine ⟨fun hle => stop _ _ _ _ 2 3 (by omega) (by omega) (fin l ?_ l2), fun hgt => stop _ _ _ _ 2 3 (by omega) (by omega) (fin 2 ?_ (by omega))⟩
      · rw [pk, if_neg (by omega)]
      · rw [pk, if_pos (by omega)]
    refine ⟨fun hle => last 0 _ ?_ ?_, fun hgt => last 1 _ ?_ ?_⟩
    · rw [if_neg (by omega)]
    · rw [if_neg (by omega)]
    · rw [if_pos (by omega)]
    · rw [if_pos (by omega)]
/-- the reference's lays -/
theorem laysZ {M : sy_M} {m x y w h k : Nat} {g : Nat → Nat} {β : Nat → Bool} {Q : sy_M → Prop} (hi : inZ m g M) (hxw : x + w ≤ 3000) (hyh : y + h ≤ 3000) (hk : k ≤ 2) (hb : ahd g m ≠ 0 → k = 1 → bestB g m w h β)
    (hq : ∀ M', plZ (PK g m x y w h β k) m M' → frZ M M' → Q M') : wX12_lays M (nI k) (nI x) (nI y) (nI w) (nI h) Q := by
  obtain ⟨hm1, i1, i6, i7⟩ := id hi
  have hm8 := i7.1
  have h4 := i7.2.1
  unfold wX12_lays
  rw [i1, show (0 : Int32) = nI 0 from rfl, sumZ i7 (by omega) (Nat.le_refl _), show ahd g 0 = 0 from rfl, Nat.sub_zero, nI_eq (by omega) (by omega), nI_eq (by omega) (by omega), show (1 : Int32) = nI 1 from rfl, nI_eq (by omega) (by omega)]
  unfold PK at hq
  refine ⟨fun hz => ?_, fun hz => ?_⟩
  · rw [if_neg hz] at hq
    refine ⟨fun k0 => ⟨fun k1 => ?_, fun k1 => ?_⟩, fun k0 => ?_⟩
    · rw [i1]
      refine laysCutsZ 9 0 m x y w h M _ hi (by omega) (Nat.le_refl _) (by omega) (by omega) (by omega) (fun M1 p1 => hq M1 (fun i hi => ?_) (fun q q1 q2 q3 q4 q5 q6 => p1.2.2 q q1 q2 q3 q4))
      have := p1.1 i (by omega) hi
      rw [show k = 2 by omega, RR_2]
      exact this
    · subst k1
      refine breaksZ hi hxw hyh (fun M1 b b1 b2 b3 => ?_)
      have hs := rows_same hm1 hm8 (hb hz rfl) b1 b2
      have hpw := pow_le m hm8
      refine laysRowsZ (hi.fr b3) (by omega) hxw hyh (fun M2 p1 p2 => hq M2 (fun i hi => ?_) (fun q q1 q2 q3 q4 q5 q6 => by rw [p2 q q1 q2 q3 q4 q5 q6]; exact b3 q q1 q2 q3 q4 q5 q6))
      have := p1 i hi
      rw [roR_cg hs hi, roR_cg hs hi, roR_cg hs hi, roR_cg hs hi] at this
      exact this
    · subst k0
      exact sliceZ hi hxw hyh hq
  · rw [if_pos hz] at hq
    exact nothingZ hi hq
