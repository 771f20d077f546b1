/-! best: the layings, what they move and cost -/
def RR (g : Nat → Nat) (m x y w h : Nat) (β : Nat → Bool) (k : Nat) : Nat → Nat → Nat := if k = 0 then slR g m x y w h else if k = 1 then roR g β m x y w h else cuR g 9 0 m x y w h
theorem RR_bd (g : Nat → Nat) {m x y w h : Nat} (β : Nat → Bool) (k i : Nat) (hm : 0 < m) (hm8 : m ≤ 8) (hi : i < m) : RR g m x y w h β k 0 i + RR g m x y w h β k 2 i ≤ x + w ∧ RR g m x y w h β k 1 i + RR g m x y w h β k 3 i ≤ y + h := by
  unfold RR
  by_cases k0 : k = 0
  · rw [if_pos k0]
    have a1 := bg_mono g w 0 m (show i ≤ i + 1 by omega)
    have a2 := bg_le g (i + 1) w 0 m
    have a3 := bg_mono g h 0 m (show i ≤ i + 1 by omega)
    have a4 := bg_le g (i + 1) h 0 m
    unfold slR
    by_cases c : h ≤ w
    · simp only [if_pos c]
      constructor
      · show x + bg g i w 0 m + (bg g (i + 1) w 0 m - bg g i w 0 m) ≤ x + w
        omega
      · show y + h ≤ y + h
        omega
    · simp only [if_neg c]
      constructor
      · show x + w ≤ x + w
        omega
      · show y + bg g i h 0 m + (bg g (i + 1) h 0 m - bg g i h 0 m) ≤ y + h
        omega
  · rw [if_neg k0]
    by_cases k1 : k = 1
    · rw [if_pos k1]
      have a1 := bg_mono g w (rf β i) (re β m i) (show i ≤ i + 1 by omega)
      have a2 := bg_le g (i + 1) w (rf β i) (re β m i)
      have a4 := bg_le g (re β m i) h 0 m
      have hb := re_b β hi
      have hr : rf β i ≤ i := by
        clear a1 a2 a4 hb hi
        induction i with
        | zero => exact Nat.le_refl _
        | succ i ih => rw [rf]; split <;> omega
      have a3 := bg_mono g h 0 m (show rf β i ≤ re β m i by omega)
      constructor
      · show x + bg g i w (rf β i) (re β m i) + (bg g (i + 1) w (rf β i) (re β m i) - bg g i w (rf β i) (re β m i)) ≤ x + w
        omega
      · show y + bg g (rf β i) h 0 m + (bg g (re β m i) h 0 m - bg g (rf β i) h 0 m) ≤ y + h
        omega
    · rw [if_neg k1]
      exact cuR_bd g 9 0 m x y w h i hm (by omega)
def PK (g : Nat → Nat) (m x y w h : Nat) (β : Nat → Bool) (k : Nat) : Nat → Nat → Nat := if ahd g m = 0 then noR x y else RR g m x y w h β k
theorem PK_bd (g : Nat → Nat) {m x y w h : Nat} (β : Nat → Bool) (k i : Nat) (hm : 0 < m) (hm8 : m ≤ 8) (hi : i < m) : PK g m x y w h β k 0 i + PK g m x y w h β k 2 i ≤ x + w ∧ PK g m x y w h β k 1 i + PK g m x y w h β k 3 i ≤ y + h := by
  unfold PK
  by_cases c : ahd g m = 0
  · rw [if_pos c]
    constructor
    · show x + 0 ≤ x + w
      omega
    · show y + 0 ≤ y + h
      omega
  · rw [if_neg c]
    exact RR_bd g β k i hm hm8 hi
/-- moves against the drawing before: d drawings were before, Gp the latest of them -/
def mvN (d : Nat) (Gp : Nat → Nat → Nat) (bx : Nat → Nat) (P : Nat → Nat → Nat) : Nat → Nat
  | 0 => 0
  | i + 1 => mvN d Gp bx P i + (if d = 0 ∨ bx i = 0 ∨ Gp 0 (bx i - 1) = 0 then 0 else mvd (P 0 i) (P 1 i) (P 2 i) (P 3 i) (Gp 1 (bx i - 1)) (Gp 2 (bx i - 1)) (Gp 3 (bx i - 1)) (Gp 4 (bx i - 1)))
theorem mvd_le {x y w h x2 y2 w2 h2 : Nat} (b1 : x + w ≤ 3000) (b2 : y + h ≤ 3000) (b3 : x2 + w2 ≤ 3000) (b4 : y2 + h2 ≤ 3000) : mvd x y w h x2 y2 w2 h2 ≤ 12000 := by
  unfold mvd absd
  omega
def gB (nb : Nat) (G : Nat → Nat → Nat) : Prop := ∀ b, b < nb → G 0 b ≤ 1 ∧ G 5 b ≤ 40000000 ∧ (G 0 b = 1 → G 1 b + G 3 b ≤ 3000 ∧ G 2 b + G 4 b ≤ 3000)
def gX (rx nb : Nat) (G : Nat → Nat → Nat) (A : sy_M) : Prop := ∀ b, b < nb → A 17 (rx * 40 + b) = nI (G 0 b) ∧ A 16 (rx * 40 + b) = nI (G 5 b) ∧ (G 0 b = 1 → A 12 (rx * 40 + b) = nI (G 1 b) ∧ A 13 (rx * 40 + b) = nI (G 2 b) ∧ A 14 (rx * 40 + b) = nI (G 3 b) ∧ A 15 (rx * 40 + b) = nI (G 4 b))
def gZ (rz nb : Nat) (G : Nat → Nat → Nat) (B : sy_M) : Prop := ∀ b, b < nb → B 26 (41 * rz + b) = nI (G 0 b) ∧ B 31 (41 * rz + b) = nI (G 5 b) ∧ (G 0 b = 1 → B 27 (41 * rz + b) = nI (G 1 b) ∧ B 28 (41 * rz + b) = nI (G 2 b) ∧ B 29 (41 * rz + b) = nI (G 3 b) ∧ B 30 (41 * rz + b) = nI (G 4 b))
theorem rlG_iff {rx rz nb : Nat} {G : Nat → Nat → Nat} {A B : sy_M} : rlG rx rz nb G A B ↔ gX rx nb G A ∧ gZ rz nb G B ∧ gB nb G := by
  constructor
  · intro h
    refine ⟨fun b hb => ?_, fun b hb => ?_, fun b hb => ?_⟩
    · obtain ⟨⟨a1, a2, a3⟩, ⟨a4, a5, a6⟩, a7⟩ := h b hb
      exact ⟨a2, a5, fun q => ⟨(a7 q).1.1, (a7 q).2.1.1, (a7 q).2.2.1.1, (a7 q).2.2.2.1.1⟩⟩
    · obtain ⟨⟨a1, a2, a3⟩, ⟨a4, a5, a6⟩, a7⟩ := h b hb
      exact ⟨a3, a6, fun q => ⟨(a7 q).1.2, (a7 q).2.1.2, (a7 q).2.2.1.2, (a7 q).2.2.2.1.2⟩⟩
    · obtain ⟨⟨a1, a2, a3⟩, ⟨a4, a5, a6⟩, a7⟩ := h b hb
      exact ⟨a1, a4, fun q => (a7 q).2.2.2.2⟩
  · intro ⟨h1, h2, h3⟩ b hb
    obtain ⟨a1, a2, a3⟩ := h1 b hb
    obtain ⟨b1, b2, b3⟩ := h2 b hb
    obtain ⟨c1, c2, c3⟩ := h3 b hb
    exact ⟨⟨c1, a1, b1⟩, ⟨c2, a2, b2⟩, fun q => ⟨⟨(a3 q).1, (b3 q).1⟩, ⟨(a3 q).2.1, (b3 q).2.1⟩, ⟨(a3 q).2.2.1, (b3 q).2.2.1⟩, ⟨(a3 q).2.2.2, (b3 q).2.2.2⟩, c3 q⟩⟩
def prX (d nb : Nat) (Gp : Nat → Nat → Nat) (M : sy_M) : Prop := d < 2 ^ 20 - 1 ∧ nb ≤ 40 ∧ gB nb Gp ∧ M 9 0 = nI (d + 1) ∧ (0 < d → gX ((d - 1) % 50) nb Gp M)
def prZ (d nb : Nat) (Gp : Nat → Nat → Nat) (M : sy_M) : Prop := d < 2 ^ 20 - 1 ∧ nb ≤ 40 ∧ gB nb Gp ∧ M 0 40 = nI d ∧ (0 < d → gZ ((d - 1) % 51) nb Gp M)
theorem movesX {M : sy_M} {p m d nb : Nat} {Gp : Nat → Nat → Nat} {bx : Nat → Nat} {P : Nat → Nat → Nat} {Q : Int32 → sy_M → Prop} (hp : iX5 p) (hm8 : m ≤ 8) (h28 : M 28 0 = nI m) (hbx : ∀ i, i < m → bx i ≤ nb ∧ M 29 i = pm (bx i)) (hpr : prX d nb Gp M) (hpl : plX p P m M) (hP : ∀ i, i < m → P 0 i + P 2 i ≤ 3000 ∧ P 1 i + P 3 i ≤ 3000) (hq : Q (nI (mvN d Gp bx P m)) M) : wX4_movesOf M (p + 1) Q := by
  obtain ⟨hd, hnb, hgB, h9, hprev⟩ := hpr
  have z0 : d = 0 → ∀ i, mvN d Gp bx P i = 0 := by
    intro hd0 i
    induction i with
    | zero => rfl
    | succ i ih => rw [mvN, ih, if_pos (Or.inl hd0)]
  have key : ∀ r i, i + r = m → wX4_movesOf_5 Q (r + 1) M (p + 1) (nI (mvN d Gp bx P i)) (nI i) := by
    intro r
    induction r with
    | zero =>
      intro i hi
      have : i = m := by omega
      subst this
      rw [wX4_movesOf_5, h28]
      have : nI i ≤ nI i := nI_le (Nat.le_refl _) (by omega)
      exact ⟨fun _ => hq, fun h => absurd this h⟩
    | succ r ih =>
      intro i hi
      rw [wX4_movesOf_5, h28, h9]
      have e1 : ¬ nI m ≤ nI i := nI_ge (by omega) (by omega)
      simp only [e1, false_implies, true_implies, not_false_eq_true, true_and]
      by_cases hd0 : d = 0
      · have : nI (d + 1) ≤ 1 := by rw [hd0]; decide
        refine ⟨fun _ => ?_, fun h => absurd this h⟩
        rw [z0 hd0] at hq ⊢
        exact hq
      · have e2 : ¬ nI (d + 1) ≤ 1 := show ¬ nI (d + 1) ≤ nI 1 from nI_ge (by omega) (by omega)
        simp only [e2, false_implies, true_implies, not_false_eq_true, true_and]
        obtain ⟨b1, b2⟩ := hbx i (by omega)
        rw [ex_nI (show i < 8 by omega) (by omega), b2, pm_m1 (by omega), nI_1]
        have hn := ih (i + 1) (by omega)
        rw [mvN] at hn
        refine ⟨fun hb0 => ?_, fun hb0 => ?_⟩
        · obtain ⟨c, hc⟩ : ∃ c, bx i = c + 1 := ⟨bx i - 1, by omega⟩
          rw [hc] at hn
          rw [hc, pm_s, show nI (d + 1) - nI 2 = nI (d - 1) by rw [pk_sub (by omega)]; congr 1, cell_y (by omega)]
          have md : (d - 1) % 50 < 50 := Nat.mod_lt _ (by omega)
          have hcn : c < nb := by omega
          obtain ⟨g1, g2, g3⟩ := hprev (by omega) c hcn
          obtain ⟨k1, k2, k3⟩ := hgB c hcn
          rw [ex_nI (show (d - 1) % 50 * 40 + c < 2000 by omega) (by omega), g1, nI_0i (by omega)]
          rw [Nat.add_sub_cancel] at hn
          refine ⟨fun hs => ?_, fun hs => ?_⟩
          · rw [if_pos (by omega), Nat.add_zero] at hn
            exact hn
          · rw [if_neg (by omega)] at hn
            obtain ⟨q1, q2, q3, q4⟩ := g3 (by omega)
            obtain ⟨k4, k5⟩ := k3 (by omega)
            obtain ⟨p1, p2, p3, p4⟩ := hpl i (by omega)
            rw [distX (by rw [lX7_p hp]; omega) (show (d - 1) % 50 * 40 + c < lX7 11 by show _ < 2000; omega) (hP i (by omega)).1 (hP i (by omega)).2 k4 k5 p1 p2 p3 p4 q1 q2 q3 q4, nI_add]
            exact hn
        · rw [if_pos (Or.inr (Or.inl hb0)), Nat.add_zero] at hn
          exact hn
  exact ⟨m + 1, key m 0 (by omega)⟩
theorem movesZ {M : sy_M} {m d nb : Nat} {Gp : Nat → Nat → Nat} {bx : Nat → Nat} {P : Nat → Nat → Nat} {Q : Int32 → sy_M → Prop} (hm8 : m ≤ 8) (h30 : M 0 30 = nI m) (hbx : ∀ i, i < m → bx i ≤ nb ∧ M 16 i = pm (bx i)) (hpr : prZ d nb Gp M) (hpl : plZ P m M) (hP : ∀ i, i < m → P 0 i + P 2 i ≤ 3000 ∧ P 1 i + P 3 i ≤ 3000) (hq : Q (nI (mvN d Gp bx P m)) M) : wX12_moves M Q := by
  obtain ⟨hd, hnb, hgB, h9, hprev⟩ := hpr
  have z0 : d = 0 → ∀ i, mvN d Gp bx P i = 0 := by
    intro hd0 i
    induction i with
    | zero => rfl
    | succ i ih => rw [mvN, ih, if_pos (Or.inl hd0)]
  have key : ∀ r i, i + r = m → wX12_moves_4 Q (r + 1) M (nI (mvN d Gp bx P i)) (nI i) := by
    intro r
    induction r with
    | zero =>
      intro i hi
      have : i = m := by omega
      subst this
      rw [wX12_moves_4, h30]
      have : nI i ≤ nI i := nI_le (Nat.le_refl _) (by omega)
      exact ⟨fun _ => hq, fun h => absurd this h⟩
    | succ r ih =>
      intro i hi
      rw [wX12_moves_4, h30, h9]
      have e1 : ¬ nI m ≤ nI i := nI_ge (by omega) (by omega)
      simp only [e1, false_implies, true_implies, not_false_eq_true, true_and]
      by_cases hd0 : d = 0
      · have : nI d ≤ 0 := by rw [hd0]; decide
        refine ⟨fun _ => ?_, fun h => absurd this h⟩
        rw [z0 hd0] at hq ⊢
        exact hq
      · have e2 : ¬ nI d ≤ 0 := nI_nle (by omega) (by omega)
        simp only [e2, false_implies, true_implies, not_false_eq_true, true_and]
        obtain ⟨b1, b2⟩ := hbx i (by omega)
        rw [nI_m1 (by omega), rowOf_y (by omega), ex_nI (show i < 9 by omega) (by omega), b2, pm_m1 (by omega), nI_1]
        have hn := ih (i + 1) (by omega)
        rw [mvN] at hn
        refine ⟨fun hb0 => ?_, fun hb0 => ?_⟩
        · rw [if_pos (Or.inr (Or.inl hb0)), Nat.add_zero] at hn
          exact hn
        · obtain ⟨c, hc⟩ : ∃ c, bx i = c + 1 := ⟨bx i - 1, by omega⟩
          rw [hc] at hn
          have md : (d - 1) % 51 < 51 := Nat.mod_lt _ (by omega)
          have hcn : c < nb := by omega
          obtain ⟨g1, g2, g3⟩ := hprev (by omega) c hcn
          obtain ⟨k1, k2, k3⟩ := hgB c hcn
          rw [hc, pm_s, nI_add, ex_nI (show 41 * ((d - 1) % 51) + c < 2091 by omega) (by omega), g1, nI_0i (by omega)]
          rw [Nat.add_sub_cancel] at hn
          refine ⟨fun hs => ?_, fun hs => ?_⟩
          · rw [if_pos (by omega), Nat.add_zero] at hn
            exact hn
          · rw [if_neg (by omega)] at hn
            obtain ⟨q1, q2, q3, q4⟩ := g3 (by omega)
            obtain ⟨k4, k5⟩ := k3 (by omega)
            obtain ⟨p1, p2, p3, p4⟩ := hpl i (by omega)
            rw [p1, p2, p3, p4, farZ (by omega) (hP i (by omega)).1 (hP i (by omega)).2 k4 k5 q1 q2 q3 q4, nI_add]
            exact hn
  exact ⟨m + 1, key m 0 (by omega)⟩
theorem mvN_le {d nb : Nat} {Gp : Nat → Nat → Nat} {bx : Nat → Nat} {P : Nat → Nat → Nat} {m : Nat} (hgB : gB nb Gp) (hbx : ∀ i, i < m → bx i ≤ nb) (hP : ∀ i, i < m → P 0 i + P 2 i ≤ 3000 ∧ P 1 i + P 3 i ≤ 3000) : ∀ i, i ≤ m → mvN d Gp bx P i ≤ i * 12000
  | 0, _ => Nat.le_refl _
  | i + 1, hi => by
    have ih := mvN_le (d := d) hgB hbx hP i (by omega)
    have hb := hbx i (by omega)
    rw [mvN, Nat.succ_mul]
    by_cases c : d = 0 ∨ bx i = 0 ∨ Gp 0 (bx i - 1) = 0
    · rw [if_pos c]
      exact Nat.add_le_add ih (Nat.zero_le _)
    · rw [if_neg c]
      obtain ⟨k1, k2, k3⟩ := hgB (bx i - 1) (by omega)
      obtain ⟨k4, k5⟩ := k3 (by omega)
      exact Nat.add_le_add ih (mvd_le (hP i (by omega)).1 (hP i (by omega)).2 k4 k5)
def cst (g : Nat → Nat) (m pr d : Nat) (Gp : Nat → Nat → Nat) (bx : Nat → Nat) (P : Nat → Nat → Nat) : Nat := wsN g P m + pr * mvN d Gp bx P m / 100
def bst3 (c0 c1 c2 : Nat) : Nat := if c1 < c0 then (if c2 < c1 then 2 else 1) else (if c2 < c0 then 2 else 0)
def pik (how c0 c1 c2 : Nat) : Nat := if how ≤ 2 then how else bst3 c0 c1 c2
theorem cst_nI {g : Nat → Nat} {m pr d nb : Nat} {Gp : Nat → Nat → Nat} {bx : Nat → Nat} {P : Nat → Nat → Nat} (hm8 : m ≤ 8) (hpr : pr ≤ 1000) (hgB : gB nb Gp) (hbx : ∀ i, i < m → bx i ≤ nb) (hP : ∀ i, i < m → P 0 i + P 2 i ≤ 3000 ∧ P 1 i + P 3 i ≤ 3000) : nI (wsN g P m) + (nI pr * nI (mvN d Gp bx P m)) / nI 100 = nI (cst g m pr d Gp bx P) ∧ cst g m pr d Gp bx P < 2147483647 := by
  have h1 := mvN_le (d := d) hgB hbx hP m (Nat.le_refl _)
  have h2 : pr * mvN d Gp bx P m ≤ 1000 * 96000 := Nat.mul_le_mul hpr (by omega)
  have h3 := wsN_le (g := g) (r := P) m (fun i hi => ⟨by have := (hP i hi).1; omega, by have := (hP i hi).2; omega⟩)
  unfold cst
  rw [pk_mul, pk_div (by omega) (by omega) (by omega), nI_add]
  exact ⟨rfl, by omega⟩
