/-! reading a TEXT, by numbers. A state s: rows 0 to 6 as T, row 10 + k the letters k, row 20: 0 the place, 1 what is due, 2 the group within + 1, 3 the boxes -/
def wcN (w k : Nat) : Nat := ((sy_byt.getD w []).getD k 0).toBitVec.toNat
theorem wcN_c : ∀ w, w < 5 → ∀ k, k < sy_len.getD w 0 → (sy_byt.getD w []).getD k 0 = nI (wcN w k) ∧ wcN w k < 128 := by decide +kernel
theorem sy_len6 : ∀ w, w < 5 → sy_len.getD w 0 ≤ 6 ∧ 1 ≤ sy_len.getD w 0 := by decide +kernel
def wdB (bt : Nat → Nat) (n w f : Nat) : Bool := decide (kcT bt n f = 98) && (decide (ttT bt n f - f = sy_len.getD w 0) && decide (∀ k, k < sy_len.getD w 0 → bt (f + k) = wcN w k))
def hwT (bt : Nat → Nat) (n f : Nat) : Nat := if wdB bt n 1 f = true then 1 else if wdB bt n 2 f = true then 2 else if wdB bt n 3 f = true then 3 else if wdB bt n 4 f = true then 4 else 0
def knT (bt : Nat → Nat) (n f : Nat) (s : Nat → Nat → Nat) : Prop := ∃ b, b < s 20 3 ∧ s 5 b = ttT bt n f - f ∧ ∀ k, k < ttT bt n f - f → s (10 + k) b = bt (f + k)
theorem knT_em (bt : Nat → Nat) (n f : Nat) (s : Nat → Nat → Nat) : knT bt n f s ∨ ¬ knT bt n f s := Classical.em _
def nmT (bt : Nat → Nat) (n f : Nat) : Prop := kcT bt n f = 98 ∧ ttT bt n f - f ≤ 8 ∧ wdB bt n 0 f = false ∧ hwT bt n f = 0
def su (s : Nat → Nat → Nat) (q c v : Nat) : Nat → Nat → Nat := fun q' c' => if q' = q ∧ c' = c then v else s q' c'
theorem su_e (s : Nat → Nat → Nat) (q c v : Nat) : su s q c v q c = v := by unfold su; rw [if_pos ⟨rfl, rfl⟩]
theorem su_1 {s : Nat → Nat → Nat} {q c v q' c' : Nat} (h : q' ≠ q) : su s q c v q' c' = s q' c' := by unfold su; rw [if_neg (fun z => h z.1)]
theorem su_2 {s : Nat → Nat → Nat} {q c v q' c' : Nat} (h : c' ≠ c) : su s q c v q' c' = s q' c' := by unfold su; rw [if_neg (fun z => h z.2)]
def adS (bt : Nat → Nat) (f len : Nat) (s : Nat → Nat → Nat) : Nat → Nat → Nat := fun q c =>
  if c = s 20 3 ∧ q ≤ 6 then (if q = 0 then s 20 2 else if q = 3 then (if s 20 2 = 0 then 0 else s 3 (s 20 2 - 1) + 1) else if q = 5 then len else 0)
  else if c = s 20 3 ∧ 10 ≤ q ∧ q < 18 then bt (f + (q - 10)) else if q = 2 ∧ c + 1 = s 20 2 then s 2 c + 1 else s q c
/-- one token taken: r is what comes of it (0: on, 1 to 3: a fault, 4: over), s' the state then -/
def stT (bt : Nat → Nat) (n : Nat) (s : Nat → Nat → Nat) (r : Nat) (s' : Nat → Nat → Nat) : Prop :=
  let f := tfT bt n (s 20 0)
  let t := ttT bt n f
  (s 20 1 = 0 ∧ ((¬ nmT bt n f ∧ r = 1 ∧ s' = s) ∨ (nmT bt n f ∧ (40 ≤ s 20 3 ∨ (s 20 2 ≠ 0 ∧ 8 ≤ s 2 (s 20 2 - 1))) ∧ r = 2 ∧ s' = s) ∨ (nmT bt n f ∧ ¬ (40 ≤ s 20 3 ∨ (s 20 2 ≠ 0 ∧ 8 ≤ s 2 (s 20 2 - 1))) ∧ knT bt n f s ∧ r = 3 ∧ s' = s) ∨
      (nmT bt n f ∧ ¬ (40 ≤ s 20 3 ∨ (s 20 2 ≠ 0 ∧ 8 ≤ s 2 (s 20 2 - 1))) ∧ ¬ knT bt n f s ∧ r = 0 ∧ s' = su (su (su (adS bt f (t - f) s) 20 0 t) 20 1 1) 20 3 (s 20 3 + 1)))) ∨
  (s 20 1 = 1 ∧ ((kcT bt n f = 49 ∧ s 20 2 ≠ 0 ∧ ((6 < t - f ∧ r = 1 ∧ s' = s) ∨ (t - f ≤ 6 ∧ r = 0 ∧ s' = su (su (su s 4 (s 20 3 - 1) (nuT bt f (t - f))) 20 0 t) 20 1 4))) ∨
      (¬ (kcT bt n f = 49 ∧ s 20 2 ≠ 0) ∧ ((hwT bt n f = 0 ∧ r = 1 ∧ s' = s) ∨ (hwT bt n f ≠ 0 ∧ 5 < s 3 (s 20 3 - 1) ∧ r = 2 ∧ s' = s) ∨ (hwT bt n f ≠ 0 ∧ s 3 (s 20 3 - 1) ≤ 5 ∧ r = 0 ∧ s' = su (su (su (su s 1 (s 20 3 - 1) (hwT bt n f)) 20 0 t) 20 1 2) 20 2 (s 20 3)))))) ∨
  (s 20 1 = 2 ∧ ((wdB bt n 0 f = true ∧ r = 0 ∧ s' = su (su (su s 6 (s 20 2 - 1) 1) 20 0 t) 20 1 3) ∨ (wdB bt n 0 f = false ∧ kcT bt n f = 41 ∧ r = 0 ∧ s' = su (su s 20 0 t) 20 1 0) ∨ (wdB bt n 0 f = false ∧ kcT bt n f ≠ 41 ∧ r = 1 ∧ s' = s))) ∨
  (s 20 1 = 3 ∧ ((kcT bt n f = 41 ∧ r = 0 ∧ s' = su (su s 20 0 t) 20 1 0) ∨ (kcT bt n f ≠ 41 ∧ r = 1 ∧ s' = s))) ∨
  (s 20 1 = 4 ∧ ((kcT bt n f = 42 ∧ r = 0 ∧ s' = su (su (su s 20 0 t) 20 2 (s 0 (s 20 2 - 1))) 20 1 (if s 0 (s 20 2 - 1) = 0 then 5 else 4)) ∨ (kcT bt n f = 45 ∧ r = 0 ∧ s' = su (su s 20 0 t) 20 1 0) ∨ (kcT bt n f ≠ 42 ∧ kcT bt n f ≠ 45 ∧ r = 1 ∧ s' = s))) ∨
  (s 20 1 = 5 ∧ ((kcT bt n f = 0 ∧ r = 4 ∧ s' = s) ∨ (kcT bt n f ≠ 0 ∧ r = 1 ∧ s' = s)))
/-- it is one thing that comes of a token -/
theorem stT_det {bt : Nat → Nat} {n : Nat} {s s1 s2 : Nat → Nat → Nat} {r1 r2 : Nat} (h1 : stT bt n s r1 s1) (h2 : stT bt n s r2 s2) : r1 = r2 ∧ s1 = s2 := by
  unfold stT at h1 h2
  dsimp only at h1 h2
  generalize tfT bt n (s 20 0) = f at h1 h2
  rcases h1 with ⟨d1, h1⟩ | ⟨d1, h1⟩ | ⟨d1, h1⟩ | ⟨d1, h1⟩ | ⟨d1, h1⟩ | ⟨d1, h1⟩ <;>
    (rcases h2 with ⟨d2, h2⟩ | ⟨d2, h2⟩ | ⟨d2, h2⟩ | ⟨d2, h2⟩ | ⟨d2, h2⟩ | ⟨d2, h2⟩ <;> first | (exfalso; omega) | skip)
  · rcases h1 with ⟨a1, a2, a3⟩ | ⟨a1, a2, a3, a4⟩ | ⟨a1, a2, a3, a4, a5⟩ | ⟨a1, a2, a3, a4, a5⟩ <;>
      (rcases h2 with ⟨b1, b2, b3⟩ | ⟨b1, b2, b3, b4⟩ | ⟨b1, b2, b3, b4, b5⟩ | ⟨b1, b2, b3, b4, b5⟩ <;>
        first | (exact absurd b1 a1) | (exact absurd a1 b1) | (exact absurd a2 b2) | (exact absurd b2 a2) | (exact absurd a3 b3) | (exact absurd b3 a3) | (subst_vars; exact ⟨rfl, rfl⟩))
  · rcases h1 with ⟨a1, a2, a3⟩ | ⟨a1, a2⟩ <;> (rcases h2 with ⟨b1, b2, b3⟩ | ⟨b1, b2⟩)
    · rcases a3 with ⟨c1, c2, c3⟩ | ⟨c1, c2, c3⟩ <;> (rcases b3 with ⟨e1, e2, e3⟩ | ⟨e1, e2, e3⟩ <;> first | (exfalso; omega) | (subst_vars; exact ⟨rfl, rfl⟩))
    · exact absurd ⟨a1, a2⟩ b1
    · exact absurd ⟨b1, b2⟩ a1
    · rcases a2 with ⟨c1, c2, c3⟩ | ⟨c1, c2, c3, c4⟩ | ⟨c1, c2, c3, c4⟩ <;> (rcases b2 with ⟨e1, e2, e3⟩ | ⟨e1, e2, e3, e4⟩ | ⟨e1, e2, e3, e4⟩ <;> first | (exact absurd c1 e1) | (exact absurd e1 c1) | (exfalso; omega) | (subst_vars; exact ⟨rfl, rfl⟩))
  · rcases h1 with ⟨a1, a2, a3⟩ | ⟨a1, a2, a3, a4⟩ | ⟨a1, a2, a3, a4⟩ <;> (rcases h2 with ⟨b1, b2, b3⟩ | ⟨b1, b2, b3, b4⟩ | ⟨b1, b2, b3, b4⟩ <;> first | (rw [a1] at b1; exact absurd b1 (by decide)) | (exact absurd a2 b2) | (exact absurd b2 a2) | (rw [a3, b3, a2, b2]; exact ⟨rfl, rfl⟩) | (rw [a4, b4, a3, b3]; exact ⟨rfl, rfl⟩))
  · rcases h1 with ⟨a1, a2, a3⟩ | ⟨a1, a2, a3⟩ <;> (rcases h2 with ⟨b1, b2, b3⟩ | ⟨b1, b2, b3⟩ <;> first | (exact absurd a1 b1) | (exact absurd b1 a1) | (rw [a3, b3, a2, b2]; exact ⟨rfl, rfl⟩))
  · rcases h1 with ⟨a1, a2, a3⟩ | ⟨a1, a2, a3⟩ | ⟨a1, a2, a3, a4⟩ <;> (rcases h2 with ⟨b1, b2, b3⟩ | ⟨b1, b2, b3⟩ | ⟨b1, b2, b3, b4⟩ <;> first | (exfalso; omega) | (rw [a3, b3, a2, b2]; exact ⟨rfl, rfl⟩) | (rw [a4, b4, a3, b3]; exact ⟨rfl, rfl⟩))
  · rcases h1 with ⟨a1, a2, a3⟩ | ⟨a1, a2, a3⟩ <;> (rcases h2 with ⟨b1, b2, b3⟩ | ⟨b1, b2, b3⟩ <;> first | (exact absurd a1 b1) | (exact absurd b1 a1) | (rw [a3, b3, a2, b2]; exact ⟨rfl, rfl⟩))
/-- j tokens taken; the last one gives r -/
def itT (bt : Nat → Nat) (n : Nat) : Nat → (Nat → Nat → Nat) → Nat → (Nat → Nat → Nat) → Prop
  | 0, s, r, s' => r = 0 ∧ s' = s
  | j + 1, s, r, s' => ∃ r1 s1, stT bt n s r1 s1 ∧ ((r1 ≠ 0 ∧ r = r1 ∧ s' = s1) ∨ (r1 = 0 ∧ itT bt n j s1 r s'))
theorem itT_app {bt : Nat → Nat} {n k : Nat} {s1 s2 : Nat → Nat → Nat} {r : Nat} : ∀ j s, itT bt n j s 0 s1 → itT bt n k s1 r s2 → itT bt n (j + k) s r s2
  | 0, s, h1, h2 => by
    obtain ⟨-, e⟩ := h1
    subst e
    rw [Nat.zero_add]
    exact h2
  | j + 1, s, h1, h2 => by
    obtain ⟨r1, t1, a, b⟩ := h1
    rw [show j + 1 + k = (j + k) + 1 by omega]
    rcases b with ⟨b1, b2, b3⟩ | ⟨b1, b2⟩
    · exact absurd b2.symm b1
    · exact ⟨r1, t1, a, Or.inr ⟨b1, itT_app j t1 b2 h2⟩⟩
theorem itT_one {bt : Nat → Nat} {n : Nat} {s s1 : Nat → Nat → Nat} {r : Nat} (h : stT bt n s r s1) : itT bt n 1 s r s1 := by
  refine ⟨r, s1, h, ?_⟩
  by_cases hr : r = 0
  · exact Or.inr ⟨hr, hr, rfl⟩
  · exact Or.inl ⟨hr, rfl, rfl⟩
theorem itT_det {bt : Nat → Nat} {n : Nat} {s1 s2 : Nat → Nat → Nat} {r1 r2 : Nat} (h1 : r1 ≠ 0) (h2 : r2 ≠ 0) : ∀ j k s, itT bt n j s r1 s1 → itT bt n k s r2 s2 → r1 = r2 ∧ s1 = s2
  | 0, k, s, a, b => absurd a.1 h1
  | j + 1, 0, s, a, b => absurd b.1 h2
  | j + 1, k + 1, s, a, b => by
    obtain ⟨u, t, a1, a2⟩ := a
    obtain ⟨v, w, b1, b2⟩ := b
    obtain ⟨e1, e2⟩ := stT_det a1 b1
    subst e1 e2
    rcases a2 with ⟨a2, a3, a4⟩ | ⟨a2, a3⟩
    · rcases b2 with ⟨b2, b3, b4⟩ | ⟨b2, b3⟩
      · rw [a3, b3, a4, b4]; exact ⟨rfl, rfl⟩
      · exact absurd b2 a2
    · rcases b2 with ⟨b2, b3, b4⟩ | ⟨b2, b3⟩
      · exact absurd a2 b2
      · exact itT_det h1 h2 j k t a3 b3
