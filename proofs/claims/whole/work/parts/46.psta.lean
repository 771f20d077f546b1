/-! what comes of a token, case by case -/
def sN (bt : Nat → Nat) (n f : Nat) (s : Nat → Nat → Nat) : Nat → Nat → Nat := su (su (su (adS bt f (ttT bt n f - f) s) 20 0 (ttT bt n f)) 20 1 1) 20 3 (s 20 3 + 1)
def sV (bt : Nat → Nat) (n f : Nat) (s : Nat → Nat → Nat) : Nat → Nat → Nat := su (su (su s 4 (s 20 3 - 1) (nuT bt f (ttT bt n f - f))) 20 0 (ttT bt n f)) 20 1 4
def sH (bt : Nat → Nat) (n f : Nat) (s : Nat → Nat → Nat) : Nat → Nat → Nat := su (su (su (su s 1 (s 20 3 - 1) (hwT bt n f)) 20 0 (ttT bt n f)) 20 1 2) 20 2 (s 20 3)
def sS (bt : Nat → Nat) (n f : Nat) (s : Nat → Nat → Nat) : Nat → Nat → Nat := su (su (su s 6 (s 20 2 - 1) 1) 20 0 (ttT bt n f)) 20 1 3
def sO (bt : Nat → Nat) (n f : Nat) (s : Nat → Nat → Nat) : Nat → Nat → Nat := su (su s 20 0 (ttT bt n f)) 20 1 0
def sE (bt : Nat → Nat) (n f : Nat) (s : Nat → Nat → Nat) : Nat → Nat → Nat := su (su (su s 20 0 (ttT bt n f)) 20 2 (s 0 (s 20 2 - 1))) 20 1 (if s 0 (s 20 2 - 1) = 0 then 5 else 4)
def liT (s : Nat → Nat → Nat) : Prop := 40 ≤ s 20 3 ∨ (s 20 2 ≠ 0 ∧ 8 ≤ s 2 (s 20 2 - 1))
theorem st0n {bt : Nat → Nat} {n f : Nat} {s : Nat → Nat → Nat} (hf : tfT bt n (s 20 0) = f) (d : s 20 1 = 0) (h : ¬ nmT bt n f) : stT bt n s 1 s := by
  subst hf; exact Or.inl ⟨d, Or.inl ⟨h, rfl, rfl⟩⟩
theorem st0m {bt : Nat → Nat} {n f : Nat} {s : Nat → Nat → Nat} (hf : tfT bt n (s 20 0) = f) (d : s 20 1 = 0) (h : nmT bt n f) (hl : liT s) : stT bt n s 2 s := by
  subst hf; exact Or.inl ⟨d, Or.inr (Or.inl ⟨h, hl, rfl, rfl⟩)⟩
theorem st0k {bt : Nat → Nat} {n f : Nat} {s : Nat → Nat → Nat} (hf : tfT bt n (s 20 0) = f) (d : s 20 1 = 0) (h : nmT bt n f) (hl : ¬ liT s) (hk : knT bt n f s) : stT bt n s 3 s := by
  subst hf; exact Or.inl ⟨d, Or.inr (Or.inr (Or.inl ⟨h, hl, hk, rfl, rfl⟩))⟩
theorem st0 {bt : Nat → Nat} {n f : Nat} {s : Nat → Nat → Nat} (hf : tfT bt n (s 20 0) = f) (d : s 20 1 = 0) (h : nmT bt n f) (hl : ¬ liT s) (hk : ¬ knT bt n f s) : stT bt n s 0 (sN bt n f s) := by
  subst hf; exact Or.inl ⟨d, Or.inr (Or.inr (Or.inr ⟨h, hl, hk, rfl, rfl⟩))⟩
theorem st1l {bt : Nat → Nat} {n f : Nat} {s : Nat → Nat → Nat} (hf : tfT bt n (s 20 0) = f) (d : s 20 1 = 1) (h : kcT bt n f = 49) (hw : s 20 2 ≠ 0) (hl : 6 < ttT bt n f - f) : stT bt n s 1 s := by
  subst hf; exact Or.inr (Or.inl ⟨d, Or.inl ⟨h, hw, Or.inl ⟨hl, rfl, rfl⟩⟩⟩)
theorem st1v {bt : Nat → Nat} {n f : Nat} {s : Nat → Nat → Nat} (hf : tfT bt n (s 20 0) = f) (d : s 20 1 = 1) (h : kcT bt n f = 49) (hw : s 20 2 ≠ 0) (hl : ttT bt n f - f ≤ 6) : stT bt n s 0 (sV bt n f s) := by
  subst hf; exact Or.inr (Or.inl ⟨d, Or.inl ⟨h, hw, Or.inr ⟨hl, rfl, rfl⟩⟩⟩)
theorem st1n {bt : Nat → Nat} {n f : Nat} {s : Nat → Nat → Nat} (hf : tfT bt n (s 20 0) = f) (d : s 20 1 = 1) (h : ¬ (kcT bt n f = 49 ∧ s 20 2 ≠ 0)) (hw : hwT bt n f = 0) : stT bt n s 1 s := by
  subst hf; exact Or.inr (Or.inl ⟨d, Or.inr ⟨h, Or.inl ⟨hw, rfl, rfl⟩⟩⟩)
theorem st1m {bt : Nat → Nat} {n f : Nat} {s : Nat → Nat → Nat} (hf : tfT bt n (s 20 0) = f) (d : s 20 1 = 1) (h : ¬ (kcT bt n f = 49 ∧ s 20 2 ≠ 0)) (hw : hwT bt n f ≠ 0) (h3 : 5 < s 3 (s 20 3 - 1)) : stT bt n s 2 s := by
  subst hf; exact Or.inr (Or.inl ⟨d, Or.inr ⟨h, Or.inr (Or.inl ⟨hw, h3, rfl, rfl⟩)⟩⟩)
theorem st1h {bt : Nat → Nat} {n f : Nat} {s : Nat → Nat → Nat} (hf : tfT bt n (s 20 0) = f) (d : s 20 1 = 1) (h : ¬ (kcT bt n f = 49 ∧ s 20 2 ≠ 0)) (hw : hwT bt n f ≠ 0) (h3 : s 3 (s 20 3 - 1) ≤ 5) : stT bt n s 0 (sH bt n f s) := by
  subst hf; exact Or.inr (Or.inl ⟨d, Or.inr ⟨h, Or.inr (Or.inr ⟨hw, h3, rfl, rfl⟩)⟩⟩)
theorem st2s {bt : Nat → Nat} {n f : Nat} {s : Nat → Nat → Nat} (hf : tfT bt n (s 20 0) = f) (d : s 20 1 = 2) (h : wdB bt n 0 f = true) : stT bt n s 0 (sS bt n f s) := by
  subst hf; exact Or.inr (Or.inr (Or.inl ⟨d, Or.inl ⟨h, rfl, rfl⟩⟩))
theorem st2o {bt : Nat → Nat} {n f : Nat} {s : Nat → Nat → Nat} (hf : tfT bt n (s 20 0) = f) (d : s 20 1 = 2) (h : wdB bt n 0 f = false) (hk : kcT bt n f = 41) : stT bt n s 0 (sO bt n f s) := by
  subst hf; exact Or.inr (Or.inr (Or.inl ⟨d, Or.inr (Or.inl ⟨h, hk, rfl, rfl⟩)⟩))
theorem st2n {bt : Nat → Nat} {n f : Nat} {s : Nat → Nat → Nat} (hf : tfT bt n (s 20 0) = f) (d : s 20 1 = 2) (h : wdB bt n 0 f = false) (hk : kcT bt n f ≠ 41) : stT bt n s 1 s := by
  subst hf; exact Or.inr (Or.inr (Or.inl ⟨d, Or.inr (Or.inr ⟨h, hk, rfl, rfl⟩)⟩))
theorem st3o {bt : Nat → Nat} {n f : Nat} {s : Nat → Nat → Nat} (hf : tfT bt n (s 20 0) = f) (d : s 20 1 = 3) (hk : kcT bt n f = 41) : stT bt n s 0 (sO bt n f s) := by
  subst hf; exact Or.inr (Or.inr (Or.inr (Or.inl ⟨d, Or.inl ⟨hk, rfl, rfl⟩⟩)))
theorem st3n {bt : Nat → Nat} {n f : Nat} {s : Nat → Nat → Nat} (hf : tfT bt n (s 20 0) = f) (d : s 20 1 = 3) (hk : kcT bt n f ≠ 41) : stT bt n s 1 s := by
  subst hf; exact Or.inr (Or.inr (Or.inr (Or.inl ⟨d, Or.inr ⟨hk, rfl, rfl⟩⟩)))
theorem st4e {bt : Nat → Nat} {n f : Nat} {s : Nat → Nat → Nat} (hf : tfT bt n (s 20 0) = f) (d : s 20 1 = 4) (hk : kcT bt n f = 42) : stT bt n s 0 (sE bt n f s) := by
  subst hf; exact Or.inr (Or.inr (Or.inr (Or.inr (Or.inl ⟨d, Or.inl ⟨hk, rfl, rfl⟩⟩))))
theorem st4o {bt : Nat → Nat} {n f : Nat} {s : Nat → Nat → Nat} (hf : tfT bt n (s 20 0) = f) (d : s 20 1 = 4) (hk : kcT bt n f = 45) : stT bt n s 0 (sO bt n f s) := by
  subst hf; exact Or.inr (Or.inr (Or.inr (Or.inr (Or.inl ⟨d, Or.inr (Or.inl ⟨hk, rfl, rfl⟩)⟩))))
theorem st4n {bt : Nat → Nat} {n f : Nat} {s : Nat → Nat → Nat} (hf : tfT bt n (s 20 0) = f) (d : s 20 1 = 4) (hk : kcT bt n f ≠ 42) (hk2 : kcT bt n f ≠ 45) : stT bt n s 1 s := by
  subst hf; exact Or.inr (Or.inr (Or.inr (Or.inr (Or.inl ⟨d, Or.inr (Or.inr ⟨hk, hk2, rfl, rfl⟩)⟩))))
theorem st5e {bt : Nat → Nat} {n f : Nat} {s : Nat → Nat → Nat} (hf : tfT bt n (s 20 0) = f) (d : s 20 1 = 5) (hk : kcT bt n f = 0) : stT bt n s 4 s := by
  subst hf; exact Or.inr (Or.inr (Or.inr (Or.inr (Or.inr ⟨d, Or.inl ⟨hk, rfl, rfl⟩⟩))))
theorem st5n {bt : Nat → Nat} {n f : Nat} {s : Nat → Nat → Nat} (hf : tfT bt n (s 20 0) = f) (d : s 20 1 = 5) (hk : kcT bt n f ≠ 0) : stT bt n s 1 s := by
  subst hf; exact Or.inr (Or.inr (Or.inr (Or.inr (Or.inr ⟨d, Or.inr ⟨hk, rfl, rfl⟩⟩))))
/-- the rows and the end of each -/
theorem sN_v (bt : Nat → Nat) (n f : Nat) (s : Nat → Nat → Nat) : sN bt n f s 20 0 = ttT bt n f ∧ sN bt n f s 20 1 = 1 ∧ sN bt n f s 20 2 = s 20 2 ∧ sN bt n f s 20 3 = s 20 3 + 1 ∧ ∀ q c, q ≠ 20 → sN bt n f s q c = adS bt f (ttT bt n f - f) s q c := by
  unfold sN
  refine ⟨?_, ?_, ?_, ?_, fun q c z => ?_⟩
  · rw [su_2 (by omega), su_2 (by omega), su_e]
  · rw [su_2 (by omega), su_e]
  · rw [su_2 (by omega), su_2 (by omega), su_2 (by omega), ad_old (Or.inr (by omega)) (Or.inl (by omega))]
  · rw [su_e]
  · rw [su_1 z, su_1 z, su_1 z]
theorem sV_v (bt : Nat → Nat) (n f : Nat) (s : Nat → Nat → Nat) : sV bt n f s 20 0 = ttT bt n f ∧ sV bt n f s 20 1 = 4 ∧ sV bt n f s 20 2 = s 20 2 ∧ sV bt n f s 20 3 = s 20 3 ∧ ∀ q c, q ≠ 20 → sV bt n f s q c = su s 4 (s 20 3 - 1) (nuT bt f (ttT bt n f - f)) q c := by
  unfold sV
  refine ⟨?_, ?_, ?_, ?_, fun q c z => ?_⟩
  · rw [su_2 (by omega), su_e]
  · rw [su_e]
  · rw [su_2 (by omega), su_2 (by omega), su_1 (by omega)]
  · rw [su_2 (by omega), su_2 (by omega), su_1 (by omega)]
  · rw [su_1 z, su_1 z]
theorem sH_v (bt : Nat → Nat) (n f : Nat) (s : Nat → Nat → Nat) : sH bt n f s 20 0 = ttT bt n f ∧ sH bt n f s 20 1 = 2 ∧ sH bt n f s 20 2 = s 20 3 ∧ sH bt n f s 20 3 = s 20 3 ∧ ∀ q c, q ≠ 20 → sH bt n f s q c = su s 1 (s 20 3 - 1) (hwT bt n f) q c := by
  unfold sH
  refine ⟨?_, ?_, ?_, ?_, fun q c z => ?_⟩
  · rw [su_2 (by omega), su_2 (by omega), su_e]
  · rw [su_2 (by omega), su_e]
  · rw [su_e]
  · rw [su_2 (by omega), su_2 (by omega), su_2 (by omega), su_1 (by omega)]
  · rw [su_1 z, su_1 z, su_1 z]
theorem sS_v (bt : Nat → Nat) (n f : Nat) (s : Nat → Nat → Nat) : sS bt n f s 20 0 = ttT bt n f ∧ sS bt n f s 20 1 = 3 ∧ sS bt n f s 20 2 = s 20 2 ∧ sS bt n f s 20 3 = s 20 3 ∧ ∀ q c, q ≠ 20 → sS bt n f s q c = su s 6 (s 20 2 - 1) 1 q c := by
  unfold sS
  refine ⟨?_, ?_, ?_, ?_, fun q c z => ?_⟩
  · rw [su_2 (by omega), su_e]
  · rw [su_e]
  · rw [su_2 (by omega), su_2 (by omega), su_1 (by omega)]
  · rw [su_2 (by omega), su_2 (by omega), su_1 (by omega)]
  · rw [su_1 z, su_1 z]
theorem sO_v (bt : Nat → Nat) (n f : Nat) (s : Nat → Nat → Nat) : sO bt n f s 20 0 = ttT bt n f ∧ sO bt n f s 20 1 = 0 ∧ sO bt n f s 20 2 = s 20 2 ∧ sO bt n f s 20 3 = s 20 3 ∧ ∀ q c, q ≠ 20 → sO bt n f s q c = s q c := by
  unfold sO
  refine ⟨?_, ?_, ?_, ?_, fun q c z => ?_⟩
  · rw [su_2 (by omega), su_e]
  · rw [su_e]
  · rw [su_2 (by omega), su_2 (by omega)]
  · rw [su_2 (by omega), su_2 (by omega)]
  · rw [su_1 z, su_1 z]
theorem sE_v (bt : Nat → Nat) (n f : Nat) (s : Nat → Nat → Nat) : sE bt n f s 20 0 = ttT bt n f ∧ sE bt n f s 20 1 = (if s 0 (s 20 2 - 1) = 0 then 5 else 4) ∧ sE bt n f s 20 2 = s 0 (s 20 2 - 1) ∧ sE bt n f s 20 3 = s 20 3 ∧ ∀ q c, q ≠ 20 → sE bt n f s q c = s q c := by
  unfold sE
  refine ⟨?_, ?_, ?_, ?_, fun q c z => ?_⟩
  · rw [su_2 (by omega), su_2 (by omega), su_e]
  · rw [su_e]
  · rw [su_2 (by omega), su_e]
  · rw [su_2 (by omega), su_2 (by omega), su_2 (by omega)]
  · rw [su_1 z, su_1 z, su_1 z]
