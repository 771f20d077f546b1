/-! ROWS, by numbers -/
section
variable (g : Nat → Nat) (m w h : Nat)
def rwk (f t i : Nat) : Nat := shp (g i) (bg g (i + 1) w f t - bg g i w f t) (bg g t h 0 m - bg g f h 0 m)
def rwN (f t : Nat) : Nat → Nat
  | 0 => 0
  | j + 1 => max (rwN f t j) (rwk g m w h f t (f + j))
def rwv (f t : Nat) : Nat := rwN g m w h f t (t - f)
end
theorem rwN_le {g : Nat → Nat} {m w h f t v : Nat} : ∀ j, rwN g m w h f t j ≤ v ↔ ∀ i, f ≤ i → i < f + j → rwk g m w h f t i ≤ v
  | 0 => by simp [rwN]; intro i h1 h2; omega
  | j + 1 => by
    rw [rwN, Nat.max_le, rwN_le j]
    constructor
    · intro ⟨h1, h2⟩ i q1 q2
      by_cases hi : i = f + j
      · rw [hi]; exact h2
      · exact h1 i q1 (by omega)
    · intro hh
      exact ⟨fun i q1 q2 => hh i q1 (by omega), hh (f + j) (by omega) (by omega)⟩
theorem rwv_le {g : Nat → Nat} {m w h f t v : Nat} : rwv g m w h f t ≤ v ↔ ∀ i, f ≤ i → i < t → rwk g m w h f t i ≤ v := by
  unfold rwv
  rw [rwN_le]
  constructor
  · intro hh i q1 q2; exact hh i q1 (by omega)
  · intro hh i q1 q2; exact hh i q1 (by omega)
/-! breaks: β k: a break behind ITEM k -/
def reN (β : Nat → Bool) : Nat → Nat → Nat
  | 0, i => i + 1
  | n + 1, i => if β i = true then i + 1 else reN β n (i + 1)
def re (β : Nat → Bool) (m i : Nat) : Nat := reN β (m - 1 - i) i
def rf (β : Nat → Bool) : Nat → Nat
  | 0 => 0
  | i + 1 => if β i = true then i + 1 else rf β i
theorem reN_b (β : Nat → Bool) : ∀ n i, i < reN β n i ∧ reN β n i ≤ i + n + 1
  | 0, i => by rw [reN]; omega
  | n + 1, i => by
    rw [reN]
    have := reN_b β n (i + 1)
    split <;> omega
theorem re_b (β : Nat → Bool) {m i : Nat} (h : i < m) : i < re β m i ∧ re β m i ≤ m := by
  have := reN_b β (m - 1 - i) i
  unfold re
  omega
theorem re_s (β : Nat → Bool) {m i : Nat} (h : i < m) : re β m i = if i + 1 = m ∨ β i = true then i + 1 else re β m (i + 1) := by
  unfold re
  by_cases h1 : i + 1 = m
  · rw [if_pos (Or.inl h1), show m - 1 - i = 0 by omega, reN]
  · rw [show m - 1 - i = (m - 1 - (i + 1)) + 1 by omega, reN]
    by_cases h2 : β i = true
    · rw [if_pos h2, if_pos (Or.inr h2)]
    · rw [if_neg h2, if_neg (by intro h; rcases h with h | h; exact h1 h; exact h2 h)]
/-- within a row no break, behind it one -/
theorem re_in (β : Nat → Bool) {m : Nat} : ∀ n i, i + n + 1 = m → (∀ k, i ≤ k → k + 1 < re β m i → β k = false) ∧ (re β m i < m → β (re β m i - 1) = true) := by
  intro n
  induction n with
  | zero =>
    intro i hi
    rw [re_s β (by omega), if_pos (Or.inl (by omega))]
    exact ⟨fun k h1 h2 => absurd h2 (by omega), fun h => absurd h (by omega)⟩
  | succ n ih =>
    intro i hi
    obtain ⟨i1, i2⟩ := ih (i + 1) (by omega)
    rw [re_s β (by omega)]
    by_cases hb : β i = true
    · rw [if_pos (Or.inr hb)]
      exact ⟨fun k h1 h2 => absurd h2 (by omega), fun _ => hb⟩
    · rw [if_neg (by intro h; rcases h with h | h; omega; exact hb h)]
      refine ⟨fun k h1 h2 => ?_, i2⟩
      by_cases hk : k = i
      · rw [hk]; exact Bool.eq_false_iff.mpr hb
      · exact i1 k (by omega) h2
theorem re_eq (β : Nat → Bool) {m t : Nat} (htm : t ≤ m) (ht : t < m → β (t - 1) = true) : ∀ n i, i + n + 1 = t → (∀ k, i ≤ k → k + 1 < t → β k = false) → re β m i = t := by
  intro n
  induction n with
  | zero =>
    intro i hi hk
    rw [re_s β (by omega)]
    by_cases h : t = m
    · rw [if_pos (Or.inl (by omega))]; omega
    · rw [if_pos (Or.inr (by have := ht (by omega); rw [show i = t - 1 by omega]; exact this))]; omega
  | succ n ih =>
    intro i hi hk
    rw [re_s β (by omega), if_neg (by intro h; rcases h with h | h; omega; rw [hk i (by omega) (by omega)] at h; exact absurd h (by decide))]
    exact ih (i + 1) (by omega) (fun k h1 h2 => hk k (by omega) h2)
theorem rf_in (β : Nat → Bool) {f : Nat} (hs : rf β f = f) : ∀ n, (∀ k, f ≤ k → k < f + n → β k = false) → rf β (f + n) = f
  | 0, _ => hs
  | n + 1, h => by
    rw [← Nat.add_assoc, rf, h (f + n) (by omega) (by omega)]
    exact rf_in β hs n (fun k h1 h2 => h k h1 (by omega))
/-- an ITEM of a row tells the row -/
theorem row_in (β : Nat → Bool) {m f i : Nat} (hs : rf β f = f) (hf : f < m) (h1 : f ≤ i) (h2 : i < re β m f) : rf β i = f ∧ re β m i = re β m f := by
  have hb := re_b β hf
  obtain ⟨e1, e2⟩ := re_in β (m := m) (m - 1 - f) f (by omega)
  constructor
  · have := rf_in β hs (i - f) (fun k q1 q2 => e1 k q1 (by omega))
    rw [show f + (i - f) = i by omega] at this
    exact this
  · exact re_eq β hb.2 e2 (re β m f - 1 - i) i (by omega) (fun k q1 q2 => e1 k (by omega) q2)
theorem row_st (β : Nat → Bool) {m f : Nat} (hf : f < m) (h : re β m f < m) : rf β (re β m f) = re β m f := by
  have hb := re_b β hf
  obtain ⟨e1, e2⟩ := re_in β (m := m) (m - 1 - f) f (by omega)
  have h3 := e2 h
  generalize re β m f = t at *
  obtain ⟨k, rfl⟩ : ∃ k, t = k + 1 := ⟨t - 1, by omega⟩
  rw [Nat.add_sub_cancel] at h3
  rw [rf, if_pos h3]
def roR (g : Nat → Nat) (β : Nat → Bool) (m x y w h : Nat) : Nat → Nat → Nat := fun k i =>
  if k = 0 then x + bg g i w (rf β i) (re β m i) else if k = 1 then y + bg g (rf β i) h 0 m else if k = 2 then bg g (i + 1) w (rf β i) (re β m i) - bg g i w (rf β i) (re β m i) else bg g (re β m i) h 0 m - bg g (rf β i) h 0 m
/-- the worst of the rows from f on -/
def wtR (g : Nat → Nat) (β : Nat → Bool) (m w h : Nat) : Nat → Nat → Nat
  | 0, _ => 0
  | n + 1, f => if m ≤ f then 0 else max (rwv g m w h f (re β m f)) (wtR g β m w h n (re β m f))
theorem wtR_le {g : Nat → Nat} {β : Nat → Bool} {m w h v x y : Nat} : ∀ n f, m ≤ f + n → (m ≤ f ∨ rf β f = f) → (wtR g β m w h n f ≤ v ↔ ∀ i, f ≤ i → i < m → shp (g i) (roR g β m x y w h 2 i) (roR g β m x y w h 3 i) ≤ v)
  | 0, f, hm, _ => by
    rw [wtR]
    exact ⟨fun _ i h1 h2 => absurd h2 (by omega), fun _ => Nat.zero_le _⟩
  | n + 1, f, hm, hs => by
    rw [wtR]
    by_cases hf : m ≤ f
    · rw [if_pos hf]
      exact ⟨fun _ i h1 h2 => absurd h2 (by omega), fun _ => Nat.zero_le _⟩
    · have hs2 : rf β f = f := by rcases hs with h | h; exact absurd h hf; exact h
      have hb := re_b β (show f < m by omega)
      rw [if_neg hf, Nat.max_le, rwv_le, wtR_le (x := x) (y := y) n (re β m f) (by omega) (by
        by_cases q : re β m f < m
        · exact Or.inr (row_st β (by omega) q)
        · exact Or.inl (by omega))]
      have e : ∀ i, f ≤ i → i < re β m f → rwk g m w h f (re β m f) i = shp (g i) (roR g β m x y w h 2 i) (roR g β m x y w h 3 i) := by
        intro i q1 q2
        obtain ⟨r1, r2⟩ := row_in β hs2 (by omega) q1 q2
        unfold rwk roR
        rw [r1, r2]
        rfl
      constructor
      · intro ⟨a, b⟩ i q1 q2
        by_cases q : i < re β m f
        · rw [← e i q1 q]; exact a i q1 q
        · exact b i (by omega) q2
      · intro hh
        exact ⟨fun i q1 q2 => by rw [e i q1 q2]; exact hh i q1 (by omega), fun i q1 q2 => hh i (by omega) q2⟩
theorem wsN_le2 {g : Nat → Nat} {r : Nat → Nat → Nat} {v : Nat} : ∀ m, wsN g r m ≤ v ↔ ∀ i, i < m → shp (g i) (r 2 i) (r 3 i) ≤ v
  | 0 => ⟨fun _ i h => absurd h (by omega), fun _ => Nat.zero_le _⟩
  | m + 1 => by
    rw [wsN, Nat.max_le, wsN_le2 m]
    constructor
    · intro ⟨h1, h2⟩ i q
      by_cases hi : i = m
      · rw [hi]; exact h2
      · exact h1 i (by omega)
    · intro hh
      exact ⟨fun i q => hh i (by omega), hh m (by omega)⟩
theorem wtR_ws (g : Nat → Nat) (β : Nat → Bool) (m x y w h : Nat) : wsN g (roR g β m x y w h) m = wtR g β m w h m 0 := by
  have key : ∀ v, wsN g (roR g β m x y w h) m ≤ v ↔ wtR g β m w h m 0 ≤ v := by
    intro v
    rw [wsN_le2, wtR_le (x := x) (y := y) m 0 (by omega) (Or.inr rfl)]
    exact ⟨fun hh i _ q => hh i q, fun hh i q => hh i (by omega) q⟩
  have h1 := (key _).mp (Nat.le_refl _)
  have h2 := (key _).mpr (Nat.le_refl _)
  omega
/-- how many rows from f on -/
def nrR (β : Nat → Bool) (m f : Nat) : Nat := if m ≤ f then 0 else 1 + smN β f (m - 1 - f)
theorem nrR_s (β : Nat → Bool) {m f : Nat} (hf : f < m) : nrR β m f = nrR β m (re β m f) + 1 := by
  have hb := re_b β hf
  obtain ⟨e1, e2⟩ := re_in β (m := m) (m - 1 - f) f (by omega)
  unfold nrR
  rw [if_neg (by omega)]
  by_cases ht : m ≤ re β m f
  · rw [if_pos ht, smN_0 β f _ (fun i q1 q2 => e1 i q1 (by omega))]
  · rw [if_neg ht]
    have e3 := e2 (by omega)
    have s1 := smN_split β f (re β m f - 1 - f) (1 + (m - 1 - re β m f))
    have s2 := smN_split β (f + (re β m f - 1 - f)) 1 (m - 1 - re β m f)
    rw [show re β m f - 1 - f + (1 + (m - 1 - re β m f)) = m - 1 - f by omega] at s1
    rw [smN_0 β f (re β m f - 1 - f) (fun i q1 q2 => e1 i q1 (by omega)), show f + (re β m f - 1 - f) = re β m f - 1 by omega] at s1
    rw [show f + (re β m f - 1 - f) = re β m f - 1 by omega, show re β m f - 1 + 1 = re β m f by omega, smN, smN, Nat.add_zero, e3] at s2
    rw [s1, s2]
    simp
    omega
/-! what the class's rows say -/
def spL (g : Nat → Nat) (m w h : Nat) (L : Nat → Nat) (f : Nat) : Prop := (∀ t, f < t → t ≤ m → L f ≤ max (rwv g m w h f t) (L t)) ∧ ∃ t, f < t ∧ t ≤ m ∧ L f = max (rwv g m w h f t) (L t)
def spF (g : Nat → Nat) (m w h l0 : Nat) (F : Nat → Nat) (f : Nat) : Prop := F f ≤ 9 ∧ (∀ t, f < t → t ≤ m → rwv g m w h f t ≤ l0 → F f ≤ F t + 1) ∧ (F f = 9 ∨ ∃ t, f < t ∧ t ≤ m ∧ rwv g m w h f t ≤ l0 ∧ F f = F t + 1)
def spE (g : Nat → Nat) (m w h l0 : Nat) (F E : Nat → Nat) (f : Nat) : Prop := f < E f ∧ E f ≤ m ∧ (E f = f + 1 ∨ (rwv g m w h f (E f) ≤ l0 ∧ F (E f) + 1 = F f)) ∧ ∀ t, E f < t → t ≤ m → ¬ (rwv g m w h f t ≤ l0 ∧ F t + 1 = F f)
/-- the breaks by the row ends E -/
def curE (E : Nat → Nat) : Nat → Nat
  | 0 => E 0
  | k + 1 => if curE E k = k + 1 then E (k + 1) else curE E k
def btE (E : Nat → Nat) (k : Nat) : Bool := decide (curE E k = k + 1)
theorem curE_b {E : Nat → Nat} {m : Nat} (hE : ∀ f, f < m → f < E f ∧ E f ≤ m) : ∀ k, k < m → k < curE E k ∧ curE E k ≤ m
  | 0, h => hE 0 h
  | k + 1, h => by
    have ih := curE_b hE k (by omega)
    rw [curE]
    split
    · exact hE (k + 1) h
    · omega
theorem curE_in {E : Nat → Nat} {f : Nat} (hs : curE E f = E f) : ∀ n, f + n < E f → curE E (f + n) = E f
  | 0, _ => hs
  | n + 1, h => by
    rw [← Nat.add_assoc, curE, curE_in hs n (by omega), if_neg (by omega)]
theorem btE_re {E : Nat → Nat} {m f : Nat} (hE : ∀ f, f < m → f < E f ∧ E f ≤ m) (hf : f < m) (hs : curE E f = E f) : re (btE E) m f = E f ∧ (E f < m → curE E (E f) = E (E f)) := by
  have hb := hE f hf
  have hlast : curE E (E f - 1) = E f := by
    have := curE_in hs (E f - 1 - f) (by omega)
    rw [show f + (E f - 1 - f) = E f - 1 by omega] at this
    exact this
  constructor
  · refine re_eq _ hb.2 (fun _ => ?_) (E f - 1 - f) f (by omega) (fun k q1 q2 => ?_)
    · unfold btE
      rw [hlast]
      exact decide_eq_true (by omega)
    · unfold btE
      have := curE_in hs (k - f) (by omega)
      rw [show f + (k - f) = k by omega] at this
      rw [this]
      exact decide_eq_false (by omega)
  · intro _
    have : curE E (E f - 1 + 1) = E (E f - 1 + 1) := by rw [curE, if_pos (by omega)]
    rw [show E f - 1 + 1 = E f by omega] at this
    exact this
section
variable {g : Nat → Nat} {m w h : Nat} {L F E : Nat → Nat}
theorem ro_A (hL0 : L m = 0) (hL : ∀ f, f < m → spL g m w h L f) (β : Nat → Bool) : ∀ n f, m ≤ f + n → f ≤ m → L f ≤ wtR g β m w h n f
  | 0, f, h1, h2 => by rw [show f = m by omega, hL0]; exact Nat.zero_le _
  | n + 1, f, h1, h2 => by
    rw [wtR]
    by_cases hf : m ≤ f
    · rw [show f = m by omega, hL0]; exact Nat.zero_le _
    · rw [if_neg hf]
      have hb := re_b β (show f < m by omega)
      have a := (hL f (by omega)).1 (re β m f) hb.1 hb.2
      have b := ro_A hL0 hL β n (re β m f) (by omega) hb.2
      omega
theorem ro_B (hL : ∀ f, f < m → spL g m w h L f) (hF0 : F m = 0) (hF : ∀ f, f < m → spF g m w h (L 0) F f) : ∀ n f, m ≤ f + n → f ≤ m → L f ≤ L 0 → F f ≤ m - f
  | 0, f, h1, h2, _ => by rw [show f = m by omega, hF0]; exact Nat.zero_le _
  | n + 1, f, h1, h2, h3 => by
    by_cases hf : m ≤ f
    · rw [show f = m by omega, hF0]; exact Nat.zero_le _
    · obtain ⟨t, t1, t2, t3⟩ := (hL f (by omega)).2
      have a := ro_B hL hF0 hF n t (by omega) t2 (by omega)
      have b := (hF f (by omega)).2.1 t t1 t2 (by omega)
      omega
theorem ro_C {l0 : Nat} (hF : ∀ f, f < m → spF g m w h l0 F f) (hE : ∀ f, f < m → spE g m w h l0 F E f) {f : Nat} (hf : f < m) (h8 : F f ≤ 8) : rwv g m w h f (E f) ≤ l0 ∧ F (E f) + 1 = F f := by
  obtain ⟨e1, e2, e3, e4⟩ := hE f hf
  rcases e3 with e3 | e3
  · rcases (hF f hf).2.2 with q | ⟨t, t1, t2, t3, t4⟩
    · omega
    · have : t = E f := by
        by_cases q : E f < t
        · exact absurd ⟨t3, t4.symm⟩ (e4 t q t2)
        · omega
      subst this
      exact ⟨t3, t4.symm⟩
  · exact e3
theorem ro_D {l0 : Nat} (hF0 : F m = 0) (hF : ∀ f, f < m → spF g m w h l0 F f) (hE : ∀ f, f < m → spE g m w h l0 F E f) : ∀ n f, m ≤ f + n → f ≤ m → (f < m → curE E f = E f) → F f ≤ 8 → wtR g (btE E) m w h n f ≤ l0 ∧ nrR (btE E) m f = F f
  | 0, f, h1, h2, _, _ => by
    rw [show f = m by omega, hF0, wtR, nrR, if_pos (Nat.le_refl _)]
    exact ⟨Nat.zero_le _, rfl⟩
  | n + 1, f, h1, h2, h3, h8 => by
    by_cases hf : m ≤ f
    · rw [show f = m by omega, hF0, wtR, if_pos (Nat.le_refl _), nrR, if_pos (Nat.le_refl _)]
      exact ⟨Nat.zero_le _, rfl⟩
    · have hEb : ∀ f, f < m → f < E f ∧ E f ≤ m := fun f hf => ⟨(hE f hf).1, (hE f hf).2.1⟩
      obtain ⟨r1, r2⟩ := btE_re hEb (show f < m by omega) (h3 (by omega))
      obtain ⟨c1, c2⟩ := ro_C hF hE (show f < m by omega) h8
      have hb := hEb f (by omega)
      obtain ⟨d1, d2⟩ := ro_D hF0 hF hE n (E f) (by omega) hb.2 r2 (by omega)
      rw [wtR, if_neg hf, nrR_s _ (by omega), r1]
      exact ⟨by omega, by omega⟩
theorem ro_E {l0 : Nat} (hF0 : F m = 0) (hF : ∀ f, f < m → spF g m w h l0 F f) (β : Nat → Bool) : ∀ n f, m ≤ f + n → f ≤ m → wtR g β m w h n f ≤ l0 → F f ≤ nrR β m f
  | 0, f, h1, h2, _ => by rw [show f = m by omega, hF0]; exact Nat.zero_le _
  | n + 1, f, h1, h2, h3 => by
    by_cases hf : m ≤ f
    · rw [show f = m by omega, hF0]; exact Nat.zero_le _
    · have hb := re_b β (show f < m by omega)
      rw [wtR, if_neg hf] at h3
      have a := ro_E hF0 hF β n (re β m f) (by omega) hb.2 (by omega)
      have b := (hF f (by omega)).2.1 _ hb.1 hb.2 (by omega)
      rw [nrR_s _ (by omega)]
      omega
theorem ro_F {l0 : Nat} (hF0 : F m = 0) (hF : ∀ f, f < m → spF g m w h l0 F f) (hE : ∀ f, f < m → spE g m w h l0 F E f) (β : Nat → Bool) : ∀ n f, m ≤ f + n → f ≤ m → (f < m → curE E f = E f) → F f ≤ 8 → wtR g β m w h n f ≤ l0 → nrR β m f = F f →
    (∀ k, f ≤ k → k + 1 < m → β k = btE E k) ∨ ∃ k, f ≤ k ∧ k + 1 < m ∧ (∀ j, f ≤ j → j < k → β j = btE E j) ∧ β k = true ∧ btE E k = false
  | 0, f, h1, h2, _, _, _, _ => Or.inl (fun k q1 q2 => absurd q2 (by omega))
  | n + 1, f, h1, h2, h3, h8, h4, h5 => by
    by_cases hf : m ≤ f
    · exact Or.inl (fun k q1 q2 => absurd q2 (by omega))
    · have hEb : ∀ f, f < m → f < E f ∧ E f ≤ m := fun f hf => ⟨(hE f hf).1, (hE f hf).2.1⟩
      have hfm : f < m := by omega
      obtain ⟨r1, r2⟩ := btE_re hEb hfm (h3 hfm)
      obtain ⟨c1, c2⟩ := ro_C hF hE hfm h8
      have hEf := hEb f hfm
      have hb := re_b β hfm
      obtain ⟨b1, b2⟩ := re_in β (m := m) (m - 1 - f) f (by omega)
      obtain ⟨x1, x2⟩ := re_in (btE E) (m := m) (m - 1 - f) f (by omega)
      rw [r1] at x1 x2
      rw [wtR, if_neg hf] at h4
      rw [nrR_s _ hfm] at h5
      have a := ro_E hF0 hF β n (re β m f) (by omega) hb.2 (by omega)
      have b := (hF f hfm).2.1 _ hb.1 hb.2 (by omega)
      have hle : re β m f ≤ E f := by
        refine Nat.le_of_not_lt (fun q => (hE f hfm).2.2.2 _ q hb.2 ⟨by omega, by omega⟩)
      by_cases heq : re β m f = E f
      · rw [heq] at a b b1 b2 h4 h5
        have agree : ∀ k, f ≤ k → k < E f → k + 1 < m → β k = btE E k := by
          intro k q1 q2 q3
          by_cases q : k + 1 < E f
          · rw [b1 k q1 q, x1 k q1 q]
          · have : k = E f - 1 := by omega
            rw [this, b2 (by omega), x2 (by omega)]
        rcases ro_F hF0 hF hE β n (E f) (by omega) hEf.2 r2 (by omega) (by omega) (by omega) with q | ⟨k, k1, k2, k3, k4, k5⟩
        · refine Or.inl (fun k q1 q2 => ?_)
          by_cases z : k < E f
          · exact agree k q1 z q2
          · exact q k (by omega) q2
        · refine Or.inr ⟨k, by omega, k2, fun j q1 q2 => ?_, k4, k5⟩
          by_cases z : j < E f
          · exact agree j q1 z (by omega)
          · exact k3 j (by omega) q2
      · refine Or.inr ⟨re β m f - 1, by omega, by omega, fun j q1 q2 => ?_, b2 (by omega), x1 _ (by omega) (by omega)⟩
        rw [b1 j q1 (by omega), x1 j q1 (by omega)]
end
