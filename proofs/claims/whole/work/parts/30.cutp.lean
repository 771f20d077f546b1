/-! CUTS, by numbers -/
def cmn (F : Nat → Nat) : Nat → Nat
  | 0 => 2147483647
  | n + 1 => min (cmn F n) (F (n + 1))
def cfp (g : Nat → Nat) (n f k t : Nat) : Nat := shr n (ahd g (f + k) - ahd g f) (ahd g t - ahd g f)
def cb (g : Nat → Nat) (C : Nat → Nat → Nat → Nat → Nat) (f t k way w h : Nat) : Nat :=
  if way = 0 then max (C f (f + k) (cfp g w f k t) h) (C (f + k) t (w - cfp g w f k t) h) else max (C f (f + k) w (cfp g h f k t)) (C (f + k) t w (h - cfp g h f k t))
def cw (g : Nat → Nat) : Nat → Nat → Nat → Nat → Nat → Nat
  | 0, _, _, _, _ => 0
  | d + 1, f, t, w, h => if t ≤ f + 1 then shp (g f) w h else cmn (fun k => min (cb g (cw g d) f t k 0 w h) (cb g (cw g d) f t k 1 w h)) (t - f - 1)
theorem cmn_cg {F F' : Nat → Nat} : ∀ n, (∀ k, 1 ≤ k → k ≤ n → F k = F' k) → cmn F n = cmn F' n
  | 0, _ => rfl
  | n + 1, h => by rw [cmn, cmn, cmn_cg n (fun k q1 q2 => h k q1 (by omega)), h (n + 1) (by omega) (by omega)]
theorem cfp_le (g : Nat → Nat) {n f k t : Nat} (h : f + k ≤ t) : cfp g n f k t ≤ n := by
  have := ahd_mono g h
  exact shr_le (by omega)
theorem cb_cg {g : Nat → Nat} {C C' : Nat → Nat → Nat → Nat → Nat} {f t k way w h : Nat} (e : ∀ w h, C f (f + k) w h = C' f (f + k) w h ∧ C (f + k) t w h = C' (f + k) t w h) : cb g C f t k way w h = cb g C' f t k way w h := by
  unfold cb
  rw [(e _ _).1, (e _ _).2, (e _ _).1, (e _ _).2]
theorem cw_fu (g : Nat → Nat) : ∀ d f t w h, f < t → t ≤ f + d → cw g (d + 1) f t w h = cw g d f t w h := by
  intro d
  induction d with
  | zero => intro f t w h h1 h2; omega
  | succ d ih =>
    intro f t w h h1 h2
    rw [cw]
    conv => rhs; rw [cw]
    by_cases hs : t ≤ f + 1
    · rw [if_pos hs, if_pos hs]
    · rw [if_neg hs, if_neg hs]
      refine cmn_cg _ (fun k q1 q2 => ?_)
      rw [cb_cg (C' := cw g d) (fun w h => ⟨ih f (f + k) w h (by omega) (by omega), ih (f + k) t w h (by omega) (by omega)⟩), cb_cg (C' := cw g d) (fun w h => ⟨ih f (f + k) w h (by omega) (by omega), ih (f + k) t w h (by omega) (by omega)⟩)]
def cv (g : Nat → Nat) (f t w h : Nat) : Nat := cw g 9 f t w h
theorem cv_1 (g : Nat → Nat) {f t w h : Nat} (ht : t = f + 1) : cv g f t w h = shp (g f) w h := by
  unfold cv
  rw [cw, if_pos (by omega)]
def cbv (g : Nat → Nat) (f t k way w h : Nat) : Nat := cb g (cv g) f t k way w h
theorem cv_s (g : Nat → Nat) {f t w h : Nat} (ht : f + 1 < t) (h8 : t ≤ 8) : cv g f t w h = cmn (fun k => min (cbv g f t k 0 w h) (cbv g f t k 1 w h)) (t - f - 1) := by
  have e : cv g f t w h = cmn (fun k => min (cb g (cw g 8) f t k 0 w h) (cb g (cw g 8) f t k 1 w h)) (t - f - 1) := by
    unfold cv
    rw [cw, if_neg (by omega)]
  rw [e]
  refine cmn_cg _ (fun k q1 q2 => ?_)
  unfold cbv
  rw [cb_cg (C' := cv g) (fun w h => ⟨(cw_fu g 8 f (f + k) w h (by omega) (by omega)).symm, (cw_fu g 8 (f + k) t w h (by omega) (by omega)).symm⟩), cb_cg (C' := cv g) (fun w h => ⟨(cw_fu g 8 f (f + k) w h (by omega) (by omega)).symm, (cw_fu g 8 (f + k) t w h (by omega) (by omega)).symm⟩)]
theorem shp_sy (s w h : Nat) : shp s w h = shp s h w := by
  unfold shp
  rw [Nat.max_comm w h, Nat.min_comm w h]
  simp only [or_comm]
theorem cw_sy (g : Nat → Nat) : ∀ d f t w h, cw g d f t w h = cw g d f t h w := by
  intro d
  induction d with
  | zero => intro f t w h; rfl
  | succ d ih =>
    intro f t w h
    rw [cw, cw]
    by_cases hs : t ≤ f + 1
    · rw [if_pos hs, if_pos hs, shp_sy]
    · rw [if_neg hs, if_neg hs]
      refine cmn_cg _ (fun k q1 q2 => ?_)
      have e1 : cb g (cw g d) f t k 0 w h = cb g (cw g d) f t k 1 h w := by
        unfold cb
        rw [if_pos rfl, if_neg (by omega), ih f (f + k) _ h, ih (f + k) t _ h]
      have e2 : cb g (cw g d) f t k 1 w h = cb g (cw g d) f t k 0 h w := by
        unfold cb
        rw [if_pos rfl, if_neg (by omega), ih f (f + k) w, ih (f + k) t w]
      rw [e1, e2, Nat.min_comm]
theorem cv_sy (g : Nat → Nat) (f t w h : Nat) : cv g f t w h = cv g f t h w := cw_sy g 9 f t w h
theorem cbv_sy (g : Nat → Nat) (f t k w h : Nat) : cbv g f t k 1 w h = cbv g f t k 0 h w := by
  unfold cbv cb
  rw [if_pos rfl, if_neg (by omega), cv_sy g f (f + k) w, cv_sy g (f + k) t w]
theorem cmn_le {F : Nat → Nat} : ∀ n k, 1 ≤ k → k ≤ n → cmn F n ≤ F k
  | 0, k, h1, h2 => absurd h2 (by omega)
  | n + 1, k, h1, h2 => by
    rw [cmn]
    by_cases hk : k = n + 1
    · subst hk; omega
    · have := cmn_le (F := F) n k h1 (by omega); omega
theorem cmn_ge {F : Nat → Nat} {v : Nat} : ∀ n, v ≤ 2147483647 → (∀ k, 1 ≤ k → k ≤ n → v ≤ F k) → v ≤ cmn F n
  | 0, h, _ => h
  | n + 1, h, hk => by
    rw [cmn]
    have := cmn_ge (F := F) n h (fun k q1 q2 => hk k q1 (by omega))
    have := hk (n + 1) (by omega) (by omega)
    omega
theorem cw_bd (g : Nat → Nat) : ∀ d f t w h, w ≤ 3000 → h ≤ 3000 → cw g d f t w h ≤ 3000000 := by
  intro d
  induction d with
  | zero => intro f t w h _ _; exact Nat.zero_le _
  | succ d ih =>
    intro f t w h hw hh
    rw [cw]
    by_cases hs : t ≤ f + 1
    · rw [if_pos hs]; exact shp_le hw hh
    · rw [if_neg hs]
      refine Nat.le_trans (cmn_le (t - f - 1) 1 (by omega) (by omega)) (Nat.le_trans (Nat.min_le_left _ _) ?_)
      have c := cfp_le g (n := w) (show f + 1 ≤ t by omega)
      have i1 := ih f (f + 1) (cfp g w f 1 t) h (by omega) hh
      have i2 := ih (f + 1) t (w - cfp g w f 1 t) h (by omega) hh
      unfold cb
      rw [if_pos rfl]
      omega
theorem cv_bd (g : Nat → Nat) {f t w h : Nat} (hw : w ≤ 3000) (hh : h ≤ 3000) : cv g f t w h ≤ 3000000 := cw_bd g 9 f t w h hw hh
theorem cbv_bd (g : Nat → Nat) {f t k way w h : Nat} (hk : f + k ≤ t) (hw : w ≤ 3000) (hh : h ≤ 3000) : cbv g f t k way w h ≤ 3000000 := by
  have c1 := cfp_le g (n := w) hk
  have c2 := cfp_le g (n := h) hk
  unfold cbv cb
  split
  · have := cv_bd g (f := f) (t := f + k) (w := cfp g w f k t) (h := h) (by omega) hh
    have := cv_bd g (f := f + k) (t := t) (w := w - cfp g w f k t) (h := h) (by omega) hh
    omega
  · have := cv_bd g (f := f) (t := f + k) (w := w) (h := cfp g h f k t) hw (by omega)
    have := cv_bd g (f := f + k) (t := t) (w := w) (h := h - cfp g h f k t) hw (by omega)
    omega
theorem ahd_s (g : Nat → Nat) (i : Nat) : ahd g (i + 1) = ahd g i + g i := by
  unfold ahd
  rw [rs_split g 0 i 1]
  simp [rs]
/-- nothing is wide: every shape is flat -/
theorem cw_fl (g : Nat → Nat) : ∀ d f t h, f < t → t ≤ f + d → cw g d f t 0 h = if ahd g t = ahd g f then 0 else 1000000 := by
  intro d
  induction d with
  | zero => intro f t h h1 h2; omega
  | succ d ih =>
    intro f t h h1 h2
    rw [cw]
    by_cases hs : t ≤ f + 1
    · rw [if_pos hs, show t = f + 1 by omega, ahd_s]
      unfold shp
      by_cases h0 : g f = 0
      · rw [if_pos h0, if_pos (by omega)]
      · rw [if_neg h0, if_pos (Or.inl rfl), if_neg (by omega)]
    · rw [if_neg hs]
      have ec : ∀ k, 1 ≤ k → k ≤ t - f - 1 → min (cb g (cw g d) f t k 0 0 h) (cb g (cw g d) f t k 1 0 h) = if ahd g t = ahd g f then 0 else 1000000 := by
        intro k q1 q2
        have c0 : cfp g 0 f k t = 0 := by have := cfp_le g (n := 0) (show f + k ≤ t by omega); omega
        have m1 := ahd_mono g (show f ≤ f + k by omega)
        have m2 := ahd_mono g (show f + k ≤ t by omega)
        unfold cb
        rw [if_pos rfl, if_neg (by omega), c0, ih f (f + k) h (by omega) (by omega), ih (f + k) t h (by omega) (by omega), ih f (f + k) _ (by omega) (by omega), ih (f + k) t _ (by omega) (by omega)]
        by_cases z1 : ahd g (f + k) = ahd g f
        · rw [if_pos z1]
          by_cases z2 : ahd g t = ahd g (f + k)
          · rw [if_pos z2, if_pos (by omega)]; rfl
          · rw [if_neg z2, if_neg (by omega)]; rfl
        · rw [if_neg z1, if_neg (show ¬ ahd g t = ahd g f by omega)]
          split <;> rfl
      have a := cmn_le (F := fun k => min (cb g (cw g d) f t k 0 0 h) (cb g (cw g d) f t k 1 0 h)) (t - f - 1) 1 (by omega) (by omega)
      have b := cmn_ge (F := fun k => min (cb g (cw g d) f t k 0 0 h) (cb g (cw g d) f t k 1 0 h)) (v := if ahd g t = ahd g f then 0 else 1000000) (t - f - 1) (by split <;> omega) (fun k q1 q2 => by show _ ≤ min _ _; rw [ec k q1 q2]; exact Nat.le_refl _)
      rw [ec 1 (by omega) (by omega)] at a
      omega
theorem cw_z (g : Nat → Nat) : ∀ d f t w h, f < t → t ≤ f + d → ahd g t = ahd g f → cw g d f t w h = 0 := by
  intro d
  induction d with
  | zero => intro f t w h h1 h2; omega
  | succ d ih =>
    intro f t w h h1 h2 hz
    rw [cw]
    by_cases hs : t ≤ f + 1
    · rw [show t = f + 1 by omega, ahd_s] at hz
      rw [if_pos hs]
      unfold shp
      rw [if_pos (by omega)]
    · rw [if_neg hs]
      have m1 := ahd_mono g (show f ≤ f + 1 by omega)
      have m2 := ahd_mono g (show f + 1 ≤ t by omega)
      have a := cmn_le (F := fun k => min (cb g (cw g d) f t k 0 w h) (cb g (cw g d) f t k 1 w h)) (t - f - 1) 1 (by omega) (by omega)
      have b : cb g (cw g d) f t 1 0 w h = 0 := by
        unfold cb
        rw [if_pos rfl, ih f (f + 1) _ _ (by omega) (by omega) (by omega), ih (f + 1) t _ _ (by omega) (by omega) (by omega)]
        rfl
      omega
/-- the first least of the cuts c = 2 .. : c / 2 ITEMS first, c % 2 the way -/
def fm (F : Nat → Nat) : Nat → Nat
  | 0 => 2
  | j + 1 => if F (2 + (j + 1)) < F (fm F j) then 2 + (j + 1) else fm F j
theorem fm_b (F : Nat → Nat) : ∀ j, 2 ≤ fm F j ∧ fm F j ≤ 2 + j
  | 0 => by rw [fm]; omega
  | j + 1 => by
    have := fm_b F j
    rw [fm]
    split <;> omega
def cF (g : Nat → Nat) (f t w h c : Nat) : Nat := cbv g f t (c / 2) (c % 2) w h
def cB (g : Nat → Nat) (f t w h : Nat) : Nat := fm (cF g f t w h) (2 * (t - f) - 3)
theorem cB_b (g : Nat → Nat) {f t w h : Nat} (ht : f + 1 < t) : 2 ≤ cB g f t w h ∧ cB g f t w h < 2 * (t - f) := by
  have := fm_b (cF g f t w h) (2 * (t - f) - 3)
  unfold cB
  omega
def cuR (g : Nat → Nat) : Nat → Nat → Nat → Nat → Nat → Nat → Nat → Nat → Nat → Nat
  | 0, _, _, _, _, _, _ => fun _ _ => 0
  | d + 1, f, t, x, y, w, h => fun k i =>
    if t ≤ f + 1 then (if k = 0 then x else if k = 1 then y else if k = 2 then w else h)
    else
      if i < f + cB g f t w h / 2 then (if cB g f t w h % 2 = 0 then cuR g d f (f + cB g f t w h / 2) x y (cfp g w f (cB g f t w h / 2) t) h k i else cuR g d f (f + cB g f t w h / 2) x y w (cfp g h f (cB g f t w h / 2) t) k i)
      else (if cB g f t w h % 2 = 0 then cuR g d (f + cB g f t w h / 2) t (x + cfp g w f (cB g f t w h / 2) t) y (w - cfp g w f (cB g f t w h / 2) t) h k i else cuR g d (f + cB g f t w h / 2) t x (y + cfp g h f (cB g f t w h / 2) t) w (h - cfp g h f (cB g f t w h / 2) t) k i)
theorem cuR_bd (g : Nat → Nat) : ∀ d f t x y w h i, f < t → t ≤ f + d → cuR g d f t x y w h 0 i + cuR g d f t x y w h 2 i ≤ x + w ∧ cuR g d f t x y w h 1 i + cuR g d f t x y w h 3 i ≤ y + h := by
  intro d
  induction d with
  | zero => intro f t x y w h i h1 h2; omega
  | succ d ih =>
    intro f t x y w h i h1 h2
    rw [cuR]
    by_cases hs : t ≤ f + 1
    · simp only [if_pos hs]
      exact ⟨Nat.le_refl _, Nat.le_refl _⟩
    · have hb := cB_b g (w := w) (h := h) (show f + 1 < t by omega)
      simp only [if_neg hs]
      have c1 := cfp_le g (n := w) (f := f) (k := cB g f t w h / 2) (t := t) (by omega)
      have c2 := cfp_le g (n := h) (f := f) (k := cB g f t w h / 2) (t := t) (by omega)
      by_cases hi : i < f + cB g f t w h / 2
      · simp only [if_pos hi]
        by_cases hc : cB g f t w h % 2 = 0
        · simp only [if_pos hc]
          have := ih f (f + cB g f t w h / 2) x y (cfp g w f (cB g f t w h / 2) t) h i (by omega) (by omega)
          omega
        · simp only [if_neg hc]
          have := ih f (f + cB g f t w h / 2) x y w (cfp g h f (cB g f t w h / 2) t) i (by omega) (by omega)
          omega
      · simp only [if_neg hi]
        by_cases hc : cB g f t w h % 2 = 0
        · simp only [if_pos hc]
          have := ih (f + cB g f t w h / 2) t (x + cfp g w f (cB g f t w h / 2) t) y (w - cfp g w f (cB g f t w h / 2) t) h i (by omega) (by omega)
          omega
        · simp only [if_neg hc]
          have := ih (f + cB g f t w h / 2) t x (y + cfp g h f (cB g f t w h / 2) t) w (h - cfp g h f (cB g f t w h / 2) t) i (by omega) (by omega)
          omega
