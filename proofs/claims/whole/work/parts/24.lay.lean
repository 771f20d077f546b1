/-! LAYINGS, by numbers: r 0 i, r 1 i, r 2 i, r 3 i: x, y, wide, high of ITEM i; g the sizes -/
def shr (n s a : Nat) : Nat := if a = 0 then 0 else n * s / a
def ahd (g : Nat → Nat) (k : Nat) : Nat := rs g 0 k
def bg (g : Nat → Nat) (i n f t : Nat) : Nat := if t ≤ i then n else shr n (ahd g i - ahd g f) (ahd g t - ahd g f)
def wsN (g : Nat → Nat) (r : Nat → Nat → Nat) : Nat → Nat
  | 0 => 0
  | i + 1 => max (wsN g r i) (shp (g i) (r 2 i) (r 3 i))
theorem ahd_mono (g : Nat → Nat) {i j : Nat} (h : i ≤ j) : ahd g i ≤ ahd g j := by
  unfold ahd
  obtain ⟨k, rfl⟩ : ∃ k, j = i + k := ⟨j - i, by omega⟩
  rw [rs_split]
  omega
theorem shr_le {n s a : Nat} (h : s ≤ a) : shr n s a ≤ n := by
  unfold shr
  by_cases h0 : a = 0
  · rw [if_pos h0]; omega
  · rw [if_neg h0]
    exact Nat.div_le_of_le_mul (by rw [Nat.mul_comm]; exact Nat.mul_le_mul_right _ h)
theorem shr_mono {n s t a : Nat} (h : s ≤ t) : shr n s a ≤ shr n t a := by
  unfold shr
  by_cases h0 : a = 0
  · rw [if_pos h0, if_pos h0]; omega
  · rw [if_neg h0, if_neg h0]
    exact Nat.div_le_div_right (Nat.mul_le_mul_left _ h)
theorem bg_le (g : Nat → Nat) (i n f t : Nat) : bg g i n f t ≤ n := by
  unfold bg
  by_cases h : t ≤ i
  · rw [if_pos h]; omega
  · rw [if_neg h]
    have := ahd_mono g (show i ≤ t by omega)
    exact shr_le (by omega)
theorem bg_mono (g : Nat → Nat) {i j : Nat} (n f t : Nat) (h : i ≤ j) : bg g i n f t ≤ bg g j n f t := by
  by_cases hj : t ≤ j
  · have := bg_le g i n f t
    unfold bg at this ⊢
    rw [if_pos hj]
    exact this
  · unfold bg
    rw [if_neg (by omega), if_neg hj]
    have := ahd_mono g h
    exact shr_mono (by omega)
theorem shareX {M : sy_M} {n s a : Nat} {Q : Int32 → sy_M → Prop} (hn : n ≤ 3000) (ha : a ≤ 400000000) (hs : s ≤ a) : wX11_share M (nI n) (nI s) (nI a) Q ↔ Q (nI (shr n s a)) M := by
  unfold wX11_share shr
  rw [nI_0p (by omega), nI_l (show n < 2 ^ 31 by omega), nI_l (show s < 2 ^ 31 by omega), nI_l (show a < 2 ^ 31 by omega), lN_mul]
  have hns : n * s ≤ 3000 * 400000000 := Nat.mul_le_mul hn (by omega)
  by_cases h0 : a = 0
  · simp [h0, nI_0]
  · have h1 : 0 < a := by omega
    rw [pk_lDiv (show n * s < 2 ^ 63 by omega) h1 (by omega), lN_i]
    have h2 : ¬ lN a = 0 := by
      rw [show (0 : Int64) = lN 0 from rfl, pk_lEQ (by omega) (by omega)]
      exact h0
    simp [h0, h1, h2]
/-- the sums ahead, in both memories; m items, all sizes together not above 4e8 -/
def ahX (g : Nat → Nat) (m : Nat) (M : sy_M) : Prop := m ≤ 8 ∧ ahd g m ≤ 400000000 ∧ ∀ i, i ≤ m → M 31 i = nI (ahd g i)
def ahZ (g : Nat → Nat) (m : Nat) (M : sy_M) : Prop := m ≤ 8 ∧ ahd g m ≤ 400000000 ∧ ∀ i, i ≤ m → M 23 i = nI (ahd g i)
theorem sumX {M : sy_M} {g : Nat → Nat} {m f t : Nat} {Q : Int32 → sy_M → Prop} (h : ahX g m M) (hf : f ≤ t) (ht : t ≤ m) : wX3_sum M (nI f) (nI t) Q ↔ Q (nI (ahd g t - ahd g f)) M := by
  unfold wX3_sum
  have := h.1
  rw [ex_nI (show t < 9 by omega) (by omega), ex_nI (show f < 9 by omega) (by omega), h.2.2 t ht, h.2.2 f (by omega), pk_sub (ahd_mono g hf)]
theorem sumZ {M : sy_M} {g : Nat → Nat} {m f t : Nat} {Q : Int32 → sy_M → Prop} (h : ahZ g m M) (hf : f ≤ t) (ht : t ≤ m) : wX12_sum M (nI f) (nI t) Q ↔ Q (nI (ahd g t - ahd g f)) M := by
  unfold wX12_sum
  have := h.1
  rw [ex_nI (show t < 10 by omega) (by omega), ex_nI (show f < 10 by omega) (by omega), h.2.2 t ht, h.2.2 f (by omega), pk_sub (ahd_mono g hf)]
theorem beginX {M : sy_M} {g : Nat → Nat} {m i n f t : Nat} {Q : Int32 → sy_M → Prop} (h : ahX g m M) (hn : n ≤ 3000) (hfi : f ≤ i) (hft : f ≤ t) (ht : t ≤ m) (hi : i ≤ 9) : wX3_begin M (nI i) (nI n) (nI f) (nI t) Q ↔ Q (nI (bg g i n f t)) M := by
  unfold wX3_begin bg
  have := h.1
  rw [nI_ltI (by omega) (by omega)]
  by_cases hit : i < t
  · rw [if_neg (by omega)]
    have m1 := ahd_mono g hfi
    have m2 := ahd_mono g (show i ≤ t by omega)
    have m3 := ahd_mono g ht
    have m4 := h.2.1
    simp only [hit, true_implies, not_true_eq_false, false_implies, and_true, sumX h hfi (show i ≤ m by omega), sumX h hft ht, shareX hn (show ahd g t - ahd g f ≤ 400000000 by omega) (show ahd g i - ahd g f ≤ ahd g t - ahd g f by omega)]
  · rw [if_pos (by omega)]
    simp only [hit, false_implies, true_and, not_false_eq_true, true_implies]
/-- the reference's parts -/
theorem partsZ {M : sy_M} {g : Nat → Nat} {m n f t : Nat} {Q : sy_M → Prop} (h : ahZ g m M) (hn : n ≤ 3000) (hft : f ≤ t) (ht : t ≤ m)
    (hq : ∀ M', (∀ k, f ≤ k → k < t → M' 22 k = nI (bg g k n f t)) → (∀ q, q ≠ 22 → M' q = M q) → Q M') : wX12_parts M (nI n) (nI f) (nI t) Q := by
  have hm := h.1
  have m3 := ahd_mono g ht
  have m4 := h.2.1
  have key : ∀ r k M1, k + r = t → f ≤ k → (∀ j, f ≤ j → j < k → M1 22 j = nI (bg g j n f t)) → (∀ q, q ≠ 22 → M1 q = M q) → wX12_parts_11 Q (r + 1) M1 (nI n) (nI f) (nI t) (nI (ahd g t - ahd g f)) (nI k) := by
    intro r
    induction r with
    | zero =>
      intro k M1 hk hfk h1 h2
      rw [wX12_parts_11]
      have : nI t ≤ nI k := nI_le (by omega) (by omega)
      exact ⟨fun _ => hq M1 (fun j q1 q2 => h1 j q1 (by omega)) h2, fun h => absurd this h⟩
    | succ r ih =>
      intro k M1 hk hfk h1 h2
      rw [wX12_parts_11]
      have e1 : ¬ nI t ≤ nI k := nI_ge (by omega) (by omega)
      have hah : ahZ g m M1 := ⟨h.1, h.2.1, fun i hi => by rw [h2 23 (by omega)]; exact h.2.2 i hi⟩
      have m1 := ahd_mono g hfk
      have m2 := ahd_mono g (show k ≤ t by omega)
      simp only [e1, false_implies, true_implies, not_false_eq_true, true_and]
      rw [nI_0i (by omega), nI_1]
      have step : ∀ v : Nat, v = bg g k n f t → wX12_parts_11 Q (r + 1) (mu M1 22 k (nI v)) (nI n) (nI f) (nI t) (nI (ahd g t - ahd g f)) (nI (k + 1)) := by
        intro v hv
        refine ih (k + 1) _ (by omega) (by omega) (fun j q1 q2 => ?_) (fun q q1 => by rw [mu_oth q1]; exact h2 q q1)
        rw [mu_ap]
        by_cases hj : j = k
        · subst hj; rw [if_pos ⟨rfl, rfl⟩, hv]
        · rw [if_neg (by omega)]; exact h1 j q1 (by omega)
      refine ⟨fun h0 => ?_, fun h0 => ?_⟩
      · rw [sumZ hah hfk (by omega)]
        have hns : n * (ahd g k - ahd g f) ≤ 3000 * 400000000 := Nat.mul_le_mul hn (by omega)
        rw [nI_l (show n < 2 ^ 31 by omega), nI_l (show ahd g k - ahd g f < 2 ^ 31 by omega), nI_l (show ahd g t - ahd g f < 2 ^ 31 by omega), lN_mul, pk_lDiv (show n * (ahd g k - ahd g f) < 2 ^ 63 by omega) (by omega) (by omega), lN_i, ex_nI (show k < 9 by omega) (by omega)]
        refine ⟨?_, step _ ?_⟩
        · rw [show (0 : Int64) = lN 0 from rfl, pk_lEQ (by omega) (by omega)]
          exact h0
        · unfold bg shr
          rw [if_neg (by omega), if_neg h0]
      · rw [ex_nI (show k < 9 by omega) (by omega)]
        refine step 0 ?_
        unfold bg shr
        rw [if_neg (by omega), if_pos h0]
  unfold wX12_parts
  rw [sumZ h hft ht]
  exact ⟨t - f + 1, key (t - f) f M (by omega) (Nat.le_refl _) (fun j q1 q2 => absurd q1 (by omega)) (fun _ _ => rfl)⟩
theorem partEndZ {M : sy_M} {g : Nat → Nat} {n k f t : Nat} {Q : Int32 → sy_M → Prop} (hk : k < t) (ht : t ≤ 8) (h : ∀ j, f ≤ j → j < t → M 22 j = nI (bg g j n f t)) (hf : f ≤ k) : wX12_partEnd M (nI n) (nI k) (nI t) Q ↔ Q (nI (bg g (k + 1) n f t)) M := by
  unfold wX12_partEnd
  rw [nI_1, nI_eq (by omega) (by omega)]
  by_cases hkt : k + 1 = t
  · subst hkt
    have : bg g (k + 1) n f (k + 1) = n := by unfold bg; rw [if_pos (by omega)]
    rw [this]
    simp
  · simp only [hkt, not_false_eq_true, true_implies, false_implies, and_true]
    rw [ex_nI (show k + 1 < 9 by omega) (by omega), h (k + 1) (by omega) (by omega)]
/-- a laying, in a plan of the class at p; in the reference's rows -/
def plX (p : Nat) (r : Nat → Nat → Nat) (m : Nat) (M : sy_M) : Prop := ∀ i, i < m → M (p + 1 + 1) i = nI (r 0 i) ∧ M (p + 1 + 2) i = nI (r 1 i) ∧ M (p + 1 + 3) i = nI (r 2 i) ∧ M (p + 1 + 4) i = nI (r 3 i)
def plZ (r : Nat → Nat → Nat) (m : Nat) (M : sy_M) : Prop := ∀ i, i < m → M 18 i = nI (r 0 i) ∧ M 19 i = nI (r 1 i) ∧ M 20 i = nI (r 2 i) ∧ M 21 i = nI (r 3 i)
def ptX (M : sy_M) (p i x y w h v : Nat) : sy_M := mu (mu (mu (mu (mu M (p + 1 + 1) i (nI x)) (p + 1 + 2) i (nI y)) (p + 1 + 3) i (nI w)) (p + 1 + 4) i (nI h)) p 0 (nI v)
theorem lX7_p {p : Nat} (hp : iX5 p) : lX7 (p + 1) = 8 := by
  rcases hp with h | h | h <;> subst h <;> rfl
theorem putX {M : sy_M} {p i x y w h W s : Nat} {Q : sy_M → Prop} (hp : iX5 p) (hi : i < 8) (hw : w ≤ 3000) (hh : h ≤ 3000) (hW : M p 0 = nI W) (hW2 : W < 2 ^ 31) (hs : M 30 i = nI s) (hs2 : s < 2 ^ 31) : wX5_put M p (nI i) (nI x) (nI y) (nI w) (nI h) Q ↔ Q (ptX M p i x y w h (max W (shp s w h))) := by
  have hp2 : 33 ≤ p ∧ p ≤ 47 := by unfold iX5 at hp; omega
  have hsh : shp s w h < 2 ^ 31 := by
    unfold shp
    split
    · omega
    · split
      · omega
      · have : max w h * 1000 / min w h ≤ max w h * 1000 := Nat.div_le_self _ _
        omega
  have hk : i < lX7 (p + 1) := by rw [lX7_p hp]; exact hi
  have e30 : ∀ q v, 33 ≤ q → mu M q i v 30 i = M 30 i := fun q v hq => mu_n1 _ _ _ _ (by omega)
  unfold wX5_put wX7_put
  rw [ex_nI hk (by rw [lX7_p hp]; omega)]
  dsimp only
  rw [ex_nI hi (by omega)]
  rw [mu_n1 _ _ _ _ (show (30 : Nat) ≠ p + 1 + 4 by omega), mu_n1 _ _ _ _ (show (30 : Nat) ≠ p + 1 + 3 by omega), mu_n1 _ _ _ _ (show (30 : Nat) ≠ p + 1 + 2 by omega), mu_n1 _ _ _ _ (show (30 : Nat) ≠ p + 1 + 1 by omega), hs, shapeX hs2 hw hh]
  rw [mu_n1 _ _ _ _ (show p ≠ p + 1 + 4 by omega), mu_n1 _ _ _ _ (show p ≠ p + 1 + 3 by omega), mu_n1 _ _ _ _ (show p ≠ p + 1 + 2 by omega), mu_n1 _ _ _ _ (show p ≠ p + 1 + 1 by omega), hW, imax_nI hW2 hsh]
  rfl
theorem ptX_o {M : sy_M} {p i x y w h v q : Nat} (hq : q < p ∨ p + 6 ≤ q) : ptX M p i x y w h v q = M q := by
  unfold ptX
  rw [mu_oth (by omega), mu_oth (by omega), mu_oth (by omega), mu_oth (by omega), mu_oth (by omega)]
theorem ptX_v (M : sy_M) (p i x y w h v : Nat) : ptX M p i x y w h v p 0 = nI v := mu_eq _ _ _ _
theorem ptX_in (M : sy_M) (p i x y w h v : Nat) : ptX M p i x y w h v (p + 1 + 1) i = nI x ∧ ptX M p i x y w h v (p + 1 + 2) i = nI y ∧ ptX M p i x y w h v (p + 1 + 3) i = nI w ∧ ptX M p i x y w h v (p + 1 + 4) i = nI h := by
  unfold ptX
  refine ⟨?_, ?_, ?_, ?_⟩
  · rw [mu_n1 _ _ _ _ (by omega), mu_n1 _ _ _ _ (by omega), mu_n1 _ _ _ _ (by omega), mu_n1 _ _ _ _ (by omega), mu_eq]
  · rw [mu_n1 _ _ _ _ (by omega), mu_n1 _ _ _ _ (by omega), mu_n1 _ _ _ _ (by omega), mu_eq]
  · rw [mu_n1 _ _ _ _ (by omega), mu_n1 _ _ _ _ (by omega), mu_eq]
  · rw [mu_n1 _ _ _ _ (by omega), mu_eq]
theorem ptX_ne {M : sy_M} {p i x y w h v j : Nat} (hj : j ≠ i) (k : Nat) (hk : 1 ≤ k) : ptX M p i x y w h v (p + 1 + k) j = M (p + 1 + k) j := by
  unfold ptX
  rw [mu_n1 _ _ _ _ (by omega), mu_n2 _ _ _ _ hj, mu_n2 _ _ _ _ hj, mu_n2 _ _ _ _ hj, mu_n2 _ _ _ _ hj]
theorem shp_le {s w h : Nat} (hw : w ≤ 3000) (hh : h ≤ 3000) : shp s w h ≤ 3000000 := by
  unfold shp
  split
  · omega
  · split
    · omega
    · have : max w h * 1000 / min w h ≤ max w h * 1000 := Nat.div_le_self _ _
      omega
theorem wsN_le {g : Nat → Nat} {r : Nat → Nat → Nat} : ∀ m, (∀ i, i < m → r 2 i ≤ 3000 ∧ r 3 i ≤ 3000) → wsN g r m ≤ 3000000
  | 0, _ => Nat.zero_le _
  | m + 1, h => by
    have h1 := wsN_le (g := g) (r := r) m (fun i hi => h i (by omega))
    have h2 := shp_le (s := g m) (h m (by omega)).1 (h m (by omega)).2
    rw [wsN]
    omega
/-- the reference's worst() -/
theorem worstZ2 {M : sy_M} {m : Nat} {g : Nat → Nat} {r : Nat → Nat → Nat} {Q : Int32 → sy_M → Prop} (hm : M 0 30 = nI m) (hm8 : m ≤ 8) (hg : ∀ i, i < m → g i < 2 ^ 31 ∧ M 17 i = nI (g i)) (hr : ∀ i, i < m → r 2 i ≤ 3000 ∧ r 3 i ≤ 3000) (hp : plZ r m M) (hq : Q (nI (wsN g r m)) M) : wX12_worst M Q := by
  have key : ∀ q k, k + q = m → wX12_worst_4 Q (q + 1) M (nI (wsN g r k)) (nI k) := by
    intro q
    induction q with
    | zero =>
      intro k hk
      have : k = m := by omega
      subst this
      rw [wX12_worst_4, hm]
      have : nI k ≤ nI k := nI_le (Nat.le_refl _) (by omega)
      exact ⟨fun _ => hq, fun h => absurd this h⟩
    | succ q ih =>
      intro k hk
      rw [wX12_worst_4, hm]
      have e1 : ¬ nI m ≤ nI k := nI_ge (by omega) (by omega)
      simp only [e1, false_implies, true_implies, not_false_eq_true, true_and]
      obtain ⟨p1, p2, p3, p4⟩ := hp k (by omega)
      have hwl := wsN_le (g := g) (r := r) k (fun i hi => hr i (by omega))
      have hsl := shp_le (s := g k) (hr k (by omega)).1 (hr k (by omega)).2
      rw [ex_nI (show k < 9 by omega) (by omega), (hg k (by omega)).2, p3, p4, shapeZ (hg k (by omega)).1 (hr k (by omega)).1 (hr k (by omega)).2, imax_nI (by omega) (by omega), nI_1]
      exact ih (k + 1) (by omega)
  exact ⟨m + 1, key m 0 (by omega)⟩
/-- what a laying is made from -/
def inX (m : Nat) (g : Nat → Nat) (x y w h : Nat) (M : sy_M) : Prop := (1 ≤ m ∧ x + w ≤ 3000 ∧ y + h ≤ 3000) ∧ M 28 0 = nI m ∧ (M 28 4 = nI x ∧ M 28 5 = nI y ∧ M 28 6 = nI w ∧ M 28 7 = nI h) ∧ (∀ i, i < m → g i < 2 ^ 31 ∧ M 30 i = nI (g i)) ∧ ahX g m M
def inZ (m : Nat) (g : Nat → Nat) (M : sy_M) : Prop := 1 ≤ m ∧ M 0 30 = nI m ∧ (∀ i, i < m → g i < 2 ^ 31 ∧ M 17 i = nI (g i)) ∧ ahZ g m M
theorem inX.cg {m x y w h : Nat} {g : Nat → Nat} {M M' : sy_M} (hi : inX m g x y w h M) (e1 : M' 28 = M 28) (e2 : M' 30 = M 30) (e3 : M' 31 = M 31) : inX m g x y w h M' := by
  unfold inX ahX
  rw [e1, e2, e3]
  exact hi
theorem inZ.cg {m : Nat} {g : Nat → Nat} {M M' : sy_M} (hi : inZ m g M) (e1 : M' 0 = M 0) (e2 : M' 17 = M 17) (e3 : M' 23 = M 23) : inZ m g M' := by
  unfold inZ ahZ
  rw [e1, e2, e3]
  exact hi
/-- what a laying into the plan at p may change -/
def frX (p : Nat) (M M' : sy_M) : Prop := ∀ q, (q < p ∨ p + 6 ≤ q) → (q < 54 ∨ 58 < q) → M' q = M q
def frZ (M M' : sy_M) : Prop := ∀ q, q ≠ 18 → q ≠ 19 → q ≠ 20 → q ≠ 21 → q ≠ 22 → q ≠ 24 → M' q = M q
theorem inX.fr {m x y w h p : Nat} {g : Nat → Nat} {M M' : sy_M} (hi : inX m g x y w h M) (hp : iX5 p) (hf : frX p M M') : inX m g x y w h M' := by
  have hp2 : 33 ≤ p ∧ p ≤ 47 := by unfold iX5 at hp; omega
  exact hi.cg (hf 28 (by omega) (by omega)) (hf 30 (by omega) (by omega)) (hf 31 (by omega) (by omega))
theorem inZ.fr {m : Nat} {g : Nat → Nat} {M M' : sy_M} (hi : inZ m g M) (hf : frZ M M') : inZ m g M' :=
  hi.cg (hf 0 (by omega) (by omega) (by omega) (by omega) (by omega) (by omega)) (hf 17 (by omega) (by omega) (by omega) (by omega) (by omega) (by omega)) (hf 23 (by omega) (by omega) (by omega) (by omega) (by omega) (by omega))
/-- slice -/
def slR (g : Nat → Nat) (m x y w h : Nat) : Nat → Nat → Nat := fun k i =>
  if h ≤ w then (if k = 0 then x + bg g i w 0 m else if k = 1 then y else if k = 2 then bg g (i + 1) w 0 m - bg g i w 0 m else h)
  else (if k = 0 then x else if k = 1 then y + bg g i h 0 m else if k = 2 then w else bg g (i + 1) h 0 m - bg g i h 0 m)
theorem sliceX {M : sy_M} {p m x y w h : Nat} {g : Nat → Nat} {Q : sy_M → Prop} (hp : iX5 p) (hi : inX m g x y w h M)
    (hq : ∀ M', plX p (slR g m x y w h) m M' → M' p 0 = nI (wsN g (slR g m x y w h) m) → frX p M M' → Q M') : wX4_laySlice M p Q := by
  have hp2 : 33 ≤ p ∧ p ≤ 47 := by unfold iX5 at hp; omega
  obtain ⟨⟨hm1, hxw, hyh⟩, i1, ⟨i2, i3, i4, i5⟩, i6, i7⟩ := id hi
  have hm8 := i7.1
  have rb : ∀ i, slR g m x y w h 2 i ≤ 3000 ∧ slR g m x y w h 3 i ≤ 3000 := by
    intro i
    have b1 := bg_le g (i + 1) w 0 m
    have b2 := bg_le g (i + 1) h 0 m
    unfold slR
    by_cases c : h ≤ w
    · simp only [c, if_true]; constructor <;> simp <;> omega
    · simp only [c, if_false]; constructor <;> simp <;> omega
  have key : ∀ (n : Nat) (s0 : Int32), n ≤ 3000 → (s0 = (if h ≤ w then 1 else 0)) → (n = if h ≤ w then w else h) → ∀ r k M1, k + r = m → plX p (slR g m x y w h) k M1 → M1 p 0 = nI (wsN g (slR g m x y w h) k) → frX p M M1 → wX4_laySlice_53 Q (r + 1) M1 p s0 (nI n) (nI k) := by
    intro n s0 hn hs0 hne r
    induction r with
    | zero =>
      intro k M1 hk h1 h2 h3
      have : k = m := by omega
      subst this
      have hX := hi.fr hp h3
      rw [wX4_laySlice_53, hX.2.1]
      have : nI k ≤ nI k := nI_le (Nat.le_refl _) (by omega)
      exact ⟨fun _ => hq M1 h1 h2 h3, fun h => absurd this h⟩
    | succ r ih =>
      intro k M1 hk h1 h2 h3
      have hX := hi.fr hp h3
      obtain ⟨-, j1, ⟨j2, j3, j4, j5⟩, j6, j7⟩ := id hX
      rw [wX4_laySlice_53, j1]
      have e1 : ¬ nI m ≤ nI k := nI_ge (by omega) (by omega)
      simp only [e1, false_implies, true_implies, not_false_eq_true, true_and]
      rw [show (0 : Int32) = nI 0 from rfl, beginX j7 hn (by omega) (by omega) (Nat.le_refl _) (by omega), nI_1, j1, beginX j7 hn (by omega) (by omega) (Nat.le_refl _) (by omega)]
      have bm := bg_mono g n 0 m (show k ≤ k + 1 by omega)
      have bl := bg_le g (k + 1) n 0 m
      have hwl := wsN_le (g := g) (r := slR g m x y w h) k (fun i _ => rb i)
      rw [j2, j3, j4, j5, nI_add, nI_add, pk_sub bm]
      have fin : ∀ X Y W H, X = slR g m x y w h 0 k → Y = slR g m x y w h 1 k → W = slR g m x y w h 2 k → H = slR g m x y w h 3 k → wX5_put M1 p (nI k) (nI X) (nI Y) (nI W) (nI H) (fun M9 => wX4_laySlice_53 Q (r + 1) M9 p s0 (nI n) (nI (k + 1))) := by
        intro X Y W H eX eY eW eH
        have r1 := rb k
        rw [putX hp (by omega) (by rw [eW]; exact r1.1) (by rw [eH]; exact r1.2) h2 (by omega) (j6 k (by omega)).2 (j6 k (by omega)).1]
        refine ih (k + 1) _ (by omega) (fun i hi2 => ?_) ?_ (fun q q1 q2 => by rw [ptX_o q1]; exact h3 q q1 q2)
        · by_cases hik : i = k
          · subst hik
            rw [← eX, ← eY, ← eW, ← eH]
            exact ptX_in _ _ _ _ _ _ _ _
          · rw [ptX_ne hik 1 (by omega), ptX_ne hik 2 (by omega), ptX_ne hik 3 (by omega), ptX_ne hik 4 (by omega)]
            exact h1 i (by omega)
        · rw [ptX_v, wsN, eW, eH]
      by_cases c : h ≤ w
      · rw [if_pos c] at hs0 hne
        subst hs0 hne
        simp only [nI_0, i10, false_implies, true_implies, not_false_eq_true, true_and]
        refine fin _ _ _ _ ?_ ?_ ?_ ?_ <;> simp [slR, c]
      · rw [if_neg c] at hs0 hne
        subst hs0 hne
        simp only [nI_0, eq_self, false_implies, true_implies, not_true_eq_false, and_true]
        refine fin _ _ _ _ ?_ ?_ ?_ ?_ <;> simp [slR, c]
  unfold wX4_laySlice
  have e0 : ∀ k, mu M p 0 0 28 k = M 28 k := fun k => mu_n1 _ _ _ _ (by omega)
  rw [e0, e0, i4, i5, nI_ltI (by omega) (by omega)]
  have f0 : frX p M (mu M p 0 0) := fun q q1 _ => mu_oth (by omega)
  unfold wX4_laySlice_27
  rw [e0, e0, i4, i5]
  refine ⟨fun hlt => ⟨fun _ => ⟨m + 1, ?_⟩, fun h => absurd rfl h⟩, fun hge => ⟨fun h => absurd h (by decide), fun _ => ⟨m + 1, ?_⟩⟩⟩
  · exact key h 0 (by omega) (by rw [if_neg (by omega)]) (by rw [if_neg (by omega)]) m 0 _ (by omega) (fun i hi => absurd hi (by omega)) (mu_eq _ _ _ _) f0
  · exact key w 1 (by omega) (by rw [if_pos (by omega)]) (by rw [if_pos (by omega)]) m 0 _ (by omega) (fun i hi => absurd hi (by omega)) (mu_eq _ _ _ _) f0
theorem sliceZ {M : sy_M} {m x y w h : Nat} {g : Nat → Nat} {Q : sy_M → Prop} (hi : inZ m g M) (hxw : x + w ≤ 3000) (hyh : y + h ≤ 3000)
    (hq : ∀ M', plZ (slR g m x y w h) m M' → frZ M M' → Q M') : wX12_laysSlice M (nI x) (nI y) (nI w) (nI h) Q := by
  obtain ⟨hm1, i1, i6, i7⟩ := id hi
  have hm8 := i7.1
  have key : ∀ (n : Nat) (s0 : Int32), n ≤ 3000 → (s0 = (if h ≤ w then 1 else 0)) → (n = if h ≤ w then w else h) → ∀ r k M1, k + r = m → plZ (slR g m x y w h) k M1 → (∀ j, 0 ≤ j → j < m → M1 22 j = nI (bg g j n 0 m)) → frZ M M1 → wX12_laysSlice_40 Q (r + 1) M1 (nI x) (nI y) (nI w) (nI h) s0 (nI n) (nI k) := by
    intro n s0 hn hs0 hne r
    induction r with
    | zero =>
      intro k M1 hk h1 h2 h3
      have : k = m := by omega
      subst this
      have hX := hi.fr h3
      rw [wX12_laysSlice_40, hX.2.1]
      have : nI k ≤ nI k := nI_le (Nat.le_refl _) (by omega)
      exact ⟨fun _ => hq M1 h1 h3, fun h => absurd this h⟩
    | succ r ih =>
      intro k M1 hk h1 h2 h3
      have hX := hi.fr h3
      rw [wX12_laysSlice_40, hX.2.1]
      have e1 : ¬ nI m ≤ nI k := nI_ge (by omega) (by omega)
      simp only [e1, false_implies, true_implies, not_false_eq_true, true_and]
      rw [partEndZ (f := 0) (g := g) (by omega) hm8 h2 (by omega), ex_nI (show k < 9 by omega) (by omega), h2 k (by omega) (by omega)]
      have bm := bg_mono g n 0 m (show k ≤ k + 1 by omega)
      have bl := bg_le g (k + 1) n 0 m
      rw [pk_sub bm, nI_add]
      have fin : ∀ X Y W H, X = slR g m x y w h 0 k → Y = slR g m x y w h 1 k → W = slR g m x y w h 2 k → H = slR g m x y w h 3 k → wX12_laysSlice_40 Q (r + 1) (mu (mu (mu (mu M1 18 k (nI X)) 19 k (nI Y)) 20 k (nI W)) 21 k (nI H)) (nI x) (nI y) (nI w) (nI h) s0 (nI n) (nI (k + 1)) := by
        intro X Y W H eX eY eW eH
        refine ih (k + 1) _ (by omega) (fun i hi2 => ?_) h2 (fun q q1 q2 q3 q4 q5 q6 => by rw [mu_oth q4, mu_oth q3, mu_oth q2, mu_oth q1]; exact h3 q q1 q2 q3 q4 q5 q6)
        by_cases hik : i = k
        · subst hik
          rw [← eX, ← eY, ← eW, ← eH]
          simp [mu_ap]
        · have := h1 i (by omega)
          simp [mu_ap, hik]
          exact this
      unfold wX12_laysSlice_95 wX12_laysSlice_120 wX12_laysSlice_138
      by_cases c : h ≤ w
      · rw [if_pos c] at hs0 hne
        subst hs0 hne
        simp only [i10, false_implies, true_implies, not_false_eq_true, true_and, ex_nI (show k < 9 by omega) (show 9 ≤ 2 ^ 31 by omega), nI_1]
        refine fin _ _ _ _ ?_ ?_ ?_ ?_ <;> simp [slR, c]
      · rw [if_neg c] at hs0 hne
        subst hs0 hne
        simp only [eq_self, false_implies, true_implies, not_true_eq_false, and_true, ex_nI (show k < 9 by omega) (show 9 ≤ 2 ^ 31 by omega), nI_1, h2 k (by omega) (by omega), nI_add]
        refine fin _ _ _ _ ?_ ?_ ?_ ?_ <;> simp [slR, c]
  have go : ∀ (n : Nat) (s0 : Int32), n ≤ 3000 → (s0 = (if h ≤ w then 1 else 0)) → (n = if h ≤ w then w else h) → wX12_laysSlice_24 Q M (nI x) (nI y) (nI w) (nI h) s0 (nI n) := by
    intro n s0 hn hs0 hne
    unfold wX12_laysSlice_24
    rw [i1, show (0 : Int32) = nI 0 from rfl]
    refine partsZ i7 hn (by omega) (Nat.le_refl _) (fun M1 h1 h2 => ⟨m + 1, ?_⟩)
    exact key n s0 hn hs0 hne m 0 M1 (by omega) (fun i hi => absurd hi (by omega)) h1 (fun q q1 q2 q3 q4 q5 q6 => h2 q q5)
  unfold wX12_laysSlice wX12_laysSlice_11
  rw [nI_ltI (by omega) (by omega)]
  refine ⟨fun hlt => ⟨fun _ => ?_, fun h => absurd rfl h⟩, fun hge => ⟨fun h => absurd h (by decide), fun _ => ?_⟩⟩
  · exact go h 0 (by omega) (by rw [if_neg (by omega)]) (by rw [if_neg (by omega)])
  · exact go w 1 (by omega) (by rw [if_pos (by omega)]) (by rw [if_pos (by omega)])
/-- with S 0 -/
def noR (x y : Nat) : Nat → Nat → Nat := fun k _ => if k = 0 then x else if k = 1 then y else 0
theorem nothingX {M : sy_M} {p m x y w h : Nat} {g : Nat → Nat} {Q : sy_M → Prop} (hp : iX5 p) (hi : inX m g x y w h M)
    (hq : ∀ M', plX p (noR x y) m M' → M' p 0 = nI (wsN g (noR x y) m) → frX p M M' → Q M') : wX4_layNothing M p Q := by
  have hp2 : 33 ≤ p ∧ p ≤ 47 := by unfold iX5 at hp; omega
  obtain ⟨⟨hm1, hxw, hyh⟩, i1, ⟨i2, i3, i4, i5⟩, i6, i7⟩ := id hi
  have hm8 := i7.1
  have key : ∀ r k M1, k + r = m → plX p (noR x y) k M1 → M1 p 0 = nI (wsN g (noR x y) k) → frX p M M1 → wX4_layNothing_7 Q (r + 1) M1 p (nI k) := by
    intro r
    induction r with
    | zero =>
      intro k M1 hk h1 h2 h3
      have : k = m := by omega
      subst this
      have hX := hi.fr hp h3
      rw [wX4_layNothing_7, hX.2.1]
      have : nI k ≤ nI k := nI_le (Nat.le_refl _) (by omega)
      exact ⟨fun _ => hq M1 h1 h2 h3, fun h => absurd this h⟩
    | succ r ih =>
      intro k M1 hk h1 h2 h3
      have hX := hi.fr hp h3
      obtain ⟨-, j1, ⟨j2, j3, j4, j5⟩, j6, j7⟩ := id hX
      rw [wX4_layNothing_7, j1]
      have e1 : ¬ nI m ≤ nI k := nI_ge (by omega) (by omega)
      simp only [e1, false_implies, true_implies, not_false_eq_true, true_and]
      have hwl := wsN_le (g := g) (r := noR x y) k (fun i _ => ⟨by simp [noR], by simp [noR]⟩)
      rw [j2, j3, show (0 : Int32) = nI 0 from rfl, putX hp (by omega) (by omega) (by omega) h2 (by omega) (j6 k (by omega)).2 (j6 k (by omega)).1, nI_1]
      refine ih (k + 1) _ (by omega) (fun i hi2 => ?_) ?_ (fun q q1 q2 => by rw [ptX_o q1]; exact h3 q q1 q2)
      · by_cases hik : i = k
        · subst hik
          exact ptX_in _ _ _ _ _ _ _ _
        · rw [ptX_ne hik 1 (by omega), ptX_ne hik 2 (by omega), ptX_ne hik 3 (by omega), ptX_ne hik 4 (by omega)]
          exact h1 i (by omega)
      · rw [ptX_v, wsN]
        rfl
  exact ⟨m + 1, key m 0 _ (by omega) (fun i hi => absurd hi (by omega)) (mu_eq _ _ _ _) (fun q q1 _ => mu_oth (by omega))⟩
theorem nothingZ {M : sy_M} {m x y : Nat} {g : Nat → Nat} {Q : sy_M → Prop} (hi : inZ m g M)
    (hq : ∀ M', plZ (noR x y) m M' → frZ M M' → Q M') : wX12_laysNothing M (nI x) (nI y) Q := by
  obtain ⟨hm1, i1, i6, i7⟩ := id hi
  have hm8 := i7.1
  have key : ∀ r k M1, k + r = m → plZ (noR x y) k M1 → frZ M M1 → wX12_laysNothing_2 Q (r + 1) M1 (nI x) (nI y) (nI k) := by
    intro r
    induction r with
    | zero =>
      intro k M1 hk h1 h3
      have : k = m := by omega
      subst this
      have hX := hi.fr h3
      rw [wX12_laysNothing_2, hX.2.1]
      have : nI k ≤ nI k := nI_le (Nat.le_refl _) (by omega)
      exact ⟨fun _ => hq M1 h1 h3, fun h => absurd this h⟩
    | succ r ih =>
      intro k M1 hk h1 h3
      have hX := hi.fr h3
      rw [wX12_laysNothing_2, hX.2.1]
      have e1 : ¬ nI m ≤ nI k := nI_ge (by omega) (by omega)
      simp only [e1, false_implies, true_implies, not_false_eq_true, true_and]
      rw [ex_nI (show k < 9 by omega) (by omega), nI_1]
      refine ih (k + 1) _ (by omega) (fun i hi2 => ?_) (fun q q1 q2 q3 q4 q5 q6 => by rw [mu_oth q4, mu_oth q3, mu_oth q2, mu_oth q1]; exact h3 q q1 q2 q3 q4 q5 q6)
      by_cases hik : i = k
      · subst hik
        simp [mu_ap, noR, nI_0]
      · have := h1 i (by omega)
        simp [mu_ap, hik]
        exact this
  exact ⟨m + 1, key m 0 _ (by omega) (fun i hi => absurd hi (by omega)) (fun _ _ _ _ _ _ _ => rfl)⟩
