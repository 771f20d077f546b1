/-! THE PURE PART: what ties the class's memory A to the reference's memory B -/
theorem mu_ap (M : sy_M) (p k : Nat) (v : Int32) (q j : Nat) : mu M p k v q j = if q = p ∧ j = k then v else M q j := by
  unfold mu upd
  by_cases h : q = p
  · subst h
    by_cases h2 : j = k <;> simp [h2]
  · simp [h]
theorem mu_eq (M : sy_M) (p k : Nat) (v : Int32) : mu M p k v p k = v := by simp [mu_ap]
theorem mu_n1 (M : sy_M) {p q : Nat} (k j : Nat) (v : Int32) (h : q ≠ p) : mu M p k v q j = M q j := by simp [mu_ap, h]
theorem mu_n2 (M : sy_M) {k j : Nat} (p q : Nat) (v : Int32) (h : j ≠ k) : mu M p k v q j = M q j := by simp [mu_ap, h]
/-- n less one, as an int: -1 for 0 -/
def pm (n : Nat) : Int32 := nI n - 1
theorem pm_s (n : Nat) : pm (n + 1) = nI n := nI_pred n
theorem pm_0 : pm 0 = -1 := by decide
theorem nI_ne_m1 {n : Nat} (h : n < 2 ^ 31) : nI n ≠ -1 := by
  intro e
  have h1 := nI_toInt h
  rw [e] at h1
  have h2 : ((-1 : Int32)).toInt = -1 := by decide
  omega
theorem pm_inj {a b : Nat} (ha : a < 2 ^ 31) (hb : b < 2 ^ 31) : pm a = pm b ↔ a = b := by
  constructor
  · intro e
    cases a with
    | zero => cases b with
      | zero => rfl
      | succ b => rw [pm_0, pm_s] at e; exact absurd e.symm (nI_ne_m1 (by omega))
    | succ a => cases b with
      | zero => rw [pm_0, pm_s] at e; exact absurd e (nI_ne_m1 (by omega))
      | succ b =>
        rw [pm_s, pm_s, nI_eq (by omega) (by omega)] at e
        omega
  · intro e
    rw [e]
theorem pm_m1 {a : Nat} (ha : a < 2 ^ 31) : pm a = -1 ↔ a = 0 := by rw [← pm_0, pm_inj ha (by decide)]
theorem pm_nI {a b : Nat} (ha : a < 2 ^ 31) (hb : b < 2 ^ 31 - 1) : pm a = nI b ↔ a = b + 1 := by rw [← pm_s, pm_inj ha (by omega)]
theorem nI_ofx {x : Int32} {m : Nat} (h0 : ¬ x < 0) (h1 : ¬ nI m ≤ x) (hm : m < 2 ^ 31) : ∃ b, b < m ∧ x = nI b := by
  obtain ⟨j, hj, rfl⟩ := nI_of h0
  exact ⟨j, by rw [nI_leI hm hj] at h1; omega, rfl⟩
/-- an int that is a number from lo to hi -/
theorem nI_rng {x : Int32} {lo hi : Nat} (h0 : ¬ x < nI lo) (h1 : ¬ nI hi < x) (hlo : lo < 2 ^ 31) (hhi : hi < 2 ^ 31) : ∃ n, lo ≤ n ∧ n ≤ hi ∧ x = nI n := by
  have hx : ¬ x < 0 := by
    intro h
    apply h0
    have e1 := nI_toInt hlo
    rw [Int32.lt_iff_toInt_lt] at h ⊢
    have : (0 : Int32).toInt = 0 := by decide
    omega
  obtain ⟨j, hj, rfl⟩ := nI_of hx
  rw [nI_ltI hj hlo] at h0
  rw [nI_ltI hhi hj] at h1
  exact ⟨j, by omega, by omega, rfl⟩
def b01 (n : Nat) : Int32 := if n = 0 then 0 else 1
/-- the shape of a tree: nb boxes; T 0 parent + 1, T 1 how + 1 (0: a leaf), T 2 children, T 3 groups around, T 4 size told, T 5 letters, T 6 sorted; V b k: the letters -/
def wfT (nb : Nat) (T : Nat → Nat → Nat) (V : Nat → Nat → Nat) : Prop :=
  nb ≤ 40 ∧ (0 < nb → T 0 0 = 0 ∧ T 1 0 ≠ 0 ∧ T 3 0 = 0) ∧
  (∀ b, b < nb → 0 < b → 0 < T 0 b ∧ T 0 b ≤ b ∧ T 1 (T 0 b - 1) ≠ 0 ∧ T 3 b = T 3 (T 0 b - 1) + 1) ∧
  (∀ b, b < nb → T 1 b ≤ 4 ∧ T 2 b ≤ 8 ∧ T 4 b ≤ 999999 ∧ 1 ≤ T 5 b ∧ T 5 b ≤ 8 ∧ T 6 b ≤ 1 ∧ T 3 b ≤ 6 ∧ (T 1 b ≠ 0 → T 3 b ≤ 5 ∧ 1 ≤ T 2 b) ∧ ∀ k, k < T 5 b → 97 ≤ V b k ∧ V b k ≤ 122) ∧
  (∀ b, b < nb → T 2 b = ((List.range nb).filter (fun c => T 0 c = b + 1)).length) ∧
  ∀ b c, b < nb → c < nb → T 5 b = T 5 c → (∀ k, k < T 5 b → V b k = V c k) → b = c
def rlT (t nb : Nat) (T V : Nat → Nat → Nat) (A B : sy_M) : Prop :=
  A t 0 = nI nb ∧ B 0 13 = nI nb ∧ A t 1 = nI ((List.range nb).filter (fun c => T 1 c ≠ 0)).length ∧
  ∀ b, b < nb → (A (t + 1) b = pm (T 0 b) ∧ B 2 b = pm (T 0 b)) ∧ (A (t + 2) b = pm (T 1 b) ∧ B 3 b = b01 (T 1 b) ∧ (T 1 b ≠ 0 → B 6 b = pm (T 1 b))) ∧
    (A (t + 3) b = nI (T 2 b) ∧ B 4 b = nI (T 2 b)) ∧ (A (t + 4) b = nI (T 3 b) ∧ B 5 b = nI (T 3 b)) ∧ (T 1 b = 0 → A (t + 5) b = nI (T 4 b) ∧ B 8 b = nI (T 4 b)) ∧ (T 1 b ≠ 0 → A (t + 5) b = 0) ∧
    (A (t + 6) b = nI (T 5 b) ∧ B 9 b = nI (T 5 b)) ∧ (A (t + 7) b = nI (T 6 b) ∧ B 7 b = nI (T 6 b)) ∧ ∀ k, k < T 5 b → A (t + 10) (8 * b + k) = nI (V b k) ∧ B 10 (8 * b + k) = nI (V b k)
/-- limits (L 0) and open ones (L 1) -/
def rlL (t nb : Nat) (L : Nat → Nat → Nat) (A B : sy_M) : Prop :=
  ∀ b, b < nb → (L 0 b ≤ 999 ∧ A (t + 8) b = nI (L 0 b) ∧ B 14 b = nI (L 0 b)) ∧ (L 1 b ≤ 1 ∧ A (t + 9) b = nI (L 1 b) ∧ B 15 b = nI (L 1 b))
/-- changes: C 0 leaf, C 1 tick, C 2 size -/
def rlC (nb nc : Nat) (T C : Nat → Nat → Nat) (A B : sy_M) : Prop :=
  nc ≤ 100 ∧ A 4 0 = nI nc ∧ B 0 24 = nI nc ∧ ∀ k, k < nc → (C 0 k < nb ∧ T 1 (C 0 k) = 0 ∧ A 5 k = nI (C 0 k) ∧ B 11 k = nI (C 0 k)) ∧ (C 1 k ≤ 999 ∧ A 6 k = nI (C 1 k) ∧ B 12 k = nI (C 1 k)) ∧ (C 2 k ≤ 999999 ∧ A 7 k = nI (C 2 k) ∧ B 13 k = nI (C 2 k))
/-- one drawing: in row rx of A, in row rz of B; G 0 shown, G 1 x, G 2 y, G 3 wide, G 4 high, G 5 size -/
def rlG (rx rz nb : Nat) (G : Nat → Nat → Nat) (A B : sy_M) : Prop :=
  ∀ b, b < nb → (G 0 b ≤ 1 ∧ A 17 (rx * 40 + b) = nI (G 0 b) ∧ B 26 (41 * rz + b) = nI (G 0 b)) ∧ (G 5 b ≤ 40000000 ∧ A 16 (rx * 40 + b) = nI (G 5 b) ∧ B 31 (41 * rz + b) = nI (G 5 b)) ∧
    (G 0 b = 1 → (A 12 (rx * 40 + b) = nI (G 1 b) ∧ B 27 (41 * rz + b) = nI (G 1 b)) ∧ (A 13 (rx * 40 + b) = nI (G 2 b) ∧ B 28 (41 * rz + b) = nI (G 2 b)) ∧ (A 14 (rx * 40 + b) = nI (G 3 b) ∧ B 29 (41 * rz + b) = nI (G 3 b)) ∧ (A 15 (rx * 40 + b) = nI (G 4 b) ∧ B 30 (41 * rz + b) = nI (G 4 b)) ∧ G 1 b + G 3 b ≤ 3000 ∧ G 2 b + G 4 b ≤ 3000)
/-- of the latest drawing: R 0 laid, R 1 worst, R 2 together, R 3 .. R 6 the rest's x y wide high, R 7 its size -/
def rlR (nb : Nat) (T R : Nat → Nat → Nat) (A B : sy_M) : Prop :=
  ∀ b, b < nb → T 1 b ≠ 0 → (R 0 b ≤ 2 ∧ A 18 b = nI (R 0 b) ∧ B 32 b = nI (R 0 b)) ∧ (R 1 b ≤ 3000000 ∧ A 19 b = nI (R 1 b) ∧ B 33 b = nI (R 1 b)) ∧ (R 2 b ≤ 8 ∧ A 26 b = nI (R 2 b) ∧ B 34 b = nI (R 2 b)) ∧
    (R 2 b ≠ 0 → (A 21 b = nI (R 3 b) ∧ B 36 b = nI (R 3 b)) ∧ (A 22 b = nI (R 4 b) ∧ B 37 b = nI (R 4 b)) ∧ (A 23 b = nI (R 5 b) ∧ B 38 b = nI (R 5 b)) ∧ (A 24 b = nI (R 6 b) ∧ B 39 b = nI (R 6 b)) ∧ (A 25 b = nI (R 7 b) ∧ B 35 b = nI (R 7 b)) ∧ R 3 b + R 5 b ≤ 3000 ∧ R 4 b + R 6 b ≤ 3000 ∧ R 7 b ≤ 40000000)
/-- the drawings: d were made; G j the j-th, K j its tick -/
def rlD (d nb : Nat) (T : Nat → Nat → Nat) (G : Nat → Nat → Nat → Nat) (K : Nat → Nat) (R : Nat → Nat → Nat) (A B : sy_M) : Prop :=
  A 9 0 = nI d ∧ B 0 40 = nI d ∧ (0 < d → 0 < nb) ∧ (∀ j, j < d → d ≤ j + 50 → (K j ≤ 999 ∧ A 10 (j % 50) = nI (K j) ∧ B 25 (j % 51) = nI (K j)) ∧ rlG (j % 50) (j % 51) nb (G j) A B) ∧ (0 < d → rlR nb T R A B)
/-- the tape: n bytes -/
def rlP (n : Nat) (A B : sy_M) : Prop := n ≤ 1000 ∧ A 1 0 = nI n ∧ B 0 5 = nI n ∧ ∀ i, i < n → A 2 i = B 1 i ∧ ∃ z : Int32, B 1 i = z.toInt8.toInt32
/-- sheet, price, place -/
def rlS (A B : sy_M) : Prop := (∃ w, 1 ≤ w ∧ w ≤ 3000 ∧ A 0 8 = nI w ∧ B 0 1 = nI w) ∧ (∃ h, 1 ≤ h ∧ h ≤ 3000 ∧ A 0 9 = nI h ∧ B 0 2 = nI h) ∧ (∃ v, v ≤ 1000 ∧ A 27 0 = nI v ∧ B 0 3 = nI v) ∧ A 3 0 = B 0 12 ∧ A 31 0 = 0
def rlQ (t : Nat) (A : sy_M) : Prop := (t = 60 ∧ A 0 6 = nI 60 ∧ A 3 2 = nI 71) ∨ (t = 71 ∧ A 0 6 = nI 71 ∧ A 3 2 = nI 60)
/-- THE TIE, after at most cn calls -/
def Rel (cn : Nat) (A B : sy_M) : Prop :=
  ∃ (t nb nc d n : Nat) (T V L C : Nat → Nat → Nat) (G : Nat → Nat → Nat → Nat) (K : Nat → Nat) (R : Nat → Nat → Nat),
    rlQ t A ∧ wfT nb T V ∧ rlT t nb T V A B ∧ rlL t nb L A B ∧ rlC nb nc T C A B ∧ d ≤ cn ∧ rlD d nb T G K R A B ∧ rlP n A B ∧ rlS A B
