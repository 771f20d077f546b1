/-! bytes: the class takes them as 0 to 255, the reference as they lie -/
def sb (c : Nat) : Int32 := if c < 128 then nI c else nI c - nI 256
theorem sb_toInt {c : Nat} (h : c < 256) : (sb c).toInt = if c < 128 then (c : Int) else (c : Int) - 256 := by
  unfold sb
  by_cases h1 : c < 128
  · rw [if_pos h1, if_pos h1, nI_toInt (by omega)]
  · rw [if_neg h1, if_neg h1, pk_sub_toInt (by omega) (by omega)]
    rfl
theorem sb_inj {a b : Nat} (ha : a < 256) (hb : b < 256) (h : sb a = sb b) : a = b := by
  have h1 := sb_toInt ha
  rw [h, sb_toInt hb] at h1
  split at h1 <;> split at h1 <;> omega
def kp (x : Int32) : Nat := x.toBitVec.toNat % 256
theorem kp_lt (x : Int32) : kp x < 256 := Nat.mod_lt _ (by omega)
theorem kp_and (x : Int32) : x &&& nI 255 = nI (kp x) := pk_and x 8 (by decide)
theorem i32_tn (x : Int32) : (x.toBitVec.toNat : Int) = if x.toInt < 0 then x.toInt + 4294967296 else x.toInt := by
  have h1 : x.toInt = x.toBitVec.toInt := rfl
  have h2 := BitVec.toInt_eq_toNat_cond x.toBitVec
  rw [← h1] at h2
  have h3 := x.toBitVec.isLt
  split at h2 <;> split <;> omega
theorem kp_sb (z : Int32) : z.toInt8.toInt32 = sb (kp z.toInt8.toInt32) := by
  have h1 : (z.toInt8.toInt32).toInt = z.toInt8.toInt := Int8.toInt_toInt32 _
  have h2 := Int8.le_toInt z.toInt8
  have h3 := Int8.toInt_lt z.toInt8
  generalize z.toInt8.toInt32 = y at *
  have h4 := i32_tn y
  apply Int32.toInt_inj.mp
  rw [sb_toInt (kp_lt _)]
  have h5 : kp y = y.toBitVec.toNat % 256 := rfl
  by_cases h6 : y.toInt < 0
  · rw [if_pos h6] at h4
    have h7 : kp y = (y.toInt + 256).toNat := by omega
    split <;> omega
  · rw [if_neg h6] at h4
    have h7 : kp y = y.toInt.toNat := by omega
    split <;> omega
theorem kp_nI {c : Nat} (h : c < 256) : kp (nI c) = c := by
  unfold kp
  rw [pk_tn (by omega)]
  omega
/-- the tape, as codes -/
theorem rlP.code {n : Nat} {A B : sy_M} (h : rlP n A B) {i : Nat} (hi : i < n) : A 2 i &&& nI 255 = nI (kp (A 2 i)) ∧ B 1 i = sb (kp (A 2 i)) := by
  obtain ⟨-, -, -, h4⟩ := h
  obtain ⟨e1, z, e2⟩ := h4 i hi
  refine ⟨kp_and _, ?_⟩
  rw [e1, e2]
  exact kp_sb z
theorem byteAt_y {M : sy_M} {n i : Nat} {Q : Int32 → sy_M → Prop} (hn : M 1 0 = nI n) (hn2 : n ≤ 1000) (hi : i < n) : wX9_byteAt M (nI i) Q ↔ Q (nI (kp (M 2 i))) M := by
  unfold wX9_byteAt
  rw [hn]
  have h1 : ¬ nI i < 0 := nI_pos (by omega)
  have h2 : ¬ nI n ≤ nI i := nI_ge hi (by omega)
  simp only [h1, h2, false_implies, true_implies, not_false_eq_true, true_and]
  rw [ex_nI (show i < 1000 by omega) (by omega), kp_and]
theorem byteAt_n {M : sy_M} {n i : Nat} {Q : Int32 → sy_M → Prop} (hn : M 1 0 = nI n) (hn2 : n ≤ 1000) (hi : n ≤ i) (hi2 : i < 2 ^ 31) : wX9_byteAt M (nI i) Q ↔ Q (-1) M := by
  unfold wX9_byteAt
  rw [hn]
  have h1 : ¬ nI i < 0 := nI_pos (by omega)
  have h2 : nI n ≤ nI i := nI_le hi (by omega)
  simp [h1, h2]
/-- whether the name of b (letters v, len) stands on the tape from f on -/
def nmAt (M : sy_M) (f len : Nat) (v : Nat → Nat) : Prop := ∀ k, k < len → kp (M 2 (f + k)) = v k
theorem isNamed_y {M : sy_M} {p n b f len : Nat} {v : Nat → Nat} {Q : Int32 → sy_M → Prop} (hb : b < 40) (hn : M 1 0 = nI n) (hn2 : n ≤ 1000) (hl : M (p + 6) b = nI len) (hl8 : len ≤ 8) (hf : f + len ≤ n) (hv : ∀ k, k < len → v k < 128 ∧ M (p + 10) (8 * b + k) = nI (v k))
    (h1 : nmAt M f len v → Q 1 M) (h0 : ¬ nmAt M f len v → Q 0 M) : wX10_isNamed M p (nI b) (nI f) Q := by
  have key : ∀ r k, k + r = len → (∀ j, j < k → kp (M 2 (f + j)) = v j) → wX10_isNamed_3 Q (r + 1) M p (nI b) (nI f) (nI k) := by
    intro r
    induction r with
    | zero =>
      intro k hk hj
      rw [wX10_isNamed_3, ex_nI hb (by omega), hl]
      have : nI len ≤ nI k := nI_le (by omega) (by omega)
      exact ⟨fun _ => h1 (fun j hj2 => hj j (by omega)), fun h => absurd this h⟩
    | succ r ih =>
      intro k hk hj
      rw [wX10_isNamed_3, ex_nI hb (by omega), hl]
      have e1 : ¬ nI len ≤ nI k := nI_ge (by omega) (by omega)
      simp only [e1, false_implies, true_implies, not_false_eq_true, true_and, wX10_nameByte, pk_mul, nI_add]
      rw [ex_nI (show b * 8 + k < 320 by omega) (by omega), show b * 8 + k = 8 * b + k by omega, (hv k (by omega)).2, kp_and, kp_nI (by have := (hv k (by omega)).1; omega), byteAt_y hn hn2 (by omega), nI_eq (by have := (hv k (by omega)).1; omega) (by have := kp_lt (M 2 (f + k)); omega), nI_1]
      refine ⟨fun e => ih (k + 1) (by omega) (fun j hj2 => ?_), fun e => h0 (fun hm => e (hm k (by omega)).symm)⟩
      by_cases hjk : j = k
      · subst hjk; exact e.symm
      · exact hj j (by omega)
  exact ⟨len + 1, key len 0 (by omega) (fun j hj => absurd hj (by omega))⟩
/-- find: the first box of that name -/
theorem findX {M : sy_M} {p n nb f e : Nat} {T V : Nat → Nat → Nat} {Q : Int32 → sy_M → Prop} (hb : M p 0 = nI nb) (hnb : nb ≤ 40) (hn : M 1 0 = nI n) (hn2 : n ≤ 1000) (hfe : f ≤ e) (he : e ≤ n) (hT : ∀ b, b < nb → T 5 b ≤ 8 ∧ M (p + 6) b = nI (T 5 b) ∧ ∀ k, k < T 5 b → V b k < 128 ∧ M (p + 10) (8 * b + k) = nI (V b k))
    (h1 : ∀ b, b < nb → T 5 b = e - f → nmAt M f (T 5 b) (V b) → (∀ c, c < b → ¬ (T 5 c = e - f ∧ nmAt M f (T 5 c) (V c))) → Q (nI b) M) (h0 : (∀ c, c < nb → ¬ (T 5 c = e - f ∧ nmAt M f (T 5 c) (V c))) → Q (-1) M) : wX10_find M p (nI f) (nI e) Q := by
  have key : ∀ r b, b + r = nb → (∀ c, c < b → ¬ (T 5 c = e - f ∧ nmAt M f (T 5 c) (V c))) → wX10_find_3 Q (r + 1) M p (nI f) (nI e) (nI b) := by
    intro r
    induction r with
    | zero =>
      intro b hbr hc
      rw [wX10_find_3, hb]
      have : nI nb ≤ nI b := nI_le (by omega) (by omega)
      exact ⟨fun _ => h0 (fun c hc2 => hc c (by omega)), fun h => absurd this h⟩
    | succ r ih =>
      intro b hbr hc
      obtain ⟨t1, t2, t3⟩ := hT b (by omega)
      rw [wX10_find_3, hb]
      have e1 : ¬ nI nb ≤ nI b := nI_ge (by omega) (by omega)
      simp only [e1, false_implies, true_implies, not_false_eq_true, true_and]
      rw [ex_nI (show b < 40 by omega) (by omega), t2, pk_sub hfe, nI_eq (by omega) (by omega), nI_1]
      have step : ¬ (T 5 b = e - f ∧ nmAt M f (T 5 b) (V b)) → wX10_find_3 Q (r + 1) M p (nI f) (nI e) (nI (b + 1)) := by
        intro hno
        refine ih (b + 1) (by omega) (fun c hc2 => ?_)
        by_cases hcb : c = b
        · subst hcb; exact hno
        · exact hc c (by omega)
      refine ⟨fun hne => step (fun h => hne h.1), fun heq => ?_⟩
      refine isNamed_y (len := T 5 b) (v := V b) (by omega) hn hn2 t2 t1 (by omega) t3 (fun hm => ?_) (fun hm => ?_)
      · simp only [i10, false_implies, true_implies, not_false_eq_true, true_and]
        exact h1 b (by omega) heq hm hc
      · simp only [not_true_eq_false, false_implies, true_implies, and_true]
        exact step (fun h => hm h.2)
  exact ⟨nb + 1, key nb 0 (by omega) (fun c hc => absurd hc (by omega))⟩
/-! under -/
def inR (a b : Int32) (x y w h : Nat) : Prop := ¬ a < nI x ∧ ¬ nI (x + w) ≤ a ∧ ¬ b < nI y ∧ ¬ nI (y + h) ≤ b
theorem holdsX {M : sy_M} {p i x y w h : Nat} {a b : Int32} {Q : Int32 → sy_M → Prop} (hi : i < lX7 p) (e1 : M (p + 1) i = nI x) (e2 : M (p + 2) i = nI y) (e3 : M (p + 3) i = nI w) (e4 : M (p + 4) i = nI h) (h1 : inR a b x y w h → Q 1 M) (h0 : ¬ inR a b x y w h → Q 0 M) : wX7_holds M p (nI i) a b Q := by
  have l1 := lX7_lt p
  unfold wX7_holds
  rw [ex_nI hi (by omega), e1, e2, e3, e4, nI_add, nI_add]
  exact ⟨fun c1 => h0 (fun h => h.1 c1), fun c1 => ⟨fun c2 => h0 (fun h => h.2.1 c2), fun c2 => ⟨fun c3 => h0 (fun h => h.2.2.1 c3), fun c3 => ⟨fun c4 => h0 (fun h => h.2.2.2 c4), fun c4 => h1 ⟨c1, c2, c3, c4⟩⟩⟩⟩⟩
theorem isInZ {M : sy_M} {x y w h : Nat} {a b : Int32} {Q : Int32 → sy_M → Prop} (h1 : inR a b x y w h → Q 1 M) (h0 : ¬ inR a b x y w h → Q 0 M) : wX12_isIn M a b (nI x) (nI y) (nI w) (nI h) Q := by
  unfold wX12_isIn
  rw [nI_add, nI_add]
  exact ⟨fun c1 => h0 (fun h => h.1 c1), fun c1 => ⟨fun c2 => h0 (fun h => h.2.1 c2), fun c2 => ⟨fun c3 => h0 (fun h => h.2.2.1 c3), fun c3 => ⟨fun c4 => h0 (fun h => h.2.2.2 c4), fun c4 => h1 ⟨c1, c2, c3, c4⟩⟩⟩⟩⟩
/-- the last one below b that P is true of, and one; 0: none -/
noncomputable def lstN (P : Nat → Prop) : Nat → Nat
  | 0 => 0
  | b + 1 => (Classical.propDecidable (P b)).casesOn (fun _ => lstN P b) (fun _ => b + 1)
theorem lstN_y {P : Nat → Prop} {b : Nat} (h : P b) : lstN P (b + 1) = b + 1 := by
  rw [lstN]
  cases Classical.propDecidable (P b) with
  | isTrue _ => rfl
  | isFalse h2 => exact absurd h h2
theorem lstN_n {P : Nat → Prop} {b : Nat} (h : ¬ P b) : lstN P (b + 1) = lstN P b := by
  rw [lstN]
  cases Classical.propDecidable (P b) with
  | isTrue h2 => exact absurd h2 h
  | isFalse _ => rfl
theorem lstN_le (P : Nat → Prop) : ∀ b, lstN P b ≤ b
  | 0 => Nat.le_refl _
  | b + 1 => by
    have := lstN_le P b
    by_cases h : P b
    · rw [lstN_y h]; omega
    · rw [lstN_n h]; omega
theorem op_under {cn : Nat} {A B : sy_M} (hcn : cn < 2 ^ 20) (h : Rel cn A B) (a1 a2 : Int32) {F : sy_M → sy_M → Prop} (hF : ∀ A' B', Rel cn A' B' → F A' B') : wX11_under A a1 a2 (fun r A' => wX12_under B a1 a2 (fun r' B' => r = r' ∧ F A' B')) := by
  have hz := hF _ _ (h.z0 (v := 0))
  obtain ⟨t, nb, nc, d, n, T, V, L, C, G, K, R, hQ, hw, hT, hL, hC, hd, hD, hP, hS⟩ := h
  obtain ⟨q1, q2, q3, q4⟩ := hQ.t
  have hnb := hw.1
  have hB13 : mu B 0 0 0 0 13 = nI nb := hT.2.1
  have hB40 : mu B 0 0 0 0 40 = nI d := hD.2.1
  have e1 : ∀ p, 2 ≤ p → ∀ i, mu B 0 0 0 p i = B p i := fun p hp i => mu_n1 _ _ _ _ (by omega)
  unfold wX11_under wX12_under
  rw [hD.1]
  simp only [hD.2.1]
  by_cases h0 : d = 0
  · subst h0
    have : nI 0 = 0 := nI_0
    simp [this, hz]
  have h0' : 0 < d := by omega
  have hd0 : (nI d = 0) = False := eq_false (nI_ne0 h0' (by omega))
  simp only [hd0, not_false_eq_true, true_implies, false_implies, and_true, nI_m1 h0', rowOf_y (show d - 1 < 2 ^ 20 by omega)]
  have m1 : (d - 1) % 50 < 50 := Nat.mod_lt _ (by omega)
  have m2 : (d - 1) % 51 < 51 := Nat.mod_lt _ (by omega)
  obtain ⟨-, hg⟩ := hD.2.2.2.1 (d - 1) (by omega) (by omega)
  have hPd : ∃ P : Nat → Prop, P = fun b => G (d - 1) 0 b = 1 ∧ inR a1 a2 (G (d - 1) 1 b) (G (d - 1) 2 b) (G (d - 1) 3 b) (G (d - 1) 4 b) := ⟨_, rfl⟩
  obtain ⟨P, hPd⟩ := hPd
  -- the reference's loop, with any end
  have keyZ : ∀ (KZ : sy_M → Int32 → Int32 → Int32 → Prop) (QZ : Int32 → sy_M → Prop), KZ (mu B 0 0 0) a1 a2 (pm (lstN P nb)) → ∀ r b, b + r = nb → wX12_under_30 KZ QZ (r + 1) (mu B 0 0 0) a1 a2 (nI (41 * ((d - 1) % 51))) (pm (lstN P b)) (nI b) := by
    intro KZ QZ hk r
    induction r with
    | zero =>
      intro b hb
      have : b = nb := by omega
      subst this
      rw [wX12_under_30, hB13]
      have : nI b ≤ nI b := nI_le (Nat.le_refl _) (by omega)
      exact ⟨fun _ => hk, fun h => absurd this h⟩
    | succ r ih =>
      intro b hb
      rw [wX12_under_30, hB13]
      have h1 : ¬ nI nb ≤ nI b := nI_ge (by omega) (by omega)
      simp only [h1, not_false_eq_true, true_implies, false_implies, true_and]
      obtain ⟨⟨g1, g2, g3⟩, -, g7⟩ := hg b (by omega)
      rw [nI_add, ex_nI (show 41 * ((d - 1) % 51) + b < 2091 by omega) (by omega), e1 26 (by omega), g3, nI_0i (by omega), nI_1]
      have hstep := ih (b + 1) (by omega)
      refine ⟨fun hs => ?_, fun hs => ?_⟩
      · rw [lstN_n (by rw [hPd]; intro hp; omega)] at hstep
        exact hstep
      · obtain ⟨⟨k1, k2⟩, ⟨k3, k4⟩, ⟨k5, k6⟩, ⟨k7, k8⟩, k9, k10⟩ := g7 (by omega)
        rw [e1 27 (by omega), e1 28 (by omega), e1 29 (by omega), e1 30 (by omega), k2, k4, k6, k8]
        refine isInZ (fun hi => ?_) (fun hi => ?_)
        · rw [lstN_y (by rw [hPd]; exact ⟨by omega, hi⟩), pm_s] at hstep
          simp only [i10, not_false_eq_true, true_implies, false_implies, true_and]
          exact hstep
        · rw [lstN_n (by rw [hPd]; intro hp; exact hi hp.2)] at hstep
          simp only [not_true_eq_false, true_implies, false_implies, and_true]
          exact hstep
  have keyX : ∀ (KX : sy_M → Int32 → Int32 → Int32 → Prop) (QX : Int32 → sy_M → Prop), KX A a1 a2 (pm (lstN P nb)) → ∀ r b, b + r = nb → wX11_under_17 KX QX (r + 1) A a1 a2 (pm (lstN P b)) (nI b) := by
    intro KX QX hk r
    induction r with
    | zero =>
      intro b hb
      have : b = nb := by omega
      subst this
      rw [wX11_under_17, ex_t q1 q2, hT.1]
      have : nI b ≤ nI b := nI_le (Nat.le_refl _) (by omega)
      exact ⟨fun _ => hk, fun h => absurd this h⟩
    | succ r ih =>
      intro b hb
      rw [wX11_under_17, ex_t q1 q2, hT.1]
      have h1 : ¬ nI nb ≤ nI b := nI_ge (by omega) (by omega)
      simp only [h1, not_false_eq_true, true_implies, false_implies, true_and]
      obtain ⟨⟨g1, g2, g3⟩, -, g7⟩ := hg b (by omega)
      rw [latest_y hD.1 h0' (by omega), ex_nI (show (d - 1) % 50 * 40 + b < 2000 by omega) (by omega), g2, nI_0i (by omega), nI_1]
      have hstep := ih (b + 1) (by omega)
      refine ⟨fun hs => ?_, fun hs => ?_⟩
      · rw [lstN_n (by rw [hPd]; intro hp; omega)] at hstep
        exact hstep
      · obtain ⟨⟨k1, k2⟩, ⟨k3, k4⟩, ⟨k5, k6⟩, ⟨k7, k8⟩, k9, k10⟩ := g7 (by omega)
        refine holdsX (p := 11) (show _ < 2000 by omega) k1 k3 k5 k7 (fun hi => ?_) (fun hi => ?_)
        · rw [lstN_y (by rw [hPd]; exact ⟨by omega, hi⟩), pm_s] at hstep
          simp only [i10, not_false_eq_true, true_implies, false_implies, true_and]
          exact hstep
        · rw [lstN_n (by rw [hPd]; intro hp; exact hi hp.2)] at hstep
          simp only [not_true_eq_false, true_implies, false_implies, and_true]
          exact hstep
  refine ⟨nb + 1, ?_⟩
  refine keyX _ _ ?_ nb 0 (by omega)
  have hle := lstN_le P nb
  cases hf : lstN P nb with
  | zero =>
    rw [pm_0]
    refine ⟨fun _ => ⟨nb + 1, ?_⟩, fun h => absurd rfl h⟩
    refine keyZ _ _ ?_ nb 0 (by omega)
    rw [hf, pm_0]
    exact ⟨fun _ => ⟨rfl, hz⟩, fun h => absurd rfl h⟩
  | succ b =>
    have hb : b < nb := by omega
    obtain ⟨-, ⟨x3, x4, x5⟩, -⟩ := hT.2.2.2 b hb
    obtain ⟨y1, -⟩ := hw.2.2.2.1 b hb
    have hm1 : nI b = -1 ↔ False := ⟨fun e => nI_ne_m1 (by omega) e, False.elim⟩
    rw [pm_s]
    simp only [hm1, false_implies, true_implies, not_false_eq_true, true_and]
    rw [ex_t q1 q2]
    unfold wX2_hasRest
    rw [isGroup_y hT.1 hb hnb x3 y1]
    simp only [b01_0, ex_nI (show b < 40 by omega) (by omega)]
    by_cases gg : T 1 b = 0
    · refine ⟨fun _ => ?_, fun h => absurd gg h⟩
      simp only [eq_self, not_true_eq_false, true_implies, false_implies, and_true]
      refine ⟨nb + 1, keyZ _ _ ?_ nb 0 (by omega)⟩
      rw [hf, pm_s]
      simp only [hm1, false_implies, true_implies, not_false_eq_true, true_and]
      rw [ex_nI (show b < 82 by omega) (by omega), e1 3 (by omega), x4, b01_0]
      first | exact ⟨fun _ => ⟨rfl, hz⟩, fun h => absurd gg h⟩ | exact ⟨fun _ => hz, fun h => absurd gg h⟩
    · obtain ⟨-, -, ⟨r7, r8, r9⟩, r10⟩ := hD.2.2.2.2 h0' b hb gg
      refine ⟨fun h => absurd h gg, fun _ => ?_⟩
      rw [r8]
      by_cases r0 : R 2 b = 0
      · have u0 : nI (R 2 b) ≤ 0 := by rw [r0]; decide
        refine ⟨fun _ => ?_, fun h => absurd u0 h⟩
        simp only [not_true_eq_false, true_implies, false_implies, and_true]
        refine ⟨nb + 1, keyZ _ _ ?_ nb 0 (by omega)⟩
        rw [hf, pm_s]
        simp only [hm1, false_implies, true_implies, not_false_eq_true, true_and]
        rw [ex_nI (show b < 82 by omega) (by omega), e1 3 (by omega), x4, b01_0]
        refine ⟨fun h => absurd h gg, fun _ => ⟨by omega, ?_⟩⟩
        rw [e1 34 (by omega), r9]
        first | exact ⟨fun _ => ⟨rfl, hz⟩, fun h => absurd u0 h⟩ | exact ⟨fun _ => hz, fun h => absurd u0 h⟩
      · have u0 : ¬ nI (R 2 b) ≤ 0 := nI_nle (by omega) (by omega)
        obtain ⟨⟨k1, k2⟩, ⟨k3, k4⟩, ⟨k5, k6⟩, ⟨k7, k8⟩, ⟨k9, k10⟩, k11, k12, k13⟩ := r10 r0
        refine ⟨fun h => absurd h u0, fun _ => ?_⟩
        simp only [i10, not_false_eq_true, true_implies, false_implies, true_and]
        refine holdsX (p := 20) (show b < 40 by omega) k1 k3 k5 k7 (fun hi => ?_) (fun hi => ?_)
        · simp only [i10, not_false_eq_true, true_implies, false_implies, true_and]
          refine ⟨nb + 1, keyZ _ _ ?_ nb 0 (by omega)⟩
          rw [hf, pm_s]
          simp only [hm1, false_implies, true_implies, not_false_eq_true, true_and]
          rw [ex_nI (show b < 82 by omega) (by omega), e1 3 (by omega), x4, b01_0]
          refine ⟨fun h => absurd h gg, fun _ => ⟨by omega, ?_⟩⟩
          rw [e1 34 (by omega), r9]
          refine ⟨fun h => absurd h u0, fun _ => ⟨by omega, by omega, by omega, by omega, ?_⟩⟩
          rw [e1 36 (by omega), e1 37 (by omega), e1 38 (by omega), e1 39 (by omega), k2, k4, k6, k8]
          refine isInZ (fun _ => ?_) (fun h => absurd hi h)
          simp only [i10, not_false_eq_true, true_implies, false_implies, true_and]
          exact hz
        · simp only [not_true_eq_false, true_implies, false_implies, and_true]
          refine ⟨nb + 1, keyZ _ _ ?_ nb 0 (by omega)⟩
          rw [hf, pm_s]
          simp only [hm1, false_implies, true_implies, not_false_eq_true, true_and]
          rw [ex_nI (show b < 82 by omega) (by omega), e1 3 (by omega), x4, b01_0]
          refine ⟨fun h => absurd h gg, fun _ => ⟨by omega, ?_⟩⟩
          rw [e1 34 (by omega), r9]
          refine ⟨fun h => absurd h u0, fun _ => ⟨by omega, by omega, by omega, by omega, ?_⟩⟩
          rw [e1 36 (by omega), e1 37 (by omega), e1 38 (by omega), e1 39 (by omega), k2, k4, k6, k8]
          refine isInZ (fun h => absurd h hi) (fun _ => ?_)
          simp only [not_true_eq_false, true_implies, false_implies, true_and, and_true]
          exact hz
/-! named -/
theorem namedZ_in {M : sy_M} {n b len : Nat} {v : Nat → Nat} {KZ : sy_M → Int32 → Int32 → Int32 → Prop} {QZ : Int32 → sy_M → Prop} {x1 : Int32} (hb : b < 40) (hl : M 9 b = nI len) (hl8 : len ≤ 8) (hv : ∀ k, k < len → M 10 (8 * b + k) = nI (v k)) (hs : len = n → n ≤ 1000)
    (h1 : len = n → (∀ k, k < len → M 1 k = nI (v k)) → KZ M x1 (nI b) 1) (h0 : ¬ (len = n ∧ ∀ k, k < len → M 1 k = nI (v k)) → KZ M x1 (nI b) 0) : ∃ m, wX12_named_39 KZ QZ m M x1 (nI b) (if len = n then 1 else 0) 0 := by
  by_cases hln : len = n
  · rw [if_pos hln]
    have key : ∀ r k, k + r = len → (∀ j, j < k → M 1 j = nI (v j)) → wX12_named_39 KZ QZ (r + 2) M x1 (nI b) 1 (nI k) := by
      intro r
      induction r with
      | zero =>
        intro k hk hj
        rw [wX12_named_39, ex_nI (show b < 82 by omega) (by omega), hl]
        have : nI len ≤ nI k := nI_le (by omega) (by omega)
        exact ⟨fun _ => h1 hln (fun j hj2 => hj j (by omega)), fun h => absurd this h⟩
      | succ r ih =>
        intro k hk hj
        rw [wX12_named_39, ex_nI (show b < 82 by omega) (by omega), hl]
        have e1 : ¬ nI len ≤ nI k := nI_ge (by omega) (by omega)
        simp only [e1, i10, false_implies, true_implies, not_false_eq_true, true_and]
        rw [pk_mul, nI_add, ex_nI (show 8 * b + k < 656 by omega) (by omega), ex_nI (show k < 1000 by omega) (by omega), hv k (by omega), nI_1]
        refine ⟨fun hne => ?_, fun heq => ?_⟩
        · rw [wX12_named_39, ex_nI (show b < 82 by omega) (by omega), hl]
          have hK : KZ M x1 (nI b) 0 := h0 (fun h => hne (h.2 k (by omega)).symm)
          by_cases c : nI len ≤ nI (k + 1)
          · exact ⟨fun _ => hK, fun h => absurd c h⟩
          · exact ⟨fun h => absurd h c, fun _ => ⟨fun _ => hK, fun h => absurd rfl h⟩⟩
        · refine ih (k + 1) (by omega) (fun j hj2 => ?_)
          by_cases hjk : j = k
          · subst hjk; exact heq.symm
          · exact hj j (by omega)
    exact ⟨len + 2, key len 0 (by omega) (fun j hj => absurd hj (by omega))⟩
  · rw [if_neg hln]
    refine ⟨1, ?_⟩
    rw [wX12_named_39, ex_nI (show b < 82 by omega) (by omega), hl]
    have hK : KZ M x1 (nI b) 0 := h0 (fun h => hln h.1)
    by_cases c : nI len ≤ 0
    · exact ⟨fun _ => hK, fun h => absurd c h⟩
    · exact ⟨fun h => absurd h c, fun _ => ⟨fun _ => hK, fun h => absurd rfl h⟩⟩
theorem namedZ {M : sy_M} {n nb : Nat} {T V : Nat → Nat → Nat} {QZ : Int32 → sy_M → Prop} (hb : M 0 13 = nI nb) (hnb : nb ≤ 40) (hn : M 0 5 = nI n) (hn2 : n ≤ 1000) (hT : ∀ b, b < nb → T 5 b ≤ 8 ∧ M 9 b = nI (T 5 b) ∧ ∀ k, k < T 5 b → M 10 (8 * b + k) = nI (V b k))
    (hq : QZ (pm (lstN (fun b => T 5 b = n ∧ ∀ k, k < T 5 b → M 1 k = nI (V b k)) nb)) (mu M 0 5 0)) (h00 : mu M 0 0 0 = M) : wX12_named M QZ := by
  have key : ∀ r b, b + r = nb → wX12_named_9 QZ (r + 1) M (pm (lstN (fun b => T 5 b = n ∧ ∀ k, k < T 5 b → M 1 k = nI (V b k)) b)) (nI b) := by
    intro r
    induction r with
    | zero =>
      intro b hbr
      have : b = nb := by omega
      subst this
      rw [wX12_named_9, hb]
      have : nI b ≤ nI b := nI_le (Nat.le_refl _) (by omega)
      exact ⟨fun _ => hq, fun h => absurd this h⟩
    | succ r ih =>
      intro b hbr
      obtain ⟨t1, t2, t3⟩ := hT b (by omega)
      rw [wX12_named_9, hb]
      have e1 : ¬ nI nb ≤ nI b := nI_ge (by omega) (by omega)
      simp only [e1, false_implies, true_implies, not_false_eq_true, true_and]
      rw [ex_nI (show b < 82 by omega) (by omega), t2, hn, nI_eq (by omega) (by omega)]
      have hstep := ih (b + 1) (by omega)
      have inner : ∃ m, wX12_named_39 (fun (M10 : sy_M) (x1_11 : Int32) (x2_12 : Int32) (x3_13 : Int32) => wX12_named_88 (fun (M15 : sy_M) (x1_16 : Int32) (x2_17 : Int32) => wX12_named_9 QZ (r + 1) M15 x1_16 x2_17) QZ M10 x1_11 x2_12 x3_13) QZ m M (pm (lstN (fun b => T 5 b = n ∧ ∀ k, k < T 5 b → M 1 k = nI (V b k)) b)) (nI b) (if T 5 b = n then 1 else 0) 0 := by
        refine namedZ_in (len := T 5 b) (v := V b) (by omega) t2 t1 t3 (fun _ => hn2) (fun h1 h2 => ?_) (fun h1 => ?_)
        · unfold wX12_named_88
          rw [lstN_y ⟨h1, h2⟩, pm_s] at hstep
          simp only [i10, false_implies, true_implies, not_false_eq_true, true_and, nI_1]
          exact hstep
        · unfold wX12_named_88
          rw [lstN_n h1] at hstep
          simp only [not_true_eq_false, false_implies, true_implies, and_true, nI_1]
          exact hstep
      refine ⟨fun h => ?_, fun h => ?_⟩
      · rw [if_neg h] at inner; exact inner
      · rw [if_pos h] at inner; exact inner
  unfold wX12_named
  rw [h00]
  exact ⟨nb + 1, key nb 0 (by omega)⟩
theorem mu_id (M : sy_M) (p k : Nat) : mu M p k (M p k) = M := by
  funext q j
  rw [mu_ap]
  by_cases h : q = p ∧ j = k
  · rw [if_pos h, h.1, h.2]
  · rw [if_neg h]
theorem mu_mu (M : sy_M) (p k : Nat) (v w : Int32) : mu (mu M p k v) p k w = mu M p k w := by
  funext q j
  rw [mu_ap, mu_ap, mu_ap]
  by_cases h : q = p ∧ j = k
  · rw [if_pos h, if_pos h]
  · rw [if_neg h, if_neg h, if_neg h]
theorem lst_none {P : Nat → Prop} : ∀ b, (∀ c, c < b → ¬ P c) → lstN P b = 0
  | 0, _ => rfl
  | b + 1, h => by
    rw [lstN_n (h b (by omega))]
    exact lst_none b (fun c hc => h c (by omega))
theorem lst_one {P : Nat → Prop} {b : Nat} : ∀ nb, b < nb → P b → (∀ c, c < nb → P c → c = b) → lstN P nb = b + 1
  | 0, h, _, _ => absurd h (by omega)
  | nb + 1, h, hb, hu => by
    by_cases hp : P nb
    · rw [lstN_y hp, hu nb (by omega) hp]
    · rw [lstN_n hp]
      have : b ≠ nb := fun e => hp (e ▸ hb)
      exact lst_one nb (by omega) hb (fun c hc => hu c (by omega))
theorem op_named {cn : Nat} {A B : sy_M} (h : Rel cn A B) {F : sy_M → sy_M → Prop} (hF : ∀ A' B', Rel cn A' B' → F A' B') : wX11_named A (fun r A' => wX12_named B (fun r' B' => r = r' ∧ F A' B')) := by
  have hz : Rel cn A (mu B 0 0 0) := h.z0
  obtain ⟨n, h1, h2, h3⟩ := h.len
  have hend := hF _ _ (hz.tape (m := 0) h2 (by omega) (by omega))
  obtain ⟨t, nb, nc, d, n', T, V, L, C, G, K, R, hQ, hw, hT, hL, hC, hd, hD, hP, hS⟩ := hz
  obtain ⟨q1, q2, q3, q4⟩ := hQ.t
  have ex : n' = n := by have := hP.2.1; rw [h2, nI_eq (by omega) (by have := hP.1; omega)] at this; exact this.symm
  subst ex
  have hnb := hw.1
  have hTn : ∀ b, b < nb → T 5 b ≤ 8 ∧ A (t + 6) b = nI (T 5 b) ∧ ∀ k, k < T 5 b → V b k < 128 ∧ A (t + 10) (8 * b + k) = nI (V b k) := fun b hb => ⟨(hw.2.2.2.1 b hb).2.2.2.2.1, (hT.2.2.2 b hb).2.2.2.2.2.2.1.1, fun k hk => ⟨by have := ((hw.2.2.2.1 b hb).2.2.2.2.2.2.2.2 k hk).2; omega, ((hT.2.2.2 b hb).2.2.2.2.2.2.2.2 k hk).1⟩⟩
  have hTz : ∀ b, b < nb → T 5 b ≤ 8 ∧ mu B 0 0 0 9 b = nI (T 5 b) ∧ ∀ k, k < T 5 b → mu B 0 0 0 10 (8 * b + k) = nI (V b k) := fun b hb => ⟨(hw.2.2.2.1 b hb).2.2.2.2.1, (hT.2.2.2 b hb).2.2.2.2.2.2.1.2, fun k hk => ((hT.2.2.2 b hb).2.2.2.2.2.2.2.2 k hk).2⟩
  have hmt : ∀ b, b < nb → T 5 b = n' → (nmAt A 0 (T 5 b) (V b) ↔ ∀ k, k < T 5 b → mu B 0 0 0 1 k = nI (V b k)) := by
    intro b hb hl
    unfold nmAt
    have hv := (hTn b hb).2.2
    constructor
    · intro hm k hk
      have e := hm k hk
      rw [Nat.zero_add] at e
      rw [(hP.code (show k < n' by omega)).2, e]
      unfold sb
      rw [if_pos (hv k hk).1]
    · intro hm k hk
      have e := hm k hk
      rw [(hP.code (show k < n' by omega)).2] at e
      rw [Nat.zero_add]
      have hv2 := (hv k hk).1
      refine sb_inj (kp_lt _) (by omega) ?_
      rw [e]
      unfold sb
      rw [if_pos hv2]
  unfold wX11_named
  rw [ex_t q1 q2, hP.2.1]
  have hZ : ∀ W : Int32 → sy_M → Prop, W (pm (lstN (fun b => T 5 b = n' ∧ ∀ k, k < T 5 b → mu B 0 0 0 1 k = nI (V b k)) nb)) (mu (mu B 0 0 0) 0 5 0) → wX12_named B W := by
    intro W hW
    have := namedZ (M := mu B 0 0 0) (QZ := W) hT.2.1 hnb hP.2.2.1 hP.1 hTz hW (mu_mu _ _ _ _ _)
    unfold wX12_named at this ⊢
    rw [mu_mu] at this
    exact this
  refine findX (f := 0) (e := n') (T := T) (V := V) hT.1 hnb hP.2.1 hP.1 (by omega) (by omega) hTn (fun b hb hl hm hc => ?_) (fun hc => ?_)
  · apply hZ
    rw [lst_one (b := b) nb hb ⟨by omega, (hmt b hb (by omega)).mp hm⟩ (fun c hc2 hpc => ?_), pm_s]
    · exact ⟨rfl, hend⟩
    · refine hw.2.2.2.2.2 c b hc2 hb (by omega) (fun k hk => ?_)
      have e1 := (hmt c hc2 hpc.1).mpr hpc.2 k hk
      have e2 := hm k (by omega)
      omega
  · apply hZ
    rw [lst_none nb (fun c hc2 hpc => hc c hc2 ⟨by omega, (hmt c hc2 hpc.1).mpr hpc.2⟩), pm_0]
    exact ⟨rfl, hend⟩
