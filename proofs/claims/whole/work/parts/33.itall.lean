/-! what the ITEMS of a GROUP are like -/
theorem rs_ins (f : Nat → Nat) (p c m : Nat) (h : p ≤ m) : rs (insF f p c) 0 (m + 1) = rs f 0 m + c := by
  have s1 := rs_split (insF f p c) 0 p (1 + (m - p))
  have s2 := rs_split (insF f p c) (0 + p) 1 (m - p)
  have s3 := rs_split f 0 p (m - p)
  rw [show p + (1 + (m - p)) = m + 1 by omega] at s1
  rw [show p + (m - p) = m by omega] at s3
  have e1 : rs (insF f p c) 0 p = rs f 0 p := rs_cg 0 p (fun i _ q => by unfold insF; rw [if_pos (by omega)])
  have e2 : rs (insF f p c) (0 + p) 1 = c := by
    rw [rs, rs, Nat.zero_add]
    unfold insF
    rw [Nat.add_zero, if_neg (by omega), if_pos (by omega)]
  have e3 : ∀ n, rs (insF f p c) (0 + p + 1) n = rs f (0 + p) n := by
    intro n
    induction n with
    | zero => rfl
    | succ n ih =>
      rw [rs, rs, ih]
      congr 1
      unfold insF
      rw [if_neg (by omega), if_neg (by omega)]
      congr 1
      omega
  rw [s1, s2, e1, e2, e3, s3]
  omega
theorem ins_sum (srt : Bool) (σ : itS) (c s : Nat) : rs (insI srt σ c s).2.2 0 (insI srt σ c s).1 = rs σ.2.2 0 σ.1 + s := by
  unfold insI
  refine rs_ins _ _ _ _ ?_
  cases srt
  · exact Nat.le_refl _
  · exact ipos_le _ _ _
theorem its_sum (T : Nat → Nat → Nat) (S : Nat → Nat) (tog : Bool) (P : Nat → Bool) (srt : Bool) (g : Nat) : ∀ j, rs (itsP T S tog P srt g j).1.2.2 0 (itsP T S tog P srt g j).1.1 + (itsP T S tog P srt g j).2 = rs (fun c => if T 0 c = g + 1 then S c else 0) (g + 1) j ∧ (tog = false → (itsP T S tog P srt g j).2 = 0)
  | 0 => ⟨rfl, fun _ => rfl⟩
  | j + 1 => by
    obtain ⟨ih, ih2⟩ := its_sum T S tog P srt g j
    rw [itsP, rs]
    by_cases h : T 0 (g + 1 + j) = g + 1
    · rw [if_pos h, if_pos h]
      by_cases hp : (tog && P (g + 1 + j)) = true
      · rw [if_pos hp]
        dsimp only
        refine ⟨by omega, fun ht => ?_⟩
        rw [ht] at hp
        exact absurd hp (by simp)
      · rw [if_neg hp]
        dsimp only
        rw [ins_sum]
        exact ⟨by omega, ih2⟩
    · rw [if_neg h, if_neg h]
      exact ⟨by omega, ih2⟩
theorem insF_ex (f : Nat → Nat) (p c m : Nat) (h : p ≤ m) : (∃ i, i < m + 1 ∧ insF f p c i = c) ∧ ∀ i, i < m → ∃ k, k < m + 1 ∧ insF f p c k = f i := by
  refine ⟨⟨p, by omega, by unfold insF; rw [if_neg (by omega), if_pos rfl]⟩, fun i hi => ?_⟩
  by_cases hip : i < p
  · exact ⟨i, by omega, by unfold insF; rw [if_pos hip]⟩
  · exact ⟨i + 1, by omega, by unfold insF; rw [if_neg (by omega), if_neg (by omega), Nat.add_sub_cancel]⟩
theorem insF_in (f : Nat → Nat) (p c m i : Nat) (hi : i < m + 1) (h : p ≤ m) : insF f p c i = c ∨ ∃ k, k < m ∧ insF f p c i = f k := by
  unfold insF
  by_cases q1 : i < p
  · rw [if_pos q1]; exact Or.inr ⟨i, by omega, rfl⟩
  · rw [if_neg q1]
    by_cases q2 : i = p
    · rw [if_pos q2]; exact Or.inl rfl
    · rw [if_neg q2]; exact Or.inr ⟨i - 1, by omega, rfl⟩
theorem ins_p (srt : Bool) (σ : itS) (s : Nat) : (if srt then ipos σ.2.2 s σ.1 else σ.1) ≤ σ.1 := by
  cases srt
  · exact Nat.le_refl _
  · exact ipos_le _ _ _
theorem its_bx (T : Nat → Nat → Nat) (S : Nat → Nat) (tog : Bool) (P : Nat → Bool) (srt : Bool) (g : Nat) : ∀ j, (∀ i, i < (itsP T S tog P srt g j).1.1 → 1 ≤ (itsP T S tog P srt g j).1.2.1 i ∧ (itsP T S tog P srt g j).1.2.1 i ≤ g + 1 + j) ∧ ∀ c, g + 1 ≤ c → c < g + 1 + j → T 0 c = g + 1 → P c = false → ∃ i, i < (itsP T S tog P srt g j).1.1 ∧ (itsP T S tog P srt g j).1.2.1 i = c + 1
  | 0 => ⟨fun i h => absurd h (by show ¬ i < 0; omega), fun c h1 h2 => absurd h2 (by omega)⟩
  | j + 1 => by
    obtain ⟨i1, i2⟩ := its_bx T S tog P srt g j
    rw [itsP]
    by_cases h : T 0 (g + 1 + j) = g + 1
    · rw [if_pos h]
      by_cases hp : (tog && P (g + 1 + j)) = true
      · rw [if_pos hp]
        dsimp only
        refine ⟨fun i hi => ⟨(i1 i hi).1, by have := (i1 i hi).2; omega⟩, fun c h1 h2 h3 h4 => ?_⟩
        by_cases hc : c = g + 1 + j
        · subst hc
          rw [h4] at hp
          exact absurd hp (by simp)
        · exact i2 c h1 (by omega) h3 h4
      · rw [if_neg hp]
        have hpl := ins_p srt (itsP T S tog P srt g j).1 (S (g + 1 + j))
        unfold insI
        dsimp only
        refine ⟨fun i hi => ?_, fun c h1 h2 h3 h4 => ?_⟩
        · rcases insF_in (itsP T S tog P srt g j).1.2.1 _ (g + 1 + j + 1) _ i hi hpl with q | ⟨k, k1, k2⟩
          · rw [q]; omega
          · rw [k2]
            have := i1 k k1
            omega
        · obtain ⟨x1, x2⟩ := insF_ex (itsP T S tog P srt g j).1.2.1 _ (g + 1 + j + 1) _ hpl
          by_cases hc : c = g + 1 + j
          · subst hc
            exact x1
          · obtain ⟨i, q1, q2⟩ := i2 c h1 (by omega) h3 h4
            obtain ⟨k, k1, k2⟩ := x2 i q1
            exact ⟨k, k1, by rw [k2]; exact q2⟩
    · rw [if_neg h]
      refine ⟨fun i hi => ⟨(i1 i hi).1, by have := (i1 i hi).2; omega⟩, fun c h1 h2 h3 h4 => ?_⟩
      by_cases hc : c = g + 1 + j
      · subst hc; exact absurd h3 h
      · exact i2 c h1 (by omega) h3 h4
/-- the items of group b, their boxes, what was put together -/
def sig (T : Nat → Nat → Nat) (S : Nat → Nat) (nb lim opn b : Nat) : itS := itsE (decide (togN opn (smN (smB T S lim b) (b + 1) (nb - (b + 1))) ≠ 0)) (itsP T S (decide (togN opn (smN (smB T S lim b) (b + 1) (nb - (b + 1))) ≠ 0)) (smB T S lim b) (decide (T 6 b ≠ 0)) b (nb - (b + 1)))
def tgN (T : Nat → Nat → Nat) (S : Nat → Nat) (nb lim opn b : Nat) : Nat := togN opn (smN (smB T S lim b) (b + 1) (nb - (b + 1)))
def rsz (T : Nat → Nat → Nat) (S : Nat → Nat) (nb lim opn b : Nat) : Nat := (itsP T S (decide (togN opn (smN (smB T S lim b) (b + 1) (nb - (b + 1))) ≠ 0)) (smB T S lim b) (decide (T 6 b ≠ 0)) b (nb - (b + 1))).2
theorem sig_all {T V : Nat → Nat → Nat} {S l : Nat → Nat} {nb lim opn b : Nat} (hw : wfT nb T V) (hb : b < nb) (hg : T 1 b ≠ 0) (hS : S = SZ T l nb) :
    (1 ≤ (sig T S nb lim opn b).1 ∧ (sig T S nb lim opn b).1 ≤ 8) ∧ ahd (sig T S nb lim opn b).2.2 (sig T S nb lim opn b).1 = S b ∧ (∀ i, i < (sig T S nb lim opn b).1 → (sig T S nb lim opn b).2.1 i ≤ nb ∧ ((sig T S nb lim opn b).2.1 i = 0 ↔ tgN T S nb lim opn b ≠ 0 ∧ i + 1 = (sig T S nb lim opn b).1)) ∧
    (tgN T S nb lim opn b ≠ 0 → (sig T S nb lim opn b).2.2 ((sig T S nb lim opn b).1 - 1) = rsz T S nb lim opn b) ∧ (∀ c, c < nb → T 0 c = b + 1 → T 1 c ≠ 0 → ∃ i, i < (sig T S nb lim opn b).1 ∧ (sig T S nb lim opn b).2.1 i = c + 1) ∧ tgN T S nb lim opn b ≤ 8 := by
  have hk := kids hw hb
  have hT2 := (hw.2.2.2.1 b hb).2.1
  have hT2' := ((hw.2.2.2.1 b hb).2.2.2.2.2.2.2.1 hg).2
  have hPk : ∀ c, smB T S lim b c = true → T 0 c = b + 1 ∧ T 1 c = 0 := fun c hc => by unfold smB at hc; exact ⟨(of_decide_eq_true hc).1, (of_decide_eq_true hc).2.1⟩
  have hSg : S b = rs (fun c => if T 0 c = b + 1 then S c else 0) (b + 1) (nb - (b + 1)) := by
    rw [hS]
    exact SZ_group hw hb hg
  unfold sig tgN rsz
  generalize hsm : smN (smB T S lim b) (b + 1) (nb - (b + 1)) = sm
  generalize htog : decide (togN opn sm ≠ 0) = tog
  generalize hq : itsP T S tog (smB T S lim b) (decide (T 6 b ≠ 0)) b (nb - (b + 1)) = q
  have cnt := itsP_cnt T S tog (smB T S lim b) (decide (T 6 b ≠ 0)) b (fun c hc => (hPk c hc).1) (nb - (b + 1))
  have sum := its_sum T S tog (smB T S lim b) (decide (T 6 b ≠ 0)) b (nb - (b + 1))
  have bx := its_bx T S tog (smB T S lim b) (decide (T 6 b ≠ 0)) b (nb - (b + 1))
  rw [hq] at cnt sum bx
  rw [hk, hsm] at cnt
  rw [← hSg] at sum
  have hch : ∀ c, c < nb → T 0 c = b + 1 → T 1 c ≠ 0 → ∃ i, i < q.1.1 ∧ q.1.2.1 i = c + 1 := by
    intro c h1 h2 h3
    have hc0 : 0 < c := Nat.pos_of_ne_zero (fun e => by subst e; rw [(hw.2.1 (by omega)).1] at h2; omega)
    have := (hw.2.2.1 c h1 hc0).2.1
    refine bx.2 c (by omega) (by omega) h2 ?_
    cases hh : smB T S lim b c with
    | false => rfl
    | true => exact absurd (hPk c hh).2 h3
  cases tog with
  | false =>
    have ht0 : togN opn sm = 0 := by
      have := of_decide_eq_false htog
      exact Classical.not_not.mp this
    have e : itsE false q = q.1 := rfl
    simp only [Bool.false_eq_true, if_false] at cnt
    rw [e]
    refine ⟨⟨by omega, by omega⟩, ?_, fun i hi => ⟨?_, ?_⟩, fun h => absurd ht0 h, hch, by omega⟩
    · unfold ahd
      have := sum.2 rfl
      omega
    · have := (bx.1 i hi).2; omega
    · have := (bx.1 i hi).1
      constructor
      · intro h; omega
      · intro h; exact absurd ht0 h.1
  | true =>
    have ht1 : togN opn sm ≠ 0 := of_decide_eq_true htog
    have hsm2 : togN opn sm = sm ∧ 2 ≤ sm := by
      unfold togN at ht1 ⊢
      by_cases z : opn = 0 ∧ 2 ≤ sm
      · rw [if_pos z]; exact ⟨rfl, z.2⟩
      · rw [if_neg z] at ht1; exact absurd rfl ht1
    have e : itsE true q = insI false q.1 0 q.2 := rfl
    simp only [if_true] at cnt
    have e1 : (itsE true q).1 = q.1.1 + 1 := rfl
    have e2 : ∀ i, i < q.1.1 → (itsE true q).2.1 i = q.1.2.1 i := fun i hi => by
      rw [e]; show insF q.1.2.1 q.1.1 0 i = _; unfold insF; rw [if_pos hi]
    have e3 : (itsE true q).2.1 q.1.1 = 0 := by
      rw [e]; show insF q.1.2.1 q.1.1 0 q.1.1 = _; unfold insF; rw [if_neg (by omega), if_pos rfl]
    have e4 : (itsE true q).2.2 q.1.1 = q.2 := by
      rw [e]; show insF q.1.2.2 q.1.1 q.2 q.1.1 = _; unfold insF; rw [if_neg (by omega), if_pos rfl]
    rw [e1]
    refine ⟨⟨by omega, by omega⟩, ?_, fun i hi => ?_, fun _ => by rw [Nat.add_sub_cancel]; exact e4, fun c h1 h2 h3 => ?_, by omega⟩
    · have := ins_sum false q.1 0 q.2
      show rs (insI false q.1 0 q.2).2.2 0 (insI false q.1 0 q.2).1 = S b
      rw [this]
      omega
    · by_cases hi2 : i = q.1.1
      · rw [hi2, e3]
        exact ⟨by omega, fun _ => ⟨ht1, rfl⟩, fun _ => rfl⟩
      · rw [e2 i (by omega)]
        have := bx.1 i (by omega)
        refine ⟨by omega, fun h => by omega, fun h => by omega⟩
    · obtain ⟨i, q1, q2⟩ := hch c h1 h2 h3
      exact ⟨i, by omega, by rw [e2 i q1]; exact q2⟩
