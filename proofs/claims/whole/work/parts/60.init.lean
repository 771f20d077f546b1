/-! THE BEGINNING: the constructors' worlds as memories -/
def M0X : sy_M := fun p => match p with
  | 0 => fun k => match k with | 6 => nI 60 | 8 => nI 600 | 9 => nI 400 | _ => 0
  | 3 => fun k => match k with | 0 => -1 | 2 => nI 71 | _ => 0
  | _ => fun _ => 0
def M0Z : sy_M := fun p => match p with
  | 0 => fun k => match k with | 1 => nI 600 | 2 => nI 400 | 12 => -1 | _ => 0
  | _ => fun _ => 0
def ctA (h0 : Nat) (u : ctU) : Nat → Nat := fun i => if i = 0 then h0 else u.1 i
/-- the place of a cell in the constructors' world -/
def ctP (k : Nat) : Nat := match k with
  | 0 => 0
  | 1 => 2
  | 2 => 3
  | 3 => 1
  | 4 => 15
  | 5 => 16
  | 6 => 17
  | 7 => 18
  | 8 => 19
  | 9 => 20
  | 10 => 21
  | 11 => 22
  | 12 => 23
  | 13 => 24
  | 14 => 25
  | 15 => 26
  | 16 => 27
  | 17 => 28
  | 18 => 29
  | 19 => 30
  | 20 => 31
  | 21 => 32
  | 22 => 33
  | 23 => 34
  | 24 => 35
  | 25 => 36
  | 26 => 37
  | 27 => 38
  | 28 => 39
  | 29 => 40
  | 30 => 41
  | 31 => 42
  | 32 => 62
  | 33 => 63
  | 34 => 64
  | 35 => 65
  | 36 => 66
  | 37 => 67
  | 38 => 68
  | 39 => 69
  | 40 => 44
  | 41 => 45
  | 42 => 46
  | 43 => 47
  | 44 => 48
  | 45 => 49
  | 46 => 50
  | 47 => 55
  | 48 => 56
  | 49 => 57
  | 50 => 58
  | 51 => 59
  | 52 => 60
  | 53 => 61
  | 54 => 43
  | 55 => 51
  | 56 => 52
  | 57 => 53
  | 58 => 54
  | 59 => 70
  | 60 => 71
  | 61 => 72
  | 62 => 73
  | 63 => 74
  | 64 => 75
  | 65 => 76
  | 66 => 77
  | 67 => 78
  | 68 => 79
  | 69 => 80
  | 70 => 81
  | 71 => 4
  | 72 => 5
  | 73 => 6
  | 74 => 7
  | 75 => 8
  | 76 => 9
  | 77 => 10
  | 78 => 11
  | 79 => 12
  | 80 => 13
  | 81 => 14
  | n => n
theorem ctP_j : ∀ i, i < 82 → ∀ j, j < 82 → ctP i = ctP j → i = j := by decide +kernel
def ctAX (h0 : Nat) (u : ctU) : Nat → Nat := fun i => if i = 0 then h0 else u.1 (ctP i)
def ctCX (u : ctU) : Nat → ClassId := fun i => u.2 (ctP i)
theorem arr3 {cA : ClassId} {f g : Nat → Option Nat} (h0 : f 0 = g 0) (h1 : f 1 = g 1) (h2 : f 2 = g 2) : vp_cell cA (3, .inr (.inr (.inr (.inr f)))) = vp_cell cA (3, .inr (.inr (.inr (.inr g)))) := by
  show arrV cA 3 (fun j => va_rf (f j)) = arrV cA 3 (fun j => va_rf (g j))
  have e : (fun j : Fin 3 => va_rf (f j.val)) = (fun j : Fin 3 => va_rf (g j.val)) := by
    funext j
    match j with
    | ⟨0, _⟩ => exact congrArg va_rf h0
    | ⟨1, _⟩ => exact congrArg va_rf h1
    | ⟨2, _⟩ => exact congrArg va_rf h2
  simp only [arrV]
  rw [e]
theorem atX (D : va_G) (h0 : Nat) (u : ctU) (a b : Nat → Nat) {H : Heap} (h : va_P D vwCl (wX11 h0 u) H) : va_P D vwCl (sy_w NX (ctAX h0 u) (EX (D, ctAX h0 u, ctCX u, a, b)) M0X) H := by
  intro k q hk
  obtain ⟨hk1, rfl⟩ := sy_w_of hk
  clear hk
  have e0 : EX (D, ctAX h0 u, ctCX u, a, b) 0 (M0X 0) = .inr (11, [.ref (u.1 1), .ref (u.1 2), .ref (u.1 15), .ref (u.1 20), .ref (u.1 38), .ref (u.1 70), .ref (u.1 71), .int (nI 600), .int (nI 400)]) := by
    show Sum.inr (11, fX11 (D, ctAX h0 u, ctCX u, a, b) 0 (M0X 0)) = _
    unfold fX11
    rw [show M0X 0 6 = nI 60 from rfl, sy_rf_nI _ (by decide)]
    rfl
  have e3 : EX (D, ctAX h0 u, ctCX u, a, b) 3 (M0X 3) = .inr (6, [.ref (u.1 2), .ref (u.1 4), .int (-1 : Int32), .int 0, .int 0, .int 0, .int 0, .int 0]) := by
    show Sum.inr (6, fX6 (D, ctAX h0 u, ctCX u, a, b) 3 (M0X 3)) = _
    unfold fX6
    rw [show M0X 3 2 = nI 71 from rfl, sy_rf_nI _ (by decide)]
    rfl
  match k, hk1 with
  | 0, _ => rw [e0]; exact h 0 _ rfl
  | 1, _ => exact h 2 _ rfl
  | 2, _ => exact h 3 _ rfl
  | 3, _ => rw [e3]; exact h 1 _ rfl
  | 4, _ => exact h 15 _ rfl
  | 5, _ => exact h 16 _ rfl
  | 6, _ => exact h 17 _ rfl
  | 7, _ => exact h 18 _ rfl
  | 8, _ => exact h 19 _ rfl
  | 9, _ => exact h 20 _ rfl
  | 10, _ => exact h 21 _ rfl
  | 11, _ => exact h 22 _ rfl
  | 12, _ => exact h 23 _ rfl
  | 13, _ => exact h 24 _ rfl
  | 14, _ => exact h 25 _ rfl
  | 15, _ => exact h 26 _ rfl
  | 16, _ => exact h 27 _ rfl
  | 17, _ => exact h 28 _ rfl
  | 18, _ => exact h 29 _ rfl
  | 19, _ => exact h 30 _ rfl
  | 20, _ => exact h 31 _ rfl
  | 21, _ => exact h 32 _ rfl
  | 22, _ => exact h 33 _ rfl
  | 23, _ => exact h 34 _ rfl
  | 24, _ => exact h 35 _ rfl
  | 25, _ => exact h 36 _ rfl
  | 26, _ => exact h 37 _ rfl
  | 27, _ => exact h 38 _ rfl
  | 28, _ => exact h 39 _ rfl
  | 29, _ => exact h 40 _ rfl
  | 30, _ => exact h 41 _ rfl
  | 31, _ => exact h 42 _ rfl
  | 32, _ =>
    have h32 := h 62 _ rfl
    show H[u.1 62]? = some (vp_cell (u.2 62) (3, .inr (.inr (.inr (.inr (fun i => some (ctAX h0 u (33 + 7 * i))))))))
    refine Eq.trans h32 (congrArg some (arr3 ?_ ?_ ?_)) <;> rfl
  | 33, _ => exact h 63 _ rfl
  | 34, _ => exact h 64 _ rfl
  | 35, _ => exact h 65 _ rfl
  | 36, _ => exact h 66 _ rfl
  | 37, _ => exact h 67 _ rfl
  | 38, _ => exact h 68 _ rfl
  | 39, _ => exact h 69 _ rfl
  | 40, _ => exact h 44 _ rfl
  | 41, _ => exact h 45 _ rfl
  | 42, _ => exact h 46 _ rfl
  | 43, _ => exact h 47 _ rfl
  | 44, _ => exact h 48 _ rfl
  | 45, _ => exact h 49 _ rfl
  | 46, _ => exact h 50 _ rfl
  | 47, _ => exact h 55 _ rfl
  | 48, _ => exact h 56 _ rfl
  | 49, _ => exact h 57 _ rfl
  | 50, _ => exact h 58 _ rfl
  | 51, _ => exact h 59 _ rfl
  | 52, _ => exact h 60 _ rfl
  | 53, _ => exact h 61 _ rfl
  | 54, _ => exact h 43 _ rfl
  | 55, _ => exact h 51 _ rfl
  | 56, _ => exact h 52 _ rfl
  | 57, _ => exact h 53 _ rfl
  | 58, _ => exact h 54 _ rfl
  | 59, _ => exact h 70 _ rfl
  | 60, _ => exact h 71 _ rfl
  | 61, _ => exact h 72 _ rfl
  | 62, _ => exact h 73 _ rfl
  | 63, _ => exact h 74 _ rfl
  | 64, _ => exact h 75 _ rfl
  | 65, _ => exact h 76 _ rfl
  | 66, _ => exact h 77 _ rfl
  | 67, _ => exact h 78 _ rfl
  | 68, _ => exact h 79 _ rfl
  | 69, _ => exact h 80 _ rfl
  | 70, _ => exact h 81 _ rfl
  | 71, _ => exact h 4 _ rfl
  | 72, _ => exact h 5 _ rfl
  | 73, _ => exact h 6 _ rfl
  | 74, _ => exact h 7 _ rfl
  | 75, _ => exact h 8 _ rfl
  | 76, _ => exact h 9 _ rfl
  | 77, _ => exact h 10 _ rfl
  | 78, _ => exact h 11 _ rfl
  | 79, _ => exact h 12 _ rfl
  | 80, _ => exact h 13 _ rfl
  | 81, _ => exact h 14 _ rfl
  | n + 82, hz => exact absurd hz (by show ¬ (n + 82 < 82); omega)
theorem kyX (h0 : Nat) (u : ctU) : ∀ k, k < NX → ∃ q, (wX11 h0 u)[ctP k]? = some q ∧ q.1 = ctAX h0 u k := by
  intro k hk
  match k, hk with
  | 0, _ => exact ⟨_, rfl, rfl⟩
  | 1, _ => exact ⟨_, rfl, rfl⟩
  | 2, _ => exact ⟨_, rfl, rfl⟩
  | 3, _ => exact ⟨_, rfl, rfl⟩
  | 4, _ => exact ⟨_, rfl, rfl⟩
  | 5, _ => exact ⟨_, rfl, rfl⟩
  | 6, _ => exact ⟨_, rfl, rfl⟩
  | 7, _ => exact ⟨_, rfl, rfl⟩
  | 8, _ => exact ⟨_, rfl, rfl⟩
  | 9, _ => exact ⟨_, rfl, rfl⟩
  | 10, _ => exact ⟨_, rfl, rfl⟩
  | 11, _ => exact ⟨_, rfl, rfl⟩
  | 12, _ => exact ⟨_, rfl, rfl⟩
  | 13, _ => exact ⟨_, rfl, rfl⟩
  | 14, _ => exact ⟨_, rfl, rfl⟩
  | 15, _ => exact ⟨_, rfl, rfl⟩
  | 16, _ => exact ⟨_, rfl, rfl⟩
  | 17, _ => exact ⟨_, rfl, rfl⟩
  | 18, _ => exact ⟨_, rfl, rfl⟩
  | 19, _ => exact ⟨_, rfl, rfl⟩
  | 20, _ => exact ⟨_, rfl, rfl⟩
  | 21, _ => exact ⟨_, rfl, rfl⟩
  | 22, _ => exact ⟨_, rfl, rfl⟩
  | 23, _ => exact ⟨_, rfl, rfl⟩
  | 24, _ => exact ⟨_, rfl, rfl⟩
  | 25, _ => exact ⟨_, rfl, rfl⟩
  | 26, _ => exact ⟨_, rfl, rfl⟩
  | 27, _ => exact ⟨_, rfl, rfl⟩
  | 28, _ => exact ⟨_, rfl, rfl⟩
  | 29, _ => exact ⟨_, rfl, rfl⟩
  | 30, _ => exact ⟨_, rfl, rfl⟩
  | 31, _ => exact ⟨_, rfl, rfl⟩
  | 32, _ => exact ⟨_, rfl, rfl⟩
  | 33, _ => exact ⟨_, rfl, rfl⟩
  | 34, _ => exact ⟨_, rfl, rfl⟩
  | 35, _ => exact ⟨_, rfl, rfl⟩
  | 36, _ => exact ⟨_, rfl, rfl⟩
  | 37, _ => exact ⟨_, rfl, rfl⟩
  | 38, _ => exact ⟨_, rfl, rfl⟩
  | 39, _ => exact ⟨_, rfl, rfl⟩
  | 40, _ => exact ⟨_, rfl, rfl⟩
  | 41, _ => exact ⟨_, rfl, rfl⟩
  | 42, _ => exact ⟨_, rfl, rfl⟩
  | 43, _ => exact ⟨_, rfl, rfl⟩
  | 44, _ => exact ⟨_, rfl, rfl⟩
  | 45, _ => exact ⟨_, rfl, rfl⟩
  | 46, _ => exact ⟨_, rfl, rfl⟩
  | 47, _ => exact ⟨_, rfl, rfl⟩
  | 48, _ => exact ⟨_, rfl, rfl⟩
  | 49, _ => exact ⟨_, rfl, rfl⟩
  | 50, _ => exact ⟨_, rfl, rfl⟩
  | 51, _ => exact ⟨_, rfl, rfl⟩
  | 52, _ => exact ⟨_, rfl, rfl⟩
  | 53, _ => exact ⟨_, rfl, rfl⟩
  | 54, _ => exact ⟨_, rfl, rfl⟩
  | 55, _ => exact ⟨_, rfl, rfl⟩
  | 56, _ => exact ⟨_, rfl, rfl⟩
  | 57, _ => exact ⟨_, rfl, rfl⟩
  | 58, _ => exact ⟨_, rfl, rfl⟩
  | 59, _ => exact ⟨_, rfl, rfl⟩
  | 60, _ => exact ⟨_, rfl, rfl⟩
  | 61, _ => exact ⟨_, rfl, rfl⟩
  | 62, _ => exact ⟨_, rfl, rfl⟩
  | 63, _ => exact ⟨_, rfl, rfl⟩
  | 64, _ => exact ⟨_, rfl, rfl⟩
  | 65, _ => exact ⟨_, rfl, rfl⟩
  | 66, _ => exact ⟨_, rfl, rfl⟩
  | 67, _ => exact ⟨_, rfl, rfl⟩
  | 68, _ => exact ⟨_, rfl, rfl⟩
  | 69, _ => exact ⟨_, rfl, rfl⟩
  | 70, _ => exact ⟨_, rfl, rfl⟩
  | 71, _ => exact ⟨_, rfl, rfl⟩
  | 72, _ => exact ⟨_, rfl, rfl⟩
  | 73, _ => exact ⟨_, rfl, rfl⟩
  | 74, _ => exact ⟨_, rfl, rfl⟩
  | 75, _ => exact ⟨_, rfl, rfl⟩
  | 76, _ => exact ⟨_, rfl, rfl⟩
  | 77, _ => exact ⟨_, rfl, rfl⟩
  | 78, _ => exact ⟨_, rfl, rfl⟩
  | 79, _ => exact ⟨_, rfl, rfl⟩
  | 80, _ => exact ⟨_, rfl, rfl⟩
  | 81, _ => exact ⟨_, rfl, rfl⟩
  | n + 82, hz => exact absurd hz (by show ¬ (n + 82 < 82); omega)
theorem ajX {A : Nat → Prop} (h0 : Nat) (u : ctU) (h : va_D A (wX11 h0 u)) : sy_J NX (ctAX h0 u) ∧ ∀ k, k < NX → A (ctAX h0 u k) := by
  refine ⟨fun i j hi hj e => ?_, fun k hk => ?_⟩
  · obtain ⟨p, h1, h2⟩ := kyX h0 u i hi
    obtain ⟨q, h3, h4⟩ := kyX h0 u j hj
    exact ctP_j i hi j hj (h.1 _ _ p q h1 h3 (by rw [h2, h4]; exact e))
  · obtain ⟨p, h1, h2⟩ := kyX h0 u k hk
    rw [← h2]
    exact h.2 _ p h1
theorem akX {D : va_G} {u : ctU} {U : State} (h : va_K D vwCl (tX11 u) U) : ∀ p ty, tfX p = some ty → ArrOfT U (ctCX u p) ty ∧ va_RA U (ctCX u p) ty := by
  intro p ty hp
  match p, hp with
  | 0, hp => cases hp
  | 1, hp => cases hp
  | 2, hp => cases (Option.some.inj hp); exact h.2 0 _ rfl
  | 3, hp => cases hp
  | 4, hp => cases hp
  | 5, hp => cases (Option.some.inj hp); exact h.2 11 _ rfl
  | 6, hp => cases (Option.some.inj hp); exact h.2 12 _ rfl
  | 7, hp => cases (Option.some.inj hp); exact h.2 13 _ rfl
  | 8, hp => cases (Option.some.inj hp); exact h.2 14 _ rfl
  | 9, hp => cases hp
  | 10, hp => cases (Option.some.inj hp); exact h.2 15 _ rfl
  | 11, hp => cases hp
  | 12, hp => cases (Option.some.inj hp); exact h.2 16 _ rfl
  | 13, hp => cases (Option.some.inj hp); exact h.2 17 _ rfl
  | 14, hp => cases (Option.some.inj hp); exact h.2 18 _ rfl
  | 15, hp => cases (Option.some.inj hp); exact h.2 19 _ rfl
  | 16, hp => cases (Option.some.inj hp); exact h.2 20 _ rfl
  | 17, hp => cases (Option.some.inj hp); exact h.2 21 _ rfl
  | 18, hp => cases (Option.some.inj hp); exact h.2 22 _ rfl
  | 19, hp => cases (Option.some.inj hp); exact h.2 23 _ rfl
  | 20, hp => cases hp
  | 21, hp => cases (Option.some.inj hp); exact h.2 24 _ rfl
  | 22, hp => cases (Option.some.inj hp); exact h.2 25 _ rfl
  | 23, hp => cases (Option.some.inj hp); exact h.2 26 _ rfl
  | 24, hp => cases (Option.some.inj hp); exact h.2 27 _ rfl
  | 25, hp => cases (Option.some.inj hp); exact h.2 28 _ rfl
  | 26, hp => cases (Option.some.inj hp); exact h.2 29 _ rfl
  | 27, hp => cases hp
  | 28, hp => cases hp
  | 29, hp => cases (Option.some.inj hp); exact h.2 30 _ rfl
  | 30, hp => cases (Option.some.inj hp); exact h.2 31 _ rfl
  | 31, hp => cases (Option.some.inj hp); exact h.2 32 _ rfl
  | 32, hp => cases (Option.some.inj hp); exact h.2 46 _ rfl
  | 33, hp => cases hp
  | 34, hp => cases hp
  | 35, hp => cases (Option.some.inj hp); exact h.2 47 _ rfl
  | 36, hp => cases (Option.some.inj hp); exact h.2 48 _ rfl
  | 37, hp => cases (Option.some.inj hp); exact h.2 49 _ rfl
  | 38, hp => cases (Option.some.inj hp); exact h.2 50 _ rfl
  | 39, hp => cases (Option.some.inj hp); exact h.2 51 _ rfl
  | 40, hp => cases hp
  | 41, hp => cases hp
  | 42, hp => cases (Option.some.inj hp); exact h.2 33 _ rfl
  | 43, hp => cases (Option.some.inj hp); exact h.2 34 _ rfl
  | 44, hp => cases (Option.some.inj hp); exact h.2 35 _ rfl
  | 45, hp => cases (Option.some.inj hp); exact h.2 36 _ rfl
  | 46, hp => cases (Option.some.inj hp); exact h.2 37 _ rfl
  | 47, hp => cases hp
  | 48, hp => cases hp
  | 49, hp => cases (Option.some.inj hp); exact h.2 41 _ rfl
  | 50, hp => cases (Option.some.inj hp); exact h.2 42 _ rfl
  | 51, hp => cases (Option.some.inj hp); exact h.2 43 _ rfl
  | 52, hp => cases (Option.some.inj hp); exact h.2 44 _ rfl
  | 53, hp => cases (Option.some.inj hp); exact h.2 45 _ rfl
  | 54, hp => cases hp
  | 55, hp => cases (Option.some.inj hp); exact h.2 38 _ rfl
  | 56, hp => cases (Option.some.inj hp); exact h.2 39 _ rfl
  | 57, hp => cases (Option.some.inj hp); exact h.2 40 _ rfl
  | 58, hp => cases hp
  | 59, hp => cases (Option.some.inj hp); exact h.2 52 _ rfl
  | 60, hp => cases hp
  | 61, hp => cases (Option.some.inj hp); exact h.2 53 _ rfl
  | 62, hp => cases (Option.some.inj hp); exact h.2 54 _ rfl
  | 63, hp => cases (Option.some.inj hp); exact h.2 55 _ rfl
  | 64, hp => cases (Option.some.inj hp); exact h.2 56 _ rfl
  | 65, hp => cases (Option.some.inj hp); exact h.2 57 _ rfl
  | 66, hp => cases (Option.some.inj hp); exact h.2 58 _ rfl
  | 67, hp => cases (Option.some.inj hp); exact h.2 59 _ rfl
  | 68, hp => cases (Option.some.inj hp); exact h.2 60 _ rfl
  | 69, hp => cases (Option.some.inj hp); exact h.2 61 _ rfl
  | 70, hp => cases (Option.some.inj hp); exact h.2 62 _ rfl
  | 71, hp => cases hp
  | 72, hp => cases (Option.some.inj hp); exact h.2 1 _ rfl
  | 73, hp => cases (Option.some.inj hp); exact h.2 2 _ rfl
  | 74, hp => cases (Option.some.inj hp); exact h.2 3 _ rfl
  | 75, hp => cases (Option.some.inj hp); exact h.2 4 _ rfl
  | 76, hp => cases (Option.some.inj hp); exact h.2 5 _ rfl
  | 77, hp => cases (Option.some.inj hp); exact h.2 6 _ rfl
  | 78, hp => cases (Option.some.inj hp); exact h.2 7 _ rfl
  | 79, hp => cases (Option.some.inj hp); exact h.2 8 _ rfl
  | 80, hp => cases (Option.some.inj hp); exact h.2 9 _ rfl
  | 81, hp => cases (Option.some.inj hp); exact h.2 10 _ rfl
  | n + 82, hp => cases hp
theorem atZ (D : va_G) (h0 : Nat) (u : ctU) (a b : Nat → Nat) {H : Heap} (h : va_P D vwCl (wX12 h0 u) H) : va_P D vwCl (sy_w NZ (ctA h0 u) (EZ (D, ctA h0 u, u.2, a, b)) M0Z) H := by
  intro k q hk
  obtain ⟨hk1, rfl⟩ := sy_w_of hk
  clear hk
  match k, hk1 with
  | 0, _ => exact h 0 _ rfl
  | 1, _ => exact h 1 _ rfl
  | 2, _ => exact h 2 _ rfl
  | 3, _ => exact h 3 _ rfl
  | 4, _ => exact h 4 _ rfl
  | 5, _ => exact h 5 _ rfl
  | 6, _ => exact h 6 _ rfl
  | 7, _ => exact h 7 _ rfl
  | 8, _ => exact h 8 _ rfl
  | 9, _ => exact h 9 _ rfl
  | 10, _ => exact h 10 _ rfl
  | 11, _ => exact h 11 _ rfl
  | 12, _ => exact h 12 _ rfl
  | 13, _ => exact h 13 _ rfl
  | 14, _ => exact h 14 _ rfl
  | 15, _ => exact h 15 _ rfl
  | 16, _ => exact h 16 _ rfl
  | 17, _ => exact h 17 _ rfl
  | 18, _ => exact h 18 _ rfl
  | 19, _ => exact h 19 _ rfl
  | 20, _ => exact h 20 _ rfl
  | 21, _ => exact h 21 _ rfl
  | 22, _ => exact h 22 _ rfl
  | 23, _ => exact h 23 _ rfl
  | 24, _ => exact h 24 _ rfl
  | 25, _ => exact h 25 _ rfl
  | 26, _ => exact h 26 _ rfl
  | 27, _ => exact h 27 _ rfl
  | 28, _ => exact h 28 _ rfl
  | 29, _ => exact h 29 _ rfl
  | 30, _ => exact h 30 _ rfl
  | 31, _ => exact h 31 _ rfl
  | 32, _ => exact h 32 _ rfl
  | 33, _ => exact h 33 _ rfl
  | 34, _ => exact h 34 _ rfl
  | 35, _ => exact h 35 _ rfl
  | 36, _ => exact h 36 _ rfl
  | 37, _ => exact h 37 _ rfl
  | 38, _ => exact h 38 _ rfl
  | 39, _ => exact h 39 _ rfl
  | n + 40, hz => exact absurd hz (by show ¬ (n + 40 < 40); omega)
theorem kyZ (h0 : Nat) (u : ctU) : ∀ k, k < NZ → ∃ q, (wX12 h0 u)[k]? = some q ∧ q.1 = ctA h0 u k := by
  intro k hk
  match k, hk with
  | 0, _ => exact ⟨_, rfl, rfl⟩
  | 1, _ => exact ⟨_, rfl, rfl⟩
  | 2, _ => exact ⟨_, rfl, rfl⟩
  | 3, _ => exact ⟨_, rfl, rfl⟩
  | 4, _ => exact ⟨_, rfl, rfl⟩
  | 5, _ => exact ⟨_, rfl, rfl⟩
  | 6, _ => exact ⟨_, rfl, rfl⟩
  | 7, _ => exact ⟨_, rfl, rfl⟩
  | 8, _ => exact ⟨_, rfl, rfl⟩
  | 9, _ => exact ⟨_, rfl, rfl⟩
  | 10, _ => exact ⟨_, rfl, rfl⟩
  | 11, _ => exact ⟨_, rfl, rfl⟩
  | 12, _ => exact ⟨_, rfl, rfl⟩
  | 13, _ => exact ⟨_, rfl, rfl⟩
  | 14, _ => exact ⟨_, rfl, rfl⟩
  | 15, _ => exact ⟨_, rfl, rfl⟩
  | 16, _ => exact ⟨_, rfl, rfl⟩
  | 17, _ => exact ⟨_, rfl, rfl⟩
  | 18, _ => exact ⟨_, rfl, rfl⟩
  | 19, _ => exact ⟨_, rfl, rfl⟩
  | 20, _ => exact ⟨_, rfl, rfl⟩
  | 21, _ => exact ⟨_, rfl, rfl⟩
  | 22, _ => exact ⟨_, rfl, rfl⟩
  | 23, _ => exact ⟨_, rfl, rfl⟩
  | 24, _ => exact ⟨_, rfl, rfl⟩
  | 25, _ => exact ⟨_, rfl, rfl⟩
  | 26, _ => exact ⟨_, rfl, rfl⟩
  | 27, _ => exact ⟨_, rfl, rfl⟩
  | 28, _ => exact ⟨_, rfl, rfl⟩
  | 29, _ => exact ⟨_, rfl, rfl⟩
  | 30, _ => exact ⟨_, rfl, rfl⟩
  | 31, _ => exact ⟨_, rfl, rfl⟩
  | 32, _ => exact ⟨_, rfl, rfl⟩
  | 33, _ => exact ⟨_, rfl, rfl⟩
  | 34, _ => exact ⟨_, rfl, rfl⟩
  | 35, _ => exact ⟨_, rfl, rfl⟩
  | 36, _ => exact ⟨_, rfl, rfl⟩
  | 37, _ => exact ⟨_, rfl, rfl⟩
  | 38, _ => exact ⟨_, rfl, rfl⟩
  | 39, _ => exact ⟨_, rfl, rfl⟩
  | n + 40, hz => exact absurd hz (by show ¬ (n + 40 < 40); omega)
theorem ajZ {A : Nat → Prop} (h0 : Nat) (u : ctU) (h : va_D A (wX12 h0 u)) : sy_J NZ (ctA h0 u) ∧ ∀ k, k < NZ → A (ctA h0 u k) := by
  refine ⟨fun i j hi hj e => ?_, fun k hk => ?_⟩
  · obtain ⟨p, h1, h2⟩ := kyZ h0 u i hi
    obtain ⟨q, h3, h4⟩ := kyZ h0 u j hj
    exact h.1 _ _ p q h1 h3 (by rw [h2, h4]; exact e)
  · obtain ⟨p, h1, h2⟩ := kyZ h0 u k hk
    rw [← h2]
    exact h.2 _ p h1
theorem akZ {D : va_G} {u : ctU} {U : State} (h : va_K D vwCl (tX12 u) U) : ∀ p ty, tfZ p = some ty → ArrOfT U (u.2 p) ty ∧ va_RA U (u.2 p) ty := by
  intro p ty hp
  match p, hp with
  | 0, hp => cases hp
  | 1, hp => cases (Option.some.inj hp); exact h.2 0 _ rfl
  | 2, hp => cases (Option.some.inj hp); exact h.2 1 _ rfl
  | 3, hp => cases (Option.some.inj hp); exact h.2 2 _ rfl
  | 4, hp => cases (Option.some.inj hp); exact h.2 3 _ rfl
  | 5, hp => cases (Option.some.inj hp); exact h.2 4 _ rfl
  | 6, hp => cases (Option.some.inj hp); exact h.2 5 _ rfl
  | 7, hp => cases (Option.some.inj hp); exact h.2 6 _ rfl
  | 8, hp => cases (Option.some.inj hp); exact h.2 7 _ rfl
  | 9, hp => cases (Option.some.inj hp); exact h.2 8 _ rfl
  | 10, hp => cases (Option.some.inj hp); exact h.2 9 _ rfl
  | 11, hp => cases (Option.some.inj hp); exact h.2 10 _ rfl
  | 12, hp => cases (Option.some.inj hp); exact h.2 11 _ rfl
  | 13, hp => cases (Option.some.inj hp); exact h.2 12 _ rfl
  | 14, hp => cases (Option.some.inj hp); exact h.2 13 _ rfl
  | 15, hp => cases (Option.some.inj hp); exact h.2 14 _ rfl
  | 16, hp => cases (Option.some.inj hp); exact h.2 15 _ rfl
  | 17, hp => cases (Option.some.inj hp); exact h.2 16 _ rfl
  | 18, hp => cases (Option.some.inj hp); exact h.2 17 _ rfl
  | 19, hp => cases (Option.some.inj hp); exact h.2 18 _ rfl
  | 20, hp => cases (Option.some.inj hp); exact h.2 19 _ rfl
  | 21, hp => cases (Option.some.inj hp); exact h.2 20 _ rfl
  | 22, hp => cases (Option.some.inj hp); exact h.2 21 _ rfl
  | 23, hp => cases (Option.some.inj hp); exact h.2 22 _ rfl
  | 24, hp => cases (Option.some.inj hp); exact h.2 23 _ rfl
  | 25, hp => cases (Option.some.inj hp); exact h.2 24 _ rfl
  | 26, hp => cases (Option.some.inj hp); exact h.2 25 _ rfl
  | 27, hp => cases (Option.some.inj hp); exact h.2 26 _ rfl
  | 28, hp => cases (Option.some.inj hp); exact h.2 27 _ rfl
  | 29, hp => cases (Option.some.inj hp); exact h.2 28 _ rfl
  | 30, hp => cases (Option.some.inj hp); exact h.2 29 _ rfl
  | 31, hp => cases (Option.some.inj hp); exact h.2 30 _ rfl
  | 32, hp => cases (Option.some.inj hp); exact h.2 31 _ rfl
  | 33, hp => cases (Option.some.inj hp); exact h.2 32 _ rfl
  | 34, hp => cases (Option.some.inj hp); exact h.2 33 _ rfl
  | 35, hp => cases (Option.some.inj hp); exact h.2 34 _ rfl
  | 36, hp => cases (Option.some.inj hp); exact h.2 35 _ rfl
  | 37, hp => cases (Option.some.inj hp); exact h.2 36 _ rfl
  | 38, hp => cases (Option.some.inj hp); exact h.2 37 _ rfl
  | 39, hp => cases (Option.some.inj hp); exact h.2 38 _ rfl
  | n + 40, hp => cases hp
