/-! THE TWO SYSTEMS: X the class, Z the reference: which cell holds what -/
def sy_rf (Y : sy_Y) (x : Int32) : Value := if x < 0 then .null else .ref (Y.2.1 x.toNatClampNeg)
theorem sy_rf_nI (Y : sy_Y) {t : Nat} (h : t < 2 ^ 31) : sy_rf Y (nI t) = .ref (Y.2.1 t) := by
  unfold sy_rf
  rw [if_neg (nI_pos h), nI_clamp h]
theorem sy_rf_of {Y : sy_Y} {x : Int32} {t : Nat} (e : x = nI t) (h : t < 2 ^ 31) : some (sy_rf Y x) = some (Value.ref (Y.2.1 t)) := by
  rw [e, sy_rf_nI Y h]
abbrev NX : Nat := 82
def fX0 (Y : sy_Y) (p : Nat) (f : Nat → Int32) : List Value := [.int (f 0), .ref (Y.2.1 5), .ref (Y.2.1 6), .ref (Y.2.1 7), .ref (Y.2.1 8)]
def fX1 (Y : sy_Y) (p : Nat) (f : Nat → Int32) : List Value := [.ref (Y.2.1 47)]
def fX2 (Y : sy_Y) (p : Nat) (f : Nat → Int32) : List Value := [.int (f 0), .ref (Y.2.1 10), .ref (Y.2.1 11), .ref (Y.2.1 17), .ref (Y.2.1 18), .ref (Y.2.1 19), .ref (Y.2.1 20), .ref (Y.2.1 26)]
def fX3 (Y : sy_Y) (p : Nat) (f : Nat → Int32) : List Value := [.int (f 0), .int (f 1), .ref (Y.2.1 29), .ref (Y.2.1 30), .int (f 4), .int (f 5), .int (f 6), .int (f 7), .ref (Y.2.1 31)]
def fX4 (Y : sy_Y) (p : Nat) (f : Nat → Int32) : List Value := [.int (f 0), .ref (Y.2.1 28), .ref (Y.2.1 54), .ref (Y.2.1 58), .ref (Y.2.1 32)]
def fX5 (Y : sy_Y) (p : Nat) (f : Nat → Int32) : List Value := [.int (f 0), .ref (Y.2.1 (p + 1))]
def fX6 (Y : sy_Y) (p : Nat) (f : Nat → Int32) : List Value := [.ref (Y.2.1 1), sy_rf Y (f 2), .int (f 0), .int (f 3), .int (f 4), .int (f 5), .int (f 6), .int (f 7)]
def fX7 (Y : sy_Y) (p : Nat) (f : Nat → Int32) : List Value := [.ref (Y.2.1 (p + 1)), .ref (Y.2.1 (p + 2)), .ref (Y.2.1 (p + 3)), .ref (Y.2.1 (p + 4)), .ref (Y.2.1 (p + 5))]
def fX8 (Y : sy_Y) (p : Nat) (f : Nat → Int32) : List Value := [.ref (Y.2.1 40), .ref (Y.2.1 55), .ref (Y.2.1 56), .ref (Y.2.1 57)]
def fX9 (Y : sy_Y) (p : Nat) (f : Nat → Int32) : List Value := [.int (f 0), .ref (Y.2.1 2)]
def fX10 (Y : sy_Y) (p : Nat) (f : Nat → Int32) : List Value := [.int (f 0), .int (f 1), .ref (Y.2.1 (p + 1)), .ref (Y.2.1 (p + 2)), .ref (Y.2.1 (p + 3)), .ref (Y.2.1 (p + 4)), .ref (Y.2.1 (p + 5)), .ref (Y.2.1 (p + 6)), .ref (Y.2.1 (p + 7)), .ref (Y.2.1 (p + 8)), .ref (Y.2.1 (p + 9)), .ref (Y.2.1 (p + 10))]
def fX11 (Y : sy_Y) (p : Nat) (f : Nat → Int32) : List Value := [.ref (Y.2.1 3), .ref (Y.2.1 1), .ref (Y.2.1 4), .ref (Y.2.1 9), .ref (Y.2.1 27), .ref (Y.2.1 59), sy_rf Y (f 6), .int (f 8), .int (f 9)]
def EX (Y : sy_Y) (p : Nat) (f : Nat → Int32) : va_E := match p with
  | 0 => .inr (11, fX11 Y 0 f)
  | 1 => .inr (9, fX9 Y 1 f)
  | 2 => .inl (Y.2.2.1 2, 1000, .inl f)
  | 3 => .inr (6, fX6 Y 3 f)
  | 4 => .inr (0, fX0 Y 4 f)
  | 5 => .inl (Y.2.2.1 5, 100, .inl f)
  | 6 => .inl (Y.2.2.1 6, 100, .inl f)
  | 7 => .inl (Y.2.2.1 7, 100, .inl f)
  | 8 => .inl (Y.2.2.1 8, 40, .inl f)
  | 9 => .inr (2, fX2 Y 9 f)
  | 10 => .inl (Y.2.2.1 10, 50, .inl f)
  | 11 => .inr (7, fX7 Y 11 f)
  | 12 => .inl (Y.2.2.1 12, 2000, .inl f)
  | 13 => .inl (Y.2.2.1 13, 2000, .inl f)
  | 14 => .inl (Y.2.2.1 14, 2000, .inl f)
  | 15 => .inl (Y.2.2.1 15, 2000, .inl f)
  | 16 => .inl (Y.2.2.1 16, 2000, .inl f)
  | 17 => .inl (Y.2.2.1 17, 2000, .inl f)
  | 18 => .inl (Y.2.2.1 18, 40, .inl f)
  | 19 => .inl (Y.2.2.1 19, 40, .inl f)
  | 20 => .inr (7, fX7 Y 20 f)
  | 21 => .inl (Y.2.2.1 21, 40, .inl f)
  | 22 => .inl (Y.2.2.1 22, 40, .inl f)
  | 23 => .inl (Y.2.2.1 23, 40, .inl f)
  | 24 => .inl (Y.2.2.1 24, 40, .inl f)
  | 25 => .inl (Y.2.2.1 25, 40, .inl f)
  | 26 => .inl (Y.2.2.1 26, 40, .inl f)
  | 27 => .inr (4, fX4 Y 27 f)
  | 28 => .inr (3, fX3 Y 28 f)
  | 29 => .inl (Y.2.2.1 29, 8, .inl f)
  | 30 => .inl (Y.2.2.1 30, 8, .inl f)
  | 31 => .inl (Y.2.2.1 31, 9, .inl f)
  | 32 => .inl (Y.2.2.1 32, 3, .inr (.inr (.inr (.inr (fun i => some (Y.2.1 (33 + 7 * i)))))))
  | 33 => .inr (5, fX5 Y 33 f)
  | 34 => .inr (7, fX7 Y 34 f)
  | 35 => .inl (Y.2.2.1 35, 8, .inl f)
  | 36 => .inl (Y.2.2.1 36, 8, .inl f)
  | 37 => .inl (Y.2.2.1 37, 8, .inl f)
  | 38 => .inl (Y.2.2.1 38, 8, .inl f)
  | 39 => .inl (Y.2.2.1 39, 8, .inl f)
  | 40 => .inr (5, fX5 Y 40 f)
  | 41 => .inr (7, fX7 Y 41 f)
  | 42 => .inl (Y.2.2.1 42, 8, .inl f)
  | 43 => .inl (Y.2.2.1 43, 8, .inl f)
  | 44 => .inl (Y.2.2.1 44, 8, .inl f)
  | 45 => .inl (Y.2.2.1 45, 8, .inl f)
  | 46 => .inl (Y.2.2.1 46, 8, .inl f)
  | 47 => .inr (5, fX5 Y 47 f)
  | 48 => .inr (7, fX7 Y 48 f)
  | 49 => .inl (Y.2.2.1 49, 8, .inl f)
  | 50 => .inl (Y.2.2.1 50, 8, .inl f)
  | 51 => .inl (Y.2.2.1 51, 8, .inl f)
  | 52 => .inl (Y.2.2.1 52, 8, .inl f)
  | 53 => .inl (Y.2.2.1 53, 8, .inl f)
  | 54 => .inr (8, fX8 Y 54 f)
  | 55 => .inl (Y.2.2.1 55, 72, .inl f)
  | 56 => .inl (Y.2.2.1 56, 9, .inl f)
  | 57 => .inl (Y.2.2.1 57, 9, .inl f)
  | 58 => .inr (1, fX1 Y 58 f)
  | 59 => .inl (Y.2.2.1 59, 40, .inl f)
  | 60 => .inr (10, fX10 Y 60 f)
  | 61 => .inl (Y.2.2.1 61, 40, .inl f)
  | 62 => .inl (Y.2.2.1 62, 40, .inl f)
  | 63 => .inl (Y.2.2.1 63, 40, .inl f)
  | 64 => .inl (Y.2.2.1 64, 40, .inl f)
  | 65 => .inl (Y.2.2.1 65, 40, .inl f)
  | 66 => .inl (Y.2.2.1 66, 40, .inl f)
  | 67 => .inl (Y.2.2.1 67, 40, .inl f)
  | 68 => .inl (Y.2.2.1 68, 40, .inl f)
  | 69 => .inl (Y.2.2.1 69, 40, .inl f)
  | 70 => .inl (Y.2.2.1 70, 320, .inl f)
  | 71 => .inr (10, fX10 Y 71 f)
  | 72 => .inl (Y.2.2.1 72, 40, .inl f)
  | 73 => .inl (Y.2.2.1 73, 40, .inl f)
  | 74 => .inl (Y.2.2.1 74, 40, .inl f)
  | 75 => .inl (Y.2.2.1 75, 40, .inl f)
  | 76 => .inl (Y.2.2.1 76, 40, .inl f)
  | 77 => .inl (Y.2.2.1 77, 40, .inl f)
  | 78 => .inl (Y.2.2.1 78, 40, .inl f)
  | 79 => .inl (Y.2.2.1 79, 40, .inl f)
  | 80 => .inl (Y.2.2.1 80, 40, .inl f)
  | 81 => .inl (Y.2.2.1 81, 320, .inl f)
  | _ => .inl (Y.2.2.1 0, 0, .inl f)
def tfX (p : Nat) : Option FieldType := match p with
  | 2 => some .byte
  | 5 => some .int
  | 6 => some .int
  | 7 => some .int
  | 8 => some .int
  | 10 => some .int
  | 12 => some .int
  | 13 => some .int
  | 14 => some .int
  | 15 => some .int
  | 16 => some .int
  | 17 => some .boolean
  | 18 => some .int
  | 19 => some .int
  | 21 => some .int
  | 22 => some .int
  | 23 => some .int
  | 24 => some .int
  | 25 => some .int
  | 26 => some .int
  | 29 => some .int
  | 30 => some .int
  | 31 => some .int
  | 32 => some (.object "AreaSetter$Plan")
  | 35 => some .int
  | 36 => some .int
  | 37 => some .int
  | 38 => some .int
  | 39 => some .int
  | 42 => some .int
  | 43 => some .int
  | 44 => some .int
  | 45 => some .int
  | 46 => some .int
  | 49 => some .int
  | 50 => some .int
  | 51 => some .int
  | 52 => some .int
  | 53 => some .int
  | 55 => some .int
  | 56 => some .int
  | 57 => some .int
  | 59 => some .int
  | 61 => some .int
  | 62 => some .int
  | 63 => some .int
  | 64 => some .int
  | 65 => some .int
  | 66 => some .int
  | 67 => some .boolean
  | 68 => some .int
  | 69 => some .boolean
  | 70 => some .byte
  | 72 => some .int
  | 73 => some .int
  | 74 => some .int
  | 75 => some .int
  | 76 => some .int
  | 77 => some .int
  | 78 => some .boolean
  | 79 => some .int
  | 80 => some .boolean
  | 81 => some .byte
  | _ => none
theorem oX_0 (Y : sy_Y) : ∀ f, EX Y 0 f = .inr (11, fX11 Y 0 f) := fun _ => rfl
theorem oX_1 (Y : sy_Y) : ∀ f, EX Y 1 f = .inr (9, fX9 Y 1 f) := fun _ => rfl
theorem aX_2 (Y : sy_Y) : ∀ f, EX Y 2 f = .inl (Y.2.2.1 2, 1000, .inl f) := fun _ => rfl
theorem tX_2 : tfX 2 = some .byte := rfl
theorem oX_3 (Y : sy_Y) : ∀ f, EX Y 3 f = .inr (6, fX6 Y 3 f) := fun _ => rfl
theorem oX_4 (Y : sy_Y) : ∀ f, EX Y 4 f = .inr (0, fX0 Y 4 f) := fun _ => rfl
theorem aX_5 (Y : sy_Y) : ∀ f, EX Y 5 f = .inl (Y.2.2.1 5, 100, .inl f) := fun _ => rfl
theorem tX_5 : tfX 5 = some .int := rfl
theorem aX_6 (Y : sy_Y) : ∀ f, EX Y 6 f = .inl (Y.2.2.1 6, 100, .inl f) := fun _ => rfl
theorem tX_6 : tfX 6 = some .int := rfl
theorem aX_7 (Y : sy_Y) : ∀ f, EX Y 7 f = .inl (Y.2.2.1 7, 100, .inl f) := fun _ => rfl
theorem tX_7 : tfX 7 = some .int := rfl
theorem aX_8 (Y : sy_Y) : ∀ f, EX Y 8 f = .inl (Y.2.2.1 8, 40, .inl f) := fun _ => rfl
theorem tX_8 : tfX 8 = some .int := rfl
theorem oX_9 (Y : sy_Y) : ∀ f, EX Y 9 f = .inr (2, fX2 Y 9 f) := fun _ => rfl
theorem aX_10 (Y : sy_Y) : ∀ f, EX Y 10 f = .inl (Y.2.2.1 10, 50, .inl f) := fun _ => rfl
theorem tX_10 : tfX 10 = some .int := rfl
theorem oX_11 (Y : sy_Y) : ∀ f, EX Y 11 f = .inr (7, fX7 Y 11 f) := fun _ => rfl
theorem aX_12 (Y : sy_Y) : ∀ f, EX Y 12 f = .inl (Y.2.2.1 12, 2000, .inl f) := fun _ => rfl
theorem tX_12 : tfX 12 = some .int := rfl
theorem aX_13 (Y : sy_Y) : ∀ f, EX Y 13 f = .inl (Y.2.2.1 13, 2000, .inl f) := fun _ => rfl
theorem tX_13 : tfX 13 = some .int := rfl
theorem aX_14 (Y : sy_Y) : ∀ f, EX Y 14 f = .inl (Y.2.2.1 14, 2000, .inl f) := fun _ => rfl
theorem tX_14 : tfX 14 = some .int := rfl
theorem aX_15 (Y : sy_Y) : ∀ f, EX Y 15 f = .inl (Y.2.2.1 15, 2000, .inl f) := fun _ => rfl
theorem tX_15 : tfX 15 = some .int := rfl
theorem aX_16 (Y : sy_Y) : ∀ f, EX Y 16 f = .inl (Y.2.2.1 16, 2000, .inl f) := fun _ => rfl
theorem tX_16 : tfX 16 = some .int := rfl
theorem aX_17 (Y : sy_Y) : ∀ f, EX Y 17 f = .inl (Y.2.2.1 17, 2000, .inl f) := fun _ => rfl
theorem tX_17 : tfX 17 = some .boolean := rfl
theorem aX_18 (Y : sy_Y) : ∀ f, EX Y 18 f = .inl (Y.2.2.1 18, 40, .inl f) := fun _ => rfl
theorem tX_18 : tfX 18 = some .int := rfl
theorem aX_19 (Y : sy_Y) : ∀ f, EX Y 19 f = .inl (Y.2.2.1 19, 40, .inl f) := fun _ => rfl
theorem tX_19 : tfX 19 = some .int := rfl
theorem oX_20 (Y : sy_Y) : ∀ f, EX Y 20 f = .inr (7, fX7 Y 20 f) := fun _ => rfl
theorem aX_21 (Y : sy_Y) : ∀ f, EX Y 21 f = .inl (Y.2.2.1 21, 40, .inl f) := fun _ => rfl
theorem tX_21 : tfX 21 = some .int := rfl
theorem aX_22 (Y : sy_Y) : ∀ f, EX Y 22 f = .inl (Y.2.2.1 22, 40, .inl f) := fun _ => rfl
theorem tX_22 : tfX 22 = some .int := rfl
theorem aX_23 (Y : sy_Y) : ∀ f, EX Y 23 f = .inl (Y.2.2.1 23, 40, .inl f) := fun _ => rfl
theorem tX_23 : tfX 23 = some .int := rfl
theorem aX_24 (Y : sy_Y) : ∀ f, EX Y 24 f = .inl (Y.2.2.1 24, 40, .inl f) := fun _ => rfl
theorem tX_24 : tfX 24 = some .int := rfl
theorem aX_25 (Y : sy_Y) : ∀ f, EX Y 25 f = .inl (Y.2.2.1 25, 40, .inl f) := fun _ => rfl
theorem tX_25 : tfX 25 = some .int := rfl
theorem aX_26 (Y : sy_Y) : ∀ f, EX Y 26 f = .inl (Y.2.2.1 26, 40, .inl f) := fun _ => rfl
theorem tX_26 : tfX 26 = some .int := rfl
theorem oX_27 (Y : sy_Y) : ∀ f, EX Y 27 f = .inr (4, fX4 Y 27 f) := fun _ => rfl
theorem oX_28 (Y : sy_Y) : ∀ f, EX Y 28 f = .inr (3, fX3 Y 28 f) := fun _ => rfl
theorem aX_29 (Y : sy_Y) : ∀ f, EX Y 29 f = .inl (Y.2.2.1 29, 8, .inl f) := fun _ => rfl
theorem tX_29 : tfX 29 = some .int := rfl
theorem aX_30 (Y : sy_Y) : ∀ f, EX Y 30 f = .inl (Y.2.2.1 30, 8, .inl f) := fun _ => rfl
theorem tX_30 : tfX 30 = some .int := rfl
theorem aX_31 (Y : sy_Y) : ∀ f, EX Y 31 f = .inl (Y.2.2.1 31, 9, .inl f) := fun _ => rfl
theorem tX_31 : tfX 31 = some .int := rfl
theorem aX_32 (Y : sy_Y) : ∀ f, EX Y 32 f = .inl (Y.2.2.1 32, 3, .inr (.inr (.inr (.inr (fun i => some (Y.2.1 (33 + 7 * i))))))) := fun _ => rfl
theorem tX_32 : tfX 32 = some (.object "AreaSetter$Plan") := rfl
theorem oX_33 (Y : sy_Y) : ∀ f, EX Y 33 f = .inr (5, fX5 Y 33 f) := fun _ => rfl
theorem oX_34 (Y : sy_Y) : ∀ f, EX Y 34 f = .inr (7, fX7 Y 34 f) := fun _ => rfl
theorem aX_35 (Y : sy_Y) : ∀ f, EX Y 35 f = .inl (Y.2.2.1 35, 8, .inl f) := fun _ => rfl
theorem tX_35 : tfX 35 = some .int := rfl
theorem aX_36 (Y : sy_Y) : ∀ f, EX Y 36 f = .inl (Y.2.2.1 36, 8, .inl f) := fun _ => rfl
theorem tX_36 : tfX 36 = some .int := rfl
theorem aX_37 (Y : sy_Y) : ∀ f, EX Y 37 f = .inl (Y.2.2.1 37, 8, .inl f) := fun _ => rfl
theorem tX_37 : tfX 37 = some .int := rfl
theorem aX_38 (Y : sy_Y) : ∀ f, EX Y 38 f = .inl (Y.2.2.1 38, 8, .inl f) := fun _ => rfl
theorem tX_38 : tfX 38 = some .int := rfl
theorem aX_39 (Y : sy_Y) : ∀ f, EX Y 39 f = .inl (Y.2.2.1 39, 8, .inl f) := fun _ => rfl
theorem tX_39 : tfX 39 = some .int := rfl
theorem oX_40 (Y : sy_Y) : ∀ f, EX Y 40 f = .inr (5, fX5 Y 40 f) := fun _ => rfl
theorem oX_41 (Y : sy_Y) : ∀ f, EX Y 41 f = .inr (7, fX7 Y 41 f) := fun _ => rfl
theorem aX_42 (Y : sy_Y) : ∀ f, EX Y 42 f = .inl (Y.2.2.1 42, 8, .inl f) := fun _ => rfl
theorem tX_42 : tfX 42 = some .int := rfl
theorem aX_43 (Y : sy_Y) : ∀ f, EX Y 43 f = .inl (Y.2.2.1 43, 8, .inl f) := fun _ => rfl
theorem tX_43 : tfX 43 = some .int := rfl
theorem aX_44 (Y : sy_Y) : ∀ f, EX Y 44 f = .inl (Y.2.2.1 44, 8, .inl f) := fun _ => rfl
theorem tX_44 : tfX 44 = some .int := rfl
theorem aX_45 (Y : sy_Y) : ∀ f, EX Y 45 f = .inl (Y.2.2.1 45, 8, .inl f) := fun _ => rfl
theorem tX_45 : tfX 45 = some .int := rfl
theorem aX_46 (Y : sy_Y) : ∀ f, EX Y 46 f = .inl (Y.2.2.1 46, 8, .inl f) := fun _ => rfl
theorem tX_46 : tfX 46 = some .int := rfl
theorem oX_47 (Y : sy_Y) : ∀ f, EX Y 47 f = .inr (5, fX5 Y 47 f) := fun _ => rfl
theorem oX_48 (Y : sy_Y) : ∀ f, EX Y 48 f = .inr (7, fX7 Y 48 f) := fun _ => rfl
theorem aX_49 (Y : sy_Y) : ∀ f, EX Y 49 f = .inl (Y.2.2.1 49, 8, .inl f) := fun _ => rfl
theorem tX_49 : tfX 49 = some .int := rfl
theorem aX_50 (Y : sy_Y) : ∀ f, EX Y 50 f = .inl (Y.2.2.1 50, 8, .inl f) := fun _ => rfl
theorem tX_50 : tfX 50 = some .int := rfl
theorem aX_51 (Y : sy_Y) : ∀ f, EX Y 51 f = .inl (Y.2.2.1 51, 8, .inl f) := fun _ => rfl
theorem tX_51 : tfX 51 = some .int := rfl
theorem aX_52 (Y : sy_Y) : ∀ f, EX Y 52 f = .inl (Y.2.2.1 52, 8, .inl f) := fun _ => rfl
theorem tX_52 : tfX 52 = some .int := rfl
theorem aX_53 (Y : sy_Y) : ∀ f, EX Y 53 f = .inl (Y.2.2.1 53, 8, .inl f) := fun _ => rfl
theorem tX_53 : tfX 53 = some .int := rfl
theorem oX_54 (Y : sy_Y) : ∀ f, EX Y 54 f = .inr (8, fX8 Y 54 f) := fun _ => rfl
theorem aX_55 (Y : sy_Y) : ∀ f, EX Y 55 f = .inl (Y.2.2.1 55, 72, .inl f) := fun _ => rfl
theorem tX_55 : tfX 55 = some .int := rfl
theorem aX_56 (Y : sy_Y) : ∀ f, EX Y 56 f = .inl (Y.2.2.1 56, 9, .inl f) := fun _ => rfl
theorem tX_56 : tfX 56 = some .int := rfl
theorem aX_57 (Y : sy_Y) : ∀ f, EX Y 57 f = .inl (Y.2.2.1 57, 9, .inl f) := fun _ => rfl
theorem tX_57 : tfX 57 = some .int := rfl
theorem oX_58 (Y : sy_Y) : ∀ f, EX Y 58 f = .inr (1, fX1 Y 58 f) := fun _ => rfl
theorem aX_59 (Y : sy_Y) : ∀ f, EX Y 59 f = .inl (Y.2.2.1 59, 40, .inl f) := fun _ => rfl
theorem tX_59 : tfX 59 = some .int := rfl
theorem oX_60 (Y : sy_Y) : ∀ f, EX Y 60 f = .inr (10, fX10 Y 60 f) := fun _ => rfl
theorem aX_61 (Y : sy_Y) : ∀ f, EX Y 61 f = .inl (Y.2.2.1 61, 40, .inl f) := fun _ => rfl
theorem tX_61 : tfX 61 = some .int := rfl
theorem aX_62 (Y : sy_Y) : ∀ f, EX Y 62 f = .inl (Y.2.2.1 62, 40, .inl f) := fun _ => rfl
theorem tX_62 : tfX 62 = some .int := rfl
theorem aX_63 (Y : sy_Y) : ∀ f, EX Y 63 f = .inl (Y.2.2.1 63, 40, .inl f) := fun _ => rfl
theorem tX_63 : tfX 63 = some .int := rfl
theorem aX_64 (Y : sy_Y) : ∀ f, EX Y 64 f = .inl (Y.2.2.1 64, 40, .inl f) := fun _ => rfl
theorem tX_64 : tfX 64 = some .int := rfl
theorem aX_65 (Y : sy_Y) : ∀ f, EX Y 65 f = .inl (Y.2.2.1 65, 40, .inl f) := fun _ => rfl
theorem tX_65 : tfX 65 = some .int := rfl
theorem aX_66 (Y : sy_Y) : ∀ f, EX Y 66 f = .inl (Y.2.2.1 66, 40, .inl f) := fun _ => rfl
theorem tX_66 : tfX 66 = some .int := rfl
theorem aX_67 (Y : sy_Y) : ∀ f, EX Y 67 f = .inl (Y.2.2.1 67, 40, .inl f) := fun _ => rfl
theorem tX_67 : tfX 67 = some .boolean := rfl
theorem aX_68 (Y : sy_Y) : ∀ f, EX Y 68 f = .inl (Y.2.2.1 68, 40, .inl f) := fun _ => rfl
theorem tX_68 : tfX 68 = some .int := rfl
theorem aX_69 (Y : sy_Y) : ∀ f, EX Y 69 f = .inl (Y.2.2.1 69, 40, .inl f) := fun _ => rfl
theorem tX_69 : tfX 69 = some .boolean := rfl
theorem aX_70 (Y : sy_Y) : ∀ f, EX Y 70 f = .inl (Y.2.2.1 70, 320, .inl f) := fun _ => rfl
theorem tX_70 : tfX 70 = some .byte := rfl
theorem oX_71 (Y : sy_Y) : ∀ f, EX Y 71 f = .inr (10, fX10 Y 71 f) := fun _ => rfl
theorem aX_72 (Y : sy_Y) : ∀ f, EX Y 72 f = .inl (Y.2.2.1 72, 40, .inl f) := fun _ => rfl
theorem tX_72 : tfX 72 = some .int := rfl
theorem aX_73 (Y : sy_Y) : ∀ f, EX Y 73 f = .inl (Y.2.2.1 73, 40, .inl f) := fun _ => rfl
theorem tX_73 : tfX 73 = some .int := rfl
theorem aX_74 (Y : sy_Y) : ∀ f, EX Y 74 f = .inl (Y.2.2.1 74, 40, .inl f) := fun _ => rfl
theorem tX_74 : tfX 74 = some .int := rfl
theorem aX_75 (Y : sy_Y) : ∀ f, EX Y 75 f = .inl (Y.2.2.1 75, 40, .inl f) := fun _ => rfl
theorem tX_75 : tfX 75 = some .int := rfl
theorem aX_76 (Y : sy_Y) : ∀ f, EX Y 76 f = .inl (Y.2.2.1 76, 40, .inl f) := fun _ => rfl
theorem tX_76 : tfX 76 = some .int := rfl
theorem aX_77 (Y : sy_Y) : ∀ f, EX Y 77 f = .inl (Y.2.2.1 77, 40, .inl f) := fun _ => rfl
theorem tX_77 : tfX 77 = some .int := rfl
theorem aX_78 (Y : sy_Y) : ∀ f, EX Y 78 f = .inl (Y.2.2.1 78, 40, .inl f) := fun _ => rfl
theorem tX_78 : tfX 78 = some .boolean := rfl
theorem aX_79 (Y : sy_Y) : ∀ f, EX Y 79 f = .inl (Y.2.2.1 79, 40, .inl f) := fun _ => rfl
theorem tX_79 : tfX 79 = some .int := rfl
theorem aX_80 (Y : sy_Y) : ∀ f, EX Y 80 f = .inl (Y.2.2.1 80, 40, .inl f) := fun _ => rfl
theorem tX_80 : tfX 80 = some .boolean := rfl
theorem aX_81 (Y : sy_Y) : ∀ f, EX Y 81 f = .inl (Y.2.2.1 81, 320, .inl f) := fun _ => rfl
theorem tX_81 : tfX 81 = some .byte := rfl
theorem pX0_0 (Y : sy_Y) (p : Nat) (f : Nat → Int32) (v : Int32) : (fX0 Y p f).set 0 (.int v) = fX0 Y p (upd f 0 v) := rfl
theorem pX2_0 (Y : sy_Y) (p : Nat) (f : Nat → Int32) (v : Int32) : (fX2 Y p f).set 0 (.int v) = fX2 Y p (upd f 0 v) := rfl
theorem pX3_0 (Y : sy_Y) (p : Nat) (f : Nat → Int32) (v : Int32) : (fX3 Y p f).set 0 (.int v) = fX3 Y p (upd f 0 v) := rfl
theorem pX3_1 (Y : sy_Y) (p : Nat) (f : Nat → Int32) (v : Int32) : (fX3 Y p f).set 1 (.int v) = fX3 Y p (upd f 1 v) := rfl
theorem pX3_4 (Y : sy_Y) (p : Nat) (f : Nat → Int32) (v : Int32) : (fX3 Y p f).set 4 (.int v) = fX3 Y p (upd f 4 v) := rfl
theorem pX3_5 (Y : sy_Y) (p : Nat) (f : Nat → Int32) (v : Int32) : (fX3 Y p f).set 5 (.int v) = fX3 Y p (upd f 5 v) := rfl
theorem pX3_6 (Y : sy_Y) (p : Nat) (f : Nat → Int32) (v : Int32) : (fX3 Y p f).set 6 (.int v) = fX3 Y p (upd f 6 v) := rfl
theorem pX3_7 (Y : sy_Y) (p : Nat) (f : Nat → Int32) (v : Int32) : (fX3 Y p f).set 7 (.int v) = fX3 Y p (upd f 7 v) := rfl
theorem pX4_0 (Y : sy_Y) (p : Nat) (f : Nat → Int32) (v : Int32) : (fX4 Y p f).set 0 (.int v) = fX4 Y p (upd f 0 v) := rfl
theorem pX5_0 (Y : sy_Y) (p : Nat) (f : Nat → Int32) (v : Int32) : (fX5 Y p f).set 0 (.int v) = fX5 Y p (upd f 0 v) := rfl
theorem pX6_1 (Y : sy_Y) (p : Nat) (f : Nat → Int32) {t : Nat} (h : t < 2 ^ 31) : (fX6 Y p f).set 1 (.ref (Y.2.1 t)) = fX6 Y p (upd f 2 (nI t)) := by
  rw [← sy_rf_nI Y h]
  rfl
theorem pX6_2 (Y : sy_Y) (p : Nat) (f : Nat → Int32) (v : Int32) : (fX6 Y p f).set 2 (.int v) = fX6 Y p (upd f 0 v) := rfl
theorem pX6_3 (Y : sy_Y) (p : Nat) (f : Nat → Int32) (v : Int32) : (fX6 Y p f).set 3 (.int v) = fX6 Y p (upd f 3 v) := rfl
theorem pX6_4 (Y : sy_Y) (p : Nat) (f : Nat → Int32) (v : Int32) : (fX6 Y p f).set 4 (.int v) = fX6 Y p (upd f 4 v) := rfl
theorem pX6_5 (Y : sy_Y) (p : Nat) (f : Nat → Int32) (v : Int32) : (fX6 Y p f).set 5 (.int v) = fX6 Y p (upd f 5 v) := rfl
theorem pX6_6 (Y : sy_Y) (p : Nat) (f : Nat → Int32) (v : Int32) : (fX6 Y p f).set 6 (.int v) = fX6 Y p (upd f 6 v) := rfl
theorem pX6_7 (Y : sy_Y) (p : Nat) (f : Nat → Int32) (v : Int32) : (fX6 Y p f).set 7 (.int v) = fX6 Y p (upd f 7 v) := rfl
theorem pX9_0 (Y : sy_Y) (p : Nat) (f : Nat → Int32) (v : Int32) : (fX9 Y p f).set 0 (.int v) = fX9 Y p (upd f 0 v) := rfl
theorem pX10_0 (Y : sy_Y) (p : Nat) (f : Nat → Int32) (v : Int32) : (fX10 Y p f).set 0 (.int v) = fX10 Y p (upd f 0 v) := rfl
theorem pX10_1 (Y : sy_Y) (p : Nat) (f : Nat → Int32) (v : Int32) : (fX10 Y p f).set 1 (.int v) = fX10 Y p (upd f 1 v) := rfl
theorem pX11_6 (Y : sy_Y) (p : Nat) (f : Nat → Int32) {t : Nat} (h : t < 2 ^ 31) : (fX11 Y p f).set 6 (.ref (Y.2.1 t)) = fX11 Y p (upd f 6 (nI t)) := by
  rw [← sy_rf_nI Y h]
  rfl
theorem pX11_7 (Y : sy_Y) (p : Nat) (f : Nat → Int32) (v : Int32) : (fX11 Y p f).set 7 (.int v) = fX11 Y p (upd f 8 v) := rfl
theorem pX11_8 (Y : sy_Y) (p : Nat) (f : Nat → Int32) (v : Int32) : (fX11 Y p f).set 8 (.int v) = fX11 Y p (upd f 9 v) := rfl
def iX10 (p : Nat) : Prop := p = 60 ∨ p = 71
theorem iX10_60 : iX10 60 := by unfold iX10; omega
theorem iX10_71 : iX10 71 := by unfold iX10; omega
theorem oX10 {Y : sy_Y} {p : Nat} (h : iX10 p) : ∀ f, EX Y p f = .inr (10, fX10 Y p f) := by
  rcases h with rfl | rfl <;> exact fun _ => rfl
theorem iX10_lt {p : Nat} (h : iX10 p) : p + 12 < 2 ^ 31 := by unfold iX10 at h; omega
theorem iX10_N {p : Nat} (h : iX10 p) : p < NX := by unfold iX10 at h; show p < 82; omega
theorem iX10_N1 {p : Nat} (h : iX10 p) : p + 1 < NX := by unfold iX10 at h; show p + 1 < 82; omega
theorem aX10_1 {Y : sy_Y} {p : Nat} (h : iX10 p) : ∀ f, EX Y (p + 1) f = .inl (Y.2.2.1 (p + 1), 40, .inl f) := by
  rcases h with rfl | rfl <;> exact fun _ => rfl
theorem tX10_1 {p : Nat} (h : iX10 p) : tfX (p + 1) = some .int := by
  rcases h with rfl | rfl <;> rfl
theorem iX10_N2 {p : Nat} (h : iX10 p) : p + 2 < NX := by unfold iX10 at h; show p + 2 < 82; omega
theorem aX10_2 {Y : sy_Y} {p : Nat} (h : iX10 p) : ∀ f, EX Y (p + 2) f = .inl (Y.2.2.1 (p + 2), 40, .inl f) := by
  rcases h with rfl | rfl <;> exact fun _ => rfl
theorem tX10_2 {p : Nat} (h : iX10 p) : tfX (p + 2) = some .int := by
  rcases h with rfl | rfl <;> rfl
theorem iX10_N3 {p : Nat} (h : iX10 p) : p + 3 < NX := by unfold iX10 at h; show p + 3 < 82; omega
theorem aX10_3 {Y : sy_Y} {p : Nat} (h : iX10 p) : ∀ f, EX Y (p + 3) f = .inl (Y.2.2.1 (p + 3), 40, .inl f) := by
  rcases h with rfl | rfl <;> exact fun _ => rfl
theorem tX10_3 {p : Nat} (h : iX10 p) : tfX (p + 3) = some .int := by
  rcases h with rfl | rfl <;> rfl
theorem iX10_N4 {p : Nat} (h : iX10 p) : p + 4 < NX := by unfold iX10 at h; show p + 4 < 82; omega
theorem aX10_4 {Y : sy_Y} {p : Nat} (h : iX10 p) : ∀ f, EX Y (p + 4) f = .inl (Y.2.2.1 (p + 4), 40, .inl f) := by
  rcases h with rfl | rfl <;> exact fun _ => rfl
theorem tX10_4 {p : Nat} (h : iX10 p) : tfX (p + 4) = some .int := by
  rcases h with rfl | rfl <;> rfl
theorem iX10_N5 {p : Nat} (h : iX10 p) : p + 5 < NX := by unfold iX10 at h; show p + 5 < 82; omega
theorem aX10_5 {Y : sy_Y} {p : Nat} (h : iX10 p) : ∀ f, EX Y (p + 5) f = .inl (Y.2.2.1 (p + 5), 40, .inl f) := by
  rcases h with rfl | rfl <;> exact fun _ => rfl
theorem tX10_5 {p : Nat} (h : iX10 p) : tfX (p + 5) = some .int := by
  rcases h with rfl | rfl <;> rfl
theorem iX10_N6 {p : Nat} (h : iX10 p) : p + 6 < NX := by unfold iX10 at h; show p + 6 < 82; omega
theorem aX10_6 {Y : sy_Y} {p : Nat} (h : iX10 p) : ∀ f, EX Y (p + 6) f = .inl (Y.2.2.1 (p + 6), 40, .inl f) := by
  rcases h with rfl | rfl <;> exact fun _ => rfl
theorem tX10_6 {p : Nat} (h : iX10 p) : tfX (p + 6) = some .int := by
  rcases h with rfl | rfl <;> rfl
theorem iX10_N7 {p : Nat} (h : iX10 p) : p + 7 < NX := by unfold iX10 at h; show p + 7 < 82; omega
theorem aX10_7 {Y : sy_Y} {p : Nat} (h : iX10 p) : ∀ f, EX Y (p + 7) f = .inl (Y.2.2.1 (p + 7), 40, .inl f) := by
  rcases h with rfl | rfl <;> exact fun _ => rfl
theorem tX10_7 {p : Nat} (h : iX10 p) : tfX (p + 7) = some .boolean := by
  rcases h with rfl | rfl <;> rfl
theorem iX10_N8 {p : Nat} (h : iX10 p) : p + 8 < NX := by unfold iX10 at h; show p + 8 < 82; omega
theorem aX10_8 {Y : sy_Y} {p : Nat} (h : iX10 p) : ∀ f, EX Y (p + 8) f = .inl (Y.2.2.1 (p + 8), 40, .inl f) := by
  rcases h with rfl | rfl <;> exact fun _ => rfl
theorem tX10_8 {p : Nat} (h : iX10 p) : tfX (p + 8) = some .int := by
  rcases h with rfl | rfl <;> rfl
theorem iX10_N9 {p : Nat} (h : iX10 p) : p + 9 < NX := by unfold iX10 at h; show p + 9 < 82; omega
theorem aX10_9 {Y : sy_Y} {p : Nat} (h : iX10 p) : ∀ f, EX Y (p + 9) f = .inl (Y.2.2.1 (p + 9), 40, .inl f) := by
  rcases h with rfl | rfl <;> exact fun _ => rfl
theorem tX10_9 {p : Nat} (h : iX10 p) : tfX (p + 9) = some .boolean := by
  rcases h with rfl | rfl <;> rfl
theorem iX10_N10 {p : Nat} (h : iX10 p) : p + 10 < NX := by unfold iX10 at h; show p + 10 < 82; omega
theorem aX10_10 {Y : sy_Y} {p : Nat} (h : iX10 p) : ∀ f, EX Y (p + 10) f = .inl (Y.2.2.1 (p + 10), 320, .inl f) := by
  rcases h with rfl | rfl <;> exact fun _ => rfl
theorem tX10_10 {p : Nat} (h : iX10 p) : tfX (p + 10) = some .byte := by
  rcases h with rfl | rfl <;> rfl
def iX7 (p : Nat) : Prop := p = 11 ∨ p = 20 ∨ p = 34 ∨ p = 41 ∨ p = 48
theorem iX7_11 : iX7 11 := by unfold iX7; omega
theorem iX7_20 : iX7 20 := by unfold iX7; omega
theorem iX7_34 : iX7 34 := by unfold iX7; omega
theorem iX7_41 : iX7 41 := by unfold iX7; omega
theorem iX7_48 : iX7 48 := by unfold iX7; omega
theorem oX7 {Y : sy_Y} {p : Nat} (h : iX7 p) : ∀ f, EX Y p f = .inr (7, fX7 Y p f) := by
  rcases h with rfl | rfl | rfl | rfl | rfl <;> exact fun _ => rfl
theorem iX7_lt {p : Nat} (h : iX7 p) : p + 12 < 2 ^ 31 := by unfold iX7 at h; omega
theorem iX7_N {p : Nat} (h : iX7 p) : p < NX := by unfold iX7 at h; show p < 82; omega
def lX7 (p : Nat) : Nat := if p = 11 then 2000 else if p = 20 then 40 else 8
theorem lX7_lt (p : Nat) : lX7 p < 2 ^ 31 := by unfold lX7; split <;> (try split) <;> decide
theorem iX7_N1 {p : Nat} (h : iX7 p) : p + 1 < NX := by unfold iX7 at h; show p + 1 < 82; omega
theorem aX7_1 {Y : sy_Y} {p : Nat} (h : iX7 p) : ∀ f, EX Y (p + 1) f = .inl (Y.2.2.1 (p + 1), lX7 p, .inl f) := by
  rcases h with rfl | rfl | rfl | rfl | rfl <;> exact fun _ => rfl
theorem tX7_1 {p : Nat} (h : iX7 p) : tfX (p + 1) = some .int := by
  rcases h with rfl | rfl | rfl | rfl | rfl <;> rfl
theorem iX7_N2 {p : Nat} (h : iX7 p) : p + 2 < NX := by unfold iX7 at h; show p + 2 < 82; omega
theorem aX7_2 {Y : sy_Y} {p : Nat} (h : iX7 p) : ∀ f, EX Y (p + 2) f = .inl (Y.2.2.1 (p + 2), lX7 p, .inl f) := by
  rcases h with rfl | rfl | rfl | rfl | rfl <;> exact fun _ => rfl
theorem tX7_2 {p : Nat} (h : iX7 p) : tfX (p + 2) = some .int := by
  rcases h with rfl | rfl | rfl | rfl | rfl <;> rfl
theorem iX7_N3 {p : Nat} (h : iX7 p) : p + 3 < NX := by unfold iX7 at h; show p + 3 < 82; omega
theorem aX7_3 {Y : sy_Y} {p : Nat} (h : iX7 p) : ∀ f, EX Y (p + 3) f = .inl (Y.2.2.1 (p + 3), lX7 p, .inl f) := by
  rcases h with rfl | rfl | rfl | rfl | rfl <;> exact fun _ => rfl
theorem tX7_3 {p : Nat} (h : iX7 p) : tfX (p + 3) = some .int := by
  rcases h with rfl | rfl | rfl | rfl | rfl <;> rfl
theorem iX7_N4 {p : Nat} (h : iX7 p) : p + 4 < NX := by unfold iX7 at h; show p + 4 < 82; omega
theorem aX7_4 {Y : sy_Y} {p : Nat} (h : iX7 p) : ∀ f, EX Y (p + 4) f = .inl (Y.2.2.1 (p + 4), lX7 p, .inl f) := by
  rcases h with rfl | rfl | rfl | rfl | rfl <;> exact fun _ => rfl
theorem tX7_4 {p : Nat} (h : iX7 p) : tfX (p + 4) = some .int := by
  rcases h with rfl | rfl | rfl | rfl | rfl <;> rfl
theorem iX7_N5 {p : Nat} (h : iX7 p) : p + 5 < NX := by unfold iX7 at h; show p + 5 < 82; omega
theorem aX7_5 {Y : sy_Y} {p : Nat} (h : iX7 p) : ∀ f, EX Y (p + 5) f = .inl (Y.2.2.1 (p + 5), lX7 p, .inl f) := by
  rcases h with rfl | rfl | rfl | rfl | rfl <;> exact fun _ => rfl
theorem tX7_5 {p : Nat} (h : iX7 p) : tfX (p + 5) = some .int := by
  rcases h with rfl | rfl | rfl | rfl | rfl <;> rfl
def iX5 (p : Nat) : Prop := p = 33 ∨ p = 40 ∨ p = 47
theorem iX5_33 : iX5 33 := by unfold iX5; omega
theorem iX5_40 : iX5 40 := by unfold iX5; omega
theorem iX5_47 : iX5 47 := by unfold iX5; omega
theorem oX5 {Y : sy_Y} {p : Nat} (h : iX5 p) : ∀ f, EX Y p f = .inr (5, fX5 Y p f) := by
  rcases h with rfl | rfl | rfl <;> exact fun _ => rfl
theorem iX5_lt {p : Nat} (h : iX5 p) : p + 12 < 2 ^ 31 := by unfold iX5 at h; omega
theorem iX5_N {p : Nat} (h : iX5 p) : p < NX := by unfold iX5 at h; show p < 82; omega
theorem iX5_N1 {p : Nat} (h : iX5 p) : p + 1 < NX := by unfold iX5 at h; show p + 1 < 82; omega
theorem iX5_iX7 {p : Nat} (h : iX5 p) : iX7 (p + 1) := by unfold iX5 at h; unfold iX7; omega
abbrev NZ : Nat := 40
def fX12 (Y : sy_Y) (p : Nat) (f : Nat → Int32) : List Value := [.int (f 0), .int (f 1), .int (f 2), .int (f 3), .ref (Y.2.1 1), .int (f 5), .int (f 6), .int (f 7), .int (f 8), .int (f 9), .int (f 10), .int (f 11), .int (f 12), .int (f 13), .int (f 14), .ref (Y.2.1 2), .ref (Y.2.1 3), .ref (Y.2.1 4), .ref (Y.2.1 5), .ref (Y.2.1 6), .ref (Y.2.1 7), .ref (Y.2.1 8), .ref (Y.2.1 9), .ref (Y.2.1 10), .int (f 24), .ref (Y.2.1 11), .ref (Y.2.1 12), .ref (Y.2.1 13), .ref (Y.2.1 14), .ref (Y.2.1 15), .int (f 30), .ref (Y.2.1 16), .ref (Y.2.1 17), .ref (Y.2.1 18), .ref (Y.2.1 19), .ref (Y.2.1 20), .ref (Y.2.1 21), .ref (Y.2.1 22), .ref (Y.2.1 23), .ref (Y.2.1 24), .int (f 40), .ref (Y.2.1 25), .ref (Y.2.1 26), .ref (Y.2.1 27), .ref (Y.2.1 28), .ref (Y.2.1 29), .ref (Y.2.1 30), .ref (Y.2.1 31), .ref (Y.2.1 32), .ref (Y.2.1 33), .ref (Y.2.1 34), .ref (Y.2.1 35), .ref (Y.2.1 36), .ref (Y.2.1 37), .ref (Y.2.1 38), .ref (Y.2.1 39)]
def EZ (Y : sy_Y) (p : Nat) (f : Nat → Int32) : va_E := match p with
  | 0 => .inr (12, fX12 Y 0 f)
  | 1 => .inl (Y.2.2.1 1, 1000, .inl f)
  | 2 => .inl (Y.2.2.1 2, 82, .inl f)
  | 3 => .inl (Y.2.2.1 3, 82, .inl f)
  | 4 => .inl (Y.2.2.1 4, 82, .inl f)
  | 5 => .inl (Y.2.2.1 5, 82, .inl f)
  | 6 => .inl (Y.2.2.1 6, 82, .inl f)
  | 7 => .inl (Y.2.2.1 7, 82, .inl f)
  | 8 => .inl (Y.2.2.1 8, 82, .inl f)
  | 9 => .inl (Y.2.2.1 9, 82, .inl f)
  | 10 => .inl (Y.2.2.1 10, 656, .inl f)
  | 11 => .inl (Y.2.2.1 11, 100, .inl f)
  | 12 => .inl (Y.2.2.1 12, 100, .inl f)
  | 13 => .inl (Y.2.2.1 13, 100, .inl f)
  | 14 => .inl (Y.2.2.1 14, 41, .inl f)
  | 15 => .inl (Y.2.2.1 15, 41, .inl f)
  | 16 => .inl (Y.2.2.1 16, 9, .inl f)
  | 17 => .inl (Y.2.2.1 17, 9, .inl f)
  | 18 => .inl (Y.2.2.1 18, 9, .inl f)
  | 19 => .inl (Y.2.2.1 19, 9, .inl f)
  | 20 => .inl (Y.2.2.1 20, 9, .inl f)
  | 21 => .inl (Y.2.2.1 21, 9, .inl f)
  | 22 => .inl (Y.2.2.1 22, 9, .inl f)
  | 23 => .inl (Y.2.2.1 23, 10, .inl f)
  | 24 => .inl (Y.2.2.1 24, 10, .inl f)
  | 25 => .inl (Y.2.2.1 25, 51, .inl f)
  | 26 => .inl (Y.2.2.1 26, 2091, .inl f)
  | 27 => .inl (Y.2.2.1 27, 2091, .inl f)
  | 28 => .inl (Y.2.2.1 28, 2091, .inl f)
  | 29 => .inl (Y.2.2.1 29, 2091, .inl f)
  | 30 => .inl (Y.2.2.1 30, 2091, .inl f)
  | 31 => .inl (Y.2.2.1 31, 2091, .inl f)
  | 32 => .inl (Y.2.2.1 32, 41, .inl f)
  | 33 => .inl (Y.2.2.1 33, 41, .inl f)
  | 34 => .inl (Y.2.2.1 34, 41, .inl f)
  | 35 => .inl (Y.2.2.1 35, 41, .inl f)
  | 36 => .inl (Y.2.2.1 36, 41, .inl f)
  | 37 => .inl (Y.2.2.1 37, 41, .inl f)
  | 38 => .inl (Y.2.2.1 38, 41, .inl f)
  | 39 => .inl (Y.2.2.1 39, 41, .inl f)
  | _ => .inl (Y.2.2.1 0, 0, .inl f)
def tfZ (p : Nat) : Option FieldType := match p with
  | 1 => some .byte
  | 2 => some .int
  | 3 => some .boolean
  | 4 => some .int
  | 5 => some .int
  | 6 => some .int
  | 7 => some .boolean
  | 8 => some .int
  | 9 => some .int
  | 10 => some .byte
  | 11 => some .int
  | 12 => some .int
  | 13 => some .int
  | 14 => some .int
  | 15 => some .boolean
  | 16 => some .int
  | 17 => some .int
  | 18 => some .int
  | 19 => some .int
  | 20 => some .int
  | 21 => some .int
  | 22 => some .int
  | 23 => some .int
  | 24 => some .int
  | 25 => some .int
  | 26 => some .boolean
  | 27 => some .int
  | 28 => some .int
  | 29 => some .int
  | 30 => some .int
  | 31 => some .int
  | 32 => some .int
  | 33 => some .int
  | 34 => some .int
  | 35 => some .int
  | 36 => some .int
  | 37 => some .int
  | 38 => some .int
  | 39 => some .int
  | _ => none
theorem oZ_0 (Y : sy_Y) : ∀ f, EZ Y 0 f = .inr (12, fX12 Y 0 f) := fun _ => rfl
theorem aZ_1 (Y : sy_Y) : ∀ f, EZ Y 1 f = .inl (Y.2.2.1 1, 1000, .inl f) := fun _ => rfl
theorem tZ_1 : tfZ 1 = some .byte := rfl
theorem aZ_2 (Y : sy_Y) : ∀ f, EZ Y 2 f = .inl (Y.2.2.1 2, 82, .inl f) := fun _ => rfl
theorem tZ_2 : tfZ 2 = some .int := rfl
theorem aZ_3 (Y : sy_Y) : ∀ f, EZ Y 3 f = .inl (Y.2.2.1 3, 82, .inl f) := fun _ => rfl
theorem tZ_3 : tfZ 3 = some .boolean := rfl
theorem aZ_4 (Y : sy_Y) : ∀ f, EZ Y 4 f = .inl (Y.2.2.1 4, 82, .inl f) := fun _ => rfl
theorem tZ_4 : tfZ 4 = some .int := rfl
theorem aZ_5 (Y : sy_Y) : ∀ f, EZ Y 5 f = .inl (Y.2.2.1 5, 82, .inl f) := fun _ => rfl
theorem tZ_5 : tfZ 5 = some .int := rfl
theorem aZ_6 (Y : sy_Y) : ∀ f, EZ Y 6 f = .inl (Y.2.2.1 6, 82, .inl f) := fun _ => rfl
theorem tZ_6 : tfZ 6 = some .int := rfl
theorem aZ_7 (Y : sy_Y) : ∀ f, EZ Y 7 f = .inl (Y.2.2.1 7, 82, .inl f) := fun _ => rfl
theorem tZ_7 : tfZ 7 = some .boolean := rfl
theorem aZ_8 (Y : sy_Y) : ∀ f, EZ Y 8 f = .inl (Y.2.2.1 8, 82, .inl f) := fun _ => rfl
theorem tZ_8 : tfZ 8 = some .int := rfl
theorem aZ_9 (Y : sy_Y) : ∀ f, EZ Y 9 f = .inl (Y.2.2.1 9, 82, .inl f) := fun _ => rfl
theorem tZ_9 : tfZ 9 = some .int := rfl
theorem aZ_10 (Y : sy_Y) : ∀ f, EZ Y 10 f = .inl (Y.2.2.1 10, 656, .inl f) := fun _ => rfl
theorem tZ_10 : tfZ 10 = some .byte := rfl
theorem aZ_11 (Y : sy_Y) : ∀ f, EZ Y 11 f = .inl (Y.2.2.1 11, 100, .inl f) := fun _ => rfl
theorem tZ_11 : tfZ 11 = some .int := rfl
theorem aZ_12 (Y : sy_Y) : ∀ f, EZ Y 12 f = .inl (Y.2.2.1 12, 100, .inl f) := fun _ => rfl
theorem tZ_12 : tfZ 12 = some .int := rfl
theorem aZ_13 (Y : sy_Y) : ∀ f, EZ Y 13 f = .inl (Y.2.2.1 13, 100, .inl f) := fun _ => rfl
theorem tZ_13 : tfZ 13 = some .int := rfl
theorem aZ_14 (Y : sy_Y) : ∀ f, EZ Y 14 f = .inl (Y.2.2.1 14, 41, .inl f) := fun _ => rfl
theorem tZ_14 : tfZ 14 = some .int := rfl
theorem aZ_15 (Y : sy_Y) : ∀ f, EZ Y 15 f = .inl (Y.2.2.1 15, 41, .inl f) := fun _ => rfl
theorem tZ_15 : tfZ 15 = some .boolean := rfl
theorem aZ_16 (Y : sy_Y) : ∀ f, EZ Y 16 f = .inl (Y.2.2.1 16, 9, .inl f) := fun _ => rfl
theorem tZ_16 : tfZ 16 = some .int := rfl
theorem aZ_17 (Y : sy_Y) : ∀ f, EZ Y 17 f = .inl (Y.2.2.1 17, 9, .inl f) := fun _ => rfl
theorem tZ_17 : tfZ 17 = some .int := rfl
theorem aZ_18 (Y : sy_Y) : ∀ f, EZ Y 18 f = .inl (Y.2.2.1 18, 9, .inl f) := fun _ => rfl
theorem tZ_18 : tfZ 18 = some .int := rfl
theorem aZ_19 (Y : sy_Y) : ∀ f, EZ Y 19 f = .inl (Y.2.2.1 19, 9, .inl f) := fun _ => rfl
theorem tZ_19 : tfZ 19 = some .int := rfl
theorem aZ_20 (Y : sy_Y) : ∀ f, EZ Y 20 f = .inl (Y.2.2.1 20, 9, .inl f) := fun _ => rfl
theorem tZ_20 : tfZ 20 = some .int := rfl
theorem aZ_21 (Y : sy_Y) : ∀ f, EZ Y 21 f = .inl (Y.2.2.1 21, 9, .inl f) := fun _ => rfl
theorem tZ_21 : tfZ 21 = some .int := rfl
theorem aZ_22 (Y : sy_Y) : ∀ f, EZ Y 22 f = .inl (Y.2.2.1 22, 9, .inl f) := fun _ => rfl
theorem tZ_22 : tfZ 22 = some .int := rfl
theorem aZ_23 (Y : sy_Y) : ∀ f, EZ Y 23 f = .inl (Y.2.2.1 23, 10, .inl f) := fun _ => rfl
theorem tZ_23 : tfZ 23 = some .int := rfl
theorem aZ_24 (Y : sy_Y) : ∀ f, EZ Y 24 f = .inl (Y.2.2.1 24, 10, .inl f) := fun _ => rfl
theorem tZ_24 : tfZ 24 = some .int := rfl
theorem aZ_25 (Y : sy_Y) : ∀ f, EZ Y 25 f = .inl (Y.2.2.1 25, 51, .inl f) := fun _ => rfl
theorem tZ_25 : tfZ 25 = some .int := rfl
theorem aZ_26 (Y : sy_Y) : ∀ f, EZ Y 26 f = .inl (Y.2.2.1 26, 2091, .inl f) := fun _ => rfl
theorem tZ_26 : tfZ 26 = some .boolean := rfl
theorem aZ_27 (Y : sy_Y) : ∀ f, EZ Y 27 f = .inl (Y.2.2.1 27, 2091, .inl f) := fun _ => rfl
theorem tZ_27 : tfZ 27 = some .int := rfl
theorem aZ_28 (Y : sy_Y) : ∀ f, EZ Y 28 f = .inl (Y.2.2.1 28, 2091, .inl f) := fun _ => rfl
theorem tZ_28 : tfZ 28 = some .int := rfl
theorem aZ_29 (Y : sy_Y) : ∀ f, EZ Y 29 f = .inl (Y.2.2.1 29, 2091, .inl f) := fun _ => rfl
theorem tZ_29 : tfZ 29 = some .int := rfl
theorem aZ_30 (Y : sy_Y) : ∀ f, EZ Y 30 f = .inl (Y.2.2.1 30, 2091, .inl f) := fun _ => rfl
theorem tZ_30 : tfZ 30 = some .int := rfl
theorem aZ_31 (Y : sy_Y) : ∀ f, EZ Y 31 f = .inl (Y.2.2.1 31, 2091, .inl f) := fun _ => rfl
theorem tZ_31 : tfZ 31 = some .int := rfl
theorem aZ_32 (Y : sy_Y) : ∀ f, EZ Y 32 f = .inl (Y.2.2.1 32, 41, .inl f) := fun _ => rfl
theorem tZ_32 : tfZ 32 = some .int := rfl
theorem aZ_33 (Y : sy_Y) : ∀ f, EZ Y 33 f = .inl (Y.2.2.1 33, 41, .inl f) := fun _ => rfl
theorem tZ_33 : tfZ 33 = some .int := rfl
theorem aZ_34 (Y : sy_Y) : ∀ f, EZ Y 34 f = .inl (Y.2.2.1 34, 41, .inl f) := fun _ => rfl
theorem tZ_34 : tfZ 34 = some .int := rfl
theorem aZ_35 (Y : sy_Y) : ∀ f, EZ Y 35 f = .inl (Y.2.2.1 35, 41, .inl f) := fun _ => rfl
theorem tZ_35 : tfZ 35 = some .int := rfl
theorem aZ_36 (Y : sy_Y) : ∀ f, EZ Y 36 f = .inl (Y.2.2.1 36, 41, .inl f) := fun _ => rfl
theorem tZ_36 : tfZ 36 = some .int := rfl
theorem aZ_37 (Y : sy_Y) : ∀ f, EZ Y 37 f = .inl (Y.2.2.1 37, 41, .inl f) := fun _ => rfl
theorem tZ_37 : tfZ 37 = some .int := rfl
theorem aZ_38 (Y : sy_Y) : ∀ f, EZ Y 38 f = .inl (Y.2.2.1 38, 41, .inl f) := fun _ => rfl
theorem tZ_38 : tfZ 38 = some .int := rfl
theorem aZ_39 (Y : sy_Y) : ∀ f, EZ Y 39 f = .inl (Y.2.2.1 39, 41, .inl f) := fun _ => rfl
theorem tZ_39 : tfZ 39 = some .int := rfl
theorem pX12_0 (Y : sy_Y) (p : Nat) (f : Nat → Int32) (v : Int32) : (fX12 Y p f).set 0 (.int v) = fX12 Y p (upd f 0 v) := rfl
theorem pX12_1 (Y : sy_Y) (p : Nat) (f : Nat → Int32) (v : Int32) : (fX12 Y p f).set 1 (.int v) = fX12 Y p (upd f 1 v) := rfl
theorem pX12_2 (Y : sy_Y) (p : Nat) (f : Nat → Int32) (v : Int32) : (fX12 Y p f).set 2 (.int v) = fX12 Y p (upd f 2 v) := rfl
theorem pX12_3 (Y : sy_Y) (p : Nat) (f : Nat → Int32) (v : Int32) : (fX12 Y p f).set 3 (.int v) = fX12 Y p (upd f 3 v) := rfl
theorem pX12_5 (Y : sy_Y) (p : Nat) (f : Nat → Int32) (v : Int32) : (fX12 Y p f).set 5 (.int v) = fX12 Y p (upd f 5 v) := rfl
theorem pX12_6 (Y : sy_Y) (p : Nat) (f : Nat → Int32) (v : Int32) : (fX12 Y p f).set 6 (.int v) = fX12 Y p (upd f 6 v) := rfl
theorem pX12_7 (Y : sy_Y) (p : Nat) (f : Nat → Int32) (v : Int32) : (fX12 Y p f).set 7 (.int v) = fX12 Y p (upd f 7 v) := rfl
theorem pX12_8 (Y : sy_Y) (p : Nat) (f : Nat → Int32) (v : Int32) : (fX12 Y p f).set 8 (.int v) = fX12 Y p (upd f 8 v) := rfl
theorem pX12_9 (Y : sy_Y) (p : Nat) (f : Nat → Int32) (v : Int32) : (fX12 Y p f).set 9 (.int v) = fX12 Y p (upd f 9 v) := rfl
theorem pX12_10 (Y : sy_Y) (p : Nat) (f : Nat → Int32) (v : Int32) : (fX12 Y p f).set 10 (.int v) = fX12 Y p (upd f 10 v) := rfl
theorem pX12_11 (Y : sy_Y) (p : Nat) (f : Nat → Int32) (v : Int32) : (fX12 Y p f).set 11 (.int v) = fX12 Y p (upd f 11 v) := rfl
theorem pX12_12 (Y : sy_Y) (p : Nat) (f : Nat → Int32) (v : Int32) : (fX12 Y p f).set 12 (.int v) = fX12 Y p (upd f 12 v) := rfl
theorem pX12_13 (Y : sy_Y) (p : Nat) (f : Nat → Int32) (v : Int32) : (fX12 Y p f).set 13 (.int v) = fX12 Y p (upd f 13 v) := rfl
theorem pX12_14 (Y : sy_Y) (p : Nat) (f : Nat → Int32) (v : Int32) : (fX12 Y p f).set 14 (.int v) = fX12 Y p (upd f 14 v) := rfl
theorem pX12_24 (Y : sy_Y) (p : Nat) (f : Nat → Int32) (v : Int32) : (fX12 Y p f).set 24 (.int v) = fX12 Y p (upd f 24 v) := rfl
theorem pX12_30 (Y : sy_Y) (p : Nat) (f : Nat → Int32) (v : Int32) : (fX12 Y p f).set 30 (.int v) = fX12 Y p (upd f 30 v) := rfl
theorem pX12_40 (Y : sy_Y) (p : Nat) (f : Nat → Int32) (v : Int32) : (fX12 Y p f).set 40 (.int v) = fX12 Y p (upd f 40 v) := rfl
theorem iX5_n {n : Nat} (h : n < 3) : iX5 (33 + 7 * n) := by unfold iX5; omega
def imax (x y : Int32) : Int32 := if x < y then y else x
def imin (x y : Int32) : Int32 := if y < x then y else x
def iabs (x : Int32) : Int32 := if 0 ≤ x then x else 0 - x
theorem sy_inc {x k : Int32} {n : Int} (h : Int32.ofInt n = k) : x + Int32.ofInt n = x + k := by rw [h]
section SYR2
variable {p : Program} {l : Launch} {e : Env} {R : Room} {s : State} {m : MethodId} {args : Array Value} {below : List Frame} {meth : Method} {c : Code} {H : Heap} {locs : List Loc} {Qf : State → Prop}
variable {cc : ByteArray} {pc nL : Nat} {ls : Array Slot} {rest : List Value} {Y : sy_Y} {N : Nat} {E : sy_Y → sy_E} {tf : Nat → Option FieldType} {M : sy_M} {Ts : List Cond} {own : String} {rt : Option FieldType} {lv : List (Nat × Value)}
theorem sy_mmax (C : sy_C p m c cc nL s args Ts own meth rt Y N tf) (hl : lv_has ls nL lv) {index : Nat} (h1 : Cond.methodLink own index Lib.Math.max.name ∈ Ts) (h2 : Cond.static Lib.Math.max.name ∈ Ts) (h3 : Cond.initialized "java/lang/Math" ∈ Ts) (h4 : Cond.code Lib.Math.max.name Lib.Math.max.code 2 (some .int) ∈ Ts) (hf : 1 ≤ R.frames) (hlo : (rest.map fun v => v.category).sum + 13 ≤ R.locals) {x y : Int32} (hdg : decode cc pc = .ok (.invokestatic index, 3))
    (kk : W p l e R s m args below meth c H locs 0 0 Qf (F0 m (pc + 3) ls (.int (imax x y) :: rest))) : W p l e R s m args below meth c H locs 0 0 Qf (F0 m pc ls (.int y :: .int x :: rest)) :=
  va_mmax C.1.1 C.1.2.1 (C.1.2.2.1.trans hl.1.symm) C.1.2.2.2.1 (C.1.2.2.2.2 _ h1) (C.1.2.2.2.2 _ h2) (C.1.2.2.2.2 _ h3) (C.1.2.2.2.2 _ h4) hf hlo (Nat.zero_le _) (Nat.zero_le _) hdg kk
theorem sy_mmin (C : sy_C p m c cc nL s args Ts own meth rt Y N tf) (hl : lv_has ls nL lv) {index : Nat} (h1 : Cond.methodLink own index Lib.Math.min.name ∈ Ts) (h2 : Cond.static Lib.Math.min.name ∈ Ts) (h3 : Cond.initialized "java/lang/Math" ∈ Ts) (h4 : Cond.code Lib.Math.min.name Lib.Math.min.code 2 (some .int) ∈ Ts) (hf : 1 ≤ R.frames) (hlo : (rest.map fun v => v.category).sum + 13 ≤ R.locals) {x y : Int32} (hdg : decode cc pc = .ok (.invokestatic index, 3))
    (kk : W p l e R s m args below meth c H locs 0 0 Qf (F0 m (pc + 3) ls (.int (imin x y) :: rest))) : W p l e R s m args below meth c H locs 0 0 Qf (F0 m pc ls (.int y :: .int x :: rest)) :=
  va_mmin C.1.1 C.1.2.1 (C.1.2.2.1.trans hl.1.symm) C.1.2.2.2.1 (C.1.2.2.2.2 _ h1) (C.1.2.2.2.2 _ h2) (C.1.2.2.2.2 _ h3) (C.1.2.2.2.2 _ h4) hf hlo (Nat.zero_le _) (Nat.zero_le _) hdg kk
theorem sy_mabs (C : sy_C p m c cc nL s args Ts own meth rt Y N tf) (hl : lv_has ls nL lv) {index : Nat} (h1 : Cond.methodLink own index Lib.Math.abs.name ∈ Ts) (h2 : Cond.static Lib.Math.abs.name ∈ Ts) (h3 : Cond.initialized "java/lang/Math" ∈ Ts) (h4 : Cond.code Lib.Math.abs.name Lib.Math.abs.code 1 (some .int) ∈ Ts) (hf : 1 ≤ R.frames) (hlo : (rest.map fun v => v.category).sum + 13 ≤ R.locals) {x : Int32} (hdg : decode cc pc = .ok (.invokestatic index, 3))
    (kk : W p l e R s m args below meth c H locs 0 0 Qf (F0 m (pc + 3) ls (.int (iabs x) :: rest))) : W p l e R s m args below meth c H locs 0 0 Qf (F0 m pc ls (.int x :: rest)) :=
  va_mabs C.1.1 C.1.2.1 (C.1.2.2.1.trans hl.1.symm) C.1.2.2.2.1 (C.1.2.2.2.2 _ h1) (C.1.2.2.2.2 _ h2) (C.1.2.2.2.2 _ h3) (C.1.2.2.2.2 _ h4) hf hlo (Nat.zero_le _) (Nat.zero_le _) hdg kk
theorem sy_aald (C : sy_C p m c cc nL s args Ts own meth rt Y N tf) (hh : sy_H Y N E s H locs M) (a : Nat) (ha : a < N) {n : Nat} {C0 : String} {g : Nat → Option Nat} (he : ∀ f, E Y a f = .inl (Y.2.2.1 a, n, .inr (.inr (.inr (.inr g))))) (ht : tf a = some (.object C0)) {i : Int32} {j : Nat} (hj : j < n) (hi : i = nI j) (hn : n < 2 ^ 31) (hdg : decode cc pc = .ok (.aaload, 1)) {v : Value} (hv : va_rf (g j) = v)
    (kk : W p l e R s m args below meth c H locs 0 0 Qf (F0 m (pc + 1) ls (v :: rest))) : W p l e R s m args below meth c H locs 0 0 Qf (F0 m pc ls (.int i :: .ref (Y.2.1 a) :: rest)) := by
  subst hi
  refine va_aldq C.1.1 C.1.2.1 (C.2.1.1.one ht) hh.1 a 0 (by rw [sy_w_at ha, he]) rfl (vp_in_nI hj hn) hdg ?_
  rw [nI_clamp (Nat.lt_trans hj hn), hv]
  exact kk
end SYR2
