/-! THE MEMORY OF A SYSTEM OF FIXED SHAPE: N cells at the addresses 'ad', cell p holds M p; nothing is made or thrown away by its calls -/
abbrev sy_M : Type := Nat → Nat → Int32
def mu (M : sy_M) (p k : Nat) (v : Int32) : sy_M := fun q => if q = p then upd (M p) k v else M q
theorem mu_same (M : sy_M) (p k : Nat) (v : Int32) : mu M p k v p = upd (M p) k v := by simp [mu]
theorem mu_ne (M : sy_M) {p q : Nat} (k : Nat) (v : Int32) (h : q ≠ p) : mu M p k v q = M q := by simp [mu, h]
/-- the launch's numbers: classes and slots, addresses of the cells, classes of the arrays, the texts' addresses (object, bytes) -/
abbrev sy_Y : Type := va_G × (Nat → Nat) × (Nat → ClassId) × (Nat → Nat) × (Nat → Nat)
abbrev sy_E : Type := Nat → (Nat → Int32) → va_E
def sy_w (N : Nat) (ad : Nat → Nat) (E : sy_E) (M : sy_M) : va_W := (List.range N).map fun p => (ad p, E p (M p))
theorem sy_w_at {N : Nat} {ad : Nat → Nat} {E : sy_E} {M : sy_M} {p : Nat} (h : p < N) : (sy_w N ad E M)[p]? = some (ad p, E p (M p)) := by
  simp [sy_w, h]
theorem sy_w_of {N : Nat} {ad : Nat → Nat} {E : sy_E} {M : sy_M} {k : Nat} {q : Nat × va_E} (h : (sy_w N ad E M)[k]? = some q) : k < N ∧ q = (ad k, E k (M k)) := by
  by_cases hk : k < N
  · rw [sy_w_at hk] at h
    exact ⟨hk, (Option.some.inj h).symm⟩
  · have : (sy_w N ad E M)[k]? = none := by simp [sy_w]; omega
    rw [this] at h
    cases h
theorem sy_w_set {N : Nat} {ad : Nat → Nat} {E : sy_E} {M : sy_M} {p k : Nat} {v : Int32} (h : p < N) : (sy_w N ad E M).set p (ad p, E p (upd (M p) k v)) = sy_w N ad E (mu M p k v) := by
  apply List.ext_getElem?
  intro i
  have hl : (sy_w N ad E M).length = N := by simp [sy_w]
  by_cases hi : i < N
  · by_cases hp : p = i
    · subst hp
      rw [List.getElem?_set_self (by rw [hl]; exact hi), sy_w_at hi, mu_same]
    · rw [List.getElem?_set_ne hp, sy_w_at hi, sy_w_at hi, mu_ne _ _ _ (fun e => hp e.symm)]
  · rw [List.getElem?_eq_none (by simp [hl]; omega), List.getElem?_eq_none (by simp [sy_w]; omega)]
/-- which cells a method of the system may change -/
def sy_A (N : Nat) (ad : Nat → Nat) (sz : Nat) : Nat → Prop := fun q => (∃ k, k < N ∧ q = ad k) ∨ sz ≤ q
def sy_J (N : Nat) (ad : Nat → Nat) : Prop := ∀ i j, i < N → j < N → ad i = ad j → i = j
theorem sy_D {N : Nat} {ad : Nat → Nat} {E : sy_E} {M : sy_M} {sz : Nat} (h : sy_J N ad) : va_D (sy_A N ad sz) (sy_w N ad E M) := by
  refine ⟨fun i j p q hp hq e => ?_, fun k q hk => ?_⟩
  · obtain ⟨h1, rfl⟩ := sy_w_of hp
    obtain ⟨h2, rfl⟩ := sy_w_of hq
    exact h i j h1 h2 e
  · obtain ⟨h1, rfl⟩ := sy_w_of hk
    exact Or.inl ⟨k, h1, rfl⟩
/-- classes, and the arrays' classes -/
def sy_K (Y : sy_Y) (tf : Nat → Option FieldType) (U : State) : Prop := va_K Y.1 vwCl [] U ∧ ∀ p ty, tf p = some ty → ArrOfT U (Y.2.2.1 p) ty ∧ va_RA U (Y.2.2.1 p) ty
theorem sy_K.one {Y : sy_Y} {tf : Nat → Option FieldType} {U : State} (h : sy_K Y tf U) {p : Nat} {ty : FieldType} (hp : tf p = some ty) : va_K Y.1 vwCl [(Y.2.2.1 p, ty)] U := by
  refine ⟨h.1.1, fun k q hk => ?_⟩
  cases k with
  | zero =>
    cases (Option.some.inj hk)
    exact h.2 p ty hp
  | succ n => cases hk
theorem sy_K.moved {Y : sy_Y} {tf : Nat → Option FieldType} {u U : State} (hvm : u.vm.Alike U.vm) (h : sy_K Y tf u) : sy_K Y tf U :=
  ⟨va_K.moved hvm h.1, fun p ty hp => ⟨arrOfT_moved hvm (h.2 p ty hp).1, (h.2 p ty hp).2.moved hvm⟩⟩
/-- the private methods that nest mates call -/
abbrev sy_nest : List (String × Nat × MethodName) := [("AreaSetter$Cutter", 58, yX11_share), ("AreaSetter$Cutter", 75, yX11_shapeOf), ("AreaSetter$Items", 106, yX11_share), ("AreaSetter$Plan", 34, yX11_shapeOf), ("AreaSetter$Rectangles", 33, yX11_shapeOf), ("AreaSetter$RowBreaker", 68, yX11_shapeOf)]
def sy_Ne (U : State) : Prop := ∀ q ∈ sy_nest, va_Nw (.methodLinkNest q.1 q.2.1 q.2.2 "AreaSetter") U
theorem sy_Ne.warm {s U : State} (hW : s.WarmedH U.vm) (h : sy_Ne s) : sy_Ne U := fun q hq => va_Nw.warmM hW (h q hq)
theorem sy_Ne.same {s U : State} (hv : s.vm = U.vm) (h : sy_Ne s) : sy_Ne U := fun q hq => va_Nw.same rfl hv (h q hq)
/-- the five words of the language: 0 sorted, 1 slice, 2 rows, 3 cuts, 4 best -/
abbrev sy_len : List Nat := [6, 5, 4, 4, 4]
abbrev sy_byt : List (List Int32) := [[115, 111, 114, 116, 101, 100], [115, 108, 105, 99, 101], [114, 111, 119, 115], [99, 117, 116, 115], [98, 101, 115, 116]]
abbrev sy_txt : List String := ["sorted", "slice", "rows", "cuts", "best"]
/-- where the words are loaded: class, entry, word -/
abbrev sy_ldc : List (String × Nat × Nat) := [("AreaSetter$Reader", 80, 0), ("AreaSetter$Reader", 133, 1), ("AreaSetter$Reader", 135, 2), ("AreaSetter$Reader", 137, 3), ("AreaSetter$Reader", 139, 4), ("AreaSetterModel", 200, 0), ("AreaSetterModel", 185, 1), ("AreaSetterModel", 191, 2), ("AreaSetterModel", 193, 3), ("AreaSetterModel", 195, 4)]
def sy_St (Y : sy_Y) (A : Nat → Prop) (U : State) (H : Heap) : Prop := vk_S 5 sy_len sy_byt Y.2.2.2.1 Y.2.2.2.2 A U H ∧ (∀ q ∈ sy_ldc, vk_R q.1 q.2.1 (sy_txt.getD q.2.2 "") (Y.2.2.2.1 q.2.2) U) ∧ va_Z "java/lang/String" "COMPACT_STRINGS" "Z" (.int 1) A U H ∧ va_Zq "jdk/internal/util/Preconditions" "SIOOBE_FORMATTER" "Ljava/util/function/BiFunction;" A U H
/-- what a method of the system is given: classes, nest mates, words -/
def sy_G (Y : sy_Y) (N : Nat) (tf : Nat → Option FieldType) (sz : Nat) (U : State) (H : Heap) : Prop := sy_K Y tf U ∧ sy_Ne U ∧ sy_St Y (sy_A N Y.2.1 sz) U H ∧ sy_J N Y.2.1
theorem sy_G.same {Y : sy_Y} {N : Nat} {tf : Nat → Option FieldType} {sz : Nat} {u U : State} {H : Heap} (hv : u.vm = U.vm) (h : sy_G Y N tf sz u H) : sy_G Y N tf sz U H := by
  have ha : u.vm.Alike U.vm := by rw [← hv]; exact Vm.Alike.refl u.vm
  exact ⟨sy_K.moved ha h.1, sy_Ne.same hv h.2.1, ⟨vk_S.moved ha h.2.2.1.1, fun q hq => vk_R.same hv.symm (h.2.2.1.2.1 q hq), va_Z.moved ha h.2.2.1.2.2.1, va_Zq.moved ha h.2.2.1.2.2.2⟩, h.2.2.2⟩
theorem sy_A_le {N : Nat} {ad : Nat → Nat} {a b : Nat} (h : a ≤ b) : ∀ q, sy_A N ad b q → sy_A N ad a q := fun q hq => hq.elim Or.inl (fun h2 => Or.inr (Nat.le_trans h h2))
theorem sy_G.call {Y : sy_Y} {N : Nat} {tf : Nat → Option FieldType} {s U : State} {H : Heap} {locs : List Loc} (hW : s.WarmedH U.vm) (hS : va_S (sy_A N Y.2.1 s.heap.size) s.heap H locs) (h : sy_G Y N tf s.heap.size s s.heap) : sy_G Y N tf H.size U H := by
  refine ⟨sy_K.moved hW.alike h.1, sy_Ne.warm hW h.2.1, ⟨vk_S.moved hW.alike ((h.2.2.1.1.kept (fun a h1 h2 => hS.2.1 a h1 h2)).narrow (sy_A_le hS.1)), fun q hq => vk_R.warm hW (h.2.2.1.2.1 q hq), va_Z.moved hW.alike ((h.2.2.1.2.2.1.kept (fun a h1 h2 => hS.2.1 a h1 h2)).narrow (sy_A_le hS.1)), va_Zq.moved hW.alike ((h.2.2.1.2.2.2.kept (fun a h1 h2 => hS.2.1 a h1 h2)).narrow (sy_A_le hS.1))⟩, h.2.2.2⟩
/-- the world at a point of a walk -/
def sy_H (Y : sy_Y) (N : Nat) (E : sy_Y → sy_E) (s : State) (H : Heap) (locs : List Loc) (M : sy_M) : Prop := va_P Y.1 vwCl (sy_w N Y.2.1 (E Y) M) H ∧ va_S (sy_A N Y.2.1 s.heap.size) s.heap H locs
/-- a contract's start, and what is true of the world behind it -/
def sy_pre (Y : sy_Y) (N : Nat) (E : sy_Y → sy_E) (tf : Nat → Option FieldType) (sz : Nat) (M : sy_M) (U : State) : Prop := U.heap.size = sz ∧ va_P Y.1 vwCl (sy_w N Y.2.1 (E Y) M) U.heap ∧ sy_G Y N tf sz U U.heap
def sy_B (Y : sy_Y) (N : Nat) (E : sy_Y → sy_E) (M : sy_M) (t : State) : Prop := va_P Y.1 vwCl (sy_w N Y.2.1 (E Y) M) t.heap
abbrev sy_QI (Y : sy_Y) (N : Nat) (E : sy_Y → sy_E) (sz : Nat) (Q : Int32 → sy_M → Prop) : Array Value → State → Outcome → State → Prop := va_Qi Q (sy_B Y N E) (sy_A N Y.2.1 sz)
abbrev sy_QV (Y : sy_Y) (N : Nat) (E : sy_Y → sy_E) (sz : Nat) (Q : sy_M → Prop) : Array Value → State → Outcome → State → Prop := va_Qv Q (sy_B Y N E) (sy_A N Y.2.1 sz)
abbrev sy_ZI (below : List Frame) (args : Array Value) (s : State) (Y : sy_Y) (N : Nat) (E : sy_Y → sy_E) (Q : Int32 → sy_M → Prop) : State → Prop := MQ below (sy_QI Y N E s.heap.size Q) args s 0 0 (sy_A N Y.2.1 s.heap.size)
abbrev sy_ZV (below : List Frame) (args : Array Value) (s : State) (Y : sy_Y) (N : Nat) (E : sy_Y → sy_E) (Q : sy_M → Prop) : State → Prop := MQ below (sy_QV Y N E s.heap.size Q) args s 0 0 (sy_A N Y.2.1 s.heap.size)
theorem sy_pre.blind {Y : sy_Y} {N : Nat} {E : sy_Y → sy_E} {tf : Nat → Option FieldType} {sz : Nat} {M : sy_M} {av : List Value} : FrameBlind (va_Pc av (sy_pre Y N E tf sz M)) := by
  intro a U g mk h
  exact ⟨h.1, h.2.1, h.2.2.1, sy_G.same (u := U) (U := U.calling g mk a) rfl h.2.2.2⟩
section SYR
variable {p : Program} {l : Launch} {e : Env} {R : Room} {s : State} {m : MethodId} {args : Array Value} {below : List Frame} {meth : Method} {c : Code} {H : Heap} {locs : List Loc} {Qf : State → Prop}
variable {cc : ByteArray} {pc nL : Nat} {ls : Array Slot} {rest : List Value} {Y : sy_Y} {N : Nat} {E : sy_Y → sy_E} {tf : Nat → Option FieldType} {M : sy_M} {Ts : List Cond} {own : String} {rt : Option FieldType}
/-- what a walk stands on -/
def sy_C (p : Program) (m : MethodId) (c : Code) (cc : ByteArray) (nL : Nat) (s : State) (args : Array Value) (Ts : List Cond) (own : String) (meth : Method) (rt : Option FieldType) (Y : sy_Y) (N : Nat) (tf : Nat → Option FieldType) : Prop :=
  CallFix p m c cc nL s args Ts own ∧ sy_G Y N tf s.heap.size s s.heap ∧ meth.locks = false ∧ meth.sig.returnType = rt
theorem sy_get (C : sy_C p m c cc nL s args Ts own meth rt Y N tf) (hh : sy_H Y N E s H locs M) {C0 : String} {T : u_T} {n ci index : Nat} (hin : ∀ w ∈ u_ws C0 T n, w ∈ Ts) (a : Nat) (ha : a < N) {fs : (Nat → Int32) → List Value} (he : ∀ f, E Y a f = .inr (ci, fs f)) (hc : vwCl[ci]? = some (C0, T, n)) (k : Nat) (hk : k < n) (hl : Cond.fieldLink own index (T k).1 (T k).2.1 (T k).2.2.1 ∈ Ts) {v : Value} (hv : (fs (M a))[k]? = some v) (hdg : decode cc pc = .ok (.getfield index, 3))
    (kk : W p l e R s m args below meth c H locs 0 0 Qf (F0 m (pc + 3) ls (v :: rest))) : W p l e R s m args below meth c H locs 0 0 Qf (F0 m pc ls (.ref (Y.2.1 a) :: rest)) :=
  va_get C.1.1 C.1.2.1 C.1.2.2.2.2 hin C.1.2.2.2.1 C.2.1.1.1 hh.1 a (by rw [sy_w_at ha, he]) hc k hk (C.1.2.2.2.2 _ hl) (fun _ h9 => h9) hv hdg kk
theorem sy_put (C : sy_C p m c cc nL s args Ts own meth rt Y N tf) (hh : sy_H Y N E s H locs M) {C0 : String} {T : u_T} {n ci index : Nat} (hin : ∀ w ∈ u_ws C0 T n, w ∈ Ts) (ty0 : Nat → FieldType) (hty : ∀ k, k < n → parseFieldDescriptor (T k).2.2.1 = some (ty0 k)) (hnm : ∀ a, a < n → ∀ b, b < n → a ≠ b → (T a).2.1 ≠ (T b).2.1) (a : Nat) (ha : a < N) {fs : (Nat → Int32) → List Value} (he : ∀ f, E Y a f = .inr (ci, fs f)) (hc : vwCl[ci]? = some (C0, T, n)) (k : Nat) (hk : k < n) (hl : Cond.fieldLink own index (T k).1 (T k).2.1 (T k).2.2.1 ∈ Ts) (hfin : (T k).2.2.2 = false) {ty : FieldType} {v : Value} (kS : Nat) (x : Int32) (hd : parseFieldDescriptor (T k).2.2.1 = some ty) (hn : narrow ty v = v) (hfit : fits ty v = true) (hlen : k < (fs (M a)).length) (hset : (fs (M a)).set k v = fs (upd (M a) kS x)) (hdg : decode cc pc = .ok (.putfield index, 3))
    (kk : ∀ (H1 : Heap) (locs1 : List Loc), sy_H Y N E s H1 locs1 (mu M a kS x) → W p l e R s m args below meth c H1 locs1 0 0 Qf (F0 m (pc + 3) ls rest)) : W p l e R s m args below meth c H locs 0 0 Qf (F0 m pc ls (v :: .ref (Y.2.1 a) :: rest)) := by
  refine va_put C.1.1 C.1.2.1 C.1.2.2.2.2 hin ty0 hty hnm C.1.2.2.2.1 C.2.1.1.1 hh.1 (sy_D C.2.1.2.2.2) hh.2 a (by rw [sy_w_at ha, he]) hc k hk (C.1.2.2.2.2 _ hl) (fun _ h9 => h9) hfin hd hn hfit hlen hdg (fun H1 locs1 hP _ hS => kk H1 locs1 ⟨?_, hS⟩)
  rw [← sy_w_set ha, he, ← hset]
  exact hP
theorem sy_iald (C : sy_C p m c cc nL s args Ts own meth rt Y N tf) (hh : sy_H Y N E s H locs M) (a : Nat) (ha : a < N) {n : Nat} (he : ∀ f, E Y a f = .inl (Y.2.2.1 a, n, .inl f)) (ht : tf a = some .int) {i : Int32} {j : Nat} (hj : j < n) (hi : i = nI j) (hn : n < 2 ^ 31) (hdg : decode cc pc = .ok (.iaload, 1))
    (kk : W p l e R s m args below meth c H locs 0 0 Qf (F0 m (pc + 1) ls (.int (M a j) :: rest))) : W p l e R s m args below meth c H locs 0 0 Qf (F0 m pc ls (.int i :: .ref (Y.2.1 a) :: rest)) := by
  subst hi
  refine va_iald C.1.1 C.1.2.1 (C.2.1.1.one ht) hh.1 a 0 (by rw [sy_w_at ha, he]) rfl (vp_in_nI hj hn) hdg ?_
  rw [nI_clamp (Nat.lt_trans hj hn)]
  exact kk
theorem sy_bald (C : sy_C p m c cc nL s args Ts own meth rt Y N tf) (hh : sy_H Y N E s H locs M) (a : Nat) (ha : a < N) {n : Nat} (he : ∀ f, E Y a f = .inl (Y.2.2.1 a, n, .inl f)) (ht : tf a = some .byte) {i : Int32} {j : Nat} (hj : j < n) (hi : i = nI j) (hn : n < 2 ^ 31) (hdg : decode cc pc = .ok (.baload, 1))
    (kk : W p l e R s m args below meth c H locs 0 0 Qf (F0 m (pc + 1) ls (.int (M a j) :: rest))) : W p l e R s m args below meth c H locs 0 0 Qf (F0 m pc ls (.int i :: .ref (Y.2.1 a) :: rest)) := by
  subst hi
  refine va_bald C.1.1 C.1.2.1 (C.2.1.1.one ht) hh.1 a 0 (by rw [sy_w_at ha, he]) rfl (vp_in_nI hj hn) hdg ?_
  rw [nI_clamp (Nat.lt_trans hj hn)]
  exact kk
theorem sy_zald (C : sy_C p m c cc nL s args Ts own meth rt Y N tf) (hh : sy_H Y N E s H locs M) (a : Nat) (ha : a < N) {n : Nat} (he : ∀ f, E Y a f = .inl (Y.2.2.1 a, n, .inl f)) (ht : tf a = some .boolean) {i : Int32} {j : Nat} (hj : j < n) (hi : i = nI j) (hn : n < 2 ^ 31) (hdg : decode cc pc = .ok (.baload, 1))
    (kk : W p l e R s m args below meth c H locs 0 0 Qf (F0 m (pc + 1) ls (.int (M a j) :: rest))) : W p l e R s m args below meth c H locs 0 0 Qf (F0 m pc ls (.int i :: .ref (Y.2.1 a) :: rest)) := by
  subst hi
  refine va_zald C.1.1 C.1.2.1 (C.2.1.1.one ht) hh.1 a 0 (by rw [sy_w_at ha, he]) rfl (vp_in_nI hj hn) hdg ?_
  rw [nI_clamp (Nat.lt_trans hj hn)]
  exact kk
theorem sy_iast (C : sy_C p m c cc nL s args Ts own meth rt Y N tf) (hh : sy_H Y N E s H locs M) (a : Nat) (ha : a < N) {n : Nat} (he : ∀ f, E Y a f = .inl (Y.2.2.1 a, n, .inl f)) (ht : tf a = some .int) {i x : Int32} {j : Nat} (hj : j < n) (hi : i = nI j) (hn : n < 2 ^ 31) (hdg : decode cc pc = .ok (.iastore, 1))
    (kk : ∀ (H1 : Heap) (locs1 : List Loc), sy_H Y N E s H1 locs1 (mu M a j x) → W p l e R s m args below meth c H1 locs1 0 0 Qf (F0 m (pc + 1) ls rest)) : W p l e R s m args below meth c H locs 0 0 Qf (F0 m pc ls (.int x :: .int i :: .ref (Y.2.1 a) :: rest)) := by
  subst hi
  refine va_iast C.1.1 C.1.2.1 (C.2.1.1.one ht) hh.1 (sy_D C.2.1.2.2.2) hh.2 a 0 (by rw [sy_w_at ha, he]) rfl (vp_in_nI hj hn) hdg (fun H1 locs1 hP _ hS => kk H1 locs1 ⟨?_, hS⟩)
  rw [nI_clamp (Nat.lt_trans hj hn)] at hP
  rw [← sy_w_set ha, he]
  exact hP
theorem sy_bast (C : sy_C p m c cc nL s args Ts own meth rt Y N tf) (hh : sy_H Y N E s H locs M) (a : Nat) (ha : a < N) {n : Nat} (he : ∀ f, E Y a f = .inl (Y.2.2.1 a, n, .inl f)) (ht : tf a = some .byte) {i x : Int32} {j : Nat} (hj : j < n) (hi : i = nI j) (hn : n < 2 ^ 31) (hdg : decode cc pc = .ok (.bastore, 1))
    (kk : ∀ (H1 : Heap) (locs1 : List Loc), sy_H Y N E s H1 locs1 (mu M a j (vp_nar .byte x)) → W p l e R s m args below meth c H1 locs1 0 0 Qf (F0 m (pc + 1) ls rest)) : W p l e R s m args below meth c H locs 0 0 Qf (F0 m pc ls (.int x :: .int i :: .ref (Y.2.1 a) :: rest)) := by
  subst hi
  refine va_bast C.1.1 C.1.2.1 (C.2.1.1.one ht) hh.1 (sy_D C.2.1.2.2.2) hh.2 a 0 (by rw [sy_w_at ha, he]) rfl (vp_in_nI hj hn) hdg (fun H1 locs1 hP _ hS => kk H1 locs1 ⟨?_, hS⟩)
  rw [nI_clamp (Nat.lt_trans hj hn)] at hP
  rw [← sy_w_set ha, he]
  exact hP
theorem sy_zast (C : sy_C p m c cc nL s args Ts own meth rt Y N tf) (hh : sy_H Y N E s H locs M) (a : Nat) (ha : a < N) {n : Nat} (he : ∀ f, E Y a f = .inl (Y.2.2.1 a, n, .inl f)) (ht : tf a = some .boolean) {i x : Int32} {j : Nat} (hj : j < n) (hi : i = nI j) (hn : n < 2 ^ 31) (hdg : decode cc pc = .ok (.bastore, 1))
    (kk : ∀ (H1 : Heap) (locs1 : List Loc), sy_H Y N E s H1 locs1 (mu M a j (vp_nar .boolean x)) → W p l e R s m args below meth c H1 locs1 0 0 Qf (F0 m (pc + 1) ls rest)) : W p l e R s m args below meth c H locs 0 0 Qf (F0 m pc ls (.int x :: .int i :: .ref (Y.2.1 a) :: rest)) := by
  subst hi
  refine va_zast C.1.1 C.1.2.1 (C.2.1.1.one ht) hh.1 (sy_D C.2.1.2.2.2) hh.2 a 0 (by rw [sy_w_at ha, he]) rfl (vp_in_nI hj hn) hdg (fun H1 locs1 hP _ hS => kk H1 locs1 ⟨?_, hS⟩)
  rw [nI_clamp (Nat.lt_trans hj hn)] at hP
  rw [← sy_w_set ha, he]
  exact hP
theorem sy_iret {Q : Int32 → sy_M → Prop} {r : Int32} (C : sy_C p m c cc nL s args Ts own meth (some .int) Y N tf) (hh : sy_H Y N E s H locs M) (hdg : decode cc pc = .ok (.ireturn, 1)) (hq : Q r M) : W p l e R s m args below meth c H locs 0 0 (sy_ZI below args s Y N E Q) (F0 m pc ls [.int r]) := by
  have hlocks := C.2.2.1
  exact W.iret (v := r) C.1.1 C.1.2.1 C.2.2.2 (fun t ht hW => ⟨⟨r, M, rfl, hq, by rw [sy_B, ht]; exact hh.1⟩, hh.2.F ht⟩) hh.2.2.2 hdg
theorem sy_zret {Q : Int32 → sy_M → Prop} {r : Int32} (C : sy_C p m c cc nL s args Ts own meth (some .boolean) Y N tf) (hh : sy_H Y N E s H locs M) (hdg : decode cc pc = .ok (.ireturn, 1)) (hz : r = 0 ∨ r = 1) (hq : Q r M) : W p l e R s m args below meth c H locs 0 0 (sy_ZI below args s Y N E Q) (F0 m pc ls [.int r]) := by
  have hlocks := C.2.2.1
  exact W.zret (v := r) C.1.1 C.1.2.1 C.2.2.2 (by rcases hz with h | h <;> rw [h] <;> decide) (fun t ht hW => ⟨⟨r, M, rfl, hq, by rw [sy_B, ht]; exact hh.1⟩, hh.2.F ht⟩) hh.2.2.2 hdg
theorem sy_vret {Q : sy_M → Prop} (C : sy_C p m c cc nL s args Ts own meth none Y N tf) (hh : sy_H Y N E s H locs M) (hdg : decode cc pc = .ok (.return_, 1)) (hq : Q M) : W p l e R s m args below meth c H locs 0 0 (sy_ZV below args s Y N E Q) (F0 m pc ls []) := by
  have hlocks := C.2.2.1
  exact W.vret C.1.1 C.1.2.1 C.2.2.2 (fun t ht hW => ⟨⟨M, rfl, hq, by rw [sy_B, ht]; exact hh.1⟩, hh.2.F ht⟩) hh.2.2.2 hdg
theorem sy_cIV (C : sy_C p m c cc nL s args Ts own meth rt Y N tf) (hh : sy_H Y N E s H locs M) {y : MethodName} {ws : List Cond} {rm : Room} {bytes : ByteArray} {maxL n index : Nat} {ret : Option FieldType} {C0 : String} {As rest st0 : List Value} {Q : Int32 → sy_M → Prop} (b : Nat) (hbN : b < N) {ci n0 : Nat} {T0 : u_T} {fs : (Nat → Int32) → List Value} (he : ∀ f, E Y b f = .inr (ci, fs f)) (hc : vwCl[ci]? = some (C0, T0, n0)) (hM : Met l y ws rm (va_Pc (.ref (Y.2.1 b) :: As) (sy_pre Y N E tf H.size M)) (sy_QI Y N E H.size Q) 0 0 (sy_A N Y.2.1 H.size)) (cw : CallW R s args own C0 index y bytes maxL ret ws rm 0 0 n) (hn : As.length = n) (hsize : ls.size = nL) (hstack : st0 = As.reverse ++ .ref (Y.2.1 b) :: rest) (hW : (rest.map fun v => v.category).sum ≤ 8) (hdg : decode cc pc = .ok (.invokevirtual index, 3))
    (kk : ∀ (r : Int32) (M1 : sy_M) (H1 : Heap) (locs1 : List Loc), Q r M1 → sy_H Y N E s H1 locs1 M1 → W p l e R s m args below meth c H1 locs1 0 0 Qf (F0 m (pc + 3) ls (.int r :: rest))) : W p l e R s m args below meth c H locs 0 0 Qf (F0 m pc ls st0) := by
  refine va_calli (va_runV (As := As) (rest := rest) C.1 hM cw ⟨sy_pre.blind, va_recv C.2.1.1.1 hh.1 (ci := ci) (q0 := b) hc (by rw [sy_w_at hbN, he]), fun U hU hW => ⟨rfl, by rw [hU], by rw [hU]; exact hh.1, by rw [hU]; exact sy_G.call hW hh.2 C.2.1⟩⟩ rfl hn hsize hstack (lv_room hW) hdg ⟨Nat.zero_le _, Nat.zero_le _⟩) hh.2 (fun q _ h => sy_A_le hh.2.1 q h) (fun q h => sy_A_le hh.2.1 q h) (fun r u t H1 locs1 ht hvm hw hB hz1 hk1 hS => ?_)
  exact kk r u H1 locs1 hw ⟨by rw [← ht]; exact hB, hS⟩
theorem sy_cVV (C : sy_C p m c cc nL s args Ts own meth rt Y N tf) (hh : sy_H Y N E s H locs M) {y : MethodName} {ws : List Cond} {rm : Room} {bytes : ByteArray} {maxL n index : Nat} {ret : Option FieldType} {C0 : String} {As rest st0 : List Value} {Q : sy_M → Prop} (b : Nat) (hbN : b < N) {ci n0 : Nat} {T0 : u_T} {fs : (Nat → Int32) → List Value} (he : ∀ f, E Y b f = .inr (ci, fs f)) (hc : vwCl[ci]? = some (C0, T0, n0)) (hM : Met l y ws rm (va_Pc (.ref (Y.2.1 b) :: As) (sy_pre Y N E tf H.size M)) (sy_QV Y N E H.size Q) 0 0 (sy_A N Y.2.1 H.size)) (cw : CallW R s args own C0 index y bytes maxL ret ws rm 0 0 n) (hn : As.length = n) (hsize : ls.size = nL) (hstack : st0 = As.reverse ++ .ref (Y.2.1 b) :: rest) (hW : (rest.map fun v => v.category).sum ≤ 8) (hdg : decode cc pc = .ok (.invokevirtual index, 3))
    (kk : ∀ (M1 : sy_M) (H1 : Heap) (locs1 : List Loc), Q M1 → sy_H Y N E s H1 locs1 M1 → W p l e R s m args below meth c H1 locs1 0 0 Qf (F0 m (pc + 3) ls rest)) : W p l e R s m args below meth c H locs 0 0 Qf (F0 m pc ls st0) := by
  refine va_callv (va_runV (As := As) (rest := rest) C.1 hM cw ⟨sy_pre.blind, va_recv C.2.1.1.1 hh.1 (ci := ci) (q0 := b) hc (by rw [sy_w_at hbN, he]), fun U hU hW => ⟨rfl, by rw [hU], by rw [hU]; exact hh.1, by rw [hU]; exact sy_G.call hW hh.2 C.2.1⟩⟩ rfl hn hsize hstack (lv_room hW) hdg ⟨Nat.zero_le _, Nat.zero_le _⟩) hh.2 (fun q _ h => sy_A_le hh.2.1 q h) (fun q h => sy_A_le hh.2.1 q h) (fun u t H1 locs1 ht hvm hw hB hz1 hk1 hS => ?_)
  exact kk u H1 locs1 hw ⟨by rw [← ht]; exact hB, hS⟩
theorem sy_cIS (C : sy_C p m c cc nL s args Ts own meth rt Y N tf) (hh : sy_H Y N E s H locs M) {y : MethodName} {ws : List Cond} {rm : Room} {bytes : ByteArray} {maxL n index : Nat} {ret : Option FieldType} {As rest st0 : List Value} {Q : Int32 → sy_M → Prop} (hM : Met l y ws rm (va_Pc As (sy_pre Y N E tf H.size M)) (sy_QI Y N E H.size Q) 0 0 (sy_A N Y.2.1 H.size)) (cw : CallB R s args own index y bytes maxL ret ws rm 0 0 n ∧ (Cond.static y).before args s = true) (hn : As.length = n) (hsize : ls.size = nL) (hstack : st0 = As.reverse ++ rest) (hW : (rest.map fun v => v.category).sum ≤ 8) (hdg : decode cc pc = .ok (.invokestatic index, 3))
    (kk : ∀ (r : Int32) (M1 : sy_M) (H1 : Heap) (locs1 : List Loc), Q r M1 → sy_H Y N E s H1 locs1 M1 → W p l e R s m args below meth c H1 locs1 0 0 Qf (F0 m (pc + 3) ls (.int r :: rest))) : W p l e R s m args below meth c H locs 0 0 Qf (F0 m pc ls st0) := by
  refine va_calli (va_runS (As := As) (rest := rest) C.1 hM cw ⟨sy_pre.blind, fun U hU hW => ⟨rfl, by rw [hU], by rw [hU]; exact hh.1, by rw [hU]; exact sy_G.call hW hh.2 C.2.1⟩⟩ rfl hn hsize hstack (lv_room hW) hdg ⟨Nat.zero_le _, Nat.zero_le _⟩) hh.2 (fun q _ h => sy_A_le hh.2.1 q h) (fun q h => sy_A_le hh.2.1 q h) (fun r u t H1 locs1 ht hvm hw hB hz1 hk1 hS => ?_)
  exact kk r u H1 locs1 hw ⟨by rw [← ht]; exact hB, hS⟩
theorem sy_cVS (C : sy_C p m c cc nL s args Ts own meth rt Y N tf) (hh : sy_H Y N E s H locs M) {y : MethodName} {ws : List Cond} {rm : Room} {bytes : ByteArray} {maxL n index : Nat} {ret : Option FieldType} {As rest st0 : List Value} {Q : sy_M → Prop} (hM : Met l y ws rm (va_Pc As (sy_pre Y N E tf H.size M)) (sy_QV Y N E H.size Q) 0 0 (sy_A N Y.2.1 H.size)) (cw : CallB R s args own index y bytes maxL ret ws rm 0 0 n ∧ (Cond.static y).before args s = true) (hn : As.length = n) (hsize : ls.size = nL) (hstack : st0 = As.reverse ++ rest) (hW : (rest.map fun v => v.category).sum ≤ 8) (hdg : decode cc pc = .ok (.invokestatic index, 3))
    (kk : ∀ (M1 : sy_M) (H1 : Heap) (locs1 : List Loc), Q M1 → sy_H Y N E s H1 locs1 M1 → W p l e R s m args below meth c H1 locs1 0 0 Qf (F0 m (pc + 3) ls rest)) : W p l e R s m args below meth c H locs 0 0 Qf (F0 m pc ls st0) := by
  refine va_callv (va_runS (As := As) (rest := rest) C.1 hM cw ⟨sy_pre.blind, fun U hU hW => ⟨rfl, by rw [hU], by rw [hU]; exact hh.1, by rw [hU]; exact sy_G.call hW hh.2 C.2.1⟩⟩ rfl hn hsize hstack (lv_room hW) hdg ⟨Nat.zero_le _, Nat.zero_le _⟩) hh.2 (fun q _ h => sy_A_le hh.2.1 q h) (fun q h => sy_A_le hh.2.1 q h) (fun u t H1 locs1 ht hvm hw hB hz1 hk1 hS => ?_)
  exact kk u H1 locs1 hw ⟨by rw [← ht]; exact hB, hS⟩
theorem sy_cIN (C : sy_C p m c cc nL s args Ts own meth rt Y N tf) (hh : sy_H Y N E s H locs M) {y : MethodName} {ws : List Cond} {rm : Room} {bytes : ByteArray} {maxL n index : Nat} {ret : Option FieldType} {host : String} {As rest st0 : List Value} {Q : Int32 → sy_M → Prop} (hM : Met l y ws rm (va_Pc As (sy_pre Y N E tf H.size M)) (sy_QI Y N E H.size Q) 0 0 (sy_A N Y.2.1 H.size)) (cw : va_CN R s args own index y host bytes maxL ret ws rm 0 0 n ∧ (Cond.static y).before args s = true ∧ True) (hn : As.length = n) (hsize : ls.size = nL) (hstack : st0 = As.reverse ++ rest) (hW : (rest.map fun v => v.category).sum ≤ 8) (hdg : decode cc pc = .ok (.invokestatic index, 3))
    (kk : ∀ (r : Int32) (M1 : sy_M) (H1 : Heap) (locs1 : List Loc), Q r M1 → sy_H Y N E s H1 locs1 M1 → W p l e R s m args below meth c H1 locs1 0 0 Qf (F0 m (pc + 3) ls (.int r :: rest))) : W p l e R s m args below meth c H locs 0 0 Qf (F0 m pc ls st0) := by
  refine va_calli (va_runSN (As := As) (rest := rest) C.1 hM cw ⟨sy_pre.blind, fun U hU hW => ⟨rfl, by rw [hU], by rw [hU]; exact hh.1, by rw [hU]; exact sy_G.call hW hh.2 C.2.1⟩⟩ rfl hn hsize hstack (lv_room hW) hdg ⟨Nat.zero_le _, Nat.zero_le _⟩) hh.2 (fun q _ h => sy_A_le hh.2.1 q h) (fun q h => sy_A_le hh.2.1 q h) (fun r u t H1 locs1 ht hvm hw hB hz1 hk1 hS => ?_)
  exact kk r u H1 locs1 hw ⟨by rw [← ht]; exact hB, hS⟩
theorem sy_cVN (C : sy_C p m c cc nL s args Ts own meth rt Y N tf) (hh : sy_H Y N E s H locs M) {y : MethodName} {ws : List Cond} {rm : Room} {bytes : ByteArray} {maxL n index : Nat} {ret : Option FieldType} {host : String} {As rest st0 : List Value} {Q : sy_M → Prop} (hM : Met l y ws rm (va_Pc As (sy_pre Y N E tf H.size M)) (sy_QV Y N E H.size Q) 0 0 (sy_A N Y.2.1 H.size)) (cw : va_CN R s args own index y host bytes maxL ret ws rm 0 0 n ∧ (Cond.static y).before args s = true ∧ True) (hn : As.length = n) (hsize : ls.size = nL) (hstack : st0 = As.reverse ++ rest) (hW : (rest.map fun v => v.category).sum ≤ 8) (hdg : decode cc pc = .ok (.invokestatic index, 3))
    (kk : ∀ (M1 : sy_M) (H1 : Heap) (locs1 : List Loc), Q M1 → sy_H Y N E s H1 locs1 M1 → W p l e R s m args below meth c H1 locs1 0 0 Qf (F0 m (pc + 3) ls rest)) : W p l e R s m args below meth c H locs 0 0 Qf (F0 m pc ls st0) := by
  refine va_callv (va_runSN (As := As) (rest := rest) C.1 hM cw ⟨sy_pre.blind, fun U hU hW => ⟨rfl, by rw [hU], by rw [hU]; exact hh.1, by rw [hU]; exact sy_G.call hW hh.2 C.2.1⟩⟩ rfl hn hsize hstack (lv_room hW) hdg ⟨Nat.zero_le _, Nat.zero_le _⟩) hh.2 (fun q _ h => sy_A_le hh.2.1 q h) (fun q h => sy_A_le hh.2.1 q h) (fun u t H1 locs1 ht hvm hw hB hz1 hk1 hS => ?_)
  exact kk u H1 locs1 hw ⟨by rw [← ht]; exact hB, hS⟩
end SYR
theorem sy_metI {l : Launch} {Y : sy_Y} {N : Nat} {E : sy_Y → sy_E} {tf : Nat → Option FieldType} {M : sy_M} {sz : Nat} {y : MethodName} {ws ws' : List Cond} {rm : Room} {cc : ByteArray} {maxL : Nat} {ret : Option FieldType} {av : List Value} {Q : Int32 → sy_M → Prop} (hy : plainName y.cls = true) (hw : ws = Cond.code y cc maxL ret :: ws') (hlen : (lg_sl av).length ≤ maxL)
    (body : ∀ (p : Program) (e : Env) (s : State) (m : MethodId) (args : Array Value) (below : List Frame) (meth : Method) (c : Code), sy_C p m c cc maxL s args ws y.cls meth ret Y N tf → ∀ (ls : Array Slot), lv_has ls maxL (lv_args 0 av) → sy_H Y N E s s.heap [] M → W p l e rm s m args below meth c s.heap [] 0 0 (sy_ZI below args s Y N E Q) (F0 m 0 ls [])) :
    Met l y ws rm (va_Pc av (sy_pre Y N E tf sz M)) (sy_QI Y N E sz Q) 0 0 (sy_A N Y.2.1 sz) := by
  refine Met.ofW (cc := cc) (maxL := maxL) (ret := ret) hy hw ?_
  intro p e s m args below meth c s₁ B hml hv
  obtain ⟨rfl, hsz, hP, hG⟩ := hv
  subst hsz
  have hl := lv_entry av (n := maxL) hlen
  rw [lg_entry_eq]
  generalize (lg_sl av ++ List.replicate (maxL - (lg_sl av).length) Slot.unset).toArray = ls at hl ⊢
  exact body p e s m _ below meth c ⟨⟨B.exec, B.bytes, hml, findClass_of_methodNamed B.named, atoms_spec (ws := ws) B.pre⟩, hG, B.notSynchronized, B.returns⟩ ls hl ⟨hP, va_S.rf⟩
theorem sy_metV {l : Launch} {Y : sy_Y} {N : Nat} {E : sy_Y → sy_E} {tf : Nat → Option FieldType} {M : sy_M} {sz : Nat} {y : MethodName} {ws ws' : List Cond} {rm : Room} {cc : ByteArray} {maxL : Nat} {ret : Option FieldType} {av : List Value} {Q : sy_M → Prop} (hy : plainName y.cls = true) (hw : ws = Cond.code y cc maxL ret :: ws') (hlen : (lg_sl av).length ≤ maxL)
    (body : ∀ (p : Program) (e : Env) (s : State) (m : MethodId) (args : Array Value) (below : List Frame) (meth : Method) (c : Code), sy_C p m c cc maxL s args ws y.cls meth ret Y N tf → ∀ (ls : Array Slot), lv_has ls maxL (lv_args 0 av) → sy_H Y N E s s.heap [] M → W p l e rm s m args below meth c s.heap [] 0 0 (sy_ZV below args s Y N E Q) (F0 m 0 ls [])) :
    Met l y ws rm (va_Pc av (sy_pre Y N E tf sz M)) (sy_QV Y N E sz Q) 0 0 (sy_A N Y.2.1 sz) := by
  refine Met.ofW (cc := cc) (maxL := maxL) (ret := ret) hy hw ?_
  intro p e s m args below meth c s₁ B hml hv
  obtain ⟨rfl, hsz, hP, hG⟩ := hv
  subst hsz
  have hl := lv_entry av (n := maxL) hlen
  rw [lg_entry_eq]
  generalize (lg_sl av ++ List.replicate (maxL - (lg_sl av).length) Slot.unset).toArray = ls at hl ⊢
  exact body p e s m _ below meth c ⟨⟨B.exec, B.bytes, hml, findClass_of_methodNamed B.named, atoms_spec (ws := ws) B.pre⟩, hG, B.notSynchronized, B.returns⟩ ls hl ⟨hP, va_S.rf⟩
