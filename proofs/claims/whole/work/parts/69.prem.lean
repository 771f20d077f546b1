/-! what the Statement gives of the start -/
def tmL : Nat → Term := fun i => .string "AreaSetter$Reader" ([80, 133, 135, 137, 139].getD i 0)
def tmZ : Nat → Term := fun i => .string "AreaSetterModel" ([200, 185, 191, 193, 195].getD i 0)
abbrev gvL : List Cond := flatC (Jvm.Cond.and given_1 narrow_1)
set_option maxRecDepth 100000 in
theorem st_ex : ∀ i, i < 5 → Cond.exactly (tmL i) "java/lang/String" ∈ gvL := by decide +kernel
set_option maxRecDepth 100000 in
theorem st_co : ∀ i, i < 5 → Cond.eq (.field (tmL i) "java/lang/String" "coder" "B") (.int 0) ∈ gvL := by decide +kernel
set_option maxRecDepth 100000 in
theorem st_ar : ∀ i, i < 5 → Cond.arrayOf (.field (tmL i) "java/lang/String" "value" "[B") .byte ∈ gvL := by decide +kernel
set_option maxRecDepth 100000 in
theorem st_le : ∀ i, i < 5 → Cond.eq (.length (.field (tmL i) "java/lang/String" "value" "[B")) (.int (Int32.ofNat (sy_len.getD i 0))) ∈ gvL := by decide +kernel
set_option maxRecDepth 100000 in
theorem st_el : ∀ i, i < 5 → ∀ j, j < sy_len.getD i 0 → Cond.eq (.elem (.field (tmL i) "java/lang/String" "value" "[B") (.int (Int32.ofNat j))) (.int ((sy_byt.getD i []).getD j 0)) ∈ gvL := by decide +kernel
set_option maxRecDepth 100000 in
theorem st_ne : ∀ i, i < 5 → ∀ j, j < 5 → i < j → Cond.not (Cond.eq (tmL i) (tmL j)) ∈ gvL := by decide +kernel
set_option maxRecDepth 100000 in
theorem st_eq : ∀ i, i < 5 → Cond.eq (tmL i) (tmZ i) ∈ gvL := by decide +kernel
set_option maxRecDepth 100000 in
theorem st_rf : ∀ q ∈ sy_ldc, Cond.stringRef q.1 q.2.1 (sy_txt.getD q.2.2 "") ∈ tables_1 := by decide +kernel
set_option maxRecDepth 100000 in
theorem st_nest : ∀ q ∈ sy_nest, Cond.methodLinkNest q.1 q.2.1 q.2.2 "AreaSetter" ∈ tables_1 := by decide +kernel
set_option maxRecDepth 100000 in
theorem st_ctn : ∀ q ∈ ct_nest, Cond.methodLinkNest q.1 q.2.1 q.2.2 "AreaSetter" ∈ tables_1 := by decide +kernel
set_option maxRecDepth 100000 in
theorem st_ao : Cond.arrayOver (.object "AreaSetter$Plan") ∈ tables_1 := by decide +kernel
set_option maxRecDepth 100000 in
theorem st_z : (Cond.laysStatic "java/lang/String" "COMPACT_STRINGS" "Z" ∈ tables_1 ∧ Cond.initialized "java/lang/String" ∈ tables_1 ∧ Cond.eq (.static "java/lang/String" "COMPACT_STRINGS" "Z") (.int 1) ∈ gvL) ∧ (Cond.laysStatic "jdk/internal/util/Preconditions" "SIOOBE_FORMATTER" "Ljava/util/function/BiFunction;" ∈ tables_1 ∧ Cond.initialized "jdk/internal/util/Preconditions" ∈ tables_1 ∧ Cond.isRef (.static "jdk/internal/util/Preconditions" "SIOOBE_FORMATTER" "Ljava/util/function/BiFunction;") ∈ gvL) := by decide +kernel
set_option maxRecDepth 100000 in
theorem st_u : (Cond.laysStatic Bundle.tN "UNASSIGNED_STACK" Bundle.steD ∈ tables_1 ∧ Cond.laysStatic Bundle.tN "SUPPRESSED_SENTINEL" Bundle.listD ∈ tables_1 ∧ Cond.initialized Bundle.tN ∈ tables_1) ∧ Cond.isRef (.static Bundle.tN "UNASSIGNED_STACK" Bundle.steD) ∈ gvL ∧ Cond.isRef (.static Bundle.tN "SUPPRESSED_SENTINEL" Bundle.listD) ∈ gvL := by decide +kernel
