/-! what the statement's tables and its start give, word by word -/
abbrev T9s : Type := String × Nat × String × List Int32
def fN9 : List Cond := flatC (Jvm.Cond.and given_1 narrow_1)
def tS9 (q : T9s) : Term := .string q.1 q.2.1
def vS9 (q : T9s) : Term := .field (tS9 q) "java/lang/String" "value" "[B"
def sw9t (q : T9s) : List Cond := [.exactly (tS9 q) "java/lang/String", .eq (.field (tS9 q) "java/lang/String" "coder" "B") (.int 0), .arrayOf (vS9 q) .byte, .eq (.length (vS9 q)) (.int (Int32.ofNat q.2.2.2.length))] ++ (List.range q.2.2.2.length).map (fun j => .eq (.elem (vS9 q) (.int (Int32.ofNat j))) (.int (q.2.2.2.getD j 0)))
theorem nc9_ok : ∀ a, a < 4 → ∀ b, b < 4 → a ≠ b → Cond.not (.castable (ex9 a) (ex9 b)) ∈ fN9 := by decide +kernel
theorem ns9_ok : ∀ q ∈ nest9, Cond.methodLinkNest q.1 q.2.1 q.2.2 RX11 ∈ lw_tbl := by decide +kernel
theorem nsC_ok : ∀ q ∈ nestC, Cond.methodLinkNest q.1 q.2.1 q.2.2 RX11 ∈ lw_tbl := by decide +kernel
theorem sr9_ok : ∀ q ∈ strs9, Cond.stringRef q.1 q.2.1 q.2.2.1 ∈ lw_tbl := by decide +kernel
theorem cs9_ok : Cond.eq (.static "java/lang/String" "COMPACT_STRINGS" "Z") (.int 1) ∈ fN9 ∧ Cond.isRef (.static "jdk/internal/util/Preconditions" "SIOOBE_FORMATTER" "Ljava/util/function/BiFunction;") ∈ fN9 ∧ Cond.isRef (.static Bundle.tN "UNASSIGNED_STACK" Bundle.steD) ∈ fN9 ∧ Cond.isRef (.static Bundle.tN "SUPPRESSED_SENTINEL" Bundle.listD) ∈ fN9 := by decide +kernel
theorem ls9_ok : Cond.laysStatic "java/lang/String" "COMPACT_STRINGS" "Z" ∈ lw_tbl ∧ Cond.initialized "java/lang/String" ∈ lw_tbl ∧ Cond.laysStatic "jdk/internal/util/Preconditions" "SIOOBE_FORMATTER" "Ljava/util/function/BiFunction;" ∈ lw_tbl ∧ Cond.initialized "jdk/internal/util/Preconditions" ∈ lw_tbl ∧ Cond.laysStatic Bundle.tN "UNASSIGNED_STACK" Bundle.steD ∈ lw_tbl ∧ Cond.laysStatic Bundle.tN "SUPPRESSED_SENTINEL" Bundle.listD ∈ lw_tbl ∧ Cond.initialized Bundle.tN ∈ lw_tbl := by decide +kernel
theorem ar9_ok : Cond.arrayClass .int ∈ lw_tbl ∧ Cond.arrayClass .long ∈ lw_tbl ∧ Cond.arrayClass .char ∈ lw_tbl ∧ Cond.arrayClass .boolean ∈ lw_tbl ∧ Cond.arrayOver (.object "RedHands$Wall") ∈ lw_tbl := by decide +kernel
theorem sw9t_all : fN9.drop 75 = strs9.flatMap sw9t := by decide +kernel
theorem sw9t_ok : ∀ q ∈ strs9, ∀ w ∈ sw9t q, w ∈ fN9 := fun q hq w hw => List.mem_of_mem_drop (i := 75) (by rw [sw9t_all]; exact List.mem_flatMap.mpr ⟨q, hq, hw⟩)
