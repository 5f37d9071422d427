/-! ===== the law's start: the words that the Statement gives ===== -/
abbrev gvC : Cond := Jvm.Cond.and given_1 narrow_1
def strT (q : String × Nat × String × List Int32) : Term := .string q.1 q.2.1
def strV (q : String × Nat × String × List Int32) : Term := .field (strT q) "java/lang/String" "value" "[B"
/-- the words of a string constant -/
def strW (q : String × Nat × String × List Int32) : List Cond := [.exactly (strT q) "java/lang/String", .eq (.field (strT q) "java/lang/String" "coder" "B") (.int 0), .arrayOf (strV q) .byte, .eq (.length (strV q)) (.int (Int32.ofNat q.2.2.2.length))] ++ (List.range q.2.2.2.length).map (fun j => .eq (.elem (strV q) (.int (Int32.ofNat j))) (.int (q.2.2.2.getD j 0)))
def strK : List Nat := [140, 149, 157, 165, 173, 181, 190, 197, 205, 213, 221, 229, 236, 246, 252, 259, 265, 272, 279, 287, 294, 302, 312, 321, 330, 339, 348, 358, 366, 375, 384, 393, 402, 410]
def str0 : String × Nat × String × List Int32 := ("", 0, "", [])
set_option maxRecDepth 100000 in
theorem strW_at : ∀ i, i < 34 → strW (strTb.getD i str0) = ((flatC gvC).drop (strK.getD i 0)).take (4 + (strTb.getD i str0).2.2.2.length) := by decide +kernel
def staT (q : String × List Int32) : Term := .static "LakeBreath" q.1 "[I"
def staW (q : String × List Int32) : List Cond := [.isRef (staT q), .arrayOf (staT q) .int, .eq (.length (staT q)) (.int (Int32.ofNat q.2.length))] ++ (List.range q.2.length).map (fun j => .eq (.elem (staT q) (.int (Int32.ofNat j))) (.int (q.2.getD j 0)))
def staK : List Nat := [4, 12, 25, 31]
set_option maxRecDepth 100000 in
theorem staW_at : ∀ i, i < 4 → staW (staTb.getD i ("", [])) = ((flatC gvC).drop (staK.getD i 0)).take (3 + (staTb.getD i ("", [])).2.length) := by decide +kernel
set_option maxRecDepth 100000 in
theorem strW_in : ∀ (i : Nat) (q : String × Nat × String × List Int32), strTb[i]? = some q → ∀ c ∈ strW q, c ∈ flatC gvC := fun i q hq c hc => by
  have hi : i < 34 := (List.getElem?_eq_some_iff.mp hq).1
  have e := strW_at i hi
  rw [List.getD_eq_getElem?_getD, hq] at e
  rw [show (some q).getD str0 = q from rfl] at e
  rw [e] at hc
  exact List.mem_of_mem_drop (List.mem_of_mem_take hc)
set_option maxRecDepth 100000 in
theorem staW_in : ∀ (i : Nat) (q : String × List Int32), staTb[i]? = some q → ∀ c ∈ staW q, c ∈ flatC gvC := fun i q hq c hc => by
  have hi : i < 4 := (List.getElem?_eq_some_iff.mp hq).1
  have e := staW_at i hi
  rw [List.getD_eq_getElem?_getD, hq] at e
  rw [show (some q).getD ("", []) = q from rfl] at e
  rw [e] at hc
  exact List.mem_of_mem_drop (List.mem_of_mem_take hc)
set_option maxRecDepth 100000 in
theorem gv_20 : Cond.eq (.static "java/lang/String" "COMPACT_STRINGS" "Z") (.int 1) ∈ flatC gvC := List.mem_of_getElem? (i := 20) (by decide +kernel)
set_option maxRecDepth 100000 in
theorem gv_21 : Cond.isRef (.static "jdk/internal/util/Preconditions" "SIOOBE_FORMATTER" "Ljava/util/function/BiFunction;") ∈ flatC gvC := List.mem_of_getElem? (i := 21) (by decide +kernel)
set_option maxRecDepth 100000 in
theorem gv_37 : Cond.isRef (.static "java/lang/Throwable" "UNASSIGNED_STACK" "[Ljava/lang/StackTraceElement;") ∈ flatC gvC := List.mem_of_getElem? (i := 37) (by decide +kernel)
set_option maxRecDepth 100000 in
theorem gv_38 : Cond.isRef (.static "java/lang/Throwable" "SUPPRESSED_SENTINEL" "Ljava/util/List;") ∈ flatC gvC := List.mem_of_getElem? (i := 38) (by decide +kernel)
