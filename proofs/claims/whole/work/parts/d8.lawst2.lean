/-! ===== the law's start: words of the tables ===== -/
def strRI : List Nat := [840, 893, 894, 895, 900, 901, 902, 903, 904, 905, 906, 907, 908, 913, 914, 915, 916, 1847, 1857, 1858, 1859, 1864, 1865, 1866, 1867, 1896, 1897, 1898, 1899, 1900, 1901, 1902, 1903, 1904]
set_option maxRecDepth 100000 in
theorem strR_at : ∀ i, i < 34 → lw_tbl[strRI.getD i 0]? = some (Cond.stringRef (strTb.getD i str0).1 (strTb.getD i str0).2.1 (strTb.getD i str0).2.2.1) := by decide +kernel
set_option maxRecDepth 100000 in
theorem strR_in : ∀ (i : Nat) (q : String × Nat × String × List Int32), strTb[i]? = some q → Cond.stringRef q.1 q.2.1 q.2.2.1 ∈ lw_tbl ∧ q.2.2.2.length < 2 ^ 31 := fun i q hq => by
  have hi : i < 34 := (List.getElem?_eq_some_iff.mp hq).1
  have e := strR_at i hi
  rw [List.getD_eq_getElem?_getD (l := strTb), hq] at e
  refine ⟨List.mem_of_getElem? e, ?_⟩
  have h : ∀ i, i < 34 → (strTb.getD i str0).2.2.2.length < 2 ^ 31 := by decide +kernel
  have e2 := h i hi
  rw [List.getD_eq_getElem?_getD, hq] at e2
  exact e2
def staLI : List Nat := [485, 487, 1109, 1111]
set_option maxRecDepth 100000 in
theorem staL_at : ∀ i, i < 4 → lw_tbl[staLI.getD i 0]? = some (Cond.laysStatic "LakeBreath" (staTb.getD i ("", [])).1 "[I") := by decide +kernel
set_option maxRecDepth 100000 in
theorem staL_in : ∀ (i : Nat) (q : String × List Int32), staTb[i]? = some q → Cond.laysStatic "LakeBreath" q.1 "[I" ∈ lw_tbl ∧ q.2.length < 2 ^ 31 := fun i q hq => by
  have hi : i < 4 := (List.getElem?_eq_some_iff.mp hq).1
  have e := staL_at i hi
  rw [List.getD_eq_getElem?_getD (l := staTb), hq] at e
  refine ⟨List.mem_of_getElem? e, ?_⟩
  have h : ∀ i, i < 4 → (staTb.getD i ("", [])).2.length < 2 ^ 31 := by decide +kernel
  have e2 := h i hi
  rw [List.getD_eq_getElem?_getD, hq] at e2
  exact e2
set_option maxRecDepth 100000 in
theorem lt_854 : Cond.laysStatic "java/lang/String" "COMPACT_STRINGS" "Z" ∈ lw_tbl := List.mem_of_getElem? (i := 854) (by decide +kernel)
set_option maxRecDepth 100000 in
theorem lt_870 : Cond.laysStatic "jdk/internal/util/Preconditions" "SIOOBE_FORMATTER" "Ljava/util/function/BiFunction;" ∈ lw_tbl := List.mem_of_getElem? (i := 870) (by decide +kernel)
set_option maxRecDepth 100000 in
theorem lt_1266 : Cond.laysStatic "java/lang/Throwable" "UNASSIGNED_STACK" "[Ljava/lang/StackTraceElement;" ∈ lw_tbl := List.mem_of_getElem? (i := 1266) (by decide +kernel)
set_option maxRecDepth 100000 in
theorem lt_1268 : Cond.laysStatic "java/lang/Throwable" "SUPPRESSED_SENTINEL" "Ljava/util/List;" ∈ lw_tbl := List.mem_of_getElem? (i := 1268) (by decide +kernel)
set_option maxRecDepth 100000 in
theorem lt_111 : Cond.initialized "LakeBreath" ∈ lw_tbl := List.mem_of_getElem? (i := 111) (by decide +kernel)
set_option maxRecDepth 100000 in
theorem lt_127 : Cond.initialized "java/lang/String" ∈ lw_tbl := List.mem_of_getElem? (i := 127) (by decide +kernel)
set_option maxRecDepth 100000 in
theorem lt_129 : Cond.initialized "jdk/internal/util/Preconditions" ∈ lw_tbl := List.mem_of_getElem? (i := 129) (by decide +kernel)
set_option maxRecDepth 100000 in
theorem lt_120 : Cond.initialized "java/lang/Throwable" ∈ lw_tbl := List.mem_of_getElem? (i := 120) (by decide +kernel)
def nestMI : List Nat := [213, 313, 349, 475, 559, 1125, 1808]
set_option maxRecDepth 100000 in
theorem nestM_at : nestM.map (fun q => some (Cond.methodLinkNest q.1 q.2.1 q.2.2.1 q.2.2.2)) = nestMI.map (fun i => lw_tbl[i]?) := by decide +kernel
set_option maxRecDepth 100000 in
theorem nestM_in : ∀ q ∈ nestM, Cond.methodLinkNest q.1 q.2.1 q.2.2.1 q.2.2.2 ∈ lw_tbl := fun q hq => by
  have h : some (Cond.methodLinkNest q.1 q.2.1 q.2.2.1 q.2.2.2) ∈ nestM.map (fun q => some (Cond.methodLinkNest q.1 q.2.1 q.2.2.1 q.2.2.2)) := List.mem_map.mpr ⟨q, hq, rfl⟩
  rw [nestM_at] at h
  obtain ⟨i, -, h2⟩ := List.mem_map.mp h
  exact List.mem_of_getElem? h2
def nestFI : List Nat := [1335, 1336, 1812, 1814, 1816, 1818]
set_option maxRecDepth 100000 in
theorem nestF_at : nestF.map (fun q => some (Cond.fieldLinkNest q.1 q.2.1 q.2.2.1 q.2.2.2.1 q.2.2.2.2.1 q.2.2.2.2.2)) = nestFI.map (fun i => lw_tbl[i]?) := by decide +kernel
set_option maxRecDepth 100000 in
theorem nestF_in : ∀ q ∈ nestF, Cond.fieldLinkNest q.1 q.2.1 q.2.2.1 q.2.2.2.1 q.2.2.2.2.1 q.2.2.2.2.2 ∈ lw_tbl := fun q hq => by
  have h : some (Cond.fieldLinkNest q.1 q.2.1 q.2.2.1 q.2.2.2.1 q.2.2.2.2.1 q.2.2.2.2.2) ∈ nestF.map (fun q => some (Cond.fieldLinkNest q.1 q.2.1 q.2.2.1 q.2.2.2.1 q.2.2.2.2.1 q.2.2.2.2.2)) := List.mem_map.mpr ⟨q, hq, rfl⟩
  rw [nestF_at] at h
  obtain ⟨i, -, h2⟩ := List.mem_map.mp h
  exact List.mem_of_getElem? h2
