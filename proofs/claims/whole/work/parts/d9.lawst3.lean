/-! ===== the law's start: what the words give ===== -/
section LST
variable {args : Array Value} {s : State}
theorem str_has (gv : gvC.before args s = true) (hts : ∀ w ∈ lw_tbl, w.before args s = true) (i : Nat) (q : String × Nat × String × List Int32) (hq : strTb[i]? = some q) : ∃ a v : Nat, vk_R q.1 q.2.1 q.2.2.1 a s ∧ va_O "java/lang/String" a (fun j => s.heap.size ≤ j) s s.heap ∧ va_OF "java/lang/String" "coder" "B" (.int 0) a (fun j => s.heap.size ≤ j) s s.heap ∧ va_OF "java/lang/String" "value" "[B" (.ref v) a (fun j => s.heap.size ≤ j) s s.heap ∧ va_T .byte v q.2.2.2.length (fun j => .int (q.2.2.2.getD j 0)) (fun j => s.heap.size ≤ j) s s.heap := by
  have hA : ∀ a : Nat, a < s.heap.size → ¬ (fun j => s.heap.size ≤ j) a := fun a h1 h2 => Nat.not_le.mpr h1 h2
  have w : ∀ c ∈ strW q, c.before args s = true := fun c hc => flat_of_before _ gv c (strW_in i q hq c hc)
  have hex : (Cond.exactly (strT q) "java/lang/String").before args s = true := w _ (List.mem_append_left _ List.mem_cons_self)
  have hco : (Cond.eq (.field (strT q) "java/lang/String" "coder" "B") (.int 0)).before args s = true := w _ (List.mem_append_left _ (List.mem_cons_of_mem _ List.mem_cons_self))
  have har : (Cond.arrayOf (strV q) .byte).before args s = true := w _ (List.mem_append_left _ (List.mem_cons_of_mem _ (List.mem_cons_of_mem _ List.mem_cons_self)))
  have hle : (Cond.eq (.length (strV q)) (.int (Int32.ofNat q.2.2.2.length))).before args s = true := w _ (List.mem_append_left _ (List.mem_cons_of_mem _ (List.mem_cons_of_mem _ (List.mem_cons_of_mem _ List.mem_cons_self))))
  have hel : ∀ j, j < q.2.2.2.length → (Cond.eq (.elem (strV q) (.int (Int32.ofNat j))) (.int (q.2.2.2.getD j 0))).before args s = true := fun j hj => w _ (List.mem_append_right _ (List.mem_map.mpr ⟨j, List.mem_range.mpr hj, rfl⟩))
  obtain ⟨hR, hN⟩ := strR_in i q hq
  obtain ⟨a, c, cA, kA, q1, q2, q3, q4, q5, q6, -⟩ := Cond.exactly_spec (args := args) (first := s) (o := none) (s := s) (idx := []) (t := strT q) (cls := "java/lang/String") hex
  obtain ⟨t, ht, hT⟩ := va_Tof (f := fun j => .int (q.2.2.2.getD j 0)) (A := fun j => s.heap.size ≤ j) hN har (va_eqt hle) (fun j hj => va_eqt (hel j hj)) hA
  exact ⟨a, t, vk_R.of (hts _ hR) q1, ⟨cA, q3, q5, by rw [q6]; exact q2, hA a (Array.getElem?_eq_some_iff.mp q3).1⟩, vk_OFof q1 (va_eqt hco) hA, vk_OFof q1 ht hA, hT⟩
theorem sta_has (gv : gvC.before args s = true) (hts : ∀ w ∈ lw_tbl, w.before args s = true) (i : Nat) (q : String × List Int32) (hq : staTb[i]? = some q) : ∃ t : Nat, va_Z "LakeBreath" q.1 "[I" (.ref t) (fun j => s.heap.size ≤ j) s s.heap ∧ va_T .int t q.2.length (fun j => .int (q.2.getD j 0)) (fun j => s.heap.size ≤ j) s s.heap := by
  have hA : ∀ a : Nat, a < s.heap.size → ¬ (fun j => s.heap.size ≤ j) a := fun a h1 h2 => Nat.not_le.mpr h1 h2
  have w : ∀ c ∈ staW q, c.before args s = true := fun c hc => flat_of_before _ gv c (staW_in i q hq c hc)
  have har : (Cond.arrayOf (staT q) .int).before args s = true := w _ (List.mem_append_left _ (List.mem_cons_of_mem _ List.mem_cons_self))
  have hle : (Cond.eq (.length (staT q)) (.int (Int32.ofNat q.2.length))).before args s = true := w _ (List.mem_append_left _ (List.mem_cons_of_mem _ (List.mem_cons_of_mem _ List.mem_cons_self)))
  have hel : ∀ j, j < q.2.length → (Cond.eq (.elem (staT q) (.int (Int32.ofNat j))) (.int (q.2.getD j 0))).before args s = true := fun j hj => w _ (List.mem_append_right _ (List.mem_map.mpr ⟨j, List.mem_range.mpr hj, rfl⟩))
  obtain ⟨hR, hN⟩ := staL_in i q hq
  obtain ⟨t, ht, hT⟩ := va_Tof (f := fun j => .int (q.2.getD j 0)) (A := fun j => s.heap.size ≤ j) hN har (va_eqt hle) (fun j hj => va_eqt (hel j hj)) hA
  exact ⟨t, va_Zref (hts _ hR) (hts _ lt_111) ht hA, hT⟩
/-- null, or a reference -/
theorem thr_has {C n d : String} {A : Nat → Prop} {U : State} {H : Heap} (h : va_Zq C n d A U H) (k : Nat) : ∃ t : Nat, ∀ fo : Nat → Nat, fo k = t → ∃ r : Option Nat, (r = none ∨ r = some k) ∧ va_Z C n d (cv fo (aq r)) A U H := by
  rcases h with h | ⟨t, h⟩
  · exact ⟨0, fun fo _ => ⟨none, Or.inl rfl, h⟩⟩
  · refine ⟨t, fun fo e => ⟨some k, Or.inr rfl, ?_⟩⟩
    show va_Z C n d (.ref (fo k)) A U H
    rw [e]
    exact h
theorem kn_has (hts : ∀ w ∈ gw_tbl, w.before args s = true) (c : Nat) : ∃ q : ClassId × (Nat → Nat), c < 13 → u_Kn s (clN c) (clF c) (clS c) q.1 q.2 := by
  have f : ∀ {c : Nat}, (∀ w ∈ u_ws (clN c) (clF c) (clS c), w ∈ gw_tbl) → Cond.instantiable (clN c) (clS c) ∈ gw_tbl → ∃ q : ClassId × (Nat → Nat), c < 13 → u_Kn s (clN c) (clF c) (clS c) q.1 q.2 := fun {c} h1 h2 => by
    obtain ⟨cC, iS, h⟩ := u_known hts h1 (hts _ h2)
    exact ⟨(cC, iS), fun _ => h⟩
  by_cases hc : c < 13
  · rcases (show c = 0 ∨ c = 1 ∨ c = 2 ∨ c = 3 ∨ c = 4 ∨ c = 5 ∨ c = 6 ∨ c = 7 ∨ c = 8 ∨ c = 9 ∨ c = 10 ∨ c = 11 ∨ c = 12 by omega) with rfl | rfl | rfl | rfl | rfl | rfl | rfl | rfl | rfl | rfl | rfl | rfl | rfl
    · exact f wsin_0 ins_0
    · exact f wsin_1 ins_1
    · exact f wsin_2 ins_2
    · exact f wsin_3 ins_3
    · exact f wsin_4 ins_4
    · exact f wsin_5 ins_5
    · exact f wsin_6 ins_6
    · exact f wsin_7 ins_7
    · exact f wsin_8 ins_8
    · exact f wsin_9 ins_9
    · exact f wsin_10 ins_10
    · exact f wsin_11 ins_11
    · exact f wsin_12 ins_12
  · exact ⟨(0, fun _ => 0), fun h => absurd h hc⟩
theorem arr_has (hts : ∀ w ∈ lw_tbl, w.before args s = true) (hgs : ∀ w ∈ gw_tbl, w.before args s = true) (k : Nat) : ∃ cA : ClassId, arK k → ArrOfT s cA (arT k) ∧ va_RA s cA (arT k) := by
  have p : ∀ {C : String}, Cond.arrayOver (.object C) ∈ lw_tbl → ∃ cA : ClassId, ArrOfT s cA (.object C) ∧ va_RA s cA (.object C) := fun {C} h => by
    obtain ⟨comp, c, k, h1, -, h3, h4, h5⟩ := Cond.arrayOver_spec (hts _ h)
    exact ⟨c, fun n z => ⟨(fun k h => by cases h), k, h3, comp, h4⟩, k, comp, h3, h4, h1, h5⟩
  by_cases hk : arK k
  · unfold arK at hk
    rcases hk with rfl | rfl | rfl | rfl | rfl | rfl | rfl | rfl | rfl
    · obtain ⟨c, k, comp, h1, h2, h3⟩ := Cond.arrayClass_spec (hgs _ arc_int)
      exact ⟨c, fun _ => ⟨fun n z => ⟨(fun k h => by cases h), k, h2, comp, h3⟩, h1⟩⟩
    · obtain ⟨c, k, comp, h1, h2, h3⟩ := Cond.arrayClass_spec (hgs _ arc_byte)
      exact ⟨c, fun _ => ⟨fun n z => ⟨(fun k h => by cases h), k, h2, comp, h3⟩, h1⟩⟩
    · obtain ⟨c, k, comp, h1, h2, h3⟩ := Cond.arrayClass_spec (hgs _ arc_boolean)
      exact ⟨c, fun _ => ⟨fun n z => ⟨(fun k h => by cases h), k, h2, comp, h3⟩, h1⟩⟩
    · obtain ⟨c, k, comp, h1, h2, h3⟩ := Cond.arrayClass_spec (hgs _ arc_long)
      exact ⟨c, fun _ => ⟨fun n z => ⟨(fun k h => by cases h), k, h2, comp, h3⟩, h1⟩⟩
    · obtain ⟨cA, h⟩ := p ao_2
      exact ⟨cA, fun _ => h⟩
    · obtain ⟨cA, h⟩ := p ao_3
      exact ⟨cA, fun _ => h⟩
    · obtain ⟨cA, h⟩ := p ao_4
      exact ⟨cA, fun _ => h⟩
    · obtain ⟨cA, h⟩ := p ao_8
      exact ⟨cA, fun _ => h⟩
    · obtain ⟨cA, h⟩ := p ao_10
      exact ⟨cA, fun _ => h⟩
  · exact ⟨0, fun h => absurd h hk⟩
end LST
