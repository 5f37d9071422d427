/-! ===== the class: numbers and texts of Lake's reads ===== -/
/-- an answer that is an int, the world as it was -/
abbrev rI (v : Int) (w : AW) : Option AV → AW → Prop := fun r w' => r = some (ai v) ∧ w' = w
abbrev rV (w : AW) : Option AV → AW → Prop := fun r w' => r = none ∧ w' = w
/-- a lake's cells: the object at 2 + L, its rows of gas, warmth, salt and pipes at 5 + L, 8 + L, 11 + L, 14 + L -/
def LK (w : AW) (L : Nat) : Prop := L < 3 ∧ w.1 (2 + L) = (102, 0) ∧ w.1 (5 + L) = (1, 10) ∧ w.1 (8 + L) = (1, 10) ∧ w.1 (11 + L) = (1, 10) ∧ w.1 (14 + L) = (203, 3) ∧
  w.2.2 (2 + L) 0 = some (5 + L) ∧ w.2.2 (2 + L) 1 = some (8 + L) ∧ w.2.2 (2 + L) 2 = some (11 + L) ∧ w.2.2 (2 + L) 3 = some (14 + L)
/-- what a lake's numbers keep to -/
def LN (w : AW) (L : Nat) : Prop := (∀ i : Nat, i < 10 → 0 ≤ w.2.1 (5 + L) i ∧ w.2.1 (5 + L) i ≤ 100000 ∧ 0 ≤ w.2.1 (8 + L) i ∧ w.2.1 (8 + L) i ≤ 400 ∧ 0 ≤ w.2.1 (11 + L) i ∧ w.2.1 (11 + L) i ≤ 1000) ∧
  1 ≤ w.2.1 (2 + L) 5 ∧ w.2.1 (2 + L) 5 ≤ 10000 ∧ 0 ≤ w.2.1 (2 + L) 6 ∧ w.2.1 (2 + L) 6 ≤ 20000 ∧ 0 ≤ w.2.1 (2 + L) 7 ∧ w.2.1 (2 + L) 7 ≤ 10000 ∧ 2 ≤ w.2.1 (2 + L) 8 ∧ w.2.1 (2 + L) 8 ≤ 1000 ∧ 0 ≤ w.2.1 (2 + L) 4 ∧ w.2.1 (2 + L) 4 ≤ 3
def weightF (g t s : Int) : Int := 4 * s - t + g / 50
def holdsF (step drop i : Int) : Int := max 0 (step * (i + 1) - drop)
def fullF (g h : Int) : Int := if g ≤ 0 then 0 else if h ≤ 0 then 999 else min 999 (g * 100 / h)
set_option maxRecDepth 100000 in
set_option maxHeartbeats 4000000 in
theorem c_X9_isWithin (l : Launch) (w : AW) (v a b : Int) (hv : R32 v) (ha : R32 a) (hb : R32 b) : HT l yX9_isWithin cX9_isWithin 3 (some .boolean) 1 0 0 w [ai v, ai a, ai b] (rI (if a ≤ v ∧ v ≤ b then 1 else 0) w) := by
  refine HT.of (by decide) (by intro v hv; simp only [List.mem_cons, List.not_mem_nil, or_false] at hv; rcases hv with rfl | rfl | rfl <;> rfl) (Nat.le_of_ble_eq_true rfl) ?_
  intro Γ h hQ hRm hnm hl hw0
  refine g_iload_n h dX9_isWithin_0 rfl ?_
  refine g_iload_n h dX9_isWithin_1 rfl ?_
  refine g_icmp_lt (tgt := 14) h dX9_isWithin_2 (by decide) (by first | assumption | exact ⟨by omega, by omega⟩) (by first | assumption | exact ⟨by omega, by omega⟩) (fun c2 => ?_) (fun c2 => ?_)
  · refine g_iconst h dX9_isWithin_14 ?_
    refine g_zret h hQ (by decide) (by decide) (by omega) ?_ dX9_isWithin_15
    exact ⟨by first | rw [if_pos (by omega)] | rw [if_neg (by omega)], rfl⟩
  · refine g_iload_n h dX9_isWithin_5 rfl ?_
    refine g_iload_n h dX9_isWithin_6 rfl ?_
    refine g_icmp_gt (tgt := 14) h dX9_isWithin_7 (by decide) (by first | assumption | exact ⟨by omega, by omega⟩) (by first | assumption | exact ⟨by omega, by omega⟩) (fun c7 => ?_) (fun c7 => ?_)
    · refine g_iconst h dX9_isWithin_14 ?_
      refine g_zret h hQ (by decide) (by decide) (by omega) ?_ dX9_isWithin_15
      exact ⟨by first | rw [if_pos (by omega)] | rw [if_neg (by omega)], rfl⟩
    · refine g_iconst h dX9_isWithin_10 ?_
      refine g_goto (tgt := 15) h dX9_isWithin_11 (by decide) ?_
      refine g_zret h hQ (by decide) (by decide) (by omega) ?_ dX9_isWithin_15
      exact ⟨by first | rw [if_pos (by omega)] | rw [if_neg (by omega)], rfl⟩
set_option maxRecDepth 100000 in
set_option maxHeartbeats 4000000 in
theorem c_X9_isLayer (l : Launch) (w : AW) (v : Int) (hv : R32 v) : HT l yX9_isLayer cX9_isLayer 1 (some .boolean) 1 0 0 w [ai v] (rI (if 0 ≤ v ∧ v < 10 then 1 else 0) w) := by
  refine HT.of (by decide) (by intro v hv; simp only [List.mem_cons, List.not_mem_nil, or_false] at hv; rcases hv with rfl <;> rfl) (Nat.le_of_ble_eq_true rfl) ?_
  intro Γ h hQ hRm hnm hl hw0
  refine g_iload_n h dX9_isLayer_0 rfl ?_
  refine g_if_lt (tgt := 14) h dX9_isLayer_1 (by decide) (by first | assumption | exact ⟨by omega, by omega⟩) (fun c1 => ?_) (fun c1 => ?_)
  · refine g_iconst h dX9_isLayer_14 ?_
    refine g_zret h hQ (by decide) (by decide) (by omega) ?_ dX9_isLayer_15
    exact ⟨by first | rw [if_pos (by omega)] | rw [if_neg (by omega)], rfl⟩
  · refine g_iload_n h dX9_isLayer_4 rfl ?_
    refine g_bipush h dX9_isLayer_5 rfl ?_
    refine g_icmp_ge (tgt := 14) h dX9_isLayer_7 (by decide) (by first | assumption | exact ⟨by omega, by omega⟩) (by first | assumption | exact ⟨by omega, by omega⟩) (fun c7 => ?_) (fun c7 => ?_)
    · refine g_iconst h dX9_isLayer_14 ?_
      refine g_zret h hQ (by decide) (by decide) (by omega) ?_ dX9_isLayer_15
      exact ⟨by first | rw [if_pos (by omega)] | rw [if_neg (by omega)], rfl⟩
    · refine g_iconst h dX9_isLayer_10 ?_
      refine g_goto (tgt := 15) h dX9_isLayer_11 (by decide) ?_
      refine g_zret h hQ (by decide) (by decide) (by omega) ?_ dX9_isLayer_15
      exact ⟨by first | rw [if_pos (by omega)] | rw [if_neg (by omega)], rfl⟩
set_option maxRecDepth 100000 in
set_option maxHeartbeats 4000000 in
theorem c_X9_isCell (l : Launch) (w : AW) (v : Int) (hv : R32 v) : HT l yX9_isCell cX9_isCell 1 (some .boolean) 1 0 0 w [ai v] (rI (if 0 ≤ v ∧ v < 400 then 1 else 0) w) := by
  refine HT.of (by decide) (by intro v hv; simp only [List.mem_cons, List.not_mem_nil, or_false] at hv; rcases hv with rfl <;> rfl) (Nat.le_of_ble_eq_true rfl) ?_
  intro Γ h hQ hRm hnm hl hw0
  refine g_iload_n h dX9_isCell_0 rfl ?_
  refine g_if_lt (tgt := 15) h dX9_isCell_1 (by decide) (by first | assumption | exact ⟨by omega, by omega⟩) (fun c1 => ?_) (fun c1 => ?_)
  · refine g_iconst h dX9_isCell_15 ?_
    refine g_zret h hQ (by decide) (by decide) (by omega) ?_ dX9_isCell_16
    exact ⟨by first | rw [if_pos (by omega)] | rw [if_neg (by omega)], rfl⟩
  · refine g_iload_n h dX9_isCell_4 rfl ?_
    refine g_sipush h dX9_isCell_5 rfl ?_
    refine g_icmp_ge (tgt := 15) h dX9_isCell_8 (by decide) (by first | assumption | exact ⟨by omega, by omega⟩) (by first | assumption | exact ⟨by omega, by omega⟩) (fun c8 => ?_) (fun c8 => ?_)
    · refine g_iconst h dX9_isCell_15 ?_
      refine g_zret h hQ (by decide) (by decide) (by omega) ?_ dX9_isCell_16
      exact ⟨by first | rw [if_pos (by omega)] | rw [if_neg (by omega)], rfl⟩
    · refine g_iconst h dX9_isCell_11 ?_
      refine g_goto (tgt := 16) h dX9_isCell_12 (by decide) ?_
      refine g_zret h hQ (by decide) (by decide) (by omega) ?_ dX9_isCell_16
      exact ⟨by first | rw [if_pos (by omega)] | rw [if_neg (by omega)], rfl⟩
set_option maxRecDepth 100000 in
set_option maxHeartbeats 4000000 in
theorem c_X9_stringOf (l : Launch) (w : AW) (a b : Int)  : HT l yX9_stringOf cX9_stringOf 2 (some .int) 1 0 0 w [ai a, ai b] (rI (a * 10 + b) w) := by
  refine HT.of (by decide) (by intro v hv; simp only [List.mem_cons, List.not_mem_nil, or_false] at hv; rcases hv with rfl | rfl <;> rfl) (Nat.le_of_ble_eq_true rfl) ?_
  intro Γ h hQ hRm hnm hl hw0
  refine g_iload_n h dX9_stringOf_0 rfl ?_
  refine g_bipush h dX9_stringOf_1 rfl ?_
  refine g_imul h dX9_stringOf_3 ?_
  refine g_iload_n h dX9_stringOf_4 rfl ?_
  refine g_iadd h dX9_stringOf_5 ?_
  refine g_iret h hQ (by decide) (by decide) ?_ dX9_stringOf_6
  first | exact ⟨rfl, rfl⟩ | (exfalso; omega)
set_option maxRecDepth 100000 in
set_option maxHeartbeats 4000000 in
theorem c_X2_weightOf (l : Launch) (w : AW) (L i : Nat) (hK : LK w L) (hN : LN w L) (hi : i < 10) : HT l yX2_weightOf cX2_weightOf 2 (some .int) 1 0 0 w [ar (2 + L), ai (i : Int)] (rI (weightF (w.2.1 (5 + L) i) (w.2.1 (8 + L) i) (w.2.1 (11 + L) i)) w) := by
  refine HT.of (by decide) (by intro v hv; simp only [List.mem_cons, List.not_mem_nil, or_false] at hv; rcases hv with rfl | rfl <;> rfl) (Nat.le_of_ble_eq_true rfl) ?_
  intro Γ h hQ hRm hnm hl hw0
  obtain ⟨hL3, k2, k5, k8, k11, k14, p0, p1, p2, p3⟩ := hK
  have hr := hN.1 i hi
  refine g_iload_n h dX2_weightOf_0 rfl ?_
  refine g_if_lt (tgt := 10) h dX2_weightOf_1 (by decide) (by first | assumption | exact ⟨by omega, by omega⟩) (fun c1 => ?_) (fun c1 => ?_)
  · refine g_iconst h dX2_weightOf_10 ?_
    refine g_iret h hQ (by decide) (by decide) ?_ dX2_weightOf_11
    first | exact ⟨rfl, rfl⟩ | (exfalso; omega)
  · refine g_iload_n h dX2_weightOf_4 rfl ?_
    refine g_bipush h dX2_weightOf_5 rfl ?_
    refine g_icmp_lt (tgt := 12) h dX2_weightOf_7 (by decide) (by first | assumption | exact ⟨by omega, by omega⟩) (by first | assumption | exact ⟨by omega, by omega⟩) (fun c7 => ?_) (fun c7 => ?_)
    · refine g_iconst h dX2_weightOf_12 ?_
      refine g_aload_n h dX2_weightOf_13 rfl ?_
      refine g_getQ h flX2_18 rfl (by assumption) (by assumption) dX2_weightOf_14 ?_
      refine g_iload_n h dX2_weightOf_17 rfl ?_
      refine g_iald h _ (by assumption) rfl (by omega) (by decide) dX2_weightOf_18 ?_
      refine g_imul h dX2_weightOf_19 ?_
      refine g_aload_n h dX2_weightOf_20 rfl ?_
      refine g_getQ h flX2_15 rfl (by assumption) (by assumption) dX2_weightOf_21 ?_
      refine g_iload_n h dX2_weightOf_24 rfl ?_
      refine g_iald h _ (by assumption) rfl (by omega) (by decide) dX2_weightOf_25 ?_
      refine g_isub h dX2_weightOf_26 ?_
      refine g_aload_n h dX2_weightOf_27 rfl ?_
      refine g_getQ h flX2_9 rfl (by assumption) (by assumption) dX2_weightOf_28 ?_
      refine g_iload_n h dX2_weightOf_31 rfl ?_
      refine g_iald h _ (by assumption) rfl (by omega) (by decide) dX2_weightOf_32 ?_
      refine g_bipush h dX2_weightOf_33 rfl ?_
      refine g_idiv h (by first | assumption | exact ⟨by omega, by omega⟩) (by first | assumption | exact ⟨by omega, by omega⟩) (by omega) (by omega) dX2_weightOf_35 ?_
      refine g_iadd h dX2_weightOf_36 ?_
      refine g_iret h hQ (by decide) (by decide) ?_ dX2_weightOf_37
      first | exact ⟨rfl, rfl⟩ | (exfalso; omega)
    · refine g_iconst h dX2_weightOf_10 ?_
      refine g_iret h hQ (by decide) (by decide) ?_ dX2_weightOf_11
      first | exact ⟨rfl, rfl⟩ | (exfalso; omega)
