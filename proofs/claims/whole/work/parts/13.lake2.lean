/-! ===== Lake's reads ===== -/
theorem mul_bd {a b x y : Int} (ha : 0 ≤ a) (hx : a ≤ x) (hb : 0 ≤ b) (hy : b ≤ y) : 0 ≤ a * b ∧ a * b ≤ x * y := ⟨Int.mul_nonneg ha hb, Int.mul_le_mul hx hy hb (by omega)⟩
theorem div_bd {a b : Int} (ha : 0 ≤ a) (hb : 0 < b) : 0 ≤ a / b ∧ a / b ≤ a := ⟨Int.ediv_nonneg ha (by omega), Int.ediv_le_self b ha⟩
set_option maxRecDepth 100000 in
set_option maxHeartbeats 4000000 in
theorem c_X2_holdsOf (l : Launch) (w : AW) (L i : Nat) (hK : LK w L) (hN : LN w L) (hi : i < 10) : HT l yX2_holdsOf cX2_holdsOf 2 (some .int) 2 0 0 w [ar (2 + L), ai (i : Int)] (rI (holdsF (w.2.1 (2 + L) 5) (w.2.1 (2 + L) 6) i) w) := by
  refine HT.of (by decide) (by intro v hv; simp only [List.mem_cons, List.not_mem_nil, or_false] at hv; rcases hv with rfl | rfl <;> rfl) (Nat.le_of_ble_eq_true rfl) ?_
  intro Γ h hQ hRm hnm hl hw0
  obtain ⟨hL3, k2, k5, k8, k11, k14, p0, p1, p2, p3⟩ := id hK
  obtain ⟨-, n5, n5', n6, n6', -⟩ := id hN
  have hm := mul_bd (a := w.2.1 (2 + L) 5) (b := (i : Int) + 1) (x := 10000) (y := 10) (by omega) (by omega) (by omega) (by omega)
  refine g_iconst h dX2_holdsOf_0 ?_
  refine g_aload_n h dX2_holdsOf_1 rfl ?_
  refine g_getI h flX2_27 rfl (by assumption) dX2_holdsOf_2 ?_
  refine g_iload_n h dX2_holdsOf_5 rfl ?_
  refine g_iconst h dX2_holdsOf_6 ?_
  refine g_iadd h dX2_holdsOf_7 ?_
  refine g_imul h dX2_holdsOf_8 ?_
  refine g_aload_n h dX2_holdsOf_9 rfl ?_
  refine g_getI h flX2_44 rfl (by assumption) dX2_holdsOf_10 ?_
  refine g_isub h dX2_holdsOf_13 ?_
  refine g_max h rfl mmaxX2_50 (by first | assumption | exact ⟨by omega, by omega⟩) (by first | assumption | exact ⟨by omega, by omega⟩) (by rw [hRm]; decide) (by rw [hRm]; decide) (fun _ => Nat.le_of_ble_eq_true rfl) (by rw [hRm]; decide) (by rw [hRm]; decide) dX2_holdsOf_14 ?_
  refine g_iret h hQ (by decide) (by decide) ?_ dX2_holdsOf_17
  first | exact ⟨rfl, rfl⟩ | (exfalso; omega)
theorem fullF_bd (g h : Int) (hg : g ≤ 100000) : 0 ≤ fullF g h ∧ fullF g h ≤ 999 := by
  unfold fullF
  split
  · omega
  · split
    · omega
    · have := div_bd (a := g * 100) (b := h) (by omega) (by omega)
      omega
set_option maxRecDepth 100000 in
set_option maxHeartbeats 4000000 in
theorem c_X9_fullBy (l : Launch) (w : AW) (a b : Int) (ha : a ≤ 100000) (ha2 : R32 a) (hb : R32 b) : HT l yX9_fullBy cX9_fullBy 2 (some .int) 2 0 0 w [ai a, ai b] (rI (fullF a b) w) := by
  refine HT.of (by decide) (by intro v hv; simp only [List.mem_cons, List.not_mem_nil, or_false] at hv; rcases hv with rfl | rfl <;> rfl) (Nat.le_of_ble_eq_true rfl) ?_
  intro Γ h hQ hRm hnm hl hw0
  refine g_iload_n h dX9_fullBy_0 rfl ?_
  refine g_if_gt (tgt := 6) h dX9_fullBy_1 (by decide) (by first | assumption | exact ⟨by omega, by omega⟩) (fun c1 => ?_) (fun c1 => ?_)
  · refine g_iload_n h dX9_fullBy_6 rfl ?_
    refine g_if_gt (tgt := 16) h dX9_fullBy_7 (by decide) (by first | assumption | exact ⟨by omega, by omega⟩) (fun c7 => ?_) (fun c7 => ?_)
    · refine g_sipush h dX9_fullBy_16 rfl ?_
      refine g_iload_n h dX9_fullBy_19 rfl ?_
      refine g_bipush h dX9_fullBy_20 rfl ?_
      refine g_imul h dX9_fullBy_22 ?_
      refine g_iload_n h dX9_fullBy_23 rfl ?_
      refine g_idiv h (by first | assumption | exact ⟨by omega, by omega⟩) (by first | assumption | exact ⟨by omega, by omega⟩) (by omega) (by omega) dX9_fullBy_24 ?_
      have hdv := div_bd (a := a * 100) (b := b) (by omega) (by omega)
      refine g_min h rfl mminX9_369 (by first | assumption | exact ⟨by omega, by omega⟩) (by first | assumption | exact ⟨by omega, by omega⟩) (by rw [hRm]; decide) (by rw [hRm]; decide) (fun _ => Nat.le_of_ble_eq_true rfl) (by rw [hRm]; decide) (by rw [hRm]; decide) dX9_fullBy_25 ?_
      refine g_iret h hQ (by decide) (by decide) ?_ dX9_fullBy_28
      first | exact ⟨by unfold fullF; rw [if_neg (by omega), if_pos (by omega)], rfl⟩ | exact ⟨by unfold fullF; rw [if_neg (by omega), if_neg (by omega)], rfl⟩
    · refine g_sipush h dX9_fullBy_10 rfl ?_
      refine g_goto (tgt := 28) h dX9_fullBy_13 (by decide) ?_
      refine g_iret h hQ (by decide) (by decide) ?_ dX9_fullBy_28
      first | exact ⟨by unfold fullF; rw [if_neg (by omega), if_pos (by omega)], rfl⟩ | exact ⟨by unfold fullF; rw [if_neg (by omega), if_neg (by omega)], rfl⟩
  · refine g_iconst h dX9_fullBy_4 ?_
    refine g_iret h hQ (by decide) (by decide) ?_ dX9_fullBy_5
    exact ⟨by unfold fullF; rw [if_pos (by omega)], rfl⟩
/-- the fullest of the first n layers -/
def fullestF (g : Nat → Int) (step drop : Int) : Nat → Int
  | 0 => 0
  | n + 1 => max (fullestF g step drop n) (fullF (g n) (holdsF step drop n))
theorem holdsF_bd {step drop : Int} {i : Nat} (h1 : 1 ≤ step) (h2 : step ≤ 10000) (h3 : 0 ≤ drop) (h4 : drop ≤ 20000) (hi : i < 10) : 0 ≤ holdsF step drop i ∧ holdsF step drop i ≤ 100000 := by
  have hm := mul_bd (a := step) (b := (i : Int) + 1) (x := 10000) (y := 10) (by omega) (by omega) (by omega) (by omega)
  unfold holdsF
  omega
theorem fullestF_bd {g : Nat → Int} {step drop : Int} (hg : ∀ i, i < 10 → g i ≤ 100000) : ∀ n, n ≤ 10 → 0 ≤ fullestF g step drop n ∧ fullestF g step drop n ≤ 999
  | 0, _ => by unfold fullestF; omega
  | n + 1, h => by
    have := fullestF_bd (step := step) (drop := drop) hg n (by omega)
    have h2 := fullF_bd (g n) (holdsF step drop n) (hg n (by omega))
    unfold fullestF
    omega
set_option maxRecDepth 100000 in
set_option maxHeartbeats 4000000 in
theorem c_X2_fullest (l : Launch) (w : AW) (L : Nat) (hK : LK w L) (hN : LN w L) : HT l yX2_fullest cX2_fullest 3 (some .int) 3 0 0 w [ar (2 + L)] (rI (fullestF (w.2.1 (5 + L)) (w.2.1 (2 + L) 5) (w.2.1 (2 + L) 6) 10) w) := by
  refine HT.of (by decide) (by intro v hv; simp only [List.mem_cons, List.not_mem_nil, or_false] at hv; rcases hv with rfl <;> rfl) (Nat.le_of_ble_eq_true rfl) ?_
  intro Γ h hQ hRm hnm hl hw0
  obtain ⟨hL3, k2, k5, k8, k11, k14, p0, p1, p2, p3⟩ := id hK
  obtain ⟨hrow, n5, n5', n6, n6', -⟩ := id hN
  have hg : ∀ i, i < 10 → w.2.1 (5 + L) i ≤ 100000 := fun i hi => (hrow i hi).2.1
  have loop : ∀ (n i : Nat), i + n = 10 → GG Γ 4 [some (ar (2 + L)), some (ai (fullestF (w.2.1 (5 + L)) (w.2.1 (2 + L) 5) (w.2.1 (2 + L) 6) i)), some (ai (i : Int))] [] w 0 0 := by
    intro n
    induction n with
    | zero =>
      intro i hi
      obtain rfl : i = 10 := by omega
      refine g_iload_n h dX2_fullest_4 rfl ?_
      refine g_bipush h dX2_fullest_5 rfl ?_
      refine g_icmp_ge (tgt := 35) h dX2_fullest_7 (by decide) (by first | assumption | exact ⟨by omega, by omega⟩) (by first | assumption | exact ⟨by omega, by omega⟩) (fun c7 => ?_) (fun c7 => ?_)
      · refine g_iload_n h dX2_fullest_35 rfl ?_
        refine g_iret h hQ (by decide) (by decide) ?_ dX2_fullest_36
        first | exact ⟨rfl, rfl⟩ | (exfalso; omega)
      · exfalso; omega
    | succ n ih =>
      intro i hi
      refine g_iload_n h dX2_fullest_4 rfl ?_
      refine g_bipush h dX2_fullest_5 rfl ?_
      refine g_icmp_ge (tgt := 35) h dX2_fullest_7 (by decide) (by first | assumption | exact ⟨by omega, by omega⟩) (by first | assumption | exact ⟨by omega, by omega⟩) (fun c7 => ?_) (fun c7 => ?_)
      · exfalso; omega
      · have hfb := fullestF_bd (step := w.2.1 (2 + L) 5) (drop := w.2.1 (2 + L) 6) hg i (by omega)
        have hhb := holdsF_bd n5 n5' n6 n6' (show i < 10 by omega)
        have hgb := hrow i (by omega)
        have hff := fullF_bd (w.2.1 (5 + L) i) (holdsF (w.2.1 (2 + L) 5) (w.2.1 (2 + L) 6) i) hgb.2.1
        refine g_iload_n h dX2_fullest_10 rfl ?_
        refine g_aload_n h dX2_fullest_11 rfl ?_
        refine g_getQ h flX2_9 rfl (by assumption) (by assumption) dX2_fullest_12 ?_
        refine g_iload_n h dX2_fullest_15 rfl ?_
        refine g_iald h _ (by assumption) rfl (by omega) (by decide) dX2_fullest_16 ?_
        refine g_aload_n h dX2_fullest_17 rfl ?_
        refine g_iload_n h dX2_fullest_18 rfl ?_
        refine g_callV h rfl (ci := 2) [_] (by assumption) (c_X2_holdsOf _ _ L i hK hN (by omega)) clX2_56 (by decide) rfl in_X2_holdsOf se_X2_holdsOf rfl rfl (by rw [hRm]; decide) (by rw [hRm]; decide) (fun _ => Nat.le_of_ble_eq_true rfl) (by rw [hRm]; decide) (by rw [hRm]; decide) dX2_fullest_19 (fun r19 w19 hp19 => ?_)
        obtain ⟨rfl, rfl⟩ := hp19
        refine g_callSN h rfl [_, _] (c_X9_fullBy _ _ _ _ hgb.2.1 ⟨by omega, by omega⟩ ⟨by omega, by omega⟩) clX2_60 st_X9_fullBy rfl rfl (by rw [hRm]; decide) (by rw [hRm]; decide) (fun _ => Nat.le_of_ble_eq_true rfl) (by rw [hRm]; decide) (by rw [hRm]; decide) dX2_fullest_22 (fun r22 w22 hp22 => ?_)
        obtain ⟨rfl, rfl⟩ := hp22
        refine g_max h rfl mmaxX2_50 (by first | assumption | exact ⟨by omega, by omega⟩) (by first | assumption | exact ⟨by omega, by omega⟩) (by rw [hRm]; decide) (by rw [hRm]; decide) (fun _ => Nat.le_of_ble_eq_true rfl) (by rw [hRm]; decide) (by rw [hRm]; decide) dX2_fullest_25 ?_
        refine g_istore_n h dX2_fullest_28 (Nat.le_of_ble_eq_true rfl) rfl rfl ?_
        refine g_iinc h dX2_fullest_29 rfl (Nat.le_of_ble_eq_true rfl) rfl rfl ?_
        refine g_goto (tgt := 4) h dX2_fullest_32 (by decide) ?_
        exact ih (i + 1) (by omega)
  refine g_iconst h dX2_fullest_0 ?_
  refine g_istore_n h dX2_fullest_1 (Nat.le_of_ble_eq_true rfl) rfl rfl ?_
  refine g_iconst h dX2_fullest_2 ?_
  refine g_istore_n h dX2_fullest_3 (Nat.le_of_ble_eq_true rfl) rfl rfl ?_
  exact loop 10 0 (by omega)
