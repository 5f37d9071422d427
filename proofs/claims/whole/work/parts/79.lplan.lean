/-! ===== the law's helper: the plan told, or its exception caught ===== -/
theorem nse_kL : Cond.classLink "LakeBreathLaw" 13 nse ∈ gw_tbl := gw_in (by decide +kernel) (by decide +kernel)
theorem nse_c : Cond.castable nse nse ∈ lw_tbl := by decide +kernel
set_option maxRecDepth 100000 in
set_option maxHeartbeats 4000000 in
theorem c_L_planned (l : Launch) (w : AW) (i : Int) (P : Nat) (hst : l.stackTraces = false) (hX : XS w) (hi : R32 i) (hc : 0 ≤ w.2.1 0 6 ∧ w.2.1 0 6 ≤ 3) (h19 : ∀ j, j < 3 → 0 ≤ w.2.1 19 j ∧ w.2.1 19 j ≤ 9) (hO : w.1 P = (4, 1)) : HTH l yL_planned cL_planned 4 (some .int) [(0, 9, 12, 13)] 7 1 6 w [ar 0, ai i, ar P] (fun r w' => ((0 ≤ i ∧ i < w.2.1 0 6) → r = some (ai 0) ∧ w' = upI w P 0 (w.2.1 19 i.toNat)) ∧ (¬ (0 ≤ i ∧ i < w.2.1 0 6) → r = some (ai 1) ∧ w' = w)) := by
  refine HTH.of (by decide) (by intro v hv; simp only [List.mem_cons, List.not_mem_nil, or_false] at hv; rcases hv with rfl | rfl | rfl <;> rfl) (Nat.le_of_ble_eq_true rfl) ?_
  intro Γ h hQ hRm hnm hl hw0
  have hs0 : w.1 0 = (109, 0) := hX.1 0 (by decide)
  refine g_aload_n h dL_planned_0 rfl ?_
  refine g_iconst h dL_planned_1 ?_
  refine g_aload_n h dL_planned_2 rfl ?_
  refine g_iload_n h dL_planned_3 rfl ?_
  refine g_callVq (ci := 9) h rfl [_] hs0 (c_X9_planned _ _ i (by rw [hl]; exact hst) hX hi hc) clL_7 (by decide) rfl in_X9_planned se_X9_planned rfl rfl (by rw [hRm]; first | decide | (simp only [clS]; omega)) (by rw [hRm]; first | decide | (simp only [clS]; omega)) (fun _ => Nat.le_of_ble_eq_true rfl) (by rw [hRm]; first | decide | (simp only [clS]; omega)) (by rw [hRm]; first | decide | (simp only [clS]; omega)) dL_planned_4 (fun r4 w4 hp4 => ?_) (fun E4 x4 w4 hp4 => ?_)
  · obtain ⟨hb, rfl, hw4⟩ := hp4
    rw [hw4]
    have h9 := h19 i.toNat (by omega)
    refine g_i2l h (by first | assumption | exact ⟨by omega, by omega⟩) dL_planned_7 ?_
    refine g_last h (0) (by assumption) (by first | omega | assumption) (by first | omega | assumption) (by first | decide | omega) dL_planned_8 ?_
    refine g_goto (tgt := 15) h dL_planned_9 (by decide) ?_
    refine g_hret hQ h hRm fun Γ h hQ hRm => ?_
    refine g_iconst h dL_planned_15 ?_
    refine g_iret h hQ (by first | decide | omega | (simp only [clS]; omega)) (by first | decide | omega | (simp only [clS]; omega)) ?_ dL_planned_16
    exact ⟨fun _ => ⟨rfl, rfl⟩, fun q => absurd hb q⟩
  · obtain ⟨hE4, -, hw4, hb⟩ := hp4
    subst hw4
    refine g_catchA (x := { startPc := 0, endPc := 9, handlerPc := 12, catchType := 13 }) (E := E4) (name := nse) h hQ rfl rfl (by decide) nse_kL (by rw [hE4]; exact nse_c) dL_planned_12 (Nat.le_of_ble_eq_true rfl) rfl rfl ?_
    refine g_hret hQ h hRm fun Γ h hQ hRm => ?_
    refine g_iconst h dL_planned_13 ?_
    refine g_iret h hQ (by first | decide | omega | (simp only [clS]; omega)) (by first | decide | omega | (simp only [clS]; omega)) ?_ dL_planned_14
    exact ⟨fun q => absurd q hb, fun _ => ⟨rfl, rfl⟩⟩
