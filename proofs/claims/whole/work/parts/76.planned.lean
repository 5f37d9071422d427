/-! ===== the class: the plan told ===== -/
def nse : String := "java/util/NoSuchElementException"
theorem nse_T : ∀ w ∈ vx_at0 RX9 223 nse ["java/lang/RuntimeException", "java/lang/Exception"], w ∈ lw_tbl ∧ (goodWord w || exW w) = true := by decide +kernel
theorem nse_k : Cond.classLink RX9 221 nse ∈ gw_tbl := gw_in (by decide +kernel) (by decide +kernel)
theorem nse_i : Cond.initialized nse ∈ gw_tbl := gw_in (by decide +kernel) (by decide +kernel)
theorem nse_G : ∀ w ∈ Cond.classLink RX9 221 nse :: Cond.initialized nse :: vx_at0 RX9 223 nse ["java/lang/RuntimeException", "java/lang/Exception"], vx_ot w = true := by decide +kernel
theorem nse_f : Bundle.fit nse = true := by decide +kernel
theorem nse_n : ∀ x ∈ ["java/lang/RuntimeException", "java/lang/Exception"], Bundle.fit x = true := by decide +kernel
set_option maxRecDepth 100000 in
set_option maxHeartbeats 4000000 in
theorem c_X9_planned (l : Launch) (w : AW) (i : Int) (hst : l.stackTraces = false) (hX : XS w) (hi : R32 i) (hc : 0 ≤ w.2.1 0 6 ∧ w.2.1 0 6 ≤ 3) : HTX l yX9_planned cX9_planned 2 (some .int) 6 1 6 w [ar 0, ai i] (fun r w' => (0 ≤ i ∧ i < w.2.1 0 6) ∧ r = some (ai (w.2.1 19 i.toNat)) ∧ w' = w) (fun E x w' => E = nse ∧ x = none ∧ w' = w ∧ ¬ (0 ≤ i ∧ i < w.2.1 0 6)) := by
  refine HTX.of (by decide) (by intro v hv; simp only [List.mem_cons, List.not_mem_nil, or_false] at hv; rcases hv with rfl | rfl <;> rfl) (Nat.le_of_ble_eq_true rfl) ?_
  intro Γ h hQ hRm hnm hl hw0
  have s0 : w.1 0 = (109, 0) := hX.1 0 (by decide)
  have s19 : w.1 19 = (1, 3) := hX.1 19 (by decide)
  have p0_5 : w.2.2 0 5 = some 19 := hX.2 (0, 5, 19) (by decide)
  refine g_iload_n h dX9_planned_0 rfl ?_
  refine g_if_lt (tgt := 21) h dX9_planned_1 (by decide) (by first | assumption | exact ⟨by omega, by omega⟩) (fun c1 => ?_) (fun c1 => ?_)
  · refine g_throw0 (names := ["java/lang/RuntimeException", "java/lang/Exception"]) h rfl (by rw [hl]; exact hst) hQ nse_f nse_n nse_k nse_i nse_T nse_G dX9_planned_21 dX9_planned_24 dX9_planned_25 dX9_planned_28 (by rw [hRm]; decide) (fun _ => by rw [hRm]; show 0 + (13 * 3 + 42) ≤ 64 * 6; decide) (by rw [hRm]; decide) (by rw [hRm]; decide) (by decide) (by decide) ⟨rfl, rfl, rfl, by omega⟩
  · refine g_iload_n h dX9_planned_4 rfl ?_
    refine g_aload_n h dX9_planned_5 rfl ?_
    refine g_getI h flX9_218 rfl (by assumption) dX9_planned_6 ?_
    refine g_icmp_ge (tgt := 21) h dX9_planned_9 (by decide) (by first | assumption | exact ⟨by omega, by omega⟩) (by first | assumption | exact ⟨by omega, by omega⟩) (fun c9 => ?_) (fun c9 => ?_)
    · refine g_throw0 (names := ["java/lang/RuntimeException", "java/lang/Exception"]) h rfl (by rw [hl]; exact hst) hQ nse_f nse_n nse_k nse_i nse_T nse_G dX9_planned_21 dX9_planned_24 dX9_planned_25 dX9_planned_28 (by rw [hRm]; decide) (fun _ => by rw [hRm]; show 0 + (13 * 3 + 42) ≤ 64 * 6; decide) (by rw [hRm]; decide) (by rw [hRm]; decide) (by decide) (by decide) ⟨rfl, rfl, rfl, by omega⟩
    · refine g_iload_n h dX9_planned_12 rfl ?_
      refine g_aload_n h dX9_planned_13 rfl ?_
      refine g_getQ h flX9_32 rfl (by assumption) (by assumption) dX9_planned_14 ?_
      refine g_alen h (by assumption) (by unfold arK; omega) dX9_planned_17 ?_
      refine g_icmp_lt (tgt := 29) h dX9_planned_18 (by decide) (by first | assumption | exact ⟨by omega, by omega⟩) (by first | assumption | exact ⟨by omega, by omega⟩) (fun c18 => ?_) (fun c18 => ?_)
      · refine g_xret hQ h hRm fun Γ h hQ hRm => ?_
        refine g_aload_n h dX9_planned_29 rfl ?_
        refine g_getQ h flX9_32 rfl (by assumption) (by assumption) dX9_planned_30 ?_
        refine g_iload_n h dX9_planned_33 rfl ?_
        refine g_iald h (i.toNat) (by assumption) (by first | omega | assumption) (by first | omega | assumption) (by first | decide | omega) dX9_planned_34 ?_
        refine g_iret h hQ (by first | decide | omega | (simp only [clS]; omega)) (by first | decide | omega | (simp only [clS]; omega)) ?_ dX9_planned_35
        exact ⟨⟨by omega, by omega⟩, rfl, rfl⟩
      · refine g_throw0 (names := ["java/lang/RuntimeException", "java/lang/Exception"]) h rfl (by rw [hl]; exact hst) hQ nse_f nse_n nse_k nse_i nse_T nse_G dX9_planned_21 dX9_planned_24 dX9_planned_25 dX9_planned_28 (by rw [hRm]; decide) (fun _ => by rw [hRm]; show 0 + (13 * 3 + 42) ≤ 64 * 6; decide) (by rw [hRm]; decide) (by rw [hRm]; decide) (by decide) (by decide) ⟨rfl, rfl, rfl, by omega⟩
