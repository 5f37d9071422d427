/-! ===== what holds is kept: a reading ===== -/
theorem SI_reading {w : AW} {rn sn : Nat} {st day gas : Int} (hS : SI w rn sn) (hrn : rn < 300) (hst : 0 ≤ st ∧ st < 20) (hd : 0 ≤ day ∧ day ≤ 2999) (hg : 0 ≤ gas ∧ gas ≤ 100000) : SI (rdW w rn sn st day gas) (rn + 1) sn := by
  obtain ⟨hr, hr3, hs, hs6, hri, hsi⟩ := hS
  have e28 : (rdW w rn sn st day gas).2.1 28 = uI (w.2.1 28) 3 (rn + 1) := by unfold rdW; rw [sR_ne _ _ (by decide), arW_28]
  have e29 : (rdW w rn sn st day gas).2.1 29 = uI (w.2.1 29) rn st := by
    unfold rdW arW
    rw [sR_ne _ _ (by decide), sR_ne _ _ (by decide), sR_ne _ _ (by decide), sR_ne _ _ (by decide), sR_at]
  have e30 : (rdW w rn sn st day gas).2.1 30 = uI (w.2.1 30) rn day := by
    unfold rdW arW
    rw [sR_ne _ _ (by decide), sR_ne _ _ (by decide), sR_ne _ _ (by decide), sR_at]
  have e31 : (rdW w rn sn st day gas).2.1 31 = uI (w.2.1 31) rn gas := by
    unfold rdW arW
    rw [sR_ne _ _ (by decide), sR_ne _ _ (by decide), sR_at]
  have e35 : (rdW w rn sn st day gas).2.1 35 = adF w st day gas sn := by unfold rdW; rw [sR_at]
  have eo : ∀ j, j ≠ 35 → j ≠ 28 → j ≠ 29 → j ≠ 30 → j ≠ 31 → (rdW w rn sn st day gas).2.1 j = w.2.1 j := fun j h0 h1 h2 h3 h4 => by
    unfold rdW
    rw [sR_ne _ _ h0, arW_o _ _ _ _ _ h1 h2 h3 h4]
  unfold SI
  rw [e28, e29, e30, e31, e35, eo 32 (by decide) (by decide) (by decide) (by decide) (by decide), eo 33 (by decide) (by decide) (by decide) (by decide) (by decide), eo 34 (by decide) (by decide) (by decide) (by decide) (by decide)]
  refine ⟨?_, by omega, hs, hs6, fun i hi => ?_, fun i hi => ?_⟩
  · show ((rn : Int) + 1) = _
    omega
  · unfold uI
    by_cases h : i = rn
    · rw [if_pos h, if_pos h, if_pos h]
      omega
    · rw [if_neg h, if_neg h, if_neg h]
      exact hri i (by omega)
  · have h0 := hsi i hi
    refine ⟨h0.1, h0.2.1, h0.2.2.1, h0.2.2.2.1, h0.2.2.2.2.1, h0.2.2.2.2.2.1, ?_⟩
    unfold adF
    split <;> omega
