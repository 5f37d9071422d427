/-! ===== what holds is kept: a sounding ===== -/
theorem SI_sounding {w : AW} {rn sn : Nat} {st day gas dr : Int} (hS : SI w rn sn) (hsn : sn < 60) (hst : 0 ≤ st ∧ st < 20) (hd : 0 ≤ day ∧ day ≤ 2999) (hg : 0 ≤ gas ∧ gas ≤ 100000) (hdr : -100000 ≤ dr ∧ dr ≤ 100000) : SI (adW w sn st day gas dr) rn (sn + 1) := by
  obtain ⟨hr, hr3, hs, hs6, hri, hsi⟩ := hS
  have e28 : (adW w sn st day gas dr).2.1 28 = uI (w.2.1 28) 8 (sn + 1) := by unfold adW; rw [sR_at]
  have e35 : (adW w sn st day gas dr).2.1 35 = uI (w.2.1 35) sn dr := by
    unfold adW
    rw [sR_ne _ _ (by decide), sR_at]
  have e34 : (adW w sn st day gas dr).2.1 34 = uI (w.2.1 34) sn gas := by
    unfold adW
    rw [sR_ne _ _ (by decide), sR_ne _ _ (by decide), sR_at]
  have e33 : (adW w sn st day gas dr).2.1 33 = uI (w.2.1 33) sn day := by
    unfold adW
    rw [sR_ne _ _ (by decide), sR_ne _ _ (by decide), sR_ne _ _ (by decide), sR_at]
  have e32 : (adW w sn st day gas dr).2.1 32 = uI (w.2.1 32) sn st := by
    unfold adW
    rw [sR_ne _ _ (by decide), sR_ne _ _ (by decide), sR_ne _ _ (by decide), sR_ne _ _ (by decide), sR_at]
  have eo : ∀ j, j ≠ 28 → j ≠ 32 → j ≠ 33 → j ≠ 34 → j ≠ 35 → (adW w sn st day gas dr).2.1 j = w.2.1 j := fun j h0 h1 h2 h3 h4 => by
    unfold adW
    rw [sR_ne _ _ h0, sR_ne _ _ h4, sR_ne _ _ h3, sR_ne _ _ h2, sR_ne _ _ h1]
  unfold SI
  rw [e28, e32, e33, e34, e35, eo 29 (by decide) (by decide) (by decide) (by decide) (by decide), eo 30 (by decide) (by decide) (by decide) (by decide) (by decide), eo 31 (by decide) (by decide) (by decide) (by decide) (by decide)]
  refine ⟨hr, hr3, ?_, by omega, hri, fun i hi => ?_⟩
  · show ((sn : Int) + 1) = _
    omega
  · unfold uI
    by_cases h : i = sn
    · rw [if_pos h, if_pos h, if_pos h, if_pos h]
      omega
    · rw [if_neg h, if_neg h, if_neg h, if_neg h]
      exact hsi i (by omega)
