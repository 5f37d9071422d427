/-! ===== what holds is kept: the strings' numbers ===== -/
theorem WI_str {w w' : AW} {n : Nat → Nat} {q : Nat → Nat → Nat} {S rn sn rn' sn' : Nat} (hW : WI w n q S rn sn) (h1 : w'.1 = w.1) (h2 : w'.2.2 = w.2.2) (ho : ∀ j, j < 28 ∨ 36 ≤ j → w'.2.1 j = w.2.1 j) (hS' : SI w' rn' sn') : WI w' n q S rn' sn' := by
  obtain ⟨hX, hS, hLk, hSI, t0, t1⟩ := hW
  refine ⟨XS_of h1 h2 hX, SPI_of h1 h2 hS, fun L hL => ?_, hS', ?_⟩
  · obtain ⟨hN, ⟨a1, a2, a3, a4⟩, h56⟩ := hLk L hL
    refine ⟨?_, ⟨a1, ?_, fun i hi => ?_, a4⟩, h56⟩
    · unfold LN
      rw [ho (5 + L) (by omega), ho (8 + L) (by omega), ho (11 + L) (by omega), ho (2 + L) (by omega)]
      exact hN
    · rw [ho (2 + L) (by omega)]
      exact a2
    · obtain ⟨b1, b2⟩ := a3 i hi
      have h50 := b2.1
      refine ⟨by rw [h2]; exact b1, ?_⟩
      unfold pOK
      rw [ho (q L i) (by omega), h1]
      exact b2
  · rw [ho 0 (by omega)]
    exact ⟨t0, t1⟩
theorem WI_reading {w : AW} {n : Nat → Nat} {q : Nat → Nat → Nat} {S rn sn : Nat} {st day gas : Int} (hW : WI w n q S rn sn) (hrn : rn < 300) (hst : 0 ≤ st ∧ st < 20) (hd : 0 ≤ day ∧ day ≤ 2999) (hg : 0 ≤ gas ∧ gas ≤ 100000) : WI (rdW w rn sn st day gas) n q S (rn + 1) sn := by
  refine WI_str hW rfl rfl (fun j hj => ?_) (SI_reading hW.2.2.2.1 hrn hst hd hg)
  unfold rdW
  rw [sR_ne _ _ (by omega), arW_o _ _ _ _ _ (by omega) (by omega) (by omega) (by omega)]
theorem WI_sounding {w : AW} {n : Nat → Nat} {q : Nat → Nat → Nat} {S rn sn : Nat} {st day gas dr : Int} (hW : WI w n q S rn sn) (hsn : sn < 60) (hst : 0 ≤ st ∧ st < 20) (hd : 0 ≤ day ∧ day ≤ 2999) (hg : 0 ≤ gas ∧ gas ≤ 100000) (hdr : -100000 ≤ dr ∧ dr ≤ 100000) : WI (adW w sn st day gas dr) n q S rn (sn + 1) := by
  refine WI_str hW rfl rfl (fun j hj => ?_) (SI_sounding hW.2.2.2.1 hsn hst hd hg hdr)
  unfold adW
  rw [sR_ne _ _ (by omega), sR_ne _ _ (by omega), sR_ne _ _ (by omega), sR_ne _ _ (by omega), sR_ne _ _ (by omega)]
