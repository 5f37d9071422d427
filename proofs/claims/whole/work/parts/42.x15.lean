/-! ===== what holds is kept: a layer told ===== -/
theorem WI_layer {w : AW} {n : Nat → Nat} {q : Nat → Nat → Nat} {S rn sn L i : Nat} {g t s : Int} (hW : WI w n q S rn sn) (hL : L < 2) (hi : i < 10) (hg : 0 ≤ g ∧ g ≤ 100000) (ht : 0 ≤ t ∧ t ≤ 400) (hs : 0 ≤ s ∧ s ≤ 1000) : WI (tlW w L i g t s) n q S rn sn := by
  obtain ⟨hX, hS, hLk, hSI, t0, t1⟩ := id hW
  have o : ∀ j, j ≠ 2 + L → j ≠ 5 + L → j ≠ 8 + L → j ≠ 11 + L → (tlW w L i g t s).2.1 j = w.2.1 j := fun j h2 h5 h8 h11 => by
    unfold tlW
    rw [sR_ne _ _ h11, sR_ne _ _ h8, sR_ne _ _ h5, sR_ne _ _ h2]
  have e2 : (tlW w L i g t s).2.1 (2 + L) = uI (w.2.1 (2 + L)) 10 (w.2.1 (2 + L) 10 + (g - w.2.1 (5 + L) i)) := by
    unfold tlW
    rw [sR_ne _ _ (by omega), sR_ne _ _ (by omega), sR_ne _ _ (by omega), sR_at]
  have e5 : (tlW w L i g t s).2.1 (5 + L) = uI (w.2.1 (5 + L)) i g := by
    unfold tlW
    rw [sR_ne _ _ (by omega), sR_ne _ _ (by omega), sR_at]
  have e8 : (tlW w L i g t s).2.1 (8 + L) = uI (w.2.1 (8 + L)) i t := by
    unfold tlW
    rw [sR_ne _ _ (by omega), sR_at]
  have e11 : (tlW w L i g t s).2.1 (11 + L) = uI (w.2.1 (11 + L)) i s := by
    unfold tlW
    rw [sR_at]
  refine ⟨XS_of rfl rfl hX, SPI_of rfl rfl hS, fun K hK => ?_, ?_, ?_⟩
  · obtain ⟨hN, ⟨a1, a2, a3, a4⟩, h56⟩ := hLk K hK
    refine ⟨?_, ⟨a1, ?_, fun j hj => ?_, a4⟩, h56⟩
    · by_cases hKL : K = L
      · subst hKL
        unfold LN
        rw [e2, e5, e8, e11]
        refine ⟨fun j hj => ?_, hN.2⟩
        have h0 := hN.1 j hj
        unfold uI
        by_cases hji : j = i
        · rw [if_pos hji, if_pos hji, if_pos hji]
          exact ⟨hg.1, hg.2, ht.1, ht.2, hs.1, hs.2⟩
        · rw [if_neg hji, if_neg hji, if_neg hji]
          exact h0
      · unfold LN
        rw [o (5 + K) (by omega) (by omega) (by omega) (by omega), o (8 + K) (by omega) (by omega) (by omega) (by omega), o (11 + K) (by omega) (by omega) (by omega) (by omega), o (2 + K) (by omega) (by omega) (by omega) (by omega)]
        exact hN
    · by_cases hKL : K = L
      · subst hKL
        rw [e2]
        exact a2
      · rw [o (2 + K) (by omega) (by omega) (by omega) (by omega)]
        exact a2
    · obtain ⟨b1, b2⟩ := a3 j hj
      have h50 := b2.1
      refine ⟨b1, ?_⟩
      unfold pOK
      rw [o (q K j) (by omega) (by omega) (by omega) (by omega)]
      exact b2
  · unfold SI
    rw [o 28 (by omega) (by omega) (by omega) (by omega), o 29 (by omega) (by omega) (by omega) (by omega), o 30 (by omega) (by omega) (by omega) (by omega), o 31 (by omega) (by omega) (by omega) (by omega),
      o 32 (by omega) (by omega) (by omega) (by omega), o 33 (by omega) (by omega) (by omega) (by omega), o 34 (by omega) (by omega) (by omega) (by omega), o 35 (by omega) (by omega) (by omega) (by omega)]
    exact hSI
  · rw [o 0 (by omega) (by omega) (by omega) (by omega)]
    exact ⟨t0, t1⟩
