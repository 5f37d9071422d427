/-! ===== what holds is kept: the spare's days ===== -/
theorem WI_of {w w' : AW} {n : Nat → Nat} {q : Nat → Nat → Nat} {S S' rn sn : Nat} (hW : WI w n q S rn sn) (hX : XS w') (hS : SPI w' S') (ho : ∀ j, noS j → w'.2.1 j = w.2.1 j ∧ w'.1 j = w.1 j) (hp : ∀ j, j < 16 → w'.2.2 j = w.2.2 j) : WI w' n q S' rn sn := by
  obtain ⟨-, -, hLk, hSI, t0, t1⟩ := hW
  have o : ∀ j, j < 56 → j ≠ 4 → j ≠ 7 → j ≠ 10 → j ≠ 13 → w'.2.1 j = w.2.1 j ∧ w'.1 j = w.1 j := fun j h h4 h7 h10 h13 => ho j ⟨h4, h7, h10, h13, Or.inl h⟩
  refine ⟨hX, hS, fun L hL => ?_, ?_, ?_⟩
  · obtain ⟨hN, ⟨a1, a2, a3, a4⟩, h56⟩ := hLk L hL
    refine ⟨?_, ⟨a1, ?_, fun i hi => ?_, a4⟩, h56⟩
    · unfold LN
      rw [(o (5 + L) (by omega) (by omega) (by omega) (by omega) (by omega)).1, (o (8 + L) (by omega) (by omega) (by omega) (by omega) (by omega)).1, (o (11 + L) (by omega) (by omega) (by omega) (by omega) (by omega)).1, (o (2 + L) (by omega) (by omega) (by omega) (by omega) (by omega)).1]
      exact hN
    · rw [(o (2 + L) (by omega) (by omega) (by omega) (by omega) (by omega)).1]
      exact a2
    · obtain ⟨b1, b2⟩ := a3 i hi
      have h50 := b2.1
      have h5 := h56 i hi
      refine ⟨by rw [hp (14 + L) (by omega)]; exact b1, ?_⟩
      unfold pOK
      rw [(o (q L i) (by omega) (by omega) (by omega) (by omega) (by omega)).1, (o (q L i) (by omega) (by omega) (by omega) (by omega) (by omega)).2]
      exact b2
  · unfold SI
    rw [(o 28 (by omega) (by omega) (by omega) (by omega) (by omega)).1, (o 29 (by omega) (by omega) (by omega) (by omega) (by omega)).1, (o 30 (by omega) (by omega) (by omega) (by omega) (by omega)).1, (o 31 (by omega) (by omega) (by omega) (by omega) (by omega)).1,
      (o 32 (by omega) (by omega) (by omega) (by omega) (by omega)).1, (o 33 (by omega) (by omega) (by omega) (by omega) (by omega)).1, (o 34 (by omega) (by omega) (by omega) (by omega) (by omega)).1, (o 35 (by omega) (by omega) (by omega) (by omega) (by omega)).1]
    exact hSI
  · rw [(o 0 (by omega) (by omega) (by omega) (by omega) (by omega)).1]
    exact ⟨t0, t1⟩
theorem SPI_of {w w' : AW} {S : Nat} (h1 : w'.1 = w.1) (h2 : w'.2.2 = w.2.2) (h : SPI w S) : SPI w' S := by unfold SPI at h ⊢; rw [h1, h2]; exact h
/-- burst keeps what holds -/
theorem WI_burst {w : AW} {n : Nat → Nat} {q : Nat → Nat → Nat} {S rn sn L d : Nat} {day : Int} (hW : WI w n q S rn sn) (hL : L < 2) : WI (dbF (n L) d day (spW w n q S L)).2 n q (max S (n L)) rn sn := by
  obtain ⟨hX, hS, hLk, hSI, ht⟩ := id hW
  obtain ⟨hN, hP, h56⟩ := hLk L hL
  have hn := hP.1
  have g := fun j (hj : noS j) => dbF_s hn hj d day (spW w n q S L)
  have g0 := g 0 ⟨by decide, by decide, by decide, by decide, by decide⟩
  refine WI_of hW (XS_of g0.2.1 g0.2.2 (bcP_ok hX hL hN hP h56 hS).1) (SPI_of g0.2.1 g0.2.2 (bcP_SPI hn h56 hS)) (fun j hj => ⟨(g j hj).1.trans (bcP_s hn hj).1, by rw [g0.2.1]; exact (bcP_s hn hj).2⟩) (fun j hj => ?_)
  rw [g0.2.2]
  exact (bcP_lo (bcB w L) S (q L) (n L) j (by omega)).2.2 (by omega)
/-- until, too -/
theorem WI_until {w : AW} {n : Nat → Nat} {q : Nat → Nat → Nat} {S rn sn L d : Nat} {day share : Int} (hW : WI w n q S rn sn) (hL : L < 2) : WI (dfF (n L) share d day (spW w n q S L)).2 n q (max S (n L)) rn sn := by
  obtain ⟨hX, hS, hLk, hSI, ht⟩ := id hW
  obtain ⟨hN, hP, h56⟩ := hLk L hL
  have hn := hP.1
  have g := fun j (hj : noS j) => dfF_s (share := share) hn hj d day (spW w n q S L)
  have g0 := g 0 ⟨by decide, by decide, by decide, by decide, by decide⟩
  refine WI_of hW (XS_of g0.2.1 g0.2.2 (bcP_ok hX hL hN hP h56 hS).1) (SPI_of g0.2.1 g0.2.2 (bcP_SPI hn h56 hS)) (fun j hj => ⟨(g j hj).1.trans (bcP_s hn hj).1, by rw [g0.2.1]; exact (bcP_s hn hj).2⟩) (fun j hj => ?_)
  rw [g0.2.2]
  exact (bcP_lo (bcB w L) S (q L) (n L) j (by omega)).2.2 (by omega)
/-- the trouble's number is told: what holds is kept -/
theorem WI_16 {w : AW} {n : Nat → Nat} {q : Nat → Nat → Nat} {S rn sn : Nat} {z : Int} (hW : WI w n q S rn sn) : WI (upI w 0 16 z) n q S rn sn := by
  obtain ⟨hX, hS, hLk, hSI, t0, t1⟩ := hW
  have o : ∀ j, j ≠ 0 → (upI w 0 16 z).2.1 j = w.2.1 j := fun j hj => if_neg hj
  refine ⟨XS_of rfl rfl hX, SPI_of rfl rfl hS, fun L hL => ?_, hSI, t0, t1⟩
  obtain ⟨hN, ⟨a1, a2, a3, a4⟩, h56⟩ := hLk L hL
  refine ⟨?_, ⟨a1, ?_, fun i hi => ?_, a4⟩, h56⟩
  · unfold LN
    rw [o (5 + L) (by omega), o (8 + L) (by omega), o (11 + L) (by omega), o (2 + L) (by omega)]
    exact hN
  · rw [o (2 + L) (by omega)]
    exact a2
  · obtain ⟨b1, b2⟩ := a3 i hi
    have h50 := b2.1
    refine ⟨b1, ?_⟩
    unfold pOK
    rw [o (q L i) (by omega)]
    exact b2
