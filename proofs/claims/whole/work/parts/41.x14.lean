/-! ===== what holds is kept: a plan checked, a layer told ===== -/
theorem tryW_s {w : AW} {n i j : Nat} {z : Int} (hn : n ≤ 3) (h : noS j) : (tryW w sq n i z).2.1 j = w.2.1 j := by
  obtain ⟨-, -, -, -, h5⟩ := h
  unfold tryW
  split
  · rename_i hc
    exact sR_ne _ _ (by unfold sq; omega)
  · rfl
theorem WI_check {w : AW} {n : Nat → Nat} {q : Nat → Nat → Nat} {S rn sn L d : Nat} {day share a b c : Int} (hW : WI w n q S rn sn) (hL : L < 2)
    (ha : 0 < n L → 0 ≤ a ∧ a < 10) (hb : 1 < n L → 0 ≤ b ∧ b < 10) (hc : 2 < n L → 0 ≤ c ∧ c < 10) : WI (dtb 2 (n L) sq share d day (chW (spW w n q S L) (n L) a b c)).2 n q (max S (n L)) rn sn := by
  obtain ⟨hX, hS, hLk, hSI, ht⟩ := id hW
  obtain ⟨hN, hP, h56⟩ := hLk L hL
  have hn := hP.1
  have hLs : 2 < 3 := by omega
  obtain ⟨x1, n1, p1⟩ := bcP_ok hX hL hN hP h56 hS
  obtain ⟨x2, n2, p2⟩ := tryW_ok (i := 0) (z := a) hLs x1 n1 p1 ha
  obtain ⟨x3, n3, p3⟩ := tryW_ok (i := 1) (z := b) hLs x2 n2 p2 hb
  obtain ⟨x4, n4, p4⟩ := tryW_ok (i := 2) (z := c) hLs x3 n3 p3 hc
  have c1 : (chW (spW w n q S L) (n L) a b c).1 = (spW w n q S L).1 ∧ (chW (spW w n q S L) (n L) a b c).2.2 = (spW w n q S L).2.2 := by
    unfold chW
    obtain ⟨u1, v1⟩ := tryW_1 (tryW (tryW (spW w n q S L) sq (n L) 0 a) sq (n L) 1 b) sq (n L) 2 c
    obtain ⟨u2, v2⟩ := tryW_1 (tryW (spW w n q S L) sq (n L) 0 a) sq (n L) 1 b
    obtain ⟨u3, v3⟩ := tryW_1 (spW w n q S L) sq (n L) 0 a
    exact ⟨u1.trans (u2.trans u3), v1.trans (v2.trans v3)⟩
  have g := fun j (hj : noS j) => dtb_s (share := share) hn hj d day (chW (spW w n q S L) (n L) a b c)
  have g0 := g 0 ⟨by decide, by decide, by decide, by decide, by decide⟩
  refine WI_of hW (XS_of g0.2.1 g0.2.2 x4) (SPI_of (g0.2.1.trans c1.1) (g0.2.2.trans c1.2) (bcP_SPI hn h56 hS)) (fun j hj => ⟨?_, ?_⟩) (fun j hj => ?_)
  · refine (g j hj).1.trans ?_
    unfold chW
    rw [tryW_s hn hj, tryW_s hn hj, tryW_s hn hj]
    exact (bcP_s hn hj).1
  · rw [g0.2.1, c1.1]
    exact (bcP_s hn hj).2
  · rw [g0.2.2, c1.2]
    exact (bcP_lo (bcB w L) S (q L) (n L) j (by omega)).2.2 (by omega)
