/-! ===== what a day of a lake leaves alone ===== -/
theorem dayW_o {w : AW} {L n j : Nat} {q : Nat → Nat} (h2 : j ≠ 2 + L) (h5 : j ≠ 5 + L) (h8 : j ≠ 8 + L) (h11 : j ≠ 11 + L) (hq : ∀ i, i < n → j ≠ q i) : (dayW w L n q).2.1 j = w.2.1 j := by
  unfold dayW toW sT sR3
  rw [sR_ne _ _ h11, sR_ne _ _ h8, sR_ne _ _ h5]
  unfold riW
  rw [sR_ne _ _ h2, sR_ne _ _ h5]
  unfold rpW
  rw [sR_ne _ _ h2, pAll_o _ h5 n hq]
  unfold tsW
  rw [sR_ne _ _ h2, sR_ne _ _ h5]
theorem goW_o {w : AW} {L n j : Nat} {q : Nat → Nat} (h2 : j ≠ 2 + L) (h5 : j ≠ 5 + L) (h8 : j ≠ 8 + L) (h11 : j ≠ 11 + L) (hq : ∀ i, i < n → j ≠ q i) : (goW w L n q).2.1 j = w.2.1 j := by
  have hd := dayW_o (w := w) h2 h5 h8 h11 hq
  unfold goW
  split
  · exact hd
  · unfold burW
    rw [sR_ne _ _ h2, sR_ne _ _ h5]
    exact hd
/-- a place that is none of the spare's -/
def noS (j : Nat) : Prop := j ≠ 4 ∧ j ≠ 7 ∧ j ≠ 10 ∧ j ≠ 13 ∧ (j < 56 ∨ 59 ≤ j)
theorem goW_s {w : AW} {n j : Nat} (hn : n ≤ 3) (h : noS j) : (goW w 2 n sq).2.1 j = w.2.1 j := by
  obtain ⟨h1, h2, h3, h4, h5⟩ := h
  exact goW_o h1 h2 h3 h4 (fun i hi => by unfold sq; omega)
/-- the days ahead change nothing but the spare -/
theorem dbF_s {n j : Nat} (hn : n ≤ 3) (h : noS j) : ∀ (d : Nat) (day : Int) (w : AW), (dbF n d day w).2.2.1 j = w.2.1 j ∧ (dbF n d day w).2.1 = w.1 ∧ (dbF n d day w).2.2.2 = w.2.2
  | 0, _, _ => ⟨rfl, rfl, rfl⟩
  | d + 1, day, w => by
    have h1 := goW_1 w 2 n sq
    have h2 := goW_s (w := w) hn h
    unfold dbF
    split
    · exact ⟨h2, h1⟩
    · obtain ⟨a, b, c⟩ := dbF_s hn h d (day + 1) (goW w 2 n sq)
      exact ⟨a.trans h2, b.trans h1.1, c.trans h1.2⟩
theorem dfF_s {n j : Nat} {share : Int} (hn : n ≤ 3) (h : noS j) : ∀ (d : Nat) (day : Int) (w : AW), (dfF n share d day w).2.2.1 j = w.2.1 j ∧ (dfF n share d day w).2.1 = w.1 ∧ (dfF n share d day w).2.2.2 = w.2.2
  | 0, _, _ => ⟨rfl, rfl, rfl⟩
  | d + 1, day, w => by
    have h1 := goW_1 w 2 n sq
    have h2 := goW_s (w := w) hn h
    unfold dfF
    split
    · exact ⟨rfl, rfl, rfl⟩
    · split
      · exact ⟨h2, h1⟩
      · obtain ⟨a, b, c⟩ := dfF_s hn h d (day + 1) (goW w 2 n sq)
        exact ⟨a.trans h2, b.trans h1.1, c.trans h1.2⟩
theorem dtb_s {n j : Nat} {share : Int} (hn : n ≤ 3) (h : noS j) : ∀ (d : Nat) (day : Int) (w : AW), (dtb 2 n sq share d day w).2.2.1 j = w.2.1 j ∧ (dtb 2 n sq share d day w).2.1 = w.1 ∧ (dtb 2 n sq share d day w).2.2.2 = w.2.2
  | 0, _, _ => ⟨rfl, rfl, rfl⟩
  | d + 1, day, w => by
    have h1 := goW_1 w 2 n sq
    have h2 := goW_s (w := w) hn h
    unfold dtb
    split
    · exact ⟨h2, h1⟩
    · split
      · exact ⟨h2, h1⟩
      · obtain ⟨a, b, c⟩ := dtb_s hn h d (day + 1) (goW w 2 n sq)
        exact ⟨a.trans h2, b.trans h1.1, c.trans h1.2⟩
/-- the spare's becoming changes nothing but the spare -/
theorem bcP_s {w : AW} {L S n j : Nat} {q : Nat → Nat} (hn : n ≤ 3) (h : noS j) : (bcP (bcB w L) S q n).2.1 j = w.2.1 j ∧ (bcP (bcB w L) S q n).1 j = w.1 j := by
  obtain ⟨h1, h2, h3, h4, h5⟩ := h
  have a := bcP_lo (bcB w L) S q n j (by omega)
  exact ⟨a.2.1.trans (bcB_o h1 h2 h3 h4), a.1⟩
/-- the spare's pipes after it became another -/
theorem bcP_SPI {w : AW} {L S n : Nat} {q : Nat → Nat} (hn : n ≤ 3) (hq5 : ∀ i, i < n → q i < 56) (hS : SPI w S) : SPI (bcP (bcB w L) S q n) (max S n) := by
  obtain ⟨hS3, hSa, hSb⟩ := id hS
  refine ⟨by omega, fun i hi => ?_, fun i h1 h2 => ?_⟩
  · by_cases hin : i < n
    · obtain ⟨a1, a2, a3⟩ := bcP_hi (bcB w L) S n q hq5 hSa n i (Nat.le_refl _) hin
      exact ⟨a2, a1⟩
    · obtain ⟨a1, a2⟩ := hSa i (by omega)
      exact ⟨(bcP_16 _ S q n i (by omega)).trans a1, ((bcP_lo _ S q n (56 + i) (by omega)).1).trans a2⟩
  · obtain ⟨a1, a2⟩ := hSb i (by omega) h2
    exact ⟨(bcP_16 _ S q n i (by omega)).trans a1, by rw [(bcP_lo (bcB w L) S q n (56 + i) (by omega)).1]; exact a2⟩
