/-! ===== drift told by both ===== -/
theorem dw_both {w u : AW} {rn sn : Nat} (hS : StE w u rn sn) (hI : SI w rn sn) {key day b : Int} (hd : 0 ≤ day ∧ day ≤ 2999) : drW w key day b sn = drfM u key day b rn sn := by
  obtain ⟨s1, s2, s3, s4, s5⟩ := id hS
  obtain ⟨-, -, -, -, -, hsi⟩ := hI
  have e : dfB (u.2.1 463) (u.2.1 464) key day b sn = dfB (w.2.1 32) (w.2.1 33) key day b sn := (dfB_c sn (fun i hi => ⟨(s2 i hi).1, (s2 i hi).2.1⟩)).symm
  obtain ⟨i1, i2, i3, i4⟩ := dB_df (a := w.2.1 32) (d := w.2.1 33) (key := key) (b := b) hd.1 sn s4 (fun i hi => ⟨(hsi i hi).2.2.1, (hsi i hi).2.2.2.1⟩)
  unfold drW drfM dfM
  rw [e]
  generalize dfB (w.2.1 32) (w.2.1 33) key day b sn = M at *
  rcases hX : dB (w.2.1 32) (w.2.1 33) key day b sn with ⟨x1, x2⟩
  rw [hX] at i1 i2 i3 i4
  cases x1 with
  | none =>
    have m1 := i1 rfl
    rw [if_neg (by omega)] at i4
    cases x2 with
    | none =>
      rw [if_pos ⟨m1, i4⟩]
      rfl
    | some j =>
      obtain ⟨y1, y2, y3, y4⟩ := i3 j rfl
      have hj := hsi j y1
      change M.2 = w.2.1 33 j at i4
      rw [if_neg (by omega), if_pos (Or.inl m1), if_pos m1, i4, dr_both hS y4]
      rfl
  | some i =>
    obtain ⟨z1, z2, z3, z4, z5⟩ := i2 i rfl
    have hi := hsi i z1
    cases x2 with
    | none =>
      change M.2 = (if M.1 = day then day else 1000000) at i4
      have c : M.1 = -1 ∨ M.2 = 1000000 ∨ M.1 = M.2 := by
        by_cases g : M.1 = day
        · rw [if_pos g] at i4; omega
        · rw [if_neg g] at i4; omega
      rw [if_neg (by omega), if_pos c, if_neg (by omega), z2, dr_both hS z5]
      rfl
    | some j =>
      obtain ⟨y1, y2, y3, y4⟩ := i3 j rfl
      have hj := hsi j y1
      change M.2 = (if M.1 = day then day else w.2.1 33 j) at i4
      show w.2.1 35 i + (w.2.1 35 j - w.2.1 35 i) * (day - w.2.1 33 i) / (w.2.1 33 j - w.2.1 33 i) = _
      by_cases g : M.1 = day
      · rw [if_pos g] at i4
        rw [if_neg (by omega), if_pos (Or.inr (Or.inr (by omega))), if_neg (by omega), z2, dr_both hS z5, show day - w.2.1 33 i = 0 by omega, Int.mul_zero, Int.zero_ediv, Int.add_zero]
      · rw [if_neg g] at i4
        rw [if_neg (by omega), if_neg (by omega), i4, z2, dr_both hS z5, dr_both hS y4]
