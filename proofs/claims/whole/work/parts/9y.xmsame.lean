/-! ===== the strings are the same ===== -/
def StE (w u : AW) (rn sn : Nat) : Prop := (∀ i, i < rn → w.2.1 29 i = u.2.1 460 i ∧ w.2.1 30 i = u.2.1 461 i ∧ w.2.1 31 i = u.2.1 462 i) ∧ (∀ i, i < sn → w.2.1 32 i = u.2.1 463 i ∧ w.2.1 33 i = u.2.1 464 i ∧ w.2.1 34 i = u.2.1 465 i) ∧
  (∀ i j, i ≤ j → j < rn → w.2.1 30 i ≤ w.2.1 30 j) ∧ (∀ i j, i ≤ j → j < sn → w.2.1 33 i ≤ w.2.1 33 j) ∧
  ∀ i, i < sn → ∃ m, lrF (w.2.1 29) (w.2.1 30) (w.2.1 32 i) (w.2.1 33 i) (w.2.1 33 i) rn = some m ∧ w.2.1 35 i = w.2.1 34 i - w.2.1 31 m
theorem lrF_c {a d a' d' : Nat → Int} {key f b : Int} : ∀ n : Nat, (∀ i, i < n → a i = a' i ∧ d i = d' i) → lrF a d key f b n = lrF a' d' key f b n
  | 0, _ => rfl
  | n + 1, h => by
    unfold lrF
    rw [(h n (by omega)).1, (h n (by omega)).2, lrF_c n (fun i hi => h i (by omega))]
theorem ldF_c {a d a' d' : Nat → Int} {key b : Int} : ∀ n : Nat, (∀ i, i < n → a i = a' i ∧ d i = d' i) → ldF a d key b n = ldF a' d' key b n
  | 0, _ => rfl
  | n + 1, h => by
    unfold ldF
    rw [(h n (by omega)).1, (h n (by omega)).2, ldF_c n (fun i hi => h i (by omega))]
theorem dfB_c {a d a' d' : Nat → Int} {key day b : Int} : ∀ n : Nat, (∀ i, i < n → a i = a' i ∧ d i = d' i) → dfB a d key day b n = dfB a' d' key day b n
  | 0, _ => rfl
  | n + 1, h => by
    unfold dfB
    rw [(h n (by omega)).1, (h n (by omega)).2, dfB_c n (fun i hi => h i (by omega))]
/-- a sounding's drift by M is the drift that X keeps -/
theorem dr_both {w u : AW} {rn sn : Nat} (hS : StE w u rn sn) {key z : Int} {i : Nat} (h : lrF (w.2.1 32) (w.2.1 33) key z z sn = some i) : drM u key z rn sn = w.2.1 35 i := by
  obtain ⟨s1, s2, -, -, s5⟩ := hS
  obtain ⟨h1, h2, h3, h4⟩ := lrF_lt sn i h
  obtain ⟨m, m1, m2⟩ := s5 i h1
  obtain ⟨h5, -⟩ := lrF_lt rn m m1
  have hz : w.2.1 33 i = z := by omega
  rw [hz, h2] at m1
  have e1 : lrF (u.2.1 463) (u.2.1 464) key z z sn = some i := by rw [← lrF_c (a := w.2.1 32) (d := w.2.1 33) sn (fun i hi => ⟨(s2 i hi).1, (s2 i hi).2.1⟩)]; exact h
  have e2 : lrF (u.2.1 460) (u.2.1 461) key z z rn = some m := by rw [← lrF_c (a := w.2.1 29) (d := w.2.1 30) rn (fun i hi => ⟨(s1 i hi).1, (s1 i hi).2.1⟩)]; exact m1
  unfold drM sdM rdM
  rw [roF_hit e1, roF_hit e2, m2, (s1 m h5).2.2, (s2 i h1).2.2]
