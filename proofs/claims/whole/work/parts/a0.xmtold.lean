/-! ===== gas told by both ===== -/
theorem pr_both {w u : AW} {rn sn m : Nat} (hS : StE w u rn sn) (hI : SI w rn sn) {key z b : Int} (h : lrF (w.2.1 29) (w.2.1 30) key z z rn = some m) : prW w m b sn = prM u key z b rn sn := by
  obtain ⟨h1, h2, h3, h4⟩ := lrF_lt rn m h
  have hz : w.2.1 30 m = z := by omega
  have hr := hI.2.2.2.2.1 m h1
  have e2 : lrF (u.2.1 460) (u.2.1 461) key z z rn = some m := by rw [← lrF_c (a := w.2.1 29) (d := w.2.1 30) rn (fun i hi => ⟨(hS.1 i hi).1, (hS.1 i hi).2.1⟩)]; exact h
  unfold prW prM rdM
  rw [roF_hit e2, h2, hz, dw_both hS hI ⟨by omega, by omega⟩, (hS.1 m h1).2.2]
theorem tg_both {w u : AW} {rn sn L i : Nat} (hS : StE w u rn sn) (hI : SI w rn sn) {day holds : Int} (hh : holds = holdsM u L i) : tgW w ((L : Int) * 10 + (i : Int)) day holds rn sn = tgM u L i day rn sn ∧ (if laF w ((L : Int) * 10 + (i : Int)) day rn = none then (1 : Int) else 0) = deM u L i day rn := by
  have ek : (L : Int) * 10 + (i : Int) = kyM L i := by unfold kyM; omega
  rw [ek]
  have hI5 := hI.2.2.2.2.1
  obtain ⟨n1, n2⟩ := lr_ld (a := w.2.1 29) (d := w.2.1 30) (key := kyM L i) (f := day - 7 + 1) (b := day) rn hS.2.2.1 (fun i hi => (hI5 i hi).2.2.1)
  have el : ldM u (kyM L i) day rn = ldF (w.2.1 29) (w.2.1 30) (kyM L i) day rn := (ldF_c rn (fun i hi => ⟨(hS.1 i hi).1, (hS.1 i hi).2.1⟩)).symm
  unfold tgW tgM deM
  rw [el]
  cases hl : laF w (kyM L i) day rn with
  | none =>
    have := n1 hl
    have hc : ldF (w.2.1 29) (w.2.1 30) (kyM L i) day rn = -1 ∨ ldF (w.2.1 29) (w.2.1 30) (kyM L i) day rn ≤ day - 7 := by omega
    rw [if_pos hc]
    refine ⟨?_, ?_⟩
    · rw [if_pos rfl]
      exact hh
    · rw [if_pos rfl]
  | some m =>
    obtain ⟨a, b⟩ := n2 m hl
    obtain ⟨c1, c2, c3, c4⟩ := lrF_lt rn m hl
    have c5 := hI5 m c1
    have hc : ¬ (ldF (w.2.1 29) (w.2.1 30) (kyM L i) day rn = -1 ∨ ldF (w.2.1 29) (w.2.1 30) (kyM L i) day rn ≤ day - 7) := by
      rw [a]
      omega
    rw [if_neg hc]
    refine ⟨?_, ?_⟩
    · rw [if_neg (by decide), a]
      exact pr_both hS hI b
    · rw [if_neg (by intro q; cases q)]
