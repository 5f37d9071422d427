/-! ===== the lakes' answers by both ===== -/
theorem hold_both {w u : AW} {n : Nat → Nat} {q : Nat → Nat → Nat} {np L i : Nat} (hL : L < 2) (hR : LkE w u n q np) : holdsW w L i = holdsM u L i := by
  obtain ⟨-, ⟨r5, r6, -⟩, -⟩ := hR L hL
  unfold holdsW holdsM
  rw [r5, r6]
theorem ft_both {w u : AW} {n : Nat → Nat} {q : Nat → Nat → Nat} {np rn sn L : Nat} (hL : L < 2) (hR : LkE w u n q np) (hS : StE w u rn sn) (hI : SI w rn sn) (hd : w.2.1 0 13 = u.2.1 400 4) : ∀ i, ftF w L rn sn i = ftM u L rn sn i
  | 0 => rfl
  | i + 1 => by
    have h := (tg_both (L := L) (i := i) (day := u.2.1 400 4) hS hI (hold_both (i := i) hL hR)).1
    unfold ftF ftM
    rw [ft_both hL hR hS hI hd i, hd, h, hold_both hL hR]
theorem of_both {w u : AW} {n : Nat → Nat} {q : Nat → Nat → Nat} {np rn sn L i : Nat} {a : Int} (hL : L < 2) (hi : i < 10) (hR : LkE w u n q np) (hS : StE w u rn sn) (hI : SI w rn sn) (hd : w.2.1 0 13 = u.2.1 400 4) (ha : 0 ≤ a ∧ a < 7) : ofF w L i a rn sn = ofM u L i a rn sn := by
  obtain ⟨r1, -⟩ := hR L hL
  obtain ⟨c1, c2, c3⟩ := r1 i hi
  obtain ⟨t1, t2⟩ := tg_both (L := L) (i := i) (day := u.2.1 400 4) hS hI (hold_both (i := i) hL hR)
  unfold ofF ofM
  rw [c1, c2, c3, hd, t1, t2, hold_both hL hR]
  rcases (show a = 0 ∨ a = 1 ∨ a = 2 ∨ a = 3 ∨ a = 4 ∨ a = 5 ∨ a = 6 by omega) with rfl | rfl | rfl | rfl | rfl | rfl | rfl <;> rfl
