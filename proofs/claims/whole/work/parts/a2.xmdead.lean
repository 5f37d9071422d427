/-! ===== dead strings by both ===== -/
theorem ds_both {w u : AW} {n : Nat → Nat} {q : Nat → Nat → Nat} {np rn sn L : Nat} (hL : L < 2) (hR : LkE w u n q np) (hS : StE w u rn sn) (hI : SI w rn sn) (hd : w.2.1 0 13 = u.2.1 400 4) : ∀ i, dsF w L rn i = deS u L rn i
  | 0 => rfl
  | i + 1 => by
    have h := (tg_both (L := L) (i := i) (day := u.2.1 400 4) hS hI (hold_both (i := i) hL hR)).2
    have ih := ds_both hL hR hS hI hd i
    unfold dsF deS
    rw [ih, hd, ← h]
