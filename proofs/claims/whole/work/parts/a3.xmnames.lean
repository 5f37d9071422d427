/-! ===== names by both ===== -/
theorem ru_both {w u : AW} {n : Nat → Nat} {q : Nat → Nat → Nat} {np L : Nat} (hL : L < 2) (hR : LkE w u n q np) (hp : PpE w u np) (hPI : MPI u np) : ∀ p, p ≤ np → runS w (q L) (rkF (u.2.1 429) L p) = ruM u L p
  | 0, _ => rfl
  | p + 1, h => by
    have ih := ru_both hL hR hp hPI p (by omega)
    obtain ⟨-, -, -, -, r10⟩ := hR L hL
    obtain ⟨-, -, -, -, p4, -, -⟩ := hp.1 p (by omega)
    have h01 := (hPI.2.2 p (by omega)).2.2.2.2.2.2.2.2
    have eM : ruM u L (p + 1) = ruM u L p + (if u.2.1 429 p = (L : Int) ∧ u.2.1 435 p ≠ 0 then 1 else 0) := rfl
    rw [eM]
    by_cases c : u.2.1 429 p = (L : Int)
    · rw [rk_s c]
      show runS w (q L) (rkF (u.2.1 429) L p) + w.2.1 (q L (rkF (u.2.1 429) L p)) 4 = _
      rw [ih, r10 p (by omega) c, p4]
      rcases h01 with e | e
      · rw [e, if_neg (fun z => z.2 rfl)]
      · rw [e, if_pos ⟨c, by decide⟩]
    · rw [rk_n c, ih, if_neg (fun z => c z.1), Int.add_zero]
theorem bv_both {w u : AW} {n : Nat → Nat} {q : Nat → Nat → Nat} {np S rn sn L : Nat} (hW : WI w n q S rn sn) (hL : L < 2) (hR : LkE w u n q np) (hp : PpE w u np) (hPI : MPI u np) : bvF w L n q S = if (baM u L np).1 = -2 then 999 else (baM u L np).1 := by
  obtain ⟨hX, hS, hl, -⟩ := hW
  obtain ⟨h1, h2, h3⟩ := hl L hL
  obtain ⟨a, b, c, d⟩ := DV_tk hX hL h1 h2 h3 hS hR hp hPI
  unfold bvF
  rw [db_both 365 1 _ _ a b c d]
  rfl
