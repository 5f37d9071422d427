/-! ===== what X and M answer of days ahead ===== -/
theorem th_o (u : AW) {j : Nat} (h : j ≠ 400) : (th u).2.1 j = u.2.1 j := upI_o _ _ _ h
theorem DV_th {w u : AW} {n : Nat → Nat} {q : Nat → Nat → Nat} {np S rn sn L : Nat} (hW : WI w n q S rn sn) (hL : L < 2) (hR : LkE w u n q np) (hp : PpE w u np) (hPI : MPI u np) :
    LN (spW w n q S L) 2 ∧ PQ (spW w n q S L) 2 (n L) sq ∧ DV (spW w n q S L) (tkW (th u) L np) 2 L (n L) np sq ∧ ∀ p, p < np → 0 ≤ (tkW (th u) L np).2.1 423 p ∧ (tkW (th u) L np).2.1 423 p < 10 := by
  obtain ⟨hX, hS, hl, -⟩ := hW
  obtain ⟨h1, h2, h3⟩ := hl L hL
  exact DV_tk hX hL h1 h2 h3 hS (LkE_u (fun j hj => th_o u (by omega)) hR) (PpE_u (fun j hj => th_o u (by omega)) hp) hPI
theorem s_burst {w u : AW} {n : Nat → Nat} {q : Nat → Nat → Nat} {np S rn sn L : Nat} (hW : WI w n q S rn sn) (hL : L < 2) (hR : LkE w u n q np) (hp : PpE w u np) (hPI : MPI u np) : (dbF (n L) 365 1 (spW w n q S L)).1 = (baM (th u) L np).1 := by
  obtain ⟨a, b, c, d⟩ := DV_th hW hL hR hp hPI
  exact db_both 365 1 _ _ a b c d
theorem s_until {w u : AW} {n : Nat → Nat} {q : Nat → Nat → Nat} {np S rn sn L : Nat} {f : Int} (hW : WI w n q S rn sn) (hL : L < 2) (hR : LkE w u n q np) (hp : PpE w u np) (hPI : MPI u np) : (dfF (n L) f 366 0 (spW w n q S L)).1 = (duM L np f 365 0 (tkW (th u) L np)).1 := by
  obtain ⟨a, b, c, d⟩ := DV_th hW hL hR hp hPI
  exact df_both 365 0 _ _ a b c d
theorem s_full {w u : AW} {n : Nat → Nat} {q : Nat → Nat → Nat} {np S rn sn L : Nat} (hW : WI w n q S rn sn) (hL : L < 2) (hR : LkE w u n q np) (hp : PpE w u np) (hPI : MPI u np) : fullestF (w.2.1 (5 + L)) (w.2.1 (2 + L) 5) (w.2.1 (2 + L) 6) 10 = fhM (tkW (th u) L np) L := by
  have hD := DV_pz hL (LkE_u (v := th u) (fun j hj => th_o u (by omega)) hR) (PpE_u (v := th u) (fun j hj => th_o u (by omega)) hp)
  exact fh_both hD
theorem s_led {w u : AW} {n : Nat → Nat} {q : Nat → Nat → Nat} {np L : Nat} {a : Int} (hL : L < 2) (hR : LkE w u n q np) (ha : 0 ≤ a ∧ a < 6) : (if a = 4 then sumF (w.2.1 (5 + L)) 10 else if a = 5 then w.2.1 (2 + L) 14 else w.2.1 (2 + L) (10 + a.toNat)) = ledF u L a := by
  obtain ⟨r1, -, ⟨x0, x1, x2, x3, x4⟩, -⟩ := hR L hL
  unfold ledF
  rcases (show a = 0 ∨ a = 1 ∨ a = 2 ∨ a = 3 ∨ a = 4 ∨ a = 5 by omega) with rfl | rfl | rfl | rfl | rfl | rfl
  · exact x0
  · exact x1
  · exact x2
  · exact x3
  · exact sumF_A 10 (Nat.le_refl _) (fun i hi => (r1 i hi).1)
  · exact x4
