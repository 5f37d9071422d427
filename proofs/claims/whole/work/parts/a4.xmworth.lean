/-! ===== names' worths by both ===== -/
theorem nm_both {w u : AW} {n : Nat → Nat} {q : Nat → Nat → Nat} {np S rn sn L : Nat} {hi : Int} (hW : WI w n q S rn sn) (hL : L < 2) (hR : LkE w u n q np) (hp : PpE w u np) (hPI : MPI u np) (hS : StE w u rn sn) (hd : w.2.1 0 13 = u.2.1 400 4) (hw : w.2.1 0 8 = u.2.1 400 43) : ∀ a, a ≠ 1 → nmF w L n q rn sn hi a = nmM u L np rn sn hi a := by
  intro a ha
  have hI : SI w rn sn := hW.2.2.2.1
  obtain ⟨-, ⟨-, r6, -⟩, -, rn9, -⟩ := hR L hL
  have e2 := ru_both hL hR hp hPI np (Nat.le_refl _)
  rw [← rn9] at e2
  unfold nmF nmM
  rw [ft_both hL hR hS hI hd 10, e2, r6, ds_both hL hR hS hI hd 10, hw, hd, if_neg (show ¬ a = 1 from ha)]
theorem nm_1 (u : AW) (L np rn sn : Nat) (hi : Int) : nmM u L np rn sn hi 1 = if (baM u L np).1 = -2 then 999 else (baM u L np).1 := rfl
