/-! ===== days gone by, by X and by M ===== -/
theorem LkE_u {w u v : AW} {n : Nat → Nat} {q : Nat → Nat → Nat} {np : Nat} (h : ∀ j, (407 ≤ j ∧ j ≤ 419) ∨ j = 429 → v.2.1 j = u.2.1 j) (k : LkE w u n q np) : LkE w v n q np := by
  unfold LkE at k ⊢
  rw [h 407 (by omega), h 408 (by omega), h 409 (by omega), h 410 (by omega), h 411 (by omega), h 412 (by omega), h 413 (by omega), h 414 (by omega), h 415 (by omega), h 416 (by omega), h 417 (by omega), h 418 (by omega), h 419 (by omega), h 429 (by omega)]
  exact k
theorem PpE_u {w u v : AW} {np : Nat} (h : ∀ j, 429 ≤ j ∧ j ≤ 435 → v.2.1 j = u.2.1 j) (k : PpE w u np) : PpE w v np := by
  unfold PpE at k ⊢
  rw [h 429 (by omega), h 430 (by omega), h 431 (by omega), h 432 (by omega), h 433 (by omega), h 434 (by omega), h 435 (by omega)]
  exact k
theorem ps_both {w u : AW} {n : Nat → Nat} {q : Nat → Nat → Nat} {S rn sn np : Nat} (hW : WI w n q S rn sn) (hR : LkE w u n q np) (hp : PpE w u np) (hM : MS u) (hG : MG u) (hN : MN u) (hPI : MPI u np) : ∀ d : Nat,
    (psF w n q d).1 = (paM u np d).2.1 400 5 - u.2.1 400 5 ∧ LkE (psF w n q d).2 (paM u np d) n q np ∧ PpE (psF w n q d).2 (paM u np d) np
  | 0 => ⟨by show (0 : Int) = u.2.1 400 5 - u.2.1 400 5; omega, hR, hp⟩
  | d + 1 => by
    obtain ⟨i1, i2, i3⟩ := ps_both hW hR hp hM hG hN hPI d
    have hQ := QD_of hR
    have hWd := WI_ps hW hQ d
    obtain ⟨-, gG, gN, gP⟩ := paM_ok hM hG hN hPI d
    have hPs : psF w n q (d + 1) = ((psF w n q d).1 + (g2W (psF w n q d).2 n q).1, (g2W (psF w n q d).2 n q).2) := rfl
    have hMs : paM u np (d + 1) = upI (pzW (pzW (paM u np d) 0 np) 1 np) 400 4 ((paM u np d).2.1 400 4 + 1) := rfl
    rw [hPs, hMs]
    generalize psF w n q d = x at *
    generalize paM u np d = y at *
    obtain ⟨a1, a2, a3⟩ := pz_both (L := 0) (by decide) (hWd.2.2.1 0 (by decide)).2.1 i2 i3 gP
    obtain ⟨kG, kN, kP⟩ := pzW_ok (L := 0) (np := np) (by decide) gG gN gP
    have hW1 := WI_goW (L := 0) hWd hQ (by decide)
    obtain ⟨b1, b2, b3⟩ := pz_both (L := 1) (by decide) (hW1.2.2.1 1 (by decide)).2.1 a2 a3 kP
    have e0 := (pzW_b y 0 np).2.2
    have e1 := (pzW_b (pzW y 0 np) 1 np).2.2
    refine ⟨?_, LkE_u (fun j hj => upI_o _ _ _ (by omega)) b2, PpE_u (fun j hj => upI_o _ _ _ (by omega)) b3⟩
    show x.1 + (goB x.2 0 (n 0) (q 0) + goB (goW x.2 0 (n 0) (q 0)) 1 (n 1) (q 1)) = (pzW (pzW y 0 np) 1 np).2.1 400 5 - u.2.1 400 5
    rw [e1, e0, i1, a1, b1]
    omega
