/-! ===== pipes moved and laid, by both ===== -/
section PIP2
variable {l : Launch} {ix : Nat} {w u w' u' : AW} {n n' : Nat → Nat} {q q' : Nat → Nat → Nat} {np np' S rn sn nv nr mk tl sz : Nat} {rp rc kf : Nat → Nat} {cl : Nat → List Int}
theorem MG_of (hN : ∀ L, L < 2 → LN w L) (hR : ∀ L, L < 2 → ∀ i, i < 10 → w.2.1 (5 + L) i = u.2.1 407 (10 * L + i) ∧ w.2.1 (8 + L) i = u.2.1 408 (10 * L + i) ∧ w.2.1 (11 + L) i = u.2.1 409 (10 * L + i)) : MG u := by
  intro k hk
  obtain ⟨h1, h2, h3, h4, h5, h6⟩ := (hN (k / 10) (by omega)).1 (k % 10) (by omega)
  obtain ⟨r1, r2, r3⟩ := hR (k / 10) (by omega) (k % 10) (by omega)
  have e : 10 * (k / 10) + k % 10 = k := by omega
  rw [e] at r1 r2 r3
  rw [r1] at h1 h2
  rw [r2] at h3 h4
  rw [r3] at h5 h6
  exact ⟨h1, h2, h3, h4, h5, h6⟩
theorem mvI_eq {z : Int} (hz : 0 ≤ z ∧ z < 10) : (max 0 (z - 1)).toNat + 1 = mvI z := by
  unfold mvI
  by_cases e : z = 0
  · rw [if_pos e]; omega
  · rw [if_neg e]; omega
theorem mvI_bd {z : Int} (hz : 0 ≤ z ∧ z < 10) : 1 ≤ mvI z ∧ mvI z < 10 := by
  unfold mvI
  split <;> omega
theorem mv1_o (w : AW) (p L : Nat) (z : Int) {j : Nat} (h0 : j ≠ 0) (h : j ≠ 50 + p) : (mv1 w p L z).2.1 j = w.2.1 j := by
  unfold mv1
  rw [sR_ne _ _ h, upI_o _ _ _ h0]
theorem mv1_p (w : AW) (p L : Nat) (z : Int) : (mv1 w p L z).2.1 (50 + p) = uI (uI (uI (w.2.1 (50 + p)) 1 z) 4 0) 6 (w.2.1 (50 + p) 6 + 1) := by
  unfold mv1
  rw [sR_at, upI_o _ _ _ (by omega)]
theorem mv1_0 (w : AW) (p L : Nat) (z : Int) {f : Nat} (h : f ≠ 14) : (mv1 w p L z).2.1 0 f = w.2.1 0 f := by
  unfold mv1
  rw [sR_ne _ _ (by omega), fne _ _ h]
theorem mv1_14 (w : AW) (p L : Nat) (z : Int) : (mv1 w p L z).2.1 0 14 = (L : Int) := by
  unfold mv1
  rw [sR_ne _ _ (by omega), feq]
theorem mvW_o (w : AW) (p L : Nat) (z : Int) {j : Nat} (h5 : j ≠ 5 + L) (h8 : j ≠ 8 + L) (h11 : j ≠ 11 + L) : (mvW w p L z).2.1 j = (mv1 w p L z).2.1 j := sR3_o _ h5 h8 h11 _ _ _
theorem mvW_r (w : AW) (p : Nat) {L : Nat} (hL : L < 2) (z : Int) : (mvW w p L z).2.1 (5 + L) = halfF (w.2.1 (5 + L)) (mvI z) ∧ (mvW w p L z).2.1 (8 + L) = halfF (w.2.1 (8 + L)) (mvI z) ∧ (mvW w p L z).2.1 (11 + L) = halfF (w.2.1 (11 + L)) (mvI z) := by
  unfold mvW
  rw [sR3_g _ (by omega), sR3_t _ (by omega), sR3_s, mv1_o _ _ _ _ (by omega) (by omega), mv1_o _ _ _ _ (by omega) (by omega), mv1_o _ _ _ _ (by omega) (by omega)]
  exact ⟨rfl, rfl, rfl⟩
theorem mp1_o (u : AW) (p L : Nat) (i : Int) {j : Nat} (h : j ≠ 400 ∧ j ≠ 430 ∧ j ≠ 435 ∧ j ≠ 434) : (mp1 u p L i).2.1 j = u.2.1 j := by
  unfold mp1
  rw [upI_o _ _ _ h.2.2.2, upI_o _ _ _ h.2.2.1, upI_o _ _ _ h.2.1, upI_o _ _ _ h.1]
theorem mpM_o (u : AW) (np p L : Nat) (i : Int) {j : Nat} (h : j ≠ 407 ∧ j ≠ 408 ∧ j ≠ 409 ∧ j ≠ 420 ∧ j ≠ 421 ∧ j ≠ 422 ∧ j ≠ 423 ∧ j ≠ 425) : (mpM u np p L i).2.1 j = (mp1 u p L i).2.1 j := by
  unfold mpM
  rw [lyW_o _ _ _ h.1 h.2.1 h.2.2.1]
  unfold mp2 sH
  rw [sR_ne _ _ h.2.2.2.2.2.1, sR_ne _ _ h.2.2.2.2.1, sR_ne _ _ h.2.2.2.1]
  exact tkW_o _ _ _ h.2.2.2.1 h.2.2.2.2.1 h.2.2.2.2.2.1 h.2.2.2.2.2.2.1 h.2.2.2.2.2.2.2
theorem mpM_r (u : AW) (np p L : Nat) (i : Int) : (mpM u np p L i).2.1 407 = lyF (u.2.1 407) (halfF (cpR ((mp1 u p L i).2.1 420) (fun j => u.2.1 407 (10 * L + j)) 10) ((max 0 (i - 1)).toNat + 1)) L 10 ∧ (mpM u np p L i).2.1 408 = lyF (u.2.1 408) (halfF (cpR ((mp1 u p L i).2.1 421) (fun j => u.2.1 408 (10 * L + j)) 10) ((max 0 (i - 1)).toNat + 1)) L 10 ∧ (mpM u np p L i).2.1 409 = lyF (u.2.1 409) (halfF (cpR ((mp1 u p L i).2.1 422) (fun j => u.2.1 409 (10 * L + j)) 10) ((max 0 (i - 1)).toNat + 1)) L 10 := ⟨rfl, rfl, rfl⟩
theorem GB_move {p L : Nat} {z : Int} (hp : p < np) (hL : L < 2) (hz : 0 ≤ z ∧ z < 10) (g : GB ix w u n q np S rn sn nv nr mk tl sz rp rc kf cl) : GB ix (mvW w p L z) (mpM u np p L z) n q np S rn sn nv nr mk tl sz rp rc kf cl := by
  have A := g.1
  obtain ⟨⟨a1, a2, a3, a4, a5, a6, a7⟩, B, C, D⟩ := A
  have hnp := a4.2.1
  obtain ⟨v1, v2⟩ := mvI_bd hz
  have o : ∀ j, j = 1 ∨ (2 ≤ j ∧ j ≤ 4) ∨ 14 ≤ j → j ≠ 50 + p → (mvW w p L z).2.1 j = w.2.1 j := fun j x y => (mvW_o w p L z (by omega) (by omega) (by omega)).trans (mv1_o w p L z (by omega) y)
  have f0 : ∀ f, f ≠ 14 → (mvW w p L z).2.1 0 f = w.2.1 0 f := fun f hf => by rw [mvW_o w p L z (by omega) (by omega) (by omega), mv1_0 w p L z hf]
  have f14 : (mvW w p L z).2.1 0 14 = (L : Int) := by rw [mvW_o w p L z (by omega) (by omega) (by omega), mv1_14]
  have rp' : (mvW w p L z).2.1 (50 + p) = uI (uI (uI (w.2.1 (50 + p)) 1 z) 4 0) 6 (w.2.1 (50 + p) 6 + 1) := by rw [mvW_o w p L z (by omega) (by omega) (by omega), mv1_p]
  obtain ⟨r5, r8, r11⟩ := mvW_r w p hL z
  have o' : ∀ j, (410 ≤ j ∧ j ≤ 419) ∨ (429 ≤ j ∧ j ≤ 433) ∨ 436 ≤ j → j ≠ 430 → (mpM u np p L z).2.1 j = u.2.1 j := fun j x y => (mpM_o u np p L z (by omega)).trans (mp1_o u p L z (by omega))
  have m400 : (mpM u np p L z).2.1 400 = (mp1 u p L z).2.1 400 := mpM_o u np p L z (by decide)
  have f' : ∀ f, f ≠ 6 → (mpM u np p L z).2.1 400 f = u.2.1 400 f := fun f hf => by
    rw [m400]
    unfold mp1
    rw [upI_o _ _ _ (by decide), upI_o _ _ _ (by decide), upI_o _ _ _ (by decide), fne _ _ hf]
  have f6 : (mpM u np p L z).2.1 400 6 = (L : Int) := by
    rw [m400]
    unfold mp1
    rw [upI_o _ _ _ (by decide), upI_o _ _ _ (by decide), upI_o _ _ _ (by decide), feq]
  have m430 : (mpM u np p L z).2.1 430 = uI (u.2.1 430) p z := (mpM_o u np p L z (by decide)).trans rfl
  have m435 : (mpM u np p L z).2.1 435 = uI (u.2.1 435) p 0 := (mpM_o u np p L z (by decide)).trans rfl
  have m434 : (mpM u np p L z).2.1 434 = uI (u.2.1 434) p (u.2.1 434 p + 1) := (mpM_o u np p L z (by decide)).trans rfl
  obtain ⟨m407, m408, m409⟩ := mpM_r u np p L z
  have hX : XS (mvW w p L z) := XS_of rfl rfl a1.1
  have rows : ∀ K, K < 2 → ∀ i, i < 10 → (mvW w p L z).2.1 (5 + K) i = (mpM u np p L z).2.1 407 (10 * K + i) ∧ (mvW w p L z).2.1 (8 + K) i = (mpM u np p L z).2.1 408 (10 * K + i) ∧ (mvW w p L z).2.1 (11 + K) i = (mpM u np p L z).2.1 409 (10 * K + i) := by
    intro K hK i hi
    have r1 := (a2 K hK).1
    rw [m407, m408, m409, mvI_eq hz]
    by_cases e : K = L
    · subst e
      rw [r5, r8, r11, lyF_at, lyF_at, lyF_at, if_pos (by omega), if_pos (by omega), if_pos (by omega), show 10 * K + i - 10 * K = i by omega]
      refine ⟨halfF_A (fun j hj => ?_) v2 i hi, halfF_A (fun j hj => ?_) v2 i hi, halfF_A (fun j hj => ?_) v2 i hi⟩
      · rw [(r1 j hj).1]; exact (if_pos hj).symm
      · rw [(r1 j hj).2.1]; exact (if_pos hj).symm
      · rw [(r1 j hj).2.2]; exact (if_pos hj).symm
    · rw [lyF_at, lyF_at, lyF_at, if_neg (by omega), if_neg (by omega), if_neg (by omega), mvW_o w p L z (by omega) (by omega) (by omega), mvW_o w p L z (by omega) (by omega) (by omega), mvW_o w p L z (by omega) (by omega) (by omega), mv1_o w p L z (by omega) (by omega), mv1_o w p L z (by omega) (by omega), mv1_o w p L z (by omega) (by omega)]
      exact r1 i hi
  have hLN : ∀ K, K < 2 → LN (mvW w p L z) K := by
    intro K hK
    have hN := (a1.2.2.1 K hK).1
    by_cases e : K = L
    · subst e
      unfold LN
      rw [r5, r8, r11, o (2 + K) (by omega) (by omega)]
      exact ⟨RB_half v1 v2 hN.1, hN.2⟩
    · exact LN_o hN (o (2 + K) (by omega) (by omega)) ((mvW_o w p L z (by omega) (by omega) (by omega)).trans (mv1_o w p L z (by omega) (by omega))) ((mvW_o w p L z (by omega) (by omega) (by omega)).trans (mv1_o w p L z (by omega) (by omega))) ((mvW_o w p L z (by omega) (by omega) (by omega)).trans (mv1_o w p L z (by omega) (by omega)))
  have hM : MR (mpM u np p L z) np rn sn := by
    obtain ⟨m1, m2, m3, m4, m5, m6, m7⟩ := C
    refine ⟨MS_of rfl rfl m1, MG_of hLN rows, MN_of (fun j _ _ => o' j (by omega) (by omega)) m3, ⟨by rw [f' 28 (by decide)]; exact m4.1, m4.2.1, fun k hk => ?_⟩, ?_, by rw [f' 4 (by decide)]; exact m6, by rw [f' 43 (by decide)]; exact m7⟩
    · rw [o' 429 (by decide) (by decide), m430, o' 431 (by decide) (by decide), o' 432 (by decide) (by decide), m435]
      obtain ⟨x1, x2, x3, x4, x5, x6, x7, x8, x9⟩ := m4.2.2 k hk
      by_cases e : k = p
      · subst e; rw [uI_at, uI_at]; exact ⟨x1, x2, hz.1, hz.2, x5, x6, x7, x8, Or.inl rfl⟩
      · rw [uI_ne _ _ e, uI_ne _ _ e]; exact ⟨x1, x2, x3, x4, x5, x6, x7, x8, x9⟩
    · unfold MSI; rw [f' 58 (by decide), f' 59 (by decide), o' 460 (by decide) (by decide), o' 461 (by decide) (by decide), o' 462 (by decide) (by decide), o' 463 (by decide) (by decide), o' 464 (by decide) (by decide), o' 465 (by decide) (by decide)]; exact m5
  refine GB_pip (w' := mvW w p L z) (u' := mpM u np p L z) g (fun _ _ => rfl) (fun _ _ => rfl) (fun j x y => ?_) (fun f hf => f0 f (by omega)) rfl rfl (fun j hj => o' j (by omega) (by omega)) (fun f hf => f' f (by omega)) ⟨⟨WI_pp a1 hX (SPI_of rfl rfl a1.2.1) (fun K hK => ⟨hLN K hK, by rw [o _ (by omega) (by omega)]⟩) (fun j j1 j2 hj => ?_) ⟨rfl, rfl⟩ (fun j _ _ => o j (by omega) (by omega)) (f0 13 (by decide)), fun K hK => ?_, ⟨fun k hk => ?_, fun k hk hk2 => ?_⟩, hM.2.2.2.1, StE_u (fun j _ _ => o' j (by omega) (by omega)) (StE_w (fun j _ _ => o j (by omega) (by omega)) a5), by rw [f0 13 (by decide), f' 4 (by decide)]; exact a6, by rw [f0 8 (by decide), f' 43 (by decide)]; exact a7⟩, ?_, hM, D.1, by rw [o 30 (by decide) (by omega), f0 13 (by decide)]; exact D.2.1, by rw [o 33 (by decide) (by omega), f0 13 (by decide)]; exact D.2.2⟩ ?_
  · by_cases e : j = 13
    · subst e
      exact (mvW_o w p L z (by omega) (by omega) (by omega)).trans (mv1_o w p L z (by omega) (by omega))
    · exact o j (by omega) (by omega)
  · by_cases e : j = 50 + p
    · subst e
      unfold pOK at hj ⊢
      rw [rp', uI_ne _ _ (by decide), uI_ne _ _ (by decide), uI_at, uI_ne _ _ (by decide), uI_ne _ _ (by decide), uI_ne _ _ (by decide), uI_ne _ _ (by decide), uI_ne _ _ (by decide), uI_ne _ _ (by decide), uI_ne _ _ (by decide), uI_at]
      exact ⟨hj.1, hj.2.1, hj.2.2.1, hz.1, hz.2, hj.2.2.2.2.2.1, hj.2.2.2.2.2.2.1, hj.2.2.2.2.2.2.2.1, hj.2.2.2.2.2.2.2.2.1, Or.inl rfl⟩
    · exact pOK_of (w := w) rfl (o j (by omega) e) hj
  · obtain ⟨-, r2, r3, r4, r5'⟩ := a2 K hK
    rw [o (2 + K) (by omega) (by omega), o' 410 (by decide) (by decide), o' 411 (by decide) (by decide), o' 412 (by decide) (by decide), o' 413 (by decide) (by decide), o' 414 (by decide) (by decide), o' 415 (by decide) (by decide), o' 416 (by decide) (by decide), o' 417 (by decide) (by decide), o' 418 (by decide) (by decide), o' 419 (by decide) (by decide), o' 429 (by decide) (by decide)]
    exact ⟨rows K hK, r2, r3, r4, r5'⟩
  · rw [o' 429 (by decide) (by decide), m430, o' 431 (by decide) (by decide), o' 432 (by decide) (by decide), o' 433 (by decide) (by decide), m434, m435]
    obtain ⟨x0, x1, x2, x3, x4, x5, x6⟩ := a3.1 k hk
    by_cases e : k = p
    · subst e
      rw [rp', uI_at (u.2.1 430), uI_at (u.2.1 435), uI_at (u.2.1 434), ← x6]
      exact ⟨x0, rfl, x2, x3, rfl, x5, rfl⟩
    · rw [o _ (by omega) (by omega), uI_ne _ _ e, uI_ne _ _ e, uI_ne _ _ e]
      exact ⟨x0, x1, x2, x3, x4, x5, x6⟩
  · rw [o' 433 (by decide) (by decide), m434, m435, uI_ne _ _ (by omega), uI_ne _ _ (by omega)]
    exact a3.2 k hk hk2
  · obtain ⟨b1, b2, b3, b4⟩ := B
    refine ⟨by rw [f0 3 (by decide)]; exact b1, b2, fun k hk => ?_, b4⟩
    obtain ⟨x1, x2, x3, x4, x5, x6, x7⟩ := b3 k hk
    refine ⟨x1, x2, ?_⟩
    by_cases e : k = p
    · subst e
      rw [rp']
      exact ⟨x3, x4, hz.1, hz.2, Or.inl rfl⟩
    · rw [o _ (by omega) (by omega)]
      exact ⟨x3, x4, x5, x6, x7⟩
  · refine ⟨by rw [f14, f6], by rw [f14]; omega, ?_⟩
    rw [f0 15 (by decide), f' 5 (by decide)]
    exact g.2.2.1.2.2
theorem K_move {a z : Int} (hR : REL ix w w) (ha : R32 a) (hz : R32 z) : CALL l ix w yX9_move cX9_move 5 8 yX12_move cX12_move 4 11 .boolean [ai a, ai z] := by
  obtain ⟨n, q, np, S, rn, sn, nv, nr, mk, tl, sz, rp, rc, kf, cl, A, b, c, d, e⟩ := hR
  have gb : GB ix w w n q np S rn sn nv nr mk tl sz rp rc kf cl := ⟨A, b, c, d⟩
  refine CALL_of (by decide) (by decide) (c_X9_move l w n q S rn sn nr rp rc cl np a z A.1.1 b.1.1 b.2.2.2.2.1.1 c.2.1 A.2.1 ha hz) fun r w1 hp => ?_
  obtain ⟨p1, p2, p3⟩ := hp
  have mm : ∀ {w1 : AW}, SMm w w1 → HT l yX12_move cX12_move 4 (some .boolean) 11 0 0 w1 [ar 400, ai a, ai z] _ := fun {w1} hm => c_X12_move l w1 np rn sn nr (mqF kf) cl a z (LG_m A hm).2.2.1 (GR_m b hm).1.2.1 ha hz (by
    have := (CRW_m c hm).1
    have := c.2.1
    exact ⟨by omega, by omega⟩)
  by_cases hr : 0 ≤ a ∧ a < (np : Int) ∧ 0 ≤ z ∧ z < 10
  · have hr' : (0 ≤ a ∧ a < (np : Int)) ∧ 0 ≤ z ∧ z < 10 := ⟨⟨hr.1, hr.2.1⟩, hr.2.2⟩
    have hap : a.toNat < np := by omega
    obtain ⟨q1, q2, q3⟩ := pip_lake A hap
    have q4 := (A.1.2.2.1.1 _ hap).2.1
    have hnp := A.2.1.2.1
    by_cases h4 : w.2.1 (50 + a.toNat) 1 = z
    · obtain ⟨hr1, hw1⟩ := p2 hr h4
      have hm : SMm w w1 := by rw [hw1]; exact SM_i (Or.inl (by decide))
      refine ⟨M400 (LG_m A hm), _, hr1, 0, 0, _, by decide, by decide, mm hm, fun r' u hp' => ?_⟩
      obtain ⟨y1, y2⟩ := hp'.2.1 hr' (by rw [(hm 430 (by decide) (by decide)).2.1, ← q4, h4])
      refine ⟨y1, ?_⟩
      rw [y2, hw1]
      exact fin_trb gb e (by decide) (by decide)
    · obtain ⟨v, S', bb, hC, f1, f2⟩ := p3 hr h4
      have hFS := hC.1
      have hHv := hC.2.2.1
      have h430 : ∀ {w1 : AW}, SMm w w1 → w1.2.1 430 a.toNat ≠ z := fun {w1} hm => by
        rw [(hm 430 (by decide) (by decide)).2.1, ← q4]
        exact h4
      have h429 : ∀ {w1 : AW}, SMm w w1 → w1.2.1 429 a.toNat = w.2.1 (50 + a.toNat) 0 := fun {w1} hm => by rw [(hm 429 (by decide) (by decide)).2.1, q1]
      have hb : ∀ {w1 : AW}, SMm w w1 → bb = mwM w1 np rn sn nr (mqF kf) cl (w1.2.1 429 a.toNat).toNat := fun {w1} hm => by
        rw [h429 hm]
        exact cg_both (LG_m A hm).1 (RuE_of (GR_m b hm).1) (show (w.2.1 (50 + a.toNat) 0).toNat < 2 by omega) (CRW_m c hm).1 hC
      cases bb with
      | false =>
        obtain ⟨hr1, hw1⟩ := f1 rfl
        have hm : SMm w w1 := by rw [hw1]; exact SM_tr (SM_fs hFS) (SM_i (Or.inl (by decide)))
        refine ⟨M400 (LG_m A hm), _, hr1, 0, 0, _, by decide, by decide, mm hm, fun r' u hp' => ?_⟩
        obtain ⟨u0, y0, y1, -⟩ := hp'.2.2 hr' (h430 hm)
        obtain ⟨y3, y4⟩ := y1 (hb hm).symm
        refine ⟨y3, ?_⟩
        rw [y4]
        refine fin_ft gb e hFS hHv ?_ (by decide) (by decide)
        rw [← hw1]
        exact QMs_tr (QMs_th w1) (QMs_MP y0)
      | true =>
        obtain ⟨hr1, hw1⟩ := f2 rfl
        have hL2 : (w.2.1 (50 + a.toNat) 0).toNat < 2 := by omega
        have hm0 : SMm v (mvW v a.toNat (w.2.1 (50 + a.toNat) 0).toNat z) := SM_of (fun _ _ _ => rfl) (fun j _ _ => (mvW_o _ _ _ _ (by omega) (by omega) (by omega)).trans (mv1_o _ _ _ _ (by omega) (by omega))) (fun _ _ _ => rfl)
        have hm : SMm w w1 := by
          rw [hw1]
          exact SM_tr (SM_fs hFS) (SM_tr hm0 (SM_i (Or.inl (by decide))))
        refine ⟨M400 (LG_m A hm), _, hr1, 0, 0, _, by decide, by decide, mm hm, fun r' u hp' => ?_⟩
        obtain ⟨u0, y0, -, y2⟩ := hp'.2.2 hr' (h430 hm)
        obtain ⟨y3, y4⟩ := y2 (hb hm).symm
        refine ⟨y3, ?_⟩
        rw [y4, h429 hm]
        have k := QMs_tr (QMs_th w1) (QMs_MP y0)
        have g1 := GB_q (GB_m (GB_fs gb hFS hHv) hm) k.1 k.2.1 k.2.2
        have g2 := GB_move (p := a.toNat) (L := (w.2.1 (50 + a.toNat) 0).toNat) hap hL2 hr'.2 g1
        have hsx : SX u0 (mpM u0 np a.toNat (w.2.1 (50 + a.toNat) 0).toNat z) := fun j hj => ⟨rfl, (mpM_o _ _ _ _ _ (by omega)).trans (mp1_o _ _ _ _ (by omega)), rfl⟩
        refine fin_w e hm g2 hw1 (SX_tr (SX_q k.1) hsx) ?_ ?_ (by decide) (by decide)
        · rw [mvW_o _ _ _ _ (by omega) (by omega) (by omega), mv1_o _ _ _ _ (by decide) (by omega), fsI hFS ⟨by decide, by decide, by decide, by decide, by decide⟩ (by decide) (by decide)]
        · rw [mpM_o _ _ _ _ _ (by decide)]
          unfold mp1
          rw [upI_o _ _ _ (by decide), upI_o _ _ _ (by decide), upI_o _ _ _ (by decide), fne _ _ (by decide), QM_g k.1 (by decide)]
  · have hr' : ¬ ((0 ≤ a ∧ a < (np : Int)) ∧ 0 ≤ z ∧ z < 10) := fun t => hr ⟨t.1.1, t.1.2, t.2⟩
    obtain ⟨hr1, hw1⟩ := p1 hr
    have hm : SMm w w1 := by rw [hw1]; exact SM_i (Or.inl (by decide))
    refine ⟨M400 (LG_m A hm), _, hr1, 0, 0, _, by decide, by decide, mm hm, fun r' u hp' => ?_⟩
    obtain ⟨y1, y2⟩ := hp'.1 hr'
    refine ⟨y1, ?_⟩
    rw [y2, hw1]
    exact fin_trb gb e (by decide) (by decide)
end PIP2
