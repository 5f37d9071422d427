/-! ===== calls of both that tell: wind, layer, set, height, land ===== -/
section TELL
variable {l : Launch} {ix : Nat} {w u : AW} {n : Nat → Nat} {q : Nat → Nat → Nat} {np S rn sn nv nr mk tl sz : Nat} {rp rc kf : Nat → Nat} {cl : Nat → List Int}
theorem fin_w {w1 y v : AW} {z : Int} (e : TRB w w) (hm : SMm w w1) (g2 : GB ix y v n q np S rn sn nv nr mk tl sz rp rc kf cl) (e1 : w1 = upI y 0 16 z) (hs : SX w1 v) (e20 : y.2.1 20 5 = w.2.1 20 5) (e3 : v.2.1 400 3 = w1.2.1 400 3) (hz : 0 ≤ z ∧ z ≤ 6) (h4 : z ≠ 4) : REL (ix + 1) (tM v z) (tM v z) :=
  fin_t g2 e1 hs (by rw [e20, e.2.2.2.2, e3, (hm 400 (by decide) (by decide)).2.1]) hz h4
theorem GB_mth {w1 : AW} (g : GB ix w w n q np S rn sn nv nr mk tl sz rp rc kf cl) (hm : SMm w w1) : GB ix w (th w1) n q np S rn sn nv nr mk tl sz rp rc kf cl := GB_q (GB_m g hm) (QM_th w1) rfl rfl
theorem th3 (w1 : AW) : (th w1).2.1 400 3 = w1.2.1 400 3 := rfl
theorem fne (w : AW) {k f g : Nat} (z : Int) (h : g ≠ f) : (upI w k f z).2.1 k g = w.2.1 k g := by rw [upI_at]; exact if_neg h
theorem feq (w : AW) (k f : Nat) (z : Int) : (upI w k f z).2.1 k f = z := by rw [upI_at]; exact if_pos rfl
theorem MR_o2 {v : AW} (h : MR u np rn sn) (hM : MS v) (hG : MG v) (hN : MN v) (h1 : ∀ j, (429 ≤ j ∧ j ≤ 435) ∨ (460 ≤ j ∧ j ≤ 465) → v.2.1 j = u.2.1 j) (hf : ∀ f, f = 4 ∨ f = 28 ∨ f = 43 ∨ f = 58 ∨ f = 59 → v.2.1 400 f = u.2.1 400 f) : MR v np rn sn := by
  obtain ⟨-, b, c, d, e, f, g⟩ := h
  unfold MR MPI MSI
  rw [hf 28 (by decide), hf 4 (by decide), hf 43 (by decide), hf 58 (by decide), hf 59 (by decide), h1 429 (by decide), h1 430 (by decide), h1 431 (by decide), h1 432 (by decide), h1 435 (by decide), h1 460 (by decide), h1 461 (by decide), h1 462 (by decide), h1 463 (by decide), h1 464 (by decide), h1 465 (by decide)]
  exact ⟨hM, hG, hN, d, e, f, g⟩
/-- the rest is kept where no row of its changes -/
theorem GR_s {v : AW} (h : GR ix w u nv nr mk tl sz rp rc kf cl) (h1 : v.1 = w.1) (h2 : v.2.2 = w.2.2) (ho : ∀ j, j = 18 ∨ j = 20 ∨ j = 21 ∨ j = 26 ∨ (36 ≤ j ∧ j ≤ 41) ∨ (60 ≤ j ∧ j < 80) ∨ 2000 ≤ j → v.2.1 j = w.2.1 j) (h12 : v.2.1 0 12 = w.2.1 0 12) (h8 : v.2.1 0 8 = w.2.1 0 8) : GR ix v u nv nr mk tl sz rp rc kf cl := by
  refine GR_x h (CI_o h.2.2.1.1 (XS_of h1 h2 h.2.2.1.1.1) (ho 40 (by decide)) (ho 41 (by decide)) (ho 37 (by decide)) (ho 39 (by decide))) ⟨?_, ?_⟩ (ho 20 (by decide)) (fun j hj => ho j (by omega)) h12 (fun _ _ => by rw [h1]) (fun _ _ => by rw [h2])
  · unfold HB
    rw [ho 26 (by decide), h8]
    exact h.2.2.2.2.1.1
  · rw [ho 18 (by decide)]
    exact h.2.2.2.2.1.2
theorem GB_wind {v : Int} (hv : 0 ≤ v ∧ v ≤ 99) (g : GB ix w u n q np S rn sn nv nr mk tl sz rp rc kf cl) : GB ix (upI w 0 8 v) (upI u 400 43 v) n q np S rn sn nv nr mk tl sz rp rc kf cl := by
  obtain ⟨⟨⟨a1, a2, a3, a4, a5, a6, a7⟩, B, C, D⟩, G, R, P⟩ := g
  have o : ∀ j, j ≠ 0 → (upI w 0 8 v).2.1 j = w.2.1 j := fun j hj => upI_o _ _ _ hj
  have f := fun (g : Nat) (hg : g ≠ 8) => fne w (k := 0) (f := 8) v hg
  have o' : ∀ j, j ≠ 400 → (upI u 400 43 v).2.1 j = u.2.1 j := fun j hj => upI_o _ _ _ hj
  have f' := fun (g : Nat) (hg : g ≠ 43) => fne u (k := 400) (f := 43) v hg
  have hM : MR (upI u 400 43 v) np rn sn := by
    obtain ⟨m1, m2, m3, m4, m5, m6, m7⟩ := C
    refine ⟨MS_of rfl rfl m1, ?_, MN_of (fun j _ _ => o' j (by omega)) m3, ?_, ?_, ?_, ?_⟩
    · unfold MG; rw [o' 407 (by decide), o' 408 (by decide), o' 409 (by decide)]; exact m2
    · unfold MPI; rw [f' 28 (by decide), o' 429 (by decide), o' 430 (by decide), o' 431 (by decide), o' 432 (by decide), o' 435 (by decide)]; exact m4
    · unfold MSI; rw [f' 58 (by decide), f' 59 (by decide), o' 460 (by decide), o' 461 (by decide), o' 462 (by decide), o' 463 (by decide), o' 464 (by decide), o' 465 (by decide)]; exact m5
    · rw [f' 4 (by decide)]; exact m6
    · rw [feq]; exact hv
  refine ⟨⟨⟨WI_o a1 (XS_of rfl rfl a1.1) (SPI_of rfl rfl a1.2.1) (fun j _ _ _ => o j (by omega)) (fun j _ _ => ⟨o j (by omega), rfl⟩) ⟨rfl, rfl⟩ (fun j _ _ => o j (by omega)) (f 13 (by decide)), LkE_u (fun j _ => o' j (by omega)) (LkE_w (fun j _ _ => o j (by omega)) a2), PpE_u (fun j _ => o' j (by omega)) (PpE_w a4.2.1 (fun j _ _ => o j (by omega)) a3), hM.2.2.2.1, StE_u (fun j _ _ => o' j (by omega)) (StE_w (fun j _ _ => o j (by omega)) a5), ?_, ?_⟩, PI_o B (fun j _ _ => ⟨o j (by omega), rfl⟩) rfl (f 3 (by decide)), hM, D.1, ?_, ?_⟩, ?_, CRW_u (CRW_x R (f 14 (by decide)) (f 15 (by decide))) (f' 6 (by decide)) (f' 5 (by decide)), PLN_u (PLN_x P (f 6 (by decide)) (o 19 (by decide))) (f' 40 (by decide)) (o' 441 (by decide))⟩
  · rw [f 13 (by decide), f' 4 (by decide)]; exact a6
  · rw [feq, feq]
  · rw [o 30 (by decide), f 13 (by decide)]; exact D.2.1
  · rw [o 33 (by decide), f 13 (by decide)]; exact D.2.2
  · refine GR_u (GR_x G (CI_o G.2.2.1.1 (XS_of rfl rfl a1.1) (o 40 (by decide)) (o 41 (by decide)) (o 37 (by decide)) (o 39 (by decide))) ⟨?_, ?_⟩ (o 20 (by decide)) (fun j _ => o j (by omega)) (f 12 (by decide)) (fun _ _ => rfl) (fun _ _ => rfl)) (fun g hg => f' g (by omega)) rfl (fun j _ => o' j (by omega)) (fun _ _ _ => ⟨rfl, rfl⟩)
    · unfold HB
      rw [o 26 (by decide), feq]
      exact ⟨G.2.2.2.2.1.1.1, hv⟩
    · rw [o 18 (by decide)]
      exact G.2.2.2.2.1.2
theorem K_wind {v : Int} (hR : REL ix w w) (hv : R32 v) : CALL l ix w yX9_wind cX9_wind 2 2 yX12_wind cX12_wind 2 2 .boolean [ai v] := by
  obtain ⟨n, q, np, S, rn, sn, nv, nr, mk, tl, sz, rp, rc, kf, cl, A, b, c, d, e⟩ := hR
  have g : GB ix w w n q np S rn sn nv nr mk tl sz rp rc kf cl := ⟨A, b, c, d⟩
  refine CALL_of (by decide) (by decide) (c_X9_wind l w v A.1.1.1 hv) fun r w1 hp => ?_
  obtain ⟨p1, p2⟩ := hp
  have hm : SMm w w1 := by
    by_cases hr : 0 ≤ v ∧ v ≤ 99
    · rw [(p2 hr).2]; exact SM_tr (SM_i (Or.inl (by decide))) (SM_i (Or.inl (by decide)))
    · rw [(p1 hr).2]; exact SM_i (Or.inl (by decide))
  have A1 := LG_m A hm
  by_cases hr : 0 ≤ v ∧ v ≤ 99
  · obtain ⟨hr1, hw1⟩ := p2 hr
    refine ⟨M400 A1, _, hr1, 0, 0, _, by decide, by decide, c_X12_wind l w1 v A1.2.2.1.1 hv, fun r' u hp' => ⟨?_, ?_⟩⟩
    · rw [hp'.1, if_pos hr]
    · rw [hp'.2, if_pos hr]
      exact fin_w e hm (GB_wind hr (GB_mth g hm)) hw1 (SX_tr (SX_i (by decide)) (SX_i (by decide))) (by rw [upI_o _ _ _ (by decide)]) (fne _ _ (by decide)) (by decide) (by decide)
  · obtain ⟨hr1, hw1⟩ := p1 hr
    refine ⟨M400 A1, _, hr1, 0, 0, _, by decide, by decide, c_X12_wind l w1 v A1.2.2.1.1 hv, fun r' u hp' => ⟨?_, ?_⟩⟩
    · rw [hp'.1, if_neg hr]
    · rw [hp'.2, if_neg hr, hw1]
      exact fin_trb g e (by decide) (by decide)
theorem tlW_r (w : AW) (L i : Nat) (g t s : Int) : (tlW w L i g t s).2.1 (2 + L) = uI (w.2.1 (2 + L)) 10 (w.2.1 (2 + L) 10 + (g - w.2.1 (5 + L) i)) ∧ (tlW w L i g t s).2.1 (5 + L) = uI (w.2.1 (5 + L)) i g ∧ (tlW w L i g t s).2.1 (8 + L) = uI (w.2.1 (8 + L)) i t ∧ (tlW w L i g t s).2.1 (11 + L) = uI (w.2.1 (11 + L)) i s := by
  unfold tlW
  refine ⟨?_, ?_, ?_, ?_⟩
  · rw [sR_ne _ _ (by omega), sR_ne _ _ (by omega), sR_ne _ _ (by omega), sR_at]
  · rw [sR_ne _ _ (by omega), sR_ne _ _ (by omega), sR_at]
  · rw [sR_ne _ _ (by omega), sR_at]
  · rw [sR_at]
theorem tlW_o (w : AW) (L i : Nat) (g t s : Int) {j : Nat} (h2 : j ≠ 2 + L) (h5 : j ≠ 5 + L) (h8 : j ≠ 8 + L) (h11 : j ≠ 11 + L) : (tlW w L i g t s).2.1 j = w.2.1 j := by
  unfold tlW
  rw [sR_ne _ _ h11, sR_ne _ _ h8, sR_ne _ _ h5, sR_ne _ _ h2]
theorem layW_r (u : AW) (L i : Nat) (g t s : Int) : (layW u (L : Int) (i : Int) g t s).2.1 415 = uI (u.2.1 415) L (u.2.1 415 L + (g - u.2.1 407 (10 * L + i))) ∧ (layW u (L : Int) (i : Int) g t s).2.1 407 = uI (u.2.1 407) (10 * L + i) g ∧ (layW u (L : Int) (i : Int) g t s).2.1 408 = uI (u.2.1 408) (10 * L + i) t ∧ (layW u (L : Int) (i : Int) g t s).2.1 409 = uI (u.2.1 409) (10 * L + i) s := by
  unfold layW
  rw [show (10 * (L : Int) + (i : Int)).toNat = 10 * L + i by omega, Int.toNat_natCast]
  exact ⟨rfl, rfl, rfl, rfl⟩
theorem layW_o (u : AW) (z i g t s : Int) {j : Nat} (h : j ≠ 415 ∧ j ≠ 407 ∧ j ≠ 408 ∧ j ≠ 409) : (layW u z i g t s).2.1 j = u.2.1 j := by
  unfold layW
  rw [upI_o _ _ _ h.2.2.2, upI_o _ _ _ h.2.2.1, upI_o _ _ _ h.2.1, upI_o _ _ _ h.1]
theorem GB_layer {L i : Nat} {g t s : Int} (hL : L < 2) (hi : i < 10) (hg : 0 ≤ g ∧ g ≤ 100000) (ht : 0 ≤ t ∧ t ≤ 400) (hs : 0 ≤ s ∧ s ≤ 1000) (G : GB ix w u n q np S rn sn nv nr mk tl sz rp rc kf cl) : GB ix (tlW w L i g t s) (layW u (L : Int) (i : Int) g t s) n q np S rn sn nv nr mk tl sz rp rc kf cl := by
  obtain ⟨⟨⟨a1, a2, a3, a4, a5, a6, a7⟩, B, C, D⟩, G, R, P⟩ := G
  have o : ∀ j, j < 2 ∨ 13 ≤ j → (tlW w L i g t s).2.1 j = w.2.1 j := fun j hj => tlW_o w L i g t s (by omega) (by omega) (by omega) (by omega)
  have o' : ∀ j, j ≠ 415 ∧ j ≠ 407 ∧ j ≠ 408 ∧ j ≠ 409 → (layW u (L : Int) (i : Int) g t s).2.1 j = u.2.1 j := fun j hj => layW_o u _ _ g t s hj
  obtain ⟨x2, x5, x8, x11⟩ := tlW_r w L i g t s
  obtain ⟨m15, m7, m8, m9⟩ := layW_r u L i g t s
  have f' : (layW u (L : Int) (i : Int) g t s).2.1 400 = u.2.1 400 := o' 400 (by decide)
  have hM : MR (layW u (L : Int) (i : Int) g t s) np rn sn := by
    refine MR_o2 C (MS_of rfl rfl C.1) (fun k hk => ?_) (MN_of (fun j _ _ => o' j (by omega)) C.2.2.1) (fun j _ => o' j (by omega)) (fun f _ => by rw [f'])
    rw [m7, m8, m9]
    by_cases e : k = 10 * L + i
    · subst e
      rw [uI_at, uI_at, uI_at]
      exact ⟨hg.1, hg.2, ht.1, ht.2, hs.1, hs.2⟩
    · rw [uI_ne _ _ e, uI_ne _ _ e, uI_ne _ _ e]
      exact C.2.1 k hk
  have e0 := o 0 (by decide)
  refine ⟨⟨⟨WI_layer a1 hL hi hg ht hs, fun K hK => ?_, PpE_u (fun j _ => o' j (by omega)) (PpE_w a4.2.1 (fun j _ _ => o j (by omega)) a3), hM.2.2.2.1, StE_u (fun j _ _ => o' j (by omega)) (StE_w (fun j _ _ => o j (by omega)) a5), by rw [e0, f']; exact a6, by rw [e0, f']; exact a7⟩, PI_o B (fun j _ _ => ⟨o j (by omega), rfl⟩) rfl (by rw [e0]), hM, D.1, by rw [o 30 (by decide), e0]; exact D.2.1, by rw [o 33 (by decide), e0]; exact D.2.2⟩, GR_u (GR_s G rfl rfl (fun j _ => o j (by omega)) (by rw [e0]) (by rw [e0])) (fun f _ => by rw [f']) rfl (fun j _ => o' j (by omega)) (fun _ _ _ => ⟨rfl, rfl⟩), CRW_u (CRW_x R (by rw [e0]) (by rw [e0])) (by rw [f']) (by rw [f']), PLN_u (PLN_x P (by rw [e0]) (o 19 (by decide))) (by rw [f']) (o' 441 (by decide))⟩
  obtain ⟨r1, r2, r3, r4, r5⟩ := a2 K hK
  rw [o' 410 (by decide), o' 411 (by decide), o' 412 (by decide), o' 413 (by decide), o' 414 (by decide), o' 416 (by decide), o' 417 (by decide), o' 418 (by decide), o' 419 (by decide), o' 429 (by decide)]
  by_cases e : K = L
  · subst e
    refine ⟨fun j hj => ?_, ?_, ?_, r4, r5⟩
    · rw [x5, x8, x11, m7, m8, m9]
      by_cases e : j = i
      · subst e
        rw [uI_at, uI_at, uI_at, uI_at, uI_at, uI_at]
        exact ⟨rfl, rfl, rfl⟩
      · rw [uI_ne _ _ e, uI_ne _ _ e, uI_ne _ _ e, uI_ne _ _ (show 10 * K + j ≠ 10 * K + i by omega), uI_ne _ _ (show 10 * K + j ≠ 10 * K + i by omega), uI_ne _ _ (show 10 * K + j ≠ 10 * K + i by omega)]
        exact r1 j hj
    · rw [x2, uI_ne _ _ (by decide), uI_ne _ _ (by decide), uI_ne _ _ (by decide), uI_ne _ _ (by decide), uI_ne _ _ (by decide)]
      exact r2
    · rw [x2, uI_at, uI_ne _ _ (by decide), uI_ne _ _ (by decide), uI_ne _ _ (by decide), uI_ne _ _ (by decide), m15, uI_at, r3.1, (r1 i hi).1]
      exact ⟨rfl, r3.2⟩
  · rw [tlW_o w L i g t s (j := 5 + K) (by omega) (by omega) (by omega) (by omega), tlW_o w L i g t s (j := 8 + K) (by omega) (by omega) (by omega) (by omega), tlW_o w L i g t s (j := 11 + K) (by omega) (by omega) (by omega) (by omega), tlW_o w L i g t s (j := 2 + K) (by omega) (by omega) (by omega) (by omega), m7, m8, m9, m15, uI_ne _ _ e]
    refine ⟨fun j hj => ?_, r2, r3, r4, r5⟩
    rw [uI_ne _ _ (show 10 * K + j ≠ 10 * L + i by omega), uI_ne _ _ (show 10 * K + j ≠ 10 * L + i by omega), uI_ne _ _ (show 10 * K + j ≠ 10 * L + i by omega)]
    exact r1 j hj
theorem K_layer {z i g t s : Int} (hR : REL ix w w) (hz : R32 z) (hi : R32 i) (hg : R32 g) (ht : R32 t) (hs : R32 s) : CALL l ix w yX9_layer cX9_layer 7 3 yX12_layer cX12_layer 7 3 .boolean [ai z, ai i, ai g, ai t, ai s] := by
  obtain ⟨n, q, np, S, rn, sn, nv, nr, mk, tl, sz, rp, rc, kf, cl, A, b, c, d, e⟩ := hR
  have gb : GB ix w w n q np S rn sn nv nr mk tl sz rp rc kf cl := ⟨A, b, c, d⟩
  refine CALL_of (by decide) (by decide) (c_X9_layer l w n q S rn sn z i g t s A.1.1 hz hi hg ht hs) fun r w1 hp => ?_
  obtain ⟨p1, p2, p3⟩ := hp
  by_cases hr : 0 ≤ z ∧ z < 2 ∧ 0 ≤ i ∧ i < 10
  · have hr' : (0 ≤ z ∧ z < 2) ∧ 0 ≤ i ∧ i < 10 := ⟨⟨hr.1, hr.2.1⟩, hr.2.2⟩
    by_cases hk : 0 ≤ g ∧ g ≤ 100000 ∧ 0 ≤ t ∧ t ≤ 400 ∧ 0 ≤ s ∧ s ≤ 1000
    · have hk' : (0 ≤ g ∧ g ≤ 100000) ∧ (0 ≤ t ∧ t ≤ 400) ∧ 0 ≤ s ∧ s ≤ 1000 := ⟨⟨hk.1, hk.2.1⟩, ⟨hk.2.2.1, hk.2.2.2.1⟩, hk.2.2.2.2⟩
      obtain ⟨hr1, hw1⟩ := p3 hr hk
      have hm : SMm w w1 := by
        rw [hw1]
        exact SM_tr (u := tlW w z.toNat i.toNat g t s) (SM_of (fun _ _ _ => rfl) (fun j h1 h2 => tlW_o _ _ _ _ _ _ (by omega) (by omega) (by omega) (by omega)) (fun _ _ _ => rfl)) (SM_i (Or.inl (by decide)))
      have A1 := LG_m A hm
      refine ⟨M400 A1, _, hr1, 0, 0, _, by decide, by decide, c_X12_layer l w1 z i g t s A1.2.2.1.1 hz hi hg ht hs, fun r' u hp' => ⟨?_, ?_⟩⟩
      · rw [hp'.1, if_pos hr', if_pos hk']
      · rw [hp'.2, if_pos hr', if_pos hk']
        have g2 := GB_layer (L := z.toNat) (i := i.toNat) (show z.toNat < 2 by omega) (show i.toNat < 10 by omega) hk'.1 hk'.2.1 hk'.2.2 (GB_mth gb hm)
        rw [show ((z.toNat : Nat) : Int) = z by omega, show ((i.toNat : Nat) : Int) = i by omega] at g2
        refine fin_w e hm g2 hw1 (SX_tr (SX_i (by decide)) (fun j hj => ⟨rfl, layW_o _ _ _ _ _ _ (by omega), rfl⟩)) (by rw [tlW_o _ _ _ _ _ _ (by omega) (by omega) (by omega) (by omega)]) (by rw [layW_o _ _ _ _ _ _ (by decide)]; rfl) (by decide) (by decide)
    · have hk' : ¬ ((0 ≤ g ∧ g ≤ 100000) ∧ (0 ≤ t ∧ t ≤ 400) ∧ 0 ≤ s ∧ s ≤ 1000) := fun k => hk ⟨k.1.1, k.1.2, k.2.1.1, k.2.1.2, k.2.2⟩
      obtain ⟨hr1, hw1⟩ := p2 hr hk
      have hm : SMm w w1 := by rw [hw1]; exact SM_i (Or.inl (by decide))
      have A1 := LG_m A hm
      refine ⟨M400 A1, _, hr1, 0, 0, _, by decide, by decide, c_X12_layer l w1 z i g t s A1.2.2.1.1 hz hi hg ht hs, fun r' u hp' => ⟨?_, ?_⟩⟩
      · rw [hp'.1, if_pos hr', if_neg hk']
      · rw [hp'.2, if_pos hr', if_neg hk', hw1]
        exact fin_trb gb e (by decide) (by decide)
  · have hr' : ¬ ((0 ≤ z ∧ z < 2) ∧ 0 ≤ i ∧ i < 10) := fun k => hr ⟨k.1.1, k.1.2, k.2⟩
    obtain ⟨hr1, hw1⟩ := p1 hr
    have hm : SMm w w1 := by rw [hw1]; exact SM_i (Or.inl (by decide))
    have A1 := LG_m A hm
    refine ⟨M400 A1, _, hr1, 0, 0, _, by decide, by decide, c_X12_layer l w1 z i g t s A1.2.2.1.1 hz hi hg ht hs, fun r' u hp' => ⟨?_, ?_⟩⟩
    · rw [hp'.1, if_neg hr']
    · rw [hp'.2, if_neg hr', hw1]
      exact fin_trb gb e (by decide) (by decide)
theorem GB_set {L a : Nat} {v : Int} (hL : L < 2) (ha : a < 5) (hv : lakLo (a : Int) ≤ v ∧ v ≤ lakHi (a : Int)) (G : GB ix w u n q np S rn sn nv nr mk tl sz rp rc kf cl) : GB ix (upI w (2 + L) (5 + a) v) (upI u (410 + a) L v) n q np S rn sn nv nr mk tl sz rp rc kf cl := by
  obtain ⟨⟨⟨a1, a2, a3, a4, a5, a6, a7⟩, B, C, D⟩, G, R, P⟩ := G
  have o : ∀ j, j ≠ 2 + L → (upI w (2 + L) (5 + a) v).2.1 j = w.2.1 j := fun j hj => upI_o _ _ _ hj
  have o' : ∀ j, j ≠ 410 + a → (upI u (410 + a) L v).2.1 j = u.2.1 j := fun j hj => upI_o _ _ _ hj
  have r2 : ∀ f, f ≠ 5 + a → (upI w (2 + L) (5 + a) v).2.1 (2 + L) f = w.2.1 (2 + L) f := fun f hf => fne _ _ hf
  have hv5 : (a = 0 → 1 ≤ v ∧ v ≤ 10000) ∧ (a = 1 → 0 ≤ v ∧ v ≤ 20000) ∧ (a = 2 → 0 ≤ v ∧ v ≤ 10000) ∧ (a = 3 → 2 ≤ v ∧ v ≤ 1000) ∧ (a = 4 → 0 ≤ v ∧ v ≤ 399) := by
    refine ⟨?_, ?_, ?_, ?_, ?_⟩ <;> (intro e; subst e; exact hv)
  have f' : (upI u (410 + a) L v).2.1 400 = u.2.1 400 := o' 400 (by omega)
  have hM : MR (upI u (410 + a) L v) np rn sn := by
    refine MR_o2 C (MS_of rfl rfl C.1) ?_ (fun K hK => ?_) (fun j hj => o' j (by omega)) (fun f _ => by rw [f'])
    · unfold MG
      rw [o' 407 (by omega), o' 408 (by omega), o' 409 (by omega)]
      exact C.2.1
    · have h := C.2.2.1 K hK
      by_cases e : K = L
      · subst e
        rcases (show a = 0 ∨ a = 1 ∨ a = 2 ∨ a = 3 ∨ a = 4 by omega) with rfl | rfl | rfl | rfl | rfl
        · rw [o' 411 (by decide), o' 412 (by decide), o' 413 (by decide), o' 414 (by decide), feq]; have := hv5.1 rfl; omega
        · rw [o' 410 (by decide), o' 412 (by decide), o' 413 (by decide), o' 414 (by decide), feq]; have := hv5.2.1 rfl; omega
        · rw [o' 410 (by decide), o' 411 (by decide), o' 413 (by decide), o' 414 (by decide), feq]; have := hv5.2.2.1 rfl; omega
        · rw [o' 410 (by decide), o' 411 (by decide), o' 412 (by decide), o' 414 (by decide), feq]; have := hv5.2.2.2.1 rfl; omega
        · rw [o' 410 (by decide), o' 411 (by decide), o' 412 (by decide), o' 413 (by decide), feq]; have := hv5.2.2.2.2 rfl; omega
      · have t : ∀ j, (upI u (410 + a) L v).2.1 j K = u.2.1 j K := fun j => by
          by_cases k : j = 410 + a
          · subst k; exact fne _ _ e
          · rw [o' j k]
        rw [t, t, t, t, t]
        exact h
  have e0 := o 0 (by omega)
  have hW : WI (upI w (2 + L) (5 + a) v) n q S rn sn := by
    obtain ⟨hX, hS, hLk, hSI, t0, t1⟩ := a1
    refine ⟨XS_of rfl rfl hX, SPI_of rfl rfl hS, fun K hK => ?_, ?_, by rw [e0]; exact t0, by rw [e0]; exact t1⟩
    · obtain ⟨hN, ⟨b1, b2, b3, b4⟩, h56⟩ := hLk K hK
      refine ⟨?_, ⟨b1, ?_, fun j hj => ⟨(b3 j hj).1, pOK_of (w := w) rfl (o _ (by have := (b3 j hj).2.1; omega)) (b3 j hj).2⟩, b4⟩, h56⟩
      · unfold LN at hN ⊢
        rw [o (5 + K) (by omega), o (8 + K) (by omega), o (11 + K) (by omega)]
        refine ⟨hN.1, ?_⟩
        have h := hN.2
        by_cases e : K = L
        · subst e
          rw [r2 4 (by omega)]
          rcases (show a = 0 ∨ a = 1 ∨ a = 2 ∨ a = 3 ∨ a = 4 by omega) with rfl | rfl | rfl | rfl | rfl
          · rw [r2 6 (by decide), r2 7 (by decide), r2 8 (by decide), feq]; have := hv5.1 rfl; omega
          · rw [r2 5 (by decide), r2 7 (by decide), r2 8 (by decide), feq]; have := hv5.2.1 rfl; omega
          · rw [r2 5 (by decide), r2 6 (by decide), r2 8 (by decide), feq]; have := hv5.2.2.1 rfl; omega
          · rw [r2 5 (by decide), r2 6 (by decide), r2 7 (by decide), feq]; have := hv5.2.2.2.1 rfl; omega
          · rw [r2 5 (by decide), r2 6 (by decide), r2 7 (by decide), r2 8 (by decide)]; exact h
        · rw [o (2 + K) (by omega)]
          exact h
      · by_cases e : K = L
        · subst e; rw [r2 4 (by omega)]; exact b2
        · rw [o (2 + K) (by omega)]; exact b2
    · unfold SI
      rw [o 28 (by omega), o 29 (by omega), o 30 (by omega), o 31 (by omega), o 32 (by omega), o 33 (by omega), o 34 (by omega), o 35 (by omega)]
      exact hSI
  refine ⟨⟨⟨hW, fun K hK => ?_, PpE_u (fun j _ => o' j (by omega)) (PpE_w a4.2.1 (fun j _ _ => o j (by omega)) a3), hM.2.2.2.1, StE_u (fun j _ _ => o' j (by omega)) (StE_w (fun j _ _ => o j (by omega)) a5), by rw [e0, f']; exact a6, by rw [e0, f']; exact a7⟩, PI_o B (fun j _ _ => ⟨o j (by omega), rfl⟩) rfl (by rw [e0]), hM, D.1, by rw [o 30 (by omega), e0]; exact D.2.1, by rw [o 33 (by omega), e0]; exact D.2.2⟩, GR_u (GR_s G rfl rfl (fun j _ => o j (by omega)) (by rw [e0]) (by rw [e0])) (fun f _ => by rw [f']) rfl (fun j _ => o' j (by omega)) (fun _ _ _ => ⟨rfl, rfl⟩), CRW_u (CRW_x R (by rw [e0]) (by rw [e0])) (by rw [f']) (by rw [f']), PLN_u (PLN_x P (by rw [e0]) (o 19 (by omega))) (by rw [f']) (o' 441 (by omega))⟩
  obtain ⟨r1, q2, r3, r4, r5⟩ := a2 K hK
  rw [o (5 + K) (by omega), o (8 + K) (by omega), o (11 + K) (by omega), o' 407 (by omega), o' 408 (by omega), o' 409 (by omega), o' 415 (by omega), o' 416 (by omega), o' 417 (by omega), o' 418 (by omega), o' 419 (by omega), o' 429 (by omega)]
  by_cases e : K = L
  · subst e
    rw [r2 10 (by omega), r2 11 (by omega), r2 12 (by omega), r2 13 (by omega), r2 14 (by omega)]
    refine ⟨r1, ?_, r3, r4, r5⟩
    rcases (show a = 0 ∨ a = 1 ∨ a = 2 ∨ a = 3 ∨ a = 4 by omega) with rfl | rfl | rfl | rfl | rfl
    · rw [r2 6 (by decide), r2 7 (by decide), r2 8 (by decide), r2 9 (by decide), feq, o' 411 (by decide), o' 412 (by decide), o' 413 (by decide), o' 414 (by decide), feq]; exact ⟨rfl, q2.2⟩
    · rw [r2 5 (by decide), r2 7 (by decide), r2 8 (by decide), r2 9 (by decide), feq, o' 410 (by decide), o' 412 (by decide), o' 413 (by decide), o' 414 (by decide), feq]; exact ⟨q2.1, rfl, q2.2.2⟩
    · rw [r2 5 (by decide), r2 6 (by decide), r2 8 (by decide), r2 9 (by decide), feq, o' 410 (by decide), o' 411 (by decide), o' 413 (by decide), o' 414 (by decide), feq]; exact ⟨q2.1, q2.2.1, rfl, q2.2.2.2⟩
    · rw [r2 5 (by decide), r2 6 (by decide), r2 7 (by decide), r2 9 (by decide), feq, o' 410 (by decide), o' 411 (by decide), o' 412 (by decide), o' 414 (by decide), feq]; exact ⟨q2.1, q2.2.1, q2.2.2.1, rfl, q2.2.2.2.2⟩
    · rw [r2 5 (by decide), r2 6 (by decide), r2 7 (by decide), r2 8 (by decide), feq, o' 410 (by decide), o' 411 (by decide), o' 412 (by decide), o' 413 (by decide), feq]; exact ⟨q2.1, q2.2.1, q2.2.2.1, q2.2.2.2.1, rfl⟩
  · have t : ∀ j, (upI u (410 + a) L v).2.1 j K = u.2.1 j K := fun j => by
      by_cases k : j = 410 + a
      · subst k; exact fne _ _ e
      · rw [o' j k]
    rw [o (2 + K) (by omega), t, t, t, t, t]
    exact ⟨r1, q2, r3, r4, r5⟩
theorem se_la {a : Int} (h : 0 ≤ a ∧ a < 5) : seLo a = lakLo a ∧ seHi a = lakHi a := by
  rcases (show a = 0 ∨ a = 1 ∨ a = 2 ∨ a = 3 ∨ a = 4 by omega) with rfl | rfl | rfl | rfl | rfl <;> exact ⟨rfl, rfl⟩
theorem K_set {z a v : Int} (hR : REL ix w w) (hz : R32 z) (ha : R32 a) (hv : R32 v) : CALL l ix w yX9_set cX9_set 5 3 yX12_set cX12_set 6 3 .boolean [ai z, ai a, ai v] := by
  obtain ⟨n, q, np, S, rn, sn, nv, nr, mk, tl, sz, rp, rc, kf, cl, A, b, c, d, e⟩ := hR
  have gb : GB ix w w n q np S rn sn nv nr mk tl sz rp rc kf cl := ⟨A, b, c, d⟩
  refine CALL_of (by decide) (by decide) (c_X9_set l w n q S rn sn z a v A.1.1 hz ha hv) fun r w1 hp => ?_
  obtain ⟨p1, p2⟩ := hp
  by_cases hr : 0 ≤ z ∧ z < 2 ∧ 0 ≤ a ∧ a < 5
  · have hr' : (0 ≤ z ∧ z < 2) ∧ 0 ≤ a ∧ a ≤ 4 := ⟨⟨hr.1, hr.2.1⟩, hr.2.2.1, by omega⟩
    rw [if_neg (fun t => t hr)] at p1 p2
    obtain ⟨s1, s2⟩ := se_la hr.2.2
    by_cases hk : lakLo a ≤ v ∧ v ≤ lakHi a
    · rw [if_neg (fun t => t hk)] at p1 p2
      have hm : SMm w w1 := by
        rw [p2]
        exact SM_tr (SM_i (Or.inl (by omega))) (SM_i (Or.inl (by decide)))
      have A1 := LG_m A hm
      refine ⟨M400 A1, _, p1, 0, 0, _, by decide, by decide, c_X12_set l w1 z a v A1.2.2.1.1 hz ha hv, fun r' u hp' => ⟨?_, ?_⟩⟩
      · rw [hp'.1, if_pos hr', s1, s2, if_pos hk]
      · rw [hp'.2, if_pos hr', s1, s2, if_pos hk]
        have g2 := GB_set (L := z.toNat) (a := a.toNat) (v := v) (show z.toNat < 2 by omega) (show a.toNat < 5 by omega) (by rw [show ((a.toNat : Nat) : Int) = a by omega]; exact hk) (GB_mth gb hm)
        refine fin_w e hm g2 p2 (SX_tr (SX_i (by decide)) (SX_i (by omega))) (by rw [upI_o _ _ _ (by omega)]) (by unfold seW; rw [upI_o _ _ _ (by omega)]; rfl) (by decide) (by decide)
    · rw [if_pos hk] at p1 p2
      have hm : SMm w w1 := by rw [p2]; exact SM_i (Or.inl (by decide))
      have A1 := LG_m A hm
      refine ⟨M400 A1, _, p1, 0, 0, _, by decide, by decide, c_X12_set l w1 z a v A1.2.2.1.1 hz ha hv, fun r' u hp' => ⟨?_, ?_⟩⟩
      · rw [hp'.1, if_pos hr', s1, s2, if_neg hk]
      · rw [hp'.2, if_pos hr', s1, s2, if_neg hk, p2]
        exact fin_trb gb e (by decide) (by decide)
  · have hr' : ¬ ((0 ≤ z ∧ z < 2) ∧ 0 ≤ a ∧ a ≤ 4) := fun k => hr ⟨k.1.1, k.1.2, k.2.1, by omega⟩
    rw [if_pos hr] at p1 p2
    have hm : SMm w w1 := by rw [p2]; exact SM_i (Or.inl (by decide))
    have A1 := LG_m A hm
    refine ⟨M400 A1, _, p1, 0, 0, _, by decide, by decide, c_X12_set l w1 z a v A1.2.2.1.1 hz ha hv, fun r' u hp' => ⟨?_, ?_⟩⟩
    · rw [hp'.1, if_neg hr']
    · rw [hp'.2, if_neg hr', p2]
      exact fin_trb gb e (by decide) (by decide)
end TELL
