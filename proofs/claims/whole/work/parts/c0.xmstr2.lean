/-! ===== readings and soundings, by both ===== -/
section STR
variable {l : Launch} {ix : Nat} {w u w' u' : AW} {n : Nat → Nat} {q : Nat → Nat → Nat} {np S rn sn nv nr mk tl sz rn' sn' : Nat} {rp rc kf : Nat → Nat} {cl : Nat → List Int}
/-- strings alone change -/
theorem GB_str (g : GB ix w u n q np S rn sn nv nr mk tl sz rp rc kf cl) (h1 : w'.1 = w.1) (h2 : w'.2.2 = w.2.2) (ho : ∀ j, j < 28 ∨ 36 ≤ j → w'.2.1 j = w.2.1 j) (k1 : u'.1 = u.1) (k2 : u'.2.2 = u.2.2) (ko : ∀ j, j ≠ 400 → j < 460 ∨ 465 < j → u'.2.1 j = u.2.1 j) (kf' : ∀ f, f ≠ 58 → f ≠ 59 → u'.2.1 400 f = u.2.1 400 f) (hW : WI w' n q S rn' sn') (hM : MSI u' rn' sn') (hS : StE w' u' rn' sn') (hD : DYB w' n rn' sn') : GB ix w' u' n q np S rn' sn' nv nr mk tl sz rp rc kf cl := by
  obtain ⟨⟨⟨a1, a2, a3, a4, a5, a6, a7⟩, B, C, D⟩, G, R, P⟩ := g
  have e0 := ho 0 (by decide)
  have hMR : MR u' np rn' sn' := by
    obtain ⟨m1, m2, m3, m4, m5, m6, m7⟩ := C
    refine ⟨MS_of k1 k2 m1, ?_, MN_of (fun j _ _ => ko j (by omega) (by omega)) m3, ?_, hM, ?_, ?_⟩
    · unfold MG; rw [ko 407 (by decide) (by decide), ko 408 (by decide) (by decide), ko 409 (by decide) (by decide)]; exact m2
    · unfold MPI; rw [kf' 28 (by decide) (by decide), ko 429 (by decide) (by decide), ko 430 (by decide) (by decide), ko 431 (by decide) (by decide), ko 432 (by decide) (by decide), ko 435 (by decide) (by decide)]; exact m4
    · rw [kf' 4 (by decide) (by decide)]; exact m6
    · rw [kf' 43 (by decide) (by decide)]; exact m7
  exact ⟨⟨⟨hW, LkE_u (fun j _ => ko j (by omega) (by omega)) (LkE_w (fun j _ _ => ho j (by omega)) a2), PpE_u (fun j _ => ko j (by omega) (by omega)) (PpE_w a4.2.1 (fun j _ _ => ho j (by omega)) a3), hMR.2.2.2.1, hS, by rw [e0, kf' 4 (by decide) (by decide)]; exact a6, by rw [e0, kf' 43 (by decide) (by decide)]; exact a7⟩, PI_o B (fun j _ _ => ⟨ho j (by omega), by rw [h1]⟩) (by rw [h2]) (by rw [e0]), hMR, hD⟩, GR_u (GR_s G h1 h2 (fun j _ => ho j (by omega)) (by rw [e0]) (by rw [e0])) (fun f _ => kf' f (by omega) (by omega)) (by rw [k2]) (fun j _ => ko j (by omega) (by omega)) (fun j _ _ => ⟨by rw [k1], by rw [k2]⟩), CRW_u (CRW_x R (by rw [e0]) (by rw [e0])) (kf' 6 (by decide) (by decide)) (kf' 5 (by decide) (by decide)), PLN_u (PLN_x P (by rw [e0]) (ho 19 (by decide))) (kf' 40 (by decide) (by decide)) (ko 441 (by decide) (by decide))⟩
theorem rdW_r (w : AW) (rn sn : Nat) (st day g : Int) : (rdW w rn sn st day g).2.1 29 = uI (w.2.1 29) rn st ∧ (rdW w rn sn st day g).2.1 30 = uI (w.2.1 30) rn day ∧ (rdW w rn sn st day g).2.1 31 = uI (w.2.1 31) rn g ∧ (rdW w rn sn st day g).2.1 35 = adF w st day g sn := by
  unfold rdW arW
  refine ⟨?_, ?_, ?_, sR_at _ _ _⟩
  · rw [sR_ne _ _ (by decide), sR_ne _ _ (by decide), sR_ne _ _ (by decide), sR_ne _ _ (by decide), sR_at]
  · rw [sR_ne _ _ (by decide), sR_ne _ _ (by decide), sR_ne _ _ (by decide), sR_at]
  · rw [sR_ne _ _ (by decide), sR_ne _ _ (by decide), sR_at]
theorem rdW_o (w : AW) (rn sn : Nat) (st day g : Int) {j : Nat} (h : j ≠ 28 ∧ j ≠ 29 ∧ j ≠ 30 ∧ j ≠ 31 ∧ j ≠ 35) : (rdW w rn sn st day g).2.1 j = w.2.1 j := by
  unfold rdW
  rw [sR_ne _ _ h.2.2.2.2, arW_o _ _ _ _ _ h.1 h.2.1 h.2.2.1 h.2.2.2.1]
theorem reW_r (u : AW) (rn : Nat) (key g : Int) : (reW u rn key g).2.1 460 = uI (u.2.1 460) rn key ∧ (reW u rn key g).2.1 461 = uI (u.2.1 461) rn (u.2.1 400 4) ∧ (reW u rn key g).2.1 462 = uI (u.2.1 462) rn g ∧ (reW u rn key g).2.1 400 58 = (rn : Int) + 1 := ⟨rfl, rfl, rfl, rfl⟩
theorem reW_o (u : AW) (rn : Nat) (key g : Int) {j : Nat} (h : j ≠ 400 ∧ j ≠ 460 ∧ j ≠ 461 ∧ j ≠ 462) : (reW u rn key g).2.1 j = u.2.1 j := by
  unfold reW
  rw [upI_o _ _ _ h.1, upI_o _ _ _ h.2.2.2, upI_o _ _ _ h.2.2.1, upI_o _ _ _ h.2.1]
theorem reW_f (u : AW) (rn : Nat) (key g : Int) {f : Nat} (h : f ≠ 58) : (reW u rn key g).2.1 400 f = u.2.1 400 f := by
  unfold reW
  rw [fne _ _ h, upI_o _ _ _ (by decide), upI_o _ _ _ (by decide), upI_o _ _ _ (by decide)]
theorem GB_reading {st g : Int} (hrn : rn < 300) (hst : 0 ≤ st ∧ st < 20) (hg : 0 ≤ g ∧ g ≤ 100000) (G : GB ix w u n q np S rn sn nv nr mk tl sz rp rc kf cl) : GB ix (rdW w rn sn st (w.2.1 0 13) g) (reW u rn st g) n q np S (rn + 1) sn nv nr mk tl sz rp rc kf cl := by
  have A := G.1
  obtain ⟨⟨a1, a2, a3, a4, a5, a6, a7⟩, B, C, D⟩ := A
  obtain ⟨x29, x30, x31, x35⟩ := rdW_r w rn sn st (w.2.1 0 13) g
  obtain ⟨m60, m61, m62, m58⟩ := reW_r u rn st g
  have hd : 0 ≤ w.2.1 0 13 ∧ w.2.1 0 13 ≤ 2999 := by rw [a6]; exact C.2.2.2.2.2.1
  refine GB_str (w' := rdW w rn sn st (w.2.1 0 13) g) (u' := reW u rn st g) G rfl rfl (fun j hj => rdW_o w rn sn st _ g (by omega)) rfl rfl (fun j h hj => reW_o u rn st g (by omega)) (fun f h _ => reW_f u rn st g h) (WI_reading a1 hrn hst hd hg) ?_ ⟨?_, ?_, ?_, ?_, ?_⟩ ⟨D.1, ?_, ?_⟩
  · obtain ⟨s1, s2, s3, s4, s5, s6⟩ := C.2.2.2.2.1
    refine ⟨by rw [m58]; omega, by omega, by rw [reW_f u rn st g (by decide)]; exact s3, s4, fun i hi => ?_, ?_⟩
    · rw [m60, m61, m62]
      by_cases e : i = rn
      · subst e
        rw [uI_at, uI_at, uI_at, ← a6]
        exact ⟨hst.1, hst.2, hd.1, hd.2, hg.1, hg.2⟩
      · rw [uI_ne _ _ e, uI_ne _ _ e, uI_ne _ _ e]
        exact s5 i (by omega)
    · rw [reW_o u rn st g (by decide), reW_o u rn st g (by decide), reW_o u rn st g (by decide)]
      exact s6
  · intro i hi
    rw [x29, x30, x31, m60, m61, m62]
    by_cases e : i = rn
    · subst e
      rw [uI_at, uI_at, uI_at, uI_at, uI_at, uI_at]
      exact ⟨rfl, a6, rfl⟩
    · rw [uI_ne _ _ e, uI_ne _ _ e, uI_ne _ _ e, uI_ne _ _ e, uI_ne _ _ e, uI_ne _ _ e]
      exact a5.1 i (by omega)
  · rw [rdW_o w rn sn st _ g (by decide), rdW_o w rn sn st _ g (by decide), rdW_o w rn sn st _ g (by decide), reW_o u rn st g (by decide), reW_o u rn st g (by decide), reW_o u rn st g (by decide)]
    exact a5.2.1
  · intro i j hij hj
    rw [x30]
    by_cases e : j = rn
    · subst e
      rw [uI_at]
      by_cases e2 : i = j
      · subst e2; rw [uI_at]; exact Int.le_refl _
      · rw [uI_ne _ _ e2]; exact D.2.1 i (by omega)
    · rw [uI_ne _ _ e, uI_ne _ _ (show i ≠ rn by omega)]
      exact a5.2.2.1 i j hij (by omega)
  · rw [rdW_o w rn sn st _ g (by decide)]
    exact a5.2.2.2.1
  · intro i hi
    rw [rdW_o w rn sn st _ g (j := 32) (by decide), rdW_o w rn sn st _ g (j := 33) (by decide), rdW_o w rn sn st _ g (j := 34) (by decide), x35]
    by_cases c : w.2.1 32 i = st ∧ w.2.1 33 i = w.2.1 0 13
    · refine ⟨rn, ?_, ?_⟩
      · unfold lrF
        rw [x29, x30, uI_at, uI_at, if_pos ⟨c.1.symm, by omega, by omega⟩]
      · rw [x31, uI_at]
        exact if_pos ⟨hi, c⟩
    · obtain ⟨m, h1, h2⟩ := a5.2.2.2.2 i hi
      obtain ⟨h3, -⟩ := lrF_lt rn m h1
      refine ⟨m, ?_, ?_⟩
      · unfold lrF
        rw [x29, x30, uI_at, uI_at, if_neg (fun t => c ⟨t.1.symm, by omega⟩), ← h1]
        exact lrF_c rn (fun j hj => ⟨uI_ne _ _ (by omega), uI_ne _ _ (by omega)⟩)
      · rw [x31, uI_ne _ _ (show m ≠ rn by omega), ← h2]
        exact if_neg (fun t => c t.2)
  · intro i hi
    rw [x30, rdW_o w rn sn st _ g (by decide)]
    by_cases e : i = rn
    · subst e; rw [uI_at]; exact Int.le_refl _
    · rw [uI_ne _ _ e]; exact D.2.1 i (by omega)
  · rw [rdW_o w rn sn st _ g (by decide), rdW_o w rn sn st _ g (by decide)]
    exact D.2.2
theorem K_reading {z i g : Int} (hR : REL ix w w) (hz : R32 z) (hi : R32 i) (hg : R32 g) : CALL l ix w yX9_reading cX9_reading 4 3 yX12_reading cX12_reading 4 3 .boolean [ai z, ai i, ai g] := by
  obtain ⟨n, q, np, S, rn, sn, nv, nr, mk, tl, sz, rp, rc, kf, cl, A, b, c, d, e⟩ := hR
  have gb : GB ix w w n q np S rn sn nv nr mk tl sz rp rc kf cl := ⟨A, b, c, d⟩
  have h300 := A.1.1.2.2.2.1.2.1
  refine CALL_of (by decide) (by decide) (c_X9_reading l w n q S rn sn z i g A.1.1 hz hi hg) fun r w1 hp => ?_
  obtain ⟨p1, p2, p3, p4⟩ := hp
  have mm : SMm w w1 → HT l yX12_reading cX12_reading 4 (some .boolean) 3 0 0 w1 [ar 400, ai z, ai i, ai g] _ := fun hm => c_X12_reading l w1 rn sn z i g (LG_m A hm).2.2.1.1 (LG_m A hm).2.2.1.2.2.1 (LG_m A hm).2.2.1.2.2.2.2.1 (LG_m A hm).2.2.1.2.2.2.2.2.1 hz hi hg
  by_cases hr : 0 ≤ z ∧ z < 2 ∧ 0 ≤ i ∧ i < 10
  · have hr' : (0 ≤ z ∧ z < 2) ∧ 0 ≤ i ∧ i < 10 := ⟨⟨hr.1, hr.2.1⟩, hr.2.2⟩
    by_cases hk : 0 ≤ g ∧ g ≤ 100000
    · by_cases h3 : rn < 300
      · obtain ⟨hr1, hw1⟩ := p4 hr hk h3
        have hm : SMm w w1 := by
          rw [hw1]
          exact SM_tr (u := rdW w rn sn (z * 10 + i) (w.2.1 0 13) g) (SM_of (fun _ _ _ => rfl) (fun j _ _ => rdW_o _ _ _ _ _ _ (by omega)) (fun _ _ _ => rfl)) (SM_i (Or.inl (by decide)))
        refine ⟨M400 (LG_m A hm), _, hr1, 0, 0, _, by decide, by decide, mm hm, fun r' u hp' => ⟨?_, ?_⟩⟩
        · rw [hp'.1, if_pos hr', if_pos hk, if_neg (by omega)]
        · rw [hp'.2, if_pos hr', if_pos hk, if_neg (by omega), show 10 * z + i = z * 10 + i by omega]
          exact fin_w e hm (GB_reading h3 (show 0 ≤ z * 10 + i ∧ z * 10 + i < 20 by omega) hk (GB_mth gb hm)) hw1 (SX_tr (SX_i (by decide)) (fun j hj => ⟨rfl, reW_o _ _ _ _ (by omega), rfl⟩)) (by rw [rdW_o _ _ _ _ _ _ (by decide)]) (by rw [reW_f _ _ _ _ (by decide)]; rfl) (by decide) (by decide)
      · obtain ⟨hr1, hw1⟩ := p3 hr hk (by omega)
        have hm : SMm w w1 := by rw [hw1]; exact SM_i (Or.inl (by decide))
        refine ⟨M400 (LG_m A hm), _, hr1, 0, 0, _, by decide, by decide, mm hm, fun r' u hp' => ⟨?_, ?_⟩⟩
        · rw [hp'.1, if_pos hr', if_pos hk, if_pos (by omega)]
        · rw [hp'.2, if_pos hr', if_pos hk, if_pos (by omega), hw1]
          exact fin_trb gb e (by decide) (by decide)
    · obtain ⟨hr1, hw1⟩ := p2 hr hk
      have hm : SMm w w1 := by rw [hw1]; exact SM_i (Or.inl (by decide))
      refine ⟨M400 (LG_m A hm), _, hr1, 0, 0, _, by decide, by decide, mm hm, fun r' u hp' => ⟨?_, ?_⟩⟩
      · rw [hp'.1, if_pos hr', if_neg hk]
      · rw [hp'.2, if_pos hr', if_neg hk, hw1]
        exact fin_trb gb e (by decide) (by decide)
  · have hr' : ¬ ((0 ≤ z ∧ z < 2) ∧ 0 ≤ i ∧ i < 10) := fun k => hr ⟨k.1.1, k.1.2, k.2⟩
    obtain ⟨hr1, hw1⟩ := p1 hr
    have hm : SMm w w1 := by rw [hw1]; exact SM_i (Or.inl (by decide))
    refine ⟨M400 (LG_m A hm), _, hr1, 0, 0, _, by decide, by decide, mm hm, fun r' u hp' => ⟨?_, ?_⟩⟩
    · rw [hp'.1, if_neg hr']
    · rw [hp'.2, if_neg hr', hw1]
      exact fin_trb gb e (by decide) (by decide)
theorem adW_r (w : AW) (sn : Nat) (st day g dr : Int) : (adW w sn st day g dr).2.1 32 = uI (w.2.1 32) sn st ∧ (adW w sn st day g dr).2.1 33 = uI (w.2.1 33) sn day ∧ (adW w sn st day g dr).2.1 34 = uI (w.2.1 34) sn g ∧ (adW w sn st day g dr).2.1 35 = uI (w.2.1 35) sn dr := by
  unfold adW
  refine ⟨?_, ?_, ?_, ?_⟩
  · rw [sR_ne _ _ (by decide), sR_ne _ _ (by decide), sR_ne _ _ (by decide), sR_ne _ _ (by decide), sR_at]
  · rw [sR_ne _ _ (by decide), sR_ne _ _ (by decide), sR_ne _ _ (by decide), sR_at]
  · rw [sR_ne _ _ (by decide), sR_ne _ _ (by decide), sR_at]
  · rw [sR_ne _ _ (by decide), sR_at]
theorem adW_o (w : AW) (sn : Nat) (st day g dr : Int) {j : Nat} (h : j ≠ 28 ∧ j ≠ 32 ∧ j ≠ 33 ∧ j ≠ 34 ∧ j ≠ 35) : (adW w sn st day g dr).2.1 j = w.2.1 j := by
  unfold adW
  rw [sR_ne _ _ h.1, sR_ne _ _ h.2.2.2.2, sR_ne _ _ h.2.2.2.1, sR_ne _ _ h.2.2.1, sR_ne _ _ h.2.1]
theorem soW_r (u : AW) (sn : Nat) (key g : Int) : (soW u sn key g).2.1 463 = uI (u.2.1 463) sn key ∧ (soW u sn key g).2.1 464 = uI (u.2.1 464) sn (u.2.1 400 4) ∧ (soW u sn key g).2.1 465 = uI (u.2.1 465) sn g ∧ (soW u sn key g).2.1 400 59 = (sn : Int) + 1 := ⟨rfl, rfl, rfl, rfl⟩
theorem soW_o (u : AW) (sn : Nat) (key g : Int) {j : Nat} (h : j ≠ 400 ∧ j ≠ 463 ∧ j ≠ 464 ∧ j ≠ 465) : (soW u sn key g).2.1 j = u.2.1 j := by
  unfold soW
  rw [upI_o _ _ _ h.1, upI_o _ _ _ h.2.2.2, upI_o _ _ _ h.2.2.1, upI_o _ _ _ h.2.1]
theorem soW_f (u : AW) (sn : Nat) (key g : Int) {f : Nat} (h : f ≠ 59) : (soW u sn key g).2.1 400 f = u.2.1 400 f := by
  unfold soW
  rw [fne _ _ h, upI_o _ _ _ (by decide), upI_o _ _ _ (by decide), upI_o _ _ _ (by decide)]
theorem GB_sounding {st g : Int} {m : Nat} (hsn : sn < 60) (hst : 0 ≤ st ∧ st < 20) (hg : 0 ≤ g ∧ g ≤ 100000) (hl : lrF (w.2.1 29) (w.2.1 30) st (w.2.1 0 13) (w.2.1 0 13) rn = some m) (G : GB ix w u n q np S rn sn nv nr mk tl sz rp rc kf cl) : GB ix (adW w sn st (w.2.1 0 13) g (g - w.2.1 31 m)) (soW u sn st g) n q np S rn (sn + 1) nv nr mk tl sz rp rc kf cl ∧ drM (soW u sn st g) st (w.2.1 0 13) rn (sn + 1) = g - w.2.1 31 m := by
  have A := G.1
  obtain ⟨⟨a1, a2, a3, a4, a5, a6, a7⟩, B, C, D⟩ := A
  obtain ⟨hm1, -⟩ := lrF_lt rn m hl
  have hr31 := a1.2.2.2.1.2.2.2.2.1 m hm1
  obtain ⟨x32, x33, x34, x35⟩ := adW_r w sn st (w.2.1 0 13) g (g - w.2.1 31 m)
  obtain ⟨m63, m64, m65, m59⟩ := soW_r u sn st g
  have hd : 0 ≤ w.2.1 0 13 ∧ w.2.1 0 13 ≤ 2999 := by rw [a6]; exact C.2.2.2.2.2.1
  have hS : StE (adW w sn st (w.2.1 0 13) g (g - w.2.1 31 m)) (soW u sn st g) rn (sn + 1) := by
    refine ⟨?_, ?_, ?_, ?_, ?_⟩
    · rw [adW_o w sn st _ g _ (by decide), adW_o w sn st _ g _ (by decide), adW_o w sn st _ g _ (by decide), soW_o u sn st g (by decide), soW_o u sn st g (by decide), soW_o u sn st g (by decide)]
      exact a5.1
    · intro i hi
      rw [x32, x33, x34, m63, m64, m65]
      by_cases e : i = sn
      · subst e
        rw [uI_at, uI_at, uI_at, uI_at, uI_at, uI_at]
        exact ⟨rfl, a6, rfl⟩
      · rw [uI_ne _ _ e, uI_ne _ _ e, uI_ne _ _ e, uI_ne _ _ e, uI_ne _ _ e, uI_ne _ _ e]
        exact a5.2.1 i (by omega)
    · rw [adW_o w sn st _ g _ (by decide)]
      exact a5.2.2.1
    · intro i j hij hj
      rw [x33]
      by_cases e : j = sn
      · subst e
        rw [uI_at]
        by_cases e2 : i = j
        · subst e2; rw [uI_at]; exact Int.le_refl _
        · rw [uI_ne _ _ e2]; exact D.2.2 i (by omega)
      · rw [uI_ne _ _ e, uI_ne _ _ (show i ≠ sn by omega)]
        exact a5.2.2.2.1 i j hij (by omega)
    · intro i hi
      rw [adW_o w sn st _ g _ (j := 29) (by decide), adW_o w sn st _ g _ (j := 30) (by decide), adW_o w sn st _ g _ (j := 31) (by decide), x32, x33, x34, x35]
      by_cases e : i = sn
      · subst e
        rw [uI_at, uI_at, uI_at, uI_at]
        exact ⟨m, hl, rfl⟩
      · rw [uI_ne _ _ e, uI_ne _ _ e, uI_ne _ _ e, uI_ne _ _ e]
        exact a5.2.2.2.2 i (by omega)
  refine ⟨GB_str (w' := adW w sn st (w.2.1 0 13) g (g - w.2.1 31 m)) (u' := soW u sn st g) G rfl rfl (fun j hj => adW_o w sn st _ g _ (by omega)) rfl rfl (fun j h hj => soW_o u sn st g (by omega)) (fun f _ h => soW_f u sn st g h) (WI_sounding a1 hsn hst hd hg (by omega)) ?_ hS ⟨D.1, ?_, ?_⟩, ?_⟩
  · obtain ⟨s1, s2, s3, s4, s5, s6⟩ := C.2.2.2.2.1
    refine ⟨by rw [soW_f u sn st g (by decide)]; exact s1, s2, by rw [m59]; omega, by omega, ?_, fun i hi => ?_⟩
    · rw [soW_o u sn st g (by decide), soW_o u sn st g (by decide), soW_o u sn st g (by decide)]
      exact s5
    · rw [m63, m64, m65]
      by_cases e : i = sn
      · subst e
        rw [uI_at, uI_at, uI_at, ← a6]
        exact ⟨hst.1, hst.2, hd.1, hd.2, hg.1, hg.2⟩
      · rw [uI_ne _ _ e, uI_ne _ _ e, uI_ne _ _ e]
        exact s6 i (by omega)
  · rw [adW_o w sn st _ g _ (by decide), adW_o w sn st _ g _ (by decide)]
    exact D.2.1
  · intro i hi
    rw [x33, adW_o w sn st _ g _ (by decide)]
    by_cases e : i = sn
    · subst e; rw [uI_at]; exact Int.le_refl _
    · rw [uI_ne _ _ e]; exact D.2.2 i (by omega)
  · rw [dr_both hS (i := sn) (by
      unfold lrF
      rw [x32, x33, uI_at, uI_at, if_pos ⟨rfl, Int.le_refl _, Int.le_refl _⟩]), x35, uI_at]
theorem K_sounding {z i g : Int} (hR : REL ix w w) (hz : R32 z) (hi : R32 i) (hg : R32 g) : CALL l ix w yX9_sounding cX9_sounding 4 3 yX12_sounding cX12_sounding 5 3 .int [ai z, ai i, ai g] := by
  obtain ⟨n, q, np, S, rn, sn, nv, nr, mk, tl, sz, rp, rc, kf, cl, A, b, c, d, e⟩ := hR
  have gb : GB ix w w n q np S rn sn nv nr mk tl sz rp rc kf cl := ⟨A, b, c, d⟩
  have h60 := A.1.1.2.2.2.1.2.2.2.1
  refine CALL_of (by decide) (by decide) (c_X9_sounding l w n q S rn sn z i g A.1.1 hz hi hg) fun r w1 hp => ?_
  obtain ⟨p1, p2⟩ := hp
  have mm : SMm w w1 → HT l yX12_sounding cX12_sounding 5 (some .int) 3 0 0 w1 [ar 400, ai z, ai i, ai g] _ := fun hm => c_X12_sounding l w1 rn sn z i g (LG_m A hm).2.2.1.1 (LG_m A hm).2.2.1.2.2.1 (LG_m A hm).2.2.1.2.2.2.2.1 (LG_m A hm).2.2.1.2.2.2.2.2.1 hz hi hg
  have rdq : SMm w w1 → (lrF (w.2.1 29) (w.2.1 30) (z * 10 + i) (w.2.1 0 13) (w.2.1 0 13) rn = none ↔ rdM w1 (10 * z + i) (w1.2.1 400 4) rn = -1) := fun hm => by
    rw [show 10 * z + i = z * 10 + i by omega, ← (LG_m A hm).1.2.2.2.2.2.1]
    exact (rd_both (LG_m A hm).1.2.2.2.2.1 A.1.1.2.2.2.1).1
  by_cases hr : 0 ≤ z ∧ z < 2 ∧ 0 ≤ i ∧ i < 10
  · have hr' : (0 ≤ z ∧ z < 2) ∧ 0 ≤ i ∧ i < 10 := ⟨⟨hr.1, hr.2.1⟩, hr.2.2⟩
    by_cases hk : 0 ≤ g ∧ g ≤ 100000
    · by_cases hl : lrF (w.2.1 29) (w.2.1 30) (z * 10 + i) (w.2.1 0 13) (w.2.1 0 13) rn = none
      · have ht : tsF w z i g rn sn = 5 := by unfold tsF; rw [if_pos hr, if_pos hk, if_pos hl]
        obtain ⟨hr1, hw1⟩ := p1 (by rw [ht]; decide)
        rw [ht] at hw1
        have hm : SMm w w1 := by rw [hw1]; exact SM_i (Or.inl (by decide))
        refine ⟨M400 (LG_m A hm), _, hr1, 0, 0, _, by decide, by decide, mm hm, fun r' u hp' => ⟨?_, ?_⟩⟩
        · rw [hp'.1, if_pos hr', if_pos hk, if_pos ((rdq hm).mp hl)]
        · rw [hp'.2, if_pos hr', if_pos hk, if_pos ((rdq hm).mp hl), hw1]
          exact fin_trb gb e (by decide) (by decide)
      · by_cases h3 : sn < 60
        · have ht : tsF w z i g rn sn = 0 := by unfold tsF; rw [if_pos hr, if_pos hk, if_neg hl, if_neg (by omega)]
          obtain ⟨m, hm1, hr1, hw1⟩ := p2 ht
          have hw2 : w1 = upI (adW w sn (z * 10 + i) (w.2.1 0 13) g (g - w.2.1 31 m)) 0 16 0 := by
            rw [hw1]
            unfold adW
            refine Prod.ext rfl (Prod.ext (funext fun j => ?_) rfl)
            by_cases e0 : j = 0
            · subst e0; rfl
            · rw [upI_o _ _ _ e0]
              by_cases c28 : j = 28
              · subst c28; rfl
              · by_cases c35 : j = 35
                · subst c35; rfl
                · by_cases c34 : j = 34
                  · subst c34; rfl
                  · by_cases c33 : j = 33
                    · subst c33; rfl
                    · by_cases c32 : j = 32
                      · subst c32; rfl
                      · rw [sR_ne _ _ c28, sR_ne _ _ c35, sR_ne _ _ c34, sR_ne _ _ c33, sR_ne _ _ c32, sR_ne _ _ c28, sR_ne _ _ c35, sR_ne _ _ c34, sR_ne _ _ c33, sR_ne _ _ c32, upI_o _ _ _ e0]
          have hm : SMm w w1 := by
            rw [hw2]
            exact SM_tr (u := adW w sn (z * 10 + i) (w.2.1 0 13) g (g - w.2.1 31 m)) (SM_of (fun _ _ _ => rfl) (fun j _ _ => adW_o _ _ _ _ _ _ (by omega)) (fun _ _ _ => rfl)) (SM_i (Or.inl (by decide)))
          obtain ⟨g2, g3⟩ := GB_sounding h3 (show 0 ≤ z * 10 + i ∧ z * 10 + i < 20 by omega) hk hm1 (GB_mth gb hm)
          have hne : ¬ rdM w1 (10 * z + i) (w1.2.1 400 4) rn = -1 := fun t => hl ((rdq hm).mpr t)
          refine ⟨M400 (LG_m A hm), _, hr1, 0, 0, _, by decide, by decide, mm hm, fun r' u hp' => ⟨?_, ?_⟩⟩
          · rw [hp'.1, if_pos hr', if_pos hk, if_neg hne, if_neg (by omega), show 10 * z + i = z * 10 + i by omega, ← (LG_m A hm).1.2.2.2.2.2.1, g3]
          · rw [hp'.2, if_pos hr', if_pos hk, if_neg hne, if_neg (by omega), show 10 * z + i = z * 10 + i by omega]
            exact fin_w e hm g2 hw2 (SX_tr (SX_i (by decide)) (fun j hj => ⟨rfl, soW_o _ _ _ _ (by omega), rfl⟩)) (by rw [adW_o _ _ _ _ _ _ (by decide)]) (by rw [soW_f _ _ _ _ (by decide)]; rfl) (by decide) (by decide)
        · have ht : tsF w z i g rn sn = 3 := by unfold tsF; rw [if_pos hr, if_pos hk, if_neg hl, if_pos (by omega)]
          obtain ⟨hr1, hw1⟩ := p1 (by rw [ht]; decide)
          rw [ht] at hw1
          have hm : SMm w w1 := by rw [hw1]; exact SM_i (Or.inl (by decide))
          have hne : ¬ rdM w1 (10 * z + i) (w1.2.1 400 4) rn = -1 := fun t => hl ((rdq hm).mpr t)
          refine ⟨M400 (LG_m A hm), _, hr1, 0, 0, _, by decide, by decide, mm hm, fun r' u hp' => ⟨?_, ?_⟩⟩
          · rw [hp'.1, if_pos hr', if_pos hk, if_neg hne, if_pos (by omega)]
          · rw [hp'.2, if_pos hr', if_pos hk, if_neg hne, if_pos (by omega), hw1]
            exact fin_trb gb e (by decide) (by decide)
    · have ht : tsF w z i g rn sn = 2 := by unfold tsF; rw [if_pos hr, if_neg hk]
      obtain ⟨hr1, hw1⟩ := p1 (by rw [ht]; decide)
      rw [ht] at hw1
      have hm : SMm w w1 := by rw [hw1]; exact SM_i (Or.inl (by decide))
      refine ⟨M400 (LG_m A hm), _, hr1, 0, 0, _, by decide, by decide, mm hm, fun r' u hp' => ⟨?_, ?_⟩⟩
      · rw [hp'.1, if_pos hr', if_neg hk]
      · rw [hp'.2, if_pos hr', if_neg hk, hw1]
        exact fin_trb gb e (by decide) (by decide)
  · have hr' : ¬ ((0 ≤ z ∧ z < 2) ∧ 0 ≤ i ∧ i < 10) := fun k => hr ⟨k.1.1, k.1.2, k.2⟩
    have ht : tsF w z i g rn sn = 1 := by unfold tsF; rw [if_neg hr]
    obtain ⟨hr1, hw1⟩ := p1 (by rw [ht]; decide)
    rw [ht] at hw1
    have hm : SMm w w1 := by rw [hw1]; exact SM_i (Or.inl (by decide))
    refine ⟨M400 (LG_m A hm), _, hr1, 0, 0, _, by decide, by decide, mm hm, fun r' u hp' => ⟨?_, ?_⟩⟩
    · rw [hp'.1, if_neg hr']
    · rw [hp'.2, if_neg hr', hw1]
      exact fin_trb gb e (by decide) (by decide)
end STR
