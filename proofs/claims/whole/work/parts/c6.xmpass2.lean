/-! ===== days gone by: the call of both ===== -/
section PASS
variable {l : Launch} {ix : Nat} {w u y v : AW} {n : Nat → Nat} {q : Nat → Nat → Nat} {np S S' rn sn nv nr mk tl sz : Nat} {rp rc kf : Nat → Nat} {cl : Nat → List Int}
theorem WI_13 (hW : WI w n q S rn sn) (h1 : v.1 = w.1) (h2 : v.2.2 = w.2.2) (ho : ∀ j, j ≠ 0 → v.2.1 j = w.2.1 j) (h : 0 ≤ v.2.1 0 13 ∧ v.2.1 0 13 ≤ 3000) : WI v n q S rn sn := by
  obtain ⟨hX, hS, hLk, hSI, -, -⟩ := hW
  refine ⟨XS_of h1 h2 hX, SPI_of h1 h2 hS, fun L hL => ?_, ?_, h.1, h.2⟩
  · obtain ⟨N, P, q5⟩ := hLk L hL
    exact ⟨LN_o N (ho _ (by omega)) (ho _ (by omega)) (ho _ (by omega)) (ho _ (by omega)), PQ_same P h1 h2 (by rw [ho _ (by omega)]) (fun i hi => ho _ (by have := (P.2.2.1 i hi).2.1; omega)), q5⟩
  · unfold SI
    rw [ho 28 (by decide), ho 29 (by decide), ho 30 (by decide), ho 31 (by decide), ho 32 (by decide), ho 33 (by decide), ho 34 (by decide), ho 35 (by decide)]
    exact hSI
theorem ps_o (hq : ∀ L, L < 2 → ∀ i, i < n L → 50 ≤ q L i ∧ q L i < 56) : ∀ d, (psF w n q d).2.1 = w.1 ∧ (psF w n q d).2.2.2 = w.2.2 ∧ ∀ j, j < 2 ∨ (13 ≤ j ∧ j < 50) ∨ 56 ≤ j → (psF w n q d).2.2.1 j = w.2.1 j
  | 0 => ⟨rfl, rfl, fun _ _ => rfl⟩
  | d + 1 => by
    obtain ⟨i1, i2, i3⟩ := ps_o hq d
    have hPs : psF w n q (d + 1) = ((psF w n q d).1 + (g2W (psF w n q d).2 n q).1, goW (goW (psF w n q d).2 0 (n 0) (q 0)) 1 (n 1) (q 1)) := rfl
    rw [hPs]
    generalize (psF w n q d).2 = x at *
    obtain ⟨a1, a2⟩ := goW_1 x 0 (n 0) (q 0)
    obtain ⟨b1, b2⟩ := goW_1 (goW x 0 (n 0) (q 0)) 1 (n 1) (q 1)
    refine ⟨b1.trans (a1.trans i1), b2.trans (a2.trans i2), fun j hj => ?_⟩
    show (goW (goW x 0 (n 0) (q 0)) 1 (n 1) (q 1)).2.1 j = _
    rw [goW_o (by omega) (by omega) (by omega) (by omega) (fun i hi => by have := hq 1 (by decide) i hi; omega), goW_o (by omega) (by omega) (by omega) (by omega) (fun i hi => by have := hq 0 (by decide) i hi; omega)]
    exact i3 j hj
theorem pa_o (u : AW) (np : Nat) : ∀ d, (paM u np d).1 = u.1 ∧ (paM u np d).2.2 = u.2.2 ∧ (∀ j, pzO j → (paM u np d).2.1 j = u.2.1 j) ∧ ∀ f, f ≠ 4 → f ≠ 5 → f ≠ 26 → f ≠ 27 → (paM u np d).2.1 400 f = u.2.1 400 f
  | 0 => ⟨rfl, rfl, fun _ _ => rfl, fun _ _ _ _ _ => rfl⟩
  | d + 1 => by
    obtain ⟨i1, i2, i3, i4⟩ := pa_o u np d
    unfold paM
    generalize paM u np d = x at *
    obtain ⟨a1, a2⟩ := pzW_1 x 0 np
    obtain ⟨b1, b2⟩ := pzW_1 (pzW x 0 np) 1 np
    refine ⟨b1.trans (a1.trans i1), b2.trans (a2.trans i2), fun j hj => ?_, fun f h4 h5 h6 h7 => ?_⟩
    · rw [upI_o _ _ _ hj.1.1, pzW_o _ _ _ hj, pzW_o _ _ _ hj]
      exact i3 j hj
    · rw [fne _ _ h4, pzW_28 _ _ _ _ h5 h6 h7, pzW_28 _ _ _ _ h5 h6 h7]
      exact i4 f h4 h5 h6 h7
theorem pzO_r {j : Nat} (h : j < 400 ∨ (429 ≤ j ∧ j ≤ 432) ∨ j = 434 ∨ 436 ≤ j) : pzO j := ⟨⟨by omega, by omega, by omega, by omega, by omega, by omega, by omega⟩, by omega, by omega, by omega, by omega, by omega, by omega, by omega, by omega, by omega, by omega⟩
def pyW (w : AW) (X : Int × AW) (a : Int) : AW := upI (upI (upI X.2 0 13 (w.2.1 0 13 + a)) 0 14 (-2)) 0 15 (w.2.1 0 15 + X.1)
theorem pyW_o (w : AW) (X : Int × AW) (a : Int) {j : Nat} (h : j ≠ 0) : (pyW w X a).2.1 j = X.2.2.1 j := by
  unfold pyW
  rw [upI_o _ _ _ h, upI_o _ _ _ h, upI_o _ _ _ h]
theorem pyW_f (w : AW) (X : Int × AW) (a : Int) : (pyW w X a).2.1 0 13 = w.2.1 0 13 + a ∧ (pyW w X a).2.1 0 14 = -2 ∧ (pyW w X a).2.1 0 15 = w.2.1 0 15 + X.1 ∧ ∀ f, f ≠ 13 → f ≠ 14 → f ≠ 15 → (pyW w X a).2.1 0 f = X.2.2.1 0 f := by
  unfold pyW
  exact ⟨by rw [fne _ _ (by decide), fne _ _ (by decide), feq], by rw [fne _ _ (by decide), feq], feq _ _ _ _, fun f h1 h2 h3 => by rw [fne _ _ h3, fne _ _ h2, fne _ _ h1]⟩
theorem GB_pass {a : Int} (ha : 1 ≤ a ∧ a ≤ 60) (hd : w.2.1 0 13 + a ≤ 2999) (g : GB ix w u n q np S rn sn nv nr mk tl sz rp rc kf cl) : GB ix (pyW w (psF w n q a.toNat) a) (upI (paM u np a.toNat) 400 6 (-2)) n q np S rn sn nv nr mk tl sz rp rc kf cl := by
  have A := g.1
  obtain ⟨⟨a1, a2, a3, a4, a5, a6, a7⟩, B, C, D⟩ := A
  have hQ := QD_of a2
  have hq : ∀ L, L < 2 → ∀ i, i < n L → 50 ≤ q L i ∧ q L i < 56 := fun L hL i hi => ⟨((a1.2.2.1 L hL).2.1.2.2.1 i hi).2.1, (a1.2.2.1 L hL).2.2 i hi⟩
  obtain ⟨p1, p2, p3⟩ := ps_both a1 a2 a3 C.1 C.2.1 C.2.2.1 C.2.2.2.1 a.toNat
  obtain ⟨x1, x2, x3⟩ := ps_o (w := w) hq a.toNat
  obtain ⟨m1, m2, m3, m4⟩ := pa_o u np a.toNat
  obtain ⟨k1, k2, k3, k4⟩ := paM_ok C.1 C.2.1 C.2.2.1 C.2.2.2.1 a.toNat
  have k5 := paM_4 u np a.toNat
  have hWx := WI_ps a1 hQ a.toNat
  obtain ⟨y13, y14, y15, yf⟩ := pyW_f w (psF w n q a.toNat) a
  have yo : ∀ j, j ≠ 0 → (pyW w (psF w n q a.toNat) a).2.1 j = (psF w n q a.toNat).2.2.1 j := fun j hj => pyW_o w _ a hj
  have s1 : (pyW w (psF w n q a.toNat) a).1 = (psF w n q a.toNat).2.1 := rfl
  have s2 : (pyW w (psF w n q a.toNat) a).2.2 = (psF w n q a.toNat).2.2.2 := rfl
  generalize pyW w (psF w n q a.toNat) a = Y at *
  generalize psF w n q a.toNat = X at *
  have vo : ∀ j, j ≠ 400 → (upI (paM u np a.toNat) 400 6 (-2)).2.1 j = (paM u np a.toNat).2.1 j := fun j hj => upI_o _ _ _ hj
  have vf : ∀ f, f ≠ 6 → (upI (paM u np a.toNat) 400 6 (-2)).2.1 400 f = (paM u np a.toNat).2.1 400 f := fun f hf => fne _ _ hf
  have hM : MR (upI (paM u np a.toNat) 400 6 (-2)) np rn sn := by
    obtain ⟨z1, z2, z3, z4, z5, z6, z7⟩ := C
    refine ⟨MS_of m1 m2 z1, ?_, MN_of (fun j _ _ => vo j (by omega)) k3, ?_, ?_, ?_, ?_⟩
    · unfold MG; rw [vo 407 (by decide), vo 408 (by decide), vo 409 (by decide)]; exact k2
    · unfold MPI; rw [vf 28 (by decide), vo 429 (by decide), vo 430 (by decide), vo 431 (by decide), vo 432 (by decide), vo 435 (by decide)]; exact k4
    · unfold MSI; rw [vf 58 (by decide), vf 59 (by decide), m4 58 (by decide) (by decide) (by decide) (by decide), m4 59 (by decide) (by decide) (by decide) (by decide), vo 460 (by decide), vo 461 (by decide), vo 462 (by decide), vo 463 (by decide), vo 464 (by decide), vo 465 (by decide), m3 460 (pzO_r (by decide)), m3 461 (pzO_r (by decide)), m3 462 (pzO_r (by decide)), m3 463 (pzO_r (by decide)), m3 464 (pzO_r (by decide)), m3 465 (pzO_r (by decide))]; exact z5
    · rw [vf 4 (by decide), k5, ← a6]
      have := a1.2.2.2.2.1
      omega
    · rw [vf 43 (by decide), m4 43 (by decide) (by decide) (by decide) (by decide)]; exact z7
  have hPp : PpE Y (upI (paM u np a.toNat) 400 6 (-2)) np := PpE_u (fun j _ => vo j (by omega)) (PpE_w a4.2.1 (fun j _ _ => yo j (by omega)) p3)
  refine GB_pip (w' := Y) (u' := upI (paM u np a.toNat) 400 6 (-2)) g (fun j hj => by rw [s1, x1]) (fun j hj => by rw [s2, x2]) (fun j h1 h2 => (yo j (by omega)).trans (x3 j (by omega))) (fun f hf => by rw [yf f (by omega) (by omega) (by omega), x3 0 (by decide)]) m1 m2 (fun j hj => (vo j (by omega)).trans (m3 j (pzO_r (by omega)))) (fun f hf => (vf f (by omega)).trans (m4 f (by omega) (by omega) (by omega) (by omega))) ⟨⟨WI_13 hWx s1 s2 yo ⟨?_, ?_⟩, LkE_u (fun j _ => vo j (by omega)) (LkE_w (fun j _ _ => yo j (by omega)) p2), hPp, hM.2.2.2.1, StE_u (fun j _ _ => (vo j (by omega)).trans (m3 j (pzO_r (by omega)))) (StE_w (fun j _ _ => (yo j (by omega)).trans (x3 j (by omega))) a5), ?_, ?_⟩, ?_, hM, D.1, fun k hk => ?_, fun k hk => ?_⟩ ⟨?_, ?_, ?_⟩
  · rw [y13]; have := a1.2.2.2.2.1; omega
  · rw [y13]; omega
  · rw [y13, vf 4 (by decide), k5, a6]; omega
  · rw [yf 8 (by decide) (by decide) (by decide), x3 0 (by decide), vf 43 (by decide), m4 43 (by decide) (by decide) (by decide) (by decide)]; exact a7
  · obtain ⟨b1, b2, b3, b4⟩ := B
    refine ⟨by rw [yf 3 (by decide) (by decide) (by decide), x3 0 (by decide)]; exact b1, b2, fun k hk => ?_, fun k h1 h2 => by rw [s1, x1]; exact b4 k h1 h2⟩
    obtain ⟨z1, z2, -⟩ := b3 k hk
    obtain ⟨e0, e1, -, -, e4, -, -⟩ := hPp.1 k hk
    obtain ⟨c1, c2, c3, c4, -, -, -, -, c9⟩ := hM.2.2.2.1.2.2 k hk
    rw [s1, s2, x1, x2, e0, e1, e4]
    exact ⟨z1, z2, c1, c2, c3, c4, c9⟩
  · rw [yo 30 (by decide), x3 30 (by decide), y13]
    have := D.2.1 k hk
    omega
  · rw [yo 33 (by decide), x3 33 (by decide), y13]
    have := D.2.2 k hk
    omega
  · rw [y14, feq]
  · rw [y14]; decide
  · rw [y15, vf 5 (by decide), p1, g.2.2.1.2.2]
    omega
theorem K_pass {a : Int} (hR : REL ix w w) (ha : R32 a) : CALL l ix w yX9_pass cX9_pass 4 6 yX12_pass cX12_pass 5 6 .int [ai a] := by
  obtain ⟨n, q, np, S, rn, sn, nv, nr, mk, tl, sz, rp, rc, kf, cl, A, b, c, d, e⟩ := hR
  have gb : GB ix w w n q np S rn sn nv nr mk tl sz rp rc kf cl := ⟨A, b, c, d⟩
  refine CALL_of (by decide) (by decide) (c_X9_pass l w n q S rn sn a A.1.1 (QD_of A.1.2.1) ha) fun r w1 hp => ?_
  obtain ⟨p1, p2⟩ := hp
  have mm : ∀ {w1 : AW}, SMm w w1 → HT l yX12_pass cX12_pass 5 (some .int) 6 0 0 w1 [ar 400, ai a] _ := fun {w1} hm => c_X12_pass l w1 np a (LG_m A hm).2.2.1.1 (LG_m A hm).2.2.1.2.1 (LG_m A hm).2.2.1.2.2.1 (LG_m A hm).2.2.1.2.2.2.1 (LG_m A hm).2.2.1.2.2.2.2.2.1 ha
  have hday : ∀ {w1 : AW}, SMm w w1 → w.2.1 0 13 = w1.2.1 400 4 := fun {w1} hm => (LG_m A hm).1.2.2.2.2.2.1
  by_cases hr : (1 ≤ a ∧ a ≤ 60) ∧ w.2.1 0 13 + a ≤ 2999
  · rw [if_neg (fun t => t hr)] at p1 p2
    have p3 : w1 = upI (pyW w (psF w n q a.toNat) a) 0 16 0 := p2
    have hq : ∀ L, L < 2 → ∀ i, i < n L → 50 ≤ q L i ∧ q L i < 56 := fun L hL i hi => ⟨((A.1.1.2.2.1 L hL).2.1.2.2.1 i hi).2.1, (A.1.1.2.2.1 L hL).2.2 i hi⟩
    obtain ⟨x1, x2, x3⟩ := ps_o (w := w) hq a.toNat
    have hm : SMm w w1 := by
      rw [p3]
      exact SM_tr (u := pyW w (psF w n q a.toNat) a) (SM_of (fun j _ _ => congrFun x1 j) (fun j _ _ => (pyW_o w _ a (by omega)).trans (x3 j (by omega))) (fun j _ _ => congrFun x2 j)) (SM_i (Or.inl (by decide)))
    have hc : (1 ≤ a ∧ a ≤ 60) ∧ w1.2.1 400 4 + a < 3000 := ⟨hr.1, by rw [← hday hm]; omega⟩
    have g1 := GB_mth gb hm
    refine ⟨M400 (LG_m A hm), _, p1, 0, 0, _, by decide, by decide, mm hm, fun r' u hp' => ⟨?_, ?_⟩⟩
    · rw [hp'.1, if_pos hc]
      have k := (ps_both g1.1.1.1 g1.1.1.2.1 g1.1.1.2.2.1 g1.1.2.2.1.1 g1.1.2.2.1.2.1 g1.1.2.2.1.2.2.1 g1.1.2.2.1.2.2.2.1 a.toNat).1
      rw [k]
      rfl
    · rw [hp'.2, if_pos hc]
      obtain ⟨m1, m2, m3, m4⟩ := pa_o (th w1) np a.toNat
      have hsx : SX w1 (upI (paM (th w1) np a.toNat) 400 6 (-2)) := SX_tr (SX_q (QM_th w1)) (SX_tr (fun j hj => ⟨by rw [m1], m3 j (pzO_r (by omega)), by rw [m2]⟩) (SX_i (by decide)))
      refine fin_w e hm (GB_pass hr.1 hr.2 g1) p3 hsx ?_ ?_ (by decide) (by decide)
      · rw [pyW_o w _ a (by decide), x3 20 (by decide)]
      · rw [fne _ _ (by decide), m4 3 (by decide) (by decide) (by decide) (by decide)]
        rfl
  · rw [if_pos hr] at p1 p2
    have hm : SMm w w1 := by rw [p2]; exact SM_i (Or.inl (by decide))
    have hc : ¬ ((1 ≤ a ∧ a ≤ 60) ∧ w1.2.1 400 4 + a < 3000) := fun t => hr ⟨t.1, by rw [hday hm]; omega⟩
    refine ⟨M400 (LG_m A hm), _, p1, 0, 0, _, by decide, by decide, mm hm, fun r' u hp' => ⟨?_, ?_⟩⟩
    · rw [hp'.1, if_neg hc]
    · rw [hp'.2, if_neg hc, p2]
      exact fin_trb gb e (by decide) (by decide)
end PASS
