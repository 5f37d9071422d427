/-! ===== calls of both about villages ===== -/
theorem RC_c {o h h' : Nat → Int} {sp : Int} {frm : Nat} {st : Int} (hh : ∀ c, c < 400 → h c = h' c) : ∀ k c t, RC o h sp frm st k c t → RC o h' sp frm st k c t
  | 0, _, _, hR => hR
  | k + 1, c, t, ⟨b, s, tb, hb, hs, h1, h2, h3, h4, h5⟩ => by
    have hc : c < 400 := by have := bsM_r (c := b) (s := s) hb; omega
    exact ⟨b, s, tb, hb, hs, RC_c hh k b tb h1, h2, h3, h4, by rw [← hh c hc, ← hh b hb]; exact h5⟩
theorem CPv_c {o h h' : Nat → Int} {sp : Int} {frm : Nat} {st v : Int} (hh : ∀ c, c < 400 → h c = h' c) (hV : CPv o h sp frm st v) : CPv o h' sp frm st v := by
  refine ⟨hV.1, fun q => ?_⟩
  obtain ⟨m, ⟨g1, g2⟩, g3, g4⟩ := hV.2 q
  refine ⟨m, ⟨g1, fun c hc => ⟨(g2 c hc).1, (g2 c hc).2.imp id (fun ⟨a, k, b⟩ => ⟨a, k, RC_c hh k c _ b⟩)⟩⟩, fun c s hc hs k1 k2 k3 k4 => ?_, g4⟩
  have := g3 c s hc hs k1 k2 k3 k4
  have hb := bsM_r (c := c) (s := s) hc
  rw [← hh c hc, ← hh (bsM (c : Int) (s : Int)).toNat (by omega)]
  exact this
theorem LAG_u2 {w u v : AW} {sz : Nat} (h : LAG w u sz) (hb : v.2.1 472 = u.2.1 472 ∧ v.2.1 473 = u.2.1 473) (hf : ∀ f, 66 ≤ f → f ≤ 71 → f ≠ 69 → v.2.1 400 f = u.2.1 400 f) : LAG w v sz := by
  unfold LAG ML MO2 ARV
  rw [hb.1, hb.2, hf 66 (by decide) (by decide) (by decide), hf 67 (by decide) (by decide) (by decide), hf 68 (by decide) (by decide) (by decide), hf 70 (by decide) (by decide) (by decide), hf 71 (by decide) (by decide) (by decide)]
  exact h
section VIL
variable {l : Launch} {ix : Nat} {w u w' u' : AW} {n : Nat → Nat} {q : Nat → Nat → Nat} {np S rn sn nv nr mk tl sz sz' : Nat} {rp rc kf : Nat → Nat} {cl : Nat → List Int}
theorem vil_cell (h : VIG w u nv) : ∀ v, v < nv → 0 ≤ w.2.1 (60 + v) 0 ∧ w.2.1 (60 + v) 0 < 400 := fun v hv => by
  have h1 := (h.2.2.1 v hv).1
  have h2 := h.2.1.2.2 v hv
  omega
theorem K_climb {a m : Int} (hR : REL ix w w) (ha : R32 a) (hm' : R32 m) : CALL l ix w yX9_climb cX9_climb 4 5 yX12_climb cX12_climb 3 3 .int [ai a, ai m] := by
  obtain ⟨n, q, np, S, rn, sn, nv, nr, mk, tl, sz, rp, rc, kf, cl, A, b, c, d, e⟩ := hR
  have gb : GB ix w w n q np S rn sn nv nr mk tl sz rp rc kf cl := ⟨A, b, c, d⟩
  have hLA := b.2.2.1
  refine CALL_of (by decide) (by decide) (c_X9_climb l w sz nv a m hLA.1 hLA.2.1 b.2.1.1 (vil_cell b.2.1) ha hm') fun r w1 hp => ?_
  obtain ⟨p1, p2⟩ := hp
  by_cases hr : (0 ≤ a ∧ a < (nv : Int)) ∧ w.2.1 36 5 = 1
  · rw [if_neg (fun t => t hr)] at p1 p2
    by_cases hk : 0 ≤ m ∧ m ≤ 500
    · rw [if_neg (fun t => t hk)] at p1 p2
      have hav : a.toNat < nv := by omega
      have hcell := vil_cell b.2.1 _ hav
      have o := fun (j : Nat) (h1 : j ≠ 40) (h2 : j ≠ 41) (h3 : j ≠ 39) => mtV_o (w := w) (frm := (w.2.1 (60 + a.toNat) 0).toNat) (st := m) h1 h2 h3
      have o0 := o 0 (by decide) (by decide) (by decide)
      obtain ⟨s2, hC2⟩ := CI_mt (frm := (w.2.1 (60 + a.toNat) 0).toNat) hLA.1 hk.1
      have hval : ∀ v, CPv (w1.2.1 473) (w1.2.1 472) (w1.2.1 400 70) (w1.2.1 475 a.toNat).toNat m v → SMm w w1 → (mtV w (w.2.1 (60 + a.toNat) 0).toNat m).1 = v := by
        intro v hv hm
        obtain ⟨l1, l2, l3, l4, l5, l6, l7⟩ := (GR_m b hm).2.2.1
        have hO := l4 (by rw [← l6.2.2.2]; exact hr.2)
        have e1 := ((GR_m b hm).2.1.2.2.1 _ hav).1
        rw [← e1] at hv
        exact mt_both l1 (by omega) hk hO.1.1 (fun c hc => (hO.2 c hc).2) (fun c hc => (l7 hr.2 c hc)) (CPv_c (fun c hc => (l5 c hc).symm) hv)
      generalize mtV w (w.2.1 (60 + a.toNat) 0).toNat m = X at *
      have hm0 : SMm w X.2 := SM_of (fun j _ _ => by rw [o0.2.1]) (fun j _ _ => (o j (by omega) (by omega) (by omega)).1) (fun j _ _ => by rw [o0.2.2])
      have hm : SMm w w1 := by rw [p2]; exact SM_tr hm0 (SM_i (Or.inl (by decide)))
      have A1 := LG_m A hm
      have b1 := GR_m b hm
      obtain ⟨l1, l2, l3, l4, l5, l6, l7⟩ := b1.2.2.1
      refine ⟨M400 A1, _, p1, 0, 0, _, by decide, by decide, c_X12_climb l w1 nv a m A1.2.2.1.1 l3 l4 b1.2.1.2.1 ha hm', fun r' u hp' => ?_⟩
      obtain ⟨v, mm, y1, y2, y3⟩ := hp'.2.2 ⟨by rw [← l6.2.2.2]; exact hr.2, hr.1⟩ hk
      refine ⟨by rw [y1, hval v y2 hm], ?_⟩
      rw [y3]
      have g1 := GB_mth gb hm
      exact fin_w (y := X.2) e hm (GB_lag (w' := X.2) (u' := sR (th w1) 474 mm) g1 o0.2.1 o0.2.2 (fun j _ => (o j (by omega) (by omega) (by omega)).1) rfl rfl (fun j _ _ _ h4 => sR_ne _ _ h4) (fun f _ _ => by rw [sR_ne _ _ (by decide)]) (LAG_u (LAG_x g1.2.1.2.2.1 hC2 (o 36 (by decide) (by decide) (by decide)).1 (o 37 (by decide) (by decide) (by decide)).1 (o 38 (by decide) (by decide) (by decide)).1) ⟨sR_ne _ _ (by decide), sR_ne _ _ (by decide)⟩ (fun f _ _ => by rw [sR_ne _ _ (by decide)]))) p2 (SX_tr (SX_i (by decide)) (SX_r (by decide))) (by rw [(o 20 (by decide) (by decide) (by decide)).1]) (by rw [sR_ne _ _ (by decide)]; rfl) (by decide) (by decide)
    · rw [if_pos hk] at p1 p2
      have hm : SMm w w1 := by rw [p2]; exact SM_i (Or.inl (by decide))
      have A1 := LG_m A hm
      have b1 := GR_m b hm
      obtain ⟨l1, l2, l3, l4, l5, l6, l7⟩ := b1.2.2.1
      refine ⟨M400 A1, _, p1, 0, 0, _, by decide, by decide, c_X12_climb l w1 nv a m A1.2.2.1.1 l3 l4 b1.2.1.2.1 ha hm', fun r' u hp' => ?_⟩
      obtain ⟨y1, y2⟩ := hp'.2.1 ⟨by rw [← l6.2.2.2]; exact hr.2, hr.1⟩ hk
      refine ⟨y1, ?_⟩
      rw [y2, p2]
      exact fin_trb gb e (by decide) (by decide)
  · rw [if_pos hr] at p1 p2
    have hm : SMm w w1 := by rw [p2]; exact SM_i (Or.inl (by decide))
    have A1 := LG_m A hm
    have b1 := GR_m b hm
    obtain ⟨l1, l2, l3, l4, l5, l6, l7⟩ := b1.2.2.1
    refine ⟨M400 A1, _, p1, 0, 0, _, by decide, by decide, c_X12_climb l w1 nv a m A1.2.2.1.1 l3 l4 b1.2.1.2.1 ha hm', fun r' u hp' => ?_⟩
    obtain ⟨y1, y2⟩ := hp'.1 (fun t => hr ⟨t.2, by rw [l6.2.2.2]; exact t.1⟩)
    refine ⟨y1, ?_⟩
    rw [y2, p2]
    exact fin_trb gb e (by decide) (by decide)
theorem K_lost {m : Int} (hR : REL ix w w) (hm' : R32 m) : CALL l ix w yX9_lost cX9_lost 5 5 yX12_lost cX12_lost 4 3 .int [ai m] := by
  obtain ⟨n, q, np, S, rn, sn, nv, nr, mk, tl, sz, rp, rc, kf, cl, A, b, c, d, e⟩ := hR
  have gb : GB ix w w n q np S rn sn nv nr mk tl sz rp rc kf cl := ⟨A, b, c, d⟩
  have hLA := b.2.2.1
  refine CALL_of (by decide) (by decide) (c_X9_lost l w sz nv m hLA.1 hLA.2.1 b.2.1.1 (vil_cell b.2.1) hm') fun r w1 hp => ?_
  obtain ⟨p1, p2⟩ := hp
  by_cases hr : w.2.1 36 5 = 1
  · rw [if_neg (fun t => t hr)] at p1 p2
    by_cases hk : 0 ≤ m ∧ m ≤ 500
    · rw [if_neg (fun t => t hk)] at p1 p2
      obtain ⟨o, o1, o2⟩ := lsF_o (w := w) (st := m) nv
      obtain ⟨s2, hC2⟩ := CI_ls hLA.1 hk.1 nv
      have hval : ∀ f, (∀ i, i < nv → w1.2.1 477 i = 0 → CPv (w1.2.1 473) (w1.2.1 472) (w1.2.1 400 70) (w1.2.1 475 i).toNat m (f i)) → SMm w w1 → (lsF w m nv).1 = lsM w1 f nv := by
        intro f hf hm
        obtain ⟨l1, l2, l3, l4, l5, l6, l7⟩ := (GR_m b hm).2.2.1
        have hO := l4 (by rw [← l6.2.2.2]; exact hr)
        refine (ls_both (u := w1) (f := f) l1 hk hO.1.1 (fun c hc => (hO.2 c hc).2) (fun c hc => (l7 hr c hc)) nv (fun i hi => ?_) (fun i hi h0 => CPv_c (fun c hc => (l5 c hc).symm) (hf i hi h0))).1
        obtain ⟨v1, v2, v3⟩ := (GR_m b hm).2.1.2.2.1 i hi
        obtain ⟨x1, x2, -⟩ := (GR_m b hm).2.1.2.1.2.2 i hi
        exact ⟨v1, v2, v3, x1, x2⟩
      generalize lsF w m nv = X at *
      have hm0 : SMm w X.2 := SM_of (fun j _ _ => by rw [o1]) (fun j _ _ => o j (by omega) (by omega) (by omega)) (fun j _ _ => by rw [o2])
      have hm : SMm w w1 := by rw [p2]; exact SM_tr hm0 (SM_i (Or.inl (by decide)))
      have A1 := LG_m A hm
      have b1 := GR_m b hm
      obtain ⟨l1, l2, l3, l4, l5, l6, l7⟩ := b1.2.2.1
      refine ⟨M400 A1, _, p1, 0, 0, _, by decide, by decide, c_X12_lost l w1 nv m A1.2.2.1.1 l3 l4 b1.2.1.2.1 hm', fun r' u hp' => ?_⟩
      obtain ⟨f, mm, y2, y1, y3⟩ := hp'.2.2 (by rw [← l6.2.2.2]; exact hr) hk
      refine ⟨by rw [y1, hval f y2 hm], ?_⟩
      rw [y3]
      have g1 := GB_mth gb hm
      exact fin_w (y := X.2) e hm (GB_lag (w' := X.2) (u' := sR (th w1) 474 mm) g1 o1 o2 (fun j _ => o j (by omega) (by omega) (by omega)) rfl rfl (fun j _ _ _ h4 => sR_ne _ _ h4) (fun f _ _ => by rw [sR_ne _ _ (by decide)]) (LAG_u (LAG_x g1.2.1.2.2.1 hC2 (o 36 (by decide) (by decide) (by decide)) (o 37 (by decide) (by decide) (by decide)) (o 38 (by decide) (by decide) (by decide))) ⟨sR_ne _ _ (by decide), sR_ne _ _ (by decide)⟩ (fun f _ _ => by rw [sR_ne _ _ (by decide)]))) p2 (SX_tr (SX_i (by decide)) (SX_r (by decide))) (by rw [o 20 (by decide) (by decide) (by decide)]) (by rw [sR_ne _ _ (by decide)]; rfl) (by decide) (by decide)
    · rw [if_pos hk] at p1 p2
      have hm : SMm w w1 := by rw [p2]; exact SM_i (Or.inl (by decide))
      have A1 := LG_m A hm
      have b1 := GR_m b hm
      obtain ⟨l1, l2, l3, l4, l5, l6, l7⟩ := b1.2.2.1
      refine ⟨M400 A1, _, p1, 0, 0, _, by decide, by decide, c_X12_lost l w1 nv m A1.2.2.1.1 l3 l4 b1.2.1.2.1 hm', fun r' u hp' => ?_⟩
      obtain ⟨y1, y2⟩ := hp'.2.1 (by rw [← l6.2.2.2]; exact hr) hk
      refine ⟨y1, ?_⟩
      rw [y2, p2]
      exact fin_trb gb e (by decide) (by decide)
  · rw [if_pos hr] at p1 p2
    have hm : SMm w w1 := by rw [p2]; exact SM_i (Or.inl (by decide))
    have A1 := LG_m A hm
    have b1 := GR_m b hm
    obtain ⟨l1, l2, l3, l4, l5, l6, l7⟩ := b1.2.2.1
    refine ⟨M400 A1, _, p1, 0, 0, _, by decide, by decide, c_X12_lost l w1 nv m A1.2.2.1.1 l3 l4 b1.2.1.2.1 hm', fun r' u hp' => ?_⟩
    obtain ⟨y1, y2⟩ := hp'.1 (fun t => hr (by rw [l6.2.2.2]; exact t))
    refine ⟨y1, ?_⟩
    rw [y2, p2]
    exact fin_trb gb e (by decide) (by decide)
/-- a village alone changes -/
theorem GB_vig {nv' : Nat} (g : GB ix w u n q np S rn sn nv nr mk tl sz rp rc kf cl) (h1 : ∀ j, j < 60 ∨ 80 ≤ j → w'.1 j = w.1 j) (h2 : ∀ j, j ≠ 42 → j < 60 ∨ 80 ≤ j → w'.2.2 j = w.2.2 j) (ho : ∀ j, j ≠ 0 → j < 60 ∨ 80 ≤ j → w'.2.1 j = w.2.1 j) (h0 : ∀ f, f ≠ 12 → w'.2.1 0 f = w.2.1 0 f) (k1 : u'.1 = u.1) (k2 : u'.2.2 = u.2.2) (ko : ∀ j, j ≠ 400 → j ≠ 475 → j ≠ 476 → j ≠ 477 → u'.2.1 j = u.2.1 j) (kf' : ∀ f, f ≠ 69 → u'.2.1 400 f = u.2.1 400 f) (hV : VIG w' u' nv') : GB ix w' u' n q np S rn sn nv' nr mk tl sz rp rc kf cl := by
  obtain ⟨A, ⟨b1, b2, b3, b4, b5, b6⟩, R, P⟩ := g
  have hX : XS w' := by
    refine ⟨fun j hj => (h1 j (by omega)).trans (A.1.1.1.1 j hj), fun p hp => ?_⟩
    have hb : ∀ p ∈ ptX, p.1 < 42 := by decide
    have := hb p hp
    rw [h2 p.1 (by omega) (by omega)]
    exact A.1.1.1.2 p hp
  have hS : SPI w' S := by
    obtain ⟨s1, s2, s3⟩ := A.1.1.2.1
    refine ⟨s1, fun j hj => ?_, fun j x y => ?_⟩
    · rw [h2 16 (by decide) (by decide), h1 (56 + j) (by omega)]; exact s2 j hj
    · rw [h2 16 (by decide) (by decide), h1 (56 + j) (by omega)]; exact s3 j x y
  have A1 : LG w' u n q np S rn sn := LG_x A hX hS (fun j _ _ _ => ho j (by omega) (by omega)) (fun j _ _ => ⟨ho j (by omega) (by omega), h1 j (by omega)⟩) ⟨h2 14 (by decide) (by decide), h2 15 (by decide) (by decide), h2 17 (by decide) (by decide)⟩ (fun j _ _ => ho j (by omega) (by omega)) ⟨h0 13 (by decide), h0 8 (by decide), h0 3 (by decide)⟩
  refine ⟨LG_u A1 (MS_of k1 k2 A.2.2.1.1) (fun j hj => ko j (by omega) (by omega) (by omega) (by omega)) (fun f hf => kf' f (by omega)), ⟨?_, hV, ?_, ?_, ⟨?_, ?_⟩, ?_⟩, CRW_u (CRW_x R (h0 14 (by decide)) (h0 15 (by decide))) (kf' 6 (by decide)) (kf' 5 (by decide)), PLN_u (PLN_x P (h0 6 (by decide)) (ho 19 (by decide) (by decide))) (kf' 40 (by decide)) (ko 441 (by decide) (by decide) (by decide) (by decide))⟩
  · exact RUG_u (RUG_x b1 (by rw [ho 20 (by decide) (by decide)]) (h2 22 (by decide) (by decide)) (fun j x _ => ⟨ho j (by omega) (by omega), h1 j (by omega), h2 j (by omega) (by omega)⟩)) (kf' 42 (by decide)) (by rw [k2]) (fun j x y => ⟨ko j (by omega) (by omega) (by omega) (by omega), by rw [k1], by rw [k2]⟩)
  · exact LAG_u2 (LAG_x b3 (CI_o b3.1 hX (ho 40 (by decide) (by decide)) (ho 41 (by decide) (by decide)) (ho 37 (by decide) (by decide)) (ho 39 (by decide) (by decide))) (ho 36 (by decide) (by decide)) (ho 37 (by decide) (by decide)) (ho 38 (by decide) (by decide))) ⟨ko 472 (by decide) (by decide) (by decide) (by decide), ko 473 (by decide) (by decide) (by decide) (by decide)⟩ (fun f _ _ t => kf' f t)
  · exact TAG_u (TAG_x b4 (by rw [ho 20 (by decide) (by decide)]) (ho 21 (by decide) (by decide))) (ko 446 (by decide) (by decide) (by decide) (by decide)) (kf' 47 (by decide)) (kf' 56 (by decide))
  · unfold HB
    rw [ho 26 (by decide) (by decide), h0 8 (by decide)]
    exact b5.1
  · rw [ho 18 (by decide) (by decide)]; exact b5.2
  · exact FRE_o b6 (fun j _ => h1 j (by omega))
end VIL
