/-! ===== pipes started, moved, laid, by both ===== -/
section PIP
variable {l : Launch} {ix : Nat} {w u w' u' : AW} {n n' : Nat → Nat} {q q' : Nat → Nat → Nat} {np np' S rn sn nv nr mk tl sz : Nat} {rp rc kf : Nat → Nat} {cl : Nat → List Int}
/-- lakes and pipes alone change -/
theorem GB_pip (g : GB ix w u n q np S rn sn nv nr mk tl sz rp rc kf cl) (h1 : ∀ j, 56 ≤ j → w'.1 j = w.1 j) (h2 : ∀ j, j = 22 ∨ j = 42 ∨ 56 ≤ j → w'.2.2 j = w.2.2 j) (ho : ∀ j, 13 ≤ j → j < 50 ∨ 56 ≤ j → w'.2.1 j = w.2.1 j) (h0 : ∀ f, f = 6 ∨ f = 8 ∨ f = 12 → w'.2.1 0 f = w.2.1 0 f) (k1 : u'.1 = u.1) (k2 : u'.2.2 = u.2.2) (ko : ∀ j, 436 ≤ j → u'.2.1 j = u.2.1 j) (kf' : ∀ f, 29 ≤ f → u'.2.1 400 f = u.2.1 400 f) (hLG : LG w' u' n' q' np' S rn sn) (hc : CRW w' u') : GB ix w' u' n' q' np' S rn sn nv nr mk tl sz rp rc kf cl := by
  obtain ⟨-, G, -, P⟩ := g
  have hX := hLG.1.1.1
  refine ⟨hLG, GR_u (GR_x G (CI_o G.2.2.1.1 hX (ho 40 (by decide) (by decide)) (ho 41 (by decide) (by decide)) (ho 37 (by decide) (by decide)) (ho 39 (by decide) (by decide))) ⟨?_, ?_⟩ (ho 20 (by decide) (by decide)) (fun j hj => ho j (by omega) (by omega)) (h0 12 (by decide)) (fun j hj => h1 j (by omega)) (fun j hj => h2 j (by omega))) (fun f hf => kf' f (by omega)) (by rw [k2]) (fun j hj => ko j (by omega)) (fun j _ _ => ⟨by rw [k1], by rw [k2]⟩), hc, PLN_u (PLN_x P (h0 6 (by decide)) (ho 19 (by decide) (by decide))) (kf' 40 (by decide)) (ko 441 (by decide))⟩
  · unfold HB
    rw [ho 26 (by decide) (by decide), h0 8 (by decide)]
    exact G.2.2.2.2.1.1
  · rw [ho 18 (by decide) (by decide)]
    exact G.2.2.2.2.1.2
theorem WI_pp {v : AW} (hW : WI w n q S rn sn) (hX : XS v) (hS : SPI v S) (hN : ∀ L, L < 2 → LN v L ∧ v.2.1 (2 + L) 4 = w.2.1 (2 + L) 4) (hp : ∀ j, 50 ≤ j → j < 56 → pOK w j → pOK v j) (hr : v.2.2 14 = w.2.2 14 ∧ v.2.2 15 = w.2.2 15) (hs : ∀ j, 28 ≤ j → j ≤ 35 → v.2.1 j = w.2.1 j) (h13 : v.2.1 0 13 = w.2.1 0 13) : WI v n q S rn sn := by
  obtain ⟨-, -, hLk, hSI, t0, t1⟩ := hW
  refine ⟨hX, hS, fun L hL => ?_, ?_, by rw [h13]; exact t0, by rw [h13]; exact t1⟩
  · obtain ⟨-, ⟨a1, a2, a3, a4⟩, h56⟩ := hLk L hL
    obtain ⟨n1, n2⟩ := hN L hL
    refine ⟨n1, ⟨a1, by rw [n2]; exact a2, fun i hi => ?_, a4⟩, h56⟩
    obtain ⟨b1, b2⟩ := a3 i hi
    refine ⟨?_, hp (q L i) b2.1 (h56 i hi) b2⟩
    rcases (show L = 0 ∨ L = 1 by omega) with rfl | rfl
    · show v.2.2 14 i = _; rw [hr.1]; exact b1
    · show v.2.2 15 i = _; rw [hr.2]; exact b1
  · unfold SI
    rw [hs 28 (by decide) (by decide), hs 29 (by decide) (by decide), hs 30 (by decide) (by decide), hs 31 (by decide) (by decide), hs 32 (by decide) (by decide), hs 33 (by decide) (by decide), hs 34 (by decide) (by decide), hs 35 (by decide) (by decide)]
    exact hSI
theorem LN_o {v : AW} {L : Nat} (h : LN w L) (e2 : v.2.1 (2 + L) = w.2.1 (2 + L)) (e5 : v.2.1 (5 + L) = w.2.1 (5 + L)) (e8 : v.2.1 (8 + L) = w.2.1 (8 + L)) (e11 : v.2.1 (11 + L) = w.2.1 (11 + L)) : LN v L := by unfold LN; rw [e2, e5, e8, e11]; exact h
theorem GB_start {p L : Nat} (hp : p < np) (hL : L < 2) (g : GB ix w u n q np S rn sn nv nr mk tl sz rp rc kf cl) : GB ix (stW w p L) (upI (upI u 400 6 (L : Int)) 435 p 1) n q np S rn sn nv nr mk tl sz rp rc kf cl := by
  have A := g.1
  obtain ⟨⟨a1, a2, a3, a4, a5, a6, a7⟩, B, C, D⟩ := A
  have hnp := a4.2.1
  have o : ∀ j, j ≠ 0 → j ≠ 50 + p → (stW w p L).2.1 j = w.2.1 j := fun j x y => (upI_o _ _ _ y).trans (upI_o _ _ _ x)
  have f0 : ∀ f, f ≠ 14 → (stW w p L).2.1 0 f = w.2.1 0 f := fun f hf => by
    unfold stW
    rw [upI_o _ _ _ (by omega), fne _ _ hf]
  have f14 : (stW w p L).2.1 0 14 = (L : Int) := by
    unfold stW
    rw [upI_o _ _ _ (by omega), feq]
  have r4 : (stW w p L).2.1 (50 + p) 4 = 1 := feq _ _ _ _
  have r : ∀ f, f ≠ 4 → (stW w p L).2.1 (50 + p) f = w.2.1 (50 + p) f := fun f hf => by
    unfold stW
    rw [fne _ _ hf, upI_o _ _ _ (by omega)]
  have o' : ∀ j, j ≠ 400 → j ≠ 435 → (upI (upI u 400 6 (L : Int)) 435 p 1).2.1 j = u.2.1 j := fun j x y => (upI_o _ _ _ y).trans (upI_o _ _ _ x)
  have f' : ∀ f, f ≠ 6 → (upI (upI u 400 6 (L : Int)) 435 p 1).2.1 400 f = u.2.1 400 f := fun f hf => by rw [upI_o _ _ _ (by decide), fne _ _ hf]
  have m435 : (upI (upI u 400 6 (L : Int)) 435 p 1).2.1 435 = uI (u.2.1 435) p 1 := rfl
  have hM : MR (upI (upI u 400 6 (L : Int)) 435 p 1) np rn sn := by
    obtain ⟨m1, m2, m3, m4, m5, m6, m7⟩ := C
    refine ⟨MS_of rfl rfl m1, ?_, MN_of (fun j _ _ => o' j (by omega) (by omega)) m3, ⟨by rw [f' 28 (by decide)]; exact m4.1, m4.2.1, fun k hk => ?_⟩, ?_, by rw [f' 4 (by decide)]; exact m6, by rw [f' 43 (by decide)]; exact m7⟩
    · unfold MG; rw [o' 407 (by decide) (by decide), o' 408 (by decide) (by decide), o' 409 (by decide) (by decide)]; exact m2
    · rw [o' 429 (by decide) (by decide), o' 430 (by decide) (by decide), o' 431 (by decide) (by decide), o' 432 (by decide) (by decide), m435]
      obtain ⟨x1, x2, x3, x4, x5, x6, x7, x8, x9⟩ := m4.2.2 k hk
      refine ⟨x1, x2, x3, x4, x5, x6, x7, x8, ?_⟩
      by_cases e : k = p
      · subst e; rw [uI_at]; exact Or.inr rfl
      · rw [uI_ne _ _ e]; exact x9
    · unfold MSI; rw [f' 58 (by decide), f' 59 (by decide), o' 460 (by decide) (by decide), o' 461 (by decide) (by decide), o' 462 (by decide) (by decide), o' 463 (by decide) (by decide), o' 464 (by decide) (by decide), o' 465 (by decide) (by decide)]; exact m5
  have hX : XS (stW w p L) := XS_of rfl rfl a1.1
  refine GB_pip (w' := stW w p L) (u' := upI (upI u 400 6 (L : Int)) 435 p 1) g (fun _ _ => rfl) (fun _ _ => rfl) (fun j x y => o j (by omega) (by omega)) (fun f hf => f0 f (by omega)) rfl rfl (fun j hj => o' j (by omega) (by omega)) (fun f hf => f' f (by omega)) ⟨⟨WI_pp a1 hX (SPI_of rfl rfl a1.2.1) (fun K hK => ⟨LN_o (a1.2.2.1 K hK).1 (o _ (by omega) (by omega)) (o _ (by omega) (by omega)) (o _ (by omega) (by omega)) (o _ (by omega) (by omega)), by rw [o _ (by omega) (by omega)]⟩) (fun j j1 j2 hj => ?_) ⟨rfl, rfl⟩ (fun j _ _ => o j (by omega) (by omega)) (f0 13 (by decide)), LkE_u (fun j hj => o' j (by omega) (by omega)) (LkE_w (fun j x _ => o j (by omega) (by omega)) a2), ⟨fun k hk => ?_, fun k hk hk2 => ?_⟩, hM.2.2.2.1, StE_u (fun j _ _ => o' j (by omega) (by omega)) (StE_w (fun j _ _ => o j (by omega) (by omega)) a5), by rw [f0 13 (by decide), f' 4 (by decide)]; exact a6, by rw [f0 8 (by decide), f' 43 (by decide)]; exact a7⟩, ?_, hM, D.1, by rw [o 30 (by decide) (by omega), f0 13 (by decide)]; exact D.2.1, by rw [o 33 (by decide) (by omega), f0 13 (by decide)]; exact D.2.2⟩ ?_
  · by_cases e : j = 50 + p
    · subst e
      unfold pOK at hj ⊢
      rw [r4, r 1 (by decide), r 2 (by decide), r 3 (by decide)]
      exact ⟨hj.1, hj.2.1, hj.2.2.1, hj.2.2.2.1, hj.2.2.2.2.1, hj.2.2.2.2.2.1, hj.2.2.2.2.2.2.1, hj.2.2.2.2.2.2.2.1, hj.2.2.2.2.2.2.2.2.1, Or.inr rfl⟩
    · exact pOK_of (w := w) rfl (o j (by omega) e) hj
  · rw [o' 429 (by decide) (by decide), o' 430 (by decide) (by decide), o' 431 (by decide) (by decide), o' 432 (by decide) (by decide), o' 433 (by decide) (by decide), o' 434 (by decide) (by decide), m435]
    by_cases e : k = p
    · subst e
      rw [r4, uI_at, r 0 (by decide), r 1 (by decide), r 2 (by decide), r 3 (by decide), r 5 (by decide), r 6 (by decide)]
      obtain ⟨x0, x1, x2, x3, x4, x5, x6⟩ := a3.1 k hk
      exact ⟨x0, x1, x2, x3, rfl, x5, x6⟩
    · rw [o _ (by omega) (by omega), uI_ne _ _ e]
      exact a3.1 k hk
  · rw [o' 433 (by decide) (by decide), o' 434 (by decide) (by decide), m435, uI_ne _ _ (by omega)]
    exact a3.2 k hk hk2
  · obtain ⟨b1, b2, b3, b4⟩ := B
    refine ⟨by rw [f0 3 (by decide)]; exact b1, b2, fun k hk => ?_, b4⟩
    obtain ⟨x1, x2, x3, x4, x5, x6, x7⟩ := b3 k hk
    refine ⟨x1, x2, ?_⟩
    by_cases e : k = p
    · subst e
      rw [r4, r 0 (by decide), r 1 (by decide)]
      exact ⟨x3, x4, x5, x6, Or.inr rfl⟩
    · rw [o _ (by omega) (by omega)]
      exact ⟨x3, x4, x5, x6, x7⟩
  · refine ⟨by rw [f14, upI_o _ _ _ (by decide), feq], by rw [f14]; omega, ?_⟩
    rw [f0 15 (by decide), f' 5 (by decide)]
    exact g.2.2.1.2.2
theorem pip_lake (A : LG w u n q np S rn sn) {p : Nat} (hp : p < np) : w.2.1 (50 + p) 0 = u.2.1 429 p ∧ 0 ≤ u.2.1 429 p ∧ u.2.1 429 p < 2 := ⟨(A.1.2.2.1.1 p hp).1, (A.1.2.2.2.1.2.2 p hp).1, (A.1.2.2.2.1.2.2 p hp).2.1⟩
theorem K_start {a : Int} (hR : REL ix w w) (ha : R32 a) : CALL l ix w yX9_start cX9_start 4 8 yX12_start cX12_start 2 11 .boolean [ai a] := by
  obtain ⟨n, q, np, S, rn, sn, nv, nr, mk, tl, sz, rp, rc, kf, cl, A, b, c, d, e⟩ := hR
  have gb : GB ix w w n q np S rn sn nv nr mk tl sz rp rc kf cl := ⟨A, b, c, d⟩
  refine CALL_of (by decide) (by decide) (c_X9_start l w n q S rn sn nr rp rc cl np a A.1.1 b.1.1 b.2.2.2.2.1.1 c.2.1 A.2.1 ha) fun r w1 hp => ?_
  obtain ⟨p1, p2, p3⟩ := hp
  have mm : ∀ {w1 : AW}, SMm w w1 → HT l yX12_start cX12_start 2 (some .boolean) 11 0 0 w1 [ar 400, ai a] _ := fun {w1} hm => c_X12_start l w1 np rn sn nr (mqF kf) cl a (LG_m A hm).2.2.1 (GR_m b hm).1.2.1 ha (by
    have := (CRW_m c hm).1
    have := c.2.1
    exact ⟨by omega, by omega⟩)
  by_cases hr : 0 ≤ a ∧ a < (np : Int)
  · have hap : a.toNat < np := by omega
    obtain ⟨q1, q2, q3⟩ := pip_lake A hap
    have q4 := (A.1.2.2.1.1 _ hap).2.2.2.2.1
    by_cases h4 : w.2.1 (50 + a.toNat) 4 = 1
    · obtain ⟨hr1, hw1⟩ := p2 hr h4
      have hm : SMm w w1 := by rw [hw1]; exact SM_i (Or.inl (by decide))
      refine ⟨M400 (LG_m A hm), _, hr1, 0, 0, _, by decide, by decide, mm hm, fun r' u hp' => ?_⟩
      obtain ⟨y1, y2⟩ := hp'.2.1 hr (by rw [(hm 435 (by decide) (by decide)).2.1, ← q4, h4]; decide)
      refine ⟨y1, ?_⟩
      rw [y2, hw1]
      exact fin_trb gb e (by decide) (by decide)
    · obtain ⟨v, S', bb, hC, f1, f2⟩ := p3 hr h4
      have hFS := hC.1
      have hHv := hC.2.2.1
      have h435 : ∀ {w1 : AW}, SMm w w1 → w1.2.1 435 a.toNat = 0 := fun {w1} hm => by
        have := (A.2.2.1.2.2.2.1.2.2 _ hap).2.2.2.2.2.2.2.2
        rw [(hm 435 (by decide) (by decide)).2.1]
        omega
      have h429 : ∀ {w1 : AW}, SMm w w1 → w1.2.1 429 a.toNat = w.2.1 (50 + a.toNat) 0 := fun {w1} hm => by rw [(hm 429 (by decide) (by decide)).2.1, q1]
      have hb : ∀ {w1 : AW}, SMm w w1 → bb = mwM w1 np rn sn nr (mqF kf) cl (w1.2.1 429 a.toNat).toNat := fun {w1} hm => by
        rw [h429 hm]
        exact cg_both (LG_m A hm).1 (RuE_of (GR_m b hm).1) (show (w.2.1 (50 + a.toNat) 0).toNat < 2 by omega) (CRW_m c hm).1 hC
      cases bb with
      | false =>
        obtain ⟨hr1, hw1⟩ := f1 rfl
        have hm : SMm w w1 := by rw [hw1]; exact SM_tr (SM_fs hFS) (SM_i (Or.inl (by decide)))
        refine ⟨M400 (LG_m A hm), _, hr1, 0, 0, _, by decide, by decide, mm hm, fun r' u hp' => ?_⟩
        obtain ⟨u0, y0, y1, -⟩ := hp'.2.2 hr (h435 hm)
        obtain ⟨y3, y4⟩ := y1 (hb hm).symm
        refine ⟨y3, ?_⟩
        rw [y4]
        refine fin_ft gb e hFS hHv ?_ (by decide) (by decide)
        rw [← hw1]
        exact QMs_tr (QMs_th w1) (QMs_MP y0)
      | true =>
        obtain ⟨hr1, hw1⟩ := f2 rfl
        have hm : SMm w w1 := by
          rw [hw1]
          exact SM_tr (SM_fs hFS) (SM_tr (u := stW v a.toNat (w.2.1 (50 + a.toNat) 0).toNat) (SM_tr (SM_i (Or.inl (by decide))) (SM_i (Or.inl (by have := A.2.1.2.1; omega)))) (SM_i (Or.inl (by decide))))
        refine ⟨M400 (LG_m A hm), _, hr1, 0, 0, _, by decide, by decide, mm hm, fun r' u hp' => ?_⟩
        obtain ⟨u0, y0, -, y2⟩ := hp'.2.2 hr (h435 hm)
        obtain ⟨y3, y4⟩ := y2 (hb hm).symm
        refine ⟨y3, ?_⟩
        rw [y4, h429 hm]
        have k := QMs_tr (QMs_th w1) (QMs_MP y0)
        have g1 := GB_q (GB_m (GB_fs gb hFS hHv) hm) k.1 k.2.1 k.2.2
        have g2 := GB_start (p := a.toNat) (L := (w.2.1 (50 + a.toNat) 0).toNat) hap (by omega) g1
        rw [show (((w.2.1 (50 + a.toNat) 0).toNat : Nat) : Int) = w.2.1 (50 + a.toNat) 0 by omega] at g2
        have hnp := A.2.1.2.1
        exact fin_w e hm g2 hw1 (SX_tr (SX_q k.1) (SX_tr (SX_i (by decide)) (SX_i (by decide)))) (by
          unfold stW
          rw [upI_o _ _ _ (by omega), upI_o _ _ _ (by decide), fsI hFS ⟨by decide, by decide, by decide, by decide, by decide⟩ (by decide) (by decide)]) (by rw [upI_o _ _ _ (by decide), fne _ _ (by decide), QM_g k.1 (by decide)]) (by decide) (by decide)
  · obtain ⟨hr1, hw1⟩ := p1 hr
    have hm : SMm w w1 := by rw [hw1]; exact SM_i (Or.inl (by decide))
    refine ⟨M400 (LG_m A hm), _, hr1, 0, 0, _, by decide, by decide, mm hm, fun r' u hp' => ?_⟩
    obtain ⟨y1, y2⟩ := hp'.1 hr
    refine ⟨y1, ?_⟩
    rw [y2, hw1]
    exact fin_trb gb e (by decide) (by decide)
end PIP
