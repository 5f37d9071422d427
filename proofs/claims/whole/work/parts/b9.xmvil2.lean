/-! ===== villages moved and made, by both ===== -/
section VIL2
variable {l : Launch} {ix : Nat} {w u w' u' : AW} {n : Nat → Nat} {q : Nat → Nat → Nat} {np S rn sn nv nr mk tl sz sz' : Nat} {rp rc kf : Nat → Nat} {cl : Nat → List Int}
theorem VIG_moved {p : Nat} {z : Int} (hp : p < nv) (hz : z = 0 ∨ z = 1) (h : VIG w u nv) : VIG (upI w (60 + p) 2 z) (upI u 477 p z) nv := by
  obtain ⟨⟨a1, a2, a3, a4⟩, ⟨b1, b2, b3⟩, c⟩ := h
  have o : ∀ j, j ≠ 60 + p → (upI w (60 + p) 2 z).2.1 j = w.2.1 j := fun j hj => upI_o _ _ _ hj
  have r : ∀ f, f ≠ 2 → (upI w (60 + p) 2 z).2.1 (60 + p) f = w.2.1 (60 + p) f := fun f hf => fne _ _ hf
  have o' : ∀ j, j ≠ 477 → (upI u 477 p z).2.1 j = u.2.1 j := fun j hj => upI_o _ _ _ hj
  refine ⟨⟨by rw [o 0 (by omega)]; exact a1, a2, fun v hv => ⟨(a3 v hv).1, (a3 v hv).2.1, ?_⟩, a4⟩, ⟨by rw [o' 400 (by decide)]; exact b1, b2, fun v hv => ?_⟩, fun v hv => ?_, fun v hv hv2 => ?_⟩
  · by_cases e : v = p
    · subst e; rw [feq]; exact hz
    · rw [o (60 + v) (by omega)]; exact (a3 v hv).2.2
  · rw [o' 475 (by decide), o' 476 (by decide)]
    obtain ⟨x1, x2, x3, x4, x5⟩ := b3 v hv
    refine ⟨x1, x2, x3, x4, ?_⟩
    by_cases e : v = p
    · subst e; rw [feq]; exact hz
    · rw [fne _ _ e]; exact x5
  · rw [o' 475 (by decide), o' 476 (by decide)]
    by_cases e : v = p
    · subst e
      rw [r 0 (by decide), r 1 (by decide), feq, feq]
      exact ⟨(c.1 v hv).1, (c.1 v hv).2.1, rfl⟩
    · rw [o (60 + v) (by omega), fne _ _ e]
      exact c.1 v hv
  · rw [fne _ _ (by omega)]
    exact c.2 v hv hv2
theorem GB_moved {p : Nat} {z : Int} (hp : p < nv) (hz : z = 0 ∨ z = 1) (g : GB ix w u n q np S rn sn nv nr mk tl sz rp rc kf cl) : GB ix (upI w (60 + p) 2 z) (upI u 477 p z) n q np S rn sn nv nr mk tl sz rp rc kf cl := by
  have hn : nv ≤ 20 := g.2.1.2.1.1.2.1
  exact GB_vig (w' := upI w (60 + p) 2 z) (u' := upI u 477 p z) g (fun _ _ => rfl) (fun _ _ _ => rfl) (fun j _ _ => upI_o _ _ _ (by omega)) (fun f _ => by rw [upI_o _ _ _ (by omega)]) rfl rfl (fun j _ _ _ h => upI_o _ _ _ h) (fun f _ => by rw [upI_o _ _ _ (by decide)]) (VIG_moved hp hz g.2.1.2.1)
theorem K_moved {a z : Int} (hR : REL ix w w) (ha : R32 a) (hz : z = 0 ∨ z = 1) : CALL l ix w yX9_moved cX9_moved 4 9 yX12_moved cX12_moved 3 10 .boolean [ai a, ai z] := by
  obtain ⟨n, q, np, S, rn, sn, nv, nr, mk, tl, sz, rp, rc, kf, cl, A, b, c, d, e⟩ := hR
  have gb : GB ix w w n q np S rn sn nv nr mk tl sz rp rc kf cl := ⟨A, b, c, d⟩
  have hW := A.1.1
  have hH := b.2.2.2.2.1.1
  refine CALL_of (by decide) (by decide) (c_X9_moved l w n q S rn sn nr rp rc cl nv a z hW b.1.1 hH b.2.2.1.1.2.2.2.2.1 b.2.1.1 (vil_cell b.2.1) ha hz) fun r w1 hp => ?_
  obtain ⟨p1, p2, p3, p4⟩ := hp
  have mm : ∀ {w1 : AW}, SMm w w1 → ∀ P, (∀ r' u, ((¬ (0 ≤ a ∧ a < (nv : Int)) → r' = some (ai 0) ∧ u = tM (th w1) 1) ∧ ((0 ≤ a ∧ a < (nv : Int)) → w1.2.1 477 a.toNat = z → r' = some (ai 0) ∧ u = tM (th w1) 5) ∧ ((0 ≤ a ∧ a < (nv : Int)) → w1.2.1 477 a.toNat ≠ z → ∃ u0, MP (th w1) u0 ∧ (z = 0 ∧ lvM w1 np rn sn nr (mqF kf) cl (w1.2.1 472 (w1.2.1 475 a.toNat).toNat) = false → r' = some (ai 0) ∧ u = tM u0 6) ∧ (¬ (z = 0 ∧ lvM w1 np rn sn nr (mqF kf) cl (w1.2.1 472 (w1.2.1 475 a.toNat).toNat) = false) → r' = some (ai 1) ∧ u = tM (upI u0 477 a.toNat z) 0))) → P r' u) → HT l yX12_moved cX12_moved 3 (some .boolean) 10 0 0 w1 [ar 400, ai a, ai z] P := fun hm P hP => by
    have A1 := LG_m A hm
    have b1 := GR_m b hm
    exact (c_X12_moved l _ np rn sn nr (mqF kf) cl nv a z A1.2.2.1 b1.1.2.1 b1.2.2.1.2.2.1 b1.2.1.2.1 ha hz).imp (fun r' u hp' => hP r' u hp')
  by_cases hr : 0 ≤ a ∧ a < (nv : Int)
  · have hav : a.toNat < nv := by omega
    have hv3 := (b.2.1.2.2.1 _ hav).2.2
    by_cases h2 : w.2.1 (60 + a.toNat) 2 = z
    · obtain ⟨hr1, hw1⟩ := p2 hr h2
      have hm : SMm w w1 := by rw [hw1]; exact SM_i (Or.inl (by decide))
      refine ⟨M400 (LG_m A hm), _, hr1, 0, 0, _, by decide, by decide, mm hm _ (fun r' u hp' => hp'), fun r' u hp' => ?_⟩
      obtain ⟨y1, y2⟩ := hp'.2.1 hr (by rw [(hm 477 (by decide) (by decide)).2.1, ← hv3]; exact h2)
      refine ⟨y1, ?_⟩
      rw [y2, hw1]
      exact fin_trb gb e (by decide) (by decide)
    · by_cases h1 : z = 1
      · obtain ⟨hr1, hw1⟩ := p3 hr h2 h1
        have hm : SMm w w1 := by rw [hw1]; exact SM_tr (SM_i (Or.inl (by have := b.2.1.1.2.1; omega))) (SM_i (Or.inl (by decide)))
        refine ⟨M400 (LG_m A hm), _, hr1, 0, 0, _, by decide, by decide, mm hm _ (fun r' u hp' => hp'), fun r' u hp' => ?_⟩
        obtain ⟨u0, y0, -, y2⟩ := hp'.2.2 hr (by rw [(hm 477 (by decide) (by decide)).2.1, ← hv3]; exact h2)
        obtain ⟨y3, y4⟩ := y2 (fun t => by omega)
        refine ⟨y3, ?_⟩
        rw [y4]
        have k := QMs_tr (QMs_th w1) (QMs_MP y0)
        have g1 := GB_q (GB_m gb hm) k.1 k.2.1 k.2.2
        subst h1
        exact fin_w e hm (GB_moved hav (Or.inr rfl) g1) hw1 (SX_tr (SX_q k.1) (SX_i (by decide))) (by rw [upI_o _ _ _ (by omega)]) (by rw [upI_o _ _ _ (by decide), QM_g k.1 (by decide)]) (by decide) (by decide)
      · have h0 : z = 0 := by omega
        obtain ⟨v, S', bb, hF, f1, f2⟩ := p4 hr h2 h0
        have hFS := hF.1
        have hHv := hF.2.1
        have hb : ∀ {w1 : AW}, SMm w w1 → bb = lvM w1 np rn sn nr (mqF kf) cl (w1.2.1 472 (w1.2.1 475 a.toNat).toNat) := fun hm => by
          have A1 := LG_m A hm
          have b1 := GR_m b hm
          have e1 := (b1.2.1.2.2.1 _ hav).1
          rw [← e1, ← b1.2.2.1.2.2.2.2.1 _ (by have := vil_cell b.2.1 _ hav; omega)]
          exact fm_both A1.1 (RuE_of b1.1) hF
        cases bb with
        | false =>
          obtain ⟨hr1, hw1⟩ := f1 rfl
          have hm : SMm w w1 := by rw [hw1]; exact SM_tr (SM_fs hFS) (SM_i (Or.inl (by decide)))
          refine ⟨M400 (LG_m A hm), _, hr1, 0, 0, _, by decide, by decide, mm hm _ (fun r' u hp' => hp'), fun r' u hp' => ?_⟩
          obtain ⟨u0, y0, y1, -⟩ := hp'.2.2 hr (by rw [(hm 477 (by decide) (by decide)).2.1, ← hv3]; exact h2)
          obtain ⟨y3, y4⟩ := y1 ⟨h0, (hb hm).symm⟩
          refine ⟨y3, ?_⟩
          rw [y4]
          refine fin_ft gb e hFS hHv ?_ (by decide) (by decide)
          rw [← hw1]
          exact QMs_tr (QMs_th w1) (QMs_MP y0)
        | true =>
          obtain ⟨hr1, hw1⟩ := f2 rfl
          have hm : SMm w w1 := by rw [hw1]; exact SM_tr (SM_fs hFS) (SM_tr (SM_i (Or.inl (by have := b.2.1.1.2.1; omega))) (SM_i (Or.inl (by decide))))
          refine ⟨M400 (LG_m A hm), _, hr1, 0, 0, _, by decide, by decide, mm hm _ (fun r' u hp' => hp'), fun r' u hp' => ?_⟩
          obtain ⟨u0, y0, -, y2⟩ := hp'.2.2 hr (by rw [(hm 477 (by decide) (by decide)).2.1, ← hv3]; exact h2)
          obtain ⟨y3, y4⟩ := y2 (fun t => by rw [← hb hm] at t; exact absurd t.2 (by decide))
          refine ⟨y3, ?_⟩
          rw [y4]
          have k := QMs_tr (QMs_th w1) (QMs_MP y0)
          have g1 := GB_q (GB_m (GB_fs gb hFS hHv) hm) k.1 k.2.1 k.2.2
          subst h0
          exact fin_w e hm (GB_moved hav (Or.inl rfl) g1) hw1 (SX_tr (SX_q k.1) (SX_i (by decide))) (by rw [upI_o _ _ _ (by omega), fsI hFS ⟨by decide, by decide, by decide, by decide, by decide⟩ (by decide) (by decide)]) (by rw [upI_o _ _ _ (by decide), QM_g k.1 (by decide)]) (by decide) (by decide)
  · obtain ⟨hr1, hw1⟩ := p1 hr
    have hm : SMm w w1 := by rw [hw1]; exact SM_i (Or.inl (by decide))
    refine ⟨M400 (LG_m A hm), _, hr1, 0, 0, _, by decide, by decide, mm hm _ (fun r' u hp' => hp'), fun r' u hp' => ?_⟩
    obtain ⟨y1, y2⟩ := hp'.1 hr
    refine ⟨y1, ?_⟩
    rw [y2, hw1]
    exact fin_trb gb e (by decide) (by decide)
/-- a village made, trouble not told yet -/
def viY (w : AW) (nv : Nat) (a v : Int) : AW := upI (upP (sR (alc w (60 + nv) (108, 0)) (60 + nv) (uI (uI ((alc w (60 + nv) (108, 0)).2.1 (60 + nv)) 0 a) 1 v)) 42 nv (some (60 + nv))) 0 12 ((nv : Int) + 1)
theorem viY_o (w : AW) (nv : Nat) (a v : Int) {j : Nat} (h0 : j ≠ 0) (h : j ≠ 60 + nv) : (viY w nv a v).2.1 j = w.2.1 j := by
  unfold viY
  rw [upI_o _ _ _ h0]
  show (sR _ _ _).2.1 j = _
  rw [sR_ne _ _ h]
  exact if_neg h
theorem viY_0 (w : AW) (nv : Nat) (a v : Int) {f : Nat} (h : f ≠ 12) : (viY w nv a v).2.1 0 f = w.2.1 0 f := by
  unfold viY
  rw [fne _ _ h]
  show (sR _ _ _).2.1 0 f = _
  rw [sR_ne _ _ (by omega)]
  exact congrFun (if_neg (by omega)) f
theorem viY_r (w : AW) (nv : Nat) (a v : Int) : (viY w nv a v).2.1 (60 + nv) = uI (uI (fun _ => 0) 0 a) 1 v := by
  unfold viY
  rw [upI_o _ _ _ (by omega)]
  show (sR _ _ _).2.1 (60 + nv) = _
  rw [sR_at]
  show uI (uI (if 60 + nv = 60 + nv then _ else _) 0 a) 1 v = _
  rw [if_pos rfl]
theorem GB_village {a v : Int} (hn : nv < 20) (ha : 0 ≤ a ∧ a < 400) (hv : 1 ≤ v ∧ v ≤ 9999) (g : GB ix w u n q np S rn sn nv nr mk tl sz rp rc kf cl) : GB ix (viY w nv a v) (vlW u nv a v) n q np S rn sn (nv + 1) nr mk tl sz rp rc kf cl := by
  have s1 : ∀ j, j ≠ 60 + nv → (viY w nv a v).1 j = w.1 j := fun j hj => if_neg hj
  have s2 : ∀ j, j ≠ 42 → j ≠ 60 + nv → (viY w nv a v).2.2 j = w.2.2 j := fun j h1 h2 => by
    show (if j = 42 then _ else (if j = 60 + nv then _ else w.2.2 j)) = _
    rw [if_neg h1, if_neg h2]
  have s3 : ∀ i, (viY w nv a v).2.2 42 i = if i = nv then some (60 + nv) else w.2.2 42 i := fun i => by
    show (if (42 : Nat) = 42 then (fun i => if i = nv then some (60 + nv) else (if (42 : Nat) = 60 + nv then (fun _ => none) else w.2.2 42) i) else (if (42 : Nat) = 60 + nv then (fun _ => none) else w.2.2 42)) i = _
    rw [if_pos rfl, if_neg (show ¬ 42 = 60 + nv by omega)]
  have m : ∀ j, j ≠ 400 → j ≠ 475 → j ≠ 476 → (vlW u nv a v).2.1 j = u.2.1 j := fun j h1 h2 h3 => by
    unfold vlW
    rw [upI_o _ _ _ h1, upI_o _ _ _ h3, upI_o _ _ _ h2]
  have mf : ∀ f, f ≠ 69 → (vlW u nv a v).2.1 400 f = u.2.1 400 f := fun f hf => by
    unfold vlW
    rw [fne _ _ hf, upI_o _ _ _ (by decide), upI_o _ _ _ (by decide)]
  have m69 : (vlW u nv a v).2.1 400 69 = (nv : Int) + 1 := feq _ _ _ _
  have m75 : (vlW u nv a v).2.1 475 = uI (u.2.1 475) nv a := rfl
  have m76 : (vlW u nv a v).2.1 476 = uI (u.2.1 476) nv v := rfl
  obtain ⟨⟨a1, a2, a3, a4⟩, ⟨b1, b2, b3⟩, c⟩ := g.2.1.2.1
  have h7 : u.2.1 477 nv = 0 := c.2 nv (Nat.le_refl _) hn
  refine GB_vig (w' := viY w nv a v) (u' := vlW u nv a v) g (fun j _ => s1 j (by omega)) (fun j h _ => s2 j h (by omega)) (fun j h _ => viY_o w nv a v h (by omega)) (fun f hf => viY_0 w nv a v hf) rfl rfl (fun j h1 h2 h3 _ => m j h1 h2 h3) mf ⟨⟨?_, by omega, fun k hk => ?_, fun k h1 h2 => ?_⟩, ⟨?_, by omega, fun k hk => ?_⟩, fun k hk => ?_, fun k h1 h2 => ?_⟩
  · exact feq _ _ _ _
  · by_cases e : k = nv
    · subst e
      rw [s3, if_pos rfl, viY_r]
      exact ⟨rfl, if_pos rfl, Or.inl rfl⟩
    · rw [s3, if_neg e, s1 _ (by omega), viY_o w nv a v (by omega) (by omega)]
      exact a3 k (by omega)
  · rw [s1 _ (by omega)]
    exact a4 k (by omega) h2
  · rw [m69]; omega
  · rw [m75, m76, m 477 (by decide) (by decide) (by decide)]
    by_cases e : k = nv
    · subst e
      rw [uI_at, uI_at]
      exact ⟨ha.1, ha.2, hv.1, hv.2, Or.inl h7⟩
    · rw [uI_ne _ _ e, uI_ne _ _ e]
      exact b3 k (by omega)
  · rw [m75, m76, m 477 (by decide) (by decide) (by decide)]
    by_cases e : k = nv
    · subst e
      rw [viY_r, uI_at (u.2.1 475), uI_at (u.2.1 476), h7]
      exact ⟨rfl, rfl, rfl⟩
    · rw [viY_o w nv a v (by omega) (by omega), uI_ne _ _ e, uI_ne _ _ e]
      exact c.1 k (by omega)
  · rw [m 477 (by decide) (by decide) (by decide)]
    exact c.2 k (by omega) h2
theorem K_village {a v : Int} (hR : REL ix w w) (ha : R32 a) (hv : R32 v) : CALL l ix w yX9_village cX9_village 3 2 yX12_village cX12_village 3 2 .int [ai a, ai v] := by
  obtain ⟨n, q, np, S, rn, sn, nv, nr, mk, tl, sz, rp, rc, kf, cl, A, b, c, d, e⟩ := hR
  have gb : GB ix w w n q np S rn sn nv nr mk tl sz rp rc kf cl := ⟨A, b, c, d⟩
  have hn20 := b.2.1.1.2.1
  refine CALL_of (by decide) (by decide) (c_X9_village l w nv a v A.1.1.1 b.2.1.1 ha hv) fun r w1 hp => ?_
  obtain ⟨p1, p2⟩ := hp
  by_cases hr : 0 ≤ a ∧ a < 400
  · rw [if_neg (fun t => t hr)] at p1 p2
    by_cases hk : 1 ≤ v ∧ v ≤ 9999
    · rw [if_neg (fun t => t hk)] at p1 p2
      by_cases hn : nv < 20
      · rw [if_neg (fun t => t hn)] at p1 p2
        have p3 : w1 = upI (viY w nv a v) 0 16 0 := p2
        have hm : SMm w w1 := by
          rw [p3]
          refine SM_tr (u := viY w nv a v) (SM_of (fun j x _ => if_neg (by omega)) (fun j x _ => viY_o w nv a v (by omega) (by omega)) (fun j x _ => ?_)) (SM_i (Or.inl (by decide)))
          show (if j = 42 then _ else (if j = 60 + nv then _ else w.2.2 j)) = _
          rw [if_neg (by omega), if_neg (by omega)]
        have A1 := LG_m A hm
        have b1 := GR_m b hm
        refine ⟨M400 A1, _, p1, 0, 0, _, by decide, by decide, c_X12_village l w1 nv a v A1.2.2.1.1 b1.2.1.2.1 ha hv, fun r' u hp' => ⟨?_, ?_⟩⟩
        · rw [hp'.1, if_pos hr, if_pos hk, if_neg (by omega)]
        · rw [hp'.2, if_pos hr, if_pos hk, if_neg (by omega)]
          refine fin_w e hm (GB_village hn hr hk (GB_mth gb hm)) p3 (SX_tr (SX_i (by decide)) (SX_tr (SX_i (by decide)) (SX_tr (SX_i (by decide)) (SX_i (by decide))))) (by rw [viY_o w nv a v (by decide) (by omega)]) ?_ (by decide) (by decide)
          unfold vlW
          rw [fne _ _ (by decide), upI_o _ _ _ (by decide), upI_o _ _ _ (by decide)]
          rfl
      · rw [if_pos hn] at p1 p2
        have hm : SMm w w1 := by rw [p2]; exact SM_i (Or.inl (by decide))
        have A1 := LG_m A hm
        have b1 := GR_m b hm
        refine ⟨M400 A1, _, p1, 0, 0, _, by decide, by decide, c_X12_village l w1 nv a v A1.2.2.1.1 b1.2.1.2.1 ha hv, fun r' u hp' => ⟨?_, ?_⟩⟩
        · rw [hp'.1, if_pos hr, if_pos hk, if_pos (by omega)]
        · rw [hp'.2, if_pos hr, if_pos hk, if_pos (by omega), p2]
          exact fin_trb gb e (by decide) (by decide)
    · rw [if_pos hk] at p1 p2
      have hm : SMm w w1 := by rw [p2]; exact SM_i (Or.inl (by decide))
      have A1 := LG_m A hm
      have b1 := GR_m b hm
      refine ⟨M400 A1, _, p1, 0, 0, _, by decide, by decide, c_X12_village l w1 nv a v A1.2.2.1.1 b1.2.1.2.1 ha hv, fun r' u hp' => ⟨?_, ?_⟩⟩
      · rw [hp'.1, if_pos hr, if_neg hk]
      · rw [hp'.2, if_pos hr, if_neg hk, p2]
        exact fin_trb gb e (by decide) (by decide)
  · rw [if_pos hr] at p1 p2
    have hm : SMm w w1 := by rw [p2]; exact SM_i (Or.inl (by decide))
    have A1 := LG_m A hm
    have b1 := GR_m b hm
    refine ⟨M400 A1, _, p1, 0, 0, _, by decide, by decide, c_X12_village l w1 nv a v A1.2.2.1.1 b1.2.1.2.1 ha hv, fun r' u hp' => ⟨?_, ?_⟩⟩
    · rw [hp'.1, if_neg hr]
    · rw [hp'.2, if_neg hr, p2]
      exact fin_trb gb e (by decide) (by decide)
end VIL2
