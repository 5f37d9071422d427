/-! ===== calls of both about the land ===== -/
section LAND
variable {l : Launch} {ix : Nat} {w u w' u' : AW} {n : Nat → Nat} {q : Nat → Nat → Nat} {np S rn sn nv nr mk tl sz sz' : Nat} {rp rc kf : Nat → Nat} {cl : Nat → List Int}
/-- the land alone changes -/
theorem GB_lag (g : GB ix w u n q np S rn sn nv nr mk tl sz rp rc kf cl) (h1 : w'.1 = w.1) (h2 : w'.2.2 = w.2.2) (ho : ∀ j, j < 36 ∨ 42 ≤ j → w'.2.1 j = w.2.1 j) (k1 : u'.1 = u.1) (k2 : u'.2.2 = u.2.2) (ko : ∀ j, j ≠ 400 → j ≠ 472 → j ≠ 473 → j ≠ 474 → u'.2.1 j = u.2.1 j) (kf' : ∀ f, 3 ≤ f → f < 66 ∨ f = 69 ∨ 71 < f → u'.2.1 400 f = u.2.1 400 f) (hL : LAG w' u' sz') : GB ix w' u' n q np S rn sn nv nr mk tl sz' rp rc kf cl := by
  obtain ⟨A, ⟨b1, b2, b3, b4, b5, b6⟩, R, P⟩ := g
  have e0 := ho 0 (by decide)
  have A1 : LG w' u n q np S rn sn := LG_x A (XS_of h1 h2 A.1.1.1) (SPI_of h1 h2 A.1.1.2.1) (fun j _ _ _ => ho j (by omega)) (fun j _ _ => ⟨ho j (by omega), by rw [h1]⟩) ⟨by rw [h2], by rw [h2], by rw [h2]⟩ (fun j _ _ => ho j (by omega)) ⟨by rw [e0], by rw [e0], by rw [e0]⟩
  refine ⟨LG_u A1 (MS_of k1 k2 A.2.2.1.1) (fun j hj => ko j (by omega) (by omega) (by omega) (by omega)) (fun f hf => kf' f (by omega) (by omega)), ⟨?_, ?_, hL, ?_, ⟨?_, ?_⟩, ?_⟩, CRW_u (CRW_x R (by rw [e0]) (by rw [e0])) (kf' 6 (by decide) (by decide)) (kf' 5 (by decide) (by decide)), PLN_u (PLN_x P (by rw [e0]) (ho 19 (by decide))) (kf' 40 (by decide) (by decide)) (ko 441 (by decide) (by decide) (by decide) (by decide))⟩
  · exact RUG_u (RUG_x b1 (by rw [ho 20 (by decide)]) (by rw [h2]) (fun j x _ => ⟨ho j (by omega), by rw [h1], by rw [h2]⟩)) (kf' 42 (by decide) (by decide)) (by rw [k2]) (fun j x y => ⟨ko j (by omega) (by omega) (by omega) (by omega), by rw [k1], by rw [k2]⟩)
  · exact VIG_u (VIG_x b2 (by rw [e0]) (by rw [h2]) (fun j x y => ⟨ho j (by omega), by rw [h1]⟩)) (kf' 69 (by decide) (by decide)) ⟨ko 475 (by decide) (by decide) (by decide) (by decide), ko 476 (by decide) (by decide) (by decide) (by decide), ko 477 (by decide) (by decide) (by decide) (by decide)⟩
  · exact TAG_u (TAG_x b4 (by rw [ho 20 (by decide)]) (ho 21 (by decide))) (ko 446 (by decide) (by decide) (by decide) (by decide)) (kf' 47 (by decide) (by decide)) (kf' 56 (by decide) (by decide))
  · exact HB_e b5.1 (ho 26 (by decide)) e0
  · rw [ho 18 (by decide)]; exact b5.2
  · exact FRE_o b6 (fun j _ => by rw [h1])
theorem LAG_height {c : Nat} {v : Int} (hc : c < 400) (hv : 0 ≤ v ∧ v ≤ 999) (h : LAG w u sz) : LAG (upI w 37 c v) (upI u 472 c v) sz := by
  obtain ⟨⟨c1, c2, c3, c4, c5, c6⟩, b, c', d, e, f, g⟩ := h
  have o : ∀ j, j ≠ 37 → (upI w 37 c v).2.1 j = w.2.1 j := fun j hj => upI_o _ _ _ hj
  have o' : ∀ j, j ≠ 472 → (upI u 472 c v).2.1 j = u.2.1 j := fun j hj => upI_o _ _ _ hj
  have r : (upI w 37 c v).2.1 37 = uI (w.2.1 37) c v := upI_row _ _ _ _
  have r' : (upI u 472 c v).2.1 472 = uI (u.2.1 472) c v := upI_row _ _ _ _
  refine ⟨⟨XS_of rfl rfl c1, by rw [o 40 (by decide)]; exact c2, c3, by rw [o 41 (by decide)]; exact c4, fun k hk => ?_, by rw [o 39 (by decide)]; exact c6⟩, ?_, ⟨fun k hk => ?_, ?_⟩, ?_, fun k hk => ?_, ?_, ?_⟩
  · rw [r]
    by_cases e : k = c
    · subst e; rw [uI_at]; exact hv
    · rw [uI_ne _ _ e]; exact c5 k hk
  · unfold LDN; rw [o 36 (by decide), o 38 (by decide)]; exact b
  · rw [r']
    by_cases e : k = c
    · subst e; rw [uI_at]; exact hv
    · rw [uI_ne _ _ e]; exact c'.1 k hk
  · rw [o' 400 (by decide)]; exact c'.2
  · unfold MO2; rw [o' 400 (by decide), o' 473 (by decide)]; exact d
  · rw [r, r']
    by_cases e' : k = c
    · subst e'; rw [uI_at, uI_at]
    · rw [uI_ne _ _ e', uI_ne _ _ e']; exact e k hk
  · rw [o 36 (by decide), o' 400 (by decide)]; exact f
  · unfold ARV; rw [o 36 (by decide), o 38 (by decide), o' 400 (by decide), o' 473 (by decide)]; exact g
theorem K_height {a v : Int} (hR : REL ix w w) (ha : R32 a) (hv : R32 v) : CALL l ix w yX9_height cX9_height 3 2 yX12_height cX12_height 3 2 .boolean [ai a, ai v] := by
  obtain ⟨n, q, np, S, rn, sn, nv, nr, mk, tl, sz, rp, rc, kf, cl, A, b, c, d, e⟩ := hR
  have gb : GB ix w w n q np S rn sn nv nr mk tl sz rp rc kf cl := ⟨A, b, c, d⟩
  refine CALL_of (by decide) (by decide) (c_X9_height l w a v A.1.1.1 ha hv) fun r w1 hp => ?_
  obtain ⟨p1, p2⟩ := hp
  by_cases hr : 0 ≤ a ∧ a < 400
  · rw [if_neg (fun t => t hr)] at p1 p2
    by_cases hk : 0 ≤ v ∧ v ≤ 999
    · rw [if_neg (fun t => t hk)] at p1 p2
      have hm : SMm w w1 := by rw [p2]; exact SM_tr (SM_i (Or.inl (by decide))) (SM_i (Or.inl (by decide)))
      have A1 := LG_m A hm
      refine ⟨M400 A1, _, p1, 0, 0, _, by decide, by decide, c_X12_height l w1 a v A1.2.2.1.1 ha hv, fun r' u hp' => ⟨?_, ?_⟩⟩
      · rw [hp'.1, if_pos hr, if_pos hk]
      · rw [hp'.2, if_pos hr, if_pos hk]
        have g1 := GB_mth gb hm
        refine fin_w e hm (GB_lag (w' := upI w 37 a.toNat v) (u' := upI (th w1) 472 a.toNat v) g1 rfl rfl (fun j _ => upI_o _ _ _ (by omega)) rfl rfl (fun j _ _ _ _ => upI_o _ _ _ (by omega)) (fun f _ _ => by rw [upI_o _ _ _ (by decide)]) (LAG_height (show a.toNat < 400 by omega) hk g1.2.1.2.2.1)) p2 (SX_tr (SX_i (by decide)) (SX_i (by decide))) (by rw [upI_o _ _ _ (by decide)]) (by rw [upI_o _ _ _ (by decide)]; rfl) (by decide) (by decide)
    · rw [if_pos hk] at p1 p2
      have hm : SMm w w1 := by rw [p2]; exact SM_i (Or.inl (by decide))
      have A1 := LG_m A hm
      refine ⟨M400 A1, _, p1, 0, 0, _, by decide, by decide, c_X12_height l w1 a v A1.2.2.1.1 ha hv, fun r' u hp' => ⟨?_, ?_⟩⟩
      · rw [hp'.1, if_pos hr, if_neg hk]
      · rw [hp'.2, if_pos hr, if_neg hk, p2]
        exact fin_trb gb e (by decide) (by decide)
  · rw [if_pos hr] at p1 p2
    have hm : SMm w w1 := by rw [p2]; exact SM_i (Or.inl (by decide))
    have A1 := LG_m A hm
    refine ⟨M400 A1, _, p1, 0, 0, _, by decide, by decide, c_X12_height l w1 a v A1.2.2.1.1 ha hv, fun r' u hp' => ⟨?_, ?_⟩⟩
    · rw [hp'.1, if_neg hr]
    · rw [hp'.2, if_neg hr, p2]
      exact fin_trb gb e (by decide) (by decide)
theorem LAG_land {a : Nat} {v : Int} (ha : a < 3) (hv : lanLo (a : Int) ≤ v ∧ v ≤ lanHi (a : Int)) (h : LAG w u sz) : LAG (upI w 36 (1 + a) v) (upI u 400 (66 + a) v) sz := by
  obtain ⟨⟨c1, c2, c3, c4, c5, c6⟩, b, c', d, e, f, g⟩ := h
  have o : ∀ j, j ≠ 36 → (upI w 36 (1 + a) v).2.1 j = w.2.1 j := fun j hj => upI_o _ _ _ hj
  have o' : ∀ j, j ≠ 400 → (upI u 400 (66 + a) v).2.1 j = u.2.1 j := fun j hj => upI_o _ _ _ hj
  have r : ∀ f, f ≠ 1 + a → (upI w 36 (1 + a) v).2.1 36 f = w.2.1 36 f := fun f hf => fne _ _ hf
  have r' : ∀ f, f ≠ 66 + a → (upI u 400 (66 + a) v).2.1 400 f = u.2.1 400 f := fun f hf => fne _ _ hf
  unfold LAG CI LDN ML MO2 ARV
  rw [o 40 (by decide), o 41 (by decide), o 37 (by decide), o 39 (by decide), o 38 (by decide), o' 472 (by decide), o' 473 (by decide), r 5 (by omega), r' 71 (by omega), r' 70 (by omega)]
  refine ⟨⟨XS_of rfl rfl c1, c2, c3, c4, c5, c6⟩, ?_, ⟨c'.1, ?_⟩, d, e, ?_, g⟩
  · rcases (show a = 0 ∨ a = 1 ∨ a = 2 by omega) with rfl | rfl | rfl
    · rw [feq, r 2 (by decide), r 3 (by decide)]; exact ⟨hv, b.2⟩
    · rw [feq, r 1 (by decide), r 3 (by decide)]; exact ⟨b.1, hv, b.2.2⟩
    · rw [feq, r 1 (by decide), r 2 (by decide)]; exact ⟨b.1, b.2.1, hv, b.2.2.2⟩
  · rcases (show a = 0 ∨ a = 1 ∨ a = 2 by omega) with rfl | rfl | rfl
    · rw [feq, r' 67 (by decide), r' 68 (by decide)]; exact ⟨hv, c'.2.2⟩
    · rw [feq, r' 66 (by decide), r' 68 (by decide)]; exact ⟨c'.2.1, hv, c'.2.2.2⟩
    · rw [feq, r' 66 (by decide), r' 67 (by decide)]; exact ⟨c'.2.1, c'.2.2.1, hv, c'.2.2.2.2⟩
  · rcases (show a = 0 ∨ a = 1 ∨ a = 2 by omega) with rfl | rfl | rfl
    · rw [feq, feq, r 2 (by decide), r 3 (by decide), r' 67 (by decide), r' 68 (by decide)]; exact ⟨rfl, f.2⟩
    · rw [feq, feq, r 1 (by decide), r 3 (by decide), r' 66 (by decide), r' 68 (by decide)]; exact ⟨f.1, rfl, f.2.2⟩
    · rw [feq, feq, r 1 (by decide), r 2 (by decide), r' 66 (by decide), r' 67 (by decide)]; exact ⟨f.1, f.2.1, rfl, f.2.2.2⟩
theorem la_eq {a : Int} (h : 0 ≤ a ∧ a < 3) : laLo a = lanLo a ∧ laHi a = lanHi a ∧ lndF a = 66 + a.toNat := by
  rcases (show a = 0 ∨ a = 1 ∨ a = 2 by omega) with rfl | rfl | rfl <;> exact ⟨rfl, rfl, rfl⟩
theorem K_land {a v : Int} (hR : REL ix w w) (ha : R32 a) (hv : R32 v) : CALL l ix w yX9_land cX9_land 3 2 yX12_land cX12_land 3 2 .boolean [ai a, ai v] := by
  obtain ⟨n, q, np, S, rn, sn, nv, nr, mk, tl, sz, rp, rc, kf, cl, A, b, c, d, e⟩ := hR
  have gb : GB ix w w n q np S rn sn nv nr mk tl sz rp rc kf cl := ⟨A, b, c, d⟩
  refine CALL_of (by decide) (by decide) (c_X9_land l w a v A.1.1.1 ha hv) fun r w1 hp => ?_
  obtain ⟨p1, p2⟩ := hp
  by_cases hr : 0 ≤ a ∧ a < 3
  · rw [if_neg (fun t => t hr)] at p1 p2
    have hr' : 0 ≤ a ∧ a ≤ 2 := by omega
    obtain ⟨s1, s2, s3⟩ := la_eq hr
    by_cases hk : lanLo a ≤ v ∧ v ≤ lanHi a
    · rw [if_neg (fun t => t hk)] at p1 p2
      have hm : SMm w w1 := by rw [p2]; exact SM_tr (SM_i (Or.inl (by decide))) (SM_i (Or.inl (by decide)))
      have A1 := LG_m A hm
      refine ⟨M400 A1, _, p1, 0, 0, _, by decide, by decide, c_X12_land l w1 a v A1.2.2.1.1 ha hv, fun r' u hp' => ⟨?_, ?_⟩⟩
      · rw [hp'.1, if_pos hr', s1, s2, if_pos hk]
      · rw [hp'.2, if_pos hr', s1, s2, if_pos hk, s3]
        have g1 := GB_mth gb hm
        refine fin_w e hm (GB_lag (w' := upI w 36 (1 + a.toNat) v) (u' := upI (th w1) 400 (66 + a.toNat) v) g1 rfl rfl (fun j _ => upI_o _ _ _ (by omega)) rfl rfl (fun j _ _ _ _ => upI_o _ _ _ (by omega)) (fun f _ _ => fne _ _ (by omega)) (LAG_land (a := a.toNat) (v := v) (show a.toNat < 3 by omega) (by rw [show ((a.toNat : Nat) : Int) = a by omega]; exact hk) g1.2.1.2.2.1)) p2 (SX_tr (SX_i (by decide)) (SX_i (by decide))) (by rw [upI_o _ _ _ (by decide)]) (fne _ _ (by omega)) (by decide) (by decide)
    · rw [if_pos hk] at p1 p2
      have hm : SMm w w1 := by rw [p2]; exact SM_i (Or.inl (by decide))
      have A1 := LG_m A hm
      refine ⟨M400 A1, _, p1, 0, 0, _, by decide, by decide, c_X12_land l w1 a v A1.2.2.1.1 ha hv, fun r' u hp' => ⟨?_, ?_⟩⟩
      · rw [hp'.1, if_pos hr', s1, s2, if_neg hk]
      · rw [hp'.2, if_pos hr', s1, s2, if_neg hk, p2]
        exact fin_trb gb e (by decide) (by decide)
  · rw [if_pos hr] at p1 p2
    have hr' : ¬ (0 ≤ a ∧ a ≤ 2) := by omega
    have hm : SMm w w1 := by rw [p2]; exact SM_i (Or.inl (by decide))
    have A1 := LG_m A hm
    refine ⟨M400 A1, _, p1, 0, 0, _, by decide, by decide, c_X12_land l w1 a v A1.2.2.1.1 ha hv, fun r' u hp' => ⟨?_, ?_⟩⟩
    · rw [hp'.1, if_neg hr']
    · rw [hp'.2, if_neg hr', p2]
      exact fin_trb gb e (by decide) (by decide)
theorem roR_o (w : AW) (L : Nat) (amt : Int) : (roR w L amt).2.1 = w.1 ∧ (roR w L amt).2.2.2 = w.2.2 ∧ (∀ j, j < 36 ∨ 42 ≤ j → (roR w L amt).2.2.1 j = w.2.1 j) ∧ (roR w L amt).2.2.1 36 = uI (w.2.1 36) 5 1 ∧ (roR w L amt).2.2.1 37 = w.2.1 37 := by
  unfold roR
  generalize (w.2.1 (2 + L) 9).toNat = frm
  obtain ⟨e1, e2, e3⟩ := lr0_36 w (frm : Int) (w.2.1 37 frm + w.2.1 36 1)
  have g := fun (j : Nat) (h0 : j ≠ 38) (h1 : j ≠ 39) (h2 : j ≠ 40) (h3 : j ≠ 41) => rlF_o (hi := w.2.1 37 frm + w.2.1 36 1) (spd := w.2.1 36 3) (most := mostF amt (w.2.1 36 2)) h0 h1 h2 h3 400 0 (lr0 w (frm : Int) (w.2.1 37 frm + w.2.1 36 1))
  have g0 := g 0 (by decide) (by decide) (by decide) (by decide)
  refine ⟨g0.2.1.trans e2, g0.2.2.trans e3, fun j hj => (g j (by omega) (by omega) (by omega) (by omega)).1.trans (lr0_o w _ _ (by omega) (by omega) (by omega) (by omega) (by omega)), (g 36 (by decide) (by decide) (by decide) (by decide)).1.trans e1, (g 37 (by decide) (by decide) (by decide) (by decide)).1.trans (lr0_o w _ _ (by decide) (by decide) (by decide) (by decide) (by decide))⟩
theorem K_runOut {z a : Int} (hR : REL ix w w) (hz : R32 z) (ha : R32 a) : CALL l ix w yX9_runOut cX9_runOut 4 5 yX12_runOut cX12_runOut 6 3 .int [ai z, ai a] := by
  obtain ⟨n, q, np, S, rn, sn, nv, nr, mk, tl, sz, rp, rc, kf, cl, A, b, c, d, e⟩ := hR
  have gb : GB ix w w n q np S rn sn nv nr mk tl sz rp rc kf cl := ⟨A, b, c, d⟩
  have hcl : ∀ L, L < 2 → 0 ≤ w.2.1 (2 + L) 9 ∧ w.2.1 (2 + L) 9 < 400 := fun L hL => by
    have h1 := (A.1.2.1 L hL).2.1.2.2.2.2
    have h2 := (A.2.2.1.2.2.1 L hL).2.2.2.2.2.2.2.2
    omega
  have hLA := b.2.2.1
  refine CALL_of (by decide) (by decide) (c_X9_runOut l w sz z a hLA.1 hLA.2.1 hcl hz ha) fun r w1 hp => ?_
  obtain ⟨p1, p2⟩ := hp
  by_cases hr : 0 ≤ z ∧ z < 2
  · rw [if_neg (fun t => t hr)] at p1 p2
    have hL : z.toNat < 2 := by omega
    by_cases hk : 0 ≤ a ∧ a ≤ 1000000
    · rw [if_neg (fun t => t hk)] at p1 p2
      obtain ⟨o1, o2, o3, o4, o5⟩ := roR_o w z.toNat a
      have hm0 : SMm w (roR w z.toNat a).2 := SM_of (fun j _ _ => by rw [o1]) (fun j _ _ => o3 j (by omega)) (fun j _ _ => by rw [o2])
      have hm : SMm w w1 := by rw [p2]; exact SM_tr hm0 (SM_i (Or.inl (by decide)))
      have A1 := LG_m A hm
      have b1 := GR_m b hm
      obtain ⟨l1, l2, l3, l4, l5, l6, l7⟩ := b1.2.2.1
      have hfr : w1.2.1 414 z.toNat = (((w.2.1 (2 + z.toNat) 9).toNat : Nat) : Int) := by
        have h1 := (A1.1.2.1 _ hL).2.1.2.2.2.2
        have h2 := hcl _ hL
        omega
      have hro := ro_both (L := z.toNat) (amt := a) l1 l2 (show (w.2.1 (2 + z.toNat) 9).toNat < 400 by have := hcl _ hL; omega) hk.1 hfr l5 l6.1 l6.2.1
      change (roR w z.toNat a).1 = _ ∧ (∀ c, c < 400 → (_ → (roR w z.toNat a).2.2.1 38 c = -2) ∧ (_ → _ ∧ _ ∧ (roR w z.toNat a).2.2.1 38 c = _)) ∧ ∃ s2, CI (roR w z.toNat a).2 s2 at hro
      obtain ⟨r1, r2, s2, r3⟩ := hro
      generalize roR w z.toNat a = X at *
      refine ⟨M400 A1, _, p1, 0, 0, _, by decide, by decide, c_X12_runOut l w1 z a A1.2.2.1.1 A1.2.2.1.2.2.1 l3 hz ha, fun r' u hp' => ⟨?_, ?_⟩⟩
      · rw [hp'.1, if_pos hr, if_pos hk, r1]
      · rw [hp'.2, if_pos hr, if_pos hk]
        have g1 := GB_m gb hm
        generalize roM w1 z.toNat a = Y at *
        have t473 : (sR (ro0 w1) 473 Y.2).2.1 473 = Y.2 := sR_at _ _ _
        have to : ∀ j, j ≠ 400 → j ≠ 473 → (sR (ro0 w1) 473 Y.2).2.1 j = w1.2.1 j := fun j h1 h2 => by
          rw [sR_ne _ _ h2]
          unfold ro0 th
          rw [upI_o _ _ _ h1, upI_o _ _ _ h1, fillW_o _ _ _ h2, upI_o _ _ _ h1]
        have tf : ∀ f, f ≠ 0 → f ≠ 70 → f ≠ 71 → (sR (ro0 w1) 473 Y.2).2.1 400 f = w1.2.1 400 f := fun f h0 h1 h2 => by
          rw [sR_ne _ _ (by decide)]
          unfold ro0 th
          rw [fne _ _ h1, fne _ _ h2, fillW_o _ _ _ (by decide), fne _ _ h0]
        have t70 : (sR (ro0 w1) 473 Y.2).2.1 400 70 = w1.2.1 400 68 := by
          rw [sR_ne _ _ (by decide)]
          unfold ro0
          rw [feq]
        have t71 : (sR (ro0 w1) 473 Y.2).2.1 400 71 = 1 := by
          rw [sR_ne _ _ (by decide)]
          unfold ro0
          rw [fne _ _ (by decide), feq]
        have x36 : X.2.2.1 36 1 = w.2.1 36 1 ∧ X.2.2.1 36 2 = w.2.1 36 2 ∧ X.2.2.1 36 3 = w.2.1 36 3 ∧ X.2.2.1 36 5 = 1 := by
          rw [o4]
          exact ⟨rfl, rfl, rfl, rfl⟩
        refine fin_w (y := X.2) e hm (GB_lag g1 o1 o2 o3 rfl rfl (fun j h1 _ h3 _ => to j h1 h3) (fun f h1 h2 => tf f (by omega) (by omega) (by omega)) ⟨r3, ?_, ?_, ?_, ?_, ?_, ?_⟩) p2 (fun j hj => ⟨rfl, to j (by omega) (by omega), rfl⟩) (by rw [o3 20 (by decide)]) (tf 3 (by decide) (by decide) (by decide)) (by decide) (by decide)
        · unfold LDN
          rw [x36.1, x36.2.1, x36.2.2.1, x36.2.2.2]
          refine ⟨l2.1, l2.2.1, l2.2.2.1, Or.inr rfl, fun k hk => ?_⟩
          obtain ⟨y1, y2⟩ := r2 k hk
          by_cases h1 : Y.2 k = -1
          · rw [y1 h1]; decide
          · obtain ⟨y3, y4, y5⟩ := y2 h1
            rw [y5]
            have := Int.ediv_nonneg y3 (show 0 ≤ w.2.1 36 3 by have := l2.2.2.1; omega)
            have := Int.ediv_le_self (w.2.1 36 3) y3
            omega
        · unfold ML
          rw [to 472 (by decide) (by decide), tf 66 (by decide) (by decide) (by decide), tf 67 (by decide) (by decide) (by decide), tf 68 (by decide) (by decide) (by decide), t71]
          exact ⟨l3.1, l3.2.1, l3.2.2.1, l3.2.2.2.1, Or.inr rfl⟩
        · unfold MO2
          rw [t70, t473]
          refine fun _ => ⟨l3.2.2.2.1, fun k hk => ?_⟩
          by_cases h1 : Y.2 k = -1
          · rw [h1]; decide
          · have := (r2 k hk).2 h1
            omega
        · rw [o5, to 472 (by decide) (by decide)]; exact l5
        · rw [x36.1, x36.2.1, x36.2.2.1, x36.2.2.2, tf 66 (by decide) (by decide) (by decide), tf 67 (by decide) (by decide) (by decide), tf 68 (by decide) (by decide) (by decide), t71]
          exact ⟨l6.1, l6.2.1, l6.2.2.1, rfl⟩
        · unfold ARV
          rw [t70, t473, ← l6.2.2.1]
          refine fun _ k hk => ⟨(r2 k hk).1, fun h1 => ?_⟩
          obtain ⟨y3, y4, y5⟩ := (r2 k hk).2 h1
          exact ⟨y3, y5⟩
    · rw [if_pos hk] at p1 p2
      have hm : SMm w w1 := by rw [p2]; exact SM_i (Or.inl (by decide))
      have A1 := LG_m A hm
      have b1 := GR_m b hm
      refine ⟨M400 A1, _, p1, 0, 0, _, by decide, by decide, c_X12_runOut l w1 z a A1.2.2.1.1 A1.2.2.1.2.2.1 b1.2.2.1.2.2.1 hz ha, fun r' u hp' => ⟨?_, ?_⟩⟩
      · rw [hp'.1, if_pos hr, if_neg hk]
      · rw [hp'.2, if_pos hr, if_neg hk, p2]
        exact fin_trb gb e (by decide) (by decide)
  · rw [if_pos hr] at p1 p2
    have hm : SMm w w1 := by rw [p2]; exact SM_i (Or.inl (by decide))
    have A1 := LG_m A hm
    have b1 := GR_m b hm
    refine ⟨M400 A1, _, p1, 0, 0, _, by decide, by decide, c_X12_runOut l w1 z a A1.2.2.1.1 A1.2.2.1.2.2.1 b1.2.2.1.2.2.1 hz ha, fun r' u hp' => ⟨?_, ?_⟩⟩
    · rw [hp'.1, if_neg hr]
    · rw [hp'.2, if_neg hr, p2]
      exact fin_trb gb e (by decide) (by decide)
end LAND
