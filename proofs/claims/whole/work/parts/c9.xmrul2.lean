/-! ===== a rule told to both: the call ===== -/
theorem NRX_2 {p nr : Nat} {w y0 : AW} {r : Option Nat} {z : Int} (h : NRX p w y0) : NRX p w (upI (upP y0 22 nr r) 20 3 z) := by
  refine ⟨fun j a b => ⟨(h.1 j a b).1, fun c => ?_, fun c d e f => ?_⟩, ?_⟩
  · show (upP y0 22 nr r).2.2 j = _
    rw [upP_o _ _ _ c]
    exact (h.1 j a b).2.1 c
  · rw [upI_o _ _ _ c]
    exact (h.1 j a b).2.2 c d e f
  · rw [fne _ _ (by decide)]
    exact h.2
theorem RU_2 {p nr cp : Nat} {y0 : AW} {r : Option Nat} {z : Int} {c : List Int} (hp : 43 ≤ p) (hc : 43 ≤ cp) (h : RU y0 p cp c) : RU (upI (upP y0 22 nr r) 20 3 z) p cp c := by
  have e1 : (upI (upP y0 22 nr r) 20 3 z).2.2 p = y0.2.2 p := upP_o _ _ _ (by omega)
  unfold RU
  rw [e1, upI_o _ _ _ (show p ≠ 20 by omega), upI_o _ _ _ (show cp ≠ 20 by omega)]
  exact h
theorem SM_nrx {p : Nat} {w y : AW} (hp : 2000 ≤ p) (h : NRX p w y) : SMm w y := fun j a b => by
  obtain ⟨x1, x2, x3⟩ := h.1 j (by omega) (by omega)
  exact ⟨x1, x3 (by omega) (by omega) (by omega) (by omega), x2 (by omega)⟩
theorem KPO_has {u : AW} {nr mk : Nat} {kf : Nat → Nat} (hn : nr ≤ 16) (h : MSL u nr mk kf) : ∃ kP mk' mc ms : Nat, mc ≤ 3 ∧ ms ≤ 604 ∧ KPO nr mk mk' kP kf ∧ FH (500 + 3 * kP) nr mc ms u ∧ (mc = 0 → u.2.2 444 nr = some (500 + 3 * kP) ∧ RO u (500 + 3 * kP)) := by
  obtain ⟨s1, s2, s3, s4, s5, s6⟩ := h
  by_cases c : nr < mk
  · obtain ⟨z1, z2, z3⟩ := s3 nr c
    exact ⟨kf nr, mk, 0, 0, by decide, by decide, ⟨c, s2, z2, Nat.le_refl _, fun r hr hn' => ⟨hr, fun t => hn' (s4 r nr hr c t)⟩, fun _ h => h⟩, Or.inl ⟨rfl, rfl, z1, z3⟩, fun _ => ⟨z1, z3⟩⟩
  · obtain rfl : nr = mk := by omega
    exact ⟨nr, nr + 1, 3, 604, by decide, by decide, ⟨by omega, by omega, by omega, by omega, fun r hr hn' => ⟨by omega, fun t => by have := (s3 r (by omega)).2.1; omega⟩, fun _ h => by omega⟩, Or.inr ⟨rfl, rfl, s5 nr (by omega) (by omega), s6 _ (by omega) (by omega), s6 _ (by omega) (by omega), s6 _ (by omega) (by omega)⟩, fun t => absurd t (by decide)⟩
set_option maxHeartbeats 1000000 in
theorem K_rule {l : Launch} {ix : Nat} {w : AW} {z : Int} (hix : ix < 512) (hR : REL ix w w) (hz : R32 z) : CALLH l ix w yX9_rule cX9_rule 3 11 yX12_rule cX12_rule 3 39 [(38, 42, 45, 123)] .int [ai z] := by
  obtain ⟨n, q, np, S, rn, sn, nv, nr, mk, tl, sz, rp, rc, kf, cl, A, b, c, d, e⟩ := hR
  have gb : GB ix w w n q np S rn sn nv nr mk tl sz rp rc kf cl := ⟨A, b, c, d⟩
  obtain ⟨t1, t2, t3, t4, t5, t6⟩ := b.2.2.2.1
  have hp := b.2.2.2.2.2.1 (2000 + 2 * ix) (by omega) (by omega)
  have hp1 := b.2.2.2.2.2.1 (2000 + 2 * ix + 1) (by omega) (by omega)
  have hnr := b.1.1.1
  have hnr2 := b.1.1.2.1
  refine ⟨2, 302, by decide, by decide, (c_X9_rule l w tl nr (2000 + 2 * ix) (w.2.1 21) z A.1.1.1 rfl t1 t2 t4 hp hp1 (by omega) (by omega) hnr hnr2 hz).imp fun r w1 hpX => ?_⟩
  obtain ⟨p1, p2⟩ := hpX
  have mm : ∀ {w1 : AW}, SMm w w1 → ∃ kP mk' mc ms : Nat, mc ≤ 3 ∧ ms ≤ 604 ∧ KPO nr mk mk' kP kf ∧ (mc = 0 → w1.2.2 444 nr = some (500 + 3 * kP) ∧ RO w1 (500 + 3 * kP)) ∧ HTH l yX12_rule cX12_rule 3 (some .int) [(38, 42, 45, 123)] 39 mc ms w1 [ar 400, ai z] (fun r w' => (¬ (0 ≤ z ∧ z ≤ w1.2.1 400 47) → r = some (ai (-1)) ∧ w' = tM (th w1) 2) ∧ ((0 ≤ z ∧ z ≤ w1.2.1 400 47) → ∃ w2 u, FX (500 + 3 * kP) nr mc (rbW w1 z) w2 ∧ MYr (500 + 3 * kP) w2 u ∧ R64 (u.2.1 400 56) ∧ (0 ≤ u.2.1 (500 + 3 * kP) 0 ∧ u.2.1 (500 + 3 * kP) 0 < 4) ∧ ((∃ (f : Int) (q : Nat), xRun (w.2.1 21) z.toNat 301 0 (xs0 (w.2.1 23 12)) = .inl (f, q) ∧ r = some (ai (-1)) ∧ w' = upI (upI (upI u 400 3 f) 400 1 4) 400 2 (q : Int)) ∨ (∃ s6 : XP, xRun (w.2.1 21) z.toNat 301 0 (xs0 (w.2.1 23 12)) = .inr s6 ∧ RM u (500 + 3 * kP) s6.2.2.1 ∧ u.2.1 (500 + 3 * kP) 0 = s6.2.1.2.2 ∧ ((nr = 16 ∧ r = some (ai (-1)) ∧ w' = tM u 3) ∨ (nr < 16 ∧ r = some (ai (nr : Int)) ∧ w' = tM (upI u 400 42 ((nr : Int) + 1)) 0)))))) := fun {w1} hm => by
    have h := GR_m b hm
    have hM := (LG_m A hm).2.2.1.1
    obtain ⟨-, -, u3, -, u5, u6⟩ := h.2.2.2.1
    obtain ⟨kP, mk', mc, ms, k1, k2, k3, k4, k5⟩ := KPO_has hnr2 h.1.2.2.2
    have hk17 : kP < 17 := by have := k3.2.1; have := k3.2.2.1; omega
    exact ⟨kP, mk', mc, ms, k1, k2, k3, k5, c_X12_rule l w1 (w.2.1 21) nr (500 + 3 * kP) mc ms (w.2.1 23 12) z hM hz ⟨by omega, by omega⟩ (fun k hk => u5 k (by omega)) t4 h.1.2.1.1 (by omega) (by omega) (by omega) u6 k4⟩
  by_cases hb : 0 ≤ z ∧ z ≤ (tl : Int)
  · obtain ⟨x, hF3, hx⟩ := p2 hb
    cases e9 : xRun (w.2.1 21) z.toNat 301 0 (xs0 (w.2.1 23 12)) with
    | inl fq =>
      obtain ⟨f, qq⟩ := fq
      rw [e9] at hx
      obtain ⟨hr, hw1⟩ := hx
      have hy : NRX (2000 + 2 * ix) w (rtW x f (qq : Int)) := NRX_0 hF3
      have hm : SMm w w1 := by rw [hw1]; exact SM_tr (u := rtW x f (qq : Int)) (SM_nrx (by omega) hy) (SM_i (Or.inl (by decide)))
      obtain ⟨kP, mk', mc, ms, k1, k2, k3, k5, kk⟩ := mm hm
      have hk17 : kP < 17 := by have := k3.2.1; have := k3.2.2.1; omega
      have u3 := (GR_m b hm).2.2.2.1.2.2.1
      refine ⟨M400 (LG_m A hm), _, hr, mc, ms, k1, k2, kk.imp fun r' v hp' => ?_⟩
      obtain ⟨w2, u, f1, f2, f3, f4, f5⟩ := hp'.2 ⟨hb.1, by omega⟩
      rcases f5 with ⟨f', q', g1, g2, g3⟩ | ⟨s6, g1, -⟩
      · rw [e9] at g1
        cases g1
        refine ⟨g2, ?_⟩
        obtain ⟨hv0, v3, v42, -⟩ := NRU_of (by omega) f1 k5 f2 f3 f4
        have hv := NRU_i (z := f) (by omega) hv0 (Or.inl rfl)
        have gR := RUG_0 (y := rtW x f (qq : Int)) (v := upI u 400 3 f) (GR_m b hm).1 k3 hp hp1 hy (by
          rw [(rtW_20 _ _ _).2.2.2, hF3.2.2 20 (by decide) (by decide) (by decide)]) (by show x.2.2 22 = _; rw [hF3.2.1]) hv (by rw [fne _ _ (by decide)]; exact v42)
        have g4 := GB_rl (y := rtW x f (qq : Int)) (v := upI u 400 3 f) (GB_m gb hm) hix hy hv gR
        rw [g3]
        have kq : QM (upI u 400 3 f) (upI (upI (upI u 400 3 f) 400 1 4) 400 2 (qq : Int)) := QM_tr (QM_f (f := 1) (by omega)) (QM_f (f := 2) (by omega))
        have hs : SX w1 (upI (upI (upI u 400 3 f) 400 1 4) 400 2 (qq : Int)) := SX_tr (NRU_sx (by omega) (by omega) hv) (SX_q kq)
        have g5 := GB_q (GB_16 4 g4) kq rfl rfl
        rw [← hw1] at g5
        refine REL_j (GB_sx g5 hs) (TRB_sx ?_ hs)
        rw [hw1]
        refine ⟨?_, ?_, fun _ => ?_, fun t => absurd ?_ t, ?_⟩
        · rw [feq, fne _ _ (by decide), feq]
        · rw [feq]; decide
        · rw [feq, upI_o _ _ _ (by decide)]
          exact (rtW_20 _ _ _).2.2.1
        · rw [feq]
        · rw [fne _ _ (by decide), fne _ _ (by decide), feq, upI_o _ _ _ (by decide)]
          exact (rtW_20 _ _ _).2.1
      · rw [e9] at g1
        cases g1
    | inr s =>
      rw [e9] at hx
      obtain ⟨hRs, hJs, hok, hfull⟩ := hx
      obtain ⟨rk1, rk2⟩ := rule_ok (n := z.toNat) t4 (by omega) (XJ0 _) e9
      have hy0 : NRX (2000 + 2 * ix) w (rtW (mkR x (2000 + 2 * ix) s.2.2.1.length s.2.1.2.2) 0 (-1)) := NRX_1 hF3 (by omega)
      have ru : ∀ {P : Nat} {u : AW}, RM u P s.2.2.1 → u.2.1 P 0 = s.2.1.2.2 → RU (rtW (mkR x (2000 + 2 * ix) s.2.2.1.length s.2.1.2.2) 0 (-1)) (2000 + 2 * ix) (2000 + 2 * ix + 1) s.2.2.1 ∧ (rtW (mkR x (2000 + 2 * ix) s.2.2.1.length s.2.1.2.2) 0 (-1)).2.1 (2000 + 2 * ix) 0 = s.2.1.2.2 := fun h1 h2 => by
        obtain ⟨-, -, -, -, -, -, m1, m2, m3, m4⟩ := h1
        exact mkR_ru (by omega) hRs.2.2.2.2.2.2.2.2.1 (fun i hi => okIt_b (m2 i hi)) m1 ⟨by omega, by omega⟩
      by_cases hn : nr < 16
      · obtain ⟨hr, hw1⟩ := hok hn
        have hy := NRX_2 (nr := nr) (r := some (2000 + 2 * ix)) (z := (nr : Int) + 1) hy0
        have hm : SMm w w1 := by rw [hw1]; exact SM_tr (SM_nrx (by omega) hy) (SM_i (Or.inl (by decide)))
        obtain ⟨kP, mk', mc, ms, k1, k2, k3, k5, kk⟩ := mm hm
        have hk17 : kP < 17 := by have := k3.2.1; have := k3.2.2.1; omega
        have u3 := (GR_m b hm).2.2.2.1.2.2.1
        refine ⟨M400 (LG_m A hm), _, hr, mc, ms, k1, k2, kk.imp fun r' v hp' => ?_⟩
        obtain ⟨w2, u, f1, f2, f3, f4, f5⟩ := hp'.2 ⟨hb.1, by omega⟩
        rcases f5 with ⟨f', q', g1, -⟩ | ⟨s6, g1, g2, g3, g4⟩
        · rw [e9] at g1
          cases g1
        · rw [e9] at g1
          cases g1
          rcases g4 with ⟨h16, -⟩ | ⟨-, g5, g6⟩
          · omega
          · refine ⟨g5, ?_⟩
            obtain ⟨hv0, v3, v42, -⟩ := NRU_of (by omega) f1 k5 f2 f3 f4
            have hv := NRU_i (z := (nr : Int) + 1) (by omega) hv0 (Or.inr rfl)
            obtain ⟨ru1, ru2⟩ := ru g2 g3
            have hRU := RU_2 (p := 2000 + 2 * ix) (cp := 2000 + 2 * ix + 1) (nr := nr) (r := some (2000 + 2 * ix)) (z := (nr : Int) + 1) (by omega) (by omega) ru1
            have gR := RUG_1 (y := upI (upP (rtW (mkR x (2000 + 2 * ix) s.2.2.1.length s.2.1.2.2) 0 (-1)) 22 nr (some (2000 + 2 * ix))) 20 3 ((nr : Int) + 1)) (v := upI u 400 42 ((nr : Int) + 1)) (kP := kP) (GR_m b hm).1 hn k3 hp hp1 (by omega) hy (feq _ _ _ _) (fun i hi => by
              show (upP (rtW (mkR x (2000 + 2 * ix) s.2.2.1.length s.2.1.2.2) 0 (-1)) 22 nr (some (2000 + 2 * ix))).2.2 22 i = _
              refine (upP_n _ _ hi).trans ?_
              show (mkR x (2000 + 2 * ix) s.2.2.1.length s.2.1.2.2).2.2 22 i = _
              rw [(mkR_o x (p := 2000 + 2 * ix) (L := s.2.2.1.length) (j := 22) s.2.1.2.2 (by omega) (by omega)).2.2, hF3.2.1]) (by
              show (upP (rtW (mkR x (2000 + 2 * ix) s.2.2.1.length s.2.1.2.2) 0 (-1)) 22 nr (some (2000 + 2 * ix))).2.2 22 nr = _
              exact upP_self _ _ _ _) hRU ⟨rk1, rk2⟩ (RM_of (u := u) (v := upI u 400 42 ((nr : Int) + 1)) rfl rfl (upI_o _ _ _ (by omega)) (upI_o _ _ _ (by omega)) (upI_o _ _ _ (by omega)) g2) (by
              rw [upI_o _ _ _ (show 500 + 3 * kP ≠ 400 by omega), upI_o _ _ _ (show 2000 + 2 * ix ≠ 20 by omega), g3]
              exact ru2) hv (feq _ _ _ _)
            have g7 := GB_rl (v := upI u 400 42 ((nr : Int) + 1)) (GB_m gb hm) hix hy hv gR
            rw [g6]
            exact fin_j g7 hw1 (NRU_sx (by omega) (by omega) hv) (by
              rw [fne (upP _ _ _ _) _ (by decide), fne u _ (by decide), v3]
              exact (rtW_20 (mkR x (2000 + 2 * ix) s.2.2.1.length s.2.1.2.2) 0 (-1)).2.1) (by decide) (by decide)
      · obtain ⟨hr, hw1⟩ := hfull hn
        have hm : SMm w w1 := by rw [hw1]; exact SM_tr (SM_nrx (by omega) hy0) (SM_i (Or.inl (by decide)))
        obtain ⟨kP, mk', mc, ms, k1, k2, k3, k5, kk⟩ := mm hm
        have hk17 : kP < 17 := by have := k3.2.1; have := k3.2.2.1; omega
        have u3 := (GR_m b hm).2.2.2.1.2.2.1
        refine ⟨M400 (LG_m A hm), _, hr, mc, ms, k1, k2, kk.imp fun r' v hp' => ?_⟩
        obtain ⟨w2, u, f1, f2, f3, f4, f5⟩ := hp'.2 ⟨hb.1, by omega⟩
        rcases f5 with ⟨f', q', g1, -⟩ | ⟨s6, g1, g2, g3, g4⟩
        · rw [e9] at g1
          cases g1
        · rcases g4 with ⟨h16, g5, g6⟩ | ⟨h16, -⟩
          · refine ⟨g5, ?_⟩
            obtain ⟨hv, v3, v42, -⟩ := NRU_of (by omega) f1 k5 f2 f3 f4
            have gR := RUG_0 (v := u) (GR_m b hm).1 k3 hp hp1 hy0 (by
              rw [(rtW_20 _ _ _).2.2.2, (mkR_o x (p := 2000 + 2 * ix) (L := s.2.2.1.length) (j := 20) s.2.1.2.2 (by omega) (by omega)).2.1, hF3.2.2 20 (by decide) (by decide) (by decide)]) (by
              show (mkR x (2000 + 2 * ix) s.2.2.1.length s.2.1.2.2).2.2 22 = _
              rw [(mkR_o x (p := 2000 + 2 * ix) (L := s.2.2.1.length) (j := 22) s.2.1.2.2 (by omega) (by omega)).2.2, hF3.2.1]) hv v42
            have g7 := GB_rl (v := u) (GB_m gb hm) hix hy0 hv gR
            rw [g6]
            exact fin_j g7 hw1 (NRU_sx (by omega) (by omega) hv) (by
              rw [v3]
              exact (rtW_20 _ _ _).2.1) (by decide) (by decide)
          · omega
  · obtain ⟨hr, hw1⟩ := p1 hb
    have hm : SMm w w1 := by rw [hw1]; exact SM_i (Or.inl (by decide))
    obtain ⟨kP, mk', mc, ms, k1, k2, k3, k5, kk⟩ := mm hm
    have u3 := (GR_m b hm).2.2.2.1.2.2.1
    refine ⟨M400 (LG_m A hm), _, hr, mc, ms, k1, k2, kk.imp fun r' v hp' => ?_⟩
    obtain ⟨g1, g2⟩ := hp'.1 (fun t => hb ⟨t.1, by omega⟩)
    refine ⟨g1, ?_⟩
    rw [g2, hw1]
    exact fin_trb gb e (by decide) (by decide)
