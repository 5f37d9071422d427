/-! ===== a plan and days gone by, calls of both ===== -/
theorem bm_S {L n : Nat} {q : Nat → Nat} {share m : Int} : ∀ (d : Nat) (t least : Int) (S : Nat) (w : AW), (bmF L n q share m d t least S w).2.2 ≤ max S n
  | 0, _, _, S, _ => Nat.le_max_left _ _
  | d + 1, t, least, S, w => by
    unfold bmF
    split
    · exact Nat.le_max_left _ _
    · split
      · split
        · have := bm_S (L := L) (n := n) (q := q) (share := share) (m := m) d (t + 1) least (max S n) (bmD w L S n q share t least).2
          omega
        · have := bm_S (L := L) (n := n) (q := q) (share := share) (m := m) d (t + 1) (bmD w L S n q share t least).1 (max S n) (kpW (bmD w L S n q share t least).2 n)
          omega
      · exact bm_S d (t + 1) least S _
theorem pl_S {L n : Nat} {q : Nat → Nat} {share : Int} : ∀ (d : Nat) (m best : Int) (S : Nat) (w : AW), (plB L n q share d m best S w).2.2 ≤ max S n
  | 0, _, _, S, _ => Nat.le_max_left _ _
  | d + 1, m, best, S, w => by
    unfold plB
    split
    · exact Nat.le_max_left _ _
    · have h1 := bm_S (L := L) (n := n) (q := q) (share := share) (m := m) (10 ^ n) 0 best S w
      have h2 := pl_S (L := L) (n := n) (q := q) (share := share) d (m + 1) (bmF L n q share m (10 ^ n) 0 best S w).1 (bmF L n q share m (10 ^ n) 0 best S w).2.2 (bmF L n q share m (10 ^ n) 0 best S w).2.1
      omega
/-- what a search leaves, shapes and references -/
def BG (u v : AW) : Prop := (∀ j, j < 56 ∨ 59 ≤ j → v.1 j = u.1 j) ∧ ∀ j, j < 56 ∨ 59 ≤ j → j ≠ 16 → v.2.2 j = u.2.2 j
theorem BG_rfl (u : AW) : BG u u := ⟨fun _ _ => rfl, fun _ _ _ => rfl⟩
theorem BG_tr {u v x : AW} (h : BG u v) (k : BG v x) : BG u x := ⟨fun j a => (k.1 j a).trans (h.1 j a), fun j a b => (k.2 j a b).trans (h.2 j a b)⟩
theorem BG_bmD {u : AW} {L n S : Nat} {q : Nat → Nat} {t share least : Int} (hn : n ≤ 3) : BG u (bmD u L S n q share t least).2 := by
  have g0 := dtb_s (share := share) hn (j := 0) ⟨by decide, by decide, by decide, by decide, by decide⟩ (least - 1).toNat 1 (tyA (bcP (bcB (bmT u n t) L) S q n) n ((bmT u n t).2.1 18) n)
  have g1 := tyA_1 (bcP (bcB (bmT u n t) L) S q n) n ((bmT u n t).2.1 18) n
  refine ⟨fun j hj => ?_, fun j hj h16 => ?_⟩
  · show (dtb 2 n sq share (least - 1).toNat 1 (tyA (bcP (bcB (bmT u n t) L) S q n) n ((bmT u n t).2.1 18) n)).2.1 j = _
    rw [g0.2.1, g1.1]
    exact (bcP_lo (bcB (bmT u n t) L) S q n j (by omega)).1
  · show (dtb 2 n sq share (least - 1).toNat 1 (tyA (bcP (bcB (bmT u n t) L) S q n) n ((bmT u n t).2.1 18) n)).2.2.2 j = _
    rw [g0.2.2, g1.2]
    exact (bcP_lo (bcB (bmT u n t) L) S q n j (by omega)).2.2 h16
def B19 (w : AW) : Prop := ∀ j, j < 3 → 0 ≤ w.2.1 19 j ∧ w.2.1 19 j ≤ 9
theorem bm_G {L n : Nat} {q : Nat → Nat} {share m : Int} (hL : L < 2) (h56 : ∀ i, i < n → q i < 56) : ∀ (d : Nat) (t least : Int) (S : Nat) (w : AW), BI w L n q S → B19 w → BG w (bmF L n q share m d t least S w).2.1 ∧ B19 (bmF L n q share m d t least S w).2.1
  | 0, _, _, _, w, _, h9 => ⟨BG_rfl w, h9⟩
  | d + 1, t, least, S, w, hI, h9 => by
    unfold bmF
    split
    · exact ⟨BG_rfl w, h9⟩
    · obtain ⟨g1, g2, g3, g4⟩ := BI_bmD (t := t) (share := share) (least := least) hI hL h56
      have hG := BG_bmD (u := w) (L := L) (S := S) (q := q) (t := t) (share := share) (least := least) hI.2.2.1.1
      split
      · split
        · obtain ⟨a, b⟩ := bm_G (share := share) (m := m) hL h56 d (t + 1) least (max S n) _ g1 (fun j hj => by rw [g4]; exact h9 j hj)
          exact ⟨BG_tr hG a, b⟩
        · obtain ⟨a, b⟩ := bm_G (share := share) (m := m) hL h56 d (t + 1) (bmD w L S n q share t least).1 (max S n) _ (BI_kp (m := n) g1 hL h56) (fun j hj => by
            show 0 ≤ (upI (sR (bmD w L S n q share t least).2 19 (cpR ((bmD w L S n q share t least).2.2.1 19) ((bmD w L S n q share t least).2.2.1 18) 3)) 0 6 (n : Int)).2.1 19 j ∧ (upI (sR (bmD w L S n q share t least).2 19 (cpR ((bmD w L S n q share t least).2.2.1 19) ((bmD w L S n q share t least).2.2.1 18) 3)) 0 6 (n : Int)).2.1 19 j ≤ 9
            rw [upI_o _ _ _ (by decide), sR_at]
            unfold cpR
            rw [if_pos hj]
            exact g1.2.2.2.2 j hj)
          exact ⟨BG_tr hG a, b⟩
      · exact bm_G (share := share) (m := m) hL h56 d (t + 1) least S (bmT w n t) (BI_bmT hI hL h56) (fun j hj => by
          unfold bmT
          rw [sR_ne _ _ (by decide)]
          exact h9 j hj)
theorem pl_G {L n : Nat} {q : Nat → Nat} {share : Int} (hL : L < 2) (h56 : ∀ i, i < n → q i < 56) : ∀ (d : Nat) (m best : Int) (S : Nat) (w : AW), BI w L n q S → 1 ≤ best → B19 w → BG w (plB L n q share d m best S w).2.1 ∧ B19 (plB L n q share d m best S w).2.1
  | 0, _, _, _, w, _, _, h9 => ⟨BG_rfl w, h9⟩
  | d + 1, m, best, S, w, hI, hb, h9 => by
    unfold plB
    split
    · exact ⟨BG_rfl w, h9⟩
    · obtain ⟨a, b⟩ := bm_G (share := share) (m := m) hL h56 (10 ^ n) 0 best S w hI h9
      obtain ⟨c1, c2, c3, c4⟩ := bmF_ok (share := share) (m := m) hL h56 (10 ^ n) 0 best S w hI hb
      obtain ⟨a2, b2⟩ := pl_G (share := share) hL h56 d (m + 1) _ _ _ c2 c1.1 b
      exact ⟨BG_tr a a2, b2⟩
section PLAN
variable {l : Launch} {ix : Nat} {w u y v : AW} {n : Nat → Nat} {q : Nat → Nat → Nat} {np S S' rn sn nv nr mk tl sz : Nat} {rp rc kf : Nat → Nat} {cl : Nat → List Int}
theorem GB_plan {L : Nat} (hL : L < 2) (hB : BI y L (n L) (q L) S') (hF : BF w y) (hG : BG w y) (hQ : QM u v) (hP : PLN y v) (g : GB ix w u n q np S rn sn nv nr mk tl sz rp rc kf cl) : GB ix y v n q np S' rn sn nv nr mk tl sz rp rc kf cl := by
  obtain ⟨A, G, R, -⟩ := g
  have o := fun (j : Nat) (h : noS j) (h1 : j ≠ 18) (h2 : j ≠ 19) (h3 : j ≠ 0) => hF.1 j h h1 h2 h3
  have A1 : LG y u n q np S' rn sn := LG_x A hB.1 hB.2.2.2.1 (fun j a b c => o j c (by omega) (by omega) (by omega)) (fun j a b => ⟨o j ⟨by omega, by omega, by omega, by omega, by omega⟩ (by omega) (by omega) (by omega), hG.1 j (by omega)⟩) ⟨hG.2 14 (by decide) (by decide), hG.2 15 (by decide) (by decide), hG.2 17 (by decide) (by decide)⟩ (fun j a b => o j ⟨by omega, by omega, by omega, by omega, by omega⟩ (by omega) (by omega) (by omega)) ⟨hF.2.1 13 (by decide), hF.2.1 8 (by decide), hF.2.1 3 (by decide)⟩
  have ob := fun (j : Nat) (h : 20 ≤ j) (h2 : j < 56 ∨ 59 ≤ j) => o j ⟨by omega, by omega, by omega, by omega, by omega⟩ (by omega) (by omega) (by omega)
  refine ⟨LG_q A1 hQ, GR_q (GR_x G (CI_o G.2.2.1.1 hB.1 (ob 40 (by decide) (by decide)) (ob 41 (by decide) (by decide)) (ob 37 (by decide) (by decide)) (ob 39 (by decide) (by decide))) ⟨?_, hB.2.2.2.2⟩ (ob 20 (by decide) (by decide)) (fun j hj => ob j (by omega) (by omega)) (hF.2.1 12 (by decide)) (fun j hj => hG.1 j (by omega)) (fun j hj => hG.2 j (by omega) (by omega))) hQ, CRW_q (CRW_x R (hF.2.1 14 (by decide)) (hF.2.1 15 (by decide))) hQ, hP⟩
  unfold HB
  rw [ob 26 (by decide) (by decide), hF.2.1 8 (by decide)]
  exact G.2.2.2.2.1.1
theorem K_plan {z s : Int} (hR : REL ix w w) (hz : R32 z) (hs : R32 s) : CALL l ix w yX9_plan cX9_plan 6 7 yX12_plan cX12_plan 11 6 .int [ai z, ai s] := by
  obtain ⟨n, q, np, S, rn, sn, nv, nr, mk, tl, sz, rp, rc, kf, cl, A, B, C, D, E⟩ := hR
  have gb : GB ix w w n q np S rn sn nv nr mk tl sz rp rc kf cl := ⟨A, B, C, D⟩
  have hn := A.2.2.2.1 z.toNat
  have hS := pl_S (L := z.toNat) (n := n z.toNat) (q := q z.toNat) (share := s) 4 0 61 S w
  refine CALL_of (by omega) (by omega) (c_X9_plan l w n q S rn sn z s A.1.1 hz hs B.2.2.2.2.1.2) fun r w1 hp => ?_
  obtain ⟨p1, p2, p3⟩ := hp
  have mm : ∀ {w1 : AW}, SMm w w1 → HT l yX12_plan cX12_plan 11 (some .int) 6 0 0 w1 [ar 400, ai z, ai s] _ := fun {w1} hm => c_X12_plan l w1 np z s (LG_m A hm).2.2.1.1 (LG_m A hm).2.2.1.2.1 (LG_m A hm).2.2.1.2.2.1 (LG_m A hm).2.2.1.2.2.2.1 (rk3 (LG_m A hm)) hz hs
  by_cases hr : 0 ≤ z ∧ z < 2
  · have hL : z.toNat < 2 := by omega
    by_cases hk : 1 ≤ s ∧ s ≤ 200
    · obtain ⟨hr1, hw1⟩ := p3 hr hk
      have hq5 := (A.1.1.2.2.1 _ hL).2.2
      have hPB := PB_of A hL B.2.2.2.2.1.2
      obtain ⟨b1, b2, b3, b4⟩ := plB_ok (share := s) hL hq5 4 0 61 S w hPB.1 (by decide)
      obtain ⟨c1, c2⟩ := pl_G (share := s) hL hq5 4 0 61 S w hPB.1 (by decide) D.2.2.2
      have hpl : ∀ {w1 : AW}, SMm w w1 → _ := fun {w1} hm => plan_both (share := s) (PB_of (LG_m A hm) hL B.2.2.2.2.1.2) hL hq5
      generalize plB z.toNat (n z.toNat) (q z.toNat) s 4 0 61 S w = y at *
      have hm0 : SMm w y.2.1 := SM_of (fun j _ _ => c1.1 j (by omega)) (fun j _ _ => b4.1 j ⟨by omega, by omega, by omega, by omega, by omega⟩ (by omega) (by omega) (by omega)) (fun j _ _ => c1.2 j (by omega) (by omega))
      have hm : SMm w w1 := by rw [hw1]; exact SM_tr hm0 (SM_i (Or.inl (by decide)))
      have hnr : n z.toNat = rkF (w1.2.1 429) z.toNat np := ((LG_m A hm).1.2.1 _ hL).2.2.2.1
      refine ⟨M400 (LG_m A hm), _, hr1, 0, 0, _, by decide, by decide, mm hm, fun r' u hp' => ?_⟩
      obtain ⟨y1, y2⟩ := hp'.2.2 hr hk
      have e20 : y.2.1.2.1 20 = w.2.1 20 := b4.1 20 ⟨by decide, by decide, by decide, by decide, by decide⟩ (by decide) (by decide) (by decide)
      have g1 := GB_m gb hm
      have qlo : QM w1 (loW (th w1) z.toNat np) := (QMs_tr (QMs_th w1) (QMs_lo (th w1) z.toNat np)).1
      have f3 : (loW (th w1) z.toNat np).2.1 400 3 = w1.2.1 400 3 := QM_g qlo (by decide)
      rcases hpl hm with ⟨a1, a2, a3, a4, a5⟩ | ⟨a1, a2, a3, a4, a5, a6⟩
      · refine ⟨by rw [y1, if_pos a1, if_pos a2], ?_⟩
        rw [y2, if_pos a1]
        generalize (plR w1 z.toNat np s).1 = v at *
        have qv : QM w1 v := QM_tr qlo ⟨a5.1, a5.2.1, fun j h1 h2 h3 h4 _ _ _ => a5.2.2.1 j h1 h3 h4, fun f _ _ _ h4 h5 _ _ => a5.2.2.2 f h4 h5⟩
        have v40 : v.2.1 400 40 = w1.2.1 400 40 := (a5.2.2.2 40 (by decide) (by decide)).trans (QMs_tr (QMs_th w1) (QMs_lo (th w1) z.toNat np)).2.1
        have v441 : v.2.1 441 = w1.2.1 441 := (a5.2.2.1 441 ⟨by decide, by decide, by decide, by decide, by decide, by decide, by decide⟩ (by decide) (by decide)).trans (QMs_tr (QMs_th w1) (QMs_lo (th w1) z.toNat np)).2.2
        exact fin_w E hm (GB_plan hL b2 b4 c1 qv (PLN_u (PLN_x g1.2.2.2 a4 a3) v40 v441) g1) hw1 (SX_q qv) (by rw [e20]) (QM_g qv (by decide)) (by decide) (by decide)
      · have h0 : ¬ (plR w1 z.toNat np s).2.1 = 0 := by rw [a1]; decide
        refine ⟨by rw [y1, if_neg h0, a2, if_neg (by omega)], ?_⟩
        rw [y2, if_neg h0]
        unfold plE
        rw [← hnr]
        generalize (plR w1 z.toNat np s).1 = v at *
        have qv : QM w1 v := QM_tr qlo ⟨a6.1, a6.2.1, fun j h1 h2 h3 h4 _ _ _ => a6.2.2.1 j h1 h3 h4, fun f _ _ _ h4 h5 _ _ => a6.2.2.2 f h4 h5⟩
        have qe : QM w1 (sR (upI v 400 40 (n z.toNat : Int)) 441 (cpR (v.2.1 441) (v.2.1 438) (n z.toNat))) := QM_tr qv (QM_tr (QM_f (f := 40) (by decide)) (QM_sR (k := 441) (by decide)))
        have hn3 := b2.2.2.1.1
        refine fin_w E hm (GB_plan hL b2 b4 c1 qe ⟨?_, ?_, fun j hj => ?_, c2⟩ g1) hw1 (SX_q qe) (by rw [e20]) (QM_g qe (by decide)) (by decide) (by decide)
        · rw [a4, sR_ne _ _ (by decide), feq]
        · rw [a4]; omega
        · rw [a4] at hj
          rw [a5 j (by omega), sR_at]
          exact (if_pos (by omega)).symm
    · obtain ⟨hr1, hw1⟩ := p2 hr hk
      have hm : SMm w w1 := by rw [hw1]; exact SM_i (Or.inl (by decide))
      refine ⟨M400 (LG_m A hm), _, hr1, 0, 0, _, by decide, by decide, mm hm, fun r' u hp' => ?_⟩
      obtain ⟨y1, y2⟩ := hp'.2.1 hr hk
      refine ⟨y1, ?_⟩
      rw [y2, hw1]
      exact fin_trb gb E (by decide) (by decide)
  · obtain ⟨hr1, hw1⟩ := p1 hr
    have hm : SMm w w1 := by rw [hw1]; exact SM_i (Or.inl (by decide))
    refine ⟨M400 (LG_m A hm), _, hr1, 0, 0, _, by decide, by decide, mm hm, fun r' u hp' => ?_⟩
    obtain ⟨y1, y2⟩ := hp'.1 hr
    refine ⟨y1, ?_⟩
    rw [y2, hw1]
    exact fin_trb gb E (by decide) (by decide)
end PLAN
