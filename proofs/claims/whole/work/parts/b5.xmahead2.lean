/-! ===== calls of both that look ahead, and what rules say ===== -/
def QMs (u v : AW) : Prop := QM u v ∧ v.2.1 400 40 = u.2.1 400 40 ∧ v.2.1 441 = u.2.1 441
theorem QMs_tr {u v x : AW} (h : QMs u v) (k : QMs v x) : QMs u x := ⟨QM_tr h.1 k.1, k.2.1.trans h.2.1, k.2.2.trans h.2.2⟩
theorem QMs_MP {u v : AW} (h : MP u v) : QMs u v := ⟨QM_MP h, h.2.2.2 40 (by decide) (by decide), h.2.2.1 441 ⟨by decide, by decide, by decide, by decide, by decide, by decide, by decide⟩ (by decide)⟩
theorem QMs_MF {u v : AW} (h : MF u v) : QMs u v := QMs_MP (MP_MF h)
theorem QMs_f {u : AW} {f : Nat} {z : Int} (h : f = 0 ∨ f = 1 ∨ f = 2 ∨ f = 39) : QMs u (upI u 400 f z) := ⟨QM_f (by omega), by rw [upI_at]; exact if_neg (by omega), upI_o _ _ _ (by decide)⟩
theorem QMs_th (u : AW) : QMs u (th u) := QMs_f (Or.inl rfl)
theorem QMs_sR {u : AW} {k : Nat} {g : Nat → Int} (h : k = 436 ∨ k = 437 ∨ k = 438 ∨ k = 457 ∨ k = 474) : QMs u (sR u k g) := ⟨QM_sR (by omega), by rw [sR_ne _ _ (by omega)], sR_ne _ _ (by omega)⟩
theorem QMs_i {u : AW} {k f : Nat} {z : Int} (h : k = 436 ∨ k = 437 ∨ k = 438 ∨ k = 457 ∨ k = 474) : QMs u (upI u k f z) := ⟨⟨rfl, rfl, fun j _ b c d _ e i => upI_o _ _ _ (by omega), fun g _ _ _ _ _ _ _ => by rw [upI_o _ _ _ (by omega)]⟩, by rw [upI_o _ _ _ (by omega)], upI_o _ _ _ (by omega)⟩
theorem HB_e {w v : AW} (h : HB w) (h26 : v.2.1 26 = w.2.1 26) (h0 : v.2.1 0 = w.2.1 0) : HB v := by unfold HB; rw [h26, h0]; exact h
theorem FSc_g {v x : AW} {S : Nat} (hX : XS v) (hS : SPI v S) (g : ∀ j, noS j → x.2.1 j = v.2.1 j ∧ x.1 = v.1 ∧ x.2.2 = v.2.2) : FSc v x S S := by
  have g0 := g 0 ⟨by decide, by decide, by decide, by decide, by decide⟩
  exact ⟨XS_of g0.2.1 g0.2.2 hX, SPI_of g0.2.1 g0.2.2 hS, Nat.le_refl _, fun j h _ _ => (g j h).1, fun j _ => by rw [g0.2.1], fun j _ _ => by rw [g0.2.2]⟩
/-- quiet, the names' row too -/
def F0c (w v : AW) (S S' : Nat) : Prop := FSc w v S S' ∧ v.2.1 26 = w.2.1 26 ∧ v.2.1 0 = w.2.1 0
theorem F0_sp {w : AW} {n : Nat → Nat} {q : Nat → Nat → Nat} {S rn sn L : Nat} (hW : WI w n q S rn sn) (hL : L < 2) {x : AW} (g : ∀ j, noS j → x.2.1 j = (spW w n q S L).2.1 j ∧ x.1 = (spW w n q S L).1 ∧ x.2.2 = (spW w n q S L).2.2) : F0c w x S (max S (n L)) := by
  have h1 := FSc_spW hW hL
  have hn := (hW.2.2.1 L hL).2.1.1
  have b := fun (j : Nat) (hj : noS j) => (g j hj).1.trans (bcP_s (w := w) (L := L) (S := S) (q := q L) hn hj).1
  exact ⟨h1.trans (FSc_g h1.1 h1.2.1 g), b 26 ⟨by decide, by decide, by decide, by decide, by decide⟩, b 0 ⟨by decide, by decide, by decide, by decide, by decide⟩⟩
theorem F0_16 {w v : AW} {S S' : Nat} (h : F0c w v S S') (hH : HB w) : HB v := HB_e hH h.2.1 h.2.2
section ENDS2
variable {l : Launch} {ix : Nat} {w x v : AW} {z : Int} {n : Nat → Nat} {q : Nat → Nat → Nat} {np S S' rn sn nv nr mk tl sz : Nat} {rp rc kf : Nat → Nat} {cl : Nat → List Int}
theorem fin_ft (g : GB ix w w n q np S rn sn nv nr mk tl sz rp rc kf cl) (e : TRB w w) (hF : FSc w x S S') (hH : HB x) (hQ : QMs (upI x 0 16 z) v) (hz : 0 ≤ z ∧ z ≤ 6) (h4 : z ≠ 4) : REL (ix + 1) (tM v z) (tM v z) := by
  have hm : SMm w (upI x 0 16 z) := SM_tr (SM_fs hF) (SM_i (Or.inl (by decide)))
  have g2 := GB_q (GB_m (GB_fs g hF hH) hm) hQ.1 hQ.2.1 hQ.2.2
  refine fin_t g2 rfl (SX_q hQ.1) ?_ hz h4
  rw [QM_g hQ.1 (by decide), (hm 400 (by decide) (by decide)).2.1, ← e.2.2.2.2, fsI hF ⟨by decide, by decide, by decide, by decide, by decide⟩ (by decide) (by decide)]
theorem fin_fq (g : GB ix w w n q np S rn sn nv nr mk tl sz rp rc kf cl) (e : TRB w w) (hF : FSc w x S S') (hH : HB x) (hQ : QMs x v) (hf : v.2.1 400 1 = x.2.1 400 1 ∧ v.2.1 400 2 = x.2.1 400 2) : REL (ix + 1) v v := by
  have hm : SMm w x := SM_fs hF
  have e20 : x.2.1 20 = w.2.1 20 := fsI hF ⟨by decide, by decide, by decide, by decide, by decide⟩ (by decide) (by decide)
  refine fin_q (GB_m (GB_fs g hF hH) hm) (TRB_m (TRB_q e (by rw [fsI hF ⟨by decide, by decide, by decide, by decide, by decide⟩ (by decide) (by decide)]) ⟨by rw [e20], by rw [e20]⟩ ⟨rfl, rfl, rfl⟩) hm) hQ.1 (SX_rfl x) hQ.2.1 hQ.2.2 ⟨hf.1, hf.2, QM_g hQ.1 (by decide)⟩
end ENDS2
section AHEAD
variable {l : Launch} {ix : Nat} {w : AW}
theorem K_burst {z : Int} (hR : REL ix w w) (hz : R32 z) : CALL l ix w yX9_burst cX9_burst 3 6 yX12_burst cX12_burst 2 6 .int [ai z] := by
  obtain ⟨n, q, np, S, rn, sn, nv, nr, mk, tl, sz, rp, rc, kf, cl, A, b, c, d, e⟩ := hR
  have hW := A.1.1
  have hn := A.2.2.2.1 z.toNat
  refine CALL_of (by omega) (by omega) (c_X9_burst l w n q S rn sn z hW hz) fun r w1 hp => ?_
  obtain ⟨p1, p2⟩ := hp
  by_cases hr : 0 ≤ z ∧ z < 2
  · obtain ⟨hr1, hw1⟩ := p1 hr
    have hL : z.toNat < 2 := by omega
    have hF : F0c w w1 S (max S (n z.toNat)) := by
      rw [hw1]
      exact F0_sp hW hL (fun j hj => dbF_s (hW.2.2.1 _ hL).2.1.1 hj _ _ _)
    have A1 := LG_m A (SM_fs hF.1)
    have hM := A1.2.2.1
    refine ⟨M400 A1, _, hr1, 0, 0, _, by decide, by decide, c_X12_burst l w1 np z hM.1 hM.2.1 hM.2.2.1 hM.2.2.2.1 hz, fun r' u hp' => ⟨?_, ?_⟩⟩
    · rw [hp'.1, if_pos hr, s_burst hW hL A1.1.2.1 A1.1.2.2.1 hM.2.2.2.1]
    · rw [hp'.2, if_pos hr]
      have k := MF_ba (th w1) z.toNat np
      exact fin_fq ⟨A, b, c, d⟩ e hF.1 (F0_16 hF b.2.2.2.2.1.1) (QMs_tr (QMs_th w1) (QMs_MF k)) ⟨k.2.2.2 1 (by decide) (by decide), k.2.2.2 2 (by decide) (by decide)⟩
  · obtain ⟨hr1, hw1⟩ := p2 hr
    subst hw1
    have hM := A.2.2.1
    refine ⟨M400 A, _, hr1, 0, 0, _, by decide, by decide, c_X12_burst l w1 np z hM.1 hM.2.1 hM.2.2.1 hM.2.2.2.1 hz, fun r' u hp' => ⟨?_, ?_⟩⟩
    · rw [hp'.1, if_neg hr]
    · rw [hp'.2, if_neg hr]
      exact fin_th ⟨A, b, c, d⟩ e
theorem K_until {z f : Int} (hR : REL ix w w) (hz : R32 z) (hf : R32 f) : CALL l ix w yX9_until cX9_until 4 6 yX12_until cX12_until 5 6 .int [ai z, ai f] := by
  obtain ⟨n, q, np, S, rn, sn, nv, nr, mk, tl, sz, rp, rc, kf, cl, A, b, c, d, e⟩ := hR
  have hW := A.1.1
  have hn := A.2.2.2.1 z.toNat
  refine CALL_of (by omega) (by omega) (c_X9_until l w n q S rn sn z f hW hz hf) fun r w1 hp => ?_
  obtain ⟨p1, p2, p3⟩ := hp
  have bad : ∀ zz : Int, 0 ≤ zz ∧ zz ≤ 6 → zz ≠ 4 → r = some (ai (-1)) → w1 = upI w 0 16 zz → (0 ≤ z ∧ z < 2 → ¬ (1 ≤ f ∧ f ≤ 999)) → zz = (if 0 ≤ z ∧ z < 2 then 2 else 1) → w1.1 400 = (112, 0) ∧ ∃ z', r = some (ai z') ∧ ∃ (mc' ms' : Nat) (PM : Option AV → AW → Prop), mc' ≤ 3 ∧ ms' ≤ 604 ∧ HT l yX12_until cX12_until 5 (some .int) 6 mc' ms' w1 [ar 400, ai z, ai f] PM ∧ ∀ r' u, PM r' u → r' = some (ai z') ∧ REL (ix + 1) u u := by
    intro zz h1 h2 hr1 hw1 h3 h4
    subst hw1
    have A1 := LG_m A (SM_i (w := w) (k := 0) (f := 16) (z := zz) (Or.inl (by decide)))
    have hM := A1.2.2.1
    refine ⟨M400 A1, _, hr1, 0, 0, _, by decide, by decide, c_X12_until l _ np z f hM.1 hM.2.1 hM.2.2.1 hM.2.2.2.1 hz hf, fun r' u hp' => ⟨?_, ?_⟩⟩
    · rw [hp'.1]
      by_cases hr : 0 ≤ z ∧ z < 2
      · rw [if_pos hr, if_neg (h3 hr)]
      · rw [if_neg hr]
    · rw [hp'.2]
      have k := fin_trb (z := zz) (ix := ix) ⟨A, b, c, d⟩ e h1 h2
      by_cases hr : 0 ≤ z ∧ z < 2
      · rw [if_pos hr] at h4
        subst h4
        rw [if_pos hr, if_neg (h3 hr)]
        exact k
      · rw [if_neg hr] at h4
        subst h4
        rw [if_neg hr]
        exact k
  by_cases hr : 0 ≤ z ∧ z < 2
  · by_cases hg : 1 ≤ f ∧ f ≤ 999
    · obtain ⟨hr1, hw1⟩ := p3 hr hg
      have hL : z.toNat < 2 := by omega
      have hF : F0c w (dfF (n z.toNat) f 366 0 (spW w n q S z.toNat)).2 S (max S (n z.toNat)) := F0_sp hW hL (fun j hj => dfF_s (hW.2.2.1 _ hL).2.1.1 hj _ _ _)
      generalize hx : (dfF (n z.toNat) f 366 0 (spW w n q S z.toNat)).2 = x at *
      have A1 := LG_m A (SM_tr (SM_fs hF.1) (SM_i (w := x) (k := 0) (f := 16) (z := 0) (Or.inl (by decide))))
      rw [← hw1] at A1
      have hM := A1.2.2.1
      refine ⟨M400 A1, _, hr1, 0, 0, _, by decide, by decide, c_X12_until l w1 np z f hM.1 hM.2.1 hM.2.2.1 hM.2.2.2.1 hz hf, fun r' u hp' => ⟨?_, ?_⟩⟩
      · rw [hp'.1, if_pos hr, if_pos hg, s_until hW hL A1.1.2.1 A1.1.2.2.1 hM.2.2.2.1]
      · rw [hp'.2, if_pos hr, if_pos hg]
        have k := MF_du (L := z.toNat) (np := np) (f := f) 365 0 (tkW (th w1) z.toNat np)
        refine fin_ft ⟨A, b, c, d⟩ e hF.1 (F0_16 hF b.2.2.2.2.1.1) ?_ (by decide) (by decide)
        rw [← hw1]
        exact QMs_tr (QMs_th w1) (QMs_tr (QMs_MF (MF_tk _ _ _)) (QMs_MF k))
    · obtain ⟨hr1, hw1⟩ := p2 hr hg
      exact bad 2 (by decide) (by decide) hr1 hw1 (fun _ => hg) (by rw [if_pos hr])
  · obtain ⟨hr1, hw1⟩ := p1 hr
    exact bad 1 (by decide) (by decide) hr1 hw1 (fun t => absurd t hr) (by rw [if_neg hr])
theorem ckG_all {share : Int} {f : Nat → Int} (hs : 1 ≤ share ∧ share ≤ 200) : ∀ k, (∀ j, j < k → 0 ≤ f j ∧ f j < 10) → ckG share f k = 1
  | 0, _ => if_pos hs
  | k + 1, h => if_pos ⟨ckG_all hs k (fun j hj => h j (by omega)), h k (by omega)⟩
theorem PB_of {w u : AW} {n : Nat → Nat} {q : Nat → Nat → Nat} {np S rn sn L : Nat} (A : LG w u n q np S rn sn) (hL : L < 2) (h18 : ∀ j, j < 3 → 0 ≤ w.2.1 18 j ∧ w.2.1 18 j ≤ 9) : PB w u n q np S L :=
  ⟨⟨A.1.1.1, (A.1.1.2.2.1 L hL).1, (A.1.1.2.2.1 L hL).2.1, A.1.1.2.1, h18⟩, A.1.2.1, A.1.2.2.1, A.2.2.1.2.2.2.1⟩
theorem rk3 {w u : AW} {n : Nat → Nat} {q : Nat → Nat → Nat} {np S rn sn : Nat} (A : LG w u n q np S rn sn) : ∀ L, L < 2 → rkF (u.2.1 429) L np ≤ 3 := fun L hL => by
  rw [← (A.1.2.1 L hL).2.2.2.1]; exact A.2.2.2.1 L
theorem QMs_lo (u : AW) (L np : Nat) : QMs u (loW u L np) := QMs_tr (QMs_sR (k := 436) (by decide)) (QMs_f (by decide))
theorem QMs_ck (u : AW) (L np : Nat) (a b c : Int) : QMs u (ckU u L np a b c) := QMs_tr (QMs_th u) (QMs_tr (QMs_lo _ L np) (QMs_tr (QMs_i (k := 437) (by decide)) (QMs_tr (QMs_i (k := 437) (by decide)) (QMs_i (k := 437) (by decide)))))
theorem K_check {z s a b c : Int} (hR : REL ix w w) (hz : R32 z) (hs : R32 s) (ha : R32 a) (hb : R32 b) (hc : R32 c) : CALL l ix w yX9_check cX9_check 8 6 yX12_check cX12_check 8 6 .int [ai z, ai s, ai a, ai b, ai c] := by
  obtain ⟨n, q, np, S, rn, sn, nv, nr, mk, tl, sz, rp, rc, kf, cl, A, B, C, D, E⟩ := hR
  have hW := A.1.1
  have hn := A.2.2.2.1 z.toNat
  have gB : GB ix w w n q np S rn sn nv nr mk tl sz rp rc kf cl := ⟨A, B, C, D⟩
  refine CALL_of (by omega) (by omega) (c_X9_check l w n q S rn sn z s a b c hW hz hs ha hb hc) fun r w1 hp => ?_
  obtain ⟨p1, p2, p3⟩ := hp
  by_cases hr : 0 ≤ z ∧ z < 2
  · have hL : z.toNat < 2 := by omega
    have hnr : n z.toNat = rkF (w.2.1 429) z.toNat np := (A.1.2.1 _ hL).2.2.2.1
    by_cases hg : 1 ≤ s ∧ s ≤ 200 ∧ (0 < n z.toNat → 0 ≤ a ∧ a < 10) ∧ (1 < n z.toNat → 0 ≤ b ∧ b < 10) ∧ (2 < n z.toNat → 0 ≤ c ∧ c < 10)
    · obtain ⟨hr1, hw1⟩ := p3 hr hg
      have hf : ∀ k, k < n z.toNat → 0 ≤ trF a b c k ∧ trF a b c k < 10 := fun k hk => by
        rcases (show k = 0 ∨ k = 1 ∨ k = 2 by omega) with rfl | rfl | rfl
        · exact hg.2.2.1 hk
        · exact hg.2.2.2.1 hk
        · exact hg.2.2.2.2 hk
      have hch : ∀ j, noS j → (chW (spW w n q S z.toNat) (n z.toNat) a b c).2.1 j = (spW w n q S z.toNat).2.1 j ∧ (chW (spW w n q S z.toNat) (n z.toNat) a b c).1 = (spW w n q S z.toNat).1 ∧ (chW (spW w n q S z.toNat) (n z.toNat) a b c).2.2 = (spW w n q S z.toNat).2.2 := fun j hj => by
        unfold chW
        refine ⟨by rw [tryW_s hn hj, tryW_s hn hj, tryW_s hn hj], ?_, ?_⟩
        · rw [(tryW_1 _ _ _ _ _).1, (tryW_1 _ _ _ _ _).1, (tryW_1 _ _ _ _ _).1]
        · rw [(tryW_1 _ _ _ _ _).2, (tryW_1 _ _ _ _ _).2, (tryW_1 _ _ _ _ _).2]
      have hF : F0c w (dtb 2 (n z.toNat) sq s 60 1 (chW (spW w n q S z.toNat) (n z.toNat) a b c)).2 S (max S (n z.toNat)) := F0_sp hW hL (fun j hj => by
        obtain ⟨x1, x2, x3⟩ := dtb_s (share := s) hn hj 60 1 (chW (spW w n q S z.toNat) (n z.toNat) a b c)
        obtain ⟨y1, y2, y3⟩ := hch j hj
        exact ⟨x1.trans y1, x2.trans y2, x3.trans y3⟩)
      generalize hx : (dtb 2 (n z.toNat) sq s 60 1 (chW (spW w n q S z.toNat) (n z.toNat) a b c)).2 = x at *
      have A1 := LG_m A (SM_tr (SM_fs hF.1) (SM_i (w := x) (k := 0) (f := 16) (z := 0) (Or.inl (by decide))))
      rw [← hw1] at A1
      have hM := A1.2.2.1
      have hnr1 : n z.toNat = rkF (w1.2.1 429) z.toNat np := (A1.1.2.1 _ hL).2.2.2.1
      have hck : ckG s (trF a b c) (rkF (w1.2.1 429) z.toNat np) = 1 := ckG_all ⟨hg.1, hg.2.1⟩ _ (fun j hj => hf j (by omega))
      refine ⟨M400 A1, _, hr1, 0, 0, _, by decide, by decide, c_X12_check l w1 np z s a b c hM.1 hM.2.1 hM.2.2.1 hM.2.2.2.1 (rk3 A1) hz hs ha hb hc, fun r' u hp' => ?_⟩
      obtain ⟨x1, x2⟩ := hp'.2.2 hr hck
      refine ⟨?_, ?_⟩
      · rw [x1, check_both (PB_of A1 hL B.2.2.2.2.1.2) hL (hW.2.2.1 _ hL).2.2 hf]
      · rw [x2]
        refine fin_ft gB E hF.1 (F0_16 hF B.2.2.2.2.1.1) ?_ (by decide) (by decide)
        rw [← hw1]
        exact QMs_tr (QMs_ck w1 _ _ _ _ _) (QMs_MF (MF_ds _ _ _ _ _ _ _))
    · obtain ⟨hr1, hw1⟩ := p2 hr hg
      subst hw1
      have A1 := LG_m A (SM_i (w := w) (k := 0) (f := 16) (z := 2) (Or.inl (by decide)))
      have hM := A1.2.2.1
      refine ⟨M400 A1, _, hr1, 0, 0, _, by decide, by decide, c_X12_check l _ np z s a b c hM.1 hM.2.1 hM.2.2.1 hM.2.2.2.1 (rk3 A1) hz hs ha hb hc, fun r' u hp' => ?_⟩
      have hck : ¬ ckG s (trF a b c) (rkF ((upI w 0 16 2).2.1 429) z.toNat np) = 1 := fun t => by
        obtain ⟨t1, t2⟩ := ckG_1 t
        rw [upI_o _ _ _ (by decide), ← hnr] at t2
        exact hg ⟨t1.1, t1.2, fun k => t2 0 k, fun k => t2 1 k, fun k => t2 2 k⟩
      obtain ⟨x1, x2⟩ := hp'.2.1 hr hck
      refine ⟨x1, ?_⟩
      rw [x2]
      exact fin_ft gB E (FSc.refl hW.1 hW.2.1) B.2.2.2.2.1.1 (QMs_ck _ _ _ _ _ _) (by decide) (by decide)
  · obtain ⟨hr1, hw1⟩ := p1 hr
    subst hw1
    have A1 := LG_m A (SM_i (w := w) (k := 0) (f := 16) (z := 1) (Or.inl (by decide)))
    have hM := A1.2.2.1
    refine ⟨M400 A1, _, hr1, 0, 0, _, by decide, by decide, c_X12_check l _ np z s a b c hM.1 hM.2.1 hM.2.2.1 hM.2.2.2.1 (rk3 A1) hz hs ha hb hc, fun r' u hp' => ?_⟩
    obtain ⟨x1, x2⟩ := hp'.1 hr
    refine ⟨x1, ?_⟩
    rw [x2]
    exact fin_trb gB E (by decide) (by decide)
theorem RuE_of {w u : AW} {nr mk : Nat} {rp rc kf : Nat → Nat} {cl : Nat → List Int} (h : RUG w u nr mk rp rc kf cl) : RuE w u nr rp (mqF kf) cl := fun i hi => by
  obtain ⟨-, -, c3, -, c5, -⟩ := h.1.2.2 i hi
  exact ⟨h.2.2.1 i hi, c3, c5⟩
theorem K_says {z a : Int} (hR : REL ix w w) (hz : R32 z) (ha : R32 a) : CALL l ix w yX9_says cX9_says 4 7 yX12_says cX12_says 4 10 .int [ai z, ai a] := by
  obtain ⟨n, q, np, S, rn, sn, nv, nr, mk, tl, sz, rp, rc, kf, cl, A, b, c, d, e⟩ := hR
  have hW := A.1.1
  refine CALL_of (by decide) (by decide) (c_X9_says l w n q S rn sn nr rp rc cl z a hW b.1.1 b.2.2.2.2.1.1 hz ha) fun r w1 hp => ?_
  obtain ⟨p1, p2⟩ := hp
  by_cases hr : 0 ≤ z ∧ z < 2 ∧ 0 ≤ a ∧ a ≤ 2
  · obtain ⟨S', y, hT, hr1, hF, hH⟩ := p2 hr
    have hs := SM_fs hF
    have A1 := LG_m A hs
    have b1 := GR_m b hs
    refine ⟨M400 A1, _, hr1, 0, 0, _, by decide, by decide, c_X12_says l w1 np rn sn nr (mqF kf) cl z a A1.2.2.1 b1.1.2.1 hz ha, fun r' u hp' => ⟨?_, ?_⟩⟩
    · rw [hp'.1, if_pos ⟨⟨hr.1, hr.2.1⟩, hr.2.2.1, hr.2.2.2⟩, sy_both A1.1 (RuE_of b1.1) (show z.toNat < 2 by omega) hT ⟨hr.2.2.1, hr.2.2.2⟩]
    · have k := hp'.2
      exact fin_fq ⟨A, b, c, d⟩ e hF hH (QMs_tr (QMs_th w1) (QMs_MP k)) ⟨k.2.2.2 1 (by decide) (by decide), k.2.2.2 2 (by decide) (by decide)⟩
  · obtain ⟨hr1, hw1⟩ := p1 hr
    subst hw1
    refine ⟨M400 A, _, hr1, 0, 0, _, by decide, by decide, c_X12_says l w1 np rn sn nr (mqF kf) cl z a A.2.2.1 b.1.2.1 hz ha, fun r' u hp' => ⟨?_, ?_⟩⟩
    · rw [hp'.1, if_neg (fun t => hr ⟨t.1.1, t.1.2, t.2.1, t.2.2⟩)]
    · have k := hp'.2
      exact fin_fq ⟨A, b, c, d⟩ e (FSc.refl hW.1 hW.2.1) b.2.2.2.2.1.1 (QMs_tr (QMs_th w1) (QMs_MP k)) ⟨k.2.2.2 1 (by decide) (by decide), k.2.2.2 2 (by decide) (by decide)⟩
theorem K_may {a : Int} (hR : REL ix w w) (ha : R32 a) : CALL l ix w yX9_may cX9_may 2 8 yX12_may cX12_may 2 10 .int [ai a] := by
  obtain ⟨n, q, np, S, rn, sn, nv, nr, mk, tl, sz, rp, rc, kf, cl, A, b, c, d, e⟩ := hR
  have hW := A.1.1
  refine CALL_of (by decide) (by decide) (c_X9_may l w n q S rn sn nr rp rc cl a hW b.1.1 b.2.2.2.2.1.1 ha b.2.2.1.1.2.2.2.2.1) fun r w1 hp => ?_
  obtain ⟨p1, p2⟩ := hp
  by_cases hr : 0 ≤ a ∧ a < 400
  · obtain ⟨S', y, hr1, hT⟩ := p2 hr
    have hF := hT.1
    have hH := hT.2.1
    have hs := SM_fs hF
    have A1 := LG_m A hs
    have b1 := GR_m b hs
    refine ⟨M400 A1, _, hr1, 0, 0, _, by decide, by decide, c_X12_may l w1 np rn sn nr (mqF kf) cl a A1.2.2.1 b1.1.2.1 b1.2.2.1.2.2.1 ha, fun r' u hp' => ⟨?_, ?_⟩⟩
    · rw [hp'.1, if_pos hr, fm_both A1.1 (RuE_of b1.1) hT, b1.2.2.1.2.2.2.2.1 a.toNat (by omega)]
    · have k := hp'.2
      exact fin_fq ⟨A, b, c, d⟩ e hF hH (QMs_tr (QMs_th w1) (QMs_MP k)) ⟨k.2.2.2 1 (by decide) (by decide), k.2.2.2 2 (by decide) (by decide)⟩
  · obtain ⟨hr1, hw1⟩ := p1 hr
    subst hw1
    refine ⟨M400 A, _, hr1, 0, 0, _, by decide, by decide, c_X12_may l w1 np rn sn nr (mqF kf) cl a A.2.2.1 b.1.2.1 b.2.2.1.2.2.1 ha, fun r' u hp' => ⟨?_, ?_⟩⟩
    · rw [hp'.1, if_neg hr]
    · have k := hp'.2
      exact fin_fq ⟨A, b, c, d⟩ e (FSc.refl hW.1 hW.2.1) b.2.2.2.2.1.1 (QMs_tr (QMs_th w1) (QMs_MP k)) ⟨k.2.2.2 1 (by decide) (by decide), k.2.2.2 2 (by decide) (by decide)⟩
end AHEAD
