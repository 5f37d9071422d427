/-! ===== calls of both that ask ===== -/
theorem CALL_of {l : Launch} {ix : Nat} {w : AW} {yX : MethodName} {cX : ByteArray} {mX lX : Nat} {yM : MethodName} {cM : ByteArray} {mM lM : Nat} {ret : FieldType} {as : List AV} {mc ms : Nat} {PX : Option AV → AW → Prop} (h1 : mc ≤ 6) (h2 : ms ≤ 302) (hX : HT l yX cX mX (some ret) lX mc ms w (ar 0 :: as) PX)
    (k : ∀ r w1, PX r w1 → w1.1 400 = (112, 0) ∧ ∃ z, r = some (ai z) ∧ ∃ (mc' ms' : Nat) (PM : Option AV → AW → Prop), mc' ≤ 3 ∧ ms' ≤ 604 ∧ HT l yM cM mM (some ret) lM mc' ms' w1 (ar 400 :: as) PM ∧ ∀ r' u, PM r' u → r' = some (ai z) ∧ REL (ix + 1) u u) :
    CALL l ix w yX cX mX lX yM cM mM lM ret as := by
  refine ⟨mc, ms, h1, h2, hX.imp fun r w1 hp => ?_⟩
  obtain ⟨a, z, b, mc', ms', PM, c, d, e, f⟩ := k r w1 hp
  exact ⟨a, z, b, mc', ms', c, d, e.imp f⟩
section ASK
variable {l : Launch} {ix : Nat} {w : AW}
theorem fin_th {w : AW} {n : Nat → Nat} {q : Nat → Nat → Nat} {np S rn sn nv nr mk tl sz : Nat} {rp rc kf : Nat → Nat} {cl : Nat → List Int} (g : GB ix w w n q np S rn sn nv nr mk tl sz rp rc kf cl) (e : TRB w w) : REL (ix + 1) (th w) (th w) :=
  fin_q g e (QM_th w) (SX_rfl w) rfl rfl ⟨rfl, rfl, rfl⟩
theorem fin_trb {w : AW} {z : Int} {n : Nat → Nat} {q : Nat → Nat → Nat} {np S rn sn nv nr mk tl sz : Nat} {rp rc kf : Nat → Nat} {cl : Nat → List Int} (g : GB ix w w n q np S rn sn nv nr mk tl sz rp rc kf cl) (e : TRB w w) (hz : 0 ≤ z ∧ z ≤ 6) (h4 : z ≠ 4) : REL (ix + 1) (tM (th (upI w 0 16 z)) z) (tM (th (upI w 0 16 z)) z) := by
  have hm : SMm w (upI w 0 16 z) := SM_i (Or.inl (by decide))
  exact fin_t (w := w) (v := th (upI w 0 16 z)) (GB_q (GB_m g hm) (QM_th _) rfl rfl) rfl (SX_q (QM_th _)) e.2.2.2.2 hz h4
theorem ofM_out {w : AW} {L i rn sn : Nat} {a : Int} (h : ¬ (0 ≤ a ∧ a < 7)) : ofM w L i a rn sn = -2147483648 := by
  unfold ofM
  rw [if_neg (by omega), if_neg (by omega), if_neg (by omega), if_neg (by omega), if_neg (by omega), if_neg (by omega), if_neg (by omega)]
theorem K_of {z i a : Int} (hR : REL ix w w) (hz : R32 z) (hi : R32 i) (ha : R32 a) : CALL l ix w yX9_of cX9_of 5 5 yX12_of cX12_of 5 6 .int [ai z, ai i, ai a] := by
  obtain ⟨n, q, np, S, rn, sn, nv, nr, mk, tl, sz, rp, rc, kf, cl, A, b, c, d, e⟩ := hR
  have hM := A.2.2.1
  refine CALL_of (by decide) (by decide) (c_X9_of l w n q S rn sn z i a A.1.1 hz hi ha) fun r w1 hp => ?_
  obtain ⟨hw, p1, p2⟩ := hp
  subst hw
  refine ⟨M400 A, _, ?_, 0, 0, _, by decide, by decide, c_X12_of l w1 rn sn z i a hM.1 hM.2.2.1 hM.2.2.2.2.1 hM.2.2.2.2.2.1 hM.2.1 hz hi ha, fun r' u hp' => ⟨hp'.1, ?_⟩⟩
  · by_cases hr : (0 ≤ z ∧ z < 2) ∧ 0 ≤ i ∧ i < 10
    · rw [if_pos hr]
      by_cases h7 : 0 ≤ a ∧ a < 7
      · rw [p2 ⟨hr.1.1, hr.1.2, hr.2.1, hr.2.2, h7.1, h7.2⟩, of_both (show z.toNat < 2 by omega) (show i.toNat < 10 by omega) A.1.2.1 A.1.2.2.2.2.1 A.1.1.2.2.2.1 A.1.2.2.2.2.2.1 h7]
      · rw [p1 (fun t => h7 ⟨t.2.2.2.2.1, t.2.2.2.2.2⟩), ofM_out h7]
    · rw [if_neg hr, p1 (fun t => hr ⟨⟨t.1, t.2.1⟩, t.2.2.1, t.2.2.2.1⟩)]
  · rw [hp'.2]
    exact fin_th ⟨A, b, c, d⟩ e
theorem QM_tk (u : AW) (L np : Nat) : QM u (tkW u L np) := QM_MP (MP_MF (MF_tk u L np))
theorem K_full {z t : Int} (hR : REL ix w w) (hz : R32 z) (ht : t = 0 ∨ t = 1) : CALL l ix w yX9_full cX9_full 4 6 yX12_full cX12_full 3 7 .int [ai z, ai t] := by
  obtain ⟨n, q, np, S, rn, sn, nv, nr, mk, tl, sz, rp, rc, kf, cl, A, b, c, d, e⟩ := hR
  have hM := A.2.2.1
  refine CALL_of (by decide) (by decide) (c_X9_full l w n q S rn sn z t A.1.1 hz ht) fun r w1 hp => ?_
  obtain ⟨hw, p1, p2⟩ := hp
  subst hw
  refine ⟨M400 A, _, ?_, 0, 0, _, by decide, by decide, c_X12_full l w1 np rn sn z t hM.1 hM.2.2.1 hM.2.2.2.2.1 hM.2.2.2.2.2.1 hM.2.1 hM.2.2.2.1 hz ht, fun r' u hp' => ⟨hp'.1, ?_⟩⟩
  · by_cases hr : 0 ≤ z ∧ z < 2
    · rw [if_pos hr, p2 hr]
      have hL : z.toNat < 2 := by omega
      rw [s_full A.1.1 hL A.1.2.1 A.1.2.2.1 hM.2.2.2.1]
      have A2 := LG_q A (QM_th w1)
      rw [ft_both (u := th w1) hL A2.1.2.1 A2.1.2.2.2.2.1 A.1.1.2.2.2.1 A2.1.2.2.2.2.2.1 10]
    · rw [if_neg hr, p1 hr]
  · rw [hp'.2]
    by_cases hr : 0 ≤ z ∧ z < 2
    · rw [if_pos hr]
      by_cases h0 : t = 0
      · rw [if_pos h0]
        exact fin_q ⟨A, b, c, d⟩ e (QM_tr (QM_th w1) (QM_tk _ _ _)) (SX_rfl _) (by rw [tkW_o _ _ _ (by decide) (by decide) (by decide) (by decide) (by decide)]; rfl) (by rw [tkW_o _ _ _ (by decide) (by decide) (by decide) (by decide) (by decide)]; rfl) (by rw [tkW_o _ _ _ (by decide) (by decide) (by decide) (by decide) (by decide)]; exact ⟨rfl, rfl, rfl⟩)
      · rw [if_neg h0]
        exact fin_th ⟨A, b, c, d⟩ e
    · rw [if_neg hr]
      exact fin_th ⟨A, b, c, d⟩ e
theorem ledF_out {w : AW} {L : Nat} {a : Int} (h : ¬ (0 ≤ a ∧ a < 6)) : ledF w L a = -2147483648 := by
  unfold ledF
  rw [if_neg (by omega), if_neg (by omega), if_neg (by omega), if_neg (by omega), if_neg (by omega), if_neg (by omega)]
theorem K_led {z a : Int} (hR : REL ix w w) (hz : R32 z) (ha : R32 a) : CALL l ix w yX9_led cX9_led 4 2 yX12_led cX12_led 5 2 .int [ai z, ai a] := by
  obtain ⟨n, q, np, S, rn, sn, nv, nr, mk, tl, sz, rp, rc, kf, cl, A, b, c, d, e⟩ := hR
  have hM := A.2.2.1
  refine CALL_of (by decide) (by decide) (c_X9_led l w n q S rn sn z a A.1.1 hz ha) fun r w1 hp => ?_
  obtain ⟨hw, p1, p2⟩ := hp
  subst hw
  refine ⟨M400 A, _, ?_, 0, 0, _, by decide, by decide, c_X12_led l w1 z a hM.1 hM.2.1 hz ha, fun r' u hp' => ⟨hp'.1, ?_⟩⟩
  · by_cases hr : 0 ≤ z ∧ z < 2
    · rw [if_pos hr]
      by_cases h6 : 0 ≤ a ∧ a < 6
      · rw [p2 hr h6, s_led (show z.toNat < 2 by omega) A.1.2.1 h6]
      · rw [p1 (fun t => h6 ⟨t.2.2.1, t.2.2.2⟩), ledF_out h6]
    · rw [if_neg hr, p1 (fun t => hr ⟨t.1, t.2.1⟩)]
  · rw [hp'.2]
    exact fin_th ⟨A, b, c, d⟩ e
theorem poM_out {w : AW} {p : Nat} {a : Int} (h : ¬ (0 ≤ a ∧ a < 5)) : poM w p a = -1 := by
  unfold poM
  rw [if_neg (by omega), if_neg (by omega), if_neg (by omega), if_neg (by omega), if_neg (by omega)]
theorem po_both {w u : AW} {np p : Nat} {a : Int} (hp : PpE w u np) (h : p < np) (ha : 0 ≤ a ∧ a < 5) : poF w (50 + p) a = poM u p a := by
  obtain ⟨p0, p1, p2, p3, p4, p5, p6⟩ := hp.1 p h
  unfold poF poM
  rcases (show a = 0 ∨ a = 1 ∨ a = 2 ∨ a = 3 ∨ a = 4 by omega) with rfl | rfl | rfl | rfl | rfl
  · exact p0
  · exact p1
  · exact p4
  · exact p5
  · exact p6
theorem K_pipeOf {z a : Int} (hR : REL ix w w) (hz : R32 z) (ha : R32 a) : CALL l ix w yX9_pipeOf cX9_pipeOf 4 2 yX12_pipeOf cX12_pipeOf 3 2 .int [ai z, ai a] := by
  obtain ⟨n, q, np, S, rn, sn, nv, nr, mk, tl, sz, rp, rc, kf, cl, A, b, c, d, e⟩ := hR
  have hM := A.2.2.1
  refine CALL_of (by decide) (by decide) (c_X9_pipeOf l w np z a A.1.1.1 A.2.1 hz ha) fun r w1 hp => ?_
  obtain ⟨hw, p1, p2⟩ := hp
  subst hw
  refine ⟨M400 A, _, ?_, 0, 0, _, by decide, by decide, c_X12_pipeOf l w1 np z a hM.1 hM.2.2.2.1 hz ha, fun r' u hp' => ⟨hp'.1, ?_⟩⟩
  · by_cases hr : 0 ≤ z ∧ z < (np : Int)
    · rw [if_pos hr]
      by_cases h6 : 0 ≤ a ∧ a < 5
      · rw [p2 ⟨hr.1, hr.2, h6.1, h6.2⟩, po_both A.1.2.2.1 (show z.toNat < np by omega) h6]
      · rw [p1 (fun t => h6 ⟨t.2.2.1, t.2.2.2⟩), poM_out h6]
    · rw [if_neg hr, p1 (fun t => hr ⟨t.1, t.2.1⟩)]
  · rw [hp'.2]
    exact fin_th ⟨A, b, c, d⟩ e
theorem K_known {z i a : Int} (hR : REL ix w w) (hz : R32 z) (hi : R32 i) (ha : R32 a) : CALL l ix w yX9_known cX9_known 5 5 yX12_known cX12_known 4 6 .int [ai z, ai i, ai a] := by
  obtain ⟨n, q, np, S, rn, sn, nv, nr, mk, tl, sz, rp, rc, kf, cl, A, b, c, d, e⟩ := hR
  have hM := A.2.2.1
  refine CALL_of (by decide) (by decide) (c_X9_known l w n q S rn sn z i a A.1.1 hz hi ha) fun r w1 hp => ?_
  obtain ⟨hw, p1, p2⟩ := hp
  subst hw
  have hd := A.1.2.2.2.2.2.1
  refine ⟨M400 A, _, ?_, 0, 0, _, by decide, by decide, c_X12_known l w1 rn sn z i a hM.1 hM.2.2.1 hM.2.2.2.2.1 hM.2.2.2.2.2.1 hz hi ha, fun r' u hp' => ⟨hp'.1, ?_⟩⟩
  · by_cases hr : ((0 ≤ z ∧ z < 2) ∧ 0 ≤ i ∧ i < 10) ∧ 0 ≤ a ∧ a ≤ w1.2.1 400 4
    · rw [if_pos hr, p2 ⟨hr.1.1.1, hr.1.1.2, hr.1.2.1, hr.1.2.2, hr.2.1, by rw [hd]; exact hr.2.2⟩]
      have k := (tg_both (L := z.toNat) (i := i.toNat) (day := a) A.1.2.2.2.2.1 A.1.1.2.2.2.1 (hold_both (i := i.toNat) (show z.toNat < 2 by omega) A.1.2.1)).1
      rw [show ((z.toNat : Nat) : Int) = z by omega, show ((i.toNat : Nat) : Int) = i by omega] at k
      rw [k]
    · rw [if_neg hr, p1 (fun t => hr ⟨⟨⟨t.1, t.2.1⟩, t.2.2.1, t.2.2.2.1⟩, t.2.2.2.2.1, by rw [← hd]; exact t.2.2.2.2.2⟩)]
  · rw [hp'.2]
    exact fin_th ⟨A, b, c, d⟩ e
theorem rd_both {w u : AW} {rn sn : Nat} (hS : StE w u rn sn) (hI : SI w rn sn) {key z : Int} : (lrF (w.2.1 29) (w.2.1 30) key z z rn = none ↔ rdM u key z rn = -1) ∧ ∀ m, lrF (w.2.1 29) (w.2.1 30) key z z rn = some m → rdM u key z rn = w.2.1 31 m := by
  have ec : lrF (w.2.1 29) (w.2.1 30) key z z rn = lrF (u.2.1 460) (u.2.1 461) key z z rn := lrF_c rn (fun i hi => ⟨(hS.1 i hi).1, (hS.1 i hi).2.1⟩)
  cases h : lrF (w.2.1 29) (w.2.1 30) key z z rn with
  | none =>
    rw [ec] at h
    exact ⟨⟨fun _ => roF_no h, fun _ => rfl⟩, fun m k => by cases k⟩
  | some m =>
    obtain ⟨h1, -⟩ := lrF_lt rn m h
    rw [ec] at h
    have e1 : rdM u key z rn = u.2.1 462 m := roF_hit h
    have e2 := (hS.1 m h1).2.2
    have e3 := hI.2.2.2.2.1 m h1
    refine ⟨⟨fun k => (by cases k), fun k => by omega⟩, fun m' k => ?_⟩
    cases k
    rw [e1, e2]
theorem K_right {z i a : Int} (hR : REL ix w w) (hz : R32 z) (hi : R32 i) (ha : R32 a) : CALL l ix w yX9_right cX9_right 5 4 yX12_right cX12_right 4 5 .int [ai z, ai i, ai a] := by
  obtain ⟨n, q, np, S, rn, sn, nv, nr, mk, tl, sz, rp, rc, kf, cl, A, b, c, d, e⟩ := hR
  have hM := A.2.2.1
  refine CALL_of (by decide) (by decide) (c_X9_right l w n q S rn sn z i a A.1.1 hz hi ha) fun r w1 hp => ?_
  obtain ⟨hw, p1, p2⟩ := hp
  subst hw
  have hd := A.1.2.2.2.2.2.1
  refine ⟨M400 A, _, ?_, 0, 0, _, by decide, by decide, c_X12_right l w1 rn sn z i a hM.1 hM.2.2.1 hM.2.2.2.2.1 hM.2.2.2.2.2.1 hz hi ha, fun r' u hp' => ⟨hp'.1, ?_⟩⟩
  · by_cases hr : (0 ≤ z ∧ z < 2) ∧ 0 ≤ i ∧ i < 10
    · have ek : z * 10 + i = kyM z.toNat i.toNat := by unfold kyM; omega
      rw [if_pos hr]
      rw [ek] at p1 p2
      obtain ⟨k1, k2⟩ := rd_both (key := kyM z.toNat i.toNat) (z := a) A.1.2.2.2.2.1 A.1.1.2.2.2.1
      cases hl : lrF (w1.2.1 29) (w1.2.1 30) (kyM z.toNat i.toNat) a a rn with
      | none => rw [if_pos (k1.mp hl), p1 (Or.inr hl)]
      | some m => rw [if_neg (fun t => by rw [k1.mpr t] at hl; cases hl), p2 ⟨hr.1.1, hr.1.2, hr.2.1, hr.2.2⟩ m hl, hd, pr_both A.1.2.2.2.2.1 A.1.1.2.2.2.1 hl]
    · rw [if_neg hr, p1 (Or.inl (fun t => hr ⟨⟨t.1, t.2.1⟩, t.2.2.1, t.2.2.2⟩))]
  · rw [hp'.2]
    exact fin_th ⟨A, b, c, d⟩ e
theorem K_fault (hR : REL ix w w) : CALL l ix w yX9_fault cX9_fault 1 1 yX12_fault cX12_fault 1 1 .int [] := by
  obtain ⟨n, q, np, S, rn, sn, nv, nr, mk, tl, sz, rp, rc, kf, cl, A, b, c, d, e⟩ := hR
  have hM := A.2.2.1
  refine CALL_of (by decide) (by decide) (c_X9_fault l w A.1.1.1) fun r w1 hp => ?_
  obtain ⟨p1, hw⟩ := hp
  subst hw
  refine ⟨M400 A, _, ?_, 0, 0, _, by decide, by decide, c_X12_fault l w1 hM.1, fun r' u hp' => ⟨hp'.1, ?_⟩⟩
  · rw [p1, e.2.2.2.2]
  · rw [hp'.2]
    exact fin_th ⟨A, b, c, d⟩ e
theorem K_where (hR : REL ix w w) : CALL l ix w yX9_where cX9_where 1 1 yX12_where cX12_where 1 1 .int [] := by
  obtain ⟨n, q, np, S, rn, sn, nv, nr, mk, tl, sz, rp, rc, kf, cl, A, b, c, d, e⟩ := hR
  have hM := A.2.2.1
  refine CALL_of (by decide) (by decide) (c_X9_where l w A.1.1.1 ⟨by have := e.2.1; omega, by have := e.2.1; omega⟩) fun r w1 hp => ?_
  obtain ⟨p1, hw⟩ := hp
  subst hw
  refine ⟨M400 A, _, ?_, 0, 0, _, by decide, by decide, c_X12_where l w1 hM.1, fun r' u hp' => ⟨hp'.1, ?_⟩⟩
  · rw [p1]
    by_cases h4 : w1.2.1 0 16 = 4
    · rw [if_pos h4, e.2.2.1 h4]
    · rw [if_neg h4, e.2.2.2.1 h4]
  · rw [hp'.2]
    exact fin_th ⟨A, b, c, d⟩ e
theorem K_trouble (hR : REL ix w w) : CALL l ix w yX9_trouble cX9_trouble 1 1 yX12_trouble cX12_trouble 1 1 .int [] := by
  obtain ⟨n, q, np, S, rn, sn, nv, nr, mk, tl, sz, rp, rc, kf, cl, A, b, c, d, e⟩ := hR
  have hM := A.2.2.1
  refine CALL_of (by decide) (by decide) (c_X9_trouble l w A.1.1.1) fun r w1 hp => ?_
  obtain ⟨p1, hw⟩ := hp
  subst hw
  refine ⟨M400 A, _, ?_, 0, 0, _, by decide, by decide, c_X12_trouble l w1 hM.1, fun r' u hp' => ⟨hp'.1, ?_⟩⟩
  · rw [p1, e.1]
  · rw [hp'.2]
    exact fin_th ⟨A, b, c, d⟩ e
theorem K_arrives {a : Int} (hR : REL ix w w) (ha : R32 a) : CALL l ix w yX9_arrives cX9_arrives 2 2 yX12_arrives cX12_arrives 2 2 .int [ai a] := by
  obtain ⟨n, q, np, S, rn, sn, nv, nr, mk, tl, sz, rp, rc, kf, cl, A, b, c, d, e⟩ := hR
  have hM := A.2.2.1
  obtain ⟨l1, l2, l3, l4, l5, l6, l7⟩ := b.2.2.1
  refine CALL_of (by decide) (by decide) (c_X9_arrives l w a A.1.1.1 l2 ha) fun r w1 hp => ?_
  obtain ⟨p1, hw⟩ := hp
  subst hw
  refine ⟨M400 A, _, ?_, 0, 0, _, by decide, by decide, c_X12_arrives l w1 a hM.1 l3 l4 ha, fun r' u hp' => ⟨hp'.1, ?_⟩⟩
  · rw [p1]
    by_cases hr : (0 ≤ a ∧ a < 400) ∧ w1.2.1 36 5 = 1
    · rw [if_pos hr, if_pos ⟨by rw [← l6.2.2.2]; exact hr.2, hr.1⟩]
      obtain ⟨k1, k2⟩ := l7 hr.2 a.toNat (by omega)
      unfold arM
      by_cases h1 : w1.2.1 473 a.toNat = -1
      · rw [if_pos h1, k1 h1]
      · rw [if_neg h1, (k2 h1).2]
    · rw [if_neg hr, if_neg (fun t => hr ⟨t.2, by rw [l6.2.2.2]; exact t.1⟩)]
  · rw [hp'.2]
    exact fin_th ⟨A, b, c, d⟩ e
theorem va_both {w u : AW} : ∀ nv, (∀ v, v < nv → w.2.1 (60 + v) 2 = u.2.1 477 v ∧ (u.2.1 477 v = 0 ∨ u.2.1 477 v = 1)) → vaF w nv = vcM u nv
  | 0, _ => rfl
  | nv + 1, h => by
    unfold vaF vcM
    rw [va_both nv (fun v hv => h v (by omega)), (h nv (by omega)).1]
    rcases (h nv (by omega)).2 with k | k
    · rw [k, if_pos rfl]
    · rw [k, if_neg (by decide)]
theorem K_count {a : Int} (hR : REL ix w w) (ha : R32 a) : CALL l ix w yX9_count cX9_count 2 3 yX12_count cX12_count 4 1 .int [ai a] := by
  obtain ⟨n, q, np, S, rn, sn, nv, nr, mk, tl, sz, rp, rc, kf, cl, A, b, c, d, e⟩ := hR
  have hM := A.2.2.1
  obtain ⟨v1, v2, v3⟩ := b.2.1
  refine CALL_of (by decide) (by decide) (c_X9_count l w nv a A.1.1.1 v1 ha) fun r w1 hp => ?_
  obtain ⟨p1, hw⟩ := hp
  subst hw
  refine ⟨M400 A, _, ?_, 0, 0, _, by decide, by decide, c_X12_count l w1 nv a hM.1 v2 ha, fun r' u hp' => ⟨hp'.1, ?_⟩⟩
  · rw [p1]
    have k0 : w1.2.1 0 3 = w1.2.1 400 28 := A.2.1.1.trans hM.2.2.2.1.1.symm
    have k1 : w1.2.1 20 3 = w1.2.1 400 42 := b.1.1.1.trans b.1.2.1.1.symm
    have k2 : w1.2.1 28 3 = w1.2.1 400 58 := A.1.1.2.2.2.1.1.trans hM.2.2.2.2.1.1.symm
    have k3 : w1.2.1 28 8 = w1.2.1 400 59 := A.1.1.2.2.2.1.2.2.1.trans hM.2.2.2.2.1.2.2.1.symm
    have k4 : w1.2.1 0 12 = w1.2.1 400 69 := v1.1.trans v2.1.symm
    have k9 : w1.2.1 20 1 = w1.2.1 400 47 := b.2.2.2.1.1.trans b.2.2.2.1.2.2.1.symm
    unfold cntF cnM
    rw [k0, k1, k2, k3, k4, va_both nv (fun v hv => ⟨(v3.1 v hv).2.2, (v2.2.2 v hv).2.2.2.2⟩), A.1.2.2.2.2.2.1, c.2.2, c.1, k9]
  · rw [hp'.2]
    exact fin_th ⟨A, b, c, d⟩ e
end ASK
