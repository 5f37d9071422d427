/-! ===== the law: the plan told ===== -/
section LPLAN
variable {ix : Nat} {w u : AW} {n : Nat → Nat} {q : Nat → Nat → Nat} {np S rn sn nv nr mk tl sz : Nat} {rp rc kf : Nat → Nat} {cl : Nat → List Int}
theorem GB_out (z : Int) (h : GB ix w u n q np S rn sn nv nr mk tl sz rp rc kf cl) : GB ix (upI w 1900 0 z) u n q np S rn sn nv nr mk tl sz rp rc kf cl := by
  obtain ⟨A, B, C, D⟩ := h
  have e := fun (j : Nat) (hj : j ≠ 1900) => upI_o w (k := 1900) (j := j) 0 z hj
  have e0 := e 0 (by decide)
  refine ⟨LG_x A (XS_of rfl rfl A.1.1.1) (SPI_of rfl rfl A.1.1.2.1) (fun j a b _ => e j (by omega)) (fun j a b => ⟨e j (by omega), rfl⟩) ⟨rfl, rfl, rfl⟩ (fun j a b => e j (by omega)) ⟨by rw [e0], by rw [e0], by rw [e0]⟩, GR_x B (CI_o B.2.2.1.1 (XS_of rfl rfl B.2.2.1.1.1) (e 40 (by decide)) (e 41 (by decide)) (e 37 (by decide)) (e 39 (by decide))) ⟨?_, ?_⟩ (e 20 (by decide)) (fun j hj => e j (by omega)) (by rw [e0]) (fun _ _ => rfl) (fun _ _ => rfl), CRW_x C (by rw [e0]) (by rw [e0]), PLN_x D (by rw [e0]) (e 19 (by decide))⟩
  · exact HB_e B.2.2.2.2.1.1 (e 26 (by decide)) e0
  · rw [e 18 (by decide)]; exact B.2.2.2.2.1.2
end LPLAN
section LPLAN2
variable {Γ : Cx} {i k n L : Nat} {w : AW} {xs : Nat → Int32} {a5 a6 : Option AV}
set_option maxHeartbeats 1000000 in
theorem op_planned (h : OKB Γ cL_law RL 7) (hRm : cxR Γ = room_1) (hS : SCR Γ L xs) (hst : Γ.1.2.1.stackTraces = false) (hR : REL i w w) (h0 : w.1 0 = (109, 0)) (hi : 6 * i + 5 < L) (hk : k + 9 ≤ 601024) (hn : n + 906 ≤ 7293034) (kk : ∀ u z5 z6, REL (i + 1) u u → GG Γ 1636 [some (ar 20000), some (ar 0), some (ar 400), some (ar 1900), some (ai (6 * (i : Int))), some (ai z5), some (ai z6)] [] u (k + 9) (n + 906)) : GG Γ 724 [some (ar 20000), some (ar 0), some (ar 400), some (ar 1900), some (ai (6 * (i : Int))), a5, a6] [] w k n := by
  obtain ⟨nn, q, np, S, rn, sn, nv, nr, mk, tl, sz, rp, rc, kf, cl, A, b, c, d, e⟩ := hR
  have gb : GB i w w nn q np S rn sn nv nr mk tl sz rp rc kf cl := ⟨A, b, c, d⟩
  have r1 : (cxR Γ).frames = 2048 := by rw [hRm]; rfl
  have r2 : (cxR Γ).locals = 84000 := by rw [hRm]; rfl
  have r3 : (cxR Γ).cells = 601024 := by rw [hRm]; rfl
  have r4 : (cxR Γ).slots = 7293034 := by rw [hRm]; rfl
  obtain ⟨d1, d2, d3, d4⟩ := d
  have hO := b.2.2.2.2.2.2
  have hz := i32_toInt (xs (6 * i + 1))
  have rng : (0 ≤ (xs (6 * i + 1)).toInt ∧ (xs (6 * i + 1)).toInt < w.2.1 0 6) ↔ (0 ≤ (xs (6 * i + 1)).toInt ∧ (xs (6 * i + 1)).toInt < w.2.1 400 40) := by rw [d1]
  have cont : ∀ (w1 : AW) (v5 : Int), GB i w1 w1 nn q np S rn sn nv nr mk tl sz rp rc kf cl → TRB w1 w1 → w1.2.1 400 40 = w.2.1 400 40 → w1.2.1 441 = w.2.1 441 → w1.1 1900 = (4, 1) → v5 = (if 0 ≤ (xs (6 * i + 1)).toInt ∧ (xs (6 * i + 1)).toInt < w.2.1 400 40 then 0 else 1) → (0 ≤ (xs (6 * i + 1)).toInt ∧ (xs (6 * i + 1)).toInt < w.2.1 400 40 → w1.2.1 1900 0 = w.2.1 441 (xs (6 * i + 1)).toInt.toNat ∧ 0 ≤ w1.2.1 1900 0 ∧ w1.2.1 1900 0 ≤ 9) → GG Γ 735 [some (ar 20000), some (ar 0), some (ar 400), some (ar 1900), some (ai (6 * (i : Int))), a5, a6] [ai v5] w1 (k + 1) (n + 6) := by
    intro w1 v5 g1 e1 q40 q441 q19 hv5 hin
    have s400 := M400 g1.1
    have r5 : R32 v5 := by rw [hv5]; split <;> decide
    refine g_istore h dL_law_735 (Nat.le_of_ble_eq_true rfl) rfl rfl ?_
    refine g_aload_n h dL_law_737 rfl ?_
    refine g_sarg h hS (i := i) (j := 1) rfl rfl (by omega) dL_law_738 dL_law_739 dL_law_741 dL_law_742 dL_law_743 ?_
    refine g_callV h rfl (ci := 12) [_] s400 (c_X12_planned _ w1 _ g1.1.2.2.1.1 hz (by rw [q40, ← d1]; exact d2)) clL_80 (by decide) rfl in_X12_planned se_X12_planned rfl rfl (by omega) (by omega) (fun _ => Nat.le_of_ble_eq_true rfl) (by omega) (by omega) dL_law_744 (fun r w2 hp2 => ?_)
    obtain ⟨rfl, hw2⟩ := hp2
    rw [hw2, q40, ← hv5, q441]
    refine g_istore h dL_law_747 (Nat.le_of_ble_eq_true rfl) rfl rfl ?_
    refine g_aload_n h dL_law_749 rfl ?_
    refine g_callV h rfl (ci := 12) [] (show (upI w1 400 0 v5).1 400 = (112, 0) from s400) (c_X12_thrown _ _ (MS_of rfl rfl g1.1.2.2.1.1)) clL_81 (by decide) rfl in_X12_thrown se_X12_thrown rfl rfl (by omega) (by omega) (fun _ => Nat.le_of_ble_eq_true rfl) (by omega) (by omega) dL_law_750 (fun r w3 hp3 => ?_)
    obtain ⟨rfl, hw3⟩ := hp3
    rw [hw3, feq]
    have hu : REL (i + 1) (upI w1 400 0 v5) (upI w1 400 0 v5) := fin_q g1 e1 (QM_f (Or.inl rfl)) (SX_rfl _) (fne _ _ (by decide)) (upI_o _ _ _ (by decide)) ⟨fne _ _ (by decide), fne _ _ (by decide), fne _ _ (by decide)⟩
    refine g_iload h dL_law_753 rfl ?_
    refine g_icmp_eqS (tgt := 760) h dL_law_755 (by decide) ?_
    refine g_iload h dL_law_760 rfl ?_
    refine g_if_ne (tgt := 777) h dL_law_762 (by decide) r5 (fun c1 => ?_) (fun c1 => ?_)
    · refine g_goto (tgt := 1636) h dL_law_777 (by decide) ?_
      exact g_kn2 (k + 9) (n + 906) (by omega) (by omega) (kk _ _ _ hu)
    · have hr : 0 ≤ (xs (6 * i + 1)).toInt ∧ (xs (6 * i + 1)).toInt < w.2.1 400 40 := by
        rcases Decidable.em (0 ≤ (xs (6 * i + 1)).toInt ∧ (xs (6 * i + 1)).toInt < w.2.1 400 40) with t | t
        · exact t
        · rw [if_neg t] at hv5
          omega
      obtain ⟨x1, x2, x3⟩ := hin hr
      refine g_aload_n h dL_law_765 rfl ?_
      refine g_iconst h dL_law_766 ?_
      refine g_lald h 0 (show (upI w1 400 0 v5).1 1900 = (4, 1) from q19) rfl (by decide) (by decide) dL_law_767 ?_
      rw [upI_o _ _ _ (show 1900 ≠ 400 by decide), if_pos hr, ← x1]
      refine g_iload h dL_law_768 rfl ?_
      refine g_i2l h (show R32 (w1.2.1 1900 0) by exact ⟨by omega, by omega⟩) dL_law_770 ?_
      refine g_lcmp h (show R64 (w1.2.1 1900 0) by exact ⟨by omega, by omega⟩) (show R64 (w1.2.1 1900 0) by exact ⟨by omega, by omega⟩) dL_law_771 ?_
      rw [if_neg (Int.lt_irrefl _), if_pos rfl]
      refine g_if_eq (tgt := 777) h dL_law_772 (by decide) R32.z (fun _ => ?_) (fun t => absurd rfl t)
      refine g_goto (tgt := 1636) h dL_law_777 (by decide) ?_
      exact g_kn2 (k + 9) (n + 906) (by omega) (by omega) (kk _ _ _ hu)
  refine g_aload_n h dL_law_724 rfl ?_
  refine g_sarg h hS (i := i) (j := 1) rfl rfl (by omega) dL_law_725 dL_law_726 dL_law_728 dL_law_729 dL_law_730 ?_
  refine g_aload_n h dL_law_731 rfl ?_
  refine g_callSH h rfl [_, _, _] (c_L_planned _ w _ 1900 hst A.1.1.1 hz d2 d4 hO) plan_lk plan_st rfl rfl (by omega) (by omega) (fun _ => Nat.le_of_ble_eq_true rfl) (by omega) (by omega) dL_law_732 (fun r w1 hp => ?_)
  obtain ⟨p1, p2⟩ := hp
  by_cases hr : 0 ≤ (xs (6 * i + 1)).toInt ∧ (xs (6 * i + 1)).toInt < w.2.1 0 6
  · obtain ⟨rfl, hw1⟩ := p1 hr
    rw [hw1]
    have g1 := GB_m (GB_out (w.2.1 19 (xs (6 * i + 1)).toInt.toNat) gb) (SM_i (w := w) (f := 0) (z := w.2.1 19 (xs (6 * i + 1)).toInt.toNat) (Or.inr (by decide : 1900 ≤ 1900)))
    have b9 := d4 (xs (6 * i + 1)).toInt.toNat (by omega)
    refine cont _ 0 g1 (TRB_q e (by rw [upI_o _ _ _ (by decide)]) (by rw [upI_o _ _ _ (by decide)]; exact ⟨rfl, rfl⟩) (by rw [upI_o _ _ _ (by decide)]; exact ⟨rfl, rfl, rfl⟩)) (by rw [upI_o _ _ _ (by decide)]) (upI_o _ _ _ (by decide)) hO (by rw [if_pos (rng.mp hr)]) (fun _ => ?_)
    rw [feq]
    exact ⟨by rw [← d3 _ (by omega)], b9⟩
  · obtain ⟨rfl, hw1⟩ := p2 hr
    rw [hw1]
    exact cont _ 1 gb e rfl rfl hO (by rw [if_neg (fun t => hr (rng.mpr t))]) (fun t => absurd (rng.mpr t) hr)
end LPLAN2
