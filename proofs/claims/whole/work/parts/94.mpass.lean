/-! ===== M: days pass ===== -/
/-- what the pipes of a lake let off is told, for the first p pipes -/
def psP (u : AW) (L : Nat) : Nat → AW
  | 0 => u
  | p + 1 => if u.2.1 429 p = (L : Int) then upI (upI (upI (psP u L p) 435 p (u.2.1 425 p)) 433 p ((psP u L p).2.1 433 p + u.2.1 424 p)) 416 L ((psP u L p).2.1 416 L + u.2.1 424 p) else psP u L p
theorem psP_1 (u : AW) (L : Nat) : ∀ p, (psP u L p).1 = u.1 ∧ (psP u L p).2.2 = u.2.2
  | 0 => ⟨rfl, rfl⟩
  | p + 1 => by
    have := psP_1 u L p
    unfold psP
    split <;> exact this
theorem psP_o (u : AW) (L : Nat) {j : Nat} (h1 : j ≠ 435) (h2 : j ≠ 433) (h3 : j ≠ 416) : ∀ p, (psP u L p).2.1 j = u.2.1 j
  | 0 => rfl
  | p + 1 => by
    have := psP_o u L h1 h2 h3 p
    unfold psP
    split
    · rw [upI_o _ _ _ h3, upI_o _ _ _ h2, upI_o _ _ _ h1]; exact this
    · exact this
/-- whether pipe j runs behind it -/
theorem psP_r (u : AW) (L : Nat) : ∀ p j, (psP u L p).2.1 435 j = if j < p ∧ u.2.1 429 j = (L : Int) then u.2.1 425 j else u.2.1 435 j
  | 0, j => (if_neg (by omega)).symm
  | p + 1, j => by
    have h := psP_r u L p j
    unfold psP
    split
    · rename_i q
      show uI ((psP u L p).2.1 435) p (u.2.1 425 p) j = _
      by_cases e : j = p
      · subst e; rw [uI_at, if_pos ⟨by omega, q⟩]
      · rw [uI_ne _ _ e, h]
        by_cases e2 : j < p ∧ u.2.1 429 j = (L : Int)
        · rw [if_pos e2, if_pos ⟨by omega, e2.2⟩]
        · rw [if_neg e2, if_neg (fun q2 => e2 ⟨by omega, q2.2⟩)]
    · rename_i q
      rw [h]
      by_cases e2 : j < p ∧ u.2.1 429 j = (L : Int)
      · rw [if_pos e2, if_pos ⟨by omega, e2.2⟩]
      · rw [if_neg e2, if_neg (fun q2 => e2 ⟨by
          rcases Nat.lt_or_ge j p with a | a
          · exact a
          · obtain rfl : j = p := by omega
            exact absurd q2.2 q, q2.2⟩)]
/-- the lake's row of sources grows -/
def pz1 (w : AW) (L np : Nat) : AW := upI (tkW w L np) 415 L (w.2.1 415 L + w.2.1 412 L)
def pz2 (w : AW) (L np : Nat) : AW := lyW (mdW (pz1 w L np) L np) L 10
def pz3 (w : AW) (L np : Nat) : AW := upI (pz2 w L np) 417 L ((pz2 w L np).2.1 417 L + (pz2 w L np).2.1 400 26)
def pz4 (u : AW) (L : Nat) (is : Int) : AW := if is = 1 then upI (upI (upI u 400 5 (u.2.1 400 5 + 1)) 419 L (u.2.1 400 27)) 418 L (u.2.1 418 L + u.2.1 400 27) else u
/-- a day of lake L goes by -/
def pzW (w : AW) (L np : Nat) : AW := pz4 (psP (pz3 w L np) L np) L (mdB (pz1 w L np) L np)
theorem lyW_o (w : AW) (L i : Nat) {j : Nat} (h1 : j ≠ 407) (h2 : j ≠ 408) (h3 : j ≠ 409) : (lyW w L i).2.1 j = w.2.1 j := by unfold lyW; rw [sR_ne _ _ h3, sR_ne _ _ h2, sR_ne _ _ h1]
theorem pz1_ok {w : AW} {L np : Nat} (hL : L < 2) (hG : MG w) (hN : MN w) (hP : MPI w np) : MN (pz1 w L np) ∧ MQ2 (pz1 w L np) np ∧ RB3 (gH (pz1 w L np)) := by
  obtain ⟨h1, h2, h3⟩ := tk_ok (L := L) (np := np) hL hG hN hP
  exact ⟨MN_of (fun j a b => upI_o _ _ _ (by omega)) h1, h2, h3⟩
/-- what a day's end keeps of any row but its own -/
def pzO (j : Nat) : Prop := noH j ∧ j ≠ 407 ∧ j ≠ 408 ∧ j ≠ 409 ∧ j ≠ 415 ∧ j ≠ 416 ∧ j ≠ 417 ∧ j ≠ 418 ∧ j ≠ 419 ∧ j ≠ 433 ∧ j ≠ 435
theorem pz3_o (w : AW) (L np : Nat) {j : Nat} (h : pzO j) : (pz3 w L np).2.1 j = w.2.1 j := by
  obtain ⟨h0, h7, h8, h9, h15, h16, h17, h18, h19, h33, h35⟩ := h
  unfold pz3 pz2
  rw [upI_o _ _ _ h17, lyW_o _ _ _ h7 h8 h9, (MF_md _ L np).2.2.1 j h0]
  unfold pz1
  rw [upI_o _ _ _ h15, (MF_tk w L np).2.2.1 j h0]
theorem pz3_28 (w : AW) (L np f : Nat) (h1 : f ≠ 26) (h2 : f ≠ 27) : (pz3 w L np).2.1 400 f = w.2.1 400 f := (MF_md (pz1 w L np) L np).2.2.2 f h1 h2
theorem pz4_1 (u : AW) (L : Nat) (is : Int) : (pz4 u L is).1 = u.1 ∧ (pz4 u L is).2.2 = u.2.2 := by
  unfold pz4
  split <;> exact ⟨rfl, rfl⟩
theorem pz4_o (u : AW) (L : Nat) (is : Int) {j : Nat} (h0 : j ≠ 400) (h18 : j ≠ 418) (h19 : j ≠ 419) : (pz4 u L is).2.1 j = u.2.1 j := by
  unfold pz4
  split
  · rw [upI_o _ _ _ h18, upI_o _ _ _ h19, upI_o _ _ _ h0]
  · rfl
theorem pz4_28 (u : AW) (L f : Nat) (is : Int) (h : f ≠ 5) : (pz4 u L is).2.1 400 f = u.2.1 400 f := by
  unfold pz4
  split
  · show uI (u.2.1 400) 5 _ f = _
    rw [uI_ne _ _ h]
  · rfl
theorem pzW_1 (w : AW) (L np : Nat) : (pzW w L np).1 = w.1 ∧ (pzW w L np).2.2 = w.2.2 := by
  have h1 := pz4_1 (psP (pz3 w L np) L np) L (mdB (pz1 w L np) L np)
  have h2 := psP_1 (pz3 w L np) L np
  have h3 := mdW_1 (pz1 w L np) L np
  exact ⟨h1.1.trans (h2.1.trans h3.1), h1.2.trans (h2.2.trans h3.2)⟩
theorem pzW_o (w : AW) (L np : Nat) {j : Nat} (h : pzO j) : (pzW w L np).2.1 j = w.2.1 j := by
  unfold pzW
  rw [pz4_o _ _ _ h.1.1 h.2.2.2.2.2.2.2.1 h.2.2.2.2.2.2.2.2.1, psP_o _ _ h.2.2.2.2.2.2.2.2.2.2 h.2.2.2.2.2.2.2.2.2.1 h.2.2.2.2.2.1, pz3_o _ _ _ h]
theorem pzW_28 (w : AW) (L np f : Nat) (h5 : f ≠ 5) (h1 : f ≠ 26) (h2 : f ≠ 27) : (pzW w L np).2.1 400 f = w.2.1 400 f := by
  unfold pzW
  rw [pz4_28 _ _ _ _ h5, psP_o _ _ (by decide) (by decide) (by decide), pz3_28 _ _ _ _ h1 h2]
theorem pzO_d : ∀ j ∈ [410, 411, 412, 413, 414, 429, 430, 431, 432, 434, 472], pzO j := by
  intro j hj
  simp only [List.mem_cons, List.not_mem_nil, or_false] at hj
  unfold pzO noH
  omega
theorem lyF_at (old src : Nat → Int) (L i k : Nat) : lyF old src L i k = if 10 * L ≤ k ∧ k < 10 * L + i then src (k - 10 * L) else old k := rfl
theorem pzW_ok {w : AW} {L np : Nat} (hL : L < 2) (hG : MG w) (hN : MN w) (hP : MPI w np) : MG (pzW w L np) ∧ MN (pzW w L np) ∧ MPI (pzW w L np) np := by
  obtain ⟨h1, h2, h3⟩ := pz1_ok (np := np) hL hG hN hP
  obtain ⟨g1, g2, g3⟩ := mdW_ok (L := L) h1 hL h2 h3
  have o := fun j h => pzW_o w L np (pzO_d j h)
  have e7 : (pzW w L np).2.1 407 = lyF (w.2.1 407) ((mdW (pz1 w L np) L np).2.1 420) L 10 := by
    unfold pzW
    rw [pz4_o _ _ _ (by decide) (by decide) (by decide), psP_o _ _ (by decide) (by decide) (by decide)]
    show lyF ((mdW (pz1 w L np) L np).2.1 407) _ L 10 = _
    rw [(MF_md (pz1 w L np) L np).2.2.1 407 ⟨by decide, by decide, by decide, by decide, by decide, by decide, by decide⟩]
    rfl
  have e8 : (pzW w L np).2.1 408 = lyF (w.2.1 408) ((mdW (pz1 w L np) L np).2.1 421) L 10 := by
    unfold pzW
    rw [pz4_o _ _ _ (by decide) (by decide) (by decide), psP_o _ _ (by decide) (by decide) (by decide)]
    show lyF ((mdW (pz1 w L np) L np).2.1 408) _ L 10 = _
    rw [(MF_md (pz1 w L np) L np).2.2.1 408 ⟨by decide, by decide, by decide, by decide, by decide, by decide, by decide⟩]
    rfl
  have e9 : (pzW w L np).2.1 409 = lyF (w.2.1 409) ((mdW (pz1 w L np) L np).2.1 422) L 10 := by
    unfold pzW
    rw [pz4_o _ _ _ (by decide) (by decide) (by decide), psP_o _ _ (by decide) (by decide) (by decide)]
    show lyF ((mdW (pz1 w L np) L np).2.1 409) _ L 10 = _
    rw [(MF_md (pz1 w L np) L np).2.2.1 409 ⟨by decide, by decide, by decide, by decide, by decide, by decide, by decide⟩]
    rfl
  refine ⟨fun k hk => ?_, MN_of (fun j a b => o j (by
      rcases (show j = 410 ∨ j = 411 ∨ j = 412 ∨ j = 413 ∨ j = 414 by omega) with rfl | rfl | rfl | rfl | rfl <;> decide)) hN, ?_⟩
  · rw [e7, e8, e9, lyF_at, lyF_at, lyF_at]
    by_cases q : 10 * L ≤ k ∧ k < 10 * L + 10
    · rw [if_pos q, if_pos q, if_pos q]
      exact g3 (k - 10 * L) (by omega)
    · rw [if_neg q, if_neg q, if_neg q]
      exact hG k hk
  · obtain ⟨a1, a2, a3⟩ := hP
    refine ⟨?_, a2, fun p hp => ?_⟩
    · rw [pzW_28 _ _ _ _ (by decide) (by decide) (by decide)]; exact a1
    · obtain ⟨b1, b2, b3, b4, b5, b6, b7, b8, b9⟩ := a3 p hp
      rw [o 429 (by decide), o 430 (by decide), o 431 (by decide), o 432 (by decide)]
      refine ⟨b1, b2, b3, b4, b5, b6, b7, b8, ?_⟩
      have e : (pzW w L np).2.1 435 = (psP (pz3 w L np) L np).2.1 435 := by
        unfold pzW
        rw [pz4_o _ _ _ (by decide) (by decide) (by decide)]
      rw [e, psP_r]
      split
      · have e25 : (pz3 w L np).2.1 425 p = (mdW (pz1 w L np) L np).2.1 425 p := rfl
        rw [e25]
        exact (g2.2.2 p hp).2.2.2.2.2.2.2.2
      · have e35 : (pz3 w L np).2.1 435 = w.2.1 435 := (MF_md (pz1 w L np) L np).2.2.1 435 ⟨by decide, by decide, by decide, by decide, by decide, by decide, by decide⟩
        rw [e35]
        exact b9
set_option maxRecDepth 100000 in
set_option maxHeartbeats 4000000 in
theorem c_X12_passes (l : Launch) (w : AW) (np L : Nat) (hM : MS w) (hG : MG w) (hN : MN w) (hP : MPI w np) (hL : L < 2) : HT l yX12_passes cX12_passes 4 none 5 0 0 w [ar 400, ai (L : Int)] (rV (pzW w L np)) := by
  refine HT.of (by decide) (by intro v hv; simp only [List.mem_cons, List.not_mem_nil, or_false] at hv; rcases hv with rfl | rfl <;> rfl) (Nat.le_of_ble_eq_true rfl) ?_
  intro Γ h hQ hRm hnm hl hw0
  have s400 : w.1 400 = (112, 0) := hM.1 400 (by decide) (by decide)
  have s415 : w.1 415 = (1, 2) := hM.1 415 (by decide) (by decide)
  have s412 : w.1 412 = (1, 2) := hM.1 412 (by decide) (by decide)
  have s417 : w.1 417 = (1, 2) := hM.1 417 (by decide) (by decide)
  have s429 : w.1 429 = (1, 6) := hM.1 429 (by decide) (by decide)
  have s435 : w.1 435 = (3, 6) := hM.1 435 (by decide) (by decide)
  have s425 : w.1 425 = (3, 6) := hM.1 425 (by decide) (by decide)
  have s433 : w.1 433 = (1, 6) := hM.1 433 (by decide) (by decide)
  have s424 : w.1 424 = (1, 6) := hM.1 424 (by decide) (by decide)
  have s416 : w.1 416 = (1, 2) := hM.1 416 (by decide) (by decide)
  have s419 : w.1 419 = (1, 2) := hM.1 419 (by decide) (by decide)
  have s418 : w.1 418 = (1, 2) := hM.1 418 (by decide) (by decide)
  have p15 : w.2.2 400 15 = some 415 := hM.2 (400, 15, 415) (by decide)
  have p12 : w.2.2 400 12 = some 412 := hM.2 (400, 12, 412) (by decide)
  have p17 : w.2.2 400 17 = some 417 := hM.2 (400, 17, 417) (by decide)
  have p29 : w.2.2 400 29 = some 429 := hM.2 (400, 29, 429) (by decide)
  have p35 : w.2.2 400 35 = some 435 := hM.2 (400, 35, 435) (by decide)
  have p25 : w.2.2 400 25 = some 425 := hM.2 (400, 25, 425) (by decide)
  have p33 : w.2.2 400 33 = some 433 := hM.2 (400, 33, 433) (by decide)
  have p24 : w.2.2 400 24 = some 424 := hM.2 (400, 24, 424) (by decide)
  have p16 : w.2.2 400 16 = some 416 := hM.2 (400, 16, 416) (by decide)
  have p19 : w.2.2 400 19 = some 419 := hM.2 (400, 19, 419) (by decide)
  have p18 : w.2.2 400 18 = some 418 := hM.2 (400, 18, 418) (by decide)
  obtain ⟨hN1, hQ1, hb1⟩ := pz1_ok (np := np) hL hG hN hP
  have hM1 : MS (pz1 w L np) := MS_of rfl rfl hM
  have hM2 : MS (mdW (pz1 w L np) L np) := MS_of (mdW_1 _ L np).1 (mdW_1 _ L np).2 hM1
  have h01 := mdB_01 (pz1 w L np) L np
  have hM3 : MS (pz3 w L np) := MS_of (mdW_1 _ L np).1 (mdW_1 _ L np).2 hM1
  obtain ⟨g1, g2, g3⟩ := mdW_ok (L := L) hN1 hL hQ1 hb1
  obtain ⟨hnp, hn6, hpp⟩ := id hP
  have e28 : (pz3 w L np).2.1 400 28 = (np : Int) := (pz3_28 w L np 28 (by decide) (by decide)).trans hnp
  have e29 : (pz3 w L np).2.1 429 = w.2.1 429 := pz3_o w L np (pzO_d 429 (by decide))
  have e25 : ∀ p, p < np → (pz3 w L np).2.1 425 p = 0 ∨ (pz3 w L np).2.1 425 p = 1 := fun p hp => (g2.2.2 p hp).2.2.2.2.2.2.2.2
  have tail : ∀ (x : Option AV), GG Γ 46 [some (ar 400), some (ai (L : Int)), some (ai (mdB (pz1 w L np) L np)), some (ai (np : Int))] [] (psP (pz3 w L np) L np) 0 0 := by
    intro x
    have hMp : MS (psP (pz3 w L np) L np) := MS_of (psP_1 _ L np).1 (psP_1 _ L np).2 hM3
    have f28 : (psP (pz3 w L np) L np).2.1 400 28 = (np : Int) := (congrFun (psP_o (pz3 w L np) L (by decide) (by decide) (by decide) np) 28).trans e28
    have ts400 : (psP (pz3 w L np) L np).1 400 = (112, 0) := hMp.1 400 (by decide) (by decide)
    have ts415 : (psP (pz3 w L np) L np).1 415 = (1, 2) := hMp.1 415 (by decide) (by decide)
    have ts412 : (psP (pz3 w L np) L np).1 412 = (1, 2) := hMp.1 412 (by decide) (by decide)
    have ts417 : (psP (pz3 w L np) L np).1 417 = (1, 2) := hMp.1 417 (by decide) (by decide)
    have ts429 : (psP (pz3 w L np) L np).1 429 = (1, 6) := hMp.1 429 (by decide) (by decide)
    have ts435 : (psP (pz3 w L np) L np).1 435 = (3, 6) := hMp.1 435 (by decide) (by decide)
    have ts425 : (psP (pz3 w L np) L np).1 425 = (3, 6) := hMp.1 425 (by decide) (by decide)
    have ts433 : (psP (pz3 w L np) L np).1 433 = (1, 6) := hMp.1 433 (by decide) (by decide)
    have ts424 : (psP (pz3 w L np) L np).1 424 = (1, 6) := hMp.1 424 (by decide) (by decide)
    have ts416 : (psP (pz3 w L np) L np).1 416 = (1, 2) := hMp.1 416 (by decide) (by decide)
    have ts419 : (psP (pz3 w L np) L np).1 419 = (1, 2) := hMp.1 419 (by decide) (by decide)
    have ts418 : (psP (pz3 w L np) L np).1 418 = (1, 2) := hMp.1 418 (by decide) (by decide)
    have tp15 : (psP (pz3 w L np) L np).2.2 400 15 = some 415 := hMp.2 (400, 15, 415) (by decide)
    have tp12 : (psP (pz3 w L np) L np).2.2 400 12 = some 412 := hMp.2 (400, 12, 412) (by decide)
    have tp17 : (psP (pz3 w L np) L np).2.2 400 17 = some 417 := hMp.2 (400, 17, 417) (by decide)
    have tp29 : (psP (pz3 w L np) L np).2.2 400 29 = some 429 := hMp.2 (400, 29, 429) (by decide)
    have tp35 : (psP (pz3 w L np) L np).2.2 400 35 = some 435 := hMp.2 (400, 35, 435) (by decide)
    have tp25 : (psP (pz3 w L np) L np).2.2 400 25 = some 425 := hMp.2 (400, 25, 425) (by decide)
    have tp33 : (psP (pz3 w L np) L np).2.2 400 33 = some 433 := hMp.2 (400, 33, 433) (by decide)
    have tp24 : (psP (pz3 w L np) L np).2.2 400 24 = some 424 := hMp.2 (400, 24, 424) (by decide)
    have tp16 : (psP (pz3 w L np) L np).2.2 400 16 = some 416 := hMp.2 (400, 16, 416) (by decide)
    have tp19 : (psP (pz3 w L np) L np).2.2 400 19 = some 419 := hMp.2 (400, 19, 419) (by decide)
    have tp18 : (psP (pz3 w L np) L np).2.2 400 18 = some 418 := hMp.2 (400, 18, 418) (by decide)
    refine g_iload_n h dX12_passes_46 rfl ?_
    refine g_aload_n h dX12_passes_47 rfl ?_
    refine g_getI h flX12_246 rfl (by assumption) dX12_passes_48 ?_
    refine g_icmp_ge (tgt := 115) h dX12_passes_51 (by decide) (by first | assumption | exact ⟨by omega, by omega⟩) (by first | assumption | exact ⟨by omega, by omega⟩) (fun c51 => ?_) (fun c51 => ?_)
    · refine g_iload_n h dX12_passes_115 rfl ?_
      refine g_if_ne (tgt := 120) h dX12_passes_116 (by decide) (by first | assumption | exact ⟨by omega, by omega⟩) (fun c116 => ?_) (fun c116 => ?_)
      · refine g_aload_n h dX12_passes_120 rfl ?_
        refine g_dup h dX12_passes_121 rfl ?_
        refine g_getI h flX12_537 rfl (by assumption) dX12_passes_122 ?_
        refine g_iconst h dX12_passes_125 ?_
        refine g_iadd h dX12_passes_126 ?_
        refine g_putI h flX12_537 rfl rfl (by assumption) dX12_passes_127 ?_
        refine g_aload_n h dX12_passes_130 rfl ?_
        refine g_getQ h flX12_62 rfl (by assumption) (by assumption) dX12_passes_131 ?_
        refine g_iload_n h dX12_passes_134 rfl ?_
        refine g_aload_n h dX12_passes_135 rfl ?_
        refine g_getI h flX12_265 rfl (by assumption) dX12_passes_136 ?_
        refine g_iast h _ (by assumption) rfl (by first | omega | assumption) (by first | decide | omega) dX12_passes_139 ?_
        refine g_aload_n h dX12_passes_140 rfl ?_
        refine g_getQ h flX12_59 rfl (by assumption) (by assumption) dX12_passes_141 ?_
        refine g_iload_n h dX12_passes_144 rfl ?_
        refine g_dup2 h dX12_passes_145 rfl rfl ?_
        refine g_iald h _ (by assumption) rfl (by first | omega | assumption) (by first | decide | omega) dX12_passes_146 ?_
        refine g_aload_n h dX12_passes_147 rfl ?_
        refine g_getI h flX12_265 rfl (by assumption) dX12_passes_148 ?_
        refine g_iadd h dX12_passes_151 ?_
        refine g_iast h _ (by assumption) rfl (by first | omega | assumption) (by first | decide | omega) dX12_passes_152 ?_
        refine g_vret h hQ (by first | decide | omega | (simp only [clS]; omega)) (by first | decide | omega | (simp only [clS]; omega)) ?_ dX12_passes_153
        refine ⟨rfl, ?_⟩
        unfold pzW pz4
        rw [if_pos (by omega)]
        rfl
      · refine g_vret h hQ (by first | decide | omega | (simp only [clS]; omega)) (by first | decide | omega | (simp only [clS]; omega)) ?_ dX12_passes_119
        refine ⟨rfl, ?_⟩
        unfold pzW pz4
        rw [if_neg (by omega)]
    · exfalso; omega
  have loop : ∀ (d p : Nat), p + d = np → GG Γ 46 [some (ar 400), some (ai (L : Int)), some (ai (mdB (pz1 w L np) L np)), some (ai (p : Int))] [] (psP (pz3 w L np) L p) 0 0 := by
    intro d
    induction d with
    | zero =>
      intro p hp
      obtain rfl : p = np := by omega
      exact tail none
    | succ d ih =>
      intro p hp
      have hMp : MS (psP (pz3 w L np) L p) := MS_of (psP_1 _ L p).1 (psP_1 _ L p).2 hM3
      have f := fun j a b c => psP_o (pz3 w L np) L (j := j) a b c p
      have f28 : (psP (pz3 w L np) L p).2.1 400 28 = (np : Int) := (congrFun (f 400 (by decide) (by decide) (by decide)) 28).trans e28
      have f29 : (psP (pz3 w L np) L p).2.1 429 p = w.2.1 429 p := (congrFun (f 429 (by decide) (by decide) (by decide)) p).trans (congrFun e29 p)
      have f25 : (psP (pz3 w L np) L p).2.1 425 p = (pz3 w L np).2.1 425 p := congrFun (f 425 (by decide) (by decide) (by decide)) p
      have f24 : (psP (pz3 w L np) L p).2.1 424 p = (pz3 w L np).2.1 424 p := congrFun (f 424 (by decide) (by decide) (by decide)) p
      have r25 := e25 p (by omega)
      obtain ⟨b1, b2, -⟩ := hpp p (by omega)
      have ih2 := ih (p + 1) (by omega)
      have hst : psP (pz3 w L np) L (p + 1) = if (pz3 w L np).2.1 429 p = (L : Int) then upI (upI (upI (psP (pz3 w L np) L p) 435 p ((pz3 w L np).2.1 425 p)) 433 p ((psP (pz3 w L np) L p).2.1 433 p + (pz3 w L np).2.1 424 p)) 416 L ((psP (pz3 w L np) L p).2.1 416 L + (pz3 w L np).2.1 424 p) else psP (pz3 w L np) L p := rfl
      rw [hst, e29] at ih2
      have f24b : (upI (psP (pz3 w L np) L p) 435 p ((pz3 w L np).2.1 425 p)).2.1 424 p = (pz3 w L np).2.1 424 p := f24
      have f24c : (upI (upI (psP (pz3 w L np) L p) 435 p ((pz3 w L np).2.1 425 p)) 433 p ((psP (pz3 w L np) L p).2.1 433 p + (pz3 w L np).2.1 424 p)).2.1 424 p = (pz3 w L np).2.1 424 p := f24
      have ts400 : (psP (pz3 w L np) L p).1 400 = (112, 0) := hMp.1 400 (by decide) (by decide)
      have ts415 : (psP (pz3 w L np) L p).1 415 = (1, 2) := hMp.1 415 (by decide) (by decide)
      have ts412 : (psP (pz3 w L np) L p).1 412 = (1, 2) := hMp.1 412 (by decide) (by decide)
      have ts417 : (psP (pz3 w L np) L p).1 417 = (1, 2) := hMp.1 417 (by decide) (by decide)
      have ts429 : (psP (pz3 w L np) L p).1 429 = (1, 6) := hMp.1 429 (by decide) (by decide)
      have ts435 : (psP (pz3 w L np) L p).1 435 = (3, 6) := hMp.1 435 (by decide) (by decide)
      have ts425 : (psP (pz3 w L np) L p).1 425 = (3, 6) := hMp.1 425 (by decide) (by decide)
      have ts433 : (psP (pz3 w L np) L p).1 433 = (1, 6) := hMp.1 433 (by decide) (by decide)
      have ts424 : (psP (pz3 w L np) L p).1 424 = (1, 6) := hMp.1 424 (by decide) (by decide)
      have ts416 : (psP (pz3 w L np) L p).1 416 = (1, 2) := hMp.1 416 (by decide) (by decide)
      have ts419 : (psP (pz3 w L np) L p).1 419 = (1, 2) := hMp.1 419 (by decide) (by decide)
      have ts418 : (psP (pz3 w L np) L p).1 418 = (1, 2) := hMp.1 418 (by decide) (by decide)
      have tp15 : (psP (pz3 w L np) L p).2.2 400 15 = some 415 := hMp.2 (400, 15, 415) (by decide)
      have tp12 : (psP (pz3 w L np) L p).2.2 400 12 = some 412 := hMp.2 (400, 12, 412) (by decide)
      have tp17 : (psP (pz3 w L np) L p).2.2 400 17 = some 417 := hMp.2 (400, 17, 417) (by decide)
      have tp29 : (psP (pz3 w L np) L p).2.2 400 29 = some 429 := hMp.2 (400, 29, 429) (by decide)
      have tp35 : (psP (pz3 w L np) L p).2.2 400 35 = some 435 := hMp.2 (400, 35, 435) (by decide)
      have tp25 : (psP (pz3 w L np) L p).2.2 400 25 = some 425 := hMp.2 (400, 25, 425) (by decide)
      have tp33 : (psP (pz3 w L np) L p).2.2 400 33 = some 433 := hMp.2 (400, 33, 433) (by decide)
      have tp24 : (psP (pz3 w L np) L p).2.2 400 24 = some 424 := hMp.2 (400, 24, 424) (by decide)
      have tp16 : (psP (pz3 w L np) L p).2.2 400 16 = some 416 := hMp.2 (400, 16, 416) (by decide)
      have tp19 : (psP (pz3 w L np) L p).2.2 400 19 = some 419 := hMp.2 (400, 19, 419) (by decide)
      have tp18 : (psP (pz3 w L np) L p).2.2 400 18 = some 418 := hMp.2 (400, 18, 418) (by decide)
      refine g_iload_n h dX12_passes_46 rfl ?_
      refine g_aload_n h dX12_passes_47 rfl ?_
      refine g_getI h flX12_246 rfl (by assumption) dX12_passes_48 ?_
      refine g_icmp_ge (tgt := 115) h dX12_passes_51 (by decide) (by first | assumption | exact ⟨by omega, by omega⟩) (by first | assumption | exact ⟨by omega, by omega⟩) (fun c51 => ?_) (fun c51 => ?_)
      · exfalso; omega
      · refine g_aload_n h dX12_passes_54 rfl ?_
        refine g_getQ h flX12_84 rfl (by assumption) (by assumption) dX12_passes_55 ?_
        refine g_iload_n h dX12_passes_58 rfl ?_
        refine g_iald h _ (by assumption) rfl (by first | omega | assumption) (by first | decide | omega) dX12_passes_59 ?_
        refine g_iload_n h dX12_passes_60 rfl ?_
        refine g_icmp_eq (tgt := 67) h dX12_passes_61 (by decide) (by first | assumption | exact ⟨by omega, by omega⟩) (by first | assumption | exact ⟨by omega, by omega⟩) (fun c61 => ?_) (fun c61 => ?_)
        · refine g_aload_n h dX12_passes_67 rfl ?_
          refine g_getQ h flX12_102 rfl (by assumption) (by assumption) dX12_passes_68 ?_
          refine g_iload_n h dX12_passes_71 rfl ?_
          refine g_aload_n h dX12_passes_72 rfl ?_
          refine g_getQ h flX12_80 rfl (by assumption) (by assumption) dX12_passes_73 ?_
          refine g_iload_n h dX12_passes_76 rfl ?_
          refine g_zald h _ (by assumption) rfl (by first | omega | assumption) (by first | decide | omega) dX12_passes_77 ?_
          rw [f25]
          refine g_zast h _ (by assumption) rfl (by first | omega | assumption) (by first | decide | omega) (by omega) dX12_passes_78 ?_
          refine g_aload_n h dX12_passes_79 rfl ?_
          refine g_getQ h flX12_96 rfl (by assumption) (by assumption) dX12_passes_80 ?_
          refine g_iload_n h dX12_passes_83 rfl ?_
          refine g_dup2 h dX12_passes_84 rfl rfl ?_
          refine g_iald h _ (by assumption) rfl (by first | omega | assumption) (by first | decide | omega) dX12_passes_85 ?_
          refine g_aload_n h dX12_passes_86 rfl ?_
          refine g_getQ h flX12_77 rfl (by assumption) (by assumption) dX12_passes_87 ?_
          refine g_iload_n h dX12_passes_90 rfl ?_
          refine g_iald h _ (by assumption) rfl (by first | omega | assumption) (by first | decide | omega) dX12_passes_91 ?_
          rw [f24b]
          change GG Γ 92 _ [ai ((pz3 w L np).2.1 424 p), ai ((psP (pz3 w L np) L p).2.1 433 p), _, _] _ _ _
          refine g_iadd h dX12_passes_92 ?_
          refine g_iast h _ (by assumption) rfl (by first | omega | assumption) (by first | decide | omega) dX12_passes_93 ?_
          refine g_aload_n h dX12_passes_94 rfl ?_
          refine g_getQ h flX12_53 rfl (by assumption) (by assumption) dX12_passes_95 ?_
          refine g_iload_n h dX12_passes_98 rfl ?_
          refine g_dup2 h dX12_passes_99 rfl rfl ?_
          refine g_iald h (L) (by assumption) (by first | omega | assumption) (by first | omega | assumption) (by first | decide | omega) dX12_passes_100 ?_
          refine g_aload_n h dX12_passes_101 rfl ?_
          refine g_getQ h flX12_77 rfl (by assumption) (by assumption) dX12_passes_102 ?_
          refine g_iload_n h dX12_passes_105 rfl ?_
          refine g_iald h _ (by assumption) rfl (by first | omega | assumption) (by first | decide | omega) dX12_passes_106 ?_
          rw [f24c]
          change GG Γ 107 _ [ai ((pz3 w L np).2.1 424 p), ai ((psP (pz3 w L np) L p).2.1 416 L), _, _] _ _ _
          refine g_iadd h dX12_passes_107 ?_
          refine g_iast h (L) (by assumption) (by first | omega | assumption) (by first | omega | assumption) (by first | decide | omega) dX12_passes_108 ?_
          refine g_iinc h dX12_passes_109 rfl (Nat.le_of_ble_eq_true rfl) rfl rfl ?_
          refine g_goto (tgt := 46) h dX12_passes_112 (by decide) ?_
          first
          | (rw [if_pos (by omega)] at ih2; exact ih2)
          | (rw [if_neg (by omega)] at ih2; exact ih2)
        · refine g_goto (tgt := 109) h dX12_passes_64 (by decide) ?_
          refine g_iinc h dX12_passes_109 rfl (Nat.le_of_ble_eq_true rfl) rfl rfl ?_
          refine g_goto (tgt := 46) h dX12_passes_112 (by decide) ?_
          first
          | (rw [if_pos (by omega)] at ih2; exact ih2)
          | (rw [if_neg (by omega)] at ih2; exact ih2)
  refine g_aload_n h dX12_passes_0 rfl ?_
  refine g_iload_n h dX12_passes_1 rfl ?_
  refine g_callV h rfl (ci := 12) [_] (by assumption) (c_X12_takes _ _ L np hM hL hP.1 hP.2.1 (fun p hp => (hP.2.2 p hp).2.2.2.2.2.2.2.2)) clX12_239 (by decide) rfl in_X12_takes se_X12_takes rfl rfl (by rw [hRm]; first | decide | (simp only [clS]; omega)) (by rw [hRm]; first | decide | (simp only [clS]; omega)) (fun _ => Nat.le_of_ble_eq_true rfl) (by rw [hRm]; first | decide | (simp only [clS]; omega)) (by rw [hRm]; first | decide | (simp only [clS]; omega)) dX12_passes_2 (fun r2 w2 hp2 => ?_)
  obtain ⟨rfl, hw2⟩ := hp2
  rw [hw2]
  refine g_aload_n h dX12_passes_5 rfl ?_
  refine g_getQ h flX12_50 rfl (by assumption) (by assumption) dX12_passes_6 ?_
  refine g_iload_n h dX12_passes_9 rfl ?_
  refine g_dup2 h dX12_passes_10 rfl rfl ?_
  refine g_iald h _ (by assumption) rfl (by first | omega | assumption) (by first | decide | omega) dX12_passes_11 ?_
  refine g_aload_n h dX12_passes_12 rfl ?_
  refine g_getQ h flX12_41 rfl (by assumption) (by assumption) dX12_passes_13 ?_
  refine g_iload_n h dX12_passes_16 rfl ?_
  refine g_iald h _ (by assumption) rfl (by first | omega | assumption) (by first | decide | omega) dX12_passes_17 ?_
  refine g_iadd h dX12_passes_18 ?_
  refine g_iast h _ (by assumption) rfl (by first | omega | assumption) (by first | decide | omega) dX12_passes_19 ?_
  refine g_aload_n h dX12_passes_20 rfl ?_
  refine g_iload_n h dX12_passes_21 rfl ?_
  refine g_eq (w' := pz1 w L np) rfl rfl rfl ?_
  have v400 : (pz1 w L np).1 400 = (112, 0) := s400
  refine g_callV h rfl (ci := 12) [_] (by assumption) (c_X12_aDay _ _ L np hM1 hN1 hL hQ1 hb1) clX12_268 (by decide) rfl in_X12_aDay se_X12_aDay rfl rfl (by rw [hRm]; first | decide | (simp only [clS]; omega)) (by rw [hRm]; first | decide | (simp only [clS]; omega)) (fun _ => Nat.le_of_ble_eq_true rfl) (by rw [hRm]; first | decide | (simp only [clS]; omega)) (by rw [hRm]; first | decide | (simp only [clS]; omega)) dX12_passes_22 (fun r22 w22 hp22 => ?_)
  obtain ⟨rfl, hw22⟩ := hp22
  rw [hw22]
  change GG Γ _ _ [ai (mdB (pz1 w L np) L np)] (mdW (pz1 w L np) L np) _ _
  have v401 : (mdW (pz1 w L np) L np).1 400 = (112, 0) := hM2.1 400 (by decide) (by decide)
  refine g_istore_n h dX12_passes_25 (Nat.le_of_ble_eq_true rfl) rfl rfl ?_
  refine g_aload_n h dX12_passes_26 rfl ?_
  refine g_iload_n h dX12_passes_27 rfl ?_
  refine g_callV h rfl (ci := 12) [_] (by assumption) (c_X12_lays _ _ L hM2 hL) clX12_292 (by decide) rfl in_X12_lays se_X12_lays rfl rfl (by rw [hRm]; first | decide | (simp only [clS]; omega)) (by rw [hRm]; first | decide | (simp only [clS]; omega)) (fun _ => Nat.le_of_ble_eq_true rfl) (by rw [hRm]; first | decide | (simp only [clS]; omega)) (by rw [hRm]; first | decide | (simp only [clS]; omega)) dX12_passes_28 (fun r28 w28 hp28 => ?_)
  obtain ⟨rfl, hw28⟩ := hp28
  rw [hw28]
  change GG Γ _ _ _ (pz2 w L np) _ _
  have v402 : (pz2 w L np).1 400 = (112, 0) := v401
  have v417 : (pz2 w L np).1 417 = (1, 2) := hM2.1 417 (by decide) (by decide)
  have vp17 : (pz2 w L np).2.2 400 17 = some 417 := hM2.2 (400, 17, 417) (by decide)
  refine g_aload_n h dX12_passes_31 rfl ?_
  refine g_getQ h flX12_56 rfl (by assumption) (by assumption) dX12_passes_32 ?_
  refine g_iload_n h dX12_passes_35 rfl ?_
  refine g_dup2 h dX12_passes_36 rfl rfl ?_
  refine g_iald h _ (by assumption) rfl (by first | omega | assumption) (by first | decide | omega) dX12_passes_37 ?_
  refine g_aload_n h dX12_passes_38 rfl ?_
  refine g_getI h flX12_259 rfl (by assumption) dX12_passes_39 ?_
  refine g_iadd h dX12_passes_42 ?_
  refine g_iast h _ (by assumption) rfl (by first | omega | assumption) (by first | decide | omega) dX12_passes_43 ?_
  refine g_iconst h dX12_passes_44 ?_
  refine g_istore_n h dX12_passes_45 (Nat.le_of_ble_eq_true rfl) rfl rfl ?_
  exact loop np 0 (by omega)
def paM (w : AW) (np : Nat) : Nat → AW
  | 0 => w
  | d + 1 => upI (pzW (pzW (paM w np d) 0 np) 1 np) 400 4 ((paM w np d).2.1 400 4 + 1)
theorem paM_ok {w : AW} {np : Nat} (hM : MS w) (hG : MG w) (hN : MN w) (hP : MPI w np) : ∀ d, MS (paM w np d) ∧ MG (paM w np d) ∧ MN (paM w np d) ∧ MPI (paM w np d) np
  | 0 => ⟨hM, hG, hN, hP⟩
  | d + 1 => by
    obtain ⟨a, b, c, e⟩ := paM_ok hM hG hN hP d
    obtain ⟨b1, c1, e1⟩ := pzW_ok (L := 0) (by decide) b c e
    obtain ⟨b2, c2, e2⟩ := pzW_ok (L := 1) (by decide) b1 c1 e1
    have h1 := pzW_1 (paM w np d) 0 np
    have h2 := pzW_1 (pzW (paM w np d) 0 np) 1 np
    exact ⟨MS_of (h2.1.trans h1.1) (h2.2.trans h1.2) a, b2, c2, e2⟩
theorem paM_4 (w : AW) (np : Nat) : ∀ d, (paM w np d).2.1 400 4 = w.2.1 400 4 + (d : Int)
  | 0 => (Int.add_zero _).symm
  | d + 1 => by
    show (paM w np d).2.1 400 4 + 1 = _
    rw [paM_4 w np d]
    omega
set_option maxRecDepth 100000 in
set_option maxHeartbeats 4000000 in
theorem c_X12_pass (l : Launch) (w : AW) (np : Nat) (a : Int) (hM : MS w) (hG : MG w) (hN : MN w) (hP : MPI w np) (hd : 0 ≤ w.2.1 400 4 ∧ w.2.1 400 4 ≤ 2999) (ha : R32 a) : HT l yX12_pass cX12_pass 5 (some .int) 6 0 0 w [ar 400, ai a] (fun r w' => r = some (ai (if (1 ≤ a ∧ a ≤ 60) ∧ w.2.1 400 4 + a < 3000 then (paM (th w) np a.toNat).2.1 400 5 - w.2.1 400 5 else -1)) ∧ w' = (if (1 ≤ a ∧ a ≤ 60) ∧ w.2.1 400 4 + a < 3000 then tM (upI (paM (th w) np a.toNat) 400 6 (-2)) 0 else tM (th w) 2)) := by
  refine HT.of (by decide) (by intro v hv; simp only [List.mem_cons, List.not_mem_nil, or_false] at hv; rcases hv with rfl | rfl <;> rfl) (Nat.le_of_ble_eq_true rfl) ?_
  intro Γ h hQ hRm hnm hl hw0
  have s400 : w.1 400 = (112, 0) := hM.1 400 (by decide) (by decide)
  have e4 : (upI w 400 0 0).2.1 400 4 = w.2.1 400 4 := rfl
  by_cases hc : (1 ≤ a ∧ a ≤ 60) ∧ w.2.1 400 4 + a < 3000
  · obtain ⟨D, rfl⟩ : ∃ D : Nat, a = (D : Int) := ⟨a.toNat, by omega⟩
    rw [Int.toNat_natCast] at hQ
    have one : ∀ (i L : Nat) (u : AW), L < 2 → MS u → MG u → MN u → MPI u np → GG Γ 48 [some (ar 400), some (ai (D : Int)), some (ai (w.2.1 400 5)), some (ai (i : Int)), some (ai ((L : Int) + 1))] [] (pzW u L np) 0 0 → GG Γ 48 [some (ar 400), some (ai (D : Int)), some (ai (w.2.1 400 5)), some (ai (i : Int)), some (ai (L : Int))] [] u 0 0 := by
      intro i L u hL2 hMu hGu hNu hPu kk
      have t400 : u.1 400 = (112, 0) := hMu.1 400 (by decide) (by decide)
      refine g_iload h dX12_pass_48 rfl ?_
      refine g_iconst h dX12_pass_50 ?_
      refine g_icmp_ge (tgt := 66) h dX12_pass_51 (by decide) (by first | assumption | exact ⟨by omega, by omega⟩) (by first | assumption | exact ⟨by omega, by omega⟩) (fun c51 => ?_) (fun c51 => ?_)
      · exfalso; omega
      · refine g_aload_n h dX12_pass_54 rfl ?_
        refine g_iload h dX12_pass_55 rfl ?_
        refine g_callV h rfl (ci := 12) [_] (by assumption) (c_X12_passes _ _ np L hMu hGu hNu hPu hL2) clX12_540 (by decide) rfl in_X12_passes se_X12_passes rfl rfl (by rw [hRm]; first | decide | (simp only [clS]; omega)) (by rw [hRm]; first | decide | (simp only [clS]; omega)) (fun _ => Nat.le_of_ble_eq_true rfl) (by rw [hRm]; first | decide | (simp only [clS]; omega)) (by rw [hRm]; first | decide | (simp only [clS]; omega)) dX12_pass_57 (fun r57 w57 hp57 => ?_)
        obtain ⟨rfl, hw57⟩ := hp57
        rw [hw57]
        refine g_iinc h dX12_pass_60 rfl (Nat.le_of_ble_eq_true rfl) rfl rfl ?_
        refine g_goto (tgt := 48) h dX12_pass_63 (by decide) ?_
        exact kk
    have two : ∀ (i : Nat) (u : AW) (z : Int), MS u → u.2.1 400 4 = z → GG Γ 40 [some (ar 400), some (ai (D : Int)), some (ai (w.2.1 400 5)), some (ai ((i : Int) + 1)), some (ai 2)] [] (upI u 400 4 (z + 1)) 0 0 → GG Γ 48 [some (ar 400), some (ai (D : Int)), some (ai (w.2.1 400 5)), some (ai (i : Int)), some (ai (((1 : Nat) : Int) + 1))] [] u 0 0 := by
      intro i u z hMu hz kk
      have t400 : u.1 400 = (112, 0) := hMu.1 400 (by decide) (by decide)
      refine g_iload h dX12_pass_48 rfl ?_
      refine g_iconst h dX12_pass_50 ?_
      refine g_icmp_ge (tgt := 66) h dX12_pass_51 (by decide) (by first | assumption | exact ⟨by omega, by omega⟩) (by first | assumption | exact ⟨by omega, by omega⟩) (fun c51 => ?_) (fun c51 => ?_)
      · refine g_aload_n h dX12_pass_66 rfl ?_
        refine g_dup h dX12_pass_67 rfl ?_
        refine g_getI h flX12_223 rfl (by assumption) dX12_pass_68 ?_
        rw [hz]
        refine g_iconst h dX12_pass_71 ?_
        refine g_iadd h dX12_pass_72 ?_
        refine g_putI h flX12_223 rfl rfl (by assumption) dX12_pass_73 ?_
        refine g_iinc h dX12_pass_76 rfl (Nat.le_of_ble_eq_true rfl) rfl rfl ?_
        refine g_goto (tgt := 40) h dX12_pass_79 (by decide) ?_
        exact kk
      · exfalso; omega
    have loop : ∀ (d i : Nat) (x : Option AV), i + d = D → GG Γ 40 [some (ar 400), some (ai (D : Int)), some (ai (w.2.1 400 5)), some (ai (i : Int)), x] [] (paM (th w) np i) 0 0 := by
      intro d
      induction d with
      | zero =>
        intro i x hi
        obtain rfl : i = D := by omega
        obtain ⟨hMi, -⟩ := paM_ok (w := th w) (np := np) (MS_th hM) hG hN hP i
        have t400 : (paM (th w) np i).1 400 = (112, 0) := hMi.1 400 (by decide) (by decide)
        refine g_iload_n h dX12_pass_40 rfl ?_
        refine g_iload_n h dX12_pass_41 rfl ?_
        refine g_icmp_ge (tgt := 82) h dX12_pass_42 (by decide) (by first | assumption | exact ⟨by omega, by omega⟩) (by first | assumption | exact ⟨by omega, by omega⟩) (fun c42 => ?_) (fun c42 => ?_)
        · refine g_aload_n h dX12_pass_82 rfl ?_
          refine g_bipush h dX12_pass_83 rfl ?_
          refine g_putI h flX12_22 rfl rfl (by assumption) dX12_pass_85 ?_
          refine g_aload_n h dX12_pass_88 rfl ?_
          refine g_aload_n h dX12_pass_89 rfl ?_
          refine g_getI h flX12_537 rfl (by assumption) dX12_pass_90 ?_
          refine g_iload_n h dX12_pass_93 rfl ?_
          refine g_isub h dX12_pass_94 ?_
          refine g_callV h rfl (ci := 12) [_] (by assumption) (c_X12_done _ _ _ (MS_of rfl rfl hMi)) clX12_277 (by decide) rfl in_X12_done se_X12_done rfl rfl (by rw [hRm]; first | decide | (simp only [clS]; omega)) (by rw [hRm]; first | decide | (simp only [clS]; omega)) (fun _ => Nat.le_of_ble_eq_true rfl) (by rw [hRm]; first | decide | (simp only [clS]; omega)) (by rw [hRm]; first | decide | (simp only [clS]; omega)) dX12_pass_95 (fun r95 w95 hp95 => ?_)
          obtain ⟨rfl, hw95⟩ := hp95
          rw [hw95]
          refine g_iret h hQ (by first | decide | omega | (simp only [clS]; omega)) (by first | decide | omega | (simp only [clS]; omega)) ?_ dX12_pass_98
          exact ⟨by rw [if_pos hc]; rfl, by rw [if_pos hc]⟩
        · exfalso; omega
      | succ d ih =>
        intro i x hi
        obtain ⟨hMi, hGi, hNi, hPi⟩ := paM_ok (w := th w) (np := np) (MS_th hM) hG hN hP i
        obtain ⟨hG1, hN1, hP1⟩ := pzW_ok (L := 0) (by decide) hGi hNi hPi
        have h1 := pzW_1 (paM (th w) np i) 0 np
        have h2 := pzW_1 (pzW (paM (th w) np i) 0 np) 1 np
        have hM1 : MS (pzW (paM (th w) np i) 0 np) := MS_of h1.1 h1.2 hMi
        have hM2 : MS (pzW (pzW (paM (th w) np i) 0 np) 1 np) := MS_of h2.1 h2.2 hM1
        have e44 : (pzW (pzW (paM (th w) np i) 0 np) 1 np).2.1 400 4 = (paM (th w) np i).2.1 400 4 := (pzW_28 _ 1 np 4 (by decide) (by decide) (by decide)).trans (pzW_28 _ 0 np 4 (by decide) (by decide) (by decide))
        have ih2 : GG Γ 40 [some (ar 400), some (ai (D : Int)), some (ai (w.2.1 400 5)), some (ai ((i : Int) + 1)), some (ai 2)] [] (upI (pzW (pzW (paM (th w) np i) 0 np) 1 np) 400 4 ((paM (th w) np i).2.1 400 4 + 1)) 0 0 := ih (i + 1) _ (by omega)
        have l0 := one i 0 _ (by decide) hMi hGi hNi hPi (one i 1 _ (by decide) hM1 hG1 hN1 hP1 (two i _ _ hM2 e44 ih2))
        have t400 : (paM (th w) np i).1 400 = (112, 0) := hMi.1 400 (by decide) (by decide)
        clear ih2
        refine g_iload_n h dX12_pass_40 rfl ?_
        refine g_iload_n h dX12_pass_41 rfl ?_
        refine g_icmp_ge (tgt := 82) h dX12_pass_42 (by decide) (by first | assumption | exact ⟨by omega, by omega⟩) (by first | assumption | exact ⟨by omega, by omega⟩) (fun c42 => ?_) (fun c42 => ?_)
        · exfalso; omega
        · refine g_iconst h dX12_pass_45 ?_
          refine g_istore h dX12_pass_46 (Nat.le_of_ble_eq_true rfl) rfl rfl ?_
          exact l0
    refine g_aload_n h dX12_pass_0 rfl ?_
    refine g_iconst h dX12_pass_1 ?_
    refine g_putI h flX12_1 rfl rfl (by assumption) dX12_pass_2 ?_
    refine g_iload_n h dX12_pass_5 rfl ?_
    refine g_iconst h dX12_pass_6 ?_
    refine g_bipush h dX12_pass_7 rfl ?_
    refine g_callS h rfl [_, _, _] (c_X12_in _ _ _ _ _ ha ⟨by omega, by omega⟩ ⟨by omega, by omega⟩) clX12_211 st_X12_in rfl rfl (by rw [hRm]; first | decide | (simp only [clS]; omega)) (by rw [hRm]; first | decide | (simp only [clS]; omega)) (fun _ => Nat.le_of_ble_eq_true rfl) (by rw [hRm]; first | decide | (simp only [clS]; omega)) (by rw [hRm]; first | decide | (simp only [clS]; omega)) dX12_pass_9 (fun r9 w9 hp9 => ?_)
    obtain ⟨rfl, hw9⟩ := hp9
    rw [hw9]
    have hbw9 := ite01 ((1 : Int) ≤ (D : Int) ∧ (D : Int) ≤ 60)
    refine g_if_eq (tgt := 27) h dX12_pass_12 (by decide) (by first | assumption | exact ⟨by omega, by omega⟩) (fun c12 => ?_) (fun c12 => ?_)
    · exfalso; omega
    · refine g_aload_n h dX12_pass_15 rfl ?_
      refine g_getI h flX12_223 rfl (by assumption) dX12_pass_16 ?_
      rw [e4]
      refine g_iload_n h dX12_pass_19 rfl ?_
      refine g_iadd h dX12_pass_20 ?_
      refine g_sipush h dX12_pass_21 rfl ?_
      refine g_icmp_lt (tgt := 33) h dX12_pass_24 (by decide) (by first | assumption | exact ⟨by omega, by omega⟩) (by first | assumption | exact ⟨by omega, by omega⟩) (fun c24 => ?_) (fun c24 => ?_)
      · refine g_aload_n h dX12_pass_33 rfl ?_
        refine g_getI h flX12_537 rfl (by assumption) dX12_pass_34 ?_
        refine g_istore_n h dX12_pass_37 (Nat.le_of_ble_eq_true rfl) rfl rfl ?_
        refine g_iconst h dX12_pass_38 ?_
        refine g_istore_n h dX12_pass_39 (Nat.le_of_ble_eq_true rfl) rfl rfl ?_
        exact loop D 0 none (by omega)
      · exfalso; omega
  · skip
    refine g_aload_n h dX12_pass_0 rfl ?_
    refine g_iconst h dX12_pass_1 ?_
    refine g_putI h flX12_1 rfl rfl (by assumption) dX12_pass_2 ?_
    refine g_iload_n h dX12_pass_5 rfl ?_
    refine g_iconst h dX12_pass_6 ?_
    refine g_bipush h dX12_pass_7 rfl ?_
    refine g_callS h rfl [_, _, _] (c_X12_in _ _ _ _ _ ha ⟨by omega, by omega⟩ ⟨by omega, by omega⟩) clX12_211 st_X12_in rfl rfl (by rw [hRm]; first | decide | (simp only [clS]; omega)) (by rw [hRm]; first | decide | (simp only [clS]; omega)) (fun _ => Nat.le_of_ble_eq_true rfl) (by rw [hRm]; first | decide | (simp only [clS]; omega)) (by rw [hRm]; first | decide | (simp only [clS]; omega)) dX12_pass_9 (fun r9 w9 hp9 => ?_)
    obtain ⟨rfl, hw9⟩ := hp9
    rw [hw9]
    have hbw9 := ite01 ((1 : Int) ≤ a ∧ a ≤ 60)
    refine g_if_eq (tgt := 27) h dX12_pass_12 (by decide) (by first | assumption | exact ⟨by omega, by omega⟩) (fun c12 => ?_) (fun c12 => ?_)
    · refine g_aload_n h dX12_pass_27 rfl ?_
      refine g_iconst h dX12_pass_28 ?_
      refine g_callV h rfl (ci := 12) [_] (by assumption) (c_X12_refused _ _ _ (MS_of rfl rfl hM)) clX12_274 (by decide) rfl in_X12_refused se_X12_refused rfl rfl (by rw [hRm]; first | decide | (simp only [clS]; omega)) (by rw [hRm]; first | decide | (simp only [clS]; omega)) (fun _ => Nat.le_of_ble_eq_true rfl) (by rw [hRm]; first | decide | (simp only [clS]; omega)) (by rw [hRm]; first | decide | (simp only [clS]; omega)) dX12_pass_29 (fun r29 w29 hp29 => ?_)
      obtain ⟨rfl, hw29⟩ := hp29
      rw [hw29]
      refine g_iret h hQ (by first | decide | omega | (simp only [clS]; omega)) (by first | decide | omega | (simp only [clS]; omega)) ?_ dX12_pass_32
      exact ⟨by rw [if_neg hc], by rw [if_neg hc]; rfl⟩
    · refine g_aload_n h dX12_pass_15 rfl ?_
      refine g_getI h flX12_223 rfl (by assumption) dX12_pass_16 ?_
      rw [e4]
      refine g_iload_n h dX12_pass_19 rfl ?_
      refine g_iadd h dX12_pass_20 ?_
      refine g_sipush h dX12_pass_21 rfl ?_
      refine g_icmp_lt (tgt := 33) h dX12_pass_24 (by decide) (by first | assumption | exact ⟨by omega, by omega⟩) (by first | assumption | exact ⟨by omega, by omega⟩) (fun c24 => ?_) (fun c24 => ?_)
      · exfalso; omega
      · refine g_aload_n h dX12_pass_27 rfl ?_
        refine g_iconst h dX12_pass_28 ?_
        refine g_callV h rfl (ci := 12) [_] (by assumption) (c_X12_refused _ _ _ (MS_of rfl rfl hM)) clX12_274 (by decide) rfl in_X12_refused se_X12_refused rfl rfl (by rw [hRm]; first | decide | (simp only [clS]; omega)) (by rw [hRm]; first | decide | (simp only [clS]; omega)) (fun _ => Nat.le_of_ble_eq_true rfl) (by rw [hRm]; first | decide | (simp only [clS]; omega)) (by rw [hRm]; first | decide | (simp only [clS]; omega)) dX12_pass_29 (fun r29 w29 hp29 => ?_)
        obtain ⟨rfl, hw29⟩ := hp29
        rw [hw29]
        refine g_iret h hQ (by first | decide | omega | (simp only [clS]; omega)) (by first | decide | omega | (simp only [clS]; omega)) ?_ dX12_pass_32
        exact ⟨by rw [if_neg hc], by rw [if_neg hc]; rfl⟩
set_option maxRecDepth 100000 in
set_option maxHeartbeats 4000000 in
theorem c_X12_planned (l : Launch) (w : AW) (i : Int) (hM : MS w) (hi : R32 i) (hp : 0 ≤ w.2.1 400 40 ∧ w.2.1 400 40 ≤ 3) : HT l yX12_planned cX12_planned 2 (some .int) 1 0 0 w [ar 400, ai i] (fun r w' => r = some (ai (if 0 ≤ i ∧ i < w.2.1 400 40 then w.2.1 441 i.toNat else 0)) ∧ w' = (upI w 400 0 (if 0 ≤ i ∧ i < w.2.1 400 40 then 0 else 1))) := by
  refine HT.of (by decide) (by intro v hv; simp only [List.mem_cons, List.not_mem_nil, or_false] at hv; rcases hv with rfl | rfl <;> rfl) (Nat.le_of_ble_eq_true rfl) ?_
  intro Γ h hQ hRm hnm hl hw0
  have s400 : w.1 400 = (112, 0) := hM.1 400 (by decide) (by decide)
  have s441 : w.1 441 = (1, 3) := hM.1 441 (by decide) (by decide)
  have p41 : w.2.2 400 41 = some 441 := hM.2 (400, 41, 441) (by decide)
  refine g_aload_n h dX12_planned_0 rfl ?_
  refine g_iload_n h dX12_planned_1 rfl ?_
  refine g_if_lt (tgt := 13) h dX12_planned_2 (by decide) (by first | assumption | exact ⟨by omega, by omega⟩) (fun c2 => ?_) (fun c2 => ?_)
  · refine g_iconst h dX12_planned_13 ?_
    refine g_goto (tgt := 18) h dX12_planned_14 (by decide) ?_
    refine g_putI h flX12_1 rfl rfl (by assumption) dX12_planned_18 ?_
    refine g_aload_n h dX12_planned_21 rfl ?_
    refine g_getI h flX12_1 rfl (by assumption) dX12_planned_22 ?_
    rw [upI_self]
    refine g_if_le (tgt := 32) h dX12_planned_25 (by decide) (by first | assumption | exact ⟨by omega, by omega⟩) (fun c25 => ?_) (fun c25 => ?_)
    · refine g_aload_n h dX12_planned_32 rfl ?_
      refine g_getQ h flX12_114 rfl (by assumption) (by assumption) dX12_planned_33 ?_
      refine g_iload_n h dX12_planned_36 rfl ?_
      refine g_iald h (i.toNat) (by assumption) (by first | omega | assumption) (by first | omega | assumption) (by first | decide | omega) dX12_planned_37 ?_
      refine g_iret h hQ (by first | decide | omega | (simp only [clS]; omega)) (by first | decide | omega | (simp only [clS]; omega)) ?_ dX12_planned_38
      first
      | (exfalso; omega)
      | (refine ⟨?_, ?_⟩ <;> (repeat first | rw [if_pos (by omega)] | rw [if_neg (by omega)]) <;> rfl)
    · refine g_iconst h dX12_planned_28 ?_
      refine g_goto (tgt := 38) h dX12_planned_29 (by decide) ?_
      refine g_iret h hQ (by first | decide | omega | (simp only [clS]; omega)) (by first | decide | omega | (simp only [clS]; omega)) ?_ dX12_planned_38
      first
      | (exfalso; omega)
      | (refine ⟨?_, ?_⟩ <;> (repeat first | rw [if_pos (by omega)] | rw [if_neg (by omega)]) <;> rfl)
  · refine g_iload_n h dX12_planned_5 rfl ?_
    refine g_aload_n h dX12_planned_6 rfl ?_
    refine g_getI h flX12_309 rfl (by assumption) dX12_planned_7 ?_
    refine g_icmp_lt (tgt := 17) h dX12_planned_10 (by decide) (by first | assumption | exact ⟨by omega, by omega⟩) (by first | assumption | exact ⟨by omega, by omega⟩) (fun c10 => ?_) (fun c10 => ?_)
    · refine g_iconst h dX12_planned_17 ?_
      refine g_putI h flX12_1 rfl rfl (by assumption) dX12_planned_18 ?_
      refine g_aload_n h dX12_planned_21 rfl ?_
      refine g_getI h flX12_1 rfl (by assumption) dX12_planned_22 ?_
      rw [upI_self]
      refine g_if_le (tgt := 32) h dX12_planned_25 (by decide) (by first | assumption | exact ⟨by omega, by omega⟩) (fun c25 => ?_) (fun c25 => ?_)
      · refine g_aload_n h dX12_planned_32 rfl ?_
        refine g_getQ h flX12_114 rfl (by assumption) (by assumption) dX12_planned_33 ?_
        refine g_iload_n h dX12_planned_36 rfl ?_
        refine g_iald h (i.toNat) (by assumption) (by first | omega | assumption) (by first | omega | assumption) (by first | decide | omega) dX12_planned_37 ?_
        refine g_iret h hQ (by first | decide | omega | (simp only [clS]; omega)) (by first | decide | omega | (simp only [clS]; omega)) ?_ dX12_planned_38
        first
        | (exfalso; omega)
        | (refine ⟨?_, ?_⟩ <;> (repeat first | rw [if_pos (by omega)] | rw [if_neg (by omega)]) <;> rfl)
      · refine g_iconst h dX12_planned_28 ?_
        refine g_goto (tgt := 38) h dX12_planned_29 (by decide) ?_
        refine g_iret h hQ (by first | decide | omega | (simp only [clS]; omega)) (by first | decide | omega | (simp only [clS]; omega)) ?_ dX12_planned_38
        first
        | (exfalso; omega)
        | (refine ⟨?_, ?_⟩ <;> (repeat first | rw [if_pos (by omega)] | rw [if_neg (by omega)]) <;> rfl)
    · refine g_iconst h dX12_planned_13 ?_
      refine g_goto (tgt := 18) h dX12_planned_14 (by decide) ?_
      refine g_putI h flX12_1 rfl rfl (by assumption) dX12_planned_18 ?_
      refine g_aload_n h dX12_planned_21 rfl ?_
      refine g_getI h flX12_1 rfl (by assumption) dX12_planned_22 ?_
      rw [upI_self]
      refine g_if_le (tgt := 32) h dX12_planned_25 (by decide) (by first | assumption | exact ⟨by omega, by omega⟩) (fun c25 => ?_) (fun c25 => ?_)
      · refine g_aload_n h dX12_planned_32 rfl ?_
        refine g_getQ h flX12_114 rfl (by assumption) (by assumption) dX12_planned_33 ?_
        refine g_iload_n h dX12_planned_36 rfl ?_
        refine g_iald h (i.toNat) (by assumption) (by first | omega | assumption) (by first | omega | assumption) (by first | decide | omega) dX12_planned_37 ?_
        refine g_iret h hQ (by first | decide | omega | (simp only [clS]; omega)) (by first | decide | omega | (simp only [clS]; omega)) ?_ dX12_planned_38
        first
        | (exfalso; omega)
        | (refine ⟨?_, ?_⟩ <;> (repeat first | rw [if_pos (by omega)] | rw [if_neg (by omega)]) <;> rfl)
      · refine g_iconst h dX12_planned_28 ?_
        refine g_goto (tgt := 38) h dX12_planned_29 (by decide) ?_
        refine g_iret h hQ (by first | decide | omega | (simp only [clS]; omega)) (by first | decide | omega | (simp only [clS]; omega)) ?_ dX12_planned_38
        first
        | (exfalso; omega)
        | (refine ⟨?_, ?_⟩ <;> (repeat first | rw [if_pos (by omega)] | rw [if_neg (by omega)]) <;> rfl)
def vcM (w : AW) : Nat → Int
  | 0 => 0
  | v + 1 => vcM w v + (if w.2.1 477 v = 0 then 0 else 1)
def cnM (w : AW) (nv : Nat) (a : Int) : Int := if a = 0 then w.2.1 400 28 else if a = 1 then w.2.1 400 42 else if a = 2 then w.2.1 400 58 else if a = 3 then w.2.1 400 59 else if a = 4 then w.2.1 400 69 else if a = 5 then vcM w nv else if a = 6 then w.2.1 400 4 else if a = 7 then w.2.1 400 5 else if a = 8 then w.2.1 400 6 else if a = 9 then w.2.1 400 47 else -1
set_option maxRecDepth 100000 in
set_option maxHeartbeats 4000000 in
theorem c_X12_count (l : Launch) (w : AW) (nv : Nat) (a : Int) (hM : MS w) (hV : MVI w nv) (ha : R32 a) : HT l yX12_count cX12_count 4 (some .int) 1 0 0 w [ar 400, ai a] (fun r w' => r = some (ai (cnM w nv a)) ∧ w' = (th w)) := by
  refine HT.of (by decide) (by intro v hv; simp only [List.mem_cons, List.not_mem_nil, or_false] at hv; rcases hv with rfl | rfl <;> rfl) (Nat.le_of_ble_eq_true rfl) ?_
  intro Γ h hQ hRm hnm hl hw0
  have s400 : w.1 400 = (112, 0) := hM.1 400 (by decide) (by decide)
  have s477 : w.1 477 = (3, 20) := hM.1 477 (by decide) (by decide)
  have p77 : w.2.2 400 77 = some 477 := hM.2 (400, 77, 477) (by decide)
  obtain ⟨hnv, hnv2, hvv⟩ := id hV
  have e69 : (th w).2.1 400 69 = (nv : Int) := hnv
  have loop : a = 5 → ∀ (d v : Nat), v + d = nv → GG Γ 89 [some (ar 400), some (ai a), some (ai (vcM w v)), some (ai (v : Int))] [] (th w) 0 0 := by
    intro ha5 d
    induction d with
    | zero =>
      intro v hv
      obtain rfl : v = nv := by omega
      refine g_iload_n h dX12_count_89 rfl ?_
      refine g_aload_n h dX12_count_90 rfl ?_
      refine g_getI h flX12_528 rfl (by assumption) dX12_count_91 ?_
      refine g_icmp_ge (tgt := 120) h dX12_count_94 (by decide) (by first | assumption | exact ⟨by omega, by omega⟩) (by first | assumption | exact ⟨by omega, by omega⟩) (fun c94 => ?_) (fun c94 => ?_)
      · refine g_iload_n h dX12_count_120 rfl ?_
        refine g_iret h hQ (by first | decide | omega | (simp only [clS]; omega)) (by first | decide | omega | (simp only [clS]; omega)) ?_ dX12_count_121
        refine ⟨?_, rfl⟩
        unfold cnM
        rw [ha5]
        rfl
      · exfalso; omega
    | succ d ih =>
      intro v hv
      have hv2 := (hvv v (by omega)).2.2.2.2
      have e477 : (th w).2.1 477 v = w.2.1 477 v := rfl
      have hst : vcM w (v + 1) = vcM w v + (if w.2.1 477 v = 0 then 0 else 1) := rfl
      have ih2 := ih (v + 1) (by omega)
      rw [hst] at ih2
      refine g_iload_n h dX12_count_89 rfl ?_
      refine g_aload_n h dX12_count_90 rfl ?_
      refine g_getI h flX12_528 rfl (by assumption) dX12_count_91 ?_
      refine g_icmp_ge (tgt := 120) h dX12_count_94 (by decide) (by first | assumption | exact ⟨by omega, by omega⟩) (by first | assumption | exact ⟨by omega, by omega⟩) (fun c94 => ?_) (fun c94 => ?_)
      · exfalso; omega
      · refine g_iload_n h dX12_count_97 rfl ?_
        refine g_aload_n h dX12_count_98 rfl ?_
        refine g_getQ h flX12_179 rfl (by assumption) (by assumption) dX12_count_99 ?_
        refine g_iload_n h dX12_count_102 rfl ?_
        refine g_zald h _ (by assumption) rfl (by first | omega | assumption) (by first | decide | omega) dX12_count_103 ?_
        rw [e477]
        refine g_if_eq (tgt := 111) h dX12_count_104 (by decide) (by first | assumption | exact ⟨by omega, by omega⟩) (fun c104 => ?_) (fun c104 => ?_)
        · refine g_iconst h dX12_count_111 ?_
          refine g_iadd h dX12_count_112 ?_
          refine g_istore_n h dX12_count_113 (Nat.le_of_ble_eq_true rfl) rfl rfl ?_
          refine g_iinc h dX12_count_114 rfl (Nat.le_of_ble_eq_true rfl) rfl rfl ?_
          refine g_goto (tgt := 89) h dX12_count_117 (by decide) ?_
          first
          | (rw [if_pos (by omega)] at ih2; exact ih2)
          | (rw [if_neg (by omega)] at ih2; exact ih2)
        · refine g_iconst h dX12_count_107 ?_
          refine g_goto (tgt := 112) h dX12_count_108 (by decide) ?_
          refine g_iadd h dX12_count_112 ?_
          refine g_istore_n h dX12_count_113 (Nat.le_of_ble_eq_true rfl) rfl rfl ?_
          refine g_iinc h dX12_count_114 rfl (Nat.le_of_ble_eq_true rfl) rfl rfl ?_
          refine g_goto (tgt := 89) h dX12_count_117 (by decide) ?_
          first
          | (rw [if_pos (by omega)] at ih2; exact ih2)
          | (rw [if_neg (by omega)] at ih2; exact ih2)
  refine g_aload_n h dX12_count_0 rfl ?_
  refine g_iconst h dX12_count_1 ?_
  refine g_putI h flX12_1 rfl rfl (by assumption) dX12_count_2 ?_
  refine g_iload_n h dX12_count_5 rfl ?_
  rcases (show a = 0 ∨ a = 1 ∨ a = 2 ∨ a = 3 ∨ a = 4 ∨ a = 5 ∨ a = 6 ∨ a = 7 ∨ a = 8 ∨ a = 9 ∨ (a < 0 ∨ 9 < a) by omega) with c6 | c6 | c6 | c6 | c6 | c6 | c6 | c6 | c6 | c6 | c6
  · refine g_tswI (tgt := 60) h 0 (by first | assumption | exact ⟨by omega, by omega⟩) (by first | omega | assumption) (by first | omega | assumption) rfl (by decide) dX12_count_6 ?_
    refine g_aload_n h dX12_count_60 rfl ?_
    refine g_getI h flX12_246 rfl (by assumption) dX12_count_61 ?_
    refine g_iret h hQ (by first | decide | omega | (simp only [clS]; omega)) (by first | decide | omega | (simp only [clS]; omega)) ?_ dX12_count_64
    first
    | (exfalso; omega)
    | (refine ⟨?_, rfl⟩
       unfold cnM
       (repeat first | rw [if_pos (by omega)] | rw [if_neg (by omega)])
       (try rfl))
  · refine g_tswI (tgt := 65) h 1 (by first | assumption | exact ⟨by omega, by omega⟩) (by first | omega | assumption) (by first | omega | assumption) rfl (by decide) dX12_count_6 ?_
    refine g_aload_n h dX12_count_65 rfl ?_
    refine g_getI h flX12_312 rfl (by assumption) dX12_count_66 ?_
    refine g_iret h hQ (by first | decide | omega | (simp only [clS]; omega)) (by first | decide | omega | (simp only [clS]; omega)) ?_ dX12_count_69
    first
    | (exfalso; omega)
    | (refine ⟨?_, rfl⟩
       unfold cnM
       (repeat first | rw [if_pos (by omega)] | rw [if_neg (by omega)])
       (try rfl))
  · refine g_tswI (tgt := 70) h 2 (by first | assumption | exact ⟨by omega, by omega⟩) (by first | omega | assumption) (by first | omega | assumption) rfl (by decide) dX12_count_6 ?_
    refine g_aload_n h dX12_count_70 rfl ?_
    refine g_getI h flX12_483 rfl (by assumption) dX12_count_71 ?_
    refine g_iret h hQ (by first | decide | omega | (simp only [clS]; omega)) (by first | decide | omega | (simp only [clS]; omega)) ?_ dX12_count_74
    first
    | (exfalso; omega)
    | (refine ⟨?_, rfl⟩
       unfold cnM
       (repeat first | rw [if_pos (by omega)] | rw [if_neg (by omega)])
       (try rfl))
  · refine g_tswI (tgt := 75) h 3 (by first | assumption | exact ⟨by omega, by omega⟩) (by first | omega | assumption) (by first | omega | assumption) rfl (by decide) dX12_count_6 ?_
    refine g_aload_n h dX12_count_75 rfl ?_
    refine g_getI h flX12_486 rfl (by assumption) dX12_count_76 ?_
    refine g_iret h hQ (by first | decide | omega | (simp only [clS]; omega)) (by first | decide | omega | (simp only [clS]; omega)) ?_ dX12_count_79
    first
    | (exfalso; omega)
    | (refine ⟨?_, rfl⟩
       unfold cnM
       (repeat first | rw [if_pos (by omega)] | rw [if_neg (by omega)])
       (try rfl))
  · refine g_tswI (tgt := 80) h 4 (by first | assumption | exact ⟨by omega, by omega⟩) (by first | omega | assumption) (by first | omega | assumption) rfl (by decide) dX12_count_6 ?_
    refine g_aload_n h dX12_count_80 rfl ?_
    refine g_getI h flX12_528 rfl (by assumption) dX12_count_81 ?_
    refine g_iret h hQ (by first | decide | omega | (simp only [clS]; omega)) (by first | decide | omega | (simp only [clS]; omega)) ?_ dX12_count_84
    first
    | (exfalso; omega)
    | (refine ⟨?_, rfl⟩
       unfold cnM
       (repeat first | rw [if_pos (by omega)] | rw [if_neg (by omega)])
       (try rfl))
  · refine g_tswI (tgt := 85) h 5 (by first | assumption | exact ⟨by omega, by omega⟩) (by first | omega | assumption) (by first | omega | assumption) rfl (by decide) dX12_count_6 ?_
    refine g_iconst h dX12_count_85 ?_
    refine g_istore_n h dX12_count_86 (Nat.le_of_ble_eq_true rfl) rfl rfl ?_
    refine g_iconst h dX12_count_87 ?_
    refine g_istore_n h dX12_count_88 (Nat.le_of_ble_eq_true rfl) rfl rfl ?_
    exact loop (by assumption) nv 0 (by omega)
  · refine g_tswI (tgt := 122) h 6 (by first | assumption | exact ⟨by omega, by omega⟩) (by first | omega | assumption) (by first | omega | assumption) rfl (by decide) dX12_count_6 ?_
    refine g_aload_n h dX12_count_122 rfl ?_
    refine g_getI h flX12_223 rfl (by assumption) dX12_count_123 ?_
    refine g_iret h hQ (by first | decide | omega | (simp only [clS]; omega)) (by first | decide | omega | (simp only [clS]; omega)) ?_ dX12_count_126
    first
    | (exfalso; omega)
    | (refine ⟨?_, rfl⟩
       unfold cnM
       (repeat first | rw [if_pos (by omega)] | rw [if_neg (by omega)])
       (try rfl))
  · refine g_tswI (tgt := 127) h 7 (by first | assumption | exact ⟨by omega, by omega⟩) (by first | omega | assumption) (by first | omega | assumption) rfl (by decide) dX12_count_6 ?_
    refine g_aload_n h dX12_count_127 rfl ?_
    refine g_getI h flX12_537 rfl (by assumption) dX12_count_128 ?_
    refine g_iret h hQ (by first | decide | omega | (simp only [clS]; omega)) (by first | decide | omega | (simp only [clS]; omega)) ?_ dX12_count_131
    first
    | (exfalso; omega)
    | (refine ⟨?_, rfl⟩
       unfold cnM
       (repeat first | rw [if_pos (by omega)] | rw [if_neg (by omega)])
       (try rfl))
  · refine g_tswI (tgt := 132) h 8 (by first | assumption | exact ⟨by omega, by omega⟩) (by first | omega | assumption) (by first | omega | assumption) rfl (by decide) dX12_count_6 ?_
    refine g_aload_n h dX12_count_132 rfl ?_
    refine g_getI h flX12_22 rfl (by assumption) dX12_count_133 ?_
    refine g_iret h hQ (by first | decide | omega | (simp only [clS]; omega)) (by first | decide | omega | (simp only [clS]; omega)) ?_ dX12_count_136
    first
    | (exfalso; omega)
    | (refine ⟨?_, rfl⟩
       unfold cnM
       (repeat first | rw [if_pos (by omega)] | rw [if_neg (by omega)])
       (try rfl))
  · refine g_tswI (tgt := 137) h 9 (by first | assumption | exact ⟨by omega, by omega⟩) (by first | omega | assumption) (by first | omega | assumption) rfl (by decide) dX12_count_6 ?_
    refine g_aload_n h dX12_count_137 rfl ?_
    refine g_getI h flX12_453 rfl (by assumption) dX12_count_138 ?_
    refine g_iret h hQ (by first | decide | omega | (simp only [clS]; omega)) (by first | decide | omega | (simp only [clS]; omega)) ?_ dX12_count_141
    first
    | (exfalso; omega)
    | (refine ⟨?_, rfl⟩
       unfold cnM
       (repeat first | rw [if_pos (by omega)] | rw [if_neg (by omega)])
       (try rfl))
  · refine g_tswO (tgt := 142) h (by first | assumption | exact ⟨by omega, by omega⟩) c6 (by decide) dX12_count_6 ?_
    refine g_iconst h dX12_count_142 ?_
    refine g_iret h hQ (by first | decide | omega | (simp only [clS]; omega)) (by first | decide | omega | (simp only [clS]; omega)) ?_ dX12_count_143
    first
    | (exfalso; omega)
    | (refine ⟨?_, rfl⟩
       unfold cnM
       (repeat first | rw [if_pos (by omega)] | rw [if_neg (by omega)])
       (try rfl))
theorem CPv_bd {o h : Nat → Int} {sp : Int} {frm : Nat} {st v : Int} (hst : 0 ≤ st ∧ st ≤ 500) (hc : CPv o h sp frm st v) : -1000 ≤ v ∧ v ≤ 1000000 := by
  by_cases e : o frm = -1
  · rw [hc.1 e]; omega
  · obtain ⟨m, hG, -, hv⟩ := hc.2 e
    have := clB_bd (o := o) (m := m) 400 (fun c hc => (hG.2 c hc).1)
    rw [hv]
    split <;> omega
set_option maxRecDepth 100000 in
set_option maxHeartbeats 4000000 in
theorem c_X12_climb (l : Launch) (w : AW) (nv : Nat) (z a : Int) (hM : MS w) (hL : ML w) (hO : MO2 w) (hV : MVI w nv) (hz : R32 z) (ha : R32 a) : HT l yX12_climb cX12_climb 3 (some .int) 3 0 0 w [ar 400, ai z, ai a] (fun r w' => (¬ (w.2.1 400 71 = 1 ∧ 0 ≤ z ∧ z < (nv : Int)) → r = some (ai (-1)) ∧ w' = tM (th w) 1) ∧ (w.2.1 400 71 = 1 ∧ 0 ≤ z ∧ z < (nv : Int) → ¬ (0 ≤ a ∧ a ≤ 500) → r = some (ai (-1)) ∧ w' = tM (th w) 2) ∧ (w.2.1 400 71 = 1 ∧ 0 ≤ z ∧ z < (nv : Int) → 0 ≤ a ∧ a ≤ 500 → ∃ (v : Int) (m : Nat → Int), r = some (ai v) ∧ CPv (w.2.1 473) (w.2.1 472) (w.2.1 400 70) (w.2.1 475 z.toNat).toNat a v ∧ w' = tM (sR (th w) 474 m) 0)) := by
  refine HT.of (by decide) (by intro v hv; simp only [List.mem_cons, List.not_mem_nil, or_false] at hv; rcases hv with rfl | rfl | rfl <;> rfl) (Nat.le_of_ble_eq_true rfl) ?_
  intro Γ h hQ hRm hnm hl hw0
  have s400 : w.1 400 = (112, 0) := hM.1 400 (by decide) (by decide)
  have s475 : w.1 475 = (1, 20) := hM.1 475 (by decide) (by decide)
  have p75 : w.2.2 400 75 = some 475 := hM.2 (400, 75, 475) (by decide)
  obtain ⟨hnv, hnv2, hvv⟩ := id hV
  have e69 : (upI w 400 0 0).2.1 400 69 = (nv : Int) := hnv
  have e71 : (upI w 400 0 0).2.1 400 71 = w.2.1 400 71 := rfl
  have h71 := hL.2.2.2.2
  have hO2 := fun (q : w.2.1 400 71 = 1) => hO q
  have hvz := fun (q : 0 ≤ z ∧ z < (nv : Int)) => hvv z.toNat (by omega)
  refine g_aload_n h dX12_climb_0 rfl ?_
  refine g_iconst h dX12_climb_1 ?_
  refine g_putI h flX12_1 rfl rfl (by assumption) dX12_climb_2 ?_
  refine g_aload_n h dX12_climb_5 rfl ?_
  refine g_getI h flX12_518 rfl (by assumption) dX12_climb_6 ?_
  rw [e71]
  refine g_if_eq (tgt := 24) h dX12_climb_9 (by decide) (by first | assumption | exact ⟨by omega, by omega⟩) (fun c9 => ?_) (fun c9 => ?_)
  · refine g_aload_n h dX12_climb_24 rfl ?_
    refine g_iconst h dX12_climb_25 ?_
    refine g_callV h rfl (ci := 12) [_] (by assumption) (c_X12_refused _ _ _ (MS_of rfl rfl hM)) clX12_274 (by decide) rfl in_X12_refused se_X12_refused rfl rfl (by rw [hRm]; first | decide | (simp only [clS]; omega)) (by rw [hRm]; first | decide | (simp only [clS]; omega)) (fun _ => Nat.le_of_ble_eq_true rfl) (by rw [hRm]; first | decide | (simp only [clS]; omega)) (by rw [hRm]; first | decide | (simp only [clS]; omega)) dX12_climb_26 (fun r26 w26 hp26 => ?_)
    obtain ⟨rfl, hw26⟩ := hp26
    rw [hw26]
    refine g_iret h hQ (by first | decide | omega | (simp only [clS]; omega)) (by first | decide | omega | (simp only [clS]; omega)) ?_ dX12_climb_29
    exact ⟨fun _ => ⟨rfl, rfl⟩, fun q => absurd q (by omega), fun q => absurd q (by omega)⟩
  · refine g_iload_n h dX12_climb_12 rfl ?_
    refine g_if_lt (tgt := 24) h dX12_climb_13 (by decide) (by first | assumption | exact ⟨by omega, by omega⟩) (fun c13 => ?_) (fun c13 => ?_)
    · refine g_aload_n h dX12_climb_24 rfl ?_
      refine g_iconst h dX12_climb_25 ?_
      refine g_callV h rfl (ci := 12) [_] (by assumption) (c_X12_refused _ _ _ (MS_of rfl rfl hM)) clX12_274 (by decide) rfl in_X12_refused se_X12_refused rfl rfl (by rw [hRm]; first | decide | (simp only [clS]; omega)) (by rw [hRm]; first | decide | (simp only [clS]; omega)) (fun _ => Nat.le_of_ble_eq_true rfl) (by rw [hRm]; first | decide | (simp only [clS]; omega)) (by rw [hRm]; first | decide | (simp only [clS]; omega)) dX12_climb_26 (fun r26 w26 hp26 => ?_)
      obtain ⟨rfl, hw26⟩ := hp26
      rw [hw26]
      refine g_iret h hQ (by first | decide | omega | (simp only [clS]; omega)) (by first | decide | omega | (simp only [clS]; omega)) ?_ dX12_climb_29
      exact ⟨fun _ => ⟨rfl, rfl⟩, fun q => absurd q (by omega), fun q => absurd q (by omega)⟩
    · refine g_iload_n h dX12_climb_16 rfl ?_
      refine g_aload_n h dX12_climb_17 rfl ?_
      refine g_getI h flX12_528 rfl (by assumption) dX12_climb_18 ?_
      rw [e69]
      refine g_icmp_lt (tgt := 30) h dX12_climb_21 (by decide) (by first | assumption | exact ⟨by omega, by omega⟩) (by first | assumption | exact ⟨by omega, by omega⟩) (fun c21 => ?_) (fun c21 => ?_)
      · refine g_iload_n h dX12_climb_30 rfl ?_
        refine g_iconst h dX12_climb_31 ?_
        refine g_sipush h dX12_climb_32 rfl ?_
        refine g_callS h rfl [_, _, _] (c_X12_in _ _ _ _ _ ha ⟨by omega, by omega⟩ ⟨by omega, by omega⟩) clX12_211 st_X12_in rfl rfl (by rw [hRm]; first | decide | (simp only [clS]; omega)) (by rw [hRm]; first | decide | (simp only [clS]; omega)) (fun _ => Nat.le_of_ble_eq_true rfl) (by rw [hRm]; first | decide | (simp only [clS]; omega)) (by rw [hRm]; first | decide | (simp only [clS]; omega)) dX12_climb_35 (fun r35 w35 hp35 => ?_)
        obtain ⟨rfl, hw35⟩ := hp35
        rw [hw35]
        have hbw35 := ite01 ((0 : Int) ≤ a ∧ a ≤ 500)
        refine g_if_eq (tgt := 59) h dX12_climb_38 (by decide) (by first | assumption | exact ⟨by omega, by omega⟩) (fun c38 => ?_) (fun c38 => ?_)
        · refine g_aload_n h dX12_climb_59 rfl ?_
          refine g_iconst h dX12_climb_60 ?_
          refine g_callV h rfl (ci := 12) [_] (by assumption) (c_X12_refused _ _ _ (MS_of rfl rfl hM)) clX12_274 (by decide) rfl in_X12_refused se_X12_refused rfl rfl (by rw [hRm]; first | decide | (simp only [clS]; omega)) (by rw [hRm]; first | decide | (simp only [clS]; omega)) (fun _ => Nat.le_of_ble_eq_true rfl) (by rw [hRm]; first | decide | (simp only [clS]; omega)) (by rw [hRm]; first | decide | (simp only [clS]; omega)) dX12_climb_61 (fun r61 w61 hp61 => ?_)
          obtain ⟨rfl, hw61⟩ := hp61
          rw [hw61]
          refine g_iret h hQ (by first | decide | omega | (simp only [clS]; omega)) (by first | decide | omega | (simp only [clS]; omega)) ?_ dX12_climb_64
          first
          | exact ⟨fun _ => ⟨rfl, rfl⟩, fun q => absurd q (by omega), fun q => absurd q (by omega)⟩
          | exact ⟨fun q => absurd q (by omega), fun _ _ => ⟨rfl, rfl⟩, fun _ q => absurd q (by omega)⟩
          | exact ⟨fun q => absurd q (by omega), fun _ q => absurd q (by omega), fun _ _ => ⟨v, m, rfl, by rw [hF, Int.toNat_natCast]; exact hcp, rfl⟩⟩
        · refine g_aload_n h dX12_climb_41 rfl ?_
          refine g_aload_n h dX12_climb_42 rfl ?_
          refine g_aload_n h dX12_climb_43 rfl ?_
          refine g_getQ h flX12_173 rfl (by assumption) (by assumption) dX12_climb_44 ?_
          refine g_iload_n h dX12_climb_47 rfl ?_
          refine g_iald h (z.toNat) (by assumption) (by first | omega | assumption) (by first | omega | assumption) (by first | decide | omega) dX12_climb_48 ?_
          have hO3 := hO2 (by omega)
          have hvz2 := hvz ⟨by omega, by omega⟩
          obtain ⟨F, hF⟩ : ∃ F : Nat, w.2.1 475 z.toNat = (F : Int) := ⟨(w.2.1 475 z.toNat).toNat, by omega⟩
          change GG Γ 49 _ (ai (w.2.1 475 z.toNat) :: _) _ _ _
          rw [hF]
          refine g_iload_n h dX12_climb_49 rfl ?_
          refine g_callV h rfl (ci := 12) [_, _] (by assumption) (c_X12_climbs _ _ F a (MS_th hM) (by omega) ⟨by omega, by omega⟩ hL.1 hO3.2 hO3.1) clX12_534 (by decide) rfl in_X12_climbs se_X12_climbs rfl rfl (by rw [hRm]; first | decide | (simp only [clS]; omega)) (by rw [hRm]; first | decide | (simp only [clS]; omega)) (fun _ => Nat.le_of_ble_eq_true rfl) (by rw [hRm]; first | decide | (simp only [clS]; omega)) (by rw [hRm]; first | decide | (simp only [clS]; omega)) dX12_climb_50 (fun r50 w50 hp50 => ?_)
          obtain ⟨v, m, rfl, hcp, hw50⟩ := hp50
          rw [hw50]
          refine g_callV h rfl (ci := 12) [_] (by assumption) (c_X12_done _ _ _ (MS_of rfl rfl hM)) clX12_277 (by decide) rfl in_X12_done se_X12_done rfl rfl (by rw [hRm]; first | decide | (simp only [clS]; omega)) (by rw [hRm]; first | decide | (simp only [clS]; omega)) (fun _ => Nat.le_of_ble_eq_true rfl) (by rw [hRm]; first | decide | (simp only [clS]; omega)) (by rw [hRm]; first | decide | (simp only [clS]; omega)) dX12_climb_53 (fun r53 w53 hp53 => ?_)
          obtain ⟨rfl, hw53⟩ := hp53
          rw [hw53]
          refine g_goto (tgt := 64) h dX12_climb_56 (by decide) ?_
          refine g_iret h hQ (by first | decide | omega | (simp only [clS]; omega)) (by first | decide | omega | (simp only [clS]; omega)) ?_ dX12_climb_64
          first
          | exact ⟨fun _ => ⟨rfl, rfl⟩, fun q => absurd q (by omega), fun q => absurd q (by omega)⟩
          | exact ⟨fun q => absurd q (by omega), fun _ _ => ⟨rfl, rfl⟩, fun _ q => absurd q (by omega)⟩
          | exact ⟨fun q => absurd q (by omega), fun _ q => absurd q (by omega), fun _ _ => ⟨v, m, rfl, by rw [hF, Int.toNat_natCast]; exact hcp, rfl⟩⟩
      · refine g_aload_n h dX12_climb_24 rfl ?_
        refine g_iconst h dX12_climb_25 ?_
        refine g_callV h rfl (ci := 12) [_] (by assumption) (c_X12_refused _ _ _ (MS_of rfl rfl hM)) clX12_274 (by decide) rfl in_X12_refused se_X12_refused rfl rfl (by rw [hRm]; first | decide | (simp only [clS]; omega)) (by rw [hRm]; first | decide | (simp only [clS]; omega)) (fun _ => Nat.le_of_ble_eq_true rfl) (by rw [hRm]; first | decide | (simp only [clS]; omega)) (by rw [hRm]; first | decide | (simp only [clS]; omega)) dX12_climb_26 (fun r26 w26 hp26 => ?_)
        obtain ⟨rfl, hw26⟩ := hp26
        rw [hw26]
        refine g_iret h hQ (by first | decide | omega | (simp only [clS]; omega)) (by first | decide | omega | (simp only [clS]; omega)) ?_ dX12_climb_29
        exact ⟨fun _ => ⟨rfl, rfl⟩, fun q => absurd q (by omega), fun q => absurd q (by omega)⟩
/-- folk lost of the first villages, by what each climb answers -/
def lsM (w : AW) (f : Nat → Int) : Nat → Int
  | 0 => 0
  | v + 1 => lsM w f v + (if w.2.1 477 v = 0 ∧ f v = -2 then w.2.1 476 v else 0)
theorem lsM_congr {w : AW} {f g : Nat → Int} : ∀ n, (∀ i, i < n → f i = g i) → lsM w f n = lsM w g n
  | 0, _ => rfl
  | n + 1, h => by
    unfold lsM
    rw [lsM_congr n (fun i hi => h i (by omega)), h n (by omega)]
theorem lsM_bd {w : AW} {f : Nat → Int} {nv : Nat} (hV : MVI w nv) : ∀ n, n ≤ nv → 0 ≤ lsM w f n ∧ lsM w f n ≤ 9999 * (n : Int)
  | 0, _ => by show 0 ≤ (0 : Int) ∧ (0 : Int) ≤ 9999 * ((0 : Nat) : Int); omega
  | n + 1, h => by
    have h1 := lsM_bd (f := f) hV n (by omega)
    have h2 := hV.2.2 n (by omega)
    unfold lsM
    split <;> omega
set_option maxRecDepth 100000 in
set_option maxHeartbeats 4000000 in
theorem c_X12_lost (l : Launch) (w : AW) (nv : Nat) (a : Int) (hM : MS w) (hL : ML w) (hO : MO2 w) (hV : MVI w nv) (ha : R32 a) : HT l yX12_lost cX12_lost 4 (some .int) 3 0 0 w [ar 400, ai a] (fun r w' => (w.2.1 400 71 ≠ 1 → r = some (ai (-1)) ∧ w' = tM (th w) 1) ∧ (w.2.1 400 71 = 1 → ¬ (0 ≤ a ∧ a ≤ 500) → r = some (ai (-1)) ∧ w' = tM (th w) 2) ∧ (w.2.1 400 71 = 1 → 0 ≤ a ∧ a ≤ 500 → ∃ (f : Nat → Int) (m : Nat → Int), (∀ i, i < nv → w.2.1 477 i = 0 → CPv (w.2.1 473) (w.2.1 472) (w.2.1 400 70) (w.2.1 475 i).toNat a (f i)) ∧ r = some (ai (lsM w f nv)) ∧ w' = tM (sR (th w) 474 m) 0)) := by
  refine HT.of (by decide) (by intro v hv; simp only [List.mem_cons, List.not_mem_nil, or_false] at hv; rcases hv with rfl | rfl <;> rfl) (Nat.le_of_ble_eq_true rfl) ?_
  intro Γ h hQ hRm hnm hl hw0
  have s400 : w.1 400 = (112, 0) := hM.1 400 (by decide) (by decide)
  have s477 : w.1 477 = (3, 20) := hM.1 477 (by decide) (by decide)
  have s475 : w.1 475 = (1, 20) := hM.1 475 (by decide) (by decide)
  have s476 : w.1 476 = (1, 20) := hM.1 476 (by decide) (by decide)
  have p77 : w.2.2 400 77 = some 477 := hM.2 (400, 77, 477) (by decide)
  have p75 : w.2.2 400 75 = some 475 := hM.2 (400, 75, 475) (by decide)
  have p76 : w.2.2 400 76 = some 476 := hM.2 (400, 76, 476) (by decide)
  obtain ⟨hnv, hnv2, hvv⟩ := id hV
  have e71 : (upI w 400 0 0).2.1 400 71 = w.2.1 400 71 := rfl
  have h71 := hL.2.2.2.2
  have loop : w.2.1 400 71 = 1 → 0 ≤ a ∧ a ≤ 500 → ∀ (d i : Nat) (f m : Nat → Int), i + d = nv → (∀ j, j < i → w.2.1 477 j = 0 → CPv (w.2.1 473) (w.2.1 472) (w.2.1 400 70) (w.2.1 475 j).toNat a (f j)) → GG Γ 39 [some (ar 400), some (ai a), some (ai (lsM w f i)), some (ai (i : Int))] [] (sR (th w) 474 m) 0 0 := by
    intro hrun ha5 d
    obtain ⟨hsp, hor⟩ := hO hrun
    induction d with
    | zero =>
      intro i f m hi hf
      obtain rfl : i = nv := by omega
      have e69 : (sR (th w) 474 m).2.1 400 69 = (i : Int) := hnv
      refine g_iload_n h dX12_lost_39 rfl ?_
      refine g_aload_n h dX12_lost_40 rfl ?_
      refine g_getI h flX12_528 rfl (by assumption) dX12_lost_41 ?_
      refine g_icmp_ge (tgt := 91) h dX12_lost_44 (by decide) (by first | assumption | exact ⟨by omega, by omega⟩) (by first | assumption | exact ⟨by omega, by omega⟩) (fun c44 => ?_) (fun c44 => ?_)
      · refine g_aload_n h dX12_lost_91 rfl ?_
        refine g_iload_n h dX12_lost_92 rfl ?_
        refine g_callV h rfl (ci := 12) [_] (by assumption) (c_X12_done _ _ _ (MS_of rfl rfl hM)) clX12_277 (by decide) rfl in_X12_done se_X12_done rfl rfl (by rw [hRm]; first | decide | (simp only [clS]; omega)) (by rw [hRm]; first | decide | (simp only [clS]; omega)) (fun _ => Nat.le_of_ble_eq_true rfl) (by rw [hRm]; first | decide | (simp only [clS]; omega)) (by rw [hRm]; first | decide | (simp only [clS]; omega)) dX12_lost_93 (fun r93 w93 hp93 => ?_)
        obtain ⟨rfl, hw93⟩ := hp93
        rw [hw93]
        refine g_iret h hQ (by first | decide | omega | (simp only [clS]; omega)) (by first | decide | omega | (simp only [clS]; omega)) ?_ dX12_lost_96
        exact ⟨fun q => absurd hrun q, fun _ q => absurd ha5 q, fun _ _ => ⟨f, m, hf, rfl, rfl⟩⟩
      · exfalso; omega
    | succ d ih =>
      intro i f m hi hf
      have e69 : (sR (th w) 474 m).2.1 400 69 = (nv : Int) := hnv
      have e477 : (sR (th w) 474 m).2.1 477 i = w.2.1 477 i := rfl
      have hvi := hvv i (by omega)
      have hlb := lsM_bd (f := f) hV i (by omega)
      obtain ⟨F, hF⟩ : ∃ F : Nat, w.2.1 475 i = (F : Int) := ⟨(w.2.1 475 i).toNat, by omega⟩
      have e475 : (sR (th w) 474 m).2.1 475 i = (F : Int) := hF
      have nxt : ∀ (v : Int) (m' : Nat → Int), (w.2.1 477 i = 0 → CPv (w.2.1 473) (w.2.1 472) (w.2.1 400 70) F a v) → GG Γ 39 [some (ar 400), some (ai a), some (ai (lsM w f i + (if w.2.1 477 i = 0 ∧ v = -2 then w.2.1 476 i else 0))), some (ai ((i : Int) + 1))] [] (sR (th w) 474 m') 0 0 := by
        intro v m' hcp
        have h4 := ih (i + 1) (uI f i v) m' (by omega) (fun j hj h0 => by
          by_cases e : j = i
          · subst e; rw [uI_at, hF, Int.toNat_natCast]; exact hcp h0
          · rw [uI_ne _ _ e]; exact hf j (by omega) h0)
        have e1 : lsM w (uI f i v) (i + 1) = lsM w f i + (if w.2.1 477 i = 0 ∧ v = -2 then w.2.1 476 i else 0) := by
          show lsM w (uI f i v) i + (if w.2.1 477 i = 0 ∧ uI f i v i = -2 then w.2.1 476 i else 0) = _
          rw [uI_at, lsM_congr (g := f) i (fun j hj => uI_ne _ _ (by omega))]
        rw [e1] at h4
        exact h4
      refine g_iload_n h dX12_lost_39 rfl ?_
      refine g_aload_n h dX12_lost_40 rfl ?_
      refine g_getI h flX12_528 rfl (by assumption) dX12_lost_41 ?_
      refine g_icmp_ge (tgt := 91) h dX12_lost_44 (by decide) (by first | assumption | exact ⟨by omega, by omega⟩) (by first | assumption | exact ⟨by omega, by omega⟩) (fun c44 => ?_) (fun c44 => ?_)
      · exfalso; omega
      · refine g_iload_n h dX12_lost_47 rfl ?_
        refine g_aload_n h dX12_lost_48 rfl ?_
        refine g_getQ h flX12_179 rfl (by assumption) (by assumption) dX12_lost_49 ?_
        refine g_iload_n h dX12_lost_52 rfl ?_
        refine g_zald h _ (by assumption) rfl (by first | omega | assumption) (by first | decide | omega) dX12_lost_53 ?_
        rw [e477]
        refine g_if_ne (tgt := 82) h dX12_lost_54 (by decide) (by first | assumption | exact ⟨by omega, by omega⟩) (fun c54 => ?_) (fun c54 => ?_)
        · refine g_iconst h dX12_lost_82 ?_
          refine g_iadd h dX12_lost_83 ?_
          refine g_istore_n h dX12_lost_84 (Nat.le_of_ble_eq_true rfl) rfl rfl ?_
          refine g_iinc h dX12_lost_85 rfl (Nat.le_of_ble_eq_true rfl) rfl rfl ?_
          refine g_goto (tgt := 39) h dX12_lost_88 (by decide) ?_
          first
          | (exfalso; omega)
          | (have h4 := nxt 0 m (fun q => absurd q (by omega))
             rw [if_neg (by omega)] at h4
             exact h4)
          | (have h4 := nxt v m2 (fun _ => hcp)
             rw [if_pos (by omega)] at h4
             exact h4)
          | (have h4 := nxt v m2 (fun _ => hcp)
             rw [if_neg (by omega)] at h4
             exact h4)
        · refine g_aload_n h dX12_lost_57 rfl ?_
          refine g_aload_n h dX12_lost_58 rfl ?_
          refine g_getQ h flX12_173 rfl (by assumption) (by assumption) dX12_lost_59 ?_
          refine g_iload_n h dX12_lost_62 rfl ?_
          refine g_iald h _ (by assumption) rfl (by first | omega | assumption) (by first | decide | omega) dX12_lost_63 ?_
          rw [e475]
          refine g_iload_n h dX12_lost_64 rfl ?_
          refine g_callV h rfl (ci := 12) [_, _] (by assumption) (c_X12_climbs _ _ F a (MS_of rfl rfl hM) (by omega) ha5 hL.1 hor hsp) clX12_534 (by decide) rfl in_X12_climbs se_X12_climbs rfl rfl (by rw [hRm]; first | decide | (simp only [clS]; omega)) (by rw [hRm]; first | decide | (simp only [clS]; omega)) (fun _ => Nat.le_of_ble_eq_true rfl) (by rw [hRm]; first | decide | (simp only [clS]; omega)) (by rw [hRm]; first | decide | (simp only [clS]; omega)) dX12_lost_65 (fun r65 w65 hp65 => ?_)
          obtain ⟨v, m2, rfl, hcp, hw65⟩ := hp65
          have hvb := CPv_bd ha5 hcp
          rw [hw65, sR_sR]
          refine g_bipush h dX12_lost_68 rfl ?_
          refine g_icmp_ne (tgt := 82) h dX12_lost_70 (by decide) (by first | assumption | exact ⟨by omega, by omega⟩) (by first | assumption | exact ⟨by omega, by omega⟩) (fun c70 => ?_) (fun c70 => ?_)
          · refine g_iconst h dX12_lost_82 ?_
            refine g_iadd h dX12_lost_83 ?_
            refine g_istore_n h dX12_lost_84 (Nat.le_of_ble_eq_true rfl) rfl rfl ?_
            refine g_iinc h dX12_lost_85 rfl (Nat.le_of_ble_eq_true rfl) rfl rfl ?_
            refine g_goto (tgt := 39) h dX12_lost_88 (by decide) ?_
            first
            | (exfalso; omega)
            | (have h4 := nxt 0 m (fun q => absurd q (by omega))
               rw [if_neg (by omega)] at h4
               exact h4)
            | (have h4 := nxt v m2 (fun _ => hcp)
               rw [if_pos (by omega)] at h4
               exact h4)
            | (have h4 := nxt v m2 (fun _ => hcp)
               rw [if_neg (by omega)] at h4
               exact h4)
          · refine g_aload_n h dX12_lost_73 rfl ?_
            refine g_getQ h flX12_176 rfl (by assumption) (by assumption) dX12_lost_74 ?_
            refine g_iload_n h dX12_lost_77 rfl ?_
            refine g_iald h _ (by assumption) rfl (by first | omega | assumption) (by first | decide | omega) dX12_lost_78 ?_
            refine g_goto (tgt := 83) h dX12_lost_79 (by decide) ?_
            refine g_iadd h dX12_lost_83 ?_
            refine g_istore_n h dX12_lost_84 (Nat.le_of_ble_eq_true rfl) rfl rfl ?_
            refine g_iinc h dX12_lost_85 rfl (Nat.le_of_ble_eq_true rfl) rfl rfl ?_
            refine g_goto (tgt := 39) h dX12_lost_88 (by decide) ?_
            first
            | (exfalso; omega)
            | (have h4 := nxt 0 m (fun q => absurd q (by omega))
               rw [if_neg (by omega)] at h4
               exact h4)
            | (have h4 := nxt v m2 (fun _ => hcp)
               rw [if_pos (by omega)] at h4
               exact h4)
            | (have h4 := nxt v m2 (fun _ => hcp)
               rw [if_neg (by omega)] at h4
               exact h4)
  refine g_aload_n h dX12_lost_0 rfl ?_
  refine g_iconst h dX12_lost_1 ?_
  refine g_putI h flX12_1 rfl rfl (by assumption) dX12_lost_2 ?_
  refine g_aload_n h dX12_lost_5 rfl ?_
  refine g_getI h flX12_518 rfl (by assumption) dX12_lost_6 ?_
  rw [e71]
  refine g_if_ne (tgt := 18) h dX12_lost_9 (by decide) (by first | assumption | exact ⟨by omega, by omega⟩) (fun c9 => ?_) (fun c9 => ?_)
  · refine g_iload_n h dX12_lost_18 rfl ?_
    refine g_iconst h dX12_lost_19 ?_
    refine g_sipush h dX12_lost_20 rfl ?_
    refine g_callS h rfl [_, _, _] (c_X12_in _ _ _ _ _ ha ⟨by omega, by omega⟩ ⟨by omega, by omega⟩) clX12_211 st_X12_in rfl rfl (by rw [hRm]; first | decide | (simp only [clS]; omega)) (by rw [hRm]; first | decide | (simp only [clS]; omega)) (fun _ => Nat.le_of_ble_eq_true rfl) (by rw [hRm]; first | decide | (simp only [clS]; omega)) (by rw [hRm]; first | decide | (simp only [clS]; omega)) dX12_lost_23 (fun r23 w23 hp23 => ?_)
    obtain ⟨rfl, hw23⟩ := hp23
    rw [hw23]
    have hbw23 := ite01 ((0 : Int) ≤ a ∧ a ≤ 500)
    refine g_if_ne (tgt := 35) h dX12_lost_26 (by decide) (by first | assumption | exact ⟨by omega, by omega⟩) (fun c26 => ?_) (fun c26 => ?_)
    · refine g_iconst h dX12_lost_35 ?_
      refine g_istore_n h dX12_lost_36 (Nat.le_of_ble_eq_true rfl) rfl rfl ?_
      refine g_iconst h dX12_lost_37 ?_
      refine g_istore_n h dX12_lost_38 (Nat.le_of_ble_eq_true rfl) rfl rfl ?_
      have h4 := loop (by omega) (by omega) nv 0 (fun _ => 0) (w.2.1 474) (by omega) (fun j hj => by omega)
      rw [show sR (th w) 474 (w.2.1 474) = th w from sR_self (th w) 474] at h4
      exact h4
    · refine g_aload_n h dX12_lost_29 rfl ?_
      refine g_iconst h dX12_lost_30 ?_
      refine g_callV h rfl (ci := 12) [_] (by assumption) (c_X12_refused _ _ _ (MS_of rfl rfl hM)) clX12_274 (by decide) rfl in_X12_refused se_X12_refused rfl rfl (by rw [hRm]; first | decide | (simp only [clS]; omega)) (by rw [hRm]; first | decide | (simp only [clS]; omega)) (fun _ => Nat.le_of_ble_eq_true rfl) (by rw [hRm]; first | decide | (simp only [clS]; omega)) (by rw [hRm]; first | decide | (simp only [clS]; omega)) dX12_lost_31 (fun r31 w31 hp31 => ?_)
      obtain ⟨rfl, hw31⟩ := hp31
      rw [hw31]
      refine g_iret h hQ (by first | decide | omega | (simp only [clS]; omega)) (by first | decide | omega | (simp only [clS]; omega)) ?_ dX12_lost_34
      exact ⟨fun q => absurd q (by omega), fun _ _ => ⟨rfl, rfl⟩, fun _ q => absurd q (by omega)⟩
  · refine g_aload_n h dX12_lost_12 rfl ?_
    refine g_iconst h dX12_lost_13 ?_
    refine g_callV h rfl (ci := 12) [_] (by assumption) (c_X12_refused _ _ _ (MS_of rfl rfl hM)) clX12_274 (by decide) rfl in_X12_refused se_X12_refused rfl rfl (by rw [hRm]; first | decide | (simp only [clS]; omega)) (by rw [hRm]; first | decide | (simp only [clS]; omega)) (fun _ => Nat.le_of_ble_eq_true rfl) (by rw [hRm]; first | decide | (simp only [clS]; omega)) (by rw [hRm]; first | decide | (simp only [clS]; omega)) dX12_lost_14 (fun r14 w14 hp14 => ?_)
    obtain ⟨rfl, hw14⟩ := hp14
    rw [hw14]
    refine g_iret h hQ (by first | decide | omega | (simp only [clS]; omega)) (by first | decide | omega | (simp only [clS]; omega)) ?_ dX12_lost_17
    exact ⟨fun _ => ⟨rfl, rfl⟩, fun q => absurd q (by omega), fun q => absurd q (by omega)⟩
