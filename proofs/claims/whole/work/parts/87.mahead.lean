/-! ===== M: days ahead, the lakes' calls ===== -/
/-- thrown is 0 -/
def th (w : AW) : AW := upI w 400 0 0
theorem MS_th {w : AW} (h : MS w) : MS (th w) := MS_of rfl rfl h
/-- what M's pipes keep to -/
def MPI (w : AW) (np : Nat) : Prop := w.2.1 400 28 = (np : Int) ∧ np ≤ 6 ∧ ∀ p, p < np → 0 ≤ w.2.1 429 p ∧ w.2.1 429 p < 2 ∧ 0 ≤ w.2.1 430 p ∧ w.2.1 430 p < 10 ∧ 1 ≤ w.2.1 431 p ∧ w.2.1 431 p ≤ 500 ∧ 0 ≤ w.2.1 432 p ∧ w.2.1 432 p ≤ 100000 ∧ (w.2.1 435 p = 0 ∨ w.2.1 435 p = 1)
theorem tkW_o (w : AW) (L np : Nat) {j : Nat} (h1 : j ≠ 420) (h2 : j ≠ 421) (h3 : j ≠ 422) (h4 : j ≠ 423) (h5 : j ≠ 425) : (tkW w L np).2.1 j = w.2.1 j := by
  unfold tkW tk2 sH
  rw [sR_ne _ _ h5, sR_ne _ _ h4, sR_ne _ _ h3, sR_ne _ _ h2, sR_ne _ _ h1]
theorem tk_ok {w : AW} {L np : Nat} (hL : L < 2) (hG : MG w) (hN : MN w) (hP : MPI w np) : MN (tkW w L np) ∧ MQ2 (tkW w L np) np ∧ RB3 (gH (tkW w L np)) := by
  refine ⟨MN_of (fun j a b => tkW_o w L np (by omega) (by omega) (by omega) (by omega) (by omega)) hN, ⟨hP.1, hP.2.1, fun p hp => ?_⟩, fun i hi => ?_⟩
  · obtain ⟨a1, a2, a3, a4, a5, a6, a7, a8, a9⟩ := hP.2.2 p hp
    have e1 : (tkW w L np).2.1 423 p = w.2.1 430 p := if_pos hp
    have e2 : (tkW w L np).2.1 425 p = w.2.1 435 p := if_pos hp
    refine ⟨a1, a2, ?_, ?_, a5, a6, a7, a8, ?_⟩
    · rw [e1]; exact a3
    · rw [e1]; exact a4
    · rw [e2]; exact a9
  · have h := hG (10 * L + i) (by omega)
    have e1 : (tkW w L np).2.1 420 i = w.2.1 407 (10 * L + i) := if_pos hi
    have e2 : (tkW w L np).2.1 421 i = w.2.1 408 (10 * L + i) := if_pos hi
    have e3 : (tkW w L np).2.1 422 i = w.2.1 409 (10 * L + i) := if_pos hi
    show 0 ≤ (tkW w L np).2.1 420 i ∧ (tkW w L np).2.1 420 i ≤ 100000 ∧ 0 ≤ (tkW w L np).2.1 421 i ∧ (tkW w L np).2.1 421 i ≤ 400 ∧ 0 ≤ (tkW w L np).2.1 422 i ∧ (tkW w L np).2.1 422 i ≤ 1000
    rw [e1, e2, e3]
    exact h
/-- a day of the lake at hand: whether it bursts, the world then -/
def mdB (w : AW) (L np : Nat) : Int := adR (amW w L np) L
def mdW (w : AW) (L np : Nat) : AW := adE (amW w L np) L
theorem mdB_01 (w : AW) (L np : Nat) : mdB w L np = 0 ∨ mdB w L np = 1 := by
  unfold mdB adR
  split
  · exact Or.inl rfl
  · exact Or.inr rfl
theorem adE_1 (u : AW) (L : Nat) : (adE u L).1 = u.1 ∧ (adE u L).2.2 = u.2.2 := by
  unfold adE
  split <;> exact ⟨rfl, rfl⟩
theorem adE_o (u : AW) (L : Nat) {j : Nat} (h1 : j ≠ 420) (h2 : j ≠ 400) : (adE u L).2.1 j = u.2.1 j := by
  unfold adE
  split
  · exact upI_o _ _ _ h2
  · exact (upI_o _ _ _ h2).trans (sR_ne _ _ h1)
theorem adE_28 (u : AW) (L f : Nat) (h : f ≠ 27) : (adE u L).2.1 400 f = u.2.1 400 f := by
  unfold adE
  split
  · exact if_neg h
  · exact if_neg h
theorem mdW_1 (w : AW) (L np : Nat) : (mdW w L np).1 = w.1 ∧ (mdW w L np).2.2 = w.2.2 := adE_1 _ _
theorem mdW_ok {w : AW} {L np : Nat} (hN : MN w) (hL : L < 2) (hQ2 : MQ2 w np) (hb : RB3 (gH w)) : MN (mdW w L np) ∧ MQ2 (mdW w L np) np ∧ RB3 (gH (mdW w L np)) := by
  obtain ⟨hN1, hQ21, hb1⟩ := adA_ok (L := L) hN hL hQ2 hb
  obtain ⟨hN2, hQ22, hb2⟩ := adB_ok (L := L) hN1 hQ21 hb1 np (Nat.le_refl _)
  obtain ⟨hN3, hQ23, hb3⟩ := adC_ok (L := L) hN2 hL hQ22 hb2
  obtain ⟨hN4, hQ24, hb4⟩ := adD_ok hN3 hQ23 hb3
  refine ⟨MN_of (fun j a b => adE_o _ L (by omega) (by omega)) hN4, ?_, ?_⟩
  · show MQ2 (adE (adD (adC (adB (adA w L) L np) L)) L) np
    unfold MQ2
    rw [adE_28 _ L 28 (by decide), adE_o _ L (by decide) (by decide), adE_o _ L (by decide) (by decide), adE_o _ L (by decide) (by decide), adE_o _ L (by decide) (by decide), adE_o _ L (by decide) (by decide)]
    exact hQ24
  · intro i hi
    have h4 := hb4 i hi
    have e1 : (mdW w L np).2.1 421 = (adD (adC (adB (adA w L) L np) L)).2.1 421 := adE_o _ L (by decide) (by decide)
    have e2 : (mdW w L np).2.1 422 = (adD (adC (adB (adA w L) L np) L)).2.1 422 := adE_o _ L (by decide) (by decide)
    show 0 ≤ (mdW w L np).2.1 420 i ∧ (mdW w L np).2.1 420 i ≤ 100000 ∧ 0 ≤ (mdW w L np).2.1 421 i ∧ (mdW w L np).2.1 421 i ≤ 400 ∧ 0 ≤ (mdW w L np).2.1 422 i ∧ (mdW w L np).2.1 422 i ≤ 1000
    rw [e1, e2]
    have hg : 0 ≤ (mdW w L np).2.1 420 i ∧ (mdW w L np).2.1 420 i ≤ 100000 := by
      show 0 ≤ (adE (adD (adC (adB (adA w L) L np) L)) L).2.1 420 i ∧ (adE (adD (adC (adB (adA w L) L np) L)) L).2.1 420 i ≤ 100000
      unfold adE
      split
      · exact ⟨h4.1, h4.2.1⟩
      · rename_i m _
        exact zeroF_bd (m + 1) (fun j hj => ⟨(hb4 j hj).1, (hb4 j hj).2.1⟩) i hi
    exact ⟨hg.1, hg.2, h4.2.2⟩
def dbM (L np : Nat) : Nat → Int → AW → Int × AW
  | 0, _, w => (-2, w)
  | d + 1, day, w => if mdB w L np = 1 then (day, mdW w L np) else dbM L np d (day + 1) (mdW w L np)
def baM (w : AW) (L np : Nat) : Int × AW := dbM L np 365 1 (tkW w L np)
def fhM (w : AW) (L : Nat) : Int := fullestF (w.2.1 420) (w.2.1 410 L) (w.2.1 411 L) 10
theorem fhM_bd {w : AW} {L : Nat} (hb : RB3 (gH w)) : 0 ≤ fhM w L ∧ fhM w L ≤ 999 := fullestF_bd (fun i hi => (hb i hi).2.1) 10 (Nat.le_refl _)
def duM (L np : Nat) (f : Int) : Nat → Int → AW → Int × AW
  | 0, d, w => if f ≤ fhM w L then (d, w) else (-2, w)
  | n + 1, d, w => if f ≤ fhM w L then (d, w) else if mdB w L np = 1 then (-2, mdW w L np) else duM L np f n (d + 1) (mdW w L np)
set_option maxRecDepth 100000 in
set_option maxHeartbeats 4000000 in
theorem c_X12_burstAhead (l : Launch) (w : AW) (L np : Nat) (hM : MS w) (hG : MG w) (hN : MN w) (hP : MPI w np) (hL : L < 2) : HT l yX12_burstAhead cX12_burstAhead 3 (some .int) 5 0 0 w [ar 400, ai (L : Int)] (fun r w' => r = some (ai (baM w L np).1) ∧ w' = (baM w L np).2) := by
  refine HT.of (by decide) (by intro v hv; simp only [List.mem_cons, List.not_mem_nil, or_false] at hv; rcases hv with rfl | rfl <;> rfl) (Nat.le_of_ble_eq_true rfl) ?_
  intro Γ h hQ hRm hnm hl hw0
  have s400 : w.1 400 = (112, 0) := hM.1 400 (by decide) (by decide)
  have hM0 : MS (tkW w L np) := MS_of rfl rfl hM
  obtain ⟨hN0, hQ0, hb0⟩ := tk_ok (L := L) hL hG hN hP
  have loop : ∀ (d : Nat) (day : Int) (u : AW), day + d = 366 → 1 ≤ day → MS u → MN u → MQ2 u np → RB3 (gH u) → dbM L np d day u = baM w L np → GG Γ 7 [some (ar 400), some (ai (L : Int)), some (ai day)] [] u 0 0 := by
    intro d
    induction d with
    | zero =>
      intro day u hd h1 hMu hNu hQu hbu hrun
      have hrun2 : ((-2 : Int), u) = baM w L np := hrun
      have t400 : u.1 400 = (112, 0) := hMu.1 400 (by decide) (by decide)
      refine g_iload_n h dX12_burstAhead_7 rfl ?_
      refine g_sipush h dX12_burstAhead_8 rfl ?_
      refine g_icmp_gt (tgt := 30) h dX12_burstAhead_11 (by decide) (by first | assumption | exact ⟨by omega, by omega⟩) (by first | assumption | exact ⟨by omega, by omega⟩) (fun c11 => ?_) (fun c11 => ?_)
      · refine g_bipush h dX12_burstAhead_30 rfl ?_
        refine g_iret h hQ (by first | decide | omega | (simp only [clS]; omega)) (by first | decide | omega | (simp only [clS]; omega)) ?_ dX12_burstAhead_32
        rw [← hrun2]
        exact ⟨rfl, rfl⟩
      · exfalso; omega
    | succ d ih =>
      intro day u hd h1 hMu hNu hQu hbu hrun
      have hrun2 : (if mdB u L np = 1 then (day, mdW u L np) else dbM L np d (day + 1) (mdW u L np)) = baM w L np := hrun
      have t400 : u.1 400 = (112, 0) := hMu.1 400 (by decide) (by decide)
      have h01 := mdB_01 u L np
      obtain ⟨hN2, hQ2, hb2⟩ := mdW_ok (L := L) hNu hL hQu hbu
      refine g_iload_n h dX12_burstAhead_7 rfl ?_
      refine g_sipush h dX12_burstAhead_8 rfl ?_
      refine g_icmp_gt (tgt := 30) h dX12_burstAhead_11 (by decide) (by first | assumption | exact ⟨by omega, by omega⟩) (by first | assumption | exact ⟨by omega, by omega⟩) (fun c11 => ?_) (fun c11 => ?_)
      · exfalso; omega
      · refine g_aload_n h dX12_burstAhead_14 rfl ?_
        refine g_iload_n h dX12_burstAhead_15 rfl ?_
        refine g_callV h rfl (ci := 12) [_] (by assumption) (c_X12_aDay _ _ L np hMu hNu hL hQu hbu) clX12_268 (by decide) rfl in_X12_aDay se_X12_aDay rfl rfl (by rw [hRm]; first | decide | (simp only [clS]; omega)) (by rw [hRm]; first | decide | (simp only [clS]; omega)) (fun _ => Nat.le_of_ble_eq_true rfl) (by rw [hRm]; first | decide | (simp only [clS]; omega)) (by rw [hRm]; first | decide | (simp only [clS]; omega)) dX12_burstAhead_16 (fun r16 w16 hp16 => ?_)
        obtain ⟨rfl, hw16⟩ := hp16
        rw [hw16]
        change GG Γ _ _ [ai (mdB u L np)] (mdW u L np) _ _
        refine g_if_eq (tgt := 24) h dX12_burstAhead_19 (by decide) (by first | assumption | exact ⟨by omega, by omega⟩) (fun c19 => ?_) (fun c19 => ?_)
        · refine g_iinc h dX12_burstAhead_24 rfl (Nat.le_of_ble_eq_true rfl) rfl rfl ?_
          refine g_goto (tgt := 7) h dX12_burstAhead_27 (by decide) ?_
          rw [if_neg (by omega)] at hrun2
          exact ih (day + 1) _ (by omega) (by omega) (MS_of (mdW_1 u L np).1 (mdW_1 u L np).2 hMu) hN2 hQ2 hb2 hrun2
        · refine g_iload_n h dX12_burstAhead_22 rfl ?_
          refine g_iret h hQ (by first | decide | omega | (simp only [clS]; omega)) (by first | decide | omega | (simp only [clS]; omega)) ?_ dX12_burstAhead_23
          rw [if_pos (by omega)] at hrun2
          rw [← hrun2]
          exact ⟨rfl, rfl⟩
  refine g_aload_n h dX12_burstAhead_0 rfl ?_
  refine g_iload_n h dX12_burstAhead_1 rfl ?_
  refine g_callV h rfl (ci := 12) [_] (by assumption) (c_X12_takes _ _ L np (MS_of rfl rfl hM) hL hP.1 hP.2.1 (fun p hp => (hP.2.2 p hp).2.2.2.2.2.2.2.2)) clX12_239 (by decide) rfl in_X12_takes se_X12_takes rfl rfl (by rw [hRm]; first | decide | (simp only [clS]; omega)) (by rw [hRm]; first | decide | (simp only [clS]; omega)) (fun _ => Nat.le_of_ble_eq_true rfl) (by rw [hRm]; first | decide | (simp only [clS]; omega)) (by rw [hRm]; first | decide | (simp only [clS]; omega)) dX12_burstAhead_2 (fun r2 w2 hp2 => ?_)
  obtain ⟨rfl, hw2⟩ := hp2
  rw [hw2]
  refine g_iconst h dX12_burstAhead_5 ?_
  refine g_istore_n h dX12_burstAhead_6 (Nat.le_of_ble_eq_true rfl) rfl rfl ?_
  exact loop 365 1 _ (by omega) (by omega) hM0 hN0 hQ0 hb0 rfl
theorem dbM_bd {L np : Nat} : ∀ (d : Nat) (day : Int) (w : AW), 0 ≤ day → (dbM L np d day w).1 = -2 ∨ (day ≤ (dbM L np d day w).1 ∧ (dbM L np d day w).1 < day + d)
  | 0, _, _, _ => Or.inl rfl
  | d + 1, day, w, h => by
    unfold dbM
    split
    · exact Or.inr ⟨Int.le_refl _, by show day < day + ((d + 1 : Nat) : Int); omega⟩
    · have := dbM_bd (L := L) (np := np) d (day + 1) (mdW w L np) (by omega)
      omega
theorem baM_bd (w : AW) (L np : Nat) : (baM w L np).1 = -2 ∨ (1 ≤ (baM w L np).1 ∧ (baM w L np).1 ≤ 365) := by
  have := dbM_bd (L := L) (np := np) 365 1 (tkW w L np) (by decide)
  unfold baM
  omega
/-- what a look ahead by M leaves alone -/
def noH (j : Nat) : Prop := j ≠ 400 ∧ j ≠ 420 ∧ j ≠ 421 ∧ j ≠ 422 ∧ j ≠ 423 ∧ j ≠ 424 ∧ j ≠ 425
def MF (u v : AW) : Prop := v.1 = u.1 ∧ v.2.2 = u.2.2 ∧ (∀ j, noH j → v.2.1 j = u.2.1 j) ∧ ∀ f, f ≠ 26 → f ≠ 27 → v.2.1 400 f = u.2.1 400 f
theorem MF_rfl (u : AW) : MF u u := ⟨rfl, rfl, fun _ _ => rfl, fun _ _ _ => rfl⟩
theorem MF_tr {u v x : AW} (h : MF u v) (k : MF v x) : MF u x := ⟨k.1.trans h.1, k.2.1.trans h.2.1, fun j a => (k.2.2.1 j a).trans (h.2.2.1 j a), fun f a b => (k.2.2.2 f a b).trans (h.2.2.2 f a b)⟩
theorem MF_md (w : AW) (L np : Nat) : MF w (mdW w L np) := by
  refine ⟨(mdW_1 w L np).1, (mdW_1 w L np).2, fun j h => ?_, fun f a b => ?_⟩
  · obtain ⟨h0, h1, h2, h3, h4, h5, h6⟩ := h
    show (adE (adD (adC (adB (adA w L) L np) L)) L).2.1 j = _
    rw [adE_o _ _ h1 h0, adD_o _ h1 h2 h3, adC_o _ _ h1 h0, adB_o _ _ _ h1 h6 h5, adA_o _ _ h1 h0]
  · show (adE (adD (adC (adB (adA w L) L np) L)) L).2.1 400 f = _
    rw [adE_28 _ _ _ b, adD_o _ (by decide) (by decide) (by decide), adC_28 _ _ _ a, adB_o _ _ _ (by decide) (by decide) (by decide), adA_28 _ _ _ a]
theorem MF_tk (w : AW) (L np : Nat) : MF w (tkW w L np) := ⟨rfl, rfl, fun j h => tkW_o w L np h.2.1 h.2.2.1 h.2.2.2.1 h.2.2.2.2.1 h.2.2.2.2.2.2, fun _ _ _ => rfl⟩
theorem MF_db {L np : Nat} : ∀ (d : Nat) (day : Int) (w : AW), MF w (dbM L np d day w).2
  | 0, _, w => MF_rfl w
  | d + 1, day, w => by
    unfold dbM
    split
    · exact MF_md w L np
    · exact MF_tr (MF_md w L np) (MF_db d (day + 1) _)
theorem MF_ba (w : AW) (L np : Nat) : MF w (baM w L np).2 := MF_tr (MF_tk w L np) (MF_db _ _ _)
theorem MF_du {L np : Nat} {f : Int} : ∀ (d : Nat) (day : Int) (w : AW), MF w (duM L np f d day w).2
  | 0, _, w => by unfold duM; split <;> exact MF_rfl w
  | d + 1, day, w => by
    unfold duM
    split
    · exact MF_rfl w
    · split
      · exact MF_md w L np
      · exact MF_tr (MF_md w L np) (MF_du d (day + 1) _)
theorem MS_MF {u v : AW} (h : MF u v) (hM : MS u) : MS v := MS_of h.1 h.2.1 hM
theorem MG_MF {u v : AW} (h : MF u v) (hM : MG u) : MG v := by
  unfold MG at hM ⊢
  rw [h.2.2.1 407 ⟨by decide, by decide, by decide, by decide, by decide, by decide, by decide⟩, h.2.2.1 408 ⟨by decide, by decide, by decide, by decide, by decide, by decide, by decide⟩, h.2.2.1 409 ⟨by decide, by decide, by decide, by decide, by decide, by decide, by decide⟩]
  exact hM
theorem MN_MF {u v : AW} (h : MF u v) (hM : MN u) : MN v := MN_of (fun j a b => h.2.2.1 j ⟨by omega, by omega, by omega, by omega, by omega, by omega, by omega⟩) hM
theorem MPI_MF {u v : AW} {np : Nat} (h : MF u v) (hM : MPI u np) : MPI v np := by
  have e := fun j (a : 429 ≤ j) => h.2.2.1 j ⟨by omega, by omega, by omega, by omega, by omega, by omega, by omega⟩
  unfold MPI at hM ⊢
  rw [h.2.2.2 28 (by decide) (by decide), e 429 (by decide), e 430 (by decide), e 431 (by decide), e 432 (by decide), e 435 (by decide)]
  exact hM
theorem MSI_MF {u v : AW} {rn sn : Nat} (h : MF u v) (hM : MSI u rn sn) : MSI v rn sn := by
  have e := fun j (a : 429 ≤ j) => h.2.2.1 j ⟨by omega, by omega, by omega, by omega, by omega, by omega, by omega⟩
  unfold MSI at hM ⊢
  rw [h.2.2.2 58 (by decide) (by decide), h.2.2.2 59 (by decide) (by decide), e 460 (by decide), e 461 (by decide), e 462 (by decide), e 463 (by decide), e 464 (by decide), e 465 (by decide)]
  exact hM
set_option maxRecDepth 100000 in
set_option maxHeartbeats 4000000 in
theorem c_X12_burst (l : Launch) (w : AW) (np : Nat) (z : Int) (hM : MS w) (hG : MG w) (hN : MN w) (hP : MPI w np) (hzr : R32 z) : HT l yX12_burst cX12_burst 2 (some .int) 6 0 0 w [ar 400, ai z] (fun r w' => r = some (ai (if 0 ≤ z ∧ z < 2 then (baM (th w) z.toNat np).1 else -1)) ∧ w' = (if 0 ≤ z ∧ z < 2 then (baM (th w) z.toNat np).2 else th w)) := by
  refine HT.of (by decide) (by intro v hv; simp only [List.mem_cons, List.not_mem_nil, or_false] at hv; rcases hv with rfl | rfl <;> rfl) (Nat.le_of_ble_eq_true rfl) ?_
  intro Γ h hQ hRm hnm hl hw0
  have s400 : w.1 400 = (112, 0) := hM.1 400 (by decide) (by decide)
  by_cases hz : 0 ≤ z ∧ z < 2
  · obtain ⟨L, rfl⟩ : ∃ L : Nat, z = (L : Int) := ⟨z.toNat, by omega⟩
    have hL : L < 2 := by omega
    have eL : ((L : Int)).toNat = L := Int.toNat_natCast L
    rw [eL] at hQ
    refine g_aload_n h dX12_burst_0 rfl ?_
    refine g_iconst h dX12_burst_1 ?_
    refine g_putI h flX12_1 rfl rfl (by assumption) dX12_burst_2 ?_
    refine g_iload_n h dX12_burst_5 rfl ?_
    refine g_callS h rfl [_] (c_X12_isLake _ _ _ ⟨by omega, by omega⟩) clX12_182 st_X12_isLake rfl rfl (by rw [hRm]; first | decide | (simp only [clS]; omega)) (by rw [hRm]; first | decide | (simp only [clS]; omega)) (fun _ => Nat.le_of_ble_eq_true rfl) (by rw [hRm]; first | decide | (simp only [clS]; omega)) (by rw [hRm]; first | decide | (simp only [clS]; omega)) dX12_burst_6 (fun r6 w6 hp6 => ?_)
    obtain ⟨rfl, hw6⟩ := hp6
    rw [hw6]
    rw [if_pos hz]
    refine g_if_eq (tgt := 20) h dX12_burst_9 (by decide) (by first | assumption | exact ⟨by omega, by omega⟩) (fun c9 => ?_) (fun c9 => ?_)
    · refine g_iconst h dX12_burst_20 ?_
      refine g_iret h hQ (by first | decide | omega | (simp only [clS]; omega)) (by first | decide | omega | (simp only [clS]; omega)) ?_ dX12_burst_21
      first
      | (exfalso; omega)
      | (exact ⟨congrArg (fun z => some (ai z)) (if_pos hz).symm, (if_pos hz).symm⟩)
    · refine g_aload_n h dX12_burst_12 rfl ?_
      refine g_iload_n h dX12_burst_13 rfl ?_
      refine g_callV h rfl (ci := 12) [_] (by assumption) (c_X12_burstAhead _ _ L np (MS_th hM) hG hN hP hL) clX12_271 (by decide) rfl in_X12_burstAhead se_X12_burstAhead rfl rfl (by rw [hRm]; first | decide | (simp only [clS]; omega)) (by rw [hRm]; first | decide | (simp only [clS]; omega)) (fun _ => Nat.le_of_ble_eq_true rfl) (by rw [hRm]; first | decide | (simp only [clS]; omega)) (by rw [hRm]; first | decide | (simp only [clS]; omega)) dX12_burst_14 (fun r14 w14 hp14 => ?_)
      obtain ⟨rfl, hw14⟩ := hp14
      rw [hw14]
      refine g_goto (tgt := 21) h dX12_burst_17 (by decide) ?_
      refine g_iret h hQ (by first | decide | omega | (simp only [clS]; omega)) (by first | decide | omega | (simp only [clS]; omega)) ?_ dX12_burst_21
      first
      | (exfalso; omega)
      | (exact ⟨congrArg (fun z => some (ai z)) (if_pos hz).symm, (if_pos hz).symm⟩)
  · skip
    refine g_aload_n h dX12_burst_0 rfl ?_
    refine g_iconst h dX12_burst_1 ?_
    refine g_putI h flX12_1 rfl rfl (by assumption) dX12_burst_2 ?_
    refine g_iload_n h dX12_burst_5 rfl ?_
    refine g_callS h rfl [_] (c_X12_isLake _ _ _ ⟨by omega, by omega⟩) clX12_182 st_X12_isLake rfl rfl (by rw [hRm]; first | decide | (simp only [clS]; omega)) (by rw [hRm]; first | decide | (simp only [clS]; omega)) (fun _ => Nat.le_of_ble_eq_true rfl) (by rw [hRm]; first | decide | (simp only [clS]; omega)) (by rw [hRm]; first | decide | (simp only [clS]; omega)) dX12_burst_6 (fun r6 w6 hp6 => ?_)
    obtain ⟨rfl, hw6⟩ := hp6
    rw [hw6]
    rw [if_neg hz]
    refine g_if_eq (tgt := 20) h dX12_burst_9 (by decide) (by first | assumption | exact ⟨by omega, by omega⟩) (fun c9 => ?_) (fun c9 => ?_)
    · refine g_iconst h dX12_burst_20 ?_
      refine g_iret h hQ (by first | decide | omega | (simp only [clS]; omega)) (by first | decide | omega | (simp only [clS]; omega)) ?_ dX12_burst_21
      first
      | (exfalso; omega)
      | (exact ⟨congrArg (fun z => some (ai z)) (if_neg hz).symm, (if_neg hz).symm⟩)
    · exfalso; omega
set_option maxRecDepth 100000 in
set_option maxHeartbeats 4000000 in
theorem c_X12_until (l : Launch) (w : AW) (np : Nat) (z f : Int) (hM : MS w) (hG : MG w) (hN : MN w) (hP : MPI w np) (hzr : R32 z) (hfr : R32 f) : HT l yX12_until cX12_until 5 (some .int) 6 0 0 w [ar 400, ai z, ai f] (fun r w' => r = some (ai (if 0 ≤ z ∧ z < 2 then (if 1 ≤ f ∧ f ≤ 999 then (duM z.toNat np f 365 0 (tkW (th w) z.toNat np)).1 else -1) else -1)) ∧ w' = (if 0 ≤ z ∧ z < 2 then (if 1 ≤ f ∧ f ≤ 999 then tM (duM z.toNat np f 365 0 (tkW (th w) z.toNat np)).2 0 else tM (th w) 2) else tM (th w) 1)) := by
  refine HT.of (by decide) (by intro v hv; simp only [List.mem_cons, List.not_mem_nil, or_false] at hv; rcases hv with rfl | rfl | rfl <;> rfl) (Nat.le_of_ble_eq_true rfl) ?_
  intro Γ h hQ hRm hnm hl hw0
  have s400 : w.1 400 = (112, 0) := hM.1 400 (by decide) (by decide)
  by_cases hz : 0 ≤ z ∧ z < 2
  · obtain ⟨L, rfl⟩ : ∃ L : Nat, z = (L : Int) := ⟨z.toNat, by omega⟩
    have hL : L < 2 := by omega
    have eL : ((L : Int)).toNat = L := Int.toNat_natCast L
    rw [eL] at hQ
    have hM0 : MS (tkW (th w) L np) := MS_of rfl rfl hM
    obtain ⟨hN0, hQ0, hb0⟩ := tk_ok (w := th w) (L := L) hL hG hN hP
    have isL : ∀ (u : AW) (d : Int), 1 ≤ f ∧ f ≤ 999 → MS u → MN u → RB3 (gH u) → 0 ≤ d ∧ d ≤ 365 → ((-2 : Int), u) = (duM L np f 365 0 (tkW (th w) L np)) → GG Γ 45 [some (ar 400), some (ai (L : Int)), some (ai f), some (ai d), some (ai 1)] [] u 0 0 := by
      intro u d hf hMu hNu hbu hd hrun
      have t400 : u.1 400 = (112, 0) := hMu.1 400 (by decide) (by decide)
      have hfb := fhM_bd (L := L) hbu
      refine g_aload_n h dX12_until_45 rfl ?_
      refine g_iload_n h dX12_until_46 rfl ?_
      refine g_callV h rfl (ci := 12) [_] (by assumption) (c_X12_fullHere _ _ L hMu hNu hL (fun j hj => ⟨(hbu j hj).1, (hbu j hj).2.1⟩)) clX12_243 (by decide) rfl in_X12_fullHere se_X12_fullHere rfl rfl (by rw [hRm]; first | decide | (simp only [clS]; omega)) (by rw [hRm]; first | decide | (simp only [clS]; omega)) (fun _ => Nat.le_of_ble_eq_true rfl) (by rw [hRm]; first | decide | (simp only [clS]; omega)) (by rw [hRm]; first | decide | (simp only [clS]; omega)) dX12_until_47 (fun r47 w47 hp47 => ?_)
      obtain ⟨rfl, hw47⟩ := hp47
      rw [hw47]
      change GG Γ _ _ (ai (fhM u L) :: _) u _ _
      refine g_iload_n h dX12_until_50 rfl ?_
      refine g_icmp_ge (tgt := 79) h dX12_until_51 (by decide) (by first | assumption | exact ⟨by omega, by omega⟩) (by first | assumption | exact ⟨by omega, by omega⟩) (fun c51 => ?_) (fun c51 => ?_)
      · refine g_aload_n h dX12_until_79 rfl ?_
        refine g_iload h dX12_until_80 rfl ?_
        refine g_if_ne (tgt := 94) h dX12_until_82 (by decide) (by first | assumption | exact ⟨by omega, by omega⟩) (fun c82 => ?_) (fun c82 => ?_)
        · refine g_bipush h dX12_until_94 rfl ?_
          refine g_goto (tgt := 100) h dX12_until_96 (by decide) ?_
          refine g_callV h rfl (ci := 12) [_] (by assumption) (c_X12_done _ _ _ hMu) clX12_277 (by decide) rfl in_X12_done se_X12_done rfl rfl (by rw [hRm]; first | decide | (simp only [clS]; omega)) (by rw [hRm]; first | decide | (simp only [clS]; omega)) (fun _ => Nat.le_of_ble_eq_true rfl) (by rw [hRm]; first | decide | (simp only [clS]; omega)) (by rw [hRm]; first | decide | (simp only [clS]; omega)) dX12_until_100 (fun r100 w100 hp100 => ?_)
          obtain ⟨rfl, hw100⟩ := hp100
          rw [hw100]
          refine g_iret h hQ (by first | decide | omega | (simp only [clS]; omega)) (by first | decide | omega | (simp only [clS]; omega)) ?_ dX12_until_103
          first
          | (exfalso; omega)
          | (refine ⟨?_, ?_⟩
             · rw [if_pos hz, if_pos hf, ← hrun]
             · rw [if_pos hz, if_pos hf, ← hrun])
        · refine g_aload_n h dX12_until_85 rfl ?_
          refine g_iload_n h dX12_until_86 rfl ?_
          refine g_callV h rfl (ci := 12) [_] (by assumption) (c_X12_fullHere _ _ L hMu hNu hL (fun j hj => ⟨(hbu j hj).1, (hbu j hj).2.1⟩)) clX12_243 (by decide) rfl in_X12_fullHere se_X12_fullHere rfl rfl (by rw [hRm]; first | decide | (simp only [clS]; omega)) (by rw [hRm]; first | decide | (simp only [clS]; omega)) (fun _ => Nat.le_of_ble_eq_true rfl) (by rw [hRm]; first | decide | (simp only [clS]; omega)) (by rw [hRm]; first | decide | (simp only [clS]; omega)) dX12_until_87 (fun r87 w87 hp87 => ?_)
          obtain ⟨rfl, hw87⟩ := hp87
          rw [hw87]
          change GG Γ _ _ (ai (fhM u L) :: _) u _ _
          refine g_iload_n h dX12_until_90 rfl ?_
          refine g_icmp_ge (tgt := 99) h dX12_until_91 (by decide) (by first | assumption | exact ⟨by omega, by omega⟩) (by first | assumption | exact ⟨by omega, by omega⟩) (fun c91 => ?_) (fun c91 => ?_)
          · refine g_iload_n h dX12_until_99 rfl ?_
            refine g_callV h rfl (ci := 12) [_] (by assumption) (c_X12_done _ _ _ hMu) clX12_277 (by decide) rfl in_X12_done se_X12_done rfl rfl (by rw [hRm]; first | decide | (simp only [clS]; omega)) (by rw [hRm]; first | decide | (simp only [clS]; omega)) (fun _ => Nat.le_of_ble_eq_true rfl) (by rw [hRm]; first | decide | (simp only [clS]; omega)) (by rw [hRm]; first | decide | (simp only [clS]; omega)) dX12_until_100 (fun r100 w100 hp100 => ?_)
            obtain ⟨rfl, hw100⟩ := hp100
            rw [hw100]
            refine g_iret h hQ (by first | decide | omega | (simp only [clS]; omega)) (by first | decide | omega | (simp only [clS]; omega)) ?_ dX12_until_103
            first
            | (exfalso; omega)
            | (refine ⟨?_, ?_⟩
               · rw [if_pos hz, if_pos hf, ← hrun]
               · rw [if_pos hz, if_pos hf, ← hrun])
          · refine g_bipush h dX12_until_94 rfl ?_
            refine g_goto (tgt := 100) h dX12_until_96 (by decide) ?_
            refine g_callV h rfl (ci := 12) [_] (by assumption) (c_X12_done _ _ _ hMu) clX12_277 (by decide) rfl in_X12_done se_X12_done rfl rfl (by rw [hRm]; first | decide | (simp only [clS]; omega)) (by rw [hRm]; first | decide | (simp only [clS]; omega)) (fun _ => Nat.le_of_ble_eq_true rfl) (by rw [hRm]; first | decide | (simp only [clS]; omega)) (by rw [hRm]; first | decide | (simp only [clS]; omega)) dX12_until_100 (fun r100 w100 hp100 => ?_)
            obtain ⟨rfl, hw100⟩ := hp100
            rw [hw100]
            refine g_iret h hQ (by first | decide | omega | (simp only [clS]; omega)) (by first | decide | omega | (simp only [clS]; omega)) ?_ dX12_until_103
            first
            | (exfalso; omega)
            | (refine ⟨?_, ?_⟩
               · rw [if_pos hz, if_pos hf, ← hrun]
               · rw [if_pos hz, if_pos hf, ← hrun])
      · refine g_iload_n h dX12_until_54 rfl ?_
        refine g_sipush h dX12_until_55 rfl ?_
        refine g_icmp_ge (tgt := 79) h dX12_until_58 (by decide) (by first | assumption | exact ⟨by omega, by omega⟩) (by first | assumption | exact ⟨by omega, by omega⟩) (fun c58 => ?_) (fun c58 => ?_)
        · refine g_aload_n h dX12_until_79 rfl ?_
          refine g_iload h dX12_until_80 rfl ?_
          refine g_if_ne (tgt := 94) h dX12_until_82 (by decide) (by first | assumption | exact ⟨by omega, by omega⟩) (fun c82 => ?_) (fun c82 => ?_)
          · refine g_bipush h dX12_until_94 rfl ?_
            refine g_goto (tgt := 100) h dX12_until_96 (by decide) ?_
            refine g_callV h rfl (ci := 12) [_] (by assumption) (c_X12_done _ _ _ hMu) clX12_277 (by decide) rfl in_X12_done se_X12_done rfl rfl (by rw [hRm]; first | decide | (simp only [clS]; omega)) (by rw [hRm]; first | decide | (simp only [clS]; omega)) (fun _ => Nat.le_of_ble_eq_true rfl) (by rw [hRm]; first | decide | (simp only [clS]; omega)) (by rw [hRm]; first | decide | (simp only [clS]; omega)) dX12_until_100 (fun r100 w100 hp100 => ?_)
            obtain ⟨rfl, hw100⟩ := hp100
            rw [hw100]
            refine g_iret h hQ (by first | decide | omega | (simp only [clS]; omega)) (by first | decide | omega | (simp only [clS]; omega)) ?_ dX12_until_103
            first
            | (exfalso; omega)
            | (refine ⟨?_, ?_⟩
               · rw [if_pos hz, if_pos hf, ← hrun]
               · rw [if_pos hz, if_pos hf, ← hrun])
          · refine g_aload_n h dX12_until_85 rfl ?_
            refine g_iload_n h dX12_until_86 rfl ?_
            refine g_callV h rfl (ci := 12) [_] (by assumption) (c_X12_fullHere _ _ L hMu hNu hL (fun j hj => ⟨(hbu j hj).1, (hbu j hj).2.1⟩)) clX12_243 (by decide) rfl in_X12_fullHere se_X12_fullHere rfl rfl (by rw [hRm]; first | decide | (simp only [clS]; omega)) (by rw [hRm]; first | decide | (simp only [clS]; omega)) (fun _ => Nat.le_of_ble_eq_true rfl) (by rw [hRm]; first | decide | (simp only [clS]; omega)) (by rw [hRm]; first | decide | (simp only [clS]; omega)) dX12_until_87 (fun r87 w87 hp87 => ?_)
            obtain ⟨rfl, hw87⟩ := hp87
            rw [hw87]
            change GG Γ _ _ (ai (fhM u L) :: _) u _ _
            refine g_iload_n h dX12_until_90 rfl ?_
            refine g_icmp_ge (tgt := 99) h dX12_until_91 (by decide) (by first | assumption | exact ⟨by omega, by omega⟩) (by first | assumption | exact ⟨by omega, by omega⟩) (fun c91 => ?_) (fun c91 => ?_)
            · refine g_iload_n h dX12_until_99 rfl ?_
              refine g_callV h rfl (ci := 12) [_] (by assumption) (c_X12_done _ _ _ hMu) clX12_277 (by decide) rfl in_X12_done se_X12_done rfl rfl (by rw [hRm]; first | decide | (simp only [clS]; omega)) (by rw [hRm]; first | decide | (simp only [clS]; omega)) (fun _ => Nat.le_of_ble_eq_true rfl) (by rw [hRm]; first | decide | (simp only [clS]; omega)) (by rw [hRm]; first | decide | (simp only [clS]; omega)) dX12_until_100 (fun r100 w100 hp100 => ?_)
              obtain ⟨rfl, hw100⟩ := hp100
              rw [hw100]
              refine g_iret h hQ (by first | decide | omega | (simp only [clS]; omega)) (by first | decide | omega | (simp only [clS]; omega)) ?_ dX12_until_103
              first
              | (exfalso; omega)
              | (refine ⟨?_, ?_⟩
                 · rw [if_pos hz, if_pos hf, ← hrun]
                 · rw [if_pos hz, if_pos hf, ← hrun])
            · refine g_bipush h dX12_until_94 rfl ?_
              refine g_goto (tgt := 100) h dX12_until_96 (by decide) ?_
              refine g_callV h rfl (ci := 12) [_] (by assumption) (c_X12_done _ _ _ hMu) clX12_277 (by decide) rfl in_X12_done se_X12_done rfl rfl (by rw [hRm]; first | decide | (simp only [clS]; omega)) (by rw [hRm]; first | decide | (simp only [clS]; omega)) (fun _ => Nat.le_of_ble_eq_true rfl) (by rw [hRm]; first | decide | (simp only [clS]; omega)) (by rw [hRm]; first | decide | (simp only [clS]; omega)) dX12_until_100 (fun r100 w100 hp100 => ?_)
              obtain ⟨rfl, hw100⟩ := hp100
              rw [hw100]
              refine g_iret h hQ (by first | decide | omega | (simp only [clS]; omega)) (by first | decide | omega | (simp only [clS]; omega)) ?_ dX12_until_103
              first
              | (exfalso; omega)
              | (refine ⟨?_, ?_⟩
                 · rw [if_pos hz, if_pos hf, ← hrun]
                 · rw [if_pos hz, if_pos hf, ← hrun])
        · refine g_iload h dX12_until_61 rfl ?_
          refine g_if_ne (tgt := 79) h dX12_until_63 (by decide) (by first | assumption | exact ⟨by omega, by omega⟩) (fun c63 => ?_) (fun c63 => ?_)
          · refine g_aload_n h dX12_until_79 rfl ?_
            refine g_iload h dX12_until_80 rfl ?_
            refine g_if_ne (tgt := 94) h dX12_until_82 (by decide) (by first | assumption | exact ⟨by omega, by omega⟩) (fun c82 => ?_) (fun c82 => ?_)
            · refine g_bipush h dX12_until_94 rfl ?_
              refine g_goto (tgt := 100) h dX12_until_96 (by decide) ?_
              refine g_callV h rfl (ci := 12) [_] (by assumption) (c_X12_done _ _ _ hMu) clX12_277 (by decide) rfl in_X12_done se_X12_done rfl rfl (by rw [hRm]; first | decide | (simp only [clS]; omega)) (by rw [hRm]; first | decide | (simp only [clS]; omega)) (fun _ => Nat.le_of_ble_eq_true rfl) (by rw [hRm]; first | decide | (simp only [clS]; omega)) (by rw [hRm]; first | decide | (simp only [clS]; omega)) dX12_until_100 (fun r100 w100 hp100 => ?_)
              obtain ⟨rfl, hw100⟩ := hp100
              rw [hw100]
              refine g_iret h hQ (by first | decide | omega | (simp only [clS]; omega)) (by first | decide | omega | (simp only [clS]; omega)) ?_ dX12_until_103
              first
              | (exfalso; omega)
              | (refine ⟨?_, ?_⟩
                 · rw [if_pos hz, if_pos hf, ← hrun]
                 · rw [if_pos hz, if_pos hf, ← hrun])
            · refine g_aload_n h dX12_until_85 rfl ?_
              refine g_iload_n h dX12_until_86 rfl ?_
              refine g_callV h rfl (ci := 12) [_] (by assumption) (c_X12_fullHere _ _ L hMu hNu hL (fun j hj => ⟨(hbu j hj).1, (hbu j hj).2.1⟩)) clX12_243 (by decide) rfl in_X12_fullHere se_X12_fullHere rfl rfl (by rw [hRm]; first | decide | (simp only [clS]; omega)) (by rw [hRm]; first | decide | (simp only [clS]; omega)) (fun _ => Nat.le_of_ble_eq_true rfl) (by rw [hRm]; first | decide | (simp only [clS]; omega)) (by rw [hRm]; first | decide | (simp only [clS]; omega)) dX12_until_87 (fun r87 w87 hp87 => ?_)
              obtain ⟨rfl, hw87⟩ := hp87
              rw [hw87]
              change GG Γ _ _ (ai (fhM u L) :: _) u _ _
              refine g_iload_n h dX12_until_90 rfl ?_
              refine g_icmp_ge (tgt := 99) h dX12_until_91 (by decide) (by first | assumption | exact ⟨by omega, by omega⟩) (by first | assumption | exact ⟨by omega, by omega⟩) (fun c91 => ?_) (fun c91 => ?_)
              · refine g_iload_n h dX12_until_99 rfl ?_
                refine g_callV h rfl (ci := 12) [_] (by assumption) (c_X12_done _ _ _ hMu) clX12_277 (by decide) rfl in_X12_done se_X12_done rfl rfl (by rw [hRm]; first | decide | (simp only [clS]; omega)) (by rw [hRm]; first | decide | (simp only [clS]; omega)) (fun _ => Nat.le_of_ble_eq_true rfl) (by rw [hRm]; first | decide | (simp only [clS]; omega)) (by rw [hRm]; first | decide | (simp only [clS]; omega)) dX12_until_100 (fun r100 w100 hp100 => ?_)
                obtain ⟨rfl, hw100⟩ := hp100
                rw [hw100]
                refine g_iret h hQ (by first | decide | omega | (simp only [clS]; omega)) (by first | decide | omega | (simp only [clS]; omega)) ?_ dX12_until_103
                first
                | (exfalso; omega)
                | (refine ⟨?_, ?_⟩
                   · rw [if_pos hz, if_pos hf, ← hrun]
                   · rw [if_pos hz, if_pos hf, ← hrun])
              · refine g_bipush h dX12_until_94 rfl ?_
                refine g_goto (tgt := 100) h dX12_until_96 (by decide) ?_
                refine g_callV h rfl (ci := 12) [_] (by assumption) (c_X12_done _ _ _ hMu) clX12_277 (by decide) rfl in_X12_done se_X12_done rfl rfl (by rw [hRm]; first | decide | (simp only [clS]; omega)) (by rw [hRm]; first | decide | (simp only [clS]; omega)) (fun _ => Nat.le_of_ble_eq_true rfl) (by rw [hRm]; first | decide | (simp only [clS]; omega)) (by rw [hRm]; first | decide | (simp only [clS]; omega)) dX12_until_100 (fun r100 w100 hp100 => ?_)
                obtain ⟨rfl, hw100⟩ := hp100
                rw [hw100]
                refine g_iret h hQ (by first | decide | omega | (simp only [clS]; omega)) (by first | decide | omega | (simp only [clS]; omega)) ?_ dX12_until_103
                first
                | (exfalso; omega)
                | (refine ⟨?_, ?_⟩
                   · rw [if_pos hz, if_pos hf, ← hrun]
                   · rw [if_pos hz, if_pos hf, ← hrun])
          · exfalso; omega
    have loop : ∀ (n : Nat) (d : Int) (u : AW), 1 ≤ f ∧ f ≤ 999 → 0 ≤ d → d + n = 365 → MS u → MN u → MQ2 u np → RB3 (gH u) → duM L np f n d u = (duM L np f 365 0 (tkW (th w) L np)) → GG Γ 45 [some (ar 400), some (ai (L : Int)), some (ai f), some (ai d), some (ai 0)] [] u 0 0 := by
      intro n
      induction n with
      | zero =>
        intro d u hf hd0 hdn hMu hNu hQu hbu hrun
        have hrun2 : (if f ≤ fhM u L then (d, u) else ((-2 : Int), u)) = (duM L np f 365 0 (tkW (th w) L np)) := hrun
        have t400 : u.1 400 = (112, 0) := hMu.1 400 (by decide) (by decide)
        have hfb := fhM_bd (L := L) hbu
        refine g_aload_n h dX12_until_45 rfl ?_
        refine g_iload_n h dX12_until_46 rfl ?_
        refine g_callV h rfl (ci := 12) [_] (by assumption) (c_X12_fullHere _ _ L hMu hNu hL (fun j hj => ⟨(hbu j hj).1, (hbu j hj).2.1⟩)) clX12_243 (by decide) rfl in_X12_fullHere se_X12_fullHere rfl rfl (by rw [hRm]; first | decide | (simp only [clS]; omega)) (by rw [hRm]; first | decide | (simp only [clS]; omega)) (fun _ => Nat.le_of_ble_eq_true rfl) (by rw [hRm]; first | decide | (simp only [clS]; omega)) (by rw [hRm]; first | decide | (simp only [clS]; omega)) dX12_until_47 (fun r47 w47 hp47 => ?_)
        obtain ⟨rfl, hw47⟩ := hp47
        rw [hw47]
        change GG Γ _ _ (ai (fhM u L) :: _) u _ _
        refine g_iload_n h dX12_until_50 rfl ?_
        refine g_icmp_ge (tgt := 79) h dX12_until_51 (by decide) (by first | assumption | exact ⟨by omega, by omega⟩) (by first | assumption | exact ⟨by omega, by omega⟩) (fun c51 => ?_) (fun c51 => ?_)
        · refine g_aload_n h dX12_until_79 rfl ?_
          refine g_iload h dX12_until_80 rfl ?_
          refine g_if_ne (tgt := 94) h dX12_until_82 (by decide) (by first | assumption | exact ⟨by omega, by omega⟩) (fun c82 => ?_) (fun c82 => ?_)
          · refine g_bipush h dX12_until_94 rfl ?_
            refine g_goto (tgt := 100) h dX12_until_96 (by decide) ?_
            refine g_callV h rfl (ci := 12) [_] (by assumption) (c_X12_done _ _ _ hMu) clX12_277 (by decide) rfl in_X12_done se_X12_done rfl rfl (by rw [hRm]; first | decide | (simp only [clS]; omega)) (by rw [hRm]; first | decide | (simp only [clS]; omega)) (fun _ => Nat.le_of_ble_eq_true rfl) (by rw [hRm]; first | decide | (simp only [clS]; omega)) (by rw [hRm]; first | decide | (simp only [clS]; omega)) dX12_until_100 (fun r100 w100 hp100 => ?_)
            obtain ⟨rfl, hw100⟩ := hp100
            rw [hw100]
            refine g_iret h hQ (by first | decide | omega | (simp only [clS]; omega)) (by first | decide | omega | (simp only [clS]; omega)) ?_ dX12_until_103
            first
            | (exfalso; omega)
            | (rw [if_pos (by omega)] at hrun2
               refine ⟨?_, ?_⟩
               · rw [if_pos hz, if_pos hf, ← hrun2]
               · rw [if_pos hz, if_pos hf, ← hrun2])
            | (rw [if_neg (by omega)] at hrun2
               refine ⟨?_, ?_⟩
               · rw [if_pos hz, if_pos hf, ← hrun2]
               · rw [if_pos hz, if_pos hf, ← hrun2])
          · refine g_aload_n h dX12_until_85 rfl ?_
            refine g_iload_n h dX12_until_86 rfl ?_
            refine g_callV h rfl (ci := 12) [_] (by assumption) (c_X12_fullHere _ _ L hMu hNu hL (fun j hj => ⟨(hbu j hj).1, (hbu j hj).2.1⟩)) clX12_243 (by decide) rfl in_X12_fullHere se_X12_fullHere rfl rfl (by rw [hRm]; first | decide | (simp only [clS]; omega)) (by rw [hRm]; first | decide | (simp only [clS]; omega)) (fun _ => Nat.le_of_ble_eq_true rfl) (by rw [hRm]; first | decide | (simp only [clS]; omega)) (by rw [hRm]; first | decide | (simp only [clS]; omega)) dX12_until_87 (fun r87 w87 hp87 => ?_)
            obtain ⟨rfl, hw87⟩ := hp87
            rw [hw87]
            change GG Γ _ _ (ai (fhM u L) :: _) u _ _
            refine g_iload_n h dX12_until_90 rfl ?_
            refine g_icmp_ge (tgt := 99) h dX12_until_91 (by decide) (by first | assumption | exact ⟨by omega, by omega⟩) (by first | assumption | exact ⟨by omega, by omega⟩) (fun c91 => ?_) (fun c91 => ?_)
            · refine g_iload_n h dX12_until_99 rfl ?_
              refine g_callV h rfl (ci := 12) [_] (by assumption) (c_X12_done _ _ _ hMu) clX12_277 (by decide) rfl in_X12_done se_X12_done rfl rfl (by rw [hRm]; first | decide | (simp only [clS]; omega)) (by rw [hRm]; first | decide | (simp only [clS]; omega)) (fun _ => Nat.le_of_ble_eq_true rfl) (by rw [hRm]; first | decide | (simp only [clS]; omega)) (by rw [hRm]; first | decide | (simp only [clS]; omega)) dX12_until_100 (fun r100 w100 hp100 => ?_)
              obtain ⟨rfl, hw100⟩ := hp100
              rw [hw100]
              refine g_iret h hQ (by first | decide | omega | (simp only [clS]; omega)) (by first | decide | omega | (simp only [clS]; omega)) ?_ dX12_until_103
              first
              | (exfalso; omega)
              | (rw [if_pos (by omega)] at hrun2
                 refine ⟨?_, ?_⟩
                 · rw [if_pos hz, if_pos hf, ← hrun2]
                 · rw [if_pos hz, if_pos hf, ← hrun2])
              | (rw [if_neg (by omega)] at hrun2
                 refine ⟨?_, ?_⟩
                 · rw [if_pos hz, if_pos hf, ← hrun2]
                 · rw [if_pos hz, if_pos hf, ← hrun2])
            · refine g_bipush h dX12_until_94 rfl ?_
              refine g_goto (tgt := 100) h dX12_until_96 (by decide) ?_
              refine g_callV h rfl (ci := 12) [_] (by assumption) (c_X12_done _ _ _ hMu) clX12_277 (by decide) rfl in_X12_done se_X12_done rfl rfl (by rw [hRm]; first | decide | (simp only [clS]; omega)) (by rw [hRm]; first | decide | (simp only [clS]; omega)) (fun _ => Nat.le_of_ble_eq_true rfl) (by rw [hRm]; first | decide | (simp only [clS]; omega)) (by rw [hRm]; first | decide | (simp only [clS]; omega)) dX12_until_100 (fun r100 w100 hp100 => ?_)
              obtain ⟨rfl, hw100⟩ := hp100
              rw [hw100]
              refine g_iret h hQ (by first | decide | omega | (simp only [clS]; omega)) (by first | decide | omega | (simp only [clS]; omega)) ?_ dX12_until_103
              first
              | (exfalso; omega)
              | (rw [if_pos (by omega)] at hrun2
                 refine ⟨?_, ?_⟩
                 · rw [if_pos hz, if_pos hf, ← hrun2]
                 · rw [if_pos hz, if_pos hf, ← hrun2])
              | (rw [if_neg (by omega)] at hrun2
                 refine ⟨?_, ?_⟩
                 · rw [if_pos hz, if_pos hf, ← hrun2]
                 · rw [if_pos hz, if_pos hf, ← hrun2])
        · refine g_iload_n h dX12_until_54 rfl ?_
          refine g_sipush h dX12_until_55 rfl ?_
          refine g_icmp_ge (tgt := 79) h dX12_until_58 (by decide) (by first | assumption | exact ⟨by omega, by omega⟩) (by first | assumption | exact ⟨by omega, by omega⟩) (fun c58 => ?_) (fun c58 => ?_)
          · refine g_aload_n h dX12_until_79 rfl ?_
            refine g_iload h dX12_until_80 rfl ?_
            refine g_if_ne (tgt := 94) h dX12_until_82 (by decide) (by first | assumption | exact ⟨by omega, by omega⟩) (fun c82 => ?_) (fun c82 => ?_)
            · refine g_bipush h dX12_until_94 rfl ?_
              refine g_goto (tgt := 100) h dX12_until_96 (by decide) ?_
              refine g_callV h rfl (ci := 12) [_] (by assumption) (c_X12_done _ _ _ hMu) clX12_277 (by decide) rfl in_X12_done se_X12_done rfl rfl (by rw [hRm]; first | decide | (simp only [clS]; omega)) (by rw [hRm]; first | decide | (simp only [clS]; omega)) (fun _ => Nat.le_of_ble_eq_true rfl) (by rw [hRm]; first | decide | (simp only [clS]; omega)) (by rw [hRm]; first | decide | (simp only [clS]; omega)) dX12_until_100 (fun r100 w100 hp100 => ?_)
              obtain ⟨rfl, hw100⟩ := hp100
              rw [hw100]
              refine g_iret h hQ (by first | decide | omega | (simp only [clS]; omega)) (by first | decide | omega | (simp only [clS]; omega)) ?_ dX12_until_103
              first
              | (exfalso; omega)
              | (rw [if_pos (by omega)] at hrun2
                 refine ⟨?_, ?_⟩
                 · rw [if_pos hz, if_pos hf, ← hrun2]
                 · rw [if_pos hz, if_pos hf, ← hrun2])
              | (rw [if_neg (by omega)] at hrun2
                 refine ⟨?_, ?_⟩
                 · rw [if_pos hz, if_pos hf, ← hrun2]
                 · rw [if_pos hz, if_pos hf, ← hrun2])
            · refine g_aload_n h dX12_until_85 rfl ?_
              refine g_iload_n h dX12_until_86 rfl ?_
              refine g_callV h rfl (ci := 12) [_] (by assumption) (c_X12_fullHere _ _ L hMu hNu hL (fun j hj => ⟨(hbu j hj).1, (hbu j hj).2.1⟩)) clX12_243 (by decide) rfl in_X12_fullHere se_X12_fullHere rfl rfl (by rw [hRm]; first | decide | (simp only [clS]; omega)) (by rw [hRm]; first | decide | (simp only [clS]; omega)) (fun _ => Nat.le_of_ble_eq_true rfl) (by rw [hRm]; first | decide | (simp only [clS]; omega)) (by rw [hRm]; first | decide | (simp only [clS]; omega)) dX12_until_87 (fun r87 w87 hp87 => ?_)
              obtain ⟨rfl, hw87⟩ := hp87
              rw [hw87]
              change GG Γ _ _ (ai (fhM u L) :: _) u _ _
              refine g_iload_n h dX12_until_90 rfl ?_
              refine g_icmp_ge (tgt := 99) h dX12_until_91 (by decide) (by first | assumption | exact ⟨by omega, by omega⟩) (by first | assumption | exact ⟨by omega, by omega⟩) (fun c91 => ?_) (fun c91 => ?_)
              · refine g_iload_n h dX12_until_99 rfl ?_
                refine g_callV h rfl (ci := 12) [_] (by assumption) (c_X12_done _ _ _ hMu) clX12_277 (by decide) rfl in_X12_done se_X12_done rfl rfl (by rw [hRm]; first | decide | (simp only [clS]; omega)) (by rw [hRm]; first | decide | (simp only [clS]; omega)) (fun _ => Nat.le_of_ble_eq_true rfl) (by rw [hRm]; first | decide | (simp only [clS]; omega)) (by rw [hRm]; first | decide | (simp only [clS]; omega)) dX12_until_100 (fun r100 w100 hp100 => ?_)
                obtain ⟨rfl, hw100⟩ := hp100
                rw [hw100]
                refine g_iret h hQ (by first | decide | omega | (simp only [clS]; omega)) (by first | decide | omega | (simp only [clS]; omega)) ?_ dX12_until_103
                first
                | (exfalso; omega)
                | (rw [if_pos (by omega)] at hrun2
                   refine ⟨?_, ?_⟩
                   · rw [if_pos hz, if_pos hf, ← hrun2]
                   · rw [if_pos hz, if_pos hf, ← hrun2])
                | (rw [if_neg (by omega)] at hrun2
                   refine ⟨?_, ?_⟩
                   · rw [if_pos hz, if_pos hf, ← hrun2]
                   · rw [if_pos hz, if_pos hf, ← hrun2])
              · refine g_bipush h dX12_until_94 rfl ?_
                refine g_goto (tgt := 100) h dX12_until_96 (by decide) ?_
                refine g_callV h rfl (ci := 12) [_] (by assumption) (c_X12_done _ _ _ hMu) clX12_277 (by decide) rfl in_X12_done se_X12_done rfl rfl (by rw [hRm]; first | decide | (simp only [clS]; omega)) (by rw [hRm]; first | decide | (simp only [clS]; omega)) (fun _ => Nat.le_of_ble_eq_true rfl) (by rw [hRm]; first | decide | (simp only [clS]; omega)) (by rw [hRm]; first | decide | (simp only [clS]; omega)) dX12_until_100 (fun r100 w100 hp100 => ?_)
                obtain ⟨rfl, hw100⟩ := hp100
                rw [hw100]
                refine g_iret h hQ (by first | decide | omega | (simp only [clS]; omega)) (by first | decide | omega | (simp only [clS]; omega)) ?_ dX12_until_103
                first
                | (exfalso; omega)
                | (rw [if_pos (by omega)] at hrun2
                   refine ⟨?_, ?_⟩
                   · rw [if_pos hz, if_pos hf, ← hrun2]
                   · rw [if_pos hz, if_pos hf, ← hrun2])
                | (rw [if_neg (by omega)] at hrun2
                   refine ⟨?_, ?_⟩
                   · rw [if_pos hz, if_pos hf, ← hrun2]
                   · rw [if_pos hz, if_pos hf, ← hrun2])
          · exfalso; omega
      | succ n ih =>
        intro d u hf hd0 hdn hMu hNu hQu hbu hrun
        have hrun2 : (if f ≤ fhM u L then (d, u) else if mdB u L np = 1 then ((-2 : Int), mdW u L np) else duM L np f n (d + 1) (mdW u L np)) = (duM L np f 365 0 (tkW (th w) L np)) := hrun
        have t400 : u.1 400 = (112, 0) := hMu.1 400 (by decide) (by decide)
        have hfb := fhM_bd (L := L) hbu
        have h01 := mdB_01 u L np
        obtain ⟨hN2, hQ2, hb2⟩ := mdW_ok (L := L) hNu hL hQu hbu
        have hM2 := MS_of (mdW_1 u L np).1 (mdW_1 u L np).2 hMu
        refine g_aload_n h dX12_until_45 rfl ?_
        refine g_iload_n h dX12_until_46 rfl ?_
        refine g_callV h rfl (ci := 12) [_] (by assumption) (c_X12_fullHere _ _ L hMu hNu hL (fun j hj => ⟨(hbu j hj).1, (hbu j hj).2.1⟩)) clX12_243 (by decide) rfl in_X12_fullHere se_X12_fullHere rfl rfl (by rw [hRm]; first | decide | (simp only [clS]; omega)) (by rw [hRm]; first | decide | (simp only [clS]; omega)) (fun _ => Nat.le_of_ble_eq_true rfl) (by rw [hRm]; first | decide | (simp only [clS]; omega)) (by rw [hRm]; first | decide | (simp only [clS]; omega)) dX12_until_47 (fun r47 w47 hp47 => ?_)
        obtain ⟨rfl, hw47⟩ := hp47
        rw [hw47]
        change GG Γ _ _ (ai (fhM u L) :: _) u _ _
        refine g_iload_n h dX12_until_50 rfl ?_
        refine g_icmp_ge (tgt := 79) h dX12_until_51 (by decide) (by first | assumption | exact ⟨by omega, by omega⟩) (by first | assumption | exact ⟨by omega, by omega⟩) (fun c51 => ?_) (fun c51 => ?_)
        · refine g_aload_n h dX12_until_79 rfl ?_
          refine g_iload h dX12_until_80 rfl ?_
          refine g_if_ne (tgt := 94) h dX12_until_82 (by decide) (by first | assumption | exact ⟨by omega, by omega⟩) (fun c82 => ?_) (fun c82 => ?_)
          · refine g_bipush h dX12_until_94 rfl ?_
            refine g_goto (tgt := 100) h dX12_until_96 (by decide) ?_
            refine g_callV h rfl (ci := 12) [_] (by assumption) (c_X12_done _ _ _ hMu) clX12_277 (by decide) rfl in_X12_done se_X12_done rfl rfl (by rw [hRm]; first | decide | (simp only [clS]; omega)) (by rw [hRm]; first | decide | (simp only [clS]; omega)) (fun _ => Nat.le_of_ble_eq_true rfl) (by rw [hRm]; first | decide | (simp only [clS]; omega)) (by rw [hRm]; first | decide | (simp only [clS]; omega)) dX12_until_100 (fun r100 w100 hp100 => ?_)
            obtain ⟨rfl, hw100⟩ := hp100
            rw [hw100]
            refine g_iret h hQ (by first | decide | omega | (simp only [clS]; omega)) (by first | decide | omega | (simp only [clS]; omega)) ?_ dX12_until_103
            first
            | (exfalso; omega)
            | (rw [if_pos (by omega)] at hrun2
               refine ⟨?_, ?_⟩
               · rw [if_pos hz, if_pos hf, ← hrun2]
               · rw [if_pos hz, if_pos hf, ← hrun2])
            | (rw [if_neg (by omega)] at hrun2
               refine ⟨?_, ?_⟩
               · rw [if_pos hz, if_pos hf, ← hrun2]
               · rw [if_pos hz, if_pos hf, ← hrun2])
          · refine g_aload_n h dX12_until_85 rfl ?_
            refine g_iload_n h dX12_until_86 rfl ?_
            refine g_callV h rfl (ci := 12) [_] (by assumption) (c_X12_fullHere _ _ L hMu hNu hL (fun j hj => ⟨(hbu j hj).1, (hbu j hj).2.1⟩)) clX12_243 (by decide) rfl in_X12_fullHere se_X12_fullHere rfl rfl (by rw [hRm]; first | decide | (simp only [clS]; omega)) (by rw [hRm]; first | decide | (simp only [clS]; omega)) (fun _ => Nat.le_of_ble_eq_true rfl) (by rw [hRm]; first | decide | (simp only [clS]; omega)) (by rw [hRm]; first | decide | (simp only [clS]; omega)) dX12_until_87 (fun r87 w87 hp87 => ?_)
            obtain ⟨rfl, hw87⟩ := hp87
            rw [hw87]
            change GG Γ _ _ (ai (fhM u L) :: _) u _ _
            refine g_iload_n h dX12_until_90 rfl ?_
            refine g_icmp_ge (tgt := 99) h dX12_until_91 (by decide) (by first | assumption | exact ⟨by omega, by omega⟩) (by first | assumption | exact ⟨by omega, by omega⟩) (fun c91 => ?_) (fun c91 => ?_)
            · refine g_iload_n h dX12_until_99 rfl ?_
              refine g_callV h rfl (ci := 12) [_] (by assumption) (c_X12_done _ _ _ hMu) clX12_277 (by decide) rfl in_X12_done se_X12_done rfl rfl (by rw [hRm]; first | decide | (simp only [clS]; omega)) (by rw [hRm]; first | decide | (simp only [clS]; omega)) (fun _ => Nat.le_of_ble_eq_true rfl) (by rw [hRm]; first | decide | (simp only [clS]; omega)) (by rw [hRm]; first | decide | (simp only [clS]; omega)) dX12_until_100 (fun r100 w100 hp100 => ?_)
              obtain ⟨rfl, hw100⟩ := hp100
              rw [hw100]
              refine g_iret h hQ (by first | decide | omega | (simp only [clS]; omega)) (by first | decide | omega | (simp only [clS]; omega)) ?_ dX12_until_103
              first
              | (exfalso; omega)
              | (rw [if_pos (by omega)] at hrun2
                 refine ⟨?_, ?_⟩
                 · rw [if_pos hz, if_pos hf, ← hrun2]
                 · rw [if_pos hz, if_pos hf, ← hrun2])
              | (rw [if_neg (by omega)] at hrun2
                 refine ⟨?_, ?_⟩
                 · rw [if_pos hz, if_pos hf, ← hrun2]
                 · rw [if_pos hz, if_pos hf, ← hrun2])
            · refine g_bipush h dX12_until_94 rfl ?_
              refine g_goto (tgt := 100) h dX12_until_96 (by decide) ?_
              refine g_callV h rfl (ci := 12) [_] (by assumption) (c_X12_done _ _ _ hMu) clX12_277 (by decide) rfl in_X12_done se_X12_done rfl rfl (by rw [hRm]; first | decide | (simp only [clS]; omega)) (by rw [hRm]; first | decide | (simp only [clS]; omega)) (fun _ => Nat.le_of_ble_eq_true rfl) (by rw [hRm]; first | decide | (simp only [clS]; omega)) (by rw [hRm]; first | decide | (simp only [clS]; omega)) dX12_until_100 (fun r100 w100 hp100 => ?_)
              obtain ⟨rfl, hw100⟩ := hp100
              rw [hw100]
              refine g_iret h hQ (by first | decide | omega | (simp only [clS]; omega)) (by first | decide | omega | (simp only [clS]; omega)) ?_ dX12_until_103
              first
              | (exfalso; omega)
              | (rw [if_pos (by omega)] at hrun2
                 refine ⟨?_, ?_⟩
                 · rw [if_pos hz, if_pos hf, ← hrun2]
                 · rw [if_pos hz, if_pos hf, ← hrun2])
              | (rw [if_neg (by omega)] at hrun2
                 refine ⟨?_, ?_⟩
                 · rw [if_pos hz, if_pos hf, ← hrun2]
                 · rw [if_pos hz, if_pos hf, ← hrun2])
        · refine g_iload_n h dX12_until_54 rfl ?_
          refine g_sipush h dX12_until_55 rfl ?_
          refine g_icmp_ge (tgt := 79) h dX12_until_58 (by decide) (by first | assumption | exact ⟨by omega, by omega⟩) (by first | assumption | exact ⟨by omega, by omega⟩) (fun c58 => ?_) (fun c58 => ?_)
          · refine g_aload_n h dX12_until_79 rfl ?_
            refine g_iload h dX12_until_80 rfl ?_
            refine g_if_ne (tgt := 94) h dX12_until_82 (by decide) (by first | assumption | exact ⟨by omega, by omega⟩) (fun c82 => ?_) (fun c82 => ?_)
            · refine g_bipush h dX12_until_94 rfl ?_
              refine g_goto (tgt := 100) h dX12_until_96 (by decide) ?_
              refine g_callV h rfl (ci := 12) [_] (by assumption) (c_X12_done _ _ _ hMu) clX12_277 (by decide) rfl in_X12_done se_X12_done rfl rfl (by rw [hRm]; first | decide | (simp only [clS]; omega)) (by rw [hRm]; first | decide | (simp only [clS]; omega)) (fun _ => Nat.le_of_ble_eq_true rfl) (by rw [hRm]; first | decide | (simp only [clS]; omega)) (by rw [hRm]; first | decide | (simp only [clS]; omega)) dX12_until_100 (fun r100 w100 hp100 => ?_)
              obtain ⟨rfl, hw100⟩ := hp100
              rw [hw100]
              refine g_iret h hQ (by first | decide | omega | (simp only [clS]; omega)) (by first | decide | omega | (simp only [clS]; omega)) ?_ dX12_until_103
              first
              | (exfalso; omega)
              | (rw [if_pos (by omega)] at hrun2
                 refine ⟨?_, ?_⟩
                 · rw [if_pos hz, if_pos hf, ← hrun2]
                 · rw [if_pos hz, if_pos hf, ← hrun2])
              | (rw [if_neg (by omega)] at hrun2
                 refine ⟨?_, ?_⟩
                 · rw [if_pos hz, if_pos hf, ← hrun2]
                 · rw [if_pos hz, if_pos hf, ← hrun2])
            · refine g_aload_n h dX12_until_85 rfl ?_
              refine g_iload_n h dX12_until_86 rfl ?_
              refine g_callV h rfl (ci := 12) [_] (by assumption) (c_X12_fullHere _ _ L hMu hNu hL (fun j hj => ⟨(hbu j hj).1, (hbu j hj).2.1⟩)) clX12_243 (by decide) rfl in_X12_fullHere se_X12_fullHere rfl rfl (by rw [hRm]; first | decide | (simp only [clS]; omega)) (by rw [hRm]; first | decide | (simp only [clS]; omega)) (fun _ => Nat.le_of_ble_eq_true rfl) (by rw [hRm]; first | decide | (simp only [clS]; omega)) (by rw [hRm]; first | decide | (simp only [clS]; omega)) dX12_until_87 (fun r87 w87 hp87 => ?_)
              obtain ⟨rfl, hw87⟩ := hp87
              rw [hw87]
              change GG Γ _ _ (ai (fhM u L) :: _) u _ _
              refine g_iload_n h dX12_until_90 rfl ?_
              refine g_icmp_ge (tgt := 99) h dX12_until_91 (by decide) (by first | assumption | exact ⟨by omega, by omega⟩) (by first | assumption | exact ⟨by omega, by omega⟩) (fun c91 => ?_) (fun c91 => ?_)
              · refine g_iload_n h dX12_until_99 rfl ?_
                refine g_callV h rfl (ci := 12) [_] (by assumption) (c_X12_done _ _ _ hMu) clX12_277 (by decide) rfl in_X12_done se_X12_done rfl rfl (by rw [hRm]; first | decide | (simp only [clS]; omega)) (by rw [hRm]; first | decide | (simp only [clS]; omega)) (fun _ => Nat.le_of_ble_eq_true rfl) (by rw [hRm]; first | decide | (simp only [clS]; omega)) (by rw [hRm]; first | decide | (simp only [clS]; omega)) dX12_until_100 (fun r100 w100 hp100 => ?_)
                obtain ⟨rfl, hw100⟩ := hp100
                rw [hw100]
                refine g_iret h hQ (by first | decide | omega | (simp only [clS]; omega)) (by first | decide | omega | (simp only [clS]; omega)) ?_ dX12_until_103
                first
                | (exfalso; omega)
                | (rw [if_pos (by omega)] at hrun2
                   refine ⟨?_, ?_⟩
                   · rw [if_pos hz, if_pos hf, ← hrun2]
                   · rw [if_pos hz, if_pos hf, ← hrun2])
                | (rw [if_neg (by omega)] at hrun2
                   refine ⟨?_, ?_⟩
                   · rw [if_pos hz, if_pos hf, ← hrun2]
                   · rw [if_pos hz, if_pos hf, ← hrun2])
              · refine g_bipush h dX12_until_94 rfl ?_
                refine g_goto (tgt := 100) h dX12_until_96 (by decide) ?_
                refine g_callV h rfl (ci := 12) [_] (by assumption) (c_X12_done _ _ _ hMu) clX12_277 (by decide) rfl in_X12_done se_X12_done rfl rfl (by rw [hRm]; first | decide | (simp only [clS]; omega)) (by rw [hRm]; first | decide | (simp only [clS]; omega)) (fun _ => Nat.le_of_ble_eq_true rfl) (by rw [hRm]; first | decide | (simp only [clS]; omega)) (by rw [hRm]; first | decide | (simp only [clS]; omega)) dX12_until_100 (fun r100 w100 hp100 => ?_)
                obtain ⟨rfl, hw100⟩ := hp100
                rw [hw100]
                refine g_iret h hQ (by first | decide | omega | (simp only [clS]; omega)) (by first | decide | omega | (simp only [clS]; omega)) ?_ dX12_until_103
                first
                | (exfalso; omega)
                | (rw [if_pos (by omega)] at hrun2
                   refine ⟨?_, ?_⟩
                   · rw [if_pos hz, if_pos hf, ← hrun2]
                   · rw [if_pos hz, if_pos hf, ← hrun2])
                | (rw [if_neg (by omega)] at hrun2
                   refine ⟨?_, ?_⟩
                   · rw [if_pos hz, if_pos hf, ← hrun2]
                   · rw [if_pos hz, if_pos hf, ← hrun2])
          · refine g_iload h dX12_until_61 rfl ?_
            refine g_if_ne (tgt := 79) h dX12_until_63 (by decide) (by first | assumption | exact ⟨by omega, by omega⟩) (fun c63 => ?_) (fun c63 => ?_)
            · refine g_aload_n h dX12_until_79 rfl ?_
              refine g_iload h dX12_until_80 rfl ?_
              refine g_if_ne (tgt := 94) h dX12_until_82 (by decide) (by first | assumption | exact ⟨by omega, by omega⟩) (fun c82 => ?_) (fun c82 => ?_)
              · refine g_bipush h dX12_until_94 rfl ?_
                refine g_goto (tgt := 100) h dX12_until_96 (by decide) ?_
                refine g_callV h rfl (ci := 12) [_] (by assumption) (c_X12_done _ _ _ hMu) clX12_277 (by decide) rfl in_X12_done se_X12_done rfl rfl (by rw [hRm]; first | decide | (simp only [clS]; omega)) (by rw [hRm]; first | decide | (simp only [clS]; omega)) (fun _ => Nat.le_of_ble_eq_true rfl) (by rw [hRm]; first | decide | (simp only [clS]; omega)) (by rw [hRm]; first | decide | (simp only [clS]; omega)) dX12_until_100 (fun r100 w100 hp100 => ?_)
                obtain ⟨rfl, hw100⟩ := hp100
                rw [hw100]
                refine g_iret h hQ (by first | decide | omega | (simp only [clS]; omega)) (by first | decide | omega | (simp only [clS]; omega)) ?_ dX12_until_103
                first
                | (exfalso; omega)
                | (rw [if_pos (by omega)] at hrun2
                   refine ⟨?_, ?_⟩
                   · rw [if_pos hz, if_pos hf, ← hrun2]
                   · rw [if_pos hz, if_pos hf, ← hrun2])
                | (rw [if_neg (by omega)] at hrun2
                   refine ⟨?_, ?_⟩
                   · rw [if_pos hz, if_pos hf, ← hrun2]
                   · rw [if_pos hz, if_pos hf, ← hrun2])
              · refine g_aload_n h dX12_until_85 rfl ?_
                refine g_iload_n h dX12_until_86 rfl ?_
                refine g_callV h rfl (ci := 12) [_] (by assumption) (c_X12_fullHere _ _ L hMu hNu hL (fun j hj => ⟨(hbu j hj).1, (hbu j hj).2.1⟩)) clX12_243 (by decide) rfl in_X12_fullHere se_X12_fullHere rfl rfl (by rw [hRm]; first | decide | (simp only [clS]; omega)) (by rw [hRm]; first | decide | (simp only [clS]; omega)) (fun _ => Nat.le_of_ble_eq_true rfl) (by rw [hRm]; first | decide | (simp only [clS]; omega)) (by rw [hRm]; first | decide | (simp only [clS]; omega)) dX12_until_87 (fun r87 w87 hp87 => ?_)
                obtain ⟨rfl, hw87⟩ := hp87
                rw [hw87]
                change GG Γ _ _ (ai (fhM u L) :: _) u _ _
                refine g_iload_n h dX12_until_90 rfl ?_
                refine g_icmp_ge (tgt := 99) h dX12_until_91 (by decide) (by first | assumption | exact ⟨by omega, by omega⟩) (by first | assumption | exact ⟨by omega, by omega⟩) (fun c91 => ?_) (fun c91 => ?_)
                · refine g_iload_n h dX12_until_99 rfl ?_
                  refine g_callV h rfl (ci := 12) [_] (by assumption) (c_X12_done _ _ _ hMu) clX12_277 (by decide) rfl in_X12_done se_X12_done rfl rfl (by rw [hRm]; first | decide | (simp only [clS]; omega)) (by rw [hRm]; first | decide | (simp only [clS]; omega)) (fun _ => Nat.le_of_ble_eq_true rfl) (by rw [hRm]; first | decide | (simp only [clS]; omega)) (by rw [hRm]; first | decide | (simp only [clS]; omega)) dX12_until_100 (fun r100 w100 hp100 => ?_)
                  obtain ⟨rfl, hw100⟩ := hp100
                  rw [hw100]
                  refine g_iret h hQ (by first | decide | omega | (simp only [clS]; omega)) (by first | decide | omega | (simp only [clS]; omega)) ?_ dX12_until_103
                  first
                  | (exfalso; omega)
                  | (rw [if_pos (by omega)] at hrun2
                     refine ⟨?_, ?_⟩
                     · rw [if_pos hz, if_pos hf, ← hrun2]
                     · rw [if_pos hz, if_pos hf, ← hrun2])
                  | (rw [if_neg (by omega)] at hrun2
                     refine ⟨?_, ?_⟩
                     · rw [if_pos hz, if_pos hf, ← hrun2]
                     · rw [if_pos hz, if_pos hf, ← hrun2])
                · refine g_bipush h dX12_until_94 rfl ?_
                  refine g_goto (tgt := 100) h dX12_until_96 (by decide) ?_
                  refine g_callV h rfl (ci := 12) [_] (by assumption) (c_X12_done _ _ _ hMu) clX12_277 (by decide) rfl in_X12_done se_X12_done rfl rfl (by rw [hRm]; first | decide | (simp only [clS]; omega)) (by rw [hRm]; first | decide | (simp only [clS]; omega)) (fun _ => Nat.le_of_ble_eq_true rfl) (by rw [hRm]; first | decide | (simp only [clS]; omega)) (by rw [hRm]; first | decide | (simp only [clS]; omega)) dX12_until_100 (fun r100 w100 hp100 => ?_)
                  obtain ⟨rfl, hw100⟩ := hp100
                  rw [hw100]
                  refine g_iret h hQ (by first | decide | omega | (simp only [clS]; omega)) (by first | decide | omega | (simp only [clS]; omega)) ?_ dX12_until_103
                  first
                  | (exfalso; omega)
                  | (rw [if_pos (by omega)] at hrun2
                     refine ⟨?_, ?_⟩
                     · rw [if_pos hz, if_pos hf, ← hrun2]
                     · rw [if_pos hz, if_pos hf, ← hrun2])
                  | (rw [if_neg (by omega)] at hrun2
                     refine ⟨?_, ?_⟩
                     · rw [if_pos hz, if_pos hf, ← hrun2]
                     · rw [if_pos hz, if_pos hf, ← hrun2])
            · refine g_aload_n h dX12_until_66 rfl ?_
              refine g_iload_n h dX12_until_67 rfl ?_
              refine g_callV h rfl (ci := 12) [_] (by assumption) (c_X12_aDay _ _ L np hMu hNu hL hQu hbu) clX12_268 (by decide) rfl in_X12_aDay se_X12_aDay rfl rfl (by rw [hRm]; first | decide | (simp only [clS]; omega)) (by rw [hRm]; first | decide | (simp only [clS]; omega)) (fun _ => Nat.le_of_ble_eq_true rfl) (by rw [hRm]; first | decide | (simp only [clS]; omega)) (by rw [hRm]; first | decide | (simp only [clS]; omega)) dX12_until_68 (fun r68 w68 hp68 => ?_)
              obtain ⟨rfl, hw68⟩ := hp68
              rw [hw68]
              change GG Γ _ _ [ai (mdB u L np)] (mdW u L np) _ _
              refine g_istore h dX12_until_71 (Nat.le_of_ble_eq_true rfl) rfl rfl ?_
              refine g_iinc h dX12_until_73 rfl (Nat.le_of_ble_eq_true rfl) rfl rfl ?_
              refine g_goto (tgt := 45) h dX12_until_76 (by decide) ?_
              rw [if_neg (by omega)] at hrun2
              by_cases hm : mdB u L np = 1
              · rw [if_pos hm] at hrun2
                rw [hm]
                exact isL _ _ hf hM2 hN2 hb2 ⟨by omega, by omega⟩ hrun2
              · rw [if_neg hm] at hrun2
                rw [show mdB u L np = 0 by omega]
                exact ih _ _ hf (by omega) (by omega) hM2 hN2 hQ2 hb2 hrun2
    refine g_aload_n h dX12_until_0 rfl ?_
    refine g_iconst h dX12_until_1 ?_
    refine g_putI h flX12_1 rfl rfl (by assumption) dX12_until_2 ?_
    refine g_iload_n h dX12_until_5 rfl ?_
    refine g_callS h rfl [_] (c_X12_isLake _ _ _ ⟨by omega, by omega⟩) clX12_182 st_X12_isLake rfl rfl (by rw [hRm]; first | decide | (simp only [clS]; omega)) (by rw [hRm]; first | decide | (simp only [clS]; omega)) (fun _ => Nat.le_of_ble_eq_true rfl) (by rw [hRm]; first | decide | (simp only [clS]; omega)) (by rw [hRm]; first | decide | (simp only [clS]; omega)) dX12_until_6 (fun r6 w6 hp6 => ?_)
    obtain ⟨rfl, hw6⟩ := hp6
    rw [hw6]
    rw [if_pos hz]
    refine g_if_ne (tgt := 18) h dX12_until_9 (by decide) (by first | assumption | exact ⟨by omega, by omega⟩) (fun c9 => ?_) (fun c9 => ?_)
    · refine g_iload_n h dX12_until_18 rfl ?_
      refine g_iconst h dX12_until_19 ?_
      refine g_sipush h dX12_until_20 rfl ?_
      refine g_callS h rfl [_, _, _] (c_X12_in _ _ _ _ _ hfr ⟨by omega, by omega⟩ ⟨by omega, by omega⟩) clX12_211 st_X12_in rfl rfl (by rw [hRm]; first | decide | (simp only [clS]; omega)) (by rw [hRm]; first | decide | (simp only [clS]; omega)) (fun _ => Nat.le_of_ble_eq_true rfl) (by rw [hRm]; first | decide | (simp only [clS]; omega)) (by rw [hRm]; first | decide | (simp only [clS]; omega)) dX12_until_23 (fun r23 w23 hp23 => ?_)
      obtain ⟨rfl, hw23⟩ := hp23
      rw [hw23]
      have hbw23 := ite01 (1 ≤ f ∧ f ≤ 999)
      refine g_if_ne (tgt := 35) h dX12_until_26 (by decide) (by first | assumption | exact ⟨by omega, by omega⟩) (fun c26 => ?_) (fun c26 => ?_)
      · refine g_aload_n h dX12_until_35 rfl ?_
        refine g_iload_n h dX12_until_36 rfl ?_
        refine g_callV h rfl (ci := 12) [_] (by assumption) (c_X12_takes _ _ L np (MS_th hM) hL hP.1 hP.2.1 (fun p hp => (hP.2.2 p hp).2.2.2.2.2.2.2.2)) clX12_239 (by decide) rfl in_X12_takes se_X12_takes rfl rfl (by rw [hRm]; first | decide | (simp only [clS]; omega)) (by rw [hRm]; first | decide | (simp only [clS]; omega)) (fun _ => Nat.le_of_ble_eq_true rfl) (by rw [hRm]; first | decide | (simp only [clS]; omega)) (by rw [hRm]; first | decide | (simp only [clS]; omega)) dX12_until_37 (fun r37 w37 hp37 => ?_)
        obtain ⟨rfl, hw37⟩ := hp37
        rw [hw37]
        refine g_iconst h dX12_until_40 ?_
        refine g_istore_n h dX12_until_41 (Nat.le_of_ble_eq_true rfl) rfl rfl ?_
        refine g_iconst h dX12_until_42 ?_
        refine g_istore h dX12_until_43 (Nat.le_of_ble_eq_true rfl) rfl rfl ?_
        exact loop 365 0 _ (by omega) (by omega) (by omega) hM0 hN0 hQ0 hb0 rfl
      · refine g_aload_n h dX12_until_29 rfl ?_
        refine g_iconst h dX12_until_30 ?_
        refine g_callV h rfl (ci := 12) [_] (by assumption) (c_X12_refused _ _ _ (MS_of rfl rfl hM)) clX12_274 (by decide) rfl in_X12_refused se_X12_refused rfl rfl (by rw [hRm]; first | decide | (simp only [clS]; omega)) (by rw [hRm]; first | decide | (simp only [clS]; omega)) (fun _ => Nat.le_of_ble_eq_true rfl) (by rw [hRm]; first | decide | (simp only [clS]; omega)) (by rw [hRm]; first | decide | (simp only [clS]; omega)) dX12_until_31 (fun r31 w31 hp31 => ?_)
        obtain ⟨rfl, hw31⟩ := hp31
        rw [hw31]
        refine g_iret h hQ (by first | decide | omega | (simp only [clS]; omega)) (by first | decide | omega | (simp only [clS]; omega)) ?_ dX12_until_34
        first
        | (exfalso; omega)
        | (refine ⟨?_, ?_⟩
           · rw [if_pos hz, if_neg (by omega)]
           · rw [if_pos hz, if_neg (by omega)]; rfl)
    · refine g_aload_n h dX12_until_12 rfl ?_
      refine g_iconst h dX12_until_13 ?_
      refine g_callV h rfl (ci := 12) [_] (by assumption) (c_X12_refused _ _ _ (MS_of rfl rfl hM)) clX12_274 (by decide) rfl in_X12_refused se_X12_refused rfl rfl (by rw [hRm]; first | decide | (simp only [clS]; omega)) (by rw [hRm]; first | decide | (simp only [clS]; omega)) (fun _ => Nat.le_of_ble_eq_true rfl) (by rw [hRm]; first | decide | (simp only [clS]; omega)) (by rw [hRm]; first | decide | (simp only [clS]; omega)) dX12_until_14 (fun r14 w14 hp14 => ?_)
      obtain ⟨rfl, hw14⟩ := hp14
      rw [hw14]
      refine g_iret h hQ (by first | decide | omega | (simp only [clS]; omega)) (by first | decide | omega | (simp only [clS]; omega)) ?_ dX12_until_17
      first
      | (exfalso; omega)
      | (refine ⟨?_, ?_⟩
         · rw [if_pos hz, if_neg (by omega)]
         · rw [if_pos hz, if_neg (by omega)]; rfl)
  · skip
    refine g_aload_n h dX12_until_0 rfl ?_
    refine g_iconst h dX12_until_1 ?_
    refine g_putI h flX12_1 rfl rfl (by assumption) dX12_until_2 ?_
    refine g_iload_n h dX12_until_5 rfl ?_
    refine g_callS h rfl [_] (c_X12_isLake _ _ _ ⟨by omega, by omega⟩) clX12_182 st_X12_isLake rfl rfl (by rw [hRm]; first | decide | (simp only [clS]; omega)) (by rw [hRm]; first | decide | (simp only [clS]; omega)) (fun _ => Nat.le_of_ble_eq_true rfl) (by rw [hRm]; first | decide | (simp only [clS]; omega)) (by rw [hRm]; first | decide | (simp only [clS]; omega)) dX12_until_6 (fun r6 w6 hp6 => ?_)
    obtain ⟨rfl, hw6⟩ := hp6
    rw [hw6]
    rw [if_neg hz]
    refine g_if_ne (tgt := 18) h dX12_until_9 (by decide) (by first | assumption | exact ⟨by omega, by omega⟩) (fun c9 => ?_) (fun c9 => ?_)
    · exfalso; omega
    · refine g_aload_n h dX12_until_12 rfl ?_
      refine g_iconst h dX12_until_13 ?_
      refine g_callV h rfl (ci := 12) [_] (by assumption) (c_X12_refused _ _ _ (MS_of rfl rfl hM)) clX12_274 (by decide) rfl in_X12_refused se_X12_refused rfl rfl (by rw [hRm]; first | decide | (simp only [clS]; omega)) (by rw [hRm]; first | decide | (simp only [clS]; omega)) (fun _ => Nat.le_of_ble_eq_true rfl) (by rw [hRm]; first | decide | (simp only [clS]; omega)) (by rw [hRm]; first | decide | (simp only [clS]; omega)) dX12_until_14 (fun r14 w14 hp14 => ?_)
      obtain ⟨rfl, hw14⟩ := hp14
      rw [hw14]
      refine g_iret h hQ (by first | decide | omega | (simp only [clS]; omega)) (by first | decide | omega | (simp only [clS]; omega)) ?_ dX12_until_17
      first
      | (exfalso; omega)
      | (refine ⟨?_, ?_⟩
         · rw [if_neg hz]
         · rw [if_neg hz]; rfl)
