/-! ===== the land: who climbs away ===== -/
def cmW (w : AW) (z m : Int) : AW := if (0 ≤ z ∧ z < 400) ∧ m < w.2.1 39 z.toNat then addW (upI w 39 z.toNat m) (szW w) (m * 400 + z) else w
theorem CI_cm {w : AW} {sz : Nat} {z m : Int} (h : CI w sz) (hm : 0 ≤ m) : ∃ s2, CI (cmW w z m) s2 := by
  unfold cmW
  split
  · rename_i q
    have h6 := h.2.2.2.2.2 z.toNat (by omega)
    rw [CI_sz h]
    exact CI_add (CI_39 h ⟨by omega, by omega⟩) ⟨by omega, by omega⟩
  · exact ⟨sz, h⟩
theorem cmW_o (w : AW) (z m : Int) {j : Nat} (h1 : j ≠ 40) (h2 : j ≠ 41) (h3 : j ≠ 39) : (cmW w z m).2.1 j = w.2.1 j := by
  unfold cmW
  split
  · rw [addW_36 _ _ _ h1 h2, upI_o _ _ _ h3]
  · rfl
theorem addW_1 (w : AW) (sz : Nat) (x : Int) : (addW w sz x).1 = w.1 ∧ (addW w sz x).2.2 = w.2.2 := by
  unfold addW
  split <;> exact ⟨rfl, rfl⟩
theorem cmW_1 (w : AW) (z m : Int) : (cmW w z m).1 = w.1 ∧ (cmW w z m).2.2 = w.2.2 := by
  unfold cmW
  split
  · exact addW_1 _ _ _
  · exact ⟨rfl, rfl⟩
/-- from cell c at minute m to the cells beside it -/
def lvW (w : AW) (c m : Int) : Nat → AW
  | 0 => w
  | s + 1 => if 0 ≤ bsX c (s : Int) ∧ bsX c (s : Int) < 400 then cmW (lvW w c m s) (bsX c (s : Int)) (m + 2 + max 0 (w.2.1 37 (bsX c (s : Int)).toNat - w.2.1 37 c.toNat) / 10) else lvW w c m s
theorem lvW_o (w : AW) (c m : Int) {j : Nat} (h1 : j ≠ 40) (h2 : j ≠ 41) (h3 : j ≠ 39) : ∀ s, (lvW w c m s).2.1 j = w.2.1 j
  | 0 => rfl
  | s + 1 => by
    unfold lvW
    split
    · exact (cmW_o _ _ _ h1 h2 h3).trans (lvW_o w c m h1 h2 h3 s)
    · exact lvW_o w c m h1 h2 h3 s
theorem lvW_1 (w : AW) (c m : Int) : ∀ s, (lvW w c m s).1 = w.1 ∧ (lvW w c m s).2.2 = w.2.2
  | 0 => ⟨rfl, rfl⟩
  | s + 1 => by
    unfold lvW
    split
    · have a := cmW_1 (lvW w c m s) (bsX c (s : Int)) (m + 2 + max 0 (w.2.1 37 (bsX c (s : Int)).toNat - w.2.1 37 c.toNat) / 10)
      have b := lvW_1 w c m s
      exact ⟨a.1.trans b.1, a.2.trans b.2⟩
    · exact lvW_1 w c m s
theorem CI_lv {w : AW} {sz : Nat} {c m : Int} (h : CI w sz) (hm : 0 ≤ m) : ∀ s, ∃ s2, CI (lvW w c m s) s2
  | 0 => ⟨sz, h⟩
  | s + 1 => by
    obtain ⟨s1, h1⟩ := CI_lv (c := c) h hm s
    unfold lvW
    split
    · exact CI_cm h1 (by omega)
    · exact ⟨s1, h1⟩
/-- the climb from the heap on -/
def msF (st : Int) : Nat → AW → Int × AW
  | 0, w => (-2, w)
  | d + 1, w => if w.2.1 40 1 ≤ 0 then (-2, w) else
    if w.2.1 38 (w.2.1 41 0 % 400).toNat = -2 then (w.2.1 41 0 / 400 - st, takW w (szW w)) else
    if w.2.1 41 0 / 400 = w.2.1 39 (w.2.1 41 0 % 400).toNat ∧ w.2.1 41 0 / 400 < w.2.1 38 (w.2.1 41 0 % 400).toNat then msF st d (lvW (takW w (szW w)) (w.2.1 41 0 % 400) (w.2.1 41 0 / 400) 4) else msF st d (takW w (szW w))
def ms0 (w : AW) (frm st : Int) : AW := cmW (upI (fillW w 39 400 1000000) 40 1 0) frm st
def mtV (w : AW) (frm : Nat) (st : Int) : Int × AW := if w.2.1 38 frm = -2 then (0, w) else msF st 1601 (ms0 w (frm : Int) st)
theorem takW_o (w : AW) (sz : Nat) {j : Nat} (h1 : j ≠ 40) (h2 : j ≠ 41) : (takW w sz).2.1 j = w.2.1 j := by
  unfold takW
  rw [sR_ne _ _ h2, upI_o _ _ _ h1]
theorem msF_o {st : Int} {j : Nat} (h1 : j ≠ 40) (h2 : j ≠ 41) (h3 : j ≠ 39) : ∀ (d : Nat) (w : AW), (msF st d w).2.2.1 j = w.2.1 j ∧ (msF st d w).2.1 = w.1 ∧ (msF st d w).2.2.2 = w.2.2
  | 0, w => ⟨rfl, rfl, rfl⟩
  | d + 1, w => by
    unfold msF
    split
    · exact ⟨rfl, rfl, rfl⟩
    · split
      · exact ⟨takW_o w _ h1 h2, rfl, rfl⟩
      · split
        · have := msF_o (st := st) h1 h2 h3 d (lvW (takW w (szW w)) (w.2.1 41 0 % 400) (w.2.1 41 0 / 400) 4)
          have hl := lvW_1 (takW w (szW w)) (w.2.1 41 0 % 400) (w.2.1 41 0 / 400) 4
          exact ⟨this.1.trans ((lvW_o _ _ _ h1 h2 h3 4).trans (takW_o w _ h1 h2)), this.2.1.trans hl.1, this.2.2.trans hl.2⟩
        · have := msF_o (st := st) h1 h2 h3 d (takW w (szW w))
          exact ⟨this.1.trans (takW_o w _ h1 h2), this.2.1, this.2.2⟩
theorem mtV_o {w : AW} {frm : Nat} {st : Int} {j : Nat} (h1 : j ≠ 40) (h2 : j ≠ 41) (h3 : j ≠ 39) : (mtV w frm st).2.2.1 j = w.2.1 j ∧ (mtV w frm st).2.1 = w.1 ∧ (mtV w frm st).2.2.2 = w.2.2 := by
  unfold mtV
  split
  · exact ⟨rfl, rfl, rfl⟩
  · have := msF_o (st := st) h1 h2 h3 1601 (ms0 w (frm : Int) st)
    have hm := cmW_1 (upI (fillW w 39 400 1000000) 40 1 0) (frm : Int) st
    refine ⟨?_, ?_, ?_⟩
    · rw [this.1]
      unfold ms0
      rw [cmW_o _ _ _ h1 h2 h3, upI_o _ _ _ h1]
      exact sR_ne _ _ h3
    · rw [this.2.1]
      exact hm.1
    · rw [this.2.2]
      unfold ms0
      rw [hm.2]
      unfold upI fillW sR
      rfl
set_option maxRecDepth 100000 in
set_option maxHeartbeats 4000000 in
theorem c_X0_comeTo (l : Launch) (w : AW) (sz : Nat) (z m : Int) (hC : CI w sz) (hz : R32 z) (hm : 0 ≤ m ∧ m ≤ 100000000) : HT l yX0_comeTo cX0_comeTo 3 none 2 0 0 w [ar 36, ai z, ai m] (rV (cmW w z m)) := by
  refine HT.of (by decide) (by intro v hv; simp only [List.mem_cons, List.not_mem_nil, or_false] at hv; rcases hv with rfl | rfl | rfl <;> rfl) (Nat.le_of_ble_eq_true rfl) ?_
  intro Γ h hQ hRm hnm hl hw0
  obtain ⟨hX, hs, hs2, hK, h37, h39⟩ := id hC
  have s36 : w.1 36 = (100, 0) := hX.1 36 (by decide)
  have s39 : w.1 39 = (1, 400) := hX.1 39 (by decide)
  have s40 : w.1 40 = (101, 0) := hX.1 40 (by decide)
  have p36_6 : w.2.2 36 6 = some 39 := hX.2 (36, 6, 39) (by decide)
  have p36_7 : w.2.2 36 7 = some 40 := hX.2 (36, 7, 40) (by decide)
  have ez := CI_sz hC
  by_cases hz4 : 0 ≤ z ∧ z < 400
  · have h39z := h39 z.toNat (by omega)
    have t36 : (upI w 39 z.toNat m).1 36 = (100, 0) := s36
    have t40 : (upI w 39 z.toNat m).1 40 = (101, 0) := s40
    have tp : (upI w 39 z.toNat m).2.2 36 7 = some 40 := p36_7
    refine g_iload_n h dX0_comeTo_0 rfl ?_
    refine g_callSN h rfl [_] (c_X9_isCell _ _ _ hz) clX0_40 st_X9_isCell rfl rfl (by rw [hRm]; first | decide | (simp only [clS]; omega)) (by rw [hRm]; first | decide | (simp only [clS]; omega)) (fun _ => Nat.le_of_ble_eq_true rfl) (by rw [hRm]; first | decide | (simp only [clS]; omega)) (by rw [hRm]; first | decide | (simp only [clS]; omega)) dX0_comeTo_1 (fun r1 w1 hp1 => ?_)
    obtain ⟨rfl, hw1⟩ := hp1
    rw [hw1]
    have hbw1 := ite01 (0 ≤ z ∧ z < 400)
    refine g_if_eq (tgt := 38) h dX0_comeTo_4 (by decide) (by first | assumption | exact ⟨by omega, by omega⟩) (fun c4 => ?_) (fun c4 => ?_)
    · refine g_vret h hQ (by first | decide | omega | (simp only [clS]; omega)) (by first | decide | omega | (simp only [clS]; omega)) ?_ dX0_comeTo_38
      first
      | (exfalso; omega)
      | (refine ⟨rfl, ?_⟩
         unfold cmW
         rw [ez]
         first | rw [if_pos ⟨hz4, by omega⟩] | rw [if_neg (by omega)])
    · refine g_iload_n h dX0_comeTo_7 rfl ?_
      refine g_aload_n h dX0_comeTo_8 rfl ?_
      refine g_getQ h flX0_28 rfl (by assumption) (by assumption) dX0_comeTo_9 ?_
      refine g_iload_n h dX0_comeTo_12 rfl ?_
      refine g_iald h (z.toNat) (by assumption) (by first | omega | assumption) (by first | omega | assumption) (by first | decide | omega) dX0_comeTo_13 ?_
      refine g_icmp_ge (tgt := 38) h dX0_comeTo_14 (by decide) (by first | assumption | exact ⟨by omega, by omega⟩) (by first | assumption | exact ⟨by omega, by omega⟩) (fun c14 => ?_) (fun c14 => ?_)
      · refine g_vret h hQ (by first | decide | omega | (simp only [clS]; omega)) (by first | decide | omega | (simp only [clS]; omega)) ?_ dX0_comeTo_38
        first
        | (exfalso; omega)
        | (refine ⟨rfl, ?_⟩
           unfold cmW
           rw [ez]
           first | rw [if_pos ⟨hz4, by omega⟩] | rw [if_neg (by omega)])
      · refine g_aload_n h dX0_comeTo_17 rfl ?_
        refine g_getQ h flX0_28 rfl (by assumption) (by assumption) dX0_comeTo_18 ?_
        refine g_iload_n h dX0_comeTo_21 rfl ?_
        refine g_iload_n h dX0_comeTo_22 rfl ?_
        refine g_iast h (z.toNat) (by assumption) (by first | omega | assumption) (by first | omega | assumption) (by first | decide | omega) dX0_comeTo_23 ?_
        refine g_aload_n h dX0_comeTo_24 rfl ?_
        refine g_getQ h flX0_36 rfl (by assumption) (by assumption) dX0_comeTo_25 ?_
        refine g_iload_n h dX0_comeTo_28 rfl ?_
        refine g_sipush h dX0_comeTo_29 rfl ?_
        refine g_imul h dX0_comeTo_32 ?_
        refine g_iload_n h dX0_comeTo_33 rfl ?_
        refine g_iadd h dX0_comeTo_34 ?_
        have hC2 : CI (upI w 39 z.toNat m) sz := CI_39 hC ⟨by omega, by omega⟩
        refine g_callV h rfl (ci := 1) [_] (by assumption) (c_X1_add _ _ sz (m * 400 + z) hC2.1 hC2.2.1 hs2 hC2.2.2.2.1 ⟨by omega, by omega⟩) clX0_73 (by decide) rfl in_X1_add se_X1_add rfl rfl (by rw [hRm]; first | decide | (simp only [clS]; omega)) (by rw [hRm]; first | decide | (simp only [clS]; omega)) (fun _ => Nat.le_of_ble_eq_true rfl) (by rw [hRm]; first | decide | (simp only [clS]; omega)) (by rw [hRm]; first | decide | (simp only [clS]; omega)) dX0_comeTo_35 (fun r35 w35 hp35 => ?_)
        obtain ⟨rfl, hw35⟩ := hp35
        rw [hw35]
        refine g_vret h hQ (by first | decide | omega | (simp only [clS]; omega)) (by first | decide | omega | (simp only [clS]; omega)) ?_ dX0_comeTo_38
        first
        | (exfalso; omega)
        | (refine ⟨rfl, ?_⟩
           unfold cmW
           rw [ez]
           first | rw [if_pos ⟨hz4, by omega⟩] | rw [if_neg (by omega)])
  · skip
    refine g_iload_n h dX0_comeTo_0 rfl ?_
    refine g_callSN h rfl [_] (c_X9_isCell _ _ _ hz) clX0_40 st_X9_isCell rfl rfl (by rw [hRm]; first | decide | (simp only [clS]; omega)) (by rw [hRm]; first | decide | (simp only [clS]; omega)) (fun _ => Nat.le_of_ble_eq_true rfl) (by rw [hRm]; first | decide | (simp only [clS]; omega)) (by rw [hRm]; first | decide | (simp only [clS]; omega)) dX0_comeTo_1 (fun r1 w1 hp1 => ?_)
    obtain ⟨rfl, hw1⟩ := hp1
    rw [hw1]
    have hbw1 := ite01 (0 ≤ z ∧ z < 400)
    refine g_if_eq (tgt := 38) h dX0_comeTo_4 (by decide) (by first | assumption | exact ⟨by omega, by omega⟩) (fun c4 => ?_) (fun c4 => ?_)
    · refine g_vret h hQ (by first | decide | omega | (simp only [clS]; omega)) (by first | decide | omega | (simp only [clS]; omega)) ?_ dX0_comeTo_38
      refine ⟨rfl, ?_⟩
      unfold cmW
      rw [if_neg (by omega)]
    · exfalso; omega
set_option maxRecDepth 100000 in
set_option maxHeartbeats 4000000 in
theorem c_X0_leave (l : Launch) (w : AW) (sz : Nat) (c m : Int) (hC : CI w sz) (hc : 0 ≤ c ∧ c < 400) (hm : 0 ≤ m ∧ m ≤ 10000000) : HT l yX0_leave cX0_leave 6 none 3 0 0 w [ar 36, ai c, ai m] (rV (lvW w c m 4)) := by
  refine HT.of (by decide) (by intro v hv; simp only [List.mem_cons, List.not_mem_nil, or_false] at hv; rcases hv with rfl | rfl | rfl <;> rfl) (Nat.le_of_ble_eq_true rfl) ?_
  intro Γ h hQ hRm hnm hl hw0
  obtain ⟨hX, hs, hs2, hK, h37, h39⟩ := id hC
  have s36 : w.1 36 = (100, 0) := hX.1 36 (by decide)
  have s37 : w.1 37 = (1, 400) := hX.1 37 (by decide)
  have p36_0 : w.2.2 36 0 = some 37 := hX.2 (36, 0, 37) (by decide)
  have hcc := h37 c.toNat (by omega)
  have loop : ∀ (e s : Nat) (x y : Option AV), s + e = 4 → GG Γ 2 [some (ar 36), some (ai c), some (ai m), some (ai (s : Int)), x, y] [] (lvW w c m s) 0 0 := by
    intro e
    induction e with
    | zero =>
      intro s x y hse
      obtain rfl : s = 4 := by omega
      refine g_iload_n h dX0_leave_2 rfl ?_
      refine g_iconst h dX0_leave_3 ?_
      refine g_icmp_ge (tgt := 70) h dX0_leave_4 (by decide) (by first | assumption | exact ⟨by omega, by omega⟩) (by first | assumption | exact ⟨by omega, by omega⟩) (fun c4 => ?_) (fun c4 => ?_)
      · refine g_vret h hQ (by first | decide | omega | (simp only [clS]; omega)) (by first | decide | omega | (simp only [clS]; omega)) ?_ dX0_leave_70
        exact ⟨rfl, rfl⟩
      · exfalso; omega
    | succ e ih =>
      intro s x y hse
      obtain ⟨s2, hC4⟩ := CI_lv (c := c) hC hm.1 s
      obtain ⟨hX4, -⟩ := id hC4
      have v36 : (lvW w c m s).1 36 = (100, 0) := hX4.1 36 (by decide)
      have v37 : (lvW w c m s).1 37 = (1, 400) := hX4.1 37 (by decide)
      have vp : (lvW w c m s).2.2 36 0 = some 37 := hX4.2 (36, 0, 37) (by decide)
      have hbb := bsX_bd (s := (s : Int)) hc
      have e37 : (lvW w c m s).2.1 37 = w.2.1 37 := lvW_o w c m (by decide) (by decide) (by decide) s
      have en : lvW w c m (s + 1) = (if 0 ≤ bsX c (s : Int) ∧ bsX c (s : Int) < 400 then cmW (lvW w c m s) (bsX c (s : Int)) (m + 2 + max 0 (w.2.1 37 (bsX c (s : Int)).toNat - w.2.1 37 c.toNat) / 10) else lvW w c m s) := rfl
      refine g_iload_n h dX0_leave_2 rfl ?_
      refine g_iconst h dX0_leave_3 ?_
      refine g_icmp_ge (tgt := 70) h dX0_leave_4 (by decide) (by first | assumption | exact ⟨by omega, by omega⟩) (by first | assumption | exact ⟨by omega, by omega⟩) (fun c4 => ?_) (fun c4 => ?_)
      · exfalso; omega
      · refine g_iload_n h dX0_leave_7 rfl ?_
        refine g_iload_n h dX0_leave_8 rfl ?_
        refine g_callS h rfl [_, _] (c_X0_beside _ _ _ (s : Int) hc ⟨by omega, by omega⟩) clX0_69 st_X0_beside rfl rfl (by rw [hRm]; first | decide | (simp only [clS]; omega)) (by rw [hRm]; first | decide | (simp only [clS]; omega)) (fun _ => Nat.le_of_ble_eq_true rfl) (by rw [hRm]; first | decide | (simp only [clS]; omega)) (by rw [hRm]; first | decide | (simp only [clS]; omega)) dX0_leave_9 (fun r9 w9 hp9 => ?_)
        obtain ⟨rfl, hw9⟩ := hp9
        rw [hw9]
        refine g_istore h dX0_leave_12 (Nat.le_of_ble_eq_true rfl) rfl rfl ?_
        refine g_iload_n h dX0_leave_14 rfl ?_
        refine g_callSN h rfl [_] (c_X9_isCell _ _ _ ⟨by omega, by omega⟩) clX0_40 st_X9_isCell rfl rfl (by rw [hRm]; first | decide | (simp only [clS]; omega)) (by rw [hRm]; first | decide | (simp only [clS]; omega)) (fun _ => Nat.le_of_ble_eq_true rfl) (by rw [hRm]; first | decide | (simp only [clS]; omega)) (by rw [hRm]; first | decide | (simp only [clS]; omega)) dX0_leave_15 (fun r15 w15 hp15 => ?_)
        obtain ⟨rfl, hw15⟩ := hp15
        rw [hw15]
        rw [if_pos hc]
        refine g_if_eq (tgt := 64) h dX0_leave_18 (by decide) ⟨by decide, by decide⟩ (fun c => absurd c (by decide)) (fun _ => ?_)
        refine g_iload h dX0_leave_21 rfl ?_
        refine g_callSN h rfl [_] (c_X9_isCell _ _ _ ⟨by omega, by omega⟩) clX0_40 st_X9_isCell rfl rfl (by rw [hRm]; first | decide | (simp only [clS]; omega)) (by rw [hRm]; first | decide | (simp only [clS]; omega)) (fun _ => Nat.le_of_ble_eq_true rfl) (by rw [hRm]; first | decide | (simp only [clS]; omega)) (by rw [hRm]; first | decide | (simp only [clS]; omega)) dX0_leave_23 (fun r23 w23 hp23 => ?_)
        obtain ⟨rfl, hw23⟩ := hp23
        rw [hw23]
        have hbw23 := ite01 (0 ≤ bsX c (s : Int) ∧ bsX c (s : Int) < 400)
        refine g_if_eq (tgt := 64) h dX0_leave_26 (by decide) (by first | assumption | exact ⟨by omega, by omega⟩) (fun c26 => ?_) (fun c26 => ?_)
        · refine g_iinc h dX0_leave_64 rfl (Nat.le_of_ble_eq_true rfl) rfl rfl ?_
          refine g_goto (tgt := 2) h dX0_leave_67 (by decide) ?_
          have en2 := en
          rw [if_neg (by omega)] at en2
          rw [← en2]
          exact ih (s + 1) _ _ (by omega)
        · have ho := h37 (bsX c (s : Int)).toNat (by omega)
          refine g_iconst h dX0_leave_29 ?_
          refine g_aload_n h dX0_leave_30 rfl ?_
          refine g_getQ h flX0_9 rfl (by assumption) (by assumption) dX0_leave_31 ?_
          refine g_iload h dX0_leave_34 rfl ?_
          refine g_iald h ((bsX c (s : Int)).toNat) (by assumption) (by first | omega | assumption) (by first | omega | assumption) (by first | decide | omega) dX0_leave_36 ?_
          rw [e37]
          refine g_aload_n h dX0_leave_37 rfl ?_
          refine g_getQ h flX0_9 rfl (by assumption) (by assumption) dX0_leave_38 ?_
          refine g_iload_n h dX0_leave_41 rfl ?_
          refine g_iald h (c.toNat) (by assumption) (by first | omega | assumption) (by first | omega | assumption) (by first | decide | omega) dX0_leave_42 ?_
          rw [e37]
          refine g_isub h dX0_leave_43 ?_
          refine g_max h rfl mmaxX0_82 (by first | assumption | exact ⟨by omega, by omega⟩) (by first | assumption | exact ⟨by omega, by omega⟩) (by rw [hRm]; first | decide | (simp only [clS]; omega)) (by rw [hRm]; first | decide | (simp only [clS]; omega)) (fun _ => Nat.le_of_ble_eq_true rfl) (by rw [hRm]; first | decide | (simp only [clS]; omega)) (by rw [hRm]; first | decide | (simp only [clS]; omega)) dX0_leave_44 ?_
          have hmx : 0 ≤ max 0 (w.2.1 37 (bsX c (s : Int)).toNat - w.2.1 37 c.toNat) ∧ max 0 (w.2.1 37 (bsX c (s : Int)).toNat - w.2.1 37 c.toNat) ≤ 999 := ⟨by omega, by omega⟩
          have hdv := div_bd hmx.1 (show (0 : Int) < 10 by decide)
          refine g_istore h dX0_leave_47 (Nat.le_of_ble_eq_true rfl) rfl rfl ?_
          refine g_aload_n h dX0_leave_49 rfl ?_
          refine g_iload h dX0_leave_50 rfl ?_
          refine g_iload_n h dX0_leave_52 rfl ?_
          refine g_iconst h dX0_leave_53 ?_
          refine g_iadd h dX0_leave_54 ?_
          refine g_iload h dX0_leave_55 rfl ?_
          refine g_bipush h dX0_leave_57 rfl ?_
          refine g_idiv h (by first | assumption | exact ⟨by omega, by omega⟩) (by first | assumption | exact ⟨by omega, by omega⟩) (by first | omega | assumption) (by first | omega | assumption) dX0_leave_59 ?_
          refine g_iadd h dX0_leave_60 ?_
          refine g_callV h rfl (ci := 0) [_, _] (by assumption) (c_X0_comeTo _ _ s2 _ _ hC4 ⟨by omega, by omega⟩ ⟨by omega, by omega⟩) clX0_76 (by decide) rfl in_X0_comeTo se_X0_comeTo rfl rfl (by rw [hRm]; first | decide | (simp only [clS]; omega)) (by rw [hRm]; first | decide | (simp only [clS]; omega)) (fun _ => Nat.le_of_ble_eq_true rfl) (by rw [hRm]; first | decide | (simp only [clS]; omega)) (by rw [hRm]; first | decide | (simp only [clS]; omega)) dX0_leave_61 (fun r61 w61 hp61 => ?_)
          obtain ⟨rfl, hw61⟩ := hp61
          rw [hw61]
          refine g_iinc h dX0_leave_64 rfl (Nat.le_of_ble_eq_true rfl) rfl rfl ?_
          refine g_goto (tgt := 2) h dX0_leave_67 (by decide) ?_
          have en2 := en
          rw [if_pos (by omega)] at en2
          rw [← en2]
          exact ih (s + 1) _ _ (by omega)
  refine g_iconst h dX0_leave_0 ?_
  refine g_istore_n h dX0_leave_1 (Nat.le_of_ble_eq_true rfl) rfl rfl ?_
  exact loop 4 0 none none (by omega)
set_option maxRecDepth 100000 in
set_option maxHeartbeats 4000000 in
theorem c_X0_minutesToSafety (l : Launch) (w : AW) (sz frm : Nat) (st : Int) (hC : CI w sz) (hf : frm < 400) (hst : 0 ≤ st ∧ st ≤ 500) (hA : ∀ c, c < 400 → -2 ≤ w.2.1 38 c ∧ w.2.1 38 c ≤ 1000) : HT l yX0_minutesToSafety cX0_minutesToSafety 7 (some .int) 4 0 0 w [ar 36, ai (frm : Int), ai st] (fun r w' => r = some (ai (mtV w frm st).1) ∧ w' = (mtV w frm st).2) := by
  refine HT.of (by decide) (by intro v hv; simp only [List.mem_cons, List.not_mem_nil, or_false] at hv; rcases hv with rfl | rfl | rfl <;> rfl) (Nat.le_of_ble_eq_true rfl) ?_
  intro Γ h hQ hRm hnm hl hw0
  obtain ⟨hX, hs, hs2, hK, h37, h39⟩ := id hC
  have s36 : w.1 36 = (100, 0) := hX.1 36 (by decide)
  have s38 : w.1 38 = (1, 400) := hX.1 38 (by decide)
  have s39 : w.1 39 = (1, 400) := hX.1 39 (by decide)
  have s40 : w.1 40 = (101, 0) := hX.1 40 (by decide)
  have p36_4 : w.2.2 36 4 = some 38 := hX.2 (36, 4, 38) (by decide)
  have p36_6 : w.2.2 36 6 = some 39 := hX.2 (36, 6, 39) (by decide)
  have p36_7 : w.2.2 36 7 = some 40 := hX.2 (36, 7, 40) (by decide)
  have hAf := hA frm hf
  by_cases hr : w.2.1 38 frm = -2
  · have em : mtV w frm st = (0, w) := if_pos hr
    rw [em] at hQ
    refine g_iload_n h dX0_minutesToSafety_0 rfl ?_
    refine g_callSN h rfl [_] (c_X9_isCell _ _ _ ⟨by omega, by omega⟩) clX0_40 st_X9_isCell rfl rfl (by rw [hRm]; first | decide | (simp only [clS]; omega)) (by rw [hRm]; first | decide | (simp only [clS]; omega)) (fun _ => Nat.le_of_ble_eq_true rfl) (by rw [hRm]; first | decide | (simp only [clS]; omega)) (by rw [hRm]; first | decide | (simp only [clS]; omega)) dX0_minutesToSafety_1 (fun r1 w1 hp1 => ?_)
    obtain ⟨rfl, hw1⟩ := hp1
    rw [hw1]
    rw [if_pos ⟨by omega, by omega⟩]
    refine g_if_eq (tgt := 18) h dX0_minutesToSafety_4 (by decide) ⟨by decide, by decide⟩ (fun c => absurd c (by decide)) (fun _ => ?_)
    refine g_aload_n h dX0_minutesToSafety_7 rfl ?_
    refine g_getQ h flX0_25 rfl (by assumption) (by assumption) dX0_minutesToSafety_8 ?_
    refine g_iload_n h dX0_minutesToSafety_11 rfl ?_
    refine g_iald h (frm) (by assumption) (by first | omega | assumption) (by first | omega | assumption) (by first | decide | omega) dX0_minutesToSafety_12 ?_
    refine g_bipush h dX0_minutesToSafety_13 rfl ?_
    refine g_icmp_ne (tgt := 20) h dX0_minutesToSafety_15 (by decide) (by first | assumption | exact ⟨by omega, by omega⟩) (by first | assumption | exact ⟨by omega, by omega⟩) (fun c15 => ?_) (fun c15 => ?_)
    · exfalso; omega
    · refine g_iconst h dX0_minutesToSafety_18 ?_
      refine g_iret h hQ (by first | decide | omega | (simp only [clS]; omega)) (by first | decide | omega | (simp only [clS]; omega)) ?_ dX0_minutesToSafety_19
      exact ⟨rfl, rfl⟩
  · have em : mtV w frm st = msF st 1601 (ms0 w (frm : Int) st) := if_neg hr
    rw [em] at hQ
    have loop : ∀ (d i s0 : Nat) (u : AW) (x y z : Option AV), i + d = 1601 → CI u s0 → u.2.1 38 = w.2.1 38 → msF st d u = msF st 1601 (ms0 w (frm : Int) st) → GG Γ 44 [some (ar 36), some (ai (frm : Int)), some (ai st), some (ai (i : Int)), x, y, z] [] u 0 0 := by
      intro d
      induction d with
      | zero =>
        intro i s0 u x y z hi hCu h38 hrun
        have hrun2 : ((-2 : Int), u) = msF st 1601 (ms0 w (frm : Int) st) := hrun
        refine g_iload_n h dX0_minutesToSafety_44 rfl ?_
        refine g_sipush h dX0_minutesToSafety_45 rfl ?_
        refine g_icmp_gt (tgt := 157) h dX0_minutesToSafety_48 (by decide) (by first | assumption | exact ⟨by omega, by omega⟩) (by first | assumption | exact ⟨by omega, by omega⟩) (fun c48 => ?_) (fun c48 => ?_)
        · refine g_bipush h dX0_minutesToSafety_157 rfl ?_
          refine g_iret h hQ (by first | decide | omega | (simp only [clS]; omega)) (by first | decide | omega | (simp only [clS]; omega)) ?_ dX0_minutesToSafety_159
          rw [← hrun2]
          exact ⟨rfl, rfl⟩
        · exfalso; omega
      | succ d ih =>
        intro i s0 u x y z hi hCu h38 hrun
        obtain ⟨hXu, hsu2, hsu3, hKu, hu37, hu39⟩ := id hCu
        have t36 : u.1 36 = (100, 0) := hXu.1 36 (by decide)
        have t40 : u.1 40 = (101, 0) := hXu.1 40 (by decide)
        have t38 : u.1 38 = (1, 400) := hXu.1 38 (by decide)
        have t39 : u.1 39 = (1, 400) := hXu.1 39 (by decide)
        have tp7 : u.2.2 36 7 = some 40 := hXu.2 (36, 7, 40) (by decide)
        have tp4 : u.2.2 36 4 = some 38 := hXu.2 (36, 4, 38) (by decide)
        have tp6 : u.2.2 36 6 = some 39 := hXu.2 (36, 6, 39) (by decide)
        have ez := CI_sz hCu
        have hk0 := hKu 0 (by decide)
        have hc4 : 0 ≤ u.2.1 41 0 % 400 ∧ u.2.1 41 0 % 400 < 400 := ⟨by omega, by omega⟩
        have hdm : 0 ≤ u.2.1 41 0 / 400 ∧ u.2.1 41 0 / 400 ≤ 2500000 := ⟨by omega, by omega⟩
        have hAc := hA (u.2.1 41 0 % 400).toNat (by omega)
        have hTc := hu39 (u.2.1 41 0 % 400).toNat (by omega)
        have hrun2 : (if u.2.1 40 1 ≤ 0 then ((-2 : Int), u) else if u.2.1 38 (u.2.1 41 0 % 400).toNat = -2 then (u.2.1 41 0 / 400 - st, takW u (szW u)) else if u.2.1 41 0 / 400 = u.2.1 39 (u.2.1 41 0 % 400).toNat ∧ u.2.1 41 0 / 400 < u.2.1 38 (u.2.1 41 0 % 400).toNat then msF st d (lvW (takW u (szW u)) (u.2.1 41 0 % 400) (u.2.1 41 0 / 400) 4) else msF st d (takW u (szW u))) = msF st 1601 (ms0 w (frm : Int) st) := hrun
        rw [ez, h38] at hrun2
        have q36 : (takW u s0).1 36 = (100, 0) := t36
        have q38 : (takW u s0).1 38 = (1, 400) := t38
        have q39 : (takW u s0).1 39 = (1, 400) := t39
        have qp4 : (takW u s0).2.2 36 4 = some 38 := tp4
        have qp6 : (takW u s0).2.2 36 6 = some 39 := tp6
        have qe38 : (takW u s0).2.1 38 = w.2.1 38 := (takW_o u s0 (by decide) (by decide)).trans h38
        have qe39 : (takW u s0).2.1 39 = u.2.1 39 := takW_o u s0 (by decide) (by decide)
        refine g_iload_n h dX0_minutesToSafety_44 rfl ?_
        refine g_sipush h dX0_minutesToSafety_45 rfl ?_
        refine g_icmp_gt (tgt := 157) h dX0_minutesToSafety_48 (by decide) (by first | assumption | exact ⟨by omega, by omega⟩) (by first | assumption | exact ⟨by omega, by omega⟩) (fun c48 => ?_) (fun c48 => ?_)
        · refine g_bipush h dX0_minutesToSafety_157 rfl ?_
          refine g_iret h hQ (by first | decide | omega | (simp only [clS]; omega)) (by first | decide | omega | (simp only [clS]; omega)) ?_ dX0_minutesToSafety_159
          first
          | (exfalso; omega)
          | (rw [if_pos (by omega)] at hrun2
             rw [← hrun2]
             exact ⟨rfl, rfl⟩)
        · refine g_aload_n h dX0_minutesToSafety_51 rfl ?_
          refine g_getQ h flX0_36 rfl (by assumption) (by assumption) dX0_minutesToSafety_52 ?_
          refine g_getI h flX0_62 rfl (by assumption) dX0_minutesToSafety_55 ?_
          rw [hsu2]
          refine g_if_le (tgt := 157) h dX0_minutesToSafety_58 (by decide) (by first | assumption | exact ⟨by omega, by omega⟩) (fun c58 => ?_) (fun c58 => ?_)
          · refine g_bipush h dX0_minutesToSafety_157 rfl ?_
            refine g_iret h hQ (by first | decide | omega | (simp only [clS]; omega)) (by first | decide | omega | (simp only [clS]; omega)) ?_ dX0_minutesToSafety_159
            first
            | (exfalso; omega)
            | (rw [if_pos (by omega)] at hrun2
               rw [← hrun2]
               exact ⟨rfl, rfl⟩)
          · refine g_aload_n h dX0_minutesToSafety_61 rfl ?_
            refine g_getQ h flX0_36 rfl (by assumption) (by assumption) dX0_minutesToSafety_62 ?_
            refine g_callV h rfl (ci := 1) [] (by assumption) (c_X1_takeLeast _ _ s0 hXu hsu2 hsu3 hKu (by omega)) clX0_65 (by decide) rfl in_X1_takeLeast se_X1_takeLeast rfl rfl (by rw [hRm]; first | decide | (simp only [clS]; omega)) (by rw [hRm]; first | decide | (simp only [clS]; omega)) (fun _ => Nat.le_of_ble_eq_true rfl) (by rw [hRm]; first | decide | (simp only [clS]; omega)) (by rw [hRm]; first | decide | (simp only [clS]; omega)) dX0_minutesToSafety_65 (fun r65 w65 hp65 => ?_)
            obtain ⟨rfl, hw65⟩ := hp65
            rw [hw65]
            refine g_istore h dX0_minutesToSafety_68 (Nat.le_of_ble_eq_true rfl) rfl rfl ?_
            refine g_iload h dX0_minutesToSafety_70 rfl ?_
            refine g_sipush h dX0_minutesToSafety_72 rfl ?_
            refine g_irem h (by first | assumption | exact ⟨by omega, by omega⟩) (by first | assumption | exact ⟨by omega, by omega⟩) (by first | omega | assumption) (by first | omega | assumption) dX0_minutesToSafety_75 ?_
            refine g_istore h dX0_minutesToSafety_76 (Nat.le_of_ble_eq_true rfl) rfl rfl ?_
            refine g_iload h dX0_minutesToSafety_78 rfl ?_
            refine g_sipush h dX0_minutesToSafety_80 rfl ?_
            refine g_idiv h (by first | assumption | exact ⟨by omega, by omega⟩) (by first | assumption | exact ⟨by omega, by omega⟩) (by first | omega | assumption) (by first | omega | assumption) dX0_minutesToSafety_83 ?_
            refine g_istore h dX0_minutesToSafety_84 (Nat.le_of_ble_eq_true rfl) rfl rfl ?_
            refine g_iload h dX0_minutesToSafety_86 rfl ?_
            refine g_callSN h rfl [_] (c_X9_isCell _ _ _ ⟨by omega, by omega⟩) clX0_40 st_X9_isCell rfl rfl (by rw [hRm]; first | decide | (simp only [clS]; omega)) (by rw [hRm]; first | decide | (simp only [clS]; omega)) (fun _ => Nat.le_of_ble_eq_true rfl) (by rw [hRm]; first | decide | (simp only [clS]; omega)) (by rw [hRm]; first | decide | (simp only [clS]; omega)) dX0_minutesToSafety_88 (fun r88 w88 hp88 => ?_)
            obtain ⟨rfl, hw88⟩ := hp88
            rw [hw88]
            rw [if_pos hc4]
            have hCt := CI_tak hCu (show 0 < s0 by omega)
            refine g_if_eq (tgt := 111) h dX0_minutesToSafety_91 (by decide) ⟨by decide, by decide⟩ (fun c => absurd c (by decide)) (fun _ => ?_)
            refine g_aload_n h dX0_minutesToSafety_94 rfl ?_
            refine g_getQ h flX0_25 rfl (by assumption) (by assumption) dX0_minutesToSafety_95 ?_
            refine g_iload h dX0_minutesToSafety_98 rfl ?_
            refine g_iald h ((u.2.1 41 0 % 400).toNat) (by assumption) (by first | omega | assumption) (by first | omega | assumption) (by first | decide | omega) dX0_minutesToSafety_100 ?_
            rw [qe38]
            refine g_bipush h dX0_minutesToSafety_101 rfl ?_
            refine g_icmp_ne (tgt := 111) h dX0_minutesToSafety_103 (by decide) (by first | assumption | exact ⟨by omega, by omega⟩) (by first | assumption | exact ⟨by omega, by omega⟩) (fun c103 => ?_) (fun c103 => ?_)
            · refine g_iload h dX0_minutesToSafety_111 rfl ?_
              refine g_callSN h rfl [_] (c_X9_isCell _ _ _ ⟨by omega, by omega⟩) clX0_40 st_X9_isCell rfl rfl (by rw [hRm]; first | decide | (simp only [clS]; omega)) (by rw [hRm]; first | decide | (simp only [clS]; omega)) (fun _ => Nat.le_of_ble_eq_true rfl) (by rw [hRm]; first | decide | (simp only [clS]; omega)) (by rw [hRm]; first | decide | (simp only [clS]; omega)) dX0_minutesToSafety_113 (fun r113 w113 hp113 => ?_)
              obtain ⟨rfl, hw113⟩ := hp113
              rw [hw113]
              rw [if_pos hc4]
              refine g_if_eq (tgt := 151) h dX0_minutesToSafety_116 (by decide) ⟨by decide, by decide⟩ (fun c => absurd c (by decide)) (fun _ => ?_)
              refine g_iload h dX0_minutesToSafety_119 rfl ?_
              refine g_aload_n h dX0_minutesToSafety_121 rfl ?_
              refine g_getQ h flX0_28 rfl (by assumption) (by assumption) dX0_minutesToSafety_122 ?_
              refine g_iload h dX0_minutesToSafety_125 rfl ?_
              refine g_iald h ((u.2.1 41 0 % 400).toNat) (by assumption) (by first | omega | assumption) (by first | omega | assumption) (by first | decide | omega) dX0_minutesToSafety_127 ?_
              rw [qe39]
              refine g_icmp_ne (tgt := 151) h dX0_minutesToSafety_128 (by decide) (by first | assumption | exact ⟨by omega, by omega⟩) (by first | assumption | exact ⟨by omega, by omega⟩) (fun c128 => ?_) (fun c128 => ?_)
              · refine g_iinc h dX0_minutesToSafety_151 rfl (Nat.le_of_ble_eq_true rfl) rfl rfl ?_
                refine g_goto (tgt := 44) h dX0_minutesToSafety_154 (by decide) ?_
                rw [if_neg (by omega), if_neg (by omega), if_neg (by omega)] at hrun2
                exact ih (i + 1) (s0 - 1) _ _ _ _ (by omega) hCt qe38 hrun2
              · refine g_iload h dX0_minutesToSafety_131 rfl ?_
                refine g_aload_n h dX0_minutesToSafety_133 rfl ?_
                refine g_getQ h flX0_25 rfl (by assumption) (by assumption) dX0_minutesToSafety_134 ?_
                refine g_iload h dX0_minutesToSafety_137 rfl ?_
                refine g_iald h ((u.2.1 41 0 % 400).toNat) (by assumption) (by first | omega | assumption) (by first | omega | assumption) (by first | decide | omega) dX0_minutesToSafety_139 ?_
                rw [qe38]
                refine g_icmp_ge (tgt := 151) h dX0_minutesToSafety_140 (by decide) (by first | assumption | exact ⟨by omega, by omega⟩) (by first | assumption | exact ⟨by omega, by omega⟩) (fun c140 => ?_) (fun c140 => ?_)
                · refine g_iinc h dX0_minutesToSafety_151 rfl (Nat.le_of_ble_eq_true rfl) rfl rfl ?_
                  refine g_goto (tgt := 44) h dX0_minutesToSafety_154 (by decide) ?_
                  rw [if_neg (by omega), if_neg (by omega), if_neg (by omega)] at hrun2
                  exact ih (i + 1) (s0 - 1) _ _ _ _ (by omega) hCt qe38 hrun2
                · refine g_aload_n h dX0_minutesToSafety_143 rfl ?_
                  refine g_iload h dX0_minutesToSafety_144 rfl ?_
                  refine g_iload h dX0_minutesToSafety_146 rfl ?_
                  refine g_callV h rfl (ci := 0) [_, _] (by assumption) (c_X0_leave _ _ (s0 - 1) _ _ hCt hc4 ⟨by omega, by omega⟩) clX0_79 (by decide) rfl in_X0_leave se_X0_leave rfl rfl (by rw [hRm]; first | decide | (simp only [clS]; omega)) (by rw [hRm]; first | decide | (simp only [clS]; omega)) (fun _ => Nat.le_of_ble_eq_true rfl) (by rw [hRm]; first | decide | (simp only [clS]; omega)) (by rw [hRm]; first | decide | (simp only [clS]; omega)) dX0_minutesToSafety_148 (fun r148 w148 hp148 => ?_)
                  obtain ⟨rfl, hw148⟩ := hp148
                  rw [hw148]
                  refine g_iinc h dX0_minutesToSafety_151 rfl (Nat.le_of_ble_eq_true rfl) rfl rfl ?_
                  refine g_goto (tgt := 44) h dX0_minutesToSafety_154 (by decide) ?_
                  rw [if_neg (by omega), if_neg (by omega), if_pos ⟨by omega, by omega⟩] at hrun2
                  obtain ⟨s9, hC9⟩ := CI_lv (c := u.2.1 41 0 % 400) hCt hdm.1 4
                  exact ih (i + 1) s9 _ _ _ _ (by omega) hC9 ((lvW_o _ _ _ (by decide) (by decide) (by decide) 4).trans qe38) hrun2
            · refine g_iload h dX0_minutesToSafety_106 rfl ?_
              refine g_iload_n h dX0_minutesToSafety_108 rfl ?_
              refine g_isub h dX0_minutesToSafety_109 ?_
              refine g_iret h hQ (by first | decide | omega | (simp only [clS]; omega)) (by first | decide | omega | (simp only [clS]; omega)) ?_ dX0_minutesToSafety_110
              rw [if_neg (by omega), if_pos (by assumption)] at hrun2
              rw [← hrun2]
              exact ⟨rfl, rfl⟩
    have f36 : (fillW w 39 400 1000000).1 36 = (100, 0) := s36
    have f40 : (fillW w 39 400 1000000).1 40 = (101, 0) := s40
    have g36 : (upI (fillW w 39 400 1000000) 40 1 0).1 36 = (100, 0) := s36
    have hXb : XS (fillW w 39 400 1000000) := XS_of rfl rfl hX
    have hC0 : CI (upI (fillW w 39 400 1000000) 40 1 0) 0 := by
      refine ⟨XS_of rfl rfl hX, upI_self _ _ _ _, by decide, ?_, ?_, fun c hc => ?_⟩
      · exact hK
      · exact h37
      · show 0 ≤ (if c < 400 then (1000000 : Int) else _) ∧ (if c < 400 then (1000000 : Int) else _) ≤ 1000000
        rw [if_pos hc]
        exact ⟨by decide, by decide⟩
    obtain ⟨s1, hC1⟩ := CI_cm (z := (frm : Int)) hC0 hst.1
    have e38 : (ms0 w (frm : Int) st).2.1 38 = w.2.1 38 := by
      unfold ms0
      rw [cmW_o _ _ _ (by decide) (by decide) (by decide), upI_o _ _ _ (by decide)]
      exact sR_ne _ _ (by decide)
    refine g_iload_n h dX0_minutesToSafety_0 rfl ?_
    refine g_callSN h rfl [_] (c_X9_isCell _ _ _ ⟨by omega, by omega⟩) clX0_40 st_X9_isCell rfl rfl (by rw [hRm]; first | decide | (simp only [clS]; omega)) (by rw [hRm]; first | decide | (simp only [clS]; omega)) (fun _ => Nat.le_of_ble_eq_true rfl) (by rw [hRm]; first | decide | (simp only [clS]; omega)) (by rw [hRm]; first | decide | (simp only [clS]; omega)) dX0_minutesToSafety_1 (fun r1 w1 hp1 => ?_)
    obtain ⟨rfl, hw1⟩ := hp1
    rw [hw1]
    rw [if_pos ⟨by omega, by omega⟩]
    refine g_if_eq (tgt := 18) h dX0_minutesToSafety_4 (by decide) ⟨by decide, by decide⟩ (fun c => absurd c (by decide)) (fun _ => ?_)
    refine g_aload_n h dX0_minutesToSafety_7 rfl ?_
    refine g_getQ h flX0_25 rfl (by assumption) (by assumption) dX0_minutesToSafety_8 ?_
    refine g_iload_n h dX0_minutesToSafety_11 rfl ?_
    refine g_iald h (frm) (by assumption) (by first | omega | assumption) (by first | omega | assumption) (by first | decide | omega) dX0_minutesToSafety_12 ?_
    refine g_bipush h dX0_minutesToSafety_13 rfl ?_
    refine g_icmp_ne (tgt := 20) h dX0_minutesToSafety_15 (by decide) (by first | assumption | exact ⟨by omega, by omega⟩) (by first | assumption | exact ⟨by omega, by omega⟩) (fun c15 => ?_) (fun c15 => ?_)
    · refine g_aload_n h dX0_minutesToSafety_20 rfl ?_
      refine g_getQ h flX0_28 rfl (by assumption) (by assumption) dX0_minutesToSafety_21 ?_
      refine g_ldc h kcX0_54 dX0_minutesToSafety_24 ?_
      refine g_callS h rfl [_, _] (c_J7_fill_53178 _ _ 39 400 1000000 s39 (by decide)) clX0_48 st_J7_fill_53178 rfl rfl (by rw [hRm]; first | decide | (simp only [clS]; omega)) (by rw [hRm]; first | decide | (simp only [clS]; omega)) (fun _ => Nat.le_of_ble_eq_true rfl) (by rw [hRm]; first | decide | (simp only [clS]; omega)) (by rw [hRm]; first | decide | (simp only [clS]; omega)) dX0_minutesToSafety_26 (fun r26 w26 hp26 => ?_)
      obtain ⟨rfl, hw26⟩ := hp26
      rw [hw26]
      refine g_aload_n h dX0_minutesToSafety_29 rfl ?_
      refine g_getQ h flX0_36 rfl (by assumption) (by assumption) dX0_minutesToSafety_30 ?_
      refine g_callV h rfl (ci := 1) [] (by assumption) (c_X1_clear _ _ hXb) clX0_55 (by decide) rfl in_X1_clear se_X1_clear rfl rfl (by rw [hRm]; first | decide | (simp only [clS]; omega)) (by rw [hRm]; first | decide | (simp only [clS]; omega)) (fun _ => Nat.le_of_ble_eq_true rfl) (by rw [hRm]; first | decide | (simp only [clS]; omega)) (by rw [hRm]; first | decide | (simp only [clS]; omega)) dX0_minutesToSafety_33 (fun r33 w33 hp33 => ?_)
      obtain ⟨rfl, hw33⟩ := hp33
      rw [hw33]
      refine g_aload_n h dX0_minutesToSafety_36 rfl ?_
      refine g_iload_n h dX0_minutesToSafety_37 rfl ?_
      refine g_iload_n h dX0_minutesToSafety_38 rfl ?_
      refine g_callV h rfl (ci := 0) [_, _] (by assumption) (c_X0_comeTo _ _ 0 (frm : Int) st hC0 ⟨by omega, by omega⟩ ⟨by omega, by omega⟩) clX0_76 (by decide) rfl in_X0_comeTo se_X0_comeTo rfl rfl (by rw [hRm]; first | decide | (simp only [clS]; omega)) (by rw [hRm]; first | decide | (simp only [clS]; omega)) (fun _ => Nat.le_of_ble_eq_true rfl) (by rw [hRm]; first | decide | (simp only [clS]; omega)) (by rw [hRm]; first | decide | (simp only [clS]; omega)) dX0_minutesToSafety_39 (fun r39 w39 hp39 => ?_)
      obtain ⟨rfl, hw39⟩ := hp39
      rw [hw39]
      refine g_iconst h dX0_minutesToSafety_42 ?_
      refine g_istore_n h dX0_minutesToSafety_43 (Nat.le_of_ble_eq_true rfl) rfl rfl ?_
      exact loop 1601 0 s1 _ none none none (by omega) hC1 e38 rfl
    · exfalso; omega
