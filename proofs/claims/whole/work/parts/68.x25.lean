/-! ===== the class: gas let run, folk who climb ===== -/
theorem CI_ms {st : Int} : ∀ (d : Nat) (w : AW) (sz : Nat), CI w sz → ∃ s2, CI (msF st d w).2 s2
  | 0, w, sz, h => ⟨sz, h⟩
  | d + 1, w, sz, h => by
    unfold msF
    split
    · exact ⟨sz, h⟩
    · rename_i q
      have hpos : 0 < sz := by have := h.2.1; omega
      have hk := h.2.2.2.1 0 (by decide)
      rw [CI_sz h]
      have ht := CI_tak h hpos
      split
      · exact ⟨sz - 1, ht⟩
      · split
        · obtain ⟨s3, h3⟩ := CI_lv (c := w.2.1 41 0 % 400) (m := w.2.1 41 0 / 400) ht (by omega) 4
          exact CI_ms d _ s3 h3
        · exact CI_ms d _ _ ht
theorem msF_bd {st : Int} (hst : 0 ≤ st ∧ st ≤ 500) : ∀ (d : Nat) (w : AW) (sz : Nat), CI w sz → -500 ≤ (msF st d w).1 ∧ (msF st d w).1 ≤ 2500000
  | 0, w, sz, h => ⟨by show (-500 : Int) ≤ -2; decide, by show (-2 : Int) ≤ 2500000; decide⟩
  | d + 1, w, sz, h => by
    unfold msF
    split
    · exact ⟨by show (-500 : Int) ≤ -2; decide, by show (-2 : Int) ≤ 2500000; decide⟩
    · rename_i q
      have hpos : 0 < sz := by have := h.2.1; omega
      have hk := h.2.2.2.1 0 (by decide)
      rw [CI_sz h]
      have ht := CI_tak h hpos
      split
      · dsimp only
        omega
      · split
        · obtain ⟨s3, h3⟩ := CI_lv (c := w.2.1 41 0 % 400) (m := w.2.1 41 0 / 400) ht (by omega) 4
          exact msF_bd hst d _ s3 h3
        · exact msF_bd hst d _ _ ht
theorem CI_fl {w : AW} {sz : Nat} (h : CI w sz) : CI (upI (fillW w 39 400 1000000) 40 1 0) 0 := by
  obtain ⟨hX, hs, hs2, hK, h37, h39⟩ := h
  refine ⟨XS_of rfl rfl hX, upI_self _ _ _ _, by decide, ?_, ?_, fun c hc => ?_⟩
  · exact hK
  · exact h37
  · show 0 ≤ (if c < 400 then (1000000 : Int) else _) ∧ (if c < 400 then (1000000 : Int) else _) ≤ 1000000
    rw [if_pos hc]
    exact ⟨by decide, by decide⟩
theorem CI_mt {w : AW} {sz frm : Nat} {st : Int} (h : CI w sz) (hst : 0 ≤ st) : ∃ s2, CI (mtV w frm st).2 s2 := by
  unfold mtV
  split
  · exact ⟨sz, h⟩
  · obtain ⟨s1, h1⟩ := CI_cm (z := (frm : Int)) (CI_fl h) hst
    exact CI_ms 1601 _ s1 h1
theorem mtV_bd (w : AW) (frm : Nat) (st : Int) {sz : Nat} (h : CI w sz) (hst : 0 ≤ st ∧ st ≤ 500) : -500 ≤ (mtV w frm st).1 ∧ (mtV w frm st).1 ≤ 2500000 := by
  unfold mtV
  split
  · exact ⟨by show (-500 : Int) ≤ 0; decide, by show (0 : Int) ≤ 2500000; decide⟩
  · obtain ⟨s1, h1⟩ := CI_cm (z := (frm : Int)) (CI_fl h) hst.1
    exact msF_bd hst 1601 _ s1 h1
/-- the land's own numbers -/
def LDN (w : AW) : Prop := (0 ≤ w.2.1 36 1 ∧ w.2.1 36 1 ≤ 200) ∧ (1 ≤ w.2.1 36 2 ∧ w.2.1 36 2 ≤ 10000) ∧ (1 ≤ w.2.1 36 3 ∧ w.2.1 36 3 ≤ 50) ∧ (w.2.1 36 5 = 0 ∨ w.2.1 36 5 = 1) ∧ ∀ c, c < 400 → -2 ≤ w.2.1 38 c ∧ w.2.1 38 c ≤ 1000
def roR (w : AW) (L : Nat) (amt : Int) : Int × AW := rlF (w.2.1 37 (w.2.1 (2 + L) 9).toNat + w.2.1 36 1) (w.2.1 36 3) (mostF amt (w.2.1 36 2)) 400 0 (lr0 w (((w.2.1 (2 + L) 9).toNat : Nat) : Int) (w.2.1 37 (w.2.1 (2 + L) 9).toNat + w.2.1 36 1))
theorem CI_rl {hi spd most : Int} : ∀ (d : Nat) (r : Int) (w : AW) (sz : Nat), CI w sz → ∃ s2, CI (rlF hi spd most d r w).2 s2
  | 0, _, w, sz, h => ⟨sz, h⟩
  | d + 1, r, w, sz, h => by
    unfold rlF
    split
    · rename_i q
      have hpos : 0 < sz := by have := h.2.1; omega
      rw [CI_sz h]
      have ht := CI_tak h hpos
      obtain ⟨s3, h3⟩ := CI_of4 (c := w.2.1 41 0 % 400) (hi := hi) (CI_38 (c := (w.2.1 41 0 % 400).toNat) (v := r / spd) ht) 4
      exact CI_rl d (r + 1) _ s3 h3
    · exact ⟨sz, h⟩
theorem CI_ro {w : AW} {sz L : Nat} {amt : Int} (h : CI w sz) : ∃ s2, CI (roR w L amt).2 s2 := by
  have h1 : CI (upI (fillW (fillW (upI w 36 5 1) 38 400 (-2)) 39 400 1000000) 40 1 0) 0 := by
    refine CI_fl (sz := sz) ⟨XS_of rfl rfl h.1, h.2.1, h.2.2.1, h.2.2.2.1, h.2.2.2.2.1, h.2.2.2.2.2⟩
  obtain ⟨s1, h2⟩ := CI_of (z := (((w.2.1 (2 + L) 9).toNat : Nat) : Int)) (hi := w.2.1 37 (w.2.1 (2 + L) 9).toNat + w.2.1 36 1) h1
  exact CI_rl 400 0 _ s1 h2
/-- the lost among the first villages, and the world then -/
def lsF (w : AW) (st : Int) : Nat → Int × AW
  | 0 => (0, w)
  | i + 1 => if w.2.1 (60 + i) 2 = 0 then ((lsF w st i).1 + (if (mtV (lsF w st i).2 (w.2.1 (60 + i) 0).toNat st).1 = -2 then w.2.1 (60 + i) 1 else 0), (mtV (lsF w st i).2 (w.2.1 (60 + i) 0).toNat st).2) else lsF w st i
theorem lsF_o {w : AW} {st : Int} : ∀ i : Nat, (∀ j, j ≠ 40 → j ≠ 41 → j ≠ 39 → (lsF w st i).2.2.1 j = w.2.1 j) ∧ (lsF w st i).2.1 = w.1 ∧ (lsF w st i).2.2.2 = w.2.2
  | 0 => ⟨fun _ _ _ _ => rfl, rfl, rfl⟩
  | i + 1 => by
    obtain ⟨a, b, c⟩ := lsF_o (w := w) (st := st) i
    unfold lsF
    split
    · have h0 := mtV_o (w := (lsF w st i).2) (frm := (w.2.1 (60 + i) 0).toNat) (st := st) (j := 0) (by decide) (by decide) (by decide)
      exact ⟨fun j h1 h2 h3 => (mtV_o h1 h2 h3).1.trans (a j h1 h2 h3), h0.2.1.trans b, h0.2.2.trans c⟩
    · exact ⟨a, b, c⟩
theorem CI_ls {w : AW} {sz : Nat} {st : Int} (h : CI w sz) (hst : 0 ≤ st) : ∀ i : Nat, ∃ s2, CI (lsF w st i).2 s2
  | 0 => ⟨sz, h⟩
  | i + 1 => by
    obtain ⟨s1, h1⟩ := CI_ls h hst i
    unfold lsF
    split
    · exact CI_mt h1 hst
    · exact ⟨s1, h1⟩
set_option maxRecDepth 100000 in
set_option maxHeartbeats 4000000 in
theorem c_X9_runOut (l : Launch) (w : AW) (sz : Nat) (z a : Int) (hC : CI w sz) (hD : LDN w) (hcl : ∀ L, L < 2 → 0 ≤ w.2.1 (2 + L) 9 ∧ w.2.1 (2 + L) 9 < 400) (hzr : R32 z) (har : R32 a) : HT l yX9_runOut cX9_runOut 4 (some .int) 5 0 0 w [ar 0, ai z, ai a] (fun r w' => r = some (ai (if ¬ (0 ≤ z ∧ z < 2) then -1 else if ¬ (0 ≤ a ∧ a ≤ 1000000) then -1 else (roR w z.toNat a).1)) ∧ w' = (if ¬ (0 ≤ z ∧ z < 2) then upI w 0 16 1 else if ¬ (0 ≤ a ∧ a ≤ 1000000) then upI w 0 16 2 else upI (roR w z.toNat a).2 0 16 0)) := by
  refine HT.of (by decide) (by intro v hv; simp only [List.mem_cons, List.not_mem_nil, or_false] at hv; rcases hv with rfl | rfl | rfl <;> rfl) (Nat.le_of_ble_eq_true rfl) ?_
  intro Γ h hQ hRm hnm hl hw0
  obtain ⟨hX, hs, hs2, hK, h37, h39⟩ := id hC
  have s0 : w.1 0 = (109, 0) := hX.1 0 (by decide)
  have s36 : w.1 36 = (100, 0) := hX.1 36 (by decide)
  have p0_10 : w.2.2 0 10 = some 36 := hX.2 (0, 10, 36) (by decide)
  have s36 : w.1 36 = (100, 0) := hX.1 36 (by decide)
  by_cases hz : 0 ≤ z ∧ z < 2
  · have hl := lkA_some hz
    have hLK := XS_LK hX z.toNat (by omega)
    have kL := hLK.2.1
    have hcc := hcl z.toNat (by omega)
    obtain ⟨C, hCe⟩ : ∃ C : Nat, w.2.1 (2 + z.toNat) 9 = (C : Int) := ⟨(w.2.1 (2 + z.toNat) 9).toNat, by omega⟩
    obtain ⟨s9, hC9⟩ := CI_ro (L := z.toNat) (amt := a) hC
    have hX9 := hC9.1
    have v0 : (roR w z.toNat a).2.1 0 = (109, 0) := hX9.1 0 (by decide)
    have eR : rlF (w.2.1 37 C + w.2.1 36 1) (w.2.1 36 3) (mostF a (w.2.1 36 2)) 400 0 (lr0 w (C : Int) (w.2.1 37 C + w.2.1 36 1)) = roR w z.toNat a := by
      unfold roR
      rw [hCe, Int.toNat_natCast]
    refine g_aload_n h dX9_runOut_0 rfl ?_
    refine g_iload_n h dX9_runOut_1 rfl ?_
    refine g_callV h rfl (ci := 9) [_] (by assumption) (c_X9_lakeAt _ _ _ hX hzr) clX9_66 (by decide) rfl in_X9_lakeAt se_X9_lakeAt rfl rfl (by rw [hRm]; first | decide | (simp only [clS]; omega)) (by rw [hRm]; first | decide | (simp only [clS]; omega)) (fun _ => Nat.le_of_ble_eq_true rfl) (by rw [hRm]; first | decide | (simp only [clS]; omega)) (by rw [hRm]; first | decide | (simp only [clS]; omega)) dX9_runOut_2 (fun r2 w2 hp2 => ?_)
    obtain ⟨rfl, hw2⟩ := hp2
    rw [hw2, hl]
    refine g_astore_n h dX9_runOut_5 (Nat.le_of_ble_eq_true rfl) rfl rfl ?_
    refine g_aload_n h dX9_runOut_6 rfl ?_
    refine g_ifnonnull (tgt := 16) h dX9_runOut_7 (by decide) (fun _ cnn => ?_) (fun cnn => by cases cnn)
    refine g_iload_n h dX9_runOut_16 rfl ?_
    refine g_iconst h dX9_runOut_17 ?_
    refine g_ldcw h kcX9_311 dX9_runOut_18 ?_
    refine g_callS h rfl [_, _, _] (c_X9_isWithin _ _ _ _ _ har ⟨by omega, by omega⟩ ⟨by omega, by omega⟩) clX9_78 st_X9_isWithin rfl rfl (by rw [hRm]; first | decide | (simp only [clS]; omega)) (by rw [hRm]; first | decide | (simp only [clS]; omega)) (fun _ => Nat.le_of_ble_eq_true rfl) (by rw [hRm]; first | decide | (simp only [clS]; omega)) (by rw [hRm]; first | decide | (simp only [clS]; omega)) dX9_runOut_21 (fun r21 w21 hp21 => ?_)
    obtain ⟨rfl, hw21⟩ := hp21
    rw [hw21]
    have hbw21 := ite01 ((0 : Int) ≤ a ∧ a ≤ 1000000)
    refine g_if_ne (tgt := 33) h dX9_runOut_24 (by decide) (by first | assumption | exact ⟨by omega, by omega⟩) (fun c24 => ?_) (fun c24 => ?_)
    · refine g_aload_n h dX9_runOut_33 rfl ?_
      refine g_aload_n h dX9_runOut_34 rfl ?_
      refine g_getQ h flX9_52 rfl (by assumption) (by assumption) dX9_runOut_35 ?_
      refine g_aload_n h dX9_runOut_38 rfl ?_
      refine g_getI h flX9_312 rfl (by assumption) dX9_runOut_39 ?_
      rw [hCe]
      refine g_iload_n h dX9_runOut_42 rfl ?_
      refine g_callV h rfl (ci := 0) [_, _] (by assumption) (c_X0_letRun _ _ sz C a hC (by omega) ⟨by omega, by omega⟩ hD.1 hD.2.1 hD.2.2.1) clX9_315 (by decide) rfl in_X0_letRun se_X0_letRun rfl rfl (by rw [hRm]; first | decide | (simp only [clS]; omega)) (by rw [hRm]; first | decide | (simp only [clS]; omega)) (fun _ => Nat.le_of_ble_eq_true rfl) (by rw [hRm]; first | decide | (simp only [clS]; omega)) (by rw [hRm]; first | decide | (simp only [clS]; omega)) dX9_runOut_43 (fun r43 w43 hp43 => ?_)
      obtain ⟨rfl, hw43⟩ := hp43
      rw [hw43]
      rw [eR]
      refine g_callV h rfl (ci := 9) [_] (by assumption) (c_X9_answered _ _ _ hX9) clX9_169 (by decide) rfl in_X9_answered se_X9_answered rfl rfl (by rw [hRm]; first | decide | (simp only [clS]; omega)) (by rw [hRm]; first | decide | (simp only [clS]; omega)) (fun _ => Nat.le_of_ble_eq_true rfl) (by rw [hRm]; first | decide | (simp only [clS]; omega)) (by rw [hRm]; first | decide | (simp only [clS]; omega)) dX9_runOut_46 (fun r46 w46 hp46 => ?_)
      obtain ⟨rfl, hw46⟩ := hp46
      rw [hw46]
      refine g_iret h hQ (by first | decide | omega | (simp only [clS]; omega)) (by first | decide | omega | (simp only [clS]; omega)) ?_ dX9_runOut_49
      first
      | (exfalso; omega)
      | (refine ⟨?_, ?_⟩ <;> (repeat first | rw [if_pos (by omega)] | rw [if_neg (by omega)]) <;> rfl)
    · refine g_aload_n h dX9_runOut_27 rfl ?_
      refine g_iconst h dX9_runOut_28 ?_
      refine g_callV h rfl (ci := 9) [_] (by assumption) (c_X9_refused _ _ _ hX) clX9_162 (by decide) rfl in_X9_refused se_X9_refused rfl rfl (by rw [hRm]; first | decide | (simp only [clS]; omega)) (by rw [hRm]; first | decide | (simp only [clS]; omega)) (fun _ => Nat.le_of_ble_eq_true rfl) (by rw [hRm]; first | decide | (simp only [clS]; omega)) (by rw [hRm]; first | decide | (simp only [clS]; omega)) dX9_runOut_29 (fun r29 w29 hp29 => ?_)
      obtain ⟨rfl, hw29⟩ := hp29
      rw [hw29]
      refine g_iret h hQ (by first | decide | omega | (simp only [clS]; omega)) (by first | decide | omega | (simp only [clS]; omega)) ?_ dX9_runOut_32
      first
      | (exfalso; omega)
      | (refine ⟨?_, ?_⟩ <;> (repeat first | rw [if_pos (by omega)] | rw [if_neg (by omega)]) <;> rfl)
  · have hl := lkA_none hz
    refine g_aload_n h dX9_runOut_0 rfl ?_
    refine g_iload_n h dX9_runOut_1 rfl ?_
    refine g_callV h rfl (ci := 9) [_] (by assumption) (c_X9_lakeAt _ _ _ hX hzr) clX9_66 (by decide) rfl in_X9_lakeAt se_X9_lakeAt rfl rfl (by rw [hRm]; first | decide | (simp only [clS]; omega)) (by rw [hRm]; first | decide | (simp only [clS]; omega)) (fun _ => Nat.le_of_ble_eq_true rfl) (by rw [hRm]; first | decide | (simp only [clS]; omega)) (by rw [hRm]; first | decide | (simp only [clS]; omega)) dX9_runOut_2 (fun r2 w2 hp2 => ?_)
    obtain ⟨rfl, hw2⟩ := hp2
    rw [hw2, hl]
    refine g_astore_n h dX9_runOut_5 (Nat.le_of_ble_eq_true rfl) rfl rfl ?_
    refine g_aload_n h dX9_runOut_6 rfl ?_
    refine g_ifnonnull (tgt := 16) h dX9_runOut_7 (by decide) (fun _ cnn => by cases cnn) (fun cnn => ?_)
    refine g_aload_n h dX9_runOut_10 rfl ?_
    refine g_iconst h dX9_runOut_11 ?_
    refine g_callV h rfl (ci := 9) [_] (by assumption) (c_X9_refused _ _ _ hX) clX9_162 (by decide) rfl in_X9_refused se_X9_refused rfl rfl (by rw [hRm]; first | decide | (simp only [clS]; omega)) (by rw [hRm]; first | decide | (simp only [clS]; omega)) (fun _ => Nat.le_of_ble_eq_true rfl) (by rw [hRm]; first | decide | (simp only [clS]; omega)) (by rw [hRm]; first | decide | (simp only [clS]; omega)) dX9_runOut_12 (fun r12 w12 hp12 => ?_)
    obtain ⟨rfl, hw12⟩ := hp12
    rw [hw12]
    refine g_iret h hQ (by first | decide | omega | (simp only [clS]; omega)) (by first | decide | omega | (simp only [clS]; omega)) ?_ dX9_runOut_15
    first
    | (exfalso; omega)
    | (refine ⟨?_, ?_⟩ <;> (repeat first | rw [if_pos (by omega)] | rw [if_neg (by omega)]) <;> rfl)
set_option maxRecDepth 100000 in
set_option maxHeartbeats 4000000 in
theorem c_X9_arrives (l : Launch) (w : AW) (a : Int) (hX : XS w) (hD : LDN w) (har : R32 a) : HT l yX9_arrives cX9_arrives 2 (some .int) 2 0 0 w [ar 0, ai a] (rI (if (0 ≤ a ∧ a < 400) ∧ w.2.1 36 5 = 1 then w.2.1 38 a.toNat else -1) w) := by
  refine HT.of (by decide) (by intro v hv; simp only [List.mem_cons, List.not_mem_nil, or_false] at hv; rcases hv with rfl | rfl <;> rfl) (Nat.le_of_ble_eq_true rfl) ?_
  intro Γ h hQ hRm hnm hl hw0
  have s0 : w.1 0 = (109, 0) := hX.1 0 (by decide)
  have s36 : w.1 36 = (100, 0) := hX.1 36 (by decide)
  have s38 : w.1 38 = (1, 400) := hX.1 38 (by decide)
  have p0_10 : w.2.2 0 10 = some 36 := hX.2 (0, 10, 36) (by decide)
  have p36_4 : w.2.2 36 4 = some 38 := hX.2 (36, 4, 38) (by decide)
  have hr := hD.2.2.2.1
  have s36 : w.1 36 = (100, 0) := hX.1 36 (by decide)
  have s38 : w.1 38 = (1, 400) := hX.1 38 (by decide)
  have p4 : w.2.2 36 4 = some 38 := hX.2 (36, 4, 38) (by decide)
  refine g_iload_n h dX9_arrives_0 rfl ?_
  refine g_callS h rfl [_] (c_X9_isCell _ _ _ har) clX9_280 st_X9_isCell rfl rfl (by rw [hRm]; first | decide | (simp only [clS]; omega)) (by rw [hRm]; first | decide | (simp only [clS]; omega)) (fun _ => Nat.le_of_ble_eq_true rfl) (by rw [hRm]; first | decide | (simp only [clS]; omega)) (by rw [hRm]; first | decide | (simp only [clS]; omega)) dX9_arrives_1 (fun r1 w1 hp1 => ?_)
  obtain ⟨rfl, hw1⟩ := hp1
  rw [hw1]
  have hbw1 := ite01 (0 ≤ a ∧ a < 400)
  refine g_if_eq (tgt := 17) h dX9_arrives_4 (by decide) (by first | assumption | exact ⟨by omega, by omega⟩) (fun c4 => ?_) (fun c4 => ?_)
  · refine g_iconst h dX9_arrives_17 ?_
    refine g_iret h hQ (by first | decide | omega | (simp only [clS]; omega)) (by first | decide | omega | (simp only [clS]; omega)) ?_ dX9_arrives_18
    first
    | (exfalso; omega)
    | (refine ⟨?_, ?_⟩ <;> (repeat first | rw [if_pos (by omega)] | rw [if_neg (by omega)]) <;> rfl)
  · refine g_aload_n h dX9_arrives_7 rfl ?_
    refine g_getQ h flX9_52 rfl (by assumption) (by assumption) dX9_arrives_8 ?_
    refine g_getI h flX9_318 rfl (by assumption) dX9_arrives_11 ?_
    refine g_if_ne (tgt := 19) h dX9_arrives_14 (by decide) (by first | assumption | exact ⟨by omega, by omega⟩) (fun c14 => ?_) (fun c14 => ?_)
    · refine g_aload_n h dX9_arrives_19 rfl ?_
      refine g_getQ h flX9_52 rfl (by assumption) (by assumption) dX9_arrives_20 ?_
      refine g_getQ h flX9_321 rfl (by assumption) (by assumption) dX9_arrives_23 ?_
      refine g_iload_n h dX9_arrives_26 rfl ?_
      refine g_iald h (a.toNat) (by assumption) (by first | omega | assumption) (by first | omega | assumption) (by first | decide | omega) dX9_arrives_27 ?_
      refine g_iret h hQ (by first | decide | omega | (simp only [clS]; omega)) (by first | decide | omega | (simp only [clS]; omega)) ?_ dX9_arrives_28
      first
      | (exfalso; omega)
      | (refine ⟨?_, ?_⟩ <;> (repeat first | rw [if_pos (by omega)] | rw [if_neg (by omega)]) <;> rfl)
    · refine g_iconst h dX9_arrives_17 ?_
      refine g_iret h hQ (by first | decide | omega | (simp only [clS]; omega)) (by first | decide | omega | (simp only [clS]; omega)) ?_ dX9_arrives_18
      first
      | (exfalso; omega)
      | (refine ⟨?_, ?_⟩ <;> (repeat first | rw [if_pos (by omega)] | rw [if_neg (by omega)]) <;> rfl)
set_option maxRecDepth 100000 in
set_option maxHeartbeats 4000000 in
theorem c_X9_climb (l : Launch) (w : AW) (sz nv : Nat) (a m : Int) (hC : CI w sz) (hD : LDN w) (hV : VI w nv) (hvc : ∀ v, v < nv → 0 ≤ w.2.1 (60 + v) 0 ∧ w.2.1 (60 + v) 0 < 400) (har : R32 a) (hm : R32 m) : HT l yX9_climb cX9_climb 4 (some .int) 5 0 0 w [ar 0, ai a, ai m] (fun r w' => r = some (ai (if ¬ ((0 ≤ a ∧ a < (nv : Int)) ∧ w.2.1 36 5 = 1) then -1 else if ¬ (0 ≤ m ∧ m ≤ 500) then -1 else (mtV w (w.2.1 (60 + a.toNat) 0).toNat m).1)) ∧ w' = (if ¬ ((0 ≤ a ∧ a < (nv : Int)) ∧ w.2.1 36 5 = 1) then upI w 0 16 1 else if ¬ (0 ≤ m ∧ m ≤ 500) then upI w 0 16 2 else upI (mtV w (w.2.1 (60 + a.toNat) 0).toNat m).2 0 16 0)) := by
  refine HT.of (by decide) (by intro v hv; simp only [List.mem_cons, List.not_mem_nil, or_false] at hv; rcases hv with rfl | rfl | rfl <;> rfl) (Nat.le_of_ble_eq_true rfl) ?_
  intro Γ h hQ hRm hnm hl hw0
  obtain ⟨hX, hs, hs2, hK, h37, h39⟩ := id hC
  obtain ⟨j1, j2, j3, j4⟩ := id hV
  have s0 : w.1 0 = (109, 0) := hX.1 0 (by decide)
  have s36 : w.1 36 = (100, 0) := hX.1 36 (by decide)
  have p0_10 : w.2.2 0 10 = some 36 := hX.2 (0, 10, 36) (by decide)
  have s36 : w.1 36 = (100, 0) := hX.1 36 (by decide)
  have hr := hD.2.2.2.1
  by_cases hap : 0 ≤ a ∧ a < (nv : Int)
  · obtain ⟨p, rfl⟩ : ∃ m : Nat, a = (m : Int) := ⟨a.toNat, by omega⟩
    simp only [Int.toNat_natCast] at *
    obtain ⟨k1, k2, k7⟩ := j3 p (by omega)
    have hcc := hvc p (by omega)
    obtain ⟨C, hCe⟩ : ∃ C : Nat, w.2.1 (60 + p) 0 = (C : Int) := ⟨(w.2.1 (60 + p) 0).toNat, by omega⟩
    rw [hCe, Int.toNat_natCast] at hQ
    have ePA : viA (p : Int) nv = some (60 + p) := if_pos hap
    refine g_aload_n h dX9_climb_0 rfl ?_
    refine g_iload_n h dX9_climb_1 rfl ?_
    refine g_callV h rfl (ci := 9) [_] (by assumption) (c_X9_villageAt _ _ nv _ hX hV har) clX9_329 (by decide) rfl in_X9_villageAt se_X9_villageAt rfl rfl (by rw [hRm]; first | decide | (simp only [clS]; omega)) (by rw [hRm]; first | decide | (simp only [clS]; omega)) (fun _ => Nat.le_of_ble_eq_true rfl) (by rw [hRm]; first | decide | (simp only [clS]; omega)) (by rw [hRm]; first | decide | (simp only [clS]; omega)) dX9_climb_2 (fun r2 w2 hp2 => ?_)
    obtain ⟨rfl, hw2⟩ := hp2
    rw [hw2]
    rw [ePA]
    refine g_astore_n h dX9_climb_5 (Nat.le_of_ble_eq_true rfl) rfl rfl ?_
    refine g_aload_n h dX9_climb_6 rfl ?_
    refine g_ifnull (tgt := 20) h dX9_climb_7 (by decide) (fun cnn => by cases cnn) (fun _ cnn => ?_)
    refine g_aload_n h dX9_climb_10 rfl ?_
    refine g_getQ h flX9_52 rfl (by assumption) (by assumption) dX9_climb_11 ?_
    refine g_getI h flX9_318 rfl (by assumption) dX9_climb_14 ?_
    refine g_if_ne (tgt := 26) h dX9_climb_17 (by decide) (by first | assumption | exact ⟨by omega, by omega⟩) (fun c17 => ?_) (fun c17 => ?_)
    · refine g_iload_n h dX9_climb_26 rfl ?_
      refine g_iconst h dX9_climb_27 ?_
      refine g_sipush h dX9_climb_28 rfl ?_
      refine g_callS h rfl [_, _, _] (c_X9_isWithin _ _ _ _ _ hm ⟨by omega, by omega⟩ ⟨by omega, by omega⟩) clX9_78 st_X9_isWithin rfl rfl (by rw [hRm]; first | decide | (simp only [clS]; omega)) (by rw [hRm]; first | decide | (simp only [clS]; omega)) (fun _ => Nat.le_of_ble_eq_true rfl) (by rw [hRm]; first | decide | (simp only [clS]; omega)) (by rw [hRm]; first | decide | (simp only [clS]; omega)) dX9_climb_31 (fun r31 w31 hp31 => ?_)
      obtain ⟨rfl, hw31⟩ := hp31
      rw [hw31]
      have hbw31 := ite01 ((0 : Int) ≤ m ∧ m ≤ 500)
      refine g_if_ne (tgt := 43) h dX9_climb_34 (by decide) (by first | assumption | exact ⟨by omega, by omega⟩) (fun c34 => ?_) (fun c34 => ?_)
      · refine g_aload_n h dX9_climb_43 rfl ?_
        refine g_aload_n h dX9_climb_44 rfl ?_
        refine g_getQ h flX9_52 rfl (by assumption) (by assumption) dX9_climb_45 ?_
        refine g_aload_n h dX9_climb_48 rfl ?_
        refine g_getI h flX9_333 rfl (by assumption) dX9_climb_49 ?_
        rw [hCe]
        refine g_iload_n h dX9_climb_52 rfl ?_
        refine g_callV h rfl (ci := 0) [_, _] (by assumption) (c_X0_minutesToSafety _ _ sz C m hC (by omega) ⟨by omega, by omega⟩ hD.2.2.2.2) clX9_334 (by decide) rfl in_X0_minutesToSafety se_X0_minutesToSafety rfl rfl (by rw [hRm]; first | decide | (simp only [clS]; omega)) (by rw [hRm]; first | decide | (simp only [clS]; omega)) (fun _ => Nat.le_of_ble_eq_true rfl) (by rw [hRm]; first | decide | (simp only [clS]; omega)) (by rw [hRm]; first | decide | (simp only [clS]; omega)) dX9_climb_53 (fun r53 w53 hp53 => ?_)
        obtain ⟨rfl, hw53⟩ := hp53
        rw [hw53]
        obtain ⟨s9, hC9⟩ := CI_mt (frm := C) (st := m) hC (by omega)
        have hX9 := hC9.1
        have v0 : (mtV w C m).2.1 0 = (109, 0) := hX9.1 0 (by decide)
        refine g_callV h rfl (ci := 9) [_] (by assumption) (c_X9_answered _ _ _ hX9) clX9_169 (by decide) rfl in_X9_answered se_X9_answered rfl rfl (by rw [hRm]; first | decide | (simp only [clS]; omega)) (by rw [hRm]; first | decide | (simp only [clS]; omega)) (fun _ => Nat.le_of_ble_eq_true rfl) (by rw [hRm]; first | decide | (simp only [clS]; omega)) (by rw [hRm]; first | decide | (simp only [clS]; omega)) dX9_climb_56 (fun r56 w56 hp56 => ?_)
        obtain ⟨rfl, hw56⟩ := hp56
        rw [hw56]
        refine g_iret h hQ (by first | decide | omega | (simp only [clS]; omega)) (by first | decide | omega | (simp only [clS]; omega)) ?_ dX9_climb_59
        first
        | (exfalso; omega)
        | (refine ⟨?_, ?_⟩ <;> (repeat first | rw [if_pos (by omega)] | rw [if_neg (by omega)]) <;> rfl)
      · refine g_aload_n h dX9_climb_37 rfl ?_
        refine g_iconst h dX9_climb_38 ?_
        refine g_callV h rfl (ci := 9) [_] (by assumption) (c_X9_refused _ _ _ hX) clX9_162 (by decide) rfl in_X9_refused se_X9_refused rfl rfl (by rw [hRm]; first | decide | (simp only [clS]; omega)) (by rw [hRm]; first | decide | (simp only [clS]; omega)) (fun _ => Nat.le_of_ble_eq_true rfl) (by rw [hRm]; first | decide | (simp only [clS]; omega)) (by rw [hRm]; first | decide | (simp only [clS]; omega)) dX9_climb_39 (fun r39 w39 hp39 => ?_)
        obtain ⟨rfl, hw39⟩ := hp39
        rw [hw39]
        refine g_iret h hQ (by first | decide | omega | (simp only [clS]; omega)) (by first | decide | omega | (simp only [clS]; omega)) ?_ dX9_climb_42
        first
        | (exfalso; omega)
        | (refine ⟨?_, ?_⟩ <;> (repeat first | rw [if_pos (by omega)] | rw [if_neg (by omega)]) <;> rfl)
    · refine g_aload_n h dX9_climb_20 rfl ?_
      refine g_iconst h dX9_climb_21 ?_
      refine g_callV h rfl (ci := 9) [_] (by assumption) (c_X9_refused _ _ _ hX) clX9_162 (by decide) rfl in_X9_refused se_X9_refused rfl rfl (by rw [hRm]; first | decide | (simp only [clS]; omega)) (by rw [hRm]; first | decide | (simp only [clS]; omega)) (fun _ => Nat.le_of_ble_eq_true rfl) (by rw [hRm]; first | decide | (simp only [clS]; omega)) (by rw [hRm]; first | decide | (simp only [clS]; omega)) dX9_climb_22 (fun r22 w22 hp22 => ?_)
      obtain ⟨rfl, hw22⟩ := hp22
      rw [hw22]
      refine g_iret h hQ (by first | decide | omega | (simp only [clS]; omega)) (by first | decide | omega | (simp only [clS]; omega)) ?_ dX9_climb_25
      first
      | (exfalso; omega)
      | (refine ⟨?_, ?_⟩ <;> (repeat first | rw [if_pos (by omega)] | rw [if_neg (by omega)]) <;> rfl)
  · have ePA : viA a nv = none := if_neg hap
    refine g_aload_n h dX9_climb_0 rfl ?_
    refine g_iload_n h dX9_climb_1 rfl ?_
    refine g_callV h rfl (ci := 9) [_] (by assumption) (c_X9_villageAt _ _ nv _ hX hV har) clX9_329 (by decide) rfl in_X9_villageAt se_X9_villageAt rfl rfl (by rw [hRm]; first | decide | (simp only [clS]; omega)) (by rw [hRm]; first | decide | (simp only [clS]; omega)) (fun _ => Nat.le_of_ble_eq_true rfl) (by rw [hRm]; first | decide | (simp only [clS]; omega)) (by rw [hRm]; first | decide | (simp only [clS]; omega)) dX9_climb_2 (fun r2 w2 hp2 => ?_)
    obtain ⟨rfl, hw2⟩ := hp2
    rw [hw2]
    rw [ePA]
    refine g_astore_n h dX9_climb_5 (Nat.le_of_ble_eq_true rfl) rfl rfl ?_
    refine g_aload_n h dX9_climb_6 rfl ?_
    refine g_ifnull (tgt := 20) h dX9_climb_7 (by decide) (fun cnn => ?_) (fun _ cnn => by cases cnn)
    refine g_aload_n h dX9_climb_20 rfl ?_
    refine g_iconst h dX9_climb_21 ?_
    refine g_callV h rfl (ci := 9) [_] (by assumption) (c_X9_refused _ _ _ hX) clX9_162 (by decide) rfl in_X9_refused se_X9_refused rfl rfl (by rw [hRm]; first | decide | (simp only [clS]; omega)) (by rw [hRm]; first | decide | (simp only [clS]; omega)) (fun _ => Nat.le_of_ble_eq_true rfl) (by rw [hRm]; first | decide | (simp only [clS]; omega)) (by rw [hRm]; first | decide | (simp only [clS]; omega)) dX9_climb_22 (fun r22 w22 hp22 => ?_)
    obtain ⟨rfl, hw22⟩ := hp22
    rw [hw22]
    refine g_iret h hQ (by first | decide | omega | (simp only [clS]; omega)) (by first | decide | omega | (simp only [clS]; omega)) ?_ dX9_climb_25
    first
    | (exfalso; omega)
    | (refine ⟨?_, ?_⟩ <;> (repeat first | rw [if_pos (by omega)] | rw [if_neg (by omega)]) <;> rfl)
set_option maxRecDepth 100000 in
set_option maxHeartbeats 4000000 in
theorem c_X9_lost (l : Launch) (w : AW) (sz nv : Nat) (m : Int) (hC : CI w sz) (hD : LDN w) (hV : VI w nv) (hvc : ∀ v, v < nv → 0 ≤ w.2.1 (60 + v) 0 ∧ w.2.1 (60 + v) 0 < 400) (hm : R32 m) : HT l yX9_lost cX9_lost 5 (some .int) 5 0 0 w [ar 0, ai m] (fun r w' => r = some (ai (if ¬ w.2.1 36 5 = 1 then -1 else if ¬ (0 ≤ m ∧ m ≤ 500) then -1 else (lsF w m nv).1)) ∧ w' = (if ¬ w.2.1 36 5 = 1 then upI w 0 16 1 else if ¬ (0 ≤ m ∧ m ≤ 500) then upI w 0 16 2 else upI (lsF w m nv).2 0 16 0)) := by
  refine HT.of (by decide) (by intro v hv; simp only [List.mem_cons, List.not_mem_nil, or_false] at hv; rcases hv with rfl | rfl <;> rfl) (Nat.le_of_ble_eq_true rfl) ?_
  intro Γ h hQ hRm hnm hl hw0
  obtain ⟨hX, hs, hs2, hK, h37, h39⟩ := id hC
  obtain ⟨j1, j2, j3, j4⟩ := id hV
  have s0 : w.1 0 = (109, 0) := hX.1 0 (by decide)
  have s36 : w.1 36 = (100, 0) := hX.1 36 (by decide)
  have p0_10 : w.2.2 0 10 = some 36 := hX.2 (0, 10, 36) (by decide)
  have s36 : w.1 36 = (100, 0) := hX.1 36 (by decide)
  have hr := hD.2.2.2.1
  have loop : (0 ≤ m ∧ m ≤ 500) → w.2.1 36 5 = 1 → ∀ (d i : Nat) (x : Option AV), i + d = nv → GG Γ 37 [some (ar 0), some (ai m), some (ai (lsF w m i).1), some (ai (i : Int)), x] [] (lsF w m i).2 0 0 := by
    intro hmm hr1 d
    induction d with
    | zero =>
      intro i x hi
      obtain rfl : i = nv := by omega
      obtain ⟨o1, o2, o3⟩ := lsF_o (w := w) (st := m) i
      obtain ⟨s9, hC9⟩ := CI_ls hC hmm.1 i
      have hX9 := hC9.1
      have v0 : (lsF w m i).2.1 0 = (109, 0) := hX9.1 0 (by decide)
      have e12 : (lsF w m i).2.2.1 0 12 = (i : Int) := (congrFun (o1 0 (by decide) (by decide) (by decide)) 12).trans j1
      refine g_iload_n h dX9_lost_37 rfl ?_
      refine g_aload_n h dX9_lost_38 rfl ?_
      refine g_getI h flX9_324 rfl (by assumption) dX9_lost_39 ?_
      rw [e12]
      refine g_icmp_ge (tgt := 97) h dX9_lost_42 (by decide) (by first | assumption | exact ⟨by omega, by omega⟩) (by first | assumption | exact ⟨by omega, by omega⟩) (fun c42 => ?_) (fun c42 => ?_)
      · refine g_aload_n h dX9_lost_97 rfl ?_
        refine g_iload_n h dX9_lost_98 rfl ?_
        refine g_callV h rfl (ci := 9) [_] (by assumption) (c_X9_answered _ _ _ hX9) clX9_169 (by decide) rfl in_X9_answered se_X9_answered rfl rfl (by rw [hRm]; first | decide | (simp only [clS]; omega)) (by rw [hRm]; first | decide | (simp only [clS]; omega)) (fun _ => Nat.le_of_ble_eq_true rfl) (by rw [hRm]; first | decide | (simp only [clS]; omega)) (by rw [hRm]; first | decide | (simp only [clS]; omega)) dX9_lost_99 (fun r99 w99 hp99 => ?_)
        obtain ⟨rfl, hw99⟩ := hp99
        rw [hw99]
        refine g_iret h hQ (by first | decide | omega | (simp only [clS]; omega)) (by first | decide | omega | (simp only [clS]; omega)) ?_ dX9_lost_102
        first
        | (exfalso; omega)
        | (refine ⟨?_, ?_⟩ <;> (repeat first | rw [if_pos (by omega)] | rw [if_neg (by omega)]) <;> rfl)
      · exfalso; omega
    | succ d ih =>
      intro i x hi
      obtain ⟨o1, o2, o3⟩ := lsF_o (w := w) (st := m) i
      obtain ⟨s9, hC9⟩ := CI_ls hC hmm.1 i
      have hX9 := hC9.1
      have v0 : (lsF w m i).2.1 0 = (109, 0) := hX9.1 0 (by decide)
      have v36 : (lsF w m i).2.1 36 = (100, 0) := hX9.1 36 (by decide)
      have vp : (lsF w m i).2.2.2 0 10 = some 36 := hX9.2 (0, 10, 36) (by decide)
      have e12 : (lsF w m i).2.2.1 0 12 = (nv : Int) := (congrFun (o1 0 (by decide) (by decide) (by decide)) 12).trans j1
      obtain ⟨k1, k2, k7⟩ := j3 i (by omega)
      have hcc := hvc i (by omega)
      obtain ⟨C, hCe⟩ : ∃ C : Nat, w.2.1 (60 + i) 0 = (C : Int) := ⟨(w.2.1 (60 + i) 0).toNat, by omega⟩
      have evi := o1 (60 + i) (by omega) (by omega) (by omega)
      have vk : (lsF w m i).2.1 (60 + i) = (108, 0) := by rw [o2]; exact k2
      have ePA : viA (i : Int) nv = some (60 + i) := if_pos ⟨by omega, by omega⟩
      have hVi : VI (lsF w m i).2 nv := ⟨e12, j2, fun v hv => ⟨by rw [o3]; exact (j3 v hv).1, by rw [o2]; exact (j3 v hv).2.1, by rw [o1 (60 + v) (by omega) (by omega) (by omega)]; exact (j3 v hv).2.2⟩, fun v h1 h2 => by rw [o2]; exact j4 v h1 h2⟩
      have hAi : ∀ c, c < 400 → -2 ≤ (lsF w m i).2.2.1 38 c ∧ (lsF w m i).2.2.1 38 c ≤ 1000 := by rw [o1 38 (by decide) (by decide) (by decide)]; exact hD.2.2.2.2
      have en : lsF w m (i + 1) = (if w.2.1 (60 + i) 2 = 0 then ((lsF w m i).1 + (if (mtV (lsF w m i).2 (w.2.1 (60 + i) 0).toNat m).1 = -2 then w.2.1 (60 + i) 1 else 0), (mtV (lsF w m i).2 (w.2.1 (60 + i) 0).toNat m).2) else lsF w m i) := rfl
      rw [hCe, Int.toNat_natCast] at en
      have mo := fun j (h1 : j ≠ 40) (h2 : j ≠ 41) (h3 : j ≠ 39) => (mtV_o (w := (lsF w m i).2) (frm := C) (st := m) h1 h2 h3)
      have hb := mtV_bd (lsF w m i).2 C m hC9 hmm
      refine g_iload_n h dX9_lost_37 rfl ?_
      refine g_aload_n h dX9_lost_38 rfl ?_
      refine g_getI h flX9_324 rfl (by assumption) dX9_lost_39 ?_
      rw [e12]
      refine g_icmp_ge (tgt := 97) h dX9_lost_42 (by decide) (by first | assumption | exact ⟨by omega, by omega⟩) (by first | assumption | exact ⟨by omega, by omega⟩) (fun c42 => ?_) (fun c42 => ?_)
      · exfalso; omega
      · refine g_aload_n h dX9_lost_45 rfl ?_
        refine g_iload_n h dX9_lost_46 rfl ?_
        refine g_callV h rfl (ci := 9) [_] (by assumption) (c_X9_villageAt _ _ nv _ hX9 hVi ⟨by omega, by omega⟩) clX9_329 (by decide) rfl in_X9_villageAt se_X9_villageAt rfl rfl (by rw [hRm]; first | decide | (simp only [clS]; omega)) (by rw [hRm]; first | decide | (simp only [clS]; omega)) (fun _ => Nat.le_of_ble_eq_true rfl) (by rw [hRm]; first | decide | (simp only [clS]; omega)) (by rw [hRm]; first | decide | (simp only [clS]; omega)) dX9_lost_47 (fun r47 w47 hp47 => ?_)
        obtain ⟨rfl, hw47⟩ := hp47
        rw [hw47]
        rw [ePA]
        refine g_astore h dX9_lost_50 (Nat.le_of_ble_eq_true rfl) rfl rfl ?_
        refine g_aload h dX9_lost_52 rfl ?_
        refine g_ifnull (tgt := 91) h dX9_lost_54 (by decide) (fun cnn => by cases cnn) (fun _ cnn => ?_)
        refine g_aload h dX9_lost_57 rfl ?_
        refine g_getI h flX9_337 rfl (by assumption) dX9_lost_59 ?_
        rw [evi]
        refine g_if_ne (tgt := 91) h dX9_lost_62 (by decide) (by first | assumption | exact ⟨by omega, by omega⟩) (fun c62 => ?_) (fun c62 => ?_)
        · refine g_iinc h dX9_lost_91 rfl (Nat.le_of_ble_eq_true rfl) rfl rfl ?_
          refine g_goto (tgt := 37) h dX9_lost_94 (by decide) ?_
          rw [if_neg (by assumption)] at en
          have hn := ih (i + 1) (some (ar (60 + i))) (by omega)
          rw [en] at hn
          exact hn
        · refine g_aload_n h dX9_lost_65 rfl ?_
          refine g_getQ h flX9_52 rfl (by assumption) (by assumption) dX9_lost_66 ?_
          refine g_aload h dX9_lost_69 rfl ?_
          refine g_getI h flX9_333 rfl (by assumption) dX9_lost_71 ?_
          rw [evi, hCe]
          refine g_iload_n h dX9_lost_74 rfl ?_
          refine g_callV h rfl (ci := 0) [_, _] (by assumption) (c_X0_minutesToSafety _ _ s9 C m hC9 (by omega) hmm hAi) clX9_334 (by decide) rfl in_X0_minutesToSafety se_X0_minutesToSafety rfl rfl (by rw [hRm]; first | decide | (simp only [clS]; omega)) (by rw [hRm]; first | decide | (simp only [clS]; omega)) (fun _ => Nat.le_of_ble_eq_true rfl) (by rw [hRm]; first | decide | (simp only [clS]; omega)) (by rw [hRm]; first | decide | (simp only [clS]; omega)) dX9_lost_75 (fun r75 w75 hp75 => ?_)
          obtain ⟨rfl, hw75⟩ := hp75
          rw [hw75]
          have x1 : (mtV (lsF w m i).2 C m).2.1 (60 + i) = (108, 0) := by rw [(mo 0 (by decide) (by decide) (by decide)).2.1]; exact vk
          refine g_bipush h dX9_lost_78 rfl ?_
          refine g_icmp_ne (tgt := 91) h dX9_lost_80 (by decide) (by first | assumption | exact ⟨by omega, by omega⟩) (by first | assumption | exact ⟨by omega, by omega⟩) (fun c80 => ?_) (fun c80 => ?_)
          · refine g_iinc h dX9_lost_91 rfl (Nat.le_of_ble_eq_true rfl) rfl rfl ?_
            refine g_goto (tgt := 37) h dX9_lost_94 (by decide) ?_
            rw [if_pos (by omega), if_neg (by assumption), Int.add_zero] at en
            have hn := ih (i + 1) (some (ar (60 + i))) (by omega)
            rw [en] at hn
            exact hn
          · refine g_iload_n h dX9_lost_83 rfl ?_
            refine g_aload h dX9_lost_84 rfl ?_
            refine g_getI h flX9_340 rfl (by assumption) dX9_lost_86 ?_
            rw [(mo (60 + i) (by omega) (by omega) (by omega)).1, evi]
            refine g_iadd h dX9_lost_89 ?_
            refine g_istore_n h dX9_lost_90 (Nat.le_of_ble_eq_true rfl) rfl rfl ?_
            refine g_iinc h dX9_lost_91 rfl (Nat.le_of_ble_eq_true rfl) rfl rfl ?_
            refine g_goto (tgt := 37) h dX9_lost_94 (by decide) ?_
            rw [if_pos (by omega), if_pos (by assumption)] at en
            have hn := ih (i + 1) (some (ar (60 + i))) (by omega)
            rw [en] at hn
            exact hn
  refine g_aload_n h dX9_lost_0 rfl ?_
  refine g_getQ h flX9_52 rfl (by assumption) (by assumption) dX9_lost_1 ?_
  refine g_getI h flX9_318 rfl (by assumption) dX9_lost_4 ?_
  refine g_if_ne (tgt := 16) h dX9_lost_7 (by decide) (by first | assumption | exact ⟨by omega, by omega⟩) (fun c7 => ?_) (fun c7 => ?_)
  · refine g_iload_n h dX9_lost_16 rfl ?_
    refine g_iconst h dX9_lost_17 ?_
    refine g_sipush h dX9_lost_18 rfl ?_
    refine g_callS h rfl [_, _, _] (c_X9_isWithin _ _ _ _ _ hm ⟨by omega, by omega⟩ ⟨by omega, by omega⟩) clX9_78 st_X9_isWithin rfl rfl (by rw [hRm]; first | decide | (simp only [clS]; omega)) (by rw [hRm]; first | decide | (simp only [clS]; omega)) (fun _ => Nat.le_of_ble_eq_true rfl) (by rw [hRm]; first | decide | (simp only [clS]; omega)) (by rw [hRm]; first | decide | (simp only [clS]; omega)) dX9_lost_21 (fun r21 w21 hp21 => ?_)
    obtain ⟨rfl, hw21⟩ := hp21
    rw [hw21]
    have hbw21 := ite01 ((0 : Int) ≤ m ∧ m ≤ 500)
    refine g_if_ne (tgt := 33) h dX9_lost_24 (by decide) (by first | assumption | exact ⟨by omega, by omega⟩) (fun c24 => ?_) (fun c24 => ?_)
    · refine g_iconst h dX9_lost_33 ?_
      refine g_istore_n h dX9_lost_34 (Nat.le_of_ble_eq_true rfl) rfl rfl ?_
      refine g_iconst h dX9_lost_35 ?_
      refine g_istore_n h dX9_lost_36 (Nat.le_of_ble_eq_true rfl) rfl rfl ?_
      exact loop ⟨by omega, by omega⟩ (by omega) nv 0 none (by omega)
    · refine g_aload_n h dX9_lost_27 rfl ?_
      refine g_iconst h dX9_lost_28 ?_
      refine g_callV h rfl (ci := 9) [_] (by assumption) (c_X9_refused _ _ _ hX) clX9_162 (by decide) rfl in_X9_refused se_X9_refused rfl rfl (by rw [hRm]; first | decide | (simp only [clS]; omega)) (by rw [hRm]; first | decide | (simp only [clS]; omega)) (fun _ => Nat.le_of_ble_eq_true rfl) (by rw [hRm]; first | decide | (simp only [clS]; omega)) (by rw [hRm]; first | decide | (simp only [clS]; omega)) dX9_lost_29 (fun r29 w29 hp29 => ?_)
      obtain ⟨rfl, hw29⟩ := hp29
      rw [hw29]
      refine g_iret h hQ (by first | decide | omega | (simp only [clS]; omega)) (by first | decide | omega | (simp only [clS]; omega)) ?_ dX9_lost_32
      first
      | (exfalso; omega)
      | (refine ⟨?_, ?_⟩ <;> (repeat first | rw [if_pos (by omega)] | rw [if_neg (by omega)]) <;> rfl)
  · refine g_aload_n h dX9_lost_10 rfl ?_
    refine g_iconst h dX9_lost_11 ?_
    refine g_callV h rfl (ci := 9) [_] (by assumption) (c_X9_refused _ _ _ hX) clX9_162 (by decide) rfl in_X9_refused se_X9_refused rfl rfl (by rw [hRm]; first | decide | (simp only [clS]; omega)) (by rw [hRm]; first | decide | (simp only [clS]; omega)) (fun _ => Nat.le_of_ble_eq_true rfl) (by rw [hRm]; first | decide | (simp only [clS]; omega)) (by rw [hRm]; first | decide | (simp only [clS]; omega)) dX9_lost_12 (fun r12 w12 hp12 => ?_)
    obtain ⟨rfl, hw12⟩ := hp12
    rw [hw12]
    refine g_iret h hQ (by first | decide | omega | (simp only [clS]; omega)) (by first | decide | omega | (simp only [clS]; omega)) ?_ dX9_lost_15
    first
    | (exfalso; omega)
    | (refine ⟨?_, ?_⟩ <;> (repeat first | rw [if_pos (by omega)] | rw [if_neg (by omega)]) <;> rfl)
