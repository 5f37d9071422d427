/-! ===== the reader of rules: steps ===== -/
theorem Pt_z {w w' : AW} {res : Int ⊕ XP} {r : Option AV} (h : Pt w res r w') : ∃ z : Int, r = some (ai z) ∧ (z = 0 ∨ z = 1) := by
  cases res with
  | inl f => exact ⟨0, h.2.1, Or.inl rfl⟩
  | inr s => exact ⟨1, h.2.1, Or.inr rfl⟩
theorem Pt_F {w u w' : AW} {res : Int ⊕ XP} {r : Option AV} (hF : F345 w u) (h : Pt u res r w') : Pt w res r w' := ⟨hF.trans h.1, h.2⟩
set_option maxRecDepth 100000 in
set_option maxHeartbeats 4000000 in
theorem c_X6_takeJoining (l : Launch) (w : AW) (st cp nt op tm ac : Int) (cd wt : List Int) (k v : Int) (ns : Int) (hX : XS w) (hr : RDs w ((st, cp, nt), (op, tm, ac), (cd, wt))) (h4 : w.2.1 23 4 = k) (h5 : w.2.1 23 5 = v) (hk : 0 ≤ k ∧ k ≤ 7) (hv : -1 ≤ v ∧ v ≤ 10000) (hB : XB ((st, cp, nt), (op, tm, ac), (cd, wt))) : HT l yX6_takeJoining cX6_takeJoining 2 none 3 0 0 w [ar 23, ai ns] (fun r w' => r = none ∧ F345 w w' ∧ RDs w' (xJoin ((st, cp, nt), (op, tm, ac), (cd, wt)) v ns)) := by
  refine HT.of (by decide) (by intro v hv; simp only [List.mem_cons, List.not_mem_nil, or_false] at hv; rcases hv with rfl | rfl <;> rfl) (Nat.le_of_ble_eq_true rfl) ?_
  intro Γ h hQ hRm hnm hl hw0
  obtain ⟨r7, r8, r9, r10, r11, r12, r14, r16, rc, rw1⟩ := id hr
  simp only at r7 r8 r9 r10 r11 r12 r14 r16 rc rw1
  obtain ⟨⟨b1, b2⟩, b3, ⟨b4, b5⟩, ⟨b6, b7⟩, ⟨b8, b9⟩, b10, b11⟩ := id hB
  simp only at b1 b2 b3 b4 b5 b6 b7 b8 b9 b10 b11
  have s23 : w.1 23 = (106, 0) := hX.1 23 (by decide)
  have hpl := pwF_len (bnd v) wt cd
  have hps := pwF_SM (bnd v) wt cd b11
  refine g_aload_n h dX6_takeJoining_0 rfl ?_
  refine g_aload_n h dX6_takeJoining_1 rfl ?_
  refine g_getI h flX6_87 rfl (by first | assumption | exact s23) dX6_takeJoining_2 ?_
  rw [h5]
  refine g_callS h rfl [_] (c_X6_bindingOf _ _ v ⟨by omega, by omega⟩) clX6_215 st_X6_bindingOf rfl rfl (by rw [hRm]; first | decide | (simp only [clS]; omega)) (by rw [hRm]; first | decide | (simp only [clS]; omega)) (fun _ => Nat.le_of_ble_eq_true rfl) (by rw [hRm]; first | decide | (simp only [clS]; omega)) (by rw [hRm]; first | decide | (simp only [clS]; omega)) dX6_takeJoining_5 (fun r5 w5 hp5 => ?_)
  obtain ⟨rfl, hw5⟩ := hp5
  rw [hw5]
  refine g_callV h rfl (ci := 6) [_] (by first | assumption | exact s23) (c_X6_putWaiting _ _ st cp nt op tm ac cd wt (bnd v) hX hr (by omega) (by have := bnd_bd v; exact ⟨by omega, by omega⟩) b11) clX6_209 (by decide) rfl in_X6_putWaiting se_X6_putWaiting rfl rfl (by rw [hRm]; first | decide | (simp only [clS]; omega)) (by rw [hRm]; first | decide | (simp only [clS]; omega)) (fun _ => Nat.le_of_ble_eq_true rfl) (by rw [hRm]; first | decide | (simp only [clS]; omega)) (by rw [hRm]; first | decide | (simp only [clS]; omega)) dX6_takeJoining_8 (fun r8 w8 hp8 => ?_)
  obtain ⟨rfl, hF, hr2⟩ := hp8
  have hXb := XS_of hF.1 hF.2.1 hX
  have s23b : w8.1 23 = (106, 0) := hXb.1 23 (by decide)
  have h5b : w8.2.1 23 5 = v := (hF.2.2.2 5 (by decide)).trans h5
  refine g_aload_n h dX6_takeJoining_11 rfl ?_
  refine g_aload_n h dX6_takeJoining_12 rfl ?_
  refine g_getI h flX6_87 rfl (by first | assumption | exact s23) dX6_takeJoining_13 ?_
  rw [h5b]
  refine g_callV h rfl (ci := 6) [_] (by first | assumption | exact s23) (c_X6_setAside _ _ st cp nt op tm ac (pwF (bnd v) cd wt).1 (pwF (bnd v) cd wt).2 v hXb hr2 (by omega)) clX6_199 (by decide) rfl in_X6_setAside se_X6_setAside rfl rfl (by rw [hRm]; first | decide | (simp only [clS]; omega)) (by rw [hRm]; first | decide | (simp only [clS]; omega)) (fun _ => Nat.le_of_ble_eq_true rfl) (by rw [hRm]; first | decide | (simp only [clS]; omega)) (by rw [hRm]; first | decide | (simp only [clS]; omega)) dX6_takeJoining_16 (fun r16 w16 hp16 => ?_)
  obtain ⟨rfl, hF2, hr3⟩ := hp16
  have s23c : w16.1 23 = (106, 0) := by rw [hF2.1]; exact s23b
  obtain ⟨q7, q8, q9, q10, q11, q12, q14, q16, qc, qw⟩ := hr3
  refine g_aload_n h dX6_takeJoining_19 rfl ?_
  refine g_iload_n h dX6_takeJoining_20 rfl ?_
  refine g_putI h flX6_37 rfl rfl (by first | assumption | exact s23) dX6_takeJoining_21 ?_
  refine g_vret h hQ (by first | decide | omega | (simp only [clS]; omega)) (by first | decide | omega | (simp only [clS]; omega)) ?_ dX6_takeJoining_24
  exact ⟨rfl, (hF.trans hF2).trans (F345_23 _ _ (by decide)), upI_self _ _ _ _, q8, q9, q10, q11, q12, q14, q16, qc, qw⟩
set_option maxRecDepth 100000 in
set_option maxHeartbeats 4000000 in
theorem c_X6_takeComparing (l : Launch) (w : AW) (st cp nt op tm ac : Int) (cd wt : List Int) (k v : Int) (hX : XS w) (hr : RDs w ((st, cp, nt), (op, tm, ac), (cd, wt))) (h4 : w.2.1 23 4 = k) (h5 : w.2.1 23 5 = v) (hk : 0 ≤ k ∧ k ≤ 7) (hv : -1 ≤ v ∧ v ≤ 10000) (hB : XB ((st, cp, nt), (op, tm, ac), (cd, wt))) : HT l yX6_takeComparing cX6_takeComparing 1 (some .boolean) 4 0 0 w [ar 23] (fun r w' => r = some (ai 1) ∧ F345 w w' ∧ RDs w' (xCmp ((st, cp, nt), (op, tm, ac), (cd, wt)) v)) := by
  refine HT.of (by decide) (by intro v hv; simp only [List.mem_cons, List.not_mem_nil, or_false] at hv; rcases hv with rfl <;> rfl) (Nat.le_of_ble_eq_true rfl) ?_
  intro Γ h hQ hRm hnm hl hw0
  obtain ⟨r7, r8, r9, r10, r11, r12, r14, r16, rc, rw1⟩ := id hr
  simp only at r7 r8 r9 r10 r11 r12 r14 r16 rc rw1
  obtain ⟨⟨b1, b2⟩, b3, ⟨b4, b5⟩, ⟨b6, b7⟩, ⟨b8, b9⟩, b10, b11⟩ := id hB
  simp only at b1 b2 b3 b4 b5 b6 b7 b8 b9 b10 b11
  have s23 : w.1 23 = (106, 0) := hX.1 23 (by decide)

  refine g_aload_n h dX6_takeComparing_0 rfl ?_
  refine g_getI h flX6_87 rfl (by first | assumption | exact s23) dX6_takeComparing_1 ?_
  rw [h5]
  refine g_callS h rfl [_] (c_X6_isCompareSign _ _ v ⟨by omega, by omega⟩) clX6_112 st_X6_isCompareSign rfl rfl (by rw [hRm]; first | decide | (simp only [clS]; omega)) (by rw [hRm]; first | decide | (simp only [clS]; omega)) (fun _ => Nat.le_of_ble_eq_true rfl) (by rw [hRm]; first | decide | (simp only [clS]; omega)) (by rw [hRm]; first | decide | (simp only [clS]; omega)) dX6_takeComparing_4 (fun r4 w4 hp4 => ?_)
  obtain ⟨rfl, hw4⟩ := hp4
  rw [hw4]
  refine g_if_eq (tgt := 15) h dX6_takeComparing_7 (by decide) (by first | assumption | exact ⟨by omega, by omega⟩) (fun c7 => ?_) (fun c7 => ?_)
  · refine g_aload_n h dX6_takeComparing_15 rfl ?_
    refine g_iconst h dX6_takeComparing_16 ?_
    refine g_callV h rfl (ci := 6) [_] (by first | assumption | exact s23) (c_X6_takeJoining _ _ st cp nt op tm ac cd wt k v 3 hX hr h4 h5 hk hv hB) clX6_206 (by decide) rfl in_X6_takeJoining se_X6_takeJoining rfl rfl (by rw [hRm]; first | decide | (simp only [clS]; omega)) (by rw [hRm]; first | decide | (simp only [clS]; omega)) (fun _ => Nat.le_of_ble_eq_true rfl) (by rw [hRm]; first | decide | (simp only [clS]; omega)) (by rw [hRm]; first | decide | (simp only [clS]; omega)) dX6_takeComparing_17 (fun r17 w17 hp17 => ?_)
    obtain ⟨rfl, hF, hr2⟩ := hp17
    refine g_iconst h dX6_takeComparing_20 ?_
    refine g_zret h hQ (by first | decide | omega | (simp only [clS]; omega)) (by first | decide | omega | (simp only [clS]; omega)) (by omega) ?_ dX6_takeComparing_21
    have e9 : ¬ isC v = true := by unfold isC; rw [decide_eq_true_eq]; exact ite_eq0 c7
    refine ⟨rfl, hF, ?_⟩
    unfold xCmp
    rw [if_neg e9]
    exact hr2
  · refine g_aload_n h dX6_takeComparing_10 rfl ?_
    refine g_iconst h dX6_takeComparing_11 ?_
    refine g_putZ h flX6_40 rfl rfl (by first | assumption | exact s23) (by omega) dX6_takeComparing_12 ?_
    refine g_aload_n h dX6_takeComparing_15 rfl ?_
    refine g_iconst h dX6_takeComparing_16 ?_
    refine g_callV h rfl (ci := 6) [_] (by first | assumption | exact s23) (c_X6_takeJoining _ _ st 1 nt op tm ac cd wt k v 3 (XS_of rfl rfl hX) ⟨r7, upI_self _ _ _ _, r9, r10, r11, r12, r14, r16, rc, rw1⟩ h4 h5 hk hv ⟨⟨b1, b2⟩, Or.inr rfl, ⟨b4, b5⟩, ⟨b6, b7⟩, ⟨b8, b9⟩, b10, b11⟩) clX6_206 (by decide) rfl in_X6_takeJoining se_X6_takeJoining rfl rfl (by rw [hRm]; first | decide | (simp only [clS]; omega)) (by rw [hRm]; first | decide | (simp only [clS]; omega)) (fun _ => Nat.le_of_ble_eq_true rfl) (by rw [hRm]; first | decide | (simp only [clS]; omega)) (by rw [hRm]; first | decide | (simp only [clS]; omega)) dX6_takeComparing_17 (fun r17 w17 hp17 => ?_)
    obtain ⟨rfl, hF, hr2⟩ := hp17
    refine g_iconst h dX6_takeComparing_20 ?_
    refine g_zret h hQ (by first | decide | omega | (simp only [clS]; omega)) (by first | decide | omega | (simp only [clS]; omega)) (by omega) ?_ dX6_takeComparing_21
    have e9 : isC v = true := by unfold isC; exact decide_eq_true (ite_ne0 c7)
    refine ⟨rfl, (F345_23 _ _ (by decide)).trans hF, ?_⟩
    unfold xCmp
    rw [if_pos e9]
    exact hr2
set_option maxRecDepth 100000 in
set_option maxHeartbeats 4000000 in
theorem c_X6_goesOnComparing (l : Launch) (w : AW) (st cp nt op tm ac : Int) (cd wt : List Int) (k v : Int) (hX : XS w) (hr : RDs w ((st, cp, nt), (op, tm, ac), (cd, wt))) (h4 : w.2.1 23 4 = k) (h5 : w.2.1 23 5 = v) (hk : 0 ≤ k ∧ k ≤ 7) (hv : -1 ≤ v ∧ v ≤ 10000) (hB : XB ((st, cp, nt), (op, tm, ac), (cd, wt))) : HT l yX6_goesOnComparing cX6_goesOnComparing 1 (some .boolean) 3 0 0 w [ar 23] (rI (b01 (xGoes ((st, cp, nt), (op, tm, ac), (cd, wt)) k v)) w) := by
  refine HT.of (by decide) (by intro v hv; simp only [List.mem_cons, List.not_mem_nil, or_false] at hv; rcases hv with rfl <;> rfl) (Nat.le_of_ble_eq_true rfl) ?_
  intro Γ h hQ hRm hnm hl hw0
  obtain ⟨r7, r8, r9, r10, r11, r12, r14, r16, rc, rw1⟩ := id hr
  simp only at r7 r8 r9 r10 r11 r12 r14 r16 rc rw1
  obtain ⟨⟨b1, b2⟩, b3, ⟨b4, b5⟩, ⟨b6, b7⟩, ⟨b8, b9⟩, b10, b11⟩ := id hB
  simp only at b1 b2 b3 b4 b5 b6 b7 b8 b9 b10 b11
  have s23 : w.1 23 = (106, 0) := hX.1 23 (by decide)

  refine g_aload_n h dX6_goesOnComparing_0 rfl ?_
  refine g_getI h flX6_90 rfl (by first | assumption | exact s23) dX6_goesOnComparing_1 ?_
  rw [h4]
  refine g_iconst h dX6_goesOnComparing_4 ?_
  refine g_icmp_ne (tgt := 39) h dX6_goesOnComparing_5 (by decide) (by first | assumption | exact ⟨by omega, by omega⟩) (by first | assumption | exact ⟨by omega, by omega⟩) (fun c5 => ?_) (fun c5 => ?_)
  · refine g_iconst h dX6_goesOnComparing_39 ?_
    refine g_zret h hQ (by first | decide | omega | (simp only [clS]; omega)) (by first | decide | omega | (simp only [clS]; omega)) (by omega) ?_ dX6_goesOnComparing_40
    refine ⟨?_, rfl⟩
    show some (ai _) = some (ai (b01 (decide (k = 3) && (decide (v = 43 ∨ v = 45) || (decide (cp = 0) && decide (v = 60 ∨ v = 62 ∨ v = 61))))))
    (first | rw [decide_eq_false (show ¬ k = 3 from c5)] | rw [decide_eq_true (show k = 3 by omega)])
    (first | rw [decide_eq_true (ite_ne0 c15)] | rw [decide_eq_false (ite_eq0 c15)] | skip)
    (first | rw [decide_eq_true (show cp = 0 from c22)] | rw [decide_eq_false (show ¬ cp = 0 from c22)] | skip)
    (first | rw [decide_eq_true (ite_ne0 c32)] | rw [decide_eq_false (ite_eq0 c32)] | skip)
    first | rfl | simp [b01]
  · refine g_aload_n h dX6_goesOnComparing_8 rfl ?_
    refine g_getI h flX6_87 rfl (by first | assumption | exact s23) dX6_goesOnComparing_9 ?_
    rw [h5]
    refine g_callS h rfl [_] (c_X6_isSumSign _ _ v ⟨by omega, by omega⟩) clX6_109 st_X6_isSumSign rfl rfl (by rw [hRm]; first | decide | (simp only [clS]; omega)) (by rw [hRm]; first | decide | (simp only [clS]; omega)) (fun _ => Nat.le_of_ble_eq_true rfl) (by rw [hRm]; first | decide | (simp only [clS]; omega)) (by rw [hRm]; first | decide | (simp only [clS]; omega)) dX6_goesOnComparing_12 (fun r12 w12 hp12 => ?_)
    obtain ⟨rfl, hw12⟩ := hp12
    rw [hw12]
    refine g_if_ne (tgt := 35) h dX6_goesOnComparing_15 (by decide) (by first | assumption | exact ⟨by omega, by omega⟩) (fun c15 => ?_) (fun c15 => ?_)
    · refine g_iconst h dX6_goesOnComparing_35 ?_
      refine g_goto (tgt := 40) h dX6_goesOnComparing_36 (by decide) ?_
      refine g_zret h hQ (by first | decide | omega | (simp only [clS]; omega)) (by first | decide | omega | (simp only [clS]; omega)) (by omega) ?_ dX6_goesOnComparing_40
      refine ⟨?_, rfl⟩
      show some (ai _) = some (ai (b01 (decide (k = 3) && (decide (v = 43 ∨ v = 45) || (decide (cp = 0) && decide (v = 60 ∨ v = 62 ∨ v = 61))))))
      (first | rw [decide_eq_false (show ¬ k = 3 from c5)] | rw [decide_eq_true (show k = 3 by omega)])
      (first | rw [decide_eq_true (ite_ne0 c15)] | rw [decide_eq_false (ite_eq0 c15)] | skip)
      (first | rw [decide_eq_true (show cp = 0 from c22)] | rw [decide_eq_false (show ¬ cp = 0 from c22)] | skip)
      (first | rw [decide_eq_true (ite_ne0 c32)] | rw [decide_eq_false (ite_eq0 c32)] | skip)
      first | rfl | simp [b01]
    · refine g_aload_n h dX6_goesOnComparing_18 rfl ?_
      refine g_getI h flX6_40 rfl (by first | assumption | exact s23) dX6_goesOnComparing_19 ?_
      rw [r8]
      refine g_if_ne (tgt := 39) h dX6_goesOnComparing_22 (by decide) (by first | assumption | exact ⟨by omega, by omega⟩) (fun c22 => ?_) (fun c22 => ?_)
      · refine g_iconst h dX6_goesOnComparing_39 ?_
        refine g_zret h hQ (by first | decide | omega | (simp only [clS]; omega)) (by first | decide | omega | (simp only [clS]; omega)) (by omega) ?_ dX6_goesOnComparing_40
        refine ⟨?_, rfl⟩
        show some (ai _) = some (ai (b01 (decide (k = 3) && (decide (v = 43 ∨ v = 45) || (decide (cp = 0) && decide (v = 60 ∨ v = 62 ∨ v = 61))))))
        (first | rw [decide_eq_false (show ¬ k = 3 from c5)] | rw [decide_eq_true (show k = 3 by omega)])
        (first | rw [decide_eq_true (ite_ne0 c15)] | rw [decide_eq_false (ite_eq0 c15)] | skip)
        (first | rw [decide_eq_true (show cp = 0 from c22)] | rw [decide_eq_false (show ¬ cp = 0 from c22)] | skip)
        (first | rw [decide_eq_true (ite_ne0 c32)] | rw [decide_eq_false (ite_eq0 c32)] | skip)
        first | rfl | simp [b01]
      · refine g_aload_n h dX6_goesOnComparing_25 rfl ?_
        refine g_getI h flX6_87 rfl (by first | assumption | exact s23) dX6_goesOnComparing_26 ?_
        rw [h5]
        refine g_callS h rfl [_] (c_X6_isCompareSign _ _ v ⟨by omega, by omega⟩) clX6_112 st_X6_isCompareSign rfl rfl (by rw [hRm]; first | decide | (simp only [clS]; omega)) (by rw [hRm]; first | decide | (simp only [clS]; omega)) (fun _ => Nat.le_of_ble_eq_true rfl) (by rw [hRm]; first | decide | (simp only [clS]; omega)) (by rw [hRm]; first | decide | (simp only [clS]; omega)) dX6_goesOnComparing_29 (fun r29 w29 hp29 => ?_)
        obtain ⟨rfl, hw29⟩ := hp29
        rw [hw29]
        refine g_if_eq (tgt := 39) h dX6_goesOnComparing_32 (by decide) (by first | assumption | exact ⟨by omega, by omega⟩) (fun c32 => ?_) (fun c32 => ?_)
        · refine g_iconst h dX6_goesOnComparing_39 ?_
          refine g_zret h hQ (by first | decide | omega | (simp only [clS]; omega)) (by first | decide | omega | (simp only [clS]; omega)) (by omega) ?_ dX6_goesOnComparing_40
          refine ⟨?_, rfl⟩
          show some (ai _) = some (ai (b01 (decide (k = 3) && (decide (v = 43 ∨ v = 45) || (decide (cp = 0) && decide (v = 60 ∨ v = 62 ∨ v = 61))))))
          (first | rw [decide_eq_false (show ¬ k = 3 from c5)] | rw [decide_eq_true (show k = 3 by omega)])
          (first | rw [decide_eq_true (ite_ne0 c15)] | rw [decide_eq_false (ite_eq0 c15)] | skip)
          (first | rw [decide_eq_true (show cp = 0 from c22)] | rw [decide_eq_false (show ¬ cp = 0 from c22)] | skip)
          (first | rw [decide_eq_true (ite_ne0 c32)] | rw [decide_eq_false (ite_eq0 c32)] | skip)
          first | rfl | simp [b01]
        · refine g_iconst h dX6_goesOnComparing_35 ?_
          refine g_goto (tgt := 40) h dX6_goesOnComparing_36 (by decide) ?_
          refine g_zret h hQ (by first | decide | omega | (simp only [clS]; omega)) (by first | decide | omega | (simp only [clS]; omega)) (by omega) ?_ dX6_goesOnComparing_40
          refine ⟨?_, rfl⟩
          show some (ai _) = some (ai (b01 (decide (k = 3) && (decide (v = 43 ∨ v = 45) || (decide (cp = 0) && decide (v = 60 ∨ v = 62 ∨ v = 61))))))
          (first | rw [decide_eq_false (show ¬ k = 3 from c5)] | rw [decide_eq_true (show k = 3 by omega)])
          (first | rw [decide_eq_true (ite_ne0 c15)] | rw [decide_eq_false (ite_eq0 c15)] | skip)
          (first | rw [decide_eq_true (show cp = 0 from c22)] | rw [decide_eq_false (show ¬ cp = 0 from c22)] | skip)
          (first | rw [decide_eq_true (ite_ne0 c32)] | rw [decide_eq_false (ite_eq0 c32)] | skip)
          first | rfl | simp [b01]
set_option maxRecDepth 100000 in
set_option maxHeartbeats 4000000 in
theorem c_X6_takeTerm (l : Launch) (w : AW) (st cp nt op tm ac : Int) (cd wt : List Int) (k v : Int) (hX : XS w) (hr : RDs w ((st, cp, nt), (op, tm, ac), (cd, wt))) (h4 : w.2.1 23 4 = k) (h5 : w.2.1 23 5 = v) (hk : 0 ≤ k ∧ k ≤ 7) (hv : -1 ≤ v ∧ v ≤ 10000) (hB : XB ((st, cp, nt), (op, tm, ac), (cd, wt))) : HT l yX6_takeTerm cX6_takeTerm 1 (some .boolean) 2 0 0 w [ar 23] (Pt w (xTerm ((st, cp, nt), (op, tm, ac), (cd, wt)) k v)) := by
  refine HT.of (by decide) (by intro v hv; simp only [List.mem_cons, List.not_mem_nil, or_false] at hv; rcases hv with rfl <;> rfl) (Nat.le_of_ble_eq_true rfl) ?_
  intro Γ h hQ hRm hnm hl hw0
  obtain ⟨r7, r8, r9, r10, r11, r12, r14, r16, rc, rw1⟩ := id hr
  simp only at r7 r8 r9 r10 r11 r12 r14 r16 rc rw1
  obtain ⟨⟨b1, b2⟩, b3, ⟨b4, b5⟩, ⟨b6, b7⟩, ⟨b8, b9⟩, b10, b11⟩ := id hB
  simp only at b1 b2 b3 b4 b5 b6 b7 b8 b9 b10 b11
  have s23 : w.1 23 = (106, 0) := hX.1 23 (by decide)

  refine g_aload_n h dX6_takeTerm_0 rfl ?_
  refine g_getI h flX6_90 rfl (by first | assumption | exact s23) dX6_takeTerm_1 ?_
  rw [h4]
  refine g_iconst h dX6_takeTerm_4 ?_
  refine g_icmp_eq (tgt := 17) h dX6_takeTerm_5 (by decide) (by first | assumption | exact ⟨by omega, by omega⟩) (by first | assumption | exact ⟨by omega, by omega⟩) (fun c5 => ?_) (fun c5 => ?_)
  · refine g_aload_n h dX6_takeTerm_17 rfl ?_
    refine g_iconst h dX6_takeTerm_18 ?_
    refine g_callV h rfl (ci := 6) [_] (by first | assumption | exact s23) (c_X6_faulty _ _ _ (XS_of rfl rfl hX)) clX6_192 (by decide) rfl in_X6_faulty se_X6_faulty rfl rfl (by rw [hRm]; first | decide | (simp only [clS]; omega)) (by rw [hRm]; first | decide | (simp only [clS]; omega)) (fun _ => Nat.le_of_ble_eq_true rfl) (by rw [hRm]; first | decide | (simp only [clS]; omega)) (by rw [hRm]; first | decide | (simp only [clS]; omega)) dX6_takeTerm_19 (fun r19 w19 hp19 => ?_)
    obtain ⟨rfl, hF, h6⟩ := hp19
    refine g_zret h hQ (by first | decide | omega | (simp only [clS]; omega)) (by first | decide | omega | (simp only [clS]; omega)) (by omega) ?_ dX6_takeTerm_22
    first
    | (exfalso; omega)
    | (have e9 : xTerm ((st, cp, nt), (op, tm, ac), (cd, wt)) k v = .inl 2 := by
         unfold xTerm
         dsimp only
         repeat first | rw [if_pos (by omega)] | rw [if_neg (by omega)]
       rw [e9]
       exact ⟨hF, rfl, h6⟩)
  · refine g_aload_n h dX6_takeTerm_8 rfl ?_
    refine g_getI h flX6_90 rfl (by first | assumption | exact s23) dX6_takeTerm_9 ?_
    rw [h4]
    refine g_bipush h dX6_takeTerm_12 rfl ?_
    refine g_icmp_ne (tgt := 23) h dX6_takeTerm_14 (by decide) (by first | assumption | exact ⟨by omega, by omega⟩) (by first | assumption | exact ⟨by omega, by omega⟩) (fun c14 => ?_) (fun c14 => ?_)
    · refine g_aload_n h dX6_takeTerm_23 rfl ?_
      refine g_getI h flX6_90 rfl (by first | assumption | exact s23) dX6_takeTerm_24 ?_
      rw [h4]
      refine g_iconst h dX6_takeTerm_27 ?_
      refine g_icmp_eq (tgt := 45) h dX6_takeTerm_28 (by decide) (by first | assumption | exact ⟨by omega, by omega⟩) (by first | assumption | exact ⟨by omega, by omega⟩) (fun c28 => ?_) (fun c28 => ?_)
      · refine g_aload_n h dX6_takeTerm_45 rfl ?_
        refine g_dup h dX6_takeTerm_46 rfl ?_
        refine g_getI h flX6_50 rfl (by first | assumption | exact s23) dX6_takeTerm_47 ?_
        rw [r11]
        refine g_iconst h dX6_takeTerm_50 ?_
        refine g_iadd h dX6_takeTerm_51 ?_
        refine g_putI h flX6_50 rfl rfl (by first | assumption | exact s23) dX6_takeTerm_52 ?_
        refine g_aload_n h dX6_takeTerm_55 rfl ?_
        refine g_getI h flX6_50 rfl (by first | assumption | exact s23) dX6_takeTerm_56 ?_
        rw [upI_self]
        refine g_bipush h dX6_takeTerm_59 rfl ?_
        refine g_icmp_le (tgt := 70) h dX6_takeTerm_61 (by decide) (by first | assumption | exact ⟨by omega, by omega⟩) (by first | assumption | exact ⟨by omega, by omega⟩) (fun c61 => ?_) (fun c61 => ?_)
        · refine g_aload_n h dX6_takeTerm_70 rfl ?_
          refine g_aload_n h dX6_takeTerm_71 rfl ?_
          refine g_getI h flX6_90 rfl (by first | assumption | exact s23) dX6_takeTerm_72 ?_
          rw [show (upI w 23 11 (tm + 1)).2.1 23 4 = k from h4]
          refine g_iconst h dX6_takeTerm_75 ?_
          refine g_icmp_ne (tgt := 90) h dX6_takeTerm_76 (by decide) (by first | assumption | exact ⟨by omega, by omega⟩) (by first | assumption | exact ⟨by omega, by omega⟩) (fun c76 => ?_) (fun c76 => ?_)
          · refine g_aload_n h dX6_takeTerm_90 rfl ?_
            refine g_getI h flX6_87 rfl (by first | assumption | exact s23) dX6_takeTerm_91 ?_
            first | rw [show (upI w 23 11 (tm + 1)).2.1 23 5 = v from h5] | skip
            refine g_callV h rfl (ci := 6) [_] (by first | assumption | exact s23) (c_X6_put _ _ st cp nt op (tm + 1) ac cd wt _ (XS_of rfl rfl hX) ⟨r7, r8, r9, r10, upI_self _ _ _ _, r12, r14, r16, rc, rw1⟩ (by omega)) clX6_203 (by decide) rfl in_X6_put se_X6_put rfl rfl (by rw [hRm]; first | decide | (simp only [clS]; omega)) (by rw [hRm]; first | decide | (simp only [clS]; omega)) (fun _ => Nat.le_of_ble_eq_true rfl) (by rw [hRm]; first | decide | (simp only [clS]; omega)) (by rw [hRm]; first | decide | (simp only [clS]; omega)) dX6_takeTerm_94 (fun r94 w94 hp94 => ?_)
            obtain ⟨rfl, hF, q7, q8, q9, q10, q11, q12, q14, q16, qc, qw⟩ := hp94
            have s23b : w94.1 23 = (106, 0) := by rw [hF.1]; exact s23
            refine g_aload_n h dX6_takeTerm_97 rfl ?_
            refine g_iconst h dX6_takeTerm_98 ?_
            refine g_putI h flX6_37 rfl rfl (by first | assumption | exact s23) dX6_takeTerm_99 ?_
            refine g_iconst h dX6_takeTerm_102 ?_
            refine g_zret h hQ (by first | decide | omega | (simp only [clS]; omega)) (by first | decide | omega | (simp only [clS]; omega)) (by omega) ?_ dX6_takeTerm_103
            first
            | (exfalso; omega)
            | (have e9 : xTerm ((st, cp, nt), (op, tm, ac), (cd, wt)) k v = .inr ((4, cp, nt), (op, tm + 1, ac), (cd ++ [v], wt)) := by
                 unfold xTerm
                 dsimp only
                 rw [if_neg (by omega), if_neg (by omega), if_neg (by omega)]
                 first | rw [if_pos (by omega)] | rw [if_neg (by omega)]
               rw [e9]
               exact ⟨((F345_23 _ _ (by decide)).trans hF).trans (F345_23 _ _ (by decide)), rfl, upI_self _ _ _ _, q8, q9, q10, q11, q12, q14, q16, qc, qw⟩)
          · refine g_sipush h dX6_takeTerm_79 rfl ?_
            refine g_aload_n h dX6_takeTerm_82 rfl ?_
            refine g_getI h flX6_87 rfl (by first | assumption | exact s23) dX6_takeTerm_83 ?_
            rw [show (upI w 23 11 (tm + 1)).2.1 23 5 = v from h5]
            refine g_iadd h dX6_takeTerm_86 ?_
            refine g_goto (tgt := 94) h dX6_takeTerm_87 (by decide) ?_
            first | rw [show (upI w 23 11 (tm + 1)).2.1 23 5 = v from h5] | skip
            refine g_callV h rfl (ci := 6) [_] (by first | assumption | exact s23) (c_X6_put _ _ st cp nt op (tm + 1) ac cd wt _ (XS_of rfl rfl hX) ⟨r7, r8, r9, r10, upI_self _ _ _ _, r12, r14, r16, rc, rw1⟩ (by omega)) clX6_203 (by decide) rfl in_X6_put se_X6_put rfl rfl (by rw [hRm]; first | decide | (simp only [clS]; omega)) (by rw [hRm]; first | decide | (simp only [clS]; omega)) (fun _ => Nat.le_of_ble_eq_true rfl) (by rw [hRm]; first | decide | (simp only [clS]; omega)) (by rw [hRm]; first | decide | (simp only [clS]; omega)) dX6_takeTerm_94 (fun r94 w94 hp94 => ?_)
            obtain ⟨rfl, hF, q7, q8, q9, q10, q11, q12, q14, q16, qc, qw⟩ := hp94
            have s23b : w94.1 23 = (106, 0) := by rw [hF.1]; exact s23
            refine g_aload_n h dX6_takeTerm_97 rfl ?_
            refine g_iconst h dX6_takeTerm_98 ?_
            refine g_putI h flX6_37 rfl rfl (by first | assumption | exact s23) dX6_takeTerm_99 ?_
            refine g_iconst h dX6_takeTerm_102 ?_
            refine g_zret h hQ (by first | decide | omega | (simp only [clS]; omega)) (by first | decide | omega | (simp only [clS]; omega)) (by omega) ?_ dX6_takeTerm_103
            first
            | (exfalso; omega)
            | (have e9 : xTerm ((st, cp, nt), (op, tm, ac), (cd, wt)) k v = .inr ((4, cp, nt), (op, tm + 1, ac), (cd ++ [10000 + v], wt)) := by
                 unfold xTerm
                 dsimp only
                 rw [if_neg (by omega), if_neg (by omega), if_neg (by omega)]
                 first | rw [if_pos (by omega)] | rw [if_neg (by omega)]
               rw [e9]
               exact ⟨((F345_23 _ _ (by decide)).trans hF).trans (F345_23 _ _ (by decide)), rfl, upI_self _ _ _ _, q8, q9, q10, q11, q12, q14, q16, qc, qw⟩)
        · refine g_aload_n h dX6_takeTerm_64 rfl ?_
          refine g_iconst h dX6_takeTerm_65 ?_
          refine g_callV h rfl (ci := 6) [_] (by first | assumption | exact s23) (c_X6_faulty _ _ _ (XS_of rfl rfl hX)) clX6_192 (by decide) rfl in_X6_faulty se_X6_faulty rfl rfl (by rw [hRm]; first | decide | (simp only [clS]; omega)) (by rw [hRm]; first | decide | (simp only [clS]; omega)) (fun _ => Nat.le_of_ble_eq_true rfl) (by rw [hRm]; first | decide | (simp only [clS]; omega)) (by rw [hRm]; first | decide | (simp only [clS]; omega)) dX6_takeTerm_66 (fun r66 w66 hp66 => ?_)
          obtain ⟨rfl, hF, h6⟩ := hp66
          refine g_zret h hQ (by first | decide | omega | (simp only [clS]; omega)) (by first | decide | omega | (simp only [clS]; omega)) (by omega) ?_ dX6_takeTerm_69
          first
          | (exfalso; omega)
          | (have e9 : xTerm ((st, cp, nt), (op, tm, ac), (cd, wt)) k v = .inl 3 := by
               unfold xTerm
               dsimp only
               repeat first | rw [if_pos (by omega)] | rw [if_neg (by omega)]
             rw [e9]
             exact ⟨(F345_23 _ _ (by decide)).trans hF, rfl, h6⟩)
      · refine g_aload_n h dX6_takeTerm_31 rfl ?_
        refine g_getI h flX6_90 rfl (by first | assumption | exact s23) dX6_takeTerm_32 ?_
        rw [h4]
        refine g_iconst h dX6_takeTerm_35 ?_
        refine g_icmp_eq (tgt := 45) h dX6_takeTerm_36 (by decide) (by first | assumption | exact ⟨by omega, by omega⟩) (by first | assumption | exact ⟨by omega, by omega⟩) (fun c36 => ?_) (fun c36 => ?_)
        · refine g_aload_n h dX6_takeTerm_45 rfl ?_
          refine g_dup h dX6_takeTerm_46 rfl ?_
          refine g_getI h flX6_50 rfl (by first | assumption | exact s23) dX6_takeTerm_47 ?_
          rw [r11]
          refine g_iconst h dX6_takeTerm_50 ?_
          refine g_iadd h dX6_takeTerm_51 ?_
          refine g_putI h flX6_50 rfl rfl (by first | assumption | exact s23) dX6_takeTerm_52 ?_
          refine g_aload_n h dX6_takeTerm_55 rfl ?_
          refine g_getI h flX6_50 rfl (by first | assumption | exact s23) dX6_takeTerm_56 ?_
          rw [upI_self]
          refine g_bipush h dX6_takeTerm_59 rfl ?_
          refine g_icmp_le (tgt := 70) h dX6_takeTerm_61 (by decide) (by first | assumption | exact ⟨by omega, by omega⟩) (by first | assumption | exact ⟨by omega, by omega⟩) (fun c61 => ?_) (fun c61 => ?_)
          · refine g_aload_n h dX6_takeTerm_70 rfl ?_
            refine g_aload_n h dX6_takeTerm_71 rfl ?_
            refine g_getI h flX6_90 rfl (by first | assumption | exact s23) dX6_takeTerm_72 ?_
            rw [show (upI w 23 11 (tm + 1)).2.1 23 4 = k from h4]
            refine g_iconst h dX6_takeTerm_75 ?_
            refine g_icmp_ne (tgt := 90) h dX6_takeTerm_76 (by decide) (by first | assumption | exact ⟨by omega, by omega⟩) (by first | assumption | exact ⟨by omega, by omega⟩) (fun c76 => ?_) (fun c76 => ?_)
            · refine g_aload_n h dX6_takeTerm_90 rfl ?_
              refine g_getI h flX6_87 rfl (by first | assumption | exact s23) dX6_takeTerm_91 ?_
              first | rw [show (upI w 23 11 (tm + 1)).2.1 23 5 = v from h5] | skip
              refine g_callV h rfl (ci := 6) [_] (by first | assumption | exact s23) (c_X6_put _ _ st cp nt op (tm + 1) ac cd wt _ (XS_of rfl rfl hX) ⟨r7, r8, r9, r10, upI_self _ _ _ _, r12, r14, r16, rc, rw1⟩ (by omega)) clX6_203 (by decide) rfl in_X6_put se_X6_put rfl rfl (by rw [hRm]; first | decide | (simp only [clS]; omega)) (by rw [hRm]; first | decide | (simp only [clS]; omega)) (fun _ => Nat.le_of_ble_eq_true rfl) (by rw [hRm]; first | decide | (simp only [clS]; omega)) (by rw [hRm]; first | decide | (simp only [clS]; omega)) dX6_takeTerm_94 (fun r94 w94 hp94 => ?_)
              obtain ⟨rfl, hF, q7, q8, q9, q10, q11, q12, q14, q16, qc, qw⟩ := hp94
              have s23b : w94.1 23 = (106, 0) := by rw [hF.1]; exact s23
              refine g_aload_n h dX6_takeTerm_97 rfl ?_
              refine g_iconst h dX6_takeTerm_98 ?_
              refine g_putI h flX6_37 rfl rfl (by first | assumption | exact s23) dX6_takeTerm_99 ?_
              refine g_iconst h dX6_takeTerm_102 ?_
              refine g_zret h hQ (by first | decide | omega | (simp only [clS]; omega)) (by first | decide | omega | (simp only [clS]; omega)) (by omega) ?_ dX6_takeTerm_103
              first
              | (exfalso; omega)
              | (have e9 : xTerm ((st, cp, nt), (op, tm, ac), (cd, wt)) k v = .inr ((4, cp, nt), (op, tm + 1, ac), (cd ++ [v], wt)) := by
                   unfold xTerm
                   dsimp only
                   rw [if_neg (by omega), if_neg (by omega), if_neg (by omega)]
                   first | rw [if_pos (by omega)] | rw [if_neg (by omega)]
                 rw [e9]
                 exact ⟨((F345_23 _ _ (by decide)).trans hF).trans (F345_23 _ _ (by decide)), rfl, upI_self _ _ _ _, q8, q9, q10, q11, q12, q14, q16, qc, qw⟩)
            · refine g_sipush h dX6_takeTerm_79 rfl ?_
              refine g_aload_n h dX6_takeTerm_82 rfl ?_
              refine g_getI h flX6_87 rfl (by first | assumption | exact s23) dX6_takeTerm_83 ?_
              rw [show (upI w 23 11 (tm + 1)).2.1 23 5 = v from h5]
              refine g_iadd h dX6_takeTerm_86 ?_
              refine g_goto (tgt := 94) h dX6_takeTerm_87 (by decide) ?_
              first | rw [show (upI w 23 11 (tm + 1)).2.1 23 5 = v from h5] | skip
              refine g_callV h rfl (ci := 6) [_] (by first | assumption | exact s23) (c_X6_put _ _ st cp nt op (tm + 1) ac cd wt _ (XS_of rfl rfl hX) ⟨r7, r8, r9, r10, upI_self _ _ _ _, r12, r14, r16, rc, rw1⟩ (by omega)) clX6_203 (by decide) rfl in_X6_put se_X6_put rfl rfl (by rw [hRm]; first | decide | (simp only [clS]; omega)) (by rw [hRm]; first | decide | (simp only [clS]; omega)) (fun _ => Nat.le_of_ble_eq_true rfl) (by rw [hRm]; first | decide | (simp only [clS]; omega)) (by rw [hRm]; first | decide | (simp only [clS]; omega)) dX6_takeTerm_94 (fun r94 w94 hp94 => ?_)
              obtain ⟨rfl, hF, q7, q8, q9, q10, q11, q12, q14, q16, qc, qw⟩ := hp94
              have s23b : w94.1 23 = (106, 0) := by rw [hF.1]; exact s23
              refine g_aload_n h dX6_takeTerm_97 rfl ?_
              refine g_iconst h dX6_takeTerm_98 ?_
              refine g_putI h flX6_37 rfl rfl (by first | assumption | exact s23) dX6_takeTerm_99 ?_
              refine g_iconst h dX6_takeTerm_102 ?_
              refine g_zret h hQ (by first | decide | omega | (simp only [clS]; omega)) (by first | decide | omega | (simp only [clS]; omega)) (by omega) ?_ dX6_takeTerm_103
              first
              | (exfalso; omega)
              | (have e9 : xTerm ((st, cp, nt), (op, tm, ac), (cd, wt)) k v = .inr ((4, cp, nt), (op, tm + 1, ac), (cd ++ [10000 + v], wt)) := by
                   unfold xTerm
                   dsimp only
                   rw [if_neg (by omega), if_neg (by omega), if_neg (by omega)]
                   first | rw [if_pos (by omega)] | rw [if_neg (by omega)]
                 rw [e9]
                 exact ⟨((F345_23 _ _ (by decide)).trans hF).trans (F345_23 _ _ (by decide)), rfl, upI_self _ _ _ _, q8, q9, q10, q11, q12, q14, q16, qc, qw⟩)
          · refine g_aload_n h dX6_takeTerm_64 rfl ?_
            refine g_iconst h dX6_takeTerm_65 ?_
            refine g_callV h rfl (ci := 6) [_] (by first | assumption | exact s23) (c_X6_faulty _ _ _ (XS_of rfl rfl hX)) clX6_192 (by decide) rfl in_X6_faulty se_X6_faulty rfl rfl (by rw [hRm]; first | decide | (simp only [clS]; omega)) (by rw [hRm]; first | decide | (simp only [clS]; omega)) (fun _ => Nat.le_of_ble_eq_true rfl) (by rw [hRm]; first | decide | (simp only [clS]; omega)) (by rw [hRm]; first | decide | (simp only [clS]; omega)) dX6_takeTerm_66 (fun r66 w66 hp66 => ?_)
            obtain ⟨rfl, hF, h6⟩ := hp66
            refine g_zret h hQ (by first | decide | omega | (simp only [clS]; omega)) (by first | decide | omega | (simp only [clS]; omega)) (by omega) ?_ dX6_takeTerm_69
            first
            | (exfalso; omega)
            | (have e9 : xTerm ((st, cp, nt), (op, tm, ac), (cd, wt)) k v = .inl 3 := by
                 unfold xTerm
                 dsimp only
                 repeat first | rw [if_pos (by omega)] | rw [if_neg (by omega)]
               rw [e9]
               exact ⟨(F345_23 _ _ (by decide)).trans hF, rfl, h6⟩)
        · refine g_aload_n h dX6_takeTerm_39 rfl ?_
          refine g_iconst h dX6_takeTerm_40 ?_
          refine g_callV h rfl (ci := 6) [_] (by first | assumption | exact s23) (c_X6_faulty _ _ _ (XS_of rfl rfl hX)) clX6_192 (by decide) rfl in_X6_faulty se_X6_faulty rfl rfl (by rw [hRm]; first | decide | (simp only [clS]; omega)) (by rw [hRm]; first | decide | (simp only [clS]; omega)) (fun _ => Nat.le_of_ble_eq_true rfl) (by rw [hRm]; first | decide | (simp only [clS]; omega)) (by rw [hRm]; first | decide | (simp only [clS]; omega)) dX6_takeTerm_41 (fun r41 w41 hp41 => ?_)
          obtain ⟨rfl, hF, h6⟩ := hp41
          refine g_zret h hQ (by first | decide | omega | (simp only [clS]; omega)) (by first | decide | omega | (simp only [clS]; omega)) (by omega) ?_ dX6_takeTerm_44
          first
          | (exfalso; omega)
          | (have e9 : xTerm ((st, cp, nt), (op, tm, ac), (cd, wt)) k v = .inl 1 := by
               unfold xTerm
               dsimp only
               repeat first | rw [if_pos (by omega)] | rw [if_neg (by omega)]
             rw [e9]
             exact ⟨hF, rfl, h6⟩)
    · refine g_aload_n h dX6_takeTerm_17 rfl ?_
      refine g_iconst h dX6_takeTerm_18 ?_
      refine g_callV h rfl (ci := 6) [_] (by first | assumption | exact s23) (c_X6_faulty _ _ _ (XS_of rfl rfl hX)) clX6_192 (by decide) rfl in_X6_faulty se_X6_faulty rfl rfl (by rw [hRm]; first | decide | (simp only [clS]; omega)) (by rw [hRm]; first | decide | (simp only [clS]; omega)) (fun _ => Nat.le_of_ble_eq_true rfl) (by rw [hRm]; first | decide | (simp only [clS]; omega)) (by rw [hRm]; first | decide | (simp only [clS]; omega)) dX6_takeTerm_19 (fun r19 w19 hp19 => ?_)
      obtain ⟨rfl, hF, h6⟩ := hp19
      refine g_zret h hQ (by first | decide | omega | (simp only [clS]; omega)) (by first | decide | omega | (simp only [clS]; omega)) (by omega) ?_ dX6_takeTerm_22
      first
      | (exfalso; omega)
      | (have e9 : xTerm ((st, cp, nt), (op, tm, ac), (cd, wt)) k v = .inl 2 := by
           unfold xTerm
           dsimp only
           repeat first | rw [if_pos (by omega)] | rw [if_neg (by omega)]
         rw [e9]
         exact ⟨hF, rfl, h6⟩)
set_option maxRecDepth 100000 in
set_option maxHeartbeats 4000000 in
theorem c_X6_takeOne (l : Launch) (w : AW) (st cp nt op tm ac : Int) (cd wt : List Int) (k v : Int) (hX : XS w) (hr : RDs w ((st, cp, nt), (op, tm, ac), (cd, wt))) (h4 : w.2.1 23 4 = k) (h5 : w.2.1 23 5 = v) (hk : 0 ≤ k ∧ k ≤ 7) (hv : -1 ≤ v ∧ v ≤ 10000) (hB : XB ((st, cp, nt), (op, tm, ac), (cd, wt))) : HT l yX6_takeOne cX6_takeOne 1 (some .boolean) 3 0 0 w [ar 23] (Pt w (xOne ((st, cp, nt), (op, tm, ac), (cd, wt)) k v)) := by
  refine HT.of (by decide) (by intro v hv; simp only [List.mem_cons, List.not_mem_nil, or_false] at hv; rcases hv with rfl <;> rfl) (Nat.le_of_ble_eq_true rfl) ?_
  intro Γ h hQ hRm hnm hl hw0
  obtain ⟨r7, r8, r9, r10, r11, r12, r14, r16, rc, rw1⟩ := id hr
  simp only at r7 r8 r9 r10 r11 r12 r14 r16 rc rw1
  obtain ⟨⟨b1, b2⟩, b3, ⟨b4, b5⟩, ⟨b6, b7⟩, ⟨b8, b9⟩, b10, b11⟩ := id hB
  simp only at b1 b2 b3 b4 b5 b6 b7 b8 b9 b10 b11
  have s23 : w.1 23 = (106, 0) := hX.1 23 (by decide)

  refine g_aload_n h dX6_takeOne_0 rfl ?_
  refine g_iconst h dX6_takeOne_1 ?_
  refine g_putZ h flX6_40 rfl rfl (by first | assumption | exact s23) (by omega) dX6_takeOne_2 ?_
  refine g_aload_n h dX6_takeOne_5 rfl ?_
  refine g_bipush h dX6_takeOne_6 rfl ?_
  refine g_bipush h dX6_takeOne_8 rfl ?_
  refine g_callV h rfl (ci := 6) [_, _] (by first | assumption | exact s23) (c_X6_is _ _ 6 33 k v (XS_of rfl rfl hX) h4 h5 ⟨by omega, by omega⟩ ⟨by omega, by omega⟩ ⟨by omega, by omega⟩ ⟨by omega, by omega⟩) clX6_195 (by decide) rfl in_X6_is se_X6_is rfl rfl (by rw [hRm]; first | decide | (simp only [clS]; omega)) (by rw [hRm]; first | decide | (simp only [clS]; omega)) (fun _ => Nat.le_of_ble_eq_true rfl) (by rw [hRm]; first | decide | (simp only [clS]; omega)) (by rw [hRm]; first | decide | (simp only [clS]; omega)) dX6_takeOne_10 (fun r10 w10 hp10 => ?_)
  obtain ⟨rfl, hw10⟩ := hp10
  rw [hw10]
  have hbw10 := ite01 (k = 6 ∧ v = 33)
  refine g_if_eq (tgt := 49) h dX6_takeOne_13 (by decide) (by first | assumption | exact ⟨by omega, by omega⟩) (fun c13 => ?_) (fun c13 => ?_)
  · refine g_aload_n h dX6_takeOne_49 rfl ?_
    refine g_iconst h dX6_takeOne_50 ?_
    refine g_putI h flX6_44 rfl rfl (by first | assumption | exact s23) dX6_takeOne_51 ?_
    refine g_aload_n h dX6_takeOne_54 rfl ?_
    refine g_iconst h dX6_takeOne_55 ?_
    refine g_bipush h dX6_takeOne_56 rfl ?_
    refine g_callV h rfl (ci := 6) [_, _] (by first | assumption | exact s23) (c_X6_is _ _ 3 40 k v (XS_of rfl rfl hX) h4 h5 ⟨by omega, by omega⟩ ⟨by omega, by omega⟩ ⟨by omega, by omega⟩ ⟨by omega, by omega⟩) clX6_195 (by decide) rfl in_X6_is se_X6_is rfl rfl (by rw [hRm]; first | decide | (simp only [clS]; omega)) (by rw [hRm]; first | decide | (simp only [clS]; omega)) (fun _ => Nat.le_of_ble_eq_true rfl) (by rw [hRm]; first | decide | (simp only [clS]; omega)) (by rw [hRm]; first | decide | (simp only [clS]; omega)) dX6_takeOne_58 (fun r58 w58 hp58 => ?_)
    obtain ⟨rfl, hw58⟩ := hp58
    rw [hw58]
    have hbw58 := ite01 (k = 3 ∧ v = 40)
    refine g_if_eq (tgt := 97) h dX6_takeOne_61 (by decide) (by first | assumption | exact ⟨by omega, by omega⟩) (fun c61 => ?_) (fun c61 => ?_)
    · refine g_aload_n h dX6_takeOne_97 rfl ?_
      refine g_callV h rfl (ci := 6) [] (by first | assumption | exact s23) (c_X6_takeTerm _ _ st 0 0 op tm ac cd wt k v (XS_of rfl rfl hX) ⟨r7, rfl, rfl, r10, r11, r12, r14, r16, rc, rw1⟩ h4 h5 hk hv ⟨⟨b1, b2⟩, Or.inl rfl, ⟨(by show (0 : Int) ≤ 0; decide), (by show (0 : Int) ≤ 8; decide)⟩, ⟨b6, b7⟩, ⟨b8, b9⟩, b10, b11⟩) clX6_180 (by decide) rfl in_X6_takeTerm se_X6_takeTerm rfl rfl (by rw [hRm]; first | decide | (simp only [clS]; omega)) (by rw [hRm]; first | decide | (simp only [clS]; omega)) (fun _ => Nat.le_of_ble_eq_true rfl) (by rw [hRm]; first | decide | (simp only [clS]; omega)) (by rw [hRm]; first | decide | (simp only [clS]; omega)) dX6_takeOne_98 (fun r98 w98 hp98 => ?_)
      obtain ⟨z9, rfl, hz9⟩ := Pt_z hp98
      refine g_zret h hQ (by first | decide | omega | (simp only [clS]; omega)) (by first | decide | omega | (simp only [clS]; omega)) (by omega) ?_ dX6_takeOne_101
      have e9 : xOne ((st, cp, nt), (op, tm, ac), (cd, wt)) k v = xTerm ((st, 0, 0), (op, tm, ac), (cd, wt)) k v := by
        unfold xOne
        dsimp only
        repeat first | rw [if_pos (by omega)] | rw [if_neg (by omega)]
      rw [e9]
      exact Pt_F ((F345_23 _ _ (by decide)).trans (F345_23 _ _ (by decide))) hp98
    · refine g_aload_n h dX6_takeOne_64 rfl ?_
      refine g_dup h dX6_takeOne_65 rfl ?_
      refine g_getI h flX6_47 rfl (by first | assumption | exact s23) dX6_takeOne_66 ?_
      rw [show (upI (upI w 23 8 0) 23 9 0).2.1 23 10 = op from r10]
      refine g_iconst h dX6_takeOne_69 ?_
      refine g_iadd h dX6_takeOne_70 ?_
      refine g_putI h flX6_47 rfl rfl (by first | assumption | exact s23) dX6_takeOne_71 ?_
      refine g_aload_n h dX6_takeOne_74 rfl ?_
      refine g_getI h flX6_47 rfl (by first | assumption | exact s23) dX6_takeOne_75 ?_
      rw [upI_self]
      refine g_bipush h dX6_takeOne_78 rfl ?_
      refine g_icmp_le (tgt := 89) h dX6_takeOne_80 (by decide) (by first | assumption | exact ⟨by omega, by omega⟩) (by first | assumption | exact ⟨by omega, by omega⟩) (fun c80 => ?_) (fun c80 => ?_)
      · refine g_aload_n h dX6_takeOne_89 rfl ?_
        refine g_bipush h dX6_takeOne_90 rfl ?_
        refine g_callV h rfl (ci := 6) [_] (by first | assumption | exact s23) (c_X6_setAside _ _ st 0 0 (op + 1) tm ac cd wt 40 (XS_of rfl rfl hX) ⟨r7, rfl, rfl, upI_self _ _ _ _, r11, r12, r14, r16, rc, rw1⟩ (by omega)) clX6_199 (by decide) rfl in_X6_setAside se_X6_setAside rfl rfl (by rw [hRm]; first | decide | (simp only [clS]; omega)) (by rw [hRm]; first | decide | (simp only [clS]; omega)) (fun _ => Nat.le_of_ble_eq_true rfl) (by rw [hRm]; first | decide | (simp only [clS]; omega)) (by rw [hRm]; first | decide | (simp only [clS]; omega)) dX6_takeOne_92 (fun r92 w92 hp92 => ?_)
        obtain ⟨rfl, hF, hr2⟩ := hp92
        refine g_iconst h dX6_takeOne_95 ?_
        refine g_zret h hQ (by first | decide | omega | (simp only [clS]; omega)) (by first | decide | omega | (simp only [clS]; omega)) (by omega) ?_ dX6_takeOne_96
        first
        | (exfalso; omega)
        | (have e9 : xOne ((st, cp, nt), (op, tm, ac), (cd, wt)) k v = .inr ((st, 0, 0), (op + 1, tm, ac), (cd, 40 :: wt)) := by
             unfold xOne
             dsimp only
             repeat first | rw [if_pos (by omega)] | rw [if_neg (by omega)]
           rw [e9]
           exact ⟨(((F345_23 _ _ (by decide)).trans (F345_23 _ _ (by decide))).trans (F345_23 _ _ (by decide))).trans hF, rfl, hr2⟩)
      · refine g_aload_n h dX6_takeOne_83 rfl ?_
        refine g_iconst h dX6_takeOne_84 ?_
        refine g_callV h rfl (ci := 6) [_] (by first | assumption | exact s23) (c_X6_faulty _ _ _ (XS_of rfl rfl hX)) clX6_192 (by decide) rfl in_X6_faulty se_X6_faulty rfl rfl (by rw [hRm]; first | decide | (simp only [clS]; omega)) (by rw [hRm]; first | decide | (simp only [clS]; omega)) (fun _ => Nat.le_of_ble_eq_true rfl) (by rw [hRm]; first | decide | (simp only [clS]; omega)) (by rw [hRm]; first | decide | (simp only [clS]; omega)) dX6_takeOne_85 (fun r85 w85 hp85 => ?_)
        obtain ⟨rfl, hF, h6⟩ := hp85
        refine g_zret h hQ (by first | decide | omega | (simp only [clS]; omega)) (by first | decide | omega | (simp only [clS]; omega)) (by omega) ?_ dX6_takeOne_88
        first
        | (exfalso; omega)
        | (have e9 : xOne ((st, cp, nt), (op, tm, ac), (cd, wt)) k v = .inl 3 := by
             unfold xOne
             dsimp only
             repeat first | rw [if_pos (by omega)] | rw [if_neg (by omega)]
           rw [e9]
           exact ⟨(((F345_23 _ _ (by decide)).trans (F345_23 _ _ (by decide))).trans (F345_23 _ _ (by decide))).trans hF, rfl, h6⟩)
  · refine g_aload_n h dX6_takeOne_16 rfl ?_
    refine g_dup h dX6_takeOne_17 rfl ?_
    refine g_getI h flX6_44 rfl (by first | assumption | exact s23) dX6_takeOne_18 ?_
    rw [show (upI w 23 8 0).2.1 23 9 = nt from r9]
    refine g_iconst h dX6_takeOne_21 ?_
    refine g_iadd h dX6_takeOne_22 ?_
    refine g_putI h flX6_44 rfl rfl (by first | assumption | exact s23) dX6_takeOne_23 ?_
    refine g_aload_n h dX6_takeOne_26 rfl ?_
    refine g_getI h flX6_44 rfl (by first | assumption | exact s23) dX6_takeOne_27 ?_
    rw [upI_self]
    refine g_bipush h dX6_takeOne_30 rfl ?_
    refine g_icmp_le (tgt := 41) h dX6_takeOne_32 (by decide) (by first | assumption | exact ⟨by omega, by omega⟩) (by first | assumption | exact ⟨by omega, by omega⟩) (fun c32 => ?_) (fun c32 => ?_)
    · refine g_aload_n h dX6_takeOne_41 rfl ?_
      refine g_bipush h dX6_takeOne_42 rfl ?_
      refine g_callV h rfl (ci := 6) [_] (by first | assumption | exact s23) (c_X6_setAside _ _ st 0 (nt + 1) op tm ac cd wt 33 (XS_of rfl rfl hX) ⟨r7, rfl, upI_self _ _ _ _, r10, r11, r12, r14, r16, rc, rw1⟩ (by omega)) clX6_199 (by decide) rfl in_X6_setAside se_X6_setAside rfl rfl (by rw [hRm]; first | decide | (simp only [clS]; omega)) (by rw [hRm]; first | decide | (simp only [clS]; omega)) (fun _ => Nat.le_of_ble_eq_true rfl) (by rw [hRm]; first | decide | (simp only [clS]; omega)) (by rw [hRm]; first | decide | (simp only [clS]; omega)) dX6_takeOne_44 (fun r44 w44 hp44 => ?_)
      obtain ⟨rfl, hF, hr2⟩ := hp44
      refine g_iconst h dX6_takeOne_47 ?_
      refine g_zret h hQ (by first | decide | omega | (simp only [clS]; omega)) (by first | decide | omega | (simp only [clS]; omega)) (by omega) ?_ dX6_takeOne_48
      first
      | (exfalso; omega)
      | (have e9 : xOne ((st, cp, nt), (op, tm, ac), (cd, wt)) k v = .inr ((st, 0, nt + 1), (op, tm, ac), (cd, 33 :: wt)) := by
           unfold xOne
           dsimp only
           repeat first | rw [if_pos (by omega)] | rw [if_neg (by omega)]
         rw [e9]
         exact ⟨((F345_23 _ _ (by decide)).trans (F345_23 _ _ (by decide))).trans hF, rfl, hr2⟩)
    · refine g_aload_n h dX6_takeOne_35 rfl ?_
      refine g_iconst h dX6_takeOne_36 ?_
      refine g_callV h rfl (ci := 6) [_] (by first | assumption | exact s23) (c_X6_faulty _ _ _ (XS_of rfl rfl hX)) clX6_192 (by decide) rfl in_X6_faulty se_X6_faulty rfl rfl (by rw [hRm]; first | decide | (simp only [clS]; omega)) (by rw [hRm]; first | decide | (simp only [clS]; omega)) (fun _ => Nat.le_of_ble_eq_true rfl) (by rw [hRm]; first | decide | (simp only [clS]; omega)) (by rw [hRm]; first | decide | (simp only [clS]; omega)) dX6_takeOne_37 (fun r37 w37 hp37 => ?_)
      obtain ⟨rfl, hF, h6⟩ := hp37
      refine g_zret h hQ (by first | decide | omega | (simp only [clS]; omega)) (by first | decide | omega | (simp only [clS]; omega)) (by omega) ?_ dX6_takeOne_40
      first
      | (exfalso; omega)
      | (have e9 : xOne ((st, cp, nt), (op, tm, ac), (cd, wt)) k v = .inl 3 := by
           unfold xOne
           dsimp only
           repeat first | rw [if_pos (by omega)] | rw [if_neg (by omega)]
         rw [e9]
         exact ⟨((F345_23 _ _ (by decide)).trans (F345_23 _ _ (by decide))).trans hF, rfl, h6⟩)
set_option maxRecDepth 100000 in
set_option maxHeartbeats 4000000 in
theorem c_X6_takeIf (l : Launch) (w : AW) (st cp nt op tm ac : Int) (cd wt : List Int) (k v : Int) (hX : XS w) (hr : RDs w ((st, cp, nt), (op, tm, ac), (cd, wt))) (h4 : w.2.1 23 4 = k) (h5 : w.2.1 23 5 = v) (hk : 0 ≤ k ∧ k ≤ 7) (hv : -1 ≤ v ∧ v ≤ 10000) (hB : XB ((st, cp, nt), (op, tm, ac), (cd, wt))) : HT l yX6_takeIf cX6_takeIf 1 (some .boolean) 2 0 0 w [ar 23] (Pt w (xIf ((st, cp, nt), (op, tm, ac), (cd, wt)) k v)) := by
  refine HT.of (by decide) (by intro v hv; simp only [List.mem_cons, List.not_mem_nil, or_false] at hv; rcases hv with rfl <;> rfl) (Nat.le_of_ble_eq_true rfl) ?_
  intro Γ h hQ hRm hnm hl hw0
  obtain ⟨r7, r8, r9, r10, r11, r12, r14, r16, rc, rw1⟩ := id hr
  simp only at r7 r8 r9 r10 r11 r12 r14 r16 rc rw1
  obtain ⟨⟨b1, b2⟩, b3, ⟨b4, b5⟩, ⟨b6, b7⟩, ⟨b8, b9⟩, b10, b11⟩ := id hB
  simp only at b1 b2 b3 b4 b5 b6 b7 b8 b9 b10 b11
  have s23 : w.1 23 = (106, 0) := hX.1 23 (by decide)

  refine g_aload_n h dX6_takeIf_0 rfl ?_
  refine g_bipush h dX6_takeIf_1 rfl ?_
  refine g_bipush h dX6_takeIf_3 rfl ?_
  refine g_callV h rfl (ci := 6) [_, _] (by first | assumption | exact s23) (c_X6_is _ _ 6 105 k v (XS_of rfl rfl hX) h4 h5 ⟨by omega, by omega⟩ ⟨by omega, by omega⟩ ⟨by omega, by omega⟩ ⟨by omega, by omega⟩) clX6_195 (by decide) rfl in_X6_is se_X6_is rfl rfl (by rw [hRm]; first | decide | (simp only [clS]; omega)) (by rw [hRm]; first | decide | (simp only [clS]; omega)) (fun _ => Nat.le_of_ble_eq_true rfl) (by rw [hRm]; first | decide | (simp only [clS]; omega)) (by rw [hRm]; first | decide | (simp only [clS]; omega)) dX6_takeIf_5 (fun r5 w5 hp5 => ?_)
  obtain ⟨rfl, hw5⟩ := hp5
  rw [hw5]
  have hbw5 := ite01 (k = 6 ∧ v = 105)
  refine g_if_ne (tgt := 17) h dX6_takeIf_8 (by decide) (by first | assumption | exact ⟨by omega, by omega⟩) (fun c8 => ?_) (fun c8 => ?_)
  · refine g_aload_n h dX6_takeIf_17 rfl ?_
    refine g_iconst h dX6_takeIf_18 ?_
    refine g_putI h flX6_37 rfl rfl (by first | assumption | exact s23) dX6_takeIf_19 ?_
    refine g_iconst h dX6_takeIf_22 ?_
    refine g_zret h hQ (by first | decide | omega | (simp only [clS]; omega)) (by first | decide | omega | (simp only [clS]; omega)) (by omega) ?_ dX6_takeIf_23
    first
    | (exfalso; omega)
    | (have e9 : xIf ((st, cp, nt), (op, tm, ac), (cd, wt)) k v = .inr ((2, cp, nt), (op, tm, ac), (cd, wt)) := by
         unfold xIf
         dsimp only
         repeat first | rw [if_pos (by omega)] | rw [if_neg (by omega)]
       rw [e9]
       exact ⟨F345_23 _ _ (by decide), rfl, upI_self _ _ _ _, r8, r9, r10, r11, r12, r14, r16, rc, rw1⟩)
  · refine g_aload_n h dX6_takeIf_11 rfl ?_
    refine g_iconst h dX6_takeIf_12 ?_
    refine g_callV h rfl (ci := 6) [_] (by first | assumption | exact s23) (c_X6_faulty _ _ _ (XS_of rfl rfl hX)) clX6_192 (by decide) rfl in_X6_faulty se_X6_faulty rfl rfl (by rw [hRm]; first | decide | (simp only [clS]; omega)) (by rw [hRm]; first | decide | (simp only [clS]; omega)) (fun _ => Nat.le_of_ble_eq_true rfl) (by rw [hRm]; first | decide | (simp only [clS]; omega)) (by rw [hRm]; first | decide | (simp only [clS]; omega)) dX6_takeIf_13 (fun r13 w13 hp13 => ?_)
    obtain ⟨rfl, hF, h6⟩ := hp13
    refine g_zret h hQ (by first | decide | omega | (simp only [clS]; omega)) (by first | decide | omega | (simp only [clS]; omega)) (by omega) ?_ dX6_takeIf_16
    first
    | (exfalso; omega)
    | (have e9 : xIf ((st, cp, nt), (op, tm, ac), (cd, wt)) k v = .inl 1 := by
         unfold xIf
         dsimp only
         repeat first | rw [if_pos (by omega)] | rw [if_neg (by omega)]
       rw [e9]
       exact ⟨hF, rfl, h6⟩)
set_option maxRecDepth 100000 in
set_option maxHeartbeats 4000000 in
theorem c_X6_takeAct (l : Launch) (w : AW) (st cp nt op tm ac : Int) (cd wt : List Int) (k v : Int) (hX : XS w) (hr : RDs w ((st, cp, nt), (op, tm, ac), (cd, wt))) (h4 : w.2.1 23 4 = k) (h5 : w.2.1 23 5 = v) (hk : 0 ≤ k ∧ k ≤ 7) (hv : -1 ≤ v ∧ v ≤ 10000) (hB : XB ((st, cp, nt), (op, tm, ac), (cd, wt))) : HT l yX6_takeAct cX6_takeAct 1 (some .boolean) 2 0 0 w [ar 23] (Pt w (xAct ((st, cp, nt), (op, tm, ac), (cd, wt)) k v)) := by
  refine HT.of (by decide) (by intro v hv; simp only [List.mem_cons, List.not_mem_nil, or_false] at hv; rcases hv with rfl <;> rfl) (Nat.le_of_ble_eq_true rfl) ?_
  intro Γ h hQ hRm hnm hl hw0
  obtain ⟨r7, r8, r9, r10, r11, r12, r14, r16, rc, rw1⟩ := id hr
  simp only at r7 r8 r9 r10 r11 r12 r14 r16 rc rw1
  obtain ⟨⟨b1, b2⟩, b3, ⟨b4, b5⟩, ⟨b6, b7⟩, ⟨b8, b9⟩, b10, b11⟩ := id hB
  simp only at b1 b2 b3 b4 b5 b6 b7 b8 b9 b10 b11
  have s23 : w.1 23 = (106, 0) := hX.1 23 (by decide)

  refine g_aload_n h dX6_takeAct_0 rfl ?_
  refine g_getI h flX6_90 rfl (by first | assumption | exact s23) dX6_takeAct_1 ?_
  rw [h4]
  refine g_iconst h dX6_takeAct_4 ?_
  refine g_icmp_ne (tgt := 23) h dX6_takeAct_5 (by decide) (by first | assumption | exact ⟨by omega, by omega⟩) (by first | assumption | exact ⟨by omega, by omega⟩) (fun c5 => ?_) (fun c5 => ?_)
  · refine g_aload_n h dX6_takeAct_23 rfl ?_
    refine g_aload_n h dX6_takeAct_24 rfl ?_
    refine g_getI h flX6_90 rfl (by first | assumption | exact s23) dX6_takeAct_25 ?_
    rw [h4]
    refine g_iconst h dX6_takeAct_28 ?_
    refine g_icmp_eq (tgt := 41) h dX6_takeAct_29 (by decide) (by first | assumption | exact ⟨by omega, by omega⟩) (by first | assumption | exact ⟨by omega, by omega⟩) (fun c29 => ?_) (fun c29 => ?_)
    · refine g_iconst h dX6_takeAct_41 ?_
      refine g_goto (tgt := 46) h dX6_takeAct_42 (by decide) ?_
      refine g_callV h rfl (ci := 6) [_] (by first | assumption | exact s23) (c_X6_faulty _ _ _ (XS_of rfl rfl hX)) clX6_192 (by decide) rfl in_X6_faulty se_X6_faulty rfl rfl (by rw [hRm]; first | decide | (simp only [clS]; omega)) (by rw [hRm]; first | decide | (simp only [clS]; omega)) (fun _ => Nat.le_of_ble_eq_true rfl) (by rw [hRm]; first | decide | (simp only [clS]; omega)) (by rw [hRm]; first | decide | (simp only [clS]; omega)) dX6_takeAct_46 (fun r46 w46 hp46 => ?_)
      obtain ⟨rfl, hF, h6⟩ := hp46
      refine g_zret h hQ (by first | decide | omega | (simp only [clS]; omega)) (by first | decide | omega | (simp only [clS]; omega)) (by omega) ?_ dX6_takeAct_49
      first
      | (exfalso; omega)
      | (have e9 : xAct ((st, cp, nt), (op, tm, ac), (cd, wt)) k v = .inl 2 := by
           unfold xAct
           dsimp only
           rw [if_neg (by omega)]
           first | rw [if_pos (by omega)] | rw [if_neg (by omega)]
         rw [e9]
         exact ⟨hF, rfl, h6⟩)
    · refine g_aload_n h dX6_takeAct_32 rfl ?_
      refine g_getI h flX6_90 rfl (by first | assumption | exact s23) dX6_takeAct_33 ?_
      rw [h4]
      refine g_bipush h dX6_takeAct_36 rfl ?_
      refine g_icmp_ne (tgt := 45) h dX6_takeAct_38 (by decide) (by first | assumption | exact ⟨by omega, by omega⟩) (by first | assumption | exact ⟨by omega, by omega⟩) (fun c38 => ?_) (fun c38 => ?_)
      · refine g_iconst h dX6_takeAct_45 ?_
        refine g_callV h rfl (ci := 6) [_] (by first | assumption | exact s23) (c_X6_faulty _ _ _ (XS_of rfl rfl hX)) clX6_192 (by decide) rfl in_X6_faulty se_X6_faulty rfl rfl (by rw [hRm]; first | decide | (simp only [clS]; omega)) (by rw [hRm]; first | decide | (simp only [clS]; omega)) (fun _ => Nat.le_of_ble_eq_true rfl) (by rw [hRm]; first | decide | (simp only [clS]; omega)) (by rw [hRm]; first | decide | (simp only [clS]; omega)) dX6_takeAct_46 (fun r46 w46 hp46 => ?_)
        obtain ⟨rfl, hF, h6⟩ := hp46
        refine g_zret h hQ (by first | decide | omega | (simp only [clS]; omega)) (by first | decide | omega | (simp only [clS]; omega)) (by omega) ?_ dX6_takeAct_49
        first
        | (exfalso; omega)
        | (have e9 : xAct ((st, cp, nt), (op, tm, ac), (cd, wt)) k v = .inl 1 := by
             unfold xAct
             dsimp only
             rw [if_neg (by omega)]
             first | rw [if_pos (by omega)] | rw [if_neg (by omega)]
           rw [e9]
           exact ⟨hF, rfl, h6⟩)
      · refine g_iconst h dX6_takeAct_41 ?_
        refine g_goto (tgt := 46) h dX6_takeAct_42 (by decide) ?_
        refine g_callV h rfl (ci := 6) [_] (by first | assumption | exact s23) (c_X6_faulty _ _ _ (XS_of rfl rfl hX)) clX6_192 (by decide) rfl in_X6_faulty se_X6_faulty rfl rfl (by rw [hRm]; first | decide | (simp only [clS]; omega)) (by rw [hRm]; first | decide | (simp only [clS]; omega)) (fun _ => Nat.le_of_ble_eq_true rfl) (by rw [hRm]; first | decide | (simp only [clS]; omega)) (by rw [hRm]; first | decide | (simp only [clS]; omega)) dX6_takeAct_46 (fun r46 w46 hp46 => ?_)
        obtain ⟨rfl, hF, h6⟩ := hp46
        refine g_zret h hQ (by first | decide | omega | (simp only [clS]; omega)) (by first | decide | omega | (simp only [clS]; omega)) (by omega) ?_ dX6_takeAct_49
        first
        | (exfalso; omega)
        | (have e9 : xAct ((st, cp, nt), (op, tm, ac), (cd, wt)) k v = .inl 2 := by
             unfold xAct
             dsimp only
             rw [if_neg (by omega)]
             first | rw [if_pos (by omega)] | rw [if_neg (by omega)]
           rw [e9]
           exact ⟨hF, rfl, h6⟩)
  · refine g_aload_n h dX6_takeAct_8 rfl ?_
    refine g_aload_n h dX6_takeAct_9 rfl ?_
    refine g_getI h flX6_87 rfl (by first | assumption | exact s23) dX6_takeAct_10 ?_
    rw [h5]
    refine g_putI h flX6_68 rfl rfl (by first | assumption | exact s23) dX6_takeAct_13 ?_
    refine g_aload_n h dX6_takeAct_16 rfl ?_
    refine g_iconst h dX6_takeAct_17 ?_
    refine g_putI h flX6_37 rfl rfl (by first | assumption | exact s23) dX6_takeAct_18 ?_
    refine g_iconst h dX6_takeAct_21 ?_
    refine g_zret h hQ (by first | decide | omega | (simp only [clS]; omega)) (by first | decide | omega | (simp only [clS]; omega)) (by omega) ?_ dX6_takeAct_22
    first
    | (exfalso; omega)
    | (have e9 : xAct ((st, cp, nt), (op, tm, ac), (cd, wt)) k v = .inr ((1, cp, nt), (op, tm, v), (cd, wt)) := by
         unfold xAct
         dsimp only
         repeat first | rw [if_pos (by omega)] | rw [if_neg (by omega)]
       rw [e9]
       exact ⟨(F345_23 _ _ (by decide)).trans (F345_23 _ _ (by decide)), rfl, upI_self _ _ _ _, r8, r9, r10, r11, rfl, r14, r16, rc, rw1⟩)
set_option maxRecDepth 100000 in
set_option maxHeartbeats 4000000 in
theorem c_X6_takeBehindOne (l : Launch) (w : AW) (st cp nt op tm ac : Int) (cd wt : List Int) (k v : Int) (hX : XS w) (hr : RDs w ((st, cp, nt), (op, tm, ac), (cd, wt))) (h4 : w.2.1 23 4 = k) (h5 : w.2.1 23 5 = v) (hk : 0 ≤ k ∧ k ≤ 7) (hv : -1 ≤ v ∧ v ≤ 10000) (hB : XB ((st, cp, nt), (op, tm, ac), (cd, wt))) : HT l yX6_takeBehindOne cX6_takeBehindOne 1 (some .boolean) 4 0 0 w [ar 23] (Pt w (xBehind ((st, cp, nt), (op, tm, ac), (cd, wt)) k v)) := by
  refine HT.of (by decide) (by intro v hv; simp only [List.mem_cons, List.not_mem_nil, or_false] at hv; rcases hv with rfl <;> rfl) (Nat.le_of_ble_eq_true rfl) ?_
  intro Γ h hQ hRm hnm hl hw0
  obtain ⟨r7, r8, r9, r10, r11, r12, r14, r16, rc, rw1⟩ := id hr
  simp only at r7 r8 r9 r10 r11 r12 r14 r16 rc rw1
  obtain ⟨⟨b1, b2⟩, b3, ⟨b4, b5⟩, ⟨b6, b7⟩, ⟨b8, b9⟩, b10, b11⟩ := id hB
  simp only at b1 b2 b3 b4 b5 b6 b7 b8 b9 b10 b11
  have s23 : w.1 23 = (106, 0) := hX.1 23 (by decide)
  have hp1l := pwF_len 1 wt cd
  refine g_aload_n h dX6_takeBehindOne_0 rfl ?_
  refine g_bipush h dX6_takeBehindOne_1 rfl ?_
  refine g_bipush h dX6_takeBehindOne_3 rfl ?_
  refine g_callV h rfl (ci := 6) [_, _] (by first | assumption | exact s23) (c_X6_is _ _ 6 38 k v (XS_of rfl rfl hX) h4 h5 ⟨by omega, by omega⟩ ⟨by omega, by omega⟩ ⟨by omega, by omega⟩ ⟨by omega, by omega⟩) clX6_195 (by decide) rfl in_X6_is se_X6_is rfl rfl (by rw [hRm]; first | decide | (simp only [clS]; omega)) (by rw [hRm]; first | decide | (simp only [clS]; omega)) (fun _ => Nat.le_of_ble_eq_true rfl) (by rw [hRm]; first | decide | (simp only [clS]; omega)) (by rw [hRm]; first | decide | (simp only [clS]; omega)) dX6_takeBehindOne_5 (fun r5 w5 hp5 => ?_)
  obtain ⟨rfl, hw5⟩ := hp5
  rw [hw5]
  have hbw5 := ite01 (k = 6 ∧ v = 38)
  refine g_if_ne (tgt := 22) h dX6_takeBehindOne_8 (by decide) (by first | assumption | exact ⟨by omega, by omega⟩) (fun c8 => ?_) (fun c8 => ?_)
  · refine g_aload_n h dX6_takeBehindOne_22 rfl ?_
    refine g_iconst h dX6_takeBehindOne_23 ?_
    refine g_callV h rfl (ci := 6) [_] (by first | assumption | exact s23) (c_X6_takeJoining _ _ st cp nt op tm ac cd wt k v 2 hX hr h4 h5 hk hv hB) clX6_206 (by decide) rfl in_X6_takeJoining se_X6_takeJoining rfl rfl (by rw [hRm]; first | decide | (simp only [clS]; omega)) (by rw [hRm]; first | decide | (simp only [clS]; omega)) (fun _ => Nat.le_of_ble_eq_true rfl) (by rw [hRm]; first | decide | (simp only [clS]; omega)) (by rw [hRm]; first | decide | (simp only [clS]; omega)) dX6_takeBehindOne_24 (fun r24 w24 hp24 => ?_)
    obtain ⟨rfl, hF, hr2⟩ := hp24
    refine g_iconst h dX6_takeBehindOne_27 ?_
    refine g_zret h hQ (by first | decide | omega | (simp only [clS]; omega)) (by first | decide | omega | (simp only [clS]; omega)) (by omega) ?_ dX6_takeBehindOne_28
    first
    | (exfalso; omega)
    | (have e9 : xBehind ((st, cp, nt), (op, tm, ac), (cd, wt)) k v = .inr (xJoin ((st, cp, nt), (op, tm, ac), (cd, wt)) v 2) := by
         unfold xBehind
         dsimp only
         repeat first | rw [if_pos (by omega)] | rw [if_neg (by omega)]
       rw [e9]
       exact ⟨hF, rfl, hr2⟩)
  · refine g_aload_n h dX6_takeBehindOne_11 rfl ?_
    refine g_bipush h dX6_takeBehindOne_12 rfl ?_
    refine g_bipush h dX6_takeBehindOne_14 rfl ?_
    refine g_callV h rfl (ci := 6) [_, _] (by first | assumption | exact s23) (c_X6_is _ _ 6 124 k v (XS_of rfl rfl hX) h4 h5 ⟨by omega, by omega⟩ ⟨by omega, by omega⟩ ⟨by omega, by omega⟩ ⟨by omega, by omega⟩) clX6_195 (by decide) rfl in_X6_is se_X6_is rfl rfl (by rw [hRm]; first | decide | (simp only [clS]; omega)) (by rw [hRm]; first | decide | (simp only [clS]; omega)) (fun _ => Nat.le_of_ble_eq_true rfl) (by rw [hRm]; first | decide | (simp only [clS]; omega)) (by rw [hRm]; first | decide | (simp only [clS]; omega)) dX6_takeBehindOne_16 (fun r16 w16 hp16 => ?_)
    obtain ⟨rfl, hw16⟩ := hp16
    rw [hw16]
    have hbw16 := ite01 (k = 6 ∧ v = 124)
    refine g_if_eq (tgt := 29) h dX6_takeBehindOne_19 (by decide) (by first | assumption | exact ⟨by omega, by omega⟩) (fun c19 => ?_) (fun c19 => ?_)
    · refine g_aload_n h dX6_takeBehindOne_29 rfl ?_
      refine g_iconst h dX6_takeBehindOne_30 ?_
      refine g_bipush h dX6_takeBehindOne_31 rfl ?_
      refine g_callV h rfl (ci := 6) [_, _] (by first | assumption | exact s23) (c_X6_is _ _ 3 41 k v (XS_of rfl rfl hX) h4 h5 ⟨by omega, by omega⟩ ⟨by omega, by omega⟩ ⟨by omega, by omega⟩ ⟨by omega, by omega⟩) clX6_195 (by decide) rfl in_X6_is se_X6_is rfl rfl (by rw [hRm]; first | decide | (simp only [clS]; omega)) (by rw [hRm]; first | decide | (simp only [clS]; omega)) (fun _ => Nat.le_of_ble_eq_true rfl) (by rw [hRm]; first | decide | (simp only [clS]; omega)) (by rw [hRm]; first | decide | (simp only [clS]; omega)) dX6_takeBehindOne_33 (fun r33 w33 hp33 => ?_)
      obtain ⟨rfl, hw33⟩ := hp33
      rw [hw33]
      have hbw33 := ite01 (k = 3 ∧ v = 41)
      refine g_if_eq (tgt := 72) h dX6_takeBehindOne_36 (by decide) (by first | assumption | exact ⟨by omega, by omega⟩) (fun c36 => ?_) (fun c36 => ?_)
      · refine g_aload_n h dX6_takeBehindOne_72 rfl ?_
        refine g_getI h flX6_90 rfl (by first | assumption | exact s23) dX6_takeBehindOne_73 ?_
        rw [h4]
        refine g_if_ne (tgt := 99) h dX6_takeBehindOne_76 (by decide) (by first | assumption | exact ⟨by omega, by omega⟩) (fun c76 => ?_) (fun c76 => ?_)
        · refine g_aload_n h dX6_takeBehindOne_99 rfl ?_
          refine g_iconst h dX6_takeBehindOne_100 ?_
          refine g_callV h rfl (ci := 6) [_] (by first | assumption | exact s23) (c_X6_faulty _ _ _ (XS_of rfl rfl hX)) clX6_192 (by decide) rfl in_X6_faulty se_X6_faulty rfl rfl (by rw [hRm]; first | decide | (simp only [clS]; omega)) (by rw [hRm]; first | decide | (simp only [clS]; omega)) (fun _ => Nat.le_of_ble_eq_true rfl) (by rw [hRm]; first | decide | (simp only [clS]; omega)) (by rw [hRm]; first | decide | (simp only [clS]; omega)) dX6_takeBehindOne_101 (fun r101 w101 hp101 => ?_)
          obtain ⟨rfl, hF, h6⟩ := hp101
          refine g_zret h hQ (by first | decide | omega | (simp only [clS]; omega)) (by first | decide | omega | (simp only [clS]; omega)) (by omega) ?_ dX6_takeBehindOne_104
          first
          | (exfalso; omega)
          | (have e9 : xBehind ((st, cp, nt), (op, tm, ac), (cd, wt)) k v = .inl 1 := by
               unfold xBehind
               dsimp only
               repeat first | rw [if_pos (by omega)] | rw [if_neg (by omega)]
             rw [e9]
             exact ⟨hF, rfl, h6⟩)
        · refine g_aload_n h dX6_takeBehindOne_79 rfl ?_
          refine g_getI h flX6_47 rfl (by first | assumption | exact s23) dX6_takeBehindOne_80 ?_
          rw [r10]
          refine g_if_ne (tgt := 99) h dX6_takeBehindOne_83 (by decide) (by first | assumption | exact ⟨by omega, by omega⟩) (fun c83 => ?_) (fun c83 => ?_)
          · refine g_aload_n h dX6_takeBehindOne_99 rfl ?_
            refine g_iconst h dX6_takeBehindOne_100 ?_
            refine g_callV h rfl (ci := 6) [_] (by first | assumption | exact s23) (c_X6_faulty _ _ _ (XS_of rfl rfl hX)) clX6_192 (by decide) rfl in_X6_faulty se_X6_faulty rfl rfl (by rw [hRm]; first | decide | (simp only [clS]; omega)) (by rw [hRm]; first | decide | (simp only [clS]; omega)) (fun _ => Nat.le_of_ble_eq_true rfl) (by rw [hRm]; first | decide | (simp only [clS]; omega)) (by rw [hRm]; first | decide | (simp only [clS]; omega)) dX6_takeBehindOne_101 (fun r101 w101 hp101 => ?_)
            obtain ⟨rfl, hF, h6⟩ := hp101
            refine g_zret h hQ (by first | decide | omega | (simp only [clS]; omega)) (by first | decide | omega | (simp only [clS]; omega)) (by omega) ?_ dX6_takeBehindOne_104
            first
            | (exfalso; omega)
            | (have e9 : xBehind ((st, cp, nt), (op, tm, ac), (cd, wt)) k v = .inl 1 := by
                 unfold xBehind
                 dsimp only
                 repeat first | rw [if_pos (by omega)] | rw [if_neg (by omega)]
               rw [e9]
               exact ⟨hF, rfl, h6⟩)
          · refine g_aload_n h dX6_takeBehindOne_86 rfl ?_
            refine g_iconst h dX6_takeBehindOne_87 ?_
            refine g_callV h rfl (ci := 6) [_] (by first | assumption | exact s23) (c_X6_putWaiting _ _ st cp nt op tm ac cd wt 0 hX hr (by omega) ⟨by decide, by decide⟩ b11) clX6_209 (by decide) rfl in_X6_putWaiting se_X6_putWaiting rfl rfl (by rw [hRm]; first | decide | (simp only [clS]; omega)) (by rw [hRm]; first | decide | (simp only [clS]; omega)) (fun _ => Nat.le_of_ble_eq_true rfl) (by rw [hRm]; first | decide | (simp only [clS]; omega)) (by rw [hRm]; first | decide | (simp only [clS]; omega)) dX6_takeBehindOne_88 (fun r88 w88 hp88 => ?_)
            obtain ⟨rfl, hF, hr2⟩ := hp88
            have hXb := XS_of hF.1 hF.2.1 hX
            have s23b : w88.1 23 = (106, 0) := hXb.1 23 (by decide)
            refine g_aload_n h dX6_takeBehindOne_91 rfl ?_
            refine g_bipush h dX6_takeBehindOne_92 rfl ?_
            refine g_putI h flX6_37 rfl rfl (by first | assumption | exact s23) dX6_takeBehindOne_94 ?_
            refine g_iconst h dX6_takeBehindOne_97 ?_
            refine g_zret h hQ (by first | decide | omega | (simp only [clS]; omega)) (by first | decide | omega | (simp only [clS]; omega)) (by omega) ?_ dX6_takeBehindOne_98
            obtain ⟨q7, q8, q9, q10, q11, q12, q14, q16, qc, qw⟩ := hr2
            first
            | (exfalso; omega)
            | (have e9 : xBehind ((st, cp, nt), (op, tm, ac), (cd, wt)) k v = .inr ((6, cp, nt), (op, tm, ac), pwF 0 cd wt) := by
                 unfold xBehind
                 dsimp only
                 repeat first | rw [if_pos (by omega)] | rw [if_neg (by omega)]
               rw [e9]
               exact ⟨hF.trans (F345_23 _ _ (by decide)), rfl, upI_self _ _ _ _, q8, q9, q10, q11, q12, q14, q16, qc, qw⟩)
      · refine g_aload_n h dX6_takeBehindOne_39 rfl ?_
        refine g_getI h flX6_47 rfl (by first | assumption | exact s23) dX6_takeBehindOne_40 ?_
        rw [r10]
        refine g_if_le (tgt := 72) h dX6_takeBehindOne_43 (by decide) (by first | assumption | exact ⟨by omega, by omega⟩) (fun c43 => ?_) (fun c43 => ?_)
        · refine g_aload_n h dX6_takeBehindOne_72 rfl ?_
          refine g_getI h flX6_90 rfl (by first | assumption | exact s23) dX6_takeBehindOne_73 ?_
          rw [h4]
          refine g_if_ne (tgt := 99) h dX6_takeBehindOne_76 (by decide) (by first | assumption | exact ⟨by omega, by omega⟩) (fun c76 => ?_) (fun c76 => ?_)
          · refine g_aload_n h dX6_takeBehindOne_99 rfl ?_
            refine g_iconst h dX6_takeBehindOne_100 ?_
            refine g_callV h rfl (ci := 6) [_] (by first | assumption | exact s23) (c_X6_faulty _ _ _ (XS_of rfl rfl hX)) clX6_192 (by decide) rfl in_X6_faulty se_X6_faulty rfl rfl (by rw [hRm]; first | decide | (simp only [clS]; omega)) (by rw [hRm]; first | decide | (simp only [clS]; omega)) (fun _ => Nat.le_of_ble_eq_true rfl) (by rw [hRm]; first | decide | (simp only [clS]; omega)) (by rw [hRm]; first | decide | (simp only [clS]; omega)) dX6_takeBehindOne_101 (fun r101 w101 hp101 => ?_)
            obtain ⟨rfl, hF, h6⟩ := hp101
            refine g_zret h hQ (by first | decide | omega | (simp only [clS]; omega)) (by first | decide | omega | (simp only [clS]; omega)) (by omega) ?_ dX6_takeBehindOne_104
            first
            | (exfalso; omega)
            | (have e9 : xBehind ((st, cp, nt), (op, tm, ac), (cd, wt)) k v = .inl 1 := by
                 unfold xBehind
                 dsimp only
                 repeat first | rw [if_pos (by omega)] | rw [if_neg (by omega)]
               rw [e9]
               exact ⟨hF, rfl, h6⟩)
          · refine g_aload_n h dX6_takeBehindOne_79 rfl ?_
            refine g_getI h flX6_47 rfl (by first | assumption | exact s23) dX6_takeBehindOne_80 ?_
            rw [r10]
            refine g_if_ne (tgt := 99) h dX6_takeBehindOne_83 (by decide) (by first | assumption | exact ⟨by omega, by omega⟩) (fun c83 => ?_) (fun c83 => ?_)
            · refine g_aload_n h dX6_takeBehindOne_99 rfl ?_
              refine g_iconst h dX6_takeBehindOne_100 ?_
              refine g_callV h rfl (ci := 6) [_] (by first | assumption | exact s23) (c_X6_faulty _ _ _ (XS_of rfl rfl hX)) clX6_192 (by decide) rfl in_X6_faulty se_X6_faulty rfl rfl (by rw [hRm]; first | decide | (simp only [clS]; omega)) (by rw [hRm]; first | decide | (simp only [clS]; omega)) (fun _ => Nat.le_of_ble_eq_true rfl) (by rw [hRm]; first | decide | (simp only [clS]; omega)) (by rw [hRm]; first | decide | (simp only [clS]; omega)) dX6_takeBehindOne_101 (fun r101 w101 hp101 => ?_)
              obtain ⟨rfl, hF, h6⟩ := hp101
              refine g_zret h hQ (by first | decide | omega | (simp only [clS]; omega)) (by first | decide | omega | (simp only [clS]; omega)) (by omega) ?_ dX6_takeBehindOne_104
              first
              | (exfalso; omega)
              | (have e9 : xBehind ((st, cp, nt), (op, tm, ac), (cd, wt)) k v = .inl 1 := by
                   unfold xBehind
                   dsimp only
                   repeat first | rw [if_pos (by omega)] | rw [if_neg (by omega)]
                 rw [e9]
                 exact ⟨hF, rfl, h6⟩)
            · refine g_aload_n h dX6_takeBehindOne_86 rfl ?_
              refine g_iconst h dX6_takeBehindOne_87 ?_
              refine g_callV h rfl (ci := 6) [_] (by first | assumption | exact s23) (c_X6_putWaiting _ _ st cp nt op tm ac cd wt 0 hX hr (by omega) ⟨by decide, by decide⟩ b11) clX6_209 (by decide) rfl in_X6_putWaiting se_X6_putWaiting rfl rfl (by rw [hRm]; first | decide | (simp only [clS]; omega)) (by rw [hRm]; first | decide | (simp only [clS]; omega)) (fun _ => Nat.le_of_ble_eq_true rfl) (by rw [hRm]; first | decide | (simp only [clS]; omega)) (by rw [hRm]; first | decide | (simp only [clS]; omega)) dX6_takeBehindOne_88 (fun r88 w88 hp88 => ?_)
              obtain ⟨rfl, hF, hr2⟩ := hp88
              have hXb := XS_of hF.1 hF.2.1 hX
              have s23b : w88.1 23 = (106, 0) := hXb.1 23 (by decide)
              refine g_aload_n h dX6_takeBehindOne_91 rfl ?_
              refine g_bipush h dX6_takeBehindOne_92 rfl ?_
              refine g_putI h flX6_37 rfl rfl (by first | assumption | exact s23) dX6_takeBehindOne_94 ?_
              refine g_iconst h dX6_takeBehindOne_97 ?_
              refine g_zret h hQ (by first | decide | omega | (simp only [clS]; omega)) (by first | decide | omega | (simp only [clS]; omega)) (by omega) ?_ dX6_takeBehindOne_98
              obtain ⟨q7, q8, q9, q10, q11, q12, q14, q16, qc, qw⟩ := hr2
              first
              | (exfalso; omega)
              | (have e9 : xBehind ((st, cp, nt), (op, tm, ac), (cd, wt)) k v = .inr ((6, cp, nt), (op, tm, ac), pwF 0 cd wt) := by
                   unfold xBehind
                   dsimp only
                   repeat first | rw [if_pos (by omega)] | rw [if_neg (by omega)]
                 rw [e9]
                 exact ⟨hF.trans (F345_23 _ _ (by decide)), rfl, upI_self _ _ _ _, q8, q9, q10, q11, q12, q14, q16, qc, qw⟩)
        · refine g_aload_n h dX6_takeBehindOne_46 rfl ?_
          refine g_dup h dX6_takeBehindOne_47 rfl ?_
          refine g_getI h flX6_47 rfl (by first | assumption | exact s23) dX6_takeBehindOne_48 ?_
          rw [r10]
          refine g_iconst h dX6_takeBehindOne_51 ?_
          refine g_isub h dX6_takeBehindOne_52 ?_
          refine g_putI h flX6_47 rfl rfl (by first | assumption | exact s23) dX6_takeBehindOne_53 ?_
          refine g_aload_n h dX6_takeBehindOne_56 rfl ?_
          refine g_iconst h dX6_takeBehindOne_57 ?_
          refine g_callV h rfl (ci := 6) [_] (by first | assumption | exact s23) (c_X6_putWaiting _ _ st cp nt (op - 1) tm ac cd wt 1 (XS_of rfl rfl hX) ⟨r7, r8, r9, upI_self _ _ _ _, r11, r12, r14, r16, rc, rw1⟩ (by omega) ⟨by decide, by decide⟩ b11) clX6_209 (by decide) rfl in_X6_putWaiting se_X6_putWaiting rfl rfl (by rw [hRm]; first | decide | (simp only [clS]; omega)) (by rw [hRm]; first | decide | (simp only [clS]; omega)) (fun _ => Nat.le_of_ble_eq_true rfl) (by rw [hRm]; first | decide | (simp only [clS]; omega)) (by rw [hRm]; first | decide | (simp only [clS]; omega)) dX6_takeBehindOne_58 (fun r58 w58 hp58 => ?_)
          obtain ⟨rfl, hF, hr2⟩ := hp58
          have hXb := XS_of hF.1 hF.2.1 hX
          have s23b : w58.1 23 = (106, 0) := hXb.1 23 (by decide)
          refine g_aload_n h dX6_takeBehindOne_61 rfl ?_
          refine g_callV h rfl (ci := 6) [] (by first | assumption | exact s23) (c_X6_dropWaiting _ _ st cp nt (op - 1) tm ac (pwF 1 cd wt).1 (pwF 1 cd wt).2 hXb hr2 (by omega)) clX6_212 (by decide) rfl in_X6_dropWaiting se_X6_dropWaiting rfl rfl (by rw [hRm]; first | decide | (simp only [clS]; omega)) (by rw [hRm]; first | decide | (simp only [clS]; omega)) (fun _ => Nat.le_of_ble_eq_true rfl) (by rw [hRm]; first | decide | (simp only [clS]; omega)) (by rw [hRm]; first | decide | (simp only [clS]; omega)) dX6_takeBehindOne_62 (fun r62 w62 hp62 => ?_)
          obtain ⟨rfl, hF2, q7, q8, q9, q10, q11, q12, q14, q16, qc, qw⟩ := hp62
          have s23c : w62.1 23 = (106, 0) := by rw [hF2.1]; exact s23b
          refine g_aload_n h dX6_takeBehindOne_65 rfl ?_
          refine g_iconst h dX6_takeBehindOne_66 ?_
          refine g_putI h flX6_37 rfl rfl (by first | assumption | exact s23) dX6_takeBehindOne_67 ?_
          refine g_iconst h dX6_takeBehindOne_70 ?_
          refine g_zret h hQ (by first | decide | omega | (simp only [clS]; omega)) (by first | decide | omega | (simp only [clS]; omega)) (by omega) ?_ dX6_takeBehindOne_71
          first
          | (exfalso; omega)
          | (have e9 : xBehind ((st, cp, nt), (op, tm, ac), (cd, wt)) k v = .inr ((5, cp, nt), (op - 1, tm, ac), ((pwF 1 cd wt).1, (pwF 1 cd wt).2.tail)) := by
               unfold xBehind
               dsimp only
               repeat first | rw [if_pos (by omega)] | rw [if_neg (by omega)]
             rw [e9]
             exact ⟨(((F345_23 _ _ (by decide)).trans hF).trans hF2).trans (F345_23 _ _ (by decide)), rfl, upI_self _ _ _ _, q8, q9, q10, q11, q12, q14, q16, qc, qw⟩)
    · refine g_aload_n h dX6_takeBehindOne_22 rfl ?_
      refine g_iconst h dX6_takeBehindOne_23 ?_
      refine g_callV h rfl (ci := 6) [_] (by first | assumption | exact s23) (c_X6_takeJoining _ _ st cp nt op tm ac cd wt k v 2 hX hr h4 h5 hk hv hB) clX6_206 (by decide) rfl in_X6_takeJoining se_X6_takeJoining rfl rfl (by rw [hRm]; first | decide | (simp only [clS]; omega)) (by rw [hRm]; first | decide | (simp only [clS]; omega)) (fun _ => Nat.le_of_ble_eq_true rfl) (by rw [hRm]; first | decide | (simp only [clS]; omega)) (by rw [hRm]; first | decide | (simp only [clS]; omega)) dX6_takeBehindOne_24 (fun r24 w24 hp24 => ?_)
      obtain ⟨rfl, hF, hr2⟩ := hp24
      refine g_iconst h dX6_takeBehindOne_27 ?_
      refine g_zret h hQ (by first | decide | omega | (simp only [clS]; omega)) (by first | decide | omega | (simp only [clS]; omega)) (by omega) ?_ dX6_takeBehindOne_28
      first
      | (exfalso; omega)
      | (have e9 : xBehind ((st, cp, nt), (op, tm, ac), (cd, wt)) k v = .inr (xJoin ((st, cp, nt), (op, tm, ac), (cd, wt)) v 2) := by
           unfold xBehind
           dsimp only
           repeat first | rw [if_pos (by omega)] | rw [if_neg (by omega)]
         rw [e9]
         exact ⟨hF, rfl, hr2⟩)
set_option maxRecDepth 100000 in
set_option maxHeartbeats 4000000 in
theorem c_X6_takeToken (l : Launch) (w : AW) (st cp nt op tm ac : Int) (cd wt : List Int) (k v : Int) (hX : XS w) (hr : RDs w ((st, cp, nt), (op, tm, ac), (cd, wt))) (h4 : w.2.1 23 4 = k) (h5 : w.2.1 23 5 = v) (hk : 0 ≤ k ∧ k ≤ 7) (hv : -1 ≤ v ∧ v ≤ 10000) (hB : XB ((st, cp, nt), (op, tm, ac), (cd, wt))) : HT l yX6_takeToken cX6_takeToken 1 (some .boolean) 5 0 0 w [ar 23] (Pt w (xT ((st, cp, nt), (op, tm, ac), (cd, wt)) k v)) := by
  refine HT.of (by decide) (by intro v hv; simp only [List.mem_cons, List.not_mem_nil, or_false] at hv; rcases hv with rfl <;> rfl) (Nat.le_of_ble_eq_true rfl) ?_
  intro Γ h hQ hRm hnm hl hw0
  obtain ⟨r7, r8, r9, r10, r11, r12, r14, r16, rc, rw1⟩ := id hr
  simp only at r7 r8 r9 r10 r11 r12 r14 r16 rc rw1
  obtain ⟨⟨b1, b2⟩, b3, ⟨b4, b5⟩, ⟨b6, b7⟩, ⟨b8, b9⟩, b10, b11⟩ := id hB
  simp only at b1 b2 b3 b4 b5 b6 b7 b8 b9 b10 b11
  have s23 : w.1 23 = (106, 0) := hX.1 23 (by decide)

  refine g_aload_n h dX6_takeToken_0 rfl ?_
  refine g_getI h flX6_37 rfl (by first | assumption | exact s23) dX6_takeToken_1 ?_
  rw [r7]
  rcases (show st = 0 ∨ st = 1 ∨ st = 2 ∨ st = 3 ∨ st = 4 ∨ (st < 0 ∨ 4 < st) by omega) with c4 | c4 | c4 | c4 | c4 | c4
  · refine g_tswI (tgt := 40) h 0 (by first | assumption | exact ⟨by omega, by omega⟩) (by first | omega | assumption) (by first | omega | assumption) rfl (by decide) dX6_takeToken_4 ?_
    refine g_aload_n h dX6_takeToken_40 rfl ?_
    refine g_callV h rfl (ci := 6) [] (by first | assumption | exact s23) (c_X6_takeAct _ _ st cp nt op tm ac cd wt k v hX hr h4 h5 hk hv hB) clX6_171 (by decide) rfl in_X6_takeAct se_X6_takeAct rfl rfl (by rw [hRm]; first | decide | (simp only [clS]; omega)) (by rw [hRm]; first | decide | (simp only [clS]; omega)) (fun _ => Nat.le_of_ble_eq_true rfl) (by rw [hRm]; first | decide | (simp only [clS]; omega)) (by rw [hRm]; first | decide | (simp only [clS]; omega)) dX6_takeToken_41 (fun r41 w41 hp41 => ?_)
    obtain ⟨z9, rfl, hz9⟩ := Pt_z hp41
    have HZ := hp41
    refine g_zret h hQ (by first | decide | omega | (simp only [clS]; omega)) (by first | decide | omega | (simp only [clS]; omega)) (by omega) ?_ dX6_takeToken_44
    have e9 : xT ((st, cp, nt), (op, tm, ac), (cd, wt)) k v = xAct ((st, cp, nt), (op, tm, ac), (cd, wt)) k v := by
      unfold xT
      dsimp only
      repeat first | rw [if_pos (by omega)] | rw [if_neg (by omega)]
    rw [e9]
    exact HZ
  · refine g_tswI (tgt := 45) h 1 (by first | assumption | exact ⟨by omega, by omega⟩) (by first | omega | assumption) (by first | omega | assumption) rfl (by decide) dX6_takeToken_4 ?_
    refine g_aload_n h dX6_takeToken_45 rfl ?_
    refine g_callV h rfl (ci := 6) [] (by first | assumption | exact s23) (c_X6_takeIf _ _ st cp nt op tm ac cd wt k v hX hr h4 h5 hk hv hB) clX6_174 (by decide) rfl in_X6_takeIf se_X6_takeIf rfl rfl (by rw [hRm]; first | decide | (simp only [clS]; omega)) (by rw [hRm]; first | decide | (simp only [clS]; omega)) (fun _ => Nat.le_of_ble_eq_true rfl) (by rw [hRm]; first | decide | (simp only [clS]; omega)) (by rw [hRm]; first | decide | (simp only [clS]; omega)) dX6_takeToken_46 (fun r46 w46 hp46 => ?_)
    obtain ⟨z9, rfl, hz9⟩ := Pt_z hp46
    have HZ := hp46
    refine g_zret h hQ (by first | decide | omega | (simp only [clS]; omega)) (by first | decide | omega | (simp only [clS]; omega)) (by omega) ?_ dX6_takeToken_49
    have e9 : xT ((st, cp, nt), (op, tm, ac), (cd, wt)) k v = xIf ((st, cp, nt), (op, tm, ac), (cd, wt)) k v := by
      unfold xT
      dsimp only
      repeat first | rw [if_pos (by omega)] | rw [if_neg (by omega)]
    rw [e9]
    exact HZ
  · refine g_tswI (tgt := 50) h 2 (by first | assumption | exact ⟨by omega, by omega⟩) (by first | omega | assumption) (by first | omega | assumption) rfl (by decide) dX6_takeToken_4 ?_
    refine g_aload_n h dX6_takeToken_50 rfl ?_
    refine g_callV h rfl (ci := 6) [] (by first | assumption | exact s23) (c_X6_takeOne _ _ st cp nt op tm ac cd wt k v hX hr h4 h5 hk hv hB) clX6_177 (by decide) rfl in_X6_takeOne se_X6_takeOne rfl rfl (by rw [hRm]; first | decide | (simp only [clS]; omega)) (by rw [hRm]; first | decide | (simp only [clS]; omega)) (fun _ => Nat.le_of_ble_eq_true rfl) (by rw [hRm]; first | decide | (simp only [clS]; omega)) (by rw [hRm]; first | decide | (simp only [clS]; omega)) dX6_takeToken_51 (fun r51 w51 hp51 => ?_)
    obtain ⟨z9, rfl, hz9⟩ := Pt_z hp51
    have HZ := hp51
    refine g_zret h hQ (by first | decide | omega | (simp only [clS]; omega)) (by first | decide | omega | (simp only [clS]; omega)) (by omega) ?_ dX6_takeToken_54
    have e9 : xT ((st, cp, nt), (op, tm, ac), (cd, wt)) k v = xOne ((st, cp, nt), (op, tm, ac), (cd, wt)) k v := by
      unfold xT
      dsimp only
      repeat first | rw [if_pos (by omega)] | rw [if_neg (by omega)]
    rw [e9]
    exact HZ
  · refine g_tswI (tgt := 55) h 3 (by first | assumption | exact ⟨by omega, by omega⟩) (by first | omega | assumption) (by first | omega | assumption) rfl (by decide) dX6_takeToken_4 ?_
    refine g_aload_n h dX6_takeToken_55 rfl ?_
    refine g_callV h rfl (ci := 6) [] (by first | assumption | exact s23) (c_X6_takeTerm _ _ st cp nt op tm ac cd wt k v hX hr h4 h5 hk hv hB) clX6_180 (by decide) rfl in_X6_takeTerm se_X6_takeTerm rfl rfl (by rw [hRm]; first | decide | (simp only [clS]; omega)) (by rw [hRm]; first | decide | (simp only [clS]; omega)) (fun _ => Nat.le_of_ble_eq_true rfl) (by rw [hRm]; first | decide | (simp only [clS]; omega)) (by rw [hRm]; first | decide | (simp only [clS]; omega)) dX6_takeToken_56 (fun r56 w56 hp56 => ?_)
    obtain ⟨z9, rfl, hz9⟩ := Pt_z hp56
    have HZ := hp56
    refine g_zret h hQ (by first | decide | omega | (simp only [clS]; omega)) (by first | decide | omega | (simp only [clS]; omega)) (by omega) ?_ dX6_takeToken_59
    have e9 : xT ((st, cp, nt), (op, tm, ac), (cd, wt)) k v = xTerm ((st, cp, nt), (op, tm, ac), (cd, wt)) k v := by
      unfold xT
      dsimp only
      repeat first | rw [if_pos (by omega)] | rw [if_neg (by omega)]
    rw [e9]
    exact HZ
  · refine g_tswI (tgt := 60) h 4 (by first | assumption | exact ⟨by omega, by omega⟩) (by first | omega | assumption) (by first | omega | assumption) rfl (by decide) dX6_takeToken_4 ?_
    refine g_aload_n h dX6_takeToken_60 rfl ?_
    refine g_callV h rfl (ci := 6) [] (by first | assumption | exact s23) (c_X6_goesOnComparing _ _ st cp nt op tm ac cd wt k v hX hr h4 h5 hk hv hB) clX6_183 (by decide) rfl in_X6_goesOnComparing se_X6_goesOnComparing rfl rfl (by rw [hRm]; first | decide | (simp only [clS]; omega)) (by rw [hRm]; first | decide | (simp only [clS]; omega)) (fun _ => Nat.le_of_ble_eq_true rfl) (by rw [hRm]; first | decide | (simp only [clS]; omega)) (by rw [hRm]; first | decide | (simp only [clS]; omega)) dX6_takeToken_61 (fun r61 w61 hp61 => ?_)
    obtain ⟨rfl, hw61⟩ := hp61
    rw [hw61]
    have hbw61 := b01_01 (xGoes ((st, cp, nt), (op, tm, ac), (cd, wt)) k v)
    refine g_if_eq (tgt := 72) h dX6_takeToken_64 (by decide) (by first | assumption | exact ⟨by omega, by omega⟩) (fun c64 => ?_) (fun c64 => ?_)
    · refine g_aload_n h dX6_takeToken_72 rfl ?_
      refine g_getI h flX6_40 rfl (by first | assumption | exact s23) dX6_takeToken_73 ?_
      rw [r8]
      refine g_if_eq (tgt := 86) h dX6_takeToken_76 (by decide) (by first | assumption | exact ⟨by omega, by omega⟩) (fun c76 => ?_) (fun c76 => ?_)
      · refine g_aload_n h dX6_takeToken_86 rfl ?_
        refine g_iconst h dX6_takeToken_87 ?_
        refine g_callV h rfl (ci := 6) [_] (by first | assumption | exact s23) (c_X6_faulty _ _ _ (XS_of rfl rfl hX)) clX6_192 (by decide) rfl in_X6_faulty se_X6_faulty rfl rfl (by rw [hRm]; first | decide | (simp only [clS]; omega)) (by rw [hRm]; first | decide | (simp only [clS]; omega)) (fun _ => Nat.le_of_ble_eq_true rfl) (by rw [hRm]; first | decide | (simp only [clS]; omega)) (by rw [hRm]; first | decide | (simp only [clS]; omega)) dX6_takeToken_88 (fun r88 w88 hp88 => ?_)
        obtain ⟨rfl, hF, h6⟩ := hp88
        refine g_zret h hQ (by first | decide | omega | (simp only [clS]; omega)) (by first | decide | omega | (simp only [clS]; omega)) (by omega) ?_ dX6_takeToken_91
        first
        | (have e9 : xT ((st, cp, nt), (op, tm, ac), (cd, wt)) k v = xBehind ((st, cp, nt), (op, tm, ac), (cd, wt)) k v := by
             unfold xT
             dsimp only
             rw [if_neg (by omega), if_neg (by omega), if_neg (by omega), if_neg (by omega), if_pos (by omega), if_neg (b01_ze c64), if_pos (show ¬ cp = 0 from c76)]
           rw [e9]
           exact HZ)
        | (have e9 : xT ((st, cp, nt), (op, tm, ac), (cd, wt)) k v = .inl 1 := by
             unfold xT
             dsimp only
             rw [if_neg (by omega), if_neg (by omega), if_neg (by omega), if_neg (by omega), if_pos (by omega), if_neg (b01_ze c64), if_neg (by show ¬ ¬ cp = 0; omega)]
           rw [e9]
           exact ⟨hF, rfl, h6⟩)
      · refine g_aload_n h dX6_takeToken_79 rfl ?_
        refine g_callV h rfl (ci := 6) [] (by first | assumption | exact s23) (c_X6_takeBehindOne _ _ st cp nt op tm ac cd wt k v hX hr h4 h5 hk hv hB) clX6_189 (by decide) rfl in_X6_takeBehindOne se_X6_takeBehindOne rfl rfl (by rw [hRm]; first | decide | (simp only [clS]; omega)) (by rw [hRm]; first | decide | (simp only [clS]; omega)) (fun _ => Nat.le_of_ble_eq_true rfl) (by rw [hRm]; first | decide | (simp only [clS]; omega)) (by rw [hRm]; first | decide | (simp only [clS]; omega)) dX6_takeToken_80 (fun r80 w80 hp80 => ?_)
        obtain ⟨z9, rfl, hz9⟩ := Pt_z hp80
        have HZ := hp80
        refine g_goto (tgt := 91) h dX6_takeToken_83 (by decide) ?_
        refine g_zret h hQ (by first | decide | omega | (simp only [clS]; omega)) (by first | decide | omega | (simp only [clS]; omega)) (by omega) ?_ dX6_takeToken_91
        first
        | (have e9 : xT ((st, cp, nt), (op, tm, ac), (cd, wt)) k v = xBehind ((st, cp, nt), (op, tm, ac), (cd, wt)) k v := by
             unfold xT
             dsimp only
             rw [if_neg (by omega), if_neg (by omega), if_neg (by omega), if_neg (by omega), if_pos (by omega), if_neg (b01_ze c64), if_pos (show ¬ cp = 0 from c76)]
           rw [e9]
           exact HZ)
        | (have e9 : xT ((st, cp, nt), (op, tm, ac), (cd, wt)) k v = .inl 1 := by
             unfold xT
             dsimp only
             rw [if_neg (by omega), if_neg (by omega), if_neg (by omega), if_neg (by omega), if_pos (by omega), if_neg (b01_ze c64), if_neg (by show ¬ ¬ cp = 0; omega)]
           rw [e9]
           exact ⟨hF, rfl, h6⟩)
    · refine g_aload_n h dX6_takeToken_67 rfl ?_
      refine g_callV h rfl (ci := 6) [] (by first | assumption | exact s23) (c_X6_takeComparing _ _ st cp nt op tm ac cd wt k v hX hr h4 h5 hk hv hB) clX6_186 (by decide) rfl in_X6_takeComparing se_X6_takeComparing rfl rfl (by rw [hRm]; first | decide | (simp only [clS]; omega)) (by rw [hRm]; first | decide | (simp only [clS]; omega)) (fun _ => Nat.le_of_ble_eq_true rfl) (by rw [hRm]; first | decide | (simp only [clS]; omega)) (by rw [hRm]; first | decide | (simp only [clS]; omega)) dX6_takeToken_68 (fun r68 w68 hp68 => ?_)
      obtain ⟨rfl, hF, hr2⟩ := hp68
      refine g_zret h hQ (by first | decide | omega | (simp only [clS]; omega)) (by first | decide | omega | (simp only [clS]; omega)) (by omega) ?_ dX6_takeToken_71
      have e9 : xT ((st, cp, nt), (op, tm, ac), (cd, wt)) k v = .inr (xCmp ((st, cp, nt), (op, tm, ac), (cd, wt)) v) := by
        unfold xT
        dsimp only
        rw [if_neg (by omega), if_neg (by omega), if_neg (by omega), if_neg (by omega), if_pos (by omega), if_pos (b01_nz c64)]
      rw [e9]
      exact ⟨hF, rfl, hr2⟩
  · refine g_tswO (tgt := 92) h (by first | assumption | exact ⟨by omega, by omega⟩) c4 (by decide) dX6_takeToken_4 ?_
    refine g_aload_n h dX6_takeToken_92 rfl ?_
    refine g_callV h rfl (ci := 6) [] (by first | assumption | exact s23) (c_X6_takeBehindOne _ _ st cp nt op tm ac cd wt k v hX hr h4 h5 hk hv hB) clX6_189 (by decide) rfl in_X6_takeBehindOne se_X6_takeBehindOne rfl rfl (by rw [hRm]; first | decide | (simp only [clS]; omega)) (by rw [hRm]; first | decide | (simp only [clS]; omega)) (fun _ => Nat.le_of_ble_eq_true rfl) (by rw [hRm]; first | decide | (simp only [clS]; omega)) (by rw [hRm]; first | decide | (simp only [clS]; omega)) dX6_takeToken_93 (fun r93 w93 hp93 => ?_)
    obtain ⟨z9, rfl, hz9⟩ := Pt_z hp93
    have HZ := hp93
    refine g_zret h hQ (by first | decide | omega | (simp only [clS]; omega)) (by first | decide | omega | (simp only [clS]; omega)) (by omega) ?_ dX6_takeToken_96
    have e9 : xT ((st, cp, nt), (op, tm, ac), (cd, wt)) k v = xBehind ((st, cp, nt), (op, tm, ac), (cd, wt)) k v := by
      unfold xT
      dsimp only
      repeat first | rw [if_pos (by omega)] | rw [if_neg (by omega)]
    rw [e9]
    exact HZ
