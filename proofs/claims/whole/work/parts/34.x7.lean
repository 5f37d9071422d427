/-! ===== the class: a pipe's numbers, counts, a pipe laid ===== -/
def poF (w : AW) (q : Nat) (a : Int) : Int := if a = 0 then w.2.1 q 0 else if a = 1 then w.2.1 q 1 else if a = 2 then w.2.1 q 4 else if a = 3 then w.2.1 q 5 else w.2.1 q 6
/-- how many of the first n villages are away -/
def vaF (w : AW) : Nat → Int
  | 0 => 0
  | n + 1 => vaF w n + w.2.1 (60 + n) 2
def cntF (w : AW) (a : Int) (nv : Nat) : Int := if a = 0 then w.2.1 0 3 else if a = 1 then w.2.1 20 3 else if a = 2 then w.2.1 28 3 else if a = 3 then w.2.1 28 8 else if a = 4 then w.2.1 0 12
  else if a = 5 then vaF w nv else if a = 6 then w.2.1 0 13 else if a = 7 then w.2.1 0 15 else if a = 8 then w.2.1 0 14 else if a = 9 then w.2.1 20 1 else -1
set_option maxRecDepth 100000 in
set_option maxHeartbeats 4000000 in
theorem c_X9_pipeOf (l : Launch) (w : AW) (np : Nat) (z a : Int) (hX : XS w) (hI : PI w np) (hz : R32 z) (ha : R32 a) : HT l yX9_pipeOf cX9_pipeOf 4 (some .int) 2 0 0 w [ar 0, ai z, ai a] (fun r w' => w' = w ∧ (¬ (0 ≤ z ∧ z < np ∧ 0 ≤ a ∧ a < 5) → r = some (ai (-1))) ∧ (0 ≤ z ∧ z < np ∧ 0 ≤ a ∧ a < 5 → r = some (ai (poF w (50 + z.toNat) a)))) := by
  refine HT.of (by decide) (by intro v hv; simp only [List.mem_cons, List.not_mem_nil, or_false] at hv; rcases hv with rfl | rfl | rfl <;> rfl) (Nat.le_of_ble_eq_true rfl) ?_
  intro Γ h hQ hRm hnm hl hw0
  have s0 : w.1 0 = (109, 0) := hX.1 0 (by decide)
  by_cases hzp : 0 ≤ z ∧ z < np
  · have hl : piA z np = some (50 + z.toNat) := if_pos hzp
    obtain ⟨q1, sq1, q3, q4, q5, q6, q7⟩ := hI.2.2.1 z.toNat (by omega)
    refine g_aload_n h dX9_pipeOf_0 rfl ?_
    refine g_iload_n h dX9_pipeOf_1 rfl ?_
    refine g_callV h rfl (ci := 9) [_] (by assumption) (c_X9_pipeAt _ _ np z hX hI hz) clX9_184 (by decide) rfl in_X9_pipeAt se_X9_pipeAt rfl rfl (by rw [hRm]; first | decide | (simp only [clS]; omega)) (by rw [hRm]; first | decide | (simp only [clS]; omega)) (fun _ => Nat.le_of_ble_eq_true rfl) (by rw [hRm]; first | decide | (simp only [clS]; omega)) (by rw [hRm]; first | decide | (simp only [clS]; omega)) dX9_pipeOf_2 (fun r2 w2 hp2 => ?_)
    obtain ⟨rfl, hw2⟩ := hp2
    rw [hw2, hl]
    refine g_astore_n h dX9_pipeOf_5 (Nat.le_of_ble_eq_true rfl) rfl rfl ?_
    refine g_aload_n h dX9_pipeOf_6 rfl ?_
    refine g_ifnonnull (tgt := 12) h dX9_pipeOf_7 (by decide) (fun _ c => ?_) (fun c => by cases c)
    refine g_iload_n h dX9_pipeOf_12 rfl ?_
    rcases (show a = 0 ∨ a = 1 ∨ a = 2 ∨ a = 3 ∨ a = 4 ∨ (a < 0 ∨ 4 < a) by omega) with c13 | c13 | c13 | c13 | c13 | c13
    · refine g_tswI (tgt := 48) h 0 (by first | assumption | exact ⟨by omega, by omega⟩) (by first | omega | assumption) (by first | omega | assumption) rfl (by decide) dX9_pipeOf_13 ?_
      refine g_aload_n h dX9_pipeOf_48 rfl ?_
      refine g_getI h flX9_188 rfl (by assumption) dX9_pipeOf_49 ?_
      refine g_iret h hQ (by first | decide | omega | (simp only [clS]; omega)) (by first | decide | omega | (simp only [clS]; omega)) ?_ dX9_pipeOf_52
      subst c13; exact ⟨rfl, fun q => absurd (by omega) q, fun _ => rfl⟩
    · refine g_tswI (tgt := 53) h 1 (by first | assumption | exact ⟨by omega, by omega⟩) (by first | omega | assumption) (by first | omega | assumption) rfl (by decide) dX9_pipeOf_13 ?_
      refine g_aload_n h dX9_pipeOf_53 rfl ?_
      refine g_getI h flX9_191 rfl (by assumption) dX9_pipeOf_54 ?_
      refine g_iret h hQ (by first | decide | omega | (simp only [clS]; omega)) (by first | decide | omega | (simp only [clS]; omega)) ?_ dX9_pipeOf_57
      subst c13; exact ⟨rfl, fun q => absurd (by omega) q, fun _ => rfl⟩
    · refine g_tswI (tgt := 58) h 2 (by first | assumption | exact ⟨by omega, by omega⟩) (by first | omega | assumption) (by first | omega | assumption) rfl (by decide) dX9_pipeOf_13 ?_
      refine g_aload_n h dX9_pipeOf_58 rfl ?_
      refine g_getI h flX9_194 rfl (by assumption) dX9_pipeOf_59 ?_
      refine g_if_eq (tgt := 69) h dX9_pipeOf_62 (by decide) (by first | assumption | exact ⟨by omega, by omega⟩) (fun c62 => ?_) (fun c62 => ?_)
      · refine g_iconst h dX9_pipeOf_69 ?_
        refine g_iret h hQ (by first | decide | omega | (simp only [clS]; omega)) (by first | decide | omega | (simp only [clS]; omega)) ?_ dX9_pipeOf_70
        subst c13
        refine ⟨rfl, fun q => absurd (by omega) q, fun _ => ?_⟩
        first
        | exact congrArg (fun x => some (ai x)) (show (0 : Int) = w.2.1 (50 + z.toNat) 4 by omega)
        | exact congrArg (fun x => some (ai x)) (show (1 : Int) = w.2.1 (50 + z.toNat) 4 by omega)
      · refine g_iconst h dX9_pipeOf_65 ?_
        refine g_goto (tgt := 70) h dX9_pipeOf_66 (by decide) ?_
        refine g_iret h hQ (by first | decide | omega | (simp only [clS]; omega)) (by first | decide | omega | (simp only [clS]; omega)) ?_ dX9_pipeOf_70
        subst c13
        refine ⟨rfl, fun q => absurd (by omega) q, fun _ => ?_⟩
        first
        | exact congrArg (fun x => some (ai x)) (show (0 : Int) = w.2.1 (50 + z.toNat) 4 by omega)
        | exact congrArg (fun x => some (ai x)) (show (1 : Int) = w.2.1 (50 + z.toNat) 4 by omega)
    · refine g_tswI (tgt := 71) h 3 (by first | assumption | exact ⟨by omega, by omega⟩) (by first | omega | assumption) (by first | omega | assumption) rfl (by decide) dX9_pipeOf_13 ?_
      refine g_aload_n h dX9_pipeOf_71 rfl ?_
      refine g_getI h flX9_198 rfl (by assumption) dX9_pipeOf_72 ?_
      refine g_iret h hQ (by first | decide | omega | (simp only [clS]; omega)) (by first | decide | omega | (simp only [clS]; omega)) ?_ dX9_pipeOf_75
      subst c13; exact ⟨rfl, fun q => absurd (by omega) q, fun _ => rfl⟩
    · refine g_tswI (tgt := 76) h 4 (by first | assumption | exact ⟨by omega, by omega⟩) (by first | omega | assumption) (by first | omega | assumption) rfl (by decide) dX9_pipeOf_13 ?_
      refine g_aload_n h dX9_pipeOf_76 rfl ?_
      refine g_getI h flX9_201 rfl (by assumption) dX9_pipeOf_77 ?_
      refine g_iret h hQ (by first | decide | omega | (simp only [clS]; omega)) (by first | decide | omega | (simp only [clS]; omega)) ?_ dX9_pipeOf_80
      subst c13; exact ⟨rfl, fun q => absurd (by omega) q, fun _ => rfl⟩
    · refine g_tswO (tgt := 81) h (by first | assumption | exact ⟨by omega, by omega⟩) c13 (by decide) dX9_pipeOf_13 ?_
      refine g_iconst h dX9_pipeOf_81 ?_
      refine g_iret h hQ (by first | decide | omega | (simp only [clS]; omega)) (by first | decide | omega | (simp only [clS]; omega)) ?_ dX9_pipeOf_82
      exact ⟨rfl, fun _ => rfl, fun q => absurd q (by omega)⟩
  · have hl : piA z np = none := if_neg hzp
    refine g_aload_n h dX9_pipeOf_0 rfl ?_
    refine g_iload_n h dX9_pipeOf_1 rfl ?_
    refine g_callV h rfl (ci := 9) [_] (by assumption) (c_X9_pipeAt _ _ np z hX hI hz) clX9_184 (by decide) rfl in_X9_pipeAt se_X9_pipeAt rfl rfl (by rw [hRm]; first | decide | (simp only [clS]; omega)) (by rw [hRm]; first | decide | (simp only [clS]; omega)) (fun _ => Nat.le_of_ble_eq_true rfl) (by rw [hRm]; first | decide | (simp only [clS]; omega)) (by rw [hRm]; first | decide | (simp only [clS]; omega)) dX9_pipeOf_2 (fun r2 w2 hp2 => ?_)
    obtain ⟨rfl, hw2⟩ := hp2
    rw [hw2, hl]
    refine g_astore_n h dX9_pipeOf_5 (Nat.le_of_ble_eq_true rfl) rfl rfl ?_
    refine g_aload_n h dX9_pipeOf_6 rfl ?_
    refine g_ifnonnull (tgt := 12) h dX9_pipeOf_7 (by decide) (fun _ c => by cases c) (fun c => ?_)
    refine g_iconst h dX9_pipeOf_10 ?_
    refine g_iret h hQ (by first | decide | omega | (simp only [clS]; omega)) (by first | decide | omega | (simp only [clS]; omega)) ?_ dX9_pipeOf_11
    exact ⟨rfl, fun _ => rfl, fun q => absurd q (by omega)⟩
set_option maxRecDepth 100000 in
set_option maxHeartbeats 4000000 in
theorem c_X9_villagesAway (l : Launch) (w : AW) (nv : Nat) (hX : XS w) (hI : VI w nv) : HT l yX9_villagesAway cX9_villagesAway 4 (some .int) 2 0 0 w [ar 0] (rI (vaF w nv) w) := by
  refine HT.of (by decide) (by intro v hv; simp only [List.mem_cons, List.not_mem_nil, or_false] at hv; rcases hv with rfl <;> rfl) (Nat.le_of_ble_eq_true rfl) ?_
  intro Γ h hQ hRm hnm hl hw0
  have s0 : w.1 0 = (109, 0) := hX.1 0 (by decide)
  obtain ⟨i1, i2, i3, i4⟩ := id hI
  have loop : ∀ (d i : Nat) (x : Option AV), i + d = nv → GG Γ 4 [some (ar 0), some (ai (vaF w i)), some (ai (i : Int)), x] [] w 0 0 := by
    intro d
    induction d with
    | zero =>
      intro i x hi
      obtain rfl : i = nv := by omega
      refine g_iload_n h dX9_villagesAway_4 rfl ?_
      refine g_aload_n h dX9_villagesAway_5 rfl ?_
      refine g_getI h flX9_324 rfl (by assumption) dX9_villagesAway_6 ?_
      refine g_icmp_ge (tgt := 38) h dX9_villagesAway_9 (by decide) (by first | assumption | exact ⟨by omega, by omega⟩) (by first | assumption | exact ⟨by omega, by omega⟩) (fun c9 => ?_) (fun c9 => ?_)
      · refine g_iload_n h dX9_villagesAway_38 rfl ?_
        refine g_iret h hQ (by first | decide | omega | (simp only [clS]; omega)) (by first | decide | omega | (simp only [clS]; omega)) ?_ dX9_villagesAway_39
        (first | exact ⟨rfl, rfl⟩ | (exfalso; omega))
      · exfalso; omega
    | succ d ih =>
      intro i x hi
      have hl : viA (i : Int) nv = some (60 + i) := if_pos (by omega)
      obtain ⟨q1, sq1, q2⟩ := i3 i (by omega)
      have hv : vaF w (i + 1) = vaF w i + w.2.1 (60 + i) 2 := rfl
      refine g_iload_n h dX9_villagesAway_4 rfl ?_
      refine g_aload_n h dX9_villagesAway_5 rfl ?_
      refine g_getI h flX9_324 rfl (by assumption) dX9_villagesAway_6 ?_
      refine g_icmp_ge (tgt := 38) h dX9_villagesAway_9 (by decide) (by first | assumption | exact ⟨by omega, by omega⟩) (by first | assumption | exact ⟨by omega, by omega⟩) (fun c9 => ?_) (fun c9 => ?_)
      · exfalso; omega
      · refine g_aload_n h dX9_villagesAway_12 rfl ?_
        refine g_iload_n h dX9_villagesAway_13 rfl ?_
        refine g_callV h rfl (ci := 9) [_] (by assumption) (c_X9_villageAt _ _ nv _ hX hI ⟨by omega, by omega⟩) clX9_329 (by decide) rfl in_X9_villageAt se_X9_villageAt rfl rfl (by rw [hRm]; first | decide | (simp only [clS]; omega)) (by rw [hRm]; first | decide | (simp only [clS]; omega)) (fun _ => Nat.le_of_ble_eq_true rfl) (by rw [hRm]; first | decide | (simp only [clS]; omega)) (by rw [hRm]; first | decide | (simp only [clS]; omega)) dX9_villagesAway_14 (fun r14 w14 hp14 => ?_)
        obtain ⟨rfl, hw14⟩ := hp14
        rw [hw14, hl]
        refine g_astore_n h dX9_villagesAway_17 (Nat.le_of_ble_eq_true rfl) rfl rfl ?_
        refine g_aload_n h dX9_villagesAway_18 rfl ?_
        refine g_ifnull (tgt := 32) h dX9_villagesAway_19 (by decide) (fun c => by cases c) (fun _ c => ?_)
        refine g_aload_n h dX9_villagesAway_22 rfl ?_
        refine g_getI h flX9_337 rfl (by assumption) dX9_villagesAway_23 ?_
        refine g_if_eq (tgt := 32) h dX9_villagesAway_26 (by decide) (by first | assumption | exact ⟨by omega, by omega⟩) (fun c26 => ?_) (fun c26 => ?_)
        · refine g_iinc h dX9_villagesAway_32 rfl (Nat.le_of_ble_eq_true rfl) rfl rfl ?_
          refine g_goto (tgt := 4) h dX9_villagesAway_35 (by decide) ?_
          have h4 := ih (i + 1) (some (ar (60 + i))) (by omega)
          rw [hv] at h4
          first
          | (rw [show w.2.1 (60 + i) 2 = 0 by omega, Int.add_zero] at h4; exact h4)
          | (rw [show w.2.1 (60 + i) 2 = 1 by omega] at h4; exact h4)
        · refine g_iinc h dX9_villagesAway_29 rfl (Nat.le_of_ble_eq_true rfl) rfl rfl ?_
          refine g_iinc h dX9_villagesAway_32 rfl (Nat.le_of_ble_eq_true rfl) rfl rfl ?_
          refine g_goto (tgt := 4) h dX9_villagesAway_35 (by decide) ?_
          have h4 := ih (i + 1) (some (ar (60 + i))) (by omega)
          rw [hv] at h4
          first
          | (rw [show w.2.1 (60 + i) 2 = 0 by omega, Int.add_zero] at h4; exact h4)
          | (rw [show w.2.1 (60 + i) 2 = 1 by omega] at h4; exact h4)
  refine g_iconst h dX9_villagesAway_0 ?_
  refine g_istore_n h dX9_villagesAway_1 (Nat.le_of_ble_eq_true rfl) rfl rfl ?_
  refine g_iconst h dX9_villagesAway_2 ?_
  refine g_istore_n h dX9_villagesAway_3 (Nat.le_of_ble_eq_true rfl) rfl rfl ?_
  exact loop nv 0 none (by omega)
set_option maxRecDepth 100000 in
set_option maxHeartbeats 4000000 in
theorem c_X9_count (l : Launch) (w : AW) (nv : Nat) (a : Int) (hX : XS w) (hI : VI w nv) (ha : R32 a) : HT l yX9_count cX9_count 2 (some .int) 3 0 0 w [ar 0, ai a] (rI (cntF w a nv) w) := by
  refine HT.of (by decide) (by intro v hv; simp only [List.mem_cons, List.not_mem_nil, or_false] at hv; rcases hv with rfl | rfl <;> rfl) (Nat.le_of_ble_eq_true rfl) ?_
  intro Γ h hQ hRm hnm hl hw0
  have s0 : w.1 0 = (109, 0) := hX.1 0 (by decide)
  have s20 : w.1 20 = (105, 0) := hX.1 20 (by decide)
  have s28 : w.1 28 = (107, 0) := hX.1 28 (by decide)
  have p0_7 : w.2.2 0 7 = some 20 := hX.2 (0, 7, 20) (by decide)
  have p0_9 : w.2.2 0 9 = some 28 := hX.2 (0, 9, 28) (by decide)
  refine g_iload_n h dX9_count_0 rfl ?_
  rcases (show a = 0 ∨ a = 1 ∨ a = 2 ∨ a = 3 ∨ a = 4 ∨ a = 5 ∨ a = 6 ∨ a = 7 ∨ a = 8 ∨ a = 9 ∨ (a < 0 ∨ 9 < a) by omega) with c1 | c1 | c1 | c1 | c1 | c1 | c1 | c1 | c1 | c1 | c1
  · refine g_tswI (tgt := 56) h 0 (by first | assumption | exact ⟨by omega, by omega⟩) (by first | omega | assumption) (by first | omega | assumption) rfl (by decide) dX9_count_1 ?_
    refine g_aload_n h dX9_count_56 rfl ?_
    refine g_getI h flX9_172 rfl (by assumption) dX9_count_57 ?_
    refine g_iret h hQ (by first | decide | omega | (simp only [clS]; omega)) (by first | decide | omega | (simp only [clS]; omega)) ?_ dX9_count_60
    subst c1; exact ⟨rfl, rfl⟩
  · refine g_tswI (tgt := 61) h 1 (by first | assumption | exact ⟨by omega, by omega⟩) (by first | omega | assumption) (by first | omega | assumption) rfl (by decide) dX9_count_1 ?_
    refine g_aload_n h dX9_count_61 rfl ?_
    refine g_getQ h flX9_38 rfl (by assumption) (by assumption) dX9_count_62 ?_
    refine g_getI h flX9_252 rfl (by assumption) dX9_count_65 ?_
    refine g_iret h hQ (by first | decide | omega | (simp only [clS]; omega)) (by first | decide | omega | (simp only [clS]; omega)) ?_ dX9_count_68
    subst c1; exact ⟨rfl, rfl⟩
  · refine g_tswI (tgt := 69) h 2 (by first | assumption | exact ⟨by omega, by omega⟩) (by first | omega | assumption) (by first | omega | assumption) rfl (by decide) dX9_count_1 ?_
    refine g_aload_n h dX9_count_69 rfl ?_
    refine g_getQ h flX9_45 rfl (by assumption) (by assumption) dX9_count_70 ?_
    refine g_getI h flX9_349 rfl (by assumption) dX9_count_73 ?_
    refine g_iret h hQ (by first | decide | omega | (simp only [clS]; omega)) (by first | decide | omega | (simp only [clS]; omega)) ?_ dX9_count_76
    subst c1; exact ⟨rfl, rfl⟩
  · refine g_tswI (tgt := 77) h 3 (by first | assumption | exact ⟨by omega, by omega⟩) (by first | omega | assumption) (by first | omega | assumption) rfl (by decide) dX9_count_1 ?_
    refine g_aload_n h dX9_count_77 rfl ?_
    refine g_getQ h flX9_45 rfl (by assumption) (by assumption) dX9_count_78 ?_
    refine g_getI h flX9_352 rfl (by assumption) dX9_count_81 ?_
    refine g_iret h hQ (by first | decide | omega | (simp only [clS]; omega)) (by first | decide | omega | (simp only [clS]; omega)) ?_ dX9_count_84
    subst c1; exact ⟨rfl, rfl⟩
  · refine g_tswI (tgt := 85) h 4 (by first | assumption | exact ⟨by omega, by omega⟩) (by first | omega | assumption) (by first | omega | assumption) rfl (by decide) dX9_count_1 ?_
    refine g_aload_n h dX9_count_85 rfl ?_
    refine g_getI h flX9_324 rfl (by assumption) dX9_count_86 ?_
    refine g_iret h hQ (by first | decide | omega | (simp only [clS]; omega)) (by first | decide | omega | (simp only [clS]; omega)) ?_ dX9_count_89
    subst c1; exact ⟨rfl, rfl⟩
  · refine g_tswI (tgt := 90) h 5 (by first | assumption | exact ⟨by omega, by omega⟩) (by first | omega | assumption) (by first | omega | assumption) rfl (by decide) dX9_count_1 ?_
    refine g_aload_n h dX9_count_90 rfl ?_
    refine g_callV h rfl (ci := 9) [] (by assumption) (c_X9_villagesAway _ _ nv hX hI) clX9_355 (by decide) rfl in_X9_villagesAway se_X9_villagesAway rfl rfl (by rw [hRm]; first | decide | (simp only [clS]; omega)) (by rw [hRm]; first | decide | (simp only [clS]; omega)) (fun _ => Nat.le_of_ble_eq_true rfl) (by rw [hRm]; first | decide | (simp only [clS]; omega)) (by rw [hRm]; first | decide | (simp only [clS]; omega)) dX9_count_91 (fun r91 w91 hp91 => ?_)
    obtain ⟨rfl, hw91⟩ := hp91
    rw [hw91]
    refine g_iret h hQ (by first | decide | omega | (simp only [clS]; omega)) (by first | decide | omega | (simp only [clS]; omega)) ?_ dX9_count_94
    subst c1; exact ⟨rfl, rfl⟩
  · refine g_tswI (tgt := 95) h 6 (by first | assumption | exact ⟨by omega, by omega⟩) (by first | omega | assumption) (by first | omega | assumption) rfl (by decide) dX9_count_1 ?_
    refine g_aload_n h dX9_count_95 rfl ?_
    refine g_getI h flX9_121 rfl (by assumption) dX9_count_96 ?_
    refine g_iret h hQ (by first | decide | omega | (simp only [clS]; omega)) (by first | decide | omega | (simp only [clS]; omega)) ?_ dX9_count_99
    subst c1; exact ⟨rfl, rfl⟩
  · refine g_tswI (tgt := 100) h 7 (by first | assumption | exact ⟨by omega, by omega⟩) (by first | omega | assumption) (by first | omega | assumption) rfl (by decide) dX9_count_1 ?_
    refine g_aload_n h dX9_count_100 rfl ?_
    refine g_getI h flX9_346 rfl (by assumption) dX9_count_101 ?_
    refine g_iret h hQ (by first | decide | omega | (simp only [clS]; omega)) (by first | decide | omega | (simp only [clS]; omega)) ?_ dX9_count_104
    subst c1; exact ⟨rfl, rfl⟩
  · refine g_tswI (tgt := 105) h 8 (by first | assumption | exact ⟨by omega, by omega⟩) (by first | omega | assumption) (by first | omega | assumption) rfl (by decide) dX9_count_1 ?_
    refine g_aload_n h dX9_count_105 rfl ?_
    refine g_getI h flX9_62 rfl (by assumption) dX9_count_106 ?_
    refine g_iret h hQ (by first | decide | omega | (simp only [clS]; omega)) (by first | decide | omega | (simp only [clS]; omega)) ?_ dX9_count_109
    subst c1; exact ⟨rfl, rfl⟩
  · refine g_tswI (tgt := 110) h 9 (by first | assumption | exact ⟨by omega, by omega⟩) (by first | omega | assumption) (by first | omega | assumption) rfl (by decide) dX9_count_1 ?_
    refine g_aload_n h dX9_count_110 rfl ?_
    refine g_getQ h flX9_38 rfl (by assumption) (by assumption) dX9_count_111 ?_
    refine g_getI h flX9_241 rfl (by assumption) dX9_count_114 ?_
    refine g_iret h hQ (by first | decide | omega | (simp only [clS]; omega)) (by first | decide | omega | (simp only [clS]; omega)) ?_ dX9_count_117
    subst c1; exact ⟨rfl, rfl⟩
  · refine g_tswO (tgt := 118) h (by first | assumption | exact ⟨by omega, by omega⟩) c1 (by decide) dX9_count_1 ?_
    refine g_iconst h dX9_count_118 ?_
    refine g_iret h hQ (by first | decide | omega | (simp only [clS]; omega)) (by first | decide | omega | (simp only [clS]; omega)) ?_ dX9_count_119
    unfold cntF
    rw [if_neg (by omega), if_neg (by omega), if_neg (by omega), if_neg (by omega), if_neg (by omega), if_neg (by omega), if_neg (by omega), if_neg (by omega), if_neg (by omega), if_neg (by omega)]
    exact ⟨rfl, rfl⟩
