/-! ===== the class: says, may, move, start, moved ===== -/
theorem b01_one {b : Bool} (h : b01 b ≠ 0) : b01 b = 1 := by rcases b01_01 b with e | e
                                                             · exact absurd e h
                                                             · exact e
/-- what a lake's rules say: 0 the siren, 1 whether it is shut, 2 whether the crew may work -/
def syF (w : AW) (rp : Nat → Nat) (cl : Nat → List Int) (nr : Nat) (a : Int) : Bool := if a = 2 then lwF w rp cl nr else anyB (rlT w rp cl (if a = 0 then 0 else 2)) nr
set_option maxRecDepth 100000 in
set_option maxHeartbeats 4000000 in
theorem c_X9_says (l : Launch) (w : AW) (n : Nat → Nat) (q : Nat → Nat → Nat) (S rn sn : Nat) (nr : Nat) (rp rc : Nat → Nat) (cl : Nat → List Int) (z a : Int) (hW : WI w n q S rn sn) (hB : RBK w nr rp rc cl) (hH : HB w) (hzr : R32 z) (har : R32 a) : HT l yX9_says cX9_says 4 (some .int) 7 6 42 w [ar 0, ai z, ai a] (fun r w' => (¬ (0 ≤ z ∧ z < 2 ∧ 0 ≤ a ∧ a ≤ 2) → r = some (ai (-1)) ∧ w' = w) ∧ (0 ≤ z ∧ z < 2 ∧ 0 ≤ a ∧ a ≤ 2 → ∃ S' u, TN w u z.toNat n q S S' rn sn nr cl 0 ∧ r = some (ai (b01 (syF u rp cl nr a))) ∧ FSc w w' S S' ∧ HB w')) := by
  refine HT.of (by decide) (by intro v hv; simp only [List.mem_cons, List.not_mem_nil, or_false] at hv; rcases hv with rfl | rfl | rfl <;> rfl) (Nat.le_of_ble_eq_true rfl) ?_
  intro Γ h hQ hRm hnm hl hw0
  obtain ⟨hX, hS, hLk, hSI, t0, t1⟩ := id hW
  have s0 : w.1 0 = (109, 0) := hX.1 0 (by decide)
  have s20 : w.1 20 = (105, 0) := hX.1 20 (by decide)
  have p0_7 : w.2.2 0 7 = some 20 := hX.2 (0, 7, 20) (by decide)
  have hnz : ∀ i, i < 2 → n i ≤ 3 := fun i hi => (hLk i hi).2.1.1
  by_cases hz : 0 ≤ z ∧ z < 2
  · have hl := lkA_some hz
    have hLK := XS_LK hX z.toNat (by omega)
    have kL := hLK.2.1
    obtain ⟨hN, hP, hq5⟩ := hLk z.toNat (by omega)
    refine g_aload_n h dX9_says_0 rfl ?_
    refine g_iload_n h dX9_says_1 rfl ?_
    refine g_callV h rfl (ci := 9) [_] (by assumption) (c_X9_lakeAt _ _ _ hX hzr) clX9_66 (by decide) rfl in_X9_lakeAt se_X9_lakeAt rfl rfl (by rw [hRm]; first | decide | (simp only [clS]; omega)) (by rw [hRm]; first | decide | (simp only [clS]; omega)) (fun _ => Nat.le_of_ble_eq_true rfl) (by rw [hRm]; first | decide | (simp only [clS]; omega)) (by rw [hRm]; first | decide | (simp only [clS]; omega)) dX9_says_2 (fun r2 w2 hp2 => ?_)
    obtain ⟨rfl, hw2⟩ := hp2
    rw [hw2, hl]
    refine g_astore_n h dX9_says_5 (Nat.le_of_ble_eq_true rfl) rfl rfl ?_
    refine g_aload_n h dX9_says_6 rfl ?_
    refine g_ifnull (tgt := 19) h dX9_says_7 (by decide) (fun cnn => by cases cnn) (fun _ cnn => ?_)
    refine g_iload_n h dX9_says_10 rfl ?_
    refine g_iconst h dX9_says_11 ?_
    refine g_iconst h dX9_says_12 ?_
    refine g_callS h rfl [_, _, _] (c_X9_isWithin _ _ _ _ _ har ⟨by omega, by omega⟩ ⟨by omega, by omega⟩) clX9_78 st_X9_isWithin rfl rfl (by rw [hRm]; first | decide | (simp only [clS]; omega)) (by rw [hRm]; first | decide | (simp only [clS]; omega)) (fun _ => Nat.le_of_ble_eq_true rfl) (by rw [hRm]; first | decide | (simp only [clS]; omega)) (by rw [hRm]; first | decide | (simp only [clS]; omega)) dX9_says_13 (fun r13 w13 hp13 => ?_)
    obtain ⟨rfl, hw13⟩ := hp13
    rw [hw13]
    have hbw13 := ite01 ((0 : Int) ≤ a ∧ a ≤ 2)
    refine g_if_ne (tgt := 21) h dX9_says_16 (by decide) (by first | assumption | exact ⟨by omega, by omega⟩) (fun c16 => ?_) (fun c16 => ?_)
    · have hn3 := hnz z.toNat (by omega)
      obtain ⟨zn, rfl⟩ : ∃ m : Nat, z = (m : Int) := ⟨z.toNat, by omega⟩
      simp only [Int.toNat_natCast] at *
      refine g_aload_n h dX9_says_21 rfl ?_
      refine g_iload_n h dX9_says_22 rfl ?_
      refine g_aload_n h dX9_says_23 rfl ?_
      refine g_iconst h dX9_says_24 ?_
      refine g_callV h rfl (ci := 9) [_, _, _] (by assumption) (c_X9_tellNames _ _ n q S rn sn zn nr rp rc cl 0 hW (by omega) hB hH ⟨by decide, by decide⟩) clX9_270 (by decide) rfl in_X9_tellNames se_X9_tellNames rfl rfl (by rw [hRm]; first | decide | (simp only [clS]; omega)) (by rw [hRm]; first | decide | (simp only [clS]; omega)) (fun _ => Nat.le_of_ble_eq_true rfl) (by rw [hRm]; first | decide | (simp only [clS]; omega)) (by rw [hRm]; first | decide | (simp only [clS]; omega)) dX9_says_25 (fun r25 w25 hp25 => ?_)
      obtain ⟨rfl, S', hTN⟩ := hp25
      have hHv := TN_HB hTN hH
      have hFv := hTN.1
      have hXv := hFv.1
      have hBv := RBK_fs hB hFv
      have v0 : w25.1 0 = (109, 0) := hXv.1 0 (by decide)
      have v20 : w25.1 20 = (105, 0) := hXv.1 20 (by decide)
      have vp : w25.2.2 0 7 = some 20 := hXv.2 (0, 7, 20) (by decide)
      refine g_iload_n h dX9_says_28 rfl ?_
      refine g_iconst h dX9_says_29 ?_
      refine g_icmp_ne (tgt := 49) h dX9_says_30 (by decide) (by first | assumption | exact ⟨by omega, by omega⟩) (by first | assumption | exact ⟨by omega, by omega⟩) (fun c30 => ?_) (fun c30 => ?_)
      · refine g_aload_n h dX9_says_49 rfl ?_
        refine g_getQ h flX9_38 rfl (by assumption) (by assumption) dX9_says_50 ?_
        refine g_iload_n h dX9_says_53 rfl ?_
        refine g_if_ne (tgt := 61) h dX9_says_54 (by decide) (by first | assumption | exact ⟨by omega, by omega⟩) (fun c54 => ?_) (fun c54 => ?_)
        · refine g_iconst h dX9_says_61 ?_
          refine g_callV h rfl (ci := 5) [_] (by assumption) (c_X5_someHolds _ _ nr rp rc cl _ hXv hBv ⟨by decide, by decide⟩ hHv.1) clX9_277 (by decide) rfl in_X5_someHolds se_X5_someHolds rfl rfl (by rw [hRm]; first | decide | (simp only [clS]; omega)) (by rw [hRm]; first | decide | (simp only [clS]; omega)) (fun _ => Nat.le_of_ble_eq_true rfl) (by rw [hRm]; first | decide | (simp only [clS]; omega)) (by rw [hRm]; first | decide | (simp only [clS]; omega)) dX9_says_62 (fun r62 w62 hp62 => ?_)
          obtain ⟨rfl, hF9⟩ := hp62
          have hFw := hFv.trans (FSc_F1 hXv hFv.2.1 (Or.inr rfl) hF9)
          have hHw := HB_27 hF9 hHv
          have hb9 := b01_01 (anyB (rlT w25 rp cl 0) nr)
          have hb8 := b01_01 (anyB (rlT w25 rp cl 2) nr)
          refine g_if_eq (tgt := 72) h dX9_says_65 (by decide) (by first | assumption | exact ⟨by omega, by omega⟩) (fun c65 => ?_) (fun c65 => ?_)
          · refine g_iconst h dX9_says_72 ?_
            refine g_iret h hQ (by first | decide | omega | (simp only [clS]; omega)) (by first | decide | omega | (simp only [clS]; omega)) ?_ dX9_says_73
            first
            | (exfalso; omega)
            | (have e9 : syF w25 rp cl nr a = anyB (rlT w25 rp cl 2) nr := by
                 unfold syF
                 first | rw [if_pos (by omega)] | (rw [if_neg (by omega)]; first | rw [if_pos (by omega)] | rw [if_neg (by omega)])
               refine ⟨fun q => absurd (by omega) q, fun _ => ⟨S', w25, hTN, ?_, hFw, hHw⟩⟩
               rw [e9]
               first | exact congrArg (fun z => some (ai z)) (b01_one (by assumption)).symm | exact congrArg (fun z => some (ai z)) (Eq.symm (by assumption)))
          · refine g_iconst h dX9_says_68 ?_
            refine g_goto (tgt := 73) h dX9_says_69 (by decide) ?_
            refine g_iret h hQ (by first | decide | omega | (simp only [clS]; omega)) (by first | decide | omega | (simp only [clS]; omega)) ?_ dX9_says_73
            first
            | (exfalso; omega)
            | (have e9 : syF w25 rp cl nr a = anyB (rlT w25 rp cl 2) nr := by
                 unfold syF
                 first | rw [if_pos (by omega)] | (rw [if_neg (by omega)]; first | rw [if_pos (by omega)] | rw [if_neg (by omega)])
               refine ⟨fun q => absurd (by omega) q, fun _ => ⟨S', w25, hTN, ?_, hFw, hHw⟩⟩
               rw [e9]
               first | exact congrArg (fun z => some (ai z)) (b01_one (by assumption)).symm | exact congrArg (fun z => some (ai z)) (Eq.symm (by assumption)))
        · refine g_iconst h dX9_says_57 ?_
          refine g_goto (tgt := 62) h dX9_says_58 (by decide) ?_
          refine g_callV h rfl (ci := 5) [_] (by assumption) (c_X5_someHolds _ _ nr rp rc cl _ hXv hBv ⟨by decide, by decide⟩ hHv.1) clX9_277 (by decide) rfl in_X5_someHolds se_X5_someHolds rfl rfl (by rw [hRm]; first | decide | (simp only [clS]; omega)) (by rw [hRm]; first | decide | (simp only [clS]; omega)) (fun _ => Nat.le_of_ble_eq_true rfl) (by rw [hRm]; first | decide | (simp only [clS]; omega)) (by rw [hRm]; first | decide | (simp only [clS]; omega)) dX9_says_62 (fun r62 w62 hp62 => ?_)
          obtain ⟨rfl, hF9⟩ := hp62
          have hFw := hFv.trans (FSc_F1 hXv hFv.2.1 (Or.inr rfl) hF9)
          have hHw := HB_27 hF9 hHv
          have hb9 := b01_01 (anyB (rlT w25 rp cl 0) nr)
          have hb8 := b01_01 (anyB (rlT w25 rp cl 2) nr)
          refine g_if_eq (tgt := 72) h dX9_says_65 (by decide) (by first | assumption | exact ⟨by omega, by omega⟩) (fun c65 => ?_) (fun c65 => ?_)
          · refine g_iconst h dX9_says_72 ?_
            refine g_iret h hQ (by first | decide | omega | (simp only [clS]; omega)) (by first | decide | omega | (simp only [clS]; omega)) ?_ dX9_says_73
            first
            | (exfalso; omega)
            | (have e9 : syF w25 rp cl nr a = anyB (rlT w25 rp cl 0) nr := by
                 unfold syF
                 first | rw [if_pos (by omega)] | (rw [if_neg (by omega)]; first | rw [if_pos (by omega)] | rw [if_neg (by omega)])
               refine ⟨fun q => absurd (by omega) q, fun _ => ⟨S', w25, hTN, ?_, hFw, hHw⟩⟩
               rw [e9]
               first | exact congrArg (fun z => some (ai z)) (b01_one (by assumption)).symm | exact congrArg (fun z => some (ai z)) (Eq.symm (by assumption)))
          · refine g_iconst h dX9_says_68 ?_
            refine g_goto (tgt := 73) h dX9_says_69 (by decide) ?_
            refine g_iret h hQ (by first | decide | omega | (simp only [clS]; omega)) (by first | decide | omega | (simp only [clS]; omega)) ?_ dX9_says_73
            first
            | (exfalso; omega)
            | (have e9 : syF w25 rp cl nr a = anyB (rlT w25 rp cl 0) nr := by
                 unfold syF
                 first | rw [if_pos (by omega)] | (rw [if_neg (by omega)]; first | rw [if_pos (by omega)] | rw [if_neg (by omega)])
               refine ⟨fun q => absurd (by omega) q, fun _ => ⟨S', w25, hTN, ?_, hFw, hHw⟩⟩
               rw [e9]
               first | exact congrArg (fun z => some (ai z)) (b01_one (by assumption)).symm | exact congrArg (fun z => some (ai z)) (Eq.symm (by assumption)))
      · refine g_aload_n h dX9_says_33 rfl ?_
        refine g_getQ h flX9_38 rfl (by assumption) (by assumption) dX9_says_34 ?_
        refine g_callV h rfl (ci := 5) [] (by assumption) (c_X5_letsWork _ _ nr rp rc cl hXv hBv hHv.1) clX9_274 (by decide) rfl in_X5_letsWork se_X5_letsWork rfl rfl (by rw [hRm]; first | decide | (simp only [clS]; omega)) (by rw [hRm]; first | decide | (simp only [clS]; omega)) (fun _ => Nat.le_of_ble_eq_true rfl) (by rw [hRm]; first | decide | (simp only [clS]; omega)) (by rw [hRm]; first | decide | (simp only [clS]; omega)) dX9_says_37 (fun r37 w37 hp37 => ?_)
        obtain ⟨rfl, hF9⟩ := hp37
        have hFw := hFv.trans (FSc_F1 hXv hFv.2.1 (Or.inr rfl) hF9)
        have hHw := HB_27 hF9 hHv
        have hb9 := b01_01 (lwF w25 rp cl nr)
        change GG Γ _ _ [ai (b01 (lwF w25 rp cl nr))] w37 _ _
        refine g_if_eq (tgt := 47) h dX9_says_40 (by decide) (by first | assumption | exact ⟨by omega, by omega⟩) (fun c40 => ?_) (fun c40 => ?_)
        · refine g_iconst h dX9_says_47 ?_
          refine g_iret h hQ (by first | decide | omega | (simp only [clS]; omega)) (by first | decide | omega | (simp only [clS]; omega)) ?_ dX9_says_48
          first
          | (exfalso; omega)
          | (have e9 : syF w25 rp cl nr a = lwF w25 rp cl nr := by
               unfold syF
               first | rw [if_pos (by omega)] | (rw [if_neg (by omega)]; first | rw [if_pos (by omega)] | rw [if_neg (by omega)])
             refine ⟨fun q => absurd (by omega) q, fun _ => ⟨S', w25, hTN, ?_, hFw, hHw⟩⟩
             rw [e9]
             first | exact congrArg (fun z => some (ai z)) (b01_one (by assumption)).symm | exact congrArg (fun z => some (ai z)) (Eq.symm (by assumption)))
        · refine g_iconst h dX9_says_43 ?_
          refine g_goto (tgt := 48) h dX9_says_44 (by decide) ?_
          refine g_iret h hQ (by first | decide | omega | (simp only [clS]; omega)) (by first | decide | omega | (simp only [clS]; omega)) ?_ dX9_says_48
          first
          | (exfalso; omega)
          | (have e9 : syF w25 rp cl nr a = lwF w25 rp cl nr := by
               unfold syF
               first | rw [if_pos (by omega)] | (rw [if_neg (by omega)]; first | rw [if_pos (by omega)] | rw [if_neg (by omega)])
             refine ⟨fun q => absurd (by omega) q, fun _ => ⟨S', w25, hTN, ?_, hFw, hHw⟩⟩
             rw [e9]
             first | exact congrArg (fun z => some (ai z)) (b01_one (by assumption)).symm | exact congrArg (fun z => some (ai z)) (Eq.symm (by assumption)))
    · refine g_iconst h dX9_says_19 ?_
      refine g_iret h hQ (by first | decide | omega | (simp only [clS]; omega)) (by first | decide | omega | (simp only [clS]; omega)) ?_ dX9_says_20
      first
      | (exfalso; omega)
      | (exact ⟨fun _ => ⟨rfl, rfl⟩, fun q => absurd q (by omega)⟩)
  · have hl := lkA_none hz
    refine g_aload_n h dX9_says_0 rfl ?_
    refine g_iload_n h dX9_says_1 rfl ?_
    refine g_callV h rfl (ci := 9) [_] (by assumption) (c_X9_lakeAt _ _ _ hX hzr) clX9_66 (by decide) rfl in_X9_lakeAt se_X9_lakeAt rfl rfl (by rw [hRm]; first | decide | (simp only [clS]; omega)) (by rw [hRm]; first | decide | (simp only [clS]; omega)) (fun _ => Nat.le_of_ble_eq_true rfl) (by rw [hRm]; first | decide | (simp only [clS]; omega)) (by rw [hRm]; first | decide | (simp only [clS]; omega)) dX9_says_2 (fun r2 w2 hp2 => ?_)
    obtain ⟨rfl, hw2⟩ := hp2
    rw [hw2, hl]
    refine g_astore_n h dX9_says_5 (Nat.le_of_ble_eq_true rfl) rfl rfl ?_
    refine g_aload_n h dX9_says_6 rfl ?_
    refine g_ifnull (tgt := 19) h dX9_says_7 (by decide) (fun cnn => ?_) (fun _ cnn => by cases cnn)
    refine g_iconst h dX9_says_19 ?_
    refine g_iret h hQ (by first | decide | omega | (simp only [clS]; omega)) (by first | decide | omega | (simp only [clS]; omega)) ?_ dX9_says_20
    first
    | (exfalso; omega)
    | (exact ⟨fun _ => ⟨rfl, rfl⟩, fun q => absurd q (by omega)⟩)
set_option maxRecDepth 100000 in
set_option maxHeartbeats 4000000 in
theorem c_X9_may (l : Launch) (w : AW) (n : Nat → Nat) (q : Nat → Nat → Nat) (S rn sn : Nat) (nr : Nat) (rp rc : Nat → Nat) (cl : Nat → List Int) (a : Int) (hW : WI w n q S rn sn) (hB : RBK w nr rp rc cl) (hH : HB w) (har : R32 a) (hhi : ∀ i, i < 400 → 0 ≤ w.2.1 37 i ∧ w.2.1 37 i ≤ 999) : HT l yX9_may cX9_may 2 (some .int) 8 6 42 w [ar 0, ai a] (fun r w' => (¬ (0 ≤ a ∧ a < 400) → r = some (ai (-1)) ∧ w' = w) ∧ (0 ≤ a ∧ a < 400 → ∃ S' b, r = some (ai (b01 b)) ∧ FMo w w' n q S S' rn sn nr rp cl (w.2.1 37 a.toNat) b)) := by
  refine HT.of (by decide) (by intro v hv; simp only [List.mem_cons, List.not_mem_nil, or_false] at hv; rcases hv with rfl | rfl <;> rfl) (Nat.le_of_ble_eq_true rfl) ?_
  intro Γ h hQ hRm hnm hl hw0
  obtain ⟨hX, hS, hLk, hSI, t0, t1⟩ := id hW
  have s0 : w.1 0 = (109, 0) := hX.1 0 (by decide)
  refine g_iload_n h dX9_may_0 rfl ?_
  refine g_callS h rfl [_] (c_X9_isCell _ _ _ har) clX9_280 st_X9_isCell rfl rfl (by rw [hRm]; first | decide | (simp only [clS]; omega)) (by rw [hRm]; first | decide | (simp only [clS]; omega)) (fun _ => Nat.le_of_ble_eq_true rfl) (by rw [hRm]; first | decide | (simp only [clS]; omega)) (by rw [hRm]; first | decide | (simp only [clS]; omega)) dX9_may_1 (fun r1 w1 hp1 => ?_)
  obtain ⟨rfl, hw1⟩ := hp1
  rw [hw1]
  have hbw1 := ite01 (0 ≤ a ∧ a < 400)
  refine g_if_ne (tgt := 9) h dX9_may_4 (by decide) (by first | assumption | exact ⟨by omega, by omega⟩) (fun c4 => ?_) (fun c4 => ?_)
  · refine g_aload_n h dX9_may_9 rfl ?_
    refine g_iload_n h dX9_may_10 rfl ?_
    refine g_callV h rfl (ci := 9) [_] (by assumption) (c_X9_folkMayLive _ _ n q S rn sn nr rp rc cl a hW hB hH har hhi) clX9_283 (by decide) rfl in_X9_folkMayLive se_X9_folkMayLive rfl rfl (by rw [hRm]; first | decide | (simp only [clS]; omega)) (by rw [hRm]; first | decide | (simp only [clS]; omega)) (fun _ => Nat.le_of_ble_eq_true rfl) (by rw [hRm]; first | decide | (simp only [clS]; omega)) (by rw [hRm]; first | decide | (simp only [clS]; omega)) dX9_may_11 (fun r11 w11 hp11 => ?_)
    obtain ⟨S', b, rfl, hFM⟩ := hp11.2 (by omega)
    have hb9 := b01_01 b
    refine g_if_eq (tgt := 21) h dX9_may_14 (by decide) (by first | assumption | exact ⟨by omega, by omega⟩) (fun c14 => ?_) (fun c14 => ?_)
    · refine g_iconst h dX9_may_21 ?_
      refine g_iret h hQ (by first | decide | omega | (simp only [clS]; omega)) (by first | decide | omega | (simp only [clS]; omega)) ?_ dX9_may_22
      refine ⟨fun q => absurd (by omega) q, fun _ => ⟨S', b, ?_, hFM⟩⟩
      first | exact congrArg (fun z => some (ai z)) (b01_one (by assumption)).symm | exact congrArg (fun z => some (ai z)) (Eq.symm (by assumption))
    · refine g_iconst h dX9_may_17 ?_
      refine g_goto (tgt := 22) h dX9_may_18 (by decide) ?_
      refine g_iret h hQ (by first | decide | omega | (simp only [clS]; omega)) (by first | decide | omega | (simp only [clS]; omega)) ?_ dX9_may_22
      refine ⟨fun q => absurd (by omega) q, fun _ => ⟨S', b, ?_, hFM⟩⟩
      first | exact congrArg (fun z => some (ai z)) (b01_one (by assumption)).symm | exact congrArg (fun z => some (ai z)) (Eq.symm (by assumption))
  · refine g_iconst h dX9_may_7 ?_
    refine g_iret h hQ (by first | decide | omega | (simp only [clS]; omega)) (by first | decide | omega | (simp only [clS]; omega)) ?_ dX9_may_8
    exact ⟨fun _ => ⟨rfl, rfl⟩, fun q => absurd q (by omega)⟩
/-- pipe p of lake L is moved to layer z -/
def mv1 (v : AW) (p L : Nat) (z : Int) : AW := sR (upI v 0 14 (L : Int)) (50 + p) (uI (uI (uI ((upI v 0 14 (L : Int)).2.1 (50 + p)) 1 z) 4 0) 6 ((upI v 0 14 (L : Int)).2.1 (50 + p) 6 + 1))
def mvI (z : Int) : Nat := if z = 0 then 1 else z.toNat
def mvW (v : AW) (p L : Nat) (z : Int) : AW := sR3 (mv1 v p L z) L (halfF ((mv1 v p L z).2.1 (5 + L)) (mvI z)) (halfF ((mv1 v p L z).2.1 (8 + L)) (mvI z)) (halfF ((mv1 v p L z).2.1 (11 + L)) (mvI z))
def stW (v : AW) (p L : Nat) : AW := upI (upI v 0 14 (L : Int)) (50 + p) 4 1
set_option maxRecDepth 100000 in
set_option maxHeartbeats 4000000 in
theorem c_X9_move (l : Launch) (w : AW) (n : Nat → Nat) (q : Nat → Nat → Nat) (S rn sn : Nat) (nr : Nat) (rp rc : Nat → Nat) (cl : Nat → List Int) (np : Nat) (a z : Int) (hW : WI w n q S rn sn) (hB : RBK w nr rp rc cl) (hH : HB w) (hcr : -2 ≤ w.2.1 0 14 ∧ w.2.1 0 14 ≤ 2) (hI : PI w np) (har : R32 a) (hzr : R32 z) : HT l yX9_move cX9_move 5 (some .boolean) 8 6 42 w [ar 0, ai a, ai z] (fun r w' => (¬ (0 ≤ a ∧ a < (np : Int) ∧ 0 ≤ z ∧ z < 10) → r = some (ai 0) ∧ w' = upI w 0 16 1) ∧ (0 ≤ a ∧ a < (np : Int) ∧ 0 ≤ z ∧ z < 10 → w.2.1 (50 + a.toNat) 1 = z → r = some (ai 0) ∧ w' = upI w 0 16 5) ∧ (0 ≤ a ∧ a < (np : Int) ∧ 0 ≤ z ∧ z < 10 → ¬ w.2.1 (50 + a.toNat) 1 = z → ∃ v S' b, CGo w v (w.2.1 (50 + a.toNat) 0).toNat n q S S' rn sn nr rp cl b ∧ (b = false → r = some (ai 0) ∧ w' = upI v 0 16 6) ∧ (b = true → r = some (ai 1) ∧ w' = upI (mvW v a.toNat (w.2.1 (50 + a.toNat) 0).toNat z) 0 16 0))) := by
  refine HT.of (by decide) (by intro v hv; simp only [List.mem_cons, List.not_mem_nil, or_false] at hv; rcases hv with rfl | rfl | rfl <;> rfl) (Nat.le_of_ble_eq_true rfl) ?_
  intro Γ h hQ hRm hnm hl hw0
  obtain ⟨hX, hS, hLk, hSI, t0, t1⟩ := id hW
  obtain ⟨j1, j2, j3, j4⟩ := id hI
  have s0 : w.1 0 = (109, 0) := hX.1 0 (by decide)
  have hnz : ∀ i, i < 2 → n i ≤ 3 := fun i hi => (hLk i hi).2.1.1
  by_cases hap : 0 ≤ a ∧ a < (np : Int)
  · obtain ⟨p, rfl⟩ : ∃ m : Nat, a = (m : Int) := ⟨a.toNat, by omega⟩
    simp only [Int.toNat_natCast] at *
    obtain ⟨k1, k2, k3, k4, k5, k6, k7⟩ := j3 p (by omega)
    obtain ⟨L, hL⟩ : ∃ L : Nat, w.2.1 (50 + p) 0 = (L : Int) := ⟨(w.2.1 (50 + p) 0).toNat, by omega⟩
    have hL2 : L < 2 := by omega
    rw [hL, Int.toNat_natCast] at hQ
    have ePA : piA (p : Int) np = some (50 + p) := if_pos hap
    have hla : lkA (L : Int) = some (2 + L) := if_pos ⟨by omega, by omega⟩
    have hn3 := hnz L hL2
    refine g_aload_n h dX9_move_0 rfl ?_
    refine g_iload_n h dX9_move_1 rfl ?_
    refine g_callV h rfl (ci := 9) [_] (by first | assumption | exact v0 | exact vL | exact vq | exact k2 | exact m0 | exact mL | exact s0) (c_X9_pipeAt _ _ np _ hX hI har) clX9_184 (by decide) rfl in_X9_pipeAt se_X9_pipeAt rfl rfl (by rw [hRm]; first | decide | (simp only [clS]; omega)) (by rw [hRm]; first | decide | (simp only [clS]; omega)) (fun _ => Nat.le_of_ble_eq_true rfl) (by rw [hRm]; first | decide | (simp only [clS]; omega)) (by rw [hRm]; first | decide | (simp only [clS]; omega)) dX9_move_2 (fun r2 w2 hp2 => ?_)
    obtain ⟨rfl, hw2⟩ := hp2
    rw [hw2]
    rw [ePA]
    refine g_astore_n h dX9_move_5 (Nat.le_of_ble_eq_true rfl) rfl rfl ?_
    refine g_aload_n h dX9_move_6 rfl ?_
    refine g_ifnull (tgt := 17) h dX9_move_7 (by decide) (fun cnn => by cases cnn) (fun _ cnn => ?_)
    refine g_iload_n h dX9_move_10 rfl ?_
    refine g_callS h rfl [_] (c_X9_isLayer _ _ _ hzr) clX9_70 st_X9_isLayer rfl rfl (by rw [hRm]; first | decide | (simp only [clS]; omega)) (by rw [hRm]; first | decide | (simp only [clS]; omega)) (fun _ => Nat.le_of_ble_eq_true rfl) (by rw [hRm]; first | decide | (simp only [clS]; omega)) (by rw [hRm]; first | decide | (simp only [clS]; omega)) dX9_move_11 (fun r11 w11 hp11 => ?_)
    obtain ⟨rfl, hw11⟩ := hp11
    rw [hw11]
    have hbw11 := ite01 (0 ≤ z ∧ z < 10)
    refine g_if_ne (tgt := 23) h dX9_move_14 (by decide) (by first | assumption | exact ⟨by omega, by omega⟩) (fun c14 => ?_) (fun c14 => ?_)
    · refine g_aload_n h dX9_move_23 rfl ?_
      refine g_aload_n h dX9_move_24 rfl ?_
      refine g_getI h flX9_188 rfl (by first | assumption | exact v0 | exact vL | exact vq | exact k2 | exact m0 | exact mL | exact s0) dX9_move_25 ?_
      rw [hL]
      refine g_callV h rfl (ci := 9) [_] (by first | assumption | exact v0 | exact vL | exact vq | exact k2 | exact m0 | exact mL | exact s0) (c_X9_lakeAt _ _ _ hX ⟨by omega, by omega⟩) clX9_66 (by decide) rfl in_X9_lakeAt se_X9_lakeAt rfl rfl (by rw [hRm]; first | decide | (simp only [clS]; omega)) (by rw [hRm]; first | decide | (simp only [clS]; omega)) (fun _ => Nat.le_of_ble_eq_true rfl) (by rw [hRm]; first | decide | (simp only [clS]; omega)) (by rw [hRm]; first | decide | (simp only [clS]; omega)) dX9_move_28 (fun r28 w28 hp28 => ?_)
      obtain ⟨rfl, hw28⟩ := hp28
      rw [hw28]
      rw [hla]
      refine g_astore h dX9_move_31 (Nat.le_of_ble_eq_true rfl) rfl rfl ?_
      refine g_aload h dX9_move_33 rfl ?_
      refine g_ifnonnull (tgt := 44) h dX9_move_35 (by decide) (fun _ cnn => ?_) (fun cnn => by cases cnn)
      refine g_aload_n h dX9_move_44 rfl ?_
      refine g_getI h flX9_191 rfl (by first | assumption | exact v0 | exact vL | exact vq | exact k2 | exact m0 | exact mL | exact s0) dX9_move_45 ?_
      refine g_iload_n h dX9_move_48 rfl ?_
      refine g_icmp_ne (tgt := 58) h dX9_move_49 (by decide) (by first | assumption | exact ⟨by omega, by omega⟩) (by first | assumption | exact ⟨by omega, by omega⟩) (fun c49 => ?_) (fun c49 => ?_)
      · refine g_aload_n h dX9_move_58 rfl ?_
        refine g_aload_n h dX9_move_59 rfl ?_
        refine g_getI h flX9_188 rfl (by first | assumption | exact v0 | exact vL | exact vq | exact k2 | exact m0 | exact mL | exact s0) dX9_move_60 ?_
        rw [hL]
        refine g_aload h dX9_move_63 rfl ?_
        refine g_callV h rfl (ci := 9) [_, _] (by first | assumption | exact v0 | exact vL | exact vq | exact k2 | exact m0 | exact mL | exact s0) (c_X9_crewMayGo _ _ n q S rn sn L nr rp rc cl hW hL2 hB hH hcr) clX9_204 (by decide) rfl in_X9_crewMayGo se_X9_crewMayGo rfl rfl (by rw [hRm]; first | decide | (simp only [clS]; omega)) (by rw [hRm]; first | decide | (simp only [clS]; omega)) (fun _ => Nat.le_of_ble_eq_true rfl) (by rw [hRm]; first | decide | (simp only [clS]; omega)) (by rw [hRm]; first | decide | (simp only [clS]; omega)) dX9_move_65 (fun r65 w65 hp65 => ?_)
        obtain ⟨S', b, rfl, hCG⟩ := hp65
        have hb9 := b01_01 b
        have hFv := hCG.1
        have hXv := hFv.1
        have hWv := WI_fs hW hFv
        have v0 : w65.1 0 = (109, 0) := hXv.1 0 (by decide)
        have hLKv := XS_LK hXv L (by omega)
        have vL := hLKv.2.1
        have evp : w65.2.1 (50 + p) = w.2.1 (50 + p) := hFv.2.2.2.1 (50 + p) ⟨by omega, by omega, by omega, by omega, by omega⟩ (by omega) (by omega)
        have vq : w65.1 (50 + p) = (103, 0) := by rw [hFv.2.2.2.2.1 (50 + p) (by omega)]; exact k2
        have hLv : w65.2.1 (50 + p) 0 = (L : Int) := by rw [evp]; exact hL
        refine g_if_ne (tgt := 78) h dX9_move_68 (by decide) (by first | assumption | exact ⟨by omega, by omega⟩) (fun c68 => ?_) (fun c68 => ?_)
        · refine g_aload_n h dX9_move_78 rfl ?_
          refine g_aload_n h dX9_move_79 rfl ?_
          refine g_getI h flX9_188 rfl (by first | assumption | exact v0 | exact vL | exact vq | exact k2 | exact m0 | exact mL | exact s0) dX9_move_80 ?_
          rw [hLv]
          refine g_putI h flX9_62 rfl rfl (by first | assumption | exact v0 | exact vL | exact vq | exact k2 | exact m0 | exact mL | exact s0) dX9_move_83 ?_
          refine g_aload_n h dX9_move_86 rfl ?_
          refine g_iload_n h dX9_move_87 rfl ?_
          refine g_callV h rfl (ci := 3) [_] (by first | assumption | exact v0 | exact vL | exact vq | exact k2 | exact m0 | exact mL | exact s0) (c_X3_moveTo _ _ (50 + p) 0 z vq) clX9_208 (by decide) rfl in_X3_moveTo se_X3_moveTo rfl rfl (by rw [hRm]; first | decide | (simp only [clS]; omega)) (by rw [hRm]; first | decide | (simp only [clS]; omega)) (fun _ => Nat.le_of_ble_eq_true rfl) (by rw [hRm]; first | decide | (simp only [clS]; omega)) (by rw [hRm]; first | decide | (simp only [clS]; omega)) dX9_move_88 (fun r88 w88 hp88 => ?_)
          obtain ⟨rfl, hw88⟩ := hp88
          rw [hw88]
          change GG Γ _ _ [] (mv1 w65 p L z) _ _
          have m0 : (mv1 w65 p L z).1 0 = (109, 0) := v0
          have mL : (mv1 w65 p L z).1 (2 + L) = (102, 0) := vL
          have hXm : XS (mv1 w65 p L z) := XS_of rfl rfl hXv
          have hRm9 : RB ((mv1 w65 p L z).2.1 (5 + L)) ((mv1 w65 p L z).2.1 (8 + L)) ((mv1 w65 p L z).2.1 (11 + L)) := by
            unfold mv1
            rw [sR_ne _ _ (by omega), sR_ne _ _ (by omega), sR_ne _ _ (by omega), upI_o _ _ _ (by omega), upI_o _ _ _ (by omega), upI_o _ _ _ (by omega)]
            exact LN_RB (hWv.2.2.1 L hL2).1
          refine g_aload h dX9_move_91 rfl ?_
          refine g_iload_n h dX9_move_93 rfl ?_
          refine g_if_ne (tgt := 101) h dX9_move_94 (by decide) (by first | assumption | exact ⟨by omega, by omega⟩) (fun c94 => ?_) (fun c94 => ?_)
          · refine g_iload_n h dX9_move_101 rfl ?_
            have hmi : (mvI z : Int) = z := by unfold mvI; split <;> omega
            refine g_eq rfl (st' := [ai (mvI z : Int), ar (2 + L)]) (by rw [hmi]) rfl ?_
            refine g_callV h rfl (ci := 2) [_] (by first | assumption | exact v0 | exact vL | exact vq | exact k2 | exact m0 | exact mL | exact s0) (c_X2_mixPair _ _ L (mvI z) (XS_LK hXm L (by omega)) hRm9 (by unfold mvI; split <;> omega) (by unfold mvI; split <;> omega)) clX9_211 (by decide) rfl in_X2_mixPair se_X2_mixPair rfl rfl (by rw [hRm]; first | decide | (simp only [clS]; omega)) (by rw [hRm]; first | decide | (simp only [clS]; omega)) (fun _ => Nat.le_of_ble_eq_true rfl) (by rw [hRm]; first | decide | (simp only [clS]; omega)) (by rw [hRm]; first | decide | (simp only [clS]; omega)) dX9_move_102 (fun r102 w102 hp102 => ?_)
            obtain ⟨rfl, hw102⟩ := hp102
            rw [hw102]
            refine g_aload_n h dX9_move_105 rfl ?_
            refine g_callV h rfl (ci := 9) [] (by first | assumption | exact v0 | exact vL | exact vq | exact k2 | exact m0 | exact mL | exact s0) (c_X9_granted _ _ (XS_of rfl rfl hXm)) clX9_86 (by decide) rfl in_X9_granted se_X9_granted rfl rfl (by rw [hRm]; first | decide | (simp only [clS]; omega)) (by rw [hRm]; first | decide | (simp only [clS]; omega)) (fun _ => Nat.le_of_ble_eq_true rfl) (by rw [hRm]; first | decide | (simp only [clS]; omega)) (by rw [hRm]; first | decide | (simp only [clS]; omega)) dX9_move_106 (fun r106 w106 hp106 => ?_)
            obtain ⟨rfl, hw106⟩ := hp106
            rw [hw106]
            refine g_zret h hQ (by first | decide | omega | (simp only [clS]; omega)) (by first | decide | omega | (simp only [clS]; omega)) (by omega) ?_ dX9_move_109
            have eb : b = true := b01_nz (by first | assumption | exact v0 | exact vL | exact vq | exact k2 | exact m0 | exact mL | exact s0)
            exact ⟨fun q => absurd (by omega) q, fun _ q => absurd q (by first | assumption | exact v0 | exact vL | exact vq | exact k2 | exact m0 | exact mL | exact s0), fun _ _ => ⟨w65, S', b, hCG, fun q => absurd q (by rw [eb]; decide), fun _ => ⟨rfl, rfl⟩⟩⟩
          · refine g_iconst h dX9_move_97 ?_
            refine g_goto (tgt := 102) h dX9_move_98 (by decide) ?_
            have hmi : (mvI z : Int) = 1 := by unfold mvI; split <;> omega
            refine g_eq rfl (st' := [ai (mvI z : Int), ar (2 + L)]) (by rw [hmi]) rfl ?_
            refine g_callV h rfl (ci := 2) [_] (by first | assumption | exact v0 | exact vL | exact vq | exact k2 | exact m0 | exact mL | exact s0) (c_X2_mixPair _ _ L (mvI z) (XS_LK hXm L (by omega)) hRm9 (by unfold mvI; split <;> omega) (by unfold mvI; split <;> omega)) clX9_211 (by decide) rfl in_X2_mixPair se_X2_mixPair rfl rfl (by rw [hRm]; first | decide | (simp only [clS]; omega)) (by rw [hRm]; first | decide | (simp only [clS]; omega)) (fun _ => Nat.le_of_ble_eq_true rfl) (by rw [hRm]; first | decide | (simp only [clS]; omega)) (by rw [hRm]; first | decide | (simp only [clS]; omega)) dX9_move_102 (fun r102 w102 hp102 => ?_)
            obtain ⟨rfl, hw102⟩ := hp102
            rw [hw102]
            refine g_aload_n h dX9_move_105 rfl ?_
            refine g_callV h rfl (ci := 9) [] (by first | assumption | exact v0 | exact vL | exact vq | exact k2 | exact m0 | exact mL | exact s0) (c_X9_granted _ _ (XS_of rfl rfl hXm)) clX9_86 (by decide) rfl in_X9_granted se_X9_granted rfl rfl (by rw [hRm]; first | decide | (simp only [clS]; omega)) (by rw [hRm]; first | decide | (simp only [clS]; omega)) (fun _ => Nat.le_of_ble_eq_true rfl) (by rw [hRm]; first | decide | (simp only [clS]; omega)) (by rw [hRm]; first | decide | (simp only [clS]; omega)) dX9_move_106 (fun r106 w106 hp106 => ?_)
            obtain ⟨rfl, hw106⟩ := hp106
            rw [hw106]
            refine g_zret h hQ (by first | decide | omega | (simp only [clS]; omega)) (by first | decide | omega | (simp only [clS]; omega)) (by omega) ?_ dX9_move_109
            have eb : b = true := b01_nz (by first | assumption | exact v0 | exact vL | exact vq | exact k2 | exact m0 | exact mL | exact s0)
            exact ⟨fun q => absurd (by omega) q, fun _ q => absurd q (by first | assumption | exact v0 | exact vL | exact vq | exact k2 | exact m0 | exact mL | exact s0), fun _ _ => ⟨w65, S', b, hCG, fun q => absurd q (by rw [eb]; decide), fun _ => ⟨rfl, rfl⟩⟩⟩
        · refine g_aload_n h dX9_move_71 rfl ?_
          refine g_bipush h dX9_move_72 rfl ?_
          refine g_callV h rfl (ci := 9) [_] (by first | assumption | exact v0 | exact vL | exact vq | exact k2 | exact m0 | exact mL | exact s0) (c_X9_denied _ _ _ hXv) clX9_74 (by decide) rfl in_X9_denied se_X9_denied rfl rfl (by rw [hRm]; first | decide | (simp only [clS]; omega)) (by rw [hRm]; first | decide | (simp only [clS]; omega)) (fun _ => Nat.le_of_ble_eq_true rfl) (by rw [hRm]; first | decide | (simp only [clS]; omega)) (by rw [hRm]; first | decide | (simp only [clS]; omega)) dX9_move_74 (fun r74 w74 hp74 => ?_)
          obtain ⟨rfl, hw74⟩ := hp74
          rw [hw74]
          refine g_zret h hQ (by first | decide | omega | (simp only [clS]; omega)) (by first | decide | omega | (simp only [clS]; omega)) (by omega) ?_ dX9_move_77
          have eb : b = false := Bool.eq_false_iff.mpr (b01_ze (by first | assumption | exact v0 | exact vL | exact vq | exact k2 | exact m0 | exact mL | exact s0))
          exact ⟨fun q => absurd (by omega) q, fun _ q => absurd q (by first | assumption | exact v0 | exact vL | exact vq | exact k2 | exact m0 | exact mL | exact s0), fun _ _ => ⟨w65, S', b, hCG, fun _ => ⟨rfl, rfl⟩, fun q => absurd q (by rw [eb]; decide)⟩⟩
      · refine g_aload_n h dX9_move_52 rfl ?_
        refine g_iconst h dX9_move_53 ?_
        refine g_callV h rfl (ci := 9) [_] (by first | assumption | exact v0 | exact vL | exact vq | exact k2 | exact m0 | exact mL | exact s0) (c_X9_denied _ _ _ hX) clX9_74 (by decide) rfl in_X9_denied se_X9_denied rfl rfl (by rw [hRm]; first | decide | (simp only [clS]; omega)) (by rw [hRm]; first | decide | (simp only [clS]; omega)) (fun _ => Nat.le_of_ble_eq_true rfl) (by rw [hRm]; first | decide | (simp only [clS]; omega)) (by rw [hRm]; first | decide | (simp only [clS]; omega)) dX9_move_54 (fun r54 w54 hp54 => ?_)
        obtain ⟨rfl, hw54⟩ := hp54
        rw [hw54]
        refine g_zret h hQ (by first | decide | omega | (simp only [clS]; omega)) (by first | decide | omega | (simp only [clS]; omega)) (by omega) ?_ dX9_move_57
        exact ⟨fun q => absurd (by omega) q, fun _ _ => ⟨rfl, rfl⟩, fun _ q => absurd (by first | assumption | exact v0 | exact vL | exact vq | exact k2 | exact m0 | exact mL | exact s0) q⟩
    · refine g_aload_n h dX9_move_17 rfl ?_
      refine g_iconst h dX9_move_18 ?_
      refine g_callV h rfl (ci := 9) [_] (by first | assumption | exact v0 | exact vL | exact vq | exact k2 | exact m0 | exact mL | exact s0) (c_X9_denied _ _ _ hX) clX9_74 (by decide) rfl in_X9_denied se_X9_denied rfl rfl (by rw [hRm]; first | decide | (simp only [clS]; omega)) (by rw [hRm]; first | decide | (simp only [clS]; omega)) (fun _ => Nat.le_of_ble_eq_true rfl) (by rw [hRm]; first | decide | (simp only [clS]; omega)) (by rw [hRm]; first | decide | (simp only [clS]; omega)) dX9_move_19 (fun r19 w19 hp19 => ?_)
      obtain ⟨rfl, hw19⟩ := hp19
      rw [hw19]
      refine g_zret h hQ (by first | decide | omega | (simp only [clS]; omega)) (by first | decide | omega | (simp only [clS]; omega)) (by omega) ?_ dX9_move_22
      exact ⟨fun _ => ⟨rfl, rfl⟩, fun q => absurd q (by omega), fun q => absurd q (by omega)⟩
  · have ePA : piA a np = none := if_neg hap
    refine g_aload_n h dX9_move_0 rfl ?_
    refine g_iload_n h dX9_move_1 rfl ?_
    refine g_callV h rfl (ci := 9) [_] (by assumption) (c_X9_pipeAt _ _ np _ hX hI har) clX9_184 (by decide) rfl in_X9_pipeAt se_X9_pipeAt rfl rfl (by rw [hRm]; first | decide | (simp only [clS]; omega)) (by rw [hRm]; first | decide | (simp only [clS]; omega)) (fun _ => Nat.le_of_ble_eq_true rfl) (by rw [hRm]; first | decide | (simp only [clS]; omega)) (by rw [hRm]; first | decide | (simp only [clS]; omega)) dX9_move_2 (fun r2 w2 hp2 => ?_)
    obtain ⟨rfl, hw2⟩ := hp2
    rw [hw2]
    rw [ePA]
    refine g_astore_n h dX9_move_5 (Nat.le_of_ble_eq_true rfl) rfl rfl ?_
    refine g_aload_n h dX9_move_6 rfl ?_
    refine g_ifnull (tgt := 17) h dX9_move_7 (by decide) (fun cnn => ?_) (fun _ cnn => by cases cnn)
    refine g_aload_n h dX9_move_17 rfl ?_
    refine g_iconst h dX9_move_18 ?_
    refine g_callV h rfl (ci := 9) [_] (by assumption) (c_X9_denied _ _ _ hX) clX9_74 (by decide) rfl in_X9_denied se_X9_denied rfl rfl (by rw [hRm]; first | decide | (simp only [clS]; omega)) (by rw [hRm]; first | decide | (simp only [clS]; omega)) (fun _ => Nat.le_of_ble_eq_true rfl) (by rw [hRm]; first | decide | (simp only [clS]; omega)) (by rw [hRm]; first | decide | (simp only [clS]; omega)) dX9_move_19 (fun r19 w19 hp19 => ?_)
    obtain ⟨rfl, hw19⟩ := hp19
    rw [hw19]
    refine g_zret h hQ (by first | decide | omega | (simp only [clS]; omega)) (by first | decide | omega | (simp only [clS]; omega)) (by omega) ?_ dX9_move_22
    exact ⟨fun _ => ⟨rfl, rfl⟩, fun q => absurd q (by omega), fun q => absurd q (by omega)⟩
set_option maxRecDepth 100000 in
set_option maxHeartbeats 4000000 in
theorem c_X9_start (l : Launch) (w : AW) (n : Nat → Nat) (q : Nat → Nat → Nat) (S rn sn : Nat) (nr : Nat) (rp rc : Nat → Nat) (cl : Nat → List Int) (np : Nat) (a : Int) (hW : WI w n q S rn sn) (hB : RBK w nr rp rc cl) (hH : HB w) (hcr : -2 ≤ w.2.1 0 14 ∧ w.2.1 0 14 ≤ 2) (hI : PI w np) (har : R32 a) : HT l yX9_start cX9_start 4 (some .boolean) 8 6 42 w [ar 0, ai a] (fun r w' => (¬ (0 ≤ a ∧ a < (np : Int)) → r = some (ai 0) ∧ w' = upI w 0 16 1) ∧ (0 ≤ a ∧ a < (np : Int) → w.2.1 (50 + a.toNat) 4 = 1 → r = some (ai 0) ∧ w' = upI w 0 16 5) ∧ (0 ≤ a ∧ a < (np : Int) → ¬ w.2.1 (50 + a.toNat) 4 = 1 → ∃ v S' b, CGo w v (w.2.1 (50 + a.toNat) 0).toNat n q S S' rn sn nr rp cl b ∧ (b = false → r = some (ai 0) ∧ w' = upI v 0 16 6) ∧ (b = true → r = some (ai 1) ∧ w' = upI (stW v a.toNat (w.2.1 (50 + a.toNat) 0).toNat) 0 16 0))) := by
  refine HT.of (by decide) (by intro v hv; simp only [List.mem_cons, List.not_mem_nil, or_false] at hv; rcases hv with rfl | rfl <;> rfl) (Nat.le_of_ble_eq_true rfl) ?_
  intro Γ h hQ hRm hnm hl hw0
  obtain ⟨hX, hS, hLk, hSI, t0, t1⟩ := id hW
  obtain ⟨j1, j2, j3, j4⟩ := id hI
  have s0 : w.1 0 = (109, 0) := hX.1 0 (by decide)
  have hnz : ∀ i, i < 2 → n i ≤ 3 := fun i hi => (hLk i hi).2.1.1
  by_cases hap : 0 ≤ a ∧ a < (np : Int)
  · obtain ⟨p, rfl⟩ : ∃ m : Nat, a = (m : Int) := ⟨a.toNat, by omega⟩
    simp only [Int.toNat_natCast] at *
    obtain ⟨k1, k2, k3, k4, k5, k6, k7⟩ := j3 p (by omega)
    obtain ⟨L, hL⟩ : ∃ L : Nat, w.2.1 (50 + p) 0 = (L : Int) := ⟨(w.2.1 (50 + p) 0).toNat, by omega⟩
    have hL2 : L < 2 := by omega
    rw [hL, Int.toNat_natCast] at hQ
    have ePA : piA (p : Int) np = some (50 + p) := if_pos hap
    have hla : lkA (L : Int) = some (2 + L) := if_pos ⟨by omega, by omega⟩
    have hn3 := hnz L hL2
    refine g_aload_n h dX9_start_0 rfl ?_
    refine g_iload_n h dX9_start_1 rfl ?_
    refine g_callV h rfl (ci := 9) [_] (by first | assumption | exact v0 | exact vL | exact vq | exact k2 | exact s0) (c_X9_pipeAt _ _ np _ hX hI har) clX9_184 (by decide) rfl in_X9_pipeAt se_X9_pipeAt rfl rfl (by rw [hRm]; first | decide | (simp only [clS]; omega)) (by rw [hRm]; first | decide | (simp only [clS]; omega)) (fun _ => Nat.le_of_ble_eq_true rfl) (by rw [hRm]; first | decide | (simp only [clS]; omega)) (by rw [hRm]; first | decide | (simp only [clS]; omega)) dX9_start_2 (fun r2 w2 hp2 => ?_)
    obtain ⟨rfl, hw2⟩ := hp2
    rw [hw2]
    rw [ePA]
    refine g_astore_n h dX9_start_5 (Nat.le_of_ble_eq_true rfl) rfl rfl ?_
    refine g_aload_n h dX9_start_6 rfl ?_
    refine g_ifnonnull (tgt := 16) h dX9_start_7 (by decide) (fun _ cnn => ?_) (fun cnn => by cases cnn)
    refine g_aload_n h dX9_start_16 rfl ?_
    refine g_aload_n h dX9_start_17 rfl ?_
    refine g_getI h flX9_188 rfl (by first | assumption | exact v0 | exact vL | exact vq | exact k2 | exact s0) dX9_start_18 ?_
    rw [hL]
    refine g_callV h rfl (ci := 9) [_] (by first | assumption | exact v0 | exact vL | exact vq | exact k2 | exact s0) (c_X9_lakeAt _ _ _ hX ⟨by omega, by omega⟩) clX9_66 (by decide) rfl in_X9_lakeAt se_X9_lakeAt rfl rfl (by rw [hRm]; first | decide | (simp only [clS]; omega)) (by rw [hRm]; first | decide | (simp only [clS]; omega)) (fun _ => Nat.le_of_ble_eq_true rfl) (by rw [hRm]; first | decide | (simp only [clS]; omega)) (by rw [hRm]; first | decide | (simp only [clS]; omega)) dX9_start_21 (fun r21 w21 hp21 => ?_)
    obtain ⟨rfl, hw21⟩ := hp21
    rw [hw21]
    rw [hla]
    refine g_astore_n h dX9_start_24 (Nat.le_of_ble_eq_true rfl) rfl rfl ?_
    refine g_aload_n h dX9_start_25 rfl ?_
    refine g_ifnonnull (tgt := 35) h dX9_start_26 (by decide) (fun _ cnn => ?_) (fun cnn => by cases cnn)
    refine g_aload_n h dX9_start_35 rfl ?_
    refine g_getI h flX9_194 rfl (by first | assumption | exact v0 | exact vL | exact vq | exact k2 | exact s0) dX9_start_36 ?_
    refine g_if_eq (tgt := 48) h dX9_start_39 (by decide) (by first | assumption | exact ⟨by omega, by omega⟩) (fun c39 => ?_) (fun c39 => ?_)
    · refine g_aload_n h dX9_start_48 rfl ?_
      refine g_aload_n h dX9_start_49 rfl ?_
      refine g_getI h flX9_188 rfl (by first | assumption | exact v0 | exact vL | exact vq | exact k2 | exact s0) dX9_start_50 ?_
      rw [hL]
      refine g_aload_n h dX9_start_53 rfl ?_
      refine g_callV h rfl (ci := 9) [_, _] (by first | assumption | exact v0 | exact vL | exact vq | exact k2 | exact s0) (c_X9_crewMayGo _ _ n q S rn sn L nr rp rc cl hW hL2 hB hH hcr) clX9_204 (by decide) rfl in_X9_crewMayGo se_X9_crewMayGo rfl rfl (by rw [hRm]; first | decide | (simp only [clS]; omega)) (by rw [hRm]; first | decide | (simp only [clS]; omega)) (fun _ => Nat.le_of_ble_eq_true rfl) (by rw [hRm]; first | decide | (simp only [clS]; omega)) (by rw [hRm]; first | decide | (simp only [clS]; omega)) dX9_start_54 (fun r54 w54 hp54 => ?_)
      obtain ⟨S', b, rfl, hCG⟩ := hp54
      have hb9 := b01_01 b
      have hFv := hCG.1
      have hXv := hFv.1
      have hWv := WI_fs hW hFv
      have v0 : w54.1 0 = (109, 0) := hXv.1 0 (by decide)
      have hLKv := XS_LK hXv L (by omega)
      have vL := hLKv.2.1
      have evp : w54.2.1 (50 + p) = w.2.1 (50 + p) := hFv.2.2.2.1 (50 + p) ⟨by omega, by omega, by omega, by omega, by omega⟩ (by omega) (by omega)
      have vq : w54.1 (50 + p) = (103, 0) := by rw [hFv.2.2.2.2.1 (50 + p) (by omega)]; exact k2
      have hLv : w54.2.1 (50 + p) 0 = (L : Int) := by rw [evp]; exact hL
      refine g_if_ne (tgt := 67) h dX9_start_57 (by decide) (by first | assumption | exact ⟨by omega, by omega⟩) (fun c57 => ?_) (fun c57 => ?_)
      · refine g_aload_n h dX9_start_67 rfl ?_
        refine g_aload_n h dX9_start_68 rfl ?_
        refine g_getI h flX9_188 rfl (by first | assumption | exact v0 | exact vL | exact vq | exact k2 | exact s0) dX9_start_69 ?_
        rw [hLv]
        refine g_putI h flX9_62 rfl rfl (by first | assumption | exact v0 | exact vL | exact vq | exact k2 | exact s0) dX9_start_72 ?_
        refine g_aload_n h dX9_start_75 rfl ?_
        refine g_iconst h dX9_start_76 ?_
        refine g_putZ h flX9_194 rfl rfl (by first | assumption | exact v0 | exact vL | exact vq | exact k2 | exact s0) (by omega) dX9_start_77 ?_
        refine g_aload_n h dX9_start_80 rfl ?_
        refine g_callV h rfl (ci := 9) [] (by first | assumption | exact v0 | exact vL | exact vq | exact k2 | exact s0) (c_X9_granted _ _ (XS_of rfl rfl hXv)) clX9_86 (by decide) rfl in_X9_granted se_X9_granted rfl rfl (by rw [hRm]; first | decide | (simp only [clS]; omega)) (by rw [hRm]; first | decide | (simp only [clS]; omega)) (fun _ => Nat.le_of_ble_eq_true rfl) (by rw [hRm]; first | decide | (simp only [clS]; omega)) (by rw [hRm]; first | decide | (simp only [clS]; omega)) dX9_start_81 (fun r81 w81 hp81 => ?_)
        obtain ⟨rfl, hw81⟩ := hp81
        rw [hw81]
        refine g_zret h hQ (by first | decide | omega | (simp only [clS]; omega)) (by first | decide | omega | (simp only [clS]; omega)) (by omega) ?_ dX9_start_84
        have eb : b = true := b01_nz (by first | assumption | exact v0 | exact vL | exact vq | exact k2 | exact s0)
        exact ⟨fun q => absurd (by omega) q, fun _ q => absurd q (by omega), fun _ _ => ⟨w54, S', b, hCG, fun q => absurd q (by rw [eb]; decide), fun _ => ⟨rfl, rfl⟩⟩⟩
      · refine g_aload_n h dX9_start_60 rfl ?_
        refine g_bipush h dX9_start_61 rfl ?_
        refine g_callV h rfl (ci := 9) [_] (by first | assumption | exact v0 | exact vL | exact vq | exact k2 | exact s0) (c_X9_denied _ _ _ hXv) clX9_74 (by decide) rfl in_X9_denied se_X9_denied rfl rfl (by rw [hRm]; first | decide | (simp only [clS]; omega)) (by rw [hRm]; first | decide | (simp only [clS]; omega)) (fun _ => Nat.le_of_ble_eq_true rfl) (by rw [hRm]; first | decide | (simp only [clS]; omega)) (by rw [hRm]; first | decide | (simp only [clS]; omega)) dX9_start_63 (fun r63 w63 hp63 => ?_)
        obtain ⟨rfl, hw63⟩ := hp63
        rw [hw63]
        refine g_zret h hQ (by first | decide | omega | (simp only [clS]; omega)) (by first | decide | omega | (simp only [clS]; omega)) (by omega) ?_ dX9_start_66
        have eb : b = false := Bool.eq_false_iff.mpr (b01_ze (by first | assumption | exact v0 | exact vL | exact vq | exact k2 | exact s0))
        exact ⟨fun q => absurd (by omega) q, fun _ q => absurd q (by omega), fun _ _ => ⟨w54, S', b, hCG, fun _ => ⟨rfl, rfl⟩, fun q => absurd q (by rw [eb]; decide)⟩⟩
    · refine g_aload_n h dX9_start_42 rfl ?_
      refine g_iconst h dX9_start_43 ?_
      refine g_callV h rfl (ci := 9) [_] (by first | assumption | exact v0 | exact vL | exact vq | exact k2 | exact s0) (c_X9_denied _ _ _ hX) clX9_74 (by decide) rfl in_X9_denied se_X9_denied rfl rfl (by rw [hRm]; first | decide | (simp only [clS]; omega)) (by rw [hRm]; first | decide | (simp only [clS]; omega)) (fun _ => Nat.le_of_ble_eq_true rfl) (by rw [hRm]; first | decide | (simp only [clS]; omega)) (by rw [hRm]; first | decide | (simp only [clS]; omega)) dX9_start_44 (fun r44 w44 hp44 => ?_)
      obtain ⟨rfl, hw44⟩ := hp44
      rw [hw44]
      refine g_zret h hQ (by first | decide | omega | (simp only [clS]; omega)) (by first | decide | omega | (simp only [clS]; omega)) (by omega) ?_ dX9_start_47
      exact ⟨fun q => absurd (by omega) q, fun _ _ => ⟨rfl, rfl⟩, fun _ q => absurd (by omega) q⟩
  · have ePA : piA a np = none := if_neg hap
    refine g_aload_n h dX9_start_0 rfl ?_
    refine g_iload_n h dX9_start_1 rfl ?_
    refine g_callV h rfl (ci := 9) [_] (by assumption) (c_X9_pipeAt _ _ np _ hX hI har) clX9_184 (by decide) rfl in_X9_pipeAt se_X9_pipeAt rfl rfl (by rw [hRm]; first | decide | (simp only [clS]; omega)) (by rw [hRm]; first | decide | (simp only [clS]; omega)) (fun _ => Nat.le_of_ble_eq_true rfl) (by rw [hRm]; first | decide | (simp only [clS]; omega)) (by rw [hRm]; first | decide | (simp only [clS]; omega)) dX9_start_2 (fun r2 w2 hp2 => ?_)
    obtain ⟨rfl, hw2⟩ := hp2
    rw [hw2]
    rw [ePA]
    refine g_astore_n h dX9_start_5 (Nat.le_of_ble_eq_true rfl) rfl rfl ?_
    refine g_aload_n h dX9_start_6 rfl ?_
    refine g_ifnonnull (tgt := 16) h dX9_start_7 (by decide) (fun _ cnn => by cases cnn) (fun cnn => ?_)
    refine g_aload_n h dX9_start_10 rfl ?_
    refine g_iconst h dX9_start_11 ?_
    refine g_callV h rfl (ci := 9) [_] (by assumption) (c_X9_denied _ _ _ hX) clX9_74 (by decide) rfl in_X9_denied se_X9_denied rfl rfl (by rw [hRm]; first | decide | (simp only [clS]; omega)) (by rw [hRm]; first | decide | (simp only [clS]; omega)) (fun _ => Nat.le_of_ble_eq_true rfl) (by rw [hRm]; first | decide | (simp only [clS]; omega)) (by rw [hRm]; first | decide | (simp only [clS]; omega)) dX9_start_12 (fun r12 w12 hp12 => ?_)
    obtain ⟨rfl, hw12⟩ := hp12
    rw [hw12]
    refine g_zret h hQ (by first | decide | omega | (simp only [clS]; omega)) (by first | decide | omega | (simp only [clS]; omega)) (by omega) ?_ dX9_start_15
    exact ⟨fun _ => ⟨rfl, rfl⟩, fun q => absurd q (by omega), fun q => absurd q (by omega)⟩
set_option maxRecDepth 100000 in
set_option maxHeartbeats 4000000 in
theorem c_X9_moved (l : Launch) (w : AW) (n : Nat → Nat) (q : Nat → Nat → Nat) (S rn sn : Nat) (nr : Nat) (rp rc : Nat → Nat) (cl : Nat → List Int) (nv : Nat) (a z : Int) (hW : WI w n q S rn sn) (hB : RBK w nr rp rc cl) (hH : HB w) (hhi : ∀ i, i < 400 → 0 ≤ w.2.1 37 i ∧ w.2.1 37 i ≤ 999) (hV : VI w nv) (hcl : ∀ v, v < nv → 0 ≤ w.2.1 (60 + v) 0 ∧ w.2.1 (60 + v) 0 < 400) (har : R32 a) (hz01 : z = 0 ∨ z = 1) : HT l yX9_moved cX9_moved 4 (some .boolean) 9 6 42 w [ar 0, ai a, ai z] (fun r w' => (¬ (0 ≤ a ∧ a < (nv : Int)) → r = some (ai 0) ∧ w' = upI w 0 16 1) ∧ (0 ≤ a ∧ a < (nv : Int) → w.2.1 (60 + a.toNat) 2 = z → r = some (ai 0) ∧ w' = upI w 0 16 5) ∧ (0 ≤ a ∧ a < (nv : Int) → ¬ w.2.1 (60 + a.toNat) 2 = z → z = 1 → r = some (ai 1) ∧ w' = upI (upI w (60 + a.toNat) 2 1) 0 16 0) ∧ (0 ≤ a ∧ a < (nv : Int) → ¬ w.2.1 (60 + a.toNat) 2 = z → z = 0 → ∃ v S' b, FMo w v n q S S' rn sn nr rp cl (w.2.1 37 (w.2.1 (60 + a.toNat) 0).toNat) b ∧ (b = false → r = some (ai 0) ∧ w' = upI v 0 16 6) ∧ (b = true → r = some (ai 1) ∧ w' = upI (upI v (60 + a.toNat) 2 0) 0 16 0))) := by
  refine HT.of (by decide) (by intro v hv; simp only [List.mem_cons, List.not_mem_nil, or_false] at hv; rcases hv with rfl | rfl | rfl <;> rfl) (Nat.le_of_ble_eq_true rfl) ?_
  intro Γ h hQ hRm hnm hl hw0
  obtain ⟨hX, hS, hLk, hSI, t0, t1⟩ := id hW
  obtain ⟨j1, j2, j3, j4⟩ := id hV
  have s0 : w.1 0 = (109, 0) := hX.1 0 (by decide)
  by_cases hap : 0 ≤ a ∧ a < (nv : Int)
  · obtain ⟨p, rfl⟩ : ∃ m : Nat, a = (m : Int) := ⟨a.toNat, by omega⟩
    simp only [Int.toNat_natCast] at *
    obtain ⟨k1, k2, k7⟩ := j3 p (by omega)
    obtain ⟨c1, c2⟩ := hcl p (by omega)
    obtain ⟨C, hC⟩ : ∃ C : Nat, w.2.1 (60 + p) 0 = (C : Int) := ⟨(w.2.1 (60 + p) 0).toNat, by omega⟩
    rw [hC, Int.toNat_natCast] at hQ
    have ePA : viA (p : Int) nv = some (60 + p) := if_pos hap
    refine g_aload_n h dX9_moved_0 rfl ?_
    refine g_iload_n h dX9_moved_1 rfl ?_
    refine g_callV h rfl (ci := 9) [_] (by first | assumption | exact v0 | exact vq | exact k2 | exact s0) (c_X9_villageAt _ _ nv _ hX hV har) clX9_329 (by decide) rfl in_X9_villageAt se_X9_villageAt rfl rfl (by rw [hRm]; first | decide | (simp only [clS]; omega)) (by rw [hRm]; first | decide | (simp only [clS]; omega)) (fun _ => Nat.le_of_ble_eq_true rfl) (by rw [hRm]; first | decide | (simp only [clS]; omega)) (by rw [hRm]; first | decide | (simp only [clS]; omega)) dX9_moved_2 (fun r2 w2 hp2 => ?_)
    obtain ⟨rfl, hw2⟩ := hp2
    rw [hw2]
    rw [ePA]
    refine g_astore_n h dX9_moved_5 (Nat.le_of_ble_eq_true rfl) rfl rfl ?_
    refine g_aload_n h dX9_moved_6 rfl ?_
    refine g_ifnonnull (tgt := 16) h dX9_moved_7 (by decide) (fun _ cnn => ?_) (fun cnn => by cases cnn)
    refine g_aload_n h dX9_moved_16 rfl ?_
    refine g_getI h flX9_337 rfl (by first | assumption | exact v0 | exact vq | exact k2 | exact s0) dX9_moved_17 ?_
    refine g_iload_n h dX9_moved_20 rfl ?_
    refine g_icmp_ne (tgt := 30) h dX9_moved_21 (by decide) (by first | assumption | exact ⟨by omega, by omega⟩) (by first | assumption | exact ⟨by omega, by omega⟩) (fun c21 => ?_) (fun c21 => ?_)
    · refine g_iload_n h dX9_moved_30 rfl ?_
      refine g_if_ne (tgt := 52) h dX9_moved_31 (by decide) (by first | assumption | exact ⟨by omega, by omega⟩) (fun c31 => ?_) (fun c31 => ?_)
      · refine g_aload_n h dX9_moved_52 rfl ?_
        refine g_iload_n h dX9_moved_53 rfl ?_
        refine g_putZ h flX9_337 rfl rfl (by first | assumption | exact v0 | exact vq | exact k2 | exact s0) (by omega) dX9_moved_54 ?_
        refine g_aload_n h dX9_moved_57 rfl ?_
        refine g_callV h rfl (ci := 9) [] (by first | assumption | exact v0 | exact vq | exact k2 | exact s0) (c_X9_granted _ _ (XS_of rfl rfl (by first | assumption | exact v0 | exact vq | exact k2 | exact s0))) clX9_86 (by decide) rfl in_X9_granted se_X9_granted rfl rfl (by rw [hRm]; first | decide | (simp only [clS]; omega)) (by rw [hRm]; first | decide | (simp only [clS]; omega)) (fun _ => Nat.le_of_ble_eq_true rfl) (by rw [hRm]; first | decide | (simp only [clS]; omega)) (by rw [hRm]; first | decide | (simp only [clS]; omega)) dX9_moved_58 (fun r58 w58 hp58 => ?_)
        obtain ⟨rfl, hw58⟩ := hp58
        rw [hw58]
        refine g_zret h hQ (by first | decide | omega | (simp only [clS]; omega)) (by first | decide | omega | (simp only [clS]; omega)) (by omega) ?_ dX9_moved_61
        obtain rfl : z = 1 := by omega
        exact ⟨fun q => absurd (by omega) q, fun _ q => absurd q (by assumption), fun _ _ _ => ⟨rfl, rfl⟩, fun _ _ q => by omega⟩
      · refine g_aload_n h dX9_moved_34 rfl ?_
        refine g_aload_n h dX9_moved_35 rfl ?_
        refine g_getI h flX9_333 rfl (by first | assumption | exact v0 | exact vq | exact k2 | exact s0) dX9_moved_36 ?_
        rw [hC]
        refine g_callV h rfl (ci := 9) [_] (by first | assumption | exact v0 | exact vq | exact k2 | exact s0) (c_X9_folkMayLive _ _ n q S rn sn nr rp rc cl (C : Int) hW hB hH ⟨by omega, by omega⟩ hhi) clX9_283 (by decide) rfl in_X9_folkMayLive se_X9_folkMayLive rfl rfl (by rw [hRm]; first | decide | (simp only [clS]; omega)) (by rw [hRm]; first | decide | (simp only [clS]; omega)) (fun _ => Nat.le_of_ble_eq_true rfl) (by rw [hRm]; first | decide | (simp only [clS]; omega)) (by rw [hRm]; first | decide | (simp only [clS]; omega)) dX9_moved_39 (fun r39 w39 hp39 => ?_)
        obtain ⟨S', b, rfl, hFM⟩ := hp39.2 (by omega)
        rw [Int.toNat_natCast] at hFM
        have hb9 := b01_01 b
        have hXv := hFM.1.1
        have v0 : w39.1 0 = (109, 0) := hXv.1 0 (by decide)
        have vq : w39.1 (60 + p) = (108, 0) := by rw [hFM.1.2.2.2.2.1 (60 + p) (by omega)]; exact k2
        refine g_if_ne (tgt := 52) h dX9_moved_42 (by decide) (by first | assumption | exact ⟨by omega, by omega⟩) (fun c42 => ?_) (fun c42 => ?_)
        · refine g_aload_n h dX9_moved_52 rfl ?_
          refine g_iload_n h dX9_moved_53 rfl ?_
          refine g_putZ h flX9_337 rfl rfl (by first | assumption | exact v0 | exact vq | exact k2 | exact s0) (by omega) dX9_moved_54 ?_
          refine g_aload_n h dX9_moved_57 rfl ?_
          refine g_callV h rfl (ci := 9) [] (by first | assumption | exact v0 | exact vq | exact k2 | exact s0) (c_X9_granted _ _ (XS_of rfl rfl (by first | assumption | exact v0 | exact vq | exact k2 | exact s0))) clX9_86 (by decide) rfl in_X9_granted se_X9_granted rfl rfl (by rw [hRm]; first | decide | (simp only [clS]; omega)) (by rw [hRm]; first | decide | (simp only [clS]; omega)) (fun _ => Nat.le_of_ble_eq_true rfl) (by rw [hRm]; first | decide | (simp only [clS]; omega)) (by rw [hRm]; first | decide | (simp only [clS]; omega)) dX9_moved_58 (fun r58 w58 hp58 => ?_)
          obtain ⟨rfl, hw58⟩ := hp58
          rw [hw58]
          refine g_zret h hQ (by first | decide | omega | (simp only [clS]; omega)) (by first | decide | omega | (simp only [clS]; omega)) (by omega) ?_ dX9_moved_61
          have eb : b = true := b01_nz (by assumption)
          obtain rfl : z = 0 := by omega
          exact ⟨fun q => absurd (by omega) q, fun _ q => absurd q (by assumption), fun _ _ q => by omega, fun _ _ _ => ⟨w39, S', b, hFM, fun q => absurd q (by rw [eb]; decide), fun _ => ⟨rfl, rfl⟩⟩⟩
        · refine g_aload_n h dX9_moved_45 rfl ?_
          refine g_bipush h dX9_moved_46 rfl ?_
          refine g_callV h rfl (ci := 9) [_] (by first | assumption | exact v0 | exact vq | exact k2 | exact s0) (c_X9_denied _ _ _ hXv) clX9_74 (by decide) rfl in_X9_denied se_X9_denied rfl rfl (by rw [hRm]; first | decide | (simp only [clS]; omega)) (by rw [hRm]; first | decide | (simp only [clS]; omega)) (fun _ => Nat.le_of_ble_eq_true rfl) (by rw [hRm]; first | decide | (simp only [clS]; omega)) (by rw [hRm]; first | decide | (simp only [clS]; omega)) dX9_moved_48 (fun r48 w48 hp48 => ?_)
          obtain ⟨rfl, hw48⟩ := hp48
          rw [hw48]
          refine g_zret h hQ (by first | decide | omega | (simp only [clS]; omega)) (by first | decide | omega | (simp only [clS]; omega)) (by omega) ?_ dX9_moved_51
          have eb : b = false := Bool.eq_false_iff.mpr (b01_ze (by first | assumption | exact v0 | exact vq | exact k2 | exact s0))
          exact ⟨fun q => absurd (by omega) q, fun _ q => absurd q (by first | assumption | exact v0 | exact vq | exact k2 | exact s0), fun _ _ q => by omega, fun _ _ _ => ⟨w39, S', b, hFM, fun _ => ⟨rfl, rfl⟩, fun q => absurd q (by rw [eb]; decide)⟩⟩
    · refine g_aload_n h dX9_moved_24 rfl ?_
      refine g_iconst h dX9_moved_25 ?_
      refine g_callV h rfl (ci := 9) [_] (by first | assumption | exact v0 | exact vq | exact k2 | exact s0) (c_X9_denied _ _ _ hX) clX9_74 (by decide) rfl in_X9_denied se_X9_denied rfl rfl (by rw [hRm]; first | decide | (simp only [clS]; omega)) (by rw [hRm]; first | decide | (simp only [clS]; omega)) (fun _ => Nat.le_of_ble_eq_true rfl) (by rw [hRm]; first | decide | (simp only [clS]; omega)) (by rw [hRm]; first | decide | (simp only [clS]; omega)) dX9_moved_26 (fun r26 w26 hp26 => ?_)
      obtain ⟨rfl, hw26⟩ := hp26
      rw [hw26]
      refine g_zret h hQ (by first | decide | omega | (simp only [clS]; omega)) (by first | decide | omega | (simp only [clS]; omega)) (by omega) ?_ dX9_moved_29
      exact ⟨fun q => absurd (by omega) q, fun _ _ => ⟨rfl, rfl⟩, fun _ q => absurd (by first | assumption | exact v0 | exact vq | exact k2 | exact s0) q, fun _ q => absurd (by first | assumption | exact v0 | exact vq | exact k2 | exact s0) q⟩
  · have ePA : viA a nv = none := if_neg hap
    refine g_aload_n h dX9_moved_0 rfl ?_
    refine g_iload_n h dX9_moved_1 rfl ?_
    refine g_callV h rfl (ci := 9) [_] (by assumption) (c_X9_villageAt _ _ nv _ hX hV har) clX9_329 (by decide) rfl in_X9_villageAt se_X9_villageAt rfl rfl (by rw [hRm]; first | decide | (simp only [clS]; omega)) (by rw [hRm]; first | decide | (simp only [clS]; omega)) (fun _ => Nat.le_of_ble_eq_true rfl) (by rw [hRm]; first | decide | (simp only [clS]; omega)) (by rw [hRm]; first | decide | (simp only [clS]; omega)) dX9_moved_2 (fun r2 w2 hp2 => ?_)
    obtain ⟨rfl, hw2⟩ := hp2
    rw [hw2]
    rw [ePA]
    refine g_astore_n h dX9_moved_5 (Nat.le_of_ble_eq_true rfl) rfl rfl ?_
    refine g_aload_n h dX9_moved_6 rfl ?_
    refine g_ifnonnull (tgt := 16) h dX9_moved_7 (by decide) (fun _ cnn => by cases cnn) (fun cnn => ?_)
    refine g_aload_n h dX9_moved_10 rfl ?_
    refine g_iconst h dX9_moved_11 ?_
    refine g_callV h rfl (ci := 9) [_] (by assumption) (c_X9_denied _ _ _ hX) clX9_74 (by decide) rfl in_X9_denied se_X9_denied rfl rfl (by rw [hRm]; first | decide | (simp only [clS]; omega)) (by rw [hRm]; first | decide | (simp only [clS]; omega)) (fun _ => Nat.le_of_ble_eq_true rfl) (by rw [hRm]; first | decide | (simp only [clS]; omega)) (by rw [hRm]; first | decide | (simp only [clS]; omega)) dX9_moved_12 (fun r12 w12 hp12 => ?_)
    obtain ⟨rfl, hw12⟩ := hp12
    rw [hw12]
    refine g_zret h hQ (by first | decide | omega | (simp only [clS]; omega)) (by first | decide | omega | (simp only [clS]; omega)) (by omega) ?_ dX9_moved_15
    exact ⟨fun _ => ⟨rfl, rfl⟩, fun q => absurd q (by omega), fun q => absurd q (by omega), fun q => absurd q (by omega)⟩
