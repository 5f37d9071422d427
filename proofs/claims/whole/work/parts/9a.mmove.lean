/-! ===== M: pipes moved and started, villages moved, the tape, repeal ===== -/
/-- pipe p moved to layer i by the crew of lake L -/
def mp1 (u : AW) (p L : Nat) (i : Int) : AW := upI (upI (upI (upI u 400 6 (L : Int)) 430 p i) 435 p 0) 434 p (u.2.1 434 p + 1)
def mp2 (u : AW) (np p L : Nat) (i : Int) : AW := sH (tkW (mp1 u p L i) L np) (half3 (gH (tkW (mp1 u p L i) L np)) ((max 0 (i - 1)).toNat + 1))
def mpM (u : AW) (np p L : Nat) (i : Int) : AW := lyW (mp2 u np p L i) L 10
theorem th_mw {w : AW} {np rn sn nr : Nat} {q : Nat → Nat} {cl : Nat → List Int} (hR : MR w np rn sn) (hB : RMB w nr q cl) {L : Nat} (hL : L < 2) : mwM (th w) np rn sn nr q cl L = mwM w np rn sn nr q cl L := by
  unfold mwM wkM
  rw [th_nm hR hL, th_sa hB, th_sa hB]
  rfl
theorem mp1_ok {u : AW} {np p L : Nat} {i : Int} (h : MPI u np) (hi : 0 ≤ i ∧ i < 10) : MPI (mp1 u p L i) np := by
  refine ⟨h.1, h.2.1, fun j hj => ?_⟩
  obtain ⟨b1, b2, b3, b4, b5, b6, b7, b8, b9⟩ := h.2.2 j hj
  refine ⟨b1, b2, ?_, ?_, b5, b6, b7, b8, ?_⟩
  · show 0 ≤ uI (u.2.1 430) p i j
    by_cases e : j = p
    · rw [e, uI_at]; exact hi.1
    · rw [uI_ne _ _ e]; exact b3
  · show uI (u.2.1 430) p i j < 10
    by_cases e : j = p
    · rw [e, uI_at]; exact hi.2
    · rw [uI_ne _ _ e]; exact b4
  · show uI (u.2.1 435) p 0 j = 0 ∨ uI (u.2.1 435) p 0 j = 1
    by_cases e : j = p
    · rw [e, uI_at]; exact Or.inl rfl
    · rw [uI_ne _ _ e]; exact b9
set_option maxRecDepth 100000 in
set_option maxHeartbeats 4000000 in
theorem c_X12_move (l : Launch) (w : AW) (np rn sn nr : Nat) (q : Nat → Nat) (cl : Nat → List Int) (z i : Int) (hR : MR w np rn sn) (hB : RMB w nr q cl) (hz : R32 z) (hi : R32 i) (hc : R32 (w.2.1 400 6)) : HT l yX12_move cX12_move 4 (some .boolean) 11 0 0 w [ar 400, ai z, ai i] (fun r w' => (¬ ((0 ≤ z ∧ z < (np : Int)) ∧ 0 ≤ i ∧ i < 10) → r = some (ai 0) ∧ w' = tM (th w) 1) ∧ ((0 ≤ z ∧ z < (np : Int)) ∧ 0 ≤ i ∧ i < 10 → w.2.1 430 z.toNat = i → r = some (ai 0) ∧ w' = tM (th w) 5) ∧ ((0 ≤ z ∧ z < (np : Int)) ∧ 0 ≤ i ∧ i < 10 → w.2.1 430 z.toNat ≠ i → ∃ u, MP (th w) u ∧ (mwM w np rn sn nr q cl (w.2.1 429 z.toNat).toNat = false → r = some (ai 0) ∧ w' = tM u 6) ∧ (mwM w np rn sn nr q cl (w.2.1 429 z.toNat).toNat = true → r = some (ai 1) ∧ w' = tM (mpM u np z.toNat (w.2.1 429 z.toNat).toNat i) 0))) := by
  refine HT.of (by decide) (by intro v hv; simp only [List.mem_cons, List.not_mem_nil, or_false] at hv; rcases hv with rfl | rfl | rfl <;> rfl) (Nat.le_of_ble_eq_true rfl) ?_
  intro Γ h hQ hRm hnm hl hw0
  obtain ⟨hM, hG, hN, hP, hI, hd, hwi⟩ := id hR
  obtain ⟨hnp, hn6, hpp⟩ := id hP
  have e28 : (upI w 400 0 0).2.1 400 28 = (np : Int) := hnp
  have s400 : w.1 400 = (112, 0) := hM.1 400 (by decide) (by decide)
  have s430 : w.1 430 = (1, 6) := hM.1 430 (by decide) (by decide)
  have s429 : w.1 429 = (1, 6) := hM.1 429 (by decide) (by decide)
  have s435 : w.1 435 = (3, 6) := hM.1 435 (by decide) (by decide)
  have s434 : w.1 434 = (1, 6) := hM.1 434 (by decide) (by decide)
  have p30 : w.2.2 400 30 = some 430 := hM.2 (400, 30, 430) (by decide)
  have p29 : w.2.2 400 29 = some 429 := hM.2 (400, 29, 429) (by decide)
  have p35 : w.2.2 400 35 = some 435 := hM.2 (400, 35, 435) (by decide)
  have p34 : w.2.2 400 34 = some 434 := hM.2 (400, 34, 434) (by decide)
  by_cases hz0 : (0 ≤ z ∧ z < (np : Int)) ∧ 0 ≤ i ∧ i < 10
  · obtain ⟨p, rfl⟩ : ∃ p : Nat, z = (p : Int) := ⟨z.toNat, by omega⟩
    rw [Int.toNat_natCast] at hQ
    obtain ⟨b1, b2, b3, b4, b5, b6, b7, b8, b9⟩ := hpp p (by omega)
    have e430 : (upI w 400 0 0).2.1 430 p = w.2.1 430 p := rfl
    obtain ⟨L, hLp⟩ : ∃ L : Nat, w.2.1 429 p = (L : Int) := ⟨(w.2.1 429 p).toNat, by omega⟩
    have hLt : (w.2.1 429 p).toNat = L := by omega
    rw [hLt] at hQ
    have hL : L < 2 := by omega
    have h01 := b01_01 (mwM w np rn sn nr q cl L)
    have e429 : (upI w 400 0 0).2.1 429 p = (L : Int) := hLp
    refine g_aload_n h dX12_move_0 rfl ?_
    refine g_iconst h dX12_move_1 ?_
    refine g_putI h flX12_1 rfl rfl (by assumption) dX12_move_2 ?_
    refine g_aload_n h dX12_move_5 rfl ?_
    refine g_iload_n h dX12_move_6 rfl ?_
    refine g_callV h rfl (ci := 12) [_] (by assumption) (c_X12_isPipe _ _ _ (MS_of rfl rfl hM) hz (by rw [e28]; exact ⟨by omega, by omega⟩)) clX12_283 (by decide) rfl in_X12_isPipe se_X12_isPipe rfl rfl (by rw [hRm]; first | decide | (simp only [clS]; omega)) (by rw [hRm]; first | decide | (simp only [clS]; omega)) (fun _ => Nat.le_of_ble_eq_true rfl) (by rw [hRm]; first | decide | (simp only [clS]; omega)) (by rw [hRm]; first | decide | (simp only [clS]; omega)) dX12_move_7 (fun r7 w7 hp7 => ?_)
    obtain ⟨rfl, hw7⟩ := hp7
    rw [hw7]
    rw [e28]
    have hbw7 := ite01 (0 ≤ (p : Int) ∧ (p : Int) < (np : Int))
    refine g_if_eq (tgt := 21) h dX12_move_10 (by decide) (by first | assumption | exact ⟨by omega, by omega⟩) (fun c10 => ?_) (fun c10 => ?_)
    · exfalso; omega
    · refine g_iconst h dX12_move_13 ?_
      refine g_iload_n h dX12_move_14 rfl ?_
      refine g_callS h rfl [_, _] (c_X12_isLayer _ _ 0 i ⟨by decide, by decide⟩ hi) clX12_203 st_X12_isLayer rfl rfl (by rw [hRm]; first | decide | (simp only [clS]; omega)) (by rw [hRm]; first | decide | (simp only [clS]; omega)) (fun _ => Nat.le_of_ble_eq_true rfl) (by rw [hRm]; first | decide | (simp only [clS]; omega)) (by rw [hRm]; first | decide | (simp only [clS]; omega)) dX12_move_15 (fun r15 w15 hp15 => ?_)
      obtain ⟨rfl, hw15⟩ := hp15
      rw [hw15]
      have hbw15 := ite01 ((0 ≤ (0 : Int) ∧ (0 : Int) < 2) ∧ 0 ≤ i ∧ i < 10)
      refine g_if_ne (tgt := 27) h dX12_move_18 (by decide) (by first | assumption | exact ⟨by omega, by omega⟩) (fun c18 => ?_) (fun c18 => ?_)
      · refine g_aload_n h dX12_move_27 rfl ?_
        refine g_getQ h flX12_87 rfl (by assumption) (by assumption) dX12_move_28 ?_
        refine g_iload_n h dX12_move_31 rfl ?_
        refine g_iald h (p) (by assumption) (by first | omega | assumption) (by first | omega | assumption) (by first | decide | omega) dX12_move_32 ?_
        refine g_iload_n h dX12_move_33 rfl ?_
        refine g_icmp_ne (tgt := 43) h dX12_move_34 (by decide) (by first | assumption | exact ⟨by omega, by omega⟩) (by first | assumption | exact ⟨by omega, by omega⟩) (fun c34 => ?_) (fun c34 => ?_)
        · refine g_aload_n h dX12_move_43 rfl ?_
          refine g_getQ h flX12_84 rfl (by assumption) (by assumption) dX12_move_44 ?_
          refine g_iload_n h dX12_move_47 rfl ?_
          refine g_iald h (p) (by assumption) (by first | omega | assumption) (by first | omega | assumption) (by first | decide | omega) dX12_move_48 ?_
          rw [e429]
          refine g_istore_n h dX12_move_49 (Nat.le_of_ble_eq_true rfl) rfl rfl ?_
          refine g_aload_n h dX12_move_50 rfl ?_
          refine g_iload_n h dX12_move_51 rfl ?_
          refine g_callV h rfl (ci := 12) [_] (by assumption) (c_X12_mayWork _ _ np rn sn nr q cl L (th_MR hR) (th_RMB hB) hL hc) clX12_289 (by decide) rfl in_X12_mayWork se_X12_mayWork rfl rfl (by rw [hRm]; first | decide | (simp only [clS]; omega)) (by rw [hRm]; first | decide | (simp only [clS]; omega)) (fun _ => Nat.le_of_ble_eq_true rfl) (by rw [hRm]; first | decide | (simp only [clS]; omega)) (by rw [hRm]; first | decide | (simp only [clS]; omega)) dX12_move_52 (fun r52 w52 hp52 => ?_)
          obtain ⟨rfl, hP52⟩ := hp52
          change GG Γ _ _ [ai (b01 (mwM (th w) np rn sn nr q cl L))] _ _ _
          rw [th_mw hR hB hL]
          have hRu := MR_MP hP52 (th_MR hR)
          have hMu := hRu.1
          obtain ⟨-, hGu, hNu, hPu, -⟩ := id hRu
          have t0 : w52.1 400 = (112, 0) := hMu.1 400 (by decide) (by decide)
          have t430 : w52.1 430 = (1, 6) := hMu.1 430 (by decide) (by decide)
          have t434 : w52.1 434 = (1, 6) := hMu.1 434 (by decide) (by decide)
          have t435 : w52.1 435 = (3, 6) := hMu.1 435 (by decide) (by decide)
          have tp30 : w52.2.2 400 30 = some 430 := hMu.2 (400, 30, 430) (by decide)
          have tp34 : w52.2.2 400 34 = some 434 := hMu.2 (400, 34, 434) (by decide)
          have tp35 : w52.2.2 400 35 = some 435 := hMu.2 (400, 35, 435) (by decide)
          refine g_if_ne (tgt := 65) h dX12_move_55 (by decide) (by first | assumption | exact ⟨by omega, by omega⟩) (fun c55 => ?_) (fun c55 => ?_)
          · refine g_aload_n h dX12_move_65 rfl ?_
            refine g_iload_n h dX12_move_66 rfl ?_
            refine g_putI h flX12_22 rfl rfl (by assumption) dX12_move_67 ?_
            refine g_aload_n h dX12_move_70 rfl ?_
            refine g_getQ h flX12_87 rfl (by assumption) (by assumption) dX12_move_71 ?_
            refine g_iload_n h dX12_move_74 rfl ?_
            refine g_iload_n h dX12_move_75 rfl ?_
            refine g_iast h (p) (by assumption) (by first | omega | assumption) (by first | omega | assumption) (by first | decide | omega) dX12_move_76 ?_
            refine g_aload_n h dX12_move_77 rfl ?_
            refine g_getQ h flX12_102 rfl (by assumption) (by assumption) dX12_move_78 ?_
            refine g_iload_n h dX12_move_81 rfl ?_
            refine g_iconst h dX12_move_82 ?_
            refine g_zast h (p) (by assumption) (by first | omega | assumption) (by first | omega | assumption) (by first | decide | omega) (by omega) dX12_move_83 ?_
            refine g_aload_n h dX12_move_84 rfl ?_
            refine g_getQ h flX12_99 rfl (by assumption) (by assumption) dX12_move_85 ?_
            refine g_iload_n h dX12_move_88 rfl ?_
            refine g_dup2 h dX12_move_89 rfl rfl ?_
            refine g_iald h (p) (by assumption) (by first | omega | assumption) (by first | omega | assumption) (by first | decide | omega) dX12_move_90 ?_
            refine g_iconst h dX12_move_91 ?_
            refine g_iadd h dX12_move_92 ?_
            refine g_iast h (p) (by assumption) (by first | omega | assumption) (by first | omega | assumption) (by first | decide | omega) dX12_move_93 ?_
            refine g_eq (w' := mp1 w52 p L i) rfl rfl rfl ?_
            have hM1 : MS (mp1 w52 p L i) := MS_of rfl rfl hMu
            have hP1 : MPI (mp1 w52 p L i) np := mp1_ok hPu ⟨by omega, by omega⟩
            have v0 : (mp1 w52 p L i).1 400 = (112, 0) := t0
            obtain ⟨hN9, hQ9, hb9⟩ := tk_ok (w := mp1 w52 p L i) (np := np) hL hGu hNu hP1
            refine g_aload_n h dX12_move_94 rfl ?_
            refine g_iload_n h dX12_move_95 rfl ?_
            refine g_callV h rfl (ci := 12) [_] (by assumption) (c_X12_takes _ _ L np hM1 hL hP1.1 hP1.2.1 (fun p hp => (hP1.2.2 p hp).2.2.2.2.2.2.2.2)) clX12_239 (by decide) rfl in_X12_takes se_X12_takes rfl rfl (by rw [hRm]; first | decide | (simp only [clS]; omega)) (by rw [hRm]; first | decide | (simp only [clS]; omega)) (fun _ => Nat.le_of_ble_eq_true rfl) (by rw [hRm]; first | decide | (simp only [clS]; omega)) (by rw [hRm]; first | decide | (simp only [clS]; omega)) dX12_move_96 (fun r96 w96 hp96 => ?_)
            obtain ⟨rfl, hw96⟩ := hp96
            rw [hw96]
            refine g_aload_n h dX12_move_99 rfl ?_
            refine g_iconst h dX12_move_100 ?_
            refine g_iload_n h dX12_move_101 rfl ?_
            refine g_iconst h dX12_move_102 ?_
            refine g_isub h dX12_move_103 ?_
            refine g_max h rfl mmaxX12_186 (by first | assumption | exact ⟨by omega, by omega⟩) (by first | assumption | exact ⟨by omega, by omega⟩) (by rw [hRm]; first | decide | (simp only [clS]; omega)) (by rw [hRm]; first | decide | (simp only [clS]; omega)) (fun _ => Nat.le_of_ble_eq_true rfl) (by rw [hRm]; first | decide | (simp only [clS]; omega)) (by rw [hRm]; first | decide | (simp only [clS]; omega)) dX12_move_104 ?_
            obtain ⟨k, hk⟩ : ∃ k : Nat, max 0 (i - 1) = (k : Int) := ⟨(max 0 (i - 1)).toNat, by omega⟩
            rw [hk]
            refine g_callV h rfl (ci := 12) [_] (by assumption) (c_X12_mixes _ _ k (MS_of rfl rfl hM1) (by omega) hb9) clX12_256 (by decide) rfl in_X12_mixes se_X12_mixes rfl rfl (by rw [hRm]; first | decide | (simp only [clS]; omega)) (by rw [hRm]; first | decide | (simp only [clS]; omega)) (fun _ => Nat.le_of_ble_eq_true rfl) (by rw [hRm]; first | decide | (simp only [clS]; omega)) (by rw [hRm]; first | decide | (simp only [clS]; omega)) dX12_move_107 (fun r107 w107 hp107 => ?_)
            obtain ⟨rfl, hw107⟩ := hp107
            rw [hw107]
            refine g_eq (w' := mp2 w52 np p L i) rfl rfl (by unfold mp2; rw [hk, Int.toNat_natCast]) ?_
            refine g_aload_n h dX12_move_110 rfl ?_
            refine g_iload_n h dX12_move_111 rfl ?_
            refine g_callV h rfl (ci := 12) [_] (by assumption) (c_X12_lays _ _ L (MS_of rfl rfl hM1) hL) clX12_292 (by decide) rfl in_X12_lays se_X12_lays rfl rfl (by rw [hRm]; first | decide | (simp only [clS]; omega)) (by rw [hRm]; first | decide | (simp only [clS]; omega)) (fun _ => Nat.le_of_ble_eq_true rfl) (by rw [hRm]; first | decide | (simp only [clS]; omega)) (by rw [hRm]; first | decide | (simp only [clS]; omega)) dX12_move_112 (fun r112 w112 hp112 => ?_)
            obtain ⟨rfl, hw112⟩ := hp112
            rw [hw112]
            refine g_aload_n h dX12_move_115 rfl ?_
            refine g_callV h rfl (ci := 12) [] (by assumption) (c_X12_granted _ _ (MS_of rfl rfl hM1)) clX12_215 (by decide) rfl in_X12_granted se_X12_granted rfl rfl (by rw [hRm]; first | decide | (simp only [clS]; omega)) (by rw [hRm]; first | decide | (simp only [clS]; omega)) (fun _ => Nat.le_of_ble_eq_true rfl) (by rw [hRm]; first | decide | (simp only [clS]; omega)) (by rw [hRm]; first | decide | (simp only [clS]; omega)) dX12_move_116 (fun r116 w116 hp116 => ?_)
            obtain ⟨rfl, hw116⟩ := hp116
            rw [hw116]
            refine g_zret h hQ (by first | decide | omega | (simp only [clS]; omega)) (by first | decide | omega | (simp only [clS]; omega)) (by omega) ?_ dX12_move_119
            have hf : mwM w np rn sn nr q cl L = true := by cases hh : mwM w np rn sn nr q cl L; rw [hh] at c55; exact absurd rfl c55; rfl
            exact ⟨fun q9 => absurd hz0 q9, fun _ q9 => absurd q9 (by omega), fun _ _ => ⟨w52, hP52, fun q9 => (by rw [hf] at q9; cases q9), fun _ => ⟨rfl, rfl⟩⟩⟩
          · refine g_aload_n h dX12_move_58 rfl ?_
            refine g_bipush h dX12_move_59 rfl ?_
            refine g_callV h rfl (ci := 12) [_] (by assumption) (c_X12_denied _ _ _ (by first | exact MS_of rfl rfl hM | exact hMu)) clX12_207 (by decide) rfl in_X12_denied se_X12_denied rfl rfl (by rw [hRm]; first | decide | (simp only [clS]; omega)) (by rw [hRm]; first | decide | (simp only [clS]; omega)) (fun _ => Nat.le_of_ble_eq_true rfl) (by rw [hRm]; first | decide | (simp only [clS]; omega)) (by rw [hRm]; first | decide | (simp only [clS]; omega)) dX12_move_61 (fun r61 w61 hp61 => ?_)
            obtain ⟨rfl, hw61⟩ := hp61
            rw [hw61]
            refine g_zret h hQ (by first | decide | omega | (simp only [clS]; omega)) (by first | decide | omega | (simp only [clS]; omega)) (by omega) ?_ dX12_move_64
            have hf : mwM w np rn sn nr q cl L = false := by cases hh : mwM w np rn sn nr q cl L; rfl; rw [hh] at c55; exact absurd c55 (by decide)
            exact ⟨fun q9 => absurd hz0 q9, fun _ q9 => absurd q9 (by omega), fun _ _ => ⟨w52, hP52, fun _ => ⟨rfl, rfl⟩, fun q9 => by rw [hf] at q9; cases q9⟩⟩
        · refine g_aload_n h dX12_move_37 rfl ?_
          refine g_iconst h dX12_move_38 ?_
          refine g_callV h rfl (ci := 12) [_] (by assumption) (c_X12_denied _ _ _ (by first | exact MS_of rfl rfl hM | exact hMu)) clX12_207 (by decide) rfl in_X12_denied se_X12_denied rfl rfl (by rw [hRm]; first | decide | (simp only [clS]; omega)) (by rw [hRm]; first | decide | (simp only [clS]; omega)) (fun _ => Nat.le_of_ble_eq_true rfl) (by rw [hRm]; first | decide | (simp only [clS]; omega)) (by rw [hRm]; first | decide | (simp only [clS]; omega)) dX12_move_39 (fun r39 w39 hp39 => ?_)
          obtain ⟨rfl, hw39⟩ := hp39
          rw [hw39]
          refine g_zret h hQ (by first | decide | omega | (simp only [clS]; omega)) (by first | decide | omega | (simp only [clS]; omega)) (by omega) ?_ dX12_move_42
          exact ⟨fun q9 => absurd hz0 q9, fun _ _ => ⟨rfl, rfl⟩, fun _ q9 => absurd (by omega) q9⟩
      · exfalso; omega
  · skip
    refine g_aload_n h dX12_move_0 rfl ?_
    refine g_iconst h dX12_move_1 ?_
    refine g_putI h flX12_1 rfl rfl (by assumption) dX12_move_2 ?_
    refine g_aload_n h dX12_move_5 rfl ?_
    refine g_iload_n h dX12_move_6 rfl ?_
    refine g_callV h rfl (ci := 12) [_] (by assumption) (c_X12_isPipe _ _ z (MS_of rfl rfl hM) hz (by rw [e28]; exact ⟨by omega, by omega⟩)) clX12_283 (by decide) rfl in_X12_isPipe se_X12_isPipe rfl rfl (by rw [hRm]; first | decide | (simp only [clS]; omega)) (by rw [hRm]; first | decide | (simp only [clS]; omega)) (fun _ => Nat.le_of_ble_eq_true rfl) (by rw [hRm]; first | decide | (simp only [clS]; omega)) (by rw [hRm]; first | decide | (simp only [clS]; omega)) dX12_move_7 (fun r7 w7 hp7 => ?_)
    obtain ⟨rfl, hw7⟩ := hp7
    rw [hw7]
    rw [e28]
    have hbw7 := ite01 (0 ≤ z ∧ z < (np : Int))
    refine g_if_eq (tgt := 21) h dX12_move_10 (by decide) (by first | assumption | exact ⟨by omega, by omega⟩) (fun c10 => ?_) (fun c10 => ?_)
    · refine g_aload_n h dX12_move_21 rfl ?_
      refine g_iconst h dX12_move_22 ?_
      refine g_callV h rfl (ci := 12) [_] (by assumption) (c_X12_denied _ _ _ (MS_of rfl rfl hM)) clX12_207 (by decide) rfl in_X12_denied se_X12_denied rfl rfl (by rw [hRm]; first | decide | (simp only [clS]; omega)) (by rw [hRm]; first | decide | (simp only [clS]; omega)) (fun _ => Nat.le_of_ble_eq_true rfl) (by rw [hRm]; first | decide | (simp only [clS]; omega)) (by rw [hRm]; first | decide | (simp only [clS]; omega)) dX12_move_23 (fun r23 w23 hp23 => ?_)
      obtain ⟨rfl, hw23⟩ := hp23
      rw [hw23]
      refine g_zret h hQ (by first | decide | omega | (simp only [clS]; omega)) (by first | decide | omega | (simp only [clS]; omega)) (by omega) ?_ dX12_move_26
      exact ⟨fun _ => ⟨rfl, rfl⟩, fun q9 => absurd q9 hz0, fun q9 => absurd q9 hz0⟩
    · refine g_iconst h dX12_move_13 ?_
      refine g_iload_n h dX12_move_14 rfl ?_
      refine g_callS h rfl [_, _] (c_X12_isLayer _ _ 0 i ⟨by decide, by decide⟩ hi) clX12_203 st_X12_isLayer rfl rfl (by rw [hRm]; first | decide | (simp only [clS]; omega)) (by rw [hRm]; first | decide | (simp only [clS]; omega)) (fun _ => Nat.le_of_ble_eq_true rfl) (by rw [hRm]; first | decide | (simp only [clS]; omega)) (by rw [hRm]; first | decide | (simp only [clS]; omega)) dX12_move_15 (fun r15 w15 hp15 => ?_)
      obtain ⟨rfl, hw15⟩ := hp15
      rw [hw15]
      have hbw15 := ite01 ((0 ≤ (0 : Int) ∧ (0 : Int) < 2) ∧ 0 ≤ i ∧ i < 10)
      refine g_if_ne (tgt := 27) h dX12_move_18 (by decide) (by first | assumption | exact ⟨by omega, by omega⟩) (fun c18 => ?_) (fun c18 => ?_)
      · exfalso; omega
      · refine g_aload_n h dX12_move_21 rfl ?_
        refine g_iconst h dX12_move_22 ?_
        refine g_callV h rfl (ci := 12) [_] (by assumption) (c_X12_denied _ _ _ (MS_of rfl rfl hM)) clX12_207 (by decide) rfl in_X12_denied se_X12_denied rfl rfl (by rw [hRm]; first | decide | (simp only [clS]; omega)) (by rw [hRm]; first | decide | (simp only [clS]; omega)) (fun _ => Nat.le_of_ble_eq_true rfl) (by rw [hRm]; first | decide | (simp only [clS]; omega)) (by rw [hRm]; first | decide | (simp only [clS]; omega)) dX12_move_23 (fun r23 w23 hp23 => ?_)
        obtain ⟨rfl, hw23⟩ := hp23
        rw [hw23]
        refine g_zret h hQ (by first | decide | omega | (simp only [clS]; omega)) (by first | decide | omega | (simp only [clS]; omega)) (by omega) ?_ dX12_move_26
        exact ⟨fun _ => ⟨rfl, rfl⟩, fun q9 => absurd q9 hz0, fun q9 => absurd q9 hz0⟩
set_option maxRecDepth 100000 in
set_option maxHeartbeats 4000000 in
theorem c_X12_start (l : Launch) (w : AW) (np rn sn nr : Nat) (q : Nat → Nat) (cl : Nat → List Int) (z : Int) (hR : MR w np rn sn) (hB : RMB w nr q cl) (hz : R32 z) (hc : R32 (w.2.1 400 6)) : HT l yX12_start cX12_start 2 (some .boolean) 11 0 0 w [ar 400, ai z] (fun r w' => (¬ (0 ≤ z ∧ z < (np : Int)) → r = some (ai 0) ∧ w' = tM (th w) 1) ∧ (0 ≤ z ∧ z < (np : Int) → w.2.1 435 z.toNat ≠ 0 → r = some (ai 0) ∧ w' = tM (th w) 5) ∧ (0 ≤ z ∧ z < (np : Int) → w.2.1 435 z.toNat = 0 → ∃ u, MP (th w) u ∧ (mwM w np rn sn nr q cl (w.2.1 429 z.toNat).toNat = false → r = some (ai 0) ∧ w' = tM u 6) ∧ (mwM w np rn sn nr q cl (w.2.1 429 z.toNat).toNat = true → r = some (ai 1) ∧ w' = tM (upI (upI u 400 6 (w.2.1 429 z.toNat)) 435 z.toNat 1) 0))) := by
  refine HT.of (by decide) (by intro v hv; simp only [List.mem_cons, List.not_mem_nil, or_false] at hv; rcases hv with rfl | rfl <;> rfl) (Nat.le_of_ble_eq_true rfl) ?_
  intro Γ h hQ hRm hnm hl hw0
  obtain ⟨hM, hG, hN, hP, hI, hd, hwi⟩ := id hR
  obtain ⟨hnp, hn6, hpp⟩ := id hP
  have e28 : (upI w 400 0 0).2.1 400 28 = (np : Int) := hnp
  have s400 : w.1 400 = (112, 0) := hM.1 400 (by decide) (by decide)
  have s435 : w.1 435 = (3, 6) := hM.1 435 (by decide) (by decide)
  have s429 : w.1 429 = (1, 6) := hM.1 429 (by decide) (by decide)
  have p35 : w.2.2 400 35 = some 435 := hM.2 (400, 35, 435) (by decide)
  have p29 : w.2.2 400 29 = some 429 := hM.2 (400, 29, 429) (by decide)
  by_cases hz0 : 0 ≤ z ∧ z < (np : Int)
  · obtain ⟨p, rfl⟩ : ∃ p : Nat, z = (p : Int) := ⟨z.toNat, by omega⟩
    rw [Int.toNat_natCast] at hQ
    obtain ⟨b1, b2, b3, b4, b5, b6, b7, b8, b9⟩ := hpp p (by omega)
    have e435 : (upI w 400 0 0).2.1 435 p = w.2.1 435 p := rfl
    obtain ⟨L, hLp⟩ : ∃ L : Nat, w.2.1 429 p = (L : Int) := ⟨(w.2.1 429 p).toNat, by omega⟩
    have hLt : (w.2.1 429 p).toNat = L := by omega
    rw [hLt] at hQ
    have hL : L < 2 := by omega
    have h01 := b01_01 (mwM w np rn sn nr q cl L)
    have e429 : (upI w 400 0 0).2.1 429 p = (L : Int) := hLp
    refine g_aload_n h dX12_start_0 rfl ?_
    refine g_iconst h dX12_start_1 ?_
    refine g_putI h flX12_1 rfl rfl (by assumption) dX12_start_2 ?_
    refine g_aload_n h dX12_start_5 rfl ?_
    refine g_iload_n h dX12_start_6 rfl ?_
    refine g_callV h rfl (ci := 12) [_] (by assumption) (c_X12_isPipe _ _ _ (MS_of rfl rfl hM) hz (by rw [e28]; exact ⟨by omega, by omega⟩)) clX12_283 (by decide) rfl in_X12_isPipe se_X12_isPipe rfl rfl (by rw [hRm]; first | decide | (simp only [clS]; omega)) (by rw [hRm]; first | decide | (simp only [clS]; omega)) (fun _ => Nat.le_of_ble_eq_true rfl) (by rw [hRm]; first | decide | (simp only [clS]; omega)) (by rw [hRm]; first | decide | (simp only [clS]; omega)) dX12_start_7 (fun r7 w7 hp7 => ?_)
    obtain ⟨rfl, hw7⟩ := hp7
    rw [hw7]
    rw [e28]
    have hbw7 := ite01 (0 ≤ (p : Int) ∧ (p : Int) < (np : Int))
    refine g_if_ne (tgt := 19) h dX12_start_10 (by decide) (by first | assumption | exact ⟨by omega, by omega⟩) (fun c10 => ?_) (fun c10 => ?_)
    · refine g_aload_n h dX12_start_19 rfl ?_
      refine g_getQ h flX12_102 rfl (by assumption) (by assumption) dX12_start_20 ?_
      refine g_iload_n h dX12_start_23 rfl ?_
      refine g_zald h (p) (by assumption) (by first | omega | assumption) (by first | omega | assumption) (by first | decide | omega) dX12_start_24 ?_
      rw [e435]
      refine g_if_eq (tgt := 34) h dX12_start_25 (by decide) (by first | assumption | exact ⟨by omega, by omega⟩) (fun c25 => ?_) (fun c25 => ?_)
      · refine g_aload_n h dX12_start_34 rfl ?_
        refine g_aload_n h dX12_start_35 rfl ?_
        refine g_getQ h flX12_84 rfl (by assumption) (by assumption) dX12_start_36 ?_
        refine g_iload_n h dX12_start_39 rfl ?_
        refine g_iald h (p) (by assumption) (by first | omega | assumption) (by first | omega | assumption) (by first | decide | omega) dX12_start_40 ?_
        rw [e429]
        refine g_callV h rfl (ci := 12) [_] (by assumption) (c_X12_mayWork _ _ np rn sn nr q cl L (th_MR hR) (th_RMB hB) hL hc) clX12_289 (by decide) rfl in_X12_mayWork se_X12_mayWork rfl rfl (by rw [hRm]; first | decide | (simp only [clS]; omega)) (by rw [hRm]; first | decide | (simp only [clS]; omega)) (fun _ => Nat.le_of_ble_eq_true rfl) (by rw [hRm]; first | decide | (simp only [clS]; omega)) (by rw [hRm]; first | decide | (simp only [clS]; omega)) dX12_start_41 (fun r41 w41 hp41 => ?_)
        obtain ⟨rfl, hP41⟩ := hp41
        change GG Γ _ _ [ai (b01 (mwM (th w) np rn sn nr q cl L))] _ _ _
        rw [th_mw hR hB hL]
        have hRu := MR_MP hP41 (th_MR hR)
        have hMu := hRu.1
        have t0 : w41.1 400 = (112, 0) := hMu.1 400 (by decide) (by decide)
        have t429 : w41.1 429 = (1, 6) := hMu.1 429 (by decide) (by decide)
        have t435 : w41.1 435 = (3, 6) := hMu.1 435 (by decide) (by decide)
        have tp29 : w41.2.2 400 29 = some 429 := hMu.2 (400, 29, 429) (by decide)
        have tp35 : w41.2.2 400 35 = some 435 := hMu.2 (400, 35, 435) (by decide)
        have tq29 : w41.2.1 429 p = w.2.1 429 p := congrFun (MP_e hP41 429 (by decide)) p
        refine g_if_ne (tgt := 54) h dX12_start_44 (by decide) (by first | assumption | exact ⟨by omega, by omega⟩) (fun c44 => ?_) (fun c44 => ?_)
        · refine g_aload_n h dX12_start_54 rfl ?_
          refine g_aload_n h dX12_start_55 rfl ?_
          refine g_getQ h flX12_84 rfl (by assumption) (by assumption) dX12_start_56 ?_
          refine g_iload_n h dX12_start_59 rfl ?_
          refine g_iald h (p) (by assumption) (by first | omega | assumption) (by first | omega | assumption) (by first | decide | omega) dX12_start_60 ?_
          rw [tq29]
          refine g_putI h flX12_22 rfl rfl (by assumption) dX12_start_61 ?_
          refine g_aload_n h dX12_start_64 rfl ?_
          refine g_getQ h flX12_102 rfl (by assumption) (by assumption) dX12_start_65 ?_
          refine g_iload_n h dX12_start_68 rfl ?_
          refine g_iconst h dX12_start_69 ?_
          refine g_zast h (p) (by assumption) (by first | omega | assumption) (by first | omega | assumption) (by first | decide | omega) (by omega) dX12_start_70 ?_
          refine g_aload_n h dX12_start_71 rfl ?_
          refine g_callV h rfl (ci := 12) [] (by assumption) (c_X12_granted _ _ (MS_of rfl rfl hMu)) clX12_215 (by decide) rfl in_X12_granted se_X12_granted rfl rfl (by rw [hRm]; first | decide | (simp only [clS]; omega)) (by rw [hRm]; first | decide | (simp only [clS]; omega)) (fun _ => Nat.le_of_ble_eq_true rfl) (by rw [hRm]; first | decide | (simp only [clS]; omega)) (by rw [hRm]; first | decide | (simp only [clS]; omega)) dX12_start_72 (fun r72 w72 hp72 => ?_)
          obtain ⟨rfl, hw72⟩ := hp72
          rw [hw72]
          refine g_zret h hQ (by first | decide | omega | (simp only [clS]; omega)) (by first | decide | omega | (simp only [clS]; omega)) (by omega) ?_ dX12_start_75
          have hf : mwM w np rn sn nr q cl L = true := by cases hh : mwM w np rn sn nr q cl L; rw [hh] at c44; exact absurd rfl c44; rfl
          exact ⟨fun q9 => absurd hz0 q9, fun _ q9 => absurd q9 (by omega), fun _ _ => ⟨w41, hP41, fun q9 => (by rw [hf] at q9; cases q9), fun _ => ⟨rfl, rfl⟩⟩⟩
        · refine g_aload_n h dX12_start_47 rfl ?_
          refine g_bipush h dX12_start_48 rfl ?_
          refine g_callV h rfl (ci := 12) [_] (by assumption) (c_X12_denied _ _ _ (by first | exact MS_of rfl rfl hM | exact hMu)) clX12_207 (by decide) rfl in_X12_denied se_X12_denied rfl rfl (by rw [hRm]; first | decide | (simp only [clS]; omega)) (by rw [hRm]; first | decide | (simp only [clS]; omega)) (fun _ => Nat.le_of_ble_eq_true rfl) (by rw [hRm]; first | decide | (simp only [clS]; omega)) (by rw [hRm]; first | decide | (simp only [clS]; omega)) dX12_start_50 (fun r50 w50 hp50 => ?_)
          obtain ⟨rfl, hw50⟩ := hp50
          rw [hw50]
          refine g_zret h hQ (by first | decide | omega | (simp only [clS]; omega)) (by first | decide | omega | (simp only [clS]; omega)) (by omega) ?_ dX12_start_53
          have hf : mwM w np rn sn nr q cl L = false := by cases hh : mwM w np rn sn nr q cl L; rfl; rw [hh] at c44; exact absurd c44 (by decide)
          exact ⟨fun q9 => absurd hz0 q9, fun _ q9 => absurd q9 (by omega), fun _ _ => ⟨w41, hP41, fun _ => ⟨rfl, rfl⟩, fun q9 => by rw [hf] at q9; cases q9⟩⟩
      · refine g_aload_n h dX12_start_28 rfl ?_
        refine g_iconst h dX12_start_29 ?_
        refine g_callV h rfl (ci := 12) [_] (by assumption) (c_X12_denied _ _ _ (by first | exact MS_of rfl rfl hM | exact hMu)) clX12_207 (by decide) rfl in_X12_denied se_X12_denied rfl rfl (by rw [hRm]; first | decide | (simp only [clS]; omega)) (by rw [hRm]; first | decide | (simp only [clS]; omega)) (fun _ => Nat.le_of_ble_eq_true rfl) (by rw [hRm]; first | decide | (simp only [clS]; omega)) (by rw [hRm]; first | decide | (simp only [clS]; omega)) dX12_start_30 (fun r30 w30 hp30 => ?_)
        obtain ⟨rfl, hw30⟩ := hp30
        rw [hw30]
        refine g_zret h hQ (by first | decide | omega | (simp only [clS]; omega)) (by first | decide | omega | (simp only [clS]; omega)) (by omega) ?_ dX12_start_33
        exact ⟨fun q9 => absurd hz0 q9, fun _ _ => ⟨rfl, rfl⟩, fun _ q9 => absurd q9 (by omega)⟩
    · exfalso; omega
  · skip
    refine g_aload_n h dX12_start_0 rfl ?_
    refine g_iconst h dX12_start_1 ?_
    refine g_putI h flX12_1 rfl rfl (by assumption) dX12_start_2 ?_
    refine g_aload_n h dX12_start_5 rfl ?_
    refine g_iload_n h dX12_start_6 rfl ?_
    refine g_callV h rfl (ci := 12) [_] (by assumption) (c_X12_isPipe _ _ z (MS_of rfl rfl hM) hz (by rw [e28]; exact ⟨by omega, by omega⟩)) clX12_283 (by decide) rfl in_X12_isPipe se_X12_isPipe rfl rfl (by rw [hRm]; first | decide | (simp only [clS]; omega)) (by rw [hRm]; first | decide | (simp only [clS]; omega)) (fun _ => Nat.le_of_ble_eq_true rfl) (by rw [hRm]; first | decide | (simp only [clS]; omega)) (by rw [hRm]; first | decide | (simp only [clS]; omega)) dX12_start_7 (fun r7 w7 hp7 => ?_)
    obtain ⟨rfl, hw7⟩ := hp7
    rw [hw7]
    rw [e28]
    have hbw7 := ite01 (0 ≤ z ∧ z < (np : Int))
    refine g_if_ne (tgt := 19) h dX12_start_10 (by decide) (by first | assumption | exact ⟨by omega, by omega⟩) (fun c10 => ?_) (fun c10 => ?_)
    · exfalso; omega
    · refine g_aload_n h dX12_start_13 rfl ?_
      refine g_iconst h dX12_start_14 ?_
      refine g_callV h rfl (ci := 12) [_] (by assumption) (c_X12_denied _ _ _ (MS_of rfl rfl hM)) clX12_207 (by decide) rfl in_X12_denied se_X12_denied rfl rfl (by rw [hRm]; first | decide | (simp only [clS]; omega)) (by rw [hRm]; first | decide | (simp only [clS]; omega)) (fun _ => Nat.le_of_ble_eq_true rfl) (by rw [hRm]; first | decide | (simp only [clS]; omega)) (by rw [hRm]; first | decide | (simp only [clS]; omega)) dX12_start_15 (fun r15 w15 hp15 => ?_)
      obtain ⟨rfl, hw15⟩ := hp15
      rw [hw15]
      refine g_zret h hQ (by first | decide | omega | (simp only [clS]; omega)) (by first | decide | omega | (simp only [clS]; omega)) (by omega) ?_ dX12_start_18
      exact ⟨fun _ => ⟨rfl, rfl⟩, fun q9 => absurd q9 hz0, fun q9 => absurd q9 hz0⟩
set_option maxRecDepth 100000 in
set_option maxHeartbeats 4000000 in
theorem c_X12_moved (l : Launch) (w : AW) (np rn sn nr : Nat) (q : Nat → Nat) (cl : Nat → List Int) (nv : Nat) (z a : Int) (hR : MR w np rn sn) (hB : RMB w nr q cl) (hL : ML w) (hV : MVI w nv) (hz : R32 z) (ha : a = 0 ∨ a = 1) : HT l yX12_moved cX12_moved 3 (some .boolean) 10 0 0 w [ar 400, ai z, ai a] (fun r w' => (¬ (0 ≤ z ∧ z < (nv : Int)) → r = some (ai 0) ∧ w' = tM (th w) 1) ∧ (0 ≤ z ∧ z < (nv : Int) → w.2.1 477 z.toNat = a → r = some (ai 0) ∧ w' = tM (th w) 5) ∧ (0 ≤ z ∧ z < (nv : Int) → w.2.1 477 z.toNat ≠ a → ∃ u, MP (th w) u ∧ (a = 0 ∧ lvM w np rn sn nr q cl (w.2.1 472 (w.2.1 475 z.toNat).toNat) = false → r = some (ai 0) ∧ w' = tM u 6) ∧ (¬ (a = 0 ∧ lvM w np rn sn nr q cl (w.2.1 472 (w.2.1 475 z.toNat).toNat) = false) → r = some (ai 1) ∧ w' = tM (upI u 477 z.toNat a) 0))) := by
  refine HT.of (by decide) (by intro v hv; simp only [List.mem_cons, List.not_mem_nil, or_false] at hv; rcases hv with rfl | rfl | rfl <;> rfl) (Nat.le_of_ble_eq_true rfl) ?_
  intro Γ h hQ hRm hnm hl hw0
  have hM := hR.1
  obtain ⟨hnv, hnv2, hvv⟩ := id hV
  have e69 : (upI w 400 0 0).2.1 400 69 = (nv : Int) := hnv
  have s400 : w.1 400 = (112, 0) := hM.1 400 (by decide) (by decide)
  have s477 : w.1 477 = (3, 20) := hM.1 477 (by decide) (by decide)
  have s475 : w.1 475 = (1, 20) := hM.1 475 (by decide) (by decide)
  have p77 : w.2.2 400 77 = some 477 := hM.2 (400, 77, 477) (by decide)
  have p75 : w.2.2 400 75 = some 475 := hM.2 (400, 75, 475) (by decide)
  by_cases hz0 : 0 ≤ z ∧ z < (nv : Int)
  · obtain ⟨p, rfl⟩ : ∃ p : Nat, z = (p : Int) := ⟨z.toNat, by omega⟩
    rw [Int.toNat_natCast] at hQ
    obtain ⟨b1, b2, b3, b4, b5⟩ := hvv p (by omega)
    have e477 : (upI w 400 0 0).2.1 477 p = w.2.1 477 p := rfl
    obtain ⟨F, hF⟩ : ∃ F : Nat, w.2.1 475 p = (F : Int) := ⟨(w.2.1 475 p).toNat, by omega⟩
    have hFt : (w.2.1 475 p).toNat = F := by omega
    rw [hFt] at hQ
    have e475 : (upI w 400 0 0).2.1 475 p = (F : Int) := hF
    have h01 := b01_01 (lvM w np rn sn nr q cl (w.2.1 472 F))
    refine g_aload_n h dX12_moved_0 rfl ?_
    refine g_iconst h dX12_moved_1 ?_
    refine g_putI h flX12_1 rfl rfl (by assumption) dX12_moved_2 ?_
    refine g_iload_n h dX12_moved_5 rfl ?_
    refine g_if_lt (tgt := 17) h dX12_moved_6 (by decide) (by first | assumption | exact ⟨by omega, by omega⟩) (fun c6 => ?_) (fun c6 => ?_)
    · exfalso; omega
    · refine g_iload_n h dX12_moved_9 rfl ?_
      refine g_aload_n h dX12_moved_10 rfl ?_
      refine g_getI h flX12_528 rfl (by assumption) dX12_moved_11 ?_
      rw [e69]
      refine g_icmp_lt (tgt := 23) h dX12_moved_14 (by decide) (by first | assumption | exact ⟨by omega, by omega⟩) (by first | assumption | exact ⟨by omega, by omega⟩) (fun c14 => ?_) (fun c14 => ?_)
      · refine g_aload_n h dX12_moved_23 rfl ?_
        refine g_getQ h flX12_179 rfl (by assumption) (by assumption) dX12_moved_24 ?_
        refine g_iload_n h dX12_moved_27 rfl ?_
        refine g_zald h (p) (by assumption) (by first | omega | assumption) (by first | omega | assumption) (by first | decide | omega) dX12_moved_28 ?_
        rw [e477]
        refine g_iload_n h dX12_moved_29 rfl ?_
        refine g_icmp_ne (tgt := 39) h dX12_moved_30 (by decide) (by first | assumption | exact ⟨by omega, by omega⟩) (by first | assumption | exact ⟨by omega, by omega⟩) (fun c30 => ?_) (fun c30 => ?_)
        · refine g_iload_n h dX12_moved_39 rfl ?_
          refine g_if_ne (tgt := 63) h dX12_moved_40 (by decide) (by first | assumption | exact ⟨by omega, by omega⟩) (fun c40 => ?_) (fun c40 => ?_)
          · refine g_aload_n h dX12_moved_63 rfl ?_
            refine g_getQ h flX12_179 rfl (by assumption) (by assumption) dX12_moved_64 ?_
            refine g_iload_n h dX12_moved_67 rfl ?_
            refine g_iload_n h dX12_moved_68 rfl ?_
            refine g_zast h (p) (by assumption) (by first | omega | assumption) (by first | omega | assumption) (by first | decide | omega) (by omega) dX12_moved_69 ?_
            refine g_aload_n h dX12_moved_70 rfl ?_
            refine g_callV h rfl (ci := 12) [] (by assumption) (c_X12_granted _ _ (by first | exact MS_of rfl rfl hM | exact MS_of rfl rfl hMu)) clX12_215 (by decide) rfl in_X12_granted se_X12_granted rfl rfl (by rw [hRm]; first | decide | (simp only [clS]; omega)) (by rw [hRm]; first | decide | (simp only [clS]; omega)) (fun _ => Nat.le_of_ble_eq_true rfl) (by rw [hRm]; first | decide | (simp only [clS]; omega)) (by rw [hRm]; first | decide | (simp only [clS]; omega)) dX12_moved_71 (fun r71 w71 hp71 => ?_)
            obtain ⟨rfl, hw71⟩ := hp71
            rw [hw71]
            refine g_zret h hQ (by first | decide | omega | (simp only [clS]; omega)) (by first | decide | omega | (simp only [clS]; omega)) (by omega) ?_ dX12_moved_74
            first
            | (exfalso; omega)
            | (have hf : lvM w np rn sn nr q cl (w.2.1 472 F) = true := by cases hh : lvM w np rn sn nr q cl (w.2.1 472 F); rw [hh] at c53; exact absurd rfl c53; rfl
               exact ⟨fun q9 => absurd hz0 q9, fun _ q9 => absurd q9 (by omega), fun _ _ => ⟨w50, hP50, fun q9 => (by rw [hf] at q9; cases q9.2), fun _ => ⟨rfl, rfl⟩⟩⟩)
            | (exact ⟨fun q9 => absurd hz0 q9, fun _ q9 => absurd q9 (by omega), fun _ _ => ⟨th w, MP_rfl _, fun q9 => absurd q9.1 (by omega), fun _ => ⟨rfl, rfl⟩⟩⟩)
          · refine g_aload_n h dX12_moved_43 rfl ?_
            refine g_aload_n h dX12_moved_44 rfl ?_
            refine g_getQ h flX12_173 rfl (by assumption) (by assumption) dX12_moved_45 ?_
            refine g_iload_n h dX12_moved_48 rfl ?_
            refine g_iald h (p) (by assumption) (by first | omega | assumption) (by first | omega | assumption) (by first | decide | omega) dX12_moved_49 ?_
            rw [e475]
            refine g_callV h rfl (ci := 12) [_] (by assumption) (c_X12_mayLive _ _ np rn sn nr q cl F (th_MR hR) (th_RMB hB) (by omega) (hL.1 F (by omega))) clX12_480 (by decide) rfl in_X12_mayLive se_X12_mayLive rfl rfl (by rw [hRm]; first | decide | (simp only [clS]; omega)) (by rw [hRm]; first | decide | (simp only [clS]; omega)) (fun _ => Nat.le_of_ble_eq_true rfl) (by rw [hRm]; first | decide | (simp only [clS]; omega)) (by rw [hRm]; first | decide | (simp only [clS]; omega)) dX12_moved_50 (fun r50 w50 hp50 => ?_)
            obtain ⟨rfl, hP50⟩ := hp50
            change GG Γ _ _ [ai (b01 (lvM (th w) np rn sn nr q cl (w.2.1 472 F)))] _ _ _
            rw [th_lv hR hB]
            have hMu := MS_MP hP50 (MS_th hM)
            have t0 : w50.1 400 = (112, 0) := hMu.1 400 (by decide) (by decide)
            have t477 : w50.1 477 = (3, 20) := hMu.1 477 (by decide) (by decide)
            have tp77 : w50.2.2 400 77 = some 477 := hMu.2 (400, 77, 477) (by decide)
            refine g_if_ne (tgt := 63) h dX12_moved_53 (by decide) (by first | assumption | exact ⟨by omega, by omega⟩) (fun c53 => ?_) (fun c53 => ?_)
            · refine g_aload_n h dX12_moved_63 rfl ?_
              refine g_getQ h flX12_179 rfl (by assumption) (by assumption) dX12_moved_64 ?_
              refine g_iload_n h dX12_moved_67 rfl ?_
              refine g_iload_n h dX12_moved_68 rfl ?_
              refine g_zast h (p) (by assumption) (by first | omega | assumption) (by first | omega | assumption) (by first | decide | omega) (by omega) dX12_moved_69 ?_
              refine g_aload_n h dX12_moved_70 rfl ?_
              refine g_callV h rfl (ci := 12) [] (by assumption) (c_X12_granted _ _ (by first | exact MS_of rfl rfl hM | exact MS_of rfl rfl hMu)) clX12_215 (by decide) rfl in_X12_granted se_X12_granted rfl rfl (by rw [hRm]; first | decide | (simp only [clS]; omega)) (by rw [hRm]; first | decide | (simp only [clS]; omega)) (fun _ => Nat.le_of_ble_eq_true rfl) (by rw [hRm]; first | decide | (simp only [clS]; omega)) (by rw [hRm]; first | decide | (simp only [clS]; omega)) dX12_moved_71 (fun r71 w71 hp71 => ?_)
              obtain ⟨rfl, hw71⟩ := hp71
              rw [hw71]
              refine g_zret h hQ (by first | decide | omega | (simp only [clS]; omega)) (by first | decide | omega | (simp only [clS]; omega)) (by omega) ?_ dX12_moved_74
              first
              | (exfalso; omega)
              | (have hf : lvM w np rn sn nr q cl (w.2.1 472 F) = true := by cases hh : lvM w np rn sn nr q cl (w.2.1 472 F); rw [hh] at c53; exact absurd rfl c53; rfl
                 exact ⟨fun q9 => absurd hz0 q9, fun _ q9 => absurd q9 (by omega), fun _ _ => ⟨w50, hP50, fun q9 => (by rw [hf] at q9; cases q9.2), fun _ => ⟨rfl, rfl⟩⟩⟩)
              | (exact ⟨fun q9 => absurd hz0 q9, fun _ q9 => absurd q9 (by omega), fun _ _ => ⟨th w, MP_rfl _, fun q9 => absurd q9.1 (by omega), fun _ => ⟨rfl, rfl⟩⟩⟩)
            · refine g_aload_n h dX12_moved_56 rfl ?_
              refine g_bipush h dX12_moved_57 rfl ?_
              refine g_callV h rfl (ci := 12) [_] (by assumption) (c_X12_denied _ _ _ (by first | exact MS_of rfl rfl hM | exact hMu)) clX12_207 (by decide) rfl in_X12_denied se_X12_denied rfl rfl (by rw [hRm]; first | decide | (simp only [clS]; omega)) (by rw [hRm]; first | decide | (simp only [clS]; omega)) (fun _ => Nat.le_of_ble_eq_true rfl) (by rw [hRm]; first | decide | (simp only [clS]; omega)) (by rw [hRm]; first | decide | (simp only [clS]; omega)) dX12_moved_59 (fun r59 w59 hp59 => ?_)
              obtain ⟨rfl, hw59⟩ := hp59
              rw [hw59]
              refine g_zret h hQ (by first | decide | omega | (simp only [clS]; omega)) (by first | decide | omega | (simp only [clS]; omega)) (by omega) ?_ dX12_moved_62
              have hf : lvM w np rn sn nr q cl (w.2.1 472 F) = false := by cases hh : lvM w np rn sn nr q cl (w.2.1 472 F); rfl; rw [hh] at c53; exact absurd c53 (by decide)
              exact ⟨fun q9 => absurd hz0 q9, fun _ q9 => absurd q9 (by omega), fun _ _ => ⟨w50, hP50, fun _ => ⟨rfl, rfl⟩, fun q9 => absurd ⟨by omega, hf⟩ q9⟩⟩
        · refine g_aload_n h dX12_moved_33 rfl ?_
          refine g_iconst h dX12_moved_34 ?_
          refine g_callV h rfl (ci := 12) [_] (by assumption) (c_X12_denied _ _ _ (by first | exact MS_of rfl rfl hM | exact hMu)) clX12_207 (by decide) rfl in_X12_denied se_X12_denied rfl rfl (by rw [hRm]; first | decide | (simp only [clS]; omega)) (by rw [hRm]; first | decide | (simp only [clS]; omega)) (fun _ => Nat.le_of_ble_eq_true rfl) (by rw [hRm]; first | decide | (simp only [clS]; omega)) (by rw [hRm]; first | decide | (simp only [clS]; omega)) dX12_moved_35 (fun r35 w35 hp35 => ?_)
          obtain ⟨rfl, hw35⟩ := hp35
          rw [hw35]
          refine g_zret h hQ (by first | decide | omega | (simp only [clS]; omega)) (by first | decide | omega | (simp only [clS]; omega)) (by omega) ?_ dX12_moved_38
          exact ⟨fun q9 => absurd hz0 q9, fun _ _ => ⟨rfl, rfl⟩, fun _ q9 => absurd (by omega) q9⟩
      · exfalso; omega
  · skip
    refine g_aload_n h dX12_moved_0 rfl ?_
    refine g_iconst h dX12_moved_1 ?_
    refine g_putI h flX12_1 rfl rfl (by assumption) dX12_moved_2 ?_
    refine g_iload_n h dX12_moved_5 rfl ?_
    refine g_if_lt (tgt := 17) h dX12_moved_6 (by decide) (by first | assumption | exact ⟨by omega, by omega⟩) (fun c6 => ?_) (fun c6 => ?_)
    · refine g_aload_n h dX12_moved_17 rfl ?_
      refine g_iconst h dX12_moved_18 ?_
      refine g_callV h rfl (ci := 12) [_] (by assumption) (c_X12_denied _ _ _ (MS_of rfl rfl hM)) clX12_207 (by decide) rfl in_X12_denied se_X12_denied rfl rfl (by rw [hRm]; first | decide | (simp only [clS]; omega)) (by rw [hRm]; first | decide | (simp only [clS]; omega)) (fun _ => Nat.le_of_ble_eq_true rfl) (by rw [hRm]; first | decide | (simp only [clS]; omega)) (by rw [hRm]; first | decide | (simp only [clS]; omega)) dX12_moved_19 (fun r19 w19 hp19 => ?_)
      obtain ⟨rfl, hw19⟩ := hp19
      rw [hw19]
      refine g_zret h hQ (by first | decide | omega | (simp only [clS]; omega)) (by first | decide | omega | (simp only [clS]; omega)) (by omega) ?_ dX12_moved_22
      exact ⟨fun _ => ⟨rfl, rfl⟩, fun q9 => absurd q9 hz0, fun q9 => absurd q9 hz0⟩
    · refine g_iload_n h dX12_moved_9 rfl ?_
      refine g_aload_n h dX12_moved_10 rfl ?_
      refine g_getI h flX12_528 rfl (by assumption) dX12_moved_11 ?_
      rw [e69]
      refine g_icmp_lt (tgt := 23) h dX12_moved_14 (by decide) (by first | assumption | exact ⟨by omega, by omega⟩) (by first | assumption | exact ⟨by omega, by omega⟩) (fun c14 => ?_) (fun c14 => ?_)
      · exfalso; omega
      · refine g_aload_n h dX12_moved_17 rfl ?_
        refine g_iconst h dX12_moved_18 ?_
        refine g_callV h rfl (ci := 12) [_] (by assumption) (c_X12_denied _ _ _ (MS_of rfl rfl hM)) clX12_207 (by decide) rfl in_X12_denied se_X12_denied rfl rfl (by rw [hRm]; first | decide | (simp only [clS]; omega)) (by rw [hRm]; first | decide | (simp only [clS]; omega)) (fun _ => Nat.le_of_ble_eq_true rfl) (by rw [hRm]; first | decide | (simp only [clS]; omega)) (by rw [hRm]; first | decide | (simp only [clS]; omega)) dX12_moved_19 (fun r19 w19 hp19 => ?_)
        obtain ⟨rfl, hw19⟩ := hp19
        rw [hw19]
        refine g_zret h hQ (by first | decide | omega | (simp only [clS]; omega)) (by first | decide | omega | (simp only [clS]; omega)) (by omega) ?_ dX12_moved_22
        exact ⟨fun _ => ⟨rfl, rfl⟩, fun q9 => absurd q9 hz0, fun q9 => absurd q9 hz0⟩
