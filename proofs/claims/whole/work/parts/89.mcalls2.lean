/-! ===== M: calls of strings ===== -/
def ofM (w : AW) (L i : Nat) (a : Int) (rn sn : Nat) : Int :=
  if a = 0 then w.2.1 407 (10 * L + i) else if a = 1 then w.2.1 408 (10 * L + i) else if a = 2 then w.2.1 409 (10 * L + i)
  else if a = 3 then weightF (w.2.1 407 (10 * L + i)) (w.2.1 408 (10 * L + i)) (w.2.1 409 (10 * L + i)) else if a = 4 then holdsM w L i
  else if a = 5 then tgM w L i (w.2.1 400 4) rn sn else if a = 6 then deM w L i (w.2.1 400 4) rn else -2147483648
set_option maxRecDepth 100000 in
set_option maxHeartbeats 4000000 in
theorem c_X12_of (l : Launch) (w : AW) (rn sn : Nat) (z i a : Int) (hM : MS w) (hN : MN w) (hI : MSI w rn sn) (hd : 0 ≤ w.2.1 400 4 ∧ w.2.1 400 4 ≤ 2999) (hG : MG w) (hz : R32 z) (hi : R32 i) (ha : R32 a) : HT l yX12_of cX12_of 5 (some .int) 6 0 0 w [ar 400, ai z, ai i, ai a] (fun r w' => r = some (ai (if (0 ≤ z ∧ z < 2) ∧ 0 ≤ i ∧ i < 10 then ofM w z.toNat i.toNat a rn sn else -2147483648)) ∧ w' = (th w)) := by
  refine HT.of (by decide) (by intro v hv; simp only [List.mem_cons, List.not_mem_nil, or_false] at hv; rcases hv with rfl | rfl | rfl | rfl <;> rfl) (Nat.le_of_ble_eq_true rfl) ?_
  intro Γ h hQ hRm hnm hl hw0
  have s400 : w.1 400 = (112, 0) := hM.1 400 (by decide) (by decide)
  have s407 : w.1 407 = (1, 20) := hM.1 407 (by decide) (by decide)
  have s408 : w.1 408 = (1, 20) := hM.1 408 (by decide) (by decide)
  have s409 : w.1 409 = (1, 20) := hM.1 409 (by decide) (by decide)
  have p7 : w.2.2 400 7 = some 407 := hM.2 (400, 7, 407) (by decide)
  have p8 : w.2.2 400 8 = some 408 := hM.2 (400, 8, 408) (by decide)
  have p9 : w.2.2 400 9 = some 409 := hM.2 (400, 9, 409) (by decide)
  by_cases hzl : (0 ≤ z ∧ z < 2) ∧ 0 ≤ i ∧ i < 10
  · obtain ⟨L, rfl⟩ : ∃ L : Nat, z = (L : Int) := ⟨z.toNat, by omega⟩
    obtain ⟨j, rfl⟩ : ∃ j : Nat, i = (j : Int) := ⟨i.toNat, by omega⟩
    have hL : L < 2 := by omega
    have hj : j < 10 := by omega
    have eL : ((L : Int)).toNat = L := Int.toNat_natCast L
    have ej : ((j : Int)).toNat = j := Int.toNat_natCast j
    rw [eL, ej] at hQ
    have hgk := hG (10 * L + j) (by omega)
    have hd01 := deM_01 w L j (w.2.1 400 4) rn
    have hd02 : deM (upI w 400 0 0) L j ((upI w 400 0 0).2.1 400 4) rn = deM w L j (w.2.1 400 4) rn := rfl
    refine g_aload_n h dX12_of_0 rfl ?_
    refine g_iconst h dX12_of_1 ?_
    refine g_putI h flX12_1 rfl rfl (by assumption) dX12_of_2 ?_
    refine g_iload_n h dX12_of_5 rfl ?_
    refine g_iload_n h dX12_of_6 rfl ?_
    refine g_callS h rfl [_, _] (c_X12_isLayer _ _ _ _ hz hi) clX12_203 st_X12_isLayer rfl rfl (by rw [hRm]; first | decide | (simp only [clS]; omega)) (by rw [hRm]; first | decide | (simp only [clS]; omega)) (fun _ => Nat.le_of_ble_eq_true rfl) (by rw [hRm]; first | decide | (simp only [clS]; omega)) (by rw [hRm]; first | decide | (simp only [clS]; omega)) dX12_of_7 (fun r7 w7 hp7 => ?_)
    obtain ⟨rfl, hw7⟩ := hp7
    rw [hw7]
    have hbw7 := ite01 ((0 ≤ (L : Int) ∧ (L : Int) < 2) ∧ 0 ≤ (j : Int) ∧ (j : Int) < 10)
    refine g_if_ne (tgt := 16) h dX12_of_10 (by decide) (by first | assumption | exact ⟨by omega, by omega⟩) (fun c10 => ?_) (fun c10 => ?_)
    · refine g_bipush h dX12_of_16 rfl ?_
      refine g_iload_n h dX12_of_18 rfl ?_
      refine g_imul h dX12_of_19 ?_
      refine g_iload_n h dX12_of_20 rfl ?_
      refine g_iadd h dX12_of_21 ?_
      refine g_istore h dX12_of_22 (Nat.le_of_ble_eq_true rfl) rfl rfl ?_
      refine g_iload_n h dX12_of_24 rfl ?_
      rcases (show a = 0 ∨ a = 1 ∨ a = 2 ∨ a = 3 ∨ a = 4 ∨ a = 5 ∨ a = 6 ∨ (a < 0 ∨ 6 < a) by omega) with c25 | c25 | c25 | c25 | c25 | c25 | c25 | c25
      · refine g_tswI (tgt := 68) h 0 (by first | assumption | exact ⟨by omega, by omega⟩) (by first | omega | assumption) (by first | omega | assumption) rfl (by decide) dX12_of_25 ?_
        refine g_aload_n h dX12_of_68 rfl ?_
        refine g_getQ h flX12_25 rfl (by assumption) (by assumption) dX12_of_69 ?_
        refine g_iload h dX12_of_72 rfl ?_
        refine g_iald h (10 * L + j) (by assumption) (by first | omega | assumption) (by first | omega | assumption) (by first | decide | omega) dX12_of_74 ?_
        refine g_iret h hQ (by first | decide | omega | (simp only [clS]; omega)) (by first | decide | omega | (simp only [clS]; omega)) ?_ dX12_of_75
        first
        | (exfalso; omega)
        | (refine ⟨?_, rfl⟩
           rw [if_pos hzl]
           unfold ofM
           (repeat first | rw [if_pos (by omega)] | rw [if_neg (by omega)])
           all_goals first | rfl | (rw [show deM w L j (w.2.1 400 4) rn = 1 by omega]) | (rw [show deM w L j (w.2.1 400 4) rn = 0 by omega]))
      · refine g_tswI (tgt := 76) h 1 (by first | assumption | exact ⟨by omega, by omega⟩) (by first | omega | assumption) (by first | omega | assumption) rfl (by decide) dX12_of_25 ?_
        refine g_aload_n h dX12_of_76 rfl ?_
        refine g_getQ h flX12_29 rfl (by assumption) (by assumption) dX12_of_77 ?_
        refine g_iload h dX12_of_80 rfl ?_
        refine g_iald h (10 * L + j) (by assumption) (by first | omega | assumption) (by first | omega | assumption) (by first | decide | omega) dX12_of_82 ?_
        refine g_iret h hQ (by first | decide | omega | (simp only [clS]; omega)) (by first | decide | omega | (simp only [clS]; omega)) ?_ dX12_of_83
        first
        | (exfalso; omega)
        | (refine ⟨?_, rfl⟩
           rw [if_pos hzl]
           unfold ofM
           (repeat first | rw [if_pos (by omega)] | rw [if_neg (by omega)])
           all_goals first | rfl | (rw [show deM w L j (w.2.1 400 4) rn = 1 by omega]) | (rw [show deM w L j (w.2.1 400 4) rn = 0 by omega]))
      · refine g_tswI (tgt := 84) h 2 (by first | assumption | exact ⟨by omega, by omega⟩) (by first | omega | assumption) (by first | omega | assumption) rfl (by decide) dX12_of_25 ?_
        refine g_aload_n h dX12_of_84 rfl ?_
        refine g_getQ h flX12_32 rfl (by assumption) (by assumption) dX12_of_85 ?_
        refine g_iload h dX12_of_88 rfl ?_
        refine g_iald h (10 * L + j) (by assumption) (by first | omega | assumption) (by first | omega | assumption) (by first | decide | omega) dX12_of_90 ?_
        refine g_iret h hQ (by first | decide | omega | (simp only [clS]; omega)) (by first | decide | omega | (simp only [clS]; omega)) ?_ dX12_of_91
        first
        | (exfalso; omega)
        | (refine ⟨?_, rfl⟩
           rw [if_pos hzl]
           unfold ofM
           (repeat first | rw [if_pos (by omega)] | rw [if_neg (by omega)])
           all_goals first | rfl | (rw [show deM w L j (w.2.1 400 4) rn = 1 by omega]) | (rw [show deM w L j (w.2.1 400 4) rn = 0 by omega]))
      · refine g_tswI (tgt := 92) h 3 (by first | assumption | exact ⟨by omega, by omega⟩) (by first | omega | assumption) (by first | omega | assumption) rfl (by decide) dX12_of_25 ?_
        refine g_aload_n h dX12_of_92 rfl ?_
        refine g_getQ h flX12_25 rfl (by assumption) (by assumption) dX12_of_93 ?_
        refine g_iload h dX12_of_96 rfl ?_
        refine g_iald h (10 * L + j) (by assumption) (by first | omega | assumption) (by first | omega | assumption) (by first | decide | omega) dX12_of_98 ?_
        refine g_aload_n h dX12_of_99 rfl ?_
        refine g_getQ h flX12_29 rfl (by assumption) (by assumption) dX12_of_100 ?_
        refine g_iload h dX12_of_103 rfl ?_
        refine g_iald h (10 * L + j) (by assumption) (by first | omega | assumption) (by first | omega | assumption) (by first | decide | omega) dX12_of_105 ?_
        refine g_aload_n h dX12_of_106 rfl ?_
        refine g_getQ h flX12_32 rfl (by assumption) (by assumption) dX12_of_107 ?_
        refine g_iload h dX12_of_110 rfl ?_
        refine g_iald h (10 * L + j) (by assumption) (by first | omega | assumption) (by first | omega | assumption) (by first | decide | omega) dX12_of_112 ?_
        refine g_callS h rfl [_, _, _] (c_X12_weight _ _ _ _ _ ⟨hgk.1, hgk.2.1⟩) clX12_219 st_X12_weight rfl rfl (by rw [hRm]; first | decide | (simp only [clS]; omega)) (by rw [hRm]; first | decide | (simp only [clS]; omega)) (fun _ => Nat.le_of_ble_eq_true rfl) (by rw [hRm]; first | decide | (simp only [clS]; omega)) (by rw [hRm]; first | decide | (simp only [clS]; omega)) dX12_of_113 (fun r113 w113 hp113 => ?_)
        obtain ⟨rfl, hw113⟩ := hp113
        rw [hw113]
        refine g_iret h hQ (by first | decide | omega | (simp only [clS]; omega)) (by first | decide | omega | (simp only [clS]; omega)) ?_ dX12_of_116
        first
        | (exfalso; omega)
        | (refine ⟨?_, rfl⟩
           rw [if_pos hzl]
           unfold ofM
           (repeat first | rw [if_pos (by omega)] | rw [if_neg (by omega)])
           all_goals first | rfl | (rw [show deM w L j (w.2.1 400 4) rn = 1 by omega]) | (rw [show deM w L j (w.2.1 400 4) rn = 0 by omega]))
      · refine g_tswI (tgt := 117) h 4 (by first | assumption | exact ⟨by omega, by omega⟩) (by first | omega | assumption) (by first | omega | assumption) rfl (by decide) dX12_of_25 ?_
        refine g_aload_n h dX12_of_117 rfl ?_
        refine g_iload_n h dX12_of_118 rfl ?_
        refine g_iload_n h dX12_of_119 rfl ?_
        refine g_callV h rfl (ci := 12) [_, _] (by assumption) (c_X12_holds _ _ L j (MS_th hM) hN hL hj) clX12_192 (by decide) rfl in_X12_holds se_X12_holds rfl rfl (by rw [hRm]; first | decide | (simp only [clS]; omega)) (by rw [hRm]; first | decide | (simp only [clS]; omega)) (fun _ => Nat.le_of_ble_eq_true rfl) (by rw [hRm]; first | decide | (simp only [clS]; omega)) (by rw [hRm]; first | decide | (simp only [clS]; omega)) dX12_of_120 (fun r120 w120 hp120 => ?_)
        obtain ⟨rfl, hw120⟩ := hp120
        rw [hw120]
        refine g_iret h hQ (by first | decide | omega | (simp only [clS]; omega)) (by first | decide | omega | (simp only [clS]; omega)) ?_ dX12_of_123
        first
        | (exfalso; omega)
        | (refine ⟨?_, rfl⟩
           rw [if_pos hzl]
           unfold ofM
           (repeat first | rw [if_pos (by omega)] | rw [if_neg (by omega)])
           all_goals first | rfl | (rw [show deM w L j (w.2.1 400 4) rn = 1 by omega]) | (rw [show deM w L j (w.2.1 400 4) rn = 0 by omega]))
      · refine g_tswI (tgt := 124) h 5 (by first | assumption | exact ⟨by omega, by omega⟩) (by first | omega | assumption) (by first | omega | assumption) rfl (by decide) dX12_of_25 ?_
        refine g_aload_n h dX12_of_124 rfl ?_
        refine g_iload_n h dX12_of_125 rfl ?_
        refine g_iload_n h dX12_of_126 rfl ?_
        refine g_aload_n h dX12_of_127 rfl ?_
        refine g_getI h flX12_223 rfl (by assumption) dX12_of_128 ?_
        refine g_callV h rfl (ci := 12) [_, _, _] (by assumption) (c_X12_toldGas _ _ rn sn L j _ (MS_th hM) hN hI hL hj hd) clX12_226 (by decide) rfl in_X12_toldGas se_X12_toldGas rfl rfl (by rw [hRm]; first | decide | (simp only [clS]; omega)) (by rw [hRm]; first | decide | (simp only [clS]; omega)) (fun _ => Nat.le_of_ble_eq_true rfl) (by rw [hRm]; first | decide | (simp only [clS]; omega)) (by rw [hRm]; first | decide | (simp only [clS]; omega)) dX12_of_131 (fun r131 w131 hp131 => ?_)
        obtain ⟨rfl, hw131⟩ := hp131
        rw [hw131]
        refine g_iret h hQ (by first | decide | omega | (simp only [clS]; omega)) (by first | decide | omega | (simp only [clS]; omega)) ?_ dX12_of_134
        first
        | (exfalso; omega)
        | (refine ⟨?_, rfl⟩
           rw [if_pos hzl]
           unfold ofM
           (repeat first | rw [if_pos (by omega)] | rw [if_neg (by omega)])
           all_goals first | rfl | (rw [show deM w L j (w.2.1 400 4) rn = 1 by omega]) | (rw [show deM w L j (w.2.1 400 4) rn = 0 by omega]))
      · refine g_tswI (tgt := 135) h 6 (by first | assumption | exact ⟨by omega, by omega⟩) (by first | omega | assumption) (by first | omega | assumption) rfl (by decide) dX12_of_25 ?_
        refine g_aload_n h dX12_of_135 rfl ?_
        refine g_iload_n h dX12_of_136 rfl ?_
        refine g_iload_n h dX12_of_137 rfl ?_
        refine g_aload_n h dX12_of_138 rfl ?_
        refine g_getI h flX12_223 rfl (by assumption) dX12_of_139 ?_
        refine g_callV h rfl (ci := 12) [_, _, _] (by assumption) (c_X12_isDead _ _ rn sn L j _ (MS_th hM) hI hL hj hd) clX12_229 (by decide) rfl in_X12_isDead se_X12_isDead rfl rfl (by rw [hRm]; first | decide | (simp only [clS]; omega)) (by rw [hRm]; first | decide | (simp only [clS]; omega)) (fun _ => Nat.le_of_ble_eq_true rfl) (by rw [hRm]; first | decide | (simp only [clS]; omega)) (by rw [hRm]; first | decide | (simp only [clS]; omega)) dX12_of_142 (fun r142 w142 hp142 => ?_)
        obtain ⟨rfl, hw142⟩ := hp142
        rw [hw142]
        change GG Γ _ _ [ai (deM w L j (w.2.1 400 4) rn)] _ _ _
        refine g_if_eq (tgt := 152) h dX12_of_145 (by decide) (by first | assumption | exact ⟨by omega, by omega⟩) (fun c145 => ?_) (fun c145 => ?_)
        · refine g_iconst h dX12_of_152 ?_
          refine g_iret h hQ (by first | decide | omega | (simp only [clS]; omega)) (by first | decide | omega | (simp only [clS]; omega)) ?_ dX12_of_153
          first
          | (exfalso; omega)
          | (refine ⟨?_, rfl⟩
             rw [if_pos hzl]
             unfold ofM
             (repeat first | rw [if_pos (by omega)] | rw [if_neg (by omega)])
             all_goals first | rfl | (rw [show deM w L j (w.2.1 400 4) rn = 1 by omega]) | (rw [show deM w L j (w.2.1 400 4) rn = 0 by omega]))
        · refine g_iconst h dX12_of_148 ?_
          refine g_goto (tgt := 153) h dX12_of_149 (by decide) ?_
          refine g_iret h hQ (by first | decide | omega | (simp only [clS]; omega)) (by first | decide | omega | (simp only [clS]; omega)) ?_ dX12_of_153
          first
          | (exfalso; omega)
          | (refine ⟨?_, rfl⟩
             rw [if_pos hzl]
             unfold ofM
             (repeat first | rw [if_pos (by omega)] | rw [if_neg (by omega)])
             all_goals first | rfl | (rw [show deM w L j (w.2.1 400 4) rn = 1 by omega]) | (rw [show deM w L j (w.2.1 400 4) rn = 0 by omega]))
      · refine g_tswO (tgt := 154) h (by first | assumption | exact ⟨by omega, by omega⟩) c25 (by decide) dX12_of_25 ?_
        refine g_ldc h kcX12_15 dX12_of_154 ?_
        refine g_iret h hQ (by first | decide | omega | (simp only [clS]; omega)) (by first | decide | omega | (simp only [clS]; omega)) ?_ dX12_of_156
        first
        | (exfalso; omega)
        | (refine ⟨?_, rfl⟩
           rw [if_pos hzl]
           unfold ofM
           (repeat first | rw [if_pos (by omega)] | rw [if_neg (by omega)])
           all_goals first | rfl | (rw [show deM w L j (w.2.1 400 4) rn = 1 by omega]) | (rw [show deM w L j (w.2.1 400 4) rn = 0 by omega]))
    · exfalso; omega
  · skip
    refine g_aload_n h dX12_of_0 rfl ?_
    refine g_iconst h dX12_of_1 ?_
    refine g_putI h flX12_1 rfl rfl (by assumption) dX12_of_2 ?_
    refine g_iload_n h dX12_of_5 rfl ?_
    refine g_iload_n h dX12_of_6 rfl ?_
    refine g_callS h rfl [_, _] (c_X12_isLayer _ _ z i hz hi) clX12_203 st_X12_isLayer rfl rfl (by rw [hRm]; first | decide | (simp only [clS]; omega)) (by rw [hRm]; first | decide | (simp only [clS]; omega)) (fun _ => Nat.le_of_ble_eq_true rfl) (by rw [hRm]; first | decide | (simp only [clS]; omega)) (by rw [hRm]; first | decide | (simp only [clS]; omega)) dX12_of_7 (fun r7 w7 hp7 => ?_)
    obtain ⟨rfl, hw7⟩ := hp7
    rw [hw7]
    have hbw7 := ite01 ((0 ≤ z ∧ z < 2) ∧ 0 ≤ i ∧ i < 10)
    refine g_if_ne (tgt := 16) h dX12_of_10 (by decide) (by first | assumption | exact ⟨by omega, by omega⟩) (fun c10 => ?_) (fun c10 => ?_)
    · exfalso; omega
    · refine g_ldc h kcX12_15 dX12_of_13 ?_
      refine g_iret h hQ (by first | decide | omega | (simp only [clS]; omega)) (by first | decide | omega | (simp only [clS]; omega)) ?_ dX12_of_15
      exact ⟨congrArg (fun z => some (ai z)) (if_neg hzl).symm, rfl⟩
set_option maxRecDepth 100000 in
set_option maxHeartbeats 4000000 in
theorem c_X12_known (l : Launch) (w : AW) (rn sn : Nat) (z i d : Int) (hM : MS w) (hN : MN w) (hI : MSI w rn sn) (hd : 0 ≤ w.2.1 400 4 ∧ w.2.1 400 4 ≤ 2999) (hz : R32 z) (hi : R32 i) (hdr : R32 d) : HT l yX12_known cX12_known 4 (some .int) 6 0 0 w [ar 400, ai z, ai i, ai d] (fun r w' => r = some (ai (if ((0 ≤ z ∧ z < 2) ∧ 0 ≤ i ∧ i < 10) ∧ 0 ≤ d ∧ d ≤ w.2.1 400 4 then tgM w z.toNat i.toNat d rn sn else -2147483648)) ∧ w' = (th w)) := by
  refine HT.of (by decide) (by intro v hv; simp only [List.mem_cons, List.not_mem_nil, or_false] at hv; rcases hv with rfl | rfl | rfl | rfl <;> rfl) (Nat.le_of_ble_eq_true rfl) ?_
  intro Γ h hQ hRm hnm hl hw0
  have s400 : w.1 400 = (112, 0) := hM.1 400 (by decide) (by decide)
  by_cases hzl : (0 ≤ z ∧ z < 2) ∧ 0 ≤ i ∧ i < 10
  · obtain ⟨L, rfl⟩ : ∃ L : Nat, z = (L : Int) := ⟨z.toNat, by omega⟩
    obtain ⟨j, rfl⟩ : ∃ j : Nat, i = (j : Int) := ⟨i.toNat, by omega⟩
    have hL : L < 2 := by omega
    have hj : j < 10 := by omega
    have eL : ((L : Int)).toNat = L := Int.toNat_natCast L
    have ej : ((j : Int)).toNat = j := Int.toNat_natCast j
    rw [eL, ej] at hQ
    have e4 : (upI w 400 0 0).2.1 400 4 = w.2.1 400 4 := rfl
    refine g_aload_n h dX12_known_0 rfl ?_
    refine g_iconst h dX12_known_1 ?_
    refine g_putI h flX12_1 rfl rfl (by assumption) dX12_known_2 ?_
    refine g_iload_n h dX12_known_5 rfl ?_
    refine g_iload_n h dX12_known_6 rfl ?_
    refine g_callS h rfl [_, _] (c_X12_isLayer _ _ _ _ hz hi) clX12_203 st_X12_isLayer rfl rfl (by rw [hRm]; first | decide | (simp only [clS]; omega)) (by rw [hRm]; first | decide | (simp only [clS]; omega)) (fun _ => Nat.le_of_ble_eq_true rfl) (by rw [hRm]; first | decide | (simp only [clS]; omega)) (by rw [hRm]; first | decide | (simp only [clS]; omega)) dX12_known_7 (fun r7 w7 hp7 => ?_)
    obtain ⟨rfl, hw7⟩ := hp7
    rw [hw7]
    have hbw7 := ite01 ((0 ≤ (L : Int) ∧ (L : Int) < 2) ∧ 0 ≤ (j : Int) ∧ (j : Int) < 10)
    refine g_if_eq (tgt := 35) h dX12_known_10 (by decide) (by first | assumption | exact ⟨by omega, by omega⟩) (fun c10 => ?_) (fun c10 => ?_)
    · refine g_ldc h kcX12_15 dX12_known_35 ?_
      refine g_iret h hQ (by first | decide | omega | (simp only [clS]; omega)) (by first | decide | omega | (simp only [clS]; omega)) ?_ dX12_known_37
      first
      | (exfalso; omega)
      | (refine ⟨?_, rfl⟩
         first | rw [if_pos (by omega)] | rw [if_neg (by omega)]
         (try rfl))
    · refine g_iload_n h dX12_known_13 rfl ?_
      refine g_iconst h dX12_known_14 ?_
      refine g_aload_n h dX12_known_15 rfl ?_
      refine g_getI h flX12_223 rfl (by assumption) dX12_known_16 ?_
      refine g_callS h rfl [_, _, _] (c_X12_in _ _ _ _ _ hdr ⟨by omega, by omega⟩ ⟨by omega, by omega⟩) clX12_211 st_X12_in rfl rfl (by rw [hRm]; first | decide | (simp only [clS]; omega)) (by rw [hRm]; first | decide | (simp only [clS]; omega)) (fun _ => Nat.le_of_ble_eq_true rfl) (by rw [hRm]; first | decide | (simp only [clS]; omega)) (by rw [hRm]; first | decide | (simp only [clS]; omega)) dX12_known_19 (fun r19 w19 hp19 => ?_)
      obtain ⟨rfl, hw19⟩ := hp19
      rw [hw19]
      have hbw19 := ite01 ((0 : Int) ≤ d ∧ d ≤ w.2.1 400 4)
      refine g_if_eq (tgt := 35) h dX12_known_22 (by decide) (by first | assumption | exact ⟨by omega, by omega⟩) (fun c22 => ?_) (fun c22 => ?_)
      · refine g_ldc h kcX12_15 dX12_known_35 ?_
        refine g_iret h hQ (by first | decide | omega | (simp only [clS]; omega)) (by first | decide | omega | (simp only [clS]; omega)) ?_ dX12_known_37
        first
        | (exfalso; omega)
        | (refine ⟨?_, rfl⟩
           first | rw [if_pos (by omega)] | rw [if_neg (by omega)]
           (try rfl))
      · refine g_aload_n h dX12_known_25 rfl ?_
        refine g_iload_n h dX12_known_26 rfl ?_
        refine g_iload_n h dX12_known_27 rfl ?_
        refine g_iload_n h dX12_known_28 rfl ?_
        refine g_callV h rfl (ci := 12) [_, _, _] (by assumption) (c_X12_toldGas _ _ rn sn L j _ (MS_th hM) hN hI hL hj ⟨by omega, by omega⟩) clX12_226 (by decide) rfl in_X12_toldGas se_X12_toldGas rfl rfl (by rw [hRm]; first | decide | (simp only [clS]; omega)) (by rw [hRm]; first | decide | (simp only [clS]; omega)) (fun _ => Nat.le_of_ble_eq_true rfl) (by rw [hRm]; first | decide | (simp only [clS]; omega)) (by rw [hRm]; first | decide | (simp only [clS]; omega)) dX12_known_29 (fun r29 w29 hp29 => ?_)
        obtain ⟨rfl, hw29⟩ := hp29
        rw [hw29]
        refine g_goto (tgt := 37) h dX12_known_32 (by decide) ?_
        refine g_iret h hQ (by first | decide | omega | (simp only [clS]; omega)) (by first | decide | omega | (simp only [clS]; omega)) ?_ dX12_known_37
        first
        | (exfalso; omega)
        | (refine ⟨?_, rfl⟩
           first | rw [if_pos (by omega)] | rw [if_neg (by omega)]
           (try rfl))
  · skip
    refine g_aload_n h dX12_known_0 rfl ?_
    refine g_iconst h dX12_known_1 ?_
    refine g_putI h flX12_1 rfl rfl (by assumption) dX12_known_2 ?_
    refine g_iload_n h dX12_known_5 rfl ?_
    refine g_iload_n h dX12_known_6 rfl ?_
    refine g_callS h rfl [_, _] (c_X12_isLayer _ _ z i hz hi) clX12_203 st_X12_isLayer rfl rfl (by rw [hRm]; first | decide | (simp only [clS]; omega)) (by rw [hRm]; first | decide | (simp only [clS]; omega)) (fun _ => Nat.le_of_ble_eq_true rfl) (by rw [hRm]; first | decide | (simp only [clS]; omega)) (by rw [hRm]; first | decide | (simp only [clS]; omega)) dX12_known_7 (fun r7 w7 hp7 => ?_)
    obtain ⟨rfl, hw7⟩ := hp7
    rw [hw7]
    have hbw7 := ite01 ((0 ≤ z ∧ z < 2) ∧ 0 ≤ i ∧ i < 10)
    refine g_if_eq (tgt := 35) h dX12_known_10 (by decide) (by first | assumption | exact ⟨by omega, by omega⟩) (fun c10 => ?_) (fun c10 => ?_)
    · refine g_ldc h kcX12_15 dX12_known_35 ?_
      refine g_iret h hQ (by first | decide | omega | (simp only [clS]; omega)) (by first | decide | omega | (simp only [clS]; omega)) ?_ dX12_known_37
      exact ⟨congrArg (fun z => some (ai z)) (if_neg (by omega)).symm, rfl⟩
    · exfalso; omega
theorem lrF_at {a d : Nat → Int} {key f l : Int} : ∀ (n i : Nat), lrF a d key f l n = some i → a i = key ∧ f ≤ d i ∧ d i ≤ l
  | 0, _, h => by cases h
  | n + 1, i, h => by
    unfold lrF at h
    split at h
    · cases h; assumption
    · exact lrF_at n i h
theorem rd_day {w : AW} {rn sn : Nat} {key d : Int} (hI : MSI w rn sn) (h : rdM w key d rn ≠ -1) : 0 ≤ d ∧ d ≤ 2999 := by
  unfold rdM at h
  cases e : lrF (w.2.1 460) (w.2.1 461) key d d rn with
  | none => exact absurd (roF_no e) h
  | some i =>
    have h1 := lrF_lt2 rn i e
    have h2 := lrF_at rn i e
    have h3 := hI.2.2.2.2.1 i h1
    omega
set_option maxRecDepth 100000 in
set_option maxHeartbeats 4000000 in
theorem c_X12_right (l : Launch) (w : AW) (rn sn : Nat) (z i d : Int) (hM : MS w) (hN : MN w) (hI : MSI w rn sn) (hd : 0 ≤ w.2.1 400 4 ∧ w.2.1 400 4 ≤ 2999) (hz : R32 z) (hi : R32 i) (hdr : R32 d) : HT l yX12_right cX12_right 4 (some .int) 5 0 0 w [ar 400, ai z, ai i, ai d] (fun r w' => r = some (ai (if (0 ≤ z ∧ z < 2) ∧ 0 ≤ i ∧ i < 10 then if rdM w (kyM z.toNat i.toNat) d rn = -1 then -2147483648 else prM w (kyM z.toNat i.toNat) d (w.2.1 400 4) rn sn else -2147483648)) ∧ w' = (th w)) := by
  refine HT.of (by decide) (by intro v hv; simp only [List.mem_cons, List.not_mem_nil, or_false] at hv; rcases hv with rfl | rfl | rfl | rfl <;> rfl) (Nat.le_of_ble_eq_true rfl) ?_
  intro Γ h hQ hRm hnm hl hw0
  have s400 : w.1 400 = (112, 0) := hM.1 400 (by decide) (by decide)
  by_cases hzl : (0 ≤ z ∧ z < 2) ∧ 0 ≤ i ∧ i < 10
  · obtain ⟨L, rfl⟩ : ∃ L : Nat, z = (L : Int) := ⟨z.toNat, by omega⟩
    obtain ⟨j, rfl⟩ : ∃ j : Nat, i = (j : Int) := ⟨i.toNat, by omega⟩
    have hL : L < 2 := by omega
    have hj : j < 10 := by omega
    have eL : ((L : Int)).toNat = L := Int.toNat_natCast L
    have ej : ((j : Int)).toNat = j := Int.toNat_natCast j
    rw [eL, ej] at hQ
    have hky : R32 (kyM L j) := by unfold kyM; omega
    have e4 : (upI w 400 0 0).2.1 400 4 = w.2.1 400 4 := rfl
    refine g_aload_n h dX12_right_0 rfl ?_
    refine g_iconst h dX12_right_1 ?_
    refine g_putI h flX12_1 rfl rfl (by assumption) dX12_right_2 ?_
    refine g_iload_n h dX12_right_5 rfl ?_
    refine g_iload_n h dX12_right_6 rfl ?_
    refine g_callS h rfl [_, _] (c_X12_isLayer _ _ _ _ hz hi) clX12_203 st_X12_isLayer rfl rfl (by rw [hRm]; first | decide | (simp only [clS]; omega)) (by rw [hRm]; first | decide | (simp only [clS]; omega)) (fun _ => Nat.le_of_ble_eq_true rfl) (by rw [hRm]; first | decide | (simp only [clS]; omega)) (by rw [hRm]; first | decide | (simp only [clS]; omega)) dX12_right_7 (fun r7 w7 hp7 => ?_)
    obtain ⟨rfl, hw7⟩ := hp7
    rw [hw7]
    have hbw7 := ite01 ((0 ≤ (L : Int) ∧ (L : Int) < 2) ∧ 0 ≤ (j : Int) ∧ (j : Int) < 10)
    refine g_if_eq (tgt := 28) h dX12_right_10 (by decide) (by first | assumption | exact ⟨by omega, by omega⟩) (fun c10 => ?_) (fun c10 => ?_)
    · refine g_ldc h kcX12_15 dX12_right_28 ?_
      refine g_iret h hQ (by first | decide | omega | (simp only [clS]; omega)) (by first | decide | omega | (simp only [clS]; omega)) ?_ dX12_right_30
      first
      | (exfalso; omega)
      | (refine ⟨?_, rfl⟩
         rw [if_pos hzl]
         first | rw [if_pos (by assumption)] | rw [if_neg (by assumption)]
         (try rfl))
    · refine g_aload_n h dX12_right_13 rfl ?_
      refine g_bipush h dX12_right_14 rfl ?_
      refine g_iload_n h dX12_right_16 rfl ?_
      refine g_imul h dX12_right_17 ?_
      refine g_iload_n h dX12_right_18 rfl ?_
      refine g_iadd h dX12_right_19 ?_
      refine g_iload_n h dX12_right_20 rfl ?_
      refine g_callV h rfl (ci := 12) [_, _] (by assumption) (c_X12_readingOn _ _ rn sn (kyM L j) d (MS_th hM) hI hky hdr) clX12_492 (by decide) rfl in_X12_readingOn se_X12_readingOn rfl rfl (by rw [hRm]; first | decide | (simp only [clS]; omega)) (by rw [hRm]; first | decide | (simp only [clS]; omega)) (fun _ => Nat.le_of_ble_eq_true rfl) (by rw [hRm]; first | decide | (simp only [clS]; omega)) (by rw [hRm]; first | decide | (simp only [clS]; omega)) dX12_right_21 (fun r21 w21 hp21 => ?_)
      obtain ⟨rfl, hw21⟩ := hp21
      rw [hw21]
      change GG Γ _ _ [ai (rdM w (kyM L j) d rn)] _ _ _
      have hrb := rdM_bd hI (kyM L j) d
      refine g_iconst h dX12_right_24 ?_
      refine g_icmp_ne (tgt := 31) h dX12_right_25 (by decide) (by first | assumption | exact ⟨by omega, by omega⟩) (by first | assumption | exact ⟨by omega, by omega⟩) (fun c25 => ?_) (fun c25 => ?_)
      · refine g_aload_n h dX12_right_31 rfl ?_
        refine g_bipush h dX12_right_32 rfl ?_
        refine g_iload_n h dX12_right_34 rfl ?_
        refine g_imul h dX12_right_35 ?_
        refine g_iload_n h dX12_right_36 rfl ?_
        refine g_iadd h dX12_right_37 ?_
        refine g_iload_n h dX12_right_38 rfl ?_
        refine g_aload_n h dX12_right_39 rfl ?_
        refine g_getI h flX12_223 rfl (by assumption) dX12_right_40 ?_
        have hdy := rd_day hI (show rdM w (kyM L j) d rn ≠ -1 by assumption)
        refine g_callV h rfl (ci := 12) [_, _, _] (by assumption) (c_X12_putRight _ _ rn sn (kyM L j) d _ (MS_th hM) hI hky hdy ⟨by omega, by omega⟩) clX12_512 (by decide) rfl in_X12_putRight se_X12_putRight rfl rfl (by rw [hRm]; first | decide | (simp only [clS]; omega)) (by rw [hRm]; first | decide | (simp only [clS]; omega)) (fun _ => Nat.le_of_ble_eq_true rfl) (by rw [hRm]; first | decide | (simp only [clS]; omega)) (by rw [hRm]; first | decide | (simp only [clS]; omega)) dX12_right_43 (fun r43 w43 hp43 => ?_)
        obtain ⟨rfl, hw43⟩ := hp43
        rw [hw43]
        refine g_iret h hQ (by first | decide | omega | (simp only [clS]; omega)) (by first | decide | omega | (simp only [clS]; omega)) ?_ dX12_right_46
        first
        | (exfalso; omega)
        | (refine ⟨?_, rfl⟩
           rw [if_pos hzl]
           first | rw [if_pos (by assumption)] | rw [if_neg (by assumption)]
           (try rfl))
      · refine g_ldc h kcX12_15 dX12_right_28 ?_
        refine g_iret h hQ (by first | decide | omega | (simp only [clS]; omega)) (by first | decide | omega | (simp only [clS]; omega)) ?_ dX12_right_30
        first
        | (exfalso; omega)
        | (refine ⟨?_, rfl⟩
           rw [if_pos hzl]
           first | rw [if_pos (by assumption)] | rw [if_neg (by assumption)]
           (try rfl))
  · skip
    refine g_aload_n h dX12_right_0 rfl ?_
    refine g_iconst h dX12_right_1 ?_
    refine g_putI h flX12_1 rfl rfl (by assumption) dX12_right_2 ?_
    refine g_iload_n h dX12_right_5 rfl ?_
    refine g_iload_n h dX12_right_6 rfl ?_
    refine g_callS h rfl [_, _] (c_X12_isLayer _ _ z i hz hi) clX12_203 st_X12_isLayer rfl rfl (by rw [hRm]; first | decide | (simp only [clS]; omega)) (by rw [hRm]; first | decide | (simp only [clS]; omega)) (fun _ => Nat.le_of_ble_eq_true rfl) (by rw [hRm]; first | decide | (simp only [clS]; omega)) (by rw [hRm]; first | decide | (simp only [clS]; omega)) dX12_right_7 (fun r7 w7 hp7 => ?_)
    obtain ⟨rfl, hw7⟩ := hp7
    rw [hw7]
    have hbw7 := ite01 ((0 ≤ z ∧ z < 2) ∧ 0 ≤ i ∧ i < 10)
    refine g_if_eq (tgt := 28) h dX12_right_10 (by decide) (by first | assumption | exact ⟨by omega, by omega⟩) (fun c10 => ?_) (fun c10 => ?_)
    · refine g_ldc h kcX12_15 dX12_right_28 ?_
      refine g_iret h hQ (by first | decide | omega | (simp only [clS]; omega)) (by first | decide | omega | (simp only [clS]; omega)) ?_ dX12_right_30
      exact ⟨congrArg (fun z => some (ai z)) (if_neg (by omega)).symm, rfl⟩
    · exfalso; omega
def reW (w : AW) (rn : Nat) (key gas : Int) : AW := upI (upI (upI (upI w 460 rn key) 461 rn (w.2.1 400 4)) 462 rn gas) 400 58 ((rn : Int) + 1)
def soW (w : AW) (sn : Nat) (key gas : Int) : AW := upI (upI (upI (upI w 463 sn key) 464 sn (w.2.1 400 4)) 465 sn gas) 400 59 ((sn : Int) + 1)
set_option maxRecDepth 100000 in
set_option maxHeartbeats 4000000 in
theorem c_X12_reading (l : Launch) (w : AW) (rn sn : Nat) (z i g : Int) (hM : MS w) (hN : MN w) (hI : MSI w rn sn) (hd : 0 ≤ w.2.1 400 4 ∧ w.2.1 400 4 ≤ 2999) (hz : R32 z) (hi : R32 i) (hg : R32 g) : HT l yX12_reading cX12_reading 4 (some .boolean) 3 0 0 w [ar 400, ai z, ai i, ai g] (fun r w' => r = some (ai (if (0 ≤ z ∧ z < 2) ∧ 0 ≤ i ∧ i < 10 then if 0 ≤ g ∧ g ≤ 100000 then if rn = 300 then 0 else 1 else 0 else 0)) ∧ w' = (if (0 ≤ z ∧ z < 2) ∧ 0 ≤ i ∧ i < 10 then if 0 ≤ g ∧ g ≤ 100000 then if rn = 300 then tM (th w) 3 else tM (reW (th w) rn (10 * z + i) g) 0 else tM (th w) 2 else tM (th w) 1)) := by
  refine HT.of (by decide) (by intro v hv; simp only [List.mem_cons, List.not_mem_nil, or_false] at hv; rcases hv with rfl | rfl | rfl | rfl <;> rfl) (Nat.le_of_ble_eq_true rfl) ?_
  intro Γ h hQ hRm hnm hl hw0
  have s400 : w.1 400 = (112, 0) := hM.1 400 (by decide) (by decide)
  have s460 : w.1 460 = (1, 300) := hM.1 460 (by decide) (by decide)
  have s461 : w.1 461 = (1, 300) := hM.1 461 (by decide) (by decide)
  have s462 : w.1 462 = (1, 300) := hM.1 462 (by decide) (by decide)
  have p60 : w.2.2 400 60 = some 460 := hM.2 (400, 60, 460) (by decide)
  have p61 : w.2.2 400 61 = some 461 := hM.2 (400, 61, 461) (by decide)
  have p62 : w.2.2 400 62 = some 462 := hM.2 (400, 62, 462) (by decide)
  obtain ⟨hrn, hrn3, hsn, hsn3, hr, hs⟩ := id hI
  have e58 : (upI w 400 0 0).2.1 400 58 = (rn : Int) := hrn
  refine g_aload_n h dX12_reading_0 rfl ?_
  refine g_iconst h dX12_reading_1 ?_
  refine g_putI h flX12_1 rfl rfl (by assumption) dX12_reading_2 ?_
  refine g_iload_n h dX12_reading_5 rfl ?_
  refine g_iload_n h dX12_reading_6 rfl ?_
  refine g_callS h rfl [_, _] (c_X12_isLayer _ _ z i hz hi) clX12_203 st_X12_isLayer rfl rfl (by rw [hRm]; first | decide | (simp only [clS]; omega)) (by rw [hRm]; first | decide | (simp only [clS]; omega)) (fun _ => Nat.le_of_ble_eq_true rfl) (by rw [hRm]; first | decide | (simp only [clS]; omega)) (by rw [hRm]; first | decide | (simp only [clS]; omega)) dX12_reading_7 (fun r7 w7 hp7 => ?_)
  obtain ⟨rfl, hw7⟩ := hp7
  rw [hw7]
  have hbw7 := ite01 ((0 ≤ z ∧ z < 2) ∧ 0 ≤ i ∧ i < 10)
  refine g_if_ne (tgt := 19) h dX12_reading_10 (by decide) (by first | assumption | exact ⟨by omega, by omega⟩) (fun c10 => ?_) (fun c10 => ?_)
  · refine g_iload_n h dX12_reading_19 rfl ?_
    refine g_iconst h dX12_reading_20 ?_
    refine g_ldc h kcX12_210 dX12_reading_21 ?_
    refine g_callS h rfl [_, _, _] (c_X12_in _ _ _ _ _ hg ⟨by omega, by omega⟩ ⟨by omega, by omega⟩) clX12_211 st_X12_in rfl rfl (by rw [hRm]; first | decide | (simp only [clS]; omega)) (by rw [hRm]; first | decide | (simp only [clS]; omega)) (fun _ => Nat.le_of_ble_eq_true rfl) (by rw [hRm]; first | decide | (simp only [clS]; omega)) (by rw [hRm]; first | decide | (simp only [clS]; omega)) dX12_reading_23 (fun r23 w23 hp23 => ?_)
    obtain ⟨rfl, hw23⟩ := hp23
    rw [hw23]
    have hbw23 := ite01 ((0 : Int) ≤ g ∧ g ≤ 100000)
    refine g_if_ne (tgt := 35) h dX12_reading_26 (by decide) (by first | assumption | exact ⟨by omega, by omega⟩) (fun c26 => ?_) (fun c26 => ?_)
    · refine g_aload_n h dX12_reading_35 rfl ?_
      refine g_getI h flX12_483 rfl (by assumption) dX12_reading_36 ?_
      rw [e58]
      refine g_sipush h dX12_reading_39 rfl ?_
      refine g_icmp_ne (tgt := 51) h dX12_reading_42 (by decide) (by first | assumption | exact ⟨by omega, by omega⟩) (by first | assumption | exact ⟨by omega, by omega⟩) (fun c42 => ?_) (fun c42 => ?_)
      · refine g_aload_n h dX12_reading_51 rfl ?_
        refine g_getQ h flX12_137 rfl (by assumption) (by assumption) dX12_reading_52 ?_
        refine g_aload_n h dX12_reading_55 rfl ?_
        refine g_getI h flX12_483 rfl (by assumption) dX12_reading_56 ?_
        refine g_bipush h dX12_reading_59 rfl ?_
        refine g_iload_n h dX12_reading_61 rfl ?_
        refine g_imul h dX12_reading_62 ?_
        refine g_iload_n h dX12_reading_63 rfl ?_
        refine g_iadd h dX12_reading_64 ?_
        refine g_iast h (rn) (by assumption) (by first | omega | assumption) (by first | omega | assumption) (by first | decide | omega) dX12_reading_65 ?_
        refine g_aload_n h dX12_reading_66 rfl ?_
        refine g_getQ h flX12_140 rfl (by assumption) (by assumption) dX12_reading_67 ?_
        refine g_aload_n h dX12_reading_70 rfl ?_
        refine g_getI h flX12_483 rfl (by assumption) dX12_reading_71 ?_
        refine g_aload_n h dX12_reading_74 rfl ?_
        refine g_getI h flX12_223 rfl (by assumption) dX12_reading_75 ?_
        refine g_iast h (rn) (by assumption) (by first | omega | assumption) (by first | omega | assumption) (by first | decide | omega) dX12_reading_78 ?_
        refine g_aload_n h dX12_reading_79 rfl ?_
        refine g_getQ h flX12_143 rfl (by assumption) (by assumption) dX12_reading_80 ?_
        refine g_aload_n h dX12_reading_83 rfl ?_
        refine g_getI h flX12_483 rfl (by assumption) dX12_reading_84 ?_
        refine g_iload_n h dX12_reading_87 rfl ?_
        refine g_iast h (rn) (by assumption) (by first | omega | assumption) (by first | omega | assumption) (by first | decide | omega) dX12_reading_88 ?_
        refine g_aload_n h dX12_reading_89 rfl ?_
        refine g_dup h dX12_reading_90 rfl ?_
        refine g_getI h flX12_483 rfl (by assumption) dX12_reading_91 ?_
        refine g_iconst h dX12_reading_94 ?_
        refine g_iadd h dX12_reading_95 ?_
        refine g_putI h flX12_483 rfl rfl (by assumption) dX12_reading_96 ?_
        refine g_aload_n h dX12_reading_99 rfl ?_
        refine g_callV h rfl (ci := 12) [] (by assumption) (c_X12_granted _ _ (MS_of rfl rfl hM)) clX12_215 (by decide) rfl in_X12_granted se_X12_granted rfl rfl (by rw [hRm]; first | decide | (simp only [clS]; omega)) (by rw [hRm]; first | decide | (simp only [clS]; omega)) (fun _ => Nat.le_of_ble_eq_true rfl) (by rw [hRm]; first | decide | (simp only [clS]; omega)) (by rw [hRm]; first | decide | (simp only [clS]; omega)) dX12_reading_100 (fun r100 w100 hp100 => ?_)
        obtain ⟨rfl, hw100⟩ := hp100
        rw [hw100]
        refine g_zret h hQ (by first | decide | omega | (simp only [clS]; omega)) (by first | decide | omega | (simp only [clS]; omega)) (by omega) ?_ dX12_reading_103
        first
        | (exfalso; omega)
        | (refine ⟨?_, ?_⟩ <;> (repeat first | rw [if_pos (by omega)] | rw [if_neg (by omega)]) <;> first | rfl | (unfold reW; rw [← hrn]; rfl))
      · refine g_aload_n h dX12_reading_45 rfl ?_
        refine g_iconst h dX12_reading_46 ?_
        refine g_callV h rfl (ci := 12) [_] (by assumption) (c_X12_denied _ _ _ (MS_of rfl rfl hM)) clX12_207 (by decide) rfl in_X12_denied se_X12_denied rfl rfl (by rw [hRm]; first | decide | (simp only [clS]; omega)) (by rw [hRm]; first | decide | (simp only [clS]; omega)) (fun _ => Nat.le_of_ble_eq_true rfl) (by rw [hRm]; first | decide | (simp only [clS]; omega)) (by rw [hRm]; first | decide | (simp only [clS]; omega)) dX12_reading_47 (fun r47 w47 hp47 => ?_)
        obtain ⟨rfl, hw47⟩ := hp47
        rw [hw47]
        refine g_zret h hQ (by first | decide | omega | (simp only [clS]; omega)) (by first | decide | omega | (simp only [clS]; omega)) (by omega) ?_ dX12_reading_50
        first
        | (exfalso; omega)
        | (refine ⟨?_, ?_⟩ <;> (repeat first | rw [if_pos (by omega)] | rw [if_neg (by omega)]) <;> first | rfl | (unfold reW; rw [← hrn]; rfl))
    · refine g_aload_n h dX12_reading_29 rfl ?_
      refine g_iconst h dX12_reading_30 ?_
      refine g_callV h rfl (ci := 12) [_] (by assumption) (c_X12_denied _ _ _ (MS_of rfl rfl hM)) clX12_207 (by decide) rfl in_X12_denied se_X12_denied rfl rfl (by rw [hRm]; first | decide | (simp only [clS]; omega)) (by rw [hRm]; first | decide | (simp only [clS]; omega)) (fun _ => Nat.le_of_ble_eq_true rfl) (by rw [hRm]; first | decide | (simp only [clS]; omega)) (by rw [hRm]; first | decide | (simp only [clS]; omega)) dX12_reading_31 (fun r31 w31 hp31 => ?_)
      obtain ⟨rfl, hw31⟩ := hp31
      rw [hw31]
      refine g_zret h hQ (by first | decide | omega | (simp only [clS]; omega)) (by first | decide | omega | (simp only [clS]; omega)) (by omega) ?_ dX12_reading_34
      first
      | (exfalso; omega)
      | (refine ⟨?_, ?_⟩ <;> (repeat first | rw [if_pos (by omega)] | rw [if_neg (by omega)]) <;> first | rfl | (unfold reW; rw [← hrn]; rfl))
  · refine g_aload_n h dX12_reading_13 rfl ?_
    refine g_iconst h dX12_reading_14 ?_
    refine g_callV h rfl (ci := 12) [_] (by assumption) (c_X12_denied _ _ _ (MS_of rfl rfl hM)) clX12_207 (by decide) rfl in_X12_denied se_X12_denied rfl rfl (by rw [hRm]; first | decide | (simp only [clS]; omega)) (by rw [hRm]; first | decide | (simp only [clS]; omega)) (fun _ => Nat.le_of_ble_eq_true rfl) (by rw [hRm]; first | decide | (simp only [clS]; omega)) (by rw [hRm]; first | decide | (simp only [clS]; omega)) dX12_reading_15 (fun r15 w15 hp15 => ?_)
    obtain ⟨rfl, hw15⟩ := hp15
    rw [hw15]
    refine g_zret h hQ (by first | decide | omega | (simp only [clS]; omega)) (by first | decide | omega | (simp only [clS]; omega)) (by omega) ?_ dX12_reading_18
    first
    | (exfalso; omega)
    | (refine ⟨?_, ?_⟩ <;> (repeat first | rw [if_pos (by omega)] | rw [if_neg (by omega)]) <;> first | rfl | (unfold reW; rw [← hrn]; rfl))
theorem so_ok {w : AW} {rn sn : Nat} {key g : Int} (hI : MSI w rn sn) (h60 : sn < 60) (hd : 0 ≤ w.2.1 400 4 ∧ w.2.1 400 4 ≤ 2999) (hk : 0 ≤ key ∧ key < 20) (hg : 0 ≤ g ∧ g ≤ 100000) : MSI (soW (th w) sn key g) rn (sn + 1) := by
  obtain ⟨a1, a2, a3, a4, a5, a6⟩ := hI
  refine ⟨a1, a2, ?_, by omega, a5, fun i hi => ?_⟩
  · show ((sn : Int) + 1) = ((sn + 1 : Nat) : Int)
    omega
  · by_cases e : i = sn
    · subst e
      have e1 : (soW (th w) i key g).2.1 463 i = key := if_pos rfl
      have e2 : (soW (th w) i key g).2.1 464 i = w.2.1 400 4 := if_pos rfl
      have e3 : (soW (th w) i key g).2.1 465 i = g := if_pos rfl
      rw [e1, e2, e3]
      exact ⟨hk.1, hk.2, hd.1, hd.2, hg.1, hg.2⟩
    · have e1 : (soW (th w) sn key g).2.1 463 i = w.2.1 463 i := if_neg e
      have e2 : (soW (th w) sn key g).2.1 464 i = w.2.1 464 i := if_neg e
      have e3 : (soW (th w) sn key g).2.1 465 i = w.2.1 465 i := if_neg e
      rw [e1, e2, e3]
      exact a6 i (by omega)
set_option maxRecDepth 100000 in
set_option maxHeartbeats 4000000 in
theorem c_X12_sounding (l : Launch) (w : AW) (rn sn : Nat) (z i g : Int) (hM : MS w) (hN : MN w) (hI : MSI w rn sn) (hd : 0 ≤ w.2.1 400 4 ∧ w.2.1 400 4 ≤ 2999) (hz : R32 z) (hi : R32 i) (hg : R32 g) : HT l yX12_sounding cX12_sounding 5 (some .int) 3 0 0 w [ar 400, ai z, ai i, ai g] (fun r w' => r = some (ai (if (0 ≤ z ∧ z < 2) ∧ 0 ≤ i ∧ i < 10 then if 0 ≤ g ∧ g ≤ 100000 then if rdM w (10 * z + i) (w.2.1 400 4) rn = -1 then -2147483648 else if sn = 60 then -2147483648 else drM (soW (th w) sn (10 * z + i) g) (10 * z + i) (w.2.1 400 4) rn (sn + 1) else -2147483648 else -2147483648)) ∧ w' = (if (0 ≤ z ∧ z < 2) ∧ 0 ≤ i ∧ i < 10 then if 0 ≤ g ∧ g ≤ 100000 then if rdM w (10 * z + i) (w.2.1 400 4) rn = -1 then tM (th w) 5 else if sn = 60 then tM (th w) 3 else tM (soW (th w) sn (10 * z + i) g) 0 else tM (th w) 2 else tM (th w) 1)) := by
  refine HT.of (by decide) (by intro v hv; simp only [List.mem_cons, List.not_mem_nil, or_false] at hv; rcases hv with rfl | rfl | rfl | rfl <;> rfl) (Nat.le_of_ble_eq_true rfl) ?_
  intro Γ h hQ hRm hnm hl hw0
  have s400 : w.1 400 = (112, 0) := hM.1 400 (by decide) (by decide)
  have s463 : w.1 463 = (1, 60) := hM.1 463 (by decide) (by decide)
  have s464 : w.1 464 = (1, 60) := hM.1 464 (by decide) (by decide)
  have s465 : w.1 465 = (1, 60) := hM.1 465 (by decide) (by decide)
  have p63 : w.2.2 400 63 = some 463 := hM.2 (400, 63, 463) (by decide)
  have p64 : w.2.2 400 64 = some 464 := hM.2 (400, 64, 464) (by decide)
  have p65 : w.2.2 400 65 = some 465 := hM.2 (400, 65, 465) (by decide)
  obtain ⟨hrn, hrn3, hsn, hsn3, hr, hs⟩ := id hI
  have e59 : (upI w 400 0 0).2.1 400 59 = (sn : Int) := hsn
  have e4 : (upI w 400 0 0).2.1 400 4 = w.2.1 400 4 := rfl
  refine g_aload_n h dX12_sounding_0 rfl ?_
  refine g_iconst h dX12_sounding_1 ?_
  refine g_putI h flX12_1 rfl rfl (by first | assumption | (show w.1 400 = _; assumption)) dX12_sounding_2 ?_
  refine g_iload_n h dX12_sounding_5 rfl ?_
  refine g_iload_n h dX12_sounding_6 rfl ?_
  refine g_callS h rfl [_, _] (c_X12_isLayer _ _ z i hz hi) clX12_203 st_X12_isLayer rfl rfl (by rw [hRm]; first | decide | (simp only [clS]; omega)) (by rw [hRm]; first | decide | (simp only [clS]; omega)) (fun _ => Nat.le_of_ble_eq_true rfl) (by rw [hRm]; first | decide | (simp only [clS]; omega)) (by rw [hRm]; first | decide | (simp only [clS]; omega)) dX12_sounding_7 (fun r7 w7 hp7 => ?_)
  obtain ⟨rfl, hw7⟩ := hp7
  rw [hw7]
  have hbw7 := ite01 ((0 ≤ z ∧ z < 2) ∧ 0 ≤ i ∧ i < 10)
  refine g_if_ne (tgt := 19) h dX12_sounding_10 (by decide) (by first | assumption | exact ⟨by omega, by omega⟩) (fun c10 => ?_) (fun c10 => ?_)
  · refine g_iload_n h dX12_sounding_19 rfl ?_
    refine g_iconst h dX12_sounding_20 ?_
    refine g_ldc h kcX12_210 dX12_sounding_21 ?_
    refine g_callS h rfl [_, _, _] (c_X12_in _ _ _ _ _ hg ⟨by omega, by omega⟩ ⟨by omega, by omega⟩) clX12_211 st_X12_in rfl rfl (by rw [hRm]; first | decide | (simp only [clS]; omega)) (by rw [hRm]; first | decide | (simp only [clS]; omega)) (fun _ => Nat.le_of_ble_eq_true rfl) (by rw [hRm]; first | decide | (simp only [clS]; omega)) (by rw [hRm]; first | decide | (simp only [clS]; omega)) dX12_sounding_23 (fun r23 w23 hp23 => ?_)
    obtain ⟨rfl, hw23⟩ := hp23
    rw [hw23]
    have hbw23 := ite01 ((0 : Int) ≤ g ∧ g ≤ 100000)
    refine g_if_ne (tgt := 35) h dX12_sounding_26 (by decide) (by first | assumption | exact ⟨by omega, by omega⟩) (fun c26 => ?_) (fun c26 => ?_)
    · refine g_bipush h dX12_sounding_35 rfl ?_
      refine g_iload_n h dX12_sounding_37 rfl ?_
      refine g_imul h dX12_sounding_38 ?_
      refine g_iload_n h dX12_sounding_39 rfl ?_
      refine g_iadd h dX12_sounding_40 ?_
      refine g_istore h dX12_sounding_41 (Nat.le_of_ble_eq_true rfl) rfl rfl ?_
      refine g_aload_n h dX12_sounding_43 rfl ?_
      refine g_iload h dX12_sounding_44 rfl ?_
      refine g_aload_n h dX12_sounding_46 rfl ?_
      refine g_getI h flX12_223 rfl (by first | assumption | (show w.1 400 = _; assumption)) dX12_sounding_47 ?_
      refine g_callV h rfl (ci := 12) [_, _] (by first | assumption | (show w.1 400 = _; assumption)) (c_X12_readingOn _ _ rn sn (10 * z + i) _ (MS_th hM) hI ⟨by omega, by omega⟩ ⟨by omega, by omega⟩) clX12_492 (by decide) rfl in_X12_readingOn se_X12_readingOn rfl rfl (by rw [hRm]; first | decide | (simp only [clS]; omega)) (by rw [hRm]; first | decide | (simp only [clS]; omega)) (fun _ => Nat.le_of_ble_eq_true rfl) (by rw [hRm]; first | decide | (simp only [clS]; omega)) (by rw [hRm]; first | decide | (simp only [clS]; omega)) dX12_sounding_50 (fun r50 w50 hp50 => ?_)
      obtain ⟨rfl, hw50⟩ := hp50
      rw [hw50]
      change GG Γ _ _ [ai (rdM w (10 * z + i) (w.2.1 400 4) rn)] _ _ _
      have hrb := rdM_bd hI (10 * z + i) (w.2.1 400 4)
      refine g_iconst h dX12_sounding_53 ?_
      refine g_icmp_ne (tgt := 63) h dX12_sounding_54 (by decide) (by first | assumption | exact ⟨by omega, by omega⟩) (by first | assumption | exact ⟨by omega, by omega⟩) (fun c54 => ?_) (fun c54 => ?_)
      · refine g_aload_n h dX12_sounding_63 rfl ?_
        refine g_getI h flX12_486 rfl (by first | assumption | (show w.1 400 = _; assumption)) dX12_sounding_64 ?_
        rw [e59]
        refine g_bipush h dX12_sounding_67 rfl ?_
        refine g_icmp_ne (tgt := 78) h dX12_sounding_69 (by decide) (by first | assumption | exact ⟨by omega, by omega⟩) (by first | assumption | exact ⟨by omega, by omega⟩) (fun c69 => ?_) (fun c69 => ?_)
        · refine g_aload_n h dX12_sounding_78 rfl ?_
          refine g_getQ h flX12_146 rfl (by first | assumption | (show w.1 400 = _; assumption)) (by first | assumption | (show w.1 400 = _; assumption)) dX12_sounding_79 ?_
          refine g_aload_n h dX12_sounding_82 rfl ?_
          refine g_getI h flX12_486 rfl (by first | assumption | (show w.1 400 = _; assumption)) dX12_sounding_83 ?_
          refine g_iload h dX12_sounding_86 rfl ?_
          refine g_iast h (sn) (by first | assumption | (show w.1 400 = _; assumption)) (by first | omega | assumption) (by first | omega | assumption) (by first | decide | omega) dX12_sounding_88 ?_
          refine g_aload_n h dX12_sounding_89 rfl ?_
          refine g_getQ h flX12_149 rfl (by first | assumption | (show w.1 400 = _; assumption)) (by first | assumption | (show w.1 400 = _; assumption)) dX12_sounding_90 ?_
          refine g_aload_n h dX12_sounding_93 rfl ?_
          refine g_getI h flX12_486 rfl (by first | assumption | (show w.1 400 = _; assumption)) dX12_sounding_94 ?_
          refine g_aload_n h dX12_sounding_97 rfl ?_
          refine g_getI h flX12_223 rfl (by first | assumption | (show w.1 400 = _; assumption)) dX12_sounding_98 ?_
          refine g_iast h (sn) (by first | assumption | (show w.1 400 = _; assumption)) (by first | omega | assumption) (by first | omega | assumption) (by first | decide | omega) dX12_sounding_101 ?_
          refine g_aload_n h dX12_sounding_102 rfl ?_
          refine g_getQ h flX12_152 rfl (by first | assumption | (show w.1 400 = _; assumption)) (by first | assumption | (show w.1 400 = _; assumption)) dX12_sounding_103 ?_
          refine g_aload_n h dX12_sounding_106 rfl ?_
          refine g_getI h flX12_486 rfl (by first | assumption | (show w.1 400 = _; assumption)) dX12_sounding_107 ?_
          refine g_iload_n h dX12_sounding_110 rfl ?_
          refine g_iast h (sn) (by first | assumption | (show w.1 400 = _; assumption)) (by first | omega | assumption) (by first | omega | assumption) (by first | decide | omega) dX12_sounding_111 ?_
          refine g_aload_n h dX12_sounding_112 rfl ?_
          refine g_dup h dX12_sounding_113 rfl ?_
          refine g_getI h flX12_486 rfl (by first | assumption | (show w.1 400 = _; assumption)) dX12_sounding_114 ?_
          refine g_iconst h dX12_sounding_117 ?_
          refine g_iadd h dX12_sounding_118 ?_
          refine g_putI h flX12_486 rfl rfl (by first | assumption | (show w.1 400 = _; assumption)) dX12_sounding_119 ?_
          refine g_aload_n h dX12_sounding_122 rfl ?_
          refine g_aload_n h dX12_sounding_123 rfl ?_
          refine g_iload h dX12_sounding_124 rfl ?_
          refine g_aload_n h dX12_sounding_126 rfl ?_
          refine g_getI h flX12_223 rfl (by first | assumption | (show w.1 400 = _; assumption)) dX12_sounding_127 ?_
          have hSO : MSI (soW (th w) sn (10 * z + i) g) rn (sn + 1) := so_ok hI (by omega) hd ⟨by omega, by omega⟩ (by omega)
          have eSO : upI (upI (upI (upI (upI w 400 0 0) 463 sn (10 * z + i)) 464 sn ((upI w 400 0 0).2.1 400 4)) 465 sn g) 400 59 ((upI w 400 0 0).2.1 400 59 + 1) = soW (th w) sn (10 * z + i) g := by rw [e59]; rfl
          refine g_eq rfl rfl eSO ?_
          change GG Γ _ _ [ai (w.2.1 400 4), ai (10 * z + i), ar 400, ar 400] _ _ _
          refine g_callV h rfl (ci := 12) [_, _] (by first | assumption | (show w.1 400 = _; assumption)) (c_X12_driftOn _ _ rn (sn + 1) (10 * z + i) _ (MS_of rfl rfl hM) hSO ⟨by omega, by omega⟩ ⟨by omega, by omega⟩) clX12_495 (by decide) rfl in_X12_driftOn se_X12_driftOn rfl rfl (by rw [hRm]; first | decide | (simp only [clS]; omega)) (by rw [hRm]; first | decide | (simp only [clS]; omega)) (fun _ => Nat.le_of_ble_eq_true rfl) (by rw [hRm]; first | decide | (simp only [clS]; omega)) (by rw [hRm]; first | decide | (simp only [clS]; omega)) dX12_sounding_130 (fun r130 w130 hp130 => ?_)
          obtain ⟨rfl, hw130⟩ := hp130
          rw [hw130]
          refine g_callV h rfl (ci := 12) [_] (by first | assumption | (show w.1 400 = _; assumption)) (c_X12_done _ _ _ (MS_of rfl rfl hM)) clX12_277 (by decide) rfl in_X12_done se_X12_done rfl rfl (by rw [hRm]; first | decide | (simp only [clS]; omega)) (by rw [hRm]; first | decide | (simp only [clS]; omega)) (fun _ => Nat.le_of_ble_eq_true rfl) (by rw [hRm]; first | decide | (simp only [clS]; omega)) (by rw [hRm]; first | decide | (simp only [clS]; omega)) dX12_sounding_133 (fun r133 w133 hp133 => ?_)
          obtain ⟨rfl, hw133⟩ := hp133
          rw [hw133]
          refine g_iret h hQ (by first | decide | omega | (simp only [clS]; omega)) (by first | decide | omega | (simp only [clS]; omega)) ?_ dX12_sounding_136
          first
          | (exfalso; omega)
          | (refine ⟨?_, ?_⟩ <;> (repeat first | rw [if_pos (by omega)] | rw [if_neg (by omega)]) <;> (try rfl))
        · refine g_aload_n h dX12_sounding_72 rfl ?_
          refine g_iconst h dX12_sounding_73 ?_
          refine g_callV h rfl (ci := 12) [_] (by first | assumption | (show w.1 400 = _; assumption)) (c_X12_nothing _ _ _ (MS_of rfl rfl hM)) clX12_489 (by decide) rfl in_X12_nothing se_X12_nothing rfl rfl (by rw [hRm]; first | decide | (simp only [clS]; omega)) (by rw [hRm]; first | decide | (simp only [clS]; omega)) (fun _ => Nat.le_of_ble_eq_true rfl) (by rw [hRm]; first | decide | (simp only [clS]; omega)) (by rw [hRm]; first | decide | (simp only [clS]; omega)) dX12_sounding_74 (fun r74 w74 hp74 => ?_)
          obtain ⟨rfl, hw74⟩ := hp74
          rw [hw74]
          refine g_iret h hQ (by first | decide | omega | (simp only [clS]; omega)) (by first | decide | omega | (simp only [clS]; omega)) ?_ dX12_sounding_77
          first
          | (exfalso; omega)
          | (refine ⟨?_, ?_⟩ <;> (repeat first | rw [if_pos (by omega)] | rw [if_neg (by omega)]) <;> (try rfl))
      · refine g_aload_n h dX12_sounding_57 rfl ?_
        refine g_iconst h dX12_sounding_58 ?_
        refine g_callV h rfl (ci := 12) [_] (by first | assumption | (show w.1 400 = _; assumption)) (c_X12_nothing _ _ _ (MS_of rfl rfl hM)) clX12_489 (by decide) rfl in_X12_nothing se_X12_nothing rfl rfl (by rw [hRm]; first | decide | (simp only [clS]; omega)) (by rw [hRm]; first | decide | (simp only [clS]; omega)) (fun _ => Nat.le_of_ble_eq_true rfl) (by rw [hRm]; first | decide | (simp only [clS]; omega)) (by rw [hRm]; first | decide | (simp only [clS]; omega)) dX12_sounding_59 (fun r59 w59 hp59 => ?_)
        obtain ⟨rfl, hw59⟩ := hp59
        rw [hw59]
        refine g_iret h hQ (by first | decide | omega | (simp only [clS]; omega)) (by first | decide | omega | (simp only [clS]; omega)) ?_ dX12_sounding_62
        first
        | (exfalso; omega)
        | (refine ⟨?_, ?_⟩ <;> (repeat first | rw [if_pos (by omega)] | rw [if_neg (by omega)]) <;> (try rfl))
    · refine g_aload_n h dX12_sounding_29 rfl ?_
      refine g_iconst h dX12_sounding_30 ?_
      refine g_callV h rfl (ci := 12) [_] (by first | assumption | (show w.1 400 = _; assumption)) (c_X12_nothing _ _ _ (MS_of rfl rfl hM)) clX12_489 (by decide) rfl in_X12_nothing se_X12_nothing rfl rfl (by rw [hRm]; first | decide | (simp only [clS]; omega)) (by rw [hRm]; first | decide | (simp only [clS]; omega)) (fun _ => Nat.le_of_ble_eq_true rfl) (by rw [hRm]; first | decide | (simp only [clS]; omega)) (by rw [hRm]; first | decide | (simp only [clS]; omega)) dX12_sounding_31 (fun r31 w31 hp31 => ?_)
      obtain ⟨rfl, hw31⟩ := hp31
      rw [hw31]
      refine g_iret h hQ (by first | decide | omega | (simp only [clS]; omega)) (by first | decide | omega | (simp only [clS]; omega)) ?_ dX12_sounding_34
      first
      | (exfalso; omega)
      | (refine ⟨?_, ?_⟩ <;> (repeat first | rw [if_pos (by omega)] | rw [if_neg (by omega)]) <;> (try rfl))
  · refine g_aload_n h dX12_sounding_13 rfl ?_
    refine g_iconst h dX12_sounding_14 ?_
    refine g_callV h rfl (ci := 12) [_] (by first | assumption | (show w.1 400 = _; assumption)) (c_X12_nothing _ _ _ (MS_of rfl rfl hM)) clX12_489 (by decide) rfl in_X12_nothing se_X12_nothing rfl rfl (by rw [hRm]; first | decide | (simp only [clS]; omega)) (by rw [hRm]; first | decide | (simp only [clS]; omega)) (fun _ => Nat.le_of_ble_eq_true rfl) (by rw [hRm]; first | decide | (simp only [clS]; omega)) (by rw [hRm]; first | decide | (simp only [clS]; omega)) dX12_sounding_15 (fun r15 w15 hp15 => ?_)
    obtain ⟨rfl, hw15⟩ := hp15
    rw [hw15]
    refine g_iret h hQ (by first | decide | omega | (simp only [clS]; omega)) (by first | decide | omega | (simp only [clS]; omega)) ?_ dX12_sounding_18
    first
    | (exfalso; omega)
    | (refine ⟨?_, ?_⟩ <;> (repeat first | rw [if_pos (by omega)] | rw [if_neg (by omega)]) <;> (try rfl))
