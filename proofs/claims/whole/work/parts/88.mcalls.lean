/-! ===== M: calls of lakes and strings ===== -/
def layW (w : AW) (z i g t s : Int) : AW := upI (upI (upI (upI w 415 z.toNat (w.2.1 415 z.toNat + (g - w.2.1 407 (10 * z + i).toNat))) 407 (10 * z + i).toNat g) 408 (10 * z + i).toNat t) 409 (10 * z + i).toNat s
set_option maxRecDepth 100000 in
set_option maxHeartbeats 4000000 in
theorem c_X12_layer (l : Launch) (w : AW) (z i g t s : Int) (hM : MS w) (hz : R32 z) (hi : R32 i) (hg : R32 g) (ht : R32 t) (hs : R32 s) : HT l yX12_layer cX12_layer 7 (some .boolean) 3 0 0 w [ar 400, ai z, ai i, ai g, ai t, ai s] (fun r w' => r = some (ai (if (0 ≤ z ∧ z < 2) ∧ 0 ≤ i ∧ i < 10 then if (0 ≤ g ∧ g ≤ 100000) ∧ (0 ≤ t ∧ t ≤ 400) ∧ 0 ≤ s ∧ s ≤ 1000 then 1 else 0 else 0)) ∧ w' = (if (0 ≤ z ∧ z < 2) ∧ 0 ≤ i ∧ i < 10 then if (0 ≤ g ∧ g ≤ 100000) ∧ (0 ≤ t ∧ t ≤ 400) ∧ 0 ≤ s ∧ s ≤ 1000 then tM (layW (th w) z i g t s) 0 else tM (th w) 2 else tM (th w) 1)) := by
  refine HT.of (by decide) (by intro v hv; simp only [List.mem_cons, List.not_mem_nil, or_false] at hv; rcases hv with rfl | rfl | rfl | rfl | rfl | rfl <;> rfl) (Nat.le_of_ble_eq_true rfl) ?_
  intro Γ h hQ hRm hnm hl hw0
  have s400 : w.1 400 = (112, 0) := hM.1 400 (by decide) (by decide)
  have s415 : w.1 415 = (1, 2) := hM.1 415 (by decide) (by decide)
  have s407 : w.1 407 = (1, 20) := hM.1 407 (by decide) (by decide)
  have s408 : w.1 408 = (1, 20) := hM.1 408 (by decide) (by decide)
  have s409 : w.1 409 = (1, 20) := hM.1 409 (by decide) (by decide)
  have p15 : w.2.2 400 15 = some 415 := hM.2 (400, 15, 415) (by decide)
  have p7 : w.2.2 400 7 = some 407 := hM.2 (400, 7, 407) (by decide)
  have p8 : w.2.2 400 8 = some 408 := hM.2 (400, 8, 408) (by decide)
  have p9 : w.2.2 400 9 = some 409 := hM.2 (400, 9, 409) (by decide)
  refine g_aload_n h dX12_layer_0 rfl ?_
  refine g_iconst h dX12_layer_1 ?_
  refine g_putI h flX12_1 rfl rfl (by assumption) dX12_layer_2 ?_
  refine g_iload_n h dX12_layer_5 rfl ?_
  refine g_iload_n h dX12_layer_6 rfl ?_
  refine g_callS h rfl [_, _] (c_X12_isLayer _ _ z i hz hi) clX12_203 st_X12_isLayer rfl rfl (by rw [hRm]; first | decide | (simp only [clS]; omega)) (by rw [hRm]; first | decide | (simp only [clS]; omega)) (fun _ => Nat.le_of_ble_eq_true rfl) (by rw [hRm]; first | decide | (simp only [clS]; omega)) (by rw [hRm]; first | decide | (simp only [clS]; omega)) dX12_layer_7 (fun r7 w7 hp7 => ?_)
  obtain ⟨rfl, hw7⟩ := hp7
  rw [hw7]
  have hbw7 := ite01 ((0 ≤ z ∧ z < 2) ∧ 0 ≤ i ∧ i < 10)
  refine g_if_ne (tgt := 19) h dX12_layer_10 (by decide) (by first | assumption | exact ⟨by omega, by omega⟩) (fun c10 => ?_) (fun c10 => ?_)
  · refine g_iload_n h dX12_layer_19 rfl ?_
    refine g_iconst h dX12_layer_20 ?_
    refine g_ldc h kcX12_210 dX12_layer_21 ?_
    refine g_callS h rfl [_, _, _] (c_X12_in _ _ _ _ _ hg ⟨by omega, by omega⟩ ⟨by omega, by omega⟩) clX12_211 st_X12_in rfl rfl (by rw [hRm]; first | decide | (simp only [clS]; omega)) (by rw [hRm]; first | decide | (simp only [clS]; omega)) (fun _ => Nat.le_of_ble_eq_true rfl) (by rw [hRm]; first | decide | (simp only [clS]; omega)) (by rw [hRm]; first | decide | (simp only [clS]; omega)) dX12_layer_23 (fun r23 w23 hp23 => ?_)
    obtain ⟨rfl, hw23⟩ := hp23
    rw [hw23]
    have hbw23 := ite01 ((0 : Int) ≤ g ∧ g ≤ 100000)
    refine g_if_eq (tgt := 53) h dX12_layer_26 (by decide) (by first | assumption | exact ⟨by omega, by omega⟩) (fun c26 => ?_) (fun c26 => ?_)
    · refine g_aload_n h dX12_layer_53 rfl ?_
      refine g_iconst h dX12_layer_54 ?_
      refine g_callV h rfl (ci := 12) [_] (by assumption) (c_X12_denied _ _ _ (MS_of rfl rfl hM)) clX12_207 (by decide) rfl in_X12_denied se_X12_denied rfl rfl (by rw [hRm]; first | decide | (simp only [clS]; omega)) (by rw [hRm]; first | decide | (simp only [clS]; omega)) (fun _ => Nat.le_of_ble_eq_true rfl) (by rw [hRm]; first | decide | (simp only [clS]; omega)) (by rw [hRm]; first | decide | (simp only [clS]; omega)) dX12_layer_55 (fun r55 w55 hp55 => ?_)
      obtain ⟨rfl, hw55⟩ := hp55
      rw [hw55]
      refine g_zret h hQ (by first | decide | omega | (simp only [clS]; omega)) (by first | decide | omega | (simp only [clS]; omega)) (by omega) ?_ dX12_layer_58
      first
      | (exfalso; omega)
      | (refine ⟨?_, ?_⟩ <;> (repeat first | rw [if_pos (by omega)] | rw [if_neg (by omega)]) <;> rfl)
    · refine g_iload h dX12_layer_29 rfl ?_
      refine g_iconst h dX12_layer_31 ?_
      refine g_sipush h dX12_layer_32 rfl ?_
      refine g_callS h rfl [_, _, _] (c_X12_in _ _ _ _ _ ht ⟨by omega, by omega⟩ ⟨by omega, by omega⟩) clX12_211 st_X12_in rfl rfl (by rw [hRm]; first | decide | (simp only [clS]; omega)) (by rw [hRm]; first | decide | (simp only [clS]; omega)) (fun _ => Nat.le_of_ble_eq_true rfl) (by rw [hRm]; first | decide | (simp only [clS]; omega)) (by rw [hRm]; first | decide | (simp only [clS]; omega)) dX12_layer_35 (fun r35 w35 hp35 => ?_)
      obtain ⟨rfl, hw35⟩ := hp35
      rw [hw35]
      have hbw35 := ite01 ((0 : Int) ≤ t ∧ t ≤ 400)
      refine g_if_eq (tgt := 53) h dX12_layer_38 (by decide) (by first | assumption | exact ⟨by omega, by omega⟩) (fun c38 => ?_) (fun c38 => ?_)
      · refine g_aload_n h dX12_layer_53 rfl ?_
        refine g_iconst h dX12_layer_54 ?_
        refine g_callV h rfl (ci := 12) [_] (by assumption) (c_X12_denied _ _ _ (MS_of rfl rfl hM)) clX12_207 (by decide) rfl in_X12_denied se_X12_denied rfl rfl (by rw [hRm]; first | decide | (simp only [clS]; omega)) (by rw [hRm]; first | decide | (simp only [clS]; omega)) (fun _ => Nat.le_of_ble_eq_true rfl) (by rw [hRm]; first | decide | (simp only [clS]; omega)) (by rw [hRm]; first | decide | (simp only [clS]; omega)) dX12_layer_55 (fun r55 w55 hp55 => ?_)
        obtain ⟨rfl, hw55⟩ := hp55
        rw [hw55]
        refine g_zret h hQ (by first | decide | omega | (simp only [clS]; omega)) (by first | decide | omega | (simp only [clS]; omega)) (by omega) ?_ dX12_layer_58
        first
        | (exfalso; omega)
        | (refine ⟨?_, ?_⟩ <;> (repeat first | rw [if_pos (by omega)] | rw [if_neg (by omega)]) <;> rfl)
      · refine g_iload h dX12_layer_41 rfl ?_
        refine g_iconst h dX12_layer_43 ?_
        refine g_sipush h dX12_layer_44 rfl ?_
        refine g_callS h rfl [_, _, _] (c_X12_in _ _ _ _ _ hs ⟨by omega, by omega⟩ ⟨by omega, by omega⟩) clX12_211 st_X12_in rfl rfl (by rw [hRm]; first | decide | (simp only [clS]; omega)) (by rw [hRm]; first | decide | (simp only [clS]; omega)) (fun _ => Nat.le_of_ble_eq_true rfl) (by rw [hRm]; first | decide | (simp only [clS]; omega)) (by rw [hRm]; first | decide | (simp only [clS]; omega)) dX12_layer_47 (fun r47 w47 hp47 => ?_)
        obtain ⟨rfl, hw47⟩ := hp47
        rw [hw47]
        have hbw47 := ite01 ((0 : Int) ≤ s ∧ s ≤ 1000)
        refine g_if_ne (tgt := 59) h dX12_layer_50 (by decide) (by first | assumption | exact ⟨by omega, by omega⟩) (fun c50 => ?_) (fun c50 => ?_)
        · refine g_bipush h dX12_layer_59 rfl ?_
          refine g_iload_n h dX12_layer_61 rfl ?_
          refine g_imul h dX12_layer_62 ?_
          refine g_iload_n h dX12_layer_63 rfl ?_
          refine g_iadd h dX12_layer_64 ?_
          refine g_istore h dX12_layer_65 (Nat.le_of_ble_eq_true rfl) rfl rfl ?_
          refine g_aload_n h dX12_layer_67 rfl ?_
          refine g_getQ h flX12_50 rfl (by assumption) (by assumption) dX12_layer_68 ?_
          refine g_iload_n h dX12_layer_71 rfl ?_
          refine g_dup2 h dX12_layer_72 rfl rfl ?_
          refine g_iald h (z.toNat) (by assumption) (by first | omega | assumption) (by first | omega | assumption) (by first | decide | omega) dX12_layer_73 ?_
          refine g_iload_n h dX12_layer_74 rfl ?_
          refine g_aload_n h dX12_layer_75 rfl ?_
          refine g_getQ h flX12_25 rfl (by assumption) (by assumption) dX12_layer_76 ?_
          refine g_iload h dX12_layer_79 rfl ?_
          refine g_iald h ((10 * z + i).toNat) (by assumption) (by first | omega | assumption) (by first | omega | assumption) (by first | decide | omega) dX12_layer_81 ?_
          refine g_isub h dX12_layer_82 ?_
          refine g_iadd h dX12_layer_83 ?_
          refine g_iast h (z.toNat) (by assumption) (by first | omega | assumption) (by first | omega | assumption) (by first | decide | omega) dX12_layer_84 ?_
          refine g_aload_n h dX12_layer_85 rfl ?_
          refine g_getQ h flX12_25 rfl (by assumption) (by assumption) dX12_layer_86 ?_
          refine g_iload h dX12_layer_89 rfl ?_
          refine g_iload_n h dX12_layer_91 rfl ?_
          refine g_iast h ((10 * z + i).toNat) (by assumption) (by first | omega | assumption) (by first | omega | assumption) (by first | decide | omega) dX12_layer_92 ?_
          refine g_aload_n h dX12_layer_93 rfl ?_
          refine g_getQ h flX12_29 rfl (by assumption) (by assumption) dX12_layer_94 ?_
          refine g_iload h dX12_layer_97 rfl ?_
          refine g_iload h dX12_layer_99 rfl ?_
          refine g_iast h ((10 * z + i).toNat) (by assumption) (by first | omega | assumption) (by first | omega | assumption) (by first | decide | omega) dX12_layer_101 ?_
          refine g_aload_n h dX12_layer_102 rfl ?_
          refine g_getQ h flX12_32 rfl (by assumption) (by assumption) dX12_layer_103 ?_
          refine g_iload h dX12_layer_106 rfl ?_
          refine g_iload h dX12_layer_108 rfl ?_
          refine g_iast h ((10 * z + i).toNat) (by assumption) (by first | omega | assumption) (by first | omega | assumption) (by first | decide | omega) dX12_layer_110 ?_
          refine g_aload_n h dX12_layer_111 rfl ?_
          refine g_callV h rfl (ci := 12) [] (by assumption) (c_X12_granted _ _ (MS_of rfl rfl hM)) clX12_215 (by decide) rfl in_X12_granted se_X12_granted rfl rfl (by rw [hRm]; first | decide | (simp only [clS]; omega)) (by rw [hRm]; first | decide | (simp only [clS]; omega)) (fun _ => Nat.le_of_ble_eq_true rfl) (by rw [hRm]; first | decide | (simp only [clS]; omega)) (by rw [hRm]; first | decide | (simp only [clS]; omega)) dX12_layer_112 (fun r112 w112 hp112 => ?_)
          obtain ⟨rfl, hw112⟩ := hp112
          rw [hw112]
          refine g_zret h hQ (by first | decide | omega | (simp only [clS]; omega)) (by first | decide | omega | (simp only [clS]; omega)) (by omega) ?_ dX12_layer_115
          first
          | (exfalso; omega)
          | (refine ⟨?_, ?_⟩ <;> (repeat first | rw [if_pos (by omega)] | rw [if_neg (by omega)]) <;> rfl)
        · refine g_aload_n h dX12_layer_53 rfl ?_
          refine g_iconst h dX12_layer_54 ?_
          refine g_callV h rfl (ci := 12) [_] (by assumption) (c_X12_denied _ _ _ (MS_of rfl rfl hM)) clX12_207 (by decide) rfl in_X12_denied se_X12_denied rfl rfl (by rw [hRm]; first | decide | (simp only [clS]; omega)) (by rw [hRm]; first | decide | (simp only [clS]; omega)) (fun _ => Nat.le_of_ble_eq_true rfl) (by rw [hRm]; first | decide | (simp only [clS]; omega)) (by rw [hRm]; first | decide | (simp only [clS]; omega)) dX12_layer_55 (fun r55 w55 hp55 => ?_)
          obtain ⟨rfl, hw55⟩ := hp55
          rw [hw55]
          refine g_zret h hQ (by first | decide | omega | (simp only [clS]; omega)) (by first | decide | omega | (simp only [clS]; omega)) (by omega) ?_ dX12_layer_58
          first
          | (exfalso; omega)
          | (refine ⟨?_, ?_⟩ <;> (repeat first | rw [if_pos (by omega)] | rw [if_neg (by omega)]) <;> rfl)
  · refine g_aload_n h dX12_layer_13 rfl ?_
    refine g_iconst h dX12_layer_14 ?_
    refine g_callV h rfl (ci := 12) [_] (by assumption) (c_X12_denied _ _ _ (MS_of rfl rfl hM)) clX12_207 (by decide) rfl in_X12_denied se_X12_denied rfl rfl (by rw [hRm]; first | decide | (simp only [clS]; omega)) (by rw [hRm]; first | decide | (simp only [clS]; omega)) (fun _ => Nat.le_of_ble_eq_true rfl) (by rw [hRm]; first | decide | (simp only [clS]; omega)) (by rw [hRm]; first | decide | (simp only [clS]; omega)) dX12_layer_15 (fun r15 w15 hp15 => ?_)
    obtain ⟨rfl, hw15⟩ := hp15
    rw [hw15]
    refine g_zret h hQ (by first | decide | omega | (simp only [clS]; omega)) (by first | decide | omega | (simp only [clS]; omega)) (by omega) ?_ dX12_layer_18
    first
    | (exfalso; omega)
    | (refine ⟨?_, ?_⟩ <;> (repeat first | rw [if_pos (by omega)] | rw [if_neg (by omega)]) <;> rfl)
def seW (w : AW) (z a v : Int) : AW := upI w (410 + a.toNat) z.toNat v
def seLo (a : Int) : Int := if a = 0 then 1 else if a = 3 then 2 else 0
def seHi (a : Int) : Int := if a = 0 then 10000 else if a = 2 then 10000 else if a = 1 then 20000 else if a = 3 then 1000 else 399
set_option maxRecDepth 100000 in
set_option maxHeartbeats 4000000 in
theorem c_X12_set (l : Launch) (w : AW) (z a v : Int) (hM : MS w) (hz : R32 z) (ha : R32 a) (hv : R32 v) : HT l yX12_set cX12_set 6 (some .boolean) 3 0 0 w [ar 400, ai z, ai a, ai v] (fun r w' => r = some (ai (if (0 ≤ z ∧ z < 2) ∧ 0 ≤ a ∧ a ≤ 4 then if seLo a ≤ v ∧ v ≤ seHi a then 1 else 0 else 0)) ∧ w' = (if (0 ≤ z ∧ z < 2) ∧ 0 ≤ a ∧ a ≤ 4 then if seLo a ≤ v ∧ v ≤ seHi a then tM (seW (th w) z a v) 0 else tM (th w) 2 else tM (th w) 1)) := by
  refine HT.of (by decide) (by intro v hv; simp only [List.mem_cons, List.not_mem_nil, or_false] at hv; rcases hv with rfl | rfl | rfl | rfl <;> rfl) (Nat.le_of_ble_eq_true rfl) ?_
  intro Γ h hQ hRm hnm hl hw0
  have s400 : w.1 400 = (112, 0) := hM.1 400 (by decide) (by decide)
  have s410 : w.1 410 = (1, 2) := hM.1 410 (by decide) (by decide)
  have s411 : w.1 411 = (1, 2) := hM.1 411 (by decide) (by decide)
  have s412 : w.1 412 = (1, 2) := hM.1 412 (by decide) (by decide)
  have s413 : w.1 413 = (1, 2) := hM.1 413 (by decide) (by decide)
  have s414 : w.1 414 = (1, 2) := hM.1 414 (by decide) (by decide)
  have p10 : w.2.2 400 10 = some 410 := hM.2 (400, 10, 410) (by decide)
  have p11 : w.2.2 400 11 = some 411 := hM.2 (400, 11, 411) (by decide)
  have p12 : w.2.2 400 12 = some 412 := hM.2 (400, 12, 412) (by decide)
  have p13 : w.2.2 400 13 = some 413 := hM.2 (400, 13, 413) (by decide)
  have p14 : w.2.2 400 14 = some 414 := hM.2 (400, 14, 414) (by decide)
  by_cases hza : (0 ≤ z ∧ z < 2) ∧ 0 ≤ a ∧ a ≤ 4
  · rcases (show a = 0 ∨ a = 1 ∨ a = 2 ∨ a = 3 ∨ a = 4 by omega) with rfl | rfl | rfl | rfl | rfl
    · have hlo : seLo 0 = 1 := rfl
      have hhi : seHi 0 = 10000 := rfl
      rw [hlo, hhi] at hQ
      refine g_aload_n h dX12_set_0 rfl ?_
      refine g_iconst h dX12_set_1 ?_
      refine g_putI h flX12_1 rfl rfl (by assumption) dX12_set_2 ?_
      refine g_iload_n h dX12_set_5 rfl ?_
      refine g_callS h rfl [_] (c_X12_isLake _ _ z hz) clX12_182 st_X12_isLake rfl rfl (by rw [hRm]; first | decide | (simp only [clS]; omega)) (by rw [hRm]; first | decide | (simp only [clS]; omega)) (fun _ => Nat.le_of_ble_eq_true rfl) (by rw [hRm]; first | decide | (simp only [clS]; omega)) (by rw [hRm]; first | decide | (simp only [clS]; omega)) dX12_set_6 (fun r6 w6 hp6 => ?_)
      obtain ⟨rfl, hw6⟩ := hp6
      rw [hw6]
      have hbw6 := ite01 (0 ≤ z ∧ z < 2)
      refine g_if_eq (tgt := 21) h dX12_set_9 (by decide) (by first | assumption | exact ⟨by omega, by omega⟩) (fun c9 => ?_) (fun c9 => ?_)
      · exfalso; omega
      · refine g_iload_n h dX12_set_12 rfl ?_
        refine g_iconst h dX12_set_13 ?_
        refine g_iconst h dX12_set_14 ?_
        refine g_callS h rfl [_, _, _] (c_X12_in _ _ _ _ _ ha ⟨by omega, by omega⟩ ⟨by omega, by omega⟩) clX12_211 st_X12_in rfl rfl (by rw [hRm]; first | decide | (simp only [clS]; omega)) (by rw [hRm]; first | decide | (simp only [clS]; omega)) (fun _ => Nat.le_of_ble_eq_true rfl) (by rw [hRm]; first | decide | (simp only [clS]; omega)) (by rw [hRm]; first | decide | (simp only [clS]; omega)) dX12_set_15 (fun r15 w15 hp15 => ?_)
        obtain ⟨rfl, hw15⟩ := hp15
        rw [hw15]
        have hbw15 := ite01 ((0 : Int) ≤ 0 ∧ (0 : Int) ≤ 4)
        refine g_if_ne (tgt := 27) h dX12_set_18 (by decide) (by first | assumption | exact ⟨by omega, by omega⟩) (fun c18 => ?_) (fun c18 => ?_)
        · refine g_iload_n h dX12_set_27 rfl ?_
          refine g_if_ne (tgt := 35) h dX12_set_28 (by decide) (by first | assumption | exact ⟨by omega, by omega⟩) (fun c28 => ?_) (fun c28 => ?_)
          · exfalso; omega
          · refine g_iconst h dX12_set_31 ?_
            refine g_goto (tgt := 45) h dX12_set_32 (by decide) ?_
            refine g_istore h dX12_set_45 (Nat.le_of_ble_eq_true rfl) rfl rfl ?_
            refine g_iload_n h dX12_set_47 rfl ?_
            refine g_if_eq (tgt := 56) h dX12_set_48 (by decide) (by first | assumption | exact ⟨by omega, by omega⟩) (fun c48 => ?_) (fun c48 => ?_)
            · refine g_sipush h dX12_set_56 rfl ?_
              refine g_goto (tgt := 87) h dX12_set_59 (by decide) ?_
              refine g_istore h dX12_set_87 (Nat.le_of_ble_eq_true rfl) rfl rfl ?_
              refine g_iload_n h dX12_set_89 rfl ?_
              refine g_iload h dX12_set_90 rfl ?_
              refine g_iload h dX12_set_92 rfl ?_
              refine g_callS h rfl [_, _, _] (c_X12_in _ _ _ _ _ hv ⟨by omega, by omega⟩ ⟨by omega, by omega⟩) clX12_211 st_X12_in rfl rfl (by rw [hRm]; first | decide | (simp only [clS]; omega)) (by rw [hRm]; first | decide | (simp only [clS]; omega)) (fun _ => Nat.le_of_ble_eq_true rfl) (by rw [hRm]; first | decide | (simp only [clS]; omega)) (by rw [hRm]; first | decide | (simp only [clS]; omega)) dX12_set_94 (fun r94 w94 hp94 => ?_)
              obtain ⟨rfl, hw94⟩ := hp94
              rw [hw94]
              have hbw94 := ite01 ((1 : Int) ≤ v ∧ v ≤ 10000)
              refine g_if_ne (tgt := 106) h dX12_set_97 (by decide) (by first | assumption | exact ⟨by omega, by omega⟩) (fun c97 => ?_) (fun c97 => ?_)
              · refine g_iload_n h dX12_set_106 rfl ?_
                rcases (show (0 : Int) = 0 ∨ (0 : Int) = 1 ∨ (0 : Int) = 2 ∨ (0 : Int) = 3 ∨ ((0 : Int) < 0 ∨ 3 < (0 : Int)) by omega) with c107 | c107 | c107 | c107 | c107
                · refine g_tswI (tgt := 136) h 0 (by first | assumption | exact ⟨by omega, by omega⟩) (by first | omega | assumption) (by first | omega | assumption) rfl (by decide) dX12_set_107 ?_
                  refine g_aload_n h dX12_set_136 rfl ?_
                  refine g_getQ h flX12_35 rfl (by assumption) (by assumption) dX12_set_137 ?_
                  refine g_iload_n h dX12_set_140 rfl ?_
                  refine g_iload_n h dX12_set_141 rfl ?_
                  refine g_iast h (z.toNat) (by assumption) (by first | omega | assumption) (by first | omega | assumption) (by first | decide | omega) dX12_set_142 ?_
                  refine g_goto (tgt := 183) h dX12_set_143 (by decide) ?_
                  refine g_aload_n h dX12_set_183 rfl ?_
                  refine g_callV h rfl (ci := 12) [] (by assumption) (c_X12_granted _ _ (MS_of rfl rfl hM)) clX12_215 (by decide) rfl in_X12_granted se_X12_granted rfl rfl (by rw [hRm]; first | decide | (simp only [clS]; omega)) (by rw [hRm]; first | decide | (simp only [clS]; omega)) (fun _ => Nat.le_of_ble_eq_true rfl) (by rw [hRm]; first | decide | (simp only [clS]; omega)) (by rw [hRm]; first | decide | (simp only [clS]; omega)) dX12_set_184 (fun r184 w184 hp184 => ?_)
                  obtain ⟨rfl, hw184⟩ := hp184
                  rw [hw184]
                  refine g_zret h hQ (by first | decide | omega | (simp only [clS]; omega)) (by first | decide | omega | (simp only [clS]; omega)) (by omega) ?_ dX12_set_187
                  first
                  | (exfalso; omega)
                  | (refine ⟨?_, ?_⟩ <;> (repeat first | rw [if_pos (by omega)] | rw [if_neg (by omega)]) <;> rfl)
                · refine g_tswI (tgt := 146) h 1 (by first | assumption | exact ⟨by omega, by omega⟩) (by first | omega | assumption) (by first | omega | assumption) rfl (by decide) dX12_set_107 ?_
                  refine g_aload_n h dX12_set_146 rfl ?_
                  refine g_getQ h flX12_38 rfl (by assumption) (by assumption) dX12_set_147 ?_
                  refine g_iload_n h dX12_set_150 rfl ?_
                  refine g_iload_n h dX12_set_151 rfl ?_
                  refine g_iast h (z.toNat) (by assumption) (by first | omega | assumption) (by first | omega | assumption) (by first | decide | omega) dX12_set_152 ?_
                  refine g_goto (tgt := 183) h dX12_set_153 (by decide) ?_
                  refine g_aload_n h dX12_set_183 rfl ?_
                  refine g_callV h rfl (ci := 12) [] (by assumption) (c_X12_granted _ _ (MS_of rfl rfl hM)) clX12_215 (by decide) rfl in_X12_granted se_X12_granted rfl rfl (by rw [hRm]; first | decide | (simp only [clS]; omega)) (by rw [hRm]; first | decide | (simp only [clS]; omega)) (fun _ => Nat.le_of_ble_eq_true rfl) (by rw [hRm]; first | decide | (simp only [clS]; omega)) (by rw [hRm]; first | decide | (simp only [clS]; omega)) dX12_set_184 (fun r184 w184 hp184 => ?_)
                  obtain ⟨rfl, hw184⟩ := hp184
                  rw [hw184]
                  refine g_zret h hQ (by first | decide | omega | (simp only [clS]; omega)) (by first | decide | omega | (simp only [clS]; omega)) (by omega) ?_ dX12_set_187
                  first
                  | (exfalso; omega)
                  | (refine ⟨?_, ?_⟩ <;> (repeat first | rw [if_pos (by omega)] | rw [if_neg (by omega)]) <;> rfl)
                · refine g_tswI (tgt := 156) h 2 (by first | assumption | exact ⟨by omega, by omega⟩) (by first | omega | assumption) (by first | omega | assumption) rfl (by decide) dX12_set_107 ?_
                  refine g_aload_n h dX12_set_156 rfl ?_
                  refine g_getQ h flX12_41 rfl (by assumption) (by assumption) dX12_set_157 ?_
                  refine g_iload_n h dX12_set_160 rfl ?_
                  refine g_iload_n h dX12_set_161 rfl ?_
                  refine g_iast h (z.toNat) (by assumption) (by first | omega | assumption) (by first | omega | assumption) (by first | decide | omega) dX12_set_162 ?_
                  refine g_goto (tgt := 183) h dX12_set_163 (by decide) ?_
                  refine g_aload_n h dX12_set_183 rfl ?_
                  refine g_callV h rfl (ci := 12) [] (by assumption) (c_X12_granted _ _ (MS_of rfl rfl hM)) clX12_215 (by decide) rfl in_X12_granted se_X12_granted rfl rfl (by rw [hRm]; first | decide | (simp only [clS]; omega)) (by rw [hRm]; first | decide | (simp only [clS]; omega)) (fun _ => Nat.le_of_ble_eq_true rfl) (by rw [hRm]; first | decide | (simp only [clS]; omega)) (by rw [hRm]; first | decide | (simp only [clS]; omega)) dX12_set_184 (fun r184 w184 hp184 => ?_)
                  obtain ⟨rfl, hw184⟩ := hp184
                  rw [hw184]
                  refine g_zret h hQ (by first | decide | omega | (simp only [clS]; omega)) (by first | decide | omega | (simp only [clS]; omega)) (by omega) ?_ dX12_set_187
                  first
                  | (exfalso; omega)
                  | (refine ⟨?_, ?_⟩ <;> (repeat first | rw [if_pos (by omega)] | rw [if_neg (by omega)]) <;> rfl)
                · refine g_tswI (tgt := 166) h 3 (by first | assumption | exact ⟨by omega, by omega⟩) (by first | omega | assumption) (by first | omega | assumption) rfl (by decide) dX12_set_107 ?_
                  refine g_aload_n h dX12_set_166 rfl ?_
                  refine g_getQ h flX12_44 rfl (by assumption) (by assumption) dX12_set_167 ?_
                  refine g_iload_n h dX12_set_170 rfl ?_
                  refine g_iload_n h dX12_set_171 rfl ?_
                  refine g_iast h (z.toNat) (by assumption) (by first | omega | assumption) (by first | omega | assumption) (by first | decide | omega) dX12_set_172 ?_
                  refine g_goto (tgt := 183) h dX12_set_173 (by decide) ?_
                  refine g_aload_n h dX12_set_183 rfl ?_
                  refine g_callV h rfl (ci := 12) [] (by assumption) (c_X12_granted _ _ (MS_of rfl rfl hM)) clX12_215 (by decide) rfl in_X12_granted se_X12_granted rfl rfl (by rw [hRm]; first | decide | (simp only [clS]; omega)) (by rw [hRm]; first | decide | (simp only [clS]; omega)) (fun _ => Nat.le_of_ble_eq_true rfl) (by rw [hRm]; first | decide | (simp only [clS]; omega)) (by rw [hRm]; first | decide | (simp only [clS]; omega)) dX12_set_184 (fun r184 w184 hp184 => ?_)
                  obtain ⟨rfl, hw184⟩ := hp184
                  rw [hw184]
                  refine g_zret h hQ (by first | decide | omega | (simp only [clS]; omega)) (by first | decide | omega | (simp only [clS]; omega)) (by omega) ?_ dX12_set_187
                  first
                  | (exfalso; omega)
                  | (refine ⟨?_, ?_⟩ <;> (repeat first | rw [if_pos (by omega)] | rw [if_neg (by omega)]) <;> rfl)
                · refine g_tswO (tgt := 176) h (by first | assumption | exact ⟨by omega, by omega⟩) c107 (by decide) dX12_set_107 ?_
                  refine g_aload_n h dX12_set_176 rfl ?_
                  refine g_getQ h flX12_47 rfl (by assumption) (by assumption) dX12_set_177 ?_
                  refine g_iload_n h dX12_set_180 rfl ?_
                  refine g_iload_n h dX12_set_181 rfl ?_
                  refine g_iast h (z.toNat) (by assumption) (by first | omega | assumption) (by first | omega | assumption) (by first | decide | omega) dX12_set_182 ?_
                  refine g_aload_n h dX12_set_183 rfl ?_
                  refine g_callV h rfl (ci := 12) [] (by assumption) (c_X12_granted _ _ (MS_of rfl rfl hM)) clX12_215 (by decide) rfl in_X12_granted se_X12_granted rfl rfl (by rw [hRm]; first | decide | (simp only [clS]; omega)) (by rw [hRm]; first | decide | (simp only [clS]; omega)) (fun _ => Nat.le_of_ble_eq_true rfl) (by rw [hRm]; first | decide | (simp only [clS]; omega)) (by rw [hRm]; first | decide | (simp only [clS]; omega)) dX12_set_184 (fun r184 w184 hp184 => ?_)
                  obtain ⟨rfl, hw184⟩ := hp184
                  rw [hw184]
                  refine g_zret h hQ (by first | decide | omega | (simp only [clS]; omega)) (by first | decide | omega | (simp only [clS]; omega)) (by omega) ?_ dX12_set_187
                  first
                  | (exfalso; omega)
                  | (refine ⟨?_, ?_⟩ <;> (repeat first | rw [if_pos (by omega)] | rw [if_neg (by omega)]) <;> rfl)
              · refine g_aload_n h dX12_set_100 rfl ?_
                refine g_iconst h dX12_set_101 ?_
                refine g_callV h rfl (ci := 12) [_] (by assumption) (c_X12_denied _ _ _ (MS_of rfl rfl hM)) clX12_207 (by decide) rfl in_X12_denied se_X12_denied rfl rfl (by rw [hRm]; first | decide | (simp only [clS]; omega)) (by rw [hRm]; first | decide | (simp only [clS]; omega)) (fun _ => Nat.le_of_ble_eq_true rfl) (by rw [hRm]; first | decide | (simp only [clS]; omega)) (by rw [hRm]; first | decide | (simp only [clS]; omega)) dX12_set_102 (fun r102 w102 hp102 => ?_)
                obtain ⟨rfl, hw102⟩ := hp102
                rw [hw102]
                refine g_zret h hQ (by first | decide | omega | (simp only [clS]; omega)) (by first | decide | omega | (simp only [clS]; omega)) (by omega) ?_ dX12_set_105
                first
                | (exfalso; omega)
                | (refine ⟨?_, ?_⟩ <;> (repeat first | rw [if_pos (by omega)] | rw [if_neg (by omega)]) <;> rfl)
            · exfalso; omega
        · exfalso; omega
    · have hlo : seLo 1 = 0 := rfl
      have hhi : seHi 1 = 20000 := rfl
      rw [hlo, hhi] at hQ
      refine g_aload_n h dX12_set_0 rfl ?_
      refine g_iconst h dX12_set_1 ?_
      refine g_putI h flX12_1 rfl rfl (by assumption) dX12_set_2 ?_
      refine g_iload_n h dX12_set_5 rfl ?_
      refine g_callS h rfl [_] (c_X12_isLake _ _ z hz) clX12_182 st_X12_isLake rfl rfl (by rw [hRm]; first | decide | (simp only [clS]; omega)) (by rw [hRm]; first | decide | (simp only [clS]; omega)) (fun _ => Nat.le_of_ble_eq_true rfl) (by rw [hRm]; first | decide | (simp only [clS]; omega)) (by rw [hRm]; first | decide | (simp only [clS]; omega)) dX12_set_6 (fun r6 w6 hp6 => ?_)
      obtain ⟨rfl, hw6⟩ := hp6
      rw [hw6]
      have hbw6 := ite01 (0 ≤ z ∧ z < 2)
      refine g_if_eq (tgt := 21) h dX12_set_9 (by decide) (by first | assumption | exact ⟨by omega, by omega⟩) (fun c9 => ?_) (fun c9 => ?_)
      · exfalso; omega
      · refine g_iload_n h dX12_set_12 rfl ?_
        refine g_iconst h dX12_set_13 ?_
        refine g_iconst h dX12_set_14 ?_
        refine g_callS h rfl [_, _, _] (c_X12_in _ _ _ _ _ ha ⟨by omega, by omega⟩ ⟨by omega, by omega⟩) clX12_211 st_X12_in rfl rfl (by rw [hRm]; first | decide | (simp only [clS]; omega)) (by rw [hRm]; first | decide | (simp only [clS]; omega)) (fun _ => Nat.le_of_ble_eq_true rfl) (by rw [hRm]; first | decide | (simp only [clS]; omega)) (by rw [hRm]; first | decide | (simp only [clS]; omega)) dX12_set_15 (fun r15 w15 hp15 => ?_)
        obtain ⟨rfl, hw15⟩ := hp15
        rw [hw15]
        have hbw15 := ite01 ((0 : Int) ≤ 1 ∧ (1 : Int) ≤ 4)
        refine g_if_ne (tgt := 27) h dX12_set_18 (by decide) (by first | assumption | exact ⟨by omega, by omega⟩) (fun c18 => ?_) (fun c18 => ?_)
        · refine g_iload_n h dX12_set_27 rfl ?_
          refine g_if_ne (tgt := 35) h dX12_set_28 (by decide) (by first | assumption | exact ⟨by omega, by omega⟩) (fun c28 => ?_) (fun c28 => ?_)
          · refine g_iload_n h dX12_set_35 rfl ?_
            refine g_iconst h dX12_set_36 ?_
            refine g_icmp_ne (tgt := 44) h dX12_set_37 (by decide) (by first | assumption | exact ⟨by omega, by omega⟩) (by first | assumption | exact ⟨by omega, by omega⟩) (fun c37 => ?_) (fun c37 => ?_)
            · refine g_iconst h dX12_set_44 ?_
              refine g_istore h dX12_set_45 (Nat.le_of_ble_eq_true rfl) rfl rfl ?_
              refine g_iload_n h dX12_set_47 rfl ?_
              refine g_if_eq (tgt := 56) h dX12_set_48 (by decide) (by first | assumption | exact ⟨by omega, by omega⟩) (fun c48 => ?_) (fun c48 => ?_)
              · exfalso; omega
              · refine g_iload_n h dX12_set_51 rfl ?_
                refine g_iconst h dX12_set_52 ?_
                refine g_icmp_ne (tgt := 62) h dX12_set_53 (by decide) (by first | assumption | exact ⟨by omega, by omega⟩) (by first | assumption | exact ⟨by omega, by omega⟩) (fun c53 => ?_) (fun c53 => ?_)
                · refine g_iload_n h dX12_set_62 rfl ?_
                  refine g_iconst h dX12_set_63 ?_
                  refine g_icmp_ne (tgt := 73) h dX12_set_64 (by decide) (by first | assumption | exact ⟨by omega, by omega⟩) (by first | assumption | exact ⟨by omega, by omega⟩) (fun c64 => ?_) (fun c64 => ?_)
                  · exfalso; omega
                  · refine g_sipush h dX12_set_67 rfl ?_
                    refine g_goto (tgt := 87) h dX12_set_70 (by decide) ?_
                    refine g_istore h dX12_set_87 (Nat.le_of_ble_eq_true rfl) rfl rfl ?_
                    refine g_iload_n h dX12_set_89 rfl ?_
                    refine g_iload h dX12_set_90 rfl ?_
                    refine g_iload h dX12_set_92 rfl ?_
                    refine g_callS h rfl [_, _, _] (c_X12_in _ _ _ _ _ hv ⟨by omega, by omega⟩ ⟨by omega, by omega⟩) clX12_211 st_X12_in rfl rfl (by rw [hRm]; first | decide | (simp only [clS]; omega)) (by rw [hRm]; first | decide | (simp only [clS]; omega)) (fun _ => Nat.le_of_ble_eq_true rfl) (by rw [hRm]; first | decide | (simp only [clS]; omega)) (by rw [hRm]; first | decide | (simp only [clS]; omega)) dX12_set_94 (fun r94 w94 hp94 => ?_)
                    obtain ⟨rfl, hw94⟩ := hp94
                    rw [hw94]
                    have hbw94 := ite01 ((0 : Int) ≤ v ∧ v ≤ 20000)
                    refine g_if_ne (tgt := 106) h dX12_set_97 (by decide) (by first | assumption | exact ⟨by omega, by omega⟩) (fun c97 => ?_) (fun c97 => ?_)
                    · refine g_iload_n h dX12_set_106 rfl ?_
                      rcases (show (1 : Int) = 0 ∨ (1 : Int) = 1 ∨ (1 : Int) = 2 ∨ (1 : Int) = 3 ∨ ((1 : Int) < 0 ∨ 3 < (1 : Int)) by omega) with c107 | c107 | c107 | c107 | c107
                      · refine g_tswI (tgt := 136) h 0 (by first | assumption | exact ⟨by omega, by omega⟩) (by first | omega | assumption) (by first | omega | assumption) rfl (by decide) dX12_set_107 ?_
                        refine g_aload_n h dX12_set_136 rfl ?_
                        refine g_getQ h flX12_35 rfl (by assumption) (by assumption) dX12_set_137 ?_
                        refine g_iload_n h dX12_set_140 rfl ?_
                        refine g_iload_n h dX12_set_141 rfl ?_
                        refine g_iast h (z.toNat) (by assumption) (by first | omega | assumption) (by first | omega | assumption) (by first | decide | omega) dX12_set_142 ?_
                        refine g_goto (tgt := 183) h dX12_set_143 (by decide) ?_
                        refine g_aload_n h dX12_set_183 rfl ?_
                        refine g_callV h rfl (ci := 12) [] (by assumption) (c_X12_granted _ _ (MS_of rfl rfl hM)) clX12_215 (by decide) rfl in_X12_granted se_X12_granted rfl rfl (by rw [hRm]; first | decide | (simp only [clS]; omega)) (by rw [hRm]; first | decide | (simp only [clS]; omega)) (fun _ => Nat.le_of_ble_eq_true rfl) (by rw [hRm]; first | decide | (simp only [clS]; omega)) (by rw [hRm]; first | decide | (simp only [clS]; omega)) dX12_set_184 (fun r184 w184 hp184 => ?_)
                        obtain ⟨rfl, hw184⟩ := hp184
                        rw [hw184]
                        refine g_zret h hQ (by first | decide | omega | (simp only [clS]; omega)) (by first | decide | omega | (simp only [clS]; omega)) (by omega) ?_ dX12_set_187
                        first
                        | (exfalso; omega)
                        | (refine ⟨?_, ?_⟩ <;> (repeat first | rw [if_pos (by omega)] | rw [if_neg (by omega)]) <;> rfl)
                      · refine g_tswI (tgt := 146) h 1 (by first | assumption | exact ⟨by omega, by omega⟩) (by first | omega | assumption) (by first | omega | assumption) rfl (by decide) dX12_set_107 ?_
                        refine g_aload_n h dX12_set_146 rfl ?_
                        refine g_getQ h flX12_38 rfl (by assumption) (by assumption) dX12_set_147 ?_
                        refine g_iload_n h dX12_set_150 rfl ?_
                        refine g_iload_n h dX12_set_151 rfl ?_
                        refine g_iast h (z.toNat) (by assumption) (by first | omega | assumption) (by first | omega | assumption) (by first | decide | omega) dX12_set_152 ?_
                        refine g_goto (tgt := 183) h dX12_set_153 (by decide) ?_
                        refine g_aload_n h dX12_set_183 rfl ?_
                        refine g_callV h rfl (ci := 12) [] (by assumption) (c_X12_granted _ _ (MS_of rfl rfl hM)) clX12_215 (by decide) rfl in_X12_granted se_X12_granted rfl rfl (by rw [hRm]; first | decide | (simp only [clS]; omega)) (by rw [hRm]; first | decide | (simp only [clS]; omega)) (fun _ => Nat.le_of_ble_eq_true rfl) (by rw [hRm]; first | decide | (simp only [clS]; omega)) (by rw [hRm]; first | decide | (simp only [clS]; omega)) dX12_set_184 (fun r184 w184 hp184 => ?_)
                        obtain ⟨rfl, hw184⟩ := hp184
                        rw [hw184]
                        refine g_zret h hQ (by first | decide | omega | (simp only [clS]; omega)) (by first | decide | omega | (simp only [clS]; omega)) (by omega) ?_ dX12_set_187
                        first
                        | (exfalso; omega)
                        | (refine ⟨?_, ?_⟩ <;> (repeat first | rw [if_pos (by omega)] | rw [if_neg (by omega)]) <;> rfl)
                      · refine g_tswI (tgt := 156) h 2 (by first | assumption | exact ⟨by omega, by omega⟩) (by first | omega | assumption) (by first | omega | assumption) rfl (by decide) dX12_set_107 ?_
                        refine g_aload_n h dX12_set_156 rfl ?_
                        refine g_getQ h flX12_41 rfl (by assumption) (by assumption) dX12_set_157 ?_
                        refine g_iload_n h dX12_set_160 rfl ?_
                        refine g_iload_n h dX12_set_161 rfl ?_
                        refine g_iast h (z.toNat) (by assumption) (by first | omega | assumption) (by first | omega | assumption) (by first | decide | omega) dX12_set_162 ?_
                        refine g_goto (tgt := 183) h dX12_set_163 (by decide) ?_
                        refine g_aload_n h dX12_set_183 rfl ?_
                        refine g_callV h rfl (ci := 12) [] (by assumption) (c_X12_granted _ _ (MS_of rfl rfl hM)) clX12_215 (by decide) rfl in_X12_granted se_X12_granted rfl rfl (by rw [hRm]; first | decide | (simp only [clS]; omega)) (by rw [hRm]; first | decide | (simp only [clS]; omega)) (fun _ => Nat.le_of_ble_eq_true rfl) (by rw [hRm]; first | decide | (simp only [clS]; omega)) (by rw [hRm]; first | decide | (simp only [clS]; omega)) dX12_set_184 (fun r184 w184 hp184 => ?_)
                        obtain ⟨rfl, hw184⟩ := hp184
                        rw [hw184]
                        refine g_zret h hQ (by first | decide | omega | (simp only [clS]; omega)) (by first | decide | omega | (simp only [clS]; omega)) (by omega) ?_ dX12_set_187
                        first
                        | (exfalso; omega)
                        | (refine ⟨?_, ?_⟩ <;> (repeat first | rw [if_pos (by omega)] | rw [if_neg (by omega)]) <;> rfl)
                      · refine g_tswI (tgt := 166) h 3 (by first | assumption | exact ⟨by omega, by omega⟩) (by first | omega | assumption) (by first | omega | assumption) rfl (by decide) dX12_set_107 ?_
                        refine g_aload_n h dX12_set_166 rfl ?_
                        refine g_getQ h flX12_44 rfl (by assumption) (by assumption) dX12_set_167 ?_
                        refine g_iload_n h dX12_set_170 rfl ?_
                        refine g_iload_n h dX12_set_171 rfl ?_
                        refine g_iast h (z.toNat) (by assumption) (by first | omega | assumption) (by first | omega | assumption) (by first | decide | omega) dX12_set_172 ?_
                        refine g_goto (tgt := 183) h dX12_set_173 (by decide) ?_
                        refine g_aload_n h dX12_set_183 rfl ?_
                        refine g_callV h rfl (ci := 12) [] (by assumption) (c_X12_granted _ _ (MS_of rfl rfl hM)) clX12_215 (by decide) rfl in_X12_granted se_X12_granted rfl rfl (by rw [hRm]; first | decide | (simp only [clS]; omega)) (by rw [hRm]; first | decide | (simp only [clS]; omega)) (fun _ => Nat.le_of_ble_eq_true rfl) (by rw [hRm]; first | decide | (simp only [clS]; omega)) (by rw [hRm]; first | decide | (simp only [clS]; omega)) dX12_set_184 (fun r184 w184 hp184 => ?_)
                        obtain ⟨rfl, hw184⟩ := hp184
                        rw [hw184]
                        refine g_zret h hQ (by first | decide | omega | (simp only [clS]; omega)) (by first | decide | omega | (simp only [clS]; omega)) (by omega) ?_ dX12_set_187
                        first
                        | (exfalso; omega)
                        | (refine ⟨?_, ?_⟩ <;> (repeat first | rw [if_pos (by omega)] | rw [if_neg (by omega)]) <;> rfl)
                      · refine g_tswO (tgt := 176) h (by first | assumption | exact ⟨by omega, by omega⟩) c107 (by decide) dX12_set_107 ?_
                        refine g_aload_n h dX12_set_176 rfl ?_
                        refine g_getQ h flX12_47 rfl (by assumption) (by assumption) dX12_set_177 ?_
                        refine g_iload_n h dX12_set_180 rfl ?_
                        refine g_iload_n h dX12_set_181 rfl ?_
                        refine g_iast h (z.toNat) (by assumption) (by first | omega | assumption) (by first | omega | assumption) (by first | decide | omega) dX12_set_182 ?_
                        refine g_aload_n h dX12_set_183 rfl ?_
                        refine g_callV h rfl (ci := 12) [] (by assumption) (c_X12_granted _ _ (MS_of rfl rfl hM)) clX12_215 (by decide) rfl in_X12_granted se_X12_granted rfl rfl (by rw [hRm]; first | decide | (simp only [clS]; omega)) (by rw [hRm]; first | decide | (simp only [clS]; omega)) (fun _ => Nat.le_of_ble_eq_true rfl) (by rw [hRm]; first | decide | (simp only [clS]; omega)) (by rw [hRm]; first | decide | (simp only [clS]; omega)) dX12_set_184 (fun r184 w184 hp184 => ?_)
                        obtain ⟨rfl, hw184⟩ := hp184
                        rw [hw184]
                        refine g_zret h hQ (by first | decide | omega | (simp only [clS]; omega)) (by first | decide | omega | (simp only [clS]; omega)) (by omega) ?_ dX12_set_187
                        first
                        | (exfalso; omega)
                        | (refine ⟨?_, ?_⟩ <;> (repeat first | rw [if_pos (by omega)] | rw [if_neg (by omega)]) <;> rfl)
                    · refine g_aload_n h dX12_set_100 rfl ?_
                      refine g_iconst h dX12_set_101 ?_
                      refine g_callV h rfl (ci := 12) [_] (by assumption) (c_X12_denied _ _ _ (MS_of rfl rfl hM)) clX12_207 (by decide) rfl in_X12_denied se_X12_denied rfl rfl (by rw [hRm]; first | decide | (simp only [clS]; omega)) (by rw [hRm]; first | decide | (simp only [clS]; omega)) (fun _ => Nat.le_of_ble_eq_true rfl) (by rw [hRm]; first | decide | (simp only [clS]; omega)) (by rw [hRm]; first | decide | (simp only [clS]; omega)) dX12_set_102 (fun r102 w102 hp102 => ?_)
                      obtain ⟨rfl, hw102⟩ := hp102
                      rw [hw102]
                      refine g_zret h hQ (by first | decide | omega | (simp only [clS]; omega)) (by first | decide | omega | (simp only [clS]; omega)) (by omega) ?_ dX12_set_105
                      first
                      | (exfalso; omega)
                      | (refine ⟨?_, ?_⟩ <;> (repeat first | rw [if_pos (by omega)] | rw [if_neg (by omega)]) <;> rfl)
                · exfalso; omega
            · exfalso; omega
          · exfalso; omega
        · exfalso; omega
    · have hlo : seLo 2 = 0 := rfl
      have hhi : seHi 2 = 10000 := rfl
      rw [hlo, hhi] at hQ
      refine g_aload_n h dX12_set_0 rfl ?_
      refine g_iconst h dX12_set_1 ?_
      refine g_putI h flX12_1 rfl rfl (by assumption) dX12_set_2 ?_
      refine g_iload_n h dX12_set_5 rfl ?_
      refine g_callS h rfl [_] (c_X12_isLake _ _ z hz) clX12_182 st_X12_isLake rfl rfl (by rw [hRm]; first | decide | (simp only [clS]; omega)) (by rw [hRm]; first | decide | (simp only [clS]; omega)) (fun _ => Nat.le_of_ble_eq_true rfl) (by rw [hRm]; first | decide | (simp only [clS]; omega)) (by rw [hRm]; first | decide | (simp only [clS]; omega)) dX12_set_6 (fun r6 w6 hp6 => ?_)
      obtain ⟨rfl, hw6⟩ := hp6
      rw [hw6]
      have hbw6 := ite01 (0 ≤ z ∧ z < 2)
      refine g_if_eq (tgt := 21) h dX12_set_9 (by decide) (by first | assumption | exact ⟨by omega, by omega⟩) (fun c9 => ?_) (fun c9 => ?_)
      · exfalso; omega
      · refine g_iload_n h dX12_set_12 rfl ?_
        refine g_iconst h dX12_set_13 ?_
        refine g_iconst h dX12_set_14 ?_
        refine g_callS h rfl [_, _, _] (c_X12_in _ _ _ _ _ ha ⟨by omega, by omega⟩ ⟨by omega, by omega⟩) clX12_211 st_X12_in rfl rfl (by rw [hRm]; first | decide | (simp only [clS]; omega)) (by rw [hRm]; first | decide | (simp only [clS]; omega)) (fun _ => Nat.le_of_ble_eq_true rfl) (by rw [hRm]; first | decide | (simp only [clS]; omega)) (by rw [hRm]; first | decide | (simp only [clS]; omega)) dX12_set_15 (fun r15 w15 hp15 => ?_)
        obtain ⟨rfl, hw15⟩ := hp15
        rw [hw15]
        have hbw15 := ite01 ((0 : Int) ≤ 2 ∧ (2 : Int) ≤ 4)
        refine g_if_ne (tgt := 27) h dX12_set_18 (by decide) (by first | assumption | exact ⟨by omega, by omega⟩) (fun c18 => ?_) (fun c18 => ?_)
        · refine g_iload_n h dX12_set_27 rfl ?_
          refine g_if_ne (tgt := 35) h dX12_set_28 (by decide) (by first | assumption | exact ⟨by omega, by omega⟩) (fun c28 => ?_) (fun c28 => ?_)
          · refine g_iload_n h dX12_set_35 rfl ?_
            refine g_iconst h dX12_set_36 ?_
            refine g_icmp_ne (tgt := 44) h dX12_set_37 (by decide) (by first | assumption | exact ⟨by omega, by omega⟩) (by first | assumption | exact ⟨by omega, by omega⟩) (fun c37 => ?_) (fun c37 => ?_)
            · refine g_iconst h dX12_set_44 ?_
              refine g_istore h dX12_set_45 (Nat.le_of_ble_eq_true rfl) rfl rfl ?_
              refine g_iload_n h dX12_set_47 rfl ?_
              refine g_if_eq (tgt := 56) h dX12_set_48 (by decide) (by first | assumption | exact ⟨by omega, by omega⟩) (fun c48 => ?_) (fun c48 => ?_)
              · refine g_sipush h dX12_set_56 rfl ?_
                refine g_goto (tgt := 87) h dX12_set_59 (by decide) ?_
                refine g_istore h dX12_set_87 (Nat.le_of_ble_eq_true rfl) rfl rfl ?_
                refine g_iload_n h dX12_set_89 rfl ?_
                refine g_iload h dX12_set_90 rfl ?_
                refine g_iload h dX12_set_92 rfl ?_
                refine g_callS h rfl [_, _, _] (c_X12_in _ _ _ _ _ hv ⟨by omega, by omega⟩ ⟨by omega, by omega⟩) clX12_211 st_X12_in rfl rfl (by rw [hRm]; first | decide | (simp only [clS]; omega)) (by rw [hRm]; first | decide | (simp only [clS]; omega)) (fun _ => Nat.le_of_ble_eq_true rfl) (by rw [hRm]; first | decide | (simp only [clS]; omega)) (by rw [hRm]; first | decide | (simp only [clS]; omega)) dX12_set_94 (fun r94 w94 hp94 => ?_)
                obtain ⟨rfl, hw94⟩ := hp94
                rw [hw94]
                have hbw94 := ite01 ((0 : Int) ≤ v ∧ v ≤ 10000)
                refine g_if_ne (tgt := 106) h dX12_set_97 (by decide) (by first | assumption | exact ⟨by omega, by omega⟩) (fun c97 => ?_) (fun c97 => ?_)
                · refine g_iload_n h dX12_set_106 rfl ?_
                  rcases (show (2 : Int) = 0 ∨ (2 : Int) = 1 ∨ (2 : Int) = 2 ∨ (2 : Int) = 3 ∨ ((2 : Int) < 0 ∨ 3 < (2 : Int)) by omega) with c107 | c107 | c107 | c107 | c107
                  · refine g_tswI (tgt := 136) h 0 (by first | assumption | exact ⟨by omega, by omega⟩) (by first | omega | assumption) (by first | omega | assumption) rfl (by decide) dX12_set_107 ?_
                    refine g_aload_n h dX12_set_136 rfl ?_
                    refine g_getQ h flX12_35 rfl (by assumption) (by assumption) dX12_set_137 ?_
                    refine g_iload_n h dX12_set_140 rfl ?_
                    refine g_iload_n h dX12_set_141 rfl ?_
                    refine g_iast h (z.toNat) (by assumption) (by first | omega | assumption) (by first | omega | assumption) (by first | decide | omega) dX12_set_142 ?_
                    refine g_goto (tgt := 183) h dX12_set_143 (by decide) ?_
                    refine g_aload_n h dX12_set_183 rfl ?_
                    refine g_callV h rfl (ci := 12) [] (by assumption) (c_X12_granted _ _ (MS_of rfl rfl hM)) clX12_215 (by decide) rfl in_X12_granted se_X12_granted rfl rfl (by rw [hRm]; first | decide | (simp only [clS]; omega)) (by rw [hRm]; first | decide | (simp only [clS]; omega)) (fun _ => Nat.le_of_ble_eq_true rfl) (by rw [hRm]; first | decide | (simp only [clS]; omega)) (by rw [hRm]; first | decide | (simp only [clS]; omega)) dX12_set_184 (fun r184 w184 hp184 => ?_)
                    obtain ⟨rfl, hw184⟩ := hp184
                    rw [hw184]
                    refine g_zret h hQ (by first | decide | omega | (simp only [clS]; omega)) (by first | decide | omega | (simp only [clS]; omega)) (by omega) ?_ dX12_set_187
                    first
                    | (exfalso; omega)
                    | (refine ⟨?_, ?_⟩ <;> (repeat first | rw [if_pos (by omega)] | rw [if_neg (by omega)]) <;> rfl)
                  · refine g_tswI (tgt := 146) h 1 (by first | assumption | exact ⟨by omega, by omega⟩) (by first | omega | assumption) (by first | omega | assumption) rfl (by decide) dX12_set_107 ?_
                    refine g_aload_n h dX12_set_146 rfl ?_
                    refine g_getQ h flX12_38 rfl (by assumption) (by assumption) dX12_set_147 ?_
                    refine g_iload_n h dX12_set_150 rfl ?_
                    refine g_iload_n h dX12_set_151 rfl ?_
                    refine g_iast h (z.toNat) (by assumption) (by first | omega | assumption) (by first | omega | assumption) (by first | decide | omega) dX12_set_152 ?_
                    refine g_goto (tgt := 183) h dX12_set_153 (by decide) ?_
                    refine g_aload_n h dX12_set_183 rfl ?_
                    refine g_callV h rfl (ci := 12) [] (by assumption) (c_X12_granted _ _ (MS_of rfl rfl hM)) clX12_215 (by decide) rfl in_X12_granted se_X12_granted rfl rfl (by rw [hRm]; first | decide | (simp only [clS]; omega)) (by rw [hRm]; first | decide | (simp only [clS]; omega)) (fun _ => Nat.le_of_ble_eq_true rfl) (by rw [hRm]; first | decide | (simp only [clS]; omega)) (by rw [hRm]; first | decide | (simp only [clS]; omega)) dX12_set_184 (fun r184 w184 hp184 => ?_)
                    obtain ⟨rfl, hw184⟩ := hp184
                    rw [hw184]
                    refine g_zret h hQ (by first | decide | omega | (simp only [clS]; omega)) (by first | decide | omega | (simp only [clS]; omega)) (by omega) ?_ dX12_set_187
                    first
                    | (exfalso; omega)
                    | (refine ⟨?_, ?_⟩ <;> (repeat first | rw [if_pos (by omega)] | rw [if_neg (by omega)]) <;> rfl)
                  · refine g_tswI (tgt := 156) h 2 (by first | assumption | exact ⟨by omega, by omega⟩) (by first | omega | assumption) (by first | omega | assumption) rfl (by decide) dX12_set_107 ?_
                    refine g_aload_n h dX12_set_156 rfl ?_
                    refine g_getQ h flX12_41 rfl (by assumption) (by assumption) dX12_set_157 ?_
                    refine g_iload_n h dX12_set_160 rfl ?_
                    refine g_iload_n h dX12_set_161 rfl ?_
                    refine g_iast h (z.toNat) (by assumption) (by first | omega | assumption) (by first | omega | assumption) (by first | decide | omega) dX12_set_162 ?_
                    refine g_goto (tgt := 183) h dX12_set_163 (by decide) ?_
                    refine g_aload_n h dX12_set_183 rfl ?_
                    refine g_callV h rfl (ci := 12) [] (by assumption) (c_X12_granted _ _ (MS_of rfl rfl hM)) clX12_215 (by decide) rfl in_X12_granted se_X12_granted rfl rfl (by rw [hRm]; first | decide | (simp only [clS]; omega)) (by rw [hRm]; first | decide | (simp only [clS]; omega)) (fun _ => Nat.le_of_ble_eq_true rfl) (by rw [hRm]; first | decide | (simp only [clS]; omega)) (by rw [hRm]; first | decide | (simp only [clS]; omega)) dX12_set_184 (fun r184 w184 hp184 => ?_)
                    obtain ⟨rfl, hw184⟩ := hp184
                    rw [hw184]
                    refine g_zret h hQ (by first | decide | omega | (simp only [clS]; omega)) (by first | decide | omega | (simp only [clS]; omega)) (by omega) ?_ dX12_set_187
                    first
                    | (exfalso; omega)
                    | (refine ⟨?_, ?_⟩ <;> (repeat first | rw [if_pos (by omega)] | rw [if_neg (by omega)]) <;> rfl)
                  · refine g_tswI (tgt := 166) h 3 (by first | assumption | exact ⟨by omega, by omega⟩) (by first | omega | assumption) (by first | omega | assumption) rfl (by decide) dX12_set_107 ?_
                    refine g_aload_n h dX12_set_166 rfl ?_
                    refine g_getQ h flX12_44 rfl (by assumption) (by assumption) dX12_set_167 ?_
                    refine g_iload_n h dX12_set_170 rfl ?_
                    refine g_iload_n h dX12_set_171 rfl ?_
                    refine g_iast h (z.toNat) (by assumption) (by first | omega | assumption) (by first | omega | assumption) (by first | decide | omega) dX12_set_172 ?_
                    refine g_goto (tgt := 183) h dX12_set_173 (by decide) ?_
                    refine g_aload_n h dX12_set_183 rfl ?_
                    refine g_callV h rfl (ci := 12) [] (by assumption) (c_X12_granted _ _ (MS_of rfl rfl hM)) clX12_215 (by decide) rfl in_X12_granted se_X12_granted rfl rfl (by rw [hRm]; first | decide | (simp only [clS]; omega)) (by rw [hRm]; first | decide | (simp only [clS]; omega)) (fun _ => Nat.le_of_ble_eq_true rfl) (by rw [hRm]; first | decide | (simp only [clS]; omega)) (by rw [hRm]; first | decide | (simp only [clS]; omega)) dX12_set_184 (fun r184 w184 hp184 => ?_)
                    obtain ⟨rfl, hw184⟩ := hp184
                    rw [hw184]
                    refine g_zret h hQ (by first | decide | omega | (simp only [clS]; omega)) (by first | decide | omega | (simp only [clS]; omega)) (by omega) ?_ dX12_set_187
                    first
                    | (exfalso; omega)
                    | (refine ⟨?_, ?_⟩ <;> (repeat first | rw [if_pos (by omega)] | rw [if_neg (by omega)]) <;> rfl)
                  · refine g_tswO (tgt := 176) h (by first | assumption | exact ⟨by omega, by omega⟩) c107 (by decide) dX12_set_107 ?_
                    refine g_aload_n h dX12_set_176 rfl ?_
                    refine g_getQ h flX12_47 rfl (by assumption) (by assumption) dX12_set_177 ?_
                    refine g_iload_n h dX12_set_180 rfl ?_
                    refine g_iload_n h dX12_set_181 rfl ?_
                    refine g_iast h (z.toNat) (by assumption) (by first | omega | assumption) (by first | omega | assumption) (by first | decide | omega) dX12_set_182 ?_
                    refine g_aload_n h dX12_set_183 rfl ?_
                    refine g_callV h rfl (ci := 12) [] (by assumption) (c_X12_granted _ _ (MS_of rfl rfl hM)) clX12_215 (by decide) rfl in_X12_granted se_X12_granted rfl rfl (by rw [hRm]; first | decide | (simp only [clS]; omega)) (by rw [hRm]; first | decide | (simp only [clS]; omega)) (fun _ => Nat.le_of_ble_eq_true rfl) (by rw [hRm]; first | decide | (simp only [clS]; omega)) (by rw [hRm]; first | decide | (simp only [clS]; omega)) dX12_set_184 (fun r184 w184 hp184 => ?_)
                    obtain ⟨rfl, hw184⟩ := hp184
                    rw [hw184]
                    refine g_zret h hQ (by first | decide | omega | (simp only [clS]; omega)) (by first | decide | omega | (simp only [clS]; omega)) (by omega) ?_ dX12_set_187
                    first
                    | (exfalso; omega)
                    | (refine ⟨?_, ?_⟩ <;> (repeat first | rw [if_pos (by omega)] | rw [if_neg (by omega)]) <;> rfl)
                · refine g_aload_n h dX12_set_100 rfl ?_
                  refine g_iconst h dX12_set_101 ?_
                  refine g_callV h rfl (ci := 12) [_] (by assumption) (c_X12_denied _ _ _ (MS_of rfl rfl hM)) clX12_207 (by decide) rfl in_X12_denied se_X12_denied rfl rfl (by rw [hRm]; first | decide | (simp only [clS]; omega)) (by rw [hRm]; first | decide | (simp only [clS]; omega)) (fun _ => Nat.le_of_ble_eq_true rfl) (by rw [hRm]; first | decide | (simp only [clS]; omega)) (by rw [hRm]; first | decide | (simp only [clS]; omega)) dX12_set_102 (fun r102 w102 hp102 => ?_)
                  obtain ⟨rfl, hw102⟩ := hp102
                  rw [hw102]
                  refine g_zret h hQ (by first | decide | omega | (simp only [clS]; omega)) (by first | decide | omega | (simp only [clS]; omega)) (by omega) ?_ dX12_set_105
                  first
                  | (exfalso; omega)
                  | (refine ⟨?_, ?_⟩ <;> (repeat first | rw [if_pos (by omega)] | rw [if_neg (by omega)]) <;> rfl)
              · refine g_iload_n h dX12_set_51 rfl ?_
                refine g_iconst h dX12_set_52 ?_
                refine g_icmp_ne (tgt := 62) h dX12_set_53 (by decide) (by first | assumption | exact ⟨by omega, by omega⟩) (by first | assumption | exact ⟨by omega, by omega⟩) (fun c53 => ?_) (fun c53 => ?_)
                · exfalso; omega
                · refine g_sipush h dX12_set_56 rfl ?_
                  refine g_goto (tgt := 87) h dX12_set_59 (by decide) ?_
                  refine g_istore h dX12_set_87 (Nat.le_of_ble_eq_true rfl) rfl rfl ?_
                  refine g_iload_n h dX12_set_89 rfl ?_
                  refine g_iload h dX12_set_90 rfl ?_
                  refine g_iload h dX12_set_92 rfl ?_
                  refine g_callS h rfl [_, _, _] (c_X12_in _ _ _ _ _ hv ⟨by omega, by omega⟩ ⟨by omega, by omega⟩) clX12_211 st_X12_in rfl rfl (by rw [hRm]; first | decide | (simp only [clS]; omega)) (by rw [hRm]; first | decide | (simp only [clS]; omega)) (fun _ => Nat.le_of_ble_eq_true rfl) (by rw [hRm]; first | decide | (simp only [clS]; omega)) (by rw [hRm]; first | decide | (simp only [clS]; omega)) dX12_set_94 (fun r94 w94 hp94 => ?_)
                  obtain ⟨rfl, hw94⟩ := hp94
                  rw [hw94]
                  have hbw94 := ite01 ((0 : Int) ≤ v ∧ v ≤ 10000)
                  refine g_if_ne (tgt := 106) h dX12_set_97 (by decide) (by first | assumption | exact ⟨by omega, by omega⟩) (fun c97 => ?_) (fun c97 => ?_)
                  · refine g_iload_n h dX12_set_106 rfl ?_
                    rcases (show (2 : Int) = 0 ∨ (2 : Int) = 1 ∨ (2 : Int) = 2 ∨ (2 : Int) = 3 ∨ ((2 : Int) < 0 ∨ 3 < (2 : Int)) by omega) with c107 | c107 | c107 | c107 | c107
                    · refine g_tswI (tgt := 136) h 0 (by first | assumption | exact ⟨by omega, by omega⟩) (by first | omega | assumption) (by first | omega | assumption) rfl (by decide) dX12_set_107 ?_
                      refine g_aload_n h dX12_set_136 rfl ?_
                      refine g_getQ h flX12_35 rfl (by assumption) (by assumption) dX12_set_137 ?_
                      refine g_iload_n h dX12_set_140 rfl ?_
                      refine g_iload_n h dX12_set_141 rfl ?_
                      refine g_iast h (z.toNat) (by assumption) (by first | omega | assumption) (by first | omega | assumption) (by first | decide | omega) dX12_set_142 ?_
                      refine g_goto (tgt := 183) h dX12_set_143 (by decide) ?_
                      refine g_aload_n h dX12_set_183 rfl ?_
                      refine g_callV h rfl (ci := 12) [] (by assumption) (c_X12_granted _ _ (MS_of rfl rfl hM)) clX12_215 (by decide) rfl in_X12_granted se_X12_granted rfl rfl (by rw [hRm]; first | decide | (simp only [clS]; omega)) (by rw [hRm]; first | decide | (simp only [clS]; omega)) (fun _ => Nat.le_of_ble_eq_true rfl) (by rw [hRm]; first | decide | (simp only [clS]; omega)) (by rw [hRm]; first | decide | (simp only [clS]; omega)) dX12_set_184 (fun r184 w184 hp184 => ?_)
                      obtain ⟨rfl, hw184⟩ := hp184
                      rw [hw184]
                      refine g_zret h hQ (by first | decide | omega | (simp only [clS]; omega)) (by first | decide | omega | (simp only [clS]; omega)) (by omega) ?_ dX12_set_187
                      first
                      | (exfalso; omega)
                      | (refine ⟨?_, ?_⟩ <;> (repeat first | rw [if_pos (by omega)] | rw [if_neg (by omega)]) <;> rfl)
                    · refine g_tswI (tgt := 146) h 1 (by first | assumption | exact ⟨by omega, by omega⟩) (by first | omega | assumption) (by first | omega | assumption) rfl (by decide) dX12_set_107 ?_
                      refine g_aload_n h dX12_set_146 rfl ?_
                      refine g_getQ h flX12_38 rfl (by assumption) (by assumption) dX12_set_147 ?_
                      refine g_iload_n h dX12_set_150 rfl ?_
                      refine g_iload_n h dX12_set_151 rfl ?_
                      refine g_iast h (z.toNat) (by assumption) (by first | omega | assumption) (by first | omega | assumption) (by first | decide | omega) dX12_set_152 ?_
                      refine g_goto (tgt := 183) h dX12_set_153 (by decide) ?_
                      refine g_aload_n h dX12_set_183 rfl ?_
                      refine g_callV h rfl (ci := 12) [] (by assumption) (c_X12_granted _ _ (MS_of rfl rfl hM)) clX12_215 (by decide) rfl in_X12_granted se_X12_granted rfl rfl (by rw [hRm]; first | decide | (simp only [clS]; omega)) (by rw [hRm]; first | decide | (simp only [clS]; omega)) (fun _ => Nat.le_of_ble_eq_true rfl) (by rw [hRm]; first | decide | (simp only [clS]; omega)) (by rw [hRm]; first | decide | (simp only [clS]; omega)) dX12_set_184 (fun r184 w184 hp184 => ?_)
                      obtain ⟨rfl, hw184⟩ := hp184
                      rw [hw184]
                      refine g_zret h hQ (by first | decide | omega | (simp only [clS]; omega)) (by first | decide | omega | (simp only [clS]; omega)) (by omega) ?_ dX12_set_187
                      first
                      | (exfalso; omega)
                      | (refine ⟨?_, ?_⟩ <;> (repeat first | rw [if_pos (by omega)] | rw [if_neg (by omega)]) <;> rfl)
                    · refine g_tswI (tgt := 156) h 2 (by first | assumption | exact ⟨by omega, by omega⟩) (by first | omega | assumption) (by first | omega | assumption) rfl (by decide) dX12_set_107 ?_
                      refine g_aload_n h dX12_set_156 rfl ?_
                      refine g_getQ h flX12_41 rfl (by assumption) (by assumption) dX12_set_157 ?_
                      refine g_iload_n h dX12_set_160 rfl ?_
                      refine g_iload_n h dX12_set_161 rfl ?_
                      refine g_iast h (z.toNat) (by assumption) (by first | omega | assumption) (by first | omega | assumption) (by first | decide | omega) dX12_set_162 ?_
                      refine g_goto (tgt := 183) h dX12_set_163 (by decide) ?_
                      refine g_aload_n h dX12_set_183 rfl ?_
                      refine g_callV h rfl (ci := 12) [] (by assumption) (c_X12_granted _ _ (MS_of rfl rfl hM)) clX12_215 (by decide) rfl in_X12_granted se_X12_granted rfl rfl (by rw [hRm]; first | decide | (simp only [clS]; omega)) (by rw [hRm]; first | decide | (simp only [clS]; omega)) (fun _ => Nat.le_of_ble_eq_true rfl) (by rw [hRm]; first | decide | (simp only [clS]; omega)) (by rw [hRm]; first | decide | (simp only [clS]; omega)) dX12_set_184 (fun r184 w184 hp184 => ?_)
                      obtain ⟨rfl, hw184⟩ := hp184
                      rw [hw184]
                      refine g_zret h hQ (by first | decide | omega | (simp only [clS]; omega)) (by first | decide | omega | (simp only [clS]; omega)) (by omega) ?_ dX12_set_187
                      first
                      | (exfalso; omega)
                      | (refine ⟨?_, ?_⟩ <;> (repeat first | rw [if_pos (by omega)] | rw [if_neg (by omega)]) <;> rfl)
                    · refine g_tswI (tgt := 166) h 3 (by first | assumption | exact ⟨by omega, by omega⟩) (by first | omega | assumption) (by first | omega | assumption) rfl (by decide) dX12_set_107 ?_
                      refine g_aload_n h dX12_set_166 rfl ?_
                      refine g_getQ h flX12_44 rfl (by assumption) (by assumption) dX12_set_167 ?_
                      refine g_iload_n h dX12_set_170 rfl ?_
                      refine g_iload_n h dX12_set_171 rfl ?_
                      refine g_iast h (z.toNat) (by assumption) (by first | omega | assumption) (by first | omega | assumption) (by first | decide | omega) dX12_set_172 ?_
                      refine g_goto (tgt := 183) h dX12_set_173 (by decide) ?_
                      refine g_aload_n h dX12_set_183 rfl ?_
                      refine g_callV h rfl (ci := 12) [] (by assumption) (c_X12_granted _ _ (MS_of rfl rfl hM)) clX12_215 (by decide) rfl in_X12_granted se_X12_granted rfl rfl (by rw [hRm]; first | decide | (simp only [clS]; omega)) (by rw [hRm]; first | decide | (simp only [clS]; omega)) (fun _ => Nat.le_of_ble_eq_true rfl) (by rw [hRm]; first | decide | (simp only [clS]; omega)) (by rw [hRm]; first | decide | (simp only [clS]; omega)) dX12_set_184 (fun r184 w184 hp184 => ?_)
                      obtain ⟨rfl, hw184⟩ := hp184
                      rw [hw184]
                      refine g_zret h hQ (by first | decide | omega | (simp only [clS]; omega)) (by first | decide | omega | (simp only [clS]; omega)) (by omega) ?_ dX12_set_187
                      first
                      | (exfalso; omega)
                      | (refine ⟨?_, ?_⟩ <;> (repeat first | rw [if_pos (by omega)] | rw [if_neg (by omega)]) <;> rfl)
                    · refine g_tswO (tgt := 176) h (by first | assumption | exact ⟨by omega, by omega⟩) c107 (by decide) dX12_set_107 ?_
                      refine g_aload_n h dX12_set_176 rfl ?_
                      refine g_getQ h flX12_47 rfl (by assumption) (by assumption) dX12_set_177 ?_
                      refine g_iload_n h dX12_set_180 rfl ?_
                      refine g_iload_n h dX12_set_181 rfl ?_
                      refine g_iast h (z.toNat) (by assumption) (by first | omega | assumption) (by first | omega | assumption) (by first | decide | omega) dX12_set_182 ?_
                      refine g_aload_n h dX12_set_183 rfl ?_
                      refine g_callV h rfl (ci := 12) [] (by assumption) (c_X12_granted _ _ (MS_of rfl rfl hM)) clX12_215 (by decide) rfl in_X12_granted se_X12_granted rfl rfl (by rw [hRm]; first | decide | (simp only [clS]; omega)) (by rw [hRm]; first | decide | (simp only [clS]; omega)) (fun _ => Nat.le_of_ble_eq_true rfl) (by rw [hRm]; first | decide | (simp only [clS]; omega)) (by rw [hRm]; first | decide | (simp only [clS]; omega)) dX12_set_184 (fun r184 w184 hp184 => ?_)
                      obtain ⟨rfl, hw184⟩ := hp184
                      rw [hw184]
                      refine g_zret h hQ (by first | decide | omega | (simp only [clS]; omega)) (by first | decide | omega | (simp only [clS]; omega)) (by omega) ?_ dX12_set_187
                      first
                      | (exfalso; omega)
                      | (refine ⟨?_, ?_⟩ <;> (repeat first | rw [if_pos (by omega)] | rw [if_neg (by omega)]) <;> rfl)
                  · refine g_aload_n h dX12_set_100 rfl ?_
                    refine g_iconst h dX12_set_101 ?_
                    refine g_callV h rfl (ci := 12) [_] (by assumption) (c_X12_denied _ _ _ (MS_of rfl rfl hM)) clX12_207 (by decide) rfl in_X12_denied se_X12_denied rfl rfl (by rw [hRm]; first | decide | (simp only [clS]; omega)) (by rw [hRm]; first | decide | (simp only [clS]; omega)) (fun _ => Nat.le_of_ble_eq_true rfl) (by rw [hRm]; first | decide | (simp only [clS]; omega)) (by rw [hRm]; first | decide | (simp only [clS]; omega)) dX12_set_102 (fun r102 w102 hp102 => ?_)
                    obtain ⟨rfl, hw102⟩ := hp102
                    rw [hw102]
                    refine g_zret h hQ (by first | decide | omega | (simp only [clS]; omega)) (by first | decide | omega | (simp only [clS]; omega)) (by omega) ?_ dX12_set_105
                    first
                    | (exfalso; omega)
                    | (refine ⟨?_, ?_⟩ <;> (repeat first | rw [if_pos (by omega)] | rw [if_neg (by omega)]) <;> rfl)
            · exfalso; omega
          · exfalso; omega
        · exfalso; omega
    · have hlo : seLo 3 = 2 := rfl
      have hhi : seHi 3 = 1000 := rfl
      rw [hlo, hhi] at hQ
      refine g_aload_n h dX12_set_0 rfl ?_
      refine g_iconst h dX12_set_1 ?_
      refine g_putI h flX12_1 rfl rfl (by assumption) dX12_set_2 ?_
      refine g_iload_n h dX12_set_5 rfl ?_
      refine g_callS h rfl [_] (c_X12_isLake _ _ z hz) clX12_182 st_X12_isLake rfl rfl (by rw [hRm]; first | decide | (simp only [clS]; omega)) (by rw [hRm]; first | decide | (simp only [clS]; omega)) (fun _ => Nat.le_of_ble_eq_true rfl) (by rw [hRm]; first | decide | (simp only [clS]; omega)) (by rw [hRm]; first | decide | (simp only [clS]; omega)) dX12_set_6 (fun r6 w6 hp6 => ?_)
      obtain ⟨rfl, hw6⟩ := hp6
      rw [hw6]
      have hbw6 := ite01 (0 ≤ z ∧ z < 2)
      refine g_if_eq (tgt := 21) h dX12_set_9 (by decide) (by first | assumption | exact ⟨by omega, by omega⟩) (fun c9 => ?_) (fun c9 => ?_)
      · exfalso; omega
      · refine g_iload_n h dX12_set_12 rfl ?_
        refine g_iconst h dX12_set_13 ?_
        refine g_iconst h dX12_set_14 ?_
        refine g_callS h rfl [_, _, _] (c_X12_in _ _ _ _ _ ha ⟨by omega, by omega⟩ ⟨by omega, by omega⟩) clX12_211 st_X12_in rfl rfl (by rw [hRm]; first | decide | (simp only [clS]; omega)) (by rw [hRm]; first | decide | (simp only [clS]; omega)) (fun _ => Nat.le_of_ble_eq_true rfl) (by rw [hRm]; first | decide | (simp only [clS]; omega)) (by rw [hRm]; first | decide | (simp only [clS]; omega)) dX12_set_15 (fun r15 w15 hp15 => ?_)
        obtain ⟨rfl, hw15⟩ := hp15
        rw [hw15]
        have hbw15 := ite01 ((0 : Int) ≤ 3 ∧ (3 : Int) ≤ 4)
        refine g_if_ne (tgt := 27) h dX12_set_18 (by decide) (by first | assumption | exact ⟨by omega, by omega⟩) (fun c18 => ?_) (fun c18 => ?_)
        · refine g_iload_n h dX12_set_27 rfl ?_
          refine g_if_ne (tgt := 35) h dX12_set_28 (by decide) (by first | assumption | exact ⟨by omega, by omega⟩) (fun c28 => ?_) (fun c28 => ?_)
          · refine g_iload_n h dX12_set_35 rfl ?_
            refine g_iconst h dX12_set_36 ?_
            refine g_icmp_ne (tgt := 44) h dX12_set_37 (by decide) (by first | assumption | exact ⟨by omega, by omega⟩) (by first | assumption | exact ⟨by omega, by omega⟩) (fun c37 => ?_) (fun c37 => ?_)
            · exfalso; omega
            · refine g_iconst h dX12_set_40 ?_
              refine g_goto (tgt := 45) h dX12_set_41 (by decide) ?_
              refine g_istore h dX12_set_45 (Nat.le_of_ble_eq_true rfl) rfl rfl ?_
              refine g_iload_n h dX12_set_47 rfl ?_
              refine g_if_eq (tgt := 56) h dX12_set_48 (by decide) (by first | assumption | exact ⟨by omega, by omega⟩) (fun c48 => ?_) (fun c48 => ?_)
              · exfalso; omega
              · refine g_iload_n h dX12_set_51 rfl ?_
                refine g_iconst h dX12_set_52 ?_
                refine g_icmp_ne (tgt := 62) h dX12_set_53 (by decide) (by first | assumption | exact ⟨by omega, by omega⟩) (by first | assumption | exact ⟨by omega, by omega⟩) (fun c53 => ?_) (fun c53 => ?_)
                · refine g_iload_n h dX12_set_62 rfl ?_
                  refine g_iconst h dX12_set_63 ?_
                  refine g_icmp_ne (tgt := 73) h dX12_set_64 (by decide) (by first | assumption | exact ⟨by omega, by omega⟩) (by first | assumption | exact ⟨by omega, by omega⟩) (fun c64 => ?_) (fun c64 => ?_)
                  · refine g_iload_n h dX12_set_73 rfl ?_
                    refine g_iconst h dX12_set_74 ?_
                    refine g_icmp_ne (tgt := 84) h dX12_set_75 (by decide) (by first | assumption | exact ⟨by omega, by omega⟩) (by first | assumption | exact ⟨by omega, by omega⟩) (fun c75 => ?_) (fun c75 => ?_)
                    · exfalso; omega
                    · refine g_sipush h dX12_set_78 rfl ?_
                      refine g_goto (tgt := 87) h dX12_set_81 (by decide) ?_
                      refine g_istore h dX12_set_87 (Nat.le_of_ble_eq_true rfl) rfl rfl ?_
                      refine g_iload_n h dX12_set_89 rfl ?_
                      refine g_iload h dX12_set_90 rfl ?_
                      refine g_iload h dX12_set_92 rfl ?_
                      refine g_callS h rfl [_, _, _] (c_X12_in _ _ _ _ _ hv ⟨by omega, by omega⟩ ⟨by omega, by omega⟩) clX12_211 st_X12_in rfl rfl (by rw [hRm]; first | decide | (simp only [clS]; omega)) (by rw [hRm]; first | decide | (simp only [clS]; omega)) (fun _ => Nat.le_of_ble_eq_true rfl) (by rw [hRm]; first | decide | (simp only [clS]; omega)) (by rw [hRm]; first | decide | (simp only [clS]; omega)) dX12_set_94 (fun r94 w94 hp94 => ?_)
                      obtain ⟨rfl, hw94⟩ := hp94
                      rw [hw94]
                      have hbw94 := ite01 ((2 : Int) ≤ v ∧ v ≤ 1000)
                      refine g_if_ne (tgt := 106) h dX12_set_97 (by decide) (by first | assumption | exact ⟨by omega, by omega⟩) (fun c97 => ?_) (fun c97 => ?_)
                      · refine g_iload_n h dX12_set_106 rfl ?_
                        rcases (show (3 : Int) = 0 ∨ (3 : Int) = 1 ∨ (3 : Int) = 2 ∨ (3 : Int) = 3 ∨ ((3 : Int) < 0 ∨ 3 < (3 : Int)) by omega) with c107 | c107 | c107 | c107 | c107
                        · refine g_tswI (tgt := 136) h 0 (by first | assumption | exact ⟨by omega, by omega⟩) (by first | omega | assumption) (by first | omega | assumption) rfl (by decide) dX12_set_107 ?_
                          refine g_aload_n h dX12_set_136 rfl ?_
                          refine g_getQ h flX12_35 rfl (by assumption) (by assumption) dX12_set_137 ?_
                          refine g_iload_n h dX12_set_140 rfl ?_
                          refine g_iload_n h dX12_set_141 rfl ?_
                          refine g_iast h (z.toNat) (by assumption) (by first | omega | assumption) (by first | omega | assumption) (by first | decide | omega) dX12_set_142 ?_
                          refine g_goto (tgt := 183) h dX12_set_143 (by decide) ?_
                          refine g_aload_n h dX12_set_183 rfl ?_
                          refine g_callV h rfl (ci := 12) [] (by assumption) (c_X12_granted _ _ (MS_of rfl rfl hM)) clX12_215 (by decide) rfl in_X12_granted se_X12_granted rfl rfl (by rw [hRm]; first | decide | (simp only [clS]; omega)) (by rw [hRm]; first | decide | (simp only [clS]; omega)) (fun _ => Nat.le_of_ble_eq_true rfl) (by rw [hRm]; first | decide | (simp only [clS]; omega)) (by rw [hRm]; first | decide | (simp only [clS]; omega)) dX12_set_184 (fun r184 w184 hp184 => ?_)
                          obtain ⟨rfl, hw184⟩ := hp184
                          rw [hw184]
                          refine g_zret h hQ (by first | decide | omega | (simp only [clS]; omega)) (by first | decide | omega | (simp only [clS]; omega)) (by omega) ?_ dX12_set_187
                          first
                          | (exfalso; omega)
                          | (refine ⟨?_, ?_⟩ <;> (repeat first | rw [if_pos (by omega)] | rw [if_neg (by omega)]) <;> rfl)
                        · refine g_tswI (tgt := 146) h 1 (by first | assumption | exact ⟨by omega, by omega⟩) (by first | omega | assumption) (by first | omega | assumption) rfl (by decide) dX12_set_107 ?_
                          refine g_aload_n h dX12_set_146 rfl ?_
                          refine g_getQ h flX12_38 rfl (by assumption) (by assumption) dX12_set_147 ?_
                          refine g_iload_n h dX12_set_150 rfl ?_
                          refine g_iload_n h dX12_set_151 rfl ?_
                          refine g_iast h (z.toNat) (by assumption) (by first | omega | assumption) (by first | omega | assumption) (by first | decide | omega) dX12_set_152 ?_
                          refine g_goto (tgt := 183) h dX12_set_153 (by decide) ?_
                          refine g_aload_n h dX12_set_183 rfl ?_
                          refine g_callV h rfl (ci := 12) [] (by assumption) (c_X12_granted _ _ (MS_of rfl rfl hM)) clX12_215 (by decide) rfl in_X12_granted se_X12_granted rfl rfl (by rw [hRm]; first | decide | (simp only [clS]; omega)) (by rw [hRm]; first | decide | (simp only [clS]; omega)) (fun _ => Nat.le_of_ble_eq_true rfl) (by rw [hRm]; first | decide | (simp only [clS]; omega)) (by rw [hRm]; first | decide | (simp only [clS]; omega)) dX12_set_184 (fun r184 w184 hp184 => ?_)
                          obtain ⟨rfl, hw184⟩ := hp184
                          rw [hw184]
                          refine g_zret h hQ (by first | decide | omega | (simp only [clS]; omega)) (by first | decide | omega | (simp only [clS]; omega)) (by omega) ?_ dX12_set_187
                          first
                          | (exfalso; omega)
                          | (refine ⟨?_, ?_⟩ <;> (repeat first | rw [if_pos (by omega)] | rw [if_neg (by omega)]) <;> rfl)
                        · refine g_tswI (tgt := 156) h 2 (by first | assumption | exact ⟨by omega, by omega⟩) (by first | omega | assumption) (by first | omega | assumption) rfl (by decide) dX12_set_107 ?_
                          refine g_aload_n h dX12_set_156 rfl ?_
                          refine g_getQ h flX12_41 rfl (by assumption) (by assumption) dX12_set_157 ?_
                          refine g_iload_n h dX12_set_160 rfl ?_
                          refine g_iload_n h dX12_set_161 rfl ?_
                          refine g_iast h (z.toNat) (by assumption) (by first | omega | assumption) (by first | omega | assumption) (by first | decide | omega) dX12_set_162 ?_
                          refine g_goto (tgt := 183) h dX12_set_163 (by decide) ?_
                          refine g_aload_n h dX12_set_183 rfl ?_
                          refine g_callV h rfl (ci := 12) [] (by assumption) (c_X12_granted _ _ (MS_of rfl rfl hM)) clX12_215 (by decide) rfl in_X12_granted se_X12_granted rfl rfl (by rw [hRm]; first | decide | (simp only [clS]; omega)) (by rw [hRm]; first | decide | (simp only [clS]; omega)) (fun _ => Nat.le_of_ble_eq_true rfl) (by rw [hRm]; first | decide | (simp only [clS]; omega)) (by rw [hRm]; first | decide | (simp only [clS]; omega)) dX12_set_184 (fun r184 w184 hp184 => ?_)
                          obtain ⟨rfl, hw184⟩ := hp184
                          rw [hw184]
                          refine g_zret h hQ (by first | decide | omega | (simp only [clS]; omega)) (by first | decide | omega | (simp only [clS]; omega)) (by omega) ?_ dX12_set_187
                          first
                          | (exfalso; omega)
                          | (refine ⟨?_, ?_⟩ <;> (repeat first | rw [if_pos (by omega)] | rw [if_neg (by omega)]) <;> rfl)
                        · refine g_tswI (tgt := 166) h 3 (by first | assumption | exact ⟨by omega, by omega⟩) (by first | omega | assumption) (by first | omega | assumption) rfl (by decide) dX12_set_107 ?_
                          refine g_aload_n h dX12_set_166 rfl ?_
                          refine g_getQ h flX12_44 rfl (by assumption) (by assumption) dX12_set_167 ?_
                          refine g_iload_n h dX12_set_170 rfl ?_
                          refine g_iload_n h dX12_set_171 rfl ?_
                          refine g_iast h (z.toNat) (by assumption) (by first | omega | assumption) (by first | omega | assumption) (by first | decide | omega) dX12_set_172 ?_
                          refine g_goto (tgt := 183) h dX12_set_173 (by decide) ?_
                          refine g_aload_n h dX12_set_183 rfl ?_
                          refine g_callV h rfl (ci := 12) [] (by assumption) (c_X12_granted _ _ (MS_of rfl rfl hM)) clX12_215 (by decide) rfl in_X12_granted se_X12_granted rfl rfl (by rw [hRm]; first | decide | (simp only [clS]; omega)) (by rw [hRm]; first | decide | (simp only [clS]; omega)) (fun _ => Nat.le_of_ble_eq_true rfl) (by rw [hRm]; first | decide | (simp only [clS]; omega)) (by rw [hRm]; first | decide | (simp only [clS]; omega)) dX12_set_184 (fun r184 w184 hp184 => ?_)
                          obtain ⟨rfl, hw184⟩ := hp184
                          rw [hw184]
                          refine g_zret h hQ (by first | decide | omega | (simp only [clS]; omega)) (by first | decide | omega | (simp only [clS]; omega)) (by omega) ?_ dX12_set_187
                          first
                          | (exfalso; omega)
                          | (refine ⟨?_, ?_⟩ <;> (repeat first | rw [if_pos (by omega)] | rw [if_neg (by omega)]) <;> rfl)
                        · refine g_tswO (tgt := 176) h (by first | assumption | exact ⟨by omega, by omega⟩) c107 (by decide) dX12_set_107 ?_
                          refine g_aload_n h dX12_set_176 rfl ?_
                          refine g_getQ h flX12_47 rfl (by assumption) (by assumption) dX12_set_177 ?_
                          refine g_iload_n h dX12_set_180 rfl ?_
                          refine g_iload_n h dX12_set_181 rfl ?_
                          refine g_iast h (z.toNat) (by assumption) (by first | omega | assumption) (by first | omega | assumption) (by first | decide | omega) dX12_set_182 ?_
                          refine g_aload_n h dX12_set_183 rfl ?_
                          refine g_callV h rfl (ci := 12) [] (by assumption) (c_X12_granted _ _ (MS_of rfl rfl hM)) clX12_215 (by decide) rfl in_X12_granted se_X12_granted rfl rfl (by rw [hRm]; first | decide | (simp only [clS]; omega)) (by rw [hRm]; first | decide | (simp only [clS]; omega)) (fun _ => Nat.le_of_ble_eq_true rfl) (by rw [hRm]; first | decide | (simp only [clS]; omega)) (by rw [hRm]; first | decide | (simp only [clS]; omega)) dX12_set_184 (fun r184 w184 hp184 => ?_)
                          obtain ⟨rfl, hw184⟩ := hp184
                          rw [hw184]
                          refine g_zret h hQ (by first | decide | omega | (simp only [clS]; omega)) (by first | decide | omega | (simp only [clS]; omega)) (by omega) ?_ dX12_set_187
                          first
                          | (exfalso; omega)
                          | (refine ⟨?_, ?_⟩ <;> (repeat first | rw [if_pos (by omega)] | rw [if_neg (by omega)]) <;> rfl)
                      · refine g_aload_n h dX12_set_100 rfl ?_
                        refine g_iconst h dX12_set_101 ?_
                        refine g_callV h rfl (ci := 12) [_] (by assumption) (c_X12_denied _ _ _ (MS_of rfl rfl hM)) clX12_207 (by decide) rfl in_X12_denied se_X12_denied rfl rfl (by rw [hRm]; first | decide | (simp only [clS]; omega)) (by rw [hRm]; first | decide | (simp only [clS]; omega)) (fun _ => Nat.le_of_ble_eq_true rfl) (by rw [hRm]; first | decide | (simp only [clS]; omega)) (by rw [hRm]; first | decide | (simp only [clS]; omega)) dX12_set_102 (fun r102 w102 hp102 => ?_)
                        obtain ⟨rfl, hw102⟩ := hp102
                        rw [hw102]
                        refine g_zret h hQ (by first | decide | omega | (simp only [clS]; omega)) (by first | decide | omega | (simp only [clS]; omega)) (by omega) ?_ dX12_set_105
                        first
                        | (exfalso; omega)
                        | (refine ⟨?_, ?_⟩ <;> (repeat first | rw [if_pos (by omega)] | rw [if_neg (by omega)]) <;> rfl)
                  · exfalso; omega
                · exfalso; omega
          · exfalso; omega
        · exfalso; omega
    · have hlo : seLo 4 = 0 := rfl
      have hhi : seHi 4 = 399 := rfl
      rw [hlo, hhi] at hQ
      refine g_aload_n h dX12_set_0 rfl ?_
      refine g_iconst h dX12_set_1 ?_
      refine g_putI h flX12_1 rfl rfl (by assumption) dX12_set_2 ?_
      refine g_iload_n h dX12_set_5 rfl ?_
      refine g_callS h rfl [_] (c_X12_isLake _ _ z hz) clX12_182 st_X12_isLake rfl rfl (by rw [hRm]; first | decide | (simp only [clS]; omega)) (by rw [hRm]; first | decide | (simp only [clS]; omega)) (fun _ => Nat.le_of_ble_eq_true rfl) (by rw [hRm]; first | decide | (simp only [clS]; omega)) (by rw [hRm]; first | decide | (simp only [clS]; omega)) dX12_set_6 (fun r6 w6 hp6 => ?_)
      obtain ⟨rfl, hw6⟩ := hp6
      rw [hw6]
      have hbw6 := ite01 (0 ≤ z ∧ z < 2)
      refine g_if_eq (tgt := 21) h dX12_set_9 (by decide) (by first | assumption | exact ⟨by omega, by omega⟩) (fun c9 => ?_) (fun c9 => ?_)
      · exfalso; omega
      · refine g_iload_n h dX12_set_12 rfl ?_
        refine g_iconst h dX12_set_13 ?_
        refine g_iconst h dX12_set_14 ?_
        refine g_callS h rfl [_, _, _] (c_X12_in _ _ _ _ _ ha ⟨by omega, by omega⟩ ⟨by omega, by omega⟩) clX12_211 st_X12_in rfl rfl (by rw [hRm]; first | decide | (simp only [clS]; omega)) (by rw [hRm]; first | decide | (simp only [clS]; omega)) (fun _ => Nat.le_of_ble_eq_true rfl) (by rw [hRm]; first | decide | (simp only [clS]; omega)) (by rw [hRm]; first | decide | (simp only [clS]; omega)) dX12_set_15 (fun r15 w15 hp15 => ?_)
        obtain ⟨rfl, hw15⟩ := hp15
        rw [hw15]
        have hbw15 := ite01 ((0 : Int) ≤ 4 ∧ (4 : Int) ≤ 4)
        refine g_if_ne (tgt := 27) h dX12_set_18 (by decide) (by first | assumption | exact ⟨by omega, by omega⟩) (fun c18 => ?_) (fun c18 => ?_)
        · refine g_iload_n h dX12_set_27 rfl ?_
          refine g_if_ne (tgt := 35) h dX12_set_28 (by decide) (by first | assumption | exact ⟨by omega, by omega⟩) (fun c28 => ?_) (fun c28 => ?_)
          · refine g_iload_n h dX12_set_35 rfl ?_
            refine g_iconst h dX12_set_36 ?_
            refine g_icmp_ne (tgt := 44) h dX12_set_37 (by decide) (by first | assumption | exact ⟨by omega, by omega⟩) (by first | assumption | exact ⟨by omega, by omega⟩) (fun c37 => ?_) (fun c37 => ?_)
            · refine g_iconst h dX12_set_44 ?_
              refine g_istore h dX12_set_45 (Nat.le_of_ble_eq_true rfl) rfl rfl ?_
              refine g_iload_n h dX12_set_47 rfl ?_
              refine g_if_eq (tgt := 56) h dX12_set_48 (by decide) (by first | assumption | exact ⟨by omega, by omega⟩) (fun c48 => ?_) (fun c48 => ?_)
              · exfalso; omega
              · refine g_iload_n h dX12_set_51 rfl ?_
                refine g_iconst h dX12_set_52 ?_
                refine g_icmp_ne (tgt := 62) h dX12_set_53 (by decide) (by first | assumption | exact ⟨by omega, by omega⟩) (by first | assumption | exact ⟨by omega, by omega⟩) (fun c53 => ?_) (fun c53 => ?_)
                · refine g_iload_n h dX12_set_62 rfl ?_
                  refine g_iconst h dX12_set_63 ?_
                  refine g_icmp_ne (tgt := 73) h dX12_set_64 (by decide) (by first | assumption | exact ⟨by omega, by omega⟩) (by first | assumption | exact ⟨by omega, by omega⟩) (fun c64 => ?_) (fun c64 => ?_)
                  · refine g_iload_n h dX12_set_73 rfl ?_
                    refine g_iconst h dX12_set_74 ?_
                    refine g_icmp_ne (tgt := 84) h dX12_set_75 (by decide) (by first | assumption | exact ⟨by omega, by omega⟩) (by first | assumption | exact ⟨by omega, by omega⟩) (fun c75 => ?_) (fun c75 => ?_)
                    · refine g_sipush h dX12_set_84 rfl ?_
                      refine g_istore h dX12_set_87 (Nat.le_of_ble_eq_true rfl) rfl rfl ?_
                      refine g_iload_n h dX12_set_89 rfl ?_
                      refine g_iload h dX12_set_90 rfl ?_
                      refine g_iload h dX12_set_92 rfl ?_
                      refine g_callS h rfl [_, _, _] (c_X12_in _ _ _ _ _ hv ⟨by omega, by omega⟩ ⟨by omega, by omega⟩) clX12_211 st_X12_in rfl rfl (by rw [hRm]; first | decide | (simp only [clS]; omega)) (by rw [hRm]; first | decide | (simp only [clS]; omega)) (fun _ => Nat.le_of_ble_eq_true rfl) (by rw [hRm]; first | decide | (simp only [clS]; omega)) (by rw [hRm]; first | decide | (simp only [clS]; omega)) dX12_set_94 (fun r94 w94 hp94 => ?_)
                      obtain ⟨rfl, hw94⟩ := hp94
                      rw [hw94]
                      have hbw94 := ite01 ((0 : Int) ≤ v ∧ v ≤ 399)
                      refine g_if_ne (tgt := 106) h dX12_set_97 (by decide) (by first | assumption | exact ⟨by omega, by omega⟩) (fun c97 => ?_) (fun c97 => ?_)
                      · refine g_iload_n h dX12_set_106 rfl ?_
                        rcases (show (4 : Int) = 0 ∨ (4 : Int) = 1 ∨ (4 : Int) = 2 ∨ (4 : Int) = 3 ∨ ((4 : Int) < 0 ∨ 3 < (4 : Int)) by omega) with c107 | c107 | c107 | c107 | c107
                        · refine g_tswI (tgt := 136) h 0 (by first | assumption | exact ⟨by omega, by omega⟩) (by first | omega | assumption) (by first | omega | assumption) rfl (by decide) dX12_set_107 ?_
                          refine g_aload_n h dX12_set_136 rfl ?_
                          refine g_getQ h flX12_35 rfl (by assumption) (by assumption) dX12_set_137 ?_
                          refine g_iload_n h dX12_set_140 rfl ?_
                          refine g_iload_n h dX12_set_141 rfl ?_
                          refine g_iast h (z.toNat) (by assumption) (by first | omega | assumption) (by first | omega | assumption) (by first | decide | omega) dX12_set_142 ?_
                          refine g_goto (tgt := 183) h dX12_set_143 (by decide) ?_
                          refine g_aload_n h dX12_set_183 rfl ?_
                          refine g_callV h rfl (ci := 12) [] (by assumption) (c_X12_granted _ _ (MS_of rfl rfl hM)) clX12_215 (by decide) rfl in_X12_granted se_X12_granted rfl rfl (by rw [hRm]; first | decide | (simp only [clS]; omega)) (by rw [hRm]; first | decide | (simp only [clS]; omega)) (fun _ => Nat.le_of_ble_eq_true rfl) (by rw [hRm]; first | decide | (simp only [clS]; omega)) (by rw [hRm]; first | decide | (simp only [clS]; omega)) dX12_set_184 (fun r184 w184 hp184 => ?_)
                          obtain ⟨rfl, hw184⟩ := hp184
                          rw [hw184]
                          refine g_zret h hQ (by first | decide | omega | (simp only [clS]; omega)) (by first | decide | omega | (simp only [clS]; omega)) (by omega) ?_ dX12_set_187
                          first
                          | (exfalso; omega)
                          | (refine ⟨?_, ?_⟩ <;> (repeat first | rw [if_pos (by omega)] | rw [if_neg (by omega)]) <;> rfl)
                        · refine g_tswI (tgt := 146) h 1 (by first | assumption | exact ⟨by omega, by omega⟩) (by first | omega | assumption) (by first | omega | assumption) rfl (by decide) dX12_set_107 ?_
                          refine g_aload_n h dX12_set_146 rfl ?_
                          refine g_getQ h flX12_38 rfl (by assumption) (by assumption) dX12_set_147 ?_
                          refine g_iload_n h dX12_set_150 rfl ?_
                          refine g_iload_n h dX12_set_151 rfl ?_
                          refine g_iast h (z.toNat) (by assumption) (by first | omega | assumption) (by first | omega | assumption) (by first | decide | omega) dX12_set_152 ?_
                          refine g_goto (tgt := 183) h dX12_set_153 (by decide) ?_
                          refine g_aload_n h dX12_set_183 rfl ?_
                          refine g_callV h rfl (ci := 12) [] (by assumption) (c_X12_granted _ _ (MS_of rfl rfl hM)) clX12_215 (by decide) rfl in_X12_granted se_X12_granted rfl rfl (by rw [hRm]; first | decide | (simp only [clS]; omega)) (by rw [hRm]; first | decide | (simp only [clS]; omega)) (fun _ => Nat.le_of_ble_eq_true rfl) (by rw [hRm]; first | decide | (simp only [clS]; omega)) (by rw [hRm]; first | decide | (simp only [clS]; omega)) dX12_set_184 (fun r184 w184 hp184 => ?_)
                          obtain ⟨rfl, hw184⟩ := hp184
                          rw [hw184]
                          refine g_zret h hQ (by first | decide | omega | (simp only [clS]; omega)) (by first | decide | omega | (simp only [clS]; omega)) (by omega) ?_ dX12_set_187
                          first
                          | (exfalso; omega)
                          | (refine ⟨?_, ?_⟩ <;> (repeat first | rw [if_pos (by omega)] | rw [if_neg (by omega)]) <;> rfl)
                        · refine g_tswI (tgt := 156) h 2 (by first | assumption | exact ⟨by omega, by omega⟩) (by first | omega | assumption) (by first | omega | assumption) rfl (by decide) dX12_set_107 ?_
                          refine g_aload_n h dX12_set_156 rfl ?_
                          refine g_getQ h flX12_41 rfl (by assumption) (by assumption) dX12_set_157 ?_
                          refine g_iload_n h dX12_set_160 rfl ?_
                          refine g_iload_n h dX12_set_161 rfl ?_
                          refine g_iast h (z.toNat) (by assumption) (by first | omega | assumption) (by first | omega | assumption) (by first | decide | omega) dX12_set_162 ?_
                          refine g_goto (tgt := 183) h dX12_set_163 (by decide) ?_
                          refine g_aload_n h dX12_set_183 rfl ?_
                          refine g_callV h rfl (ci := 12) [] (by assumption) (c_X12_granted _ _ (MS_of rfl rfl hM)) clX12_215 (by decide) rfl in_X12_granted se_X12_granted rfl rfl (by rw [hRm]; first | decide | (simp only [clS]; omega)) (by rw [hRm]; first | decide | (simp only [clS]; omega)) (fun _ => Nat.le_of_ble_eq_true rfl) (by rw [hRm]; first | decide | (simp only [clS]; omega)) (by rw [hRm]; first | decide | (simp only [clS]; omega)) dX12_set_184 (fun r184 w184 hp184 => ?_)
                          obtain ⟨rfl, hw184⟩ := hp184
                          rw [hw184]
                          refine g_zret h hQ (by first | decide | omega | (simp only [clS]; omega)) (by first | decide | omega | (simp only [clS]; omega)) (by omega) ?_ dX12_set_187
                          first
                          | (exfalso; omega)
                          | (refine ⟨?_, ?_⟩ <;> (repeat first | rw [if_pos (by omega)] | rw [if_neg (by omega)]) <;> rfl)
                        · refine g_tswI (tgt := 166) h 3 (by first | assumption | exact ⟨by omega, by omega⟩) (by first | omega | assumption) (by first | omega | assumption) rfl (by decide) dX12_set_107 ?_
                          refine g_aload_n h dX12_set_166 rfl ?_
                          refine g_getQ h flX12_44 rfl (by assumption) (by assumption) dX12_set_167 ?_
                          refine g_iload_n h dX12_set_170 rfl ?_
                          refine g_iload_n h dX12_set_171 rfl ?_
                          refine g_iast h (z.toNat) (by assumption) (by first | omega | assumption) (by first | omega | assumption) (by first | decide | omega) dX12_set_172 ?_
                          refine g_goto (tgt := 183) h dX12_set_173 (by decide) ?_
                          refine g_aload_n h dX12_set_183 rfl ?_
                          refine g_callV h rfl (ci := 12) [] (by assumption) (c_X12_granted _ _ (MS_of rfl rfl hM)) clX12_215 (by decide) rfl in_X12_granted se_X12_granted rfl rfl (by rw [hRm]; first | decide | (simp only [clS]; omega)) (by rw [hRm]; first | decide | (simp only [clS]; omega)) (fun _ => Nat.le_of_ble_eq_true rfl) (by rw [hRm]; first | decide | (simp only [clS]; omega)) (by rw [hRm]; first | decide | (simp only [clS]; omega)) dX12_set_184 (fun r184 w184 hp184 => ?_)
                          obtain ⟨rfl, hw184⟩ := hp184
                          rw [hw184]
                          refine g_zret h hQ (by first | decide | omega | (simp only [clS]; omega)) (by first | decide | omega | (simp only [clS]; omega)) (by omega) ?_ dX12_set_187
                          first
                          | (exfalso; omega)
                          | (refine ⟨?_, ?_⟩ <;> (repeat first | rw [if_pos (by omega)] | rw [if_neg (by omega)]) <;> rfl)
                        · refine g_tswO (tgt := 176) h (by first | assumption | exact ⟨by omega, by omega⟩) c107 (by decide) dX12_set_107 ?_
                          refine g_aload_n h dX12_set_176 rfl ?_
                          refine g_getQ h flX12_47 rfl (by assumption) (by assumption) dX12_set_177 ?_
                          refine g_iload_n h dX12_set_180 rfl ?_
                          refine g_iload_n h dX12_set_181 rfl ?_
                          refine g_iast h (z.toNat) (by assumption) (by first | omega | assumption) (by first | omega | assumption) (by first | decide | omega) dX12_set_182 ?_
                          refine g_aload_n h dX12_set_183 rfl ?_
                          refine g_callV h rfl (ci := 12) [] (by assumption) (c_X12_granted _ _ (MS_of rfl rfl hM)) clX12_215 (by decide) rfl in_X12_granted se_X12_granted rfl rfl (by rw [hRm]; first | decide | (simp only [clS]; omega)) (by rw [hRm]; first | decide | (simp only [clS]; omega)) (fun _ => Nat.le_of_ble_eq_true rfl) (by rw [hRm]; first | decide | (simp only [clS]; omega)) (by rw [hRm]; first | decide | (simp only [clS]; omega)) dX12_set_184 (fun r184 w184 hp184 => ?_)
                          obtain ⟨rfl, hw184⟩ := hp184
                          rw [hw184]
                          refine g_zret h hQ (by first | decide | omega | (simp only [clS]; omega)) (by first | decide | omega | (simp only [clS]; omega)) (by omega) ?_ dX12_set_187
                          first
                          | (exfalso; omega)
                          | (refine ⟨?_, ?_⟩ <;> (repeat first | rw [if_pos (by omega)] | rw [if_neg (by omega)]) <;> rfl)
                      · refine g_aload_n h dX12_set_100 rfl ?_
                        refine g_iconst h dX12_set_101 ?_
                        refine g_callV h rfl (ci := 12) [_] (by assumption) (c_X12_denied _ _ _ (MS_of rfl rfl hM)) clX12_207 (by decide) rfl in_X12_denied se_X12_denied rfl rfl (by rw [hRm]; first | decide | (simp only [clS]; omega)) (by rw [hRm]; first | decide | (simp only [clS]; omega)) (fun _ => Nat.le_of_ble_eq_true rfl) (by rw [hRm]; first | decide | (simp only [clS]; omega)) (by rw [hRm]; first | decide | (simp only [clS]; omega)) dX12_set_102 (fun r102 w102 hp102 => ?_)
                        obtain ⟨rfl, hw102⟩ := hp102
                        rw [hw102]
                        refine g_zret h hQ (by first | decide | omega | (simp only [clS]; omega)) (by first | decide | omega | (simp only [clS]; omega)) (by omega) ?_ dX12_set_105
                        first
                        | (exfalso; omega)
                        | (refine ⟨?_, ?_⟩ <;> (repeat first | rw [if_pos (by omega)] | rw [if_neg (by omega)]) <;> rfl)
                    · exfalso; omega
                  · exfalso; omega
                · exfalso; omega
            · exfalso; omega
          · exfalso; omega
        · exfalso; omega
  · skip
    refine g_aload_n h dX12_set_0 rfl ?_
    refine g_iconst h dX12_set_1 ?_
    refine g_putI h flX12_1 rfl rfl (by assumption) dX12_set_2 ?_
    refine g_iload_n h dX12_set_5 rfl ?_
    refine g_callS h rfl [_] (c_X12_isLake _ _ z hz) clX12_182 st_X12_isLake rfl rfl (by rw [hRm]; first | decide | (simp only [clS]; omega)) (by rw [hRm]; first | decide | (simp only [clS]; omega)) (fun _ => Nat.le_of_ble_eq_true rfl) (by rw [hRm]; first | decide | (simp only [clS]; omega)) (by rw [hRm]; first | decide | (simp only [clS]; omega)) dX12_set_6 (fun r6 w6 hp6 => ?_)
    obtain ⟨rfl, hw6⟩ := hp6
    rw [hw6]
    have hbw6 := ite01 (0 ≤ z ∧ z < 2)
    refine g_if_eq (tgt := 21) h dX12_set_9 (by decide) (by first | assumption | exact ⟨by omega, by omega⟩) (fun c9 => ?_) (fun c9 => ?_)
    · refine g_aload_n h dX12_set_21 rfl ?_
      refine g_iconst h dX12_set_22 ?_
      refine g_callV h rfl (ci := 12) [_] (by assumption) (c_X12_denied _ _ _ (MS_of rfl rfl hM)) clX12_207 (by decide) rfl in_X12_denied se_X12_denied rfl rfl (by rw [hRm]; first | decide | (simp only [clS]; omega)) (by rw [hRm]; first | decide | (simp only [clS]; omega)) (fun _ => Nat.le_of_ble_eq_true rfl) (by rw [hRm]; first | decide | (simp only [clS]; omega)) (by rw [hRm]; first | decide | (simp only [clS]; omega)) dX12_set_23 (fun r23 w23 hp23 => ?_)
      obtain ⟨rfl, hw23⟩ := hp23
      rw [hw23]
      refine g_zret h hQ (by first | decide | omega | (simp only [clS]; omega)) (by first | decide | omega | (simp only [clS]; omega)) (by omega) ?_ dX12_set_26
      first
      | (exfalso; omega)
      | (refine ⟨?_, ?_⟩ <;> (repeat first | rw [if_pos (by omega)] | rw [if_neg (by omega)]) <;> rfl)
    · refine g_iload_n h dX12_set_12 rfl ?_
      refine g_iconst h dX12_set_13 ?_
      refine g_iconst h dX12_set_14 ?_
      refine g_callS h rfl [_, _, _] (c_X12_in _ _ _ _ _ ha ⟨by omega, by omega⟩ ⟨by omega, by omega⟩) clX12_211 st_X12_in rfl rfl (by rw [hRm]; first | decide | (simp only [clS]; omega)) (by rw [hRm]; first | decide | (simp only [clS]; omega)) (fun _ => Nat.le_of_ble_eq_true rfl) (by rw [hRm]; first | decide | (simp only [clS]; omega)) (by rw [hRm]; first | decide | (simp only [clS]; omega)) dX12_set_15 (fun r15 w15 hp15 => ?_)
      obtain ⟨rfl, hw15⟩ := hp15
      rw [hw15]
      have hbw15 := ite01 ((0 : Int) ≤ a ∧ a ≤ 4)
      refine g_if_ne (tgt := 27) h dX12_set_18 (by decide) (by first | assumption | exact ⟨by omega, by omega⟩) (fun c18 => ?_) (fun c18 => ?_)
      · exfalso; omega
      · refine g_aload_n h dX12_set_21 rfl ?_
        refine g_iconst h dX12_set_22 ?_
        refine g_callV h rfl (ci := 12) [_] (by assumption) (c_X12_denied _ _ _ (MS_of rfl rfl hM)) clX12_207 (by decide) rfl in_X12_denied se_X12_denied rfl rfl (by rw [hRm]; first | decide | (simp only [clS]; omega)) (by rw [hRm]; first | decide | (simp only [clS]; omega)) (fun _ => Nat.le_of_ble_eq_true rfl) (by rw [hRm]; first | decide | (simp only [clS]; omega)) (by rw [hRm]; first | decide | (simp only [clS]; omega)) dX12_set_23 (fun r23 w23 hp23 => ?_)
        obtain ⟨rfl, hw23⟩ := hp23
        rw [hw23]
        refine g_zret h hQ (by first | decide | omega | (simp only [clS]; omega)) (by first | decide | omega | (simp only [clS]; omega)) (by omega) ?_ dX12_set_26
        first
        | (exfalso; omega)
        | (refine ⟨?_, ?_⟩ <;> (repeat first | rw [if_pos (by omega)] | rw [if_neg (by omega)]) <;> rfl)
def ledF (w : AW) (L : Nat) (a : Int) : Int := if a = 0 then w.2.1 415 L else if a = 1 then w.2.1 416 L else if a = 2 then w.2.1 417 L else if a = 3 then w.2.1 418 L else if a = 4 then sumF (fun j => w.2.1 407 (10 * L + j)) 10 else if a = 5 then w.2.1 419 L else -2147483648
set_option maxRecDepth 100000 in
set_option maxHeartbeats 4000000 in
theorem c_X12_led (l : Launch) (w : AW) (z a : Int) (hM : MS w) (hG : MG w) (hz : R32 z) (ha : R32 a) : HT l yX12_led cX12_led 5 (some .int) 2 0 0 w [ar 400, ai z, ai a] (fun r w' => r = some (ai (if 0 ≤ z ∧ z < 2 then ledF w z.toNat a else -2147483648)) ∧ w' = (th w)) := by
  refine HT.of (by decide) (by intro v hv; simp only [List.mem_cons, List.not_mem_nil, or_false] at hv; rcases hv with rfl | rfl | rfl <;> rfl) (Nat.le_of_ble_eq_true rfl) ?_
  intro Γ h hQ hRm hnm hl hw0
  have s400 : w.1 400 = (112, 0) := hM.1 400 (by decide) (by decide)
  have s415 : w.1 415 = (1, 2) := hM.1 415 (by decide) (by decide)
  have s416 : w.1 416 = (1, 2) := hM.1 416 (by decide) (by decide)
  have s417 : w.1 417 = (1, 2) := hM.1 417 (by decide) (by decide)
  have s418 : w.1 418 = (1, 2) := hM.1 418 (by decide) (by decide)
  have s407 : w.1 407 = (1, 20) := hM.1 407 (by decide) (by decide)
  have s419 : w.1 419 = (1, 2) := hM.1 419 (by decide) (by decide)
  have p15 : w.2.2 400 15 = some 415 := hM.2 (400, 15, 415) (by decide)
  have p16 : w.2.2 400 16 = some 416 := hM.2 (400, 16, 416) (by decide)
  have p17 : w.2.2 400 17 = some 417 := hM.2 (400, 17, 417) (by decide)
  have p18 : w.2.2 400 18 = some 418 := hM.2 (400, 18, 418) (by decide)
  have p7 : w.2.2 400 7 = some 407 := hM.2 (400, 7, 407) (by decide)
  have p19 : w.2.2 400 19 = some 419 := hM.2 (400, 19, 419) (by decide)
  by_cases hzl : 0 ≤ z ∧ z < 2
  · obtain ⟨L, rfl⟩ : ∃ L : Nat, z = (L : Int) := ⟨z.toNat, by omega⟩
    have hL : L < 2 := by omega
    have eL : ((L : Int)).toNat = L := Int.toNat_natCast L
    rw [eL] at hQ
    have loop : a = 4 → ∀ (d i : Nat), i + d = 10 → GG Γ 89 [some (ar 400), some (ai (L : Int)), some (ai a), some (ai (sumF (fun j => w.2.1 407 (10 * L + j)) i)), some (ai (i : Int))] [] (th w) 0 0 := by
      intro ha4 d
      induction d with
      | zero =>
        intro i hi
        obtain rfl : i = 10 := by omega
        refine g_iload h dX12_led_89 rfl ?_
        refine g_bipush h dX12_led_91 rfl ?_
        refine g_icmp_ge (tgt := 117) h dX12_led_93 (by decide) (by first | assumption | exact ⟨by omega, by omega⟩) (by first | assumption | exact ⟨by omega, by omega⟩) (fun c93 => ?_) (fun c93 => ?_)
        · refine g_iload_n h dX12_led_117 rfl ?_
          refine g_iret h hQ (by first | decide | omega | (simp only [clS]; omega)) (by first | decide | omega | (simp only [clS]; omega)) ?_ dX12_led_118
          refine ⟨?_, rfl⟩
          rw [if_pos hzl, ha4]
          rfl
        · exfalso; omega
      | succ d ih =>
        intro i hi
        refine g_iload h dX12_led_89 rfl ?_
        refine g_bipush h dX12_led_91 rfl ?_
        refine g_icmp_ge (tgt := 117) h dX12_led_93 (by decide) (by first | assumption | exact ⟨by omega, by omega⟩) (by first | assumption | exact ⟨by omega, by omega⟩) (fun c93 => ?_) (fun c93 => ?_)
        · exfalso; omega
        · refine g_iload_n h dX12_led_96 rfl ?_
          refine g_aload_n h dX12_led_97 rfl ?_
          refine g_getQ h flX12_25 rfl (by assumption) (by assumption) dX12_led_98 ?_
          refine g_bipush h dX12_led_101 rfl ?_
          refine g_iload_n h dX12_led_103 rfl ?_
          refine g_imul h dX12_led_104 ?_
          refine g_iload h dX12_led_105 rfl ?_
          refine g_iadd h dX12_led_107 ?_
          refine g_iald h (10 * L + i) (by assumption) (by first | omega | assumption) (by first | omega | assumption) (by first | decide | omega) dX12_led_108 ?_
          refine g_iadd h dX12_led_109 ?_
          refine g_istore_n h dX12_led_110 (Nat.le_of_ble_eq_true rfl) rfl rfl ?_
          refine g_iinc h dX12_led_111 rfl (Nat.le_of_ble_eq_true rfl) rfl rfl ?_
          refine g_goto (tgt := 89) h dX12_led_114 (by decide) ?_
          exact ih (i + 1) (by omega)
    refine g_aload_n h dX12_led_0 rfl ?_
    refine g_iconst h dX12_led_1 ?_
    refine g_putI h flX12_1 rfl rfl (by assumption) dX12_led_2 ?_
    refine g_iload_n h dX12_led_5 rfl ?_
    refine g_callS h rfl [_] (c_X12_isLake _ _ _ hz) clX12_182 st_X12_isLake rfl rfl (by rw [hRm]; first | decide | (simp only [clS]; omega)) (by rw [hRm]; first | decide | (simp only [clS]; omega)) (fun _ => Nat.le_of_ble_eq_true rfl) (by rw [hRm]; first | decide | (simp only [clS]; omega)) (by rw [hRm]; first | decide | (simp only [clS]; omega)) dX12_led_6 (fun r6 w6 hp6 => ?_)
    obtain ⟨rfl, hw6⟩ := hp6
    rw [hw6]
    have hbw6 := ite01 (0 ≤ (L : Int) ∧ (L : Int) < 2)
    refine g_if_ne (tgt := 15) h dX12_led_9 (by decide) (by first | assumption | exact ⟨by omega, by omega⟩) (fun c9 => ?_) (fun c9 => ?_)
    · refine g_iload_n h dX12_led_15 rfl ?_
      rcases (show a = 0 ∨ a = 1 ∨ a = 2 ∨ a = 3 ∨ a = 4 ∨ a = 5 ∨ (a < 0 ∨ 5 < a) by omega) with c16 | c16 | c16 | c16 | c16 | c16 | c16
      · refine g_tswI (tgt := 56) h 0 (by first | assumption | exact ⟨by omega, by omega⟩) (by first | omega | assumption) (by first | omega | assumption) rfl (by decide) dX12_led_16 ?_
        refine g_aload_n h dX12_led_56 rfl ?_
        refine g_getQ h flX12_50 rfl (by assumption) (by assumption) dX12_led_57 ?_
        refine g_iload_n h dX12_led_60 rfl ?_
        refine g_iald h (L) (by assumption) (by first | omega | assumption) (by first | omega | assumption) (by first | decide | omega) dX12_led_61 ?_
        refine g_iret h hQ (by first | decide | omega | (simp only [clS]; omega)) (by first | decide | omega | (simp only [clS]; omega)) ?_ dX12_led_62
        first
        | (exfalso; omega)
        | (refine ⟨?_, rfl⟩
           rw [if_pos hzl]
           unfold ledF
           (repeat first | rw [if_pos (by omega)] | rw [if_neg (by omega)])
           (try rfl))
      · refine g_tswI (tgt := 63) h 1 (by first | assumption | exact ⟨by omega, by omega⟩) (by first | omega | assumption) (by first | omega | assumption) rfl (by decide) dX12_led_16 ?_
        refine g_aload_n h dX12_led_63 rfl ?_
        refine g_getQ h flX12_53 rfl (by assumption) (by assumption) dX12_led_64 ?_
        refine g_iload_n h dX12_led_67 rfl ?_
        refine g_iald h (L) (by assumption) (by first | omega | assumption) (by first | omega | assumption) (by first | decide | omega) dX12_led_68 ?_
        refine g_iret h hQ (by first | decide | omega | (simp only [clS]; omega)) (by first | decide | omega | (simp only [clS]; omega)) ?_ dX12_led_69
        first
        | (exfalso; omega)
        | (refine ⟨?_, rfl⟩
           rw [if_pos hzl]
           unfold ledF
           (repeat first | rw [if_pos (by omega)] | rw [if_neg (by omega)])
           (try rfl))
      · refine g_tswI (tgt := 70) h 2 (by first | assumption | exact ⟨by omega, by omega⟩) (by first | omega | assumption) (by first | omega | assumption) rfl (by decide) dX12_led_16 ?_
        refine g_aload_n h dX12_led_70 rfl ?_
        refine g_getQ h flX12_56 rfl (by assumption) (by assumption) dX12_led_71 ?_
        refine g_iload_n h dX12_led_74 rfl ?_
        refine g_iald h (L) (by assumption) (by first | omega | assumption) (by first | omega | assumption) (by first | decide | omega) dX12_led_75 ?_
        refine g_iret h hQ (by first | decide | omega | (simp only [clS]; omega)) (by first | decide | omega | (simp only [clS]; omega)) ?_ dX12_led_76
        first
        | (exfalso; omega)
        | (refine ⟨?_, rfl⟩
           rw [if_pos hzl]
           unfold ledF
           (repeat first | rw [if_pos (by omega)] | rw [if_neg (by omega)])
           (try rfl))
      · refine g_tswI (tgt := 77) h 3 (by first | assumption | exact ⟨by omega, by omega⟩) (by first | omega | assumption) (by first | omega | assumption) rfl (by decide) dX12_led_16 ?_
        refine g_aload_n h dX12_led_77 rfl ?_
        refine g_getQ h flX12_59 rfl (by assumption) (by assumption) dX12_led_78 ?_
        refine g_iload_n h dX12_led_81 rfl ?_
        refine g_iald h (L) (by assumption) (by first | omega | assumption) (by first | omega | assumption) (by first | decide | omega) dX12_led_82 ?_
        refine g_iret h hQ (by first | decide | omega | (simp only [clS]; omega)) (by first | decide | omega | (simp only [clS]; omega)) ?_ dX12_led_83
        first
        | (exfalso; omega)
        | (refine ⟨?_, rfl⟩
           rw [if_pos hzl]
           unfold ledF
           (repeat first | rw [if_pos (by omega)] | rw [if_neg (by omega)])
           (try rfl))
      · refine g_tswI (tgt := 84) h 4 (by first | assumption | exact ⟨by omega, by omega⟩) (by first | omega | assumption) (by first | omega | assumption) rfl (by decide) dX12_led_16 ?_
        refine g_iconst h dX12_led_84 ?_
        refine g_istore_n h dX12_led_85 (Nat.le_of_ble_eq_true rfl) rfl rfl ?_
        refine g_iconst h dX12_led_86 ?_
        refine g_istore h dX12_led_87 (Nat.le_of_ble_eq_true rfl) rfl rfl ?_
        exact loop (by assumption) 10 0 (by omega)
      · refine g_tswI (tgt := 119) h 5 (by first | assumption | exact ⟨by omega, by omega⟩) (by first | omega | assumption) (by first | omega | assumption) rfl (by decide) dX12_led_16 ?_
        refine g_aload_n h dX12_led_119 rfl ?_
        refine g_getQ h flX12_62 rfl (by assumption) (by assumption) dX12_led_120 ?_
        refine g_iload_n h dX12_led_123 rfl ?_
        refine g_iald h (L) (by assumption) (by first | omega | assumption) (by first | omega | assumption) (by first | decide | omega) dX12_led_124 ?_
        refine g_iret h hQ (by first | decide | omega | (simp only [clS]; omega)) (by first | decide | omega | (simp only [clS]; omega)) ?_ dX12_led_125
        first
        | (exfalso; omega)
        | (refine ⟨?_, rfl⟩
           rw [if_pos hzl]
           unfold ledF
           (repeat first | rw [if_pos (by omega)] | rw [if_neg (by omega)])
           (try rfl))
      · refine g_tswO (tgt := 126) h (by first | assumption | exact ⟨by omega, by omega⟩) c16 (by decide) dX12_led_16 ?_
        refine g_ldc h kcX12_15 dX12_led_126 ?_
        refine g_iret h hQ (by first | decide | omega | (simp only [clS]; omega)) (by first | decide | omega | (simp only [clS]; omega)) ?_ dX12_led_128
        first
        | (exfalso; omega)
        | (refine ⟨?_, rfl⟩
           rw [if_pos hzl]
           unfold ledF
           (repeat first | rw [if_pos (by omega)] | rw [if_neg (by omega)])
           (try rfl))
    · exfalso; omega
  · skip
    refine g_aload_n h dX12_led_0 rfl ?_
    refine g_iconst h dX12_led_1 ?_
    refine g_putI h flX12_1 rfl rfl (by assumption) dX12_led_2 ?_
    refine g_iload_n h dX12_led_5 rfl ?_
    refine g_callS h rfl [_] (c_X12_isLake _ _ z hz) clX12_182 st_X12_isLake rfl rfl (by rw [hRm]; first | decide | (simp only [clS]; omega)) (by rw [hRm]; first | decide | (simp only [clS]; omega)) (fun _ => Nat.le_of_ble_eq_true rfl) (by rw [hRm]; first | decide | (simp only [clS]; omega)) (by rw [hRm]; first | decide | (simp only [clS]; omega)) dX12_led_6 (fun r6 w6 hp6 => ?_)
    obtain ⟨rfl, hw6⟩ := hp6
    rw [hw6]
    have hbw6 := ite01 (0 ≤ z ∧ z < 2)
    refine g_if_ne (tgt := 15) h dX12_led_9 (by decide) (by first | assumption | exact ⟨by omega, by omega⟩) (fun c9 => ?_) (fun c9 => ?_)
    · exfalso; omega
    · refine g_ldc h kcX12_15 dX12_led_12 ?_
      refine g_iret h hQ (by first | decide | omega | (simp only [clS]; omega)) (by first | decide | omega | (simp only [clS]; omega)) ?_ dX12_led_14
      exact ⟨congrArg (fun z => some (ai z)) (if_neg hzl).symm, rfl⟩
def ftM (w : AW) (L rn sn : Nat) : Nat → Int
  | 0 => 0
  | i + 1 => max (ftM w L rn sn i) (fullF (tgM w L i (w.2.1 400 4) rn sn) (holdsM w L i))
set_option maxRecDepth 100000 in
set_option maxHeartbeats 4000000 in
theorem c_X12_fullTold (l : Launch) (w : AW) (rn sn L : Nat) (hM : MS w) (hN : MN w) (hI : MSI w rn sn) (hd : 0 ≤ w.2.1 400 4 ∧ w.2.1 400 4 ≤ 2999) (hL : L < 2) : HT l yX12_fullTold cX12_fullTold 4 (some .int) 6 0 0 w [ar 400, ai (L : Int)] (rI (ftM w L rn sn 10) w) := by
  refine HT.of (by decide) (by intro v hv; simp only [List.mem_cons, List.not_mem_nil, or_false] at hv; rcases hv with rfl | rfl <;> rfl) (Nat.le_of_ble_eq_true rfl) ?_
  intro Γ h hQ hRm hnm hl hw0
  have s400 : w.1 400 = (112, 0) := hM.1 400 (by decide) (by decide)
  have ftb : ∀ i, i ≤ 10 → 0 ≤ ftM w L rn sn i ∧ ftM w L rn sn i ≤ 999 := by
    intro i
    induction i with
    | zero => intro _; exact ⟨Int.le_refl _, by show (0 : Int) ≤ 999; omega⟩
    | succ i ih =>
      intro hi
      have h1 := ih (by omega)
      have h2 := tgM_bd (w := w) (L := L) (i := i) (rn := rn) (sn := sn) (by_ := w.2.1 400 4) hN hL (by omega)
      have h3 := fullF_bd (tgM w L i (w.2.1 400 4) rn sn) (holdsM w L i) h2.2
      show 0 ≤ max _ _ ∧ max _ _ ≤ 999
      omega
  have loop : ∀ (d i : Nat), i + d = 10 → GG Γ 4 [some (ar 400), some (ai (L : Int)), some (ai (ftM w L rn sn i)), some (ai (i : Int))] [] w 0 0 := by
    intro d
    induction d with
    | zero =>
      intro i hi
      obtain rfl : i = 10 := by omega
      refine g_iload_n h dX12_fullTold_4 rfl ?_
      refine g_bipush h dX12_fullTold_5 rfl ?_
      refine g_icmp_ge (tgt := 37) h dX12_fullTold_7 (by decide) (by first | assumption | exact ⟨by omega, by omega⟩) (by first | assumption | exact ⟨by omega, by omega⟩) (fun c7 => ?_) (fun c7 => ?_)
      · refine g_iload_n h dX12_fullTold_37 rfl ?_
        refine g_iret h hQ (by first | decide | omega | (simp only [clS]; omega)) (by first | decide | omega | (simp only [clS]; omega)) ?_ dX12_fullTold_38
        exact ⟨rfl, rfl⟩
      · exfalso; omega
    | succ d ih =>
      intro i hi
      have hfb := ftb i (by omega)
      have htb := tgM_bd (w := w) (L := L) (i := i) (rn := rn) (sn := sn) (by_ := w.2.1 400 4) hN hL (by omega)
      have hff := fullF_bd (tgM w L i (w.2.1 400 4) rn sn) (holdsM w L i) htb.2
      refine g_iload_n h dX12_fullTold_4 rfl ?_
      refine g_bipush h dX12_fullTold_5 rfl ?_
      refine g_icmp_ge (tgt := 37) h dX12_fullTold_7 (by decide) (by first | assumption | exact ⟨by omega, by omega⟩) (by first | assumption | exact ⟨by omega, by omega⟩) (fun c7 => ?_) (fun c7 => ?_)
      · exfalso; omega
      · refine g_iload_n h dX12_fullTold_10 rfl ?_
        refine g_aload_n h dX12_fullTold_11 rfl ?_
        refine g_iload_n h dX12_fullTold_12 rfl ?_
        refine g_iload_n h dX12_fullTold_13 rfl ?_
        refine g_aload_n h dX12_fullTold_14 rfl ?_
        refine g_iload_n h dX12_fullTold_15 rfl ?_
        refine g_iload_n h dX12_fullTold_16 rfl ?_
        refine g_aload_n h dX12_fullTold_17 rfl ?_
        refine g_getI h flX12_223 rfl (by assumption) dX12_fullTold_18 ?_
        refine g_callV h rfl (ci := 12) [_, _, _] (by assumption) (c_X12_toldGas _ _ rn sn L i _ hM hN hI hL (by omega) hd) clX12_226 (by decide) rfl in_X12_toldGas se_X12_toldGas rfl rfl (by rw [hRm]; first | decide | (simp only [clS]; omega)) (by rw [hRm]; first | decide | (simp only [clS]; omega)) (fun _ => Nat.le_of_ble_eq_true rfl) (by rw [hRm]; first | decide | (simp only [clS]; omega)) (by rw [hRm]; first | decide | (simp only [clS]; omega)) dX12_fullTold_21 (fun r21 w21 hp21 => ?_)
        obtain ⟨rfl, hw21⟩ := hp21
        rw [hw21]
        refine g_callV h rfl (ci := 12) [_, _, _] (by assumption) (c_X12_share _ _ L i _ hM hN hL (by omega) htb) clX12_232 (by decide) rfl in_X12_share se_X12_share rfl rfl (by rw [hRm]; first | decide | (simp only [clS]; omega)) (by rw [hRm]; first | decide | (simp only [clS]; omega)) (fun _ => Nat.le_of_ble_eq_true rfl) (by rw [hRm]; first | decide | (simp only [clS]; omega)) (by rw [hRm]; first | decide | (simp only [clS]; omega)) dX12_fullTold_24 (fun r24 w24 hp24 => ?_)
        obtain ⟨rfl, hw24⟩ := hp24
        rw [hw24]
        refine g_max h rfl mmaxX12_186 (by first | assumption | exact ⟨by omega, by omega⟩) (by first | assumption | exact ⟨by omega, by omega⟩) (by rw [hRm]; first | decide | (simp only [clS]; omega)) (by rw [hRm]; first | decide | (simp only [clS]; omega)) (fun _ => Nat.le_of_ble_eq_true rfl) (by rw [hRm]; first | decide | (simp only [clS]; omega)) (by rw [hRm]; first | decide | (simp only [clS]; omega)) dX12_fullTold_27 ?_
        refine g_istore_n h dX12_fullTold_30 (Nat.le_of_ble_eq_true rfl) rfl rfl ?_
        refine g_iinc h dX12_fullTold_31 rfl (Nat.le_of_ble_eq_true rfl) rfl rfl ?_
        refine g_goto (tgt := 4) h dX12_fullTold_34 (by decide) ?_
        exact ih (i + 1) (by omega)
  refine g_iconst h dX12_fullTold_0 ?_
  refine g_istore_n h dX12_fullTold_1 (Nat.le_of_ble_eq_true rfl) rfl rfl ?_
  refine g_iconst h dX12_fullTold_2 ?_
  refine g_istore_n h dX12_fullTold_3 (Nat.le_of_ble_eq_true rfl) rfl rfl ?_
  exact loop 10 0 (by omega)
set_option maxRecDepth 100000 in
set_option maxHeartbeats 4000000 in
theorem c_X12_full (l : Launch) (w : AW) (np rn sn : Nat) (z b : Int) (hM : MS w) (hN : MN w) (hI : MSI w rn sn) (hd : 0 ≤ w.2.1 400 4 ∧ w.2.1 400 4 ≤ 2999) (hG : MG w) (hP : MPI w np) (hz : R32 z) (hb : b = 0 ∨ b = 1) : HT l yX12_full cX12_full 3 (some .int) 7 0 0 w [ar 400, ai z, ai b] (fun r w' => r = some (ai (if 0 ≤ z ∧ z < 2 then (if b = 0 then fhM (tkW (th w) z.toNat np) z.toNat else ftM (th w) z.toNat rn sn 10) else -1)) ∧ w' = (if 0 ≤ z ∧ z < 2 then if b = 0 then tkW (th w) z.toNat np else th w else th w)) := by
  refine HT.of (by decide) (by intro v hv; simp only [List.mem_cons, List.not_mem_nil, or_false] at hv; rcases hv with rfl | rfl | rfl <;> rfl) (Nat.le_of_ble_eq_true rfl) ?_
  intro Γ h hQ hRm hnm hl hw0
  have s400 : w.1 400 = (112, 0) := hM.1 400 (by decide) (by decide)
  by_cases hzl : 0 ≤ z ∧ z < 2
  · obtain ⟨L, rfl⟩ : ∃ L : Nat, z = (L : Int) := ⟨z.toNat, by omega⟩
    have hL : L < 2 := by omega
    have eL : ((L : Int)).toNat = L := Int.toNat_natCast L
    rw [eL] at hQ
    obtain ⟨hN0, hQ0, hb0⟩ := tk_ok (w := th w) (L := L) hL hG hN hP
    refine g_aload_n h dX12_full_0 rfl ?_
    refine g_iconst h dX12_full_1 ?_
    refine g_putI h flX12_1 rfl rfl (by assumption) dX12_full_2 ?_
    refine g_iload_n h dX12_full_5 rfl ?_
    refine g_callS h rfl [_] (c_X12_isLake _ _ _ hz) clX12_182 st_X12_isLake rfl rfl (by rw [hRm]; first | decide | (simp only [clS]; omega)) (by rw [hRm]; first | decide | (simp only [clS]; omega)) (fun _ => Nat.le_of_ble_eq_true rfl) (by rw [hRm]; first | decide | (simp only [clS]; omega)) (by rw [hRm]; first | decide | (simp only [clS]; omega)) dX12_full_6 (fun r6 w6 hp6 => ?_)
    obtain ⟨rfl, hw6⟩ := hp6
    rw [hw6]
    have hbw6 := ite01 (0 ≤ (L : Int) ∧ (L : Int) < 2)
    refine g_if_ne (tgt := 14) h dX12_full_9 (by decide) (by first | assumption | exact ⟨by omega, by omega⟩) (fun c9 => ?_) (fun c9 => ?_)
    · refine g_iload_n h dX12_full_14 rfl ?_
      refine g_if_eq (tgt := 24) h dX12_full_15 (by decide) (by first | assumption | exact ⟨by omega, by omega⟩) (fun c15 => ?_) (fun c15 => ?_)
      · refine g_aload_n h dX12_full_24 rfl ?_
        refine g_iload_n h dX12_full_25 rfl ?_
        refine g_callV h rfl (ci := 12) [_] (by assumption) (c_X12_takes _ _ L np (MS_th hM) hL hP.1 hP.2.1 (fun p hp => (hP.2.2 p hp).2.2.2.2.2.2.2.2)) clX12_239 (by decide) rfl in_X12_takes se_X12_takes rfl rfl (by rw [hRm]; first | decide | (simp only [clS]; omega)) (by rw [hRm]; first | decide | (simp only [clS]; omega)) (fun _ => Nat.le_of_ble_eq_true rfl) (by rw [hRm]; first | decide | (simp only [clS]; omega)) (by rw [hRm]; first | decide | (simp only [clS]; omega)) dX12_full_26 (fun r26 w26 hp26 => ?_)
        obtain ⟨rfl, hw26⟩ := hp26
        rw [hw26]
        refine g_aload_n h dX12_full_29 rfl ?_
        refine g_iload_n h dX12_full_30 rfl ?_
        refine g_callV h rfl (ci := 12) [_] (by assumption) (c_X12_fullHere _ _ L (MS_of rfl rfl hM) hN0 hL (fun j hj => ⟨(hb0 j hj).1, (hb0 j hj).2.1⟩)) clX12_243 (by decide) rfl in_X12_fullHere se_X12_fullHere rfl rfl (by rw [hRm]; first | decide | (simp only [clS]; omega)) (by rw [hRm]; first | decide | (simp only [clS]; omega)) (fun _ => Nat.le_of_ble_eq_true rfl) (by rw [hRm]; first | decide | (simp only [clS]; omega)) (by rw [hRm]; first | decide | (simp only [clS]; omega)) dX12_full_31 (fun r31 w31 hp31 => ?_)
        obtain ⟨rfl, hw31⟩ := hp31
        rw [hw31]
        refine g_iret h hQ (by first | decide | omega | (simp only [clS]; omega)) (by first | decide | omega | (simp only [clS]; omega)) ?_ dX12_full_34
        first
        | (exfalso; omega)
        | (refine ⟨?_, ?_⟩ <;> (repeat first | rw [if_pos (by omega)] | rw [if_neg (by omega)]) <;> rfl)
      · refine g_aload_n h dX12_full_18 rfl ?_
        refine g_iload_n h dX12_full_19 rfl ?_
        refine g_callV h rfl (ci := 12) [_] (by assumption) (c_X12_fullTold _ _ rn sn L (MS_th hM) hN hI hd hL) clX12_235 (by decide) rfl in_X12_fullTold se_X12_fullTold rfl rfl (by rw [hRm]; first | decide | (simp only [clS]; omega)) (by rw [hRm]; first | decide | (simp only [clS]; omega)) (fun _ => Nat.le_of_ble_eq_true rfl) (by rw [hRm]; first | decide | (simp only [clS]; omega)) (by rw [hRm]; first | decide | (simp only [clS]; omega)) dX12_full_20 (fun r20 w20 hp20 => ?_)
        obtain ⟨rfl, hw20⟩ := hp20
        rw [hw20]
        refine g_iret h hQ (by first | decide | omega | (simp only [clS]; omega)) (by first | decide | omega | (simp only [clS]; omega)) ?_ dX12_full_23
        first
        | (exfalso; omega)
        | (refine ⟨?_, ?_⟩ <;> (repeat first | rw [if_pos (by omega)] | rw [if_neg (by omega)]) <;> rfl)
    · exfalso; omega
  · skip
    refine g_aload_n h dX12_full_0 rfl ?_
    refine g_iconst h dX12_full_1 ?_
    refine g_putI h flX12_1 rfl rfl (by assumption) dX12_full_2 ?_
    refine g_iload_n h dX12_full_5 rfl ?_
    refine g_callS h rfl [_] (c_X12_isLake _ _ z hz) clX12_182 st_X12_isLake rfl rfl (by rw [hRm]; first | decide | (simp only [clS]; omega)) (by rw [hRm]; first | decide | (simp only [clS]; omega)) (fun _ => Nat.le_of_ble_eq_true rfl) (by rw [hRm]; first | decide | (simp only [clS]; omega)) (by rw [hRm]; first | decide | (simp only [clS]; omega)) dX12_full_6 (fun r6 w6 hp6 => ?_)
    obtain ⟨rfl, hw6⟩ := hp6
    rw [hw6]
    have hbw6 := ite01 (0 ≤ z ∧ z < 2)
    refine g_if_ne (tgt := 14) h dX12_full_9 (by decide) (by first | assumption | exact ⟨by omega, by omega⟩) (fun c9 => ?_) (fun c9 => ?_)
    · exfalso; omega
    · refine g_iconst h dX12_full_12 ?_
      refine g_iret h hQ (by first | decide | omega | (simp only [clS]; omega)) (by first | decide | omega | (simp only [clS]; omega)) ?_ dX12_full_13
      exact ⟨congrArg (fun z => some (ai z)) (if_neg hzl).symm, (if_neg hzl).symm⟩
