/-! ===== M: the land ===== -/
/-- bounds of M's land -/
def ML (w : AW) : Prop := (∀ c, c < 400 → 0 ≤ w.2.1 472 c ∧ w.2.1 472 c ≤ 999) ∧ (0 ≤ w.2.1 400 66 ∧ w.2.1 400 66 ≤ 200) ∧ (1 ≤ w.2.1 400 67 ∧ w.2.1 400 67 ≤ 10000) ∧ (1 ≤ w.2.1 400 68 ∧ w.2.1 400 68 ≤ 50) ∧ (w.2.1 400 71 = 0 ∨ w.2.1 400 71 = 1)
def laLo (a : Int) : Int := if a = 0 then 0 else 1
def laHi (a : Int) : Int := if a = 0 then 200 else if a = 1 then 10000 else 50
def lndF (a : Int) : Nat := if a = 0 then 66 else if a = 1 then 67 else 68
set_option maxRecDepth 100000 in
set_option maxHeartbeats 4000000 in
theorem c_X12_height (l : Launch) (w : AW) (c v : Int) (hM : MS w) (hc : R32 c) (hv : R32 v) : HT l yX12_height cX12_height 3 (some .boolean) 2 0 0 w [ar 400, ai c, ai v] (fun r w' => r = some (ai (if 0 ≤ c ∧ c < 400 then if 0 ≤ v ∧ v ≤ 999 then 1 else 0 else 0)) ∧ w' = (if 0 ≤ c ∧ c < 400 then if 0 ≤ v ∧ v ≤ 999 then tM (upI (th w) 472 c.toNat v) 0 else tM (th w) 2 else tM (th w) 1)) := by
  refine HT.of (by decide) (by intro v hv; simp only [List.mem_cons, List.not_mem_nil, or_false] at hv; rcases hv with rfl | rfl | rfl <;> rfl) (Nat.le_of_ble_eq_true rfl) ?_
  intro Γ h hQ hRm hnm hl hw0
  have s400 : w.1 400 = (112, 0) := hM.1 400 (by decide) (by decide)
  have s472 : w.1 472 = (1, 400) := hM.1 472 (by decide) (by decide)
  have p72 : w.2.2 400 72 = some 472 := hM.2 (400, 72, 472) (by decide)
  refine g_aload_n h dX12_height_0 rfl ?_
  refine g_iconst h dX12_height_1 ?_
  refine g_putI h flX12_1 rfl rfl (by assumption) dX12_height_2 ?_
  refine g_iload_n h dX12_height_5 rfl ?_
  refine g_callS h rfl [_] (c_X12_isCell _ _ c hc) clX12_477 st_X12_isCell rfl rfl (by rw [hRm]; first | decide | (simp only [clS]; omega)) (by rw [hRm]; first | decide | (simp only [clS]; omega)) (fun _ => Nat.le_of_ble_eq_true rfl) (by rw [hRm]; first | decide | (simp only [clS]; omega)) (by rw [hRm]; first | decide | (simp only [clS]; omega)) dX12_height_6 (fun r6 w6 hp6 => ?_)
  obtain ⟨rfl, hw6⟩ := hp6
  rw [hw6]
  have hbw6 := ite01 (0 ≤ c ∧ c < 400)
  refine g_if_ne (tgt := 18) h dX12_height_9 (by decide) (by first | assumption | exact ⟨by omega, by omega⟩) (fun c9 => ?_) (fun c9 => ?_)
  · refine g_iload_n h dX12_height_18 rfl ?_
    refine g_iconst h dX12_height_19 ?_
    refine g_sipush h dX12_height_20 rfl ?_
    refine g_callS h rfl [_, _, _] (c_X12_in _ _ _ _ _ hv ⟨by omega, by omega⟩ ⟨by omega, by omega⟩) clX12_211 st_X12_in rfl rfl (by rw [hRm]; first | decide | (simp only [clS]; omega)) (by rw [hRm]; first | decide | (simp only [clS]; omega)) (fun _ => Nat.le_of_ble_eq_true rfl) (by rw [hRm]; first | decide | (simp only [clS]; omega)) (by rw [hRm]; first | decide | (simp only [clS]; omega)) dX12_height_23 (fun r23 w23 hp23 => ?_)
    obtain ⟨rfl, hw23⟩ := hp23
    rw [hw23]
    have hbw23 := ite01 ((0 : Int) ≤ v ∧ v ≤ 999)
    refine g_if_ne (tgt := 35) h dX12_height_26 (by decide) (by first | assumption | exact ⟨by omega, by omega⟩) (fun c26 => ?_) (fun c26 => ?_)
    · refine g_aload_n h dX12_height_35 rfl ?_
      refine g_getQ h flX12_164 rfl (by assumption) (by assumption) dX12_height_36 ?_
      refine g_iload_n h dX12_height_39 rfl ?_
      refine g_iload_n h dX12_height_40 rfl ?_
      refine g_iast h (c.toNat) (by assumption) (by first | omega | assumption) (by first | omega | assumption) (by first | decide | omega) dX12_height_41 ?_
      refine g_aload_n h dX12_height_42 rfl ?_
      refine g_callV h rfl (ci := 12) [] (by assumption) (c_X12_granted _ _ (MS_of rfl rfl hM)) clX12_215 (by decide) rfl in_X12_granted se_X12_granted rfl rfl (by rw [hRm]; first | decide | (simp only [clS]; omega)) (by rw [hRm]; first | decide | (simp only [clS]; omega)) (fun _ => Nat.le_of_ble_eq_true rfl) (by rw [hRm]; first | decide | (simp only [clS]; omega)) (by rw [hRm]; first | decide | (simp only [clS]; omega)) dX12_height_43 (fun r43 w43 hp43 => ?_)
      obtain ⟨rfl, hw43⟩ := hp43
      rw [hw43]
      refine g_zret h hQ (by first | decide | omega | (simp only [clS]; omega)) (by first | decide | omega | (simp only [clS]; omega)) (by omega) ?_ dX12_height_46
      first
      | (exfalso; omega)
      | (refine ⟨?_, ?_⟩ <;> (repeat first | rw [if_pos (by omega)] | rw [if_neg (by omega)]) <;> rfl)
    · refine g_aload_n h dX12_height_29 rfl ?_
      refine g_iconst h dX12_height_30 ?_
      refine g_callV h rfl (ci := 12) [_] (by assumption) (c_X12_denied _ _ _ (MS_of rfl rfl hM)) clX12_207 (by decide) rfl in_X12_denied se_X12_denied rfl rfl (by rw [hRm]; first | decide | (simp only [clS]; omega)) (by rw [hRm]; first | decide | (simp only [clS]; omega)) (fun _ => Nat.le_of_ble_eq_true rfl) (by rw [hRm]; first | decide | (simp only [clS]; omega)) (by rw [hRm]; first | decide | (simp only [clS]; omega)) dX12_height_31 (fun r31 w31 hp31 => ?_)
      obtain ⟨rfl, hw31⟩ := hp31
      rw [hw31]
      refine g_zret h hQ (by first | decide | omega | (simp only [clS]; omega)) (by first | decide | omega | (simp only [clS]; omega)) (by omega) ?_ dX12_height_34
      first
      | (exfalso; omega)
      | (refine ⟨?_, ?_⟩ <;> (repeat first | rw [if_pos (by omega)] | rw [if_neg (by omega)]) <;> rfl)
  · refine g_aload_n h dX12_height_12 rfl ?_
    refine g_iconst h dX12_height_13 ?_
    refine g_callV h rfl (ci := 12) [_] (by assumption) (c_X12_denied _ _ _ (MS_of rfl rfl hM)) clX12_207 (by decide) rfl in_X12_denied se_X12_denied rfl rfl (by rw [hRm]; first | decide | (simp only [clS]; omega)) (by rw [hRm]; first | decide | (simp only [clS]; omega)) (fun _ => Nat.le_of_ble_eq_true rfl) (by rw [hRm]; first | decide | (simp only [clS]; omega)) (by rw [hRm]; first | decide | (simp only [clS]; omega)) dX12_height_14 (fun r14 w14 hp14 => ?_)
    obtain ⟨rfl, hw14⟩ := hp14
    rw [hw14]
    refine g_zret h hQ (by first | decide | omega | (simp only [clS]; omega)) (by first | decide | omega | (simp only [clS]; omega)) (by omega) ?_ dX12_height_17
    first
    | (exfalso; omega)
    | (refine ⟨?_, ?_⟩ <;> (repeat first | rw [if_pos (by omega)] | rw [if_neg (by omega)]) <;> rfl)
set_option maxRecDepth 100000 in
set_option maxHeartbeats 4000000 in
theorem c_X12_wind (l : Launch) (w : AW) (v : Int) (hM : MS w) (hv : R32 v) : HT l yX12_wind cX12_wind 2 (some .boolean) 2 0 0 w [ar 400, ai v] (fun r w' => r = some (ai (if 0 ≤ v ∧ v ≤ 99 then 1 else 0)) ∧ w' = (if 0 ≤ v ∧ v ≤ 99 then tM (upI (th w) 400 43 v) 0 else tM (th w) 2)) := by
  refine HT.of (by decide) (by intro v hv; simp only [List.mem_cons, List.not_mem_nil, or_false] at hv; rcases hv with rfl | rfl <;> rfl) (Nat.le_of_ble_eq_true rfl) ?_
  intro Γ h hQ hRm hnm hl hw0
  have s400 : w.1 400 = (112, 0) := hM.1 400 (by decide) (by decide)
  refine g_aload_n h dX12_wind_0 rfl ?_
  refine g_iconst h dX12_wind_1 ?_
  refine g_putI h flX12_1 rfl rfl (by assumption) dX12_wind_2 ?_
  refine g_iload_n h dX12_wind_5 rfl ?_
  refine g_iconst h dX12_wind_6 ?_
  refine g_bipush h dX12_wind_7 rfl ?_
  refine g_callS h rfl [_, _, _] (c_X12_in _ _ _ _ _ hv ⟨by omega, by omega⟩ ⟨by omega, by omega⟩) clX12_211 st_X12_in rfl rfl (by rw [hRm]; first | decide | (simp only [clS]; omega)) (by rw [hRm]; first | decide | (simp only [clS]; omega)) (fun _ => Nat.le_of_ble_eq_true rfl) (by rw [hRm]; first | decide | (simp only [clS]; omega)) (by rw [hRm]; first | decide | (simp only [clS]; omega)) dX12_wind_9 (fun r9 w9 hp9 => ?_)
  obtain ⟨rfl, hw9⟩ := hp9
  rw [hw9]
  have hbw9 := ite01 ((0 : Int) ≤ v ∧ v ≤ 99)
  refine g_if_ne (tgt := 21) h dX12_wind_12 (by decide) (by first | assumption | exact ⟨by omega, by omega⟩) (fun c12 => ?_) (fun c12 => ?_)
  · refine g_aload_n h dX12_wind_21 rfl ?_
    refine g_iload_n h dX12_wind_22 rfl ?_
    refine g_putI h flX12_462 rfl rfl (by assumption) dX12_wind_23 ?_
    refine g_aload_n h dX12_wind_26 rfl ?_
    refine g_callV h rfl (ci := 12) [] (by assumption) (c_X12_granted _ _ (MS_of rfl rfl hM)) clX12_215 (by decide) rfl in_X12_granted se_X12_granted rfl rfl (by rw [hRm]; first | decide | (simp only [clS]; omega)) (by rw [hRm]; first | decide | (simp only [clS]; omega)) (fun _ => Nat.le_of_ble_eq_true rfl) (by rw [hRm]; first | decide | (simp only [clS]; omega)) (by rw [hRm]; first | decide | (simp only [clS]; omega)) dX12_wind_27 (fun r27 w27 hp27 => ?_)
    obtain ⟨rfl, hw27⟩ := hp27
    rw [hw27]
    refine g_zret h hQ (by first | decide | omega | (simp only [clS]; omega)) (by first | decide | omega | (simp only [clS]; omega)) (by omega) ?_ dX12_wind_30
    first
    | (exfalso; omega)
    | (refine ⟨?_, ?_⟩ <;> (repeat first | rw [if_pos (by omega)] | rw [if_neg (by omega)]) <;> rfl)
  · refine g_aload_n h dX12_wind_15 rfl ?_
    refine g_iconst h dX12_wind_16 ?_
    refine g_callV h rfl (ci := 12) [_] (by assumption) (c_X12_denied _ _ _ (MS_of rfl rfl hM)) clX12_207 (by decide) rfl in_X12_denied se_X12_denied rfl rfl (by rw [hRm]; first | decide | (simp only [clS]; omega)) (by rw [hRm]; first | decide | (simp only [clS]; omega)) (fun _ => Nat.le_of_ble_eq_true rfl) (by rw [hRm]; first | decide | (simp only [clS]; omega)) (by rw [hRm]; first | decide | (simp only [clS]; omega)) dX12_wind_17 (fun r17 w17 hp17 => ?_)
    obtain ⟨rfl, hw17⟩ := hp17
    rw [hw17]
    refine g_zret h hQ (by first | decide | omega | (simp only [clS]; omega)) (by first | decide | omega | (simp only [clS]; omega)) (by omega) ?_ dX12_wind_20
    first
    | (exfalso; omega)
    | (refine ⟨?_, ?_⟩ <;> (repeat first | rw [if_pos (by omega)] | rw [if_neg (by omega)]) <;> rfl)
set_option maxRecDepth 100000 in
set_option maxHeartbeats 4000000 in
theorem c_X12_land (l : Launch) (w : AW) (a v : Int) (hM : MS w) (ha : R32 a) (hv : R32 v) : HT l yX12_land cX12_land 3 (some .boolean) 2 0 0 w [ar 400, ai a, ai v] (fun r w' => r = some (ai (if 0 ≤ a ∧ a ≤ 2 then if laLo a ≤ v ∧ v ≤ laHi a then 1 else 0 else 0)) ∧ w' = (if 0 ≤ a ∧ a ≤ 2 then if laLo a ≤ v ∧ v ≤ laHi a then tM (upI (th w) 400 (lndF a) v) 0 else tM (th w) 2 else tM (th w) 1)) := by
  refine HT.of (by decide) (by intro v hv; simp only [List.mem_cons, List.not_mem_nil, or_false] at hv; rcases hv with rfl | rfl | rfl <;> rfl) (Nat.le_of_ble_eq_true rfl) ?_
  intro Γ h hQ hRm hnm hl hw0
  have s400 : w.1 400 = (112, 0) := hM.1 400 (by decide) (by decide)
  by_cases hza : 0 ≤ a ∧ a ≤ 2
  · rcases (show a = 0 ∨ a = 1 ∨ a = 2 by omega) with rfl | rfl | rfl
    · rw [show laLo 0 = 0 from rfl, show laHi 0 = 200 from rfl, show lndF 0 = 66 from rfl] at hQ
      refine g_aload_n h dX12_land_0 rfl ?_
      refine g_iconst h dX12_land_1 ?_
      refine g_putI h flX12_1 rfl rfl (by assumption) dX12_land_2 ?_
      refine g_iload_n h dX12_land_5 rfl ?_
      refine g_iconst h dX12_land_6 ?_
      refine g_iconst h dX12_land_7 ?_
      refine g_callS h rfl [_, _, _] (c_X12_in _ _ _ _ _ ha ⟨by omega, by omega⟩ ⟨by omega, by omega⟩) clX12_211 st_X12_in rfl rfl (by rw [hRm]; first | decide | (simp only [clS]; omega)) (by rw [hRm]; first | decide | (simp only [clS]; omega)) (fun _ => Nat.le_of_ble_eq_true rfl) (by rw [hRm]; first | decide | (simp only [clS]; omega)) (by rw [hRm]; first | decide | (simp only [clS]; omega)) dX12_land_8 (fun r8 w8 hp8 => ?_)
      obtain ⟨rfl, hw8⟩ := hp8
      rw [hw8]
      have hbw8 := ite01 ((0 : Int) ≤ 0 ∧ (0 : Int) ≤ 2)
      refine g_if_ne (tgt := 20) h dX12_land_11 (by decide) (by first | assumption | exact ⟨by omega, by omega⟩) (fun c11 => ?_) (fun c11 => ?_)
      · refine g_iload_n h dX12_land_20 rfl ?_
        refine g_iload_n h dX12_land_21 rfl ?_
        refine g_if_ne (tgt := 29) h dX12_land_22 (by decide) (by first | assumption | exact ⟨by omega, by omega⟩) (fun c22 => ?_) (fun c22 => ?_)
        · exfalso; omega
        · refine g_iconst h dX12_land_25 ?_
          refine g_goto (tgt := 30) h dX12_land_26 (by decide) ?_
          refine g_iload_n h dX12_land_30 rfl ?_
          refine g_if_ne (tgt := 40) h dX12_land_31 (by decide) (by first | assumption | exact ⟨by omega, by omega⟩) (fun c31 => ?_) (fun c31 => ?_)
          · exfalso; omega
          · refine g_sipush h dX12_land_34 rfl ?_
            refine g_goto (tgt := 53) h dX12_land_37 (by decide) ?_
            refine g_callS h rfl [_, _, _] (c_X12_in _ _ _ _ _ hv ⟨by omega, by omega⟩ ⟨by omega, by omega⟩) clX12_211 st_X12_in rfl rfl (by rw [hRm]; first | decide | (simp only [clS]; omega)) (by rw [hRm]; first | decide | (simp only [clS]; omega)) (fun _ => Nat.le_of_ble_eq_true rfl) (by rw [hRm]; first | decide | (simp only [clS]; omega)) (by rw [hRm]; first | decide | (simp only [clS]; omega)) dX12_land_53 (fun r53 w53 hp53 => ?_)
            obtain ⟨rfl, hw53⟩ := hp53
            rw [hw53]
            have hbw53 := ite01 ((0 : Int) ≤ v ∧ v ≤ 200)
            refine g_if_ne (tgt := 65) h dX12_land_56 (by decide) (by first | assumption | exact ⟨by omega, by omega⟩) (fun c56 => ?_) (fun c56 => ?_)
            · refine g_iload_n h dX12_land_65 rfl ?_
              refine g_if_ne (tgt := 77) h dX12_land_66 (by decide) (by first | assumption | exact ⟨by omega, by omega⟩) (fun c66 => ?_) (fun c66 => ?_)
              · exfalso; omega
              · refine g_aload_n h dX12_land_69 rfl ?_
                refine g_iload_n h dX12_land_70 rfl ?_
                refine g_putI h flX12_155 rfl rfl (by assumption) dX12_land_71 ?_
                refine g_goto (tgt := 95) h dX12_land_74 (by decide) ?_
                refine g_aload_n h dX12_land_95 rfl ?_
                refine g_callV h rfl (ci := 12) [] (by assumption) (c_X12_granted _ _ (MS_of rfl rfl hM)) clX12_215 (by decide) rfl in_X12_granted se_X12_granted rfl rfl (by rw [hRm]; first | decide | (simp only [clS]; omega)) (by rw [hRm]; first | decide | (simp only [clS]; omega)) (fun _ => Nat.le_of_ble_eq_true rfl) (by rw [hRm]; first | decide | (simp only [clS]; omega)) (by rw [hRm]; first | decide | (simp only [clS]; omega)) dX12_land_96 (fun r96 w96 hp96 => ?_)
                obtain ⟨rfl, hw96⟩ := hp96
                rw [hw96]
                refine g_zret h hQ (by first | decide | omega | (simp only [clS]; omega)) (by first | decide | omega | (simp only [clS]; omega)) (by omega) ?_ dX12_land_99
                first
                | (exfalso; omega)
                | (refine ⟨?_, ?_⟩ <;> (repeat first | rw [if_pos (by omega)] | rw [if_neg (by omega)]) <;> rfl)
            · refine g_aload_n h dX12_land_59 rfl ?_
              refine g_iconst h dX12_land_60 ?_
              refine g_callV h rfl (ci := 12) [_] (by assumption) (c_X12_denied _ _ _ (MS_of rfl rfl hM)) clX12_207 (by decide) rfl in_X12_denied se_X12_denied rfl rfl (by rw [hRm]; first | decide | (simp only [clS]; omega)) (by rw [hRm]; first | decide | (simp only [clS]; omega)) (fun _ => Nat.le_of_ble_eq_true rfl) (by rw [hRm]; first | decide | (simp only [clS]; omega)) (by rw [hRm]; first | decide | (simp only [clS]; omega)) dX12_land_61 (fun r61 w61 hp61 => ?_)
              obtain ⟨rfl, hw61⟩ := hp61
              rw [hw61]
              refine g_zret h hQ (by first | decide | omega | (simp only [clS]; omega)) (by first | decide | omega | (simp only [clS]; omega)) (by omega) ?_ dX12_land_64
              first
              | (exfalso; omega)
              | (refine ⟨?_, ?_⟩ <;> (repeat first | rw [if_pos (by omega)] | rw [if_neg (by omega)]) <;> rfl)
      · exfalso; omega
    · rw [show laLo 1 = 1 from rfl, show laHi 1 = 10000 from rfl, show lndF 1 = 67 from rfl] at hQ
      refine g_aload_n h dX12_land_0 rfl ?_
      refine g_iconst h dX12_land_1 ?_
      refine g_putI h flX12_1 rfl rfl (by assumption) dX12_land_2 ?_
      refine g_iload_n h dX12_land_5 rfl ?_
      refine g_iconst h dX12_land_6 ?_
      refine g_iconst h dX12_land_7 ?_
      refine g_callS h rfl [_, _, _] (c_X12_in _ _ _ _ _ ha ⟨by omega, by omega⟩ ⟨by omega, by omega⟩) clX12_211 st_X12_in rfl rfl (by rw [hRm]; first | decide | (simp only [clS]; omega)) (by rw [hRm]; first | decide | (simp only [clS]; omega)) (fun _ => Nat.le_of_ble_eq_true rfl) (by rw [hRm]; first | decide | (simp only [clS]; omega)) (by rw [hRm]; first | decide | (simp only [clS]; omega)) dX12_land_8 (fun r8 w8 hp8 => ?_)
      obtain ⟨rfl, hw8⟩ := hp8
      rw [hw8]
      have hbw8 := ite01 ((0 : Int) ≤ 1 ∧ (1 : Int) ≤ 2)
      refine g_if_ne (tgt := 20) h dX12_land_11 (by decide) (by first | assumption | exact ⟨by omega, by omega⟩) (fun c11 => ?_) (fun c11 => ?_)
      · refine g_iload_n h dX12_land_20 rfl ?_
        refine g_iload_n h dX12_land_21 rfl ?_
        refine g_if_ne (tgt := 29) h dX12_land_22 (by decide) (by first | assumption | exact ⟨by omega, by omega⟩) (fun c22 => ?_) (fun c22 => ?_)
        · refine g_iconst h dX12_land_29 ?_
          refine g_iload_n h dX12_land_30 rfl ?_
          refine g_if_ne (tgt := 40) h dX12_land_31 (by decide) (by first | assumption | exact ⟨by omega, by omega⟩) (fun c31 => ?_) (fun c31 => ?_)
          · refine g_iload_n h dX12_land_40 rfl ?_
            refine g_iconst h dX12_land_41 ?_
            refine g_icmp_ne (tgt := 51) h dX12_land_42 (by decide) (by first | assumption | exact ⟨by omega, by omega⟩) (by first | assumption | exact ⟨by omega, by omega⟩) (fun c42 => ?_) (fun c42 => ?_)
            · exfalso; omega
            · refine g_sipush h dX12_land_45 rfl ?_
              refine g_goto (tgt := 53) h dX12_land_48 (by decide) ?_
              refine g_callS h rfl [_, _, _] (c_X12_in _ _ _ _ _ hv ⟨by omega, by omega⟩ ⟨by omega, by omega⟩) clX12_211 st_X12_in rfl rfl (by rw [hRm]; first | decide | (simp only [clS]; omega)) (by rw [hRm]; first | decide | (simp only [clS]; omega)) (fun _ => Nat.le_of_ble_eq_true rfl) (by rw [hRm]; first | decide | (simp only [clS]; omega)) (by rw [hRm]; first | decide | (simp only [clS]; omega)) dX12_land_53 (fun r53 w53 hp53 => ?_)
              obtain ⟨rfl, hw53⟩ := hp53
              rw [hw53]
              have hbw53 := ite01 ((1 : Int) ≤ v ∧ v ≤ 10000)
              refine g_if_ne (tgt := 65) h dX12_land_56 (by decide) (by first | assumption | exact ⟨by omega, by omega⟩) (fun c56 => ?_) (fun c56 => ?_)
              · refine g_iload_n h dX12_land_65 rfl ?_
                refine g_if_ne (tgt := 77) h dX12_land_66 (by decide) (by first | assumption | exact ⟨by omega, by omega⟩) (fun c66 => ?_) (fun c66 => ?_)
                · refine g_iload_n h dX12_land_77 rfl ?_
                  refine g_iconst h dX12_land_78 ?_
                  refine g_icmp_ne (tgt := 90) h dX12_land_79 (by decide) (by first | assumption | exact ⟨by omega, by omega⟩) (by first | assumption | exact ⟨by omega, by omega⟩) (fun c79 => ?_) (fun c79 => ?_)
                  · exfalso; omega
                  · refine g_aload_n h dX12_land_82 rfl ?_
                    refine g_iload_n h dX12_land_83 rfl ?_
                    refine g_putI h flX12_158 rfl rfl (by assumption) dX12_land_84 ?_
                    refine g_goto (tgt := 95) h dX12_land_87 (by decide) ?_
                    refine g_aload_n h dX12_land_95 rfl ?_
                    refine g_callV h rfl (ci := 12) [] (by assumption) (c_X12_granted _ _ (MS_of rfl rfl hM)) clX12_215 (by decide) rfl in_X12_granted se_X12_granted rfl rfl (by rw [hRm]; first | decide | (simp only [clS]; omega)) (by rw [hRm]; first | decide | (simp only [clS]; omega)) (fun _ => Nat.le_of_ble_eq_true rfl) (by rw [hRm]; first | decide | (simp only [clS]; omega)) (by rw [hRm]; first | decide | (simp only [clS]; omega)) dX12_land_96 (fun r96 w96 hp96 => ?_)
                    obtain ⟨rfl, hw96⟩ := hp96
                    rw [hw96]
                    refine g_zret h hQ (by first | decide | omega | (simp only [clS]; omega)) (by first | decide | omega | (simp only [clS]; omega)) (by omega) ?_ dX12_land_99
                    first
                    | (exfalso; omega)
                    | (refine ⟨?_, ?_⟩ <;> (repeat first | rw [if_pos (by omega)] | rw [if_neg (by omega)]) <;> rfl)
                · exfalso; omega
              · refine g_aload_n h dX12_land_59 rfl ?_
                refine g_iconst h dX12_land_60 ?_
                refine g_callV h rfl (ci := 12) [_] (by assumption) (c_X12_denied _ _ _ (MS_of rfl rfl hM)) clX12_207 (by decide) rfl in_X12_denied se_X12_denied rfl rfl (by rw [hRm]; first | decide | (simp only [clS]; omega)) (by rw [hRm]; first | decide | (simp only [clS]; omega)) (fun _ => Nat.le_of_ble_eq_true rfl) (by rw [hRm]; first | decide | (simp only [clS]; omega)) (by rw [hRm]; first | decide | (simp only [clS]; omega)) dX12_land_61 (fun r61 w61 hp61 => ?_)
                obtain ⟨rfl, hw61⟩ := hp61
                rw [hw61]
                refine g_zret h hQ (by first | decide | omega | (simp only [clS]; omega)) (by first | decide | omega | (simp only [clS]; omega)) (by omega) ?_ dX12_land_64
                first
                | (exfalso; omega)
                | (refine ⟨?_, ?_⟩ <;> (repeat first | rw [if_pos (by omega)] | rw [if_neg (by omega)]) <;> rfl)
          · exfalso; omega
        · exfalso; omega
      · exfalso; omega
    · rw [show laLo 2 = 1 from rfl, show laHi 2 = 50 from rfl, show lndF 2 = 68 from rfl] at hQ
      refine g_aload_n h dX12_land_0 rfl ?_
      refine g_iconst h dX12_land_1 ?_
      refine g_putI h flX12_1 rfl rfl (by assumption) dX12_land_2 ?_
      refine g_iload_n h dX12_land_5 rfl ?_
      refine g_iconst h dX12_land_6 ?_
      refine g_iconst h dX12_land_7 ?_
      refine g_callS h rfl [_, _, _] (c_X12_in _ _ _ _ _ ha ⟨by omega, by omega⟩ ⟨by omega, by omega⟩) clX12_211 st_X12_in rfl rfl (by rw [hRm]; first | decide | (simp only [clS]; omega)) (by rw [hRm]; first | decide | (simp only [clS]; omega)) (fun _ => Nat.le_of_ble_eq_true rfl) (by rw [hRm]; first | decide | (simp only [clS]; omega)) (by rw [hRm]; first | decide | (simp only [clS]; omega)) dX12_land_8 (fun r8 w8 hp8 => ?_)
      obtain ⟨rfl, hw8⟩ := hp8
      rw [hw8]
      have hbw8 := ite01 ((0 : Int) ≤ 2 ∧ (2 : Int) ≤ 2)
      refine g_if_ne (tgt := 20) h dX12_land_11 (by decide) (by first | assumption | exact ⟨by omega, by omega⟩) (fun c11 => ?_) (fun c11 => ?_)
      · refine g_iload_n h dX12_land_20 rfl ?_
        refine g_iload_n h dX12_land_21 rfl ?_
        refine g_if_ne (tgt := 29) h dX12_land_22 (by decide) (by first | assumption | exact ⟨by omega, by omega⟩) (fun c22 => ?_) (fun c22 => ?_)
        · refine g_iconst h dX12_land_29 ?_
          refine g_iload_n h dX12_land_30 rfl ?_
          refine g_if_ne (tgt := 40) h dX12_land_31 (by decide) (by first | assumption | exact ⟨by omega, by omega⟩) (fun c31 => ?_) (fun c31 => ?_)
          · refine g_iload_n h dX12_land_40 rfl ?_
            refine g_iconst h dX12_land_41 ?_
            refine g_icmp_ne (tgt := 51) h dX12_land_42 (by decide) (by first | assumption | exact ⟨by omega, by omega⟩) (by first | assumption | exact ⟨by omega, by omega⟩) (fun c42 => ?_) (fun c42 => ?_)
            · refine g_bipush h dX12_land_51 rfl ?_
              refine g_callS h rfl [_, _, _] (c_X12_in _ _ _ _ _ hv ⟨by omega, by omega⟩ ⟨by omega, by omega⟩) clX12_211 st_X12_in rfl rfl (by rw [hRm]; first | decide | (simp only [clS]; omega)) (by rw [hRm]; first | decide | (simp only [clS]; omega)) (fun _ => Nat.le_of_ble_eq_true rfl) (by rw [hRm]; first | decide | (simp only [clS]; omega)) (by rw [hRm]; first | decide | (simp only [clS]; omega)) dX12_land_53 (fun r53 w53 hp53 => ?_)
              obtain ⟨rfl, hw53⟩ := hp53
              rw [hw53]
              have hbw53 := ite01 ((1 : Int) ≤ v ∧ v ≤ 50)
              refine g_if_ne (tgt := 65) h dX12_land_56 (by decide) (by first | assumption | exact ⟨by omega, by omega⟩) (fun c56 => ?_) (fun c56 => ?_)
              · refine g_iload_n h dX12_land_65 rfl ?_
                refine g_if_ne (tgt := 77) h dX12_land_66 (by decide) (by first | assumption | exact ⟨by omega, by omega⟩) (fun c66 => ?_) (fun c66 => ?_)
                · refine g_iload_n h dX12_land_77 rfl ?_
                  refine g_iconst h dX12_land_78 ?_
                  refine g_icmp_ne (tgt := 90) h dX12_land_79 (by decide) (by first | assumption | exact ⟨by omega, by omega⟩) (by first | assumption | exact ⟨by omega, by omega⟩) (fun c79 => ?_) (fun c79 => ?_)
                  · refine g_aload_n h dX12_land_90 rfl ?_
                    refine g_iload_n h dX12_land_91 rfl ?_
                    refine g_putI h flX12_161 rfl rfl (by assumption) dX12_land_92 ?_
                    refine g_aload_n h dX12_land_95 rfl ?_
                    refine g_callV h rfl (ci := 12) [] (by assumption) (c_X12_granted _ _ (MS_of rfl rfl hM)) clX12_215 (by decide) rfl in_X12_granted se_X12_granted rfl rfl (by rw [hRm]; first | decide | (simp only [clS]; omega)) (by rw [hRm]; first | decide | (simp only [clS]; omega)) (fun _ => Nat.le_of_ble_eq_true rfl) (by rw [hRm]; first | decide | (simp only [clS]; omega)) (by rw [hRm]; first | decide | (simp only [clS]; omega)) dX12_land_96 (fun r96 w96 hp96 => ?_)
                    obtain ⟨rfl, hw96⟩ := hp96
                    rw [hw96]
                    refine g_zret h hQ (by first | decide | omega | (simp only [clS]; omega)) (by first | decide | omega | (simp only [clS]; omega)) (by omega) ?_ dX12_land_99
                    first
                    | (exfalso; omega)
                    | (refine ⟨?_, ?_⟩ <;> (repeat first | rw [if_pos (by omega)] | rw [if_neg (by omega)]) <;> rfl)
                  · exfalso; omega
                · exfalso; omega
              · refine g_aload_n h dX12_land_59 rfl ?_
                refine g_iconst h dX12_land_60 ?_
                refine g_callV h rfl (ci := 12) [_] (by assumption) (c_X12_denied _ _ _ (MS_of rfl rfl hM)) clX12_207 (by decide) rfl in_X12_denied se_X12_denied rfl rfl (by rw [hRm]; first | decide | (simp only [clS]; omega)) (by rw [hRm]; first | decide | (simp only [clS]; omega)) (fun _ => Nat.le_of_ble_eq_true rfl) (by rw [hRm]; first | decide | (simp only [clS]; omega)) (by rw [hRm]; first | decide | (simp only [clS]; omega)) dX12_land_61 (fun r61 w61 hp61 => ?_)
                obtain ⟨rfl, hw61⟩ := hp61
                rw [hw61]
                refine g_zret h hQ (by first | decide | omega | (simp only [clS]; omega)) (by first | decide | omega | (simp only [clS]; omega)) (by omega) ?_ dX12_land_64
                first
                | (exfalso; omega)
                | (refine ⟨?_, ?_⟩ <;> (repeat first | rw [if_pos (by omega)] | rw [if_neg (by omega)]) <;> rfl)
            · exfalso; omega
          · exfalso; omega
        · exfalso; omega
      · exfalso; omega
  · skip
    refine g_aload_n h dX12_land_0 rfl ?_
    refine g_iconst h dX12_land_1 ?_
    refine g_putI h flX12_1 rfl rfl (by assumption) dX12_land_2 ?_
    refine g_iload_n h dX12_land_5 rfl ?_
    refine g_iconst h dX12_land_6 ?_
    refine g_iconst h dX12_land_7 ?_
    refine g_callS h rfl [_, _, _] (c_X12_in _ _ _ _ _ ha ⟨by omega, by omega⟩ ⟨by omega, by omega⟩) clX12_211 st_X12_in rfl rfl (by rw [hRm]; first | decide | (simp only [clS]; omega)) (by rw [hRm]; first | decide | (simp only [clS]; omega)) (fun _ => Nat.le_of_ble_eq_true rfl) (by rw [hRm]; first | decide | (simp only [clS]; omega)) (by rw [hRm]; first | decide | (simp only [clS]; omega)) dX12_land_8 (fun r8 w8 hp8 => ?_)
    obtain ⟨rfl, hw8⟩ := hp8
    rw [hw8]
    have hbw8 := ite01 ((0 : Int) ≤ a ∧ a ≤ 2)
    refine g_if_ne (tgt := 20) h dX12_land_11 (by decide) (by first | assumption | exact ⟨by omega, by omega⟩) (fun c11 => ?_) (fun c11 => ?_)
    · exfalso; omega
    · refine g_aload_n h dX12_land_14 rfl ?_
      refine g_iconst h dX12_land_15 ?_
      refine g_callV h rfl (ci := 12) [_] (by assumption) (c_X12_denied _ _ _ (MS_of rfl rfl hM)) clX12_207 (by decide) rfl in_X12_denied se_X12_denied rfl rfl (by rw [hRm]; first | decide | (simp only [clS]; omega)) (by rw [hRm]; first | decide | (simp only [clS]; omega)) (fun _ => Nat.le_of_ble_eq_true rfl) (by rw [hRm]; first | decide | (simp only [clS]; omega)) (by rw [hRm]; first | decide | (simp only [clS]; omega)) dX12_land_16 (fun r16 w16 hp16 => ?_)
      obtain ⟨rfl, hw16⟩ := hp16
      rw [hw16]
      refine g_zret h hQ (by first | decide | omega | (simp only [clS]; omega)) (by first | decide | omega | (simp only [clS]; omega)) (by omega) ?_ dX12_land_19
      first
      | (exfalso; omega)
      | (refine ⟨?_, ?_⟩ <;> (repeat first | rw [if_pos (by omega)] | rw [if_neg (by omega)]) <;> rfl)
/-- M's villages -/
def MVI (w : AW) (nv : Nat) : Prop := w.2.1 400 69 = (nv : Int) ∧ nv ≤ 20 ∧ ∀ v, v < nv → 0 ≤ w.2.1 475 v ∧ w.2.1 475 v < 400 ∧ 1 ≤ w.2.1 476 v ∧ w.2.1 476 v ≤ 9999 ∧ (w.2.1 477 v = 0 ∨ w.2.1 477 v = 1)
def vlW (w : AW) (nv : Nat) (c f : Int) : AW := upI (upI (upI w 475 nv c) 476 nv f) 400 69 ((nv : Int) + 1)
set_option maxRecDepth 100000 in
set_option maxHeartbeats 4000000 in
theorem c_X12_village (l : Launch) (w : AW) (nv : Nat) (c f : Int) (hM : MS w) (hV : MVI w nv) (hc : R32 c) (hf : R32 f) : HT l yX12_village cX12_village 3 (some .int) 2 0 0 w [ar 400, ai c, ai f] (fun r w' => r = some (ai (if 0 ≤ c ∧ c < 400 then if 1 ≤ f ∧ f ≤ 9999 then if nv = 20 then -1 else (nv : Int) else -1 else -1)) ∧ w' = (if 0 ≤ c ∧ c < 400 then if 1 ≤ f ∧ f ≤ 9999 then if nv = 20 then tM (th w) 3 else tM (vlW (th w) nv c f) 0 else tM (th w) 2 else tM (th w) 1)) := by
  refine HT.of (by decide) (by intro v hv; simp only [List.mem_cons, List.not_mem_nil, or_false] at hv; rcases hv with rfl | rfl | rfl <;> rfl) (Nat.le_of_ble_eq_true rfl) ?_
  intro Γ h hQ hRm hnm hl hw0
  have s400 : w.1 400 = (112, 0) := hM.1 400 (by decide) (by decide)
  have s475 : w.1 475 = (1, 20) := hM.1 475 (by decide) (by decide)
  have s476 : w.1 476 = (1, 20) := hM.1 476 (by decide) (by decide)
  have p75 : w.2.2 400 75 = some 475 := hM.2 (400, 75, 475) (by decide)
  have p76 : w.2.2 400 76 = some 476 := hM.2 (400, 76, 476) (by decide)
  obtain ⟨hnv, hnv2, hvv⟩ := id hV
  have e69 : (upI w 400 0 0).2.1 400 69 = (nv : Int) := hnv
  have e69b : (upI (upI w 400 0 0) 475 nv c).2.1 400 69 = (nv : Int) := hnv
  have e69c : (upI (upI (upI w 400 0 0) 475 nv c) 476 nv f).2.1 400 69 = (nv : Int) := hnv
  refine g_aload_n h dX12_village_0 rfl ?_
  refine g_iconst h dX12_village_1 ?_
  refine g_putI h flX12_1 rfl rfl (by assumption) dX12_village_2 ?_
  refine g_iload_n h dX12_village_5 rfl ?_
  refine g_callS h rfl [_] (c_X12_isCell _ _ c hc) clX12_477 st_X12_isCell rfl rfl (by rw [hRm]; first | decide | (simp only [clS]; omega)) (by rw [hRm]; first | decide | (simp only [clS]; omega)) (fun _ => Nat.le_of_ble_eq_true rfl) (by rw [hRm]; first | decide | (simp only [clS]; omega)) (by rw [hRm]; first | decide | (simp only [clS]; omega)) dX12_village_6 (fun r6 w6 hp6 => ?_)
  obtain ⟨rfl, hw6⟩ := hp6
  rw [hw6]
  have hbw6 := ite01 (0 ≤ c ∧ c < 400)
  refine g_if_ne (tgt := 18) h dX12_village_9 (by decide) (by first | assumption | exact ⟨by omega, by omega⟩) (fun c9 => ?_) (fun c9 => ?_)
  · refine g_iload_n h dX12_village_18 rfl ?_
    refine g_iconst h dX12_village_19 ?_
    refine g_sipush h dX12_village_20 rfl ?_
    refine g_callS h rfl [_, _, _] (c_X12_in _ _ _ _ _ hf ⟨by omega, by omega⟩ ⟨by omega, by omega⟩) clX12_211 st_X12_in rfl rfl (by rw [hRm]; first | decide | (simp only [clS]; omega)) (by rw [hRm]; first | decide | (simp only [clS]; omega)) (fun _ => Nat.le_of_ble_eq_true rfl) (by rw [hRm]; first | decide | (simp only [clS]; omega)) (by rw [hRm]; first | decide | (simp only [clS]; omega)) dX12_village_23 (fun r23 w23 hp23 => ?_)
    obtain ⟨rfl, hw23⟩ := hp23
    rw [hw23]
    have hbw23 := ite01 ((1 : Int) ≤ f ∧ f ≤ 9999)
    refine g_if_ne (tgt := 35) h dX12_village_26 (by decide) (by first | assumption | exact ⟨by omega, by omega⟩) (fun c26 => ?_) (fun c26 => ?_)
    · refine g_aload_n h dX12_village_35 rfl ?_
      refine g_getI h flX12_528 rfl (by assumption) dX12_village_36 ?_
      rw [e69]
      refine g_bipush h dX12_village_39 rfl ?_
      refine g_icmp_ne (tgt := 50) h dX12_village_41 (by decide) (by first | assumption | exact ⟨by omega, by omega⟩) (by first | assumption | exact ⟨by omega, by omega⟩) (fun c41 => ?_) (fun c41 => ?_)
      · refine g_aload_n h dX12_village_50 rfl ?_
        refine g_getQ h flX12_173 rfl (by assumption) (by assumption) dX12_village_51 ?_
        refine g_aload_n h dX12_village_54 rfl ?_
        refine g_getI h flX12_528 rfl (by assumption) dX12_village_55 ?_
        refine g_iload_n h dX12_village_58 rfl ?_
        refine g_iast h (nv) (by assumption) (by first | omega | assumption) (by first | omega | assumption) (by first | decide | omega) dX12_village_59 ?_
        refine g_aload_n h dX12_village_60 rfl ?_
        refine g_getQ h flX12_176 rfl (by assumption) (by assumption) dX12_village_61 ?_
        refine g_aload_n h dX12_village_64 rfl ?_
        refine g_getI h flX12_528 rfl (by assumption) dX12_village_65 ?_
        refine g_iload_n h dX12_village_68 rfl ?_
        refine g_iast h (nv) (by assumption) (by first | omega | assumption) (by first | omega | assumption) (by first | decide | omega) dX12_village_69 ?_
        refine g_aload_n h dX12_village_70 rfl ?_
        refine g_dup h dX12_village_71 rfl ?_
        refine g_getI h flX12_528 rfl (by assumption) dX12_village_72 ?_
        rw [e69c]
        refine g_iconst h dX12_village_75 ?_
        refine g_iadd h dX12_village_76 ?_
        refine g_putI h flX12_528 rfl rfl (by assumption) dX12_village_77 ?_
        refine g_aload_n h dX12_village_80 rfl ?_
        refine g_aload_n h dX12_village_81 rfl ?_
        refine g_getI h flX12_528 rfl (by assumption) dX12_village_82 ?_
        rw [upI_self]
        refine g_iconst h dX12_village_85 ?_
        refine g_isub h dX12_village_86 ?_
        refine g_callV h rfl (ci := 12) [_] (by assumption) (c_X12_done _ _ _ (MS_of rfl rfl hM)) clX12_277 (by decide) rfl in_X12_done se_X12_done rfl rfl (by rw [hRm]; first | decide | (simp only [clS]; omega)) (by rw [hRm]; first | decide | (simp only [clS]; omega)) (fun _ => Nat.le_of_ble_eq_true rfl) (by rw [hRm]; first | decide | (simp only [clS]; omega)) (by rw [hRm]; first | decide | (simp only [clS]; omega)) dX12_village_87 (fun r87 w87 hp87 => ?_)
        obtain ⟨rfl, hw87⟩ := hp87
        rw [hw87]
        refine g_iret h hQ (by first | decide | omega | (simp only [clS]; omega)) (by first | decide | omega | (simp only [clS]; omega)) ?_ dX12_village_90
        first
        | (exfalso; omega)
        | (refine ⟨?_, ?_⟩ <;> (repeat first | rw [if_pos (by omega)] | rw [if_neg (by omega)]) <;> first | rfl | (refine congrArg (fun z => some (ai z)) ?_; omega))
      · refine g_aload_n h dX12_village_44 rfl ?_
        refine g_iconst h dX12_village_45 ?_
        refine g_callV h rfl (ci := 12) [_] (by assumption) (c_X12_refused _ _ _ (MS_of rfl rfl hM)) clX12_274 (by decide) rfl in_X12_refused se_X12_refused rfl rfl (by rw [hRm]; first | decide | (simp only [clS]; omega)) (by rw [hRm]; first | decide | (simp only [clS]; omega)) (fun _ => Nat.le_of_ble_eq_true rfl) (by rw [hRm]; first | decide | (simp only [clS]; omega)) (by rw [hRm]; first | decide | (simp only [clS]; omega)) dX12_village_46 (fun r46 w46 hp46 => ?_)
        obtain ⟨rfl, hw46⟩ := hp46
        rw [hw46]
        refine g_iret h hQ (by first | decide | omega | (simp only [clS]; omega)) (by first | decide | omega | (simp only [clS]; omega)) ?_ dX12_village_49
        first
        | (exfalso; omega)
        | (refine ⟨?_, ?_⟩ <;> (repeat first | rw [if_pos (by omega)] | rw [if_neg (by omega)]) <;> first | rfl | (refine congrArg (fun z => some (ai z)) ?_; omega))
    · refine g_aload_n h dX12_village_29 rfl ?_
      refine g_iconst h dX12_village_30 ?_
      refine g_callV h rfl (ci := 12) [_] (by assumption) (c_X12_refused _ _ _ (MS_of rfl rfl hM)) clX12_274 (by decide) rfl in_X12_refused se_X12_refused rfl rfl (by rw [hRm]; first | decide | (simp only [clS]; omega)) (by rw [hRm]; first | decide | (simp only [clS]; omega)) (fun _ => Nat.le_of_ble_eq_true rfl) (by rw [hRm]; first | decide | (simp only [clS]; omega)) (by rw [hRm]; first | decide | (simp only [clS]; omega)) dX12_village_31 (fun r31 w31 hp31 => ?_)
      obtain ⟨rfl, hw31⟩ := hp31
      rw [hw31]
      refine g_iret h hQ (by first | decide | omega | (simp only [clS]; omega)) (by first | decide | omega | (simp only [clS]; omega)) ?_ dX12_village_34
      first
      | (exfalso; omega)
      | (refine ⟨?_, ?_⟩ <;> (repeat first | rw [if_pos (by omega)] | rw [if_neg (by omega)]) <;> first | rfl | (refine congrArg (fun z => some (ai z)) ?_; omega))
  · refine g_aload_n h dX12_village_12 rfl ?_
    refine g_iconst h dX12_village_13 ?_
    refine g_callV h rfl (ci := 12) [_] (by assumption) (c_X12_refused _ _ _ (MS_of rfl rfl hM)) clX12_274 (by decide) rfl in_X12_refused se_X12_refused rfl rfl (by rw [hRm]; first | decide | (simp only [clS]; omega)) (by rw [hRm]; first | decide | (simp only [clS]; omega)) (fun _ => Nat.le_of_ble_eq_true rfl) (by rw [hRm]; first | decide | (simp only [clS]; omega)) (by rw [hRm]; first | decide | (simp only [clS]; omega)) dX12_village_14 (fun r14 w14 hp14 => ?_)
    obtain ⟨rfl, hw14⟩ := hp14
    rw [hw14]
    refine g_iret h hQ (by first | decide | omega | (simp only [clS]; omega)) (by first | decide | omega | (simp only [clS]; omega)) ?_ dX12_village_17
    first
    | (exfalso; omega)
    | (refine ⟨?_, ?_⟩ <;> (repeat first | rw [if_pos (by omega)] | rw [if_neg (by omega)]) <;> first | rfl | (refine congrArg (fun z => some (ai z)) ?_; omega))
/-- what a run-out left: the order of cells, the speed then -/
def MO2 (w : AW) : Prop := w.2.1 400 71 = 1 → (1 ≤ w.2.1 400 70 ∧ w.2.1 400 70 ≤ 50) ∧ ∀ c, c < 400 → -1 ≤ w.2.1 473 c ∧ w.2.1 473 c ≤ 399
def arM (w : AW) (c : Nat) : Int := if w.2.1 473 c = -1 then -2 else w.2.1 473 c / w.2.1 400 70
set_option maxRecDepth 100000 in
set_option maxHeartbeats 4000000 in
theorem c_X12_arrives (l : Launch) (w : AW) (c : Int) (hM : MS w) (hL : ML w) (hO : MO2 w) (hc : R32 c) : HT l yX12_arrives cX12_arrives 2 (some .int) 2 0 0 w [ar 400, ai c] (fun r w' => r = some (ai (if w.2.1 400 71 = 1 ∧ 0 ≤ c ∧ c < 400 then arM w c.toNat else -1)) ∧ w' = (th w)) := by
  refine HT.of (by decide) (by intro v hv; simp only [List.mem_cons, List.not_mem_nil, or_false] at hv; rcases hv with rfl | rfl <;> rfl) (Nat.le_of_ble_eq_true rfl) ?_
  intro Γ h hQ hRm hnm hl hw0
  have s400 : w.1 400 = (112, 0) := hM.1 400 (by decide) (by decide)
  have s473 : w.1 473 = (1, 400) := hM.1 473 (by decide) (by decide)
  have p73 : w.2.2 400 73 = some 473 := hM.2 (400, 73, 473) (by decide)
  have h71 := hL.2.2.2.2
  have e71 : (upI w 400 0 0).2.1 400 71 = w.2.1 400 71 := rfl
  have e70 : (upI w 400 0 0).2.1 400 70 = w.2.1 400 70 := rfl
  have e73 : (upI w 400 0 0).2.1 473 c.toNat = w.2.1 473 c.toNat := rfl
  have hO1 := fun (q : w.2.1 400 71 = 1) => (hO q).1
  have hO2 := fun (q : w.2.1 400 71 = 1 ∧ 0 ≤ c ∧ c < 400) => (hO q.1).2 c.toNat (by omega)
  refine g_aload_n h dX12_arrives_0 rfl ?_
  refine g_iconst h dX12_arrives_1 ?_
  refine g_putI h flX12_1 rfl rfl (by assumption) dX12_arrives_2 ?_
  refine g_aload_n h dX12_arrives_5 rfl ?_
  refine g_getI h flX12_518 rfl (by assumption) dX12_arrives_6 ?_
  rw [e71]
  refine g_if_eq (tgt := 19) h dX12_arrives_9 (by decide) (by first | assumption | exact ⟨by omega, by omega⟩) (fun c9 => ?_) (fun c9 => ?_)
  · refine g_iconst h dX12_arrives_19 ?_
    refine g_iret h hQ (by first | decide | omega | (simp only [clS]; omega)) (by first | decide | omega | (simp only [clS]; omega)) ?_ dX12_arrives_20
    first
    | (exfalso; omega)
    | (refine ⟨?_, rfl⟩
       first | rw [if_pos (by omega)] | rw [if_neg (by omega)]
       (try (unfold arM; first | rw [if_pos (by omega)] | rw [if_neg (by omega)]))
       (try rfl))
  · refine g_iload_n h dX12_arrives_12 rfl ?_
    refine g_callS h rfl [_] (c_X12_isCell _ _ c hc) clX12_477 st_X12_isCell rfl rfl (by rw [hRm]; first | decide | (simp only [clS]; omega)) (by rw [hRm]; first | decide | (simp only [clS]; omega)) (fun _ => Nat.le_of_ble_eq_true rfl) (by rw [hRm]; first | decide | (simp only [clS]; omega)) (by rw [hRm]; first | decide | (simp only [clS]; omega)) dX12_arrives_13 (fun r13 w13 hp13 => ?_)
    obtain ⟨rfl, hw13⟩ := hp13
    rw [hw13]
    have hbw13 := ite01 (0 ≤ c ∧ c < 400)
    refine g_if_ne (tgt := 21) h dX12_arrives_16 (by decide) (by first | assumption | exact ⟨by omega, by omega⟩) (fun c16 => ?_) (fun c16 => ?_)
    · have hq1 := hO1 (by omega)
      have hq2 := hO2 ⟨by omega, by omega⟩
      refine g_aload_n h dX12_arrives_21 rfl ?_
      refine g_getQ h flX12_167 rfl (by assumption) (by assumption) dX12_arrives_22 ?_
      refine g_iload_n h dX12_arrives_25 rfl ?_
      refine g_iald h (c.toNat) (by assumption) (by first | omega | assumption) (by first | omega | assumption) (by first | decide | omega) dX12_arrives_26 ?_
      refine g_iconst h dX12_arrives_27 ?_
      refine g_icmp_ne (tgt := 36) h dX12_arrives_28 (by decide) (by first | assumption | exact ⟨by omega, by omega⟩) (by first | assumption | exact ⟨by omega, by omega⟩) (fun c28 => ?_) (fun c28 => ?_)
      · refine g_aload_n h dX12_arrives_36 rfl ?_
        refine g_getQ h flX12_167 rfl (by assumption) (by assumption) dX12_arrives_37 ?_
        refine g_iload_n h dX12_arrives_40 rfl ?_
        refine g_iald h (c.toNat) (by assumption) (by first | omega | assumption) (by first | omega | assumption) (by first | decide | omega) dX12_arrives_41 ?_
        refine g_aload_n h dX12_arrives_42 rfl ?_
        refine g_getI h flX12_522 rfl (by assumption) dX12_arrives_43 ?_
        refine g_idiv h (by first | assumption | exact ⟨by omega, by omega⟩) (by first | assumption | exact ⟨by omega, by omega⟩) (by first | omega | assumption) (by first | omega | assumption) dX12_arrives_46 ?_
        refine g_iret h hQ (by first | decide | omega | (simp only [clS]; omega)) (by first | decide | omega | (simp only [clS]; omega)) ?_ dX12_arrives_47
        first
        | (exfalso; omega)
        | (refine ⟨?_, rfl⟩
           first | rw [if_pos (by omega)] | rw [if_neg (by omega)]
           (try (unfold arM; first | rw [if_pos (by omega)] | rw [if_neg (by omega)]))
           (try rfl))
      · refine g_bipush h dX12_arrives_31 rfl ?_
        refine g_goto (tgt := 47) h dX12_arrives_33 (by decide) ?_
        refine g_iret h hQ (by first | decide | omega | (simp only [clS]; omega)) (by first | decide | omega | (simp only [clS]; omega)) ?_ dX12_arrives_47
        first
        | (exfalso; omega)
        | (refine ⟨?_, rfl⟩
           first | rw [if_pos (by omega)] | rw [if_neg (by omega)]
           (try (unfold arM; first | rw [if_pos (by omega)] | rw [if_neg (by omega)]))
           (try rfl))
    · refine g_iconst h dX12_arrives_19 ?_
      refine g_iret h hQ (by first | decide | omega | (simp only [clS]; omega)) (by first | decide | omega | (simp only [clS]; omega)) ?_ dX12_arrives_20
      first
      | (exfalso; omega)
      | (refine ⟨?_, rfl⟩
         first | rw [if_pos (by omega)] | rw [if_neg (by omega)]
         (try (unfold arM; first | rw [if_pos (by omega)] | rw [if_neg (by omega)]))
         (try rfl))
def bsM (c s : Int) : Int := if s = 0 then c - 20 else if s = 1 then (if c % 20 = 19 then -1 else c + 1) else if s = 2 then (if c + 20 < 400 then c + 20 else -1) else (if c % 20 = 0 then -1 else c - 1)
theorem bsM_bd {c s : Int} (hc : 0 ≤ c ∧ c < 400) : -20 ≤ bsM c s ∧ bsM c s < 400 := by
  unfold bsM
  split
  · omega
  · split
    · split <;> omega
    · split
      · split <;> omega
      · split <;> omega
set_option maxRecDepth 100000 in
set_option maxHeartbeats 4000000 in
theorem c_X12_beside (l : Launch) (w : AW) (c s : Int) (hc : 0 ≤ c ∧ c < 400) (hs : R32 s) : HT l yX12_beside cX12_beside 3 (some .int) 1 0 0 w [ai c, ai s] (rI (bsM c s) w) := by
  refine HT.of (by decide) (by intro v hv; simp only [List.mem_cons, List.not_mem_nil, or_false] at hv; rcases hv with rfl | rfl <;> rfl) (Nat.le_of_ble_eq_true rfl) ?_
  intro Γ h hQ hRm hnm hl hw0
  have hm : 0 ≤ c % 20 ∧ c % 20 < 20 := ⟨by omega, by omega⟩
  refine g_iload_n h dX12_beside_0 rfl ?_
  refine g_bipush h dX12_beside_1 rfl ?_
  refine g_irem h (by first | assumption | exact ⟨by omega, by omega⟩) (by first | assumption | exact ⟨by omega, by omega⟩) (by first | omega | assumption) (by first | omega | assumption) dX12_beside_3 ?_
  refine g_istore_n h dX12_beside_4 (Nat.le_of_ble_eq_true rfl) rfl rfl ?_
  refine g_iload_n h dX12_beside_5 rfl ?_
  rcases (show s = 0 ∨ s = 1 ∨ s = 2 ∨ (s < 0 ∨ 2 < s) by omega) with c6 | c6 | c6 | c6
  · refine g_tswI (tgt := 32) h 0 (by first | assumption | exact ⟨by omega, by omega⟩) (by first | omega | assumption) (by first | omega | assumption) rfl (by decide) dX12_beside_6 ?_
    refine g_iload_n h dX12_beside_32 rfl ?_
    refine g_bipush h dX12_beside_33 rfl ?_
    refine g_isub h dX12_beside_35 ?_
    refine g_iret h hQ (by first | decide | omega | (simp only [clS]; omega)) (by first | decide | omega | (simp only [clS]; omega)) ?_ dX12_beside_36
    refine ⟨congrArg (fun z => some (ai z)) ?_, rfl⟩
    unfold bsM
    (repeat first | rw [if_pos (by omega)] | rw [if_neg (by omega)])
  · refine g_tswI (tgt := 37) h 1 (by first | assumption | exact ⟨by omega, by omega⟩) (by first | omega | assumption) (by first | omega | assumption) rfl (by decide) dX12_beside_6 ?_
    refine g_iload_n h dX12_beside_37 rfl ?_
    refine g_bipush h dX12_beside_38 rfl ?_
    refine g_icmp_ne (tgt := 47) h dX12_beside_40 (by decide) (by first | assumption | exact ⟨by omega, by omega⟩) (by first | assumption | exact ⟨by omega, by omega⟩) (fun c40 => ?_) (fun c40 => ?_)
    · refine g_iload_n h dX12_beside_47 rfl ?_
      refine g_iconst h dX12_beside_48 ?_
      refine g_iadd h dX12_beside_49 ?_
      refine g_iret h hQ (by first | decide | omega | (simp only [clS]; omega)) (by first | decide | omega | (simp only [clS]; omega)) ?_ dX12_beside_50
      refine ⟨congrArg (fun z => some (ai z)) ?_, rfl⟩
      unfold bsM
      (repeat first | rw [if_pos (by omega)] | rw [if_neg (by omega)])
    · refine g_iconst h dX12_beside_43 ?_
      refine g_goto (tgt := 50) h dX12_beside_44 (by decide) ?_
      refine g_iret h hQ (by first | decide | omega | (simp only [clS]; omega)) (by first | decide | omega | (simp only [clS]; omega)) ?_ dX12_beside_50
      refine ⟨congrArg (fun z => some (ai z)) ?_, rfl⟩
      unfold bsM
      (repeat first | rw [if_pos (by omega)] | rw [if_neg (by omega)])
  · refine g_tswI (tgt := 51) h 2 (by first | assumption | exact ⟨by omega, by omega⟩) (by first | omega | assumption) (by first | omega | assumption) rfl (by decide) dX12_beside_6 ?_
    refine g_iload_n h dX12_beside_51 rfl ?_
    refine g_bipush h dX12_beside_52 rfl ?_
    refine g_iadd h dX12_beside_54 ?_
    refine g_sipush h dX12_beside_55 rfl ?_
    refine g_icmp_ge (tgt := 68) h dX12_beside_58 (by decide) (by first | assumption | exact ⟨by omega, by omega⟩) (by first | assumption | exact ⟨by omega, by omega⟩) (fun c58 => ?_) (fun c58 => ?_)
    · refine g_iconst h dX12_beside_68 ?_
      refine g_iret h hQ (by first | decide | omega | (simp only [clS]; omega)) (by first | decide | omega | (simp only [clS]; omega)) ?_ dX12_beside_69
      refine ⟨congrArg (fun z => some (ai z)) ?_, rfl⟩
      unfold bsM
      (repeat first | rw [if_pos (by omega)] | rw [if_neg (by omega)])
    · refine g_iload_n h dX12_beside_61 rfl ?_
      refine g_bipush h dX12_beside_62 rfl ?_
      refine g_iadd h dX12_beside_64 ?_
      refine g_goto (tgt := 69) h dX12_beside_65 (by decide) ?_
      refine g_iret h hQ (by first | decide | omega | (simp only [clS]; omega)) (by first | decide | omega | (simp only [clS]; omega)) ?_ dX12_beside_69
      refine ⟨congrArg (fun z => some (ai z)) ?_, rfl⟩
      unfold bsM
      (repeat first | rw [if_pos (by omega)] | rw [if_neg (by omega)])
  · refine g_tswO (tgt := 70) h (by first | assumption | exact ⟨by omega, by omega⟩) c6 (by decide) dX12_beside_6 ?_
    refine g_iload_n h dX12_beside_70 rfl ?_
    refine g_if_ne (tgt := 78) h dX12_beside_71 (by decide) (by first | assumption | exact ⟨by omega, by omega⟩) (fun c71 => ?_) (fun c71 => ?_)
    · refine g_iload_n h dX12_beside_78 rfl ?_
      refine g_iconst h dX12_beside_79 ?_
      refine g_isub h dX12_beside_80 ?_
      refine g_iret h hQ (by first | decide | omega | (simp only [clS]; omega)) (by first | decide | omega | (simp only [clS]; omega)) ?_ dX12_beside_81
      refine ⟨congrArg (fun z => some (ai z)) ?_, rfl⟩
      unfold bsM
      (repeat first | rw [if_pos (by omega)] | rw [if_neg (by omega)])
    · refine g_iconst h dX12_beside_74 ?_
      refine g_goto (tgt := 81) h dX12_beside_75 (by decide) ?_
      refine g_iret h hQ (by first | decide | omega | (simp only [clS]; omega)) (by first | decide | omega | (simp only [clS]; omega)) ?_ dX12_beside_81
      refine ⟨congrArg (fun z => some (ai z)) ?_, rfl⟩
      unfold bsM
      (repeat first | rw [if_pos (by omega)] | rw [if_neg (by omega)])
/-- whether a cell beside c is reached, by the first sides -/
def adjM (o : Nat → Int) (c : Int) : Nat → Int
  | 0 => 0
  | s + 1 => if adjM o c s ≠ 0 then 1 else if 0 ≤ bsM c (s : Int) ∧ o (bsM c (s : Int)).toNat ≠ -1 then 1 else 0
theorem adjM_01 (o : Nat → Int) (c : Int) : ∀ s, adjM o c s = 0 ∨ adjM o c s = 1
  | 0 => Or.inl rfl
  | s + 1 => by
    unfold adjM
    split
    · exact Or.inr rfl
    · split
      · exact Or.inr rfl
      · exact Or.inl rfl
/-- the lowest of the first cells that lie beside one reached; -1 for none -/
def lbF (o h : Nat → Int) (most : Int) : Nat → Int
  | 0 => -1
  | c + 1 => if o c ≠ -1 ∨ most < h c ∨ (lbF o h most c ≠ -1 ∧ h (lbF o h most c).toNat ≤ h c) then lbF o h most c else if adjM o (c : Int) 4 = 0 then lbF o h most c else (c : Int)
theorem lbF_bd (o h : Nat → Int) (most : Int) : ∀ c, -1 ≤ lbF o h most c ∧ lbF o h most c < (c : Int)
  | 0 => by show -1 ≤ (-1 : Int) ∧ (-1 : Int) < ((0 : Nat) : Int); omega
  | c + 1 => by
    have := lbF_bd o h most c
    unfold lbF
    split
    · omega
    · split <;> omega
theorem lbF_o (o h : Nat → Int) (most : Int) : ∀ c, lbF o h most c = -1 ∨ o (lbF o h most c).toNat = -1
  | 0 => Or.inl rfl
  | c + 1 => by
    have := lbF_o o h most c
    unfold lbF
    split
    · exact this
    · rename_i q
      split
      · exact this
      · exact Or.inr (by rw [Int.toNat_natCast]; exact Decidable.byContradiction fun r => q (Or.inl r))
set_option maxRecDepth 100000 in
set_option maxHeartbeats 4000000 in
theorem c_X12_lowestBeside (l : Launch) (w : AW) (most : Int) (hM : MS w) (hh : ∀ c, c < 400 → 0 ≤ w.2.1 472 c ∧ w.2.1 472 c ≤ 999) (ho : ∀ c, c < 400 → -1 ≤ w.2.1 473 c ∧ w.2.1 473 c ≤ 400) (hmo : R32 most) : HT l yX12_lowestBeside cX12_lowestBeside 7 (some .int) 2 0 0 w [ar 400, ai most] (rI (lbF (w.2.1 473) (w.2.1 472) most 400) w) := by
  refine HT.of (by decide) (by intro v hv; simp only [List.mem_cons, List.not_mem_nil, or_false] at hv; rcases hv with rfl | rfl <;> rfl) (Nat.le_of_ble_eq_true rfl) ?_
  intro Γ h hQ hRm hnm hl hw0
  have s400 : w.1 400 = (112, 0) := hM.1 400 (by decide) (by decide)
  have s473 : w.1 473 = (1, 400) := hM.1 473 (by decide) (by decide)
  have s472 : w.1 472 = (1, 400) := hM.1 472 (by decide) (by decide)
  have p73 : w.2.2 400 73 = some 473 := hM.2 (400, 73, 473) (by decide)
  have p72 : w.2.2 400 72 = some 472 := hM.2 (400, 72, 472) (by decide)
  have loop : ∀ (d c : Nat) (x y z : Option AV), c + d = 400 → GG Γ 4 [some (ar 400), some (ai most), some (ai (lbF (w.2.1 473) (w.2.1 472) most c)), some (ai (c : Int)), x, y, z] [] w 0 0 := by
    intro d
    induction d with
    | zero =>
      intro c x y z hc
      obtain rfl : c = 400 := by omega
      have hlb := lbF_bd (w.2.1 473) (w.2.1 472) most 400
      refine g_iload_n h dX12_lowestBeside_4 rfl ?_
      refine g_sipush h dX12_lowestBeside_5 rfl ?_
      refine g_icmp_ge (tgt := 121) h dX12_lowestBeside_8 (by decide) (by first | assumption | exact ⟨by omega, by omega⟩) (by first | assumption | exact ⟨by omega, by omega⟩) (fun c8 => ?_) (fun c8 => ?_)
      · refine g_iload_n h dX12_lowestBeside_121 rfl ?_
        refine g_iret h hQ (by first | decide | omega | (simp only [clS]; omega)) (by first | decide | omega | (simp only [clS]; omega)) ?_ dX12_lowestBeside_122
        exact ⟨rfl, rfl⟩
      · exfalso; omega
    | succ d ih =>
      intro c x y z hc
      have hlb := lbF_bd (w.2.1 473) (w.2.1 472) most c
      have hhc := hh c (by omega)
      have hoc := ho c (by omega)
      have hhl := fun (q : lbF (w.2.1 473) (w.2.1 472) most c ≠ -1) => hh (lbF (w.2.1 473) (w.2.1 472) most c).toNat (by omega)
      have ih2 := fun x y z => ih (c + 1) x y z (by omega)
      have hst : lbF (w.2.1 473) (w.2.1 472) most (c + 1) = if w.2.1 473 c ≠ -1 ∨ most < w.2.1 472 c ∨ (lbF (w.2.1 473) (w.2.1 472) most c ≠ -1 ∧ w.2.1 472 (lbF (w.2.1 473) (w.2.1 472) most c).toNat ≤ w.2.1 472 c) then lbF (w.2.1 473) (w.2.1 472) most c else if adjM (w.2.1 473) (c : Int) 4 = 0 then lbF (w.2.1 473) (w.2.1 472) most c else (c : Int) := rfl
      rw [hst] at ih2
      generalize lbF (w.2.1 473) (w.2.1 472) most c = best at hlb hhl ih2 ⊢
      have inner : ¬ (w.2.1 473 c ≠ -1 ∨ most < w.2.1 472 c ∨ (best ≠ -1 ∧ w.2.1 472 best.toNat ≤ w.2.1 472 c)) → ∀ (e s : Nat) (z : Option AV), s + e = 4 → GG Γ 60 [some (ar 400), some (ai most), some (ai best), some (ai (c : Int)), some (ai (adjM (w.2.1 473) (c : Int) s)), some (ai (s : Int)), z] [] w 0 0 := by
        intro hneg e
        induction e with
        | zero =>
          intro s z hs
          obtain rfl : s = 4 := by omega
          have h01 := adjM_01 (w.2.1 473) (c : Int) 4
          rw [if_neg hneg] at ih2
          refine g_iload h dX12_lowestBeside_60 rfl ?_
          refine g_iconst h dX12_lowestBeside_62 ?_
          refine g_icmp_ge (tgt := 108) h dX12_lowestBeside_63 (by decide) (by first | assumption | exact ⟨by omega, by omega⟩) (by first | assumption | exact ⟨by omega, by omega⟩) (fun c63 => ?_) (fun c63 => ?_)
          · refine g_iload h dX12_lowestBeside_108 rfl ?_
            refine g_if_eq (tgt := 115) h dX12_lowestBeside_110 (by decide) (by first | assumption | exact ⟨by omega, by omega⟩) (fun c110 => ?_) (fun c110 => ?_)
            · refine g_iinc h dX12_lowestBeside_115 rfl (Nat.le_of_ble_eq_true rfl) rfl rfl ?_
              refine g_goto (tgt := 4) h dX12_lowestBeside_118 (by decide) ?_
              first
              | (exfalso; omega)
              | (have h4 := ih2 (some (ai (adjM (w.2.1 473) (c : Int) 4))) (some (ai ((4 : Nat) : Int))) z
                 rw [if_pos (by omega)] at h4
                 exact h4)
              | (have h4 := ih2 (some (ai (adjM (w.2.1 473) (c : Int) 4))) (some (ai ((4 : Nat) : Int))) z
                 rw [if_neg (by omega)] at h4
                 exact h4)
            · refine g_iload_n h dX12_lowestBeside_113 rfl ?_
              refine g_istore_n h dX12_lowestBeside_114 (Nat.le_of_ble_eq_true rfl) rfl rfl ?_
              refine g_iinc h dX12_lowestBeside_115 rfl (Nat.le_of_ble_eq_true rfl) rfl rfl ?_
              refine g_goto (tgt := 4) h dX12_lowestBeside_118 (by decide) ?_
              first
              | (exfalso; omega)
              | (have h4 := ih2 (some (ai (adjM (w.2.1 473) (c : Int) 4))) (some (ai ((4 : Nat) : Int))) z
                 rw [if_pos (by omega)] at h4
                 exact h4)
              | (have h4 := ih2 (some (ai (adjM (w.2.1 473) (c : Int) 4))) (some (ai ((4 : Nat) : Int))) z
                 rw [if_neg (by omega)] at h4
                 exact h4)
          · exfalso; omega
        | succ e ihe =>
          intro s z hs
          have h01 := adjM_01 (w.2.1 473) (c : Int) s
          have hbb := bsM_bd (c := (c : Int)) (s := (s : Int)) ⟨by omega, by omega⟩
          have hob := fun (q : 0 ≤ bsM (c : Int) (s : Int)) => ho (bsM (c : Int) (s : Int)).toNat (by omega)
          have ihe2 := fun z => ihe (s + 1) z (by omega)
          have hst2 : adjM (w.2.1 473) (c : Int) (s + 1) = if adjM (w.2.1 473) (c : Int) s ≠ 0 then 1 else if 0 ≤ bsM (c : Int) (s : Int) ∧ w.2.1 473 (bsM (c : Int) (s : Int)).toNat ≠ -1 then 1 else 0 := rfl
          rw [hst2] at ihe2
          refine g_iload h dX12_lowestBeside_60 rfl ?_
          refine g_iconst h dX12_lowestBeside_62 ?_
          refine g_icmp_ge (tgt := 108) h dX12_lowestBeside_63 (by decide) (by first | assumption | exact ⟨by omega, by omega⟩) (by first | assumption | exact ⟨by omega, by omega⟩) (fun c63 => ?_) (fun c63 => ?_)
          · exfalso; omega
          · refine g_iload_n h dX12_lowestBeside_66 rfl ?_
            refine g_iload h dX12_lowestBeside_67 rfl ?_
            refine g_callS h rfl [_, _] (c_X12_beside _ _ _ _ ⟨by omega, by omega⟩ ⟨by omega, by omega⟩) clX12_515 st_X12_beside rfl rfl (by rw [hRm]; first | decide | (simp only [clS]; omega)) (by rw [hRm]; first | decide | (simp only [clS]; omega)) (fun _ => Nat.le_of_ble_eq_true rfl) (by rw [hRm]; first | decide | (simp only [clS]; omega)) (by rw [hRm]; first | decide | (simp only [clS]; omega)) dX12_lowestBeside_69 (fun r69 w69 hp69 => ?_)
            obtain ⟨rfl, hw69⟩ := hp69
            rw [hw69]
            refine g_istore h dX12_lowestBeside_72 (Nat.le_of_ble_eq_true rfl) rfl rfl ?_
            refine g_iload h dX12_lowestBeside_74 rfl ?_
            refine g_if_ne (tgt := 95) h dX12_lowestBeside_76 (by decide) (by first | assumption | exact ⟨by omega, by omega⟩) (fun c76 => ?_) (fun c76 => ?_)
            · refine g_iconst h dX12_lowestBeside_95 ?_
              refine g_goto (tgt := 100) h dX12_lowestBeside_96 (by decide) ?_
              refine g_istore h dX12_lowestBeside_100 (Nat.le_of_ble_eq_true rfl) rfl rfl ?_
              refine g_iinc h dX12_lowestBeside_102 rfl (Nat.le_of_ble_eq_true rfl) rfl rfl ?_
              refine g_goto (tgt := 60) h dX12_lowestBeside_105 (by decide) ?_
              have h4 := ihe2 (some (ai (bsM (c : Int) (s : Int))))
              first
              | (rw [if_pos (by omega)] at h4; exact h4)
              | (rw [if_neg (by omega), if_pos ⟨by omega, by omega⟩] at h4; exact h4)
              | (rw [if_neg (by omega), if_neg (by omega)] at h4; exact h4)
            · refine g_iload h dX12_lowestBeside_79 rfl ?_
              refine g_if_lt (tgt := 99) h dX12_lowestBeside_81 (by decide) (by first | assumption | exact ⟨by omega, by omega⟩) (fun c81 => ?_) (fun c81 => ?_)
              · refine g_iconst h dX12_lowestBeside_99 ?_
                refine g_istore h dX12_lowestBeside_100 (Nat.le_of_ble_eq_true rfl) rfl rfl ?_
                refine g_iinc h dX12_lowestBeside_102 rfl (Nat.le_of_ble_eq_true rfl) rfl rfl ?_
                refine g_goto (tgt := 60) h dX12_lowestBeside_105 (by decide) ?_
                have h4 := ihe2 (some (ai (bsM (c : Int) (s : Int))))
                first
                | (rw [if_pos (by omega)] at h4; exact h4)
                | (rw [if_neg (by omega), if_pos ⟨by omega, by omega⟩] at h4; exact h4)
                | (rw [if_neg (by omega), if_neg (by omega)] at h4; exact h4)
              · have hob2 := hob (by omega)
                refine g_aload_n h dX12_lowestBeside_84 rfl ?_
                refine g_getQ h flX12_167 rfl (by assumption) (by assumption) dX12_lowestBeside_85 ?_
                refine g_iload h dX12_lowestBeside_88 rfl ?_
                refine g_iald h ((bsM (c : Int) (s : Int)).toNat) (by assumption) (by first | omega | assumption) (by first | omega | assumption) (by first | decide | omega) dX12_lowestBeside_90 ?_
                refine g_iconst h dX12_lowestBeside_91 ?_
                refine g_icmp_eq (tgt := 99) h dX12_lowestBeside_92 (by decide) (by first | assumption | exact ⟨by omega, by omega⟩) (by first | assumption | exact ⟨by omega, by omega⟩) (fun c92 => ?_) (fun c92 => ?_)
                · refine g_iconst h dX12_lowestBeside_99 ?_
                  refine g_istore h dX12_lowestBeside_100 (Nat.le_of_ble_eq_true rfl) rfl rfl ?_
                  refine g_iinc h dX12_lowestBeside_102 rfl (Nat.le_of_ble_eq_true rfl) rfl rfl ?_
                  refine g_goto (tgt := 60) h dX12_lowestBeside_105 (by decide) ?_
                  have h4 := ihe2 (some (ai (bsM (c : Int) (s : Int))))
                  first
                  | (rw [if_pos (by omega)] at h4; exact h4)
                  | (rw [if_neg (by omega), if_pos ⟨by omega, by omega⟩] at h4; exact h4)
                  | (rw [if_neg (by omega), if_neg (by omega)] at h4; exact h4)
                · refine g_iconst h dX12_lowestBeside_95 ?_
                  refine g_goto (tgt := 100) h dX12_lowestBeside_96 (by decide) ?_
                  refine g_istore h dX12_lowestBeside_100 (Nat.le_of_ble_eq_true rfl) rfl rfl ?_
                  refine g_iinc h dX12_lowestBeside_102 rfl (Nat.le_of_ble_eq_true rfl) rfl rfl ?_
                  refine g_goto (tgt := 60) h dX12_lowestBeside_105 (by decide) ?_
                  have h4 := ihe2 (some (ai (bsM (c : Int) (s : Int))))
                  first
                  | (rw [if_pos (by omega)] at h4; exact h4)
                  | (rw [if_neg (by omega), if_pos ⟨by omega, by omega⟩] at h4; exact h4)
                  | (rw [if_neg (by omega), if_neg (by omega)] at h4; exact h4)
      refine g_iload_n h dX12_lowestBeside_4 rfl ?_
      refine g_sipush h dX12_lowestBeside_5 rfl ?_
      refine g_icmp_ge (tgt := 121) h dX12_lowestBeside_8 (by decide) (by first | assumption | exact ⟨by omega, by omega⟩) (by first | assumption | exact ⟨by omega, by omega⟩) (fun c8 => ?_) (fun c8 => ?_)
      · exfalso; omega
      · refine g_aload_n h dX12_lowestBeside_11 rfl ?_
        refine g_getQ h flX12_167 rfl (by assumption) (by assumption) dX12_lowestBeside_12 ?_
        refine g_iload_n h dX12_lowestBeside_15 rfl ?_
        refine g_iald h _ (by assumption) rfl (by first | omega | assumption) (by first | decide | omega) dX12_lowestBeside_16 ?_
        refine g_iconst h dX12_lowestBeside_17 ?_
        refine g_icmp_ne (tgt := 115) h dX12_lowestBeside_18 (by decide) (by first | assumption | exact ⟨by omega, by omega⟩) (by first | assumption | exact ⟨by omega, by omega⟩) (fun c18 => ?_) (fun c18 => ?_)
        · refine g_iinc h dX12_lowestBeside_115 rfl (Nat.le_of_ble_eq_true rfl) rfl rfl ?_
          refine g_goto (tgt := 4) h dX12_lowestBeside_118 (by decide) ?_
          first
          | (exfalso; omega)
          | (have h4 := ih2 x y z
             rw [if_pos (by omega)] at h4
             exact h4)
        · refine g_aload_n h dX12_lowestBeside_21 rfl ?_
          refine g_getQ h flX12_164 rfl (by assumption) (by assumption) dX12_lowestBeside_22 ?_
          refine g_iload_n h dX12_lowestBeside_25 rfl ?_
          refine g_iald h _ (by assumption) rfl (by first | omega | assumption) (by first | decide | omega) dX12_lowestBeside_26 ?_
          refine g_iload_n h dX12_lowestBeside_27 rfl ?_
          refine g_icmp_gt (tgt := 115) h dX12_lowestBeside_28 (by decide) (by first | assumption | exact ⟨by omega, by omega⟩) (by first | assumption | exact ⟨by omega, by omega⟩) (fun c28 => ?_) (fun c28 => ?_)
          · refine g_iinc h dX12_lowestBeside_115 rfl (Nat.le_of_ble_eq_true rfl) rfl rfl ?_
            refine g_goto (tgt := 4) h dX12_lowestBeside_118 (by decide) ?_
            first
            | (exfalso; omega)
            | (have h4 := ih2 x y z
               rw [if_pos (by omega)] at h4
               exact h4)
          · refine g_iload_n h dX12_lowestBeside_31 rfl ?_
            refine g_iconst h dX12_lowestBeside_32 ?_
            refine g_icmp_eq (tgt := 54) h dX12_lowestBeside_33 (by decide) (by first | assumption | exact ⟨by omega, by omega⟩) (by first | assumption | exact ⟨by omega, by omega⟩) (fun c33 => ?_) (fun c33 => ?_)
            · refine g_iconst h dX12_lowestBeside_54 ?_
              refine g_istore h dX12_lowestBeside_55 (Nat.le_of_ble_eq_true rfl) rfl rfl ?_
              refine g_iconst h dX12_lowestBeside_57 ?_
              refine g_istore h dX12_lowestBeside_58 (Nat.le_of_ble_eq_true rfl) rfl rfl ?_
              first
              | (exfalso; omega)
              | exact inner (by omega) 4 0 _ (by omega)
            · have hhl2 := hhl (by omega)
              refine g_aload_n h dX12_lowestBeside_36 rfl ?_
              refine g_getQ h flX12_164 rfl (by assumption) (by assumption) dX12_lowestBeside_37 ?_
              refine g_iload_n h dX12_lowestBeside_40 rfl ?_
              refine g_iald h _ (by assumption) rfl (by first | omega | assumption) (by first | decide | omega) dX12_lowestBeside_41 ?_
              refine g_aload_n h dX12_lowestBeside_42 rfl ?_
              refine g_getQ h flX12_164 rfl (by assumption) (by assumption) dX12_lowestBeside_43 ?_
              refine g_iload_n h dX12_lowestBeside_46 rfl ?_
              refine g_iald h (best.toNat) (by assumption) (by first | omega | assumption) (by first | omega | assumption) (by first | decide | omega) dX12_lowestBeside_47 ?_
              refine g_icmp_lt (tgt := 54) h dX12_lowestBeside_48 (by decide) (by first | assumption | exact ⟨by omega, by omega⟩) (by first | assumption | exact ⟨by omega, by omega⟩) (fun c48 => ?_) (fun c48 => ?_)
              · refine g_iconst h dX12_lowestBeside_54 ?_
                refine g_istore h dX12_lowestBeside_55 (Nat.le_of_ble_eq_true rfl) rfl rfl ?_
                refine g_iconst h dX12_lowestBeside_57 ?_
                refine g_istore h dX12_lowestBeside_58 (Nat.le_of_ble_eq_true rfl) rfl rfl ?_
                first
                | (exfalso; omega)
                | exact inner (by omega) 4 0 _ (by omega)
              · refine g_goto (tgt := 115) h dX12_lowestBeside_51 (by decide) ?_
                refine g_iinc h dX12_lowestBeside_115 rfl (Nat.le_of_ble_eq_true rfl) rfl rfl ?_
                refine g_goto (tgt := 4) h dX12_lowestBeside_118 (by decide) ?_
                first
                | (exfalso; omega)
                | (have h4 := ih2 x y z
                   rw [if_pos (by omega)] at h4
                   exact h4)
  refine g_iconst h dX12_lowestBeside_0 ?_
  refine g_istore_n h dX12_lowestBeside_1 (Nat.le_of_ble_eq_true rfl) rfl rfl ?_
  refine g_iconst h dX12_lowestBeside_2 ?_
  refine g_istore_n h dX12_lowestBeside_3 (Nat.le_of_ble_eq_true rfl) rfl rfl ?_
  exact loop 400 0 none none none (by omega)
