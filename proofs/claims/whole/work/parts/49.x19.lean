/-! ===== the class: numbers told ===== -/
def lakLo (a : Int) : Int := if a = 0 then 1 else if a = 3 then 2 else 0
def lakHi (a : Int) : Int := if a = 0 then 10000 else if a = 1 then 20000 else if a = 2 then 10000 else if a = 3 then 1000 else 399
def lanLo (a : Int) : Int := if a = 0 then 0 else 1
def lanHi (a : Int) : Int := if a = 0 then 200 else if a = 1 then 10000 else 50
theorem sta_0 {a : Int} (h : 0 ≤ a ∧ a < 5) : ([1, 0, 0, 2, 0] : List Int32).getD a.toNat 0 = Int32.ofInt (lakLo a) := by
  rcases (show a = 0 ∨ a = 1 ∨ a = 2 ∨ a = 3 ∨ a = 4 by omega) with rfl | rfl | rfl | rfl | rfl <;> decide
theorem sta_1 {a : Int} (h : 0 ≤ a ∧ a < 5) : ([10000, 20000, 10000, 1000, 399] : List Int32).getD a.toNat 0 = Int32.ofInt (lakHi a) := by
  rcases (show a = 0 ∨ a = 1 ∨ a = 2 ∨ a = 3 ∨ a = 4 by omega) with rfl | rfl | rfl | rfl | rfl <;> decide
theorem sta_2 {a : Int} (h : 0 ≤ a ∧ a < 3) : ([0, 1, 1] : List Int32).getD a.toNat 0 = Int32.ofInt (lanLo a) := by
  rcases (show a = 0 ∨ a = 1 ∨ a = 2 by omega) with rfl | rfl | rfl <;> decide
theorem sta_3 {a : Int} (h : 0 ≤ a ∧ a < 3) : ([200, 10000, 50] : List Int32).getD a.toNat 0 = Int32.ofInt (lanHi a) := by
  rcases (show a = 0 ∨ a = 1 ∨ a = 2 by omega) with rfl | rfl | rfl <;> decide
theorem lak_bd (a : Int) : 0 ≤ lakLo a ∧ lakLo a ≤ 2 ∧ 0 ≤ lakHi a ∧ lakHi a ≤ 20000 := by unfold lakLo lakHi; omega
theorem lan_bd (a : Int) : 0 ≤ lanLo a ∧ lanLo a ≤ 2 ∧ 0 ≤ lanHi a ∧ lanHi a ≤ 20000 := by unfold lanLo lanHi; omega
set_option maxRecDepth 100000 in
set_option maxHeartbeats 4000000 in
theorem c_X9_set (l : Launch) (w : AW) (n : Nat → Nat) (q : Nat → Nat → Nat) (S rn sn : Nat) (z a v : Int) (hW : WI w n q S rn sn) (hzr : R32 z) (har : R32 a) (hv : R32 v) : HT l yX9_set cX9_set 5 (some .boolean) 3 0 0 w [ar 0, ai z, ai a, ai v] (fun r w' => r = some (ai (if ¬ (0 ≤ z ∧ z < 2 ∧ 0 ≤ a ∧ a < 5) then 0 else if ¬ (lakLo a ≤ v ∧ v ≤ lakHi a) then 0 else 1)) ∧ w' = (if ¬ (0 ≤ z ∧ z < 2 ∧ 0 ≤ a ∧ a < 5) then upI w 0 16 1 else if ¬ (lakLo a ≤ v ∧ v ≤ lakHi a) then upI w 0 16 2 else upI (upI w (2 + z.toNat) (5 + a.toNat) v) 0 16 0)) := by
  refine HT.of (by decide) (by intro v hv; simp only [List.mem_cons, List.not_mem_nil, or_false] at hv; rcases hv with rfl | rfl | rfl | rfl <;> rfl) (Nat.le_of_ble_eq_true rfl) ?_
  intro Γ h hQ hRm hnm hl hw0
  obtain ⟨hX, hS, hLk, hSI, t0, t1⟩ := id hW
  have s0 : w.1 0 = (109, 0) := hX.1 0 (by decide)
  have hab := lak_bd a
  by_cases hz : 0 ≤ z ∧ z < 2
  · have hl := lkA_some hz
    have hLK := XS_LK hX z.toNat (by omega)
    have kL := hLK.2.1
    obtain ⟨hN, hP, hq5⟩ := hLk z.toNat (by omega)
    refine g_aload_n h dX9_set_0 rfl ?_
    refine g_iload_n h dX9_set_1 rfl ?_
    refine g_callV h rfl (ci := 9) [_] (by assumption) (c_X9_lakeAt _ _ _ hX hzr) clX9_66 (by decide) rfl in_X9_lakeAt se_X9_lakeAt rfl rfl (by rw [hRm]; first | decide | (simp only [clS]; omega)) (by rw [hRm]; first | decide | (simp only [clS]; omega)) (fun _ => Nat.le_of_ble_eq_true rfl) (by rw [hRm]; first | decide | (simp only [clS]; omega)) (by rw [hRm]; first | decide | (simp only [clS]; omega)) dX9_set_2 (fun r2 w2 hp2 => ?_)
    obtain ⟨rfl, hw2⟩ := hp2
    rw [hw2, hl]
    refine g_astore h dX9_set_5 (Nat.le_of_ble_eq_true rfl) rfl rfl ?_
    refine g_aload h dX9_set_7 rfl ?_
    refine g_ifnull (tgt := 32) h dX9_set_9 (by decide) (fun cnn => by cases cnn) (fun _ cnn => ?_)
    refine g_iload_n h dX9_set_12 rfl ?_
    refine g_if_lt (tgt := 32) h dX9_set_13 (by decide) (by first | assumption | exact ⟨by omega, by omega⟩) (fun c13 => ?_) (fun c13 => ?_)
    · refine g_aload_n h dX9_set_32 rfl ?_
      refine g_iconst h dX9_set_33 ?_
      refine g_callV h rfl (ci := 9) [_] (by assumption) (c_X9_denied _ _ _ hX) clX9_74 (by decide) rfl in_X9_denied se_X9_denied rfl rfl (by rw [hRm]; first | decide | (simp only [clS]; omega)) (by rw [hRm]; first | decide | (simp only [clS]; omega)) (fun _ => Nat.le_of_ble_eq_true rfl) (by rw [hRm]; first | decide | (simp only [clS]; omega)) (by rw [hRm]; first | decide | (simp only [clS]; omega)) dX9_set_34 (fun r34 w34 hp34 => ?_)
      obtain ⟨rfl, hw34⟩ := hp34
      rw [hw34]
      refine g_zret h hQ (by first | decide | omega | (simp only [clS]; omega)) (by first | decide | omega | (simp only [clS]; omega)) (by omega) ?_ dX9_set_37
      refine ⟨?_, ?_⟩
      all_goals (repeat first | rw [if_pos (by omega)] | rw [if_neg (by omega)])
      all_goals rfl
    · refine g_iload_n h dX9_set_16 rfl ?_
      refine g_gets h (i := 0) rfl gsX9_90 dX9_set_17 ?_
      refine g_alenX h 0 rfl (N := 5) rfl dX9_set_20 ?_
      refine g_icmp_ge (tgt := 32) h dX9_set_21 (by decide) (by first | assumption | exact ⟨by omega, by omega⟩) (by first | assumption | exact ⟨by omega, by omega⟩) (fun c21 => ?_) (fun c21 => ?_)
      · refine g_aload_n h dX9_set_32 rfl ?_
        refine g_iconst h dX9_set_33 ?_
        refine g_callV h rfl (ci := 9) [_] (by assumption) (c_X9_denied _ _ _ hX) clX9_74 (by decide) rfl in_X9_denied se_X9_denied rfl rfl (by rw [hRm]; first | decide | (simp only [clS]; omega)) (by rw [hRm]; first | decide | (simp only [clS]; omega)) (fun _ => Nat.le_of_ble_eq_true rfl) (by rw [hRm]; first | decide | (simp only [clS]; omega)) (by rw [hRm]; first | decide | (simp only [clS]; omega)) dX9_set_34 (fun r34 w34 hp34 => ?_)
        obtain ⟨rfl, hw34⟩ := hp34
        rw [hw34]
        refine g_zret h hQ (by first | decide | omega | (simp only [clS]; omega)) (by first | decide | omega | (simp only [clS]; omega)) (by omega) ?_ dX9_set_37
        refine ⟨?_, ?_⟩
        all_goals (repeat first | rw [if_pos (by omega)] | rw [if_neg (by omega)])
        all_goals rfl
      · refine g_iload_n h dX9_set_24 rfl ?_
        refine g_gets h (i := 1) rfl gsX9_93 dX9_set_25 ?_
        refine g_alenX h 1 rfl (N := 5) rfl dX9_set_28 ?_
        refine g_icmp_lt (tgt := 38) h dX9_set_29 (by decide) (by first | assumption | exact ⟨by omega, by omega⟩) (by first | assumption | exact ⟨by omega, by omega⟩) (fun c29 => ?_) (fun c29 => ?_)
        · refine g_iload_n h dX9_set_38 rfl ?_
          refine g_gets h (i := 0) rfl gsX9_90 dX9_set_39 ?_
          refine g_iload_n h dX9_set_42 rfl ?_
          refine g_ialdX h 0 rfl (v := _) (by omega) (show a < ((5 : Nat) : Int) by omega) (by decide) (sta_0 ⟨by omega, by omega⟩) dX9_set_43 ?_
          refine g_gets h (i := 1) rfl gsX9_93 dX9_set_44 ?_
          refine g_iload_n h dX9_set_47 rfl ?_
          refine g_ialdX h 1 rfl (v := _) (by omega) (show a < ((5 : Nat) : Int) by omega) (by decide) (sta_1 ⟨by omega, by omega⟩) dX9_set_48 ?_
          refine g_callS h rfl [_, _, _] (c_X9_isWithin _ _ _ _ _ hv ⟨by omega, by omega⟩ ⟨by omega, by omega⟩) clX9_78 st_X9_isWithin rfl rfl (by rw [hRm]; first | decide | (simp only [clS]; omega)) (by rw [hRm]; first | decide | (simp only [clS]; omega)) (fun _ => Nat.le_of_ble_eq_true rfl) (by rw [hRm]; first | decide | (simp only [clS]; omega)) (by rw [hRm]; first | decide | (simp only [clS]; omega)) dX9_set_49 (fun r49 w49 hp49 => ?_)
          obtain ⟨rfl, hw49⟩ := hp49
          rw [hw49]
          have hbw49 := ite01 (lakLo a ≤ v ∧ v ≤ lakHi a)
          refine g_if_ne (tgt := 61) h dX9_set_52 (by decide) (by first | assumption | exact ⟨by omega, by omega⟩) (fun c52 => ?_) (fun c52 => ?_)
          · obtain ⟨an, rfl⟩ : ∃ m : Nat, a = (m : Int) := ⟨a.toNat, by omega⟩
            refine g_aload h dX9_set_61 rfl ?_
            refine g_iload_n h dX9_set_63 rfl ?_
            refine g_iload_n h dX9_set_64 rfl ?_
            refine g_callV h rfl (ci := 2) [_, _] (by assumption) (c_X2_tellNumber _ _ z.toNat an v hLK (by omega)) clX9_96 (by decide) rfl in_X2_tellNumber se_X2_tellNumber rfl rfl (by rw [hRm]; first | decide | (simp only [clS]; omega)) (by rw [hRm]; first | decide | (simp only [clS]; omega)) (fun _ => Nat.le_of_ble_eq_true rfl) (by rw [hRm]; first | decide | (simp only [clS]; omega)) (by rw [hRm]; first | decide | (simp only [clS]; omega)) dX9_set_65 (fun r65 w65 hp65 => ?_)
            obtain ⟨rfl, hw65⟩ := hp65
            rw [hw65]
            have s0b : (upI w (2 + z.toNat) (5 + an) v).1 0 = (109, 0) := s0
            refine g_aload_n h dX9_set_68 rfl ?_
            refine g_callV h rfl (ci := 9) [] (by assumption) (c_X9_granted _ _ (XS_of rfl rfl hX)) clX9_86 (by decide) rfl in_X9_granted se_X9_granted rfl rfl (by rw [hRm]; first | decide | (simp only [clS]; omega)) (by rw [hRm]; first | decide | (simp only [clS]; omega)) (fun _ => Nat.le_of_ble_eq_true rfl) (by rw [hRm]; first | decide | (simp only [clS]; omega)) (by rw [hRm]; first | decide | (simp only [clS]; omega)) dX9_set_69 (fun r69 w69 hp69 => ?_)
            obtain ⟨rfl, hw69⟩ := hp69
            rw [hw69]
            refine g_zret h hQ (by first | decide | omega | (simp only [clS]; omega)) (by first | decide | omega | (simp only [clS]; omega)) (by omega) ?_ dX9_set_72
            refine ⟨?_, ?_⟩
            all_goals (repeat first | rw [if_pos (by omega)] | rw [if_neg (by omega)])
            all_goals rfl
          · refine g_aload_n h dX9_set_55 rfl ?_
            refine g_iconst h dX9_set_56 ?_
            refine g_callV h rfl (ci := 9) [_] (by assumption) (c_X9_denied _ _ _ hX) clX9_74 (by decide) rfl in_X9_denied se_X9_denied rfl rfl (by rw [hRm]; first | decide | (simp only [clS]; omega)) (by rw [hRm]; first | decide | (simp only [clS]; omega)) (fun _ => Nat.le_of_ble_eq_true rfl) (by rw [hRm]; first | decide | (simp only [clS]; omega)) (by rw [hRm]; first | decide | (simp only [clS]; omega)) dX9_set_57 (fun r57 w57 hp57 => ?_)
            obtain ⟨rfl, hw57⟩ := hp57
            rw [hw57]
            refine g_zret h hQ (by first | decide | omega | (simp only [clS]; omega)) (by first | decide | omega | (simp only [clS]; omega)) (by omega) ?_ dX9_set_60
            refine ⟨?_, ?_⟩
            all_goals (repeat first | rw [if_pos (by omega)] | rw [if_neg (by omega)])
            all_goals rfl
        · refine g_aload_n h dX9_set_32 rfl ?_
          refine g_iconst h dX9_set_33 ?_
          refine g_callV h rfl (ci := 9) [_] (by assumption) (c_X9_denied _ _ _ hX) clX9_74 (by decide) rfl in_X9_denied se_X9_denied rfl rfl (by rw [hRm]; first | decide | (simp only [clS]; omega)) (by rw [hRm]; first | decide | (simp only [clS]; omega)) (fun _ => Nat.le_of_ble_eq_true rfl) (by rw [hRm]; first | decide | (simp only [clS]; omega)) (by rw [hRm]; first | decide | (simp only [clS]; omega)) dX9_set_34 (fun r34 w34 hp34 => ?_)
          obtain ⟨rfl, hw34⟩ := hp34
          rw [hw34]
          refine g_zret h hQ (by first | decide | omega | (simp only [clS]; omega)) (by first | decide | omega | (simp only [clS]; omega)) (by omega) ?_ dX9_set_37
          refine ⟨?_, ?_⟩
          all_goals (repeat first | rw [if_pos (by omega)] | rw [if_neg (by omega)])
          all_goals rfl
  · have hl := lkA_none hz
    refine g_aload_n h dX9_set_0 rfl ?_
    refine g_iload_n h dX9_set_1 rfl ?_
    refine g_callV h rfl (ci := 9) [_] (by assumption) (c_X9_lakeAt _ _ _ hX hzr) clX9_66 (by decide) rfl in_X9_lakeAt se_X9_lakeAt rfl rfl (by rw [hRm]; first | decide | (simp only [clS]; omega)) (by rw [hRm]; first | decide | (simp only [clS]; omega)) (fun _ => Nat.le_of_ble_eq_true rfl) (by rw [hRm]; first | decide | (simp only [clS]; omega)) (by rw [hRm]; first | decide | (simp only [clS]; omega)) dX9_set_2 (fun r2 w2 hp2 => ?_)
    obtain ⟨rfl, hw2⟩ := hp2
    rw [hw2, hl]
    refine g_astore h dX9_set_5 (Nat.le_of_ble_eq_true rfl) rfl rfl ?_
    refine g_aload h dX9_set_7 rfl ?_
    refine g_ifnull (tgt := 32) h dX9_set_9 (by decide) (fun cnn => ?_) (fun _ cnn => by cases cnn)
    refine g_aload_n h dX9_set_32 rfl ?_
    refine g_iconst h dX9_set_33 ?_
    refine g_callV h rfl (ci := 9) [_] (by assumption) (c_X9_denied _ _ _ hX) clX9_74 (by decide) rfl in_X9_denied se_X9_denied rfl rfl (by rw [hRm]; first | decide | (simp only [clS]; omega)) (by rw [hRm]; first | decide | (simp only [clS]; omega)) (fun _ => Nat.le_of_ble_eq_true rfl) (by rw [hRm]; first | decide | (simp only [clS]; omega)) (by rw [hRm]; first | decide | (simp only [clS]; omega)) dX9_set_34 (fun r34 w34 hp34 => ?_)
    obtain ⟨rfl, hw34⟩ := hp34
    rw [hw34]
    refine g_zret h hQ (by first | decide | omega | (simp only [clS]; omega)) (by first | decide | omega | (simp only [clS]; omega)) (by omega) ?_ dX9_set_37
    refine ⟨?_, ?_⟩
    all_goals (repeat first | rw [if_pos (by omega)] | rw [if_neg (by omega)])
    all_goals rfl
set_option maxRecDepth 100000 in
set_option maxHeartbeats 4000000 in
theorem c_X0_tellNumber (l : Launch) (w : AW) (a : Nat) (v : Int) (hX : XS w) (ha : a < 3) : HT l yX0_tellNumber cX0_tellNumber 3 none 1 0 0 w [ar 36, ai (a : Int), ai v] (rV (upI w 36 (1 + a) v)) := by
  refine HT.of (by decide) (by intro v hv; simp only [List.mem_cons, List.not_mem_nil, or_false] at hv; rcases hv with rfl | rfl | rfl <;> rfl) (Nat.le_of_ble_eq_true rfl) ?_
  intro Γ h hQ hRm hnm hl hw0
  have s36 : w.1 36 = (100, 0) := hX.1 36 (by decide)
  have hz : (0 : Int) ≤ (a : Int) ∧ (a : Int) < 3 := ⟨by omega, by omega⟩
  refine g_iload_n h dX0_tellNumber_0 rfl ?_
  rcases (show (a : Int) = 0 ∨ (a : Int) = 1 ∨ (a : Int) = 2 ∨ ((a : Int) < 0 ∨ 2 < (a : Int)) by omega) with c1 | c1 | c1 | c1
  · refine g_tswI (tgt := 28) h 0 (by first | assumption | exact ⟨by omega, by omega⟩) (by first | omega | assumption) (by first | omega | assumption) rfl (by decide) dX0_tellNumber_1 ?_
    refine g_aload_n h dX0_tellNumber_28 rfl ?_
    refine g_iload_n h dX0_tellNumber_29 rfl ?_
    refine g_putI h flX0_15 rfl rfl (by assumption) dX0_tellNumber_30 ?_
    refine g_goto (tgt := 52) h dX0_tellNumber_33 (by decide) ?_
    refine g_vret h hQ (by first | decide | omega | (simp only [clS]; omega)) (by first | decide | omega | (simp only [clS]; omega)) ?_ dX0_tellNumber_52
    first | (exfalso; omega) | (rcases (show a = 0 ∨ a = 1 ∨ a = 2 by omega) with rfl | rfl | rfl <;> first | exact ⟨rfl, rfl⟩ | (exfalso; omega))
  · refine g_tswI (tgt := 36) h 1 (by first | assumption | exact ⟨by omega, by omega⟩) (by first | omega | assumption) (by first | omega | assumption) rfl (by decide) dX0_tellNumber_1 ?_
    refine g_aload_n h dX0_tellNumber_36 rfl ?_
    refine g_iload_n h dX0_tellNumber_37 rfl ?_
    refine g_putI h flX0_19 rfl rfl (by assumption) dX0_tellNumber_38 ?_
    refine g_goto (tgt := 52) h dX0_tellNumber_41 (by decide) ?_
    refine g_vret h hQ (by first | decide | omega | (simp only [clS]; omega)) (by first | decide | omega | (simp only [clS]; omega)) ?_ dX0_tellNumber_52
    first | (exfalso; omega) | (rcases (show a = 0 ∨ a = 1 ∨ a = 2 by omega) with rfl | rfl | rfl <;> first | exact ⟨rfl, rfl⟩ | (exfalso; omega))
  · refine g_tswI (tgt := 44) h 2 (by first | assumption | exact ⟨by omega, by omega⟩) (by first | omega | assumption) (by first | omega | assumption) rfl (by decide) dX0_tellNumber_1 ?_
    refine g_aload_n h dX0_tellNumber_44 rfl ?_
    refine g_iload_n h dX0_tellNumber_45 rfl ?_
    refine g_putI h flX0_22 rfl rfl (by assumption) dX0_tellNumber_46 ?_
    refine g_goto (tgt := 52) h dX0_tellNumber_49 (by decide) ?_
    refine g_vret h hQ (by first | decide | omega | (simp only [clS]; omega)) (by first | decide | omega | (simp only [clS]; omega)) ?_ dX0_tellNumber_52
    first | (exfalso; omega) | (rcases (show a = 0 ∨ a = 1 ∨ a = 2 by omega) with rfl | rfl | rfl <;> first | exact ⟨rfl, rfl⟩ | (exfalso; omega))
  · refine g_tswO (tgt := 52) h (by first | assumption | exact ⟨by omega, by omega⟩) c1 (by decide) dX0_tellNumber_1 ?_
    refine g_vret h hQ (by first | decide | omega | (simp only [clS]; omega)) (by first | decide | omega | (simp only [clS]; omega)) ?_ dX0_tellNumber_52
    first | (exfalso; omega) | (rcases (show a = 0 ∨ a = 1 ∨ a = 2 by omega) with rfl | rfl | rfl <;> first | exact ⟨rfl, rfl⟩ | (exfalso; omega))
set_option maxRecDepth 100000 in
set_option maxHeartbeats 4000000 in
theorem c_X9_land (l : Launch) (w : AW) (a v : Int) (hX : XS w) (har : R32 a) (hv : R32 v) : HT l yX9_land cX9_land 3 (some .boolean) 2 0 0 w [ar 0, ai a, ai v] (fun r w' => r = some (ai (if ¬ (0 ≤ a ∧ a < 3) then 0 else if ¬ (lanLo a ≤ v ∧ v ≤ lanHi a) then 0 else 1)) ∧ w' = (if ¬ (0 ≤ a ∧ a < 3) then upI w 0 16 1 else if ¬ (lanLo a ≤ v ∧ v ≤ lanHi a) then upI w 0 16 2 else upI (upI w 36 (1 + a.toNat) v) 0 16 0)) := by
  refine HT.of (by decide) (by intro v hv; simp only [List.mem_cons, List.not_mem_nil, or_false] at hv; rcases hv with rfl | rfl | rfl <;> rfl) (Nat.le_of_ble_eq_true rfl) ?_
  intro Γ h hQ hRm hnm hl hw0
  have s0 : w.1 0 = (109, 0) := hX.1 0 (by decide)
  have s36 : w.1 36 = (100, 0) := hX.1 36 (by decide)
  have p0_10 : w.2.2 0 10 = some 36 := hX.2 (0, 10, 36) (by decide)
  have hab := lan_bd a
  have s36 : w.1 36 = (100, 0) := hX.1 36 (by decide)
  refine g_iload_n h dX9_land_0 rfl ?_
  refine g_if_lt (tgt := 20) h dX9_land_1 (by decide) (by first | assumption | exact ⟨by omega, by omega⟩) (fun c1 => ?_) (fun c1 => ?_)
  · refine g_aload_n h dX9_land_20 rfl ?_
    refine g_iconst h dX9_land_21 ?_
    refine g_callV h rfl (ci := 9) [_] (by assumption) (c_X9_denied _ _ _ hX) clX9_74 (by decide) rfl in_X9_denied se_X9_denied rfl rfl (by rw [hRm]; first | decide | (simp only [clS]; omega)) (by rw [hRm]; first | decide | (simp only [clS]; omega)) (fun _ => Nat.le_of_ble_eq_true rfl) (by rw [hRm]; first | decide | (simp only [clS]; omega)) (by rw [hRm]; first | decide | (simp only [clS]; omega)) dX9_land_22 (fun r22 w22 hp22 => ?_)
    obtain ⟨rfl, hw22⟩ := hp22
    rw [hw22]
    refine g_zret h hQ (by first | decide | omega | (simp only [clS]; omega)) (by first | decide | omega | (simp only [clS]; omega)) (by omega) ?_ dX9_land_25
    refine ⟨?_, ?_⟩
    all_goals (repeat first | rw [if_pos (by omega)] | rw [if_neg (by omega)])
    all_goals rfl
  · refine g_iload_n h dX9_land_4 rfl ?_
    refine g_gets h (i := 2) rfl gsX9_304 dX9_land_5 ?_
    refine g_alenX h 2 rfl (N := 3) rfl dX9_land_8 ?_
    refine g_icmp_ge (tgt := 20) h dX9_land_9 (by decide) (by first | assumption | exact ⟨by omega, by omega⟩) (by first | assumption | exact ⟨by omega, by omega⟩) (fun c9 => ?_) (fun c9 => ?_)
    · refine g_aload_n h dX9_land_20 rfl ?_
      refine g_iconst h dX9_land_21 ?_
      refine g_callV h rfl (ci := 9) [_] (by assumption) (c_X9_denied _ _ _ hX) clX9_74 (by decide) rfl in_X9_denied se_X9_denied rfl rfl (by rw [hRm]; first | decide | (simp only [clS]; omega)) (by rw [hRm]; first | decide | (simp only [clS]; omega)) (fun _ => Nat.le_of_ble_eq_true rfl) (by rw [hRm]; first | decide | (simp only [clS]; omega)) (by rw [hRm]; first | decide | (simp only [clS]; omega)) dX9_land_22 (fun r22 w22 hp22 => ?_)
      obtain ⟨rfl, hw22⟩ := hp22
      rw [hw22]
      refine g_zret h hQ (by first | decide | omega | (simp only [clS]; omega)) (by first | decide | omega | (simp only [clS]; omega)) (by omega) ?_ dX9_land_25
      refine ⟨?_, ?_⟩
      all_goals (repeat first | rw [if_pos (by omega)] | rw [if_neg (by omega)])
      all_goals rfl
    · refine g_iload_n h dX9_land_12 rfl ?_
      refine g_gets h (i := 3) rfl gsX9_307 dX9_land_13 ?_
      refine g_alenX h 3 rfl (N := 3) rfl dX9_land_16 ?_
      refine g_icmp_lt (tgt := 26) h dX9_land_17 (by decide) (by first | assumption | exact ⟨by omega, by omega⟩) (by first | assumption | exact ⟨by omega, by omega⟩) (fun c17 => ?_) (fun c17 => ?_)
      · refine g_iload_n h dX9_land_26 rfl ?_
        refine g_gets h (i := 2) rfl gsX9_304 dX9_land_27 ?_
        refine g_iload_n h dX9_land_30 rfl ?_
        refine g_ialdX h 2 rfl (v := _) (by omega) (show a < ((3 : Nat) : Int) by omega) (by decide) (sta_2 ⟨by omega, by omega⟩) dX9_land_31 ?_
        refine g_gets h (i := 3) rfl gsX9_307 dX9_land_32 ?_
        refine g_iload_n h dX9_land_35 rfl ?_
        refine g_ialdX h 3 rfl (v := _) (by omega) (show a < ((3 : Nat) : Int) by omega) (by decide) (sta_3 ⟨by omega, by omega⟩) dX9_land_36 ?_
        refine g_callS h rfl [_, _, _] (c_X9_isWithin _ _ _ _ _ hv ⟨by omega, by omega⟩ ⟨by omega, by omega⟩) clX9_78 st_X9_isWithin rfl rfl (by rw [hRm]; first | decide | (simp only [clS]; omega)) (by rw [hRm]; first | decide | (simp only [clS]; omega)) (fun _ => Nat.le_of_ble_eq_true rfl) (by rw [hRm]; first | decide | (simp only [clS]; omega)) (by rw [hRm]; first | decide | (simp only [clS]; omega)) dX9_land_37 (fun r37 w37 hp37 => ?_)
        obtain ⟨rfl, hw37⟩ := hp37
        rw [hw37]
        have hbw37 := ite01 (lanLo a ≤ v ∧ v ≤ lanHi a)
        refine g_if_ne (tgt := 49) h dX9_land_40 (by decide) (by first | assumption | exact ⟨by omega, by omega⟩) (fun c40 => ?_) (fun c40 => ?_)
        · obtain ⟨an, rfl⟩ : ∃ m : Nat, a = (m : Int) := ⟨a.toNat, by omega⟩
          refine g_aload_n h dX9_land_49 rfl ?_
          refine g_getQ h flX9_52 rfl (by assumption) (by assumption) dX9_land_50 ?_
          refine g_iload_n h dX9_land_53 rfl ?_
          refine g_iload_n h dX9_land_54 rfl ?_
          refine g_callV h rfl (ci := 0) [_, _] (by assumption) (c_X0_tellNumber _ _ an v hX (by omega)) clX9_310 (by decide) rfl in_X0_tellNumber se_X0_tellNumber rfl rfl (by rw [hRm]; first | decide | (simp only [clS]; omega)) (by rw [hRm]; first | decide | (simp only [clS]; omega)) (fun _ => Nat.le_of_ble_eq_true rfl) (by rw [hRm]; first | decide | (simp only [clS]; omega)) (by rw [hRm]; first | decide | (simp only [clS]; omega)) dX9_land_55 (fun r55 w55 hp55 => ?_)
          obtain ⟨rfl, hw55⟩ := hp55
          rw [hw55]
          have s0b : (upI w 36 (1 + an) v).1 0 = (109, 0) := s0
          refine g_aload_n h dX9_land_58 rfl ?_
          refine g_callV h rfl (ci := 9) [] (by assumption) (c_X9_granted _ _ (XS_of rfl rfl hX)) clX9_86 (by decide) rfl in_X9_granted se_X9_granted rfl rfl (by rw [hRm]; first | decide | (simp only [clS]; omega)) (by rw [hRm]; first | decide | (simp only [clS]; omega)) (fun _ => Nat.le_of_ble_eq_true rfl) (by rw [hRm]; first | decide | (simp only [clS]; omega)) (by rw [hRm]; first | decide | (simp only [clS]; omega)) dX9_land_59 (fun r59 w59 hp59 => ?_)
          obtain ⟨rfl, hw59⟩ := hp59
          rw [hw59]
          refine g_zret h hQ (by first | decide | omega | (simp only [clS]; omega)) (by first | decide | omega | (simp only [clS]; omega)) (by omega) ?_ dX9_land_62
          refine ⟨?_, ?_⟩
          all_goals (repeat first | rw [if_pos (by omega)] | rw [if_neg (by omega)])
          all_goals rfl
        · refine g_aload_n h dX9_land_43 rfl ?_
          refine g_iconst h dX9_land_44 ?_
          refine g_callV h rfl (ci := 9) [_] (by assumption) (c_X9_denied _ _ _ hX) clX9_74 (by decide) rfl in_X9_denied se_X9_denied rfl rfl (by rw [hRm]; first | decide | (simp only [clS]; omega)) (by rw [hRm]; first | decide | (simp only [clS]; omega)) (fun _ => Nat.le_of_ble_eq_true rfl) (by rw [hRm]; first | decide | (simp only [clS]; omega)) (by rw [hRm]; first | decide | (simp only [clS]; omega)) dX9_land_45 (fun r45 w45 hp45 => ?_)
          obtain ⟨rfl, hw45⟩ := hp45
          rw [hw45]
          refine g_zret h hQ (by first | decide | omega | (simp only [clS]; omega)) (by first | decide | omega | (simp only [clS]; omega)) (by omega) ?_ dX9_land_48
          refine ⟨?_, ?_⟩
          all_goals (repeat first | rw [if_pos (by omega)] | rw [if_neg (by omega)])
          all_goals rfl
      · refine g_aload_n h dX9_land_20 rfl ?_
        refine g_iconst h dX9_land_21 ?_
        refine g_callV h rfl (ci := 9) [_] (by assumption) (c_X9_denied _ _ _ hX) clX9_74 (by decide) rfl in_X9_denied se_X9_denied rfl rfl (by rw [hRm]; first | decide | (simp only [clS]; omega)) (by rw [hRm]; first | decide | (simp only [clS]; omega)) (fun _ => Nat.le_of_ble_eq_true rfl) (by rw [hRm]; first | decide | (simp only [clS]; omega)) (by rw [hRm]; first | decide | (simp only [clS]; omega)) dX9_land_22 (fun r22 w22 hp22 => ?_)
        obtain ⟨rfl, hw22⟩ := hp22
        rw [hw22]
        refine g_zret h hQ (by first | decide | omega | (simp only [clS]; omega)) (by first | decide | omega | (simp only [clS]; omega)) (by omega) ?_ dX9_land_25
        refine ⟨?_, ?_⟩
        all_goals (repeat first | rw [if_pos (by omega)] | rw [if_neg (by omega)])
        all_goals rfl
set_option maxRecDepth 100000 in
set_option maxHeartbeats 4000000 in
theorem c_X9_height (l : Launch) (w : AW) (a v : Int) (hX : XS w) (har : R32 a) (hv : R32 v) : HT l yX9_height cX9_height 3 (some .boolean) 2 0 0 w [ar 0, ai a, ai v] (fun r w' => r = some (ai (if ¬ (0 ≤ a ∧ a < 400) then 0 else if ¬ (0 ≤ v ∧ v ≤ 999) then 0 else 1)) ∧ w' = (if ¬ (0 ≤ a ∧ a < 400) then upI w 0 16 1 else if ¬ (0 ≤ v ∧ v ≤ 999) then upI w 0 16 2 else upI (upI w 37 a.toNat v) 0 16 0)) := by
  refine HT.of (by decide) (by intro v hv; simp only [List.mem_cons, List.not_mem_nil, or_false] at hv; rcases hv with rfl | rfl | rfl <;> rfl) (Nat.le_of_ble_eq_true rfl) ?_
  intro Γ h hQ hRm hnm hl hw0
  have s0 : w.1 0 = (109, 0) := hX.1 0 (by decide)
  have s36 : w.1 36 = (100, 0) := hX.1 36 (by decide)
  have s37 : w.1 37 = (1, 400) := hX.1 37 (by decide)
  have p0_10 : w.2.2 0 10 = some 36 := hX.2 (0, 10, 36) (by decide)
  have p36_0 : w.2.2 36 0 = some 37 := hX.2 (36, 0, 37) (by decide)
  refine g_iload_n h dX9_height_0 rfl ?_
  refine g_callS h rfl [_] (c_X9_isCell _ _ _ har) clX9_280 st_X9_isCell rfl rfl (by rw [hRm]; first | decide | (simp only [clS]; omega)) (by rw [hRm]; first | decide | (simp only [clS]; omega)) (fun _ => Nat.le_of_ble_eq_true rfl) (by rw [hRm]; first | decide | (simp only [clS]; omega)) (by rw [hRm]; first | decide | (simp only [clS]; omega)) dX9_height_1 (fun r1 w1 hp1 => ?_)
  obtain ⟨rfl, hw1⟩ := hp1
  rw [hw1]
  have hbw1 := ite01 (0 ≤ a ∧ a < 400)
  refine g_if_ne (tgt := 13) h dX9_height_4 (by decide) (by first | assumption | exact ⟨by omega, by omega⟩) (fun c4 => ?_) (fun c4 => ?_)
  · refine g_iload_n h dX9_height_13 rfl ?_
    refine g_iconst h dX9_height_14 ?_
    refine g_sipush h dX9_height_15 rfl ?_
    refine g_callS h rfl [_, _, _] (c_X9_isWithin _ _ _ _ _ hv ⟨by omega, by omega⟩ ⟨by omega, by omega⟩) clX9_78 st_X9_isWithin rfl rfl (by rw [hRm]; first | decide | (simp only [clS]; omega)) (by rw [hRm]; first | decide | (simp only [clS]; omega)) (fun _ => Nat.le_of_ble_eq_true rfl) (by rw [hRm]; first | decide | (simp only [clS]; omega)) (by rw [hRm]; first | decide | (simp only [clS]; omega)) dX9_height_18 (fun r18 w18 hp18 => ?_)
    obtain ⟨rfl, hw18⟩ := hp18
    rw [hw18]
    have hbw18 := ite01 ((0 : Int) ≤ v ∧ v ≤ 999)
    refine g_if_ne (tgt := 30) h dX9_height_21 (by decide) (by first | assumption | exact ⟨by omega, by omega⟩) (fun c21 => ?_) (fun c21 => ?_)
    · refine g_aload_n h dX9_height_30 rfl ?_
      refine g_getQ h flX9_52 rfl (by assumption) (by assumption) dX9_height_31 ?_
      refine g_getQ h flX9_301 rfl (by assumption) (by assumption) dX9_height_34 ?_
      refine g_iload_n h dX9_height_37 rfl ?_
      refine g_iload_n h dX9_height_38 rfl ?_
      refine g_iast h (a.toNat) (by assumption) (by first | omega | assumption) (by first | omega | assumption) (by decide) dX9_height_39 ?_
      have s0b : (upI w 37 a.toNat v).1 0 = (109, 0) := s0
      refine g_aload_n h dX9_height_40 rfl ?_
      refine g_callV h rfl (ci := 9) [] (by assumption) (c_X9_granted _ _ (XS_of rfl rfl hX)) clX9_86 (by decide) rfl in_X9_granted se_X9_granted rfl rfl (by rw [hRm]; first | decide | (simp only [clS]; omega)) (by rw [hRm]; first | decide | (simp only [clS]; omega)) (fun _ => Nat.le_of_ble_eq_true rfl) (by rw [hRm]; first | decide | (simp only [clS]; omega)) (by rw [hRm]; first | decide | (simp only [clS]; omega)) dX9_height_41 (fun r41 w41 hp41 => ?_)
      obtain ⟨rfl, hw41⟩ := hp41
      rw [hw41]
      refine g_zret h hQ (by first | decide | omega | (simp only [clS]; omega)) (by first | decide | omega | (simp only [clS]; omega)) (by omega) ?_ dX9_height_44
      refine ⟨?_, ?_⟩
      all_goals (repeat first | rw [if_pos (by omega)] | rw [if_neg (by omega)])
      all_goals rfl
    · refine g_aload_n h dX9_height_24 rfl ?_
      refine g_iconst h dX9_height_25 ?_
      refine g_callV h rfl (ci := 9) [_] (by assumption) (c_X9_denied _ _ _ hX) clX9_74 (by decide) rfl in_X9_denied se_X9_denied rfl rfl (by rw [hRm]; first | decide | (simp only [clS]; omega)) (by rw [hRm]; first | decide | (simp only [clS]; omega)) (fun _ => Nat.le_of_ble_eq_true rfl) (by rw [hRm]; first | decide | (simp only [clS]; omega)) (by rw [hRm]; first | decide | (simp only [clS]; omega)) dX9_height_26 (fun r26 w26 hp26 => ?_)
      obtain ⟨rfl, hw26⟩ := hp26
      rw [hw26]
      refine g_zret h hQ (by first | decide | omega | (simp only [clS]; omega)) (by first | decide | omega | (simp only [clS]; omega)) (by omega) ?_ dX9_height_29
      refine ⟨?_, ?_⟩
      all_goals (repeat first | rw [if_pos (by omega)] | rw [if_neg (by omega)])
      all_goals rfl
  · refine g_aload_n h dX9_height_7 rfl ?_
    refine g_iconst h dX9_height_8 ?_
    refine g_callV h rfl (ci := 9) [_] (by assumption) (c_X9_denied _ _ _ hX) clX9_74 (by decide) rfl in_X9_denied se_X9_denied rfl rfl (by rw [hRm]; first | decide | (simp only [clS]; omega)) (by rw [hRm]; first | decide | (simp only [clS]; omega)) (fun _ => Nat.le_of_ble_eq_true rfl) (by rw [hRm]; first | decide | (simp only [clS]; omega)) (by rw [hRm]; first | decide | (simp only [clS]; omega)) dX9_height_9 (fun r9 w9 hp9 => ?_)
    obtain ⟨rfl, hw9⟩ := hp9
    rw [hw9]
    refine g_zret h hQ (by first | decide | omega | (simp only [clS]; omega)) (by first | decide | omega | (simp only [clS]; omega)) (by omega) ?_ dX9_height_12
    refine ⟨?_, ?_⟩
    all_goals (repeat first | rw [if_pos (by omega)] | rw [if_neg (by omega)])
    all_goals rfl
/-- a village is told -/
def viW (w : AW) (nv : Nat) (a v : Int) : AW := upI (upI (upP (sR (alc w (60 + nv) (108, 0)) (60 + nv) (uI (uI ((alc w (60 + nv) (108, 0)).2.1 (60 + nv)) 0 a) 1 v)) 42 nv (some (60 + nv))) 0 12 ((nv : Int) + 1)) 0 16 0
theorem ptX_lt2 : ∀ p ∈ ptX, p.1 < 42 := by decide
set_option maxRecDepth 100000 in
set_option maxHeartbeats 4000000 in
theorem c_X9_village (l : Launch) (w : AW) (nv : Nat) (a v : Int) (hX : XS w) (hV : VI w nv) (har : R32 a) (hv : R32 v) : HT l yX9_village cX9_village 3 (some .int) 2 1 3 w [ar 0, ai a, ai v] (fun r w' => r = some (ai (if ¬ (0 ≤ a ∧ a < 400) then -1 else if ¬ (1 ≤ v ∧ v ≤ 9999) then -1 else if ¬ nv < 20 then -1 else (nv : Int))) ∧ w' = (if ¬ (0 ≤ a ∧ a < 400) then upI w 0 16 1 else if ¬ (1 ≤ v ∧ v ≤ 9999) then upI w 0 16 2 else if ¬ nv < 20 then upI w 0 16 3 else viW w nv a v)) := by
  refine HT.of (by decide) (by intro v hv; simp only [List.mem_cons, List.not_mem_nil, or_false] at hv; rcases hv with rfl | rfl | rfl <;> rfl) (Nat.le_of_ble_eq_true rfl) ?_
  intro Γ h hQ hRm hnm hl hw0
  have s0 : w.1 0 = (109, 0) := hX.1 0 (by decide)
  have s42 : w.1 42 = (208, 20) := hX.1 42 (by decide)
  have p0_11 : w.2.2 0 11 = some 42 := hX.2 (0, 11, 42) (by decide)
  obtain ⟨j1, j2, j3, j4⟩ := id hV
  refine g_iload_n h dX9_village_0 rfl ?_
  refine g_callS h rfl [_] (c_X9_isCell _ _ _ har) clX9_280 st_X9_isCell rfl rfl (by rw [hRm]; first | decide | (simp only [clS]; omega)) (by rw [hRm]; first | decide | (simp only [clS]; omega)) (fun _ => Nat.le_of_ble_eq_true rfl) (by rw [hRm]; first | decide | (simp only [clS]; omega)) (by rw [hRm]; first | decide | (simp only [clS]; omega)) dX9_village_1 (fun r1 w1 hp1 => ?_)
  obtain ⟨rfl, hw1⟩ := hp1
  rw [hw1]
  have hbw1 := ite01 (0 ≤ a ∧ a < 400)
  refine g_if_ne (tgt := 13) h dX9_village_4 (by decide) (by first | assumption | exact ⟨by omega, by omega⟩) (fun c4 => ?_) (fun c4 => ?_)
  · refine g_iload_n h dX9_village_13 rfl ?_
    refine g_iconst h dX9_village_14 ?_
    refine g_sipush h dX9_village_15 rfl ?_
    refine g_callS h rfl [_, _, _] (c_X9_isWithin _ _ _ _ _ hv ⟨by omega, by omega⟩ ⟨by omega, by omega⟩) clX9_78 st_X9_isWithin rfl rfl (by rw [hRm]; first | decide | (simp only [clS]; omega)) (by rw [hRm]; first | decide | (simp only [clS]; omega)) (fun _ => Nat.le_of_ble_eq_true rfl) (by rw [hRm]; first | decide | (simp only [clS]; omega)) (by rw [hRm]; first | decide | (simp only [clS]; omega)) dX9_village_18 (fun r18 w18 hp18 => ?_)
    obtain ⟨rfl, hw18⟩ := hp18
    rw [hw18]
    have hbw18 := ite01 ((1 : Int) ≤ v ∧ v ≤ 9999)
    refine g_if_ne (tgt := 30) h dX9_village_21 (by decide) (by first | assumption | exact ⟨by omega, by omega⟩) (fun c21 => ?_) (fun c21 => ?_)
    · refine g_aload_n h dX9_village_30 rfl ?_
      refine g_getI h flX9_324 rfl (by assumption) dX9_village_31 ?_
      refine g_aload_n h dX9_village_34 rfl ?_
      refine g_getQ h flX9_58 rfl (by assumption) (by assumption) dX9_village_35 ?_
      refine g_alen h (by assumption) (by unfold arK; omega) dX9_village_38 ?_
      refine g_icmp_lt (tgt := 48) h dX9_village_39 (by decide) (by first | assumption | exact ⟨by omega, by omega⟩) (by first | assumption | exact ⟨by omega, by omega⟩) (fun c39 => ?_) (fun c39 => ?_)
      · have hfree := j4 nv (Nat.le_refl _) (by omega)
        have hXA : XS (alc w (60 + nv) (108, 0)) := XS_alc (by omega) hX
        have us0 : (alc w (60 + nv) (108, 0)).1 0 = (109, 0) := hXA.1 0 (by decide)
        have us42 : (alc w (60 + nv) (108, 0)).1 42 = (208, 20) := hXA.1 42 (by decide)
        have up0_11 : (alc w (60 + nv) (108, 0)).2.2 0 11 = some 42 := hXA.2 (0, 11, 42) (by decide)
        refine g_aload_n h dX9_village_48 rfl ?_
        refine g_getQ h flX9_58 rfl (by assumption) (by assumption) dX9_village_49 ?_
        refine g_aload_n h dX9_village_52 rfl ?_
        refine g_getI h flX9_324 rfl (by assumption) dX9_village_53 ?_
        refine g_new h (ci := 8) (60 + nv) (by decide) cnX9_56 ins_8 ini_8 wsin_8 hfree (by first | omega | assumption) (by rw [hRm]; simp only [clS]; omega) (by rw [hRm]; simp only [clS]; omega) dX9_village_56 ?_
        refine g_dup h dX9_village_59 rfl ?_
        refine g_iload_n h dX9_village_60 rfl ?_
        refine g_iload_n h dX9_village_61 rfl ?_
        refine g_callI h rfl [_, _] (c_X8_init _ _ (60 + nv) 0 a v (if_pos rfl)) clX9_327 in_X8_init rfl rfl rfl (by rw [hRm]; first | decide | (simp only [clS]; omega)) (by rw [hRm]; first | decide | (simp only [clS]; omega)) (fun _ => Nat.le_of_ble_eq_true rfl) (by rw [hRm]; first | decide | (simp only [clS]; omega)) (by rw [hRm]; first | decide | (simp only [clS]; omega)) dX9_village_62 (fun r62 w62 hp62 => ?_)
        obtain ⟨rfl, hw62⟩ := hp62
        have hXC : XS (upP w62 42 nv (some (60 + nv))) := by
          rw [hw62]
          exact ⟨hXA.1, fun p hp62 => (congrFun (if_neg (by have := ptX_lt2 p hp62; omega)) p.2.1).trans (hXA.2 p hp62)⟩
        have e012 : w62.2.1 0 12 = (nv : Int) := by
          rw [hw62, sR_ne _ _ (by omega)]
          exact (congrFun (if_neg (by omega)) 12).trans j1
        have sqn : w62.1 (60 + nv) = (108, 0) := by rw [hw62]; exact if_pos rfl
        have t42 : w62.1 42 = (208, 20) := by rw [hw62]; exact us42
        have t0 : w62.1 0 = (109, 0) := by rw [hw62]; exact us0
        refine g_aast h (ci := 8) (nv) (by assumption) (by unfold arK; omega) (by decide) (by assumption) (by first | omega | assumption) (by first | omega | assumption) (by decide) dX9_village_65 ?_
        have t0b : (upP w62 42 nv (some (60 + nv))).1 0 = (109, 0) := t0
        refine g_aload_n h dX9_village_66 rfl ?_
        refine g_dup h dX9_village_67 rfl ?_
        refine g_getI h flX9_324 rfl (by assumption) dX9_village_68 ?_
        refine g_iconst h dX9_village_71 ?_
        refine g_iadd h dX9_village_72 ?_
        refine g_putI h flX9_324 rfl rfl (by assumption) dX9_village_73 ?_
        refine g_aload_n h dX9_village_76 rfl ?_
        refine g_aload_n h dX9_village_77 rfl ?_
        refine g_getI h flX9_324 rfl (by assumption) dX9_village_78 ?_
        refine g_iconst h dX9_village_81 ?_
        refine g_isub h dX9_village_82 ?_
        refine g_callV h rfl (ci := 9) [_] (by assumption) (c_X9_answered _ _ _ (XS_of rfl rfl hXC)) clX9_169 (by decide) rfl in_X9_answered se_X9_answered rfl rfl (by rw [hRm]; first | decide | (simp only [clS]; omega)) (by rw [hRm]; first | decide | (simp only [clS]; omega)) (fun _ => Nat.le_of_ble_eq_true rfl) (by rw [hRm]; first | decide | (simp only [clS]; omega)) (by rw [hRm]; first | decide | (simp only [clS]; omega)) dX9_village_83 (fun r83 w83 hp83 => ?_)
        obtain ⟨rfl, hw83⟩ := hp83
        rw [hw83]
        refine g_iret h hQ (by first | decide | omega | (simp only [clS]; omega)) (by first | decide | omega | (simp only [clS]; omega)) ?_ dX9_village_86
        refine ⟨?_, ?_⟩
        · rw [if_neg (by omega), if_neg (by omega), if_neg (by omega)]
          show some (ai (w62.2.1 0 12 + 1 - 1)) = _
          rw [e012, show (nv : Int) + 1 - 1 = nv by omega]
        · rw [if_neg (by omega), if_neg (by omega), if_neg (by omega)]
          show upI (upI (upP w62 42 nv (some (60 + nv))) 0 12 (w62.2.1 0 12 + 1)) 0 16 0 = _
          rw [e012, hw62]
          rfl
      · refine g_aload_n h dX9_village_42 rfl ?_
        refine g_iconst h dX9_village_43 ?_
        refine g_callV h rfl (ci := 9) [_] (by assumption) (c_X9_refused _ _ _ hX) clX9_162 (by decide) rfl in_X9_refused se_X9_refused rfl rfl (by rw [hRm]; first | decide | (simp only [clS]; omega)) (by rw [hRm]; first | decide | (simp only [clS]; omega)) (fun _ => Nat.le_of_ble_eq_true rfl) (by rw [hRm]; first | decide | (simp only [clS]; omega)) (by rw [hRm]; first | decide | (simp only [clS]; omega)) dX9_village_44 (fun r44 w44 hp44 => ?_)
        obtain ⟨rfl, hw44⟩ := hp44
        rw [hw44]
        refine g_iret h hQ (by first | decide | omega | (simp only [clS]; omega)) (by first | decide | omega | (simp only [clS]; omega)) ?_ dX9_village_47
        refine ⟨?_, ?_⟩
        all_goals (repeat first | rw [if_pos (by omega)] | rw [if_neg (by omega)])
        all_goals rfl
    · refine g_aload_n h dX9_village_24 rfl ?_
      refine g_iconst h dX9_village_25 ?_
      refine g_callV h rfl (ci := 9) [_] (by assumption) (c_X9_refused _ _ _ hX) clX9_162 (by decide) rfl in_X9_refused se_X9_refused rfl rfl (by rw [hRm]; first | decide | (simp only [clS]; omega)) (by rw [hRm]; first | decide | (simp only [clS]; omega)) (fun _ => Nat.le_of_ble_eq_true rfl) (by rw [hRm]; first | decide | (simp only [clS]; omega)) (by rw [hRm]; first | decide | (simp only [clS]; omega)) dX9_village_26 (fun r26 w26 hp26 => ?_)
      obtain ⟨rfl, hw26⟩ := hp26
      rw [hw26]
      refine g_iret h hQ (by first | decide | omega | (simp only [clS]; omega)) (by first | decide | omega | (simp only [clS]; omega)) ?_ dX9_village_29
      refine ⟨?_, ?_⟩
      all_goals (repeat first | rw [if_pos (by omega)] | rw [if_neg (by omega)])
      all_goals rfl
  · refine g_aload_n h dX9_village_7 rfl ?_
    refine g_iconst h dX9_village_8 ?_
    refine g_callV h rfl (ci := 9) [_] (by assumption) (c_X9_refused _ _ _ hX) clX9_162 (by decide) rfl in_X9_refused se_X9_refused rfl rfl (by rw [hRm]; first | decide | (simp only [clS]; omega)) (by rw [hRm]; first | decide | (simp only [clS]; omega)) (fun _ => Nat.le_of_ble_eq_true rfl) (by rw [hRm]; first | decide | (simp only [clS]; omega)) (by rw [hRm]; first | decide | (simp only [clS]; omega)) dX9_village_9 (fun r9 w9 hp9 => ?_)
    obtain ⟨rfl, hw9⟩ := hp9
    rw [hw9]
    refine g_iret h hQ (by first | decide | omega | (simp only [clS]; omega)) (by first | decide | omega | (simp only [clS]; omega)) ?_ dX9_village_12
    refine ⟨?_, ?_⟩
    all_goals (repeat first | rw [if_pos (by omega)] | rw [if_neg (by omega)])
    all_goals rfl
