/-! ===== the class: soundings, what a layer is ===== -/
def tsF (w : AW) (z i g : Int) (rn sn : Nat) : Int := if 0 ≤ z ∧ z < 2 ∧ 0 ≤ i ∧ i < 10 then if 0 ≤ g ∧ g ≤ 100000 then if lrF (w.2.1 29) (w.2.1 30) (z * 10 + i) (w.2.1 0 13) (w.2.1 0 13) rn = none then 5 else if 60 ≤ sn then 3 else 0 else 2 else 1
theorem flA_iff (r : Option Nat) : (flA r = -1 ∧ r = none) ∨ (flA r ≠ -1 ∧ r ≠ none) := by
  cases r with
  | none => exact Or.inl ⟨rfl, rfl⟩
  | some m => exact Or.inr ⟨by show (m : Int) ≠ -1; omega, by intro q; cases q⟩
set_option maxRecDepth 100000 in
set_option maxHeartbeats 4000000 in
theorem c_X9_troubleOfSounding (l : Launch) (w : AW) (n : Nat → Nat) (q : Nat → Nat → Nat) (S rn sn : Nat) (z i g : Int) (hW : WI w n q S rn sn) (hzr : R32 z) (hir : R32 i) (hg : R32 g) : HT l yX9_troubleOfSounding cX9_troubleOfSounding 4 (some .int) 2 0 0 w [ar 0, ai z, ai i, ai g] (rI (tsF w z i g rn sn) w) := by
  refine HT.of (by decide) (by intro v hv; simp only [List.mem_cons, List.not_mem_nil, or_false] at hv; rcases hv with rfl | rfl | rfl | rfl <;> rfl) (Nat.le_of_ble_eq_true rfl) ?_
  intro Γ h hQ hRm hnm hl hw0
  obtain ⟨hX, hS, hLk, hSI, t0, t1⟩ := id hW
  have s0 : w.1 0 = (109, 0) := hX.1 0 (by decide)
  have s28 : w.1 28 = (107, 0) := hX.1 28 (by decide)
  have p0_9 : w.2.2 0 9 = some 28 := hX.2 (0, 9, 28) (by decide)
  have s28 : w.1 28 = (107, 0) := hX.1 28 (by decide)
  have hsn := hSI.2.2.1
  have hsn6 := hSI.2.2.2.1
  have hrn3 := hSI.2.1
  by_cases hz : 0 ≤ z ∧ z < 2
  · have hl := lkA_some hz
    have hLK := XS_LK hX z.toNat (by omega)
    have kL := hLK.2.1
    obtain ⟨hN, hP, hq5⟩ := hLk z.toNat (by omega)
    refine g_aload_n h dX9_troubleOfSounding_0 rfl ?_
    refine g_iload_n h dX9_troubleOfSounding_1 rfl ?_
    refine g_callV h rfl (ci := 9) [_] (by assumption) (c_X9_lakeAt _ _ _ hX hzr) clX9_66 (by decide) rfl in_X9_lakeAt se_X9_lakeAt rfl rfl (by rw [hRm]; first | decide | (simp only [clS]; omega)) (by rw [hRm]; first | decide | (simp only [clS]; omega)) (fun _ => Nat.le_of_ble_eq_true rfl) (by rw [hRm]; first | decide | (simp only [clS]; omega)) (by rw [hRm]; first | decide | (simp only [clS]; omega)) dX9_troubleOfSounding_2 (fun r2 w2 hp2 => ?_)
    obtain ⟨rfl, hw2⟩ := hp2
    rw [hw2, hl]
    refine g_ifnull (tgt := 15) h dX9_troubleOfSounding_5 (by decide) (fun c => by cases c) (fun _ c => ?_)
    refine g_iload_n h dX9_troubleOfSounding_8 rfl ?_
    refine g_callS h rfl [_] (c_X9_isLayer _ _ _ hir) clX9_70 st_X9_isLayer rfl rfl (by rw [hRm]; first | decide | (simp only [clS]; omega)) (by rw [hRm]; first | decide | (simp only [clS]; omega)) (fun _ => Nat.le_of_ble_eq_true rfl) (by rw [hRm]; first | decide | (simp only [clS]; omega)) (by rw [hRm]; first | decide | (simp only [clS]; omega)) dX9_troubleOfSounding_9 (fun r9 w9 hp9 => ?_)
    obtain ⟨rfl, hw9⟩ := hp9
    rw [hw9]
    have hbw9 := ite01 (0 ≤ i ∧ i < 10)
    refine g_if_ne (tgt := 17) h dX9_troubleOfSounding_12 (by decide) (by first | assumption | exact ⟨by omega, by omega⟩) (fun c12 => ?_) (fun c12 => ?_)
    · refine g_iload_n h dX9_troubleOfSounding_17 rfl ?_
      refine g_iconst h dX9_troubleOfSounding_18 ?_
      refine g_ldc h kcX9_77 dX9_troubleOfSounding_19 ?_
      refine g_callS h rfl [_, _, _] (c_X9_isWithin _ _ _ _ _ hg ⟨by omega, by omega⟩ ⟨by omega, by omega⟩) clX9_78 st_X9_isWithin rfl rfl (by rw [hRm]; first | decide | (simp only [clS]; omega)) (by rw [hRm]; first | decide | (simp only [clS]; omega)) (fun _ => Nat.le_of_ble_eq_true rfl) (by rw [hRm]; first | decide | (simp only [clS]; omega)) (by rw [hRm]; first | decide | (simp only [clS]; omega)) dX9_troubleOfSounding_21 (fun r21 w21 hp21 => ?_)
      obtain ⟨rfl, hw21⟩ := hp21
      rw [hw21]
      have hbw21 := ite01 ((0 : Int) ≤ g ∧ g ≤ 100000)
      refine g_if_ne (tgt := 29) h dX9_troubleOfSounding_24 (by decide) (by first | assumption | exact ⟨by omega, by omega⟩) (fun c24 => ?_) (fun c24 => ?_)
      · refine g_aload_n h dX9_troubleOfSounding_29 rfl ?_
        refine g_getQ h flX9_45 rfl (by assumption) (by assumption) dX9_troubleOfSounding_30 ?_
        refine g_iload_n h dX9_troubleOfSounding_33 rfl ?_
        refine g_iload_n h dX9_troubleOfSounding_34 rfl ?_
        refine g_callS h rfl [_, _] (c_X9_stringOf _ _ _ _) clX9_117 st_X9_stringOf rfl rfl (by rw [hRm]; first | decide | (simp only [clS]; omega)) (by rw [hRm]; first | decide | (simp only [clS]; omega)) (fun _ => Nat.le_of_ble_eq_true rfl) (by rw [hRm]; first | decide | (simp only [clS]; omega)) (by rw [hRm]; first | decide | (simp only [clS]; omega)) dX9_troubleOfSounding_35 (fun r35 w35 hp35 => ?_)
        obtain ⟨rfl, hw35⟩ := hp35
        rw [hw35]
        refine g_aload_n h dX9_troubleOfSounding_38 rfl ?_
        refine g_getI h flX9_121 rfl (by assumption) dX9_troubleOfSounding_39 ?_
        refine g_aload_n h dX9_troubleOfSounding_42 rfl ?_
        refine g_getI h flX9_121 rfl (by assumption) dX9_troubleOfSounding_43 ?_
        refine g_callV h rfl (ci := 7) [_, _, _] (by assumption) (c_X7_latestReading _ _ rn sn _ _ _ hX hSI ⟨by omega, by omega⟩ ⟨by omega, by omega⟩ ⟨by omega, by omega⟩) clX9_295 (by decide) rfl in_X7_latestReading se_X7_latestReading rfl rfl (by rw [hRm]; first | decide | (simp only [clS]; omega)) (by rw [hRm]; first | decide | (simp only [clS]; omega)) (fun _ => Nat.le_of_ble_eq_true rfl) (by rw [hRm]; first | decide | (simp only [clS]; omega)) (by rw [hRm]; first | decide | (simp only [clS]; omega)) dX9_troubleOfSounding_46 (fun r46 w46 hp46 => ?_)
        obtain ⟨rfl, hw46⟩ := hp46
        rw [hw46]
        have hfb := flA_bd (r := lrF (w.2.1 29) (w.2.1 30) (z * 10 + i) (w.2.1 0 13) (w.2.1 0 13) rn) (n := rn) (fun m q => (lrF_lt _ _ q).1)
        have hfi := flA_iff (lrF (w.2.1 29) (w.2.1 30) (z * 10 + i) (w.2.1 0 13) (w.2.1 0 13) rn)
        refine g_iconst h dX9_troubleOfSounding_49 ?_
        refine g_icmp_ne (tgt := 55) h dX9_troubleOfSounding_50 (by decide) (by first | assumption | exact ⟨by omega, by omega⟩) (by first | assumption | exact ⟨by omega, by omega⟩) (fun c50 => ?_) (fun c50 => ?_)
        · refine g_aload_n h dX9_troubleOfSounding_55 rfl ?_
          refine g_getQ h flX9_45 rfl (by assumption) (by assumption) dX9_troubleOfSounding_56 ?_
          refine g_getI h flX9_352 rfl (by assumption) dX9_troubleOfSounding_59 ?_
          refine g_bipush h dX9_troubleOfSounding_62 rfl ?_
          refine g_icmp_lt (tgt := 71) h dX9_troubleOfSounding_64 (by decide) (by first | assumption | exact ⟨by omega, by omega⟩) (by first | assumption | exact ⟨by omega, by omega⟩) (fun c64 => ?_) (fun c64 => ?_)
          · refine g_iconst h dX9_troubleOfSounding_71 ?_
            refine g_iret h hQ (by first | decide | omega | (simp only [clS]; omega)) (by first | decide | omega | (simp only [clS]; omega)) ?_ dX9_troubleOfSounding_72
            unfold tsF
            rw [if_pos (by omega), if_pos (by omega), if_neg (by rcases hfi with ⟨e, _⟩ | ⟨_, e⟩; exact absurd e (by assumption); exact e)]
            first
            | (rw [if_neg (by omega)]; exact ⟨rfl, rfl⟩)
            | (rw [if_pos (by omega)]; exact ⟨rfl, rfl⟩)
          · refine g_iconst h dX9_troubleOfSounding_67 ?_
            refine g_goto (tgt := 72) h dX9_troubleOfSounding_68 (by decide) ?_
            refine g_iret h hQ (by first | decide | omega | (simp only [clS]; omega)) (by first | decide | omega | (simp only [clS]; omega)) ?_ dX9_troubleOfSounding_72
            unfold tsF
            rw [if_pos (by omega), if_pos (by omega), if_neg (by rcases hfi with ⟨e, _⟩ | ⟨_, e⟩; exact absurd e (by assumption); exact e)]
            first
            | (rw [if_neg (by omega)]; exact ⟨rfl, rfl⟩)
            | (rw [if_pos (by omega)]; exact ⟨rfl, rfl⟩)
        · refine g_iconst h dX9_troubleOfSounding_53 ?_
          refine g_iret h hQ (by first | decide | omega | (simp only [clS]; omega)) (by first | decide | omega | (simp only [clS]; omega)) ?_ dX9_troubleOfSounding_54
          unfold tsF; rw [if_pos (by omega), if_pos (by omega), if_pos (by rcases hfi with ⟨_, e⟩ | ⟨e, _⟩; exact e; exact absurd (by assumption) e)]; exact ⟨rfl, rfl⟩
      · refine g_iconst h dX9_troubleOfSounding_27 ?_
        refine g_iret h hQ (by first | decide | omega | (simp only [clS]; omega)) (by first | decide | omega | (simp only [clS]; omega)) ?_ dX9_troubleOfSounding_28
        unfold tsF; rw [if_pos (by omega), if_neg (by omega)]; exact ⟨rfl, rfl⟩
    · refine g_iconst h dX9_troubleOfSounding_15 ?_
      refine g_iret h hQ (by first | decide | omega | (simp only [clS]; omega)) (by first | decide | omega | (simp only [clS]; omega)) ?_ dX9_troubleOfSounding_16
      unfold tsF; rw [if_neg (by omega)]; exact ⟨rfl, rfl⟩
  · have hl := lkA_none hz
    refine g_aload_n h dX9_troubleOfSounding_0 rfl ?_
    refine g_iload_n h dX9_troubleOfSounding_1 rfl ?_
    refine g_callV h rfl (ci := 9) [_] (by assumption) (c_X9_lakeAt _ _ _ hX hzr) clX9_66 (by decide) rfl in_X9_lakeAt se_X9_lakeAt rfl rfl (by rw [hRm]; first | decide | (simp only [clS]; omega)) (by rw [hRm]; first | decide | (simp only [clS]; omega)) (fun _ => Nat.le_of_ble_eq_true rfl) (by rw [hRm]; first | decide | (simp only [clS]; omega)) (by rw [hRm]; first | decide | (simp only [clS]; omega)) dX9_troubleOfSounding_2 (fun r2 w2 hp2 => ?_)
    obtain ⟨rfl, hw2⟩ := hp2
    rw [hw2, hl]
    refine g_ifnull (tgt := 15) h dX9_troubleOfSounding_5 (by decide) (fun c => ?_) (fun _ c => by cases c)
    refine g_iconst h dX9_troubleOfSounding_15 ?_
    refine g_iret h hQ (by first | decide | omega | (simp only [clS]; omega)) (by first | decide | omega | (simp only [clS]; omega)) ?_ dX9_troubleOfSounding_16
    unfold tsF; rw [if_neg (by omega)]; exact ⟨rfl, rfl⟩
set_option maxRecDepth 100000 in
set_option maxHeartbeats 4000000 in
theorem c_X9_sounding (l : Launch) (w : AW) (n : Nat → Nat) (q : Nat → Nat → Nat) (S rn sn : Nat) (z i g : Int) (hW : WI w n q S rn sn) (hzr : R32 z) (hir : R32 i) (hg : R32 g) : HT l yX9_sounding cX9_sounding 4 (some .int) 3 0 0 w [ar 0, ai z, ai i, ai g] (fun r w' => (tsF w z i g rn sn ≠ 0 → r = some (ai (-2147483648)) ∧ w' = upI w 0 16 (tsF w z i g rn sn)) ∧ (tsF w z i g rn sn = 0 → ∃ m, lrF (w.2.1 29) (w.2.1 30) (z * 10 + i) (w.2.1 0 13) (w.2.1 0 13) rn = some m ∧ r = some (ai (g - w.2.1 31 m)) ∧ w' = adW (upI w 0 16 0) sn (z * 10 + i) (w.2.1 0 13) g (g - w.2.1 31 m))) := by
  refine HT.of (by decide) (by intro v hv; simp only [List.mem_cons, List.not_mem_nil, or_false] at hv; rcases hv with rfl | rfl | rfl | rfl <;> rfl) (Nat.le_of_ble_eq_true rfl) ?_
  intro Γ h hQ hRm hnm hl hw0
  obtain ⟨hX, hS, hLk, hSI, t0, t1⟩ := id hW
  have s0 : w.1 0 = (109, 0) := hX.1 0 (by decide)
  have s28 : w.1 28 = (107, 0) := hX.1 28 (by decide)
  have p0_9 : w.2.2 0 9 = some 28 := hX.2 (0, 9, 28) (by decide)
  have htr : 0 ≤ tsF w z i g rn sn ∧ tsF w z i g rn sn ≤ 5 := by
    unfold tsF
    repeat' split
    all_goals omega
  by_cases ht : tsF w z i g rn sn = 0
  · have hh : (0 ≤ z ∧ z < 2 ∧ 0 ≤ i ∧ i < 10) ∧ (0 ≤ g ∧ g ≤ 100000) ∧ lrF (w.2.1 29) (w.2.1 30) (z * 10 + i) (w.2.1 0 13) (w.2.1 0 13) rn ≠ none ∧ sn < 60 := by
      unfold tsF at ht
      by_cases c1 : 0 ≤ z ∧ z < 2 ∧ 0 ≤ i ∧ i < 10
      · rw [if_pos c1] at ht
        by_cases c2 : 0 ≤ g ∧ g ≤ 100000
        · rw [if_pos c2] at ht
          by_cases c3 : lrF (w.2.1 29) (w.2.1 30) (z * 10 + i) (w.2.1 0 13) (w.2.1 0 13) rn = none
          · rw [if_pos c3] at ht; omega
          · rw [if_neg c3] at ht
            by_cases c4 : 60 ≤ sn
            · rw [if_pos c4] at ht; omega
            · exact ⟨c1, c2, c3, by omega⟩
        · rw [if_neg c2] at ht; omega
      · rw [if_neg c1] at ht; omega
    obtain ⟨⟨z0, z1, i0, i1⟩, ⟨g0, g1⟩, hne, h60⟩ := hh
    obtain ⟨m, hm⟩ := Option.ne_none_iff_exists'.mp hne
    refine g_aload_n h dX9_sounding_0 rfl ?_
    refine g_aload_n h dX9_sounding_1 rfl ?_
    refine g_iload_n h dX9_sounding_2 rfl ?_
    refine g_iload_n h dX9_sounding_3 rfl ?_
    refine g_iload_n h dX9_sounding_4 rfl ?_
    refine g_callV h rfl (ci := 9) [_, _, _] (by assumption) (c_X9_troubleOfSounding _ _ n q S rn sn z i g hW hzr hir hg) clX9_289 (by decide) rfl in_X9_troubleOfSounding se_X9_troubleOfSounding rfl rfl (by rw [hRm]; first | decide | (simp only [clS]; omega)) (by rw [hRm]; first | decide | (simp only [clS]; omega)) (fun _ => Nat.le_of_ble_eq_true rfl) (by rw [hRm]; first | decide | (simp only [clS]; omega)) (by rw [hRm]; first | decide | (simp only [clS]; omega)) dX9_sounding_5 (fun r5 w5 hp5 => ?_)
    obtain ⟨rfl, hw5⟩ := hp5
    rw [hw5]
    rw [ht]
    refine g_putI h flX9_258 rfl rfl (by assumption) dX9_sounding_8 ?_
    refine g_aload_n h dX9_sounding_11 rfl ?_
    refine g_getI h flX9_258 rfl (by assumption) dX9_sounding_12 ?_
    change GG Γ _ _ [ai 0] _ _ _
    refine g_if_eq (tgt := 21) h dX9_sounding_15 (by decide) (by first | assumption | exact ⟨by omega, by omega⟩) (fun c15 => ?_) (fun c15 => ?_)
    · refine g_aload_n h dX9_sounding_21 rfl ?_
      refine g_getQ h flX9_45 rfl (by assumption) (by assumption) dX9_sounding_22 ?_
      refine g_iload_n h dX9_sounding_25 rfl ?_
      refine g_iload_n h dX9_sounding_26 rfl ?_
      refine g_callS h rfl [_, _] (c_X9_stringOf _ _ _ _) clX9_117 st_X9_stringOf rfl rfl (by rw [hRm]; first | decide | (simp only [clS]; omega)) (by rw [hRm]; first | decide | (simp only [clS]; omega)) (fun _ => Nat.le_of_ble_eq_true rfl) (by rw [hRm]; first | decide | (simp only [clS]; omega)) (by rw [hRm]; first | decide | (simp only [clS]; omega)) dX9_sounding_27 (fun r27 w27 hp27 => ?_)
      obtain ⟨rfl, hw27⟩ := hp27
      rw [hw27]
      refine g_aload_n h dX9_sounding_30 rfl ?_
      refine g_getI h flX9_121 rfl (by assumption) dX9_sounding_31 ?_
      refine g_iload_n h dX9_sounding_34 rfl ?_
      refine g_callV h rfl (ci := 7) [_, _, _] (by assumption) (c_X7_addSounding _ (upI w 0 16 0) rn sn m _ _ _ (XS_of rfl rfl hX) hSI ⟨by omega, by omega⟩ ⟨by show -2147483648 ≤ w.2.1 0 13; omega, by show w.2.1 0 13 < 2147483648; omega⟩ g0 g1 hm h60) clX9_292 (by decide) rfl in_X7_addSounding se_X7_addSounding rfl rfl (by rw [hRm]; first | decide | (simp only [clS]; omega)) (by rw [hRm]; first | decide | (simp only [clS]; omega)) (fun _ => Nat.le_of_ble_eq_true rfl) (by rw [hRm]; first | decide | (simp only [clS]; omega)) (by rw [hRm]; first | decide | (simp only [clS]; omega)) dX9_sounding_35 (fun r35 w35 hp35 => ?_)
      obtain ⟨rfl, hw35⟩ := hp35
      rw [hw35]
      refine g_iret h hQ (by first | decide | omega | (simp only [clS]; omega)) (by first | decide | omega | (simp only [clS]; omega)) ?_ dX9_sounding_38
      exact ⟨fun q => absurd ht q, fun _ => ⟨m, hm, rfl, rfl⟩⟩
    · exact absurd rfl (by assumption)
  · skip
    refine g_aload_n h dX9_sounding_0 rfl ?_
    refine g_aload_n h dX9_sounding_1 rfl ?_
    refine g_iload_n h dX9_sounding_2 rfl ?_
    refine g_iload_n h dX9_sounding_3 rfl ?_
    refine g_iload_n h dX9_sounding_4 rfl ?_
    refine g_callV h rfl (ci := 9) [_, _, _] (by assumption) (c_X9_troubleOfSounding _ _ n q S rn sn z i g hW hzr hir hg) clX9_289 (by decide) rfl in_X9_troubleOfSounding se_X9_troubleOfSounding rfl rfl (by rw [hRm]; first | decide | (simp only [clS]; omega)) (by rw [hRm]; first | decide | (simp only [clS]; omega)) (fun _ => Nat.le_of_ble_eq_true rfl) (by rw [hRm]; first | decide | (simp only [clS]; omega)) (by rw [hRm]; first | decide | (simp only [clS]; omega)) dX9_sounding_5 (fun r5 w5 hp5 => ?_)
    obtain ⟨rfl, hw5⟩ := hp5
    rw [hw5]
    refine g_putI h flX9_258 rfl rfl (by assumption) dX9_sounding_8 ?_
    refine g_aload_n h dX9_sounding_11 rfl ?_
    refine g_getI h flX9_258 rfl (by assumption) dX9_sounding_12 ?_
    change GG Γ _ _ [ai (tsF w z i g rn sn)] _ _ _
    refine g_if_eq (tgt := 21) h dX9_sounding_15 (by decide) (by first | assumption | exact ⟨by omega, by omega⟩) (fun c15 => ?_) (fun c15 => ?_)
    · exact absurd (show tsF w z i g rn sn = 0 by assumption) ht
    · refine g_ldc h kcX9_100 dX9_sounding_18 ?_
      refine g_iret h hQ (by first | decide | omega | (simp only [clS]; omega)) (by first | decide | omega | (simp only [clS]; omega)) ?_ dX9_sounding_20
      exact ⟨fun _ => ⟨rfl, rfl⟩, fun q => absurd q ht⟩
set_option maxRecDepth 100000 in
set_option maxHeartbeats 4000000 in
theorem c_X9_right (l : Launch) (w : AW) (n : Nat → Nat) (q : Nat → Nat → Nat) (S rn sn : Nat) (z i a : Int) (hW : WI w n q S rn sn) (hzr : R32 z) (hir : R32 i) (har : R32 a) : HT l yX9_right cX9_right 5 (some .int) 4 0 0 w [ar 0, ai z, ai i, ai a] (fun r w' => w' = w ∧ (¬ (0 ≤ z ∧ z < 2 ∧ 0 ≤ i ∧ i < 10) ∨ lrF (w.2.1 29) (w.2.1 30) (z * 10 + i) a a rn = none → r = some (ai (-2147483648))) ∧ (0 ≤ z ∧ z < 2 ∧ 0 ≤ i ∧ i < 10 → ∀ m, lrF (w.2.1 29) (w.2.1 30) (z * 10 + i) a a rn = some m → r = some (ai (prW w m (w.2.1 0 13) sn)))) := by
  refine HT.of (by decide) (by intro v hv; simp only [List.mem_cons, List.not_mem_nil, or_false] at hv; rcases hv with rfl | rfl | rfl | rfl <;> rfl) (Nat.le_of_ble_eq_true rfl) ?_
  intro Γ h hQ hRm hnm hl hw0
  obtain ⟨hX, hS, hLk, hSI, t0, t1⟩ := id hW
  have s0 : w.1 0 = (109, 0) := hX.1 0 (by decide)
  have s28 : w.1 28 = (107, 0) := hX.1 28 (by decide)
  have p0_9 : w.2.2 0 9 = some 28 := hX.2 (0, 9, 28) (by decide)
  have hrn3 := hSI.2.1
  by_cases hz : 0 ≤ z ∧ z < 2
  · have hl := lkA_some hz
    have hLK := XS_LK hX z.toNat (by omega)
    have kL := hLK.2.1
    obtain ⟨hN, hP, hq5⟩ := hLk z.toNat (by omega)
    cases hq : lrF (w.2.1 29) (w.2.1 30) (z * 10 + i) a a rn with
    | none =>
      refine g_aload_n h dX9_right_0 rfl ?_
      refine g_iload_n h dX9_right_1 rfl ?_
      refine g_callV h rfl (ci := 9) [_] (by assumption) (c_X9_lakeAt _ _ _ hX hzr) clX9_66 (by decide) rfl in_X9_lakeAt se_X9_lakeAt rfl rfl (by rw [hRm]; first | decide | (simp only [clS]; omega)) (by rw [hRm]; first | decide | (simp only [clS]; omega)) (fun _ => Nat.le_of_ble_eq_true rfl) (by rw [hRm]; first | decide | (simp only [clS]; omega)) (by rw [hRm]; first | decide | (simp only [clS]; omega)) dX9_right_2 (fun r2 w2 hp2 => ?_)
      obtain ⟨rfl, hw2⟩ := hp2
      rw [hw2, hl]
      refine g_ifnull (tgt := 15) h dX9_right_5 (by decide) (fun c => by cases c) (fun _ c => ?_)
      refine g_iload_n h dX9_right_8 rfl ?_
      refine g_callS h rfl [_] (c_X9_isLayer _ _ _ hir) clX9_70 st_X9_isLayer rfl rfl (by rw [hRm]; first | decide | (simp only [clS]; omega)) (by rw [hRm]; first | decide | (simp only [clS]; omega)) (fun _ => Nat.le_of_ble_eq_true rfl) (by rw [hRm]; first | decide | (simp only [clS]; omega)) (by rw [hRm]; first | decide | (simp only [clS]; omega)) dX9_right_9 (fun r9 w9 hp9 => ?_)
      obtain ⟨rfl, hw9⟩ := hp9
      rw [hw9]
      have hbw9 := ite01 (0 ≤ i ∧ i < 10)
      refine g_if_ne (tgt := 18) h dX9_right_12 (by decide) (by first | assumption | exact ⟨by omega, by omega⟩) (fun c12 => ?_) (fun c12 => ?_)
      · refine g_aload_n h dX9_right_18 rfl ?_
        refine g_getQ h flX9_45 rfl (by assumption) (by assumption) dX9_right_19 ?_
        refine g_iload_n h dX9_right_22 rfl ?_
        refine g_iload_n h dX9_right_23 rfl ?_
        refine g_callS h rfl [_, _] (c_X9_stringOf _ _ _ _) clX9_117 st_X9_stringOf rfl rfl (by rw [hRm]; first | decide | (simp only [clS]; omega)) (by rw [hRm]; first | decide | (simp only [clS]; omega)) (fun _ => Nat.le_of_ble_eq_true rfl) (by rw [hRm]; first | decide | (simp only [clS]; omega)) (by rw [hRm]; first | decide | (simp only [clS]; omega)) dX9_right_24 (fun r24 w24 hp24 => ?_)
        obtain ⟨rfl, hw24⟩ := hp24
        rw [hw24]
        refine g_iload_n h dX9_right_27 rfl ?_
        refine g_iload_n h dX9_right_28 rfl ?_
        refine g_callV h rfl (ci := 7) [_, _, _] (by assumption) (c_X7_latestReading _ _ rn sn _ _ _ hX hSI ⟨by omega, by omega⟩ har har) clX9_295 (by decide) rfl in_X7_latestReading se_X7_latestReading rfl rfl (by rw [hRm]; first | decide | (simp only [clS]; omega)) (by rw [hRm]; first | decide | (simp only [clS]; omega)) (fun _ => Nat.le_of_ble_eq_true rfl) (by rw [hRm]; first | decide | (simp only [clS]; omega)) (by rw [hRm]; first | decide | (simp only [clS]; omega)) dX9_right_29 (fun r29 w29 hp29 => ?_)
        obtain ⟨rfl, hw29⟩ := hp29
        rw [hw29]
        rw [hq, show flA none = -1 from rfl]
        refine g_istore h dX9_right_32 (Nat.le_of_ble_eq_true rfl) rfl rfl ?_
        refine g_iload h dX9_right_34 rfl ?_
        refine g_iconst h dX9_right_36 ?_
        refine g_icmp_ne (tgt := 45) h dX9_right_37 (by decide) (by first | assumption | exact ⟨by omega, by omega⟩) (by first | assumption | exact ⟨by omega, by omega⟩) (fun c37 => ?_) (fun c37 => ?_)
        · exact absurd rfl (by assumption)
        · refine g_ldc h kcX9_100 dX9_right_40 ?_
          refine g_goto (tgt := 58) h dX9_right_42 (by decide) ?_
          refine g_iret h hQ (by first | decide | omega | (simp only [clS]; omega)) (by first | decide | omega | (simp only [clS]; omega)) ?_ dX9_right_58
          (first | exact ⟨rfl, fun _ => rfl, fun _ m e => absurd e (by rw [hq]; intro e2; cases e2)⟩ | exact ⟨rfl, fun _ => rfl, fun q => absurd q (by omega)⟩)
      · refine g_ldc h kcX9_100 dX9_right_15 ?_
        refine g_iret h hQ (by first | decide | omega | (simp only [clS]; omega)) (by first | decide | omega | (simp only [clS]; omega)) ?_ dX9_right_17
        exact ⟨rfl, fun _ => rfl, fun q => absurd q (by omega)⟩
    | some m =>
      have hml := (lrF_lt _ _ hq).1
      refine g_aload_n h dX9_right_0 rfl ?_
      refine g_iload_n h dX9_right_1 rfl ?_
      refine g_callV h rfl (ci := 9) [_] (by assumption) (c_X9_lakeAt _ _ _ hX hzr) clX9_66 (by decide) rfl in_X9_lakeAt se_X9_lakeAt rfl rfl (by rw [hRm]; first | decide | (simp only [clS]; omega)) (by rw [hRm]; first | decide | (simp only [clS]; omega)) (fun _ => Nat.le_of_ble_eq_true rfl) (by rw [hRm]; first | decide | (simp only [clS]; omega)) (by rw [hRm]; first | decide | (simp only [clS]; omega)) dX9_right_2 (fun r2 w2 hp2 => ?_)
      obtain ⟨rfl, hw2⟩ := hp2
      rw [hw2, hl]
      refine g_ifnull (tgt := 15) h dX9_right_5 (by decide) (fun c => by cases c) (fun _ c => ?_)
      refine g_iload_n h dX9_right_8 rfl ?_
      refine g_callS h rfl [_] (c_X9_isLayer _ _ _ hir) clX9_70 st_X9_isLayer rfl rfl (by rw [hRm]; first | decide | (simp only [clS]; omega)) (by rw [hRm]; first | decide | (simp only [clS]; omega)) (fun _ => Nat.le_of_ble_eq_true rfl) (by rw [hRm]; first | decide | (simp only [clS]; omega)) (by rw [hRm]; first | decide | (simp only [clS]; omega)) dX9_right_9 (fun r9 w9 hp9 => ?_)
      obtain ⟨rfl, hw9⟩ := hp9
      rw [hw9]
      have hbw9 := ite01 (0 ≤ i ∧ i < 10)
      refine g_if_ne (tgt := 18) h dX9_right_12 (by decide) (by first | assumption | exact ⟨by omega, by omega⟩) (fun c12 => ?_) (fun c12 => ?_)
      · refine g_aload_n h dX9_right_18 rfl ?_
        refine g_getQ h flX9_45 rfl (by assumption) (by assumption) dX9_right_19 ?_
        refine g_iload_n h dX9_right_22 rfl ?_
        refine g_iload_n h dX9_right_23 rfl ?_
        refine g_callS h rfl [_, _] (c_X9_stringOf _ _ _ _) clX9_117 st_X9_stringOf rfl rfl (by rw [hRm]; first | decide | (simp only [clS]; omega)) (by rw [hRm]; first | decide | (simp only [clS]; omega)) (fun _ => Nat.le_of_ble_eq_true rfl) (by rw [hRm]; first | decide | (simp only [clS]; omega)) (by rw [hRm]; first | decide | (simp only [clS]; omega)) dX9_right_24 (fun r24 w24 hp24 => ?_)
        obtain ⟨rfl, hw24⟩ := hp24
        rw [hw24]
        refine g_iload_n h dX9_right_27 rfl ?_
        refine g_iload_n h dX9_right_28 rfl ?_
        refine g_callV h rfl (ci := 7) [_, _, _] (by assumption) (c_X7_latestReading _ _ rn sn _ _ _ hX hSI ⟨by omega, by omega⟩ har har) clX9_295 (by decide) rfl in_X7_latestReading se_X7_latestReading rfl rfl (by rw [hRm]; first | decide | (simp only [clS]; omega)) (by rw [hRm]; first | decide | (simp only [clS]; omega)) (fun _ => Nat.le_of_ble_eq_true rfl) (by rw [hRm]; first | decide | (simp only [clS]; omega)) (by rw [hRm]; first | decide | (simp only [clS]; omega)) dX9_right_29 (fun r29 w29 hp29 => ?_)
        obtain ⟨rfl, hw29⟩ := hp29
        rw [hw29]
        rw [hq, show flA (some m) = (m : Int) from rfl]
        refine g_istore h dX9_right_32 (Nat.le_of_ble_eq_true rfl) rfl rfl ?_
        refine g_iload h dX9_right_34 rfl ?_
        refine g_iconst h dX9_right_36 ?_
        refine g_icmp_ne (tgt := 45) h dX9_right_37 (by decide) (by first | assumption | exact ⟨by omega, by omega⟩) (by first | assumption | exact ⟨by omega, by omega⟩) (fun c37 => ?_) (fun c37 => ?_)
        · refine g_aload_n h dX9_right_45 rfl ?_
          refine g_getQ h flX9_45 rfl (by assumption) (by assumption) dX9_right_46 ?_
          refine g_iload h dX9_right_49 rfl ?_
          refine g_aload_n h dX9_right_51 rfl ?_
          refine g_getI h flX9_121 rfl (by assumption) dX9_right_52 ?_
          refine g_callV h rfl (ci := 7) [_, _] (by assumption) (c_X7_putRight _ _ rn sn m _ hX hSI hml ⟨by omega, by omega⟩) clX9_298 (by decide) rfl in_X7_putRight se_X7_putRight rfl rfl (by rw [hRm]; first | decide | (simp only [clS]; omega)) (by rw [hRm]; first | decide | (simp only [clS]; omega)) (fun _ => Nat.le_of_ble_eq_true rfl) (by rw [hRm]; first | decide | (simp only [clS]; omega)) (by rw [hRm]; first | decide | (simp only [clS]; omega)) dX9_right_55 (fun r55 w55 hp55 => ?_)
          obtain ⟨rfl, hw55⟩ := hp55
          rw [hw55]
          refine g_iret h hQ (by first | decide | omega | (simp only [clS]; omega)) (by first | decide | omega | (simp only [clS]; omega)) ?_ dX9_right_58
          exact ⟨rfl, fun c => by rcases c with c | c; exact absurd (by omega) c; (rw [hq] at c; cases c), fun _ m2 e => by rw [hq] at e; cases e; rfl⟩
        · exfalso; omega
      · refine g_ldc h kcX9_100 dX9_right_15 ?_
        refine g_iret h hQ (by first | decide | omega | (simp only [clS]; omega)) (by first | decide | omega | (simp only [clS]; omega)) ?_ dX9_right_17
        exact ⟨rfl, fun _ => rfl, fun q => absurd q (by omega)⟩
  · have hl := lkA_none hz
    refine g_aload_n h dX9_right_0 rfl ?_
    refine g_iload_n h dX9_right_1 rfl ?_
    refine g_callV h rfl (ci := 9) [_] (by assumption) (c_X9_lakeAt _ _ _ hX hzr) clX9_66 (by decide) rfl in_X9_lakeAt se_X9_lakeAt rfl rfl (by rw [hRm]; first | decide | (simp only [clS]; omega)) (by rw [hRm]; first | decide | (simp only [clS]; omega)) (fun _ => Nat.le_of_ble_eq_true rfl) (by rw [hRm]; first | decide | (simp only [clS]; omega)) (by rw [hRm]; first | decide | (simp only [clS]; omega)) dX9_right_2 (fun r2 w2 hp2 => ?_)
    obtain ⟨rfl, hw2⟩ := hp2
    rw [hw2, hl]
    refine g_ifnull (tgt := 15) h dX9_right_5 (by decide) (fun c => ?_) (fun _ c => by cases c)
    refine g_ldc h kcX9_100 dX9_right_15 ?_
    refine g_iret h hQ (by first | decide | omega | (simp only [clS]; omega)) (by first | decide | omega | (simp only [clS]; omega)) ?_ dX9_right_17
    exact ⟨rfl, fun _ => rfl, fun q => absurd q (by omega)⟩
