/-! ===== M: strings ===== -/
/-- what M's strings keep to -/
def MSI (w : AW) (rn sn : Nat) : Prop := w.2.1 400 58 = (rn : Int) ∧ rn ≤ 300 ∧ w.2.1 400 59 = (sn : Int) ∧ sn ≤ 60 ∧
  (∀ i, i < rn → 0 ≤ w.2.1 460 i ∧ w.2.1 460 i < 20 ∧ 0 ≤ w.2.1 461 i ∧ w.2.1 461 i ≤ 2999 ∧ 0 ≤ w.2.1 462 i ∧ w.2.1 462 i ≤ 100000) ∧
  ∀ i, i < sn → 0 ≤ w.2.1 463 i ∧ w.2.1 463 i < 20 ∧ 0 ≤ w.2.1 464 i ∧ w.2.1 464 i ≤ 2999 ∧ 0 ≤ w.2.1 465 i ∧ w.2.1 465 i ≤ 100000
/-- the latest gas of a string on a day, -1 for none -/
def roF (a d g : Nat → Int) (key day : Int) (n : Nat) : Int := match lrF a d key day day n with
  | none => -1
  | some i => g i
theorem roF_hit {a d g : Nat → Int} {key day : Int} {n i : Nat} (h : lrF a d key day day n = some i) : roF a d g key day n = g i := by unfold roF; rw [h]
theorem roF_no {a d g : Nat → Int} {key day : Int} {n : Nat} (h : lrF a d key day day n = none) : roF a d g key day n = -1 := by unfold roF; rw [h]
theorem lrF_lt2 {a d : Nat → Int} {key f l : Int} : ∀ (n i : Nat), lrF a d key f l n = some i → i < n
  | 0, _, h => by cases h
  | n + 1, i, h => by
    unfold lrF at h
    split at h
    · cases h; omega
    · have := lrF_lt2 n i h; omega
theorem roF_bd {a d g : Nat → Int} {key day : Int} {n : Nat} (h : ∀ i, i < n → 0 ≤ g i ∧ g i ≤ 100000) : -1 ≤ roF a d g key day n ∧ roF a d g key day n ≤ 100000 := by
  cases e : lrF a d key day day n with
  | none => rw [roF_no e]; omega
  | some i =>
    rw [roF_hit e]
    have := h i (lrF_lt2 n i e)
    omega
def rdM (w : AW) (key day : Int) (rn : Nat) : Int := roF (w.2.1 460) (w.2.1 461) (w.2.1 462) key day rn
def sdM (w : AW) (key day : Int) (sn : Nat) : Int := roF (w.2.1 463) (w.2.1 464) (w.2.1 465) key day sn
def drM (w : AW) (key day : Int) (rn sn : Nat) : Int := sdM w key day sn - rdM w key day rn
theorem rdM_bd {w : AW} {rn sn : Nat} (h : MSI w rn sn) (key day : Int) : -1 ≤ rdM w key day rn ∧ rdM w key day rn ≤ 100000 := roF_bd (fun i hi => (h.2.2.2.2.1 i hi).2.2.2.2)
theorem sdM_bd {w : AW} {rn sn : Nat} (h : MSI w rn sn) (key day : Int) : -1 ≤ sdM w key day sn ∧ sdM w key day sn ≤ 100000 := roF_bd (fun i hi => (h.2.2.2.2.2 i hi).2.2.2.2)
theorem drM_bd {w : AW} {rn sn : Nat} (h : MSI w rn sn) (key day : Int) : -100001 ≤ drM w key day rn sn ∧ drM w key day rn sn ≤ 100001 := by
  have h1 := rdM_bd h key day
  have h2 := sdM_bd h key day
  unfold drM
  omega
set_option maxRecDepth 100000 in
set_option maxHeartbeats 4000000 in
theorem c_X12_readingOn (l : Launch) (w : AW) (rn sn : Nat) (key day : Int) (hM : MS w) (hI : MSI w rn sn) (hk : R32 key) (hd : R32 day) : HT l yX12_readingOn cX12_readingOn 4 (some .int) 1 0 0 w [ar 400, ai key, ai day] (rI (rdM w key day rn) w) := by
  refine HT.of (by decide) (by intro v hv; simp only [List.mem_cons, List.not_mem_nil, or_false] at hv; rcases hv with rfl | rfl | rfl <;> rfl) (Nat.le_of_ble_eq_true rfl) ?_
  intro Γ h hQ hRm hnm hl hw0
  have s400 : w.1 400 = (112, 0) := hM.1 400 (by decide) (by decide)
  have s460 : w.1 460 = (1, 300) := hM.1 460 (by decide) (by decide)
  have s461 : w.1 461 = (1, 300) := hM.1 461 (by decide) (by decide)
  have s462 : w.1 462 = (1, 300) := hM.1 462 (by decide) (by decide)
  have p60 : w.2.2 400 60 = some 460 := hM.2 (400, 60, 460) (by decide)
  have p61 : w.2.2 400 61 = some 461 := hM.2 (400, 61, 461) (by decide)
  have p62 : w.2.2 400 62 = some 462 := hM.2 (400, 62, 462) (by decide)
  obtain ⟨hrn, hrn3, hsn, hsn3, hr, hs⟩ := id hI
  have loop : ∀ (i : Nat) (z : Int), z + 1 = (i : Int) → i ≤ rn → lrF (w.2.1 460) (w.2.1 461) key day day i = lrF (w.2.1 460) (w.2.1 461) key day day rn → GG Γ 7 [some (ar 400), some (ai key), some (ai day), some (ai z)] [] w 0 0 := by
    intro i
    induction i with
    | zero =>
      intro z hz _ hl0
      obtain rfl : z = -1 := by omega
      have hno : lrF (w.2.1 460) (w.2.1 461) key day day rn = none := hl0.symm
      refine g_iload_n h dX12_readingOn_7 rfl ?_
      refine g_if_lt (tgt := 44) h dX12_readingOn_8 (by decide) (by first | assumption | exact ⟨by omega, by omega⟩) (fun c8 => ?_) (fun c8 => ?_)
      · refine g_iconst h dX12_readingOn_44 ?_
        refine g_iret h hQ (by first | decide | omega | (simp only [clS]; omega)) (by first | decide | omega | (simp only [clS]; omega)) ?_ dX12_readingOn_45
        exact ⟨congrArg (fun z => some (ai z)) (roF_no hno).symm, rfl⟩
      · exfalso; omega
    | succ i ih =>
      intro z hz hin hl0
      obtain rfl : z = (i : Int) := by omega
      have hri := hr i (by omega)
      have hst : lrF (w.2.1 460) (w.2.1 461) key day day (i + 1) = if w.2.1 460 i = key ∧ day ≤ w.2.1 461 i ∧ w.2.1 461 i ≤ day then some i else lrF (w.2.1 460) (w.2.1 461) key day day i := rfl
      rw [hst] at hl0
      refine g_iload_n h dX12_readingOn_7 rfl ?_
      refine g_if_lt (tgt := 44) h dX12_readingOn_8 (by decide) (by first | assumption | exact ⟨by omega, by omega⟩) (fun c8 => ?_) (fun c8 => ?_)
      · exfalso; omega
      · refine g_aload_n h dX12_readingOn_11 rfl ?_
        refine g_getQ h flX12_137 rfl (by assumption) (by assumption) dX12_readingOn_12 ?_
        refine g_iload_n h dX12_readingOn_15 rfl ?_
        refine g_iald h _ (by assumption) rfl (by first | omega | assumption) (by first | decide | omega) dX12_readingOn_16 ?_
        refine g_iload_n h dX12_readingOn_17 rfl ?_
        refine g_icmp_ne (tgt := 38) h dX12_readingOn_18 (by decide) (by first | assumption | exact ⟨by omega, by omega⟩) (by first | assumption | exact ⟨by omega, by omega⟩) (fun c18 => ?_) (fun c18 => ?_)
        · refine g_iinc h dX12_readingOn_38 rfl (Nat.le_of_ble_eq_true rfl) rfl rfl ?_
          refine g_goto (tgt := 7) h dX12_readingOn_41 (by decide) ?_
          rw [if_neg (fun q => by omega)] at hl0
          exact ih ((i : Int) + -1) (by omega) (by omega) hl0
        · refine g_aload_n h dX12_readingOn_21 rfl ?_
          refine g_getQ h flX12_140 rfl (by assumption) (by assumption) dX12_readingOn_22 ?_
          refine g_iload_n h dX12_readingOn_25 rfl ?_
          refine g_iald h _ (by assumption) rfl (by first | omega | assumption) (by first | decide | omega) dX12_readingOn_26 ?_
          refine g_iload_n h dX12_readingOn_27 rfl ?_
          refine g_icmp_ne (tgt := 38) h dX12_readingOn_28 (by decide) (by first | assumption | exact ⟨by omega, by omega⟩) (by first | assumption | exact ⟨by omega, by omega⟩) (fun c28 => ?_) (fun c28 => ?_)
          · refine g_iinc h dX12_readingOn_38 rfl (Nat.le_of_ble_eq_true rfl) rfl rfl ?_
            refine g_goto (tgt := 7) h dX12_readingOn_41 (by decide) ?_
            rw [if_neg (fun q => by omega)] at hl0
            exact ih ((i : Int) + -1) (by omega) (by omega) hl0
          · refine g_aload_n h dX12_readingOn_31 rfl ?_
            refine g_getQ h flX12_143 rfl (by assumption) (by assumption) dX12_readingOn_32 ?_
            refine g_iload_n h dX12_readingOn_35 rfl ?_
            refine g_iald h _ (by assumption) rfl (by first | omega | assumption) (by first | decide | omega) dX12_readingOn_36 ?_
            refine g_iret h hQ (by first | decide | omega | (simp only [clS]; omega)) (by first | decide | omega | (simp only [clS]; omega)) ?_ dX12_readingOn_37
            rw [if_pos ⟨by assumption, by omega, by omega⟩] at hl0
            exact ⟨congrArg (fun z => some (ai z)) (roF_hit hl0.symm).symm, rfl⟩
  refine g_aload_n h dX12_readingOn_0 rfl ?_
  refine g_getI h flX12_483 rfl (by assumption) dX12_readingOn_1 ?_
  rw [hrn]
  refine g_iconst h dX12_readingOn_4 ?_
  refine g_isub h dX12_readingOn_5 ?_
  refine g_istore_n h dX12_readingOn_6 (Nat.le_of_ble_eq_true rfl) rfl rfl ?_
  exact loop rn _ (by omega) (Nat.le_refl _) rfl
set_option maxRecDepth 100000 in
set_option maxHeartbeats 4000000 in
theorem c_X12_soundingOn (l : Launch) (w : AW) (rn sn : Nat) (key day : Int) (hM : MS w) (hI : MSI w rn sn) (hk : R32 key) (hd : R32 day) : HT l yX12_soundingOn cX12_soundingOn 4 (some .int) 1 0 0 w [ar 400, ai key, ai day] (rI (sdM w key day sn) w) := by
  refine HT.of (by decide) (by intro v hv; simp only [List.mem_cons, List.not_mem_nil, or_false] at hv; rcases hv with rfl | rfl | rfl <;> rfl) (Nat.le_of_ble_eq_true rfl) ?_
  intro Γ h hQ hRm hnm hl hw0
  have s400 : w.1 400 = (112, 0) := hM.1 400 (by decide) (by decide)
  have s463 : w.1 463 = (1, 60) := hM.1 463 (by decide) (by decide)
  have s464 : w.1 464 = (1, 60) := hM.1 464 (by decide) (by decide)
  have s465 : w.1 465 = (1, 60) := hM.1 465 (by decide) (by decide)
  have p63 : w.2.2 400 63 = some 463 := hM.2 (400, 63, 463) (by decide)
  have p64 : w.2.2 400 64 = some 464 := hM.2 (400, 64, 464) (by decide)
  have p65 : w.2.2 400 65 = some 465 := hM.2 (400, 65, 465) (by decide)
  obtain ⟨hrn, hrn3, hsn, hsn3, hr, hs⟩ := id hI
  have loop : ∀ (i : Nat) (z : Int), z + 1 = (i : Int) → i ≤ sn → lrF (w.2.1 463) (w.2.1 464) key day day i = lrF (w.2.1 463) (w.2.1 464) key day day sn → GG Γ 7 [some (ar 400), some (ai key), some (ai day), some (ai z)] [] w 0 0 := by
    intro i
    induction i with
    | zero =>
      intro z hz _ hl0
      obtain rfl : z = -1 := by omega
      have hno : lrF (w.2.1 463) (w.2.1 464) key day day sn = none := hl0.symm
      refine g_iload_n h dX12_soundingOn_7 rfl ?_
      refine g_if_lt (tgt := 44) h dX12_soundingOn_8 (by decide) (by first | assumption | exact ⟨by omega, by omega⟩) (fun c8 => ?_) (fun c8 => ?_)
      · refine g_iconst h dX12_soundingOn_44 ?_
        refine g_iret h hQ (by first | decide | omega | (simp only [clS]; omega)) (by first | decide | omega | (simp only [clS]; omega)) ?_ dX12_soundingOn_45
        exact ⟨congrArg (fun z => some (ai z)) (roF_no hno).symm, rfl⟩
      · exfalso; omega
    | succ i ih =>
      intro z hz hin hl0
      obtain rfl : z = (i : Int) := by omega
      have hri := hs i (by omega)
      have hst : lrF (w.2.1 463) (w.2.1 464) key day day (i + 1) = if w.2.1 463 i = key ∧ day ≤ w.2.1 464 i ∧ w.2.1 464 i ≤ day then some i else lrF (w.2.1 463) (w.2.1 464) key day day i := rfl
      rw [hst] at hl0
      refine g_iload_n h dX12_soundingOn_7 rfl ?_
      refine g_if_lt (tgt := 44) h dX12_soundingOn_8 (by decide) (by first | assumption | exact ⟨by omega, by omega⟩) (fun c8 => ?_) (fun c8 => ?_)
      · exfalso; omega
      · refine g_aload_n h dX12_soundingOn_11 rfl ?_
        refine g_getQ h flX12_146 rfl (by assumption) (by assumption) dX12_soundingOn_12 ?_
        refine g_iload_n h dX12_soundingOn_15 rfl ?_
        refine g_iald h _ (by assumption) rfl (by first | omega | assumption) (by first | decide | omega) dX12_soundingOn_16 ?_
        refine g_iload_n h dX12_soundingOn_17 rfl ?_
        refine g_icmp_ne (tgt := 38) h dX12_soundingOn_18 (by decide) (by first | assumption | exact ⟨by omega, by omega⟩) (by first | assumption | exact ⟨by omega, by omega⟩) (fun c18 => ?_) (fun c18 => ?_)
        · refine g_iinc h dX12_soundingOn_38 rfl (Nat.le_of_ble_eq_true rfl) rfl rfl ?_
          refine g_goto (tgt := 7) h dX12_soundingOn_41 (by decide) ?_
          rw [if_neg (fun q => by omega)] at hl0
          exact ih ((i : Int) + -1) (by omega) (by omega) hl0
        · refine g_aload_n h dX12_soundingOn_21 rfl ?_
          refine g_getQ h flX12_149 rfl (by assumption) (by assumption) dX12_soundingOn_22 ?_
          refine g_iload_n h dX12_soundingOn_25 rfl ?_
          refine g_iald h _ (by assumption) rfl (by first | omega | assumption) (by first | decide | omega) dX12_soundingOn_26 ?_
          refine g_iload_n h dX12_soundingOn_27 rfl ?_
          refine g_icmp_ne (tgt := 38) h dX12_soundingOn_28 (by decide) (by first | assumption | exact ⟨by omega, by omega⟩) (by first | assumption | exact ⟨by omega, by omega⟩) (fun c28 => ?_) (fun c28 => ?_)
          · refine g_iinc h dX12_soundingOn_38 rfl (Nat.le_of_ble_eq_true rfl) rfl rfl ?_
            refine g_goto (tgt := 7) h dX12_soundingOn_41 (by decide) ?_
            rw [if_neg (fun q => by omega)] at hl0
            exact ih ((i : Int) + -1) (by omega) (by omega) hl0
          · refine g_aload_n h dX12_soundingOn_31 rfl ?_
            refine g_getQ h flX12_152 rfl (by assumption) (by assumption) dX12_soundingOn_32 ?_
            refine g_iload_n h dX12_soundingOn_35 rfl ?_
            refine g_iald h _ (by assumption) rfl (by first | omega | assumption) (by first | decide | omega) dX12_soundingOn_36 ?_
            refine g_iret h hQ (by first | decide | omega | (simp only [clS]; omega)) (by first | decide | omega | (simp only [clS]; omega)) ?_ dX12_soundingOn_37
            rw [if_pos ⟨by assumption, by omega, by omega⟩] at hl0
            exact ⟨congrArg (fun z => some (ai z)) (roF_hit hl0.symm).symm, rfl⟩
  refine g_aload_n h dX12_soundingOn_0 rfl ?_
  refine g_getI h flX12_486 rfl (by assumption) dX12_soundingOn_1 ?_
  rw [hsn]
  refine g_iconst h dX12_soundingOn_4 ?_
  refine g_isub h dX12_soundingOn_5 ?_
  refine g_istore_n h dX12_soundingOn_6 (Nat.le_of_ble_eq_true rfl) rfl rfl ?_
  exact loop sn _ (by omega) (Nat.le_refl _) rfl
set_option maxRecDepth 100000 in
set_option maxHeartbeats 4000000 in
theorem c_X12_driftOn (l : Launch) (w : AW) (rn sn : Nat) (key day : Int) (hM : MS w) (hI : MSI w rn sn) (hk : R32 key) (hd : R32 day) : HT l yX12_driftOn cX12_driftOn 3 (some .int) 2 0 0 w [ar 400, ai key, ai day] (rI (drM w key day rn sn) w) := by
  refine HT.of (by decide) (by intro v hv; simp only [List.mem_cons, List.not_mem_nil, or_false] at hv; rcases hv with rfl | rfl | rfl <;> rfl) (Nat.le_of_ble_eq_true rfl) ?_
  intro Γ h hQ hRm hnm hl hw0
  have s400 : w.1 400 = (112, 0) := hM.1 400 (by decide) (by decide)
  refine g_aload_n h dX12_driftOn_0 rfl ?_
  refine g_iload_n h dX12_driftOn_1 rfl ?_
  refine g_iload_n h dX12_driftOn_2 rfl ?_
  refine g_callV h rfl (ci := 12) [_, _] (by assumption) (c_X12_soundingOn _ _ rn sn key day hM hI hk hd) clX12_498 (by decide) rfl in_X12_soundingOn se_X12_soundingOn rfl rfl (by rw [hRm]; first | decide | (simp only [clS]; omega)) (by rw [hRm]; first | decide | (simp only [clS]; omega)) (fun _ => Nat.le_of_ble_eq_true rfl) (by rw [hRm]; first | decide | (simp only [clS]; omega)) (by rw [hRm]; first | decide | (simp only [clS]; omega)) dX12_driftOn_3 (fun r3 w3 hp3 => ?_)
  obtain ⟨rfl, hw3⟩ := hp3
  rw [hw3]
  refine g_aload_n h dX12_driftOn_6 rfl ?_
  refine g_iload_n h dX12_driftOn_7 rfl ?_
  refine g_iload_n h dX12_driftOn_8 rfl ?_
  refine g_callV h rfl (ci := 12) [_, _] (by assumption) (c_X12_readingOn _ _ rn sn key day hM hI hk hd) clX12_492 (by decide) rfl in_X12_readingOn se_X12_readingOn rfl rfl (by rw [hRm]; first | decide | (simp only [clS]; omega)) (by rw [hRm]; first | decide | (simp only [clS]; omega)) (fun _ => Nat.le_of_ble_eq_true rfl) (by rw [hRm]; first | decide | (simp only [clS]; omega)) (by rw [hRm]; first | decide | (simp only [clS]; omega)) dX12_driftOn_9 (fun r9 w9 hp9 => ?_)
  obtain ⟨rfl, hw9⟩ := hp9
  rw [hw9]
  refine g_isub h dX12_driftOn_12 ?_
  refine g_iret h hQ (by first | decide | omega | (simp only [clS]; omega)) (by first | decide | omega | (simp only [clS]; omega)) ?_ dX12_driftOn_13
  (first | exact ⟨rfl, rfl⟩ | (exfalso; omega))
theorem ediv_tm {a b : Int} (hb : 0 < b) : a / b = a.tdiv b - (if a.tmod b < 0 then 1 else 0) := by
  by_cases h0 : 0 ≤ a
  · have := Int.tmod_nonneg b h0
    rw [if_neg (by omega), Int.tdiv_eq_ediv_of_nonneg h0]
    omega
  · have h1 := Int.tdiv_eq_ediv (a := a) (b := b)
    have h2 := Int.tmod_add_tdiv_mul a b
    have h3 := Int.emod_add_ediv_mul a b
    have m1 := Int.emod_nonneg a (show b ≠ 0 by omega)
    have m2 := Int.emod_lt_of_pos a hb
    have hs : b.sign = 1 := Int.sign_eq_one_of_pos hb
    by_cases hd : b ∣ a
    · rw [if_pos (Or.inr hd)] at h1
      have e0 : a.tmod b = 0 := Int.tmod_eq_zero_of_dvd hd
      rw [if_neg (by omega)]
      omega
    · rw [if_neg (fun q => by rcases q with q | q; exact h0 q; exact hd q), hs] at h1
      have hne : a.tmod b ≠ 0 := fun q => hd (Int.dvd_of_tmod_eq_zero q)
      have hle := Int.tmod_nonneg b (show 0 ≤ -a by omega)
      rw [Int.neg_tmod] at hle
      rw [if_pos (by omega)]
      omega
set_option maxRecDepth 100000 in
set_option maxHeartbeats 4000000 in
theorem c_X12_down (l : Launch) (w : AW) (a b : Int) (ha : R32 a) (hb : R32 b) (h0 : 0 < b) : HT l yX12_down cX12_down 2 (some .int) 1 0 0 w [ai a, ai b] (rI (a / b) w) := by
  refine HT.of (by decide) (by intro v hv; simp only [List.mem_cons, List.not_mem_nil, or_false] at hv; rcases hv with rfl | rfl <;> rfl) (Nat.le_of_ble_eq_true rfl) ?_
  intro Γ h hQ hRm hnm hl hw0
  have htm : R32 (a.tmod b) := by
    have h2 := Int.tmod_add_tdiv_mul a b
    have h3 := Int.tmod_lt_of_pos a h0
    have h4 := Int.lt_tmod_of_pos a h0
    omega
  refine g_iload_n h dX12_down_0 rfl ?_
  refine g_iload_n h dX12_down_1 rfl ?_
  refine g_idivT h ha hb h0 dX12_down_2 ?_
  refine g_iload_n h dX12_down_3 rfl ?_
  refine g_iload_n h dX12_down_4 rfl ?_
  refine g_iremT h ha hb h0 dX12_down_5 ?_
  refine g_if_ge (tgt := 13) h dX12_down_6 (by decide) (by first | assumption | exact ⟨by omega, by omega⟩) (fun c6 => ?_) (fun c6 => ?_)
  · refine g_iconst h dX12_down_13 ?_
    refine g_isub h dX12_down_14 ?_
    refine g_iret h hQ (by first | decide | omega | (simp only [clS]; omega)) (by first | decide | omega | (simp only [clS]; omega)) ?_ dX12_down_15
    refine ⟨congrArg (fun z => some (ai z)) ?_, rfl⟩
    rw [ediv_tm h0]
    first | rw [if_pos (by omega)] | rw [if_neg (by omega)]
  · refine g_iconst h dX12_down_9 ?_
    refine g_goto (tgt := 14) h dX12_down_10 (by decide) ?_
    refine g_isub h dX12_down_14 ?_
    refine g_iret h hQ (by first | decide | omega | (simp only [clS]; omega)) (by first | decide | omega | (simp only [clS]; omega)) ?_ dX12_down_15
    refine ⟨congrArg (fun z => some (ai z)) ?_, rfl⟩
    rw [ediv_tm h0]
    first | rw [if_pos (by omega)] | rw [if_neg (by omega)]
/-- the days of the soundings ahead of a day and behind it -/
def dfB (a d : Nat → Int) (key day by_ : Int) : Nat → Int × Int
  | 0 => (-1, 1000000)
  | n + 1 => if a n ≠ key ∨ by_ < d n then dfB a d key day by_ n else (if d n ≤ day then max (dfB a d key day by_ n).1 (d n) else (dfB a d key day by_ n).1, if day ≤ d n then min (dfB a d key day by_ n).2 (d n) else (dfB a d key day by_ n).2)
theorem dfB_bd {a d : Nat → Int} {key day by_ : Int} (hd0 : 0 ≤ day) (hd1 : day ≤ 2999) : ∀ (n : Nat), (∀ i, i < n → 0 ≤ d i ∧ d i ≤ 2999) → (-1 ≤ (dfB a d key day by_ n).1 ∧ (dfB a d key day by_ n).1 ≤ day) ∧ day ≤ (dfB a d key day by_ n).2 ∧ ((dfB a d key day by_ n).2 ≤ 2999 ∨ (dfB a d key day by_ n).2 = 1000000)
  | 0, _ => by show (-1 ≤ (-1 : Int) ∧ (-1 : Int) ≤ day) ∧ day ≤ (1000000 : Int) ∧ ((1000000 : Int) ≤ 2999 ∨ (1000000 : Int) = 1000000); omega
  | n + 1, h => by
    obtain ⟨h1, h2, h3⟩ := dfB_bd (a := a) (d := d) (key := key) (by_ := by_) hd0 hd1 n (fun i hi => h i (by omega))
    have h4 := h n (by omega)
    unfold dfB
    split
    · exact ⟨h1, h2, h3⟩
    · refine ⟨?_, ?_⟩
      · show -1 ≤ (if d n ≤ day then _ else _) ∧ (if d n ≤ day then _ else _) ≤ day
        split <;> omega
      · show day ≤ (if day ≤ d n then _ else _) ∧ ((if day ≤ d n then _ else _) ≤ 2999 ∨ (if day ≤ d n then _ else _) = 1000000)
        split <;> omega
def dfM (w : AW) (key day by_ : Int) (q : Int × Int) (rn sn : Nat) : Int :=
  if q.1 = -1 ∧ q.2 = 1000000 then 0 else if q.1 = -1 ∨ q.2 = 1000000 ∨ q.1 = q.2 then drM w key (if q.1 = -1 then q.2 else q.1) rn sn
  else drM w key q.1 rn sn + (drM w key q.2 rn sn - drM w key q.1 rn sn) * (day - q.1) / (q.2 - q.1)
def drfM (w : AW) (key day by_ : Int) (rn sn : Nat) : Int := dfM w key day by_ (dfB (w.2.1 463) (w.2.1 464) key day by_ sn) rn sn
theorem mul_sb {a b A B : Int} (h1 : -A ≤ a) (h2 : a ≤ A) (h3 : 0 ≤ b) (h4 : b ≤ B) (hA : 0 ≤ A) : -(A * B) ≤ a * b ∧ a * b ≤ A * B := by
  have e1 : a * b ≤ A * b := Int.mul_le_mul_of_nonneg_right h2 h3
  have e2 : A * b ≤ A * B := Int.mul_le_mul_of_nonneg_left h4 hA
  have e3 : -A * b ≤ a * b := Int.mul_le_mul_of_nonneg_right h1 h3
  rw [Int.neg_mul] at e3
  omega
set_option maxRecDepth 100000 in
set_option maxHeartbeats 4000000 in
theorem c_X12_drift (l : Launch) (w : AW) (rn sn : Nat) (key day by_ : Int) (hM : MS w) (hI : MSI w rn sn) (hk : R32 key) (hd : 0 ≤ day ∧ day ≤ 2999) (hby : R32 by_) : HT l yX12_drift cX12_drift 7 (some .int) 3 0 0 w [ar 400, ai key, ai day, ai by_] (rI (drfM w key day by_ rn sn) w) := by
  refine HT.of (by decide) (by intro v hv; simp only [List.mem_cons, List.not_mem_nil, or_false] at hv; rcases hv with rfl | rfl | rfl | rfl <;> rfl) (Nat.le_of_ble_eq_true rfl) ?_
  intro Γ h hQ hRm hnm hl hw0
  have s400 : w.1 400 = (112, 0) := hM.1 400 (by decide) (by decide)
  have s463 : w.1 463 = (1, 60) := hM.1 463 (by decide) (by decide)
  have s464 : w.1 464 = (1, 60) := hM.1 464 (by decide) (by decide)
  have p63 : w.2.2 400 63 = some 463 := hM.2 (400, 63, 463) (by decide)
  have p64 : w.2.2 400 64 = some 464 := hM.2 (400, 64, 464) (by decide)
  obtain ⟨hrn, hrn3, hsn, hsn3, hr, hs⟩ := id hI
  have fin : ∀ (q : Int × Int) (x : Option AV), q = (dfB (w.2.1 463) (w.2.1 464) key day by_ sn) → GG Γ 101 [some (ar 400), some (ai key), some (ai day), some (ai by_), some (ai q.1), some (ai q.2), x] [] w 0 0 := by
    intro q x hq
    have hqb := dfB_bd (a := w.2.1 463) (d := w.2.1 464) (key := key) (by_ := by_) hd.1 hd.2 sn (fun i hi => ⟨(hs i hi).2.2.1, (hs i hi).2.2.2.1⟩)
    rw [← hq] at hqb
    obtain ⟨hb1, hb2, hb3⟩ := hqb
    have hd1 := drM_bd hI key q.1
    have hd2 := drM_bd hI key q.2
    have hml := mul_sb (a := drM w key q.2 rn sn - drM w key q.1 rn sn) (b := day - q.1) (A := 200002) (B := 3000) (by omega) (by omega) (by omega) (by omega) (by decide)
    have hfin : drfM w key day by_ rn sn = dfM w key day by_ q rn sn := by unfold drfM; rw [← hq]
    rw [hfin] at hQ
    refine g_iload h dX12_drift_101 rfl ?_
    refine g_iconst h dX12_drift_103 ?_
    refine g_icmp_ne (tgt := 117) h dX12_drift_104 (by decide) (by first | assumption | exact ⟨by omega, by omega⟩) (by first | assumption | exact ⟨by omega, by omega⟩) (fun c104 => ?_) (fun c104 => ?_)
    · refine g_iload h dX12_drift_117 rfl ?_
      refine g_iconst h dX12_drift_119 ?_
      refine g_icmp_eq (tgt := 138) h dX12_drift_120 (by decide) (by first | assumption | exact ⟨by omega, by omega⟩) (by first | assumption | exact ⟨by omega, by omega⟩) (fun c120 => ?_) (fun c120 => ?_)
      · refine g_aload_n h dX12_drift_138 rfl ?_
        refine g_iload_n h dX12_drift_139 rfl ?_
        refine g_iload h dX12_drift_140 rfl ?_
        refine g_iconst h dX12_drift_142 ?_
        refine g_icmp_ne (tgt := 151) h dX12_drift_143 (by decide) (by first | assumption | exact ⟨by omega, by omega⟩) (by first | assumption | exact ⟨by omega, by omega⟩) (fun c143 => ?_) (fun c143 => ?_)
        · refine g_iload h dX12_drift_151 rfl ?_
          refine g_callV h rfl (ci := 12) [_, _] (by assumption) (c_X12_driftOn _ _ rn sn key _ hM hI hk ⟨by omega, by omega⟩) clX12_495 (by decide) rfl in_X12_driftOn se_X12_driftOn rfl rfl (by rw [hRm]; first | decide | (simp only [clS]; omega)) (by rw [hRm]; first | decide | (simp only [clS]; omega)) (fun _ => Nat.le_of_ble_eq_true rfl) (by rw [hRm]; first | decide | (simp only [clS]; omega)) (by rw [hRm]; first | decide | (simp only [clS]; omega)) dX12_drift_153 (fun r153 w153 hp153 => ?_)
          obtain ⟨rfl, hw153⟩ := hp153
          rw [hw153]
          refine g_iret h hQ (by first | decide | omega | (simp only [clS]; omega)) (by first | decide | omega | (simp only [clS]; omega)) ?_ dX12_drift_156
          refine ⟨congrArg (fun z => some (ai z)) ?_, rfl⟩
          unfold dfM
          first
          | (exfalso; omega)
          | (rw [if_pos ⟨by omega, by omega⟩])
          | (rw [if_neg (by omega), if_pos (by omega)]
             first | rw [if_pos (by omega)] | rw [if_neg (by omega)])
          | (rw [if_neg (by omega), if_neg (by omega)])
        · refine g_iload h dX12_drift_146 rfl ?_
          refine g_goto (tgt := 153) h dX12_drift_148 (by decide) ?_
          refine g_callV h rfl (ci := 12) [_, _] (by assumption) (c_X12_driftOn _ _ rn sn key _ hM hI hk ⟨by omega, by omega⟩) clX12_495 (by decide) rfl in_X12_driftOn se_X12_driftOn rfl rfl (by rw [hRm]; first | decide | (simp only [clS]; omega)) (by rw [hRm]; first | decide | (simp only [clS]; omega)) (fun _ => Nat.le_of_ble_eq_true rfl) (by rw [hRm]; first | decide | (simp only [clS]; omega)) (by rw [hRm]; first | decide | (simp only [clS]; omega)) dX12_drift_153 (fun r153 w153 hp153 => ?_)
          obtain ⟨rfl, hw153⟩ := hp153
          rw [hw153]
          refine g_iret h hQ (by first | decide | omega | (simp only [clS]; omega)) (by first | decide | omega | (simp only [clS]; omega)) ?_ dX12_drift_156
          refine ⟨congrArg (fun z => some (ai z)) ?_, rfl⟩
          unfold dfM
          first
          | (exfalso; omega)
          | (rw [if_pos ⟨by omega, by omega⟩])
          | (rw [if_neg (by omega), if_pos (by omega)]
             first | rw [if_pos (by omega)] | rw [if_neg (by omega)])
          | (rw [if_neg (by omega), if_neg (by omega)])
      · refine g_iload h dX12_drift_123 rfl ?_
        refine g_ldcw h kcX12_301 dX12_drift_125 ?_
        refine g_icmp_eq (tgt := 138) h dX12_drift_128 (by decide) (by first | assumption | exact ⟨by omega, by omega⟩) (by first | assumption | exact ⟨by omega, by omega⟩) (fun c128 => ?_) (fun c128 => ?_)
        · refine g_aload_n h dX12_drift_138 rfl ?_
          refine g_iload_n h dX12_drift_139 rfl ?_
          refine g_iload h dX12_drift_140 rfl ?_
          refine g_iconst h dX12_drift_142 ?_
          refine g_icmp_ne (tgt := 151) h dX12_drift_143 (by decide) (by first | assumption | exact ⟨by omega, by omega⟩) (by first | assumption | exact ⟨by omega, by omega⟩) (fun c143 => ?_) (fun c143 => ?_)
          · refine g_iload h dX12_drift_151 rfl ?_
            refine g_callV h rfl (ci := 12) [_, _] (by assumption) (c_X12_driftOn _ _ rn sn key _ hM hI hk ⟨by omega, by omega⟩) clX12_495 (by decide) rfl in_X12_driftOn se_X12_driftOn rfl rfl (by rw [hRm]; first | decide | (simp only [clS]; omega)) (by rw [hRm]; first | decide | (simp only [clS]; omega)) (fun _ => Nat.le_of_ble_eq_true rfl) (by rw [hRm]; first | decide | (simp only [clS]; omega)) (by rw [hRm]; first | decide | (simp only [clS]; omega)) dX12_drift_153 (fun r153 w153 hp153 => ?_)
            obtain ⟨rfl, hw153⟩ := hp153
            rw [hw153]
            refine g_iret h hQ (by first | decide | omega | (simp only [clS]; omega)) (by first | decide | omega | (simp only [clS]; omega)) ?_ dX12_drift_156
            refine ⟨congrArg (fun z => some (ai z)) ?_, rfl⟩
            unfold dfM
            first
            | (exfalso; omega)
            | (rw [if_pos ⟨by omega, by omega⟩])
            | (rw [if_neg (by omega), if_pos (by omega)]
               first | rw [if_pos (by omega)] | rw [if_neg (by omega)])
            | (rw [if_neg (by omega), if_neg (by omega)])
          · refine g_iload h dX12_drift_146 rfl ?_
            refine g_goto (tgt := 153) h dX12_drift_148 (by decide) ?_
            refine g_callV h rfl (ci := 12) [_, _] (by assumption) (c_X12_driftOn _ _ rn sn key _ hM hI hk ⟨by omega, by omega⟩) clX12_495 (by decide) rfl in_X12_driftOn se_X12_driftOn rfl rfl (by rw [hRm]; first | decide | (simp only [clS]; omega)) (by rw [hRm]; first | decide | (simp only [clS]; omega)) (fun _ => Nat.le_of_ble_eq_true rfl) (by rw [hRm]; first | decide | (simp only [clS]; omega)) (by rw [hRm]; first | decide | (simp only [clS]; omega)) dX12_drift_153 (fun r153 w153 hp153 => ?_)
            obtain ⟨rfl, hw153⟩ := hp153
            rw [hw153]
            refine g_iret h hQ (by first | decide | omega | (simp only [clS]; omega)) (by first | decide | omega | (simp only [clS]; omega)) ?_ dX12_drift_156
            refine ⟨congrArg (fun z => some (ai z)) ?_, rfl⟩
            unfold dfM
            first
            | (exfalso; omega)
            | (rw [if_pos ⟨by omega, by omega⟩])
            | (rw [if_neg (by omega), if_pos (by omega)]
               first | rw [if_pos (by omega)] | rw [if_neg (by omega)])
            | (rw [if_neg (by omega), if_neg (by omega)])
        · refine g_iload h dX12_drift_131 rfl ?_
          refine g_iload h dX12_drift_133 rfl ?_
          refine g_icmp_ne (tgt := 157) h dX12_drift_135 (by decide) (by first | assumption | exact ⟨by omega, by omega⟩) (by first | assumption | exact ⟨by omega, by omega⟩) (fun c135 => ?_) (fun c135 => ?_)
          · refine g_aload_n h dX12_drift_157 rfl ?_
            refine g_iload_n h dX12_drift_158 rfl ?_
            refine g_iload h dX12_drift_159 rfl ?_
            refine g_callV h rfl (ci := 12) [_, _] (by assumption) (c_X12_driftOn _ _ rn sn key q.1 hM hI hk ⟨by omega, by omega⟩) clX12_495 (by decide) rfl in_X12_driftOn se_X12_driftOn rfl rfl (by rw [hRm]; first | decide | (simp only [clS]; omega)) (by rw [hRm]; first | decide | (simp only [clS]; omega)) (fun _ => Nat.le_of_ble_eq_true rfl) (by rw [hRm]; first | decide | (simp only [clS]; omega)) (by rw [hRm]; first | decide | (simp only [clS]; omega)) dX12_drift_161 (fun r161 w161 hp161 => ?_)
            obtain ⟨rfl, hw161⟩ := hp161
            rw [hw161]
            refine g_istore h dX12_drift_164 (Nat.le_of_ble_eq_true rfl) rfl rfl ?_
            refine g_iload h dX12_drift_166 rfl ?_
            refine g_aload_n h dX12_drift_168 rfl ?_
            refine g_iload_n h dX12_drift_169 rfl ?_
            refine g_iload h dX12_drift_170 rfl ?_
            refine g_callV h rfl (ci := 12) [_, _] (by assumption) (c_X12_driftOn _ _ rn sn key q.2 hM hI hk ⟨by omega, by omega⟩) clX12_495 (by decide) rfl in_X12_driftOn se_X12_driftOn rfl rfl (by rw [hRm]; first | decide | (simp only [clS]; omega)) (by rw [hRm]; first | decide | (simp only [clS]; omega)) (fun _ => Nat.le_of_ble_eq_true rfl) (by rw [hRm]; first | decide | (simp only [clS]; omega)) (by rw [hRm]; first | decide | (simp only [clS]; omega)) dX12_drift_172 (fun r172 w172 hp172 => ?_)
            obtain ⟨rfl, hw172⟩ := hp172
            rw [hw172]
            refine g_iload h dX12_drift_175 rfl ?_
            refine g_isub h dX12_drift_177 ?_
            refine g_iload_n h dX12_drift_178 rfl ?_
            refine g_iload h dX12_drift_179 rfl ?_
            refine g_isub h dX12_drift_181 ?_
            refine g_imul h dX12_drift_182 ?_
            refine g_iload h dX12_drift_183 rfl ?_
            refine g_iload h dX12_drift_185 rfl ?_
            refine g_isub h dX12_drift_187 ?_
            refine g_callS h rfl [_, _] (c_X12_down _ _ _ _ ⟨by omega, by omega⟩ ⟨by omega, by omega⟩ (by omega)) clX12_503 st_X12_down rfl rfl (by rw [hRm]; decide) (by rw [hRm]; decide) (fun _ => Nat.le_of_ble_eq_true rfl) (by rw [hRm]; decide) (by rw [hRm]; decide) dX12_drift_188 (fun r188 w188 hp188 => ?_)
            obtain ⟨rfl, hw188⟩ := hp188
            rw [hw188]
            refine g_iadd h dX12_drift_191 ?_
            refine g_iret h hQ (by first | decide | omega | (simp only [clS]; omega)) (by first | decide | omega | (simp only [clS]; omega)) ?_ dX12_drift_192
            refine ⟨congrArg (fun z => some (ai z)) ?_, rfl⟩
            unfold dfM
            first
            | (exfalso; omega)
            | (rw [if_pos ⟨by omega, by omega⟩])
            | (rw [if_neg (by omega), if_pos (by omega)]
               first | rw [if_pos (by omega)] | rw [if_neg (by omega)])
            | (rw [if_neg (by omega), if_neg (by omega)])
          · refine g_aload_n h dX12_drift_138 rfl ?_
            refine g_iload_n h dX12_drift_139 rfl ?_
            refine g_iload h dX12_drift_140 rfl ?_
            refine g_iconst h dX12_drift_142 ?_
            refine g_icmp_ne (tgt := 151) h dX12_drift_143 (by decide) (by first | assumption | exact ⟨by omega, by omega⟩) (by first | assumption | exact ⟨by omega, by omega⟩) (fun c143 => ?_) (fun c143 => ?_)
            · refine g_iload h dX12_drift_151 rfl ?_
              refine g_callV h rfl (ci := 12) [_, _] (by assumption) (c_X12_driftOn _ _ rn sn key _ hM hI hk ⟨by omega, by omega⟩) clX12_495 (by decide) rfl in_X12_driftOn se_X12_driftOn rfl rfl (by rw [hRm]; first | decide | (simp only [clS]; omega)) (by rw [hRm]; first | decide | (simp only [clS]; omega)) (fun _ => Nat.le_of_ble_eq_true rfl) (by rw [hRm]; first | decide | (simp only [clS]; omega)) (by rw [hRm]; first | decide | (simp only [clS]; omega)) dX12_drift_153 (fun r153 w153 hp153 => ?_)
              obtain ⟨rfl, hw153⟩ := hp153
              rw [hw153]
              refine g_iret h hQ (by first | decide | omega | (simp only [clS]; omega)) (by first | decide | omega | (simp only [clS]; omega)) ?_ dX12_drift_156
              refine ⟨congrArg (fun z => some (ai z)) ?_, rfl⟩
              unfold dfM
              first
              | (exfalso; omega)
              | (rw [if_pos ⟨by omega, by omega⟩])
              | (rw [if_neg (by omega), if_pos (by omega)]
                 first | rw [if_pos (by omega)] | rw [if_neg (by omega)])
              | (rw [if_neg (by omega), if_neg (by omega)])
            · refine g_iload h dX12_drift_146 rfl ?_
              refine g_goto (tgt := 153) h dX12_drift_148 (by decide) ?_
              refine g_callV h rfl (ci := 12) [_, _] (by assumption) (c_X12_driftOn _ _ rn sn key _ hM hI hk ⟨by omega, by omega⟩) clX12_495 (by decide) rfl in_X12_driftOn se_X12_driftOn rfl rfl (by rw [hRm]; first | decide | (simp only [clS]; omega)) (by rw [hRm]; first | decide | (simp only [clS]; omega)) (fun _ => Nat.le_of_ble_eq_true rfl) (by rw [hRm]; first | decide | (simp only [clS]; omega)) (by rw [hRm]; first | decide | (simp only [clS]; omega)) dX12_drift_153 (fun r153 w153 hp153 => ?_)
              obtain ⟨rfl, hw153⟩ := hp153
              rw [hw153]
              refine g_iret h hQ (by first | decide | omega | (simp only [clS]; omega)) (by first | decide | omega | (simp only [clS]; omega)) ?_ dX12_drift_156
              refine ⟨congrArg (fun z => some (ai z)) ?_, rfl⟩
              unfold dfM
              first
              | (exfalso; omega)
              | (rw [if_pos ⟨by omega, by omega⟩])
              | (rw [if_neg (by omega), if_pos (by omega)]
                 first | rw [if_pos (by omega)] | rw [if_neg (by omega)])
              | (rw [if_neg (by omega), if_neg (by omega)])
    · refine g_iload h dX12_drift_107 rfl ?_
      refine g_ldcw h kcX12_301 dX12_drift_109 ?_
      refine g_icmp_ne (tgt := 117) h dX12_drift_112 (by decide) (by first | assumption | exact ⟨by omega, by omega⟩) (by first | assumption | exact ⟨by omega, by omega⟩) (fun c112 => ?_) (fun c112 => ?_)
      · refine g_iload h dX12_drift_117 rfl ?_
        refine g_iconst h dX12_drift_119 ?_
        refine g_icmp_eq (tgt := 138) h dX12_drift_120 (by decide) (by first | assumption | exact ⟨by omega, by omega⟩) (by first | assumption | exact ⟨by omega, by omega⟩) (fun c120 => ?_) (fun c120 => ?_)
        · refine g_aload_n h dX12_drift_138 rfl ?_
          refine g_iload_n h dX12_drift_139 rfl ?_
          refine g_iload h dX12_drift_140 rfl ?_
          refine g_iconst h dX12_drift_142 ?_
          refine g_icmp_ne (tgt := 151) h dX12_drift_143 (by decide) (by first | assumption | exact ⟨by omega, by omega⟩) (by first | assumption | exact ⟨by omega, by omega⟩) (fun c143 => ?_) (fun c143 => ?_)
          · refine g_iload h dX12_drift_151 rfl ?_
            refine g_callV h rfl (ci := 12) [_, _] (by assumption) (c_X12_driftOn _ _ rn sn key _ hM hI hk ⟨by omega, by omega⟩) clX12_495 (by decide) rfl in_X12_driftOn se_X12_driftOn rfl rfl (by rw [hRm]; first | decide | (simp only [clS]; omega)) (by rw [hRm]; first | decide | (simp only [clS]; omega)) (fun _ => Nat.le_of_ble_eq_true rfl) (by rw [hRm]; first | decide | (simp only [clS]; omega)) (by rw [hRm]; first | decide | (simp only [clS]; omega)) dX12_drift_153 (fun r153 w153 hp153 => ?_)
            obtain ⟨rfl, hw153⟩ := hp153
            rw [hw153]
            refine g_iret h hQ (by first | decide | omega | (simp only [clS]; omega)) (by first | decide | omega | (simp only [clS]; omega)) ?_ dX12_drift_156
            refine ⟨congrArg (fun z => some (ai z)) ?_, rfl⟩
            unfold dfM
            first
            | (exfalso; omega)
            | (rw [if_pos ⟨by omega, by omega⟩])
            | (rw [if_neg (by omega), if_pos (by omega)]
               first | rw [if_pos (by omega)] | rw [if_neg (by omega)])
            | (rw [if_neg (by omega), if_neg (by omega)])
          · refine g_iload h dX12_drift_146 rfl ?_
            refine g_goto (tgt := 153) h dX12_drift_148 (by decide) ?_
            refine g_callV h rfl (ci := 12) [_, _] (by assumption) (c_X12_driftOn _ _ rn sn key _ hM hI hk ⟨by omega, by omega⟩) clX12_495 (by decide) rfl in_X12_driftOn se_X12_driftOn rfl rfl (by rw [hRm]; first | decide | (simp only [clS]; omega)) (by rw [hRm]; first | decide | (simp only [clS]; omega)) (fun _ => Nat.le_of_ble_eq_true rfl) (by rw [hRm]; first | decide | (simp only [clS]; omega)) (by rw [hRm]; first | decide | (simp only [clS]; omega)) dX12_drift_153 (fun r153 w153 hp153 => ?_)
            obtain ⟨rfl, hw153⟩ := hp153
            rw [hw153]
            refine g_iret h hQ (by first | decide | omega | (simp only [clS]; omega)) (by first | decide | omega | (simp only [clS]; omega)) ?_ dX12_drift_156
            refine ⟨congrArg (fun z => some (ai z)) ?_, rfl⟩
            unfold dfM
            first
            | (exfalso; omega)
            | (rw [if_pos ⟨by omega, by omega⟩])
            | (rw [if_neg (by omega), if_pos (by omega)]
               first | rw [if_pos (by omega)] | rw [if_neg (by omega)])
            | (rw [if_neg (by omega), if_neg (by omega)])
        · refine g_iload h dX12_drift_123 rfl ?_
          refine g_ldcw h kcX12_301 dX12_drift_125 ?_
          refine g_icmp_eq (tgt := 138) h dX12_drift_128 (by decide) (by first | assumption | exact ⟨by omega, by omega⟩) (by first | assumption | exact ⟨by omega, by omega⟩) (fun c128 => ?_) (fun c128 => ?_)
          · refine g_aload_n h dX12_drift_138 rfl ?_
            refine g_iload_n h dX12_drift_139 rfl ?_
            refine g_iload h dX12_drift_140 rfl ?_
            refine g_iconst h dX12_drift_142 ?_
            refine g_icmp_ne (tgt := 151) h dX12_drift_143 (by decide) (by first | assumption | exact ⟨by omega, by omega⟩) (by first | assumption | exact ⟨by omega, by omega⟩) (fun c143 => ?_) (fun c143 => ?_)
            · refine g_iload h dX12_drift_151 rfl ?_
              refine g_callV h rfl (ci := 12) [_, _] (by assumption) (c_X12_driftOn _ _ rn sn key _ hM hI hk ⟨by omega, by omega⟩) clX12_495 (by decide) rfl in_X12_driftOn se_X12_driftOn rfl rfl (by rw [hRm]; first | decide | (simp only [clS]; omega)) (by rw [hRm]; first | decide | (simp only [clS]; omega)) (fun _ => Nat.le_of_ble_eq_true rfl) (by rw [hRm]; first | decide | (simp only [clS]; omega)) (by rw [hRm]; first | decide | (simp only [clS]; omega)) dX12_drift_153 (fun r153 w153 hp153 => ?_)
              obtain ⟨rfl, hw153⟩ := hp153
              rw [hw153]
              refine g_iret h hQ (by first | decide | omega | (simp only [clS]; omega)) (by first | decide | omega | (simp only [clS]; omega)) ?_ dX12_drift_156
              refine ⟨congrArg (fun z => some (ai z)) ?_, rfl⟩
              unfold dfM
              first
              | (exfalso; omega)
              | (rw [if_pos ⟨by omega, by omega⟩])
              | (rw [if_neg (by omega), if_pos (by omega)]
                 first | rw [if_pos (by omega)] | rw [if_neg (by omega)])
              | (rw [if_neg (by omega), if_neg (by omega)])
            · refine g_iload h dX12_drift_146 rfl ?_
              refine g_goto (tgt := 153) h dX12_drift_148 (by decide) ?_
              refine g_callV h rfl (ci := 12) [_, _] (by assumption) (c_X12_driftOn _ _ rn sn key _ hM hI hk ⟨by omega, by omega⟩) clX12_495 (by decide) rfl in_X12_driftOn se_X12_driftOn rfl rfl (by rw [hRm]; first | decide | (simp only [clS]; omega)) (by rw [hRm]; first | decide | (simp only [clS]; omega)) (fun _ => Nat.le_of_ble_eq_true rfl) (by rw [hRm]; first | decide | (simp only [clS]; omega)) (by rw [hRm]; first | decide | (simp only [clS]; omega)) dX12_drift_153 (fun r153 w153 hp153 => ?_)
              obtain ⟨rfl, hw153⟩ := hp153
              rw [hw153]
              refine g_iret h hQ (by first | decide | omega | (simp only [clS]; omega)) (by first | decide | omega | (simp only [clS]; omega)) ?_ dX12_drift_156
              refine ⟨congrArg (fun z => some (ai z)) ?_, rfl⟩
              unfold dfM
              first
              | (exfalso; omega)
              | (rw [if_pos ⟨by omega, by omega⟩])
              | (rw [if_neg (by omega), if_pos (by omega)]
                 first | rw [if_pos (by omega)] | rw [if_neg (by omega)])
              | (rw [if_neg (by omega), if_neg (by omega)])
          · refine g_iload h dX12_drift_131 rfl ?_
            refine g_iload h dX12_drift_133 rfl ?_
            refine g_icmp_ne (tgt := 157) h dX12_drift_135 (by decide) (by first | assumption | exact ⟨by omega, by omega⟩) (by first | assumption | exact ⟨by omega, by omega⟩) (fun c135 => ?_) (fun c135 => ?_)
            · refine g_aload_n h dX12_drift_157 rfl ?_
              refine g_iload_n h dX12_drift_158 rfl ?_
              refine g_iload h dX12_drift_159 rfl ?_
              refine g_callV h rfl (ci := 12) [_, _] (by assumption) (c_X12_driftOn _ _ rn sn key q.1 hM hI hk ⟨by omega, by omega⟩) clX12_495 (by decide) rfl in_X12_driftOn se_X12_driftOn rfl rfl (by rw [hRm]; first | decide | (simp only [clS]; omega)) (by rw [hRm]; first | decide | (simp only [clS]; omega)) (fun _ => Nat.le_of_ble_eq_true rfl) (by rw [hRm]; first | decide | (simp only [clS]; omega)) (by rw [hRm]; first | decide | (simp only [clS]; omega)) dX12_drift_161 (fun r161 w161 hp161 => ?_)
              obtain ⟨rfl, hw161⟩ := hp161
              rw [hw161]
              refine g_istore h dX12_drift_164 (Nat.le_of_ble_eq_true rfl) rfl rfl ?_
              refine g_iload h dX12_drift_166 rfl ?_
              refine g_aload_n h dX12_drift_168 rfl ?_
              refine g_iload_n h dX12_drift_169 rfl ?_
              refine g_iload h dX12_drift_170 rfl ?_
              refine g_callV h rfl (ci := 12) [_, _] (by assumption) (c_X12_driftOn _ _ rn sn key q.2 hM hI hk ⟨by omega, by omega⟩) clX12_495 (by decide) rfl in_X12_driftOn se_X12_driftOn rfl rfl (by rw [hRm]; first | decide | (simp only [clS]; omega)) (by rw [hRm]; first | decide | (simp only [clS]; omega)) (fun _ => Nat.le_of_ble_eq_true rfl) (by rw [hRm]; first | decide | (simp only [clS]; omega)) (by rw [hRm]; first | decide | (simp only [clS]; omega)) dX12_drift_172 (fun r172 w172 hp172 => ?_)
              obtain ⟨rfl, hw172⟩ := hp172
              rw [hw172]
              refine g_iload h dX12_drift_175 rfl ?_
              refine g_isub h dX12_drift_177 ?_
              refine g_iload_n h dX12_drift_178 rfl ?_
              refine g_iload h dX12_drift_179 rfl ?_
              refine g_isub h dX12_drift_181 ?_
              refine g_imul h dX12_drift_182 ?_
              refine g_iload h dX12_drift_183 rfl ?_
              refine g_iload h dX12_drift_185 rfl ?_
              refine g_isub h dX12_drift_187 ?_
              refine g_callS h rfl [_, _] (c_X12_down _ _ _ _ ⟨by omega, by omega⟩ ⟨by omega, by omega⟩ (by omega)) clX12_503 st_X12_down rfl rfl (by rw [hRm]; decide) (by rw [hRm]; decide) (fun _ => Nat.le_of_ble_eq_true rfl) (by rw [hRm]; decide) (by rw [hRm]; decide) dX12_drift_188 (fun r188 w188 hp188 => ?_)
              obtain ⟨rfl, hw188⟩ := hp188
              rw [hw188]
              refine g_iadd h dX12_drift_191 ?_
              refine g_iret h hQ (by first | decide | omega | (simp only [clS]; omega)) (by first | decide | omega | (simp only [clS]; omega)) ?_ dX12_drift_192
              refine ⟨congrArg (fun z => some (ai z)) ?_, rfl⟩
              unfold dfM
              first
              | (exfalso; omega)
              | (rw [if_pos ⟨by omega, by omega⟩])
              | (rw [if_neg (by omega), if_pos (by omega)]
                 first | rw [if_pos (by omega)] | rw [if_neg (by omega)])
              | (rw [if_neg (by omega), if_neg (by omega)])
            · refine g_aload_n h dX12_drift_138 rfl ?_
              refine g_iload_n h dX12_drift_139 rfl ?_
              refine g_iload h dX12_drift_140 rfl ?_
              refine g_iconst h dX12_drift_142 ?_
              refine g_icmp_ne (tgt := 151) h dX12_drift_143 (by decide) (by first | assumption | exact ⟨by omega, by omega⟩) (by first | assumption | exact ⟨by omega, by omega⟩) (fun c143 => ?_) (fun c143 => ?_)
              · refine g_iload h dX12_drift_151 rfl ?_
                refine g_callV h rfl (ci := 12) [_, _] (by assumption) (c_X12_driftOn _ _ rn sn key _ hM hI hk ⟨by omega, by omega⟩) clX12_495 (by decide) rfl in_X12_driftOn se_X12_driftOn rfl rfl (by rw [hRm]; first | decide | (simp only [clS]; omega)) (by rw [hRm]; first | decide | (simp only [clS]; omega)) (fun _ => Nat.le_of_ble_eq_true rfl) (by rw [hRm]; first | decide | (simp only [clS]; omega)) (by rw [hRm]; first | decide | (simp only [clS]; omega)) dX12_drift_153 (fun r153 w153 hp153 => ?_)
                obtain ⟨rfl, hw153⟩ := hp153
                rw [hw153]
                refine g_iret h hQ (by first | decide | omega | (simp only [clS]; omega)) (by first | decide | omega | (simp only [clS]; omega)) ?_ dX12_drift_156
                refine ⟨congrArg (fun z => some (ai z)) ?_, rfl⟩
                unfold dfM
                first
                | (exfalso; omega)
                | (rw [if_pos ⟨by omega, by omega⟩])
                | (rw [if_neg (by omega), if_pos (by omega)]
                   first | rw [if_pos (by omega)] | rw [if_neg (by omega)])
                | (rw [if_neg (by omega), if_neg (by omega)])
              · refine g_iload h dX12_drift_146 rfl ?_
                refine g_goto (tgt := 153) h dX12_drift_148 (by decide) ?_
                refine g_callV h rfl (ci := 12) [_, _] (by assumption) (c_X12_driftOn _ _ rn sn key _ hM hI hk ⟨by omega, by omega⟩) clX12_495 (by decide) rfl in_X12_driftOn se_X12_driftOn rfl rfl (by rw [hRm]; first | decide | (simp only [clS]; omega)) (by rw [hRm]; first | decide | (simp only [clS]; omega)) (fun _ => Nat.le_of_ble_eq_true rfl) (by rw [hRm]; first | decide | (simp only [clS]; omega)) (by rw [hRm]; first | decide | (simp only [clS]; omega)) dX12_drift_153 (fun r153 w153 hp153 => ?_)
                obtain ⟨rfl, hw153⟩ := hp153
                rw [hw153]
                refine g_iret h hQ (by first | decide | omega | (simp only [clS]; omega)) (by first | decide | omega | (simp only [clS]; omega)) ?_ dX12_drift_156
                refine ⟨congrArg (fun z => some (ai z)) ?_, rfl⟩
                unfold dfM
                first
                | (exfalso; omega)
                | (rw [if_pos ⟨by omega, by omega⟩])
                | (rw [if_neg (by omega), if_pos (by omega)]
                   first | rw [if_pos (by omega)] | rw [if_neg (by omega)])
                | (rw [if_neg (by omega), if_neg (by omega)])
      · refine g_iconst h dX12_drift_115 ?_
        refine g_iret h hQ (by first | decide | omega | (simp only [clS]; omega)) (by first | decide | omega | (simp only [clS]; omega)) ?_ dX12_drift_116
        refine ⟨congrArg (fun z => some (ai z)) ?_, rfl⟩
        unfold dfM
        first
        | (exfalso; omega)
        | (rw [if_pos ⟨by omega, by omega⟩])
        | (rw [if_neg (by omega), if_pos (by omega)]
           first | rw [if_pos (by omega)] | rw [if_neg (by omega)])
        | (rw [if_neg (by omega), if_neg (by omega)])
  have loop : ∀ (d i : Nat), i + d = sn → GG Γ 11 [some (ar 400), some (ai key), some (ai day), some (ai by_), some (ai (dfB (w.2.1 463) (w.2.1 464) key day by_ i).1), some (ai (dfB (w.2.1 463) (w.2.1 464) key day by_ i).2), some (ai (i : Int))] [] w 0 0 := by
    intro d
    induction d with
    | zero =>
      intro i hi
      obtain rfl : i = sn := by omega
      refine g_iload h dX12_drift_11 rfl ?_
      refine g_aload_n h dX12_drift_13 rfl ?_
      refine g_getI h flX12_486 rfl (by assumption) dX12_drift_14 ?_
      refine g_icmp_ge (tgt := 101) h dX12_drift_17 (by decide) (by first | assumption | exact ⟨by omega, by omega⟩) (by first | assumption | exact ⟨by omega, by omega⟩) (fun c17 => ?_) (fun c17 => ?_)
      · exact fin _ _ rfl
      · exfalso; omega
    | succ d ih =>
      intro i hi
      have hsi := hs i (by omega)
      obtain ⟨hb1, hb2, hb3⟩ := dfB_bd (a := w.2.1 463) (d := w.2.1 464) (key := key) (by_ := by_) hd.1 hd.2 i (fun j hj => ⟨(hs j (by omega)).2.2.1, (hs j (by omega)).2.2.2.1⟩)
      have ih2 := ih (i + 1) (by omega)
      have hst : (dfB (w.2.1 463) (w.2.1 464) key day by_ (i + 1)) = if w.2.1 463 i ≠ key ∨ by_ < w.2.1 464 i then (dfB (w.2.1 463) (w.2.1 464) key day by_ i) else (if w.2.1 464 i ≤ day then max (dfB (w.2.1 463) (w.2.1 464) key day by_ i).1 (w.2.1 464 i) else (dfB (w.2.1 463) (w.2.1 464) key day by_ i).1, if day ≤ w.2.1 464 i then min (dfB (w.2.1 463) (w.2.1 464) key day by_ i).2 (w.2.1 464 i) else (dfB (w.2.1 463) (w.2.1 464) key day by_ i).2) := rfl
      rw [hst] at ih2
      generalize (dfB (w.2.1 463) (w.2.1 464) key day by_ i) = q at hb1 hb2 hb3 ih2 ⊢
      refine g_iload h dX12_drift_11 rfl ?_
      refine g_aload_n h dX12_drift_13 rfl ?_
      refine g_getI h flX12_486 rfl (by assumption) dX12_drift_14 ?_
      refine g_icmp_ge (tgt := 101) h dX12_drift_17 (by decide) (by first | assumption | exact ⟨by omega, by omega⟩) (by first | assumption | exact ⟨by omega, by omega⟩) (fun c17 => ?_) (fun c17 => ?_)
      · exfalso; omega
      · refine g_aload_n h dX12_drift_20 rfl ?_
        refine g_getQ h flX12_146 rfl (by assumption) (by assumption) dX12_drift_21 ?_
        refine g_iload h dX12_drift_24 rfl ?_
        refine g_iald h _ (by assumption) rfl (by first | omega | assumption) (by first | decide | omega) dX12_drift_26 ?_
        refine g_iload_n h dX12_drift_27 rfl ?_
        refine g_icmp_ne (tgt := 95) h dX12_drift_28 (by decide) (by first | assumption | exact ⟨by omega, by omega⟩) (by first | assumption | exact ⟨by omega, by omega⟩) (fun c28 => ?_) (fun c28 => ?_)
        · refine g_iinc h dX12_drift_95 rfl (Nat.le_of_ble_eq_true rfl) rfl rfl ?_
          refine g_goto (tgt := 11) h dX12_drift_98 (by decide) ?_
          first
          | (rw [if_pos (by omega)] at ih2
             exact ih2)
          | (rw [if_neg (by omega)] at ih2
             dsimp only at ih2
             first
             | (rw [if_pos (by omega), if_pos (by omega)] at ih2; exact ih2)
             | (rw [if_pos (by omega), if_neg (by omega)] at ih2; exact ih2)
             | (rw [if_neg (by omega), if_pos (by omega)] at ih2; exact ih2)
             | (rw [if_neg (by omega), if_neg (by omega)] at ih2; exact ih2))
        · refine g_aload_n h dX12_drift_31 rfl ?_
          refine g_getQ h flX12_149 rfl (by assumption) (by assumption) dX12_drift_32 ?_
          refine g_iload h dX12_drift_35 rfl ?_
          refine g_iald h _ (by assumption) rfl (by first | omega | assumption) (by first | decide | omega) dX12_drift_37 ?_
          refine g_iload_n h dX12_drift_38 rfl ?_
          refine g_icmp_le (tgt := 45) h dX12_drift_39 (by decide) (by first | assumption | exact ⟨by omega, by omega⟩) (by first | assumption | exact ⟨by omega, by omega⟩) (fun c39 => ?_) (fun c39 => ?_)
          · refine g_aload_n h dX12_drift_45 rfl ?_
            refine g_getQ h flX12_149 rfl (by assumption) (by assumption) dX12_drift_46 ?_
            refine g_iload h dX12_drift_49 rfl ?_
            refine g_iald h _ (by assumption) rfl (by first | omega | assumption) (by first | decide | omega) dX12_drift_51 ?_
            refine g_iload_n h dX12_drift_52 rfl ?_
            refine g_icmp_gt (tgt := 70) h dX12_drift_53 (by decide) (by first | assumption | exact ⟨by omega, by omega⟩) (by first | assumption | exact ⟨by omega, by omega⟩) (fun c53 => ?_) (fun c53 => ?_)
            · refine g_aload_n h dX12_drift_70 rfl ?_
              refine g_getQ h flX12_149 rfl (by assumption) (by assumption) dX12_drift_71 ?_
              refine g_iload h dX12_drift_74 rfl ?_
              refine g_iald h _ (by assumption) rfl (by first | omega | assumption) (by first | decide | omega) dX12_drift_76 ?_
              refine g_iload_n h dX12_drift_77 rfl ?_
              refine g_icmp_lt (tgt := 95) h dX12_drift_78 (by decide) (by first | assumption | exact ⟨by omega, by omega⟩) (by first | assumption | exact ⟨by omega, by omega⟩) (fun c78 => ?_) (fun c78 => ?_)
              · refine g_iinc h dX12_drift_95 rfl (Nat.le_of_ble_eq_true rfl) rfl rfl ?_
                refine g_goto (tgt := 11) h dX12_drift_98 (by decide) ?_
                first
                | (rw [if_pos (by omega)] at ih2
                   exact ih2)
                | (rw [if_neg (by omega)] at ih2
                   dsimp only at ih2
                   first
                   | (rw [if_pos (by omega), if_pos (by omega)] at ih2; exact ih2)
                   | (rw [if_pos (by omega), if_neg (by omega)] at ih2; exact ih2)
                   | (rw [if_neg (by omega), if_pos (by omega)] at ih2; exact ih2)
                   | (rw [if_neg (by omega), if_neg (by omega)] at ih2; exact ih2))
              · refine g_iload h dX12_drift_81 rfl ?_
                refine g_aload_n h dX12_drift_83 rfl ?_
                refine g_getQ h flX12_149 rfl (by assumption) (by assumption) dX12_drift_84 ?_
                refine g_iload h dX12_drift_87 rfl ?_
                refine g_iald h _ (by assumption) rfl (by first | omega | assumption) (by first | decide | omega) dX12_drift_89 ?_
                refine g_min h rfl mminX12_501 (by first | assumption | exact ⟨by omega, by omega⟩) (by first | assumption | exact ⟨by omega, by omega⟩) (by rw [hRm]; first | decide | (simp only [clS]; omega)) (by rw [hRm]; first | decide | (simp only [clS]; omega)) (fun _ => Nat.le_of_ble_eq_true rfl) (by rw [hRm]; first | decide | (simp only [clS]; omega)) (by rw [hRm]; first | decide | (simp only [clS]; omega)) dX12_drift_90 ?_
                refine g_istore h dX12_drift_93 (Nat.le_of_ble_eq_true rfl) rfl rfl ?_
                refine g_iinc h dX12_drift_95 rfl (Nat.le_of_ble_eq_true rfl) rfl rfl ?_
                refine g_goto (tgt := 11) h dX12_drift_98 (by decide) ?_
                first
                | (rw [if_pos (by omega)] at ih2
                   exact ih2)
                | (rw [if_neg (by omega)] at ih2
                   dsimp only at ih2
                   first
                   | (rw [if_pos (by omega), if_pos (by omega)] at ih2; exact ih2)
                   | (rw [if_pos (by omega), if_neg (by omega)] at ih2; exact ih2)
                   | (rw [if_neg (by omega), if_pos (by omega)] at ih2; exact ih2)
                   | (rw [if_neg (by omega), if_neg (by omega)] at ih2; exact ih2))
            · refine g_iload h dX12_drift_56 rfl ?_
              refine g_aload_n h dX12_drift_58 rfl ?_
              refine g_getQ h flX12_149 rfl (by assumption) (by assumption) dX12_drift_59 ?_
              refine g_iload h dX12_drift_62 rfl ?_
              refine g_iald h _ (by assumption) rfl (by first | omega | assumption) (by first | decide | omega) dX12_drift_64 ?_
              refine g_max h rfl mmaxX12_186 (by first | assumption | exact ⟨by omega, by omega⟩) (by first | assumption | exact ⟨by omega, by omega⟩) (by rw [hRm]; first | decide | (simp only [clS]; omega)) (by rw [hRm]; first | decide | (simp only [clS]; omega)) (fun _ => Nat.le_of_ble_eq_true rfl) (by rw [hRm]; first | decide | (simp only [clS]; omega)) (by rw [hRm]; first | decide | (simp only [clS]; omega)) dX12_drift_65 ?_
              refine g_istore h dX12_drift_68 (Nat.le_of_ble_eq_true rfl) rfl rfl ?_
              refine g_aload_n h dX12_drift_70 rfl ?_
              refine g_getQ h flX12_149 rfl (by assumption) (by assumption) dX12_drift_71 ?_
              refine g_iload h dX12_drift_74 rfl ?_
              refine g_iald h _ (by assumption) rfl (by first | omega | assumption) (by first | decide | omega) dX12_drift_76 ?_
              refine g_iload_n h dX12_drift_77 rfl ?_
              refine g_icmp_lt (tgt := 95) h dX12_drift_78 (by decide) (by first | assumption | exact ⟨by omega, by omega⟩) (by first | assumption | exact ⟨by omega, by omega⟩) (fun c78 => ?_) (fun c78 => ?_)
              · refine g_iinc h dX12_drift_95 rfl (Nat.le_of_ble_eq_true rfl) rfl rfl ?_
                refine g_goto (tgt := 11) h dX12_drift_98 (by decide) ?_
                first
                | (rw [if_pos (by omega)] at ih2
                   exact ih2)
                | (rw [if_neg (by omega)] at ih2
                   dsimp only at ih2
                   first
                   | (rw [if_pos (by omega), if_pos (by omega)] at ih2; exact ih2)
                   | (rw [if_pos (by omega), if_neg (by omega)] at ih2; exact ih2)
                   | (rw [if_neg (by omega), if_pos (by omega)] at ih2; exact ih2)
                   | (rw [if_neg (by omega), if_neg (by omega)] at ih2; exact ih2))
              · refine g_iload h dX12_drift_81 rfl ?_
                refine g_aload_n h dX12_drift_83 rfl ?_
                refine g_getQ h flX12_149 rfl (by assumption) (by assumption) dX12_drift_84 ?_
                refine g_iload h dX12_drift_87 rfl ?_
                refine g_iald h _ (by assumption) rfl (by first | omega | assumption) (by first | decide | omega) dX12_drift_89 ?_
                refine g_min h rfl mminX12_501 (by first | assumption | exact ⟨by omega, by omega⟩) (by first | assumption | exact ⟨by omega, by omega⟩) (by rw [hRm]; first | decide | (simp only [clS]; omega)) (by rw [hRm]; first | decide | (simp only [clS]; omega)) (fun _ => Nat.le_of_ble_eq_true rfl) (by rw [hRm]; first | decide | (simp only [clS]; omega)) (by rw [hRm]; first | decide | (simp only [clS]; omega)) dX12_drift_90 ?_
                refine g_istore h dX12_drift_93 (Nat.le_of_ble_eq_true rfl) rfl rfl ?_
                refine g_iinc h dX12_drift_95 rfl (Nat.le_of_ble_eq_true rfl) rfl rfl ?_
                refine g_goto (tgt := 11) h dX12_drift_98 (by decide) ?_
                first
                | (rw [if_pos (by omega)] at ih2
                   exact ih2)
                | (rw [if_neg (by omega)] at ih2
                   dsimp only at ih2
                   first
                   | (rw [if_pos (by omega), if_pos (by omega)] at ih2; exact ih2)
                   | (rw [if_pos (by omega), if_neg (by omega)] at ih2; exact ih2)
                   | (rw [if_neg (by omega), if_pos (by omega)] at ih2; exact ih2)
                   | (rw [if_neg (by omega), if_neg (by omega)] at ih2; exact ih2))
          · refine g_goto (tgt := 95) h dX12_drift_42 (by decide) ?_
            refine g_iinc h dX12_drift_95 rfl (Nat.le_of_ble_eq_true rfl) rfl rfl ?_
            refine g_goto (tgt := 11) h dX12_drift_98 (by decide) ?_
            first
            | (rw [if_pos (by omega)] at ih2
               exact ih2)
            | (rw [if_neg (by omega)] at ih2
               dsimp only at ih2
               first
               | (rw [if_pos (by omega), if_pos (by omega)] at ih2; exact ih2)
               | (rw [if_pos (by omega), if_neg (by omega)] at ih2; exact ih2)
               | (rw [if_neg (by omega), if_pos (by omega)] at ih2; exact ih2)
               | (rw [if_neg (by omega), if_neg (by omega)] at ih2; exact ih2))
  refine g_iconst h dX12_drift_0 ?_
  refine g_istore h dX12_drift_1 (Nat.le_of_ble_eq_true rfl) rfl rfl ?_
  refine g_ldcw h kcX12_301 dX12_drift_3 ?_
  refine g_istore h dX12_drift_6 (Nat.le_of_ble_eq_true rfl) rfl rfl ?_
  refine g_iconst h dX12_drift_8 ?_
  refine g_istore h dX12_drift_9 (Nat.le_of_ble_eq_true rfl) rfl rfl ?_
  exact loop sn 0 (by omega)
theorem drfM_bd {w : AW} {rn sn : Nat} (hI : MSI w rn sn) (key by_ : Int) {day : Int} (hd : 0 ≤ day ∧ day ≤ 2999) : -1000000000 ≤ drfM w key day by_ rn sn ∧ drfM w key day by_ rn sn ≤ 1000000000 := by
  obtain ⟨hb1, hb2, hb3⟩ := dfB_bd (a := w.2.1 463) (d := w.2.1 464) (key := key) (by_ := by_) hd.1 hd.2 sn (fun j hj => ⟨(hI.2.2.2.2.2 j hj).2.2.1, (hI.2.2.2.2.2 j hj).2.2.2.1⟩)
  unfold drfM
  generalize dfB (w.2.1 463) (w.2.1 464) key day by_ sn = q at hb1 hb2 hb3
  have h1 := drM_bd hI key q.1
  have h2 := drM_bd hI key q.2
  unfold dfM
  split
  · omega
  · split
    · have := drM_bd hI key (if q.1 = -1 then q.2 else q.1)
      omega
    · have hml := mul_sb (a := drM w key q.2 rn sn - drM w key q.1 rn sn) (b := day - q.1) (A := 200002) (B := 3000) (by omega) (by omega) (by omega) (by omega) (by decide)
      generalize (drM w key q.2 rn sn - drM w key q.1 rn sn) * (day - q.1) = m at hml
      have hp : 0 < q.2 - q.1 := by omega
      have e1 : m / (q.2 - q.1) ≤ 600006000 := Int.ediv_le_of_le_mul hp (by
        have : (600006000 : Int) * 1 ≤ 600006000 * (q.2 - q.1) := Int.mul_le_mul_of_nonneg_left (by omega) (by decide)
        omega)
      have e2 : -600006000 ≤ m / (q.2 - q.1) := Int.le_ediv_of_mul_le hp (by
        have : (600006000 : Int) * 1 ≤ 600006000 * (q.2 - q.1) := Int.mul_le_mul_of_nonneg_left (by omega) (by decide)
        rw [Int.neg_mul]
        omega)
      omega
def prM (w : AW) (key day by_ : Int) (rn sn : Nat) : Int := max 0 (min 100000 (rdM w key day rn + drfM w key day by_ rn sn))
set_option maxRecDepth 100000 in
set_option maxHeartbeats 4000000 in
theorem c_X12_putRight (l : Launch) (w : AW) (rn sn : Nat) (key day by_ : Int) (hM : MS w) (hI : MSI w rn sn) (hk : R32 key) (hd : 0 ≤ day ∧ day ≤ 2999) (hby : R32 by_) : HT l yX12_putRight cX12_putRight 4 (some .int) 4 0 0 w [ar 400, ai key, ai day, ai by_] (rI (prM w key day by_ rn sn) w) := by
  refine HT.of (by decide) (by intro v hv; simp only [List.mem_cons, List.not_mem_nil, or_false] at hv; rcases hv with rfl | rfl | rfl | rfl <;> rfl) (Nat.le_of_ble_eq_true rfl) ?_
  intro Γ h hQ hRm hnm hl hw0
  have s400 : w.1 400 = (112, 0) := hM.1 400 (by decide) (by decide)
  have hb1 := rdM_bd hI key day
  have hb2 := drfM_bd hI key by_ hd
  refine g_iconst h dX12_putRight_0 ?_
  refine g_ldc h kcX12_210 dX12_putRight_1 ?_
  refine g_aload_n h dX12_putRight_3 rfl ?_
  refine g_iload_n h dX12_putRight_4 rfl ?_
  refine g_iload_n h dX12_putRight_5 rfl ?_
  refine g_callV h rfl (ci := 12) [_, _] (by assumption) (c_X12_readingOn _ _ rn sn key day hM hI hk ⟨by omega, by omega⟩) clX12_492 (by decide) rfl in_X12_readingOn se_X12_readingOn rfl rfl (by rw [hRm]; first | decide | (simp only [clS]; omega)) (by rw [hRm]; first | decide | (simp only [clS]; omega)) (fun _ => Nat.le_of_ble_eq_true rfl) (by rw [hRm]; first | decide | (simp only [clS]; omega)) (by rw [hRm]; first | decide | (simp only [clS]; omega)) dX12_putRight_6 (fun r6 w6 hp6 => ?_)
  obtain ⟨rfl, hw6⟩ := hp6
  rw [hw6]
  refine g_aload_n h dX12_putRight_9 rfl ?_
  refine g_iload_n h dX12_putRight_10 rfl ?_
  refine g_iload_n h dX12_putRight_11 rfl ?_
  refine g_iload_n h dX12_putRight_12 rfl ?_
  refine g_callV h rfl (ci := 12) [_, _, _] (by assumption) (c_X12_drift _ _ rn sn key day by_ hM hI hk hd hby) clX12_506 (by decide) rfl in_X12_drift se_X12_drift rfl rfl (by rw [hRm]; first | decide | (simp only [clS]; omega)) (by rw [hRm]; first | decide | (simp only [clS]; omega)) (fun _ => Nat.le_of_ble_eq_true rfl) (by rw [hRm]; first | decide | (simp only [clS]; omega)) (by rw [hRm]; first | decide | (simp only [clS]; omega)) dX12_putRight_13 (fun r13 w13 hp13 => ?_)
  obtain ⟨rfl, hw13⟩ := hp13
  rw [hw13]
  refine g_iadd h dX12_putRight_16 ?_
  refine g_min h rfl mminX12_501 (by first | assumption | exact ⟨by omega, by omega⟩) (by first | assumption | exact ⟨by omega, by omega⟩) (by rw [hRm]; first | decide | (simp only [clS]; omega)) (by rw [hRm]; first | decide | (simp only [clS]; omega)) (fun _ => Nat.le_of_ble_eq_true rfl) (by rw [hRm]; first | decide | (simp only [clS]; omega)) (by rw [hRm]; first | decide | (simp only [clS]; omega)) dX12_putRight_17 ?_
  refine g_max h rfl mmaxX12_186 (by first | assumption | exact ⟨by omega, by omega⟩) (by first | assumption | exact ⟨by omega, by omega⟩) (by rw [hRm]; first | decide | (simp only [clS]; omega)) (by rw [hRm]; first | decide | (simp only [clS]; omega)) (fun _ => Nat.le_of_ble_eq_true rfl) (by rw [hRm]; first | decide | (simp only [clS]; omega)) (by rw [hRm]; first | decide | (simp only [clS]; omega)) dX12_putRight_20 ?_
  refine g_iret h hQ (by first | decide | omega | (simp only [clS]; omega)) (by first | decide | omega | (simp only [clS]; omega)) ?_ dX12_putRight_23
  exact ⟨rfl, rfl⟩
/-- the latest day of a string's readings up to a day -/
def ldF (a d : Nat → Int) (key by_ : Int) : Nat → Int
  | 0 => -1
  | n + 1 => if a n = key ∧ d n ≤ by_ then max (ldF a d key by_ n) (d n) else ldF a d key by_ n
theorem ldF_bd {a d : Nat → Int} {key by_ : Int} : ∀ (n : Nat), (∀ i, i < n → 0 ≤ d i ∧ d i ≤ 2999) → -1 ≤ ldF a d key by_ n ∧ ldF a d key by_ n ≤ 2999 ∧ (0 ≤ by_ → ldF a d key by_ n ≤ by_)
  | 0, _ => by show -1 ≤ (-1 : Int) ∧ (-1 : Int) ≤ 2999 ∧ (0 ≤ by_ → (-1 : Int) ≤ by_); omega
  | n + 1, h => by
    have h1 := ldF_bd (a := a) (d := d) (key := key) (by_ := by_) n (fun i hi => h i (by omega))
    have h2 := h n (by omega)
    unfold ldF
    split <;> omega
def ldM (w : AW) (key by_ : Int) (rn : Nat) : Int := ldF (w.2.1 460) (w.2.1 461) key by_ rn
theorem ldM_bd {w : AW} {rn sn : Nat} (h : MSI w rn sn) (key by_ : Int) : -1 ≤ ldM w key by_ rn ∧ ldM w key by_ rn ≤ 2999 ∧ (0 ≤ by_ → ldM w key by_ rn ≤ by_) := ldF_bd rn (fun i hi => ⟨(h.2.2.2.2.1 i hi).2.2.1, (h.2.2.2.2.1 i hi).2.2.2.1⟩)
set_option maxRecDepth 100000 in
set_option maxHeartbeats 4000000 in
theorem c_X12_latestDay (l : Launch) (w : AW) (rn sn : Nat) (key by_ : Int) (hM : MS w) (hI : MSI w rn sn) (hk : R32 key) (hby : R32 by_) : HT l yX12_latestDay cX12_latestDay 5 (some .int) 1 0 0 w [ar 400, ai key, ai by_] (rI (ldM w key by_ rn) w) := by
  refine HT.of (by decide) (by intro v hv; simp only [List.mem_cons, List.not_mem_nil, or_false] at hv; rcases hv with rfl | rfl | rfl <;> rfl) (Nat.le_of_ble_eq_true rfl) ?_
  intro Γ h hQ hRm hnm hl hw0
  have s400 : w.1 400 = (112, 0) := hM.1 400 (by decide) (by decide)
  have s460 : w.1 460 = (1, 300) := hM.1 460 (by decide) (by decide)
  have s461 : w.1 461 = (1, 300) := hM.1 461 (by decide) (by decide)
  have p60 : w.2.2 400 60 = some 460 := hM.2 (400, 60, 460) (by decide)
  have p61 : w.2.2 400 61 = some 461 := hM.2 (400, 61, 461) (by decide)
  obtain ⟨hrn, hrn3, hsn, hsn3, hr, hs⟩ := id hI
  have loop : ∀ (d i : Nat), i + d = rn → GG Γ 5 [some (ar 400), some (ai key), some (ai by_), some (ai (ldF (w.2.1 460) (w.2.1 461) key by_ i)), some (ai (i : Int))] [] w 0 0 := by
    intro d
    induction d with
    | zero =>
      intro i hi
      obtain rfl : i = rn := by omega
      refine g_iload h dX12_latestDay_5 rfl ?_
      refine g_aload_n h dX12_latestDay_7 rfl ?_
      refine g_getI h flX12_483 rfl (by assumption) dX12_latestDay_8 ?_
      refine g_icmp_ge (tgt := 58) h dX12_latestDay_11 (by decide) (by first | assumption | exact ⟨by omega, by omega⟩) (by first | assumption | exact ⟨by omega, by omega⟩) (fun c11 => ?_) (fun c11 => ?_)
      · refine g_iload_n h dX12_latestDay_58 rfl ?_
        refine g_iret h hQ (by first | decide | omega | (simp only [clS]; omega)) (by first | decide | omega | (simp only [clS]; omega)) ?_ dX12_latestDay_59
        exact ⟨rfl, rfl⟩
      · exfalso; omega
    | succ d ih =>
      intro i hi
      have hri := hr i (by omega)
      have hlb := ldF_bd (a := w.2.1 460) (d := w.2.1 461) (key := key) (by_ := by_) i (fun j hj => ⟨(hr j (by omega)).2.2.1, (hr j (by omega)).2.2.2.1⟩)
      have ih2 := ih (i + 1) (by omega)
      have hst : (ldF (w.2.1 460) (w.2.1 461) key by_ (i + 1)) = if w.2.1 460 i = key ∧ w.2.1 461 i ≤ by_ then max (ldF (w.2.1 460) (w.2.1 461) key by_ i) (w.2.1 461 i) else (ldF (w.2.1 460) (w.2.1 461) key by_ i) := rfl
      rw [hst] at ih2
      refine g_iload h dX12_latestDay_5 rfl ?_
      refine g_aload_n h dX12_latestDay_7 rfl ?_
      refine g_getI h flX12_483 rfl (by assumption) dX12_latestDay_8 ?_
      refine g_icmp_ge (tgt := 58) h dX12_latestDay_11 (by decide) (by first | assumption | exact ⟨by omega, by omega⟩) (by first | assumption | exact ⟨by omega, by omega⟩) (fun c11 => ?_) (fun c11 => ?_)
      · exfalso; omega
      · refine g_aload_n h dX12_latestDay_14 rfl ?_
        refine g_getQ h flX12_137 rfl (by assumption) (by assumption) dX12_latestDay_15 ?_
        refine g_iload h dX12_latestDay_18 rfl ?_
        refine g_iald h _ (by assumption) rfl (by first | omega | assumption) (by first | decide | omega) dX12_latestDay_20 ?_
        refine g_iload_n h dX12_latestDay_21 rfl ?_
        refine g_icmp_ne (tgt := 50) h dX12_latestDay_22 (by decide) (by first | assumption | exact ⟨by omega, by omega⟩) (by first | assumption | exact ⟨by omega, by omega⟩) (fun c22 => ?_) (fun c22 => ?_)
        · refine g_iload_n h dX12_latestDay_50 rfl ?_
          refine g_istore_n h dX12_latestDay_51 (Nat.le_of_ble_eq_true rfl) rfl rfl ?_
          refine g_iinc h dX12_latestDay_52 rfl (Nat.le_of_ble_eq_true rfl) rfl rfl ?_
          refine g_goto (tgt := 5) h dX12_latestDay_55 (by decide) ?_
          first
          | (rw [if_pos ⟨by omega, by omega⟩] at ih2; exact ih2)
          | (rw [if_neg (by omega)] at ih2; exact ih2)
        · refine g_aload_n h dX12_latestDay_25 rfl ?_
          refine g_getQ h flX12_140 rfl (by assumption) (by assumption) dX12_latestDay_26 ?_
          refine g_iload h dX12_latestDay_29 rfl ?_
          refine g_iald h _ (by assumption) rfl (by first | omega | assumption) (by first | decide | omega) dX12_latestDay_31 ?_
          refine g_iload_n h dX12_latestDay_32 rfl ?_
          refine g_icmp_gt (tgt := 50) h dX12_latestDay_33 (by decide) (by first | assumption | exact ⟨by omega, by omega⟩) (by first | assumption | exact ⟨by omega, by omega⟩) (fun c33 => ?_) (fun c33 => ?_)
          · refine g_iload_n h dX12_latestDay_50 rfl ?_
            refine g_istore_n h dX12_latestDay_51 (Nat.le_of_ble_eq_true rfl) rfl rfl ?_
            refine g_iinc h dX12_latestDay_52 rfl (Nat.le_of_ble_eq_true rfl) rfl rfl ?_
            refine g_goto (tgt := 5) h dX12_latestDay_55 (by decide) ?_
            first
            | (rw [if_pos ⟨by omega, by omega⟩] at ih2; exact ih2)
            | (rw [if_neg (by omega)] at ih2; exact ih2)
          · refine g_iload_n h dX12_latestDay_36 rfl ?_
            refine g_aload_n h dX12_latestDay_37 rfl ?_
            refine g_getQ h flX12_140 rfl (by assumption) (by assumption) dX12_latestDay_38 ?_
            refine g_iload h dX12_latestDay_41 rfl ?_
            refine g_iald h _ (by assumption) rfl (by first | omega | assumption) (by first | decide | omega) dX12_latestDay_43 ?_
            refine g_max h rfl mmaxX12_186 (by first | assumption | exact ⟨by omega, by omega⟩) (by first | assumption | exact ⟨by omega, by omega⟩) (by rw [hRm]; first | decide | (simp only [clS]; omega)) (by rw [hRm]; first | decide | (simp only [clS]; omega)) (fun _ => Nat.le_of_ble_eq_true rfl) (by rw [hRm]; first | decide | (simp only [clS]; omega)) (by rw [hRm]; first | decide | (simp only [clS]; omega)) dX12_latestDay_44 ?_
            refine g_goto (tgt := 51) h dX12_latestDay_47 (by decide) ?_
            refine g_istore_n h dX12_latestDay_51 (Nat.le_of_ble_eq_true rfl) rfl rfl ?_
            refine g_iinc h dX12_latestDay_52 rfl (Nat.le_of_ble_eq_true rfl) rfl rfl ?_
            refine g_goto (tgt := 5) h dX12_latestDay_55 (by decide) ?_
            first
            | (rw [if_pos ⟨by omega, by omega⟩] at ih2; exact ih2)
            | (rw [if_neg (by omega)] at ih2; exact ih2)
  refine g_iconst h dX12_latestDay_0 ?_
  refine g_istore_n h dX12_latestDay_1 (Nat.le_of_ble_eq_true rfl) rfl rfl ?_
  refine g_iconst h dX12_latestDay_2 ?_
  refine g_istore h dX12_latestDay_3 (Nat.le_of_ble_eq_true rfl) rfl rfl ?_
  exact loop rn 0 (by omega)
def kyM (L i : Nat) : Int := 10 * (L : Int) + (i : Int)
/-- 1 for a dead string -/
def deM (w : AW) (L i : Nat) (by_ : Int) (rn : Nat) : Int := if ldM w (kyM L i) by_ rn = -1 ∨ ldM w (kyM L i) by_ rn ≤ by_ - 7 then 1 else 0
def tgM (w : AW) (L i : Nat) (by_ : Int) (rn sn : Nat) : Int := if deM w L i by_ rn = 1 then holdsM w L i else prM w (kyM L i) (ldM w (kyM L i) by_ rn) by_ rn sn
theorem deM_01 (w : AW) (L i : Nat) (by_ : Int) (rn : Nat) : deM w L i by_ rn = 0 ∨ deM w L i by_ rn = 1 := by
  unfold deM
  split
  · exact Or.inr rfl
  · exact Or.inl rfl
theorem tgM_bd {w : AW} {L i rn sn : Nat} {by_ : Int} (hN : MN w) (hL : L < 2) (hi : i < 10) : 0 ≤ tgM w L i by_ rn sn ∧ tgM w L i by_ rn sn ≤ 100000 := by
  unfold tgM
  split
  · exact holdsM_bd hN hL hi
  · unfold prM; omega
set_option maxRecDepth 100000 in
set_option maxHeartbeats 4000000 in
theorem c_X12_isDead (l : Launch) (w : AW) (rn sn L i : Nat) (by_ : Int) (hM : MS w) (hI : MSI w rn sn) (hL : L < 2) (hi : i < 10) (hby : 0 ≤ by_ ∧ by_ ≤ 2999) : HT l yX12_isDead cX12_isDead 5 (some .boolean) 2 0 0 w [ar 400, ai (L : Int), ai (i : Int), ai by_] (rI (deM w L i by_ rn) w) := by
  refine HT.of (by decide) (by intro v hv; simp only [List.mem_cons, List.not_mem_nil, or_false] at hv; rcases hv with rfl | rfl | rfl | rfl <;> rfl) (Nat.le_of_ble_eq_true rfl) ?_
  intro Γ h hQ hRm hnm hl hw0
  have s400 : w.1 400 = (112, 0) := hM.1 400 (by decide) (by decide)
  have hky : R32 (kyM L i) := by unfold kyM; omega
  have hlb := ldM_bd hI (kyM L i) by_
  refine g_aload_n h dX12_isDead_0 rfl ?_
  refine g_bipush h dX12_isDead_1 rfl ?_
  refine g_iload_n h dX12_isDead_3 rfl ?_
  refine g_imul h dX12_isDead_4 ?_
  refine g_iload_n h dX12_isDead_5 rfl ?_
  refine g_iadd h dX12_isDead_6 ?_
  refine g_iload_n h dX12_isDead_7 rfl ?_
  refine g_callV h rfl (ci := 12) [_, _] (by assumption) (c_X12_latestDay _ _ rn sn (kyM L i) by_ hM hI hky ⟨by omega, by omega⟩) clX12_509 (by decide) rfl in_X12_latestDay se_X12_latestDay rfl rfl (by rw [hRm]; first | decide | (simp only [clS]; omega)) (by rw [hRm]; first | decide | (simp only [clS]; omega)) (fun _ => Nat.le_of_ble_eq_true rfl) (by rw [hRm]; first | decide | (simp only [clS]; omega)) (by rw [hRm]; first | decide | (simp only [clS]; omega)) dX12_isDead_8 (fun r8 w8 hp8 => ?_)
  obtain ⟨rfl, hw8⟩ := hp8
  rw [hw8]
  refine g_istore h dX12_isDead_11 (Nat.le_of_ble_eq_true rfl) rfl rfl ?_
  refine g_iload h dX12_isDead_13 rfl ?_
  refine g_iconst h dX12_isDead_15 ?_
  refine g_icmp_eq (tgt := 28) h dX12_isDead_16 (by decide) (by first | assumption | exact ⟨by omega, by omega⟩) (by first | assumption | exact ⟨by omega, by omega⟩) (fun c16 => ?_) (fun c16 => ?_)
  · refine g_iconst h dX12_isDead_28 ?_
    refine g_goto (tgt := 33) h dX12_isDead_29 (by decide) ?_
    refine g_zret h hQ (by first | decide | omega | (simp only [clS]; omega)) (by first | decide | omega | (simp only [clS]; omega)) (by omega) ?_ dX12_isDead_33
    refine ⟨congrArg (fun z => some (ai z)) ?_, rfl⟩
    unfold deM
    first | rw [if_pos (by omega)] | rw [if_neg (by omega)]
  · refine g_iload h dX12_isDead_19 rfl ?_
    refine g_iload_n h dX12_isDead_21 rfl ?_
    refine g_bipush h dX12_isDead_22 rfl ?_
    refine g_isub h dX12_isDead_24 ?_
    refine g_icmp_gt (tgt := 32) h dX12_isDead_25 (by decide) (by first | assumption | exact ⟨by omega, by omega⟩) (by first | assumption | exact ⟨by omega, by omega⟩) (fun c25 => ?_) (fun c25 => ?_)
    · refine g_iconst h dX12_isDead_32 ?_
      refine g_zret h hQ (by first | decide | omega | (simp only [clS]; omega)) (by first | decide | omega | (simp only [clS]; omega)) (by omega) ?_ dX12_isDead_33
      refine ⟨congrArg (fun z => some (ai z)) ?_, rfl⟩
      unfold deM
      first | rw [if_pos (by omega)] | rw [if_neg (by omega)]
    · refine g_iconst h dX12_isDead_28 ?_
      refine g_goto (tgt := 33) h dX12_isDead_29 (by decide) ?_
      refine g_zret h hQ (by first | decide | omega | (simp only [clS]; omega)) (by first | decide | omega | (simp only [clS]; omega)) (by omega) ?_ dX12_isDead_33
      refine ⟨congrArg (fun z => some (ai z)) ?_, rfl⟩
      unfold deM
      first | rw [if_pos (by omega)] | rw [if_neg (by omega)]
set_option maxRecDepth 100000 in
set_option maxHeartbeats 4000000 in
theorem c_X12_toldGas (l : Launch) (w : AW) (rn sn L i : Nat) (by_ : Int) (hM : MS w) (hN : MN w) (hI : MSI w rn sn) (hL : L < 2) (hi : i < 10) (hby : 0 ≤ by_ ∧ by_ ≤ 2999) : HT l yX12_toldGas cX12_toldGas 5 (some .int) 5 0 0 w [ar 400, ai (L : Int), ai (i : Int), ai by_] (rI (tgM w L i by_ rn sn) w) := by
  refine HT.of (by decide) (by intro v hv; simp only [List.mem_cons, List.not_mem_nil, or_false] at hv; rcases hv with rfl | rfl | rfl | rfl <;> rfl) (Nat.le_of_ble_eq_true rfl) ?_
  intro Γ h hQ hRm hnm hl hw0
  have s400 : w.1 400 = (112, 0) := hM.1 400 (by decide) (by decide)
  have hky : R32 (kyM L i) := by unfold kyM; omega
  have hlb := ldM_bd hI (kyM L i) by_
  have hd01 := deM_01 w L i by_ rn
  refine g_bipush h dX12_toldGas_0 rfl ?_
  refine g_iload_n h dX12_toldGas_2 rfl ?_
  refine g_imul h dX12_toldGas_3 ?_
  refine g_iload_n h dX12_toldGas_4 rfl ?_
  refine g_iadd h dX12_toldGas_5 ?_
  refine g_istore h dX12_toldGas_6 (Nat.le_of_ble_eq_true rfl) rfl rfl ?_
  refine g_aload_n h dX12_toldGas_8 rfl ?_
  refine g_iload_n h dX12_toldGas_9 rfl ?_
  refine g_iload_n h dX12_toldGas_10 rfl ?_
  refine g_iload_n h dX12_toldGas_11 rfl ?_
  refine g_callV h rfl (ci := 12) [_, _, _] (by assumption) (c_X12_isDead _ _ rn sn L i by_ hM hI hL hi hby) clX12_229 (by decide) rfl in_X12_isDead se_X12_isDead rfl rfl (by rw [hRm]; first | decide | (simp only [clS]; omega)) (by rw [hRm]; first | decide | (simp only [clS]; omega)) (fun _ => Nat.le_of_ble_eq_true rfl) (by rw [hRm]; first | decide | (simp only [clS]; omega)) (by rw [hRm]; first | decide | (simp only [clS]; omega)) dX12_toldGas_12 (fun r12 w12 hp12 => ?_)
  obtain ⟨rfl, hw12⟩ := hp12
  rw [hw12]
  refine g_if_eq (tgt := 27) h dX12_toldGas_15 (by decide) (by first | assumption | exact ⟨by omega, by omega⟩) (fun c15 => ?_) (fun c15 => ?_)
  · have hdd : deM w L i by_ rn = 0 := by omega
    refine g_aload_n h dX12_toldGas_27 rfl ?_
    refine g_iload h dX12_toldGas_28 rfl ?_
    refine g_aload_n h dX12_toldGas_30 rfl ?_
    refine g_iload h dX12_toldGas_31 rfl ?_
    refine g_iload_n h dX12_toldGas_33 rfl ?_
    refine g_callV h rfl (ci := 12) [_, _] (by assumption) (c_X12_latestDay _ _ rn sn (kyM L i) by_ hM hI hky ⟨by omega, by omega⟩) clX12_509 (by decide) rfl in_X12_latestDay se_X12_latestDay rfl rfl (by rw [hRm]; first | decide | (simp only [clS]; omega)) (by rw [hRm]; first | decide | (simp only [clS]; omega)) (fun _ => Nat.le_of_ble_eq_true rfl) (by rw [hRm]; first | decide | (simp only [clS]; omega)) (by rw [hRm]; first | decide | (simp only [clS]; omega)) dX12_toldGas_34 (fun r34 w34 hp34 => ?_)
    obtain ⟨rfl, hw34⟩ := hp34
    rw [hw34]
    refine g_iload_n h dX12_toldGas_37 rfl ?_
    refine g_callV h rfl (ci := 12) [_, _, _] (by assumption) (c_X12_putRight _ _ rn sn (kyM L i) _ by_ hM hI hky ⟨by unfold deM at hdd; split at hdd; omega; omega, by omega⟩ ⟨by omega, by omega⟩) clX12_512 (by decide) rfl in_X12_putRight se_X12_putRight rfl rfl (by rw [hRm]; first | decide | (simp only [clS]; omega)) (by rw [hRm]; first | decide | (simp only [clS]; omega)) (fun _ => Nat.le_of_ble_eq_true rfl) (by rw [hRm]; first | decide | (simp only [clS]; omega)) (by rw [hRm]; first | decide | (simp only [clS]; omega)) dX12_toldGas_38 (fun r38 w38 hp38 => ?_)
    obtain ⟨rfl, hw38⟩ := hp38
    rw [hw38]
    refine g_iret h hQ (by first | decide | omega | (simp only [clS]; omega)) (by first | decide | omega | (simp only [clS]; omega)) ?_ dX12_toldGas_41
    refine ⟨congrArg (fun z => some (ai z)) ?_, rfl⟩
    unfold tgM
    first | rw [if_pos (by omega)] | rw [if_neg (by omega)]
  · refine g_aload_n h dX12_toldGas_18 rfl ?_
    refine g_iload_n h dX12_toldGas_19 rfl ?_
    refine g_iload_n h dX12_toldGas_20 rfl ?_
    refine g_callV h rfl (ci := 12) [_, _] (by assumption) (c_X12_holds _ _ L i hM hN hL hi) clX12_192 (by decide) rfl in_X12_holds se_X12_holds rfl rfl (by rw [hRm]; first | decide | (simp only [clS]; omega)) (by rw [hRm]; first | decide | (simp only [clS]; omega)) (fun _ => Nat.le_of_ble_eq_true rfl) (by rw [hRm]; first | decide | (simp only [clS]; omega)) (by rw [hRm]; first | decide | (simp only [clS]; omega)) dX12_toldGas_21 (fun r21 w21 hp21 => ?_)
    obtain ⟨rfl, hw21⟩ := hp21
    rw [hw21]
    refine g_goto (tgt := 41) h dX12_toldGas_24 (by decide) ?_
    refine g_iret h hQ (by first | decide | omega | (simp only [clS]; omega)) (by first | decide | omega | (simp only [clS]; omega)) ?_ dX12_toldGas_41
    refine ⟨congrArg (fun z => some (ai z)) ?_, rfl⟩
    unfold tgM
    first | rw [if_pos (by omega)] | rw [if_neg (by omega)]
