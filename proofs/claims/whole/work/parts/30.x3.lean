/-! ===== the class: what it answers of the lakes ===== -/
/-- what holds of the class's numbers between calls, of the lakes and strings -/
def WI (w : AW) (n : Nat → Nat) (q : Nat → Nat → Nat) (S rn sn : Nat) : Prop := XS w ∧ SPI w S ∧ (∀ L, L < 2 → LN w L ∧ PQ w L (n L) (q L) ∧ ∀ i, i < n L → q L i < 56) ∧ SI w rn sn ∧ 0 ≤ w.2.1 0 13 ∧ w.2.1 0 13 ≤ 3000
theorem lkA_some {z : Int} (h : 0 ≤ z ∧ z < 2) : lkA z = some (2 + z.toNat) := if_pos h
theorem lkA_none {z : Int} (h : ¬ (0 ≤ z ∧ z < 2)) : lkA z = none := if_neg h
theorem tgW_bd {w : AW} {rn sn : Nat} {st day holds : Int} (h0 : 0 ≤ holds) (h1 : holds ≤ 100000) : 0 ≤ tgW w st day holds rn sn ∧ tgW w st day holds rn sn ≤ 100000 := by
  unfold tgW
  split
  · exact ⟨h0, h1⟩
  · unfold prW; omega
/-- the spare's world after it became lake L -/
def spW (w : AW) (n : Nat → Nat) (q : Nat → Nat → Nat) (S L : Nat) : AW := bcP (bcB w L) S (q L) (n L)
def holdsW (w : AW) (L i : Nat) : Int := holdsF (w.2.1 (2 + L) 5) (w.2.1 (2 + L) 6) i
def ftF (w : AW) (L rn sn : Nat) : Nat → Int
  | 0 => 0
  | i + 1 => max (ftF w L rn sn i) (fullF (tgW w ((L : Int) * 10 + (i : Int)) (w.2.1 0 13) (holdsW w L i) rn sn) (holdsW w L i))
set_option maxRecDepth 100000 in
set_option maxHeartbeats 4000000 in
theorem c_X9_burst (l : Launch) (w : AW) (n : Nat → Nat) (q : Nat → Nat → Nat) (S rn sn : Nat) (z : Int) (hW : WI w n q S rn sn) (hzr : R32 z) : HT l yX9_burst cX9_burst 3 (some .int) 6 (n z.toNat - S) (7 * (n z.toNat - S)) w [ar 0, ai z] (fun r w' => (0 ≤ z ∧ z < 2 → r = some (ai (dbF (n z.toNat) 365 1 (spW w n q S z.toNat)).1) ∧ w' = (dbF (n z.toNat) 365 1 (spW w n q S z.toNat)).2) ∧ (¬ (0 ≤ z ∧ z < 2) → r = some (ai (-1)) ∧ w' = w)) := by
  refine HT.of (by decide) (by intro v hv; simp only [List.mem_cons, List.not_mem_nil, or_false] at hv; rcases hv with rfl | rfl <;> rfl) (Nat.le_of_ble_eq_true rfl) ?_
  intro Γ h hQ hRm hnm hl hw0
  obtain ⟨hX, hS, hLk, hSI, t0, t1⟩ := id hW
  have s0 : w.1 0 = (109, 0) := hX.1 0 (by decide)
  by_cases hz : 0 ≤ z ∧ z < 2
  · have hl := lkA_some hz
    have hLK := XS_LK hX z.toNat (by omega)
    have kL := hLK.2.1
    obtain ⟨hN, hP, hq5⟩ := hLk z.toNat (by omega)
    refine g_aload_n h dX9_burst_0 rfl ?_
    refine g_iload_n h dX9_burst_1 rfl ?_
    refine g_callV h rfl (ci := 9) [_] (by assumption) (c_X9_lakeAt _ _ _ hX hzr) clX9_66 (by decide) rfl in_X9_lakeAt se_X9_lakeAt rfl rfl (by rw [hRm]; first | decide | (simp only [clS]; omega)) (by rw [hRm]; first | decide | (simp only [clS]; omega)) (fun _ => Nat.le_of_ble_eq_true rfl) (by rw [hRm]; first | decide | (simp only [clS]; omega)) (by rw [hRm]; first | decide | (simp only [clS]; omega)) dX9_burst_2 (fun r2 w2 hp2 => ?_)
    obtain ⟨rfl, hw2⟩ := hp2
    rw [hw2, hl]
    refine g_astore_n h dX9_burst_5 (Nat.le_of_ble_eq_true rfl) rfl rfl ?_
    refine g_aload_n h dX9_burst_6 rfl ?_
    refine g_ifnonnull (tgt := 14) h dX9_burst_7 (by decide) (fun _ cnn => ?_) (fun cnn => by cases cnn)
    refine g_aload_n h dX9_burst_14 rfl ?_
    refine g_aload_n h dX9_burst_15 rfl ?_
    refine g_callV h rfl (ci := 9) [_] (by assumption) (c_X9_daysToBurst _ _ z.toNat S (n z.toNat) (q z.toNat) hX (by omega) hN hP hq5 hS) clX9_158 (by decide) rfl in_X9_daysToBurst se_X9_daysToBurst rfl rfl (by rw [hRm]; first | decide | (simp only [clS]; omega)) (by rw [hRm]; first | decide | (simp only [clS]; omega)) (fun _ => Nat.le_of_ble_eq_true rfl) (by rw [hRm]; first | decide | (simp only [clS]; omega)) (by rw [hRm]; first | decide | (simp only [clS]; omega)) dX9_burst_16 (fun r16 w16 hp16 => ?_)
    obtain ⟨rfl, hw16⟩ := hp16
    rw [hw16]
    refine g_iret h hQ (by first | decide | omega | (simp only [clS]; omega)) (by first | decide | omega | (simp only [clS]; omega)) ?_ dX9_burst_19
    exact ⟨fun _ => ⟨rfl, rfl⟩, fun q => absurd hz q⟩
  · have hl := lkA_none hz
    refine g_aload_n h dX9_burst_0 rfl ?_
    refine g_iload_n h dX9_burst_1 rfl ?_
    refine g_callV h rfl (ci := 9) [_] (by assumption) (c_X9_lakeAt _ _ _ hX hzr) clX9_66 (by decide) rfl in_X9_lakeAt se_X9_lakeAt rfl rfl (by rw [hRm]; first | decide | (simp only [clS]; omega)) (by rw [hRm]; first | decide | (simp only [clS]; omega)) (fun _ => Nat.le_of_ble_eq_true rfl) (by rw [hRm]; first | decide | (simp only [clS]; omega)) (by rw [hRm]; first | decide | (simp only [clS]; omega)) dX9_burst_2 (fun r2 w2 hp2 => ?_)
    obtain ⟨rfl, hw2⟩ := hp2
    rw [hw2, hl]
    refine g_astore_n h dX9_burst_5 (Nat.le_of_ble_eq_true rfl) rfl rfl ?_
    refine g_aload_n h dX9_burst_6 rfl ?_
    refine g_ifnonnull (tgt := 14) h dX9_burst_7 (by decide) (fun _ cnn => by cases cnn) (fun cnn => ?_)
    refine g_iconst h dX9_burst_10 ?_
    refine g_goto (tgt := 19) h dX9_burst_11 (by decide) ?_
    refine g_iret h hQ (by first | decide | omega | (simp only [clS]; omega)) (by first | decide | omega | (simp only [clS]; omega)) ?_ dX9_burst_19
    exact ⟨fun q => absurd q hz, fun _ => ⟨rfl, rfl⟩⟩
/-- the days ahead keep the class's cells -/
theorem dfF_X {n : Nat} {share : Int} : ∀ (d : Nat) (day : Int) (w : AW), XS w → XS (dfF n share d day w).2
  | 0, _, _, h => h
  | d + 1, day, w, h => by
    unfold dfF
    split
    · exact h
    · split
      · exact XS_of (goW_1 w 2 n sq).1 (goW_1 w 2 n sq).2 h
      · exact dfF_X d _ _ (XS_of (goW_1 w 2 n sq).1 (goW_1 w 2 n sq).2 h)
set_option maxRecDepth 100000 in
set_option maxHeartbeats 4000000 in
theorem c_X9_until (l : Launch) (w : AW) (n : Nat → Nat) (q : Nat → Nat → Nat) (S rn sn : Nat) (z s : Int) (hW : WI w n q S rn sn) (hzr : R32 z) (hs : R32 s) : HT l yX9_until cX9_until 4 (some .int) 6 (n z.toNat - S) (7 * (n z.toNat - S)) w [ar 0, ai z, ai s] (fun r w' => (¬ (0 ≤ z ∧ z < 2) → r = some (ai (-1)) ∧ w' = upI w 0 16 1) ∧ (0 ≤ z ∧ z < 2 → ¬ (1 ≤ s ∧ s ≤ 999) → r = some (ai (-1)) ∧ w' = upI w 0 16 2) ∧ (0 ≤ z ∧ z < 2 → 1 ≤ s ∧ s ≤ 999 → r = some (ai (dfF (n z.toNat) s 366 0 (spW w n q S z.toNat)).1) ∧ w' = upI (dfF (n z.toNat) s 366 0 (spW w n q S z.toNat)).2 0 16 0)) := by
  refine HT.of (by decide) (by intro v hv; simp only [List.mem_cons, List.not_mem_nil, or_false] at hv; rcases hv with rfl | rfl | rfl <;> rfl) (Nat.le_of_ble_eq_true rfl) ?_
  intro Γ h hQ hRm hnm hl hw0
  obtain ⟨hX, hS, hLk, hSI, t0, t1⟩ := id hW
  have s0 : w.1 0 = (109, 0) := hX.1 0 (by decide)
  by_cases hz : 0 ≤ z ∧ z < 2
  · have hl := lkA_some hz
    have hLK := XS_LK hX z.toNat (by omega)
    have kL := hLK.2.1
    obtain ⟨hN, hP, hq5⟩ := hLk z.toNat (by omega)
    refine g_aload_n h dX9_until_0 rfl ?_
    refine g_iload_n h dX9_until_1 rfl ?_
    refine g_callV h rfl (ci := 9) [_] (by assumption) (c_X9_lakeAt _ _ _ hX hzr) clX9_66 (by decide) rfl in_X9_lakeAt se_X9_lakeAt rfl rfl (by rw [hRm]; first | decide | (simp only [clS]; omega)) (by rw [hRm]; first | decide | (simp only [clS]; omega)) (fun _ => Nat.le_of_ble_eq_true rfl) (by rw [hRm]; first | decide | (simp only [clS]; omega)) (by rw [hRm]; first | decide | (simp only [clS]; omega)) dX9_until_2 (fun r2 w2 hp2 => ?_)
    obtain ⟨rfl, hw2⟩ := hp2
    rw [hw2, hl]
    refine g_astore_n h dX9_until_5 (Nat.le_of_ble_eq_true rfl) rfl rfl ?_
    refine g_aload_n h dX9_until_6 rfl ?_
    refine g_ifnonnull (tgt := 16) h dX9_until_7 (by decide) (fun _ cnn => ?_) (fun cnn => by cases cnn)
    refine g_iload_n h dX9_until_16 rfl ?_
    refine g_iconst h dX9_until_17 ?_
    refine g_sipush h dX9_until_18 rfl ?_
    refine g_callS h rfl [_, _, _] (c_X9_isWithin _ _ _ _ _ hs ⟨by omega, by omega⟩ ⟨by omega, by omega⟩) clX9_78 st_X9_isWithin rfl rfl (by rw [hRm]; first | decide | (simp only [clS]; omega)) (by rw [hRm]; first | decide | (simp only [clS]; omega)) (fun _ => Nat.le_of_ble_eq_true rfl) (by rw [hRm]; first | decide | (simp only [clS]; omega)) (by rw [hRm]; first | decide | (simp only [clS]; omega)) dX9_until_21 (fun r21 w21 hp21 => ?_)
    obtain ⟨rfl, hw21⟩ := hp21
    rw [hw21]
    have hb : (if (1 : Int) ≤ s ∧ s ≤ 999 then (1 : Int) else 0) = 1 ∧ (1 ≤ s ∧ s ≤ 999) ∨ (if (1 : Int) ≤ s ∧ s ≤ 999 then (1 : Int) else 0) = 0 ∧ ¬ (1 ≤ s ∧ s ≤ 999) := by by_cases c : 1 ≤ s ∧ s ≤ 999 <;> simp only [c, if_pos, if_neg, and_self, not_false_eq_true, or_true, true_or, not_true_eq_false, and_true, and_false, if_true, if_false]
    refine g_if_ne (tgt := 33) h dX9_until_24 (by decide) (by first | assumption | exact ⟨by omega, by omega⟩) (fun c24 => ?_) (fun c24 => ?_)
    · refine g_aload_n h dX9_until_33 rfl ?_
      refine g_aload_n h dX9_until_34 rfl ?_
      refine g_aload_n h dX9_until_35 rfl ?_
      refine g_iload_n h dX9_until_36 rfl ?_
      refine g_callV h rfl (ci := 9) [_, _] (by assumption) (c_X9_daysToFull _ _ z.toNat S (n z.toNat) (q z.toNat) s hX (by omega) hN hP hq5 hS hs) clX9_165 (by decide) rfl in_X9_daysToFull se_X9_daysToFull rfl rfl (by rw [hRm]; first | decide | (simp only [clS]; omega)) (by rw [hRm]; first | decide | (simp only [clS]; omega)) (fun _ => Nat.le_of_ble_eq_true rfl) (by rw [hRm]; first | decide | (simp only [clS]; omega)) (by rw [hRm]; first | decide | (simp only [clS]; omega)) dX9_until_37 (fun r37 w37 hp37 => ?_)
      obtain ⟨rfl, hw37⟩ := hp37
      rw [hw37]
      have hX2 := dfF_X (n := n z.toNat) (share := s) 366 0 _ (bcP_ok hX (by omega) hN hP hq5 hS).1
      have s0b : _ = ((109 : Nat), (0 : Nat)) := hX2.1 0 (by decide)
      refine g_callV h rfl (ci := 9) [_] (by assumption) (c_X9_answered _ _ _ (dfF_X _ _ _ (bcP_ok hX (by omega) hN hP hq5 hS).1)) clX9_169 (by decide) rfl in_X9_answered se_X9_answered rfl rfl (by rw [hRm]; first | decide | (simp only [clS]; omega)) (by rw [hRm]; first | decide | (simp only [clS]; omega)) (fun _ => Nat.le_of_ble_eq_true rfl) (by rw [hRm]; first | decide | (simp only [clS]; omega)) (by rw [hRm]; first | decide | (simp only [clS]; omega)) dX9_until_40 (fun r40 w40 hp40 => ?_)
      obtain ⟨rfl, hw40⟩ := hp40
      rw [hw40]
      refine g_iret h hQ (by first | decide | omega | (simp only [clS]; omega)) (by first | decide | omega | (simp only [clS]; omega)) ?_ dX9_until_43
      exact ⟨fun q => absurd hz q, fun _ q => absurd (by omega) q, fun _ _ => ⟨rfl, rfl⟩⟩
    · refine g_aload_n h dX9_until_27 rfl ?_
      refine g_iconst h dX9_until_28 ?_
      refine g_callV h rfl (ci := 9) [_] (by assumption) (c_X9_refused _ _ _ hX) clX9_162 (by decide) rfl in_X9_refused se_X9_refused rfl rfl (by rw [hRm]; first | decide | (simp only [clS]; omega)) (by rw [hRm]; first | decide | (simp only [clS]; omega)) (fun _ => Nat.le_of_ble_eq_true rfl) (by rw [hRm]; first | decide | (simp only [clS]; omega)) (by rw [hRm]; first | decide | (simp only [clS]; omega)) dX9_until_29 (fun r29 w29 hp29 => ?_)
      obtain ⟨rfl, hw29⟩ := hp29
      rw [hw29]
      refine g_iret h hQ (by first | decide | omega | (simp only [clS]; omega)) (by first | decide | omega | (simp only [clS]; omega)) ?_ dX9_until_32
      exact ⟨fun q => absurd hz q, fun _ _ => ⟨rfl, rfl⟩, fun _ q => absurd q (by omega)⟩
  · have hl := lkA_none hz
    refine g_aload_n h dX9_until_0 rfl ?_
    refine g_iload_n h dX9_until_1 rfl ?_
    refine g_callV h rfl (ci := 9) [_] (by assumption) (c_X9_lakeAt _ _ _ hX hzr) clX9_66 (by decide) rfl in_X9_lakeAt se_X9_lakeAt rfl rfl (by rw [hRm]; first | decide | (simp only [clS]; omega)) (by rw [hRm]; first | decide | (simp only [clS]; omega)) (fun _ => Nat.le_of_ble_eq_true rfl) (by rw [hRm]; first | decide | (simp only [clS]; omega)) (by rw [hRm]; first | decide | (simp only [clS]; omega)) dX9_until_2 (fun r2 w2 hp2 => ?_)
    obtain ⟨rfl, hw2⟩ := hp2
    rw [hw2, hl]
    refine g_astore_n h dX9_until_5 (Nat.le_of_ble_eq_true rfl) rfl rfl ?_
    refine g_aload_n h dX9_until_6 rfl ?_
    refine g_ifnonnull (tgt := 16) h dX9_until_7 (by decide) (fun _ cnn => by cases cnn) (fun cnn => ?_)
    refine g_aload_n h dX9_until_10 rfl ?_
    refine g_iconst h dX9_until_11 ?_
    refine g_callV h rfl (ci := 9) [_] (by assumption) (c_X9_refused _ _ _ hX) clX9_162 (by decide) rfl in_X9_refused se_X9_refused rfl rfl (by rw [hRm]; first | decide | (simp only [clS]; omega)) (by rw [hRm]; first | decide | (simp only [clS]; omega)) (fun _ => Nat.le_of_ble_eq_true rfl) (by rw [hRm]; first | decide | (simp only [clS]; omega)) (by rw [hRm]; first | decide | (simp only [clS]; omega)) dX9_until_12 (fun r12 w12 hp12 => ?_)
    obtain ⟨rfl, hw12⟩ := hp12
    rw [hw12]
    refine g_iret h hQ (by first | decide | omega | (simp only [clS]; omega)) (by first | decide | omega | (simp only [clS]; omega)) ?_ dX9_until_15
    exact ⟨fun _ => ⟨rfl, rfl⟩, fun q => absurd q hz, fun q => absurd q hz⟩
set_option maxRecDepth 100000 in
set_option maxHeartbeats 4000000 in
theorem c_X9_fullTold (l : Launch) (w : AW) (n : Nat → Nat) (q : Nat → Nat → Nat) (S rn sn : Nat) (L : Nat) (hW : WI w n q S rn sn) (hL : L < 2) : HT l yX9_fullTold cX9_fullTold 6 (some .int) 5 0 0 w [ar 0, ai (L : Int), ar (2 + L)] (rI (ftF w L rn sn 10) w) := by
  refine HT.of (by decide) (by intro v hv; simp only [List.mem_cons, List.not_mem_nil, or_false] at hv; rcases hv with rfl | rfl | rfl <;> rfl) (Nat.le_of_ble_eq_true rfl) ?_
  intro Γ h hQ hRm hnm hl hw0
  obtain ⟨hX, hS, hLk, hSI, t0, t1⟩ := id hW
  have s0 : w.1 0 = (109, 0) := hX.1 0 (by decide)
  have s28 : w.1 28 = (107, 0) := hX.1 28 (by decide)
  have p0_9 : w.2.2 0 9 = some 28 := hX.2 (0, 9, 28) (by decide)
  have hLK := XS_LK hX L (by omega)
  have kL := hLK.2.1
  obtain ⟨hN, hP, hq5⟩ := hLk L hL
  obtain ⟨hrow, n5, n5', n6, n6', -⟩ := id hN
  have ftb : ∀ i, i ≤ 10 → 0 ≤ ftF w L rn sn i ∧ ftF w L rn sn i ≤ 999 := by
    intro i
    induction i with
    | zero => intro _; exact ⟨Int.le_refl _, by show (0 : Int) ≤ 999; omega⟩
    | succ i ih =>
      intro hi
      have := ih (by omega)
      have hh := holdsF_bd n5 n5' n6 n6' (show i < 10 by omega)
      have ht := tgW_bd (w := w) (rn := rn) (sn := sn) (st := (L : Int) * 10 + (i : Int)) (day := w.2.1 0 13) hh.1 hh.2
      have hf := fullF_bd (tgW w ((L : Int) * 10 + (i : Int)) (w.2.1 0 13) (holdsW w L i) rn sn) (holdsW w L i) ht.2
      show 0 ≤ max _ _ ∧ max _ _ ≤ 999
      omega
  have loop : ∀ (d i : Nat) (x : Option AV), i + d = 10 → GG Γ 5 [some (ar 0), some (ai (L : Int)), some (ar (2 + L)), some (ai (ftF w L rn sn i)), some (ai (i : Int)), x] [] w 0 0 := by
    intro d
    induction d with
    | zero =>
      intro i x hi
      obtain rfl : i = 10 := by omega
      refine g_iload h dX9_fullTold_5 rfl ?_
      refine g_bipush h dX9_fullTold_7 rfl ?_
      refine g_icmp_ge (tgt := 55) h dX9_fullTold_9 (by decide) (by first | assumption | exact ⟨by omega, by omega⟩) (by first | assumption | exact ⟨by omega, by omega⟩) (fun c9 => ?_) (fun c9 => ?_)
      · refine g_iload_n h dX9_fullTold_55 rfl ?_
        refine g_iret h hQ (by first | decide | omega | (simp only [clS]; omega)) (by first | decide | omega | (simp only [clS]; omega)) ?_ dX9_fullTold_56
        (first | exact ⟨rfl, rfl⟩ | (exfalso; omega))
      · exfalso; omega
    | succ d ih =>
      intro i x hi
      have hfb := ftb i (by omega)
      have hhb : 0 ≤ holdsW w L i ∧ holdsW w L i ≤ 100000 := holdsF_bd n5 n5' n6 n6' (show i < 10 by omega)
      have htb := tgW_bd (w := w) (rn := rn) (sn := sn) (st := (L : Int) * 10 + (i : Int)) (day := w.2.1 0 13) hhb.1 hhb.2
      have hff := fullF_bd (tgW w ((L : Int) * 10 + (i : Int)) (w.2.1 0 13) (holdsW w L i) rn sn) (holdsW w L i) htb.2
      refine g_iload h dX9_fullTold_5 rfl ?_
      refine g_bipush h dX9_fullTold_7 rfl ?_
      refine g_icmp_ge (tgt := 55) h dX9_fullTold_9 (by decide) (by first | assumption | exact ⟨by omega, by omega⟩) (by first | assumption | exact ⟨by omega, by omega⟩) (fun c9 => ?_) (fun c9 => ?_)
      · exfalso; omega
      · refine g_aload_n h dX9_fullTold_12 rfl ?_
        refine g_iload h dX9_fullTold_13 rfl ?_
        refine g_callV h rfl (ci := 2) [_] (by assumption) (c_X2_holdsOf _ _ L i hLK hN (by omega)) clX9_114 (by decide) rfl in_X2_holdsOf se_X2_holdsOf rfl rfl (by rw [hRm]; first | decide | (simp only [clS]; omega)) (by rw [hRm]; first | decide | (simp only [clS]; omega)) (fun _ => Nat.le_of_ble_eq_true rfl) (by rw [hRm]; first | decide | (simp only [clS]; omega)) (by rw [hRm]; first | decide | (simp only [clS]; omega)) dX9_fullTold_15 (fun r15 w15 hp15 => ?_)
        obtain ⟨rfl, hw15⟩ := hp15
        rw [hw15]
        change GG Γ _ _ [ai (holdsW w L i)] w _ _
        refine g_istore h dX9_fullTold_18 (Nat.le_of_ble_eq_true rfl) rfl rfl ?_
        refine g_iload_n h dX9_fullTold_20 rfl ?_
        refine g_aload_n h dX9_fullTold_21 rfl ?_
        refine g_getQ h flX9_45 rfl (by assumption) (by assumption) dX9_fullTold_22 ?_
        refine g_iload_n h dX9_fullTold_25 rfl ?_
        refine g_iload h dX9_fullTold_26 rfl ?_
        refine g_callS h rfl [_, _] (c_X9_stringOf _ _ _ _) clX9_117 st_X9_stringOf rfl rfl (by rw [hRm]; first | decide | (simp only [clS]; omega)) (by rw [hRm]; first | decide | (simp only [clS]; omega)) (fun _ => Nat.le_of_ble_eq_true rfl) (by rw [hRm]; first | decide | (simp only [clS]; omega)) (by rw [hRm]; first | decide | (simp only [clS]; omega)) dX9_fullTold_28 (fun r28 w28 hp28 => ?_)
        obtain ⟨rfl, hw28⟩ := hp28
        rw [hw28]
        refine g_aload_n h dX9_fullTold_31 rfl ?_
        refine g_getI h flX9_121 rfl (by assumption) dX9_fullTold_32 ?_
        refine g_iload h dX9_fullTold_35 rfl ?_
        refine g_callV h rfl (ci := 7) [_, _, _] (by assumption) (c_X7_toldGas _ _ rn sn _ _ _ hX hSI ⟨by omega, by omega⟩ (by omega) (by omega)) clX9_124 (by decide) rfl in_X7_toldGas se_X7_toldGas rfl rfl (by rw [hRm]; first | decide | (simp only [clS]; omega)) (by rw [hRm]; first | decide | (simp only [clS]; omega)) (fun _ => Nat.le_of_ble_eq_true rfl) (by rw [hRm]; first | decide | (simp only [clS]; omega)) (by rw [hRm]; first | decide | (simp only [clS]; omega)) dX9_fullTold_37 (fun r37 w37 hp37 => ?_)
        obtain ⟨rfl, hw37⟩ := hp37
        rw [hw37]
        refine g_iload h dX9_fullTold_40 rfl ?_
        refine g_callS h rfl [_, _] (c_X9_fullBy _ _ _ _ htb.2 ⟨by omega, by omega⟩ ⟨by omega, by omega⟩) clX9_361 st_X9_fullBy rfl rfl (by rw [hRm]; first | decide | (simp only [clS]; omega)) (by rw [hRm]; first | decide | (simp only [clS]; omega)) (fun _ => Nat.le_of_ble_eq_true rfl) (by rw [hRm]; first | decide | (simp only [clS]; omega)) (by rw [hRm]; first | decide | (simp only [clS]; omega)) dX9_fullTold_42 (fun r42 w42 hp42 => ?_)
        obtain ⟨rfl, hw42⟩ := hp42
        rw [hw42]
        refine g_max h rfl mmaxX9_364 (by first | assumption | exact ⟨by omega, by omega⟩) (by first | assumption | exact ⟨by omega, by omega⟩) (by rw [hRm]; first | decide | (simp only [clS]; omega)) (by rw [hRm]; first | decide | (simp only [clS]; omega)) (fun _ => Nat.le_of_ble_eq_true rfl) (by rw [hRm]; first | decide | (simp only [clS]; omega)) (by rw [hRm]; first | decide | (simp only [clS]; omega)) dX9_fullTold_45 ?_
        refine g_istore_n h dX9_fullTold_48 (Nat.le_of_ble_eq_true rfl) rfl rfl ?_
        refine g_iinc h dX9_fullTold_49 rfl (Nat.le_of_ble_eq_true rfl) rfl rfl ?_
        refine g_goto (tgt := 5) h dX9_fullTold_52 (by decide) ?_
        exact ih (i + 1) _ (by omega)
  refine g_iconst h dX9_fullTold_0 ?_
  refine g_istore_n h dX9_fullTold_1 (Nat.le_of_ble_eq_true rfl) rfl rfl ?_
  refine g_iconst h dX9_fullTold_2 ?_
  refine g_istore h dX9_fullTold_3 (Nat.le_of_ble_eq_true rfl) rfl rfl ?_
  exact loop 10 0 none (by omega)
set_option maxRecDepth 100000 in
set_option maxHeartbeats 4000000 in
theorem c_X9_full (l : Launch) (w : AW) (n : Nat → Nat) (q : Nat → Nat → Nat) (S rn sn : Nat) (z b : Int) (hW : WI w n q S rn sn) (hzr : R32 z) (hb : b = 0 ∨ b = 1) : HT l yX9_full cX9_full 4 (some .int) 6 0 0 w [ar 0, ai z, ai b] (fun r w' => w' = w ∧ (¬ (0 ≤ z ∧ z < 2) → r = some (ai (-1))) ∧ (0 ≤ z ∧ z < 2 → r = some (ai (if b = 0 then fullestF (w.2.1 (5 + z.toNat)) (w.2.1 (2 + z.toNat) 5) (w.2.1 (2 + z.toNat) 6) 10 else ftF w z.toNat rn sn 10)))) := by
  refine HT.of (by decide) (by intro v hv; simp only [List.mem_cons, List.not_mem_nil, or_false] at hv; rcases hv with rfl | rfl | rfl <;> rfl) (Nat.le_of_ble_eq_true rfl) ?_
  intro Γ h hQ hRm hnm hl hw0
  obtain ⟨hX, hS, hLk, hSI, t0, t1⟩ := id hW
  have s0 : w.1 0 = (109, 0) := hX.1 0 (by decide)
  by_cases hz : 0 ≤ z ∧ z < 2
  · have hl := lkA_some hz
    have hLK := XS_LK hX z.toNat (by omega)
    have kL := hLK.2.1
    obtain ⟨hN, hP, hq5⟩ := hLk z.toNat (by omega)
    refine g_aload_n h dX9_full_0 rfl ?_
    refine g_iload_n h dX9_full_1 rfl ?_
    refine g_callV h rfl (ci := 9) [_] (by assumption) (c_X9_lakeAt _ _ _ hX hzr) clX9_66 (by decide) rfl in_X9_lakeAt se_X9_lakeAt rfl rfl (by rw [hRm]; first | decide | (simp only [clS]; omega)) (by rw [hRm]; first | decide | (simp only [clS]; omega)) (fun _ => Nat.le_of_ble_eq_true rfl) (by rw [hRm]; first | decide | (simp only [clS]; omega)) (by rw [hRm]; first | decide | (simp only [clS]; omega)) dX9_full_2 (fun r2 w2 hp2 => ?_)
    obtain ⟨rfl, hw2⟩ := hp2
    rw [hw2, hl]
    refine g_astore_n h dX9_full_5 (Nat.le_of_ble_eq_true rfl) rfl rfl ?_
    refine g_aload_n h dX9_full_6 rfl ?_
    refine g_ifnonnull (tgt := 12) h dX9_full_7 (by decide) (fun _ cnn => ?_) (fun cnn => by cases cnn)
    refine g_iload_n h dX9_full_12 rfl ?_
    refine g_if_eq (tgt := 25) h dX9_full_13 (by decide) (by first | assumption | exact ⟨by omega, by omega⟩) (fun c13 => ?_) (fun c13 => ?_)
    · refine g_aload_n h dX9_full_25 rfl ?_
      refine g_callV h rfl (ci := 2) [] (by assumption) (c_X2_fullest _ _ z.toNat hLK hN) clX9_136 (by decide) rfl in_X2_fullest se_X2_fullest rfl rfl (by rw [hRm]; first | decide | (simp only [clS]; omega)) (by rw [hRm]; first | decide | (simp only [clS]; omega)) (fun _ => Nat.le_of_ble_eq_true rfl) (by rw [hRm]; first | decide | (simp only [clS]; omega)) (by rw [hRm]; first | decide | (simp only [clS]; omega)) dX9_full_26 (fun r26 w26 hp26 => ?_)
      obtain ⟨rfl, hw26⟩ := hp26
      rw [hw26]
      refine g_iret h hQ (by first | decide | omega | (simp only [clS]; omega)) (by first | decide | omega | (simp only [clS]; omega)) ?_ dX9_full_29
      first
      | exact ⟨rfl, fun q => absurd hz q, fun _ => by rw [if_neg (by omega)]⟩
      | exact ⟨rfl, fun q => absurd hz q, fun _ => by rw [if_pos (by omega)]⟩
    · obtain ⟨zn, rfl⟩ : ∃ m : Nat, z = (m : Int) := ⟨z.toNat, by omega⟩
      simp only [Int.toNat_natCast] at *
      refine g_aload_n h dX9_full_16 rfl ?_
      refine g_iload_n h dX9_full_17 rfl ?_
      refine g_aload_n h dX9_full_18 rfl ?_
      refine g_callV h rfl (ci := 9) [_, _] (by assumption) (c_X9_fullTold _ _ n q S rn sn zn hW (by omega)) clX9_132 (by decide) rfl in_X9_fullTold se_X9_fullTold rfl rfl (by rw [hRm]; first | decide | (simp only [clS]; omega)) (by rw [hRm]; first | decide | (simp only [clS]; omega)) (fun _ => Nat.le_of_ble_eq_true rfl) (by rw [hRm]; first | decide | (simp only [clS]; omega)) (by rw [hRm]; first | decide | (simp only [clS]; omega)) dX9_full_19 (fun r19 w19 hp19 => ?_)
      obtain ⟨rfl, hw19⟩ := hp19
      rw [hw19]
      refine g_goto (tgt := 29) h dX9_full_22 (by decide) ?_
      refine g_iret h hQ (by first | decide | omega | (simp only [clS]; omega)) (by first | decide | omega | (simp only [clS]; omega)) ?_ dX9_full_29
      first
      | exact ⟨rfl, fun q => absurd hz q, fun _ => by rw [if_neg (by omega)]⟩
      | exact ⟨rfl, fun q => absurd hz q, fun _ => by rw [if_pos (by omega)]⟩
  · have hl := lkA_none hz
    refine g_aload_n h dX9_full_0 rfl ?_
    refine g_iload_n h dX9_full_1 rfl ?_
    refine g_callV h rfl (ci := 9) [_] (by assumption) (c_X9_lakeAt _ _ _ hX hzr) clX9_66 (by decide) rfl in_X9_lakeAt se_X9_lakeAt rfl rfl (by rw [hRm]; first | decide | (simp only [clS]; omega)) (by rw [hRm]; first | decide | (simp only [clS]; omega)) (fun _ => Nat.le_of_ble_eq_true rfl) (by rw [hRm]; first | decide | (simp only [clS]; omega)) (by rw [hRm]; first | decide | (simp only [clS]; omega)) dX9_full_2 (fun r2 w2 hp2 => ?_)
    obtain ⟨rfl, hw2⟩ := hp2
    rw [hw2, hl]
    refine g_astore_n h dX9_full_5 (Nat.le_of_ble_eq_true rfl) rfl rfl ?_
    refine g_aload_n h dX9_full_6 rfl ?_
    refine g_ifnonnull (tgt := 12) h dX9_full_7 (by decide) (fun _ cnn => by cases cnn) (fun cnn => ?_)
    refine g_iconst h dX9_full_10 ?_
    refine g_iret h hQ (by first | decide | omega | (simp only [clS]; omega)) (by first | decide | omega | (simp only [clS]; omega)) ?_ dX9_full_11
    exact ⟨rfl, fun _ => rfl, fun q => absurd q hz⟩
set_option maxRecDepth 100000 in
set_option maxHeartbeats 4000000 in
theorem c_X9_led (l : Launch) (w : AW) (n : Nat → Nat) (q : Nat → Nat → Nat) (S rn sn : Nat) (z a : Int) (hW : WI w n q S rn sn) (hzr : R32 z) (ha : R32 a) : HT l yX9_led cX9_led 4 (some .int) 2 0 0 w [ar 0, ai z, ai a] (fun r w' => w' = w ∧ (¬ (0 ≤ z ∧ z < 2 ∧ 0 ≤ a ∧ a < 6) → r = some (ai (-2147483648))) ∧ (0 ≤ z ∧ z < 2 → 0 ≤ a ∧ a < 6 → r = some (ai (if a = 4 then sumF (w.2.1 (5 + z.toNat)) 10 else if a = 5 then w.2.1 (2 + z.toNat) 14 else w.2.1 (2 + z.toNat) (10 + a.toNat))))) := by
  refine HT.of (by decide) (by intro v hv; simp only [List.mem_cons, List.not_mem_nil, or_false] at hv; rcases hv with rfl | rfl | rfl <;> rfl) (Nat.le_of_ble_eq_true rfl) ?_
  intro Γ h hQ hRm hnm hl hw0
  obtain ⟨hX, hS, hLk, hSI, t0, t1⟩ := id hW
  have s0 : w.1 0 = (109, 0) := hX.1 0 (by decide)
  by_cases hz : 0 ≤ z ∧ z < 2
  · have hl := lkA_some hz
    have hLK := XS_LK hX z.toNat (by omega)
    have kL := hLK.2.1
    obtain ⟨hN, hP, hq5⟩ := hLk z.toNat (by omega)
    refine g_aload_n h dX9_led_0 rfl ?_
    refine g_iload_n h dX9_led_1 rfl ?_
    refine g_callV h rfl (ci := 9) [_] (by assumption) (c_X9_lakeAt _ _ _ hX hzr) clX9_66 (by decide) rfl in_X9_lakeAt se_X9_lakeAt rfl rfl (by rw [hRm]; first | decide | (simp only [clS]; omega)) (by rw [hRm]; first | decide | (simp only [clS]; omega)) (fun _ => Nat.le_of_ble_eq_true rfl) (by rw [hRm]; first | decide | (simp only [clS]; omega)) (by rw [hRm]; first | decide | (simp only [clS]; omega)) dX9_led_2 (fun r2 w2 hp2 => ?_)
    obtain ⟨rfl, hw2⟩ := hp2
    rw [hw2, hl]
    refine g_astore_n h dX9_led_5 (Nat.le_of_ble_eq_true rfl) rfl rfl ?_
    refine g_aload_n h dX9_led_6 rfl ?_
    refine g_ifnonnull (tgt := 13) h dX9_led_7 (by decide) (fun _ cnn => ?_) (fun cnn => by cases cnn)
    refine g_iload_n h dX9_led_13 rfl ?_
    rcases (show a = 0 ∨ a = 1 ∨ a = 2 ∨ a = 3 ∨ a = 4 ∨ a = 5 ∨ (a < 0 ∨ 5 < a) by omega) with c14 | c14 | c14 | c14 | c14 | c14 | c14
    · refine g_tswI (tgt := 52) h 0 (by first | assumption | exact ⟨by omega, by omega⟩) (by first | omega | assumption) (by first | omega | assumption) rfl (by decide) dX9_led_14 ?_
      refine g_aload_n h dX9_led_52 rfl ?_
      refine g_getI h flX9_140 rfl (by assumption) dX9_led_53 ?_
      refine g_iret h hQ (by first | decide | omega | (simp only [clS]; omega)) (by first | decide | omega | (simp only [clS]; omega)) ?_ dX9_led_56
      first
      | exact ⟨rfl, fun _ => rfl, fun _ q => absurd q (by omega)⟩
      | (subst c14; exact ⟨rfl, fun q => absurd ⟨hz.1, hz.2, by decide, by decide⟩ q, fun _ _ => rfl⟩)
    · refine g_tswI (tgt := 57) h 1 (by first | assumption | exact ⟨by omega, by omega⟩) (by first | omega | assumption) (by first | omega | assumption) rfl (by decide) dX9_led_14 ?_
      refine g_aload_n h dX9_led_57 rfl ?_
      refine g_getI h flX9_143 rfl (by assumption) dX9_led_58 ?_
      refine g_iret h hQ (by first | decide | omega | (simp only [clS]; omega)) (by first | decide | omega | (simp only [clS]; omega)) ?_ dX9_led_61
      first
      | exact ⟨rfl, fun _ => rfl, fun _ q => absurd q (by omega)⟩
      | (subst c14; exact ⟨rfl, fun q => absurd ⟨hz.1, hz.2, by decide, by decide⟩ q, fun _ _ => rfl⟩)
    · refine g_tswI (tgt := 62) h 2 (by first | assumption | exact ⟨by omega, by omega⟩) (by first | omega | assumption) (by first | omega | assumption) rfl (by decide) dX9_led_14 ?_
      refine g_aload_n h dX9_led_62 rfl ?_
      refine g_getI h flX9_146 rfl (by assumption) dX9_led_63 ?_
      refine g_iret h hQ (by first | decide | omega | (simp only [clS]; omega)) (by first | decide | omega | (simp only [clS]; omega)) ?_ dX9_led_66
      first
      | exact ⟨rfl, fun _ => rfl, fun _ q => absurd q (by omega)⟩
      | (subst c14; exact ⟨rfl, fun q => absurd ⟨hz.1, hz.2, by decide, by decide⟩ q, fun _ _ => rfl⟩)
    · refine g_tswI (tgt := 67) h 3 (by first | assumption | exact ⟨by omega, by omega⟩) (by first | omega | assumption) (by first | omega | assumption) rfl (by decide) dX9_led_14 ?_
      refine g_aload_n h dX9_led_67 rfl ?_
      refine g_getI h flX9_149 rfl (by assumption) dX9_led_68 ?_
      refine g_iret h hQ (by first | decide | omega | (simp only [clS]; omega)) (by first | decide | omega | (simp only [clS]; omega)) ?_ dX9_led_71
      first
      | exact ⟨rfl, fun _ => rfl, fun _ q => absurd q (by omega)⟩
      | (subst c14; exact ⟨rfl, fun q => absurd ⟨hz.1, hz.2, by decide, by decide⟩ q, fun _ _ => rfl⟩)
    · refine g_tswI (tgt := 72) h 4 (by first | assumption | exact ⟨by omega, by omega⟩) (by first | omega | assumption) (by first | omega | assumption) rfl (by decide) dX9_led_14 ?_
      refine g_aload_n h dX9_led_72 rfl ?_
      refine g_callV h rfl (ci := 2) [] (by assumption) (c_X2_gasInAll _ _ z.toNat hLK) clX9_152 (by decide) rfl in_X2_gasInAll se_X2_gasInAll rfl rfl (by rw [hRm]; first | decide | (simp only [clS]; omega)) (by rw [hRm]; first | decide | (simp only [clS]; omega)) (fun _ => Nat.le_of_ble_eq_true rfl) (by rw [hRm]; first | decide | (simp only [clS]; omega)) (by rw [hRm]; first | decide | (simp only [clS]; omega)) dX9_led_73 (fun r73 w73 hp73 => ?_)
      obtain ⟨rfl, hw73⟩ := hp73
      rw [hw73]
      refine g_iret h hQ (by first | decide | omega | (simp only [clS]; omega)) (by first | decide | omega | (simp only [clS]; omega)) ?_ dX9_led_76
      first
      | exact ⟨rfl, fun _ => rfl, fun _ q => absurd q (by omega)⟩
      | (subst c14; exact ⟨rfl, fun q => absurd ⟨hz.1, hz.2, by decide, by decide⟩ q, fun _ _ => rfl⟩)
    · refine g_tswI (tgt := 77) h 5 (by first | assumption | exact ⟨by omega, by omega⟩) (by first | omega | assumption) (by first | omega | assumption) rfl (by decide) dX9_led_14 ?_
      refine g_aload_n h dX9_led_77 rfl ?_
      refine g_getI h flX9_155 rfl (by assumption) dX9_led_78 ?_
      refine g_iret h hQ (by first | decide | omega | (simp only [clS]; omega)) (by first | decide | omega | (simp only [clS]; omega)) ?_ dX9_led_81
      first
      | exact ⟨rfl, fun _ => rfl, fun _ q => absurd q (by omega)⟩
      | (subst c14; exact ⟨rfl, fun q => absurd ⟨hz.1, hz.2, by decide, by decide⟩ q, fun _ _ => rfl⟩)
    · refine g_tswO (tgt := 82) h (by first | assumption | exact ⟨by omega, by omega⟩) c14 (by decide) dX9_led_14 ?_
      refine g_ldc h kcX9_100 dX9_led_82 ?_
      refine g_iret h hQ (by first | decide | omega | (simp only [clS]; omega)) (by first | decide | omega | (simp only [clS]; omega)) ?_ dX9_led_84
      first
      | exact ⟨rfl, fun _ => rfl, fun _ q => absurd q (by omega)⟩
      | (subst c14; exact ⟨rfl, fun q => absurd ⟨hz.1, hz.2, by decide, by decide⟩ q, fun _ _ => rfl⟩)
  · have hl := lkA_none hz
    refine g_aload_n h dX9_led_0 rfl ?_
    refine g_iload_n h dX9_led_1 rfl ?_
    refine g_callV h rfl (ci := 9) [_] (by assumption) (c_X9_lakeAt _ _ _ hX hzr) clX9_66 (by decide) rfl in_X9_lakeAt se_X9_lakeAt rfl rfl (by rw [hRm]; first | decide | (simp only [clS]; omega)) (by rw [hRm]; first | decide | (simp only [clS]; omega)) (fun _ => Nat.le_of_ble_eq_true rfl) (by rw [hRm]; first | decide | (simp only [clS]; omega)) (by rw [hRm]; first | decide | (simp only [clS]; omega)) dX9_led_2 (fun r2 w2 hp2 => ?_)
    obtain ⟨rfl, hw2⟩ := hp2
    rw [hw2, hl]
    refine g_astore_n h dX9_led_5 (Nat.le_of_ble_eq_true rfl) rfl rfl ?_
    refine g_aload_n h dX9_led_6 rfl ?_
    refine g_ifnonnull (tgt := 13) h dX9_led_7 (by decide) (fun _ cnn => by cases cnn) (fun cnn => ?_)
    refine g_ldc h kcX9_100 dX9_led_10 ?_
    refine g_iret h hQ (by first | decide | omega | (simp only [clS]; omega)) (by first | decide | omega | (simp only [clS]; omega)) ?_ dX9_led_12
    exact ⟨rfl, fun _ => rfl, fun q => absurd q hz⟩
