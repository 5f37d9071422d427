/-! ===== the class: days ahead ===== -/
def sq (i : Nat) : Nat := 56 + i
theorem bcP_hi (v : AW) (S n : Nat) (q : Nat → Nat) (hq5 : ∀ i, i < n → q i < 56) (hSa : ∀ i, i < S → v.2.2 16 i = some (56 + i) ∧ v.1 (56 + i) = (103, 0)) : ∀ (i t : Nat), i ≤ n → t < i →
    (bcP v S q i).1 (56 + t) = (103, 0) ∧ (bcP v S q i).2.2 16 t = some (56 + t) ∧ ∀ f, f < 5 → (bcP v S q i).2.1 (56 + t) f = v.2.1 (q t) f
  | 0, t, _, h => by omega
  | i + 1, t, hn, h => by
    have hp : (bcP v S q i).2.1 (q i) = v.2.1 (q i) := (bcP_lo v S q i (q i) (Or.inl (hq5 i (by omega)))).2.1
    by_cases ht : t = i
    · subst ht
      unfold bcP
      split
      · rename_i hS
        refine ⟨((bcP_lo v S q t (56 + t) (by omega)).1).trans (hSa t hS).2, (bcP_16 v S q t t (by omega)).trans (hSa t hS).1, fun f hf => ?_⟩
        rw [sR_at, hp]
        exact if_pos hf
      · refine ⟨if_pos rfl, ?_, fun f hf => ?_⟩
        · exact (congrFun (upP_at _ 16 t _) t).trans (if_pos rfl)
        · rw [sR_at, hp]
          exact if_pos hf
    · obtain ⟨a1, a2, a3⟩ := bcP_hi v S n q hq5 hSa i t (by omega) (by omega)
      have hj : 56 + t ≠ 56 + i := by omega
      unfold bcP
      split
      · exact ⟨a1, a2, fun f hf => by rw [sR_ne _ _ hj]; exact a3 f hf⟩
      · refine ⟨(if_neg hj).trans a1, ?_, fun f hf => ?_⟩
        · exact (congrFun (upP_at _ 16 i _) t).trans ((if_neg ht).trans ((congrFun (if_neg (by omega)) t).trans a2))
        · rw [sR_ne _ _ hj]; exact (congrFun (if_neg hj) f).trans (a3 f hf)
theorem bcB_o {w : AW} {L j : Nat} (h1 : j ≠ 4) (h2 : j ≠ 7) (h3 : j ≠ 10) (h4 : j ≠ 13) : (bcB w L).2.1 j = w.2.1 j := by
  unfold bcB
  rw [sR_ne _ _ h1, sR_ne _ _ h4, sR_ne _ _ h3, sR_ne _ _ h2]
/-- the spare after it became another -/
theorem bcP_ok {w : AW} {L S n : Nat} {q : Nat → Nat} (hX : XS w) (hL : L < 2) (hN : LN w L) (hP : PQ w L n q) (hq5 : ∀ i, i < n → q i < 56) (hS : SPI w S) :
    XS (bcP (bcB w L) S q n) ∧ LN (bcP (bcB w L) S q n) 2 ∧ PQ (bcP (bcB w L) S q n) 2 n sq := by
  obtain ⟨hn3, hn4, hpi, hinj⟩ := id hP
  obtain ⟨hS3, hSa, hSb⟩ := id hS
  have lo := bcP_lo (bcB w L) S q n
  have b4 : (bcP (bcB w L) S q n).2.1 4 = bcF (w.2.1 4) (w.2.1 (2 + L)) := by rw [(lo 4 (by omega)).2.1]; unfold bcB; rw [sR_at]
  have b7 : (bcP (bcB w L) S q n).2.1 7 = cpR (w.2.1 7) (w.2.1 (5 + L)) 10 := by
    rw [(lo 7 (by omega)).2.1]; unfold bcB; rw [sR_ne _ _ (by omega), sR_ne _ _ (by omega), sR_ne _ _ (by omega), sR_at]
  have b10 : (bcP (bcB w L) S q n).2.1 10 = cpR (w.2.1 10) (w.2.1 (8 + L)) 10 := by
    rw [(lo 10 (by omega)).2.1]; unfold bcB; rw [sR_ne _ _ (by omega), sR_ne _ _ (by omega), sR_at]
  have b13 : (bcP (bcB w L) S q n).2.1 13 = cpR (w.2.1 13) (w.2.1 (11 + L)) 10 := by
    rw [(lo 13 (by omega)).2.1]; unfold bcB; rw [sR_ne _ _ (by omega), sR_at]
  refine ⟨⟨fun k hk => ((lo k (by omega)).1).trans (hX.1 k hk), fun p hp => ?_⟩, ?_, hn3, ?_, fun i hi => ?_, ?_⟩
  · have h16 : p.1 ≠ 16 ∧ p.1 < 56 := (show ∀ p ∈ ptX, p.1 ≠ 16 ∧ p.1 < 56 by decide) p hp
    exact (congrFun ((lo p.1 (Or.inl h16.2)).2.2 h16.1) p.2.1).trans (hX.2 p hp)
  · unfold LN
    simp only [Nat.reduceAdd]
    rw [b4, b7, b10, b13]
    refine ⟨fun i hi => ?_, ?_⟩
    · unfold cpR
      rw [if_pos hi, if_pos hi, if_pos hi]
      exact hN.1 i hi
    · exact hN.2
  · show (bcP (bcB w L) S q n).2.1 4 4 = _
    rw [b4]
    exact hn4
  · obtain ⟨a1, a2, a3⟩ := bcP_hi (bcB w L) S n q hq5 hSa n i (by omega) hi
    obtain ⟨hq, h50, h59, hqs, hh⟩ := hpi i hi
    have hqi := hq5 i hi
    refine ⟨a2, by unfold sq; omega, by unfold sq; omega, a1, ?_⟩
    unfold sq
    rw [a3 1 (by omega), a3 2 (by omega), a3 3 (by omega), a3 4 (by omega), bcB_o (by omega) (by omega) (by omega) (by omega)]
    exact hh
  · intro i j _ _ h
    unfold sq at h
    omega
/-- days until a burst; the world then -/
def dbF (n : Nat) : Nat → Int → AW → Int × AW
  | 0, _, w => (-2, w)
  | d + 1, day, w => if goB w 2 n sq = 1 then (day, goW w 2 n sq) else dbF n d (day + 1) (goW w 2 n sq)
def dfF (n : Nat) (share : Int) : Nat → Int → AW → Int × AW
  | 0, _, w => (-2, w)
  | d + 1, day, w => if share ≤ fullestF (w.2.1 (5 + 2)) (w.2.1 (2 + 2) 5) (w.2.1 (2 + 2) 6) 10 then (day, w) else
    if goB w 2 n sq = 1 then (-2, goW w 2 n sq) else dfF n share d (day + 1) (goW w 2 n sq)
set_option maxRecDepth 100000 in
set_option maxHeartbeats 4000000 in
theorem c_X9_daysToBurst (l : Launch) (w : AW) (L S n : Nat) (q : Nat → Nat)  (hX : XS w) (hL : L < 2) (hN : LN w L) (hP : PQ w L n q) (hq5 : ∀ i, i < n → q i < 56) (hS : SPI w S) : HT l yX9_daysToBurst cX9_daysToBurst 3 (some .int) 5 (n - S) (7 * (n - S)) w [ar 0, ar (2 + L)] (fun r w' => r = some (ai (dbF n  365 1 (bcP (bcB w L) S q n)).1) ∧ w' = (dbF n  365 1 (bcP (bcB w L) S q n)).2) := by
  refine HT.of (by decide) (by intro v hv; simp only [List.mem_cons, List.not_mem_nil, or_false] at hv; rcases hv with rfl | rfl <;> rfl) (Nat.le_of_ble_eq_true rfl) ?_
  intro Γ h hQ hRm hnm hl hw0
  obtain ⟨hXb, hNb, hPb⟩ := bcP_ok hX hL hN hP hq5 hS
  have hKL := XS_LK hX L (by omega)
  have kL := hKL.2.1
  have s0 : w.1 0 = (109, 0) := hX.1 0 (by decide)
  have s4 : w.1 4 = (102, 0) := hX.1 4 (by decide)
  have p0_1 : w.2.2 0 1 = some 4 := hX.2 (0, 1, 4) (by decide)
  have loop : ∀ (d : Nat) (day : Int) (w1 : AW), day + d = 366 → 0 ≤ day → XS w1 → LN w1 2 → PQ w1 2 n sq → dbF n  d day w1 = dbF n  365 1 (bcP (bcB w L) S q n) → GG Γ 10 [some (ar 0), some (ar (2 + L)), some (ai day)] [] w1 (0 + (n - S)) (0 + 7 * (n - S)) := by
    intro d
    induction d with
    | zero =>
      intro day w1 hd h1 hX1 hN1 hP1 he
      refine g_iload_n h dX9_daysToBurst_10 rfl ?_
      refine g_sipush h dX9_daysToBurst_11 rfl ?_
      refine g_icmp_gt (tgt := 35) h dX9_daysToBurst_14 (by decide) (by first | assumption | exact ⟨by omega, by omega⟩) (by first | assumption | exact ⟨by omega, by omega⟩) (fun c14 => ?_) (fun c14 => ?_)
      · refine g_bipush h dX9_daysToBurst_35 rfl ?_
        refine g_iret h hQ (by first | decide | omega | (simp only [clS]; omega)) (by first | decide | omega | (simp only [clS]; omega)) ?_ dX9_daysToBurst_37
        rw [← he]; exact ⟨rfl, rfl⟩
      · exfalso; omega
    | succ d ih =>
      intro day w1 hd h1 hX1 hN1 hP1 he
      have hK1 := XS_LK hX1 2 (by omega)
      obtain ⟨hN2, hP2⟩ := goW_ok (show 2 < 3 by omega) hN1 hP1
      have hX2 : XS (goW w1 2 n sq) := XS_of (goW_1 w1 2 n sq).1 (goW_1 w1 2 n sq).2 hX1
      have hgb := goB_01 w1 2 n sq
      have hfb := fullestF_bd (g := w1.2.1 (5 + 2)) (step := w1.2.1 (2 + 2) 5) (drop := w1.2.1 (2 + 2) 6) (fun i hi => (hN1.1 i hi).2.1) 10 (by omega)
      have qs0 : w1.1 0 = (109, 0) := hX1.1 0 (by decide)
      have qs4 : w1.1 4 = (102, 0) := hX1.1 4 (by decide)
      have qp0_1 : w1.2.2 0 1 = some 4 := hX1.2 (0, 1, 4) (by decide)
      have hdt : dbF n (d + 1) day w1 = if goB w1 2 n sq = 1 then (day, goW w1 2 n sq) else dbF n d (day + 1) (goW w1 2 n sq) := rfl
      refine g_iload_n h dX9_daysToBurst_10 rfl ?_
      refine g_sipush h dX9_daysToBurst_11 rfl ?_
      refine g_icmp_gt (tgt := 35) h dX9_daysToBurst_14 (by decide) (by first | assumption | exact ⟨by omega, by omega⟩) (by first | assumption | exact ⟨by omega, by omega⟩) (fun c14 => ?_) (fun c14 => ?_)
      · exfalso; omega
      · refine g_aload_n h dX9_daysToBurst_17 rfl ?_
        refine g_getQ h flX9_18 rfl (by assumption) (by assumption) dX9_daysToBurst_18 ?_
        refine g_callV h rfl (ci := 2) [] (by assumption) (c_X2_goOn _ w1 2 n sq hK1 hN1 hP1) clX9_358 (by decide) rfl in_X2_goOn se_X2_goOn rfl rfl (by rw [hRm]; first | decide | (simp only [clS]; omega)) (by rw [hRm]; first | decide | (simp only [clS]; omega)) (fun _ => Nat.le_of_ble_eq_true rfl) (by rw [hRm]; first | decide | (simp only [clS]; omega)) (by rw [hRm]; first | decide | (simp only [clS]; omega)) dX9_daysToBurst_21 (fun r21 w21 hp21 => ?_)
        obtain ⟨rfl, hw21⟩ := hp21
        rw [hw21]
        refine g_if_eq (tgt := 29) h dX9_daysToBurst_24 (by decide) (by first | assumption | exact ⟨by omega, by omega⟩) (fun c24 => ?_) (fun c24 => ?_)
        · refine g_iinc h dX9_daysToBurst_29 rfl (Nat.le_of_ble_eq_true rfl) rfl rfl ?_
          refine g_goto (tgt := 10) h dX9_daysToBurst_32 (by decide) ?_
          exact ih (day + 1) (goW w1 2 n sq) (by omega) (by omega) hX2 hN2 hP2 (by rw [← he, hdt, if_neg (by omega)])
        · refine g_iload_n h dX9_daysToBurst_27 rfl ?_
          refine g_iret h hQ (by first | decide | omega | (simp only [clS]; omega)) (by first | decide | omega | (simp only [clS]; omega)) ?_ dX9_daysToBurst_28
          rw [← he, hdt, if_pos (by omega)]; exact ⟨rfl, rfl⟩
  refine g_aload_n h dX9_daysToBurst_0 rfl ?_
  refine g_getQ h flX9_18 rfl (by assumption) (by assumption) dX9_daysToBurst_1 ?_
  refine g_aload_n h dX9_daysToBurst_4 rfl ?_
  refine g_callV h rfl (ci := 2) [_] (by assumption) (c_X2_become _ _ L S n q hL (XS_LK hX 2 (by omega)) hKL hP hq5 hS) clX9_225 (by decide) rfl in_X2_become se_X2_become rfl rfl (by rw [hRm]; first | decide | (simp only [clS]; omega)) (by rw [hRm]; first | decide | (simp only [clS]; omega)) (fun _ => Nat.le_of_ble_eq_true rfl) (by rw [hRm]; first | decide | (simp only [clS]; omega)) (by rw [hRm]; first | decide | (simp only [clS]; omega)) dX9_daysToBurst_5 (fun r5 w5 hp5 => ?_)
  obtain ⟨rfl, hw5⟩ := hp5
  rw [hw5]
  refine g_iconst h dX9_daysToBurst_8 ?_
  refine g_istore_n h dX9_daysToBurst_9 (Nat.le_of_ble_eq_true rfl) rfl rfl ?_
  exact loop 365 1 _ (by omega) (by omega) hXb hNb hPb rfl
set_option maxRecDepth 100000 in
set_option maxHeartbeats 4000000 in
theorem c_X9_daysToFull (l : Launch) (w : AW) (L S n : Nat) (q : Nat → Nat) (share : Int) (hX : XS w) (hL : L < 2) (hN : LN w L) (hP : PQ w L n q) (hq5 : ∀ i, i < n → q i < 56) (hS : SPI w S) (hs : R32 share) : HT l yX9_daysToFull cX9_daysToFull 4 (some .int) 5 (n - S) (7 * (n - S)) w [ar 0, ar (2 + L), ai share] (fun r w' => r = some (ai (dfF n share 366 0 (bcP (bcB w L) S q n)).1) ∧ w' = (dfF n share 366 0 (bcP (bcB w L) S q n)).2) := by
  refine HT.of (by decide) (by intro v hv; simp only [List.mem_cons, List.not_mem_nil, or_false] at hv; rcases hv with rfl | rfl | rfl <;> rfl) (Nat.le_of_ble_eq_true rfl) ?_
  intro Γ h hQ hRm hnm hl hw0
  obtain ⟨hXb, hNb, hPb⟩ := bcP_ok hX hL hN hP hq5 hS
  have hKL := XS_LK hX L (by omega)
  have kL := hKL.2.1
  have s0 : w.1 0 = (109, 0) := hX.1 0 (by decide)
  have s4 : w.1 4 = (102, 0) := hX.1 4 (by decide)
  have p0_1 : w.2.2 0 1 = some 4 := hX.2 (0, 1, 4) (by decide)
  have loop : ∀ (d : Nat) (day : Int) (w1 : AW), day + d = 366 → 0 ≤ day → XS w1 → LN w1 2 → PQ w1 2 n sq → dfF n share d day w1 = dfF n share 366 0 (bcP (bcB w L) S q n) → GG Γ 10 [some (ar 0), some (ar (2 + L)), some (ai share), some (ai day)] [] w1 (0 + (n - S)) (0 + 7 * (n - S)) := by
    intro d
    induction d with
    | zero =>
      intro day w1 hd h1 hX1 hN1 hP1 he
      refine g_iload_n h dX9_daysToFull_10 rfl ?_
      refine g_sipush h dX9_daysToFull_11 rfl ?_
      refine g_icmp_gt (tgt := 49) h dX9_daysToFull_14 (by decide) (by first | assumption | exact ⟨by omega, by omega⟩) (by first | assumption | exact ⟨by omega, by omega⟩) (fun c14 => ?_) (fun c14 => ?_)
      · refine g_bipush h dX9_daysToFull_49 rfl ?_
        refine g_iret h hQ (by first | decide | omega | (simp only [clS]; omega)) (by first | decide | omega | (simp only [clS]; omega)) ?_ dX9_daysToFull_51
        rw [← he]; exact ⟨rfl, rfl⟩
      · exfalso; omega
    | succ d ih =>
      intro day w1 hd h1 hX1 hN1 hP1 he
      have hK1 := XS_LK hX1 2 (by omega)
      obtain ⟨hN2, hP2⟩ := goW_ok (show 2 < 3 by omega) hN1 hP1
      have hX2 : XS (goW w1 2 n sq) := XS_of (goW_1 w1 2 n sq).1 (goW_1 w1 2 n sq).2 hX1
      have hgb := goB_01 w1 2 n sq
      have hfb := fullestF_bd (g := w1.2.1 (5 + 2)) (step := w1.2.1 (2 + 2) 5) (drop := w1.2.1 (2 + 2) 6) (fun i hi => (hN1.1 i hi).2.1) 10 (by omega)
      have qs0 : w1.1 0 = (109, 0) := hX1.1 0 (by decide)
      have qs4 : w1.1 4 = (102, 0) := hX1.1 4 (by decide)
      have qp0_1 : w1.2.2 0 1 = some 4 := hX1.2 (0, 1, 4) (by decide)
      have hdt : dfF n share (d + 1) day w1 = if share ≤ fullestF (w1.2.1 (5 + 2)) (w1.2.1 (2 + 2) 5) (w1.2.1 (2 + 2) 6) 10 then (day, w1) else if goB w1 2 n sq = 1 then (-2, goW w1 2 n sq) else dfF n share d (day + 1) (goW w1 2 n sq) := rfl
      refine g_iload_n h dX9_daysToFull_10 rfl ?_
      refine g_sipush h dX9_daysToFull_11 rfl ?_
      refine g_icmp_gt (tgt := 49) h dX9_daysToFull_14 (by decide) (by first | assumption | exact ⟨by omega, by omega⟩) (by first | assumption | exact ⟨by omega, by omega⟩) (fun c14 => ?_) (fun c14 => ?_)
      · exfalso; omega
      · refine g_aload_n h dX9_daysToFull_17 rfl ?_
        refine g_getQ h flX9_18 rfl (by assumption) (by assumption) dX9_daysToFull_18 ?_
        refine g_callV h rfl (ci := 2) [] (by assumption) (c_X2_fullest _ w1 2 hK1 hN1) clX9_136 (by decide) rfl in_X2_fullest se_X2_fullest rfl rfl (by rw [hRm]; first | decide | (simp only [clS]; omega)) (by rw [hRm]; first | decide | (simp only [clS]; omega)) (fun _ => Nat.le_of_ble_eq_true rfl) (by rw [hRm]; first | decide | (simp only [clS]; omega)) (by rw [hRm]; first | decide | (simp only [clS]; omega)) dX9_daysToFull_21 (fun r21 w21 hp21 => ?_)
        obtain ⟨rfl, hw21⟩ := hp21
        rw [hw21]
        refine g_iload_n h dX9_daysToFull_24 rfl ?_
        refine g_icmp_lt (tgt := 30) h dX9_daysToFull_25 (by decide) (by first | assumption | exact ⟨by omega, by omega⟩) (by first | assumption | exact ⟨by omega, by omega⟩) (fun c25 => ?_) (fun c25 => ?_)
        · refine g_aload_n h dX9_daysToFull_30 rfl ?_
          refine g_getQ h flX9_18 rfl (by assumption) (by assumption) dX9_daysToFull_31 ?_
          refine g_callV h rfl (ci := 2) [] (by assumption) (c_X2_goOn _ w1 2 n sq hK1 hN1 hP1) clX9_358 (by decide) rfl in_X2_goOn se_X2_goOn rfl rfl (by rw [hRm]; first | decide | (simp only [clS]; omega)) (by rw [hRm]; first | decide | (simp only [clS]; omega)) (fun _ => Nat.le_of_ble_eq_true rfl) (by rw [hRm]; first | decide | (simp only [clS]; omega)) (by rw [hRm]; first | decide | (simp only [clS]; omega)) dX9_daysToFull_34 (fun r34 w34 hp34 => ?_)
          obtain ⟨rfl, hw34⟩ := hp34
          rw [hw34]
          refine g_if_eq (tgt := 43) h dX9_daysToFull_37 (by decide) (by first | assumption | exact ⟨by omega, by omega⟩) (fun c37 => ?_) (fun c37 => ?_)
          · refine g_iinc h dX9_daysToFull_43 rfl (Nat.le_of_ble_eq_true rfl) rfl rfl ?_
            refine g_goto (tgt := 10) h dX9_daysToFull_46 (by decide) ?_
            exact ih (day + 1) (goW w1 2 n sq) (by omega) (by omega) hX2 hN2 hP2 (by rw [← he, hdt, if_neg (by omega), if_neg (by omega)])
          · refine g_bipush h dX9_daysToFull_40 rfl ?_
            refine g_iret h hQ (by first | decide | omega | (simp only [clS]; omega)) (by first | decide | omega | (simp only [clS]; omega)) ?_ dX9_daysToFull_42
            rw [← he, hdt, if_neg (by omega), if_pos (by omega)]; exact ⟨rfl, rfl⟩
        · refine g_iload_n h dX9_daysToFull_28 rfl ?_
          refine g_iret h hQ (by first | decide | omega | (simp only [clS]; omega)) (by first | decide | omega | (simp only [clS]; omega)) ?_ dX9_daysToFull_29
          rw [← he, hdt, if_pos (by omega)]; exact ⟨rfl, rfl⟩
  refine g_aload_n h dX9_daysToFull_0 rfl ?_
  refine g_getQ h flX9_18 rfl (by assumption) (by assumption) dX9_daysToFull_1 ?_
  refine g_aload_n h dX9_daysToFull_4 rfl ?_
  refine g_callV h rfl (ci := 2) [_] (by assumption) (c_X2_become _ _ L S n q hL (XS_LK hX 2 (by omega)) hKL hP hq5 hS) clX9_225 (by decide) rfl in_X2_become se_X2_become rfl rfl (by rw [hRm]; first | decide | (simp only [clS]; omega)) (by rw [hRm]; first | decide | (simp only [clS]; omega)) (fun _ => Nat.le_of_ble_eq_true rfl) (by rw [hRm]; first | decide | (simp only [clS]; omega)) (by rw [hRm]; first | decide | (simp only [clS]; omega)) dX9_daysToFull_5 (fun r5 w5 hp5 => ?_)
  obtain ⟨rfl, hw5⟩ := hp5
  rw [hw5]
  refine g_iconst h dX9_daysToFull_8 ?_
  refine g_istore_n h dX9_daysToFull_9 (Nat.le_of_ble_eq_true rfl) rfl rfl ?_
  exact loop 366 0 _ (by omega) (by omega) hXb hNb hPb rfl
