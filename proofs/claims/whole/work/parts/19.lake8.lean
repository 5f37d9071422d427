/-! ===== Lake.goOn: a day ===== -/
def tsW (w : AW) (L : Nat) : AW := sR (sR w (5 + L) (srcF (w.2.1 (5 + L)) (w.2.1 (2 + L) 7))) (2 + L) (uI (uI (w.2.1 (2 + L)) 10 (w.2.1 (2 + L) 10 + w.2.1 (2 + L) 7)) 12 (w.2.1 (2 + L) 12 + srcA (w.2.1 (5 + L)) (w.2.1 (2 + L) 7)))
def rpW (w : AW) (L n : Nat) (q : Nat → Nat) : AW := sR (pAll w (5 + L) q n) (2 + L) (uI (w.2.1 (2 + L)) 11 (w.2.1 (2 + L) 11 + pSum w (5 + L) q n))
def riW (w : AW) (L : Nat) : AW := sR (sR w (5 + L) (riseG (w.2.1 (2 + L) 8) (w.2.1 (5 + L)))) (2 + L) (uI (w.2.1 (2 + L)) 12 (w.2.1 (2 + L) 12 + riseA (w.2.1 (2 + L) 8) (w.2.1 (5 + L))))
def toW (w : AW) (L : Nat) : AW := sT w L (turnF 200 (gT w L))
def dayW (w : AW) (L n : Nat) (q : Nat → Nat) : AW := toW (riW (rpW (tsW w L) L n q) L) L
/-- a world as another, but for a row of gas within bounds and fields of the lake's object from 10 on -/
theorem LN_up {w w' : AW} {L : Nat} (hN : LN w L) (hg : ∀ j, j < 10 → 0 ≤ w'.2.1 (5 + L) j ∧ w'.2.1 (5 + L) j ≤ 100000) (ht : w'.2.1 (8 + L) = w.2.1 (8 + L)) (hs : w'.2.1 (11 + L) = w.2.1 (11 + L)) (ho : ∀ f, f < 10 → w'.2.1 (2 + L) f = w.2.1 (2 + L) f) : LN w' L := by
  obtain ⟨h1, h2⟩ := hN
  unfold LN
  rw [ht, hs, ho 5 (by omega), ho 6 (by omega), ho 7 (by omega), ho 8 (by omega), ho 4 (by omega)]
  refine ⟨fun i hi => ?_, h2⟩
  have a := h1 i hi
  have b := hg i hi
  omega
theorem PQ_up {w w' : AW} {L n : Nat} {q : Nat → Nat} (hP : PQ w L n q) (h1 : w'.1 = w.1) (h2 : w'.2.2 = w.2.2) (h4 : w'.2.1 (2 + L) 4 = w.2.1 (2 + L) 4) (hq : ∀ i, i < n → ∀ f, f < 4 → w'.2.1 (q i) f = w.2.1 (q i) f) (hr : ∀ i, i < n → w'.2.1 (q i) 4 = 0 ∨ w'.2.1 (q i) 4 = 1) : PQ w' L n q := by
  obtain ⟨a, b, c, d⟩ := hP
  refine ⟨a, by rw [h4]; exact b, fun i hi => ?_, d⟩
  obtain ⟨c1, c2⟩ := c i hi
  refine ⟨by rw [h2]; exact c1, ?_⟩
  unfold pOK at c2 ⊢
  rw [h1, hq i hi 1 (by omega), hq i hi 2 (by omega), hq i hi 3 (by omega)]
  exact ⟨c2.1, c2.2.1, c2.2.2.1, c2.2.2.2.1, c2.2.2.2.2.1, c2.2.2.2.2.2.1, c2.2.2.2.2.2.2.1, c2.2.2.2.2.2.2.2.1, c2.2.2.2.2.2.2.2.2.1, hr i hi⟩
theorem PQ_same {w w' : AW} {L n : Nat} {q : Nat → Nat} (hP : PQ w L n q) (h1 : w'.1 = w.1) (h2 : w'.2.2 = w.2.2) (h4 : w'.2.1 (2 + L) 4 = w.2.1 (2 + L) 4) (hq : ∀ i, i < n → w'.2.1 (q i) = w.2.1 (q i)) : PQ w' L n q :=
  PQ_up hP h1 h2 h4 (fun i hi f _ => by rw [hq i hi]) (fun i hi => by rw [hq i hi]; exact (hP.2.2.1 i hi).2.2.2.2.2.2.2.2.2.2)
theorem gb_of {w : AW} {L : Nat} (hN : LN w L) : ∀ j, j < 10 → 0 ≤ w.2.1 (5 + L) j ∧ w.2.1 (5 + L) j ≤ 100000 := fun j hj => ⟨(hN.1 j hj).1, (hN.1 j hj).2.1⟩
theorem tsW_ok {w : AW} {L n : Nat} {q : Nat → Nat} (hL : L < 3) (hN : LN w L) (hP : PQ w L n q) : LN (tsW w L) L ∧ PQ (tsW w L) L n q := by
  have hq : ∀ i, i < n → q i ≠ 2 + L ∧ q i ≠ 5 + L := fun i hi => by have := (hP.2.2.1 i hi).2.1; omega
  refine ⟨LN_up hN ?_ ?_ ?_ ?_, PQ_same hP rfl rfl ?_ ?_⟩
  · unfold tsW
    rw [sR_ne _ _ (by omega), sR_at]
    exact srcF_bd hN.2.2.2.2.2.1 (gb_of hN)
  · unfold tsW; rw [sR_ne _ _ (by omega), sR_ne _ _ (by omega)]
  · unfold tsW; rw [sR_ne _ _ (by omega), sR_ne _ _ (by omega)]
  · intro f hf; unfold tsW; rw [sR_at, uI_ne _ _ (by omega), uI_ne _ _ (by omega)]
  · unfold tsW; rw [sR_at, uI_ne _ _ (by omega), uI_ne _ _ (by omega)]
  · intro i hi; unfold tsW; rw [sR_ne _ _ (hq i hi).1, sR_ne _ _ (hq i hi).2]
/-- what pipes do to their own objects: only whether they run, and what they let off -/
theorem pAll_q {w : AW} {L n : Nat} {q : Nat → Nat} (hL : L < 3) (hP : PQ w L n q) : ∀ i, i ≤ n → ∀ j, j < n → (∀ f, f ≠ 4 → f ≠ 5 → (pAll w (5 + L) q i).2.1 (q j) f = w.2.1 (q j) f) ∧ ((pAll w (5 + L) q i).2.1 (q j) 4 = 0 ∨ (pAll w (5 + L) q i).2.1 (q j) 4 = 1)
  | 0, _, j, hj => ⟨fun _ _ _ => rfl, (hP.2.2.1 j hj).2.2.2.2.2.2.2.2.2.2⟩
  | i + 1, hi, j, hj => by
    obtain ⟨a, b⟩ := pAll_q hL hP i (by omega) j hj
    show (∀ f, _ → _ → (pStep _ _ _).2.1 _ _ = _) ∧ ((pStep _ _ _).2.1 _ _ = _ ∨ (pStep _ _ _).2.1 _ _ = _)
    by_cases hji : q j = q i
    · rw [hji, pStep_q]
      rw [hji] at a b
      refine ⟨fun f h4 h5 => by rw [uI_ne _ _ h5, uI_ne _ _ h4]; exact a f h4 h5, ?_⟩
      rw [uI_ne _ _ (by decide), uI_at]
      unfold pRunW pRun
      split
      · exact Or.inl rfl
      · split
        · exact Or.inl rfl
        · exact b
    · have := (hP.2.2.1 j hj).2.1
      rw [pStep_o _ (by omega) hji]
      exact ⟨a, b⟩
theorem rpW_ok {w : AW} {L n : Nat} {q : Nat → Nat} (hL : L < 3) (hN : LN w L) (hP : PQ w L n q) : LN (rpW w L n q) L ∧ PQ (rpW w L n q) L n q := by
  have hq : ∀ i, i < n → 50 ≤ q i := fun i hi => (hP.2.2.1 i hi).2.1
  have ha := pAll_ok hL hP (gb_of hN) n (Nat.le_refl _)
  have h1 := pAll_1 w (5 + L) q n
  refine ⟨LN_up hN ?_ ?_ ?_ ?_, PQ_up hP h1.1 h1.2 ?_ ?_ ?_⟩
  · unfold rpW; rw [sR_ne _ _ (by omega)]; exact ha.1
  · unfold rpW; rw [sR_ne _ _ (by omega), pAll_o _ (by omega) _ (fun i hi => by have := hq i hi; omega)]
  · unfold rpW; rw [sR_ne _ _ (by omega), pAll_o _ (by omega) _ (fun i hi => by have := hq i hi; omega)]
  · intro f hf; unfold rpW; rw [sR_at, uI_ne _ _ (by omega)]
  · unfold rpW; rw [sR_at, uI_ne _ _ (by omega)]
  · intro i hi f hf; unfold rpW; rw [sR_ne _ _ (by have := hq i hi; omega)]; exact (pAll_q hL hP n (Nat.le_refl _) i hi).1 f (by omega) (by omega)
  · intro i hi; unfold rpW; rw [sR_ne _ _ (by have := hq i hi; omega)]; exact (pAll_q hL hP n (Nat.le_refl _) i hi).2
theorem riW_ok {w : AW} {L n : Nat} {q : Nat → Nat} (hL : L < 3) (hN : LN w L) (hP : PQ w L n q) : LN (riW w L) L ∧ PQ (riW w L) L n q := by
  have hq : ∀ i, i < n → q i ≠ 2 + L ∧ q i ≠ 5 + L := fun i hi => by have := (hP.2.2.1 i hi).2.1; omega
  refine ⟨LN_up hN ?_ ?_ ?_ ?_, PQ_same hP rfl rfl ?_ ?_⟩
  · unfold riW
    rw [sR_ne _ _ (by omega), sR_at]
    exact riseG_bd hN.2.2.2.2.2.2.2.1 (gb_of hN)
  · unfold riW; rw [sR_ne _ _ (by omega), sR_ne _ _ (by omega)]
  · unfold riW; rw [sR_ne _ _ (by omega), sR_ne _ _ (by omega)]
  · intro f hf; unfold riW; rw [sR_at, uI_ne _ _ (by omega)]
  · unfold riW; rw [sR_at, uI_ne _ _ (by omega)]
  · intro i hi; unfold riW; rw [sR_ne _ _ (hq i hi).1, sR_ne _ _ (hq i hi).2]
theorem toW_ok {w : AW} {L n : Nat} {q : Nat → Nat} (hL : L < 3) (hN : LN w L) (hP : PQ w L n q) : LN (toW w L) L ∧ PQ (toW w L) L n q := by
  have hq : ∀ i, i < n → 50 ≤ q i := fun i hi => (hP.2.2.1 i hi).2.1
  refine ⟨LN_sT hL hN (turnF_bd _ _ (LN_RB hN)), PQ_same hP rfl rfl ?_ ?_⟩
  · unfold toW sT; rw [sR3_o _ (by omega) (by omega) (by omega)]
  · intro i hi; have := hq i hi; unfold toW sT; rw [sR3_o _ (by omega) (by omega) (by omega)]
theorem dayW_ok {w : AW} {L n : Nat} {q : Nat → Nat} (hL : L < 3) (hN : LN w L) (hP : PQ w L n q) : LN (dayW w L n q) L ∧ PQ (dayW w L n q) L n q := by
  obtain ⟨a1, a2⟩ := tsW_ok hL hN hP
  obtain ⟨b1, b2⟩ := rpW_ok hL a1 a2
  obtain ⟨c1, c2⟩ := riW_ok hL b1 b2
  exact toW_ok hL c1 c2
theorem dayW_1 (w : AW) (L n : Nat) (q : Nat → Nat) : (dayW w L n q).1 = w.1 ∧ (dayW w L n q).2.2 = w.2.2 := ⟨(pAll_1 (tsW w L) (5 + L) q n).1, (pAll_1 (tsW w L) (5 + L) q n).2⟩
theorem burW_ok {w : AW} {L n m : Nat} {q : Nat → Nat} (hL : L < 3) (hN : LN w L) (hP : PQ w L n q) : LN (burW w L m) L ∧ PQ (burW w L m) L n q := by
  have hq : ∀ i, i < n → q i ≠ 2 + L ∧ q i ≠ 5 + L := fun i hi => by have := (hP.2.2.1 i hi).2.1; omega
  refine ⟨LN_up hN ?_ ?_ ?_ ?_, PQ_same hP rfl rfl ?_ ?_⟩
  · unfold burW
    rw [sR_ne _ _ (by omega), sR_at]
    exact zeroF_bd _ (gb_of hN)
  · unfold burW; rw [sR_ne _ _ (by omega), sR_ne _ _ (by omega)]
  · unfold burW; rw [sR_ne _ _ (by omega), sR_ne _ _ (by omega)]
  · intro f hf; unfold burW; rw [sR_at, uI_ne _ _ (by omega), uI_ne _ _ (by omega)]
  · unfold burW; rw [sR_at, uI_ne _ _ (by omega), uI_ne _ _ (by omega)]
  · intro i hi; unfold burW; rw [sR_ne _ _ (hq i hi).1, sR_ne _ _ (hq i hi).2]
/-- a day: whether there was a burst, and the world behind it -/
def brk (w : AW) (L : Nat) : Option Nat := lowF (w.2.1 (5 + L)) (w.2.1 (2 + L) 5) (w.2.1 (2 + L) 6) 10
def goB (w : AW) (L n : Nat) (q : Nat → Nat) : Int := match brk (dayW w L n q) L with
  | none => 0
  | some _ => 1
def goW (w : AW) (L n : Nat) (q : Nat → Nat) : AW := match brk (dayW w L n q) L with
  | none => dayW w L n q
  | some m => burW (dayW w L n q) L m
theorem goW_ok {w : AW} {L n : Nat} {q : Nat → Nat} (hL : L < 3) (hN : LN w L) (hP : PQ w L n q) : LN (goW w L n q) L ∧ PQ (goW w L n q) L n q := by
  unfold goW
  split
  · exact dayW_ok hL hN hP
  · exact burW_ok hL (dayW_ok hL hN hP).1 (dayW_ok hL hN hP).2
theorem goW_1 (w : AW) (L n : Nat) (q : Nat → Nat) : (goW w L n q).1 = w.1 ∧ (goW w L n q).2.2 = w.2.2 := by
  unfold goW
  split
  · exact dayW_1 w L n q
  · exact dayW_1 w L n q
theorem goB_01 (w : AW) (L n : Nat) (q : Nat → Nat) : goB w L n q = 0 ∨ goB w L n q = 1 := by
  unfold goB
  split
  · exact Or.inl rfl
  · exact Or.inr rfl
set_option maxRecDepth 100000 in
set_option maxHeartbeats 4000000 in
theorem c_X2_goOn (l : Launch) (w : AW) (L n : Nat) (q : Nat → Nat) (hK : LK w L) (hN : LN w L) (hP : PQ w L n q) : HT l yX2_goOn cX2_goOn 1 (some .boolean) 4 0 0 w [ar (2 + L)] (fun r w' => r = some (ai (goB w L n q)) ∧ w' = goW w L n q) := by
  refine HT.of (by decide) (by intro v hv; simp only [List.mem_cons, List.not_mem_nil, or_false] at hv; rcases hv with rfl <;> rfl) (Nat.le_of_ble_eq_true rfl) ?_
  intro Γ h hQ hRm hnm hl hw0
  obtain ⟨hL3, k2, k5, k8, k11, k14, p0, p1, p2, p3⟩ := id hK
  obtain ⟨a1, a2⟩ := tsW_ok hL3 hN hP
  obtain ⟨b1, b2⟩ := rpW_ok hL3 a1 a2
  obtain ⟨c1, c2⟩ := riW_ok hL3 b1 b2
  obtain ⟨d1, d2⟩ := toW_ok hL3 c1 c2
  have hKa : LK (tsW w L) L := LK_of rfl rfl hK
  have hKb : LK (rpW (tsW w L) L n q) L := LK_of (pAll_1 (tsW w L) (5 + L) q n).1 (pAll_1 (tsW w L) (5 + L) q n).2 hKa
  have hKc : LK (riW (rpW (tsW w L) L n q) L) L := LK_of rfl rfl hKb
  have hKd : LK (dayW w L n q) L := LK_of rfl rfl hKc
  have ka1 := hKa.2.1
  have kb1 := hKb.2.1
  have kc1 := hKc.2.1
  have kd1 := hKd.2.1
  refine g_aload_n h dX2_goOn_0 rfl ?_
  refine g_callV h rfl (ci := 2) [] (by assumption) (c_X2_takeSource _ _ L hK hN) clX2_88 (by decide) rfl in_X2_takeSource se_X2_takeSource rfl rfl (by rw [hRm]; decide) (by rw [hRm]; decide) (fun _ => Nat.le_of_ble_eq_true rfl) (by rw [hRm]; decide) (by rw [hRm]; decide) dX2_goOn_1 (fun r1 w1 hp1 => ?_)
  obtain ⟨rfl, hw1⟩ := hp1
  rw [hw1]
  change GG Γ _ _ _ (tsW w L) _ _
  refine g_aload_n h dX2_goOn_4 rfl ?_
  refine g_callV h rfl (ci := 2) [] (by assumption) (c_X2_runPipes _ (tsW w L) L n q hKa a1 a2) clX2_91 (by decide) rfl in_X2_runPipes se_X2_runPipes rfl rfl (by rw [hRm]; decide) (by rw [hRm]; decide) (fun _ => Nat.le_of_ble_eq_true rfl) (by rw [hRm]; decide) (by rw [hRm]; decide) dX2_goOn_5 (fun r5 w5 hp5 => ?_)
  obtain ⟨rfl, hw5⟩ := hp5
  rw [hw5]
  change GG Γ _ _ _ (rpW (tsW w L) L n q) _ _
  refine g_aload_n h dX2_goOn_8 rfl ?_
  refine g_callV h rfl (ci := 2) [] (by assumption) (c_X2_rise _ (rpW (tsW w L) L n q) L hKb b1) clX2_94 (by decide) rfl in_X2_rise se_X2_rise rfl rfl (by rw [hRm]; decide) (by rw [hRm]; decide) (fun _ => Nat.le_of_ble_eq_true rfl) (by rw [hRm]; decide) (by rw [hRm]; decide) dX2_goOn_9 (fun r9 w9 hp9 => ?_)
  obtain ⟨rfl, hw9⟩ := hp9
  rw [hw9]
  change GG Γ _ _ _ (riW (rpW (tsW w L) L n q) L) _ _
  refine g_aload_n h dX2_goOn_12 rfl ?_
  refine g_callV h rfl (ci := 2) [] (by assumption) (c_X2_turnOver _ (riW (rpW (tsW w L) L n q) L) L hKc c1) clX2_97 (by decide) rfl in_X2_turnOver se_X2_turnOver rfl rfl (by rw [hRm]; decide) (by rw [hRm]; decide) (fun _ => Nat.le_of_ble_eq_true rfl) (by rw [hRm]; decide) (by rw [hRm]; decide) dX2_goOn_13 (fun r13 w13 hp13 => ?_)
  obtain ⟨rfl, hw13⟩ := hp13
  rw [hw13]
  change GG Γ _ _ _ (dayW w L n q) _ _
  refine g_aload_n h dX2_goOn_16 rfl ?_
  refine g_callV h rfl (ci := 2) [] (by assumption) (c_X2_burstIfTooFull _ (dayW w L n q) L hKd d1) clX2_100 (by decide) rfl in_X2_burstIfTooFull se_X2_burstIfTooFull rfl rfl (by rw [hRm]; decide) (by rw [hRm]; decide) (fun _ => Nat.le_of_ble_eq_true rfl) (by rw [hRm]; decide) (by rw [hRm]; decide) dX2_goOn_17 (fun r17 w17 hp17 => ?_)
  obtain ⟨rfl, rfl⟩ : r17 = some (ai (goB w L n q)) ∧ w17 = goW w L n q := by
    unfold burP at hp17
    unfold goB goW brk
    split at hp17
    · rename_i hq; rw [hq]; exact hp17
    · rename_i m hq; rw [hq]; exact hp17
  have hgb := goB_01 w L n q
  refine g_zret h hQ (by decide) (by decide) (by omega) ?_ dX2_goOn_20
  (first | exact ⟨rfl, rfl⟩ | (exfalso; omega))
