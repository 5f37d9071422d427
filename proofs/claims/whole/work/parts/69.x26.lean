/-! ===== the class: days go by ===== -/
/-- the two lakes' pipes are apart -/
def QD (n : Nat → Nat) (q : Nat → Nat → Nat) : Prop := ∀ i j, i < n 0 → j < n 1 → q 0 i ≠ q 1 j
theorem QD_ne {n : Nat → Nat} {q : Nat → Nat → Nat} (h : QD n q) {L M i j : Nat} (hL : L < 2) (hM : M < 2) (hLM : L ≠ M) (hi : i < n L) (hj : j < n M) : q L i ≠ q M j := by
  rcases (show (L = 0 ∧ M = 1) ∨ (L = 1 ∧ M = 0) by omega) with ⟨rfl, rfl⟩ | ⟨rfl, rfl⟩
  · exact h i j hi hj
  · exact fun e => h j i hj hi e.symm
theorem WI_goW {w : AW} {n : Nat → Nat} {q : Nat → Nat → Nat} {S rn sn L : Nat} (hW : WI w n q S rn sn) (hq : QD n q) (hL : L < 2) : WI (goW w L (n L) (q L)) n q S rn sn := by
  obtain ⟨hX, hS, hLk, hSI, t0, t1⟩ := id hW
  obtain ⟨hN, hP, h56⟩ := hLk L hL
  have g1 := goW_1 w L (n L) (q L)
  have o : ∀ j, j < 50 → j ≠ 2 + L → j ≠ 5 + L → j ≠ 8 + L → j ≠ 11 + L → (goW w L (n L) (q L)).2.1 j = w.2.1 j := fun j hj h2 h5 h8 h11 => goW_o h2 h5 h8 h11 (fun i hi => by have := (hP.2.2.1 i hi).2.1; omega)
  refine ⟨XS_of g1.1 g1.2 hX, SPI_of g1.1 g1.2 hS, fun M hM => ?_, ?_, ?_⟩
  · by_cases e : M = L
    · subst e
      exact ⟨(goW_ok (by omega) hN hP).1, (goW_ok (by omega) hN hP).2, h56⟩
    · obtain ⟨hN2, hP2, h562⟩ := hLk M hM
      refine ⟨?_, ?_, h562⟩
      · unfold LN
        rw [o (5 + M) (by omega) (by omega) (by omega) (by omega) (by omega), o (8 + M) (by omega) (by omega) (by omega) (by omega) (by omega), o (11 + M) (by omega) (by omega) (by omega) (by omega) (by omega), o (2 + M) (by omega) (by omega) (by omega) (by omega) (by omega)]
        exact hN2
      · refine PQ_same hP2 g1.1 g1.2 (by rw [o (2 + M) (by omega) (by omega) (by omega) (by omega) (by omega)]) (fun i hi => ?_)
        have h50 := (hP2.2.2.1 i hi).2.1
        have h5 := h562 i hi
        exact goW_o (by omega) (by omega) (by omega) (by omega) (fun k hk => QD_ne hq hM hL e hi hk)
  · unfold SI
    rw [o 28 (by omega) (by omega) (by omega) (by omega) (by omega), o 29 (by omega) (by omega) (by omega) (by omega) (by omega), o 30 (by omega) (by omega) (by omega) (by omega) (by omega), o 31 (by omega) (by omega) (by omega) (by omega) (by omega),
      o 32 (by omega) (by omega) (by omega) (by omega) (by omega), o 33 (by omega) (by omega) (by omega) (by omega) (by omega), o 34 (by omega) (by omega) (by omega) (by omega) (by omega), o 35 (by omega) (by omega) (by omega) (by omega) (by omega)]
    exact hSI
  · rw [o 0 (by omega) (by omega) (by omega) (by omega) (by omega)]
    exact ⟨t0, t1⟩
/-- a day of both lakes -/
def g2W (w : AW) (n : Nat → Nat) (q : Nat → Nat → Nat) : Int × AW := (goB w 0 (n 0) (q 0) + goB (goW w 0 (n 0) (q 0)) 1 (n 1) (q 1), goW (goW w 0 (n 0) (q 0)) 1 (n 1) (q 1))
/-- so many days -/
def psF (w : AW) (n : Nat → Nat) (q : Nat → Nat → Nat) : Nat → Int × AW
  | 0 => (0, w)
  | i + 1 => ((psF w n q i).1 + (g2W (psF w n q i).2 n q).1, (g2W (psF w n q i).2 n q).2)
theorem WI_g2 {w : AW} {n : Nat → Nat} {q : Nat → Nat → Nat} {S rn sn : Nat} (hW : WI w n q S rn sn) (hq : QD n q) : WI (g2W w n q).2 n q S rn sn := WI_goW (L := 1) (WI_goW (L := 0) hW hq (by decide)) hq (by decide)
theorem WI_ps {w : AW} {n : Nat → Nat} {q : Nat → Nat → Nat} {S rn sn : Nat} (hW : WI w n q S rn sn) (hq : QD n q) : ∀ i, WI (psF w n q i).2 n q S rn sn
  | 0 => hW
  | i + 1 => WI_g2 (WI_ps hW hq i) hq
theorem goW_0 {w : AW} {n : Nat → Nat} {q : Nat → Nat → Nat} {S rn sn L : Nat} (hW : WI w n q S rn sn) (hL : L < 2) : (goW w L (n L) (q L)).2.1 0 = w.2.1 0 := by
  obtain ⟨hN, hP, h56⟩ := hW.2.2.1 L hL
  exact goW_o (by omega) (by omega) (by omega) (by omega) (fun i hi => by have := (hP.2.2.1 i hi).2.1; omega)
theorem ps_0 {w : AW} {n : Nat → Nat} {q : Nat → Nat → Nat} {S rn sn : Nat} (hW : WI w n q S rn sn) (hq : QD n q) : ∀ i, (psF w n q i).2.2.1 0 = w.2.1 0
  | 0 => rfl
  | i + 1 => by
    have h1 := WI_ps hW hq i
    have e1 := goW_0 (L := 0) h1 (by decide)
    have e2 := goW_0 (L := 1) (WI_goW (L := 0) h1 hq (by decide)) (by decide)
    exact e2.trans (e1.trans (ps_0 hW hq i))
set_option maxRecDepth 100000 in
set_option maxHeartbeats 4000000 in
theorem c_X9_goOnADay (l : Launch) (w : AW) (n : Nat → Nat) (q : Nat → Nat → Nat) (S rn sn : Nat) (hW : WI w n q S rn sn) (hq : QD n q) : HT l yX9_goOnADay cX9_goOnADay 4 (some .int) 5 0 0 w [ar 0] (fun r w' => r = some (ai (g2W w n q).1) ∧ w' = (g2W w n q).2) := by
  refine HT.of (by decide) (by intro v hv; simp only [List.mem_cons, List.not_mem_nil, or_false] at hv; rcases hv with rfl <;> rfl) (Nat.le_of_ble_eq_true rfl) ?_
  intro Γ h hQ hRm hnm hl hw0
  obtain ⟨hX, hS, hLk, hSI, t0, t1⟩ := id hW
  have s0 : w.1 0 = (109, 0) := hX.1 0 (by decide)
  have s1 : w.1 1 = (202, 2) := hX.1 1 (by decide)
  have p0_0 : w.2.2 0 0 = some 1 := hX.2 (0, 0, 1) (by decide)
  have one : ∀ (L : Nat) (z : Int) (u : AW) (x : Option AV), L < 2 → WI u n q S rn sn → (∀ x', GG Γ 4 [some (ar 0), some (ai (z + goB u L (n L) (q L))), some (ai ((L : Int) + 1)), x'] [] (goW u L (n L) (q L)) 0 0) → GG Γ 4 [some (ar 0), some (ai z), some (ai (L : Int)), x] [] u 0 0 := by
    intro L z u x hL2 hWu kk
    obtain ⟨hXu, hSu, hLku, -⟩ := id hWu
    obtain ⟨hN, hP, h56⟩ := hLku L hL2
    have hLK := XS_LK hXu L (by omega)
    have kL := hLK.2.1
    have u0 : u.1 0 = (109, 0) := hXu.1 0 (by decide)
    have u1 : u.1 1 = (202, 2) := hXu.1 1 (by decide)
    have up : u.2.2 0 0 = some 1 := hXu.2 (0, 0, 1) (by decide)
    have ul : u.2.2 1 L = some (2 + L) := by
      rcases (show L = 0 ∨ L = 1 by omega) with rfl | rfl
      · exact hXu.2 (1, 0, 2) (by decide)
      · exact hXu.2 (1, 1, 3) (by decide)
    have hb := goB_01 u L (n L) (q L)
    refine g_iload_n h dX9_goOnADay_4 rfl ?_
    refine g_aload_n h dX9_goOnADay_5 rfl ?_
    refine g_getQ h flX9_11 rfl (by assumption) (by assumption) dX9_goOnADay_6 ?_
    refine g_alen h (by assumption) (by unfold arK; omega) dX9_goOnADay_9 ?_
    refine g_icmp_ge (tgt := 40) h dX9_goOnADay_10 (by decide) (by first | assumption | exact ⟨by omega, by omega⟩) (by first | assumption | exact ⟨by omega, by omega⟩) (fun c10 => ?_) (fun c10 => ?_)
    · exfalso; omega
    · refine g_aload_n h dX9_goOnADay_13 rfl ?_
      refine g_getQ h flX9_11 rfl (by assumption) (by assumption) dX9_goOnADay_14 ?_
      refine g_iload_n h dX9_goOnADay_17 rfl ?_
      refine g_aald h (L) (by assumption) (by unfold arK; omega) (by first | omega | assumption) (by first | omega | assumption) (by first | omega | assumption) (by first | decide | omega) (by assumption) dX9_goOnADay_18 ?_
      refine g_astore_n h dX9_goOnADay_19 (Nat.le_of_ble_eq_true rfl) rfl rfl ?_
      refine g_aload_n h dX9_goOnADay_20 rfl ?_
      refine g_ifnull (tgt := 34) h dX9_goOnADay_21 (by decide) (fun cnn => by cases cnn) (fun _ cnn => ?_)
      refine g_aload_n h dX9_goOnADay_24 rfl ?_
      refine g_callV h rfl (ci := 2) [] (by assumption) (c_X2_goOn _ _ L (n L) (q L) hLK hN hP) clX9_358 (by decide) rfl in_X2_goOn se_X2_goOn rfl rfl (by rw [hRm]; first | decide | (simp only [clS]; omega)) (by rw [hRm]; first | decide | (simp only [clS]; omega)) (fun _ => Nat.le_of_ble_eq_true rfl) (by rw [hRm]; first | decide | (simp only [clS]; omega)) (by rw [hRm]; first | decide | (simp only [clS]; omega)) dX9_goOnADay_25 (fun r25 w25 hp25 => ?_)
      obtain ⟨rfl, hw25⟩ := hp25
      rw [hw25]
      refine g_if_eq (tgt := 34) h dX9_goOnADay_28 (by decide) (by first | assumption | exact ⟨by omega, by omega⟩) (fun c28 => ?_) (fun c28 => ?_)
      · refine g_iinc h dX9_goOnADay_34 rfl (Nat.le_of_ble_eq_true rfl) rfl rfl ?_
        refine g_goto (tgt := 4) h dX9_goOnADay_37 (by decide) ?_
        have e9 : goB u L (n L) (q L) = 0 := by omega
        have hk := kk (some (ar (2 + L)))
        rw [e9, Int.add_zero] at hk
        exact hk
      · refine g_iinc h dX9_goOnADay_31 rfl (Nat.le_of_ble_eq_true rfl) rfl rfl ?_
        refine g_iinc h dX9_goOnADay_34 rfl (Nat.le_of_ble_eq_true rfl) rfl rfl ?_
        refine g_goto (tgt := 4) h dX9_goOnADay_37 (by decide) ?_
        have e9 : goB u L (n L) (q L) = 1 := by omega
        have hk := kk (some (ar (2 + L)))
        rw [e9] at hk
        exact hk
  have hW1 := WI_goW (L := 0) hW hq (by decide)
  have hW2 := WI_goW (L := 1) hW1 hq (by decide)
  have v0 : (goW (goW w 0 (n 0) (q 0)) 1 (n 1) (q 1)).1 0 = (109, 0) := hW2.1.1 0 (by decide)
  have v1 : (goW (goW w 0 (n 0) (q 0)) 1 (n 1) (q 1)).1 1 = (202, 2) := hW2.1.1 1 (by decide)
  have vp : (goW (goW w 0 (n 0) (q 0)) 1 (n 1) (q 1)).2.2 0 0 = some 1 := hW2.1.2 (0, 0, 1) (by decide)
  have fin : ∀ x, GG Γ 4 [some (ar 0), some (ai (0 + goB w 0 (n 0) (q 0) + goB (goW w 0 (n 0) (q 0)) 1 (n 1) (q 1))), some (ai (((1 : Nat) : Int) + 1)), x] [] (goW (goW w 0 (n 0) (q 0)) 1 (n 1) (q 1)) 0 0 := by
    intro x
    refine g_iload_n h dX9_goOnADay_4 rfl ?_
    refine g_aload_n h dX9_goOnADay_5 rfl ?_
    refine g_getQ h flX9_11 rfl (by assumption) (by assumption) dX9_goOnADay_6 ?_
    refine g_alen h (by assumption) (by unfold arK; omega) dX9_goOnADay_9 ?_
    refine g_icmp_ge (tgt := 40) h dX9_goOnADay_10 (by decide) (by first | assumption | exact ⟨by omega, by omega⟩) (by first | assumption | exact ⟨by omega, by omega⟩) (fun c10 => ?_) (fun c10 => ?_)
    · refine g_iload_n h dX9_goOnADay_40 rfl ?_
      refine g_iret h hQ (by first | decide | omega | (simp only [clS]; omega)) (by first | decide | omega | (simp only [clS]; omega)) ?_ dX9_goOnADay_41
      refine ⟨congrArg (fun z => some (ai z)) ?_, rfl⟩
      unfold g2W
      omega
    · exfalso; omega
  refine g_iconst h dX9_goOnADay_0 ?_
  refine g_istore_n h dX9_goOnADay_1 (Nat.le_of_ble_eq_true rfl) rfl rfl ?_
  refine g_iconst h dX9_goOnADay_2 ?_
  refine g_istore_n h dX9_goOnADay_3 (Nat.le_of_ble_eq_true rfl) rfl rfl ?_
  exact one 0 0 w none (by decide) hW (fun x => one 1 _ _ x (by decide) hW1 fin)
def paW (w : AW) (n : Nat → Nat) (q : Nat → Nat → Nat) (a : Int) : AW := upI (upI (upI (upI (psF w n q a.toNat).2 0 13 (w.2.1 0 13 + a)) 0 14 (-2)) 0 15 (w.2.1 0 15 + (psF w n q a.toNat).1)) 0 16 0
set_option maxRecDepth 100000 in
set_option maxHeartbeats 4000000 in
theorem c_X9_pass (l : Launch) (w : AW) (n : Nat → Nat) (q : Nat → Nat → Nat) (S rn sn : Nat) (a : Int) (hW : WI w n q S rn sn) (hq : QD n q) (har : R32 a) : HT l yX9_pass cX9_pass 4 (some .int) 6 0 0 w [ar 0, ai a] (fun r w' => r = some (ai (if ¬ ((1 ≤ a ∧ a ≤ 60) ∧ w.2.1 0 13 + a ≤ 2999) then -1 else (psF w n q a.toNat).1)) ∧ w' = (if ¬ ((1 ≤ a ∧ a ≤ 60) ∧ w.2.1 0 13 + a ≤ 2999) then upI w 0 16 2 else paW w n q a)) := by
  refine HT.of (by decide) (by intro v hv; simp only [List.mem_cons, List.not_mem_nil, or_false] at hv; rcases hv with rfl | rfl <;> rfl) (Nat.le_of_ble_eq_true rfl) ?_
  intro Γ h hQ hRm hnm hl hw0
  obtain ⟨hX, hS, hLk, hSI, t0, t1⟩ := id hW
  have s0 : w.1 0 = (109, 0) := hX.1 0 (by decide)
  by_cases ha : 1 ≤ a ∧ a ≤ 60
  · obtain ⟨D, rfl⟩ : ∃ D : Nat, a = (D : Int) := ⟨a.toNat, by omega⟩
    rw [Int.toNat_natCast] at hQ
    have e0 : (psF w n q D).2.2.1 0 = w.2.1 0 := ps_0 hW hq D
    have hXD := (WI_ps hW hq D).1
    have v0 : (psF w n q D).2.1 0 = (109, 0) := hXD.1 0 (by decide)
    have loop : w.2.1 0 13 + (D : Int) ≤ 2999 → ∀ (d i : Nat), i + d = D → GG Γ 32 [some (ar 0), some (ai (D : Int)), some (ai (psF w n q i).1), some (ai (i : Int))] [] (psF w n q i).2 0 0 := by
      intro hday d
      induction d with
      | zero =>
        intro i hi
        obtain rfl : i = D := by omega
        refine g_iload_n h dX9_pass_32 rfl ?_
        refine g_iload_n h dX9_pass_33 rfl ?_
        refine g_icmp_ge (tgt := 50) h dX9_pass_34 (by decide) (by first | assumption | exact ⟨by omega, by omega⟩) (by first | assumption | exact ⟨by omega, by omega⟩) (fun c34 => ?_) (fun c34 => ?_)
        · refine g_aload_n h dX9_pass_50 rfl ?_
          refine g_dup h dX9_pass_51 rfl ?_
          refine g_getI h flX9_121 rfl (by first | assumption | exact v0) dX9_pass_52 ?_
          rw [e0]
          refine g_iload_n h dX9_pass_55 rfl ?_
          refine g_iadd h dX9_pass_56 ?_
          refine g_putI h flX9_121 rfl rfl (by first | assumption | exact v0) dX9_pass_57 ?_
          refine g_aload_n h dX9_pass_60 rfl ?_
          refine g_bipush h dX9_pass_61 rfl ?_
          refine g_putI h flX9_62 rfl rfl (by first | assumption | exact v0) dX9_pass_63 ?_
          refine g_aload_n h dX9_pass_66 rfl ?_
          refine g_dup h dX9_pass_67 rfl ?_
          refine g_getI h flX9_346 rfl (by first | assumption | exact v0) dX9_pass_68 ?_
          rw [show (upI (upI (psF w n q i).2 0 13 (w.2.1 0 13 + (i : Int))) 0 14 (-2)).2.1 0 15 = w.2.1 0 15 from congrFun e0 15]
          refine g_iload_n h dX9_pass_71 rfl ?_
          refine g_iadd h dX9_pass_72 ?_
          refine g_putI h flX9_346 rfl rfl (by first | assumption | exact v0) dX9_pass_73 ?_
          refine g_aload_n h dX9_pass_76 rfl ?_
          refine g_iload_n h dX9_pass_77 rfl ?_
          refine g_callV h rfl (ci := 9) [_] (by first | assumption | exact v0) (c_X9_answered _ _ _ (XS_of rfl rfl hXD)) clX9_169 (by decide) rfl in_X9_answered se_X9_answered rfl rfl (by rw [hRm]; first | decide | (simp only [clS]; omega)) (by rw [hRm]; first | decide | (simp only [clS]; omega)) (fun _ => Nat.le_of_ble_eq_true rfl) (by rw [hRm]; first | decide | (simp only [clS]; omega)) (by rw [hRm]; first | decide | (simp only [clS]; omega)) dX9_pass_78 (fun r78 w78 hp78 => ?_)
          obtain ⟨rfl, hw78⟩ := hp78
          rw [hw78]
          refine g_iret h hQ (by first | decide | omega | (simp only [clS]; omega)) (by first | decide | omega | (simp only [clS]; omega)) ?_ dX9_pass_81
          first
          | (exfalso; omega)
          | (refine ⟨?_, ?_⟩
             · rw [if_neg (by omega)]
             · rw [if_neg (by omega)]
               unfold paW
               rw [Int.toNat_natCast])
        · exfalso; omega
      | succ d ih =>
        intro i hi
        have hXi := (WI_ps hW hq i).1
        have x0 : (psF w n q i).2.1 0 = (109, 0) := hXi.1 0 (by decide)
        refine g_iload_n h dX9_pass_32 rfl ?_
        refine g_iload_n h dX9_pass_33 rfl ?_
        refine g_icmp_ge (tgt := 50) h dX9_pass_34 (by decide) (by first | assumption | exact ⟨by omega, by omega⟩) (by first | assumption | exact ⟨by omega, by omega⟩) (fun c34 => ?_) (fun c34 => ?_)
        · exfalso; omega
        · refine g_iload_n h dX9_pass_37 rfl ?_
          refine g_aload_n h dX9_pass_38 rfl ?_
          refine g_callV h rfl (ci := 9) [] (by assumption) (c_X9_goOnADay _ _ n q S rn sn (WI_ps hW hq i) hq) clX9_343 (by decide) rfl in_X9_goOnADay se_X9_goOnADay rfl rfl (by rw [hRm]; first | decide | (simp only [clS]; omega)) (by rw [hRm]; first | decide | (simp only [clS]; omega)) (fun _ => Nat.le_of_ble_eq_true rfl) (by rw [hRm]; first | decide | (simp only [clS]; omega)) (by rw [hRm]; first | decide | (simp only [clS]; omega)) dX9_pass_39 (fun r39 w39 hp39 => ?_)
          obtain ⟨rfl, hw39⟩ := hp39
          rw [hw39]
          refine g_iadd h dX9_pass_42 ?_
          refine g_istore_n h dX9_pass_43 (Nat.le_of_ble_eq_true rfl) rfl rfl ?_
          refine g_iinc h dX9_pass_44 rfl (Nat.le_of_ble_eq_true rfl) rfl rfl ?_
          refine g_goto (tgt := 32) h dX9_pass_47 (by decide) ?_
          exact ih (i + 1) (by omega)
    refine g_iload_n h dX9_pass_0 rfl ?_
    refine g_iconst h dX9_pass_1 ?_
    refine g_bipush h dX9_pass_2 rfl ?_
    refine g_callS h rfl [_, _, _] (c_X9_isWithin _ _ _ _ _ har ⟨by omega, by omega⟩ ⟨by omega, by omega⟩) clX9_78 st_X9_isWithin rfl rfl (by rw [hRm]; first | decide | (simp only [clS]; omega)) (by rw [hRm]; first | decide | (simp only [clS]; omega)) (fun _ => Nat.le_of_ble_eq_true rfl) (by rw [hRm]; first | decide | (simp only [clS]; omega)) (by rw [hRm]; first | decide | (simp only [clS]; omega)) dX9_pass_4 (fun r4 w4 hp4 => ?_)
    obtain ⟨rfl, hw4⟩ := hp4
    rw [hw4]
    rw [if_pos ha]
    refine g_if_eq (tgt := 22) h dX9_pass_7 (by decide) ⟨by decide, by decide⟩ (fun c => absurd c (by decide)) (fun _ => ?_)
    refine g_aload_n h dX9_pass_10 rfl ?_
    refine g_getI h flX9_121 rfl (by assumption) dX9_pass_11 ?_
    refine g_iload_n h dX9_pass_14 rfl ?_
    refine g_iadd h dX9_pass_15 ?_
    refine g_sipush h dX9_pass_16 rfl ?_
    refine g_icmp_le (tgt := 28) h dX9_pass_19 (by decide) (by first | assumption | exact ⟨by omega, by omega⟩) (by first | assumption | exact ⟨by omega, by omega⟩) (fun c19 => ?_) (fun c19 => ?_)
    · refine g_iconst h dX9_pass_28 ?_
      refine g_istore_n h dX9_pass_29 (Nat.le_of_ble_eq_true rfl) rfl rfl ?_
      refine g_iconst h dX9_pass_30 ?_
      refine g_istore_n h dX9_pass_31 (Nat.le_of_ble_eq_true rfl) rfl rfl ?_
      exact loop (by omega) D 0 (by omega)
    · refine g_aload_n h dX9_pass_22 rfl ?_
      refine g_iconst h dX9_pass_23 ?_
      refine g_callV h rfl (ci := 9) [_] (by assumption) (c_X9_refused _ _ _ hX) clX9_162 (by decide) rfl in_X9_refused se_X9_refused rfl rfl (by rw [hRm]; first | decide | (simp only [clS]; omega)) (by rw [hRm]; first | decide | (simp only [clS]; omega)) (fun _ => Nat.le_of_ble_eq_true rfl) (by rw [hRm]; first | decide | (simp only [clS]; omega)) (by rw [hRm]; first | decide | (simp only [clS]; omega)) dX9_pass_24 (fun r24 w24 hp24 => ?_)
      obtain ⟨rfl, hw24⟩ := hp24
      rw [hw24]
      refine g_iret h hQ (by first | decide | omega | (simp only [clS]; omega)) (by first | decide | omega | (simp only [clS]; omega)) ?_ dX9_pass_27
      first
      | (exfalso; omega)
      | (refine ⟨?_, ?_⟩
         · rw [if_pos (by omega)]
         · rw [if_pos (by omega)])
  · skip
    refine g_iload_n h dX9_pass_0 rfl ?_
    refine g_iconst h dX9_pass_1 ?_
    refine g_bipush h dX9_pass_2 rfl ?_
    refine g_callS h rfl [_, _, _] (c_X9_isWithin _ _ _ _ _ har ⟨by omega, by omega⟩ ⟨by omega, by omega⟩) clX9_78 st_X9_isWithin rfl rfl (by rw [hRm]; first | decide | (simp only [clS]; omega)) (by rw [hRm]; first | decide | (simp only [clS]; omega)) (fun _ => Nat.le_of_ble_eq_true rfl) (by rw [hRm]; first | decide | (simp only [clS]; omega)) (by rw [hRm]; first | decide | (simp only [clS]; omega)) dX9_pass_4 (fun r4 w4 hp4 => ?_)
    obtain ⟨rfl, hw4⟩ := hp4
    rw [hw4]
    rw [if_neg ha]
    refine g_if_eq (tgt := 22) h dX9_pass_7 (by decide) ⟨by decide, by decide⟩ (fun _ => ?_) (fun c => absurd rfl c)
    refine g_aload_n h dX9_pass_22 rfl ?_
    refine g_iconst h dX9_pass_23 ?_
    refine g_callV h rfl (ci := 9) [_] (by assumption) (c_X9_refused _ _ _ hX) clX9_162 (by decide) rfl in_X9_refused se_X9_refused rfl rfl (by rw [hRm]; first | decide | (simp only [clS]; omega)) (by rw [hRm]; first | decide | (simp only [clS]; omega)) (fun _ => Nat.le_of_ble_eq_true rfl) (by rw [hRm]; first | decide | (simp only [clS]; omega)) (by rw [hRm]; first | decide | (simp only [clS]; omega)) dX9_pass_24 (fun r24 w24 hp24 => ?_)
    obtain ⟨rfl, hw24⟩ := hp24
    rw [hw24]
    refine g_iret h hQ (by first | decide | omega | (simp only [clS]; omega)) (by first | decide | omega | (simp only [clS]; omega)) ?_ dX9_pass_27
    refine ⟨?_, ?_⟩
    · rw [if_pos (by omega)]
    · rw [if_pos (by omega)]
