/-! ===== the class: the best by so many moves; a plan ===== -/
/-- what the search for a plan keeps -/
def BI (u : AW) (L n : Nat) (q : Nat → Nat) (S : Nat) : Prop := XS u ∧ LN u L ∧ PQ u L n q ∧ SPI u S ∧ ∀ j, j < 3 → 0 ≤ u.2.1 18 j ∧ u.2.1 18 j ≤ 9
theorem BI_of {u v : AW} {L n S S' : Nat} {q : Nat → Nat} (hI : BI u L n q S) (hL : L < 2) (h56 : ∀ i, i < n → q i < 56) (hX : XS v) (hS : SPI v S') (ho : ∀ j, noS j → j ≠ 18 → j ≠ 19 → j ≠ 0 → v.2.1 j = u.2.1 j) (h1 : ∀ j, j < 56 → v.1 j = u.1 j) (h2 : ∀ j, j < 16 → v.2.2 j = u.2.2 j) (h18 : ∀ j, j < 3 → 0 ≤ v.2.1 18 j ∧ v.2.1 18 j ≤ 9) : BI v L n q S' := by
  obtain ⟨-, hN, ⟨a1, a2, a3, a4⟩, -, -⟩ := hI
  have o : ∀ j, j < 56 → j ≠ 4 → j ≠ 7 → j ≠ 10 → j ≠ 13 → j ≠ 18 → j ≠ 19 → j ≠ 0 → v.2.1 j = u.2.1 j := fun j h h4 h7 h10 h13 => ho j ⟨h4, h7, h10, h13, Or.inl h⟩
  refine ⟨hX, ?_, ⟨a1, ?_, fun i hi => ?_, a4⟩, hS, h18⟩
  · unfold LN
    rw [o (5 + L) (by omega) (by omega) (by omega) (by omega) (by omega) (by omega) (by omega) (by omega), o (8 + L) (by omega) (by omega) (by omega) (by omega) (by omega) (by omega) (by omega) (by omega), o (11 + L) (by omega) (by omega) (by omega) (by omega) (by omega) (by omega) (by omega) (by omega), o (2 + L) (by omega) (by omega) (by omega) (by omega) (by omega) (by omega) (by omega) (by omega)]
    exact hN
  · rw [o (2 + L) (by omega) (by omega) (by omega) (by omega) (by omega) (by omega) (by omega) (by omega)]
    exact a2
  · obtain ⟨b1, b2⟩ := a3 i hi
    have h50 := b2.1
    have h5 := h56 i hi
    refine ⟨by rw [h2 (14 + L) (by omega)]; exact b1, ?_⟩
    unfold pOK
    rw [o (q i) (by omega) (by omega) (by omega) (by omega) (by omega) (by omega) (by omega) (by omega), h1 (q i) (by omega)]
    exact b2
theorem BI_bmT {u : AW} {L n S : Nat} {q : Nat → Nat} {t : Int} (hI : BI u L n q S) (hL : L < 2) (h56 : ∀ i, i < n → q i < 56) : BI (bmT u n t) L n q S := by
  have hI' := hI
  obtain ⟨hX, hN, hP, hS, h18⟩ := hI
  refine BI_of hI' hL h56 (XS_of rfl rfl hX) (SPI_of rfl rfl hS) (fun j _ h _ _ => sR_ne _ _ h) (fun _ _ => rfl) (fun _ _ => rfl) (fun j hj => ?_)
  unfold bmT
  rw [sR_at]
  by_cases hjn : j < n
  · have := spR_bd n t (u.2.1 18) j hjn
    omega
  · rw [spR_hi n t (u.2.1 18) j (by omega)]
    exact h18 j hj
theorem tyA_s {n : Nat} {f : Nat → Int} (hn : n ≤ 3) {j : Nat} (h : noS j) (w : AW) : ∀ i, (tyA w n f i).2.1 j = w.2.1 j
  | 0 => rfl
  | i + 1 => (tryW_s hn h).trans (tyA_s hn h w i)
/-- the spare stands as lake L, with the layers tried -/
def bmV (u : AW) (L S n : Nat) (q : Nat → Nat) (t : Int) : AW := bcP (bcB (bmT u n t) L) S q n
theorem bmV_ok {u : AW} {L n S : Nat} {q : Nat → Nat} {t : Int} (hI : BI u L n q S) (hL : L < 2) (h56 : ∀ i, i < n → q i < 56) :
    (∀ i, XS (tyA (bmV u L S n q t) n ((bmT u n t).2.1 18) i) ∧ LN (tyA (bmV u L S n q t) n ((bmT u n t).2.1 18) i) 2 ∧ PQ (tyA (bmV u L S n q t) n ((bmT u n t).2.1 18) i) 2 n sq) ∧
    (∀ i j, noS j → (tyA (bmV u L S n q t) n ((bmT u n t).2.1 18) i).2.1 j = (bmT u n t).2.1 j) ∧ (∀ i, (tyA (bmV u L S n q t) n ((bmT u n t).2.1 18) i).1 = (bmV u L S n q t).1 ∧ (tyA (bmV u L S n q t) n ((bmT u n t).2.1 18) i).2.2 = (bmV u L S n q t).2.2) := by
  obtain ⟨hX, hN, hP, hS, h18⟩ := BI_bmT (t := t) hI hL h56
  obtain ⟨x1, n1, p1⟩ := bcP_ok hX hL hN hP h56 hS
  refine ⟨tyA_ok x1 n1 p1 (fun j hj => ?_), fun i j hj => (tyA_s hP.1 hj _ i).trans (bcP_s hP.1 hj).1, fun i => tyA_1 _ _ _ i⟩
  unfold bmT
  rw [sR_at]
  exact spR_bd n t (u.2.1 18) j hj
theorem BI_bmD {u : AW} {L n S : Nat} {q : Nat → Nat} {t share least : Int} (hI : BI u L n q S) (hL : L < 2) (h56 : ∀ i, i < n → q i < 56) : BI (bmD u L S n q share t least).2 L n q (max S n) ∧ (bmD u L S n q share t least).2.2.1 18 = (bmT u n t).2.1 18 ∧ (bmD u L S n q share t least).2.2.1 0 = u.2.1 0 ∧ (bmD u L S n q share t least).2.2.1 19 = u.2.1 19 := by
  have hI1 := BI_bmT (t := t) hI hL h56
  obtain ⟨hX, hN, hP, hS, h18⟩ := id hI1
  obtain ⟨c1, c2, c3⟩ := bmV_ok (t := t) hI hL h56
  have g := fun j (hj : noS j) => dtb_s (share := share) hP.1 hj (least - 1).toNat 1 (tyA (bmV u L S n q t) n ((bmT u n t).2.1 18) n)
  have g0 := g 0 ⟨by decide, by decide, by decide, by decide, by decide⟩
  have e : ∀ j, noS j → (bmD u L S n q share t least).2.2.1 j = (bmT u n t).2.1 j := fun j hj => (g j hj).1.trans (c2 n j hj)
  have e18 := e 18 ⟨by decide, by decide, by decide, by decide, by decide⟩
  refine ⟨BI_of hI1 hL h56 (XS_of g0.2.1 g0.2.2 (c1 n).1) (SPI_of (g0.2.1.trans (c3 n).1) (g0.2.2.trans (c3 n).2) (bcP_SPI hP.1 h56 hS)) (fun j hj _ _ _ => e j hj) (fun j hj => ?_) (fun j hj => ?_) ?_, e18, (e 0 ⟨by decide, by decide, by decide, by decide, by decide⟩).trans (sR_ne _ _ (by decide)), (e 19 ⟨by decide, by decide, by decide, by decide, by decide⟩).trans (sR_ne _ _ (by decide))⟩
  · show (dtb 2 n sq share (least - 1).toNat 1 (tyA (bmV u L S n q t) n ((bmT u n t).2.1 18) n)).2.1 j = _
    rw [g0.2.1, (c3 n).1]
    exact (bcP_lo (bcB (bmT u n t) L) S q n j (Or.inl hj)).1
  · show (dtb 2 n sq share (least - 1).toNat 1 (tyA (bmV u L S n q t) n ((bmT u n t).2.1 18) n)).2.2.2 j = _
    rw [g0.2.2, (c3 n).2]
    exact (bcP_lo (bcB (bmT u n t) L) S q n j (by omega)).2.2 (by omega)
  · rw [e18]
    exact h18
theorem BI_kp {u : AW} {L n m S : Nat} {q : Nat → Nat} (hI : BI u L n q S) (hL : L < 2) (h56 : ∀ i, i < n → q i < 56) : BI (kpW u m) L n q S := by
  have hI' := hI
  obtain ⟨hX, hN, hP, hS, h18⟩ := hI
  refine BI_of hI' hL h56 (XS_of rfl rfl hX) (SPI_of rfl rfl hS) (fun j _ _ h19 h0 => (upI_o _ _ _ h0).trans (sR_ne _ _ h19)) (fun _ _ => rfl) (fun _ _ => rfl) (fun j hj => ?_)
  have : (kpW u m).2.1 18 = u.2.1 18 := (upI_o _ _ _ (by decide)).trans (sR_ne _ _ (by decide))
  rw [this]
  exact h18 j hj
theorem movS_bd (w : AW) (q : Nat → Nat) (f : Nat → Int) : ∀ i : Nat, 0 ≤ movS w q f i ∧ movS w q f i ≤ i
  | 0 => ⟨Int.le_refl _, Int.le_refl _⟩
  | i + 1 => by
    have := movS_bd w q f i
    show 0 ≤ movS w q f i + (if _ then (0 : Int) else 1) ∧ movS w q f i + (if _ then (0 : Int) else 1) ≤ ((i + 1 : Nat) : Int)
    split <;> omega
theorem bmF_S {L n : Nat} {q : Nat → Nat} {share m : Int} : ∀ (d : Nat) (t least : Int) (S : Nat) (w : AW), S ≤ (bmF L n q share m d t least S w).2.2
  | 0, _, _, _, _ => Nat.le_refl _
  | d + 1, t, least, S, w => by
    unfold bmF
    split
    · exact Nat.le_refl _
    · split
      · split
        · exact Nat.le_trans (Nat.le_max_left _ _) (bmF_S d _ _ _ _)
        · exact Nat.le_trans (Nat.le_max_left _ _) (bmF_S d _ _ _ _)
      · exact bmF_S d _ _ _ _
set_option maxRecDepth 100000 in
set_option maxHeartbeats 4000000 in
theorem c_X9_bestByMoves (l : Launch) (w : AW) (L S n : Nat) (q : Nat → Nat) (share m best : Int) (hL : L < 2) (hI : BI w L n q S) (h56 : ∀ i, i < n → q i < 56) (hs : R32 share) (hm : 0 ≤ m ∧ m ≤ 3) (hb : 1 ≤ best ∧ best ≤ 61) : HT l yX9_bestByMoves cX9_bestByMoves 9 (some .int) 6 ((bmF L n q share m (10 ^ n) 0 best S w).2.2 - S) (7 * ((bmF L n q share m (10 ^ n) 0 best S w).2.2 - S)) w [ar 0, ar (2 + L), ai share, ai m, ai best] (fun r w' => r = some (ai (bmF L n q share m (10 ^ n) 0 best S w).1) ∧ w' = (bmF L n q share m (10 ^ n) 0 best S w).2.1) := by
  refine HT.of (by decide) (by intro v hv; simp only [List.mem_cons, List.not_mem_nil, or_false] at hv; rcases hv with rfl | rfl | rfl | rfl | rfl <;> rfl) (Nat.le_of_ble_eq_true rfl) ?_
  intro Γ h hQ hRm hnm hl hw0
  obtain ⟨hX, hN, hP, hS, h18⟩ := id hI
  have s0 : w.1 0 = (109, 0) := hX.1 0 (by decide)
  have s18 : w.1 18 = (1, 3) := hX.1 18 (by decide)
  have s4 : w.1 4 = (102, 0) := hX.1 4 (by decide)
  have p0_4 : w.2.2 0 4 = some 18 := hX.2 (0, 4, 18) (by decide)
  have p0_1 : w.2.2 0 1 = some 4 := hX.2 (0, 1, 4) (by decide)
  have hn3 := hP.1
  have kL := (XS_LK hX L (by omega)).2.1
  have hT : (10 : Nat) ^ n ≤ 1000 ∧ 1 ≤ (10 : Nat) ^ n := by
    rcases (show n = 0 ∨ n = 1 ∨ n = 2 ∨ n = 3 by omega) with rfl | rfl | rfl | rfl <;> decide
  generalize hTe : (10 : Nat) ^ n = T at hQ hT hRm
  obtain ⟨K, hKe⟩ : ∃ K, (bmF L n q share m T 0 best S w).2.2 = K := ⟨_, rfl⟩
  rw [hKe] at hQ hRm
  have loop : ∀ (d t S1 : Nat) (least : Int) (u : AW) (x : Option AV), t + d = T → BI u L n q S1 → S ≤ S1 → S1 ≤ max S n → 1 ≤ least ∧ least ≤ 61 → bmF L n q share m d (t : Int) least S1 u = bmF L n q share m T 0 best S w →
      GG Γ 35 [some (ar 0), some (ar (2 + L)), some (ai share), some (ai m), some (ai best), some (ai (T : Int)), some (ai least), some (ai (t : Int)), x] [] u (S1 - S) (7 * (S1 - S)) := by
    intro d
    induction d with
    | zero =>
      intro t S1 least u x ht hIu hS1 hS2 hle hrun
      obtain rfl : t = T := by omega
      have hrun2 : (least, u, S1) = bmF L n q share m t 0 best S w := hrun
      have hKm : S1 ≤ K := by rw [← hKe, ← hrun]; exact bmF_S _ _ _ _ _
      refine g_iload h dX9_bestByMoves_35 rfl ?_
      refine g_iload h dX9_bestByMoves_37 rfl ?_
      refine g_icmp_ge (tgt := 161) h dX9_bestByMoves_39 (by decide) (by first | assumption | exact ⟨by omega, by omega⟩) (by first | assumption | exact ⟨by omega, by omega⟩) (fun c39 => ?_) (fun c39 => ?_)
      · refine g_iload h dX9_bestByMoves_161 rfl ?_
        refine g_iret h hQ (by first | decide | omega | (simp only [clS]; omega)) (by first | decide | omega | (simp only [clS]; omega)) ?_ dX9_bestByMoves_163
        rw [← hrun2]
        exact ⟨rfl, rfl⟩
      · exfalso; omega
    | succ d ih =>
      intro t S1 least u x ht hIu hS1 hS2 hle hrun
      have hI1 := BI_bmT (t := (t : Int)) hIu hL h56
      obtain ⟨hXu, hNu, hPu, hSu, -⟩ := id hIu
      obtain ⟨hX1, hN1, hP1, hS1p, h181⟩ := id hI1
      obtain ⟨y1, y2, y3⟩ := bmV_ok (t := (t : Int)) hIu hL h56
      have t0 : u.1 0 = (109, 0) := hXu.1 0 (by decide)
      have tL : u.1 (2 + L) = (102, 0) := (XS_LK hXu L (by omega)).2.1
      have e4 : u.2.1 (2 + L) 4 = (n : Int) := hPu.2.1
      have v0 : (bmT u n (t : Int)).1 0 = (109, 0) := t0
      have vL : (bmT u n (t : Int)).1 (2 + L) = (102, 0) := tL
      have vp4 : (bmT u n (t : Int)).2.2 0 4 = some 18 := hX1.2 (0, 4, 18) (by decide)
      have vp1 : (bmT u n (t : Int)).2.2 0 1 = some 4 := hX1.2 (0, 1, 4) (by decide)
      have v4 : (bmT u n (t : Int)).1 4 = (102, 0) := hX1.1 4 (by decide)
      have hmv := movS_bd (bmT u n (t : Int)) q ((bmT u n (t : Int)).2.1 18) n
      have hrun2 : (if least ≤ 1 then (least, u, S1) else
        if movS (bmT u n (t : Int)) q ((bmT u n (t : Int)).2.1 18) n = m then
          if (bmD u L S1 n q share (t : Int) least).1 = -2 then bmF L n q share m d ((t : Int) + 1) least (max S1 n) (bmD u L S1 n q share (t : Int) least).2
          else bmF L n q share m d ((t : Int) + 1) (bmD u L S1 n q share (t : Int) least).1 (max S1 n) (kpW (bmD u L S1 n q share (t : Int) least).2 n)
        else bmF L n q share m d ((t : Int) + 1) least S1 (bmT u n (t : Int))) = bmF L n q share m T 0 best S w := hrun
      have hKm : S1 ≤ K := by rw [← hKe, ← hrun]; exact bmF_S _ _ _ _ _
      have inner : ∀ (k2 : Nat), k2 ≤ K - S → GG Γ 122 [some (ar 0), some (ar (2 + L)), some (ai share), some (ai m), some (ai best), some (ai (T : Int)), some (ai least), some (ai (t : Int)), some (ai (n : Int))] [] (tyA (bmV u L S1 n q (t : Int)) n ((bmT u n (t : Int)).2.1 18) n) k2 (7 * k2) → ∀ (e i : Nat), i + e = n → GG Γ 81 [some (ar 0), some (ar (2 + L)), some (ai share), some (ai m), some (ai best), some (ai (T : Int)), some (ai least), some (ai (t : Int)), some (ai (i : Int))] [] (tyA (bmV u L S1 n q (t : Int)) n ((bmT u n (t : Int)).2.1 18) i) k2 (7 * k2) := by
        intro k2 hk2 kk e
        induction e with
        | zero =>
          intro i hi
          obtain rfl : n = i := by omega
          have zX := (y1 n).1
          have z0 : (tyA (bmV u L S1 n q (t : Int)) n ((bmT u n (t : Int)).2.1 18) n).1 0 = (109, 0) := zX.1 0 (by decide)
          have zL : (tyA (bmV u L S1 n q (t : Int)) n ((bmT u n (t : Int)).2.1 18) n).1 (2 + L) = (102, 0) := (XS_LK zX L (by omega)).2.1
          have z4 : (tyA (bmV u L S1 n q (t : Int)) n ((bmT u n (t : Int)).2.1 18) n).2.1 (2 + L) 4 = (n : Int) := (congrFun (y2 n (2 + L) ⟨by omega, by omega, by omega, by omega, by omega⟩) 4).trans ((congrFun (sR_ne _ _ (by omega)) 4).trans e4)
          refine g_iload h dX9_bestByMoves_81 rfl ?_
          refine g_aload_n h dX9_bestByMoves_83 rfl ?_
          refine g_getI h flX9_224 rfl (by assumption) dX9_bestByMoves_84 ?_
          rw [z4]
          refine g_icmp_ge (tgt := 122) h dX9_bestByMoves_87 (by decide) (by first | assumption | exact ⟨by omega, by omega⟩) (by first | assumption | exact ⟨by omega, by omega⟩) (fun c87 => ?_) (fun c87 => ?_)
          · exact kk
          · exfalso; omega
        | succ e ih2 =>
          intro i hi
          obtain ⟨zX, zN, zP⟩ := y1 i
          have z0 : (tyA (bmV u L S1 n q (t : Int)) n ((bmT u n (t : Int)).2.1 18) i).1 0 = (109, 0) := zX.1 0 (by decide)
          have zL : (tyA (bmV u L S1 n q (t : Int)) n ((bmT u n (t : Int)).2.1 18) i).1 (2 + L) = (102, 0) := (XS_LK zX L (by omega)).2.1
          have z18s : (tyA (bmV u L S1 n q (t : Int)) n ((bmT u n (t : Int)).2.1 18) i).1 18 = (1, 3) := zX.1 18 (by decide)
          have zs4 : (tyA (bmV u L S1 n q (t : Int)) n ((bmT u n (t : Int)).2.1 18) i).1 4 = (102, 0) := zX.1 4 (by decide)
          have zp1 : (tyA (bmV u L S1 n q (t : Int)) n ((bmT u n (t : Int)).2.1 18) i).2.2 0 1 = some 4 := zX.2 (0, 1, 4) (by decide)
          have zp4 : (tyA (bmV u L S1 n q (t : Int)) n ((bmT u n (t : Int)).2.1 18) i).2.2 0 4 = some 18 := zX.2 (0, 4, 18) (by decide)
          have z4 : (tyA (bmV u L S1 n q (t : Int)) n ((bmT u n (t : Int)).2.1 18) i).2.1 (2 + L) 4 = (n : Int) := (congrFun (y2 i (2 + L) ⟨by omega, by omega, by omega, by omega, by omega⟩) 4).trans ((congrFun (sR_ne _ _ (by omega)) 4).trans e4)
          have z18 : (tyA (bmV u L S1 n q (t : Int)) n ((bmT u n (t : Int)).2.1 18) i).2.1 18 i = ((bmT u n (t : Int)).2.1 18) i := congrFun (y2 i 18 ⟨by decide, by decide, by decide, by decide, by decide⟩) i
          have hfi := h181 i (by omega)
          refine g_iload h dX9_bestByMoves_81 rfl ?_
          refine g_aload_n h dX9_bestByMoves_83 rfl ?_
          refine g_getI h flX9_224 rfl (by assumption) dX9_bestByMoves_84 ?_
          rw [z4]
          refine g_icmp_ge (tgt := 122) h dX9_bestByMoves_87 (by decide) (by first | assumption | exact ⟨by omega, by omega⟩) (by first | assumption | exact ⟨by omega, by omega⟩) (fun c87 => ?_) (fun c87 => ?_)
          · exfalso; omega
          · refine g_iload h dX9_bestByMoves_90 rfl ?_
            refine g_aload_n h dX9_bestByMoves_92 rfl ?_
            refine g_getQ h flX9_28 rfl (by assumption) (by assumption) dX9_bestByMoves_93 ?_
            refine g_alen h (by assumption) (by unfold arK; omega) dX9_bestByMoves_96 ?_
            refine g_icmp_ge (tgt := 122) h dX9_bestByMoves_97 (by decide) (by first | assumption | exact ⟨by omega, by omega⟩) (by first | assumption | exact ⟨by omega, by omega⟩) (fun c97 => ?_) (fun c97 => ?_)
            · exfalso; omega
            · refine g_aload_n h dX9_bestByMoves_100 rfl ?_
              refine g_getQ h flX9_18 rfl (by assumption) (by assumption) dX9_bestByMoves_101 ?_
              refine g_iload h dX9_bestByMoves_104 rfl ?_
              refine g_aload_n h dX9_bestByMoves_106 rfl ?_
              refine g_getQ h flX9_28 rfl (by assumption) (by assumption) dX9_bestByMoves_107 ?_
              refine g_iload h dX9_bestByMoves_110 rfl ?_
              refine g_iald h (i) (by assumption) (by first | omega | assumption) (by first | omega | assumption) (by first | decide | omega) dX9_bestByMoves_112 ?_
              rw [z18]
              refine g_callV h rfl (ci := 2) [_, _] (by assumption) (c_X2_tryPipe _ _ 2 n i sq (((bmT u n (t : Int)).2.1 18) i) (XS_LK zX 2 (by decide)) zP ⟨by omega, by omega⟩ (by omega)) clX9_229 (by decide) rfl in_X2_tryPipe se_X2_tryPipe rfl rfl (by rw [hRm]; first | decide | (simp only [clS]; omega)) (by rw [hRm]; first | decide | (simp only [clS]; omega)) (fun _ => Nat.le_of_ble_eq_true rfl) (by rw [hRm]; first | decide | (simp only [clS]; omega)) (by rw [hRm]; first | decide | (simp only [clS]; omega)) dX9_bestByMoves_113 (fun r113 w113 hp113 => ?_)
              obtain ⟨rfl, hw113⟩ := hp113
              rw [hw113]
              have e9 : tryW (tyA (bmV u L S1 n q (t : Int)) n ((bmT u n (t : Int)).2.1 18) i) sq n i (((bmT u n (t : Int)).2.1 18) i) = tyA (bmV u L S1 n q (t : Int)) n ((bmT u n (t : Int)).2.1 18) (i + 1) := rfl
              rw [e9]
              refine g_iinc h dX9_bestByMoves_116 rfl (Nat.le_of_ble_eq_true rfl) rfl rfl ?_
              refine g_goto (tgt := 81) h dX9_bestByMoves_119 (by decide) ?_
              exact ih2 (i + 1) (by omega)
      refine g_iload h dX9_bestByMoves_35 rfl ?_
      refine g_iload h dX9_bestByMoves_37 rfl ?_
      refine g_icmp_ge (tgt := 161) h dX9_bestByMoves_39 (by decide) (by first | assumption | exact ⟨by omega, by omega⟩) (by first | assumption | exact ⟨by omega, by omega⟩) (fun c39 => ?_) (fun c39 => ?_)
      · first
        | (exfalso; omega)
        | (rw [if_pos (by omega)] at hrun2
           refine g_iload h dX9_bestByMoves_161 rfl ?_
           refine g_iret h hQ (by omega) (by omega) ?_ dX9_bestByMoves_163
           rw [← hrun2]
           exact ⟨rfl, rfl⟩)
      · refine g_iload h dX9_bestByMoves_42 rfl ?_
        refine g_iconst h dX9_bestByMoves_44 ?_
        refine g_icmp_le (tgt := 161) h dX9_bestByMoves_45 (by decide) (by first | assumption | exact ⟨by omega, by omega⟩) (by first | assumption | exact ⟨by omega, by omega⟩) (fun c45 => ?_) (fun c45 => ?_)
        · first
          | (exfalso; omega)
          | (rw [if_pos (by omega)] at hrun2
             refine g_iload h dX9_bestByMoves_161 rfl ?_
             refine g_iret h hQ (by omega) (by omega) ?_ dX9_bestByMoves_163
             rw [← hrun2]
             exact ⟨rfl, rfl⟩)
        · refine g_aload_n h dX9_bestByMoves_48 rfl ?_
          refine g_iload h dX9_bestByMoves_49 rfl ?_
          refine g_aload_n h dX9_bestByMoves_51 rfl ?_
          refine g_getI h flX9_224 rfl (by first | assumption | exact t0 | exact tL | exact v0 | exact vL | exact v4) dX9_bestByMoves_52 ?_
          rw [e4]
          refine g_callV h rfl (ci := 9) [_, _] (by first | assumption | exact t0 | exact tL | exact v0 | exact vL | exact v4) (c_X9_spreadTrial _ _ n (t : Int) hXu hn3 (by omega) (by omega)) clX9_372 (by decide) rfl in_X9_spreadTrial se_X9_spreadTrial rfl rfl (by rw [hRm]; first | decide | (simp only [clS]; omega)) (by rw [hRm]; first | decide | (simp only [clS]; omega)) (fun _ => Nat.le_of_ble_eq_true rfl) (by rw [hRm]; first | decide | (simp only [clS]; omega)) (by rw [hRm]; first | decide | (simp only [clS]; omega)) dX9_bestByMoves_55 (fun r55 w55 hp55 => ?_)
          obtain ⟨rfl, hw55⟩ := hp55
          rw [hw55]
          change GG Γ _ _ [] (bmT u n (t : Int)) _ _
          refine g_aload_n h dX9_bestByMoves_58 rfl ?_
          refine g_aload_n h dX9_bestByMoves_59 rfl ?_
          refine g_getQ h flX9_28 rfl (by first | assumption | exact t0 | exact tL | exact v0 | exact vL | exact v4) (by first | assumption | exact t0 | exact tL | exact v0 | exact vL | exact v4) dX9_bestByMoves_60 ?_
          refine g_callV h rfl (ci := 2) [_] (by first | assumption | exact t0 | exact tL | exact v0 | exact vL | exact v4) (c_X2_movesTo _ _ L n 18 q (XS_LK hX1 L (by omega)) hP1 (hX1.1 18 (by decide)) (fun i hi => by have := h181 i hi; exact ⟨by omega, by omega⟩)) clX9_375 (by decide) rfl in_X2_movesTo se_X2_movesTo rfl rfl (by rw [hRm]; first | decide | (simp only [clS]; omega)) (by rw [hRm]; first | decide | (simp only [clS]; omega)) (fun _ => Nat.le_of_ble_eq_true rfl) (by rw [hRm]; first | decide | (simp only [clS]; omega)) (by rw [hRm]; first | decide | (simp only [clS]; omega)) dX9_bestByMoves_63 (fun r63 w63 hp63 => ?_)
          obtain ⟨rfl, hw63⟩ := hp63
          rw [hw63]
          refine g_iload_n h dX9_bestByMoves_66 rfl ?_
          refine g_icmp_ne (tgt := 155) h dX9_bestByMoves_67 (by decide) (by first | assumption | exact ⟨by omega, by omega⟩) (by first | assumption | exact ⟨by omega, by omega⟩) (fun c67 => ?_) (fun c67 => ?_)
          · refine g_iinc h dX9_bestByMoves_155 rfl (Nat.le_of_ble_eq_true rfl) rfl rfl ?_
            refine g_goto (tgt := 35) h dX9_bestByMoves_158 (by decide) ?_
            rw [if_neg (by omega), if_neg (by first | assumption | exact t0 | exact tL | exact v0 | exact vL | exact v4)] at hrun2
            exact g_kn2 _ _ (by omega) (by omega) (ih (t + 1) S1 least _ _ (by omega) hI1 hS1 hS2 hle hrun2)
          · refine g_aload_n h dX9_bestByMoves_70 rfl ?_
            refine g_getQ h flX9_18 rfl (by first | assumption | exact t0 | exact tL | exact v0 | exact vL | exact v4) (by first | assumption | exact t0 | exact tL | exact v0 | exact vL | exact v4) dX9_bestByMoves_71 ?_
            refine g_aload_n h dX9_bestByMoves_74 rfl ?_
            have hKn : max S1 n ≤ K := by
              have q9 := hrun2
              rw [if_neg (by omega), if_pos (by first | assumption | exact t0 | exact tL | exact v0 | exact vL | exact v4)] at q9
              rw [← hKe, ← q9]
              split <;> exact bmF_S _ _ _ _ _
            refine g_callV h rfl (ci := 2) [_] (by first | assumption | exact t0 | exact tL | exact v0 | exact vL | exact v4) (c_X2_become _ _ L S1 n q hL (XS_LK hX1 2 (by decide)) (XS_LK hX1 L (by omega)) hP1 h56 hS1p) clX9_225 (by decide) rfl in_X2_become se_X2_become rfl rfl (by rw [hRm]; first | decide | (simp only [clS]; omega)) (by rw [hRm]; first | decide | (simp only [clS]; omega)) (fun _ => Nat.le_of_ble_eq_true rfl) (by rw [hRm]; first | decide | (simp only [clS]; omega)) (by rw [hRm]; first | decide | (simp only [clS]; omega)) dX9_bestByMoves_75 (fun r75 w75 hp75 => ?_)
            obtain ⟨rfl, hw75⟩ := hp75
            rw [hw75]
            change GG Γ _ _ [] (bmV u L S1 n q (t : Int)) _ _
            refine g_iconst h dX9_bestByMoves_78 ?_
            refine g_istore h dX9_bestByMoves_79 (Nat.le_of_ble_eq_true rfl) rfl rfl ?_
            refine g_kn2 (max S1 n - S) (7 * (max S1 n - S)) (by omega) (by omega) (inner (max S1 n - S) (by omega) ?_ n 0 (by omega))
            have zX := (y1 n).1
            have z0 : (tyA (bmV u L S1 n q (t : Int)) n ((bmT u n (t : Int)).2.1 18) n).1 0 = (109, 0) := zX.1 0 (by decide)
            have zs4 : (tyA (bmV u L S1 n q (t : Int)) n ((bmT u n (t : Int)).2.1 18) n).1 4 = (102, 0) := zX.1 4 (by decide)
            have zp1 : (tyA (bmV u L S1 n q (t : Int)) n ((bmT u n (t : Int)).2.1 18) n).2.2 0 1 = some 4 := zX.2 (0, 1, 4) (by decide)
            refine g_aload_n h dX9_bestByMoves_122 rfl ?_
            refine g_getQ h flX9_18 rfl (by assumption) (by assumption) dX9_bestByMoves_123 ?_
            refine g_iload_n h dX9_bestByMoves_126 rfl ?_
            refine g_iload h dX9_bestByMoves_127 rfl ?_
            refine g_iconst h dX9_bestByMoves_129 ?_
            refine g_isub h dX9_bestByMoves_130 ?_
            refine g_callV h rfl (ci := 2) [_, _] (by assumption) (c_X2_daysToBelow _ _ 2 n sq share (least - 1) (XS_LK (y1 n).1 2 (by decide)) (y1 n).2.1 (y1 n).2.2 hs (by omega) (by omega)) clX9_232 (by decide) rfl in_X2_daysToBelow se_X2_daysToBelow rfl rfl (by rw [hRm]; first | decide | (simp only [clS]; omega)) (by rw [hRm]; first | decide | (simp only [clS]; omega)) (fun _ => Nat.le_of_ble_eq_true rfl) (by rw [hRm]; first | decide | (simp only [clS]; omega)) (by rw [hRm]; first | decide | (simp only [clS]; omega)) dX9_bestByMoves_131 (fun r131 w131 hp131 => ?_)
            obtain ⟨rfl, hw131⟩ := hp131
            rw [hw131]
            change GG Γ _ _ [ai (bmD u L S1 n q share (t : Int) least).1] (bmD u L S1 n q share (t : Int) least).2 _ _
            have hbd := dtb_bd (L := 2) (n := n) (q := sq) (share := share) (least - 1).toNat 1 (tyA (bmV u L S1 n q (t : Int)) n ((bmT u n (t : Int)).2.1 18) n) (Int.le_refl _)
            have hbd2 : (bmD u L S1 n q share (t : Int) least).1 = -2 ∨ (1 ≤ (bmD u L S1 n q share (t : Int) least).1 ∧ (bmD u L S1 n q share (t : Int) least).1 < 1 + ((least - 1).toNat : Int)) := hbd
            obtain ⟨hID, e18, e00, e19⟩ := BI_bmD (t := (t : Int)) (share := share) (least := least) hIu hL h56
            have d0 : (bmD u L S1 n q share (t : Int) least).2.1 0 = (109, 0) := hID.1.1 0 (by decide)
            have dL : (bmD u L S1 n q share (t : Int) least).2.1 (2 + L) = (102, 0) := (XS_LK hID.1 L (by omega)).2.1
            have d4 : (bmD u L S1 n q share (t : Int) least).2.2.1 (2 + L) 4 = (n : Int) := hID.2.2.1.2.1
            refine g_istore h dX9_bestByMoves_134 (Nat.le_of_ble_eq_true rfl) rfl rfl ?_
            refine g_iload h dX9_bestByMoves_136 rfl ?_
            refine g_bipush h dX9_bestByMoves_138 rfl ?_
            refine g_icmp_eq (tgt := 155) h dX9_bestByMoves_140 (by decide) (by first | assumption | exact ⟨by omega, by omega⟩) (by first | assumption | exact ⟨by omega, by omega⟩) (fun c140 => ?_) (fun c140 => ?_)
            · refine g_iinc h dX9_bestByMoves_155 rfl (Nat.le_of_ble_eq_true rfl) rfl rfl ?_
              refine g_goto (tgt := 35) h dX9_bestByMoves_158 (by decide) ?_
              rw [if_neg (by omega), if_pos (by omega), if_pos (by assumption)] at hrun2
              exact g_kn2 _ _ (by omega) (by omega) (ih (t + 1) (max S1 n) least _ _ (by omega) hID (by omega) (by omega) hle hrun2)
            · refine g_iload h dX9_bestByMoves_143 rfl ?_
              refine g_istore h dX9_bestByMoves_145 (Nat.le_of_ble_eq_true rfl) rfl rfl ?_
              refine g_aload_n h dX9_bestByMoves_147 rfl ?_
              refine g_aload_n h dX9_bestByMoves_148 rfl ?_
              refine g_getI h flX9_224 rfl (by assumption) dX9_bestByMoves_149 ?_
              rw [d4]
              refine g_callV h rfl (ci := 9) [_] (by assumption) (c_X9_keepTrial _ _ n hID.1) clX9_379 (by decide) rfl in_X9_keepTrial se_X9_keepTrial rfl rfl (by rw [hRm]; first | decide | (simp only [clS]; omega)) (by rw [hRm]; first | decide | (simp only [clS]; omega)) (fun _ => Nat.le_of_ble_eq_true rfl) (by rw [hRm]; first | decide | (simp only [clS]; omega)) (by rw [hRm]; first | decide | (simp only [clS]; omega)) dX9_bestByMoves_152 (fun r152 w152 hp152 => ?_)
              obtain ⟨rfl, hw152⟩ := hp152
              rw [hw152]
              change GG Γ _ _ [] (kpW (bmD u L S1 n q share (t : Int) least).2 n) _ _
              refine g_iinc h dX9_bestByMoves_155 rfl (Nat.le_of_ble_eq_true rfl) rfl rfl ?_
              refine g_goto (tgt := 35) h dX9_bestByMoves_158 (by decide) ?_
              rw [if_neg (by omega), if_pos (by omega), if_neg (by assumption)] at hrun2
              exact g_kn2 _ _ (by omega) (by omega) (ih (t + 1) (max S1 n) _ _ _ (by omega) (BI_kp (m := n) hID hL h56) (by omega) (by omega) ⟨by omega, by omega⟩ hrun2)
  have tries : ∀ (e i : Nat), i + e = n → GG Γ 6 [some (ar 0), some (ar (2 + L)), some (ai share), some (ai m), some (ai best), some (ai (((10 : Nat) ^ i : Nat) : Int)), some (ai (i : Int)), none, none] [] w 0 0 := by
    intro e
    induction e with
    | zero =>
      intro i hi
      obtain rfl : i = n := by omega
      have hp4 := hP.2.1
      refine g_iload h dX9_bestByMoves_6 rfl ?_
      refine g_aload_n h dX9_bestByMoves_8 rfl ?_
      refine g_getI h flX9_224 rfl (by assumption) dX9_bestByMoves_9 ?_
      rw [hp4]
      refine g_icmp_ge (tgt := 28) h dX9_bestByMoves_12 (by decide) (by first | assumption | exact ⟨by omega, by omega⟩) (by first | assumption | exact ⟨by omega, by omega⟩) (fun c12 => ?_) (fun c12 => ?_)
      · refine g_iload h dX9_bestByMoves_28 rfl ?_
        refine g_istore h dX9_bestByMoves_30 (Nat.le_of_ble_eq_true rfl) rfl rfl ?_
        refine g_iconst h dX9_bestByMoves_32 ?_
        refine g_istore h dX9_bestByMoves_33 (Nat.le_of_ble_eq_true rfl) rfl rfl ?_
        rw [hTe]
        exact g_kn2 _ _ (by omega) (by omega) (loop T 0 S best w none (by omega) hI (Nat.le_refl _) (Nat.le_max_left _ _) hb rfl)
      · exfalso; omega
    | succ e ih =>
      intro i hi
      have hp4 := hP.2.1
      have e10 : (((10 : Nat) ^ i : Nat) : Int) * 10 = (((10 : Nat) ^ (i + 1) : Nat) : Int) := by rw [Nat.pow_succ, Int.natCast_mul]; rfl
      refine g_iload h dX9_bestByMoves_6 rfl ?_
      refine g_aload_n h dX9_bestByMoves_8 rfl ?_
      refine g_getI h flX9_224 rfl (by assumption) dX9_bestByMoves_9 ?_
      rw [hp4]
      refine g_icmp_ge (tgt := 28) h dX9_bestByMoves_12 (by decide) (by first | assumption | exact ⟨by omega, by omega⟩) (by first | assumption | exact ⟨by omega, by omega⟩) (fun c12 => ?_) (fun c12 => ?_)
      · exfalso; omega
      · refine g_iload h dX9_bestByMoves_15 rfl ?_
        refine g_bipush h dX9_bestByMoves_17 rfl ?_
        refine g_imul h dX9_bestByMoves_19 ?_
        rw [e10]
        refine g_istore h dX9_bestByMoves_20 (Nat.le_of_ble_eq_true rfl) rfl rfl ?_
        refine g_iinc h dX9_bestByMoves_22 rfl (Nat.le_of_ble_eq_true rfl) rfl rfl ?_
        refine g_goto (tgt := 6) h dX9_bestByMoves_25 (by decide) ?_
        exact ih (i + 1) (by omega)
  refine g_iconst h dX9_bestByMoves_0 ?_
  refine g_istore h dX9_bestByMoves_1 (Nat.le_of_ble_eq_true rfl) rfl rfl ?_
  refine g_iconst h dX9_bestByMoves_3 ?_
  refine g_istore h dX9_bestByMoves_4 (Nat.le_of_ble_eq_true rfl) rfl rfl ?_
  exact tries n 0 (by omega)
