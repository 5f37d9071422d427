/-! ===== the class: names told, who may work and live ===== -/
theorem g_kn {Γ : Cx} {pc k n k' n' : Nat} {lo : List (Option AV)} {st : List AV} {w : AW} (hk : k = k') (hn : n = n') (kk : GG Γ pc lo st w k' n') : GG Γ pc lo st w k n := by subst hk; subst hn; exact kk
set_option maxRecDepth 100000 in
set_option maxHeartbeats 4000000 in
theorem c_X9_tellNames (l : Launch) (w : AW) (n : Nat → Nat) (q : Nat → Nat → Nat) (S rn sn : Nat) (L : Nat) (nr : Nat) (rp rc : Nat → Nat) (cl : Nat → List Int) (hi : Int) (hW : WI w n q S rn sn) (hL : L < 2) (hB : RBK w nr rp rc cl) (hH : HB w) (hhi : 0 ≤ hi ∧ hi ≤ 999) : HT l yX9_tellNames cX9_tellNames 5 none 6 (n L - S) (7 * (n L - S)) w [ar 0, ai (L : Int), ar (2 + L), ai hi] (fun r w' => r = none ∧ ∃ S', TN w w' L n q S S' rn sn nr cl hi) := by
  refine HT.of (by decide) (by intro v hv; simp only [List.mem_cons, List.not_mem_nil, or_false] at hv; rcases hv with rfl | rfl | rfl | rfl <;> rfl) (Nat.le_of_ble_eq_true rfl) ?_
  intro Γ h hQ hRm hnm hl hw0
  obtain ⟨hX, hS, hLk, hSI, t0, t1⟩ := id hW
  have s0 : w.1 0 = (109, 0) := hX.1 0 (by decide)
  have s20 : w.1 20 = (105, 0) := hX.1 20 (by decide)
  have p0_7 : w.2.2 0 7 = some 20 := hX.2 (0, 7, 20) (by decide)
  obtain ⟨hN, hP, hq5⟩ := hLk L hL
  obtain ⟨hrow, n5, n5', n6, n6', -⟩ := id hN
  have hft := ftF_bd (rn := rn) (sn := sn) hN 10 (Nat.le_refl _)
  have hrs := runS_bd (w := w) (q := q L) (n L) (fun j hj => (hP.2.2.1 j hj).2.2.2.2.2.2.2.2.2.2)
  have hn3 := hP.1
  have hds := dsF_bd w L rn 10
  have tail : ∀ (u : AW) (S' k2 : Nat) (x : Option AV), FSc w u S S' → S' ≤ max S (n L) → k2 ≤ n L - S → u.2.1 26 0 = ftF w L rn sn 10 → (nbs cl nr = true → ∃ v, FSc w v S S ∧ u.2.1 26 1 = bvF v L n q S) → -100000 ≤ u.2.1 26 1 ∧ u.2.1 26 1 ≤ 100000 →
      GG Γ 55 [some (ar 0), some (ai (L : Int)), some (ar (2 + L)), some (ai hi), x] [] u k2 (7 * k2) := by
    intro u S' k2 x hF hS2 hk2 e0 hnb hb1
    have hXu := hF.1
    have hWu := WI_fs hW hF
    obtain ⟨-, hSu, hLku, -⟩ := id hWu
    obtain ⟨hNu, hPu, -⟩ := hLku L hL
    have u0 : u.1 0 = (109, 0) := hXu.1 0 (by decide)
    have u20 : u.1 20 = (105, 0) := hXu.1 20 (by decide)
    have up7 : u.2.2 0 7 = some 20 := hXu.2 (0, 7, 20) (by decide)
    have hLKu := XS_LK hXu L (by omega)
    have uL := hLKu.2.1
    have eo : ∀ j, j < 56 → j ≠ 4 → j ≠ 7 → j ≠ 10 → j ≠ 13 → j ≠ 26 → j ≠ 27 → u.2.1 j = w.2.1 j := fun j h h4 h7 h10 h13 h26 h27 => hF.2.2.2.1 j ⟨h4, h7, h10, h13, Or.inl h⟩ h26 h27
    have e0u := eo 0 (by decide) (by decide) (by decide) (by decide) (by decide) (by decide) (by decide)
    have e29 := eo 29 (by decide) (by decide) (by decide) (by decide) (by decide) (by decide) (by decide)
    have e30 := eo 30 (by decide) (by decide) (by decide) (by decide) (by decide) (by decide) (by decide)
    have eL := eo (2 + L) (by omega) (by omega) (by omega) (by omega) (by omega) (by omega) (by omega)
    have eR : runS u (q L) (n L) = runS w (q L) (n L) := runS_congr (n L) (fun j hj => by
      have h5 := hq5 j hj
      have h50 := (hP.2.2.1 j hj).2.1
      exact eo (q L j) h5 (by omega) (by omega) (by omega) (by omega) (by omega) (by omega))
    refine g_aload_n h dX9_tellNames_55 rfl ?_
    refine g_getQ h flX9_38 rfl (by first | assumption | exact u0 | exact u20 | exact up7 | exact uL) (by first | assumption | exact u0 | exact u20 | exact up7 | exact uL) dX9_tellNames_56 ?_
    refine g_iconst h dX9_tellNames_59 ?_
    refine g_aload_n h dX9_tellNames_60 rfl ?_
    refine g_callV h rfl (ci := 2) [] (by first | assumption | exact u0 | exact u20 | exact up7 | exact uL) (c_X2_pipesRunning _ _ L (n L) (q L) hLKu hPu) clX9_391 (by decide) rfl in_X2_pipesRunning se_X2_pipesRunning rfl rfl (by rw [hRm]; first | decide | (simp only [clS]; omega)) (by rw [hRm]; first | decide | (simp only [clS]; omega)) (fun _ => Nat.le_of_ble_eq_true rfl) (by rw [hRm]; first | decide | (simp only [clS]; omega)) (by rw [hRm]; first | decide | (simp only [clS]; omega)) dX9_tellNames_61 (fun r61 w61 hp61 => ?_)
    obtain ⟨rfl, hw61⟩ := hp61
    rw [hw61]
    rw [eR]
    refine g_callV h rfl (ci := 5) [_, _] (by first | assumption | exact u0 | exact u20 | exact up7 | exact uL) (c_X5_tellName _ _ 2 _ (XS_of rfl rfl hXu) (by decide)) clX9_385 (by decide) rfl in_X5_tellName se_X5_tellName rfl rfl (by rw [hRm]; first | decide | (simp only [clS]; omega)) (by rw [hRm]; first | decide | (simp only [clS]; omega)) (fun _ => Nat.le_of_ble_eq_true rfl) (by rw [hRm]; first | decide | (simp only [clS]; omega)) (by rw [hRm]; first | decide | (simp only [clS]; omega)) dX9_tellNames_64 (fun r64 w64 hp64 => ?_)
    obtain ⟨rfl, hw64⟩ := hp64
    rw [hw64]
    refine g_aload_n h dX9_tellNames_67 rfl ?_
    refine g_getQ h flX9_38 rfl (by first | assumption | exact u0 | exact u20 | exact up7 | exact uL) (by first | assumption | exact u0 | exact u20 | exact up7 | exact uL) dX9_tellNames_68 ?_
    refine g_iconst h dX9_tellNames_71 ?_
    refine g_aload_n h dX9_tellNames_72 rfl ?_
    refine g_getI h flX9_394 rfl (by first | assumption | exact u0 | exact u20 | exact up7 | exact uL) dX9_tellNames_73 ?_
    rw [upI_o _ _ _ (show 2 + L ≠ 26 by omega), eL]
    refine g_callV h rfl (ci := 5) [_, _] (by first | assumption | exact u0 | exact u20 | exact up7 | exact uL) (c_X5_tellName _ _ 3 _ (XS_of rfl rfl hXu) (by decide)) clX9_385 (by decide) rfl in_X5_tellName se_X5_tellName rfl rfl (by rw [hRm]; first | decide | (simp only [clS]; omega)) (by rw [hRm]; first | decide | (simp only [clS]; omega)) (fun _ => Nat.le_of_ble_eq_true rfl) (by rw [hRm]; first | decide | (simp only [clS]; omega)) (by rw [hRm]; first | decide | (simp only [clS]; omega)) dX9_tellNames_76 (fun r76 w76 hp76 => ?_)
    obtain ⟨rfl, hw76⟩ := hp76
    rw [hw76]
    refine g_aload_n h dX9_tellNames_79 rfl ?_
    refine g_getQ h flX9_38 rfl (by first | assumption | exact u0 | exact u20 | exact up7 | exact uL) (by first | assumption | exact u0 | exact u20 | exact up7 | exact uL) dX9_tellNames_80 ?_
    refine g_iconst h dX9_tellNames_83 ?_
    refine g_aload_n h dX9_tellNames_84 rfl ?_
    refine g_iload_n h dX9_tellNames_85 rfl ?_
    refine g_callV h rfl (ci := 9) [_] (by first | assumption | exact u0 | exact u20 | exact up7 | exact uL) (c_X9_deadStrings _ _ n q S' rn sn L (WI_fs hW (FSc_26 _ _ (FSc_26 _ _ hF))) hL) clX9_397 (by decide) rfl in_X9_deadStrings se_X9_deadStrings rfl rfl (by rw [hRm]; first | decide | (simp only [clS]; omega)) (by rw [hRm]; first | decide | (simp only [clS]; omega)) (fun _ => Nat.le_of_ble_eq_true rfl) (by rw [hRm]; first | decide | (simp only [clS]; omega)) (by rw [hRm]; first | decide | (simp only [clS]; omega)) dX9_tellNames_86 (fun r86 w86 hp86 => ?_)
    obtain ⟨rfl, hw86⟩ := hp86
    rw [hw86]
    rw [dsF_congr (u := (upI (upI u 26 2 (runS w (q L) (n L))) 26 3 (w.2.1 (2 + L) 6))) (w := w) (((upI_o _ _ _ (by decide)).trans (upI_o _ _ _ (by decide))).trans e29) (((upI_o _ _ _ (by decide)).trans (upI_o _ _ _ (by decide))).trans e30) ((congrFun ((upI_o _ _ _ (by decide)).trans (upI_o _ _ _ (by decide))) 13).trans (congrFun e0u 13)) 10]
    refine g_callV h rfl (ci := 5) [_, _] (by first | assumption | exact u0 | exact u20 | exact up7 | exact uL) (c_X5_tellName _ _ 4 _ (XS_of rfl rfl hXu) (by decide)) clX9_385 (by decide) rfl in_X5_tellName se_X5_tellName rfl rfl (by rw [hRm]; first | decide | (simp only [clS]; omega)) (by rw [hRm]; first | decide | (simp only [clS]; omega)) (fun _ => Nat.le_of_ble_eq_true rfl) (by rw [hRm]; first | decide | (simp only [clS]; omega)) (by rw [hRm]; first | decide | (simp only [clS]; omega)) dX9_tellNames_89 (fun r89 w89 hp89 => ?_)
    obtain ⟨rfl, hw89⟩ := hp89
    rw [hw89]
    refine g_aload_n h dX9_tellNames_92 rfl ?_
    refine g_getQ h flX9_38 rfl (by first | assumption | exact u0 | exact u20 | exact up7 | exact uL) (by first | assumption | exact u0 | exact u20 | exact up7 | exact uL) dX9_tellNames_93 ?_
    refine g_iconst h dX9_tellNames_96 ?_
    refine g_aload_n h dX9_tellNames_97 rfl ?_
    refine g_getI h flX9_267 rfl (by first | assumption | exact u0 | exact u20 | exact up7 | exact uL) dX9_tellNames_98 ?_
    rw [upI_o _ _ _ (show (0 : Nat) ≠ 26 by decide), upI_o _ _ _ (show (0 : Nat) ≠ 26 by decide), upI_o _ _ _ (show (0 : Nat) ≠ 26 by decide), e0u]
    refine g_callV h rfl (ci := 5) [_, _] (by first | assumption | exact u0 | exact u20 | exact up7 | exact uL) (c_X5_tellName _ _ 5 _ (XS_of rfl rfl hXu) (by decide)) clX9_385 (by decide) rfl in_X5_tellName se_X5_tellName rfl rfl (by rw [hRm]; first | decide | (simp only [clS]; omega)) (by rw [hRm]; first | decide | (simp only [clS]; omega)) (fun _ => Nat.le_of_ble_eq_true rfl) (by rw [hRm]; first | decide | (simp only [clS]; omega)) (by rw [hRm]; first | decide | (simp only [clS]; omega)) dX9_tellNames_101 (fun r101 w101 hp101 => ?_)
    obtain ⟨rfl, hw101⟩ := hp101
    rw [hw101]
    refine g_aload_n h dX9_tellNames_104 rfl ?_
    refine g_getQ h flX9_38 rfl (by first | assumption | exact u0 | exact u20 | exact up7 | exact uL) (by first | assumption | exact u0 | exact u20 | exact up7 | exact uL) dX9_tellNames_105 ?_
    refine g_bipush h dX9_tellNames_108 rfl ?_
    refine g_iload_n h dX9_tellNames_110 rfl ?_
    refine g_callV h rfl (ci := 5) [_, _] (by first | assumption | exact u0 | exact u20 | exact up7 | exact uL) (c_X5_tellName _ _ 6 _ (XS_of rfl rfl hXu) (by decide)) clX9_385 (by decide) rfl in_X5_tellName se_X5_tellName rfl rfl (by rw [hRm]; first | decide | (simp only [clS]; omega)) (by rw [hRm]; first | decide | (simp only [clS]; omega)) (fun _ => Nat.le_of_ble_eq_true rfl) (by rw [hRm]; first | decide | (simp only [clS]; omega)) (by rw [hRm]; first | decide | (simp only [clS]; omega)) dX9_tellNames_111 (fun r111 w111 hp111 => ?_)
    obtain ⟨rfl, hw111⟩ := hp111
    rw [hw111]
    refine g_aload_n h dX9_tellNames_114 rfl ?_
    refine g_getQ h flX9_38 rfl (by first | assumption | exact u0 | exact u20 | exact up7 | exact uL) (by first | assumption | exact u0 | exact u20 | exact up7 | exact uL) dX9_tellNames_115 ?_
    refine g_bipush h dX9_tellNames_118 rfl ?_
    refine g_aload_n h dX9_tellNames_120 rfl ?_
    refine g_getI h flX9_121 rfl (by first | assumption | exact u0 | exact u20 | exact up7 | exact uL) dX9_tellNames_121 ?_
    rw [upI_o _ _ _ (show (0 : Nat) ≠ 26 by decide), upI_o _ _ _ (show (0 : Nat) ≠ 26 by decide), upI_o _ _ _ (show (0 : Nat) ≠ 26 by decide), upI_o _ _ _ (show (0 : Nat) ≠ 26 by decide), upI_o _ _ _ (show (0 : Nat) ≠ 26 by decide), e0u]
    refine g_callV h rfl (ci := 5) [_, _] (by first | assumption | exact u0 | exact u20 | exact up7 | exact uL) (c_X5_tellName _ _ 7 _ (XS_of rfl rfl hXu) (by decide)) clX9_385 (by decide) rfl in_X5_tellName se_X5_tellName rfl rfl (by rw [hRm]; first | decide | (simp only [clS]; omega)) (by rw [hRm]; first | decide | (simp only [clS]; omega)) (fun _ => Nat.le_of_ble_eq_true rfl) (by rw [hRm]; first | decide | (simp only [clS]; omega)) (by rw [hRm]; first | decide | (simp only [clS]; omega)) dX9_tellNames_124 (fun r124 w124 hp124 => ?_)
    obtain ⟨rfl, hw124⟩ := hp124
    rw [hw124]
    refine g_aload_n h dX9_tellNames_127 rfl ?_
    refine g_getQ h flX9_38 rfl (by first | assumption | exact u0 | exact u20 | exact up7 | exact uL) (by first | assumption | exact u0 | exact u20 | exact up7 | exact uL) dX9_tellNames_128 ?_
    refine g_bipush h dX9_tellNames_131 rfl ?_
    refine g_iload_n h dX9_tellNames_133 rfl ?_
    refine g_callV h rfl (ci := 5) [_, _] (by first | assumption | exact u0 | exact u20 | exact up7 | exact uL) (c_X5_tellName _ _ 8 _ (XS_of rfl rfl hXu) (by decide)) clX9_385 (by decide) rfl in_X5_tellName se_X5_tellName rfl rfl (by rw [hRm]; first | decide | (simp only [clS]; omega)) (by rw [hRm]; first | decide | (simp only [clS]; omega)) (fun _ => Nat.le_of_ble_eq_true rfl) (by rw [hRm]; first | decide | (simp only [clS]; omega)) (by rw [hRm]; first | decide | (simp only [clS]; omega)) dX9_tellNames_134 (fun r134 w134 hp134 => ?_)
    obtain ⟨rfl, hw134⟩ := hp134
    rw [hw134]
    refine g_vret h hQ (by first | decide | omega | (simp only [clS]; omega)) (by first | decide | omega | (simp only [clS]; omega)) ?_ dX9_tellNames_137
    have ev : (upI (upI (upI (upI (upI (upI (upI u 26 2 (runS w (q L) (n L))) 26 3 (w.2.1 (2 + L) 6)) 26 4 (dsF w L rn 10)) 26 5 (w.2.1 0 8)) 26 6 (L : Int)) 26 7 (w.2.1 0 13)) 26 8 hi).2.1 26 = uI (uI (uI (uI (uI (uI (uI (u.2.1 26) 2 (runS w (q L) (n L))) 3 (w.2.1 (2 + L) 6)) 4 (dsF w L rn 10)) 5 (w.2.1 0 8)) 6 (L : Int)) 7 (w.2.1 0 13)) 8 hi := by simp only [upI_sR, sR_at]
    have hnm : ∀ a, a < 9 → a ≠ 1 → (upI (upI (upI (upI (upI (upI (upI u 26 2 (runS w (q L) (n L))) 26 3 (w.2.1 (2 + L) 6)) 26 4 (dsF w L rn 10)) 26 5 (w.2.1 0 8)) 26 6 (L : Int)) 26 7 (w.2.1 0 13)) 26 8 hi).2.1 26 a = nmF w L n q rn sn hi a := by
      intro a ha h1
      rw [ev]
      rcases (show a = 0 ∨ a = 2 ∨ a = 3 ∨ a = 4 ∨ a = 5 ∨ a = 6 ∨ a = 7 ∨ a = 8 by omega) with rfl | rfl | rfl | rfl | rfl | rfl | rfl | rfl <;> simp [uI, nmF, e0]
    have h1 : (upI (upI (upI (upI (upI (upI (upI u 26 2 (runS w (q L) (n L))) 26 3 (w.2.1 (2 + L) 6)) 26 4 (dsF w L rn 10)) 26 5 (w.2.1 0 8)) 26 6 (L : Int)) 26 7 (w.2.1 0 13)) 26 8 hi).2.1 26 1 = u.2.1 26 1 := by
      rw [ev]
      simp [uI]
    refine ⟨rfl, S', FSc_26 _ _ (FSc_26 _ _ (FSc_26 _ _ (FSc_26 _ _ (FSc_26 _ _ (FSc_26 _ _ (FSc_26 _ _ hF)))))), hS2, hnm, ?_, ?_⟩
    · rw [h1]
      exact hnb
    · intro a ha
      by_cases ha1 : a = 1
      · subst ha1
        rw [h1]
        exact hb1
      · rw [hnm a ha ha1]
        have hh := hH.2
        unfold nmF
        repeat' split
        all_goals omega
  have hX1 : XS (upI w 26 0 (ftF w L rn sn 10)) := XS_of rfl rfl hX
  have hF1 : FSc w (upI w 26 0 (ftF w L rn sn 10)) S S := FSc_26 _ _ (FSc.refl hX hS)
  have hW1 := WI_fs hW hF1
  obtain ⟨-, hS1, hLk1, -⟩ := id hW1
  obtain ⟨hN1, hP1, hq51⟩ := hLk1 L hL
  have hB1 := RBK_fs hB hF1
  refine g_aload_n h dX9_tellNames_0 rfl ?_
  refine g_getQ h flX9_38 rfl (by first | assumption | exact v0 | exact v20 | exact vp | exact d0 | exact d20 | exact dp) (by first | assumption | exact v0 | exact v20 | exact vp | exact d0 | exact d20 | exact dp) dX9_tellNames_1 ?_
  refine g_iconst h dX9_tellNames_4 ?_
  refine g_aload_n h dX9_tellNames_5 rfl ?_
  refine g_iload_n h dX9_tellNames_6 rfl ?_
  refine g_aload_n h dX9_tellNames_7 rfl ?_
  refine g_callV h rfl (ci := 9) [_, _] (by first | assumption | exact v0 | exact v20 | exact vp | exact d0 | exact d20 | exact dp) (c_X9_fullTold _ _ n q S rn sn L hW hL) clX9_132 (by decide) rfl in_X9_fullTold se_X9_fullTold rfl rfl (by rw [hRm]; first | decide | (simp only [clS]; omega)) (by rw [hRm]; first | decide | (simp only [clS]; omega)) (fun _ => Nat.le_of_ble_eq_true rfl) (by rw [hRm]; first | decide | (simp only [clS]; omega)) (by rw [hRm]; first | decide | (simp only [clS]; omega)) dX9_tellNames_8 (fun r8 w8 hp8 => ?_)
  obtain ⟨rfl, hw8⟩ := hp8
  rw [hw8]
  refine g_callV h rfl (ci := 5) [_, _] (by first | assumption | exact v0 | exact v20 | exact vp | exact d0 | exact d20 | exact dp) (c_X5_tellName _ _ 0 _ hX (by decide)) clX9_385 (by decide) rfl in_X5_tellName se_X5_tellName rfl rfl (by rw [hRm]; first | decide | (simp only [clS]; omega)) (by rw [hRm]; first | decide | (simp only [clS]; omega)) (fun _ => Nat.le_of_ble_eq_true rfl) (by rw [hRm]; first | decide | (simp only [clS]; omega)) (by rw [hRm]; first | decide | (simp only [clS]; omega)) dX9_tellNames_11 (fun r11 w11 hp11 => ?_)
  obtain ⟨rfl, hw11⟩ := hp11
  rw [hw11]
  refine g_aload_n h dX9_tellNames_14 rfl ?_
  refine g_getQ h flX9_38 rfl (by first | assumption | exact v0 | exact v20 | exact vp | exact d0 | exact d20 | exact dp) (by first | assumption | exact v0 | exact v20 | exact vp | exact d0 | exact d20 | exact dp) dX9_tellNames_15 ?_
  refine g_iconst h dX9_tellNames_18 ?_
  refine g_callV h rfl (ci := 5) [_] (by first | assumption | exact v0 | exact v20 | exact vp | exact d0 | exact d20 | exact dp) (c_X5_names _ _ nr rp rc cl 1 hX1 hB1 ⟨by decide, by decide⟩) clX9_388 (by decide) rfl in_X5_names se_X5_names rfl rfl (by rw [hRm]; first | decide | (simp only [clS]; omega)) (by rw [hRm]; first | decide | (simp only [clS]; omega)) (fun _ => Nat.le_of_ble_eq_true rfl) (by rw [hRm]; first | decide | (simp only [clS]; omega)) (by rw [hRm]; first | decide | (simp only [clS]; omega)) dX9_tellNames_19 (fun r19 w19 hp19 => ?_)
  obtain ⟨rfl, hF19⟩ := hp19
  have hFS := hF1.trans (FSc_F1 hF1.1 hF1.2.1 (Or.inr rfl) hF19)
  have hbw19 := b01_01 (nbs cl nr)
  change GG Γ _ _ [ai (b01 (nbs cl nr))] w19 _ _
  have hX2 := hFS.1
  have hW2 := WI_fs hW hFS
  obtain ⟨-, hS2, hLk2, -⟩ := id hW2
  obtain ⟨hN2, hP2, hq52⟩ := hLk2 L hL
  have v0 : w19.1 0 = (109, 0) := hX2.1 0 (by decide)
  have v20 : w19.1 20 = (105, 0) := hX2.1 20 (by decide)
  have vp : w19.2.2 0 7 = some 20 := hX2.2 (0, 7, 20) (by decide)
  have e26 : w19.2.1 26 = (upI w 26 0 (ftF w L rn sn 10)).2.1 26 := hF19.2.2 26 (by decide)
  have e260 : w19.2.1 26 0 = (ftF w L rn sn 10) := by rw [e26]; exact upI_self _ _ _ _
  have e261 : w19.2.1 26 1 = w.2.1 26 1 := by rw [e26, upI_at]; exact if_neg (by decide)
  refine g_if_eq (tgt := 55) h dX9_tellNames_22 (by decide) (by first | assumption | exact ⟨by omega, by omega⟩) (fun c22 => ?_) (fun c22 => ?_)
  · refine g_kn (k' := 0) (n' := 7 * 0) (by omega) (by omega) (tail w19 S 0 _ hFS (Nat.le_max_left _ _) (Nat.zero_le _) e260 (fun q => absurd q (b01_ze (by assumption))) ?_)
    rw [e261]
    exact hH.1 1 (by decide)
  · refine g_aload_n h dX9_tellNames_25 rfl ?_
    refine g_aload_n h dX9_tellNames_26 rfl ?_
    refine g_callV h rfl (ci := 9) [_] (by first | assumption | exact v0 | exact v20 | exact vp | exact d0 | exact d20 | exact dp) (c_X9_daysToBurst _ _ L S (n L) (q L) hX2 hL hN2 hP2 hq52 hS2) clX9_158 (by decide) rfl in_X9_daysToBurst se_X9_daysToBurst rfl rfl (by rw [hRm]; first | decide | (simp only [clS]; omega)) (by rw [hRm]; first | decide | (simp only [clS]; omega)) (fun _ => Nat.le_of_ble_eq_true rfl) (by rw [hRm]; first | decide | (simp only [clS]; omega)) (by rw [hRm]; first | decide | (simp only [clS]; omega)) dX9_tellNames_27 (fun r27 w27 hp27 => ?_)
    obtain ⟨rfl, hw27⟩ := hp27
    rw [hw27]
    change GG Γ _ _ [ai (dbF (n L) 365 1 (spW w19 n q S L)).1] (dbF (n L) 365 1 (spW w19 n q S L)).2 _ _
    have hbd := dbF_bd (n := n L) 365 1 (spW w19 n q S L) (Int.le_refl _)
    have hFd := FSc_db hn3 (FSc_spW hW2 hL).1 (FSc_spW hW2 hL).2.1 365 1
    have hFD := (hFS.trans (FSc_spW hW2 hL)).trans hFd
    have hXd := hFd.1
    have d0 : (dbF (n L) 365 1 (spW w19 n q S L)).2.1 0 = (109, 0) := hXd.1 0 (by decide)
    have d20 : (dbF (n L) 365 1 (spW w19 n q S L)).2.1 20 = (105, 0) := hXd.1 20 (by decide)
    have dp : (dbF (n L) 365 1 (spW w19 n q S L)).2.2.2 0 7 = some 20 := hXd.2 (0, 7, 20) (by decide)
    have d26 : (dbF (n L) 365 1 (spW w19 n q S L)).2.2.1 26 = w19.2.1 26 := (dbF_s hn3 (show noS 26 from ⟨by decide, by decide, by decide, by decide, by decide⟩) 365 1 _).1.trans (bcP_s hn3 (show noS 26 from ⟨by decide, by decide, by decide, by decide, by decide⟩)).1
    refine g_istore h dX9_tellNames_30 (Nat.le_of_ble_eq_true rfl) rfl rfl ?_
    refine g_aload_n h dX9_tellNames_32 rfl ?_
    refine g_getQ h flX9_38 rfl (by first | assumption | exact v0 | exact v20 | exact vp | exact d0 | exact d20 | exact dp) (by first | assumption | exact v0 | exact v20 | exact vp | exact d0 | exact d20 | exact dp) dX9_tellNames_33 ?_
    refine g_iconst h dX9_tellNames_36 ?_
    refine g_iload h dX9_tellNames_37 rfl ?_
    refine g_bipush h dX9_tellNames_39 rfl ?_
    refine g_icmp_ne (tgt := 50) h dX9_tellNames_41 (by decide) (by first | assumption | exact ⟨by omega, by omega⟩) (by first | assumption | exact ⟨by omega, by omega⟩) (fun c41 => ?_) (fun c41 => ?_)
    · refine g_iload h dX9_tellNames_50 rfl ?_
      refine g_callV h rfl (ci := 5) [_, _] (by first | assumption | exact v0 | exact v20 | exact vp | exact d0 | exact d20 | exact dp) (c_X5_tellName _ _ 1 _ hXd (by decide)) clX9_385 (by decide) rfl in_X5_tellName se_X5_tellName rfl rfl (by rw [hRm]; first | decide | (simp only [clS]; omega)) (by rw [hRm]; first | decide | (simp only [clS]; omega)) (fun _ => Nat.le_of_ble_eq_true rfl) (by rw [hRm]; first | decide | (simp only [clS]; omega)) (by rw [hRm]; first | decide | (simp only [clS]; omega)) dX9_tellNames_52 (fun r52 w52 hp52 => ?_)
      obtain ⟨rfl, hw52⟩ := hp52
      rw [hw52]
      refine g_kn (k' := n L - S) (n' := 7 * (n L - S)) (by omega) (by omega) (tail _ (max S (n L)) (n L - S) _ (FSc_26 _ _ hFD) (Nat.le_refl _) (Nat.le_refl _) ?_ (fun _ => ⟨w19, hFS, ?_⟩) ?_)
      · rw [upI_at]
        show (dbF (n L) 365 1 (spW w19 n q S L)).2.2.1 26 0 = _
        rw [d26]
        exact e260
      · rw [upI_self]
        unfold bvF
        first | rw [if_pos (by omega)] | rw [if_neg (by omega)]
      · rw [upI_self]
        omega
    · refine g_sipush h dX9_tellNames_44 rfl ?_
      refine g_goto (tgt := 52) h dX9_tellNames_47 (by decide) ?_
      refine g_callV h rfl (ci := 5) [_, _] (by first | assumption | exact v0 | exact v20 | exact vp | exact d0 | exact d20 | exact dp) (c_X5_tellName _ _ 1 _ hXd (by decide)) clX9_385 (by decide) rfl in_X5_tellName se_X5_tellName rfl rfl (by rw [hRm]; first | decide | (simp only [clS]; omega)) (by rw [hRm]; first | decide | (simp only [clS]; omega)) (fun _ => Nat.le_of_ble_eq_true rfl) (by rw [hRm]; first | decide | (simp only [clS]; omega)) (by rw [hRm]; first | decide | (simp only [clS]; omega)) dX9_tellNames_52 (fun r52 w52 hp52 => ?_)
      obtain ⟨rfl, hw52⟩ := hp52
      rw [hw52]
      refine g_kn (k' := n L - S) (n' := 7 * (n L - S)) (by omega) (by omega) (tail _ (max S (n L)) (n L - S) _ (FSc_26 _ _ hFD) (Nat.le_refl _) (Nat.le_refl _) ?_ (fun _ => ⟨w19, hFS, ?_⟩) ?_)
      · rw [upI_at]
        show (dbF (n L) 365 1 (spW w19 n q S L)).2.2.1 26 0 = _
        rw [d26]
        exact e260
      · rw [upI_self]
        unfold bvF
        first | rw [if_pos (by omega)] | rw [if_neg (by omega)]
      · rw [upI_self]
        omega
