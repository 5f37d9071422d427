/-! ===== the class: the crew, the folk ===== -/
def lwF (w : AW) (rp : Nat → Nat) (cl : Nat → List Int) (nr : Nat) : Bool := allB (rlN w rp cl 1) nr && !anyB (rlT w rp cl 2) nr
theorem TN_HB {w v : AW} {L S S' rn sn nr : Nat} {n : Nat → Nat} {q : Nat → Nat → Nat} {cl : Nat → List Int} {hi : Int} (h : TN w v L n q S S' rn sn nr cl hi) (hH : HB w) : HB v := by
  obtain ⟨hF, -, -, -, hb⟩ := h
  refine ⟨hb, ?_⟩
  rw [hF.2.2.2.1 0 ⟨by decide, by decide, by decide, by decide, by decide⟩ (by decide) (by decide)]
  exact hH.2
theorem HB_27 {w v : AW} (h : F1 27 w v) (hH : HB w) : HB v := by
  unfold HB
  rw [h.2.2 26 (by decide), h.2.2 0 (by decide)]
  exact hH
/-- what the crew is told -/
def CGo (w v : AW) (L : Nat) (n : Nat → Nat) (q : Nat → Nat → Nat) (S S' rn sn nr : Nat) (rp : Nat → Nat) (cl : Nat → List Int) (b : Bool) : Prop :=
  FSc w v S S' ∧ S' ≤ max S (n L) ∧ HB v ∧ (¬ (w.2.1 0 14 = -2 ∨ w.2.1 0 14 = (L : Int)) → b = false) ∧ (w.2.1 0 14 = -2 ∨ w.2.1 0 14 = (L : Int) → ∃ u, TN w u L n q S S' rn sn nr cl 0 ∧ b = lwF u rp cl nr)
/-- what folk are told of a height -/
def FMo (w v : AW) (n : Nat → Nat) (q : Nat → Nat → Nat) (S S' rn sn nr : Nat) (rp : Nat → Nat) (cl : Nat → List Int) (hi : Int) (b : Bool) : Prop :=
  FSc w v S S' ∧ HB v ∧ ∃ u0 S0, TN w u0 0 n q S S0 rn sn nr cl hi ∧ ((allB (rlN u0 rp cl 3) nr = false ∧ b = false) ∨ (allB (rlN u0 rp cl 3) nr = true ∧ ∃ w1 u1, FSc w w1 S S0 ∧ TN w1 u1 1 n q S0 S' rn sn nr cl hi ∧ b = allB (rlN u1 rp cl 3) nr))
theorem g_kn2 {Γ : Cx} {pc k n : Nat} {lo : List (Option AV)} {st : List AV} {w : AW} (k' n' : Nat) (hk : k ≤ k') (hn : n ≤ n') (kk : GG Γ pc lo st w k' n') : GG Γ pc lo st w k n := fun ad ls H locs hR hl ho hs hL hX => W.widen hk hn (kk ad ls H locs hR hl ho hs hL hX)
set_option maxRecDepth 100000 in
set_option maxHeartbeats 4000000 in
theorem c_X9_crewMayGo (l : Launch) (w : AW) (n : Nat → Nat) (q : Nat → Nat → Nat) (S rn sn : Nat) (L : Nat) (nr : Nat) (rp rc : Nat → Nat) (cl : Nat → List Int) (hW : WI w n q S rn sn) (hL : L < 2) (hB : RBK w nr rp rc cl) (hH : HB w) (hcr : -2 ≤ w.2.1 0 14 ∧ w.2.1 0 14 ≤ 2) : HT l yX9_crewMayGo cX9_crewMayGo 3 (some .boolean) 7 (n L - S) (7 * (n L - S)) w [ar 0, ai (L : Int), ar (2 + L)] (fun r w' => ∃ S' b, r = some (ai (b01 b)) ∧ CGo w w' L n q S S' rn sn nr rp cl b) := by
  refine HT.of (by decide) (by intro v hv; simp only [List.mem_cons, List.not_mem_nil, or_false] at hv; rcases hv with rfl | rfl | rfl <;> rfl) (Nat.le_of_ble_eq_true rfl) ?_
  intro Γ h hQ hRm hnm hl hw0
  obtain ⟨hX, hS, hLk, hSI, t0, t1⟩ := id hW
  have s0 : w.1 0 = (109, 0) := hX.1 0 (by decide)
  have s20 : w.1 20 = (105, 0) := hX.1 20 (by decide)
  have p0_7 : w.2.2 0 7 = some 20 := hX.2 (0, 7, 20) (by decide)
  refine g_aload_n h dX9_crewMayGo_0 rfl ?_
  refine g_getI h flX9_62 rfl (by first | assumption | exact v0 | exact v20 | exact vp) dX9_crewMayGo_1 ?_
  refine g_bipush h dX9_crewMayGo_4 rfl ?_
  refine g_icmp_eq (tgt := 19) h dX9_crewMayGo_6 (by decide) (by first | assumption | exact ⟨by omega, by omega⟩) (by first | assumption | exact ⟨by omega, by omega⟩) (fun c6 => ?_) (fun c6 => ?_)
  · refine g_aload_n h dX9_crewMayGo_19 rfl ?_
    refine g_iload_n h dX9_crewMayGo_20 rfl ?_
    refine g_aload_n h dX9_crewMayGo_21 rfl ?_
    refine g_iconst h dX9_crewMayGo_22 ?_
    refine g_callV h rfl (ci := 9) [_, _, _] (by first | assumption | exact v0 | exact v20 | exact vp) (c_X9_tellNames _ _ n q S rn sn L nr rp rc cl 0 hW hL hB hH ⟨by decide, by decide⟩) clX9_270 (by decide) rfl in_X9_tellNames se_X9_tellNames rfl rfl (by rw [hRm]; first | decide | (simp only [clS]; omega)) (by rw [hRm]; first | decide | (simp only [clS]; omega)) (fun _ => Nat.le_of_ble_eq_true rfl) (by rw [hRm]; first | decide | (simp only [clS]; omega)) (by rw [hRm]; first | decide | (simp only [clS]; omega)) dX9_crewMayGo_23 (fun r23 w23 hp23 => ?_)
    obtain ⟨rfl, S', hTN⟩ := hp23
    have hHv := TN_HB hTN hH
    have hFv := hTN.1
    have hXv := hFv.1
    have hBv := RBK_fs hB hFv
    have v0 : w23.1 0 = (109, 0) := hXv.1 0 (by decide)
    have v20 : w23.1 20 = (105, 0) := hXv.1 20 (by decide)
    have vp : w23.2.2 0 7 = some 20 := hXv.2 (0, 7, 20) (by decide)
    refine g_aload_n h dX9_crewMayGo_26 rfl ?_
    refine g_getQ h flX9_38 rfl (by first | assumption | exact v0 | exact v20 | exact vp) (by first | assumption | exact v0 | exact v20 | exact vp) dX9_crewMayGo_27 ?_
    refine g_callV h rfl (ci := 5) [] (by first | assumption | exact v0 | exact v20 | exact vp) (c_X5_letsWork _ _ nr rp rc cl hXv hBv hHv.1) clX9_274 (by decide) rfl in_X5_letsWork se_X5_letsWork rfl rfl (by rw [hRm]; first | decide | (simp only [clS]; omega)) (by rw [hRm]; first | decide | (simp only [clS]; omega)) (fun _ => Nat.le_of_ble_eq_true rfl) (by rw [hRm]; first | decide | (simp only [clS]; omega)) (by rw [hRm]; first | decide | (simp only [clS]; omega)) dX9_crewMayGo_30 (fun r30 w30 hp30 => ?_)
    obtain ⟨rfl, hF9⟩ := hp30
    have hFw := hFv.trans (FSc_F1 hXv hFv.2.1 (Or.inr rfl) hF9)
    have hHw := HB_27 hF9 hHv
    have hb9 := b01_01 (lwF w23 rp cl nr)
    change GG Γ _ _ [ai (b01 (lwF w23 rp cl nr))] w30 _ _
    refine g_zret h hQ (by first | decide | omega | (simp only [clS]; omega)) (by first | decide | omega | (simp only [clS]; omega)) (by omega) ?_ dX9_crewMayGo_33
    exact ⟨S', lwF w23 rp cl nr, rfl, hFw, hTN.2.1, hHw, fun q => by omega, fun _ => ⟨w23, hTN, rfl⟩⟩
  · refine g_aload_n h dX9_crewMayGo_9 rfl ?_
    refine g_getI h flX9_62 rfl (by first | assumption | exact v0 | exact v20 | exact vp) dX9_crewMayGo_10 ?_
    refine g_iload_n h dX9_crewMayGo_13 rfl ?_
    refine g_icmp_eq (tgt := 19) h dX9_crewMayGo_14 (by decide) (by first | assumption | exact ⟨by omega, by omega⟩) (by first | assumption | exact ⟨by omega, by omega⟩) (fun c14 => ?_) (fun c14 => ?_)
    · refine g_aload_n h dX9_crewMayGo_19 rfl ?_
      refine g_iload_n h dX9_crewMayGo_20 rfl ?_
      refine g_aload_n h dX9_crewMayGo_21 rfl ?_
      refine g_iconst h dX9_crewMayGo_22 ?_
      refine g_callV h rfl (ci := 9) [_, _, _] (by first | assumption | exact v0 | exact v20 | exact vp) (c_X9_tellNames _ _ n q S rn sn L nr rp rc cl 0 hW hL hB hH ⟨by decide, by decide⟩) clX9_270 (by decide) rfl in_X9_tellNames se_X9_tellNames rfl rfl (by rw [hRm]; first | decide | (simp only [clS]; omega)) (by rw [hRm]; first | decide | (simp only [clS]; omega)) (fun _ => Nat.le_of_ble_eq_true rfl) (by rw [hRm]; first | decide | (simp only [clS]; omega)) (by rw [hRm]; first | decide | (simp only [clS]; omega)) dX9_crewMayGo_23 (fun r23 w23 hp23 => ?_)
      obtain ⟨rfl, S', hTN⟩ := hp23
      have hHv := TN_HB hTN hH
      have hFv := hTN.1
      have hXv := hFv.1
      have hBv := RBK_fs hB hFv
      have v0 : w23.1 0 = (109, 0) := hXv.1 0 (by decide)
      have v20 : w23.1 20 = (105, 0) := hXv.1 20 (by decide)
      have vp : w23.2.2 0 7 = some 20 := hXv.2 (0, 7, 20) (by decide)
      refine g_aload_n h dX9_crewMayGo_26 rfl ?_
      refine g_getQ h flX9_38 rfl (by first | assumption | exact v0 | exact v20 | exact vp) (by first | assumption | exact v0 | exact v20 | exact vp) dX9_crewMayGo_27 ?_
      refine g_callV h rfl (ci := 5) [] (by first | assumption | exact v0 | exact v20 | exact vp) (c_X5_letsWork _ _ nr rp rc cl hXv hBv hHv.1) clX9_274 (by decide) rfl in_X5_letsWork se_X5_letsWork rfl rfl (by rw [hRm]; first | decide | (simp only [clS]; omega)) (by rw [hRm]; first | decide | (simp only [clS]; omega)) (fun _ => Nat.le_of_ble_eq_true rfl) (by rw [hRm]; first | decide | (simp only [clS]; omega)) (by rw [hRm]; first | decide | (simp only [clS]; omega)) dX9_crewMayGo_30 (fun r30 w30 hp30 => ?_)
      obtain ⟨rfl, hF9⟩ := hp30
      have hFw := hFv.trans (FSc_F1 hXv hFv.2.1 (Or.inr rfl) hF9)
      have hHw := HB_27 hF9 hHv
      have hb9 := b01_01 (lwF w23 rp cl nr)
      change GG Γ _ _ [ai (b01 (lwF w23 rp cl nr))] w30 _ _
      refine g_zret h hQ (by first | decide | omega | (simp only [clS]; omega)) (by first | decide | omega | (simp only [clS]; omega)) (by omega) ?_ dX9_crewMayGo_33
      exact ⟨S', lwF w23 rp cl nr, rfl, hFw, hTN.2.1, hHw, fun q => by omega, fun _ => ⟨w23, hTN, rfl⟩⟩
    · refine g_iconst h dX9_crewMayGo_17 ?_
      refine g_zret h hQ (by first | decide | omega | (simp only [clS]; omega)) (by first | decide | omega | (simp only [clS]; omega)) (by omega) ?_ dX9_crewMayGo_18
      exact ⟨S, false, rfl, FSc.refl hX hS, Nat.le_max_left _ _, hH, fun _ => rfl, fun q => by omega⟩
set_option maxRecDepth 100000 in
set_option maxHeartbeats 4000000 in
theorem c_X9_folkMayLive (l : Launch) (w : AW) (n : Nat → Nat) (q : Nat → Nat → Nat) (S rn sn : Nat) (nr : Nat) (rp rc : Nat → Nat) (cl : Nat → List Int) (a : Int) (hW : WI w n q S rn sn) (hB : RBK w nr rp rc cl) (hH : HB w) (har : R32 a) (hhi : ∀ i, i < 400 → 0 ≤ w.2.1 37 i ∧ w.2.1 37 i ≤ 999) : HT l yX9_folkMayLive cX9_folkMayLive 4 (some .boolean) 7 6 42 w [ar 0, ai a] (fun r w' => (¬ (0 ≤ a ∧ a < 400) → r = some (ai 0) ∧ w' = w) ∧ (0 ≤ a ∧ a < 400 → ∃ S' b, r = some (ai (b01 b)) ∧ FMo w w' n q S S' rn sn nr rp cl (w.2.1 37 a.toNat) b)) := by
  refine HT.of (by decide) (by intro v hv; simp only [List.mem_cons, List.not_mem_nil, or_false] at hv; rcases hv with rfl | rfl <;> rfl) (Nat.le_of_ble_eq_true rfl) ?_
  intro Γ h hQ hRm hnm hl hw0
  obtain ⟨hX, hS, hLk, hSI, t0, t1⟩ := id hW
  have s0 : w.1 0 = (109, 0) := hX.1 0 (by decide)
  have s1 : w.1 1 = (202, 2) := hX.1 1 (by decide)
  have s36 : w.1 36 = (100, 0) := hX.1 36 (by decide)
  have s37 : w.1 37 = (1, 400) := hX.1 37 (by decide)
  have s20 : w.1 20 = (105, 0) := hX.1 20 (by decide)
  have p0_0 : w.2.2 0 0 = some 1 := hX.2 (0, 0, 1) (by decide)
  have p0_10 : w.2.2 0 10 = some 36 := hX.2 (0, 10, 36) (by decide)
  have p36_0 : w.2.2 36 0 = some 37 := hX.2 (36, 0, 37) (by decide)
  have p0_7 : w.2.2 0 7 = some 20 := hX.2 (0, 7, 20) (by decide)
  have s2 : w.1 2 = (102, 0) := hX.1 2 (by decide)
  have s3 : w.1 3 = (102, 0) := hX.1 3 (by decide)
  have hn0 := (hLk 0 (by decide)).2.1.1
  have hn1 := (hLk 1 (by decide)).2.1.1
  by_cases hz : 0 ≤ a ∧ a < 400
  · have hh := hhi a.toNat (by omega)
    have step : ∀ (i Si : Nat) (u : AW) (k2 : Nat) (x : Option AV), i < 2 → FSc w u S Si → HB u → k2 ≤ 3 * i → (∀ (u1 w1 : AW) (S1 : Nat), TN u u1 i n q Si S1 rn sn nr cl (w.2.1 37 a.toNat) → FSc w w1 S S1 → FSc u w1 Si S1 → HB w1 → allB (rlN u1 rp cl 3) nr = true → GG Γ 59 [some (ar 0), some (ai a), some (ai (i : Int)), some (ar (2 + i))] [] w1 (3 * (i + 1)) (7 * (3 * (i + 1)))) →
        (∀ (u1 w1 : AW) (S1 : Nat), TN u u1 i n q Si S1 rn sn nr cl (w.2.1 37 a.toNat) → FSc w w1 S S1 → HB w1 → allB (rlN u1 rp cl 3) nr = false → GG Γ 57 [some (ar 0), some (ai a), some (ai (i : Int)), some (ar (2 + i))] [] w1 (3 * (i + 1)) (7 * (3 * (i + 1)))) → GG Γ 11 [some (ar 0), some (ai a), some (ai (i : Int)), x] [] u k2 (7 * k2) := by
      intro i Si u k2 x hi2 hFu hHu hk2 kt kf
      have hXu := hFu.1
      have hWu := WI_fs hW hFu
      have hBu := RBK_fs hB hFu
      have hni : n i ≤ 3 := (hLk i hi2).2.1.1
      have eo : ∀ j, j < 56 → j ≠ 4 → j ≠ 7 → j ≠ 10 → j ≠ 13 → j ≠ 26 → j ≠ 27 → u.2.1 j = w.2.1 j := fun j h h4 h7 h10 h13 h26 h27 => hFu.2.2.2.1 j ⟨h4, h7, h10, h13, Or.inl h⟩ h26 h27
      have e37 := eo 37 (by decide) (by decide) (by decide) (by decide) (by decide) (by decide) (by decide)
      have u0 : u.1 0 = (109, 0) := hXu.1 0 (by decide)
      have u1 : u.1 1 = (202, 2) := hXu.1 1 (by decide)
      have u36 : u.1 36 = (100, 0) := hXu.1 36 (by decide)
      have u37 : u.1 37 = (1, 400) := hXu.1 37 (by decide)
      have up0 : u.2.2 0 0 = some 1 := hXu.2 (0, 0, 1) (by decide)
      have up10 : u.2.2 0 10 = some 36 := hXu.2 (0, 10, 36) (by decide)
      have up36 : u.2.2 36 0 = some 37 := hXu.2 (36, 0, 37) (by decide)
      have upi : u.2.2 1 i = some (2 + i) := by
        rcases (show i = 0 ∨ i = 1 by omega) with rfl | rfl
        · exact hXu.2 (1, 0, 2) (by decide)
        · exact hXu.2 (1, 1, 3) (by decide)
      refine g_iload_n h dX9_folkMayLive_11 rfl ?_
      refine g_aload_n h dX9_folkMayLive_12 rfl ?_
      refine g_getQ h flX9_11 rfl (by first | assumption | exact v0 | exact v20 | exact vp | exact u0 | exact u1 | exact u36 | exact u37 | exact up0 | exact up10 | exact up36 | exact upi) (by first | assumption | exact v0 | exact v20 | exact vp | exact u0 | exact u1 | exact u36 | exact u37 | exact up0 | exact up10 | exact up36 | exact upi) dX9_folkMayLive_13 ?_
      refine g_alen h (by first | assumption | exact v0 | exact v20 | exact vp | exact u0 | exact u1 | exact u36 | exact u37 | exact up0 | exact up10 | exact up36 | exact upi) (by unfold arK; omega) dX9_folkMayLive_16 ?_
      refine g_icmp_ge (tgt := 65) h dX9_folkMayLive_17 (by decide) (by first | assumption | exact ⟨by omega, by omega⟩) (by first | assumption | exact ⟨by omega, by omega⟩) (fun c17 => ?_) (fun c17 => ?_)
      · exfalso; omega
      · refine g_aload_n h dX9_folkMayLive_20 rfl ?_
        refine g_getQ h flX9_11 rfl (by first | assumption | exact v0 | exact v20 | exact vp | exact u0 | exact u1 | exact u36 | exact u37 | exact up0 | exact up10 | exact up36 | exact upi) (by first | assumption | exact v0 | exact v20 | exact vp | exact u0 | exact u1 | exact u36 | exact u37 | exact up0 | exact up10 | exact up36 | exact upi) dX9_folkMayLive_21 ?_
        refine g_iload_n h dX9_folkMayLive_24 rfl ?_
        refine g_aald h (i) (by first | assumption | exact v0 | exact v20 | exact vp | exact u0 | exact u1 | exact u36 | exact u37 | exact up0 | exact up10 | exact up36 | exact upi) (by unfold arK; omega) (by first | omega | assumption) (by first | omega | assumption) (by first | omega | assumption) (by first | decide | omega) (by first | assumption | exact v0 | exact v20 | exact vp | exact u0 | exact u1 | exact u36 | exact u37 | exact up0 | exact up10 | exact up36 | exact upi) dX9_folkMayLive_25 ?_
        refine g_astore_n h dX9_folkMayLive_26 (Nat.le_of_ble_eq_true rfl) rfl rfl ?_
        refine g_aload_n h dX9_folkMayLive_27 rfl ?_
        refine g_ifnull (tgt := 59) h dX9_folkMayLive_28 (by decide) (fun cnn => by cases cnn) (fun _ cnn => ?_)
        refine g_aload_n h dX9_folkMayLive_31 rfl ?_
        refine g_iload_n h dX9_folkMayLive_32 rfl ?_
        refine g_aload_n h dX9_folkMayLive_33 rfl ?_
        refine g_aload_n h dX9_folkMayLive_34 rfl ?_
        refine g_getQ h flX9_52 rfl (by first | assumption | exact v0 | exact v20 | exact vp | exact u0 | exact u1 | exact u36 | exact u37 | exact up0 | exact up10 | exact up36 | exact upi) (by first | assumption | exact v0 | exact v20 | exact vp | exact u0 | exact u1 | exact u36 | exact u37 | exact up0 | exact up10 | exact up36 | exact upi) dX9_folkMayLive_35 ?_
        refine g_getQ h flX9_301 rfl (by first | assumption | exact v0 | exact v20 | exact vp | exact u0 | exact u1 | exact u36 | exact u37 | exact up0 | exact up10 | exact up36 | exact upi) (by first | assumption | exact v0 | exact v20 | exact vp | exact u0 | exact u1 | exact u36 | exact u37 | exact up0 | exact up10 | exact up36 | exact upi) dX9_folkMayLive_38 ?_
        refine g_iload_n h dX9_folkMayLive_41 rfl ?_
        refine g_iald h (a.toNat) (by first | assumption | exact v0 | exact v20 | exact vp | exact u0 | exact u1 | exact u36 | exact u37 | exact up0 | exact up10 | exact up36 | exact upi) (by first | omega | assumption) (by first | omega | assumption) (by first | decide | omega) dX9_folkMayLive_42 ?_
        rw [e37]
        refine g_callV h rfl (ci := 9) [_, _, _] (by first | assumption | exact v0 | exact v20 | exact vp | exact u0 | exact u1 | exact u36 | exact u37 | exact up0 | exact up10 | exact up36 | exact upi) (c_X9_tellNames _ _ n q Si rn sn i nr rp rc cl (w.2.1 37 a.toNat) hWu hi2 hBu hHu hh) clX9_270 (by decide) rfl in_X9_tellNames se_X9_tellNames rfl rfl (by rw [hRm]; first | decide | (simp only [clS]; omega)) (by rw [hRm]; first | decide | (simp only [clS]; omega)) (fun _ => Nat.le_of_ble_eq_true rfl) (by rw [hRm]; first | decide | (simp only [clS]; omega)) (by rw [hRm]; first | decide | (simp only [clS]; omega)) dX9_folkMayLive_43 (fun r43 w43 hp43 => ?_)
        obtain ⟨rfl, S', hTN⟩ := hp43
        have hHv := TN_HB hTN hHu
        have hFv := hTN.1
        have hXv := hFv.1
        have hBv := RBK_fs hBu hFv
        have v0 : w43.1 0 = (109, 0) := hXv.1 0 (by decide)
        have v20 : w43.1 20 = (105, 0) := hXv.1 20 (by decide)
        have vp : w43.2.2 0 7 = some 20 := hXv.2 (0, 7, 20) (by decide)
        refine g_aload_n h dX9_folkMayLive_46 rfl ?_
        refine g_getQ h flX9_38 rfl (by first | assumption | exact v0 | exact v20 | exact vp | exact u0 | exact u1 | exact u36 | exact u37 | exact up0 | exact up10 | exact up36 | exact upi) (by first | assumption | exact v0 | exact v20 | exact vp | exact u0 | exact u1 | exact u36 | exact u37 | exact up0 | exact up10 | exact up36 | exact upi) dX9_folkMayLive_47 ?_
        refine g_iconst h dX9_folkMayLive_50 ?_
        refine g_callV h rfl (ci := 5) [_] (by first | assumption | exact v0 | exact v20 | exact vp | exact u0 | exact u1 | exact u36 | exact u37 | exact up0 | exact up10 | exact up36 | exact upi) (c_X5_allHold _ _ nr rp rc cl 3 hXv hBv ⟨by decide, by decide⟩ hHv.1) clX9_382 (by decide) rfl in_X5_allHold se_X5_allHold rfl rfl (by rw [hRm]; first | decide | (simp only [clS]; omega)) (by rw [hRm]; first | decide | (simp only [clS]; omega)) (fun _ => Nat.le_of_ble_eq_true rfl) (by rw [hRm]; first | decide | (simp only [clS]; omega)) (by rw [hRm]; first | decide | (simp only [clS]; omega)) dX9_folkMayLive_51 (fun r51 w51 hp51 => ?_)
        obtain ⟨rfl, hF9⟩ := hp51
        have hFw := hFv.trans (FSc_F1 hXv hFv.2.1 (Or.inr rfl) hF9)
        have hHw := HB_27 hF9 hHv
        have hb9 := b01_01 (allB (rlN w43 rp cl 3) nr)
        refine g_if_ne (tgt := 59) h dX9_folkMayLive_54 (by decide) (by first | assumption | exact ⟨by omega, by omega⟩) (fun c54 => ?_) (fun c54 => ?_)
        · exact g_kn2 _ _ (by omega) (by omega) (kt w43 w51 S' hTN (hFu.trans hFw) hFw hHw (b01_nz (by first | assumption | exact v0 | exact v20 | exact vp | exact u0 | exact u1 | exact u36 | exact u37 | exact up0 | exact up10 | exact up36 | exact upi)))
        · exact g_kn2 _ _ (by omega) (by omega) (kf w43 w51 S' hTN (hFu.trans hFw) hHw (Bool.eq_false_iff.mpr (b01_ze (by first | assumption | exact v0 | exact v20 | exact vp | exact u0 | exact u1 | exact u36 | exact u37 | exact up0 | exact up10 | exact up36 | exact upi))))
    have ret0 : ∀ (u1 w1 : AW) (S1 : Nat) (i : Nat) (k2 : Nat), k2 ≤ 6 → (∃ S' , FMo w w1 n q S S' rn sn nr rp cl (w.2.1 37 a.toNat) false) → GG Γ 57 [some (ar 0), some (ai a), some (ai (i : Int)), some (ar (2 + i))] [] w1 k2 (7 * k2) := by
      intro u1 w1 S1 i k2 hk2 hFM
      refine g_iconst h dX9_folkMayLive_57 ?_
      refine g_zret h hQ (by first | decide | omega | (simp only [clS]; omega)) (by first | decide | omega | (simp only [clS]; omega)) (by omega) ?_ dX9_folkMayLive_58
      obtain ⟨S', hFM⟩ := hFM
      exact ⟨fun q => absurd hz q, fun _ => ⟨S', false, rfl, hFM⟩⟩
    have main : GG Γ 11 [some (ar 0), some (ai a), some (ai ((0 : Nat) : Int)), none] [] w 0 (7 * 0) := by
      refine step 0 S w 0 none (by decide) (FSc.refl hX hS) hH (Nat.le_refl _) (fun u1 w1 S1 hTN hF hF2 hHw hb => ?_) (fun u1 w1 S1 hTN hF hHw hb => ret0 u1 w1 S1 0 _ (by decide) ⟨S1, hF, hHw, u1, S1, hTN, Or.inl ⟨hb, rfl⟩⟩)
      have nxt : GG Γ 11 [some (ar 0), some (ai a), some (ai ((1 : Nat) : Int)), some (ar (2 + 0))] [] w1 (3 * (0 + 1)) (7 * (3 * (0 + 1))) := by
        refine step 1 S1 w1 _ _ (by decide) hF hHw (by decide) (fun u2 w2 S2 hTN2 hFF hFF2 hHw2 hb2 => ?_) (fun u2 w2 S2 hTN2 hFF hHw2 hb2 => ret0 u2 w2 S2 1 _ (by decide) ⟨S2, hFF, hHw2, u1, S1, hTN, Or.inr ⟨hb, w1, u2, hF, hTN2, hb2.symm⟩⟩)
        have hXw := hFF.1
        have t0 : w2.1 0 = (109, 0) := hXw.1 0 (by decide)
        have t1 : w2.1 1 = (202, 2) := hXw.1 1 (by decide)
        have tp0 : w2.2.2 0 0 = some 1 := hXw.2 (0, 0, 1) (by decide)
        refine g_iinc h dX9_folkMayLive_59 rfl (Nat.le_of_ble_eq_true rfl) rfl rfl ?_
        refine g_goto (tgt := 11) h dX9_folkMayLive_62 (by decide) ?_
        refine g_iload_n h dX9_folkMayLive_11 rfl ?_
        refine g_aload_n h dX9_folkMayLive_12 rfl ?_
        refine g_getQ h flX9_11 rfl (by assumption) (by assumption) dX9_folkMayLive_13 ?_
        refine g_alen h (by assumption) (by unfold arK; omega) dX9_folkMayLive_16 ?_
        refine g_icmp_ge (tgt := 65) h dX9_folkMayLive_17 (by decide) (by first | assumption | exact ⟨by omega, by omega⟩) (by first | assumption | exact ⟨by omega, by omega⟩) (fun c17 => ?_) (fun c17 => ?_)
        · refine g_iconst h dX9_folkMayLive_65 ?_
          refine g_zret h hQ (by first | decide | omega | (simp only [clS]; omega)) (by first | decide | omega | (simp only [clS]; omega)) (by omega) ?_ dX9_folkMayLive_66
          exact ⟨fun q => absurd hz q, fun _ => ⟨S2, true, rfl, hFF, hHw2, u1, S1, hTN, Or.inr ⟨hb, w1, u2, hF, hTN2, hb2.symm⟩⟩⟩
        · exfalso; omega
      refine g_iinc h dX9_folkMayLive_59 rfl (Nat.le_of_ble_eq_true rfl) rfl rfl ?_
      refine g_goto (tgt := 11) h dX9_folkMayLive_62 (by decide) ?_
      exact nxt
    refine g_iload_n h dX9_folkMayLive_0 rfl ?_
    refine g_callS h rfl [_] (c_X9_isCell _ _ _ har) clX9_280 st_X9_isCell rfl rfl (by rw [hRm]; first | decide | (simp only [clS]; omega)) (by rw [hRm]; first | decide | (simp only [clS]; omega)) (fun _ => Nat.le_of_ble_eq_true rfl) (by rw [hRm]; first | decide | (simp only [clS]; omega)) (by rw [hRm]; first | decide | (simp only [clS]; omega)) dX9_folkMayLive_1 (fun r1 w1 hp1 => ?_)
    obtain ⟨rfl, hw1⟩ := hp1
    rw [hw1]
    have hbw1 := ite01 (0 ≤ a ∧ a < 400)
    refine g_if_ne (tgt := 9) h dX9_folkMayLive_4 (by decide) (by first | assumption | exact ⟨by omega, by omega⟩) (fun c4 => ?_) (fun c4 => ?_)
    · refine g_iconst h dX9_folkMayLive_9 ?_
      refine g_istore_n h dX9_folkMayLive_10 (Nat.le_of_ble_eq_true rfl) rfl rfl ?_
      exact main
    · exfalso; omega
  · skip
    refine g_iload_n h dX9_folkMayLive_0 rfl ?_
    refine g_callS h rfl [_] (c_X9_isCell _ _ _ har) clX9_280 st_X9_isCell rfl rfl (by rw [hRm]; first | decide | (simp only [clS]; omega)) (by rw [hRm]; first | decide | (simp only [clS]; omega)) (fun _ => Nat.le_of_ble_eq_true rfl) (by rw [hRm]; first | decide | (simp only [clS]; omega)) (by rw [hRm]; first | decide | (simp only [clS]; omega)) dX9_folkMayLive_1 (fun r1 w1 hp1 => ?_)
    obtain ⟨rfl, hw1⟩ := hp1
    rw [hw1]
    have hbw1 := ite01 (0 ≤ a ∧ a < 400)
    refine g_if_ne (tgt := 9) h dX9_folkMayLive_4 (by decide) (by first | assumption | exact ⟨by omega, by omega⟩) (fun c4 => ?_) (fun c4 => ?_)
    · exfalso; omega
    · refine g_iconst h dX9_folkMayLive_7 ?_
      refine g_zret h hQ (by first | decide | omega | (simp only [clS]; omega)) (by first | decide | omega | (simp only [clS]; omega)) (by omega) ?_ dX9_folkMayLive_8
      exact ⟨fun _ => ⟨rfl, rfl⟩, fun q => absurd q hz⟩
