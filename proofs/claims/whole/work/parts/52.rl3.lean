/-! ===== the book of rules: what holds ===== -/
theorem ite_ne0 {p : Prop} [Decidable p] (h : (if p then (1 : Int) else 0) ≠ 0) : p := Decidable.byContradiction fun q => h (if_neg q)
theorem ite_eq0 {p : Prop} [Decidable p] (h : (if p then (1 : Int) else 0) = 0) : ¬ p := fun q => by rw [if_pos q] at h; cases h
set_option maxRecDepth 100000 in
set_option maxHeartbeats 4000000 in
theorem c_X5_names (l : Launch) (w : AW) (nr : Nat) (rp rc : Nat → Nat) (cl : Nat → List Int) (a : Int) (hX : XS w) (hB : RBK w nr rp rc cl) (ha : 0 ≤ a ∧ a < 9) : HT l yX5_names cX5_names 4 (some .boolean) 2 0 0 w [ar 20, ai a] (fun r w' => r = some (ai (b01 (anyB (fun i => hnF (cl i) (10000 + a) (cl i).length) nr))) ∧ F1 27 w w') := by
  refine HT.of (by decide) (by intro v hv; simp only [List.mem_cons, List.not_mem_nil, or_false] at hv; rcases hv with rfl | rfl <;> rfl) (Nat.le_of_ble_eq_true rfl) ?_
  intro Γ h hQ hRm hnm hl hw0
  have s20 : w.1 20 = (105, 0) := hX.1 20 (by decide)
  have s22 : w.1 22 = (204, 16) := hX.1 22 (by decide)
  have p20_2 : w.2.2 20 2 = some 22 := hX.2 (20, 2, 22) (by decide)
  obtain ⟨b1, b2, b3⟩ := id hB
  have loop : ∀ (d i : Nat) (x : Option AV) (u : AW), i + d = nr → F1 27 w u → anyB (fun i => hnF (cl i) (10000 + a) (cl i).length) i = false → GG Γ 2 [some (ar 20), some (ai a), some (ai (i : Int)), x] [] u 0 0 := by
    intro d
    induction d with
    | zero =>
      intro i x u hi hF hinv
      obtain ⟨f1, f2, f3⟩ := id hF
      obtain rfl : i = nr := by omega
      have t20 : u.1 20 = (105, 0) := by rw [f1]; exact s20
      have t22 : u.1 22 = (204, 16) := by rw [f1]; exact s22
      have t3 : u.2.1 20 3 = (i : Int) := by rw [f3 20 (by decide)]; exact b1
      have tp : u.2.2 20 2 = some 22 := by rw [f2]; exact p20_2
      refine g_iload_n h dX5_names_2 rfl ?_
      refine g_aload_n h dX5_names_3 rfl ?_
      refine g_getI h flX5_54 rfl (by assumption) dX5_names_4 ?_
      rw [t3]
      refine g_icmp_ge (tgt := 46) h dX5_names_7 (by decide) (by first | assumption | exact ⟨by omega, by omega⟩) (by first | assumption | exact ⟨by omega, by omega⟩) (fun c7 => ?_) (fun c7 => ?_)
      · refine g_iconst h dX5_names_46 ?_
        refine g_zret h hQ (by first | decide | omega | (simp only [clS]; omega)) (by first | decide | omega | (simp only [clS]; omega)) (by omega) ?_ dX5_names_47
        refine ⟨?_, hF⟩
        rw [hinv]
        rfl
      · exfalso; omega
    | succ d ih =>
      intro i x u hi hF hinv
      obtain ⟨f1, f2, f3⟩ := id hF
      obtain ⟨g1, g2, g3, g4, g5, g6⟩ := b3 i (by omega)
      have hX2 := XS_of f1 f2 hX
      have t20 : u.1 20 = (105, 0) := by rw [f1]; exact s20
      have t22 : u.1 22 = (204, 16) := by rw [f1]; exact s22
      have t26 : u.1 26 = (1, 9) := hX2.1 26 (by decide)
      have t27 : u.1 27 = (1, 31) := hX2.1 27 (by decide)
      have t3 : u.2.1 20 3 = (nr : Int) := by rw [f3 20 (by decide)]; exact b1
      have tp : u.2.2 20 2 = some 22 := by rw [f2]; exact p20_2
      have tp7 : u.2.2 20 7 = some 26 := hX2.2 (20, 7, 26) (by decide)
      have tp8 : u.2.2 20 8 = some 27 := hX2.2 (20, 8, 27) (by decide)
      have tr : u.2.2 22 i = some (rp i) := by rw [f2]; exact g1
      have hRU := RU_F f1 f2 (f3 (rp i) (by omega)) (f3 (rc i) (by omega)) g2
      have tk : u.1 (rp i) = (104, 0) := hRU.1
      have e26 : u.2.1 26 = w.2.1 26 := f3 26 (by decide)
      have ea : u.2.1 (rp i) 0 = w.2.1 (rp i) 0 := by rw [f3 (rp i) (by omega)]
      have eab : 0 ≤ w.2.1 (rp i) 0 ∧ w.2.1 (rp i) 0 < 4 := ⟨g2.2.2.2.2.2.1, g2.2.2.2.2.2.2⟩
      refine g_iload_n h dX5_names_2 rfl ?_
      refine g_aload_n h dX5_names_3 rfl ?_
      refine g_getI h flX5_54 rfl (by assumption) dX5_names_4 ?_
      rw [t3]
      refine g_icmp_ge (tgt := 46) h dX5_names_7 (by decide) (by first | assumption | exact ⟨by omega, by omega⟩) (by first | assumption | exact ⟨by omega, by omega⟩) (fun c7 => ?_) (fun c7 => ?_)
      · exfalso; omega
      · refine g_iload_n h dX5_names_10 rfl ?_
        refine g_aload_n h dX5_names_11 rfl ?_
        refine g_getQ h flX5_17 rfl (by assumption) (by assumption) dX5_names_12 ?_
        refine g_alen h (by assumption) (by unfold arK; omega) dX5_names_15 ?_
        refine g_icmp_ge (tgt := 46) h dX5_names_16 (by decide) (by first | assumption | exact ⟨by omega, by omega⟩) (by first | assumption | exact ⟨by omega, by omega⟩) (fun c16 => ?_) (fun c16 => ?_)
        · exfalso; omega
        · refine g_aload_n h dX5_names_19 rfl ?_
          refine g_getQ h flX5_17 rfl (by assumption) (by assumption) dX5_names_20 ?_
          refine g_iload_n h dX5_names_23 rfl ?_
          refine g_aald h (i) (by assumption) (by unfold arK; omega) (by first | omega | assumption) (by first | omega | assumption) (by first | omega | assumption) (by first | decide | omega) (by assumption) dX5_names_24 ?_
          refine g_astore_n h dX5_names_25 (Nat.le_of_ble_eq_true rfl) rfl rfl ?_
          refine g_aload_n h dX5_names_26 rfl ?_
          refine g_ifnull (tgt := 40) h dX5_names_27 (by decide) (fun cnn => by cases cnn) (fun _ cnn => ?_)
          refine g_aload_n h dX5_names_30 rfl ?_
          refine g_iload_n h dX5_names_31 rfl ?_
          refine g_callV h rfl (ci := 4) [_] (by assumption) (c_X4_hasName _ _ (rp i) (rc i) (cl i) a hRU ha.1 ha.2) clX5_57 (by decide) rfl in_X4_hasName se_X4_hasName rfl rfl (by rw [hRm]; first | decide | (simp only [clS]; omega)) (by rw [hRm]; first | decide | (simp only [clS]; omega)) (fun _ => Nat.le_of_ble_eq_true rfl) (by rw [hRm]; first | decide | (simp only [clS]; omega)) (by rw [hRm]; first | decide | (simp only [clS]; omega)) dX5_names_32 (fun r32 w32 hp32 => ?_)
          obtain ⟨rfl, hw32⟩ := hp32
          rw [hw32]
          have hbw32 := ite01 (hnF (cl i) (10000 + a) (cl i).length = true)
          refine g_if_eq (tgt := 40) h dX5_names_35 (by decide) (by first | assumption | exact ⟨by omega, by omega⟩) (fun c35 => ?_) (fun c35 => ?_)
          · refine g_iinc h dX5_names_40 rfl (Nat.le_of_ble_eq_true rfl) rfl rfl ?_
            refine g_goto (tgt := 2) h dX5_names_43 (by decide) ?_
            exact ih (i + 1) _ _ (by omega) hF (by show (_ || _) = false; rw [hinv]; exact Bool.eq_false_iff.mpr (ite_eq0 c35))
          · refine g_iconst h dX5_names_38 ?_
            refine g_zret h hQ (by first | decide | omega | (simp only [clS]; omega)) (by first | decide | omega | (simp only [clS]; omega)) (by omega) ?_ dX5_names_39
            refine ⟨?_, hF⟩
            rw [anyB_up (i := i) (ite_ne0 c35) nr (by omega)]
            rfl
  refine g_iconst h dX5_names_0 ?_
  refine g_istore_n h dX5_names_1 (Nat.le_of_ble_eq_true rfl) rfl rfl ?_
  exact loop nr 0 none w (by omega) ⟨rfl, rfl, fun _ _ => rfl⟩ rfl
set_option maxRecDepth 100000 in
set_option maxHeartbeats 4000000 in
theorem c_X5_someHolds (l : Launch) (w : AW) (nr : Nat) (rp rc : Nat → Nat) (cl : Nat → List Int) (a : Int) (hX : XS w) (hB : RBK w nr rp rc cl) (ha : R32 a) (hnb : ∀ i, i < 9 → -100000 ≤ w.2.1 26 i ∧ w.2.1 26 i ≤ 100000) : HT l yX5_someHolds cX5_someHolds 4 (some .boolean) 4 0 0 w [ar 20, ai a] (fun r w' => r = some (ai (b01 (anyB (rlT w rp cl a) nr))) ∧ F1 27 w w') := by
  refine HT.of (by decide) (by intro v hv; simp only [List.mem_cons, List.not_mem_nil, or_false] at hv; rcases hv with rfl | rfl <;> rfl) (Nat.le_of_ble_eq_true rfl) ?_
  intro Γ h hQ hRm hnm hl hw0
  have s20 : w.1 20 = (105, 0) := hX.1 20 (by decide)
  have s22 : w.1 22 = (204, 16) := hX.1 22 (by decide)
  have s26 : w.1 26 = (1, 9) := hX.1 26 (by decide)
  have s27 : w.1 27 = (1, 31) := hX.1 27 (by decide)
  have p20_2 : w.2.2 20 2 = some 22 := hX.2 (20, 2, 22) (by decide)
  have p20_7 : w.2.2 20 7 = some 26 := hX.2 (20, 7, 26) (by decide)
  have p20_8 : w.2.2 20 8 = some 27 := hX.2 (20, 8, 27) (by decide)
  obtain ⟨b1, b2, b3⟩ := id hB
  have loop : ∀ (d i : Nat) (x : Option AV) (u : AW), i + d = nr → F1 27 w u → anyB (rlT w rp cl a) i = false → GG Γ 2 [some (ar 20), some (ai a), some (ai (i : Int)), x] [] u 0 0 := by
    intro d
    induction d with
    | zero =>
      intro i x u hi hF hinv
      obtain ⟨f1, f2, f3⟩ := id hF
      obtain rfl : i = nr := by omega
      have t20 : u.1 20 = (105, 0) := by rw [f1]; exact s20
      have t22 : u.1 22 = (204, 16) := by rw [f1]; exact s22
      have t3 : u.2.1 20 3 = (i : Int) := by rw [f3 20 (by decide)]; exact b1
      have tp : u.2.2 20 2 = some 22 := by rw [f2]; exact p20_2
      refine g_iload_n h dX5_someHolds_2 rfl ?_
      refine g_aload_n h dX5_someHolds_3 rfl ?_
      refine g_getI h flX5_54 rfl (by assumption) dX5_someHolds_4 ?_
      rw [t3]
      refine g_icmp_ge (tgt := 61) h dX5_someHolds_7 (by decide) (by first | assumption | exact ⟨by omega, by omega⟩) (by first | assumption | exact ⟨by omega, by omega⟩) (fun c7 => ?_) (fun c7 => ?_)
      · refine g_iconst h dX5_someHolds_61 ?_
        refine g_zret h hQ (by first | decide | omega | (simp only [clS]; omega)) (by first | decide | omega | (simp only [clS]; omega)) (by omega) ?_ dX5_someHolds_62
        refine ⟨?_, hF⟩
        rw [hinv]
        rfl
      · exfalso; omega
    | succ d ih =>
      intro i x u hi hF hinv
      obtain ⟨f1, f2, f3⟩ := id hF
      obtain ⟨g1, g2, g3, g4, g5, g6⟩ := b3 i (by omega)
      have hX2 := XS_of f1 f2 hX
      have t20 : u.1 20 = (105, 0) := by rw [f1]; exact s20
      have t22 : u.1 22 = (204, 16) := by rw [f1]; exact s22
      have t26 : u.1 26 = (1, 9) := hX2.1 26 (by decide)
      have t27 : u.1 27 = (1, 31) := hX2.1 27 (by decide)
      have t3 : u.2.1 20 3 = (nr : Int) := by rw [f3 20 (by decide)]; exact b1
      have tp : u.2.2 20 2 = some 22 := by rw [f2]; exact p20_2
      have tp7 : u.2.2 20 7 = some 26 := hX2.2 (20, 7, 26) (by decide)
      have tp8 : u.2.2 20 8 = some 27 := hX2.2 (20, 8, 27) (by decide)
      have tr : u.2.2 22 i = some (rp i) := by rw [f2]; exact g1
      have hRU := RU_F f1 f2 (f3 (rp i) (by omega)) (f3 (rc i) (by omega)) g2
      have tk : u.1 (rp i) = (104, 0) := hRU.1
      have e26 : u.2.1 26 = w.2.1 26 := f3 26 (by decide)
      have ea : u.2.1 (rp i) 0 = w.2.1 (rp i) 0 := by rw [f3 (rp i) (by omega)]
      have eab : 0 ≤ w.2.1 (rp i) 0 ∧ w.2.1 (rp i) 0 < 4 := ⟨g2.2.2.2.2.2.1, g2.2.2.2.2.2.2⟩
      refine g_iload_n h dX5_someHolds_2 rfl ?_
      refine g_aload_n h dX5_someHolds_3 rfl ?_
      refine g_getI h flX5_54 rfl (by assumption) dX5_someHolds_4 ?_
      rw [t3]
      refine g_icmp_ge (tgt := 61) h dX5_someHolds_7 (by decide) (by first | assumption | exact ⟨by omega, by omega⟩) (by first | assumption | exact ⟨by omega, by omega⟩) (fun c7 => ?_) (fun c7 => ?_)
      · exfalso; omega
      · refine g_iload_n h dX5_someHolds_10 rfl ?_
        refine g_aload_n h dX5_someHolds_11 rfl ?_
        refine g_getQ h flX5_17 rfl (by assumption) (by assumption) dX5_someHolds_12 ?_
        refine g_alen h (by assumption) (by unfold arK; omega) dX5_someHolds_15 ?_
        refine g_icmp_ge (tgt := 61) h dX5_someHolds_16 (by decide) (by first | assumption | exact ⟨by omega, by omega⟩) (by first | assumption | exact ⟨by omega, by omega⟩) (fun c16 => ?_) (fun c16 => ?_)
        · exfalso; omega
        · refine g_aload_n h dX5_someHolds_19 rfl ?_
          refine g_getQ h flX5_17 rfl (by assumption) (by assumption) dX5_someHolds_20 ?_
          refine g_iload_n h dX5_someHolds_23 rfl ?_
          refine g_aald h (i) (by assumption) (by unfold arK; omega) (by first | omega | assumption) (by first | omega | assumption) (by first | omega | assumption) (by first | decide | omega) (by assumption) dX5_someHolds_24 ?_
          refine g_astore_n h dX5_someHolds_25 (Nat.le_of_ble_eq_true rfl) rfl rfl ?_
          refine g_aload_n h dX5_someHolds_26 rfl ?_
          refine g_ifnull (tgt := 55) h dX5_someHolds_27 (by decide) (fun cnn => by cases cnn) (fun _ cnn => ?_)
          refine g_aload_n h dX5_someHolds_30 rfl ?_
          refine g_getI h flX5_61 rfl (by assumption) dX5_someHolds_31 ?_
          rw [ea]
          refine g_iload_n h dX5_someHolds_34 rfl ?_
          refine g_icmp_ne (tgt := 55) h dX5_someHolds_35 (by decide) (by first | assumption | exact ⟨by omega, by omega⟩) (by first | assumption | exact ⟨by omega, by omega⟩) (fun c35 => ?_) (fun c35 => ?_)
          · refine g_iinc h dX5_someHolds_55 rfl (Nat.le_of_ble_eq_true rfl) rfl rfl ?_
            refine g_goto (tgt := 2) h dX5_someHolds_58 (by decide) ?_
            exact ih (i + 1) _ _ (by omega) hF (by show (_ || _) = false; rw [hinv, show rlT w rp cl a i = false by unfold rlT; rw [decide_eq_false (show ¬ w.2.1 (rp i) 0 = a by omega)]; rfl]; rfl)
          · refine g_aload_n h dX5_someHolds_38 rfl ?_
            refine g_aload_n h dX5_someHolds_39 rfl ?_
            refine g_getQ h flX5_30 rfl (by assumption) (by assumption) dX5_someHolds_40 ?_
            refine g_aload_n h dX5_someHolds_43 rfl ?_
            refine g_getQ h flX5_33 rfl (by assumption) (by assumption) dX5_someHolds_44 ?_
            refine g_callV h rfl (ci := 4) [_, _] (by assumption) (c_X4_holds _ _ (rp i) (rc i) (cl i) hRU (by omega) t26 t27 (by rw [e26]; exact hnb) g5 g6) clX5_64 (by decide) rfl in_X4_holds se_X4_holds rfl rfl (by rw [hRm]; first | decide | (simp only [clS]; omega)) (by rw [hRm]; first | decide | (simp only [clS]; omega)) (fun _ => Nat.le_of_ble_eq_true rfl) (by rw [hRm]; first | decide | (simp only [clS]; omega)) (by rw [hRm]; first | decide | (simp only [clS]; omega)) dX5_someHolds_47 (fun r47 w47 hp47 => ?_)
            obtain ⟨rfl, hw47⟩ := hp47
            rw [e26]
            have hFF : F1 27 w w47 := ⟨hw47.1.trans f1, hw47.2.1.trans f2, fun j hj => (hw47.2.2 j hj).trans (f3 j hj)⟩
            have hbw47 := ite01 (evL (w.2.1 26) (cl i) [] = [1])
            refine g_if_eq (tgt := 55) h dX5_someHolds_50 (by decide) (by first | assumption | exact ⟨by omega, by omega⟩) (fun c50 => ?_) (fun c50 => ?_)
            · refine g_iinc h dX5_someHolds_55 rfl (Nat.le_of_ble_eq_true rfl) rfl rfl ?_
              refine g_goto (tgt := 2) h dX5_someHolds_58 (by decide) ?_
              exact ih (i + 1) _ _ (by omega) (by assumption) (by show (_ || _) = false; rw [hinv, show rlT w rp cl a i = false by unfold rlT; rw [decide_eq_false (ite_eq0 c50)]; exact Bool.and_false _]; rfl)
            · refine g_iconst h dX5_someHolds_53 ?_
              refine g_zret h hQ (by first | decide | omega | (simp only [clS]; omega)) (by first | decide | omega | (simp only [clS]; omega)) (by omega) ?_ dX5_someHolds_54
              refine ⟨?_, (by assumption)⟩
              have e1 : rlT w rp cl a i = true := by
                unfold rlT
                rw [decide_eq_true (show w.2.1 (rp i) 0 = a by omega), decide_eq_true (ite_ne0 c50)]
                rfl
              rw [anyB_up (i := i) e1 nr (by omega)]
              rfl
  refine g_iconst h dX5_someHolds_0 ?_
  refine g_istore_n h dX5_someHolds_1 (Nat.le_of_ble_eq_true rfl) rfl rfl ?_
  exact loop nr 0 none w (by omega) ⟨rfl, rfl, fun _ _ => rfl⟩ rfl
set_option maxRecDepth 100000 in
set_option maxHeartbeats 4000000 in
theorem c_X5_allHold (l : Launch) (w : AW) (nr : Nat) (rp rc : Nat → Nat) (cl : Nat → List Int) (a : Int) (hX : XS w) (hB : RBK w nr rp rc cl) (ha : R32 a) (hnb : ∀ i, i < 9 → -100000 ≤ w.2.1 26 i ∧ w.2.1 26 i ≤ 100000) : HT l yX5_allHold cX5_allHold 4 (some .boolean) 4 0 0 w [ar 20, ai a] (fun r w' => r = some (ai (b01 (allB (rlN w rp cl a) nr))) ∧ F1 27 w w') := by
  refine HT.of (by decide) (by intro v hv; simp only [List.mem_cons, List.not_mem_nil, or_false] at hv; rcases hv with rfl | rfl <;> rfl) (Nat.le_of_ble_eq_true rfl) ?_
  intro Γ h hQ hRm hnm hl hw0
  have s20 : w.1 20 = (105, 0) := hX.1 20 (by decide)
  have s22 : w.1 22 = (204, 16) := hX.1 22 (by decide)
  have s26 : w.1 26 = (1, 9) := hX.1 26 (by decide)
  have s27 : w.1 27 = (1, 31) := hX.1 27 (by decide)
  have p20_2 : w.2.2 20 2 = some 22 := hX.2 (20, 2, 22) (by decide)
  have p20_7 : w.2.2 20 7 = some 26 := hX.2 (20, 7, 26) (by decide)
  have p20_8 : w.2.2 20 8 = some 27 := hX.2 (20, 8, 27) (by decide)
  obtain ⟨b1, b2, b3⟩ := id hB
  have loop : ∀ (d i : Nat) (x : Option AV) (u : AW), i + d = nr → F1 27 w u → allB (rlN w rp cl a) i = true → GG Γ 2 [some (ar 20), some (ai a), some (ai (i : Int)), x] [] u 0 0 := by
    intro d
    induction d with
    | zero =>
      intro i x u hi hF hinv
      obtain ⟨f1, f2, f3⟩ := id hF
      obtain rfl : i = nr := by omega
      have t20 : u.1 20 = (105, 0) := by rw [f1]; exact s20
      have t22 : u.1 22 = (204, 16) := by rw [f1]; exact s22
      have t3 : u.2.1 20 3 = (i : Int) := by rw [f3 20 (by decide)]; exact b1
      have tp : u.2.2 20 2 = some 22 := by rw [f2]; exact p20_2
      refine g_iload_n h dX5_allHold_2 rfl ?_
      refine g_aload_n h dX5_allHold_3 rfl ?_
      refine g_getI h flX5_54 rfl (by assumption) dX5_allHold_4 ?_
      rw [t3]
      refine g_icmp_ge (tgt := 61) h dX5_allHold_7 (by decide) (by first | assumption | exact ⟨by omega, by omega⟩) (by first | assumption | exact ⟨by omega, by omega⟩) (fun c7 => ?_) (fun c7 => ?_)
      · refine g_iconst h dX5_allHold_61 ?_
        refine g_zret h hQ (by first | decide | omega | (simp only [clS]; omega)) (by first | decide | omega | (simp only [clS]; omega)) (by omega) ?_ dX5_allHold_62
        refine ⟨?_, hF⟩
        rw [hinv]
        rfl
      · exfalso; omega
    | succ d ih =>
      intro i x u hi hF hinv
      obtain ⟨f1, f2, f3⟩ := id hF
      obtain ⟨g1, g2, g3, g4, g5, g6⟩ := b3 i (by omega)
      have hX2 := XS_of f1 f2 hX
      have t20 : u.1 20 = (105, 0) := by rw [f1]; exact s20
      have t22 : u.1 22 = (204, 16) := by rw [f1]; exact s22
      have t26 : u.1 26 = (1, 9) := hX2.1 26 (by decide)
      have t27 : u.1 27 = (1, 31) := hX2.1 27 (by decide)
      have t3 : u.2.1 20 3 = (nr : Int) := by rw [f3 20 (by decide)]; exact b1
      have tp : u.2.2 20 2 = some 22 := by rw [f2]; exact p20_2
      have tp7 : u.2.2 20 7 = some 26 := hX2.2 (20, 7, 26) (by decide)
      have tp8 : u.2.2 20 8 = some 27 := hX2.2 (20, 8, 27) (by decide)
      have tr : u.2.2 22 i = some (rp i) := by rw [f2]; exact g1
      have hRU := RU_F f1 f2 (f3 (rp i) (by omega)) (f3 (rc i) (by omega)) g2
      have tk : u.1 (rp i) = (104, 0) := hRU.1
      have e26 : u.2.1 26 = w.2.1 26 := f3 26 (by decide)
      have ea : u.2.1 (rp i) 0 = w.2.1 (rp i) 0 := by rw [f3 (rp i) (by omega)]
      have eab : 0 ≤ w.2.1 (rp i) 0 ∧ w.2.1 (rp i) 0 < 4 := ⟨g2.2.2.2.2.2.1, g2.2.2.2.2.2.2⟩
      refine g_iload_n h dX5_allHold_2 rfl ?_
      refine g_aload_n h dX5_allHold_3 rfl ?_
      refine g_getI h flX5_54 rfl (by assumption) dX5_allHold_4 ?_
      rw [t3]
      refine g_icmp_ge (tgt := 61) h dX5_allHold_7 (by decide) (by first | assumption | exact ⟨by omega, by omega⟩) (by first | assumption | exact ⟨by omega, by omega⟩) (fun c7 => ?_) (fun c7 => ?_)
      · exfalso; omega
      · refine g_iload_n h dX5_allHold_10 rfl ?_
        refine g_aload_n h dX5_allHold_11 rfl ?_
        refine g_getQ h flX5_17 rfl (by assumption) (by assumption) dX5_allHold_12 ?_
        refine g_alen h (by assumption) (by unfold arK; omega) dX5_allHold_15 ?_
        refine g_icmp_ge (tgt := 61) h dX5_allHold_16 (by decide) (by first | assumption | exact ⟨by omega, by omega⟩) (by first | assumption | exact ⟨by omega, by omega⟩) (fun c16 => ?_) (fun c16 => ?_)
        · exfalso; omega
        · refine g_aload_n h dX5_allHold_19 rfl ?_
          refine g_getQ h flX5_17 rfl (by assumption) (by assumption) dX5_allHold_20 ?_
          refine g_iload_n h dX5_allHold_23 rfl ?_
          refine g_aald h (i) (by assumption) (by unfold arK; omega) (by first | omega | assumption) (by first | omega | assumption) (by first | omega | assumption) (by first | decide | omega) (by assumption) dX5_allHold_24 ?_
          refine g_astore_n h dX5_allHold_25 (Nat.le_of_ble_eq_true rfl) rfl rfl ?_
          refine g_aload_n h dX5_allHold_26 rfl ?_
          refine g_ifnull (tgt := 55) h dX5_allHold_27 (by decide) (fun cnn => by cases cnn) (fun _ cnn => ?_)
          refine g_aload_n h dX5_allHold_30 rfl ?_
          refine g_getI h flX5_61 rfl (by assumption) dX5_allHold_31 ?_
          rw [ea]
          refine g_iload_n h dX5_allHold_34 rfl ?_
          refine g_icmp_ne (tgt := 55) h dX5_allHold_35 (by decide) (by first | assumption | exact ⟨by omega, by omega⟩) (by first | assumption | exact ⟨by omega, by omega⟩) (fun c35 => ?_) (fun c35 => ?_)
          · refine g_iinc h dX5_allHold_55 rfl (Nat.le_of_ble_eq_true rfl) rfl rfl ?_
            refine g_goto (tgt := 2) h dX5_allHold_58 (by decide) ?_
            exact ih (i + 1) _ _ (by omega) hF (by show (_ && _) = true; rw [hinv, show rlN w rp cl a i = true by unfold rlN; rw [decide_eq_false (show ¬ w.2.1 (rp i) 0 = a by omega)]; rfl]; rfl)
          · refine g_aload_n h dX5_allHold_38 rfl ?_
            refine g_aload_n h dX5_allHold_39 rfl ?_
            refine g_getQ h flX5_30 rfl (by assumption) (by assumption) dX5_allHold_40 ?_
            refine g_aload_n h dX5_allHold_43 rfl ?_
            refine g_getQ h flX5_33 rfl (by assumption) (by assumption) dX5_allHold_44 ?_
            refine g_callV h rfl (ci := 4) [_, _] (by assumption) (c_X4_holds _ _ (rp i) (rc i) (cl i) hRU (by omega) t26 t27 (by rw [e26]; exact hnb) g5 g6) clX5_64 (by decide) rfl in_X4_holds se_X4_holds rfl rfl (by rw [hRm]; first | decide | (simp only [clS]; omega)) (by rw [hRm]; first | decide | (simp only [clS]; omega)) (fun _ => Nat.le_of_ble_eq_true rfl) (by rw [hRm]; first | decide | (simp only [clS]; omega)) (by rw [hRm]; first | decide | (simp only [clS]; omega)) dX5_allHold_47 (fun r47 w47 hp47 => ?_)
            obtain ⟨rfl, hw47⟩ := hp47
            rw [e26]
            have hFF : F1 27 w w47 := ⟨hw47.1.trans f1, hw47.2.1.trans f2, fun j hj => (hw47.2.2 j hj).trans (f3 j hj)⟩
            have hbw47 := ite01 (evL (w.2.1 26) (cl i) [] = [1])
            refine g_if_ne (tgt := 55) h dX5_allHold_50 (by decide) (by first | assumption | exact ⟨by omega, by omega⟩) (fun c50 => ?_) (fun c50 => ?_)
            · refine g_iinc h dX5_allHold_55 rfl (Nat.le_of_ble_eq_true rfl) rfl rfl ?_
              refine g_goto (tgt := 2) h dX5_allHold_58 (by decide) ?_
              exact ih (i + 1) _ _ (by omega) (by assumption) (by show (_ && _) = true; rw [hinv, show rlN w rp cl a i = true by unfold rlN; rw [decide_eq_true (ite_ne0 c50)]; exact Bool.or_true _]; rfl)
            · refine g_iconst h dX5_allHold_53 ?_
              refine g_zret h hQ (by first | decide | omega | (simp only [clS]; omega)) (by first | decide | omega | (simp only [clS]; omega)) (by omega) ?_ dX5_allHold_54
              refine ⟨?_, (by assumption)⟩
              have e1 : rlN w rp cl a i = false := by
                unfold rlN
                rw [decide_eq_true (show w.2.1 (rp i) 0 = a by omega), decide_eq_false (ite_eq0 c50)]
                rfl
              rw [allB_up (i := i) e1 nr (by omega)]
              rfl
  refine g_iconst h dX5_allHold_0 ?_
  refine g_istore_n h dX5_allHold_1 (Nat.le_of_ble_eq_true rfl) rfl rfl ?_
  exact loop nr 0 none w (by omega) ⟨rfl, rfl, fun _ _ => rfl⟩ rfl
set_option maxRecDepth 100000 in
set_option maxHeartbeats 4000000 in
theorem c_X5_letsWork (l : Launch) (w : AW) (nr : Nat) (rp rc : Nat → Nat) (cl : Nat → List Int) (hX : XS w) (hB : RBK w nr rp rc cl) (hnb : ∀ i, i < 9 → -100000 ≤ w.2.1 26 i ∧ w.2.1 26 i ≤ 100000) : HT l yX5_letsWork cX5_letsWork 1 (some .boolean) 5 0 0 w [ar 20] (fun r w' => r = some (ai (b01 (allB (rlN w rp cl 1) nr && !anyB (rlT w rp cl 2) nr))) ∧ F1 27 w w') := by
  refine HT.of (by decide) (by intro v hv; simp only [List.mem_cons, List.not_mem_nil, or_false] at hv; rcases hv with rfl <;> rfl) (Nat.le_of_ble_eq_true rfl) ?_
  intro Γ h hQ hRm hnm hl hw0
  have s20 : w.1 20 = (105, 0) := hX.1 20 (by decide)
  refine g_aload_n h dX5_letsWork_0 rfl ?_
  refine g_iconst h dX5_letsWork_1 ?_
  refine g_callV h rfl (ci := 5) [_] (by assumption) (c_X5_allHold _ _ nr rp rc cl 1 hX hB ⟨by decide, by decide⟩ hnb) clX5_68 (by decide) rfl in_X5_allHold se_X5_allHold rfl rfl (by rw [hRm]; first | decide | (simp only [clS]; omega)) (by rw [hRm]; first | decide | (simp only [clS]; omega)) (fun _ => Nat.le_of_ble_eq_true rfl) (by rw [hRm]; first | decide | (simp only [clS]; omega)) (by rw [hRm]; first | decide | (simp only [clS]; omega)) dX5_letsWork_2 (fun r2 w2 hp2 => ?_)
  obtain ⟨rfl, hw2⟩ := hp2
  have h1 := b01_01 (allB (rlN w rp cl 1) nr)
  have t20 : w2.1 20 = (105, 0) := by rw [hw2.1]; exact s20
  have hB2 : RBK w2 nr rp rc cl := RBK_of hw2.1 hw2.2.1 (by rw [hw2.2.2 20 (by decide)]) (fun j hj => hw2.2.2 j (by omega)) hB
  have e26 : w2.2.1 26 = w.2.1 26 := hw2.2.2 26 (by decide)
  have eT : ∀ i, i < nr → rlT w2 rp cl 2 i = rlT w rp cl 2 i := fun i hi => by
    have h3 := (hB.2.2 i hi).2.2.1
    unfold rlT
    rw [hw2.2.2 (rp i) (by omega), e26]
  refine g_if_eq (tgt := 20) h dX5_letsWork_5 (by decide) (by first | assumption | exact ⟨by omega, by omega⟩) (fun c5 => ?_) (fun c5 => ?_)
  · refine g_iconst h dX5_letsWork_20 ?_
    refine g_zret h hQ (by first | decide | omega | (simp only [clS]; omega)) (by first | decide | omega | (simp only [clS]; omega)) (by omega) ?_ dX5_letsWork_21
    refine ⟨?_, by assumption⟩
    simp only [b01_z, ne_eq, Bool.not_eq_false] at c5
    (try simp only [b01_z, ne_eq, Bool.not_eq_false] at c13)
    (try rw [c13])
    rw [c5]
    first | rfl | simp [b01]
  · refine g_aload_n h dX5_letsWork_8 rfl ?_
    refine g_iconst h dX5_letsWork_9 ?_
    refine g_callV h rfl (ci := 5) [_] (by assumption) (c_X5_someHolds _ _ nr rp rc cl 2 (XS_of hw2.1 hw2.2.1 hX) hB2 ⟨by decide, by decide⟩ (by rw [e26]; exact hnb)) clX5_71 (by decide) rfl in_X5_someHolds se_X5_someHolds rfl rfl (by rw [hRm]; first | decide | (simp only [clS]; omega)) (by rw [hRm]; first | decide | (simp only [clS]; omega)) (fun _ => Nat.le_of_ble_eq_true rfl) (by rw [hRm]; first | decide | (simp only [clS]; omega)) (by rw [hRm]; first | decide | (simp only [clS]; omega)) dX5_letsWork_10 (fun r10 w10 hp10 => ?_)
    obtain ⟨rfl, hw10⟩ := hp10
    rw [anyB_congr nr eT]
    have h2 := b01_01 (anyB (rlT w rp cl 2) nr)
    have hFF : F1 27 w w10 := ⟨hw10.1.trans hw2.1, hw10.2.1.trans hw2.2.1, fun j hj => (hw10.2.2 j hj).trans (hw2.2.2 j hj)⟩
    refine g_if_ne (tgt := 20) h dX5_letsWork_13 (by decide) (by first | assumption | exact ⟨by omega, by omega⟩) (fun c13 => ?_) (fun c13 => ?_)
    · refine g_iconst h dX5_letsWork_20 ?_
      refine g_zret h hQ (by first | decide | omega | (simp only [clS]; omega)) (by first | decide | omega | (simp only [clS]; omega)) (by omega) ?_ dX5_letsWork_21
      refine ⟨?_, by assumption⟩
      simp only [b01_z, ne_eq, Bool.not_eq_false] at c5
      (try simp only [b01_z, ne_eq, Bool.not_eq_false] at c13)
      (try rw [c13])
      rw [c5]
      first | rfl | simp [b01]
    · refine g_iconst h dX5_letsWork_16 ?_
      refine g_goto (tgt := 21) h dX5_letsWork_17 (by decide) ?_
      refine g_zret h hQ (by first | decide | omega | (simp only [clS]; omega)) (by first | decide | omega | (simp only [clS]; omega)) (by omega) ?_ dX5_letsWork_21
      refine ⟨?_, by assumption⟩
      simp only [b01_z, ne_eq, Bool.not_eq_false] at c5
      (try simp only [b01_z, ne_eq, Bool.not_eq_false] at c13)
      (try rw [c13])
      rw [c5]
      first | rfl | simp [b01]
