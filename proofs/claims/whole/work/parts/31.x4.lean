/-! ===== the class: layers told, strings ===== -/
theorem ite01 (p : Prop) [Decidable p] : (if p then (1 : Int) else 0) = 1 ∧ p ∨ (if p then (1 : Int) else 0) = 0 ∧ ¬ p := by
  by_cases c : p
  · exact Or.inl ⟨if_pos c, c⟩
  · exact Or.inr ⟨if_neg c, c⟩
set_option maxRecDepth 100000 in
set_option maxHeartbeats 4000000 in
theorem c_X9_layer (l : Launch) (w : AW) (n : Nat → Nat) (q : Nat → Nat → Nat) (S rn sn : Nat) (z i g t s : Int) (hW : WI w n q S rn sn) (hzr : R32 z) (hir : R32 i) (hg : R32 g) (ht : R32 t) (hs : R32 s) : HT l yX9_layer cX9_layer 7 (some .boolean) 3 0 0 w [ar 0, ai z, ai i, ai g, ai t, ai s] (fun r w' => (¬ (0 ≤ z ∧ z < 2 ∧ 0 ≤ i ∧ i < 10) → r = some (ai 0) ∧ w' = upI w 0 16 1) ∧ (0 ≤ z ∧ z < 2 ∧ 0 ≤ i ∧ i < 10 → ¬ (0 ≤ g ∧ g ≤ 100000 ∧ 0 ≤ t ∧ t ≤ 400 ∧ 0 ≤ s ∧ s ≤ 1000) → r = some (ai 0) ∧ w' = upI w 0 16 2) ∧ (0 ≤ z ∧ z < 2 ∧ 0 ≤ i ∧ i < 10 → 0 ≤ g ∧ g ≤ 100000 ∧ 0 ≤ t ∧ t ≤ 400 ∧ 0 ≤ s ∧ s ≤ 1000 → r = some (ai 1) ∧ w' = upI (tlW w z.toNat i.toNat g t s) 0 16 0)) := by
  refine HT.of (by decide) (by intro v hv; simp only [List.mem_cons, List.not_mem_nil, or_false] at hv; rcases hv with rfl | rfl | rfl | rfl | rfl | rfl <;> rfl) (Nat.le_of_ble_eq_true rfl) ?_
  intro Γ h hQ hRm hnm hl hw0
  obtain ⟨hX, hS, hLk, hSI, t0, t1⟩ := id hW
  have s0 : w.1 0 = (109, 0) := hX.1 0 (by decide)
  by_cases hz : 0 ≤ z ∧ z < 2
  · have hl := lkA_some hz
    have hLK := XS_LK hX z.toNat (by omega)
    have kL := hLK.2.1
    obtain ⟨hN, hP, hq5⟩ := hLk z.toNat (by omega)
    refine g_aload_n h dX9_layer_0 rfl ?_
    refine g_iload_n h dX9_layer_1 rfl ?_
    refine g_callV h rfl (ci := 9) [_] (by assumption) (c_X9_lakeAt _ _ _ hX hzr) clX9_66 (by decide) rfl in_X9_lakeAt se_X9_lakeAt rfl rfl (by rw [hRm]; first | decide | (simp only [clS]; omega)) (by rw [hRm]; first | decide | (simp only [clS]; omega)) (fun _ => Nat.le_of_ble_eq_true rfl) (by rw [hRm]; first | decide | (simp only [clS]; omega)) (by rw [hRm]; first | decide | (simp only [clS]; omega)) dX9_layer_2 (fun r2 w2 hp2 => ?_)
    obtain ⟨rfl, hw2⟩ := hp2
    rw [hw2, hl]
    refine g_astore h dX9_layer_5 (Nat.le_of_ble_eq_true rfl) rfl rfl ?_
    refine g_aload h dX9_layer_7 rfl ?_
    refine g_ifnull (tgt := 19) h dX9_layer_9 (by decide) (fun c => by cases c) (fun _ c => ?_)
    refine g_iload_n h dX9_layer_12 rfl ?_
    refine g_callS h rfl [_] (c_X9_isLayer _ _ _ hir) clX9_70 st_X9_isLayer rfl rfl (by rw [hRm]; first | decide | (simp only [clS]; omega)) (by rw [hRm]; first | decide | (simp only [clS]; omega)) (fun _ => Nat.le_of_ble_eq_true rfl) (by rw [hRm]; first | decide | (simp only [clS]; omega)) (by rw [hRm]; first | decide | (simp only [clS]; omega)) dX9_layer_13 (fun r13 w13 hp13 => ?_)
    obtain ⟨rfl, hw13⟩ := hp13
    rw [hw13]
    have hbw13 := ite01 (0 ≤ i ∧ i < 10)
    refine g_if_ne (tgt := 25) h dX9_layer_16 (by decide) (by first | assumption | exact ⟨by omega, by omega⟩) (fun c16 => ?_) (fun c16 => ?_)
    · refine g_iload_n h dX9_layer_25 rfl ?_
      refine g_iconst h dX9_layer_26 ?_
      refine g_ldc h kcX9_77 dX9_layer_27 ?_
      refine g_callS h rfl [_, _, _] (c_X9_isWithin _ _ _ _ _ hg ⟨by omega, by omega⟩ ⟨by omega, by omega⟩) clX9_78 st_X9_isWithin rfl rfl (by rw [hRm]; first | decide | (simp only [clS]; omega)) (by rw [hRm]; first | decide | (simp only [clS]; omega)) (fun _ => Nat.le_of_ble_eq_true rfl) (by rw [hRm]; first | decide | (simp only [clS]; omega)) (by rw [hRm]; first | decide | (simp only [clS]; omega)) dX9_layer_29 (fun r29 w29 hp29 => ?_)
      obtain ⟨rfl, hw29⟩ := hp29
      rw [hw29]
      have hbw29 := ite01 ((0 : Int) ≤ g ∧ g ≤ 100000)
      refine g_if_eq (tgt := 59) h dX9_layer_32 (by decide) (by first | assumption | exact ⟨by omega, by omega⟩) (fun c32 => ?_) (fun c32 => ?_)
      · refine g_aload_n h dX9_layer_59 rfl ?_
        refine g_iconst h dX9_layer_60 ?_
        refine g_callV h rfl (ci := 9) [_] (by assumption) (c_X9_denied _ _ _ hX) clX9_74 (by decide) rfl in_X9_denied se_X9_denied rfl rfl (by rw [hRm]; first | decide | (simp only [clS]; omega)) (by rw [hRm]; first | decide | (simp only [clS]; omega)) (fun _ => Nat.le_of_ble_eq_true rfl) (by rw [hRm]; first | decide | (simp only [clS]; omega)) (by rw [hRm]; first | decide | (simp only [clS]; omega)) dX9_layer_61 (fun r61 w61 hp61 => ?_)
        obtain ⟨rfl, hw61⟩ := hp61
        rw [hw61]
        refine g_zret h hQ (by first | decide | omega | (simp only [clS]; omega)) (by first | decide | omega | (simp only [clS]; omega)) (by omega) ?_ dX9_layer_64
        exact ⟨fun q => absurd (by omega) q, fun _ _ => ⟨rfl, rfl⟩, fun _ q => absurd q (by omega)⟩
      · refine g_iload h dX9_layer_35 rfl ?_
        refine g_iconst h dX9_layer_37 ?_
        refine g_sipush h dX9_layer_38 rfl ?_
        refine g_callS h rfl [_, _, _] (c_X9_isWithin _ _ _ _ _ ht ⟨by omega, by omega⟩ ⟨by omega, by omega⟩) clX9_78 st_X9_isWithin rfl rfl (by rw [hRm]; first | decide | (simp only [clS]; omega)) (by rw [hRm]; first | decide | (simp only [clS]; omega)) (fun _ => Nat.le_of_ble_eq_true rfl) (by rw [hRm]; first | decide | (simp only [clS]; omega)) (by rw [hRm]; first | decide | (simp only [clS]; omega)) dX9_layer_41 (fun r41 w41 hp41 => ?_)
        obtain ⟨rfl, hw41⟩ := hp41
        rw [hw41]
        have hbw41 := ite01 ((0 : Int) ≤ t ∧ t ≤ 400)
        refine g_if_eq (tgt := 59) h dX9_layer_44 (by decide) (by first | assumption | exact ⟨by omega, by omega⟩) (fun c44 => ?_) (fun c44 => ?_)
        · refine g_aload_n h dX9_layer_59 rfl ?_
          refine g_iconst h dX9_layer_60 ?_
          refine g_callV h rfl (ci := 9) [_] (by assumption) (c_X9_denied _ _ _ hX) clX9_74 (by decide) rfl in_X9_denied se_X9_denied rfl rfl (by rw [hRm]; first | decide | (simp only [clS]; omega)) (by rw [hRm]; first | decide | (simp only [clS]; omega)) (fun _ => Nat.le_of_ble_eq_true rfl) (by rw [hRm]; first | decide | (simp only [clS]; omega)) (by rw [hRm]; first | decide | (simp only [clS]; omega)) dX9_layer_61 (fun r61 w61 hp61 => ?_)
          obtain ⟨rfl, hw61⟩ := hp61
          rw [hw61]
          refine g_zret h hQ (by first | decide | omega | (simp only [clS]; omega)) (by first | decide | omega | (simp only [clS]; omega)) (by omega) ?_ dX9_layer_64
          exact ⟨fun q => absurd (by omega) q, fun _ _ => ⟨rfl, rfl⟩, fun _ q => absurd q (by omega)⟩
        · refine g_iload h dX9_layer_47 rfl ?_
          refine g_iconst h dX9_layer_49 ?_
          refine g_sipush h dX9_layer_50 rfl ?_
          refine g_callS h rfl [_, _, _] (c_X9_isWithin _ _ _ _ _ hs ⟨by omega, by omega⟩ ⟨by omega, by omega⟩) clX9_78 st_X9_isWithin rfl rfl (by rw [hRm]; first | decide | (simp only [clS]; omega)) (by rw [hRm]; first | decide | (simp only [clS]; omega)) (fun _ => Nat.le_of_ble_eq_true rfl) (by rw [hRm]; first | decide | (simp only [clS]; omega)) (by rw [hRm]; first | decide | (simp only [clS]; omega)) dX9_layer_53 (fun r53 w53 hp53 => ?_)
          obtain ⟨rfl, hw53⟩ := hp53
          rw [hw53]
          have hbw53 := ite01 ((0 : Int) ≤ s ∧ s ≤ 1000)
          refine g_if_ne (tgt := 65) h dX9_layer_56 (by decide) (by first | assumption | exact ⟨by omega, by omega⟩) (fun c56 => ?_) (fun c56 => ?_)
          · obtain ⟨im, rfl⟩ : ∃ m : Nat, i = (m : Int) := ⟨i.toNat, by omega⟩
            simp only [Int.toNat_natCast] at *
            refine g_aload h dX9_layer_65 rfl ?_
            refine g_iload_n h dX9_layer_67 rfl ?_
            refine g_iload_n h dX9_layer_68 rfl ?_
            refine g_iload h dX9_layer_69 rfl ?_
            refine g_iload h dX9_layer_71 rfl ?_
            refine g_callV h rfl (ci := 2) [_, _, _, _] (by assumption) (c_X2_tellLayer _ _ z.toNat im g t s hLK (by omega)) clX9_82 (by decide) rfl in_X2_tellLayer se_X2_tellLayer rfl rfl (by rw [hRm]; first | decide | (simp only [clS]; omega)) (by rw [hRm]; first | decide | (simp only [clS]; omega)) (fun _ => Nat.le_of_ble_eq_true rfl) (by rw [hRm]; first | decide | (simp only [clS]; omega)) (by rw [hRm]; first | decide | (simp only [clS]; omega)) dX9_layer_73 (fun r73 w73 hp73 => ?_)
            obtain ⟨rfl, hw73⟩ := hp73
            rw [hw73]
            refine g_aload_n h dX9_layer_76 rfl ?_
            refine g_callV h rfl (ci := 9) [] (by assumption) (c_X9_granted _ _ hX) clX9_86 (by decide) rfl in_X9_granted se_X9_granted rfl rfl (by rw [hRm]; first | decide | (simp only [clS]; omega)) (by rw [hRm]; first | decide | (simp only [clS]; omega)) (fun _ => Nat.le_of_ble_eq_true rfl) (by rw [hRm]; first | decide | (simp only [clS]; omega)) (by rw [hRm]; first | decide | (simp only [clS]; omega)) dX9_layer_77 (fun r77 w77 hp77 => ?_)
            obtain ⟨rfl, hw77⟩ := hp77
            rw [hw77]
            refine g_zret h hQ (by first | decide | omega | (simp only [clS]; omega)) (by first | decide | omega | (simp only [clS]; omega)) (by omega) ?_ dX9_layer_80
            exact ⟨fun q => absurd (by omega) q, fun _ q => absurd (by omega) q, fun _ _ => ⟨rfl, rfl⟩⟩
          · refine g_aload_n h dX9_layer_59 rfl ?_
            refine g_iconst h dX9_layer_60 ?_
            refine g_callV h rfl (ci := 9) [_] (by assumption) (c_X9_denied _ _ _ hX) clX9_74 (by decide) rfl in_X9_denied se_X9_denied rfl rfl (by rw [hRm]; first | decide | (simp only [clS]; omega)) (by rw [hRm]; first | decide | (simp only [clS]; omega)) (fun _ => Nat.le_of_ble_eq_true rfl) (by rw [hRm]; first | decide | (simp only [clS]; omega)) (by rw [hRm]; first | decide | (simp only [clS]; omega)) dX9_layer_61 (fun r61 w61 hp61 => ?_)
            obtain ⟨rfl, hw61⟩ := hp61
            rw [hw61]
            refine g_zret h hQ (by first | decide | omega | (simp only [clS]; omega)) (by first | decide | omega | (simp only [clS]; omega)) (by omega) ?_ dX9_layer_64
            exact ⟨fun q => absurd (by omega) q, fun _ _ => ⟨rfl, rfl⟩, fun _ q => absurd q (by omega)⟩
    · refine g_aload_n h dX9_layer_19 rfl ?_
      refine g_iconst h dX9_layer_20 ?_
      refine g_callV h rfl (ci := 9) [_] (by assumption) (c_X9_denied _ _ _ hX) clX9_74 (by decide) rfl in_X9_denied se_X9_denied rfl rfl (by rw [hRm]; first | decide | (simp only [clS]; omega)) (by rw [hRm]; first | decide | (simp only [clS]; omega)) (fun _ => Nat.le_of_ble_eq_true rfl) (by rw [hRm]; first | decide | (simp only [clS]; omega)) (by rw [hRm]; first | decide | (simp only [clS]; omega)) dX9_layer_21 (fun r21 w21 hp21 => ?_)
      obtain ⟨rfl, hw21⟩ := hp21
      rw [hw21]
      refine g_zret h hQ (by first | decide | omega | (simp only [clS]; omega)) (by first | decide | omega | (simp only [clS]; omega)) (by omega) ?_ dX9_layer_24
      exact ⟨fun _ => ⟨rfl, rfl⟩, fun q => absurd q (by omega), fun q => absurd q (by omega)⟩
  · have hl := lkA_none hz
    refine g_aload_n h dX9_layer_0 rfl ?_
    refine g_iload_n h dX9_layer_1 rfl ?_
    refine g_callV h rfl (ci := 9) [_] (by assumption) (c_X9_lakeAt _ _ _ hX hzr) clX9_66 (by decide) rfl in_X9_lakeAt se_X9_lakeAt rfl rfl (by rw [hRm]; first | decide | (simp only [clS]; omega)) (by rw [hRm]; first | decide | (simp only [clS]; omega)) (fun _ => Nat.le_of_ble_eq_true rfl) (by rw [hRm]; first | decide | (simp only [clS]; omega)) (by rw [hRm]; first | decide | (simp only [clS]; omega)) dX9_layer_2 (fun r2 w2 hp2 => ?_)
    obtain ⟨rfl, hw2⟩ := hp2
    rw [hw2, hl]
    refine g_astore h dX9_layer_5 (Nat.le_of_ble_eq_true rfl) rfl rfl ?_
    refine g_aload h dX9_layer_7 rfl ?_
    refine g_ifnull (tgt := 19) h dX9_layer_9 (by decide) (fun c => ?_) (fun _ c => by cases c)
    refine g_aload_n h dX9_layer_19 rfl ?_
    refine g_iconst h dX9_layer_20 ?_
    refine g_callV h rfl (ci := 9) [_] (by assumption) (c_X9_denied _ _ _ hX) clX9_74 (by decide) rfl in_X9_denied se_X9_denied rfl rfl (by rw [hRm]; first | decide | (simp only [clS]; omega)) (by rw [hRm]; first | decide | (simp only [clS]; omega)) (fun _ => Nat.le_of_ble_eq_true rfl) (by rw [hRm]; first | decide | (simp only [clS]; omega)) (by rw [hRm]; first | decide | (simp only [clS]; omega)) dX9_layer_21 (fun r21 w21 hp21 => ?_)
    obtain ⟨rfl, hw21⟩ := hp21
    rw [hw21]
    refine g_zret h hQ (by first | decide | omega | (simp only [clS]; omega)) (by first | decide | omega | (simp only [clS]; omega)) (by omega) ?_ dX9_layer_24
    exact ⟨fun _ => ⟨rfl, rfl⟩, fun q => absurd q (by omega), fun q => absurd q (by omega)⟩
/-- how many of the first n strings of a lake are dead -/
def dsF (w : AW) (L rn : Nat) : Nat → Int
  | 0 => 0
  | n + 1 => dsF w L rn n + (if laF w ((L : Int) * 10 + (n : Int)) (w.2.1 0 13) rn = none then 1 else 0)
set_option maxRecDepth 100000 in
set_option maxHeartbeats 4000000 in
theorem c_X9_deadStrings (l : Launch) (w : AW) (n : Nat → Nat) (q : Nat → Nat → Nat) (S rn sn : Nat) (L : Nat) (hW : WI w n q S rn sn) (hL : L < 2) : HT l yX9_deadStrings cX9_deadStrings 4 (some .int) 4 0 0 w [ar 0, ai (L : Int)] (rI (dsF w L rn 10) w) := by
  refine HT.of (by decide) (by intro v hv; simp only [List.mem_cons, List.not_mem_nil, or_false] at hv; rcases hv with rfl | rfl <;> rfl) (Nat.le_of_ble_eq_true rfl) ?_
  intro Γ h hQ hRm hnm hl hw0
  obtain ⟨hX, hS, hLk, hSI, t0, t1⟩ := id hW
  have s0 : w.1 0 = (109, 0) := hX.1 0 (by decide)
  have s28 : w.1 28 = (107, 0) := hX.1 28 (by decide)
  have p0_9 : w.2.2 0 9 = some 28 := hX.2 (0, 9, 28) (by decide)
  have loop : ∀ (d i : Nat), i + d = 10 → GG Γ 4 [some (ar 0), some (ai (L : Int)), some (ai (dsF w L rn i)), some (ai (i : Int))] [] w 0 0 := by
    intro d
    induction d with
    | zero =>
      intro i hi
      obtain rfl : i = 10 := by omega
      refine g_iload_n h dX9_deadStrings_4 rfl ?_
      refine g_bipush h dX9_deadStrings_5 rfl ?_
      refine g_icmp_ge (tgt := 38) h dX9_deadStrings_7 (by decide) (by first | assumption | exact ⟨by omega, by omega⟩) (by first | assumption | exact ⟨by omega, by omega⟩) (fun c7 => ?_) (fun c7 => ?_)
      · refine g_iload_n h dX9_deadStrings_38 rfl ?_
        refine g_iret h hQ (by first | decide | omega | (simp only [clS]; omega)) (by first | decide | omega | (simp only [clS]; omega)) ?_ dX9_deadStrings_39
        (first | exact ⟨rfl, rfl⟩ | (exfalso; omega))
      · exfalso; omega
    | succ d ih =>
      intro i hi
      have hs := ite01 (laF w ((L : Int) * 10 + (i : Int)) (w.2.1 0 13) rn = none)
      have hd : dsF w L rn (i + 1) = dsF w L rn i + (if laF w ((L : Int) * 10 + (i : Int)) (w.2.1 0 13) rn = none then 1 else 0) := rfl
      refine g_iload_n h dX9_deadStrings_4 rfl ?_
      refine g_bipush h dX9_deadStrings_5 rfl ?_
      refine g_icmp_ge (tgt := 38) h dX9_deadStrings_7 (by decide) (by first | assumption | exact ⟨by omega, by omega⟩) (by first | assumption | exact ⟨by omega, by omega⟩) (fun c7 => ?_) (fun c7 => ?_)
      · exfalso; omega
      · refine g_aload_n h dX9_deadStrings_10 rfl ?_
        refine g_getQ h flX9_45 rfl (by assumption) (by assumption) dX9_deadStrings_11 ?_
        refine g_iload_n h dX9_deadStrings_14 rfl ?_
        refine g_iload_n h dX9_deadStrings_15 rfl ?_
        refine g_callS h rfl [_, _] (c_X9_stringOf _ _ _ _) clX9_117 st_X9_stringOf rfl rfl (by rw [hRm]; first | decide | (simp only [clS]; omega)) (by rw [hRm]; first | decide | (simp only [clS]; omega)) (fun _ => Nat.le_of_ble_eq_true rfl) (by rw [hRm]; first | decide | (simp only [clS]; omega)) (by rw [hRm]; first | decide | (simp only [clS]; omega)) dX9_deadStrings_16 (fun r16 w16 hp16 => ?_)
        obtain ⟨rfl, hw16⟩ := hp16
        rw [hw16]
        refine g_aload_n h dX9_deadStrings_19 rfl ?_
        refine g_getI h flX9_121 rfl (by assumption) dX9_deadStrings_20 ?_
        refine g_callV h rfl (ci := 7) [_, _] (by assumption) (c_X7_isDead _ _ rn sn _ _ hX hSI ⟨by omega, by omega⟩ (by omega) (by omega)) clX9_128 (by decide) rfl in_X7_isDead se_X7_isDead rfl rfl (by rw [hRm]; first | decide | (simp only [clS]; omega)) (by rw [hRm]; first | decide | (simp only [clS]; omega)) (fun _ => Nat.le_of_ble_eq_true rfl) (by rw [hRm]; first | decide | (simp only [clS]; omega)) (by rw [hRm]; first | decide | (simp only [clS]; omega)) dX9_deadStrings_23 (fun r23 w23 hp23 => ?_)
        obtain ⟨rfl, hw23⟩ := hp23
        rw [hw23]
        refine g_if_eq (tgt := 32) h dX9_deadStrings_26 (by decide) (by first | assumption | exact ⟨by omega, by omega⟩) (fun c26 => ?_) (fun c26 => ?_)
        · refine g_iinc h dX9_deadStrings_32 rfl (Nat.le_of_ble_eq_true rfl) rfl rfl ?_
          refine g_goto (tgt := 4) h dX9_deadStrings_35 (by decide) ?_
          have h4 := ih (i + 1) (by omega)
          rw [hd] at h4
          first
          | (rw [show (if laF w ((L : Int) * 10 + (i : Int)) (w.2.1 0 13) rn = none then (1 : Int) else 0) = 1 by omega] at h4; exact h4)
          | (rw [show (if laF w ((L : Int) * 10 + (i : Int)) (w.2.1 0 13) rn = none then (1 : Int) else 0) = 0 by omega, Int.add_zero] at h4; exact h4)
        · refine g_iinc h dX9_deadStrings_29 rfl (Nat.le_of_ble_eq_true rfl) rfl rfl ?_
          refine g_iinc h dX9_deadStrings_32 rfl (Nat.le_of_ble_eq_true rfl) rfl rfl ?_
          refine g_goto (tgt := 4) h dX9_deadStrings_35 (by decide) ?_
          have h4 := ih (i + 1) (by omega)
          rw [hd] at h4
          first
          | (rw [show (if laF w ((L : Int) * 10 + (i : Int)) (w.2.1 0 13) rn = none then (1 : Int) else 0) = 1 by omega] at h4; exact h4)
          | (rw [show (if laF w ((L : Int) * 10 + (i : Int)) (w.2.1 0 13) rn = none then (1 : Int) else 0) = 0 by omega, Int.add_zero] at h4; exact h4)
  refine g_iconst h dX9_deadStrings_0 ?_
  refine g_istore_n h dX9_deadStrings_1 (Nat.le_of_ble_eq_true rfl) rfl rfl ?_
  refine g_iconst h dX9_deadStrings_2 ?_
  refine g_istore_n h dX9_deadStrings_3 (Nat.le_of_ble_eq_true rfl) rfl rfl ?_
  exact loop 10 0 (by omega)
set_option maxRecDepth 100000 in
set_option maxHeartbeats 4000000 in
theorem c_X9_known (l : Launch) (w : AW) (n : Nat → Nat) (q : Nat → Nat → Nat) (S rn sn : Nat) (z i a : Int) (hW : WI w n q S rn sn) (hzr : R32 z) (hir : R32 i) (har : R32 a) : HT l yX9_known cX9_known 5 (some .int) 5 0 0 w [ar 0, ai z, ai i, ai a] (fun r w' => w' = w ∧ (¬ (0 ≤ z ∧ z < 2 ∧ 0 ≤ i ∧ i < 10 ∧ 0 ≤ a ∧ a ≤ w.2.1 0 13) → r = some (ai (-2147483648))) ∧ (0 ≤ z ∧ z < 2 ∧ 0 ≤ i ∧ i < 10 ∧ 0 ≤ a ∧ a ≤ w.2.1 0 13 → r = some (ai (tgW w (z * 10 + i) a (holdsW w z.toNat i.toNat) rn sn)))) := by
  refine HT.of (by decide) (by intro v hv; simp only [List.mem_cons, List.not_mem_nil, or_false] at hv; rcases hv with rfl | rfl | rfl | rfl <;> rfl) (Nat.le_of_ble_eq_true rfl) ?_
  intro Γ h hQ hRm hnm hl hw0
  obtain ⟨hX, hS, hLk, hSI, t0, t1⟩ := id hW
  have s0 : w.1 0 = (109, 0) := hX.1 0 (by decide)
  have s28 : w.1 28 = (107, 0) := hX.1 28 (by decide)
  have p0_9 : w.2.2 0 9 = some 28 := hX.2 (0, 9, 28) (by decide)
  by_cases hz : 0 ≤ z ∧ z < 2
  · have hl := lkA_some hz
    have hLK := XS_LK hX z.toNat (by omega)
    have kL := hLK.2.1
    obtain ⟨hN, hP, hq5⟩ := hLk z.toNat (by omega)
    refine g_aload_n h dX9_known_0 rfl ?_
    refine g_iload_n h dX9_known_1 rfl ?_
    refine g_callV h rfl (ci := 9) [_] (by assumption) (c_X9_lakeAt _ _ _ hX hzr) clX9_66 (by decide) rfl in_X9_lakeAt se_X9_lakeAt rfl rfl (by rw [hRm]; first | decide | (simp only [clS]; omega)) (by rw [hRm]; first | decide | (simp only [clS]; omega)) (fun _ => Nat.le_of_ble_eq_true rfl) (by rw [hRm]; first | decide | (simp only [clS]; omega)) (by rw [hRm]; first | decide | (simp only [clS]; omega)) dX9_known_2 (fun r2 w2 hp2 => ?_)
    obtain ⟨rfl, hw2⟩ := hp2
    rw [hw2, hl]
    refine g_astore h dX9_known_5 (Nat.le_of_ble_eq_true rfl) rfl rfl ?_
    refine g_aload h dX9_known_7 rfl ?_
    refine g_ifnull (tgt := 31) h dX9_known_9 (by decide) (fun c => by cases c) (fun _ c => ?_)
    refine g_iload_n h dX9_known_12 rfl ?_
    refine g_callS h rfl [_] (c_X9_isLayer _ _ _ hir) clX9_70 st_X9_isLayer rfl rfl (by rw [hRm]; first | decide | (simp only [clS]; omega)) (by rw [hRm]; first | decide | (simp only [clS]; omega)) (fun _ => Nat.le_of_ble_eq_true rfl) (by rw [hRm]; first | decide | (simp only [clS]; omega)) (by rw [hRm]; first | decide | (simp only [clS]; omega)) dX9_known_13 (fun r13 w13 hp13 => ?_)
    obtain ⟨rfl, hw13⟩ := hp13
    rw [hw13]
    have hbw13 := ite01 (0 ≤ i ∧ i < 10)
    refine g_if_eq (tgt := 31) h dX9_known_16 (by decide) (by first | assumption | exact ⟨by omega, by omega⟩) (fun c16 => ?_) (fun c16 => ?_)
    · refine g_ldc h kcX9_100 dX9_known_31 ?_
      refine g_iret h hQ (by first | decide | omega | (simp only [clS]; omega)) (by first | decide | omega | (simp only [clS]; omega)) ?_ dX9_known_33
      exact ⟨rfl, fun _ => rfl, fun q => absurd q (by omega)⟩
    · refine g_iload_n h dX9_known_19 rfl ?_
      refine g_iconst h dX9_known_20 ?_
      refine g_aload_n h dX9_known_21 rfl ?_
      refine g_getI h flX9_121 rfl (by assumption) dX9_known_22 ?_
      refine g_callS h rfl [_, _, _] (c_X9_isWithin _ _ _ _ _ har ⟨by omega, by omega⟩ ⟨by omega, by omega⟩) clX9_78 st_X9_isWithin rfl rfl (by rw [hRm]; first | decide | (simp only [clS]; omega)) (by rw [hRm]; first | decide | (simp only [clS]; omega)) (fun _ => Nat.le_of_ble_eq_true rfl) (by rw [hRm]; first | decide | (simp only [clS]; omega)) (by rw [hRm]; first | decide | (simp only [clS]; omega)) dX9_known_25 (fun r25 w25 hp25 => ?_)
      obtain ⟨rfl, hw25⟩ := hp25
      rw [hw25]
      have hbw25 := ite01 ((0 : Int) ≤ a ∧ a ≤ w.2.1 0 13)
      refine g_if_ne (tgt := 34) h dX9_known_28 (by decide) (by first | assumption | exact ⟨by omega, by omega⟩) (fun c28 => ?_) (fun c28 => ?_)
      · obtain ⟨im, rfl⟩ : ∃ m : Nat, i = (m : Int) := ⟨i.toNat, by omega⟩
        simp only [Int.toNat_natCast] at *
        refine g_aload_n h dX9_known_34 rfl ?_
        refine g_getQ h flX9_45 rfl (by assumption) (by assumption) dX9_known_35 ?_
        refine g_iload_n h dX9_known_38 rfl ?_
        refine g_iload_n h dX9_known_39 rfl ?_
        refine g_callS h rfl [_, _] (c_X9_stringOf _ _ _ _) clX9_117 st_X9_stringOf rfl rfl (by rw [hRm]; first | decide | (simp only [clS]; omega)) (by rw [hRm]; first | decide | (simp only [clS]; omega)) (fun _ => Nat.le_of_ble_eq_true rfl) (by rw [hRm]; first | decide | (simp only [clS]; omega)) (by rw [hRm]; first | decide | (simp only [clS]; omega)) dX9_known_40 (fun r40 w40 hp40 => ?_)
        obtain ⟨rfl, hw40⟩ := hp40
        rw [hw40]
        refine g_iload_n h dX9_known_43 rfl ?_
        refine g_aload h dX9_known_44 rfl ?_
        refine g_iload_n h dX9_known_46 rfl ?_
        refine g_callV h rfl (ci := 2) [_] (by assumption) (c_X2_holdsOf _ _ z.toNat im hLK hN (by omega)) clX9_114 (by decide) rfl in_X2_holdsOf se_X2_holdsOf rfl rfl (by rw [hRm]; first | decide | (simp only [clS]; omega)) (by rw [hRm]; first | decide | (simp only [clS]; omega)) (fun _ => Nat.le_of_ble_eq_true rfl) (by rw [hRm]; first | decide | (simp only [clS]; omega)) (by rw [hRm]; first | decide | (simp only [clS]; omega)) dX9_known_47 (fun r47 w47 hp47 => ?_)
        obtain ⟨rfl, hw47⟩ := hp47
        rw [hw47]
        refine g_callV h rfl (ci := 7) [_, _, _] (by assumption) (c_X7_toldGas _ _ rn sn _ _ _ hX hSI ⟨by omega, by omega⟩ (by omega) (by omega)) clX9_124 (by decide) rfl in_X7_toldGas se_X7_toldGas rfl rfl (by rw [hRm]; first | decide | (simp only [clS]; omega)) (by rw [hRm]; first | decide | (simp only [clS]; omega)) (fun _ => Nat.le_of_ble_eq_true rfl) (by rw [hRm]; first | decide | (simp only [clS]; omega)) (by rw [hRm]; first | decide | (simp only [clS]; omega)) dX9_known_50 (fun r50 w50 hp50 => ?_)
        obtain ⟨rfl, hw50⟩ := hp50
        rw [hw50]
        refine g_iret h hQ (by first | decide | omega | (simp only [clS]; omega)) (by first | decide | omega | (simp only [clS]; omega)) ?_ dX9_known_53
        exact ⟨rfl, fun q => absurd (by omega) q, fun _ => rfl⟩
      · refine g_ldc h kcX9_100 dX9_known_31 ?_
        refine g_iret h hQ (by first | decide | omega | (simp only [clS]; omega)) (by first | decide | omega | (simp only [clS]; omega)) ?_ dX9_known_33
        exact ⟨rfl, fun _ => rfl, fun q => absurd q (by omega)⟩
  · have hl := lkA_none hz
    refine g_aload_n h dX9_known_0 rfl ?_
    refine g_iload_n h dX9_known_1 rfl ?_
    refine g_callV h rfl (ci := 9) [_] (by assumption) (c_X9_lakeAt _ _ _ hX hzr) clX9_66 (by decide) rfl in_X9_lakeAt se_X9_lakeAt rfl rfl (by rw [hRm]; first | decide | (simp only [clS]; omega)) (by rw [hRm]; first | decide | (simp only [clS]; omega)) (fun _ => Nat.le_of_ble_eq_true rfl) (by rw [hRm]; first | decide | (simp only [clS]; omega)) (by rw [hRm]; first | decide | (simp only [clS]; omega)) dX9_known_2 (fun r2 w2 hp2 => ?_)
    obtain ⟨rfl, hw2⟩ := hp2
    rw [hw2, hl]
    refine g_astore h dX9_known_5 (Nat.le_of_ble_eq_true rfl) rfl rfl ?_
    refine g_aload h dX9_known_7 rfl ?_
    refine g_ifnull (tgt := 31) h dX9_known_9 (by decide) (fun c => ?_) (fun _ c => by cases c)
    refine g_ldc h kcX9_100 dX9_known_31 ?_
    refine g_iret h hQ (by first | decide | omega | (simp only [clS]; omega)) (by first | decide | omega | (simp only [clS]; omega)) ?_ dX9_known_33
    exact ⟨rfl, fun _ => rfl, fun q => absurd q (by omega)⟩
set_option maxRecDepth 100000 in
set_option maxHeartbeats 4000000 in
theorem c_X9_reading (l : Launch) (w : AW) (n : Nat → Nat) (q : Nat → Nat → Nat) (S rn sn : Nat) (z i g : Int) (hW : WI w n q S rn sn) (hzr : R32 z) (hir : R32 i) (hg : R32 g) : HT l yX9_reading cX9_reading 4 (some .boolean) 3 0 0 w [ar 0, ai z, ai i, ai g] (fun r w' => (¬ (0 ≤ z ∧ z < 2 ∧ 0 ≤ i ∧ i < 10) → r = some (ai 0) ∧ w' = upI w 0 16 1) ∧ (0 ≤ z ∧ z < 2 ∧ 0 ≤ i ∧ i < 10 → ¬ (0 ≤ g ∧ g ≤ 100000) → r = some (ai 0) ∧ w' = upI w 0 16 2) ∧ (0 ≤ z ∧ z < 2 ∧ 0 ≤ i ∧ i < 10 → 0 ≤ g ∧ g ≤ 100000 → 300 ≤ rn → r = some (ai 0) ∧ w' = upI w 0 16 3) ∧ (0 ≤ z ∧ z < 2 ∧ 0 ≤ i ∧ i < 10 → 0 ≤ g ∧ g ≤ 100000 → rn < 300 → r = some (ai 1) ∧ w' = upI (rdW w rn sn (z * 10 + i) (w.2.1 0 13) g) 0 16 0)) := by
  refine HT.of (by decide) (by intro v hv; simp only [List.mem_cons, List.not_mem_nil, or_false] at hv; rcases hv with rfl | rfl | rfl | rfl <;> rfl) (Nat.le_of_ble_eq_true rfl) ?_
  intro Γ h hQ hRm hnm hl hw0
  obtain ⟨hX, hS, hLk, hSI, t0, t1⟩ := id hW
  have s0 : w.1 0 = (109, 0) := hX.1 0 (by decide)
  have s28 : w.1 28 = (107, 0) := hX.1 28 (by decide)
  have p0_9 : w.2.2 0 9 = some 28 := hX.2 (0, 9, 28) (by decide)
  by_cases hz : 0 ≤ z ∧ z < 2
  · have hl := lkA_some hz
    have hLK := XS_LK hX z.toNat (by omega)
    have kL := hLK.2.1
    obtain ⟨hN, hP, hq5⟩ := hLk z.toNat (by omega)
    refine g_aload_n h dX9_reading_0 rfl ?_
    refine g_iload_n h dX9_reading_1 rfl ?_
    refine g_callV h rfl (ci := 9) [_] (by assumption) (c_X9_lakeAt _ _ _ hX hzr) clX9_66 (by decide) rfl in_X9_lakeAt se_X9_lakeAt rfl rfl (by rw [hRm]; first | decide | (simp only [clS]; omega)) (by rw [hRm]; first | decide | (simp only [clS]; omega)) (fun _ => Nat.le_of_ble_eq_true rfl) (by rw [hRm]; first | decide | (simp only [clS]; omega)) (by rw [hRm]; first | decide | (simp only [clS]; omega)) dX9_reading_2 (fun r2 w2 hp2 => ?_)
    obtain ⟨rfl, hw2⟩ := hp2
    rw [hw2, hl]
    refine g_ifnull (tgt := 15) h dX9_reading_5 (by decide) (fun c => by cases c) (fun _ c => ?_)
    refine g_iload_n h dX9_reading_8 rfl ?_
    refine g_callS h rfl [_] (c_X9_isLayer _ _ _ hir) clX9_70 st_X9_isLayer rfl rfl (by rw [hRm]; first | decide | (simp only [clS]; omega)) (by rw [hRm]; first | decide | (simp only [clS]; omega)) (fun _ => Nat.le_of_ble_eq_true rfl) (by rw [hRm]; first | decide | (simp only [clS]; omega)) (by rw [hRm]; first | decide | (simp only [clS]; omega)) dX9_reading_9 (fun r9 w9 hp9 => ?_)
    obtain ⟨rfl, hw9⟩ := hp9
    rw [hw9]
    have hbw9 := ite01 (0 ≤ i ∧ i < 10)
    refine g_if_ne (tgt := 21) h dX9_reading_12 (by decide) (by first | assumption | exact ⟨by omega, by omega⟩) (fun c12 => ?_) (fun c12 => ?_)
    · refine g_iload_n h dX9_reading_21 rfl ?_
      refine g_iconst h dX9_reading_22 ?_
      refine g_ldc h kcX9_77 dX9_reading_23 ?_
      refine g_callS h rfl [_, _, _] (c_X9_isWithin _ _ _ _ _ hg ⟨by omega, by omega⟩ ⟨by omega, by omega⟩) clX9_78 st_X9_isWithin rfl rfl (by rw [hRm]; first | decide | (simp only [clS]; omega)) (by rw [hRm]; first | decide | (simp only [clS]; omega)) (fun _ => Nat.le_of_ble_eq_true rfl) (by rw [hRm]; first | decide | (simp only [clS]; omega)) (by rw [hRm]; first | decide | (simp only [clS]; omega)) dX9_reading_25 (fun r25 w25 hp25 => ?_)
      obtain ⟨rfl, hw25⟩ := hp25
      rw [hw25]
      have hbw25 := ite01 ((0 : Int) ≤ g ∧ g ≤ 100000)
      refine g_if_ne (tgt := 37) h dX9_reading_28 (by decide) (by first | assumption | exact ⟨by omega, by omega⟩) (fun c28 => ?_) (fun c28 => ?_)
      · refine g_aload_n h dX9_reading_37 rfl ?_
        refine g_getQ h flX9_45 rfl (by assumption) (by assumption) dX9_reading_38 ?_
        refine g_iload_n h dX9_reading_41 rfl ?_
        refine g_iload_n h dX9_reading_42 rfl ?_
        refine g_callS h rfl [_, _] (c_X9_stringOf _ _ _ _) clX9_117 st_X9_stringOf rfl rfl (by rw [hRm]; first | decide | (simp only [clS]; omega)) (by rw [hRm]; first | decide | (simp only [clS]; omega)) (fun _ => Nat.le_of_ble_eq_true rfl) (by rw [hRm]; first | decide | (simp only [clS]; omega)) (by rw [hRm]; first | decide | (simp only [clS]; omega)) dX9_reading_43 (fun r43 w43 hp43 => ?_)
        obtain ⟨rfl, hw43⟩ := hp43
        rw [hw43]
        refine g_aload_n h dX9_reading_46 rfl ?_
        refine g_getI h flX9_121 rfl (by assumption) dX9_reading_47 ?_
        refine g_iload_n h dX9_reading_50 rfl ?_
        refine g_callV h rfl (ci := 7) [_, _, _] (by assumption) (c_X7_addReading _ _ rn sn _ _ _ hX hSI ⟨by omega, by omega⟩ ⟨by omega, by omega⟩ hg) clX9_286 (by decide) rfl in_X7_addReading se_X7_addReading rfl rfl (by rw [hRm]; first | decide | (simp only [clS]; omega)) (by rw [hRm]; first | decide | (simp only [clS]; omega)) (fun _ => Nat.le_of_ble_eq_true rfl) (by rw [hRm]; first | decide | (simp only [clS]; omega)) (by rw [hRm]; first | decide | (simp only [clS]; omega)) dX9_reading_51 (fun r51 w51 hp51 => ?_)
        have hX2 : XS w51 := by
          rcases hp51 with ⟨_, _, e⟩ | ⟨_, _, e⟩
          · rw [e]; exact XS_of rfl rfl hX
          · rw [e]; exact hX
        have s0b : _ = ((109 : Nat), (0 : Nat)) := hX2.1 0 (by decide)
        obtain ⟨bb, rfl, hb3⟩ : ∃ b : Int, r51 = some (ai b) ∧ ((b = 1 ∧ rn < 300 ∧ w51 = rdW w rn sn (z * 10 + i) (w.2.1 0 13) g) ∨ (b = 0 ∧ 300 ≤ rn ∧ w51 = w)) := by
          rcases hp51 with ⟨c1, c2, e⟩ | ⟨c1, c2, e⟩
          · exact ⟨1, c2, Or.inl ⟨rfl, c1, e⟩⟩
          · exact ⟨0, c2, Or.inr ⟨rfl, c1, e⟩⟩
        have hb4 : bb = 0 ∨ bb = 1 := by rcases hb3 with ⟨e, _⟩ | ⟨e, _⟩ <;> omega
        have hb5 : bb = 1 → rn < 300 ∧ w51 = rdW w rn sn (z * 10 + i) (w.2.1 0 13) g := fun e => by
          rcases hb3 with ⟨_, e2⟩ | ⟨e1, _⟩
          · exact e2
          · omega
        have hb6 : bb = 0 → 300 ≤ rn ∧ w51 = w := fun e => by
          rcases hb3 with ⟨e1, _⟩ | ⟨_, e2⟩
          · omega
          · exact e2
        refine g_if_ne (tgt := 63) h dX9_reading_54 (by decide) (by first | assumption | exact ⟨by omega, by omega⟩) (fun c54 => ?_) (fun c54 => ?_)
        · refine g_aload_n h dX9_reading_63 rfl ?_
          refine g_callV h rfl (ci := 9) [] (by assumption) (c_X9_granted _ _ hX2) clX9_86 (by decide) rfl in_X9_granted se_X9_granted rfl rfl (by rw [hRm]; first | decide | (simp only [clS]; omega)) (by rw [hRm]; first | decide | (simp only [clS]; omega)) (fun _ => Nat.le_of_ble_eq_true rfl) (by rw [hRm]; first | decide | (simp only [clS]; omega)) (by rw [hRm]; first | decide | (simp only [clS]; omega)) dX9_reading_64 (fun r64 w64 hp64 => ?_)
          obtain ⟨rfl, hw64⟩ := hp64
          rw [hw64]
          refine g_zret h hQ (by first | decide | omega | (simp only [clS]; omega)) (by first | decide | omega | (simp only [clS]; omega)) (by omega) ?_ dX9_reading_67
          obtain ⟨e1, rfl⟩ := hb5 (by omega)
          exact ⟨fun q => absurd (by omega) q, fun _ q => absurd (by omega) q, fun _ _ q => absurd q (by omega), fun _ _ _ => ⟨rfl, rfl⟩⟩
        · refine g_aload_n h dX9_reading_57 rfl ?_
          refine g_iconst h dX9_reading_58 ?_
          refine g_callV h rfl (ci := 9) [_] (by assumption) (c_X9_denied _ _ _ hX2) clX9_74 (by decide) rfl in_X9_denied se_X9_denied rfl rfl (by rw [hRm]; first | decide | (simp only [clS]; omega)) (by rw [hRm]; first | decide | (simp only [clS]; omega)) (fun _ => Nat.le_of_ble_eq_true rfl) (by rw [hRm]; first | decide | (simp only [clS]; omega)) (by rw [hRm]; first | decide | (simp only [clS]; omega)) dX9_reading_59 (fun r59 w59 hp59 => ?_)
          obtain ⟨rfl, hw59⟩ := hp59
          rw [hw59]
          refine g_zret h hQ (by first | decide | omega | (simp only [clS]; omega)) (by first | decide | omega | (simp only [clS]; omega)) (by omega) ?_ dX9_reading_62
          obtain ⟨e1, rfl⟩ := hb6 (by omega)
          exact ⟨fun q => absurd (by omega) q, fun _ q => absurd (by omega) q, fun _ _ _ => ⟨rfl, rfl⟩, fun _ _ q => absurd q (by omega)⟩
      · refine g_aload_n h dX9_reading_31 rfl ?_
        refine g_iconst h dX9_reading_32 ?_
        refine g_callV h rfl (ci := 9) [_] (by assumption) (c_X9_denied _ _ _ hX) clX9_74 (by decide) rfl in_X9_denied se_X9_denied rfl rfl (by rw [hRm]; first | decide | (simp only [clS]; omega)) (by rw [hRm]; first | decide | (simp only [clS]; omega)) (fun _ => Nat.le_of_ble_eq_true rfl) (by rw [hRm]; first | decide | (simp only [clS]; omega)) (by rw [hRm]; first | decide | (simp only [clS]; omega)) dX9_reading_33 (fun r33 w33 hp33 => ?_)
        obtain ⟨rfl, hw33⟩ := hp33
        rw [hw33]
        refine g_zret h hQ (by first | decide | omega | (simp only [clS]; omega)) (by first | decide | omega | (simp only [clS]; omega)) (by omega) ?_ dX9_reading_36
        exact ⟨fun q => absurd (by omega) q, fun _ _ => ⟨rfl, rfl⟩, fun _ q => absurd q (by omega), fun _ q => absurd q (by omega)⟩
    · refine g_aload_n h dX9_reading_15 rfl ?_
      refine g_iconst h dX9_reading_16 ?_
      refine g_callV h rfl (ci := 9) [_] (by assumption) (c_X9_denied _ _ _ hX) clX9_74 (by decide) rfl in_X9_denied se_X9_denied rfl rfl (by rw [hRm]; first | decide | (simp only [clS]; omega)) (by rw [hRm]; first | decide | (simp only [clS]; omega)) (fun _ => Nat.le_of_ble_eq_true rfl) (by rw [hRm]; first | decide | (simp only [clS]; omega)) (by rw [hRm]; first | decide | (simp only [clS]; omega)) dX9_reading_17 (fun r17 w17 hp17 => ?_)
      obtain ⟨rfl, hw17⟩ := hp17
      rw [hw17]
      refine g_zret h hQ (by first | decide | omega | (simp only [clS]; omega)) (by first | decide | omega | (simp only [clS]; omega)) (by omega) ?_ dX9_reading_20
      exact ⟨fun _ => ⟨rfl, rfl⟩, fun q => absurd q (by omega), fun q => absurd q (by omega), fun q => absurd q (by omega)⟩
  · have hl := lkA_none hz
    refine g_aload_n h dX9_reading_0 rfl ?_
    refine g_iload_n h dX9_reading_1 rfl ?_
    refine g_callV h rfl (ci := 9) [_] (by assumption) (c_X9_lakeAt _ _ _ hX hzr) clX9_66 (by decide) rfl in_X9_lakeAt se_X9_lakeAt rfl rfl (by rw [hRm]; first | decide | (simp only [clS]; omega)) (by rw [hRm]; first | decide | (simp only [clS]; omega)) (fun _ => Nat.le_of_ble_eq_true rfl) (by rw [hRm]; first | decide | (simp only [clS]; omega)) (by rw [hRm]; first | decide | (simp only [clS]; omega)) dX9_reading_2 (fun r2 w2 hp2 => ?_)
    obtain ⟨rfl, hw2⟩ := hp2
    rw [hw2, hl]
    refine g_ifnull (tgt := 15) h dX9_reading_5 (by decide) (fun c => ?_) (fun _ c => by cases c)
    refine g_aload_n h dX9_reading_15 rfl ?_
    refine g_iconst h dX9_reading_16 ?_
    refine g_callV h rfl (ci := 9) [_] (by assumption) (c_X9_denied _ _ _ hX) clX9_74 (by decide) rfl in_X9_denied se_X9_denied rfl rfl (by rw [hRm]; first | decide | (simp only [clS]; omega)) (by rw [hRm]; first | decide | (simp only [clS]; omega)) (fun _ => Nat.le_of_ble_eq_true rfl) (by rw [hRm]; first | decide | (simp only [clS]; omega)) (by rw [hRm]; first | decide | (simp only [clS]; omega)) dX9_reading_17 (fun r17 w17 hp17 => ?_)
    obtain ⟨rfl, hw17⟩ := hp17
    rw [hw17]
    refine g_zret h hQ (by first | decide | omega | (simp only [clS]; omega)) (by first | decide | omega | (simp only [clS]; omega)) (by omega) ?_ dX9_reading_20
    exact ⟨fun _ => ⟨rfl, rfl⟩, fun q => absurd q (by omega), fun q => absurd q (by omega), fun q => absurd q (by omega)⟩
set_option maxRecDepth 100000 in
set_option maxHeartbeats 4000000 in
theorem c_X9_trouble (l : Launch) (w : AW)  (hX : XS w) : HT l yX9_trouble cX9_trouble 1 (some .int) 1 0 0 w [ar 0] (rI (w.2.1 0 16) w) := by
  refine HT.of (by decide) (by intro v hv; simp only [List.mem_cons, List.not_mem_nil, or_false] at hv; rcases hv with rfl <;> rfl) (Nat.le_of_ble_eq_true rfl) ?_
  intro Γ h hQ hRm hnm hl hw0
  have s0 : w.1 0 = (109, 0) := hX.1 0 (by decide)
  refine g_aload_n h dX9_trouble_0 rfl ?_
  refine g_getI h flX9_258 rfl (by assumption) dX9_trouble_1 ?_
  refine g_iret h hQ (by first | decide | omega | (simp only [clS]; omega)) (by first | decide | omega | (simp only [clS]; omega)) ?_ dX9_trouble_4
  (first | exact ⟨rfl, rfl⟩ | (exfalso; omega))
set_option maxRecDepth 100000 in
set_option maxHeartbeats 4000000 in
theorem c_X9_wind (l : Launch) (w : AW) (v : Int) (hX : XS w) (hv : R32 v) : HT l yX9_wind cX9_wind 2 (some .boolean) 2 0 0 w [ar 0, ai v] (fun r w' => (¬ (0 ≤ v ∧ v ≤ 99) → r = some (ai 0) ∧ w' = upI w 0 16 2) ∧ (0 ≤ v ∧ v ≤ 99 → r = some (ai 1) ∧ w' = upI (upI w 0 8 v) 0 16 0)) := by
  refine HT.of (by decide) (by intro v hv; simp only [List.mem_cons, List.not_mem_nil, or_false] at hv; rcases hv with rfl | rfl <;> rfl) (Nat.le_of_ble_eq_true rfl) ?_
  intro Γ h hQ hRm hnm hl hw0
  have s0 : w.1 0 = (109, 0) := hX.1 0 (by decide)
  refine g_iload_n h dX9_wind_0 rfl ?_
  refine g_iconst h dX9_wind_1 ?_
  refine g_bipush h dX9_wind_2 rfl ?_
  refine g_callS h rfl [_, _, _] (c_X9_isWithin _ _ _ _ _ hv ⟨by omega, by omega⟩ ⟨by omega, by omega⟩) clX9_78 st_X9_isWithin rfl rfl (by rw [hRm]; first | decide | (simp only [clS]; omega)) (by rw [hRm]; first | decide | (simp only [clS]; omega)) (fun _ => Nat.le_of_ble_eq_true rfl) (by rw [hRm]; first | decide | (simp only [clS]; omega)) (by rw [hRm]; first | decide | (simp only [clS]; omega)) dX9_wind_4 (fun r4 w4 hp4 => ?_)
  obtain ⟨rfl, hw4⟩ := hp4
  rw [hw4]
  have hbw4 := ite01 ((0 : Int) ≤ v ∧ v ≤ 99)
  refine g_if_ne (tgt := 16) h dX9_wind_7 (by decide) (by first | assumption | exact ⟨by omega, by omega⟩) (fun c7 => ?_) (fun c7 => ?_)
  · refine g_aload_n h dX9_wind_16 rfl ?_
    refine g_iload_n h dX9_wind_17 rfl ?_
    refine g_putI h flX9_267 rfl rfl (by assumption) dX9_wind_18 ?_
    refine g_aload_n h dX9_wind_21 rfl ?_
    refine g_callV h rfl (ci := 9) [] (by assumption) (c_X9_granted _ _ (XS_of rfl rfl hX)) clX9_86 (by decide) rfl in_X9_granted se_X9_granted rfl rfl (by rw [hRm]; first | decide | (simp only [clS]; omega)) (by rw [hRm]; first | decide | (simp only [clS]; omega)) (fun _ => Nat.le_of_ble_eq_true rfl) (by rw [hRm]; first | decide | (simp only [clS]; omega)) (by rw [hRm]; first | decide | (simp only [clS]; omega)) dX9_wind_22 (fun r22 w22 hp22 => ?_)
    obtain ⟨rfl, hw22⟩ := hp22
    rw [hw22]
    refine g_zret h hQ (by first | decide | omega | (simp only [clS]; omega)) (by first | decide | omega | (simp only [clS]; omega)) (by omega) ?_ dX9_wind_25
    exact ⟨fun q => absurd (by omega) q, fun _ => ⟨rfl, rfl⟩⟩
  · refine g_aload_n h dX9_wind_10 rfl ?_
    refine g_iconst h dX9_wind_11 ?_
    refine g_callV h rfl (ci := 9) [_] (by assumption) (c_X9_denied _ _ _ hX) clX9_74 (by decide) rfl in_X9_denied se_X9_denied rfl rfl (by rw [hRm]; first | decide | (simp only [clS]; omega)) (by rw [hRm]; first | decide | (simp only [clS]; omega)) (fun _ => Nat.le_of_ble_eq_true rfl) (by rw [hRm]; first | decide | (simp only [clS]; omega)) (by rw [hRm]; first | decide | (simp only [clS]; omega)) dX9_wind_12 (fun r12 w12 hp12 => ?_)
    obtain ⟨rfl, hw12⟩ := hp12
    rw [hw12]
    refine g_zret h hQ (by first | decide | omega | (simp only [clS]; omega)) (by first | decide | omega | (simp only [clS]; omega)) (by omega) ?_ dX9_wind_15
    exact ⟨fun _ => ⟨rfl, rfl⟩, fun q => absurd q (by omega)⟩
