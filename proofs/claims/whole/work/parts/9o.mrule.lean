/-! ===== M: a rule given ===== -/
theorem stp_kL : Cond.classLink RX12 123 (clN 11) ∈ gw_tbl := cnX12_123
theorem stp_c : Cond.castable (clN 11) (clN 11) ∈ lw_tbl := by decide +kernel
/-- M as it begins to read n bytes -/
def rbW (w : AW) (z : Int) : AW := upI (upI (upI (th w) 400 48 z) 400 47 0) 400 3 0
set_option maxRecDepth 100000 in
set_option maxHeartbeats 4000000 in
theorem c_X12_rule (l : Launch) (w : AW) (T : Nat → Int) (nr P mc ms : Nat) (A z : Int) (hM : MS w) (hz : R32 z) (h47 : 0 ≤ w.2.1 400 47 ∧ w.2.1 400 47 ≤ 300) (hTk : ∀ k : Nat, (k : Int) < w.2.1 400 47 → w.2.1 446 k = sg (T k)) (hTb : ∀ k, k < 300 → 0 ≤ T k ∧ T k < 256) (h42 : w.2.1 400 42 = (nr : Int)) (hn17 : nr < 17) (hP4 : 478 ≤ P) (hP2 : P + 2 < 20000) (hw56 : R64 (w.2.1 400 56)) (hF : FH P nr mc ms w) : HTH l yX12_rule cX12_rule 3 (some .int) [(38, 42, 45, 123)] 39 mc ms w [ar 400, ai z] (fun r w' => (¬ (0 ≤ z ∧ z ≤ w.2.1 400 47) → r = some (ai (-1)) ∧ w' = tM (th w) 2) ∧ ((0 ≤ z ∧ z ≤ w.2.1 400 47) → ∃ w1 u, FX P nr mc (rbW w z) w1 ∧ MYr P w1 u ∧ R64 (u.2.1 400 56) ∧ (0 ≤ u.2.1 P 0 ∧ u.2.1 P 0 < 4) ∧ ((∃ (f : Int) (q : Nat), xRun T z.toNat 301 0 (xs0 A) = .inl (f, q) ∧ r = some (ai (-1)) ∧ w' = upI (upI (upI u 400 3 f) 400 1 4) 400 2 (q : Int)) ∨ (∃ s6 : XP, xRun T z.toNat 301 0 (xs0 A) = .inr s6 ∧ RM u P s6.2.2.1 ∧ u.2.1 P 0 = s6.2.1.2.2 ∧ ((nr = 16 ∧ r = some (ai (-1)) ∧ w' = tM u 3) ∨ (nr < 16 ∧ r = some (ai (nr : Int)) ∧ w' = tM (upI u 400 42 ((nr : Int) + 1)) 0)))))) := by
  refine HTH.of (by decide) (by intro v hv; simp only [List.mem_cons, List.not_mem_nil, or_false] at hv; rcases hv with rfl | rfl <;> rfl) (Nat.le_of_ble_eq_true rfl) ?_
  intro Γ h hQ hRm hnm hl hw0
  have s400 : w.1 400 = (112, 0) := hM.1 400 (by decide) (by decide)
  have s445 : w.1 445 = (111, 0) := hM.1 445 (by decide) (by decide)
  have h47b : (upI w 400 0 0).2.1 400 47 = w.2.1 400 47 := rfl
  refine g_aload_n h dX12_rule_0 rfl ?_
  refine g_iconst h dX12_rule_1 ?_
  refine g_putI h flX12_1 rfl rfl (by assumption) dX12_rule_2 ?_
  refine g_iload_n h dX12_rule_5 rfl ?_
  refine g_if_lt (tgt := 17) h dX12_rule_6 (by decide) (by first | assumption | exact ⟨by omega, by omega⟩) (fun c6 => ?_) (fun c6 => ?_)
  · refine g_aload_n h dX12_rule_17 rfl ?_
    refine g_iconst h dX12_rule_18 ?_
    refine g_callV h rfl (ci := 12) [_] (by assumption) (c_X12_refused _ _ _ (MS_of rfl rfl hM)) clX12_274 (by decide) rfl in_X12_refused se_X12_refused rfl rfl (by rw [hRm]; first | decide | (simp only [clS]; omega)) (by rw [hRm]; first | decide | (simp only [clS]; omega)) (fun _ => Nat.le_of_ble_eq_true rfl) (by rw [hRm]; first | decide | (simp only [clS]; omega)) (by rw [hRm]; first | decide | (simp only [clS]; omega)) dX12_rule_19 (fun r19 w19 hp19 => ?_)
    obtain ⟨rfl, hw19⟩ := hp19
    rw [hw19]
    refine g_hret hQ h hRm fun Γ h hQ hRm => ?_
    refine g_iret h hQ (by first | decide | omega | (simp only [clS]; omega)) (by first | decide | omega | (simp only [clS]; omega)) ?_ dX12_rule_22
    exact ⟨fun _ => ⟨rfl, rfl⟩, fun q9 => absurd q9 (by omega)⟩
  · refine g_iload_n h dX12_rule_9 rfl ?_
    refine g_aload_n h dX12_rule_10 rfl ?_
    refine g_getI h flX12_453 rfl (by assumption) dX12_rule_11 ?_
    rw [h47b]
    refine g_icmp_le (tgt := 23) h dX12_rule_14 (by decide) (by first | assumption | exact ⟨by omega, by omega⟩) (by first | assumption | exact ⟨by omega, by omega⟩) (fun c14 => ?_) (fun c14 => ?_)
    · refine g_aload_n h dX12_rule_23 rfl ?_
      refine g_iload_n h dX12_rule_24 rfl ?_
      refine g_putI h flX12_323 rfl rfl (by assumption) dX12_rule_25 ?_
      refine g_aload_n h dX12_rule_28 rfl ?_
      refine g_iconst h dX12_rule_29 ?_
      refine g_putI h flX12_453 rfl rfl (by assumption) dX12_rule_30 ?_
      refine g_aload_n h dX12_rule_33 rfl ?_
      refine g_iconst h dX12_rule_34 ?_
      refine g_putI h flX12_456 rfl rfl (by assumption) dX12_rule_35 ?_
      have hb : 0 ≤ z ∧ z ≤ w.2.1 400 47 := ⟨by omega, by omega⟩
      obtain ⟨n, rfl⟩ : ∃ n : Nat, z = (n : Int) := ⟨z.toNat, by omega⟩
      rw [Int.toNat_natCast] at hQ
      change GG Γ 38 _ _ (rbW w (n : Int)) _ _
      have hT : RT (rbW w (n : Int)) T n := ⟨MS_of rfl rfl hM, rfl, by omega, fun k hk => hTk k (by omega), hTb⟩
      have hF2 : FH P nr mc ms (rbW w (n : Int)) := by
        rcases hF with ⟨a1, a2, a3, b1, b2, b3, b4, b5, b6, b7⟩ | a
        · have e : (rbW w (n : Int)).2.1 P = w.2.1 P := by
            unfold rbW th
            rw [upI_o _ _ _ (by omega), upI_o _ _ _ (by omega), upI_o _ _ _ (by omega), upI_o _ _ _ (by omega)]
          exact Or.inl ⟨a1, a2, a3, b1, b2, b3, b4, b5, by rw [e]; exact b6, by rw [e]; exact b7⟩
        · exact Or.inr a
      have r400 : (rbW w (n : Int)).1 400 = (112, 0) := s400
      have frm : ∀ w1 u, FX P nr mc (rbW w (n : Int)) w1 → MYr P w1 u → (u.1 400 = (112, 0) ∧ u.1 445 = (111, 0) ∧ MS u ∧ u.2.1 400 42 = (nr : Int)) := by
        intro w1 u hfx hmy
        have hM1 : MS w1 ∧ w1.2.1 400 42 = (nr : Int) := by
          rcases hfx with ⟨-, rfl⟩ | ⟨-, rfl⟩
          · exact ⟨hT.1, h42⟩
          · exact ⟨fsW_MS hP4 hT.1, by rw [fsW_i _ hP4 (by decide)]; exact h42⟩
        have hMu := MS_of hmy.1 hmy.2.1 hM1.1
        exact ⟨hMu.1 400 (by decide) (by decide), hMu.1 445 (by decide) (by decide), hMu, (hmy.2.2.2 42 (by omega)).trans hM1.2⟩
      refine g_aload_n h dX12_rule_38 rfl ?_
      refine g_callVq h rfl (ci := 12) [] (by assumption) (c_X12_reads _ _ T n P nr mc ms A hT h42 hn17 hP4 hP2 hw56 hF2) clX12_459 (by decide) rfl in_X12_reads se_X12_reads rfl rfl (by rw [hRm]; first | decide | omega | (simp only [clS]; omega)) (by rw [hRm]; first | decide | omega | (simp only [clS]; omega)) (fun _ => Nat.le_of_ble_eq_true rfl) (by rw [hRm]; first | decide | omega | (simp only [clS]; omega)) (by rw [hRm]; first | decide | omega | (simp only [clS]; omega)) dX12_rule_39 (fun r9 w9 hp9 => ?_) (fun E9 x9 w9 hx9 => ?_)
      · obtain ⟨rfl, w1, hfx, hmy, h56, s6, hRs, hRM, hact⟩ := hp9
        obtain ⟨t400, -, hMu, t42⟩ := frm w1 w9 hfx hmy
        have hab : 0 ≤ w9.2.1 P 0 ∧ w9.2.1 P 0 < 4 := ⟨hRM.2.2.2.2.2.2.2.2.1, hRM.2.2.2.2.2.2.2.2.2⟩
        refine g_goto (tgt := 69) h dX12_rule_42 (by decide) ?_
        refine g_aload_n h dX12_rule_69 rfl ?_
        refine g_getI h flX12_312 rfl (by assumption) dX12_rule_70 ?_
        rw [t42]
        refine g_bipush h dX12_rule_73 rfl ?_
        refine g_icmp_ne (tgt := 84) h dX12_rule_75 (by decide) (by first | assumption | exact ⟨by omega, by omega⟩) (by first | assumption | exact ⟨by omega, by omega⟩) (fun c75 => ?_) (fun c75 => ?_)
        · refine g_aload_n h dX12_rule_84 rfl ?_
          refine g_dup h dX12_rule_85 rfl ?_
          refine g_getI h flX12_312 rfl (by assumption) dX12_rule_86 ?_
          rw [t42]
          refine g_iconst h dX12_rule_89 ?_
          refine g_iadd h dX12_rule_90 ?_
          refine g_putI h flX12_312 rfl rfl (by assumption) dX12_rule_91 ?_
          refine g_aload_n h dX12_rule_94 rfl ?_
          refine g_aload_n h dX12_rule_95 rfl ?_
          refine g_getI h flX12_312 rfl (by assumption) dX12_rule_96 ?_
          first | rw [e42] | skip
          refine g_iconst h dX12_rule_99 ?_
          refine g_isub h dX12_rule_100 ?_
          refine g_callV h rfl (ci := 12) [_] (by assumption) (c_X12_done _ _ _ (MS_of rfl rfl hMu)) clX12_277 (by decide) rfl in_X12_done se_X12_done rfl rfl (by rw [hRm]; first | decide | (simp only [clS]; omega)) (by rw [hRm]; first | decide | (simp only [clS]; omega)) (fun _ => Nat.le_of_ble_eq_true rfl) (by rw [hRm]; first | decide | (simp only [clS]; omega)) (by rw [hRm]; first | decide | (simp only [clS]; omega)) dX12_rule_101 (fun r101 w101 hp101 => ?_)
          obtain ⟨rfl, hw101⟩ := hp101
          rw [hw101]
          refine g_hret hQ h hRm fun Γ h hQ hRm => ?_
          refine g_iret h hQ (by first | decide | omega | (simp only [clS]; omega)) (by first | decide | omega | (simp only [clS]; omega)) ?_ dX12_rule_104
          refine ⟨fun q9 => absurd hb q9, fun _ => ⟨w1, w9, hfx, hmy, h56, hab, Or.inr ⟨s6, hRs, hRM, hact, Or.inr ⟨by omega, ?_, rfl⟩⟩⟩⟩
          exact congrArg (fun z => some (ai z)) (by show (nr : Int) + 1 - 1 = nr; omega)
        · refine g_aload_n h dX12_rule_78 rfl ?_
          refine g_iconst h dX12_rule_79 ?_
          refine g_callV h rfl (ci := 12) [_] (by assumption) (c_X12_refused _ _ _ hMu) clX12_274 (by decide) rfl in_X12_refused se_X12_refused rfl rfl (by rw [hRm]; first | decide | (simp only [clS]; omega)) (by rw [hRm]; first | decide | (simp only [clS]; omega)) (fun _ => Nat.le_of_ble_eq_true rfl) (by rw [hRm]; first | decide | (simp only [clS]; omega)) (by rw [hRm]; first | decide | (simp only [clS]; omega)) dX12_rule_80 (fun r80 w80 hp80 => ?_)
          obtain ⟨rfl, hw80⟩ := hp80
          rw [hw80]
          refine g_hret hQ h hRm fun Γ h hQ hRm => ?_
          refine g_iret h hQ (by first | decide | omega | (simp only [clS]; omega)) (by first | decide | omega | (simp only [clS]; omega)) ?_ dX12_rule_83
          exact ⟨fun q9 => absurd hb q9, fun _ => ⟨w1, w9, hfx, hmy, h56, hab, Or.inr ⟨s6, hRs, hRM, hact, Or.inl ⟨by omega, rfl, rfl⟩⟩⟩⟩
      · obtain ⟨rfl, rfl, w1, hfx, hmy, h56, hab, q, hq, hRs⟩ := hx9
        obtain ⟨t400, t445, hMu, t42⟩ := frm w1 w9 hfx hmy
        refine g_catchK (x := { startPc := 38, endPc := 42, handlerPc := 45, catchType := 123 }) (name := clN 11) h hQ rfl rfl (by decide) stp_kL stp_c ?_
        refine g_astore_n h dX12_rule_45 (Nat.le_of_ble_eq_true rfl) rfl rfl ?_
        refine g_aload_n h dX12_rule_46 rfl ?_
        refine g_aload_n h dX12_rule_47 rfl ?_
        refine g_getIN h flX12_316 rfl (by assumption) dX12_rule_48 ?_
        refine g_putI h flX12_456 rfl rfl (by assumption) dX12_rule_51 ?_
        refine g_aload_n h dX12_rule_54 rfl ?_
        refine g_iconst h dX12_rule_55 ?_
        refine g_putI h flX12_7 rfl rfl (by assumption) dX12_rule_56 ?_
        refine g_aload_n h dX12_rule_59 rfl ?_
        refine g_aload_n h dX12_rule_60 rfl ?_
        refine g_getIN h flX12_322 rfl (by assumption) dX12_rule_61 ?_
        refine g_putI h flX12_10 rfl rfl (by assumption) dX12_rule_64 ?_
        refine g_iconst h dX12_rule_67 ?_
        refine g_hret hQ h hRm fun Γ h hQ hRm => ?_
        refine g_iret h hQ (by first | decide | omega | (simp only [clS]; omega)) (by first | decide | omega | (simp only [clS]; omega)) ?_ dX12_rule_68
        exact ⟨fun q9 => absurd hb q9, fun _ => ⟨w1, w9, hfx, hmy, h56, hab, Or.inl ⟨w9.2.1 445 6, q, hRs, rfl, by rw [← hq]; rfl⟩⟩⟩
    · refine g_aload_n h dX12_rule_17 rfl ?_
      refine g_iconst h dX12_rule_18 ?_
      refine g_callV h rfl (ci := 12) [_] (by assumption) (c_X12_refused _ _ _ (MS_of rfl rfl hM)) clX12_274 (by decide) rfl in_X12_refused se_X12_refused rfl rfl (by rw [hRm]; first | decide | (simp only [clS]; omega)) (by rw [hRm]; first | decide | (simp only [clS]; omega)) (fun _ => Nat.le_of_ble_eq_true rfl) (by rw [hRm]; first | decide | (simp only [clS]; omega)) (by rw [hRm]; first | decide | (simp only [clS]; omega)) dX12_rule_19 (fun r19 w19 hp19 => ?_)
      obtain ⟨rfl, hw19⟩ := hp19
      rw [hw19]
      refine g_hret hQ h hRm fun Γ h hQ hRm => ?_
      refine g_iret h hQ (by first | decide | omega | (simp only [clS]; omega)) (by first | decide | omega | (simp only [clS]; omega)) ?_ dX12_rule_22
      exact ⟨fun _ => ⟨rfl, rfl⟩, fun q9 => absurd q9 (by omega)⟩
