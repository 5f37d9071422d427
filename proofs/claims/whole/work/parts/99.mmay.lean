/-! ===== M: who may work, who may live; pipes moved and started ===== -/
/-- whether the crew may work at lake L by rules, and may go there -/
def wkM (w : AW) (np rn sn nr : Nat) (q : Nat → Nat) (cl : Nat → List Int) (L : Nat) : Bool := saM w nr q cl (nmM w L np rn sn 0) 1 && !saM w nr q cl (nmM w L np rn sn 0) 2
def mwM (w : AW) (np rn sn nr : Nat) (q : Nat → Nat) (cl : Nat → List Int) (L : Nat) : Bool := (decide (w.2.1 400 6 = -2) || decide (w.2.1 400 6 = (L : Int))) && wkM w np rn sn nr q cl L
theorem th_MR {w : AW} {np rn sn : Nat} (h : MR w np rn sn) : MR (th w) np rn sn := ⟨MS_th h.1, h.2.1, h.2.2.1, h.2.2.2.1, h.2.2.2.2.1, h.2.2.2.2.2.1, h.2.2.2.2.2.2⟩
theorem th_RMB {w : AW} {nr : Nat} {q : Nat → Nat} {cl : Nat → List Int} (h : RMB w nr q cl) : RMB (th w) nr q cl := by
  refine ⟨h.1, h.2.1, fun r hr => ?_⟩
  obtain ⟨a, b, c, d, e⟩ := h.2.2 r hr
  exact ⟨a, b, RM_of (u := w) (v := th w) rfl rfl (upI_o _ _ _ (by omega)) (upI_o _ _ _ (by omega)) (upI_o _ _ _ (by omega)) c, d, e⟩
theorem b01_mw (p q : Prop) [Decidable p] [Decidable q] (a b : Bool) : b01 ((decide p || decide q) && (a && !b)) = if (p ∨ q) ∧ b01 a ≠ 0 ∧ b01 b = 0 then 1 else 0 := by
  cases a <;> cases b <;> by_cases c : p <;> by_cases d : q <;> simp [b01, c, d]
theorem b01_wk (a b : Bool) : b01 (a && !b) = if b01 a ≠ 0 ∧ b01 b = 0 then 1 else 0 := by
  cases a <;> cases b <;> simp [b01]
set_option maxRecDepth 100000 in
set_option maxHeartbeats 4000000 in
theorem c_X12_mayWork (l : Launch) (w : AW) (np rn sn nr : Nat) (q : Nat → Nat) (cl : Nat → List Int) (L : Nat) (hR : MR w np rn sn) (hB : RMB w nr q cl) (hL : L < 2) (hc : R32 (w.2.1 400 6)) : HT l yX12_mayWork cX12_mayWork 2 (some .boolean) 10 0 0 w [ar 400, ai (L : Int)] (fun r w' => r = some (ai (b01 (mwM w np rn sn nr q cl L))) ∧ MP w w') := by
  refine HT.of (by decide) (by intro v hv; simp only [List.mem_cons, List.not_mem_nil, or_false] at hv; rcases hv with rfl | rfl <;> rfl) (Nat.le_of_ble_eq_true rfl) ?_
  intro Γ h hQ hRm hnm hl hw0
  have hM := hR.1
  have s400 : w.1 400 = (112, 0) := hM.1 400 (by decide) (by decide)
  have e1 : mwM w np rn sn nr q cl L = ((decide (w.2.1 400 6 = -2) || decide (w.2.1 400 6 = (L : Int))) && (saM w nr q cl (nmM w L np rn sn 0) 1 && !saM w nr q cl (nmM w L np rn sn 0) 2)) := rfl
  have s1 := b01_01 (saM w nr q cl (nmM w L np rn sn 0) 1)
  have s2 := b01_01 (saM w nr q cl (nmM w L np rn sn 0) 2)
  refine g_aload_n h dX12_mayWork_0 rfl ?_
  refine g_getI h flX12_22 rfl (by assumption) dX12_mayWork_1 ?_
  refine g_bipush h dX12_mayWork_4 rfl ?_
  refine g_icmp_eq (tgt := 17) h dX12_mayWork_6 (by decide) (by first | assumption | exact ⟨by omega, by omega⟩) (by first | assumption | exact ⟨by omega, by omega⟩) (fun c6 => ?_) (fun c6 => ?_)
  · refine g_aload_n h dX12_mayWork_17 rfl ?_
    refine g_iload_n h dX12_mayWork_18 rfl ?_
    refine g_iconst h dX12_mayWork_19 ?_
    refine g_callV h rfl (ci := 12) [_, _] (by assumption) (c_X12_says0 _ _ np rn sn nr q cl L 1 hR hB hL ⟨by decide, by decide⟩) clX12_286 (by decide) rfl in_X12_says0 se_X12_says0 rfl rfl (by rw [hRm]; first | decide | (simp only [clS]; omega)) (by rw [hRm]; first | decide | (simp only [clS]; omega)) (fun _ => Nat.le_of_ble_eq_true rfl) (by rw [hRm]; first | decide | (simp only [clS]; omega)) (by rw [hRm]; first | decide | (simp only [clS]; omega)) dX12_mayWork_20 (fun r20 w20 hp20 => ?_)
    obtain ⟨rfl, hP20⟩ := hp20
    have t2400 : w20.1 400 = (112, 0) := by rw [hP20.1]; exact s400
    refine g_if_eq (tgt := 39) h dX12_mayWork_23 (by decide) (by first | assumption | exact ⟨by omega, by omega⟩) (fun c23 => ?_) (fun c23 => ?_)
    · refine g_iconst h dX12_mayWork_39 ?_
      refine g_zret h hQ (by first | decide | omega | (simp only [clS]; omega)) (by first | decide | omega | (simp only [clS]; omega)) (by omega) ?_ dX12_mayWork_40
      first
      | (exfalso; omega)
      | (refine ⟨?_, by first | exact MP_rfl w | exact hP20 | exact MP_tr hP20 hP29⟩
         rw [e1, b01_mw]
         first | rw [if_pos (by omega)] | rw [if_neg (by omega)])
    · refine g_aload_n h dX12_mayWork_26 rfl ?_
      refine g_iload_n h dX12_mayWork_27 rfl ?_
      refine g_iconst h dX12_mayWork_28 ?_
      refine g_callV h rfl (ci := 12) [_, _] (by assumption) (c_X12_says0 _ _ np rn sn nr q cl L 2 (MR_MP hP20 hR) (RMB_MP hP20 hB) hL ⟨by decide, by decide⟩) clX12_286 (by decide) rfl in_X12_says0 se_X12_says0 rfl rfl (by rw [hRm]; first | decide | (simp only [clS]; omega)) (by rw [hRm]; first | decide | (simp only [clS]; omega)) (fun _ => Nat.le_of_ble_eq_true rfl) (by rw [hRm]; first | decide | (simp only [clS]; omega)) (by rw [hRm]; first | decide | (simp only [clS]; omega)) dX12_mayWork_29 (fun r29 w29 hp29 => ?_)
      obtain ⟨rfl, hP29⟩ := hp29
      rw [saM_MP hP20 hB, nmM_MP hP20 hL 0 hR]
      refine g_if_ne (tgt := 39) h dX12_mayWork_32 (by decide) (by first | assumption | exact ⟨by omega, by omega⟩) (fun c32 => ?_) (fun c32 => ?_)
      · refine g_iconst h dX12_mayWork_39 ?_
        refine g_zret h hQ (by first | decide | omega | (simp only [clS]; omega)) (by first | decide | omega | (simp only [clS]; omega)) (by omega) ?_ dX12_mayWork_40
        first
        | (exfalso; omega)
        | (refine ⟨?_, by first | exact MP_rfl w | exact hP20 | exact MP_tr hP20 hP29⟩
           rw [e1, b01_mw]
           first | rw [if_pos (by omega)] | rw [if_neg (by omega)])
      · refine g_iconst h dX12_mayWork_35 ?_
        refine g_goto (tgt := 40) h dX12_mayWork_36 (by decide) ?_
        refine g_zret h hQ (by first | decide | omega | (simp only [clS]; omega)) (by first | decide | omega | (simp only [clS]; omega)) (by omega) ?_ dX12_mayWork_40
        first
        | (exfalso; omega)
        | (refine ⟨?_, by first | exact MP_rfl w | exact hP20 | exact MP_tr hP20 hP29⟩
           rw [e1, b01_mw]
           first | rw [if_pos (by omega)] | rw [if_neg (by omega)])
  · refine g_aload_n h dX12_mayWork_9 rfl ?_
    refine g_getI h flX12_22 rfl (by assumption) dX12_mayWork_10 ?_
    refine g_iload_n h dX12_mayWork_13 rfl ?_
    refine g_icmp_ne (tgt := 39) h dX12_mayWork_14 (by decide) (by first | assumption | exact ⟨by omega, by omega⟩) (by first | assumption | exact ⟨by omega, by omega⟩) (fun c14 => ?_) (fun c14 => ?_)
    · refine g_iconst h dX12_mayWork_39 ?_
      refine g_zret h hQ (by first | decide | omega | (simp only [clS]; omega)) (by first | decide | omega | (simp only [clS]; omega)) (by omega) ?_ dX12_mayWork_40
      first
      | (exfalso; omega)
      | (refine ⟨?_, by first | exact MP_rfl w | exact hP20 | exact MP_tr hP20 hP29⟩
         rw [e1, b01_mw]
         first | rw [if_pos (by omega)] | rw [if_neg (by omega)])
    · refine g_aload_n h dX12_mayWork_17 rfl ?_
      refine g_iload_n h dX12_mayWork_18 rfl ?_
      refine g_iconst h dX12_mayWork_19 ?_
      refine g_callV h rfl (ci := 12) [_, _] (by assumption) (c_X12_says0 _ _ np rn sn nr q cl L 1 hR hB hL ⟨by decide, by decide⟩) clX12_286 (by decide) rfl in_X12_says0 se_X12_says0 rfl rfl (by rw [hRm]; first | decide | (simp only [clS]; omega)) (by rw [hRm]; first | decide | (simp only [clS]; omega)) (fun _ => Nat.le_of_ble_eq_true rfl) (by rw [hRm]; first | decide | (simp only [clS]; omega)) (by rw [hRm]; first | decide | (simp only [clS]; omega)) dX12_mayWork_20 (fun r20 w20 hp20 => ?_)
      obtain ⟨rfl, hP20⟩ := hp20
      have t2400 : w20.1 400 = (112, 0) := by rw [hP20.1]; exact s400
      refine g_if_eq (tgt := 39) h dX12_mayWork_23 (by decide) (by first | assumption | exact ⟨by omega, by omega⟩) (fun c23 => ?_) (fun c23 => ?_)
      · refine g_iconst h dX12_mayWork_39 ?_
        refine g_zret h hQ (by first | decide | omega | (simp only [clS]; omega)) (by first | decide | omega | (simp only [clS]; omega)) (by omega) ?_ dX12_mayWork_40
        first
        | (exfalso; omega)
        | (refine ⟨?_, by first | exact MP_rfl w | exact hP20 | exact MP_tr hP20 hP29⟩
           rw [e1, b01_mw]
           first | rw [if_pos (by omega)] | rw [if_neg (by omega)])
      · refine g_aload_n h dX12_mayWork_26 rfl ?_
        refine g_iload_n h dX12_mayWork_27 rfl ?_
        refine g_iconst h dX12_mayWork_28 ?_
        refine g_callV h rfl (ci := 12) [_, _] (by assumption) (c_X12_says0 _ _ np rn sn nr q cl L 2 (MR_MP hP20 hR) (RMB_MP hP20 hB) hL ⟨by decide, by decide⟩) clX12_286 (by decide) rfl in_X12_says0 se_X12_says0 rfl rfl (by rw [hRm]; first | decide | (simp only [clS]; omega)) (by rw [hRm]; first | decide | (simp only [clS]; omega)) (fun _ => Nat.le_of_ble_eq_true rfl) (by rw [hRm]; first | decide | (simp only [clS]; omega)) (by rw [hRm]; first | decide | (simp only [clS]; omega)) dX12_mayWork_29 (fun r29 w29 hp29 => ?_)
        obtain ⟨rfl, hP29⟩ := hp29
        rw [saM_MP hP20 hB, nmM_MP hP20 hL 0 hR]
        refine g_if_ne (tgt := 39) h dX12_mayWork_32 (by decide) (by first | assumption | exact ⟨by omega, by omega⟩) (fun c32 => ?_) (fun c32 => ?_)
        · refine g_iconst h dX12_mayWork_39 ?_
          refine g_zret h hQ (by first | decide | omega | (simp only [clS]; omega)) (by first | decide | omega | (simp only [clS]; omega)) (by omega) ?_ dX12_mayWork_40
          first
          | (exfalso; omega)
          | (refine ⟨?_, by first | exact MP_rfl w | exact hP20 | exact MP_tr hP20 hP29⟩
             rw [e1, b01_mw]
             first | rw [if_pos (by omega)] | rw [if_neg (by omega)])
        · refine g_iconst h dX12_mayWork_35 ?_
          refine g_goto (tgt := 40) h dX12_mayWork_36 (by decide) ?_
          refine g_zret h hQ (by first | decide | omega | (simp only [clS]; omega)) (by first | decide | omega | (simp only [clS]; omega)) (by omega) ?_ dX12_mayWork_40
          first
          | (exfalso; omega)
          | (refine ⟨?_, by first | exact MP_rfl w | exact hP20 | exact MP_tr hP20 hP29⟩
             rw [e1, b01_mw]
             first | rw [if_pos (by omega)] | rw [if_neg (by omega)])
theorem th_nm {w : AW} {L np rn sn : Nat} (hR : MR w np rn sn) (hL : L < 2) (hi : Int) : nmM (th w) L np rn sn hi = nmM w L np rn sn hi := by
  have h1 : ∀ i, ftM (th w) L rn sn i = ftM w L rn sn i := by
    intro i
    induction i with
    | zero => rfl
    | succ i ih => unfold ftM; rw [ih]; rfl
  have h2 : ∀ p, ruM (th w) L p = ruM w L p := by
    intro p
    induction p with
    | zero => rfl
    | succ p ih => unfold ruM; rw [ih]; rfl
  have h3 : ∀ i, deS (th w) L rn i = deS w L rn i := by
    intro i
    induction i with
    | zero => rfl
    | succ i ih => unfold deS; rw [ih]; rfl
  have h4 : (baM (th w) L np).1 = (baM w L np).1 := baM_HE (u := th w) hL hR.2.1 hR.2.2.1 hR.2.2.2.1 (fun j q => upI_o _ _ _ (by omega))
  funext a
  unfold nmM
  rw [h1, h2, h3, h4]
  rfl
theorem th_sa {w : AW} {nr : Nat} {q : Nat → Nat} {cl : Nat → List Int} (h : RMB w nr q cl) (nm : Nat → Int) (act : Int) : saM (th w) nr q cl nm act = saM w nr q cl nm act := by
  unfold saM
  rw [allB_congr (g := mlN w q cl nm act) nr (fun i hi => by unfold mlN; rw [show (th w).2.1 (q i) = w.2.1 (q i) from upI_o _ _ _ (by have := (h.2.2 i hi).2.1; omega)]), anyB_congr (g := mlT w q cl nm act) nr (fun i hi => by unfold mlT; rw [show (th w).2.1 (q i) = w.2.1 (q i) from upI_o _ _ _ (by have := (h.2.2 i hi).2.1; omega)])]
set_option maxRecDepth 100000 in
set_option maxHeartbeats 4000000 in
theorem c_X12_says (l : Launch) (w : AW) (np rn sn nr : Nat) (q : Nat → Nat) (cl : Nat → List Int) (z a : Int) (hR : MR w np rn sn) (hB : RMB w nr q cl) (hz : R32 z) (ha : R32 a) : HT l yX12_says cX12_says 4 (some .int) 10 0 0 w [ar 400, ai z, ai a] (fun r w' => r = some (ai (if (0 ≤ z ∧ z < 2) ∧ 0 ≤ a ∧ a ≤ 2 then b01 (if a = 0 then saM w nr q cl (nmM w z.toNat np rn sn 0) 0 else if a = 1 then saM w nr q cl (nmM w z.toNat np rn sn 0) 2 else wkM w np rn sn nr q cl z.toNat) else -1)) ∧ MP (th w) w') := by
  refine HT.of (by decide) (by intro v hv; simp only [List.mem_cons, List.not_mem_nil, or_false] at hv; rcases hv with rfl | rfl | rfl <;> rfl) (Nat.le_of_ble_eq_true rfl) ?_
  intro Γ h hQ hRm hnm hl hw0
  have hM := hR.1
  have s400 : w.1 400 = (112, 0) := hM.1 400 (by decide) (by decide)
  have hRt := th_MR hR
  have hBt := th_RMB hB
  by_cases hzl : 0 ≤ z ∧ z < 2
  · obtain ⟨L, rfl⟩ : ∃ L : Nat, z = (L : Int) := ⟨z.toNat, by omega⟩
    have hL : L < 2 := by omega
    have eL : ((L : Int)).toNat = L := Int.toNat_natCast L
    rw [eL] at hQ
    have t1 : ∀ act, saM (th w) nr q cl (nmM (th w) L np rn sn 0) act = saM w nr q cl (nmM w L np rn sn 0) act := fun act => by
      rw [th_nm hR hL, th_sa hB]
    have s0 := b01_01 (saM w nr q cl (nmM w L np rn sn 0) 0)
    have s1 := b01_01 (saM w nr q cl (nmM w L np rn sn 0) 1)
    have s2 := b01_01 (saM w nr q cl (nmM w L np rn sn 0) 2)
    have ew : wkM w np rn sn nr q cl L = (saM w nr q cl (nmM w L np rn sn 0) 1 && !saM w nr q cl (nmM w L np rn sn 0) 2) := rfl
    refine g_aload_n h dX12_says_0 rfl ?_
    refine g_iconst h dX12_says_1 ?_
    refine g_putI h flX12_1 rfl rfl (by assumption) dX12_says_2 ?_
    refine g_iload_n h dX12_says_5 rfl ?_
    refine g_callS h rfl [_] (c_X12_isLake _ _ _ hz) clX12_182 st_X12_isLake rfl rfl (by rw [hRm]; first | decide | (simp only [clS]; omega)) (by rw [hRm]; first | decide | (simp only [clS]; omega)) (fun _ => Nat.le_of_ble_eq_true rfl) (by rw [hRm]; first | decide | (simp only [clS]; omega)) (by rw [hRm]; first | decide | (simp only [clS]; omega)) dX12_says_6 (fun r6 w6 hp6 => ?_)
    obtain ⟨rfl, hw6⟩ := hp6
    rw [hw6]
    have hbw6 := ite01 (0 ≤ (L : Int) ∧ (L : Int) < 2)
    refine g_if_eq (tgt := 21) h dX12_says_9 (by decide) (by first | assumption | exact ⟨by omega, by omega⟩) (fun c9 => ?_) (fun c9 => ?_)
    · refine g_iconst h dX12_says_21 ?_
      refine g_iret h hQ (by first | decide | omega | (simp only [clS]; omega)) (by first | decide | omega | (simp only [clS]; omega)) ?_ dX12_says_22
      first
      | (exfalso; omega)
      | (refine ⟨?_, by first | exact MP_rfl (th w) | exact hP30 | exact hP44 | exact MP_tr hP53 hP62 | exact hP53⟩
         first
         | (rw [if_neg (by omega)])
         | (rw [if_pos (by omega), if_pos (by omega)]; refine congrArg (fun z => some (ai z)) ?_; omega)
         | (rw [if_pos (by omega), if_neg (by omega), if_pos (by omega)]; refine congrArg (fun z => some (ai z)) ?_; omega)
         | (rw [if_pos (by omega), if_neg (by omega), if_neg (by omega), ew, b01_wk]; first | rw [if_pos (by omega)] | rw [if_neg (by omega)]))
    · refine g_iload_n h dX12_says_12 rfl ?_
      refine g_iconst h dX12_says_13 ?_
      refine g_iconst h dX12_says_14 ?_
      refine g_callS h rfl [_, _, _] (c_X12_in _ _ _ _ _ ha ⟨by omega, by omega⟩ ⟨by omega, by omega⟩) clX12_211 st_X12_in rfl rfl (by rw [hRm]; first | decide | (simp only [clS]; omega)) (by rw [hRm]; first | decide | (simp only [clS]; omega)) (fun _ => Nat.le_of_ble_eq_true rfl) (by rw [hRm]; first | decide | (simp only [clS]; omega)) (by rw [hRm]; first | decide | (simp only [clS]; omega)) dX12_says_15 (fun r15 w15 hp15 => ?_)
      obtain ⟨rfl, hw15⟩ := hp15
      rw [hw15]
      have hbw15 := ite01 ((0 : Int) ≤ a ∧ a ≤ 2)
      refine g_if_ne (tgt := 23) h dX12_says_18 (by decide) (by first | assumption | exact ⟨by omega, by omega⟩) (fun c18 => ?_) (fun c18 => ?_)
      · refine g_iload_n h dX12_says_23 rfl ?_
        refine g_if_ne (tgt := 36) h dX12_says_24 (by decide) (by first | assumption | exact ⟨by omega, by omega⟩) (fun c24 => ?_) (fun c24 => ?_)
        · refine g_iload_n h dX12_says_36 rfl ?_
          refine g_iconst h dX12_says_37 ?_
          refine g_icmp_ne (tgt := 50) h dX12_says_38 (by decide) (by first | assumption | exact ⟨by omega, by omega⟩) (by first | assumption | exact ⟨by omega, by omega⟩) (fun c38 => ?_) (fun c38 => ?_)
          · refine g_aload_n h dX12_says_50 rfl ?_
            refine g_iload_n h dX12_says_51 rfl ?_
            refine g_iconst h dX12_says_52 ?_
            refine g_callV h rfl (ci := 12) [_, _] (by assumption) (c_X12_says0 _ _ np rn sn nr q cl L 1 hRt hBt hL ⟨by decide, by decide⟩) clX12_286 (by decide) rfl in_X12_says0 se_X12_says0 rfl rfl (by rw [hRm]; first | decide | (simp only [clS]; omega)) (by rw [hRm]; first | decide | (simp only [clS]; omega)) (fun _ => Nat.le_of_ble_eq_true rfl) (by rw [hRm]; first | decide | (simp only [clS]; omega)) (by rw [hRm]; first | decide | (simp only [clS]; omega)) dX12_says_53 (fun r53 w53 hp53 => ?_)
            obtain ⟨rfl, hP53⟩ := hp53
            have t4_53 : w53.1 400 = (112, 0) := by rw [hP53.1]; exact s400
            change GG Γ _ _ [ai (b01 (saM (th w) nr q cl (nmM (th w) L np rn sn 0) 1))] _ _ _
            rw [t1]
            refine g_if_eq (tgt := 72) h dX12_says_56 (by decide) (by first | assumption | exact ⟨by omega, by omega⟩) (fun c56 => ?_) (fun c56 => ?_)
            · refine g_iconst h dX12_says_72 ?_
              refine g_istore_n h dX12_says_73 (Nat.le_of_ble_eq_true rfl) rfl rfl ?_
              refine g_iload_n h dX12_says_74 rfl ?_
              refine g_if_eq (tgt := 82) h dX12_says_75 (by decide) (by first | assumption | exact ⟨by omega, by omega⟩) (fun c75 => ?_) (fun c75 => ?_)
              · refine g_iconst h dX12_says_82 ?_
                refine g_iret h hQ (by first | decide | omega | (simp only [clS]; omega)) (by first | decide | omega | (simp only [clS]; omega)) ?_ dX12_says_83
                first
                | (exfalso; omega)
                | (refine ⟨?_, by first | exact MP_rfl (th w) | exact hP30 | exact hP44 | exact MP_tr hP53 hP62 | exact hP53⟩
                   first
                   | (rw [if_neg (by omega)])
                   | (rw [if_pos (by omega), if_pos (by omega)]; refine congrArg (fun z => some (ai z)) ?_; omega)
                   | (rw [if_pos (by omega), if_neg (by omega), if_pos (by omega)]; refine congrArg (fun z => some (ai z)) ?_; omega)
                   | (rw [if_pos (by omega), if_neg (by omega), if_neg (by omega), ew, b01_wk]; first | rw [if_pos (by omega)] | rw [if_neg (by omega)]))
              · refine g_iconst h dX12_says_78 ?_
                refine g_goto (tgt := 83) h dX12_says_79 (by decide) ?_
                refine g_iret h hQ (by first | decide | omega | (simp only [clS]; omega)) (by first | decide | omega | (simp only [clS]; omega)) ?_ dX12_says_83
                first
                | (exfalso; omega)
                | (refine ⟨?_, by first | exact MP_rfl (th w) | exact hP30 | exact hP44 | exact MP_tr hP53 hP62 | exact hP53⟩
                   first
                   | (rw [if_neg (by omega)])
                   | (rw [if_pos (by omega), if_pos (by omega)]; refine congrArg (fun z => some (ai z)) ?_; omega)
                   | (rw [if_pos (by omega), if_neg (by omega), if_pos (by omega)]; refine congrArg (fun z => some (ai z)) ?_; omega)
                   | (rw [if_pos (by omega), if_neg (by omega), if_neg (by omega), ew, b01_wk]; first | rw [if_pos (by omega)] | rw [if_neg (by omega)]))
            · refine g_aload_n h dX12_says_59 rfl ?_
              refine g_iload_n h dX12_says_60 rfl ?_
              refine g_iconst h dX12_says_61 ?_
              refine g_callV h rfl (ci := 12) [_, _] (by assumption) (c_X12_says0 _ _ np rn sn nr q cl L 2 (MR_MP hP53 hRt) (RMB_MP hP53 hBt) hL ⟨by decide, by decide⟩) clX12_286 (by decide) rfl in_X12_says0 se_X12_says0 rfl rfl (by rw [hRm]; first | decide | (simp only [clS]; omega)) (by rw [hRm]; first | decide | (simp only [clS]; omega)) (fun _ => Nat.le_of_ble_eq_true rfl) (by rw [hRm]; first | decide | (simp only [clS]; omega)) (by rw [hRm]; first | decide | (simp only [clS]; omega)) dX12_says_62 (fun r62 w62 hp62 => ?_)
              obtain ⟨rfl, hP62⟩ := hp62
              rw [saM_MP hP53 hBt, nmM_MP hP53 hL 0 hRt]
              change GG Γ _ _ [ai (b01 (saM (th w) nr q cl (nmM (th w) L np rn sn 0) 2))] _ _ _
              rw [t1]
              refine g_if_ne (tgt := 72) h dX12_says_65 (by decide) (by first | assumption | exact ⟨by omega, by omega⟩) (fun c65 => ?_) (fun c65 => ?_)
              · refine g_iconst h dX12_says_72 ?_
                refine g_istore_n h dX12_says_73 (Nat.le_of_ble_eq_true rfl) rfl rfl ?_
                refine g_iload_n h dX12_says_74 rfl ?_
                refine g_if_eq (tgt := 82) h dX12_says_75 (by decide) (by first | assumption | exact ⟨by omega, by omega⟩) (fun c75 => ?_) (fun c75 => ?_)
                · refine g_iconst h dX12_says_82 ?_
                  refine g_iret h hQ (by first | decide | omega | (simp only [clS]; omega)) (by first | decide | omega | (simp only [clS]; omega)) ?_ dX12_says_83
                  first
                  | (exfalso; omega)
                  | (refine ⟨?_, by first | exact MP_rfl (th w) | exact hP30 | exact hP44 | exact MP_tr hP53 hP62 | exact hP53⟩
                     first
                     | (rw [if_neg (by omega)])
                     | (rw [if_pos (by omega), if_pos (by omega)]; refine congrArg (fun z => some (ai z)) ?_; omega)
                     | (rw [if_pos (by omega), if_neg (by omega), if_pos (by omega)]; refine congrArg (fun z => some (ai z)) ?_; omega)
                     | (rw [if_pos (by omega), if_neg (by omega), if_neg (by omega), ew, b01_wk]; first | rw [if_pos (by omega)] | rw [if_neg (by omega)]))
                · refine g_iconst h dX12_says_78 ?_
                  refine g_goto (tgt := 83) h dX12_says_79 (by decide) ?_
                  refine g_iret h hQ (by first | decide | omega | (simp only [clS]; omega)) (by first | decide | omega | (simp only [clS]; omega)) ?_ dX12_says_83
                  first
                  | (exfalso; omega)
                  | (refine ⟨?_, by first | exact MP_rfl (th w) | exact hP30 | exact hP44 | exact MP_tr hP53 hP62 | exact hP53⟩
                     first
                     | (rw [if_neg (by omega)])
                     | (rw [if_pos (by omega), if_pos (by omega)]; refine congrArg (fun z => some (ai z)) ?_; omega)
                     | (rw [if_pos (by omega), if_neg (by omega), if_pos (by omega)]; refine congrArg (fun z => some (ai z)) ?_; omega)
                     | (rw [if_pos (by omega), if_neg (by omega), if_neg (by omega), ew, b01_wk]; first | rw [if_pos (by omega)] | rw [if_neg (by omega)]))
              · refine g_iconst h dX12_says_68 ?_
                refine g_goto (tgt := 73) h dX12_says_69 (by decide) ?_
                refine g_istore_n h dX12_says_73 (Nat.le_of_ble_eq_true rfl) rfl rfl ?_
                refine g_iload_n h dX12_says_74 rfl ?_
                refine g_if_eq (tgt := 82) h dX12_says_75 (by decide) (by first | assumption | exact ⟨by omega, by omega⟩) (fun c75 => ?_) (fun c75 => ?_)
                · refine g_iconst h dX12_says_82 ?_
                  refine g_iret h hQ (by first | decide | omega | (simp only [clS]; omega)) (by first | decide | omega | (simp only [clS]; omega)) ?_ dX12_says_83
                  first
                  | (exfalso; omega)
                  | (refine ⟨?_, by first | exact MP_rfl (th w) | exact hP30 | exact hP44 | exact MP_tr hP53 hP62 | exact hP53⟩
                     first
                     | (rw [if_neg (by omega)])
                     | (rw [if_pos (by omega), if_pos (by omega)]; refine congrArg (fun z => some (ai z)) ?_; omega)
                     | (rw [if_pos (by omega), if_neg (by omega), if_pos (by omega)]; refine congrArg (fun z => some (ai z)) ?_; omega)
                     | (rw [if_pos (by omega), if_neg (by omega), if_neg (by omega), ew, b01_wk]; first | rw [if_pos (by omega)] | rw [if_neg (by omega)]))
                · refine g_iconst h dX12_says_78 ?_
                  refine g_goto (tgt := 83) h dX12_says_79 (by decide) ?_
                  refine g_iret h hQ (by first | decide | omega | (simp only [clS]; omega)) (by first | decide | omega | (simp only [clS]; omega)) ?_ dX12_says_83
                  first
                  | (exfalso; omega)
                  | (refine ⟨?_, by first | exact MP_rfl (th w) | exact hP30 | exact hP44 | exact MP_tr hP53 hP62 | exact hP53⟩
                     first
                     | (rw [if_neg (by omega)])
                     | (rw [if_pos (by omega), if_pos (by omega)]; refine congrArg (fun z => some (ai z)) ?_; omega)
                     | (rw [if_pos (by omega), if_neg (by omega), if_pos (by omega)]; refine congrArg (fun z => some (ai z)) ?_; omega)
                     | (rw [if_pos (by omega), if_neg (by omega), if_neg (by omega), ew, b01_wk]; first | rw [if_pos (by omega)] | rw [if_neg (by omega)]))
          · refine g_aload_n h dX12_says_41 rfl ?_
            refine g_iload_n h dX12_says_42 rfl ?_
            refine g_iconst h dX12_says_43 ?_
            refine g_callV h rfl (ci := 12) [_, _] (by assumption) (c_X12_says0 _ _ np rn sn nr q cl L 2 hRt hBt hL ⟨by decide, by decide⟩) clX12_286 (by decide) rfl in_X12_says0 se_X12_says0 rfl rfl (by rw [hRm]; first | decide | (simp only [clS]; omega)) (by rw [hRm]; first | decide | (simp only [clS]; omega)) (fun _ => Nat.le_of_ble_eq_true rfl) (by rw [hRm]; first | decide | (simp only [clS]; omega)) (by rw [hRm]; first | decide | (simp only [clS]; omega)) dX12_says_44 (fun r44 w44 hp44 => ?_)
            obtain ⟨rfl, hP44⟩ := hp44
            have t4_44 : w44.1 400 = (112, 0) := by rw [hP44.1]; exact s400
            change GG Γ _ _ [ai (b01 (saM (th w) nr q cl (nmM (th w) L np rn sn 0) 2))] _ _ _
            rw [t1]
            refine g_goto (tgt := 73) h dX12_says_47 (by decide) ?_
            refine g_istore_n h dX12_says_73 (Nat.le_of_ble_eq_true rfl) rfl rfl ?_
            refine g_iload_n h dX12_says_74 rfl ?_
            refine g_if_eq (tgt := 82) h dX12_says_75 (by decide) (by first | assumption | exact ⟨by omega, by omega⟩) (fun c75 => ?_) (fun c75 => ?_)
            · refine g_iconst h dX12_says_82 ?_
              refine g_iret h hQ (by first | decide | omega | (simp only [clS]; omega)) (by first | decide | omega | (simp only [clS]; omega)) ?_ dX12_says_83
              first
              | (exfalso; omega)
              | (refine ⟨?_, by first | exact MP_rfl (th w) | exact hP30 | exact hP44 | exact MP_tr hP53 hP62 | exact hP53⟩
                 first
                 | (rw [if_neg (by omega)])
                 | (rw [if_pos (by omega), if_pos (by omega)]; refine congrArg (fun z => some (ai z)) ?_; omega)
                 | (rw [if_pos (by omega), if_neg (by omega), if_pos (by omega)]; refine congrArg (fun z => some (ai z)) ?_; omega)
                 | (rw [if_pos (by omega), if_neg (by omega), if_neg (by omega), ew, b01_wk]; first | rw [if_pos (by omega)] | rw [if_neg (by omega)]))
            · refine g_iconst h dX12_says_78 ?_
              refine g_goto (tgt := 83) h dX12_says_79 (by decide) ?_
              refine g_iret h hQ (by first | decide | omega | (simp only [clS]; omega)) (by first | decide | omega | (simp only [clS]; omega)) ?_ dX12_says_83
              first
              | (exfalso; omega)
              | (refine ⟨?_, by first | exact MP_rfl (th w) | exact hP30 | exact hP44 | exact MP_tr hP53 hP62 | exact hP53⟩
                 first
                 | (rw [if_neg (by omega)])
                 | (rw [if_pos (by omega), if_pos (by omega)]; refine congrArg (fun z => some (ai z)) ?_; omega)
                 | (rw [if_pos (by omega), if_neg (by omega), if_pos (by omega)]; refine congrArg (fun z => some (ai z)) ?_; omega)
                 | (rw [if_pos (by omega), if_neg (by omega), if_neg (by omega), ew, b01_wk]; first | rw [if_pos (by omega)] | rw [if_neg (by omega)]))
        · refine g_aload_n h dX12_says_27 rfl ?_
          refine g_iload_n h dX12_says_28 rfl ?_
          refine g_iconst h dX12_says_29 ?_
          refine g_callV h rfl (ci := 12) [_, _] (by assumption) (c_X12_says0 _ _ np rn sn nr q cl L 0 hRt hBt hL ⟨by decide, by decide⟩) clX12_286 (by decide) rfl in_X12_says0 se_X12_says0 rfl rfl (by rw [hRm]; first | decide | (simp only [clS]; omega)) (by rw [hRm]; first | decide | (simp only [clS]; omega)) (fun _ => Nat.le_of_ble_eq_true rfl) (by rw [hRm]; first | decide | (simp only [clS]; omega)) (by rw [hRm]; first | decide | (simp only [clS]; omega)) dX12_says_30 (fun r30 w30 hp30 => ?_)
          obtain ⟨rfl, hP30⟩ := hp30
          have t4_30 : w30.1 400 = (112, 0) := by rw [hP30.1]; exact s400
          change GG Γ _ _ [ai (b01 (saM (th w) nr q cl (nmM (th w) L np rn sn 0) 0))] _ _ _
          rw [t1]
          refine g_goto (tgt := 73) h dX12_says_33 (by decide) ?_
          refine g_istore_n h dX12_says_73 (Nat.le_of_ble_eq_true rfl) rfl rfl ?_
          refine g_iload_n h dX12_says_74 rfl ?_
          refine g_if_eq (tgt := 82) h dX12_says_75 (by decide) (by first | assumption | exact ⟨by omega, by omega⟩) (fun c75 => ?_) (fun c75 => ?_)
          · refine g_iconst h dX12_says_82 ?_
            refine g_iret h hQ (by first | decide | omega | (simp only [clS]; omega)) (by first | decide | omega | (simp only [clS]; omega)) ?_ dX12_says_83
            first
            | (exfalso; omega)
            | (refine ⟨?_, by first | exact MP_rfl (th w) | exact hP30 | exact hP44 | exact MP_tr hP53 hP62 | exact hP53⟩
               first
               | (rw [if_neg (by omega)])
               | (rw [if_pos (by omega), if_pos (by omega)]; refine congrArg (fun z => some (ai z)) ?_; omega)
               | (rw [if_pos (by omega), if_neg (by omega), if_pos (by omega)]; refine congrArg (fun z => some (ai z)) ?_; omega)
               | (rw [if_pos (by omega), if_neg (by omega), if_neg (by omega), ew, b01_wk]; first | rw [if_pos (by omega)] | rw [if_neg (by omega)]))
          · refine g_iconst h dX12_says_78 ?_
            refine g_goto (tgt := 83) h dX12_says_79 (by decide) ?_
            refine g_iret h hQ (by first | decide | omega | (simp only [clS]; omega)) (by first | decide | omega | (simp only [clS]; omega)) ?_ dX12_says_83
            first
            | (exfalso; omega)
            | (refine ⟨?_, by first | exact MP_rfl (th w) | exact hP30 | exact hP44 | exact MP_tr hP53 hP62 | exact hP53⟩
               first
               | (rw [if_neg (by omega)])
               | (rw [if_pos (by omega), if_pos (by omega)]; refine congrArg (fun z => some (ai z)) ?_; omega)
               | (rw [if_pos (by omega), if_neg (by omega), if_pos (by omega)]; refine congrArg (fun z => some (ai z)) ?_; omega)
               | (rw [if_pos (by omega), if_neg (by omega), if_neg (by omega), ew, b01_wk]; first | rw [if_pos (by omega)] | rw [if_neg (by omega)]))
      · refine g_iconst h dX12_says_21 ?_
        refine g_iret h hQ (by first | decide | omega | (simp only [clS]; omega)) (by first | decide | omega | (simp only [clS]; omega)) ?_ dX12_says_22
        first
        | (exfalso; omega)
        | (refine ⟨?_, by first | exact MP_rfl (th w) | exact hP30 | exact hP44 | exact MP_tr hP53 hP62 | exact hP53⟩
           first
           | (rw [if_neg (by omega)])
           | (rw [if_pos (by omega), if_pos (by omega)]; refine congrArg (fun z => some (ai z)) ?_; omega)
           | (rw [if_pos (by omega), if_neg (by omega), if_pos (by omega)]; refine congrArg (fun z => some (ai z)) ?_; omega)
           | (rw [if_pos (by omega), if_neg (by omega), if_neg (by omega), ew, b01_wk]; first | rw [if_pos (by omega)] | rw [if_neg (by omega)]))
  · skip
    refine g_aload_n h dX12_says_0 rfl ?_
    refine g_iconst h dX12_says_1 ?_
    refine g_putI h flX12_1 rfl rfl (by assumption) dX12_says_2 ?_
    refine g_iload_n h dX12_says_5 rfl ?_
    refine g_callS h rfl [_] (c_X12_isLake _ _ _ hz) clX12_182 st_X12_isLake rfl rfl (by rw [hRm]; first | decide | (simp only [clS]; omega)) (by rw [hRm]; first | decide | (simp only [clS]; omega)) (fun _ => Nat.le_of_ble_eq_true rfl) (by rw [hRm]; first | decide | (simp only [clS]; omega)) (by rw [hRm]; first | decide | (simp only [clS]; omega)) dX12_says_6 (fun r6 w6 hp6 => ?_)
    obtain ⟨rfl, hw6⟩ := hp6
    rw [hw6]
    have hbw6 := ite01 (0 ≤ z ∧ z < 2)
    refine g_if_eq (tgt := 21) h dX12_says_9 (by decide) (by first | assumption | exact ⟨by omega, by omega⟩) (fun c9 => ?_) (fun c9 => ?_)
    · refine g_iconst h dX12_says_21 ?_
      refine g_iret h hQ (by first | decide | omega | (simp only [clS]; omega)) (by first | decide | omega | (simp only [clS]; omega)) ?_ dX12_says_22
      exact ⟨by rw [if_neg (by omega)], MP_rfl (th w)⟩
    · exfalso; omega
/-- whether rule i lets folk live at a height, at the first lakes -/
def mlL (w : AW) (np rn sn : Nat) (q : Nat → Nat) (cl : Nat → List Int) (hi : Int) (i : Nat) : Nat → Bool
  | 0 => true
  | l + 1 => mlL w np rn sn q cl hi i l && decide (evL (nmM w l np rn sn hi) (cl i) [] = [1])
def lvM (w : AW) (np rn sn nr : Nat) (q : Nat → Nat) (cl : Nat → List Int) (hi : Int) : Bool := allB (fun i => !decide (w.2.1 (q i) 0 = 3) || mlL w np rn sn q cl hi i 2) nr
theorem mlL_f {w : AW} {np rn sn : Nat} {q : Nat → Nat} {cl : Nat → List Int} {hi : Int} {i l : Nat} (h : ¬ evL (nmM w l np rn sn hi) (cl i) [] = [1]) : ∀ m, l < m → mlL w np rn sn q cl hi i m = false
  | 0, a => by omega
  | m + 1, a => by
    unfold mlL
    by_cases e : l = m
    · subst e; rw [decide_eq_false h, Bool.and_false]
    · rw [mlL_f h m (by omega)]; rfl
set_option maxRecDepth 100000 in
set_option maxHeartbeats 4000000 in
theorem c_X12_mayLive (l : Launch) (w : AW) (np rn sn nr : Nat) (q : Nat → Nat) (cl : Nat → List Int) (c : Nat) (hR : MR w np rn sn) (hB : RMB w nr q cl) (hc : c < 400) (hh : 0 ≤ w.2.1 472 c ∧ w.2.1 472 c ≤ 999) : HT l yX12_mayLive cX12_mayLive 4 (some .boolean) 9 0 0 w [ar 400, ai (c : Int)] (fun r w' => r = some (ai (b01 (lvM w np rn sn nr q cl (w.2.1 472 c)))) ∧ MP w w') := by
  refine HT.of (by decide) (by intro v hv; simp only [List.mem_cons, List.not_mem_nil, or_false] at hv; rcases hv with rfl | rfl <;> rfl) (Nat.le_of_ble_eq_true rfl) ?_
  intro Γ h hQ hRm hnm hl hw0
  obtain ⟨hnr, hnr2, hrl⟩ := id hB
  have loop : ∀ (d i : Nat) (u : AW) (x : Option AV), i + d = nr → MP w u → allB (fun i => !decide (w.2.1 (q i) 0 = 3) || mlL w np rn sn q cl (w.2.1 472 c) i 2) i = true → GG Γ 2 [some (ar 400), some (ai (c : Int)), some (ai (i : Int)), x] [] u 0 0 := by
    intro d
    induction d with
    | zero =>
      intro i u x hi hF hall
      obtain rfl : i = nr := by omega
      have hMu := MS_MP hF hR.1
      have e42 : u.2.1 400 42 = (i : Int) := (hF.2.2.2 42 (by decide) (by decide)).trans hnr
      have ts400 : u.1 400 = (112, 0) := hMu.1 400 (by decide) (by decide)
      have ts444 : u.1 444 = (210, 17) := hMu.1 444 (by decide) (by decide)
      have ts472 : u.1 472 = (1, 400) := hMu.1 472 (by decide) (by decide)
      have tp44 : u.2.2 400 44 = some 444 := hMu.2 (400, 44, 444) (by decide)
      have tp72 : u.2.2 400 72 = some 472 := hMu.2 (400, 72, 472) (by decide)
      refine g_iload_n h dX12_mayLive_2 rfl ?_
      refine g_aload_n h dX12_mayLive_3 rfl ?_
      refine g_getI h flX12_312 rfl (by assumption) dX12_mayLive_4 ?_
      rw [e42]
      refine g_icmp_ge (tgt := 67) h dX12_mayLive_7 (by decide) (by first | assumption | exact ⟨by omega, by omega⟩) (by first | assumption | exact ⟨by omega, by omega⟩) (fun c7 => ?_) (fun c7 => ?_)
      · refine g_iconst h dX12_mayLive_67 ?_
        refine g_zret h hQ (by first | decide | omega | (simp only [clS]; omega)) (by first | decide | omega | (simp only [clS]; omega)) (by omega) ?_ dX12_mayLive_68
        refine ⟨?_, hF⟩
        unfold lvM
        rw [hall]
        rfl
      · exfalso; omega
    | succ d ih =>
      intro i u x hi hF hall
      obtain ⟨g1, g2, g3, g4, g5⟩ := hrl i (by omega)
      have hab : 0 ≤ w.2.1 (q i) 0 ∧ w.2.1 (q i) 0 < 4 := g3.2.2.2.2.2.2.2.2
      have sB : allB (fun i => !decide (w.2.1 (q i) 0 = 3) || mlL w np rn sn q cl (w.2.1 472 c) i 2) (i + 1) = (allB (fun i => !decide (w.2.1 (q i) 0 = 3) || mlL w np rn sn q cl (w.2.1 472 c) i 2) i && (!decide (w.2.1 (q i) 0 = 3) || mlL w np rn sn q cl (w.2.1 472 c) i 2)) := rfl
      rw [hall, Bool.true_and] at sB
      -- the lakes
      have lakes : w.2.1 (q i) 0 = 3 → ∀ (e l : Nat) (v : AW), l + e = 2 → MP w v → mlL w np rn sn q cl (w.2.1 472 c) i l = true → GG Γ 28 [some (ar 400), some (ai (c : Int)), some (ai (i : Int)), some (ai (l : Int))] [] v 0 0 := by
        intro ha3 e
        induction e with
        | zero =>
          intro l v hl hFv hml
          obtain rfl : l = 2 := by omega
          have hMv := MS_MP hFv hR.1
          have ts400 : v.1 400 = (112, 0) := hMv.1 400 (by decide) (by decide)
          have ts444 : v.1 444 = (210, 17) := hMv.1 444 (by decide) (by decide)
          have ts472 : v.1 472 = (1, 400) := hMv.1 472 (by decide) (by decide)
          have tp44 : v.2.2 400 44 = some 444 := hMv.2 (400, 44, 444) (by decide)
          have tp72 : v.2.2 400 72 = some 472 := hMv.2 (400, 72, 472) (by decide)
          refine g_iload_n h dX12_mayLive_28 rfl ?_
          refine g_iconst h dX12_mayLive_29 ?_
          refine g_icmp_ge (tgt := 61) h dX12_mayLive_30 (by decide) (by first | assumption | exact ⟨by omega, by omega⟩) (by first | assumption | exact ⟨by omega, by omega⟩) (fun c30 => ?_) (fun c30 => ?_)
          · refine g_iinc h dX12_mayLive_61 rfl (Nat.le_of_ble_eq_true rfl) rfl rfl ?_
            refine g_goto (tgt := 2) h dX12_mayLive_64 (by decide) ?_
            exact ih (i + 1) v _ (by omega) hFv (by rw [sB, hml]; exact Bool.or_true _)
          · exfalso; omega
        | succ e ihe =>
          intro l v hl hFv hml
          have hMv := MS_MP hFv hR.1
          have hRv := MR_MP hFv hR
          have h444 : v.2.2 444 i = some (q i) := by rw [hFv.2.1]; exact g1
          have hqs : v.1 (q i) = (110, 0) := by rw [hFv.1]; exact g3.1
          have e472 : v.2.1 472 c = w.2.1 472 c := congrFun (MP_e hFv 472 (by decide)) c
          have hnu := nmM_MP (L := l) hFv (by omega) (w.2.1 472 c) hR
          have ts400 : v.1 400 = (112, 0) := hMv.1 400 (by decide) (by decide)
          have ts444 : v.1 444 = (210, 17) := hMv.1 444 (by decide) (by decide)
          have ts472 : v.1 472 = (1, 400) := hMv.1 472 (by decide) (by decide)
          have tp44 : v.2.2 400 44 = some 444 := hMv.2 (400, 44, 444) (by decide)
          have tp72 : v.2.2 400 72 = some 472 := hMv.2 (400, 72, 472) (by decide)
          refine g_iload_n h dX12_mayLive_28 rfl ?_
          refine g_iconst h dX12_mayLive_29 ?_
          refine g_icmp_ge (tgt := 61) h dX12_mayLive_30 (by decide) (by first | assumption | exact ⟨by omega, by omega⟩) (by first | assumption | exact ⟨by omega, by omega⟩) (fun c30 => ?_) (fun c30 => ?_)
          · exfalso; omega
          · refine g_aload_n h dX12_mayLive_33 rfl ?_
            refine g_aload_n h dX12_mayLive_34 rfl ?_
            refine g_getQ h flX12_119 rfl (by assumption) (by assumption) dX12_mayLive_35 ?_
            refine g_iload_n h dX12_mayLive_38 rfl ?_
            refine g_aald h (i) (by assumption) (by unfold arK; omega) (by first | omega | assumption) (by first | omega | assumption) (by first | omega | assumption) (by first | decide | omega) (by assumption) dX12_mayLive_39 ?_
            refine g_iload_n h dX12_mayLive_40 rfl ?_
            refine g_aload_n h dX12_mayLive_41 rfl ?_
            refine g_getQ h flX12_164 rfl (by assumption) (by assumption) dX12_mayLive_42 ?_
            refine g_iload_n h dX12_mayLive_45 rfl ?_
            refine g_iald h (c) (by assumption) (by first | omega | assumption) (by first | omega | assumption) (by first | decide | omega) dX12_mayLive_46 ?_
            rw [e472]
            refine g_callV h rfl (ci := 12) [_, _, _] (by assumption) (c_X12_holdsBy _ _ np rn sn l (q i) (w.2.1 472 c) (cl i) hRv (by omega) g2 (RM_MP hFv g2 g3) hh g4 g5) clX12_473 (by decide) rfl in_X12_holdsBy se_X12_holdsBy rfl rfl (by rw [hRm]; first | decide | (simp only [clS]; omega)) (by rw [hRm]; first | decide | (simp only [clS]; omega)) (fun _ => Nat.le_of_ble_eq_true rfl) (by rw [hRm]; first | decide | (simp only [clS]; omega)) (by rw [hRm]; first | decide | (simp only [clS]; omega)) dX12_mayLive_47 (fun r47 w47 hp47 => ?_)
            obtain ⟨rfl, hP9⟩ := hp47
            rw [hnu]
            have hb9 := ite01 (evL (nmM w l np rn sn (w.2.1 472 c)) (cl i) [] = [1])
            refine g_if_ne (tgt := 55) h dX12_mayLive_50 (by decide) (by first | assumption | exact ⟨by omega, by omega⟩) (fun c50 => ?_) (fun c50 => ?_)
            · refine g_iinc h dX12_mayLive_55 rfl (Nat.le_of_ble_eq_true rfl) rfl rfl ?_
              refine g_goto (tgt := 28) h dX12_mayLive_58 (by decide) ?_
              exact ihe (l + 1) _ (by omega) (MP_tr hFv hP9) (by
                have hev : evL (nmM w l np rn sn (w.2.1 472 c)) (cl i) [] = [1] := by rcases hb9 with q9 | q9; exact q9.2; omega
                show (mlL w np rn sn q cl (w.2.1 472 c) i l && decide (evL (nmM w l np rn sn (w.2.1 472 c)) (cl i) [] = [1])) = true
                rw [hml, decide_eq_true hev]
                rfl)
            · refine g_iconst h dX12_mayLive_53 ?_
              refine g_zret h hQ (by first | decide | omega | (simp only [clS]; omega)) (by first | decide | omega | (simp only [clS]; omega)) (by omega) ?_ dX12_mayLive_54
              refine ⟨?_, MP_tr hFv hP9⟩
              have hev : ¬ evL (nmM w l np rn sn (w.2.1 472 c)) (cl i) [] = [1] := by rcases hb9 with q9 | q9; omega; exact q9.2
              unfold lvM
              rw [allB_up (i := i) (by show (!decide (w.2.1 (q i) 0 = 3) || mlL w np rn sn q cl (w.2.1 472 c) i 2) = false; rw [decide_eq_true ha3, mlL_f hev 2 (by omega)]; rfl) nr (by omega)]
              rfl
      have hMu := MS_MP hF hR.1
      have e42 : u.2.1 400 42 = (nr : Int) := (hF.2.2.2 42 (by decide) (by decide)).trans hnr
      have h444 : u.2.2 444 i = some (q i) := by rw [hF.2.1]; exact g1
      have hqs : u.1 (q i) = (110, 0) := by rw [hF.1]; exact g3.1
      have hqa : u.2.1 (q i) 0 = w.2.1 (q i) 0 := congrFun (MP_e hF (q i) (by omega)) 0
      have ts400 : u.1 400 = (112, 0) := hMu.1 400 (by decide) (by decide)
      have ts444 : u.1 444 = (210, 17) := hMu.1 444 (by decide) (by decide)
      have ts472 : u.1 472 = (1, 400) := hMu.1 472 (by decide) (by decide)
      have tp44 : u.2.2 400 44 = some 444 := hMu.2 (400, 44, 444) (by decide)
      have tp72 : u.2.2 400 72 = some 472 := hMu.2 (400, 72, 472) (by decide)
      refine g_iload_n h dX12_mayLive_2 rfl ?_
      refine g_aload_n h dX12_mayLive_3 rfl ?_
      refine g_getI h flX12_312 rfl (by assumption) dX12_mayLive_4 ?_
      rw [e42]
      refine g_icmp_ge (tgt := 67) h dX12_mayLive_7 (by decide) (by first | assumption | exact ⟨by omega, by omega⟩) (by first | assumption | exact ⟨by omega, by omega⟩) (fun c7 => ?_) (fun c7 => ?_)
      · exfalso; omega
      · refine g_aload_n h dX12_mayLive_10 rfl ?_
        refine g_getQ h flX12_119 rfl (by assumption) (by assumption) dX12_mayLive_11 ?_
        refine g_iload_n h dX12_mayLive_14 rfl ?_
        refine g_aald h (i) (by assumption) (by unfold arK; omega) (by first | omega | assumption) (by first | omega | assumption) (by first | omega | assumption) (by first | decide | omega) (by assumption) dX12_mayLive_15 ?_
        refine g_getIN h flX12_408 rfl (by assumption) dX12_mayLive_16 ?_
        rw [hqa]
        refine g_iconst h dX12_mayLive_19 ?_
        refine g_icmp_eq (tgt := 26) h dX12_mayLive_20 (by decide) (by first | assumption | exact ⟨by omega, by omega⟩) (by first | assumption | exact ⟨by omega, by omega⟩) (fun c20 => ?_) (fun c20 => ?_)
        · refine g_iconst h dX12_mayLive_26 ?_
          refine g_istore_n h dX12_mayLive_27 (Nat.le_of_ble_eq_true rfl) rfl rfl ?_
          exact lakes (by omega) 2 0 u (by omega) hF rfl
        · refine g_goto (tgt := 61) h dX12_mayLive_23 (by decide) ?_
          refine g_iinc h dX12_mayLive_61 rfl (Nat.le_of_ble_eq_true rfl) rfl rfl ?_
          refine g_goto (tgt := 2) h dX12_mayLive_64 (by decide) ?_
          exact ih (i + 1) u x (by omega) hF (by rw [sB, decide_eq_false (by omega)]; rfl)
  have hMs := hR.1
  refine g_iconst h dX12_mayLive_0 ?_
  refine g_istore_n h dX12_mayLive_1 (Nat.le_of_ble_eq_true rfl) rfl rfl ?_
  exact loop nr 0 w none (by omega) (MP_rfl w) rfl
theorem th_lv {w : AW} {np rn sn nr : Nat} {q : Nat → Nat} {cl : Nat → List Int} (hR : MR w np rn sn) (h : RMB w nr q cl) (hi : Int) : lvM (th w) np rn sn nr q cl hi = lvM w np rn sn nr q cl hi := by
  have e : ∀ i l, l ≤ 2 → mlL (th w) np rn sn q cl hi i l = mlL w np rn sn q cl hi i l := by
    intro i l
    induction l with
    | zero => intro _; rfl
    | succ l ih => intro hl; unfold mlL; rw [ih (by omega), th_nm hR (by omega)]
  unfold lvM
  exact allB_congr nr (fun i hi => by rw [e i 2 (Nat.le_refl _), show (th w).2.1 (q i) = w.2.1 (q i) from upI_o _ _ _ (by have := (h.2.2 i hi).2.1; omega)])
set_option maxRecDepth 100000 in
set_option maxHeartbeats 4000000 in
theorem c_X12_may (l : Launch) (w : AW) (np rn sn nr : Nat) (q : Nat → Nat) (cl : Nat → List Int) (c : Int) (hR : MR w np rn sn) (hB : RMB w nr q cl) (hL : ML w) (hc : R32 c) : HT l yX12_may cX12_may 2 (some .int) 10 0 0 w [ar 400, ai c] (fun r w' => r = some (ai (if 0 ≤ c ∧ c < 400 then b01 (lvM w np rn sn nr q cl (w.2.1 472 c.toNat)) else -1)) ∧ MP (th w) w') := by
  refine HT.of (by decide) (by intro v hv; simp only [List.mem_cons, List.not_mem_nil, or_false] at hv; rcases hv with rfl | rfl <;> rfl) (Nat.le_of_ble_eq_true rfl) ?_
  intro Γ h hQ hRm hnm hl hw0
  have hM := hR.1
  have s400 : w.1 400 = (112, 0) := hM.1 400 (by decide) (by decide)
  by_cases hcc : 0 ≤ c ∧ c < 400
  · obtain ⟨n, rfl⟩ : ∃ n : Nat, c = (n : Int) := ⟨c.toNat, by omega⟩
    rw [Int.toNat_natCast] at hQ
    have h01 := b01_01 (lvM w np rn sn nr q cl (w.2.1 472 n))
    refine g_aload_n h dX12_may_0 rfl ?_
    refine g_iconst h dX12_may_1 ?_
    refine g_putI h flX12_1 rfl rfl (by assumption) dX12_may_2 ?_
    refine g_iload_n h dX12_may_5 rfl ?_
    refine g_callS h rfl [_] (c_X12_isCell _ _ _ hc) clX12_477 st_X12_isCell rfl rfl (by rw [hRm]; first | decide | (simp only [clS]; omega)) (by rw [hRm]; first | decide | (simp only [clS]; omega)) (fun _ => Nat.le_of_ble_eq_true rfl) (by rw [hRm]; first | decide | (simp only [clS]; omega)) (by rw [hRm]; first | decide | (simp only [clS]; omega)) dX12_may_6 (fun r6 w6 hp6 => ?_)
    obtain ⟨rfl, hw6⟩ := hp6
    rw [hw6]
    have hbw6 := ite01 (0 ≤ (n : Int) ∧ (n : Int) < 400)
    refine g_if_eq (tgt := 28) h dX12_may_9 (by decide) (by first | assumption | exact ⟨by omega, by omega⟩) (fun c9 => ?_) (fun c9 => ?_)
    · exfalso; omega
    · refine g_aload_n h dX12_may_12 rfl ?_
      refine g_iload_n h dX12_may_13 rfl ?_
      refine g_callV h rfl (ci := 12) [_] (by assumption) (c_X12_mayLive _ _ np rn sn nr q cl n (th_MR hR) (th_RMB hB) (by omega) (hL.1 n (by omega))) clX12_480 (by decide) rfl in_X12_mayLive se_X12_mayLive rfl rfl (by rw [hRm]; first | decide | (simp only [clS]; omega)) (by rw [hRm]; first | decide | (simp only [clS]; omega)) (fun _ => Nat.le_of_ble_eq_true rfl) (by rw [hRm]; first | decide | (simp only [clS]; omega)) (by rw [hRm]; first | decide | (simp only [clS]; omega)) dX12_may_14 (fun r14 w14 hp14 => ?_)
      obtain ⟨rfl, hP14⟩ := hp14
      change GG Γ _ _ [ai (b01 (lvM (th w) np rn sn nr q cl (w.2.1 472 n)))] _ _ _
      rw [th_lv hR hB]
      refine g_if_eq (tgt := 24) h dX12_may_17 (by decide) (by first | assumption | exact ⟨by omega, by omega⟩) (fun c17 => ?_) (fun c17 => ?_)
      · refine g_iconst h dX12_may_24 ?_
        refine g_goto (tgt := 29) h dX12_may_25 (by decide) ?_
        refine g_iret h hQ (by first | decide | omega | (simp only [clS]; omega)) (by first | decide | omega | (simp only [clS]; omega)) ?_ dX12_may_29
        first
        | (exfalso; omega)
        | (refine ⟨?_, by first | exact hP14 | exact MP_rfl _⟩
           rw [if_pos hcc]
           refine congrArg (fun z => some (ai z)) ?_
           omega)
      · refine g_iconst h dX12_may_20 ?_
        refine g_goto (tgt := 29) h dX12_may_21 (by decide) ?_
        refine g_iret h hQ (by first | decide | omega | (simp only [clS]; omega)) (by first | decide | omega | (simp only [clS]; omega)) ?_ dX12_may_29
        first
        | (exfalso; omega)
        | (refine ⟨?_, by first | exact hP14 | exact MP_rfl _⟩
           rw [if_pos hcc]
           refine congrArg (fun z => some (ai z)) ?_
           omega)
  · skip
    refine g_aload_n h dX12_may_0 rfl ?_
    refine g_iconst h dX12_may_1 ?_
    refine g_putI h flX12_1 rfl rfl (by assumption) dX12_may_2 ?_
    refine g_iload_n h dX12_may_5 rfl ?_
    refine g_callS h rfl [_] (c_X12_isCell _ _ _ hc) clX12_477 st_X12_isCell rfl rfl (by rw [hRm]; first | decide | (simp only [clS]; omega)) (by rw [hRm]; first | decide | (simp only [clS]; omega)) (fun _ => Nat.le_of_ble_eq_true rfl) (by rw [hRm]; first | decide | (simp only [clS]; omega)) (by rw [hRm]; first | decide | (simp only [clS]; omega)) dX12_may_6 (fun r6 w6 hp6 => ?_)
    obtain ⟨rfl, hw6⟩ := hp6
    rw [hw6]
    have hbw6 := ite01 (0 ≤ c ∧ c < 400)
    refine g_if_eq (tgt := 28) h dX12_may_9 (by decide) (by first | assumption | exact ⟨by omega, by omega⟩) (fun c9 => ?_) (fun c9 => ?_)
    · refine g_iconst h dX12_may_28 ?_
      refine g_iret h hQ (by first | decide | omega | (simp only [clS]; omega)) (by first | decide | omega | (simp only [clS]; omega)) ?_ dX12_may_29
      exact ⟨by rw [if_neg hcc], MP_rfl _⟩
    · exfalso; omega
