/-! ===== the reader of rules: tokens read ===== -/
theorem rowK_congr {R R' : Nat → Int} {t : Int × Int × Nat} (h : ∀ f, f ≠ 3 → f ≠ 4 → f ≠ 5 → R f = R' f) : rowK R t = rowK R' t := by
  obtain ⟨k, v, q⟩ := t
  exact rowK_eq (by simp [rowK]) (by simp [rowK]) (by simp [rowK]) (fun f h3 h4 h5 => by simp only [rowK, h3, h4, h5, if_false]; exact h f h3 h4 h5)
set_option maxRecDepth 100000 in
set_option maxHeartbeats 4000000 in
theorem c_X6_readWord (l : Launch) (w : AW) (T : Nat → Int) (n : Nat) (p : Nat) (hc : RXc w T n) (h2 : w.2.1 23 2 = (p : Int)) (hpn : p < n) : HT l yX6_readWord cX6_readWord 2 none 7 0 0 w [ar 23] (fun r w' => r = none ∧ F23 w w' (rowK (w.2.1 23) (wordF T n p (w.2.1 23 5)))) := by
  refine HT.of (by decide) (by intro v hv; simp only [List.mem_cons, List.not_mem_nil, or_false] at hv; rcases hv with rfl <;> rfl) (Nat.le_of_ble_eq_true rfl) ?_
  intro Γ h hQ hRm hnm hl hw0
  obtain ⟨hX, hT, hn1, hn3, hTb⟩ := id hc
  have s23 : w.1 23 = (106, 0) := hX.1 23 (by decide)
  have fin : ∀ k : Nat, p + k ≤ n → runF isLb T (n - p) p = p + k → GG Γ 30 [some (ar 23), some (ai ((p + k : Nat) : Int))] [] w 0 0 := by
    intro k hk hend
    have hA := actV_bd (spl T n p (p + k))
    have hB := namV_bd (spl T n p (p + k))
    have hC := jntV_bd (spl T n p (p + k))
    have t23 : (upI w 23 3 ((p + k : Nat) : Int)).1 23 = (106, 0) := s23
    have t2 : (upI w 23 3 ((p + k : Nat) : Int)).2.1 23 2 = (p : Int) := h2
    refine g_aload_n h dX6_readWord_30 rfl ?_
    refine g_iload_n h dX6_readWord_31 rfl ?_
    refine g_putI h flX6_31 rfl rfl (by assumption) dX6_readWord_32 ?_
    refine g_iload_n h dX6_readWord_35 rfl ?_
    refine g_aload_n h dX6_readWord_36 rfl ?_
    refine g_getI h flX6_84 rfl (by exact s23) dX6_readWord_37 ?_
    rw [t2]
    refine g_isub h dX6_readWord_40 ?_
    refine g_bipush h dX6_readWord_41 rfl ?_
    refine g_icmp_le (tgt := 52) h dX6_readWord_43 (by decide) (by first | assumption | exact ⟨by omega, by omega⟩) (by first | assumption | exact ⟨by omega, by omega⟩) (fun c43 => ?_) (fun c43 => ?_)
    · refine g_aload_n h dX6_readWord_52 rfl ?_
      refine g_iconst h dX6_readWord_53 ?_
      refine g_putI h flX6_90 rfl rfl (by exact s23) dX6_readWord_54 ?_
      refine g_aload_n h dX6_readWord_57 rfl ?_
      refine g_aload_n h dX6_readWord_58 rfl ?_
      refine g_callV h rfl (ci := 6) [] (by exact s23) (c_X6_actSpelled _ _ T n p (p + k) (RXc_of rfl rfl rfl rfl hc) h2 rfl (by omega) (by omega)) clX6_115 (by decide) rfl in_X6_actSpelled se_X6_actSpelled rfl rfl (by rw [hRm]; first | decide | (simp only [clS]; omega)) (by rw [hRm]; first | decide | (simp only [clS]; omega)) (fun _ => Nat.le_of_ble_eq_true rfl) (by rw [hRm]; first | decide | (simp only [clS]; omega)) (by rw [hRm]; first | decide | (simp only [clS]; omega)) dX6_readWord_59 (fun r59 w59 hp59 => ?_)
      obtain ⟨rfl, hw59⟩ := hp59
      rw [hw59]
      refine g_putI h flX6_87 rfl rfl (by exact s23) dX6_readWord_62 ?_
      refine g_aload_n h dX6_readWord_65 rfl ?_
      refine g_getI h flX6_87 rfl (by exact s23) dX6_readWord_66 ?_
      rw [upI_self]
      refine g_iconst h dX6_readWord_69 ?_
      refine g_icmp_ne (tgt := 86) h dX6_readWord_70 (by decide) (by first | assumption | exact ⟨by omega, by omega⟩) (by first | assumption | exact ⟨by omega, by omega⟩) (fun c70 => ?_) (fun c70 => ?_)
      · refine g_aload_n h dX6_readWord_86 rfl ?_
        refine g_getI h flX6_87 rfl (by exact s23) dX6_readWord_87 ?_
        rw [upI_self]
        refine g_iconst h dX6_readWord_90 ?_
        refine g_icmp_ne (tgt := 108) h dX6_readWord_91 (by decide) (by first | assumption | exact ⟨by omega, by omega⟩) (by first | assumption | exact ⟨by omega, by omega⟩) (fun c91 => ?_) (fun c91 => ?_)
        · refine g_aload_n h dX6_readWord_108 rfl ?_
          refine g_getI h flX6_87 rfl (by exact s23) dX6_readWord_109 ?_
          rw [upI_self]
          refine g_iconst h dX6_readWord_112 ?_
          refine g_icmp_ne (tgt := 122) h dX6_readWord_113 (by decide) (by first | assumption | exact ⟨by omega, by omega⟩) (by first | assumption | exact ⟨by omega, by omega⟩) (fun c113 => ?_) (fun c113 => ?_)
          · refine g_vret h hQ (by first | decide | omega | (simp only [clS]; omega)) (by first | decide | omega | (simp only [clS]; omega)) ?_ dX6_readWord_122
            first
            | (exfalso; omega)
            | (refine ⟨rfl, rfl, rfl, fun j hj => by simp only [upI_sR, sR_ne _ _ hj], ?_⟩
               simp only [upI_sR, sR_at]
               have e9 : wordF T n p (w.2.1 23 5) = (4, actV (spl T n p (p + k)), p + k) := by
                 unfold wordF
                 rw [hend]
                 first
                 | rw [if_pos (by omega)]
                 | (rw [if_neg (by omega)]
                    unfold wordK
                    repeat first | rw [if_pos (by omega)] | rw [if_neg (by omega)]
                    try rw [show jntV (spl T n p (p + k)) = -1 by omega])
               rw [e9]
               exact rowK_eq (by simp [uI]) (by simp [uI]) (by simp [uI]) (fun f h3 h4 h5 => by simp [uI, h3, h4, h5]))
          · refine g_aload_n h dX6_readWord_116 rfl ?_
            refine g_bipush h dX6_readWord_117 rfl ?_
            refine g_putI h flX6_90 rfl rfl (by exact s23) dX6_readWord_119 ?_
            refine g_vret h hQ (by first | decide | omega | (simp only [clS]; omega)) (by first | decide | omega | (simp only [clS]; omega)) ?_ dX6_readWord_122
            first
            | (exfalso; omega)
            | (refine ⟨rfl, rfl, rfl, fun j hj => by simp only [upI_sR, sR_ne _ _ hj], ?_⟩
               simp only [upI_sR, sR_at]
               have e9 : wordF T n p (w.2.1 23 5) = (7, jntV (spl T n p (p + k)), p + k) := by
                 unfold wordF
                 rw [hend]
                 first
                 | rw [if_pos (by omega)]
                 | (rw [if_neg (by omega)]
                    unfold wordK
                    repeat first | rw [if_pos (by omega)] | rw [if_neg (by omega)]
                    try rw [show jntV (spl T n p (p + k)) = -1 by omega])
               rw [e9]
               exact rowK_eq (by simp [uI]) (by simp [uI]) (by simp [uI]) (fun f h3 h4 h5 => by simp [uI, h3, h4, h5]))
        · refine g_aload_n h dX6_readWord_94 rfl ?_
          refine g_bipush h dX6_readWord_95 rfl ?_
          refine g_putI h flX6_90 rfl rfl (by exact s23) dX6_readWord_97 ?_
          refine g_aload_n h dX6_readWord_100 rfl ?_
          refine g_aload_n h dX6_readWord_101 rfl ?_
          refine g_callV h rfl (ci := 6) [] (by exact s23) (c_X6_jointSpelled _ _ T n p (p + k) (RXc_of rfl rfl rfl rfl hc) h2 rfl (by omega) (by omega)) clX6_122 (by decide) rfl in_X6_jointSpelled se_X6_jointSpelled rfl rfl (by rw [hRm]; first | decide | (simp only [clS]; omega)) (by rw [hRm]; first | decide | (simp only [clS]; omega)) (fun _ => Nat.le_of_ble_eq_true rfl) (by rw [hRm]; first | decide | (simp only [clS]; omega)) (by rw [hRm]; first | decide | (simp only [clS]; omega)) dX6_readWord_102 (fun r102 w102 hp102 => ?_)
          obtain ⟨rfl, hw102⟩ := hp102
          rw [hw102]
          refine g_putI h flX6_87 rfl rfl (by exact s23) dX6_readWord_105 ?_
          refine g_aload_n h dX6_readWord_108 rfl ?_
          refine g_getI h flX6_87 rfl (by exact s23) dX6_readWord_109 ?_
          rw [upI_self]
          refine g_iconst h dX6_readWord_112 ?_
          refine g_icmp_ne (tgt := 122) h dX6_readWord_113 (by decide) (by first | assumption | exact ⟨by omega, by omega⟩) (by first | assumption | exact ⟨by omega, by omega⟩) (fun c113 => ?_) (fun c113 => ?_)
          · refine g_vret h hQ (by first | decide | omega | (simp only [clS]; omega)) (by first | decide | omega | (simp only [clS]; omega)) ?_ dX6_readWord_122
            first
            | (exfalso; omega)
            | (refine ⟨rfl, rfl, rfl, fun j hj => by simp only [upI_sR, sR_ne _ _ hj], ?_⟩
               simp only [upI_sR, sR_at]
               have e9 : wordF T n p (w.2.1 23 5) = (6, jntV (spl T n p (p + k)), p + k) := by
                 unfold wordF
                 rw [hend]
                 first
                 | rw [if_pos (by omega)]
                 | (rw [if_neg (by omega)]
                    unfold wordK
                    repeat first | rw [if_pos (by omega)] | rw [if_neg (by omega)]
                    try rw [show jntV (spl T n p (p + k)) = -1 by omega])
               rw [e9]
               exact rowK_eq (by simp [uI]) (by simp [uI]) (by simp [uI]) (fun f h3 h4 h5 => by simp [uI, h3, h4, h5]))
          · refine g_aload_n h dX6_readWord_116 rfl ?_
            refine g_bipush h dX6_readWord_117 rfl ?_
            refine g_putI h flX6_90 rfl rfl (by exact s23) dX6_readWord_119 ?_
            refine g_vret h hQ (by first | decide | omega | (simp only [clS]; omega)) (by first | decide | omega | (simp only [clS]; omega)) ?_ dX6_readWord_122
            first
            | (exfalso; omega)
            | (refine ⟨rfl, rfl, rfl, fun j hj => by simp only [upI_sR, sR_ne _ _ hj], ?_⟩
               simp only [upI_sR, sR_at]
               have e9 : wordF T n p (w.2.1 23 5) = (7, jntV (spl T n p (p + k)), p + k) := by
                 unfold wordF
                 rw [hend]
                 first
                 | rw [if_pos (by omega)]
                 | (rw [if_neg (by omega)]
                    unfold wordK
                    repeat first | rw [if_pos (by omega)] | rw [if_neg (by omega)]
                    try rw [show jntV (spl T n p (p + k)) = -1 by omega])
               rw [e9]
               exact rowK_eq (by simp [uI]) (by simp [uI]) (by simp [uI]) (fun f h3 h4 h5 => by simp [uI, h3, h4, h5]))
      · refine g_aload_n h dX6_readWord_73 rfl ?_
        refine g_iconst h dX6_readWord_74 ?_
        refine g_putI h flX6_90 rfl rfl (by exact s23) dX6_readWord_75 ?_
        refine g_aload_n h dX6_readWord_78 rfl ?_
        refine g_aload_n h dX6_readWord_79 rfl ?_
        refine g_callV h rfl (ci := 6) [] (by exact s23) (c_X6_nameSpelled _ _ T n p (p + k) (RXc_of rfl rfl rfl rfl hc) h2 rfl (by omega) (by omega)) clX6_119 (by decide) rfl in_X6_nameSpelled se_X6_nameSpelled rfl rfl (by rw [hRm]; first | decide | (simp only [clS]; omega)) (by rw [hRm]; first | decide | (simp only [clS]; omega)) (fun _ => Nat.le_of_ble_eq_true rfl) (by rw [hRm]; first | decide | (simp only [clS]; omega)) (by rw [hRm]; first | decide | (simp only [clS]; omega)) dX6_readWord_80 (fun r80 w80 hp80 => ?_)
        obtain ⟨rfl, hw80⟩ := hp80
        rw [hw80]
        refine g_putI h flX6_87 rfl rfl (by exact s23) dX6_readWord_83 ?_
        refine g_aload_n h dX6_readWord_86 rfl ?_
        refine g_getI h flX6_87 rfl (by exact s23) dX6_readWord_87 ?_
        rw [upI_self]
        refine g_iconst h dX6_readWord_90 ?_
        refine g_icmp_ne (tgt := 108) h dX6_readWord_91 (by decide) (by first | assumption | exact ⟨by omega, by omega⟩) (by first | assumption | exact ⟨by omega, by omega⟩) (fun c91 => ?_) (fun c91 => ?_)
        · refine g_aload_n h dX6_readWord_108 rfl ?_
          refine g_getI h flX6_87 rfl (by exact s23) dX6_readWord_109 ?_
          rw [upI_self]
          refine g_iconst h dX6_readWord_112 ?_
          refine g_icmp_ne (tgt := 122) h dX6_readWord_113 (by decide) (by first | assumption | exact ⟨by omega, by omega⟩) (by first | assumption | exact ⟨by omega, by omega⟩) (fun c113 => ?_) (fun c113 => ?_)
          · refine g_vret h hQ (by first | decide | omega | (simp only [clS]; omega)) (by first | decide | omega | (simp only [clS]; omega)) ?_ dX6_readWord_122
            first
            | (exfalso; omega)
            | (refine ⟨rfl, rfl, rfl, fun j hj => by simp only [upI_sR, sR_ne _ _ hj], ?_⟩
               simp only [upI_sR, sR_at]
               have e9 : wordF T n p (w.2.1 23 5) = (5, namV (spl T n p (p + k)), p + k) := by
                 unfold wordF
                 rw [hend]
                 first
                 | rw [if_pos (by omega)]
                 | (rw [if_neg (by omega)]
                    unfold wordK
                    repeat first | rw [if_pos (by omega)] | rw [if_neg (by omega)]
                    try rw [show jntV (spl T n p (p + k)) = -1 by omega])
               rw [e9]
               exact rowK_eq (by simp [uI]) (by simp [uI]) (by simp [uI]) (fun f h3 h4 h5 => by simp [uI, h3, h4, h5]))
          · refine g_aload_n h dX6_readWord_116 rfl ?_
            refine g_bipush h dX6_readWord_117 rfl ?_
            refine g_putI h flX6_90 rfl rfl (by exact s23) dX6_readWord_119 ?_
            refine g_vret h hQ (by first | decide | omega | (simp only [clS]; omega)) (by first | decide | omega | (simp only [clS]; omega)) ?_ dX6_readWord_122
            first
            | (exfalso; omega)
            | (refine ⟨rfl, rfl, rfl, fun j hj => by simp only [upI_sR, sR_ne _ _ hj], ?_⟩
               simp only [upI_sR, sR_at]
               have e9 : wordF T n p (w.2.1 23 5) = (7, jntV (spl T n p (p + k)), p + k) := by
                 unfold wordF
                 rw [hend]
                 first
                 | rw [if_pos (by omega)]
                 | (rw [if_neg (by omega)]
                    unfold wordK
                    repeat first | rw [if_pos (by omega)] | rw [if_neg (by omega)]
                    try rw [show jntV (spl T n p (p + k)) = -1 by omega])
               rw [e9]
               exact rowK_eq (by simp [uI]) (by simp [uI]) (by simp [uI]) (fun f h3 h4 h5 => by simp [uI, h3, h4, h5]))
        · refine g_aload_n h dX6_readWord_94 rfl ?_
          refine g_bipush h dX6_readWord_95 rfl ?_
          refine g_putI h flX6_90 rfl rfl (by exact s23) dX6_readWord_97 ?_
          refine g_aload_n h dX6_readWord_100 rfl ?_
          refine g_aload_n h dX6_readWord_101 rfl ?_
          refine g_callV h rfl (ci := 6) [] (by exact s23) (c_X6_jointSpelled _ _ T n p (p + k) (RXc_of rfl rfl rfl rfl hc) h2 rfl (by omega) (by omega)) clX6_122 (by decide) rfl in_X6_jointSpelled se_X6_jointSpelled rfl rfl (by rw [hRm]; first | decide | (simp only [clS]; omega)) (by rw [hRm]; first | decide | (simp only [clS]; omega)) (fun _ => Nat.le_of_ble_eq_true rfl) (by rw [hRm]; first | decide | (simp only [clS]; omega)) (by rw [hRm]; first | decide | (simp only [clS]; omega)) dX6_readWord_102 (fun r102 w102 hp102 => ?_)
          obtain ⟨rfl, hw102⟩ := hp102
          rw [hw102]
          refine g_putI h flX6_87 rfl rfl (by exact s23) dX6_readWord_105 ?_
          refine g_aload_n h dX6_readWord_108 rfl ?_
          refine g_getI h flX6_87 rfl (by exact s23) dX6_readWord_109 ?_
          rw [upI_self]
          refine g_iconst h dX6_readWord_112 ?_
          refine g_icmp_ne (tgt := 122) h dX6_readWord_113 (by decide) (by first | assumption | exact ⟨by omega, by omega⟩) (by first | assumption | exact ⟨by omega, by omega⟩) (fun c113 => ?_) (fun c113 => ?_)
          · refine g_vret h hQ (by first | decide | omega | (simp only [clS]; omega)) (by first | decide | omega | (simp only [clS]; omega)) ?_ dX6_readWord_122
            first
            | (exfalso; omega)
            | (refine ⟨rfl, rfl, rfl, fun j hj => by simp only [upI_sR, sR_ne _ _ hj], ?_⟩
               simp only [upI_sR, sR_at]
               have e9 : wordF T n p (w.2.1 23 5) = (6, jntV (spl T n p (p + k)), p + k) := by
                 unfold wordF
                 rw [hend]
                 first
                 | rw [if_pos (by omega)]
                 | (rw [if_neg (by omega)]
                    unfold wordK
                    repeat first | rw [if_pos (by omega)] | rw [if_neg (by omega)]
                    try rw [show jntV (spl T n p (p + k)) = -1 by omega])
               rw [e9]
               exact rowK_eq (by simp [uI]) (by simp [uI]) (by simp [uI]) (fun f h3 h4 h5 => by simp [uI, h3, h4, h5]))
          · refine g_aload_n h dX6_readWord_116 rfl ?_
            refine g_bipush h dX6_readWord_117 rfl ?_
            refine g_putI h flX6_90 rfl rfl (by exact s23) dX6_readWord_119 ?_
            refine g_vret h hQ (by first | decide | omega | (simp only [clS]; omega)) (by first | decide | omega | (simp only [clS]; omega)) ?_ dX6_readWord_122
            first
            | (exfalso; omega)
            | (refine ⟨rfl, rfl, rfl, fun j hj => by simp only [upI_sR, sR_ne _ _ hj], ?_⟩
               simp only [upI_sR, sR_at]
               have e9 : wordF T n p (w.2.1 23 5) = (7, jntV (spl T n p (p + k)), p + k) := by
                 unfold wordF
                 rw [hend]
                 first
                 | rw [if_pos (by omega)]
                 | (rw [if_neg (by omega)]
                    unfold wordK
                    repeat first | rw [if_pos (by omega)] | rw [if_neg (by omega)]
                    try rw [show jntV (spl T n p (p + k)) = -1 by omega])
               rw [e9]
               exact rowK_eq (by simp [uI]) (by simp [uI]) (by simp [uI]) (fun f h3 h4 h5 => by simp [uI, h3, h4, h5]))
    · refine g_aload_n h dX6_readWord_46 rfl ?_
      refine g_iconst h dX6_readWord_47 ?_
      refine g_putI h flX6_90 rfl rfl (by exact s23) dX6_readWord_48 ?_
      refine g_vret h hQ (by first | decide | omega | (simp only [clS]; omega)) (by first | decide | omega | (simp only [clS]; omega)) ?_ dX6_readWord_51
      first
      | (exfalso; omega)
      | (refine ⟨rfl, rfl, rfl, fun j hj => by simp only [upI_sR, sR_ne _ _ hj], ?_⟩
         simp only [upI_sR, sR_at]
         have e9 : wordF T n p (w.2.1 23 5) = (1, w.2.1 23 5, p + k) := by
           unfold wordF
           rw [hend]
           first
           | rw [if_pos (by omega)]
           | (rw [if_neg (by omega)]
              unfold wordK
              repeat first | rw [if_pos (by omega)] | rw [if_neg (by omega)]
              try rw [show jntV (spl T n p (p + k)) = -1 by omega])
         rw [e9]
         exact rowK_eq (by simp [uI]) (by simp [uI]) (by simp [uI]) (fun f h3 h4 h5 => by simp [uI, h3, h4, h5]))
  have loop : ∀ (d k : Nat), p + k + d = n → runF isLb T d (p + k) = runF isLb T (n - p) p → GG Γ 5 [some (ar 23), some (ai ((p + k : Nat) : Int))] [] w 0 0 := by
    intro d
    induction d with
    | zero =>
      intro k hk hrun
      refine g_iload_n h dX6_readWord_5 rfl ?_
      refine g_aload_n h dX6_readWord_6 rfl ?_
      refine g_getI h flX6_27 rfl (by assumption) dX6_readWord_7 ?_
      rw [hn1]
      refine g_icmp_ge (tgt := 30) h dX6_readWord_10 (by decide) (by first | assumption | exact ⟨by omega, by omega⟩) (by first | assumption | exact ⟨by omega, by omega⟩) (fun c10 => ?_) (fun c10 => ?_)
      · exact fin k (by omega) hrun.symm
      · exfalso; omega
    | succ d ih =>
      intro k hk hrun
      have hbb : bA T n ((p + k : Nat) : Int) = T (p + k) := (if_pos ⟨by omega, by omega⟩).trans (by rw [Int.toNat_natCast])
      have hbd := bA_bd hn3 hTb ((p + k : Nat) : Int)
      rw [hbb] at hbd
      have hrun2 : (if isLb (T (p + k)) = true then runF isLb T d (p + k + 1) else p + k) = runF isLb T (n - p) p := hrun
      refine g_iload_n h dX6_readWord_5 rfl ?_
      refine g_aload_n h dX6_readWord_6 rfl ?_
      refine g_getI h flX6_27 rfl (by assumption) dX6_readWord_7 ?_
      rw [hn1]
      refine g_icmp_ge (tgt := 30) h dX6_readWord_10 (by decide) (by first | assumption | exact ⟨by omega, by omega⟩) (by first | assumption | exact ⟨by omega, by omega⟩) (fun c10 => ?_) (fun c10 => ?_)
      · first
        | (exfalso; omega)
        | (rw [if_neg (by unfold isLb; rw [decide_eq_true_eq]; exact ite_eq0 c21)] at hrun2
           exact fin k (by omega) hrun2.symm)
      · refine g_aload_n h dX6_readWord_13 rfl ?_
        refine g_iload_n h dX6_readWord_14 rfl ?_
        refine g_callV h rfl (ci := 6) [_] (by assumption) (c_X6_byteAt _ _ T n _ hc ⟨by omega, by omega⟩) clX6_80 (by decide) rfl in_X6_byteAt se_X6_byteAt rfl rfl (by rw [hRm]; first | decide | (simp only [clS]; omega)) (by rw [hRm]; first | decide | (simp only [clS]; omega)) (fun _ => Nat.le_of_ble_eq_true rfl) (by rw [hRm]; first | decide | (simp only [clS]; omega)) (by rw [hRm]; first | decide | (simp only [clS]; omega)) dX6_readWord_15 (fun r15 w15 hp15 => ?_)
        obtain ⟨rfl, hw15⟩ := hp15
        rw [hw15]
        rw [hbb]
        refine g_callS h rfl [_] (c_X6_isLetter _ _ _ ⟨by omega, by omega⟩) clX6_93 st_X6_isLetter rfl rfl (by rw [hRm]; first | decide | (simp only [clS]; omega)) (by rw [hRm]; first | decide | (simp only [clS]; omega)) (fun _ => Nat.le_of_ble_eq_true rfl) (by rw [hRm]; first | decide | (simp only [clS]; omega)) (by rw [hRm]; first | decide | (simp only [clS]; omega)) dX6_readWord_18 (fun r18 w18 hp18 => ?_)
        obtain ⟨rfl, hw18⟩ := hp18
        rw [hw18]
        have hbw18 := ite01 (97 ≤ T (p + k) ∧ T (p + k) ≤ 122)
        refine g_if_eq (tgt := 30) h dX6_readWord_21 (by decide) (by first | assumption | exact ⟨by omega, by omega⟩) (fun c21 => ?_) (fun c21 => ?_)
        · first
          | (exfalso; omega)
          | (rw [if_neg (by unfold isLb; rw [decide_eq_true_eq]; exact ite_eq0 c21)] at hrun2
             exact fin k (by omega) hrun2.symm)
        · refine g_iinc h dX6_readWord_24 rfl (Nat.le_of_ble_eq_true rfl) rfl rfl ?_
          refine g_goto (tgt := 5) h dX6_readWord_27 (by decide) ?_
          rw [if_pos (by unfold isLb; exact decide_eq_true (ite_ne0 c21))] at hrun2
          exact ih (k + 1) (by omega) hrun2
  refine g_aload_n h dX6_readWord_0 rfl ?_
  refine g_getI h flX6_84 rfl (by assumption) dX6_readWord_1 ?_
  rw [h2]
  refine g_istore_n h dX6_readWord_4 (Nat.le_of_ble_eq_true rfl) rfl rfl ?_
  exact loop (n - p) 0 (by omega) rfl
set_option maxRecDepth 100000 in
set_option maxHeartbeats 4000000 in
theorem c_X6_readToken (l : Launch) (w : AW) (T : Nat → Int) (n : Nat) (a0 : Nat) (hc : RXc w T n) (h3 : w.2.1 23 3 = (a0 : Int)) (ha0 : a0 ≤ 301) (hnn : skF T n a0 ≤ 300) : HT l yX6_readToken cX6_readToken 2 none 8 0 0 w [ar 23] (fun r w' => r = none ∧ F23 w w' (rowK (uI (w.2.1 23) 2 (skF T n a0 : Int)) (tokF T n (skF T n a0)))) := by
  refine HT.of (by decide) (by intro v hv; simp only [List.mem_cons, List.not_mem_nil, or_false] at hv; rcases hv with rfl <;> rfl) (Nat.le_of_ble_eq_true rfl) ?_
  intro Γ h hQ hRm hnm hl hw0
  obtain ⟨hX, hT, hn1, hn3, hTb⟩ := id hc
  have s23 : w.1 23 = (106, 0) := hX.1 23 (by decide)
  have fin : ∀ a : Nat, skF T n a0 = a → GG Γ 29 [some (ar 23), some (ai (a : Int))] [] w 0 0 := by
    intro a hend
    rw [hend] at hQ hnn
    have hbd := bA_bd hn3 hTb (a : Int)
    by_cases han : a < n
    · have hbb : bA T n (a : Int) = T a := (if_pos ⟨by omega, by omega⟩).trans (by rw [Int.toNat_natCast])
      rw [hbb] at hbd
      have hrw : ∀ (f g : Prop) [Decidable f] [Decidable g], True := fun _ _ _ _ => trivial
      refine g_aload_n h dX6_readToken_29 rfl ?_
      refine g_iload_n h dX6_readToken_30 rfl ?_
      refine g_putI h flX6_84 rfl rfl (by exact s23) dX6_readToken_31 ?_
      refine g_aload_n h dX6_readToken_34 rfl ?_
      refine g_iload_n h dX6_readToken_35 rfl ?_
      refine g_iconst h dX6_readToken_36 ?_
      refine g_iadd h dX6_readToken_37 ?_
      refine g_putI h flX6_31 rfl rfl (by exact s23) dX6_readToken_38 ?_
      refine g_aload_n h dX6_readToken_41 rfl ?_
      refine g_aload_n h dX6_readToken_42 rfl ?_
      refine g_iload_n h dX6_readToken_43 rfl ?_
      refine g_callV h rfl (ci := 6) [_] (by exact s23) (c_X6_byteAt _ _ T n _ (RXc_of rfl rfl rfl rfl hc) ⟨by omega, by omega⟩) clX6_80 (by decide) rfl in_X6_byteAt se_X6_byteAt rfl rfl (by rw [hRm]; first | decide | (simp only [clS]; omega)) (by rw [hRm]; first | decide | (simp only [clS]; omega)) (fun _ => Nat.le_of_ble_eq_true rfl) (by rw [hRm]; first | decide | (simp only [clS]; omega)) (by rw [hRm]; first | decide | (simp only [clS]; omega)) dX6_readToken_44 (fun r44 w44 hp44 => ?_)
      obtain ⟨rfl, hw44⟩ := hp44
      rw [hw44]
      rw [hbb]
      refine g_putI h flX6_87 rfl rfl (by exact s23) dX6_readToken_47 ?_
      refine g_iload_n h dX6_readToken_50 rfl ?_
      refine g_aload_n h dX6_readToken_51 rfl ?_
      refine g_getI h flX6_27 rfl (by exact s23) dX6_readToken_52 ?_
      rw [show (upI (upI (upI w 23 2 (a : Int)) 23 3 ((a : Int) + 1)) 23 5 (T a)).2.1 23 1 = (n : Int) from hn1]
      refine g_icmp_lt (tgt := 66) h dX6_readToken_55 (by decide) (by first | assumption | exact ⟨by omega, by omega⟩) (by first | assumption | exact ⟨by omega, by omega⟩) (fun c55 => ?_) (fun c55 => ?_)
      · refine g_aload_n h dX6_readToken_66 rfl ?_
        refine g_getI h flX6_87 rfl (by exact s23) dX6_readToken_67 ?_
        rw [upI_self]
        refine g_callS h rfl [_] (c_X6_isLetter _ _ _ ⟨by omega, by omega⟩) clX6_93 st_X6_isLetter rfl rfl (by rw [hRm]; first | decide | (simp only [clS]; omega)) (by rw [hRm]; first | decide | (simp only [clS]; omega)) (fun _ => Nat.le_of_ble_eq_true rfl) (by rw [hRm]; first | decide | (simp only [clS]; omega)) (by rw [hRm]; first | decide | (simp only [clS]; omega)) dX6_readToken_70 (fun r70 w70 hp70 => ?_)
        obtain ⟨rfl, hw70⟩ := hp70
        rw [hw70]
        refine g_if_eq (tgt := 83) h dX6_readToken_73 (by decide) (by first | assumption | exact ⟨by omega, by omega⟩) (fun c73 => ?_) (fun c73 => ?_)
        · refine g_aload_n h dX6_readToken_83 rfl ?_
          refine g_getI h flX6_87 rfl (by exact s23) dX6_readToken_84 ?_
          rw [upI_self]
          refine g_callS h rfl [_] (c_X6_isDigit _ _ _ ⟨by omega, by omega⟩) clX6_100 st_X6_isDigit rfl rfl (by rw [hRm]; first | decide | (simp only [clS]; omega)) (by rw [hRm]; first | decide | (simp only [clS]; omega)) (fun _ => Nat.le_of_ble_eq_true rfl) (by rw [hRm]; first | decide | (simp only [clS]; omega)) (by rw [hRm]; first | decide | (simp only [clS]; omega)) dX6_readToken_87 (fun r87 w87 hp87 => ?_)
          obtain ⟨rfl, hw87⟩ := hp87
          rw [hw87]
          refine g_if_eq (tgt := 100) h dX6_readToken_90 (by decide) (by first | assumption | exact ⟨by omega, by omega⟩) (fun c90 => ?_) (fun c90 => ?_)
          · refine g_aload_n h dX6_readToken_100 rfl ?_
            refine g_aload_n h dX6_readToken_101 rfl ?_
            refine g_getI h flX6_87 rfl (by exact s23) dX6_readToken_102 ?_
            rw [upI_self]
            refine g_callS h rfl [_] (c_X6_isSign _ _ _ ⟨by omega, by omega⟩) clX6_106 st_X6_isSign rfl rfl (by rw [hRm]; first | decide | (simp only [clS]; omega)) (by rw [hRm]; first | decide | (simp only [clS]; omega)) (fun _ => Nat.le_of_ble_eq_true rfl) (by rw [hRm]; first | decide | (simp only [clS]; omega)) (by rw [hRm]; first | decide | (simp only [clS]; omega)) dX6_readToken_105 (fun r105 w105 hp105 => ?_)
            obtain ⟨rfl, hw105⟩ := hp105
            rw [hw105]
            refine g_if_eq (tgt := 115) h dX6_readToken_108 (by decide) (by first | assumption | exact ⟨by omega, by omega⟩) (fun c108 => ?_) (fun c108 => ?_)
            · refine g_iconst h dX6_readToken_115 ?_
              refine g_putI h flX6_90 rfl rfl (by exact s23) dX6_readToken_116 ?_
              refine g_vret h hQ (by first | decide | omega | (simp only [clS]; omega)) (by first | decide | omega | (simp only [clS]; omega)) ?_ dX6_readToken_119
              refine ⟨rfl, rfl, rfl, fun j hj => by simp only [upI_sR, sR_ne _ _ hj], ?_⟩
              simp only [upI_sR, sR_at]
              have e9 : tokF T n a = (1, T a, a + 1) := by
                unfold tokF
                rw [if_neg (by omega), if_neg (by unfold isLb; rw [decide_eq_true_eq]; exact ite_eq0 c73), if_neg (by unfold isDb; rw [decide_eq_true_eq]; exact ite_eq0 c90)]
                unfold isSb
                first | rw [if_pos (decide_eq_true (ite_ne0 c108))] | rw [if_neg (by rw [decide_eq_true_eq]; exact ite_eq0 c108)]
              rw [e9]
              exact rowK_eq (by simp [uI]) (by simp [uI]) (by simp [uI]) (fun f h3 h4 h5 => by simp [uI, h3, h4, h5])
            · refine g_iconst h dX6_readToken_111 ?_
              refine g_goto (tgt := 116) h dX6_readToken_112 (by decide) ?_
              refine g_putI h flX6_90 rfl rfl (by exact s23) dX6_readToken_116 ?_
              refine g_vret h hQ (by first | decide | omega | (simp only [clS]; omega)) (by first | decide | omega | (simp only [clS]; omega)) ?_ dX6_readToken_119
              refine ⟨rfl, rfl, rfl, fun j hj => by simp only [upI_sR, sR_ne _ _ hj], ?_⟩
              simp only [upI_sR, sR_at]
              have e9 : tokF T n a = (3, T a, a + 1) := by
                unfold tokF
                rw [if_neg (by omega), if_neg (by unfold isLb; rw [decide_eq_true_eq]; exact ite_eq0 c73), if_neg (by unfold isDb; rw [decide_eq_true_eq]; exact ite_eq0 c90)]
                unfold isSb
                first | rw [if_pos (decide_eq_true (ite_ne0 c108))] | rw [if_neg (by rw [decide_eq_true_eq]; exact ite_eq0 c108)]
              rw [e9]
              exact rowK_eq (by simp [uI]) (by simp [uI]) (by simp [uI]) (fun f h3 h4 h5 => by simp [uI, h3, h4, h5])
          · refine g_aload_n h dX6_readToken_93 rfl ?_
            refine g_callV h rfl (ci := 6) [] (by exact s23) (c_X6_readWhole _ _ T n a (RXc_of rfl rfl rfl rfl hc) rfl han) clX6_103 (by decide) rfl in_X6_readWhole se_X6_readWhole rfl rfl (by rw [hRm]; first | decide | (simp only [clS]; omega)) (by rw [hRm]; first | decide | (simp only [clS]; omega)) (fun _ => Nat.le_of_ble_eq_true rfl) (by rw [hRm]; first | decide | (simp only [clS]; omega)) (by rw [hRm]; first | decide | (simp only [clS]; omega)) dX6_readToken_94 (fun r94 w94 hp94 => ?_)
            skip
            obtain ⟨rfl, g1, g2, g3, g4⟩ := hp94
            refine g_goto (tgt := 119) h dX6_readToken_97 (by decide) ?_
            refine g_vret h hQ (by decide) (by decide) ?_ dX6_readToken_119
            refine ⟨rfl, g1, g2, fun j hj => (g3 j hj).trans (by simp only [upI_sR, sR_ne _ _ hj]), ?_⟩
            rw [g4]
            have e9 : tokF T n a = wholeF T n a := by
              unfold tokF
              rw [if_neg (by omega)]
              rw [if_neg (by unfold isLb; rw [decide_eq_true_eq]; exact ite_eq0 c73), if_pos (by unfold isDb; exact decide_eq_true (ite_ne0 c90))]
            rw [e9]
            refine rowK_congr (fun f h3 h4 h5 => ?_)
            simp only [upI_sR, sR_at]
            simp [uI, h3, h4, h5]
        · refine g_aload_n h dX6_readToken_76 rfl ?_
          refine g_callV h rfl (ci := 6) [] (by exact s23) (c_X6_readWord _ _ T n a (RXc_of rfl rfl rfl rfl hc) rfl han) clX6_97 (by decide) rfl in_X6_readWord se_X6_readWord rfl rfl (by rw [hRm]; first | decide | (simp only [clS]; omega)) (by rw [hRm]; first | decide | (simp only [clS]; omega)) (fun _ => Nat.le_of_ble_eq_true rfl) (by rw [hRm]; first | decide | (simp only [clS]; omega)) (by rw [hRm]; first | decide | (simp only [clS]; omega)) dX6_readToken_77 (fun r77 w77 hp77 => ?_)
          have e5 : (upI (upI (upI w 23 2 (a : Int)) 23 3 ((a : Int) + 1)) 23 5 (T a)).2.1 23 5 = T a := upI_self _ _ _ _
          rw [e5] at hp77
          obtain ⟨rfl, g1, g2, g3, g4⟩ := hp77
          refine g_goto (tgt := 119) h dX6_readToken_80 (by decide) ?_
          refine g_vret h hQ (by decide) (by decide) ?_ dX6_readToken_119
          refine ⟨rfl, g1, g2, fun j hj => (g3 j hj).trans (by simp only [upI_sR, sR_ne _ _ hj]), ?_⟩
          rw [g4]
          have e9 : tokF T n a = wordF T n a (T a) := by
            unfold tokF
            rw [if_neg (by omega)]
            rw [if_pos (by unfold isLb; exact decide_eq_true (ite_ne0 c73))]
          rw [e9]
          refine rowK_congr (fun f h3 h4 h5 => ?_)
          simp only [upI_sR, sR_at]
          simp [uI, h3, h4, h5]
      · exfalso; omega
    · have hbb : bA T n (a : Int) = 0 := if_neg (by omega)
      rw [hbb] at hbd
      refine g_aload_n h dX6_readToken_29 rfl ?_
      refine g_iload_n h dX6_readToken_30 rfl ?_
      refine g_putI h flX6_84 rfl rfl (by exact s23) dX6_readToken_31 ?_
      refine g_aload_n h dX6_readToken_34 rfl ?_
      refine g_iload_n h dX6_readToken_35 rfl ?_
      refine g_iconst h dX6_readToken_36 ?_
      refine g_iadd h dX6_readToken_37 ?_
      refine g_putI h flX6_31 rfl rfl (by exact s23) dX6_readToken_38 ?_
      refine g_aload_n h dX6_readToken_41 rfl ?_
      refine g_aload_n h dX6_readToken_42 rfl ?_
      refine g_iload_n h dX6_readToken_43 rfl ?_
      refine g_callV h rfl (ci := 6) [_] (by exact s23) (c_X6_byteAt _ _ T n _ (RXc_of rfl rfl rfl rfl hc) ⟨by omega, by omega⟩) clX6_80 (by decide) rfl in_X6_byteAt se_X6_byteAt rfl rfl (by rw [hRm]; first | decide | (simp only [clS]; omega)) (by rw [hRm]; first | decide | (simp only [clS]; omega)) (fun _ => Nat.le_of_ble_eq_true rfl) (by rw [hRm]; first | decide | (simp only [clS]; omega)) (by rw [hRm]; first | decide | (simp only [clS]; omega)) dX6_readToken_44 (fun r44 w44 hp44 => ?_)
      obtain ⟨rfl, hw44⟩ := hp44
      rw [hw44]
      rw [hbb]
      refine g_putI h flX6_87 rfl rfl (by exact s23) dX6_readToken_47 ?_
      refine g_iload_n h dX6_readToken_50 rfl ?_
      refine g_aload_n h dX6_readToken_51 rfl ?_
      refine g_getI h flX6_27 rfl (by exact s23) dX6_readToken_52 ?_
      rw [show (upI (upI (upI w 23 2 (a : Int)) 23 3 ((a : Int) + 1)) 23 5 0).2.1 23 1 = (n : Int) from hn1]
      refine g_icmp_lt (tgt := 66) h dX6_readToken_55 (by decide) (by first | assumption | exact ⟨by omega, by omega⟩) (by first | assumption | exact ⟨by omega, by omega⟩) (fun c55 => ?_) (fun c55 => ?_)
      · exfalso; omega
      · refine g_aload_n h dX6_readToken_58 rfl ?_
        refine g_iconst h dX6_readToken_59 ?_
        refine g_putI h flX6_90 rfl rfl (by exact s23) dX6_readToken_60 ?_
        refine g_goto (tgt := 119) h dX6_readToken_63 (by decide) ?_
        refine g_vret h hQ (by first | decide | omega | (simp only [clS]; omega)) (by first | decide | omega | (simp only [clS]; omega)) ?_ dX6_readToken_119
        refine ⟨rfl, rfl, rfl, fun j hj => by simp only [upI_sR, sR_ne _ _ hj], ?_⟩
        simp only [upI_sR, sR_at]
        have e9 : tokF T n a = (0, 0, a + 1) := by
          unfold tokF
          rw [if_pos (by omega)]
        rw [e9]
        exact rowK_eq (by simp [uI]) (by simp [uI]) (by simp [uI]) (fun f h3 h4 h5 => by simp [uI, h3, h4, h5])
  have loop : ∀ (d a : Nat), d = n - a → a ≤ 301 → runF isBb T d a = skF T n a0 → GG Γ 5 [some (ar 23), some (ai (a : Int))] [] w 0 0 := by
    intro d
    induction d with
    | zero =>
      intro a hd ha hrun
      refine g_iload_n h dX6_readToken_5 rfl ?_
      refine g_aload_n h dX6_readToken_6 rfl ?_
      refine g_getI h flX6_27 rfl (by assumption) dX6_readToken_7 ?_
      rw [hn1]
      refine g_icmp_ge (tgt := 29) h dX6_readToken_10 (by decide) (by first | assumption | exact ⟨by omega, by omega⟩) (by first | assumption | exact ⟨by omega, by omega⟩) (fun c10 => ?_) (fun c10 => ?_)
      · exact fin a hrun.symm
      · exfalso; omega
    | succ d ih =>
      intro a hd ha hrun
      have hbb : bA T n (a : Int) = T a := (if_pos ⟨by omega, by omega⟩).trans (by rw [Int.toNat_natCast])
      have hbd := bA_bd hn3 hTb (a : Int)
      rw [hbb] at hbd
      have hrun2 : (if isBb (T a) = true then runF isBb T d (a + 1) else a) = skF T n a0 := hrun
      refine g_iload_n h dX6_readToken_5 rfl ?_
      refine g_aload_n h dX6_readToken_6 rfl ?_
      refine g_getI h flX6_27 rfl (by assumption) dX6_readToken_7 ?_
      rw [hn1]
      refine g_icmp_ge (tgt := 29) h dX6_readToken_10 (by decide) (by first | assumption | exact ⟨by omega, by omega⟩) (by first | assumption | exact ⟨by omega, by omega⟩) (fun c10 => ?_) (fun c10 => ?_)
      · first
        | (exfalso; omega)
        | (rw [if_neg (by unfold isBb; rw [decide_eq_true_eq]; omega)] at hrun2
           exact fin a hrun2.symm)
      · refine g_aload_n h dX6_readToken_13 rfl ?_
        refine g_iload_n h dX6_readToken_14 rfl ?_
        refine g_callV h rfl (ci := 6) [_] (by assumption) (c_X6_byteAt _ _ T n _ hc ⟨by omega, by omega⟩) clX6_80 (by decide) rfl in_X6_byteAt se_X6_byteAt rfl rfl (by rw [hRm]; first | decide | (simp only [clS]; omega)) (by rw [hRm]; first | decide | (simp only [clS]; omega)) (fun _ => Nat.le_of_ble_eq_true rfl) (by rw [hRm]; first | decide | (simp only [clS]; omega)) (by rw [hRm]; first | decide | (simp only [clS]; omega)) dX6_readToken_15 (fun r15 w15 hp15 => ?_)
        obtain ⟨rfl, hw15⟩ := hp15
        rw [hw15]
        rw [hbb]
        refine g_bipush h dX6_readToken_18 rfl ?_
        refine g_icmp_ne (tgt := 29) h dX6_readToken_20 (by decide) (by first | assumption | exact ⟨by omega, by omega⟩) (by first | assumption | exact ⟨by omega, by omega⟩) (fun c20 => ?_) (fun c20 => ?_)
        · first
          | (exfalso; omega)
          | (rw [if_neg (by unfold isBb; rw [decide_eq_true_eq]; omega)] at hrun2
             exact fin a hrun2.symm)
        · refine g_iinc h dX6_readToken_23 rfl (Nat.le_of_ble_eq_true rfl) rfl rfl ?_
          refine g_goto (tgt := 5) h dX6_readToken_26 (by decide) ?_
          rw [if_pos (by unfold isBb; exact decide_eq_true (by omega))] at hrun2
          exact ih (a + 1) (by omega) (by omega) hrun2
  refine g_aload_n h dX6_readToken_0 rfl ?_
  refine g_getI h flX6_31 rfl (by assumption) dX6_readToken_1 ?_
  rw [h3]
  refine g_istore_n h dX6_readToken_4 (Nat.le_of_ble_eq_true rfl) rfl rfl ?_
  exact loop (n - a0) a0 rfl ha0 rfl
