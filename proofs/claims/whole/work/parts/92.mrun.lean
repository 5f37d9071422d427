/-! ===== M: gas runs out, who climbs away ===== -/
def cntU (o : Nat → Int) : Nat → Nat
  | 0 => 0
  | c + 1 => cntU o c + if o c = -1 then 1 else 0
theorem cntU_ge {o : Nat → Int} {k : Nat} {v : Int} : ∀ m, m ≤ k → cntU (uI o k v) m = cntU o m
  | 0, _ => rfl
  | m + 1, h => by
    unfold cntU
    rw [cntU_ge m (by omega), uI_ne _ _ (by omega)]
theorem cntU_up {o : Nat → Int} {k : Nat} {v : Int} (hk : o k = -1) (hv : v ≠ -1) : ∀ m, k < m → cntU (uI o k v) m + 1 = cntU o m
  | 0, h => by omega
  | m + 1, h => by
    unfold cntU
    by_cases e : k = m
    · subst e
      rw [cntU_ge k (Nat.le_refl _), uI_at, if_neg hv, if_pos hk]
    · have := cntU_up hk hv m (by omega)
      rw [uI_ne _ _ (show m ≠ k by omega)]
      omega
theorem cntU_pos {o : Nat → Int} {k : Nat} (hk : o k = -1) : ∀ m, k < m → 1 ≤ cntU o m
  | 0, h => by omega
  | m + 1, h => by
    unfold cntU
    by_cases e : k = m
    · subst e; rw [if_pos hk]; omega
    · have := cntU_pos hk m (by omega)
      omega
theorem cntU_all {o : Nat → Int} : ∀ m, (∀ c, c < m → o c = -1) → cntU o m = m
  | 0, _ => rfl
  | m + 1, h => by
    unfold cntU
    rw [cntU_all m (fun c hc => h c (by omega)), if_pos (h m (by omega))]
/-- the run-out, cell by cell -/
def ruF (h : Nat → Int) (most wants : Int) : Nat → Nat → Int → (Nat → Int) → Nat × (Nat → Int)
  | 0, n, _, o => (n, o)
  | d + 1, n, nx, o => if (n : Int) < wants ∧ nx ≠ -1 then ruF h most wants d (n + 1) (lbF (uI o nx.toNat (n : Int)) h most 400) (uI o nx.toNat (n : Int)) else (n, o)
def ro0 (w : AW) : AW := upI (upI (fillW (th w) 473 400 (-1)) 400 71 1) 400 70 (w.2.1 400 68)
def roM (w : AW) (L : Nat) (amt : Int) : Nat × (Nat → Int) := ruF (w.2.1 472) (w.2.1 472 (w.2.1 414 L).toNat + w.2.1 400 66) ((amt + w.2.1 400 67 - 1) / w.2.1 400 67) 401 0 (w.2.1 414 L) (cpR (w.2.1 473) (fun _ => -1) 400)
theorem fillW_s (w : AW) (k m : Nat) (v : Int) : fillW w k (m + 1) v = upI (fillW w k m v) k m v := by
  unfold fillW
  rw [cpR_s, upI_sR, sR_sR, sR_at]
theorem fillW_0 (w : AW) (k : Nat) (v : Int) : fillW w k 0 v = w := by
  unfold fillW
  rw [cpR_0, sR_self]
set_option maxRecDepth 100000 in
set_option maxHeartbeats 4000000 in
theorem c_X12_runOut (l : Launch) (w : AW) (z amt : Int) (hM : MS w) (hN : MN w) (hL : ML w) (hz : R32 z) (ham : R32 amt) : HT l yX12_runOut cX12_runOut 6 (some .int) 3 0 0 w [ar 400, ai z, ai amt] (fun r w' => r = some (ai (if 0 ≤ z ∧ z < 2 then if 0 ≤ amt ∧ amt ≤ 1000000 then ((roM w z.toNat amt).1 : Int) else -1 else -1)) ∧ w' = (if 0 ≤ z ∧ z < 2 then if 0 ≤ amt ∧ amt ≤ 1000000 then tM (sR (ro0 w) 473 (roM w z.toNat amt).2) 0 else tM (th w) 2 else tM (th w) 1)) := by
  refine HT.of (by decide) (by intro v hv; simp only [List.mem_cons, List.not_mem_nil, or_false] at hv; rcases hv with rfl | rfl | rfl <;> rfl) (Nat.le_of_ble_eq_true rfl) ?_
  intro Γ h hQ hRm hnm hl hw0
  have s400 : w.1 400 = (112, 0) := hM.1 400 (by decide) (by decide)
  have s473 : w.1 473 = (1, 400) := hM.1 473 (by decide) (by decide)
  have s414 : w.1 414 = (1, 2) := hM.1 414 (by decide) (by decide)
  have s472 : w.1 472 = (1, 400) := hM.1 472 (by decide) (by decide)
  have p73 : w.2.2 400 73 = some 473 := hM.2 (400, 73, 473) (by decide)
  have p14 : w.2.2 400 14 = some 414 := hM.2 (400, 14, 414) (by decide)
  have p72 : w.2.2 400 72 = some 472 := hM.2 (400, 72, 472) (by decide)
  obtain ⟨hh, hri, hth, hsp, h71⟩ := id hL
  by_cases hzl : 0 ≤ z ∧ z < 2
  · obtain ⟨L, rfl⟩ : ∃ L : Nat, z = (L : Int) := ⟨z.toNat, by omega⟩
    have hL2 : L < 2 := by omega
    have eL : ((L : Int)).toNat = L := Int.toNat_natCast L
    rw [eL] at hQ
    have hcf := (hN L hL2).2.2.2.2.2.2.2.2
    have hhf := hh (w.2.1 414 L).toNat (by omega)
    have run : 0 ≤ amt ∧ amt ≤ 1000000 → ∀ (d n : Nat) (nx : Int) (o : Nat → Int), n + cntU o 400 = 400 → cntU o 400 < d → (nx = -1 ∨ ((0 ≤ nx ∧ nx < 400) ∧ o nx.toNat = -1)) → (∀ c, c < 400 → -1 ≤ o c ∧ o c ≤ 399) →
        ruF (w.2.1 472) (w.2.1 472 (w.2.1 414 L).toNat + w.2.1 400 66) ((amt + w.2.1 400 67 - 1) / w.2.1 400 67) d n nx o = roM w L amt → R32 ((amt + w.2.1 400 67 - 1) / w.2.1 400 67) →
        GG Γ 95 [some (ar 400), some (ai (L : Int)), some (ai amt), some (ai ((amt + w.2.1 400 67 - 1) / w.2.1 400 67)), some (ai (n : Int)), some (ai nx)] [] (sR (ro0 w) 473 o) 0 0 := by
      intro ha d
      induction d with
      | zero => intro n nx o _ h0; omega
      | succ d ih =>
        intro n nx o hn hd hx hob hrun hwR
        have hnb := cntU_pos (o := o) (k := nx.toNat)
        have hrun2 : (if (n : Int) < (amt + w.2.1 400 67 - 1) / w.2.1 400 67 ∧ nx ≠ -1 then ruF (w.2.1 472) (w.2.1 472 (w.2.1 414 L).toNat + w.2.1 400 66) ((amt + w.2.1 400 67 - 1) / w.2.1 400 67) d (n + 1) (lbF (uI o nx.toNat (n : Int)) (w.2.1 472) (w.2.1 472 (w.2.1 414 L).toNat + w.2.1 400 66) 400) (uI o nx.toNat (n : Int)) else (n, o)) = roM w L amt := hrun
        have u400 : (sR (ro0 w) 473 o).1 400 = (112, 0) := s400
        have u473 : (sR (ro0 w) 473 o).1 473 = (1, 400) := s473
        have uM : MS (upI (sR (ro0 w) 473 o) 473 nx.toNat (n : Int)) := MS_of rfl rfl hM
        have q472 : (upI (sR (ro0 w) 473 o) 473 nx.toNat (n : Int)).2.1 472 = w.2.1 472 := rfl
        have q473 : (upI (sR (ro0 w) 473 o) 473 nx.toNat (n : Int)).2.1 473 = uI o nx.toNat (n : Int) := rfl
        have q414 : (upI (sR (ro0 w) 473 o) 473 nx.toNat (n : Int)).2.1 414 L = w.2.1 414 L := rfl
        have q66 : (upI (sR (ro0 w) 473 o) 473 nx.toNat (n : Int)).2.1 400 66 = w.2.1 400 66 := rfl
        have eup : upI (sR (ro0 w) 473 o) 473 nx.toNat (n : Int) = sR (ro0 w) 473 (uI o nx.toNat (n : Int)) := by rw [upI_sR, sR_sR, sR_at]
        refine g_iload h dX12_runOut_95 rfl ?_
        refine g_iload_n h dX12_runOut_97 rfl ?_
        refine g_icmp_ge (tgt := 144) h dX12_runOut_98 (by decide) (by first | assumption | exact ⟨by omega, by omega⟩) (by first | assumption | exact ⟨by omega, by omega⟩) (fun c98 => ?_) (fun c98 => ?_)
        · refine g_aload_n h dX12_runOut_144 rfl ?_
          refine g_iload h dX12_runOut_145 rfl ?_
          refine g_callV h rfl (ci := 12) [_] (by assumption) (c_X12_done _ _ _ (MS_of rfl rfl hM)) clX12_277 (by decide) rfl in_X12_done se_X12_done rfl rfl (by rw [hRm]; first | decide | (simp only [clS]; omega)) (by rw [hRm]; first | decide | (simp only [clS]; omega)) (fun _ => Nat.le_of_ble_eq_true rfl) (by rw [hRm]; first | decide | (simp only [clS]; omega)) (by rw [hRm]; first | decide | (simp only [clS]; omega)) dX12_runOut_147 (fun r147 w147 hp147 => ?_)
          obtain ⟨rfl, hw147⟩ := hp147
          rw [hw147]
          refine g_iret h hQ (by first | decide | omega | (simp only [clS]; omega)) (by first | decide | omega | (simp only [clS]; omega)) ?_ dX12_runOut_150
          rw [if_neg (by omega)] at hrun2
          refine ⟨?_, ?_⟩
          · rw [if_pos hzl, if_pos ha, ← hrun2]
          · rw [if_pos hzl, if_pos ha, ← hrun2]
        · refine g_iload h dX12_runOut_101 rfl ?_
          refine g_iconst h dX12_runOut_103 ?_
          refine g_icmp_eq (tgt := 144) h dX12_runOut_104 (by decide) (by first | assumption | exact ⟨by omega, by omega⟩) (by first | assumption | exact ⟨by omega, by omega⟩) (fun c104 => ?_) (fun c104 => ?_)
          · refine g_aload_n h dX12_runOut_144 rfl ?_
            refine g_iload h dX12_runOut_145 rfl ?_
            refine g_callV h rfl (ci := 12) [_] (by assumption) (c_X12_done _ _ _ (MS_of rfl rfl hM)) clX12_277 (by decide) rfl in_X12_done se_X12_done rfl rfl (by rw [hRm]; first | decide | (simp only [clS]; omega)) (by rw [hRm]; first | decide | (simp only [clS]; omega)) (fun _ => Nat.le_of_ble_eq_true rfl) (by rw [hRm]; first | decide | (simp only [clS]; omega)) (by rw [hRm]; first | decide | (simp only [clS]; omega)) dX12_runOut_147 (fun r147 w147 hp147 => ?_)
            obtain ⟨rfl, hw147⟩ := hp147
            rw [hw147]
            refine g_iret h hQ (by first | decide | omega | (simp only [clS]; omega)) (by first | decide | omega | (simp only [clS]; omega)) ?_ dX12_runOut_150
            rw [if_neg (by omega)] at hrun2
            refine ⟨?_, ?_⟩
            · rw [if_pos hzl, if_pos ha, ← hrun2]
            · rw [if_pos hzl, if_pos ha, ← hrun2]
          · refine g_aload_n h dX12_runOut_107 rfl ?_
            have hx2 : (0 ≤ nx ∧ nx < 400) ∧ o nx.toNat = -1 := by omega
            refine g_getQ h flX12_167 rfl (by assumption) (by assumption) dX12_runOut_108 ?_
            refine g_iload h dX12_runOut_111 rfl ?_
            refine g_iload h dX12_runOut_113 rfl ?_
            refine g_iast h (nx.toNat) (by assumption) (by first | omega | assumption) (by first | omega | assumption) (by first | decide | omega) dX12_runOut_115 ?_
            refine g_iinc h dX12_runOut_116 rfl (Nat.le_of_ble_eq_true rfl) rfl rfl ?_
            refine g_aload_n h dX12_runOut_119 rfl ?_
            refine g_aload_n h dX12_runOut_120 rfl ?_
            refine g_getQ h flX12_164 rfl (by assumption) (by assumption) dX12_runOut_121 ?_
            refine g_aload_n h dX12_runOut_124 rfl ?_
            refine g_getQ h flX12_47 rfl (by assumption) (by assumption) dX12_runOut_125 ?_
            refine g_iload_n h dX12_runOut_128 rfl ?_
            refine g_iald h (L) (by assumption) (by first | omega | assumption) (by first | omega | assumption) (by first | decide | omega) dX12_runOut_129 ?_
            rw [q414]
            refine g_iald h ((w.2.1 414 L).toNat) (by assumption) (by first | omega | assumption) (by first | omega | assumption) (by first | decide | omega) dX12_runOut_130 ?_
            rw [q472]
            refine g_aload_n h dX12_runOut_131 rfl ?_
            refine g_getI h flX12_155 rfl (by assumption) dX12_runOut_132 ?_
            rw [q66]
            refine g_iadd h dX12_runOut_135 ?_
            have hx2 : (0 ≤ nx ∧ nx < 400) ∧ o nx.toNat = -1 := by omega
            have hn4 := hnb hx2.2 400 (by omega)
            have hup := cntU_up (v := (n : Int)) hx2.2 (by omega) 400 (by omega)
            have hob2 : ∀ c, c < 400 → -1 ≤ uI o nx.toNat (n : Int) c ∧ uI o nx.toNat (n : Int) c ≤ 399 := fun c hc => by
              by_cases e : c = nx.toNat
              · rw [e, uI_at]; omega
              · rw [uI_ne _ _ e]; exact hob c hc
            have hlb := lbF_bd (uI o nx.toNat (n : Int)) (w.2.1 472) (w.2.1 472 (w.2.1 414 L).toNat + w.2.1 400 66) 400
            have hlo := lbF_o (uI o nx.toNat (n : Int)) (w.2.1 472) (w.2.1 472 (w.2.1 414 L).toNat + w.2.1 400 66) 400
            refine g_callV h rfl (ci := 12) [_] (by assumption) (c_X12_lowestBeside _ _ _ uM hh (fun c hc => ⟨(hob2 c hc).1, by have := (hob2 c hc).2; exact Int.le_trans this (by decide)⟩) ⟨by omega, by omega⟩) clX12_525 (by decide) rfl in_X12_lowestBeside se_X12_lowestBeside rfl rfl (by rw [hRm]; first | decide | (simp only [clS]; omega)) (by rw [hRm]; first | decide | (simp only [clS]; omega)) (fun _ => Nat.le_of_ble_eq_true rfl) (by rw [hRm]; first | decide | (simp only [clS]; omega)) (by rw [hRm]; first | decide | (simp only [clS]; omega)) dX12_runOut_136 (fun r136 w136 hp136 => ?_)
            obtain ⟨rfl, hw136⟩ := hp136
            rw [hw136, q473, q472, eup]
            refine g_istore h dX12_runOut_139 (Nat.le_of_ble_eq_true rfl) rfl rfl ?_
            refine g_goto (tgt := 95) h dX12_runOut_141 (by decide) ?_
            rw [if_pos ⟨by omega, by omega⟩] at hrun2
            exact ih (n + 1) _ _ (by omega) (by omega) (by rcases hlo with q | q; exact Or.inl q; by_cases e : lbF (uI o nx.toNat (n : Int)) (w.2.1 472) (w.2.1 472 (w.2.1 414 L).toNat + w.2.1 400 66) 400 = -1; exact Or.inl e; exact Or.inr ⟨by omega, q⟩) hob2 hrun2 hwR
    have fill : 0 ≤ amt ∧ amt ≤ 1000000 → ∀ (d c : Nat), c + d = 400 → GG Γ 37 [some (ar 400), some (ai (L : Int)), some (ai amt), some (ai (c : Int)), none, none] [] (fillW (th w) 473 c (-1)) 0 0 := by
      intro ha d
      induction d with
      | zero =>
        intro c hc
        obtain rfl : c = 400 := by omega
        have e67 : (upI (upI (fillW (th w) 473 400 (-1)) 400 71 1) 400 70 ((upI (fillW (th w) 473 400 (-1)) 400 71 1).2.1 400 68)).2.1 400 67 = w.2.1 400 67 := rfl
        have e414 : (upI (upI (fillW (th w) 473 400 (-1)) 400 71 1) 400 70 ((upI (fillW (th w) 473 400 (-1)) 400 71 1).2.1 400 68)).2.1 414 L = w.2.1 414 L := rfl
        have hdv := div_bd (a := amt + w.2.1 400 67 - 1) (b := w.2.1 400 67) (by omega) (by omega)
        refine g_iload_n h dX12_runOut_37 rfl ?_
        refine g_sipush h dX12_runOut_38 rfl ?_
        refine g_icmp_ge (tgt := 57) h dX12_runOut_41 (by decide) (by first | assumption | exact ⟨by omega, by omega⟩) (by first | assumption | exact ⟨by omega, by omega⟩) (fun c41 => ?_) (fun c41 => ?_)
        · refine g_aload_n h dX12_runOut_57 rfl ?_
          refine g_iconst h dX12_runOut_58 ?_
          refine g_putZ h flX12_518 rfl rfl (by assumption) (by omega) dX12_runOut_59 ?_
          refine g_aload_n h dX12_runOut_62 rfl ?_
          refine g_aload_n h dX12_runOut_63 rfl ?_
          refine g_getI h flX12_161 rfl (by assumption) dX12_runOut_64 ?_
          refine g_putI h flX12_522 rfl rfl (by assumption) dX12_runOut_67 ?_
          refine g_iload_n h dX12_runOut_70 rfl ?_
          refine g_aload_n h dX12_runOut_71 rfl ?_
          refine g_getI h flX12_158 rfl (by assumption) dX12_runOut_72 ?_
          rw [e67]
          refine g_iadd h dX12_runOut_75 ?_
          refine g_iconst h dX12_runOut_76 ?_
          refine g_isub h dX12_runOut_77 ?_
          refine g_aload_n h dX12_runOut_78 rfl ?_
          refine g_getI h flX12_158 rfl (by assumption) dX12_runOut_79 ?_
          rw [e67]
          refine g_idiv h (by first | assumption | exact ⟨by omega, by omega⟩) (by first | assumption | exact ⟨by omega, by omega⟩) (by first | omega | assumption) (by first | omega | assumption) dX12_runOut_82 ?_
          refine g_istore_n h dX12_runOut_83 (Nat.le_of_ble_eq_true rfl) rfl rfl ?_
          refine g_iconst h dX12_runOut_84 ?_
          refine g_istore h dX12_runOut_85 (Nat.le_of_ble_eq_true rfl) rfl rfl ?_
          refine g_aload_n h dX12_runOut_87 rfl ?_
          refine g_getQ h flX12_47 rfl (by assumption) (by assumption) dX12_runOut_88 ?_
          refine g_iload_n h dX12_runOut_91 rfl ?_
          refine g_iald h (L) (by assumption) (by first | omega | assumption) (by first | omega | assumption) (by first | decide | omega) dX12_runOut_92 ?_
          rw [e414]
          refine g_istore h dX12_runOut_93 (Nat.le_of_ble_eq_true rfl) rfl rfl ?_
          refine g_eq (w' := sR (ro0 w) 473 (cpR (w.2.1 473) (fun _ => -1) 400)) rfl rfl ?_ (run ha 401 0 (w.2.1 414 L) (cpR (w.2.1 473) (fun _ => -1) 400) ?_ ?_ (Or.inr ⟨by omega, if_pos (by omega)⟩) (fun c hc => by rw [show cpR (w.2.1 473) (fun _ => -1) 400 c = -1 from if_pos hc]; omega) rfl ⟨by omega, by omega⟩)
          · exact (sR_self (ro0 w) 473).symm
          · rw [cntU_all (o := cpR (w.2.1 473) (fun _ => -1) 400) 400 (fun c hc => if_pos hc)]
          · rw [cntU_all (o := cpR (w.2.1 473) (fun _ => -1) 400) 400 (fun c hc => if_pos hc)]; decide
        · exfalso; omega
      | succ d ih =>
        intro c hc
        have ih2 := ih (c + 1) (by omega)
        rw [fillW_s] at ih2
        refine g_iload_n h dX12_runOut_37 rfl ?_
        refine g_sipush h dX12_runOut_38 rfl ?_
        refine g_icmp_ge (tgt := 57) h dX12_runOut_41 (by decide) (by first | assumption | exact ⟨by omega, by omega⟩) (by first | assumption | exact ⟨by omega, by omega⟩) (fun c41 => ?_) (fun c41 => ?_)
        · exfalso; omega
        · refine g_aload_n h dX12_runOut_44 rfl ?_
          refine g_getQ h flX12_167 rfl (by assumption) (by assumption) dX12_runOut_45 ?_
          refine g_iload_n h dX12_runOut_48 rfl ?_
          refine g_iconst h dX12_runOut_49 ?_
          refine g_iast h _ (by assumption) rfl (by first | omega | assumption) (by first | decide | omega) dX12_runOut_50 ?_
          refine g_iinc h dX12_runOut_51 rfl (Nat.le_of_ble_eq_true rfl) rfl rfl ?_
          refine g_goto (tgt := 37) h dX12_runOut_54 (by decide) ?_
          exact ih2
    refine g_aload_n h dX12_runOut_0 rfl ?_
    refine g_iconst h dX12_runOut_1 ?_
    refine g_putI h flX12_1 rfl rfl (by assumption) dX12_runOut_2 ?_
    refine g_iload_n h dX12_runOut_5 rfl ?_
    refine g_callS h rfl [_] (c_X12_isLake _ _ _ hz) clX12_182 st_X12_isLake rfl rfl (by rw [hRm]; first | decide | (simp only [clS]; omega)) (by rw [hRm]; first | decide | (simp only [clS]; omega)) (fun _ => Nat.le_of_ble_eq_true rfl) (by rw [hRm]; first | decide | (simp only [clS]; omega)) (by rw [hRm]; first | decide | (simp only [clS]; omega)) dX12_runOut_6 (fun r6 w6 hp6 => ?_)
    obtain ⟨rfl, hw6⟩ := hp6
    rw [hw6]
    have hbw6 := ite01 (0 ≤ (L : Int) ∧ (L : Int) < 2)
    refine g_if_ne (tgt := 18) h dX12_runOut_9 (by decide) (by first | assumption | exact ⟨by omega, by omega⟩) (fun c9 => ?_) (fun c9 => ?_)
    · refine g_iload_n h dX12_runOut_18 rfl ?_
      refine g_iconst h dX12_runOut_19 ?_
      refine g_ldcw h kcX12_301 dX12_runOut_20 ?_
      refine g_callS h rfl [_, _, _] (c_X12_in _ _ _ _ _ ham ⟨by omega, by omega⟩ ⟨by omega, by omega⟩) clX12_211 st_X12_in rfl rfl (by rw [hRm]; first | decide | (simp only [clS]; omega)) (by rw [hRm]; first | decide | (simp only [clS]; omega)) (fun _ => Nat.le_of_ble_eq_true rfl) (by rw [hRm]; first | decide | (simp only [clS]; omega)) (by rw [hRm]; first | decide | (simp only [clS]; omega)) dX12_runOut_23 (fun r23 w23 hp23 => ?_)
      obtain ⟨rfl, hw23⟩ := hp23
      rw [hw23]
      have hbw23 := ite01 ((0 : Int) ≤ amt ∧ amt ≤ 1000000)
      refine g_if_ne (tgt := 35) h dX12_runOut_26 (by decide) (by first | assumption | exact ⟨by omega, by omega⟩) (fun c26 => ?_) (fun c26 => ?_)
      · refine g_iconst h dX12_runOut_35 ?_
        refine g_istore_n h dX12_runOut_36 (Nat.le_of_ble_eq_true rfl) rfl rfl ?_
        have h4 := fill (by omega) 400 0 (by omega)
        rw [fillW_0] at h4
        exact h4
      · refine g_aload_n h dX12_runOut_29 rfl ?_
        refine g_iconst h dX12_runOut_30 ?_
        refine g_callV h rfl (ci := 12) [_] (by assumption) (c_X12_refused _ _ _ (MS_of rfl rfl hM)) clX12_274 (by decide) rfl in_X12_refused se_X12_refused rfl rfl (by rw [hRm]; first | decide | (simp only [clS]; omega)) (by rw [hRm]; first | decide | (simp only [clS]; omega)) (fun _ => Nat.le_of_ble_eq_true rfl) (by rw [hRm]; first | decide | (simp only [clS]; omega)) (by rw [hRm]; first | decide | (simp only [clS]; omega)) dX12_runOut_31 (fun r31 w31 hp31 => ?_)
        obtain ⟨rfl, hw31⟩ := hp31
        rw [hw31]
        refine g_iret h hQ (by first | decide | omega | (simp only [clS]; omega)) (by first | decide | omega | (simp only [clS]; omega)) ?_ dX12_runOut_34
        first
        | (exfalso; omega)
        | (refine ⟨?_, ?_⟩
           · rw [if_pos hzl, if_neg (by omega)]
           · rw [if_pos hzl, if_neg (by omega)]; rfl)
    · exfalso; omega
  · skip
    refine g_aload_n h dX12_runOut_0 rfl ?_
    refine g_iconst h dX12_runOut_1 ?_
    refine g_putI h flX12_1 rfl rfl (by assumption) dX12_runOut_2 ?_
    refine g_iload_n h dX12_runOut_5 rfl ?_
    refine g_callS h rfl [_] (c_X12_isLake _ _ _ hz) clX12_182 st_X12_isLake rfl rfl (by rw [hRm]; first | decide | (simp only [clS]; omega)) (by rw [hRm]; first | decide | (simp only [clS]; omega)) (fun _ => Nat.le_of_ble_eq_true rfl) (by rw [hRm]; first | decide | (simp only [clS]; omega)) (by rw [hRm]; first | decide | (simp only [clS]; omega)) dX12_runOut_6 (fun r6 w6 hp6 => ?_)
    obtain ⟨rfl, hw6⟩ := hp6
    rw [hw6]
    have hbw6 := ite01 (0 ≤ z ∧ z < 2)
    refine g_if_ne (tgt := 18) h dX12_runOut_9 (by decide) (by first | assumption | exact ⟨by omega, by omega⟩) (fun c9 => ?_) (fun c9 => ?_)
    · exfalso; omega
    · refine g_aload_n h dX12_runOut_12 rfl ?_
      refine g_iconst h dX12_runOut_13 ?_
      refine g_callV h rfl (ci := 12) [_] (by assumption) (c_X12_refused _ _ _ (MS_of rfl rfl hM)) clX12_274 (by decide) rfl in_X12_refused se_X12_refused rfl rfl (by rw [hRm]; first | decide | (simp only [clS]; omega)) (by rw [hRm]; first | decide | (simp only [clS]; omega)) (fun _ => Nat.le_of_ble_eq_true rfl) (by rw [hRm]; first | decide | (simp only [clS]; omega)) (by rw [hRm]; first | decide | (simp only [clS]; omega)) dX12_runOut_14 (fun r14 w14 hp14 => ?_)
      obtain ⟨rfl, hw14⟩ := hp14
      rw [hw14]
      refine g_iret h hQ (by first | decide | omega | (simp only [clS]; omega)) (by first | decide | omega | (simp only [clS]; omega)) ?_ dX12_runOut_17
      first
      | (exfalso; omega)
      | (refine ⟨?_, ?_⟩
         · rw [if_neg hzl]
         · rw [if_neg hzl]; rfl)
