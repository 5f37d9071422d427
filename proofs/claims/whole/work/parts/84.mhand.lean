/-! ===== M: the rows at hand are taken, laid back, turned over; their fullest ===== -/
theorem sH_up (w : AW) (r : R3) (i : Nat) (x y z : Int) : upI (upI (upI (sH w r) 420 i x) 421 i y) 422 i z = sH w (uI r.1 i x, uI r.2.1 i y, uI r.2.2 i z) := by
  unfold sH
  refine aw_ext rfl (fun j => ?_) rfl
  by_cases h1 : j = 422
  · subst h1; rfl
  by_cases h2 : j = 421
  · subst h2; rfl
  by_cases h3 : j = 420
  · subst h3; rfl
  rw [upI_sR, upI_sR, upI_sR]
  rw [sR_ne _ _ h1, sR_ne _ _ h2, sR_ne _ _ h3, sR_ne _ _ h1, sR_ne _ _ h2, sR_ne _ _ h3, sR_ne _ _ h1, sR_ne _ _ h2, sR_ne _ _ h3]
def tkR (w : AW) (L i : Nat) : R3 := (cpR (w.2.1 420) (fun j => w.2.1 407 (10 * L + j)) i, cpR (w.2.1 421) (fun j => w.2.1 408 (10 * L + j)) i, cpR (w.2.1 422) (fun j => w.2.1 409 (10 * L + j)) i)
theorem tkR_s (w : AW) (L i : Nat) : sH w (tkR w L (i + 1)) = upI (upI (upI (sH w (tkR w L i)) 420 i (w.2.1 407 (10 * L + i))) 421 i (w.2.1 408 (10 * L + i))) 422 i (w.2.1 409 (10 * L + i)) := by
  rw [sH_up]
  unfold tkR
  rw [cpR_s, cpR_s, cpR_s]
theorem tkR_0 (w : AW) (L : Nat) : sH w (tkR w L 0) = w := by
  unfold tkR
  rw [cpR_0, cpR_0, cpR_0]
  exact sH_self w
def tk2 (v : AW) (p : Nat) : AW := sR (sR v 423 (cpR (v.2.1 423) (v.2.1 430) p)) 425 (cpR (v.2.1 425) (v.2.1 435) p)
theorem tk2_0 (v : AW) : tk2 v 0 = v := by
  unfold tk2
  rw [cpR_0, cpR_0, sR_self]
  exact sR_self v 425
theorem tk2_s (v : AW) (p : Nat) : tk2 v (p + 1) = upI (upI (tk2 v p) 423 p (v.2.1 430 p)) 425 p (v.2.1 435 p) := by
  unfold tk2
  rw [cpR_s, cpR_s]
  refine aw_ext rfl (fun j => ?_) rfl
  by_cases h1 : j = 425
  · subst h1; rfl
  by_cases h2 : j = 423
  · subst h2; rfl
  rw [upI_o _ _ _ h1, upI_o _ _ _ h2, sR_ne _ _ h1, sR_ne _ _ h2, sR_ne _ _ h1, sR_ne _ _ h2]
def tkW (w : AW) (L np : Nat) : AW := tk2 (sH w (tkR w L 10)) np
set_option maxRecDepth 100000 in
set_option maxHeartbeats 4000000 in
theorem c_X12_takes (l : Launch) (w : AW) (L np : Nat) (hM : MS w) (hL : L < 2) (hnp : w.2.1 400 28 = (np : Int)) (hn6 : np ≤ 6) (hr : ∀ p, p < np → w.2.1 435 p = 0 ∨ w.2.1 435 p = 1) : HT l yX12_takes cX12_takes 3 none 1 0 0 w [ar 400, ai (L : Int)] (rV (tkW w L np)) := by
  refine HT.of (by decide) (by intro v hv; simp only [List.mem_cons, List.not_mem_nil, or_false] at hv; rcases hv with rfl | rfl <;> rfl) (Nat.le_of_ble_eq_true rfl) ?_
  intro Γ h hQ hRm hnm hl hw0
  have s400 : w.1 400 = (112, 0) := hM.1 400 (by decide) (by decide)
  have s420 : w.1 420 = (1, 10) := hM.1 420 (by decide) (by decide)
  have s407 : w.1 407 = (1, 20) := hM.1 407 (by decide) (by decide)
  have s421 : w.1 421 = (1, 10) := hM.1 421 (by decide) (by decide)
  have s408 : w.1 408 = (1, 20) := hM.1 408 (by decide) (by decide)
  have s422 : w.1 422 = (1, 10) := hM.1 422 (by decide) (by decide)
  have s409 : w.1 409 = (1, 20) := hM.1 409 (by decide) (by decide)
  have s423 : w.1 423 = (1, 6) := hM.1 423 (by decide) (by decide)
  have s430 : w.1 430 = (1, 6) := hM.1 430 (by decide) (by decide)
  have s425 : w.1 425 = (3, 6) := hM.1 425 (by decide) (by decide)
  have s435 : w.1 435 = (3, 6) := hM.1 435 (by decide) (by decide)
  have p20 : w.2.2 400 20 = some 420 := hM.2 (400, 20, 420) (by decide)
  have p7 : w.2.2 400 7 = some 407 := hM.2 (400, 7, 407) (by decide)
  have p21 : w.2.2 400 21 = some 421 := hM.2 (400, 21, 421) (by decide)
  have p8 : w.2.2 400 8 = some 408 := hM.2 (400, 8, 408) (by decide)
  have p22 : w.2.2 400 22 = some 422 := hM.2 (400, 22, 422) (by decide)
  have p9 : w.2.2 400 9 = some 409 := hM.2 (400, 9, 409) (by decide)
  have p23 : w.2.2 400 23 = some 423 := hM.2 (400, 23, 423) (by decide)
  have p30 : w.2.2 400 30 = some 430 := hM.2 (400, 30, 430) (by decide)
  have p25 : w.2.2 400 25 = some 425 := hM.2 (400, 25, 425) (by decide)
  have p35 : w.2.2 400 35 = some 435 := hM.2 (400, 35, 435) (by decide)
  have loop2 : ∀ (d p : Nat), p + d = np → GG Γ 67 [some (ar 400), some (ai (L : Int)), some (ai (p : Int))] [] (tk2 (sH w (tkR w L 10)) p) 0 0 := by
    intro d
    induction d with
    | zero =>
      intro p hp
      obtain rfl : p = np := by omega
      have hnp2 : (tk2 (sH w (tkR w L 10)) p).2.1 400 28 = (p : Int) := hnp
      refine g_iload_n h dX12_takes_67 rfl ?_
      refine g_aload_n h dX12_takes_68 rfl ?_
      refine g_getI h flX12_246 rfl (by assumption) dX12_takes_69 ?_
      refine g_icmp_ge (tgt := 105) h dX12_takes_72 (by decide) (by first | assumption | exact ⟨by omega, by omega⟩) (by first | assumption | exact ⟨by omega, by omega⟩) (fun c72 => ?_) (fun c72 => ?_)
      · refine g_vret h hQ (by first | decide | omega | (simp only [clS]; omega)) (by first | decide | omega | (simp only [clS]; omega)) ?_ dX12_takes_105
        exact ⟨rfl, rfl⟩
      · exfalso; omega
    | succ d ih =>
      intro p hp
      have hnp2 : (tk2 (sH w (tkR w L 10)) p).2.1 400 28 = (np : Int) := hnp
      have hrp : (tk2 (sH w (tkR w L 10)) p).2.1 435 p = 0 ∨ (tk2 (sH w (tkR w L 10)) p).2.1 435 p = 1 := hr p (by omega)
      have hrp2 : (upI (tk2 (sH w (tkR w L 10)) p) 423 p ((tk2 (sH w (tkR w L 10)) p).2.1 430 p)).2.1 435 p = 0 ∨ (upI (tk2 (sH w (tkR w L 10)) p) 423 p ((tk2 (sH w (tkR w L 10)) p).2.1 430 p)).2.1 435 p = 1 := hrp
      refine g_iload_n h dX12_takes_67 rfl ?_
      refine g_aload_n h dX12_takes_68 rfl ?_
      refine g_getI h flX12_246 rfl (by assumption) dX12_takes_69 ?_
      refine g_icmp_ge (tgt := 105) h dX12_takes_72 (by decide) (by first | assumption | exact ⟨by omega, by omega⟩) (by first | assumption | exact ⟨by omega, by omega⟩) (fun c72 => ?_) (fun c72 => ?_)
      · exfalso; omega
      · refine g_aload_n h dX12_takes_75 rfl ?_
        refine g_getQ h flX12_74 rfl (by assumption) (by assumption) dX12_takes_76 ?_
        refine g_iload_n h dX12_takes_79 rfl ?_
        refine g_aload_n h dX12_takes_80 rfl ?_
        refine g_getQ h flX12_87 rfl (by assumption) (by assumption) dX12_takes_81 ?_
        refine g_iload_n h dX12_takes_84 rfl ?_
        refine g_iald h _ (by assumption) rfl (by first | omega | assumption) (by first | decide | omega) dX12_takes_85 ?_
        refine g_iast h _ (by assumption) rfl (by first | omega | assumption) (by first | decide | omega) dX12_takes_86 ?_
        refine g_aload_n h dX12_takes_87 rfl ?_
        refine g_getQ h flX12_80 rfl (by assumption) (by assumption) dX12_takes_88 ?_
        refine g_iload_n h dX12_takes_91 rfl ?_
        refine g_aload_n h dX12_takes_92 rfl ?_
        refine g_getQ h flX12_102 rfl (by assumption) (by assumption) dX12_takes_93 ?_
        refine g_iload_n h dX12_takes_96 rfl ?_
        refine g_zald h _ (by assumption) rfl (by first | omega | assumption) (by first | decide | omega) dX12_takes_97 ?_
        refine g_zast h _ (by assumption) rfl (by first | omega | assumption) (by first | decide | omega) (by omega) dX12_takes_98 ?_
        refine g_iinc h dX12_takes_99 rfl (Nat.le_of_ble_eq_true rfl) rfl rfl ?_
        refine g_goto (tgt := 67) h dX12_takes_102 (by decide) ?_
        have h4 := ih (p + 1) (by omega)
        rw [tk2_s] at h4
        exact h4
  have loop1 : ∀ (d i : Nat), i + d = 10 → GG Γ 2 [some (ar 400), some (ai (L : Int)), some (ai (i : Int))] [] (sH w (tkR w L i)) 0 0 := by
    intro d
    induction d with
    | zero =>
      intro i hi
      obtain rfl : i = 10 := by omega
      refine g_iload_n h dX12_takes_2 rfl ?_
      refine g_bipush h dX12_takes_3 rfl ?_
      refine g_icmp_ge (tgt := 65) h dX12_takes_5 (by decide) (by first | assumption | exact ⟨by omega, by omega⟩) (by first | assumption | exact ⟨by omega, by omega⟩) (fun c5 => ?_) (fun c5 => ?_)
      · refine g_iconst h dX12_takes_65 ?_
        refine g_istore_n h dX12_takes_66 (Nat.le_of_ble_eq_true rfl) rfl rfl ?_
        have h4 := loop2 np 0 (by omega)
        rw [tk2_0] at h4
        exact h4
      · exfalso; omega
    | succ d ih =>
      intro i hi
      refine g_iload_n h dX12_takes_2 rfl ?_
      refine g_bipush h dX12_takes_3 rfl ?_
      refine g_icmp_ge (tgt := 65) h dX12_takes_5 (by decide) (by first | assumption | exact ⟨by omega, by omega⟩) (by first | assumption | exact ⟨by omega, by omega⟩) (fun c5 => ?_) (fun c5 => ?_)
      · exfalso; omega
      · refine g_aload_n h dX12_takes_8 rfl ?_
        refine g_getQ h flX12_65 rfl (by assumption) (by assumption) dX12_takes_9 ?_
        refine g_iload_n h dX12_takes_12 rfl ?_
        refine g_aload_n h dX12_takes_13 rfl ?_
        refine g_getQ h flX12_25 rfl (by assumption) (by assumption) dX12_takes_14 ?_
        refine g_bipush h dX12_takes_17 rfl ?_
        refine g_iload_n h dX12_takes_19 rfl ?_
        refine g_imul h dX12_takes_20 ?_
        refine g_iload_n h dX12_takes_21 rfl ?_
        refine g_iadd h dX12_takes_22 ?_
        refine g_iald h (10 * L + i) (by assumption) (by first | omega | assumption) (by first | omega | assumption) (by first | decide | omega) dX12_takes_23 ?_
        refine g_iast h _ (by assumption) rfl (by first | omega | assumption) (by first | decide | omega) dX12_takes_24 ?_
        refine g_aload_n h dX12_takes_25 rfl ?_
        refine g_getQ h flX12_68 rfl (by assumption) (by assumption) dX12_takes_26 ?_
        refine g_iload_n h dX12_takes_29 rfl ?_
        refine g_aload_n h dX12_takes_30 rfl ?_
        refine g_getQ h flX12_29 rfl (by assumption) (by assumption) dX12_takes_31 ?_
        refine g_bipush h dX12_takes_34 rfl ?_
        refine g_iload_n h dX12_takes_36 rfl ?_
        refine g_imul h dX12_takes_37 ?_
        refine g_iload_n h dX12_takes_38 rfl ?_
        refine g_iadd h dX12_takes_39 ?_
        refine g_iald h (10 * L + i) (by assumption) (by first | omega | assumption) (by first | omega | assumption) (by first | decide | omega) dX12_takes_40 ?_
        refine g_iast h _ (by assumption) rfl (by first | omega | assumption) (by first | decide | omega) dX12_takes_41 ?_
        refine g_aload_n h dX12_takes_42 rfl ?_
        refine g_getQ h flX12_71 rfl (by assumption) (by assumption) dX12_takes_43 ?_
        refine g_iload_n h dX12_takes_46 rfl ?_
        refine g_aload_n h dX12_takes_47 rfl ?_
        refine g_getQ h flX12_32 rfl (by assumption) (by assumption) dX12_takes_48 ?_
        refine g_bipush h dX12_takes_51 rfl ?_
        refine g_iload_n h dX12_takes_53 rfl ?_
        refine g_imul h dX12_takes_54 ?_
        refine g_iload_n h dX12_takes_55 rfl ?_
        refine g_iadd h dX12_takes_56 ?_
        refine g_iald h (10 * L + i) (by assumption) (by first | omega | assumption) (by first | omega | assumption) (by first | decide | omega) dX12_takes_57 ?_
        refine g_iast h _ (by assumption) rfl (by first | omega | assumption) (by first | decide | omega) dX12_takes_58 ?_
        refine g_iinc h dX12_takes_59 rfl (Nat.le_of_ble_eq_true rfl) rfl rfl ?_
        refine g_goto (tgt := 2) h dX12_takes_62 (by decide) ?_
        have h4 := ih (i + 1) (by omega)
        rw [tkR_s] at h4
        exact h4
  refine g_iconst h dX12_takes_0 ?_
  refine g_istore_n h dX12_takes_1 (Nat.le_of_ble_eq_true rfl) rfl rfl ?_
  have h4 := loop1 10 0 (by omega)
  rw [tkR_0] at h4
  exact h4
/-- lake L's part of a row, from a row at hand -/
def lyF (old src : Nat → Int) (L i : Nat) : Nat → Int := fun k => if 10 * L ≤ k ∧ k < 10 * L + i then src (k - 10 * L) else old k
theorem lyF_0 (old src : Nat → Int) (L : Nat) : lyF old src L 0 = old := funext fun k => if_neg (by omega)
theorem lyF_s (old src : Nat → Int) (L i : Nat) : lyF old src L (i + 1) = uI (lyF old src L i) (10 * L + i) (src i) := by
  funext k
  unfold uI lyF
  by_cases hj : k = 10 * L + i
  · rw [if_pos hj, if_pos (by omega), show k - 10 * L = i by omega]
  · rw [if_neg hj]
    by_cases hj2 : 10 * L ≤ k ∧ k < 10 * L + i
    · rw [if_pos hj2, if_pos (by omega)]
    · rw [if_neg hj2, if_neg (by omega)]
def lyW (w : AW) (L i : Nat) : AW := sR (sR (sR w 407 (lyF (w.2.1 407) (w.2.1 420) L i)) 408 (lyF (w.2.1 408) (w.2.1 421) L i)) 409 (lyF (w.2.1 409) (w.2.1 422) L i)
theorem lyW_0 (w : AW) (L : Nat) : lyW w L 0 = w := by
  unfold lyW
  rw [lyF_0, lyF_0, lyF_0]
  rw [sR_self w 407]
  rw [sR_self w 408]
  exact sR_self w 409
theorem lyW_s (w : AW) (L i : Nat) : lyW w L (i + 1) = upI (upI (upI (lyW w L i) 407 (10 * L + i) (w.2.1 420 i)) 408 (10 * L + i) (w.2.1 421 i)) 409 (10 * L + i) (w.2.1 422 i) := by
  unfold lyW
  rw [lyF_s, lyF_s, lyF_s]
  refine aw_ext rfl (fun j => ?_) rfl
  by_cases h1 : j = 409
  · subst h1; rfl
  by_cases h2 : j = 408
  · subst h2; rfl
  by_cases h3 : j = 407
  · subst h3; rfl
  rw [upI_o _ _ _ h1, upI_o _ _ _ h2, upI_o _ _ _ h3, sR_ne _ _ h1, sR_ne _ _ h2, sR_ne _ _ h3, sR_ne _ _ h1, sR_ne _ _ h2, sR_ne _ _ h3]
set_option maxRecDepth 100000 in
set_option maxHeartbeats 4000000 in
theorem c_X12_lays (l : Launch) (w : AW) (L : Nat) (hM : MS w) (hL : L < 2) : HT l yX12_lays cX12_lays 3 none 1 0 0 w [ar 400, ai (L : Int)] (rV (lyW w L 10)) := by
  refine HT.of (by decide) (by intro v hv; simp only [List.mem_cons, List.not_mem_nil, or_false] at hv; rcases hv with rfl | rfl <;> rfl) (Nat.le_of_ble_eq_true rfl) ?_
  intro Γ h hQ hRm hnm hl hw0
  have s400 : w.1 400 = (112, 0) := hM.1 400 (by decide) (by decide)
  have s407 : w.1 407 = (1, 20) := hM.1 407 (by decide) (by decide)
  have s420 : w.1 420 = (1, 10) := hM.1 420 (by decide) (by decide)
  have s408 : w.1 408 = (1, 20) := hM.1 408 (by decide) (by decide)
  have s421 : w.1 421 = (1, 10) := hM.1 421 (by decide) (by decide)
  have s409 : w.1 409 = (1, 20) := hM.1 409 (by decide) (by decide)
  have s422 : w.1 422 = (1, 10) := hM.1 422 (by decide) (by decide)
  have p7 : w.2.2 400 7 = some 407 := hM.2 (400, 7, 407) (by decide)
  have p20 : w.2.2 400 20 = some 420 := hM.2 (400, 20, 420) (by decide)
  have p8 : w.2.2 400 8 = some 408 := hM.2 (400, 8, 408) (by decide)
  have p21 : w.2.2 400 21 = some 421 := hM.2 (400, 21, 421) (by decide)
  have p9 : w.2.2 400 9 = some 409 := hM.2 (400, 9, 409) (by decide)
  have p22 : w.2.2 400 22 = some 422 := hM.2 (400, 22, 422) (by decide)
  have loop1 : ∀ (d i : Nat), i + d = 10 → GG Γ 2 [some (ar 400), some (ai (L : Int)), some (ai (i : Int))] [] (lyW w L i) 0 0 := by
    intro d
    induction d with
    | zero =>
      intro i hi
      obtain rfl : i = 10 := by omega
      refine g_iload_n h dX12_lays_2 rfl ?_
      refine g_bipush h dX12_lays_3 rfl ?_
      refine g_icmp_ge (tgt := 65) h dX12_lays_5 (by decide) (by first | assumption | exact ⟨by omega, by omega⟩) (by first | assumption | exact ⟨by omega, by omega⟩) (fun c5 => ?_) (fun c5 => ?_)
      · refine g_vret h hQ (by first | decide | omega | (simp only [clS]; omega)) (by first | decide | omega | (simp only [clS]; omega)) ?_ dX12_lays_65
        exact ⟨rfl, rfl⟩
      · exfalso; omega
    | succ d ih =>
      intro i hi
      refine g_iload_n h dX12_lays_2 rfl ?_
      refine g_bipush h dX12_lays_3 rfl ?_
      refine g_icmp_ge (tgt := 65) h dX12_lays_5 (by decide) (by first | assumption | exact ⟨by omega, by omega⟩) (by first | assumption | exact ⟨by omega, by omega⟩) (fun c5 => ?_) (fun c5 => ?_)
      · exfalso; omega
      · refine g_aload_n h dX12_lays_8 rfl ?_
        refine g_getQ h flX12_25 rfl (by assumption) (by assumption) dX12_lays_9 ?_
        refine g_bipush h dX12_lays_12 rfl ?_
        refine g_iload_n h dX12_lays_14 rfl ?_
        refine g_imul h dX12_lays_15 ?_
        refine g_iload_n h dX12_lays_16 rfl ?_
        refine g_iadd h dX12_lays_17 ?_
        refine g_aload_n h dX12_lays_18 rfl ?_
        refine g_getQ h flX12_65 rfl (by assumption) (by assumption) dX12_lays_19 ?_
        refine g_iload_n h dX12_lays_22 rfl ?_
        refine g_iald h _ (by assumption) rfl (by first | omega | assumption) (by first | decide | omega) dX12_lays_23 ?_
        refine g_iast h (10 * L + i) (by assumption) (by first | omega | assumption) (by first | omega | assumption) (by first | decide | omega) dX12_lays_24 ?_
        refine g_aload_n h dX12_lays_25 rfl ?_
        refine g_getQ h flX12_29 rfl (by assumption) (by assumption) dX12_lays_26 ?_
        refine g_bipush h dX12_lays_29 rfl ?_
        refine g_iload_n h dX12_lays_31 rfl ?_
        refine g_imul h dX12_lays_32 ?_
        refine g_iload_n h dX12_lays_33 rfl ?_
        refine g_iadd h dX12_lays_34 ?_
        refine g_aload_n h dX12_lays_35 rfl ?_
        refine g_getQ h flX12_68 rfl (by assumption) (by assumption) dX12_lays_36 ?_
        refine g_iload_n h dX12_lays_39 rfl ?_
        refine g_iald h _ (by assumption) rfl (by first | omega | assumption) (by first | decide | omega) dX12_lays_40 ?_
        refine g_iast h (10 * L + i) (by assumption) (by first | omega | assumption) (by first | omega | assumption) (by first | decide | omega) dX12_lays_41 ?_
        refine g_aload_n h dX12_lays_42 rfl ?_
        refine g_getQ h flX12_32 rfl (by assumption) (by assumption) dX12_lays_43 ?_
        refine g_bipush h dX12_lays_46 rfl ?_
        refine g_iload_n h dX12_lays_48 rfl ?_
        refine g_imul h dX12_lays_49 ?_
        refine g_iload_n h dX12_lays_50 rfl ?_
        refine g_iadd h dX12_lays_51 ?_
        refine g_aload_n h dX12_lays_52 rfl ?_
        refine g_getQ h flX12_71 rfl (by assumption) (by assumption) dX12_lays_53 ?_
        refine g_iload_n h dX12_lays_56 rfl ?_
        refine g_iald h _ (by assumption) rfl (by first | omega | assumption) (by first | decide | omega) dX12_lays_57 ?_
        refine g_iast h (10 * L + i) (by assumption) (by first | omega | assumption) (by first | omega | assumption) (by first | decide | omega) dX12_lays_58 ?_
        refine g_iinc h dX12_lays_59 rfl (Nat.le_of_ble_eq_true rfl) rfl rfl ?_
        refine g_goto (tgt := 2) h dX12_lays_62 (by decide) ?_
        have h4 := ih (i + 1) (by omega)
        rw [lyW_s] at h4
        exact h4
  refine g_iconst h dX12_lays_0 ?_
  refine g_istore_n h dX12_lays_1 (Nat.le_of_ble_eq_true rfl) rfl rfl ?_
  have h4 := loop1 10 0 (by omega)
  rw [lyW_0] at h4
  exact h4
set_option maxRecDepth 100000 in
set_option maxHeartbeats 4000000 in
theorem c_X12_fullHere (l : Launch) (w : AW) (L : Nat) (hM : MS w) (hN : MN w) (hL : L < 2) (hb : ∀ j, j < 10 → 0 ≤ w.2.1 420 j ∧ w.2.1 420 j ≤ 100000) : HT l yX12_fullHere cX12_fullHere 4 (some .int) 4 0 0 w [ar 400, ai (L : Int)] (rI (fullestF (w.2.1 420) (w.2.1 410 L) (w.2.1 411 L) 10) w) := by
  refine HT.of (by decide) (by intro v hv; simp only [List.mem_cons, List.not_mem_nil, or_false] at hv; rcases hv with rfl | rfl <;> rfl) (Nat.le_of_ble_eq_true rfl) ?_
  intro Γ h hQ hRm hnm hl hw0
  have s400 : w.1 400 = (112, 0) := hM.1 400 (by decide) (by decide)
  have s420 : w.1 420 = (1, 10) := hM.1 420 (by decide) (by decide)
  have p20 : w.2.2 400 20 = some 420 := hM.2 (400, 20, 420) (by decide)
  have loop : ∀ (d i : Nat), i + d = 10 → GG Γ 4 [some (ar 400), some (ai (L : Int)), some (ai (fullestF (w.2.1 420) (w.2.1 410 L) (w.2.1 411 L) i)), some (ai (i : Int))] [] w 0 0 := by
    intro d
    induction d with
    | zero =>
      intro i hi
      obtain rfl : i = 10 := by omega
      refine g_iload_n h dX12_fullHere_4 rfl ?_
      refine g_bipush h dX12_fullHere_5 rfl ?_
      refine g_icmp_ge (tgt := 33) h dX12_fullHere_7 (by decide) (by first | assumption | exact ⟨by omega, by omega⟩) (by first | assumption | exact ⟨by omega, by omega⟩) (fun c7 => ?_) (fun c7 => ?_)
      · refine g_iload_n h dX12_fullHere_33 rfl ?_
        refine g_iret h hQ (by first | decide | omega | (simp only [clS]; omega)) (by first | decide | omega | (simp only [clS]; omega)) ?_ dX12_fullHere_34
        exact ⟨rfl, rfl⟩
      · exfalso; omega
    | succ d ih =>
      intro i hi
      have hbi := hb i (by omega)
      have hfb := fullestF_bd (g := w.2.1 420) (step := w.2.1 410 L) (drop := w.2.1 411 L) (fun i hi => (hb i hi).2) i (by omega)
      have hff := fullF_bd (w.2.1 420 i) (holdsM w L i) hbi.2
      refine g_iload_n h dX12_fullHere_4 rfl ?_
      refine g_bipush h dX12_fullHere_5 rfl ?_
      refine g_icmp_ge (tgt := 33) h dX12_fullHere_7 (by decide) (by first | assumption | exact ⟨by omega, by omega⟩) (by first | assumption | exact ⟨by omega, by omega⟩) (fun c7 => ?_) (fun c7 => ?_)
      · exfalso; omega
      · refine g_iload_n h dX12_fullHere_10 rfl ?_
        refine g_aload_n h dX12_fullHere_11 rfl ?_
        refine g_iload_n h dX12_fullHere_12 rfl ?_
        refine g_iload_n h dX12_fullHere_13 rfl ?_
        refine g_aload_n h dX12_fullHere_14 rfl ?_
        refine g_getQ h flX12_65 rfl (by assumption) (by assumption) dX12_fullHere_15 ?_
        refine g_iload_n h dX12_fullHere_18 rfl ?_
        refine g_iald h _ (by assumption) rfl (by first | omega | assumption) (by first | decide | omega) dX12_fullHere_19 ?_
        refine g_callV h rfl (ci := 12) [_, _, _] (by assumption) (c_X12_share _ _ L i _ hM hN hL (by omega) hbi) clX12_232 (by decide) rfl in_X12_share se_X12_share rfl rfl (by rw [hRm]; first | decide | (simp only [clS]; omega)) (by rw [hRm]; first | decide | (simp only [clS]; omega)) (fun _ => Nat.le_of_ble_eq_true rfl) (by rw [hRm]; first | decide | (simp only [clS]; omega)) (by rw [hRm]; first | decide | (simp only [clS]; omega)) dX12_fullHere_20 (fun r20 w20 hp20 => ?_)
        obtain ⟨rfl, hw20⟩ := hp20
        rw [hw20]
        refine g_max h rfl mmaxX12_186 (by first | assumption | exact ⟨by omega, by omega⟩) (by first | assumption | exact ⟨by omega, by omega⟩) (by rw [hRm]; first | decide | (simp only [clS]; omega)) (by rw [hRm]; first | decide | (simp only [clS]; omega)) (fun _ => Nat.le_of_ble_eq_true rfl) (by rw [hRm]; first | decide | (simp only [clS]; omega)) (by rw [hRm]; first | decide | (simp only [clS]; omega)) dX12_fullHere_23 ?_
        refine g_istore_n h dX12_fullHere_26 (Nat.le_of_ble_eq_true rfl) rfl rfl ?_
        refine g_iinc h dX12_fullHere_27 rfl (Nat.le_of_ble_eq_true rfl) rfl rfl ?_
        refine g_goto (tgt := 4) h dX12_fullHere_30 (by decide) ?_
        exact ih (i + 1) (by omega)
  refine g_iconst h dX12_fullHere_0 ?_
  refine g_istore_n h dX12_fullHere_1 (Nat.le_of_ble_eq_true rfl) rfl rfl ?_
  refine g_iconst h dX12_fullHere_2 ?_
  refine g_istore_n h dX12_fullHere_3 (Nat.le_of_ble_eq_true rfl) rfl rfl ?_
  exact loop 10 0 (by omega)
theorem WR_sH (w : AW) (r : R3) : gH (sH w r) = r := rfl
set_option maxRecDepth 100000 in
set_option maxHeartbeats 4000000 in
theorem c_X12_turnsOver (l : Launch) (w : AW)  (hM : MS w) (hb : RB3 (gH w)) : HT l yX12_turnsOver cX12_turnsOver 3 none 3 0 0 w [ar 400] (rV (sH w (turnF 200 (gH w)))) := by
  refine HT.of (by decide) (by intro v hv; simp only [List.mem_cons, List.not_mem_nil, or_false] at hv; rcases hv with rfl <;> rfl) (Nat.le_of_ble_eq_true rfl) ?_
  intro Γ h hQ hRm hnm hl hw0
  have s400 : w.1 400 = (112, 0) := hM.1 400 (by decide) (by decide)
  have loop : ∀ (d n : Nat) (r : R3) (x : Option AV), n + d = 200 → RB3 r → turnF d r = turnF 200 (gH w) → GG Γ 2 [some (ar 400), some (ai (n : Int)), x] [] (sH w r) 0 0 := by
    intro d
    induction d with
    | zero =>
      intro n r x hn hr ht
      have ht2 : r = turnF 200 (gH w) := ht
      refine g_iload_n h dX12_turnsOver_2 rfl ?_
      refine g_sipush h dX12_turnsOver_3 rfl ?_
      refine g_icmp_ge (tgt := 56) h dX12_turnsOver_6 (by decide) (by first | assumption | exact ⟨by omega, by omega⟩) (by first | assumption | exact ⟨by omega, by omega⟩) (fun c6 => ?_) (fun c6 => ?_)
      · refine g_vret h hQ (by first | decide | omega | (simp only [clS]; omega)) (by first | decide | omega | (simp only [clS]; omega)) ?_ dX12_turnsOver_56
        exact ⟨rfl, by rw [← ht2]⟩
      · exfalso; omega
    | succ d ih =>
      intro n r x hn hr ht
      have hMr : MS (sH w r) := MS_of rfl rfl hM
      have inner : ∀ (e i : Nat), i + e = 9 → (∀ j, 1 ≤ j → j < 1 + i → ¬ WR r j < WR r (j - 1)) → GG Γ 11 [some (ar 400), some (ai (n : Int)), some (ai (i : Int))] [] (sH w r) 0 0 := by
        intro e
        induction e with
        | zero =>
          intro i hi hj
          obtain rfl : i = 9 := by omega
          have hnone : flF (WR r) 9 1 = none := (flF_skip 9 1 9 (by omega) hj).trans rfl
          have ht2 : r = turnF 200 (gH w) := by rw [← ht]; unfold turnF; rw [hnone]
          refine g_iload_n h dX12_turnsOver_11 rfl ?_
          refine g_bipush h dX12_turnsOver_12 rfl ?_
          refine g_icmp_ge (tgt := 38) h dX12_turnsOver_14 (by decide) (by first | assumption | exact ⟨by omega, by omega⟩) (by first | assumption | exact ⟨by omega, by omega⟩) (fun c14 => ?_) (fun c14 => ?_)
          · refine g_iload_n h dX12_turnsOver_38 rfl ?_
            refine g_bipush h dX12_turnsOver_39 rfl ?_
            refine g_icmp_ne (tgt := 45) h dX12_turnsOver_41 (by decide) (by first | assumption | exact ⟨by omega, by omega⟩) (by first | assumption | exact ⟨by omega, by omega⟩) (fun c41 => ?_) (fun c41 => ?_)
            · exfalso; omega
            · refine g_vret h hQ (by first | decide | omega | (simp only [clS]; omega)) (by first | decide | omega | (simp only [clS]; omega)) ?_ dX12_turnsOver_44
              exact ⟨rfl, by rw [← ht2]⟩
          · exfalso; omega
        | succ e ihe =>
          intro i hi hj
          have w1 : -400 ≤ WR (gH (sH w r)) i ∧ WR (gH (sH w r)) i ≤ 6000 := WF_bd hr (show i < 10 by omega)
          have w2 : -400 ≤ WR (gH (sH w r)) (i + 1) ∧ WR (gH (sH w r)) (i + 1) ≤ 6000 := WF_bd hr (show i + 1 < 10 by omega)
          refine g_iload_n h dX12_turnsOver_11 rfl ?_
          refine g_bipush h dX12_turnsOver_12 rfl ?_
          refine g_icmp_ge (tgt := 38) h dX12_turnsOver_14 (by decide) (by first | assumption | exact ⟨by omega, by omega⟩) (by first | assumption | exact ⟨by omega, by omega⟩) (fun c14 => ?_) (fun c14 => ?_)
          · refine g_iload_n h dX12_turnsOver_38 rfl ?_
            refine g_bipush h dX12_turnsOver_39 rfl ?_
            refine g_icmp_ne (tgt := 45) h dX12_turnsOver_41 (by decide) (by first | assumption | exact ⟨by omega, by omega⟩) (by first | assumption | exact ⟨by omega, by omega⟩) (fun c41 => ?_) (fun c41 => ?_)
            · refine g_aload_n h dX12_turnsOver_45 rfl ?_
              refine g_iload_n h dX12_turnsOver_46 rfl ?_
              refine g_callV h rfl (ci := 12) [_] (by assumption) (c_X12_mixes _ _ i hMr (by omega) hr) clX12_256 (by decide) rfl in_X12_mixes se_X12_mixes rfl rfl (by rw [hRm]; first | decide | (simp only [clS]; omega)) (by rw [hRm]; first | decide | (simp only [clS]; omega)) (fun _ => Nat.le_of_ble_eq_true rfl) (by rw [hRm]; first | decide | (simp only [clS]; omega)) (by rw [hRm]; first | decide | (simp only [clS]; omega)) dX12_turnsOver_47 (fun r47 w47 hp47 => ?_)
              obtain ⟨rfl, hw47⟩ := hp47
              rw [hw47]
              have hsome : flF (WR r) 9 1 = some (i + 1) := by
                rw [flF_skip 9 1 i (by omega) hj, show 9 - i = (8 - i) + 1 by omega]
                unfold flF
                rw [show 1 + i = i + 1 by omega, if_pos (by first | (exfalso; omega) | (show WR r (i + 1) < WR r (i + 1 - 1); rw [Nat.add_sub_cancel]; assumption))]
              rw [WR_sH, sH_sH]
              refine g_iinc h dX12_turnsOver_50 rfl (Nat.le_of_ble_eq_true rfl) rfl rfl ?_
              refine g_goto (tgt := 2) h dX12_turnsOver_53 (by decide) ?_
              exact ih (n + 1) _ _ (by omega) (RB_half (by omega) (by omega) hr) (by rw [← ht]; exact (turnF_some d hsome).symm)
            · exfalso; omega
          · refine g_aload_n h dX12_turnsOver_17 rfl ?_
            refine g_iload_n h dX12_turnsOver_18 rfl ?_
            refine g_iconst h dX12_turnsOver_19 ?_
            refine g_iadd h dX12_turnsOver_20 ?_
            refine g_callV h rfl (ci := 12) [_] (by assumption) (c_X12_weightHere _ _ (i + 1) hMr (by omega) hr) clX12_253 (by decide) rfl in_X12_weightHere se_X12_weightHere rfl rfl (by rw [hRm]; first | decide | (simp only [clS]; omega)) (by rw [hRm]; first | decide | (simp only [clS]; omega)) (fun _ => Nat.le_of_ble_eq_true rfl) (by rw [hRm]; first | decide | (simp only [clS]; omega)) (by rw [hRm]; first | decide | (simp only [clS]; omega)) dX12_turnsOver_21 (fun r21 w21 hp21 => ?_)
            obtain ⟨rfl, hw21⟩ := hp21
            rw [hw21]
            refine g_aload_n h dX12_turnsOver_24 rfl ?_
            refine g_iload_n h dX12_turnsOver_25 rfl ?_
            refine g_callV h rfl (ci := 12) [_] (by assumption) (c_X12_weightHere _ _ i hMr (by omega) hr) clX12_253 (by decide) rfl in_X12_weightHere se_X12_weightHere rfl rfl (by rw [hRm]; first | decide | (simp only [clS]; omega)) (by rw [hRm]; first | decide | (simp only [clS]; omega)) (fun _ => Nat.le_of_ble_eq_true rfl) (by rw [hRm]; first | decide | (simp only [clS]; omega)) (by rw [hRm]; first | decide | (simp only [clS]; omega)) dX12_turnsOver_26 (fun r26 w26 hp26 => ?_)
            obtain ⟨rfl, hw26⟩ := hp26
            rw [hw26]
            refine g_icmp_lt (tgt := 38) h dX12_turnsOver_29 (by decide) (by first | assumption | exact ⟨by omega, by omega⟩) (by first | assumption | exact ⟨by omega, by omega⟩) (fun c29 => ?_) (fun c29 => ?_)
            · refine g_iload_n h dX12_turnsOver_38 rfl ?_
              refine g_bipush h dX12_turnsOver_39 rfl ?_
              refine g_icmp_ne (tgt := 45) h dX12_turnsOver_41 (by decide) (by first | assumption | exact ⟨by omega, by omega⟩) (by first | assumption | exact ⟨by omega, by omega⟩) (fun c41 => ?_) (fun c41 => ?_)
              · refine g_aload_n h dX12_turnsOver_45 rfl ?_
                refine g_iload_n h dX12_turnsOver_46 rfl ?_
                refine g_callV h rfl (ci := 12) [_] (by assumption) (c_X12_mixes _ _ i hMr (by omega) hr) clX12_256 (by decide) rfl in_X12_mixes se_X12_mixes rfl rfl (by rw [hRm]; first | decide | (simp only [clS]; omega)) (by rw [hRm]; first | decide | (simp only [clS]; omega)) (fun _ => Nat.le_of_ble_eq_true rfl) (by rw [hRm]; first | decide | (simp only [clS]; omega)) (by rw [hRm]; first | decide | (simp only [clS]; omega)) dX12_turnsOver_47 (fun r47 w47 hp47 => ?_)
                obtain ⟨rfl, hw47⟩ := hp47
                rw [hw47]
                have hsome : flF (WR r) 9 1 = some (i + 1) := by
                  rw [flF_skip 9 1 i (by omega) hj, show 9 - i = (8 - i) + 1 by omega]
                  unfold flF
                  rw [show 1 + i = i + 1 by omega, if_pos (by first | (exfalso; omega) | (show WR r (i + 1) < WR r (i + 1 - 1); rw [Nat.add_sub_cancel]; assumption))]
                rw [WR_sH, sH_sH]
                refine g_iinc h dX12_turnsOver_50 rfl (Nat.le_of_ble_eq_true rfl) rfl rfl ?_
                refine g_goto (tgt := 2) h dX12_turnsOver_53 (by decide) ?_
                exact ih (n + 1) _ _ (by omega) (RB_half (by omega) (by omega) hr) (by rw [← ht]; exact (turnF_some d hsome).symm)
              · exfalso; omega
            · refine g_iinc h dX12_turnsOver_32 rfl (Nat.le_of_ble_eq_true rfl) rfl rfl ?_
              refine g_goto (tgt := 11) h dX12_turnsOver_35 (by decide) ?_
              refine ihe (i + 1) (by omega) (fun j h1 h2 => ?_)
              by_cases hj1 : j = i + 1
              · subst hj1
                rw [Nat.add_sub_cancel]
                exact Int.not_lt.mpr (by assumption)
              · exact hj j h1 (by omega)
      refine g_iload_n h dX12_turnsOver_2 rfl ?_
      refine g_sipush h dX12_turnsOver_3 rfl ?_
      refine g_icmp_ge (tgt := 56) h dX12_turnsOver_6 (by decide) (by first | assumption | exact ⟨by omega, by omega⟩) (by first | assumption | exact ⟨by omega, by omega⟩) (fun c6 => ?_) (fun c6 => ?_)
      · exfalso; omega
      · refine g_iconst h dX12_turnsOver_9 ?_
        refine g_istore_n h dX12_turnsOver_10 (Nat.le_of_ble_eq_true rfl) rfl rfl ?_
        exact inner 9 0 (by omega) (fun j h1 h2 => by omega)
  refine g_iconst h dX12_turnsOver_0 ?_
  refine g_istore_n h dX12_turnsOver_1 (Nat.le_of_ble_eq_true rfl) rfl rfl ?_
  have h4 := loop 200 0 (gH w) none (by omega) hb rfl
  rw [sH_self] at h4
  exact h4
