/-! ===== the class: a trial's layers ===== -/
def spR : Nat → Int → (Nat → Int) → Nat → Int
  | 0, _, f => f
  | k + 1, r, f => spR k (r / 10) (uI f k (r % 10))
set_option maxRecDepth 100000 in
set_option maxHeartbeats 4000000 in
theorem c_X9_spreadTrial (l : Launch) (w : AW) (n : Nat) (t : Int) (hX : XS w) (hn : n ≤ 3) (h0 : 0 ≤ t) (h1 : t < 100000) : HT l yX9_spreadTrial cX9_spreadTrial 5 none 1 0 0 w [ar 0, ai t, ai (n : Int)] (rV (sR w 18 (spR n t (w.2.1 18)))) := by
  refine HT.of (by decide) (by intro v hv; simp only [List.mem_cons, List.not_mem_nil, or_false] at hv; rcases hv with rfl | rfl | rfl <;> rfl) (Nat.le_of_ble_eq_true rfl) ?_
  intro Γ h hQ hRm hnm hl hw0
  have s0 : w.1 0 = (109, 0) := hX.1 0 (by decide)
  have s18 : w.1 18 = (1, 3) := hX.1 18 (by decide)
  have p0_4 : w.2.2 0 4 = some 18 := hX.2 (0, 4, 18) (by decide)
  have loop : ∀ (k : Nat) (rest v : Int) (f : Nat → Int) (w1 : AW), k ≤ n → v = (k : Int) - 1 → 0 ≤ rest → rest < 100000 → w1 = sR w 18 f → spR k rest f = spR n t (w.2.1 18) → GG Γ 15 [some (ar 0), some (ai t), some (ai (n : Int)), some (ai rest), some (ai v)] [] w1 0 0 := by
    intro k
    induction k with
    | zero =>
      intro rest v f w1 hk hv hr0 hr1 he hs
      refine g_iload h dX9_spreadTrial_15 rfl ?_
      refine g_if_lt (tgt := 42) h dX9_spreadTrial_17 (by decide) (by first | assumption | exact ⟨by omega, by omega⟩) (fun c17 => ?_) (fun c17 => ?_)
      · refine g_vret h hQ (by first | decide | omega | (simp only [clS]; omega)) (by first | decide | omega | (simp only [clS]; omega)) ?_ dX9_spreadTrial_42
        exact ⟨rfl, by rw [he, ← hs]; rfl⟩
      · exfalso; omega
    | succ k ih =>
      intro rest v f w1 hk hv hr0 hr1 he hs
      have hX1 : XS w1 := by rw [he]; exact XS_of rfl rfl hX
      have qs0 : w1.1 0 = (109, 0) := hX1.1 0 (by decide)
      have qs18 : w1.1 18 = (1, 3) := hX1.1 18 (by decide)
      have qp0_4 : w1.2.2 0 4 = some 18 := hX1.2 (0, 4, 18) (by decide)
      refine g_iload h dX9_spreadTrial_15 rfl ?_
      refine g_if_lt (tgt := 42) h dX9_spreadTrial_17 (by decide) (by first | assumption | exact ⟨by omega, by omega⟩) (fun c17 => ?_) (fun c17 => ?_)
      · exfalso; omega
      · refine g_aload_n h dX9_spreadTrial_20 rfl ?_
        refine g_getQ h flX9_28 rfl (by assumption) (by assumption) dX9_spreadTrial_21 ?_
        refine g_iload h dX9_spreadTrial_24 rfl ?_
        refine g_iload_n h dX9_spreadTrial_26 rfl ?_
        refine g_bipush h dX9_spreadTrial_27 rfl ?_
        refine g_irem h (by first | assumption | exact ⟨by omega, by omega⟩) (by first | assumption | exact ⟨by omega, by omega⟩) (by first | omega | assumption) (by first | omega | assumption) dX9_spreadTrial_29 ?_
        refine g_iast h (k) (by assumption) (by first | omega | assumption) (by first | omega | assumption) (by decide) dX9_spreadTrial_30 ?_
        refine g_iload_n h dX9_spreadTrial_31 rfl ?_
        refine g_bipush h dX9_spreadTrial_32 rfl ?_
        refine g_idiv h (by first | assumption | exact ⟨by omega, by omega⟩) (by first | assumption | exact ⟨by omega, by omega⟩) (by first | omega | assumption) (by first | omega | assumption) dX9_spreadTrial_34 ?_
        refine g_istore_n h dX9_spreadTrial_35 (Nat.le_of_ble_eq_true rfl) rfl rfl ?_
        refine g_iinc h dX9_spreadTrial_36 rfl (Nat.le_of_ble_eq_true rfl) rfl rfl ?_
        refine g_goto (tgt := 15) h dX9_spreadTrial_39 (by decide) ?_
        exact ih _ _ (uI f k (rest % 10)) _ (by omega) (by omega) (by omega) (by omega) (by rw [upI_sR, he, sR_sR, sR_at]) hs
  refine g_iload_n h dX9_spreadTrial_0 rfl ?_
  refine g_istore_n h dX9_spreadTrial_1 (Nat.le_of_ble_eq_true rfl) rfl rfl ?_
  refine g_iload_n h dX9_spreadTrial_2 rfl ?_
  refine g_aload_n h dX9_spreadTrial_3 rfl ?_
  refine g_getQ h flX9_28 rfl (by assumption) (by assumption) dX9_spreadTrial_4 ?_
  refine g_alen h (by assumption) (by unfold arK; omega) dX9_spreadTrial_7 ?_
  refine g_min h rfl mminX9_369 (by first | assumption | exact ⟨by omega, by omega⟩) (by first | assumption | exact ⟨by omega, by omega⟩) (by rw [hRm]; first | decide | (simp only [clS]; omega)) (by rw [hRm]; first | decide | (simp only [clS]; omega)) (fun _ => Nat.le_of_ble_eq_true rfl) (by rw [hRm]; first | decide | (simp only [clS]; omega)) (by rw [hRm]; first | decide | (simp only [clS]; omega)) dX9_spreadTrial_8 ?_
  refine g_iconst h dX9_spreadTrial_11 ?_
  refine g_isub h dX9_spreadTrial_12 ?_
  refine g_istore h dX9_spreadTrial_13 (Nat.le_of_ble_eq_true rfl) rfl rfl ?_
  exact loop n t _ _ w (Nat.le_refl _) (by omega) h0 h1 (sR_self w 18).symm rfl
set_option maxRecDepth 100000 in
set_option maxHeartbeats 4000000 in
theorem c_X9_keepTrial (l : Launch) (w : AW) (n : Nat) (hX : XS w) : HT l yX9_keepTrial cX9_keepTrial 3 none 1 0 0 w [ar 0, ai (n : Int)] (rV (upI (sR w 19 (cpR (w.2.1 19) (w.2.1 18) 3)) 0 6 (n : Int))) := by
  refine HT.of (by decide) (by intro v hv; simp only [List.mem_cons, List.not_mem_nil, or_false] at hv; rcases hv with rfl | rfl <;> rfl) (Nat.le_of_ble_eq_true rfl) ?_
  intro Γ h hQ hRm hnm hl hw0
  have s0 : w.1 0 = (109, 0) := hX.1 0 (by decide)
  have s19 : w.1 19 = (1, 3) := hX.1 19 (by decide)
  have s18 : w.1 18 = (1, 3) := hX.1 18 (by decide)
  have p0_5 : w.2.2 0 5 = some 19 := hX.2 (0, 5, 19) (by decide)
  have p0_4 : w.2.2 0 4 = some 18 := hX.2 (0, 4, 18) (by decide)
  have loop : ∀ (d i : Nat) (w1 : AW), i + d = 3 → w1 = sR w 19 (cpR (w.2.1 19) (w.2.1 18) i) → GG Γ 2 [some (ar 0), some (ai (n : Int)), some (ai (i : Int))] [] w1 0 0 := by
    intro d
    induction d with
    | zero =>
      intro i w1 hi he
      obtain rfl : i = 3 := by omega
      have hX1 : XS w1 := by rw [he]; exact XS_of rfl rfl hX
      have qs0 : w1.1 0 = (109, 0) := hX1.1 0 (by decide)
      have qs19 : w1.1 19 = (1, 3) := hX1.1 19 (by decide)
      have qs18 : w1.1 18 = (1, 3) := hX1.1 18 (by decide)
      have qp0_5 : w1.2.2 0 5 = some 19 := hX1.2 (0, 5, 19) (by decide)
      have qp0_4 : w1.2.2 0 4 = some 18 := hX1.2 (0, 4, 18) (by decide)
      refine g_iload_n h dX9_keepTrial_2 rfl ?_
      refine g_aload_n h dX9_keepTrial_3 rfl ?_
      refine g_getQ h flX9_32 rfl (by assumption) (by assumption) dX9_keepTrial_4 ?_
      refine g_alen h (by assumption) (by unfold arK; omega) dX9_keepTrial_7 ?_
      refine g_icmp_ge (tgt := 38) h dX9_keepTrial_8 (by decide) (by first | assumption | exact ⟨by omega, by omega⟩) (by first | assumption | exact ⟨by omega, by omega⟩) (fun c8 => ?_) (fun c8 => ?_)
      · refine g_aload_n h dX9_keepTrial_38 rfl ?_
        refine g_iload_n h dX9_keepTrial_39 rfl ?_
        refine g_putI h flX9_218 rfl rfl (by assumption) dX9_keepTrial_40 ?_
        refine g_vret h hQ (by first | decide | omega | (simp only [clS]; omega)) (by first | decide | omega | (simp only [clS]; omega)) ?_ dX9_keepTrial_43
        exact ⟨rfl, by rw [he]⟩
      · exfalso; omega
    | succ d ih =>
      intro i w1 hi he
      have hX1 : XS w1 := by rw [he]; exact XS_of rfl rfl hX
      have o18 : w1.2.1 18 = w.2.1 18 := by rw [he, sR_ne _ _ (by decide)]
      have qs0 : w1.1 0 = (109, 0) := hX1.1 0 (by decide)
      have qs19 : w1.1 19 = (1, 3) := hX1.1 19 (by decide)
      have qs18 : w1.1 18 = (1, 3) := hX1.1 18 (by decide)
      have qp0_5 : w1.2.2 0 5 = some 19 := hX1.2 (0, 5, 19) (by decide)
      have qp0_4 : w1.2.2 0 4 = some 18 := hX1.2 (0, 4, 18) (by decide)
      refine g_iload_n h dX9_keepTrial_2 rfl ?_
      refine g_aload_n h dX9_keepTrial_3 rfl ?_
      refine g_getQ h flX9_32 rfl (by assumption) (by assumption) dX9_keepTrial_4 ?_
      refine g_alen h (by assumption) (by unfold arK; omega) dX9_keepTrial_7 ?_
      refine g_icmp_ge (tgt := 38) h dX9_keepTrial_8 (by decide) (by first | assumption | exact ⟨by omega, by omega⟩) (by first | assumption | exact ⟨by omega, by omega⟩) (fun c8 => ?_) (fun c8 => ?_)
      · exfalso; omega
      · refine g_iload_n h dX9_keepTrial_11 rfl ?_
        refine g_aload_n h dX9_keepTrial_12 rfl ?_
        refine g_getQ h flX9_28 rfl (by assumption) (by assumption) dX9_keepTrial_13 ?_
        refine g_alen h (by assumption) (by unfold arK; omega) dX9_keepTrial_16 ?_
        refine g_icmp_ge (tgt := 38) h dX9_keepTrial_17 (by decide) (by first | assumption | exact ⟨by omega, by omega⟩) (by first | assumption | exact ⟨by omega, by omega⟩) (fun c17 => ?_) (fun c17 => ?_)
        · exfalso; omega
        · refine g_aload_n h dX9_keepTrial_20 rfl ?_
          refine g_getQ h flX9_32 rfl (by assumption) (by assumption) dX9_keepTrial_21 ?_
          refine g_iload_n h dX9_keepTrial_24 rfl ?_
          refine g_aload_n h dX9_keepTrial_25 rfl ?_
          refine g_getQ h flX9_28 rfl (by assumption) (by assumption) dX9_keepTrial_26 ?_
          refine g_iload_n h dX9_keepTrial_29 rfl ?_
          refine g_iald h _ (by assumption) rfl (by first | omega | assumption) (by decide) dX9_keepTrial_30 ?_
          refine g_iast h _ (by assumption) rfl (by first | omega | assumption) (by decide) dX9_keepTrial_31 ?_
          refine g_iinc h dX9_keepTrial_32 rfl (Nat.le_of_ble_eq_true rfl) rfl rfl ?_
          refine g_goto (tgt := 2) h dX9_keepTrial_35 (by decide) ?_
          exact ih (i + 1) _ (by omega) (by rw [upI_sR, o18, he, sR_sR, sR_at, cpR_s])
  refine g_iconst h dX9_keepTrial_0 ?_
  refine g_istore_n h dX9_keepTrial_1 (Nat.le_of_ble_eq_true rfl) rfl rfl ?_
  exact loop 3 0 w (by omega) (by rw [cpR_0, sR_self])
