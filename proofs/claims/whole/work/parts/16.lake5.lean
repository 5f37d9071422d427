/-! ===== Lake: sources, the rise of gas, bursts ===== -/
theorem uI_at (f : Nat → Int) (k : Nat) (z : Int) : uI f k z k = z := if_pos rfl
theorem uI_ne (f : Nat → Int) {k j : Nat} (z : Int) (h : j ≠ k) : uI f k z j = f j := if_neg h
theorem uI_uI (f : Nat → Int) (k : Nat) (x y : Int) : uI (uI f k x) k y = uI f k y := by
  funext j
  unfold uI
  split <;> rfl
/-- 10 sources, 11 pipes, 12 air, 13 clouds, 14 the latest cloud -/
def srcF (g : Nat → Int) (s : Int) : Nat → Int := uI g 9 ((g 9 + s) - max 0 (g 9 + s - 100000))
def srcA (g : Nat → Int) (s : Int) : Int := max 0 (g 9 + s - 100000)
theorem srcF_bd {g : Nat → Int} {s : Int} (hs : 0 ≤ s) (hb : ∀ j, j < 10 → 0 ≤ g j ∧ g j ≤ 100000) : ∀ j, j < 10 → 0 ≤ srcF g s j ∧ srcF g s j ≤ 100000 := by
  intro j hj
  have a := hb j hj
  have b := hb 9 (by omega)
  unfold srcF uI
  split <;> omega
set_option maxRecDepth 100000 in
set_option maxHeartbeats 4000000 in
theorem c_X2_takeSource (l : Launch) (w : AW) (L : Nat) (hK : LK w L) (hN : LN w L) : HT l yX2_takeSource cX2_takeSource 3 none 2 0 0 w [ar (2 + L)] (rV (sR (sR w (5 + L) (srcF (w.2.1 (5 + L)) (w.2.1 (2 + L) 7))) (2 + L) (uI (uI (w.2.1 (2 + L)) 10 (w.2.1 (2 + L) 10 + w.2.1 (2 + L) 7)) 12 (w.2.1 (2 + L) 12 + srcA (w.2.1 (5 + L)) (w.2.1 (2 + L) 7))))) := by
  refine HT.of (by decide) (by intro v hv; simp only [List.mem_cons, List.not_mem_nil, or_false] at hv; rcases hv with rfl <;> rfl) (Nat.le_of_ble_eq_true rfl) ?_
  intro Γ h hQ hRm hnm hl hw0
  obtain ⟨hL3, k2, k5, k8, k11, k14, p0, p1, p2, p3⟩ := id hK
  have hr := hN.1 9 (by omega)
  obtain ⟨-, n5, n5', n6, n6', n7, n7', -⟩ := id hN
  refine g_aload_n h dX2_takeSource_0 rfl ?_
  refine g_getQ h flX2_9 rfl (by assumption) (by assumption) dX2_takeSource_1 ?_
  refine g_bipush h dX2_takeSource_4 rfl ?_
  refine g_iald h (9) (by assumption) (by omega) (by omega) (by decide) dX2_takeSource_6 ?_
  refine g_aload_n h dX2_takeSource_7 rfl ?_
  refine g_getI h flX2_47 rfl (by assumption) dX2_takeSource_8 ?_
  refine g_iadd h dX2_takeSource_11 ?_
  refine g_istore_n h dX2_takeSource_12 (Nat.le_of_ble_eq_true rfl) rfl rfl ?_
  refine g_iconst h dX2_takeSource_13 ?_
  refine g_iload_n h dX2_takeSource_14 rfl ?_
  refine g_ldc h kcX2_103 dX2_takeSource_15 ?_
  refine g_isub h dX2_takeSource_17 ?_
  refine g_max h rfl mmaxX2_50 (by first | assumption | exact ⟨by omega, by omega⟩) (by first | assumption | exact ⟨by omega, by omega⟩) (by rw [hRm]; decide) (by rw [hRm]; decide) (fun _ => Nat.le_of_ble_eq_true rfl) (by rw [hRm]; decide) (by rw [hRm]; decide) dX2_takeSource_18 ?_
  refine g_istore_n h dX2_takeSource_21 (Nat.le_of_ble_eq_true rfl) rfl rfl ?_
  refine g_aload_n h dX2_takeSource_22 rfl ?_
  refine g_getQ h flX2_9 rfl (by assumption) (by assumption) dX2_takeSource_23 ?_
  refine g_bipush h dX2_takeSource_26 rfl ?_
  refine g_iload_n h dX2_takeSource_28 rfl ?_
  refine g_iload_n h dX2_takeSource_29 rfl ?_
  refine g_isub h dX2_takeSource_30 ?_
  refine g_iast h (9) (by assumption) (by omega) (by omega) (by decide) dX2_takeSource_31 ?_
  refine g_aload_n h dX2_takeSource_32 rfl ?_
  refine g_dup h dX2_takeSource_33 rfl ?_
  refine g_getI h flX2_41 rfl (by assumption) dX2_takeSource_34 ?_
  refine g_aload_n h dX2_takeSource_37 rfl ?_
  refine g_getI h flX2_47 rfl (by assumption) dX2_takeSource_38 ?_
  refine g_iadd h dX2_takeSource_41 ?_
  refine g_putI h flX2_41 rfl rfl (by assumption) dX2_takeSource_42 ?_
  refine g_aload_n h dX2_takeSource_45 rfl ?_
  refine g_dup h dX2_takeSource_46 rfl ?_
  refine g_getI h flX2_104 rfl (by assumption) dX2_takeSource_47 ?_
  refine g_iload_n h dX2_takeSource_50 rfl ?_
  refine g_iadd h dX2_takeSource_51 ?_
  refine g_putI h flX2_104 rfl rfl (by assumption) dX2_takeSource_52 ?_
  refine g_vret h hQ (by decide) (by decide) ?_ dX2_takeSource_55
  refine ⟨rfl, ?_⟩
  have hne : 2 + L ≠ 5 + L := by omega
  simp only [upI_sR, sR_sR, sR_at, sR_ne _ _ hne, uI_ne _ _ (show (12 : Nat) ≠ 10 by decide), uI_ne _ _ (show (7 : Nat) ≠ 10 by decide)]
  rfl
def rsF (m : Int) (g : Nat → Int) (i : Nat) : Nat → Int := uI (uI g i (g i - max 0 (g i - g (i - 1)) / m)) (i - 1) (g (i - 1) + max 0 (g i - g (i - 1)) / m)
def riseF (m : Int) : Nat → (Nat → Int) → (Nat → Int)
  | 0, g => g
  | n + 1, g => riseF m n (rsF m g (n + 1))
def riseG (m : Int) (g : Nat → Int) : Nat → Int := uI (riseF m 9 g) 0 (riseF m 9 g 0 - riseF m 9 g 0 / m)
def riseA (m : Int) (g : Nat → Int) : Int := riseF m 9 g 0 / m
theorem half_bd {a m : Int} (ha : 0 ≤ a) (hm : 2 ≤ m) : 0 ≤ a / m ∧ 2 * (a / m) ≤ a := by
  have h1 : 0 ≤ a / m := Int.ediv_nonneg ha (by omega)
  have h2 : a / m * m ≤ a := Int.ediv_mul_le a (by omega)
  have h3 : a / m * 2 ≤ a / m * m := Int.mul_le_mul_of_nonneg_left hm h1
  omega
theorem rsF_bd {m : Int} (hm : 2 ≤ m) {g : Nat → Int} {i : Nat} (h1 : 1 ≤ i) (h9 : i < 10) (hb : ∀ j, j < 10 → 0 ≤ g j ∧ g j ≤ 100000) : ∀ j, j < 10 → 0 ≤ rsF m g i j ∧ rsF m g i j ≤ 100000 := by
  intro j hj
  have a := hb j hj
  have b := hb i h9
  have c := hb (i - 1) (by omega)
  have d := half_bd (a := max 0 (g i - g (i - 1))) (m := m) (by omega) hm
  unfold rsF uI
  split
  · omega
  · split <;> omega
theorem riseF_bd {m : Int} (hm : 2 ≤ m) : ∀ (n : Nat) (g : Nat → Int), n ≤ 9 → (∀ j, j < 10 → 0 ≤ g j ∧ g j ≤ 100000) → ∀ j, j < 10 → 0 ≤ riseF m n g j ∧ riseF m n g j ≤ 100000
  | 0, g, _, hb => hb
  | n + 1, g, hn, hb => riseF_bd hm n _ (by omega) (rsF_bd hm (by omega) (by omega) hb)
theorem riseG_bd {m : Int} (hm : 2 ≤ m) {g : Nat → Int} (hb : ∀ j, j < 10 → 0 ≤ g j ∧ g j ≤ 100000) : ∀ j, j < 10 → 0 ≤ riseG m g j ∧ riseG m g j ≤ 100000 := by
  intro j hj
  have a := riseF_bd hm 9 g (by omega) hb j hj
  have b := riseF_bd hm 9 g (by omega) hb 0 (by omega)
  have d := half_bd (a := riseF m 9 g 0) (m := m) (by omega) hm
  unfold riseG uI
  split <;> omega
set_option maxRecDepth 100000 in
set_option maxHeartbeats 4000000 in
theorem c_X2_rise (l : Launch) (w : AW) (L : Nat) (hK : LK w L) (hN : LN w L) : HT l yX2_rise cX2_rise 3 none 2 0 0 w [ar (2 + L)] (rV (sR (sR w (5 + L) (riseG (w.2.1 (2 + L) 8) (w.2.1 (5 + L)))) (2 + L) (uI (w.2.1 (2 + L)) 12 (w.2.1 (2 + L) 12 + riseA (w.2.1 (2 + L) 8) (w.2.1 (5 + L)))))) := by
  refine HT.of (by decide) (by intro v hv; simp only [List.mem_cons, List.not_mem_nil, or_false] at hv; rcases hv with rfl <;> rfl) (Nat.le_of_ble_eq_true rfl) ?_
  intro Γ h hQ hRm hnm hl hw0
  obtain ⟨hL3, k2, k5, k8, k11, k14, p0, p1, p2, p3⟩ := id hK
  obtain ⟨-, n5, n5', n6, n6', n7, n7', n8, n8', -⟩ := id hN
  have hne : 2 + L ≠ 5 + L := by omega
  have loop : ∀ (i : Nat) (g : Nat → Int) (w1 : AW) (x : Option AV), i ≤ 9 → w1 = sR w (5 + L) g → (∀ j, j < 10 → 0 ≤ g j ∧ g j ≤ 100000) → riseF (w.2.1 (2 + L) 8) i g = riseF (w.2.1 (2 + L) 8) 9 (w.2.1 (5 + L)) → GG Γ 11 [some (ar (2 + L)), some (ai (i : Int)), x] [] w1 0 0 := by
    intro i
    induction i with
    | zero =>
      intro g w1 x hi he hb hf
      have k2' : w1.1 (2 + L) = (102, 0) := by rw [he]; exact k2
      have k5' : w1.1 (5 + L) = (1, 10) := by rw [he]; exact k5
      have p0' : w1.2.2 (2 + L) 0 = some (5 + L) := by rw [he]; exact p0
      have hg : w1.2.1 (5 + L) = g := by rw [he, sR_at]
      have ho : w1.2.1 (2 + L) = w.2.1 (2 + L) := by rw [he, sR_ne _ _ hne]
      have hb0 := hb 0 (by omega)
      rw [← hg] at hb0
      rw [← ho] at n8 n8' 
      refine g_iload_n h dX2_rise_11 rfl ?_
      refine g_iconst h dX2_rise_12 ?_
      refine g_icmp_lt (tgt := 69) h dX2_rise_13 (by decide) (by first | assumption | exact ⟨by omega, by omega⟩) (by first | assumption | exact ⟨by omega, by omega⟩) (fun c13 => ?_) (fun c13 => ?_)
      · refine g_aload_n h dX2_rise_69 rfl ?_
        refine g_getQ h flX2_9 rfl (by assumption) (by assumption) dX2_rise_70 ?_
        refine g_iconst h dX2_rise_73 ?_
        refine g_iald h (0) (by assumption) (by omega) (by omega) (by decide) dX2_rise_74 ?_
        refine g_aload_n h dX2_rise_75 rfl ?_
        refine g_getI h flX2_31 rfl (by assumption) dX2_rise_76 ?_
        refine g_idiv h (by first | assumption | exact ⟨by omega, by omega⟩) (by first | assumption | exact ⟨by omega, by omega⟩) (by omega) (by omega) dX2_rise_79 ?_
        refine g_istore_n h dX2_rise_80 (Nat.le_of_ble_eq_true rfl) rfl rfl ?_
        refine g_aload_n h dX2_rise_81 rfl ?_
        refine g_getQ h flX2_9 rfl (by assumption) (by assumption) dX2_rise_82 ?_
        refine g_iconst h dX2_rise_85 ?_
        refine g_dup2 h dX2_rise_86 rfl rfl ?_
        refine g_iald h (0) (by assumption) (by omega) (by omega) (by decide) dX2_rise_87 ?_
        refine g_iload_n h dX2_rise_88 rfl ?_
        refine g_isub h dX2_rise_89 ?_
        refine g_iast h (0) (by assumption) (by omega) (by omega) (by decide) dX2_rise_90 ?_
        refine g_aload_n h dX2_rise_91 rfl ?_
        refine g_dup h dX2_rise_92 rfl ?_
        refine g_getI h flX2_104 rfl (by assumption) dX2_rise_93 ?_
        refine g_iload_n h dX2_rise_96 rfl ?_
        refine g_iadd h dX2_rise_97 ?_
        refine g_putI h flX2_104 rfl rfl (by assumption) dX2_rise_98 ?_
        refine g_vret h hQ (by decide) (by decide) ?_ dX2_rise_101
        refine ⟨rfl, ?_⟩
        have hg2 : riseF (w.2.1 (2 + L) 8) 9 (w.2.1 (5 + L)) = w1.2.1 (5 + L) := by rw [← hf, hg]; rfl
        simp only [upI_sR, sR_at, sR_ne _ _ hne, ho]
        unfold riseG riseA
        rw [hg2, he, sR_sR]
      · exfalso; omega
    | succ i ih =>
      intro g w1 x hi he hb hf
      have k2' : w1.1 (2 + L) = (102, 0) := by rw [he]; exact k2
      have k5' : w1.1 (5 + L) = (1, 10) := by rw [he]; exact k5
      have p0' : w1.2.2 (2 + L) 0 = some (5 + L) := by rw [he]; exact p0
      have hg : w1.2.1 (5 + L) = g := by rw [he, sR_at]
      have ho : w1.2.1 (2 + L) = w.2.1 (2 + L) := by rw [he, sR_ne _ _ hne]
      have hb0 := hb i (by omega)
      have hb1 := hb (i + 1) (by omega)
      rw [← hg] at hb0 hb1
      have n81 : 2 ≤ w1.2.1 (2 + L) 8 := by rw [ho]; exact n8
      have n82 : w1.2.1 (2 + L) 8 ≤ 1000 := by rw [ho]; exact n8' 
      refine g_iload_n h dX2_rise_11 rfl ?_
      refine g_iconst h dX2_rise_12 ?_
      refine g_icmp_lt (tgt := 69) h dX2_rise_13 (by decide) (by first | assumption | exact ⟨by omega, by omega⟩) (by first | assumption | exact ⟨by omega, by omega⟩) (fun c13 => ?_) (fun c13 => ?_)
      · exfalso; omega
      · refine g_iconst h dX2_rise_16 ?_
        refine g_aload_n h dX2_rise_17 rfl ?_
        refine g_getQ h flX2_9 rfl (by assumption) (by assumption) dX2_rise_18 ?_
        refine g_iload_n h dX2_rise_21 rfl ?_
        refine g_iald h (i + 1) (by assumption) (by omega) (by omega) (by decide) dX2_rise_22 ?_
        refine g_aload_n h dX2_rise_23 rfl ?_
        refine g_getQ h flX2_9 rfl (by assumption) (by assumption) dX2_rise_24 ?_
        refine g_iload_n h dX2_rise_27 rfl ?_
        refine g_iconst h dX2_rise_28 ?_
        refine g_isub h dX2_rise_29 ?_
        refine g_iald h (i) (by assumption) (by omega) (by omega) (by decide) dX2_rise_30 ?_
        refine g_isub h dX2_rise_31 ?_
        refine g_max h rfl mmaxX2_50 (by first | assumption | exact ⟨by omega, by omega⟩) (by first | assumption | exact ⟨by omega, by omega⟩) (by rw [hRm]; decide) (by rw [hRm]; decide) (fun _ => Nat.le_of_ble_eq_true rfl) (by rw [hRm]; decide) (by rw [hRm]; decide) dX2_rise_32 ?_
        refine g_aload_n h dX2_rise_35 rfl ?_
        refine g_getI h flX2_31 rfl (by assumption) dX2_rise_36 ?_
        refine g_idiv h (by first | assumption | exact ⟨by omega, by omega⟩) (by first | assumption | exact ⟨by omega, by omega⟩) (by omega) (by omega) dX2_rise_39 ?_
        refine g_istore_n h dX2_rise_40 (Nat.le_of_ble_eq_true rfl) rfl rfl ?_
        refine g_aload_n h dX2_rise_41 rfl ?_
        refine g_getQ h flX2_9 rfl (by assumption) (by assumption) dX2_rise_42 ?_
        refine g_iload_n h dX2_rise_45 rfl ?_
        refine g_dup2 h dX2_rise_46 rfl rfl ?_
        refine g_iald h (i + 1) (by assumption) (by omega) (by omega) (by decide) dX2_rise_47 ?_
        refine g_iload_n h dX2_rise_48 rfl ?_
        refine g_isub h dX2_rise_49 ?_
        refine g_iast h (i + 1) (by assumption) (by omega) (by omega) (by decide) dX2_rise_50 ?_
        refine g_aload_n h dX2_rise_51 rfl ?_
        refine g_getQ h flX2_9 rfl (by assumption) (by assumption) dX2_rise_52 ?_
        refine g_iload_n h dX2_rise_55 rfl ?_
        refine g_iconst h dX2_rise_56 ?_
        refine g_isub h dX2_rise_57 ?_
        refine g_dup2 h dX2_rise_58 rfl rfl ?_
        refine g_iald h (i) (by assumption) (by omega) (by omega) (by decide) dX2_rise_59 ?_
        refine g_iload_n h dX2_rise_60 rfl ?_
        refine g_iadd h dX2_rise_61 ?_
        refine g_iast h (i) (by assumption) (by omega) (by omega) (by decide) dX2_rise_62 ?_
        refine g_iinc h dX2_rise_63 rfl (Nat.le_of_ble_eq_true rfl) rfl rfl ?_
        refine g_goto (tgt := 11) h dX2_rise_66 (by decide) ?_
        rw [show ((i + 1 : Nat) : Int) + -1 = (i : Int) by omega]
        refine ih (rsF (w.2.1 (2 + L) 8) g (i + 1)) _ _ (by omega) ?_ (rsF_bd n8 (by omega) (by omega) hb) hf
        simp only [upI_sR, sR_at, ho, hg]
        rw [he, sR_sR, sR_sR]
        unfold rsF
        rw [uI_ne _ _ (show i ≠ i + 1 by omega)]
        rfl
  refine g_aload_n h dX2_rise_0 rfl ?_
  refine g_getI h flX2_31 rfl (by assumption) dX2_rise_1 ?_
  refine g_if_gt (tgt := 8) h dX2_rise_4 (by decide) (by first | assumption | exact ⟨by omega, by omega⟩) (fun c4 => ?_) (fun c4 => ?_)
  · refine g_bipush h dX2_rise_8 rfl ?_
    refine g_istore_n h dX2_rise_10 (Nat.le_of_ble_eq_true rfl) rfl rfl ?_
    exact loop 9 (w.2.1 (5 + L)) w none (by omega) (sR_self _ _).symm (fun j hj => ⟨(hN.1 j hj).1, (hN.1 j hj).2.1⟩) rfl
  · refine g_vret h hQ (by decide) (by decide) ?_ dX2_rise_7
    (first | exact ⟨rfl, rfl⟩ | (exfalso; omega))
