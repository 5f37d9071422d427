/-! ===== the class: what a layer is, pipes and villages asked ===== -/
def ofF (w : AW) (L i : Nat) (a : Int) (rn sn : Nat) : Int :=
  if a = 0 then w.2.1 (5 + L) i else if a = 1 then w.2.1 (8 + L) i else if a = 2 then w.2.1 (11 + L) i
  else if a = 3 then weightF (w.2.1 (5 + L) i) (w.2.1 (8 + L) i) (w.2.1 (11 + L) i) else if a = 4 then holdsW w L i
  else if a = 5 then tgW w ((L : Int) * 10 + i) (w.2.1 0 13) (holdsW w L i) rn sn else if laF w ((L : Int) * 10 + i) (w.2.1 0 13) rn = none then 1 else 0
def PI (w : AW) (np : Nat) : Prop := w.2.1 0 3 = (np : Int) ∧ np ≤ 6 ∧ (∀ p, p < np → w.2.2 17 p = some (50 + p) ∧ w.1 (50 + p) = (103, 0) ∧ 0 ≤ w.2.1 (50 + p) 0 ∧ w.2.1 (50 + p) 0 < 2 ∧ 0 ≤ w.2.1 (50 + p) 1 ∧ w.2.1 (50 + p) 1 < 10 ∧ (w.2.1 (50 + p) 4 = 0 ∨ w.2.1 (50 + p) 4 = 1)) ∧ ∀ p, np ≤ p → p < 6 → (w.1 (50 + p)).1 = 0
def VI (w : AW) (nv : Nat) : Prop := w.2.1 0 12 = (nv : Int) ∧ nv ≤ 20 ∧ (∀ v, v < nv → w.2.2 42 v = some (60 + v) ∧ w.1 (60 + v) = (108, 0) ∧ (w.2.1 (60 + v) 2 = 0 ∨ w.2.1 (60 + v) 2 = 1)) ∧ ∀ v, nv ≤ v → v < 20 → (w.1 (60 + v)).1 = 0
set_option maxRecDepth 100000 in
set_option maxHeartbeats 4000000 in
theorem c_X9_of (l : Launch) (w : AW) (n : Nat → Nat) (q : Nat → Nat → Nat) (S rn sn : Nat) (z i a : Int) (hW : WI w n q S rn sn) (hzr : R32 z) (hir : R32 i) (har : R32 a) : HT l yX9_of cX9_of 5 (some .int) 5 0 0 w [ar 0, ai z, ai i, ai a] (fun r w' => w' = w ∧ (¬ (0 ≤ z ∧ z < 2 ∧ 0 ≤ i ∧ i < 10 ∧ 0 ≤ a ∧ a < 7) → r = some (ai (-2147483648))) ∧ (0 ≤ z ∧ z < 2 ∧ 0 ≤ i ∧ i < 10 ∧ 0 ≤ a ∧ a < 7 → r = some (ai (ofF w z.toNat i.toNat a rn sn)))) := by
  refine HT.of (by decide) (by intro v hv; simp only [List.mem_cons, List.not_mem_nil, or_false] at hv; rcases hv with rfl | rfl | rfl | rfl <;> rfl) (Nat.le_of_ble_eq_true rfl) ?_
  intro Γ h hQ hRm hnm hl hw0
  obtain ⟨hX, hS, hLk, hSI, t0, t1⟩ := id hW
  have s0 : w.1 0 = (109, 0) := hX.1 0 (by decide)
  have s28 : w.1 28 = (107, 0) := hX.1 28 (by decide)
  have p0_9 : w.2.2 0 9 = some 28 := hX.2 (0, 9, 28) (by decide)
  by_cases hz : 0 ≤ z ∧ z < 2
  · have hl := lkA_some hz
    have hLK := XS_LK hX z.toNat (by omega)
    have kL := hLK.2.1
    obtain ⟨hN, hP, hq5⟩ := hLk z.toNat (by omega)
    refine g_aload_n h dX9_of_0 rfl ?_
    refine g_iload_n h dX9_of_1 rfl ?_
    refine g_callV h rfl (ci := 9) [_] (by assumption) (c_X9_lakeAt _ _ _ hX hzr) clX9_66 (by decide) rfl in_X9_lakeAt se_X9_lakeAt rfl rfl (by rw [hRm]; first | decide | (simp only [clS]; omega)) (by rw [hRm]; first | decide | (simp only [clS]; omega)) (fun _ => Nat.le_of_ble_eq_true rfl) (by rw [hRm]; first | decide | (simp only [clS]; omega)) (by rw [hRm]; first | decide | (simp only [clS]; omega)) dX9_of_2 (fun r2 w2 hp2 => ?_)
    obtain ⟨rfl, hw2⟩ := hp2
    rw [hw2, hl]
    refine g_astore h dX9_of_5 (Nat.le_of_ble_eq_true rfl) rfl rfl ?_
    refine g_aload h dX9_of_7 rfl ?_
    refine g_ifnull (tgt := 19) h dX9_of_9 (by decide) (fun c => by cases c) (fun _ c => ?_)
    refine g_iload_n h dX9_of_12 rfl ?_
    refine g_callS h rfl [_] (c_X9_isLayer _ _ _ hir) clX9_70 st_X9_isLayer rfl rfl (by rw [hRm]; first | decide | (simp only [clS]; omega)) (by rw [hRm]; first | decide | (simp only [clS]; omega)) (fun _ => Nat.le_of_ble_eq_true rfl) (by rw [hRm]; first | decide | (simp only [clS]; omega)) (by rw [hRm]; first | decide | (simp only [clS]; omega)) dX9_of_13 (fun r13 w13 hp13 => ?_)
    obtain ⟨rfl, hw13⟩ := hp13
    rw [hw13]
    have hbw13 := ite01 (0 ≤ i ∧ i < 10)
    refine g_if_ne (tgt := 22) h dX9_of_16 (by decide) (by first | assumption | exact ⟨by omega, by omega⟩) (fun c16 => ?_) (fun c16 => ?_)
    · have hzn : ((z.toNat : Nat) : Int) = z := by omega
      obtain ⟨_, k2, k5, k8, k11, k14, p0, p1, p2, p3⟩ := id hLK
      obtain ⟨im, rfl⟩ : ∃ m : Nat, i = (m : Int) := ⟨i.toNat, by omega⟩
      simp only [Int.toNat_natCast] at *
      have hr0 := hN.1 im (by omega)
      refine g_iload_n h dX9_of_22 rfl ?_
      rcases (show a = 0 ∨ a = 1 ∨ a = 2 ∨ a = 3 ∨ a = 4 ∨ a = 5 ∨ a = 6 ∨ (a < 0 ∨ 6 < a) by omega) with c23 | c23 | c23 | c23 | c23 | c23 | c23 | c23
      · refine g_tswI (tgt := 64) h 0 (by first | assumption | exact ⟨by omega, by omega⟩) (by first | omega | assumption) (by first | omega | assumption) rfl (by decide) dX9_of_23 ?_
        refine g_aload h dX9_of_64 rfl ?_
        refine g_getQ h flX9_101 rfl (by assumption) (by assumption) dX9_of_66 ?_
        refine g_iload_n h dX9_of_69 rfl ?_
        refine g_iald h _ (by assumption) rfl (by first | omega | assumption) (by decide) dX9_of_70 ?_
        refine g_iret h hQ (by first | decide | omega | (simp only [clS]; omega)) (by first | decide | omega | (simp only [clS]; omega)) ?_ dX9_of_71
        subst c23; exact ⟨rfl, fun q => absurd (by omega) q, fun _ => rfl⟩
      · refine g_tswI (tgt := 72) h 1 (by first | assumption | exact ⟨by omega, by omega⟩) (by first | omega | assumption) (by first | omega | assumption) rfl (by decide) dX9_of_23 ?_
        refine g_aload h dX9_of_72 rfl ?_
        refine g_getQ h flX9_104 rfl (by assumption) (by assumption) dX9_of_74 ?_
        refine g_iload_n h dX9_of_77 rfl ?_
        refine g_iald h _ (by assumption) rfl (by first | omega | assumption) (by decide) dX9_of_78 ?_
        refine g_iret h hQ (by first | decide | omega | (simp only [clS]; omega)) (by first | decide | omega | (simp only [clS]; omega)) ?_ dX9_of_79
        subst c23; exact ⟨rfl, fun q => absurd (by omega) q, fun _ => rfl⟩
      · refine g_tswI (tgt := 80) h 2 (by first | assumption | exact ⟨by omega, by omega⟩) (by first | omega | assumption) (by first | omega | assumption) rfl (by decide) dX9_of_23 ?_
        refine g_aload h dX9_of_80 rfl ?_
        refine g_getQ h flX9_107 rfl (by assumption) (by assumption) dX9_of_82 ?_
        refine g_iload_n h dX9_of_85 rfl ?_
        refine g_iald h _ (by assumption) rfl (by first | omega | assumption) (by decide) dX9_of_86 ?_
        refine g_iret h hQ (by first | decide | omega | (simp only [clS]; omega)) (by first | decide | omega | (simp only [clS]; omega)) ?_ dX9_of_87
        subst c23; exact ⟨rfl, fun q => absurd (by omega) q, fun _ => rfl⟩
      · refine g_tswI (tgt := 88) h 3 (by first | assumption | exact ⟨by omega, by omega⟩) (by first | omega | assumption) (by first | omega | assumption) rfl (by decide) dX9_of_23 ?_
        refine g_aload h dX9_of_88 rfl ?_
        refine g_iload_n h dX9_of_90 rfl ?_
        refine g_callV h rfl (ci := 2) [_] (by assumption) (c_X2_weightOf _ _ z.toNat im hLK hN (by omega)) clX9_110 (by decide) rfl in_X2_weightOf se_X2_weightOf rfl rfl (by rw [hRm]; first | decide | (simp only [clS]; omega)) (by rw [hRm]; first | decide | (simp only [clS]; omega)) (fun _ => Nat.le_of_ble_eq_true rfl) (by rw [hRm]; first | decide | (simp only [clS]; omega)) (by rw [hRm]; first | decide | (simp only [clS]; omega)) dX9_of_91 (fun r91 w91 hp91 => ?_)
        obtain ⟨rfl, hw91⟩ := hp91
        rw [hw91]
        refine g_iret h hQ (by first | decide | omega | (simp only [clS]; omega)) (by first | decide | omega | (simp only [clS]; omega)) ?_ dX9_of_94
        subst c23; exact ⟨rfl, fun q => absurd (by omega) q, fun _ => rfl⟩
      · refine g_tswI (tgt := 95) h 4 (by first | assumption | exact ⟨by omega, by omega⟩) (by first | omega | assumption) (by first | omega | assumption) rfl (by decide) dX9_of_23 ?_
        refine g_aload h dX9_of_95 rfl ?_
        refine g_iload_n h dX9_of_97 rfl ?_
        refine g_callV h rfl (ci := 2) [_] (by assumption) (c_X2_holdsOf _ _ z.toNat im hLK hN (by omega)) clX9_114 (by decide) rfl in_X2_holdsOf se_X2_holdsOf rfl rfl (by rw [hRm]; first | decide | (simp only [clS]; omega)) (by rw [hRm]; first | decide | (simp only [clS]; omega)) (fun _ => Nat.le_of_ble_eq_true rfl) (by rw [hRm]; first | decide | (simp only [clS]; omega)) (by rw [hRm]; first | decide | (simp only [clS]; omega)) dX9_of_98 (fun r98 w98 hp98 => ?_)
        obtain ⟨rfl, hw98⟩ := hp98
        rw [hw98]
        refine g_iret h hQ (by first | decide | omega | (simp only [clS]; omega)) (by first | decide | omega | (simp only [clS]; omega)) ?_ dX9_of_101
        subst c23; exact ⟨rfl, fun q => absurd (by omega) q, fun _ => rfl⟩
      · refine g_tswI (tgt := 102) h 5 (by first | assumption | exact ⟨by omega, by omega⟩) (by first | omega | assumption) (by first | omega | assumption) rfl (by decide) dX9_of_23 ?_
        refine g_aload_n h dX9_of_102 rfl ?_
        refine g_getQ h flX9_45 rfl (by assumption) (by assumption) dX9_of_103 ?_
        refine g_iload_n h dX9_of_106 rfl ?_
        refine g_iload_n h dX9_of_107 rfl ?_
        refine g_callS h rfl [_, _] (c_X9_stringOf _ _ _ _) clX9_117 st_X9_stringOf rfl rfl (by rw [hRm]; first | decide | (simp only [clS]; omega)) (by rw [hRm]; first | decide | (simp only [clS]; omega)) (fun _ => Nat.le_of_ble_eq_true rfl) (by rw [hRm]; first | decide | (simp only [clS]; omega)) (by rw [hRm]; first | decide | (simp only [clS]; omega)) dX9_of_108 (fun r108 w108 hp108 => ?_)
        obtain ⟨rfl, hw108⟩ := hp108
        rw [hw108]
        refine g_aload_n h dX9_of_111 rfl ?_
        refine g_getI h flX9_121 rfl (by assumption) dX9_of_112 ?_
        refine g_aload h dX9_of_115 rfl ?_
        refine g_iload_n h dX9_of_117 rfl ?_
        refine g_callV h rfl (ci := 2) [_] (by assumption) (c_X2_holdsOf _ _ z.toNat im hLK hN (by omega)) clX9_114 (by decide) rfl in_X2_holdsOf se_X2_holdsOf rfl rfl (by rw [hRm]; first | decide | (simp only [clS]; omega)) (by rw [hRm]; first | decide | (simp only [clS]; omega)) (fun _ => Nat.le_of_ble_eq_true rfl) (by rw [hRm]; first | decide | (simp only [clS]; omega)) (by rw [hRm]; first | decide | (simp only [clS]; omega)) dX9_of_118 (fun r118 w118 hp118 => ?_)
        obtain ⟨rfl, hw118⟩ := hp118
        rw [hw118]
        refine g_callV h rfl (ci := 7) [_, _, _] (by assumption) (c_X7_toldGas _ _ rn sn _ _ _ hX hSI ⟨by omega, by omega⟩ (by omega) (by omega)) clX9_124 (by decide) rfl in_X7_toldGas se_X7_toldGas rfl rfl (by rw [hRm]; first | decide | (simp only [clS]; omega)) (by rw [hRm]; first | decide | (simp only [clS]; omega)) (fun _ => Nat.le_of_ble_eq_true rfl) (by rw [hRm]; first | decide | (simp only [clS]; omega)) (by rw [hRm]; first | decide | (simp only [clS]; omega)) dX9_of_121 (fun r121 w121 hp121 => ?_)
        obtain ⟨rfl, hw121⟩ := hp121
        rw [hw121]
        refine g_iret h hQ (by first | decide | omega | (simp only [clS]; omega)) (by first | decide | omega | (simp only [clS]; omega)) ?_ dX9_of_124
        subst c23; exact ⟨rfl, fun q => absurd (by omega) q, fun _ => by unfold ofF; rw [hzn]; rfl⟩
      · refine g_tswI (tgt := 125) h 6 (by first | assumption | exact ⟨by omega, by omega⟩) (by first | omega | assumption) (by first | omega | assumption) rfl (by decide) dX9_of_23 ?_
        refine g_aload_n h dX9_of_125 rfl ?_
        refine g_getQ h flX9_45 rfl (by assumption) (by assumption) dX9_of_126 ?_
        refine g_iload_n h dX9_of_129 rfl ?_
        refine g_iload_n h dX9_of_130 rfl ?_
        refine g_callS h rfl [_, _] (c_X9_stringOf _ _ _ _) clX9_117 st_X9_stringOf rfl rfl (by rw [hRm]; first | decide | (simp only [clS]; omega)) (by rw [hRm]; first | decide | (simp only [clS]; omega)) (fun _ => Nat.le_of_ble_eq_true rfl) (by rw [hRm]; first | decide | (simp only [clS]; omega)) (by rw [hRm]; first | decide | (simp only [clS]; omega)) dX9_of_131 (fun r131 w131 hp131 => ?_)
        obtain ⟨rfl, hw131⟩ := hp131
        rw [hw131]
        refine g_aload_n h dX9_of_134 rfl ?_
        refine g_getI h flX9_121 rfl (by assumption) dX9_of_135 ?_
        refine g_callV h rfl (ci := 7) [_, _] (by assumption) (c_X7_isDead _ _ rn sn _ _ hX hSI ⟨by omega, by omega⟩ (by omega) (by omega)) clX9_128 (by decide) rfl in_X7_isDead se_X7_isDead rfl rfl (by rw [hRm]; first | decide | (simp only [clS]; omega)) (by rw [hRm]; first | decide | (simp only [clS]; omega)) (fun _ => Nat.le_of_ble_eq_true rfl) (by rw [hRm]; first | decide | (simp only [clS]; omega)) (by rw [hRm]; first | decide | (simp only [clS]; omega)) dX9_of_138 (fun r138 w138 hp138 => ?_)
        obtain ⟨rfl, hw138⟩ := hp138
        rw [hw138]
        have hdd := ite01 (laF w (z * 10 + (im : Int)) (w.2.1 0 13) rn = none)
        refine g_if_eq (tgt := 148) h dX9_of_141 (by decide) (by first | assumption | exact ⟨by omega, by omega⟩) (fun c141 => ?_) (fun c141 => ?_)
        · refine g_iconst h dX9_of_148 ?_
          refine g_iret h hQ (by first | decide | omega | (simp only [clS]; omega)) (by first | decide | omega | (simp only [clS]; omega)) ?_ dX9_of_149
          subst c23
          refine ⟨rfl, fun q => absurd (by omega) q, fun _ => ?_⟩
          show _ = some (ai (if _ then _ else _))
          rw [hzn]
          first
          | (rw [show (if laF w (z * 10 + (im : Int)) (w.2.1 0 13) rn = none then (1 : Int) else 0) = 1 by omega]; rfl)
          | (rw [show (if laF w (z * 10 + (im : Int)) (w.2.1 0 13) rn = none then (1 : Int) else 0) = 0 by omega]; rfl)
        · refine g_iconst h dX9_of_144 ?_
          refine g_goto (tgt := 149) h dX9_of_145 (by decide) ?_
          refine g_iret h hQ (by first | decide | omega | (simp only [clS]; omega)) (by first | decide | omega | (simp only [clS]; omega)) ?_ dX9_of_149
          subst c23
          refine ⟨rfl, fun q => absurd (by omega) q, fun _ => ?_⟩
          show _ = some (ai (if _ then _ else _))
          rw [hzn]
          first
          | (rw [show (if laF w (z * 10 + (im : Int)) (w.2.1 0 13) rn = none then (1 : Int) else 0) = 1 by omega]; rfl)
          | (rw [show (if laF w (z * 10 + (im : Int)) (w.2.1 0 13) rn = none then (1 : Int) else 0) = 0 by omega]; rfl)
      · refine g_tswO (tgt := 150) h (by first | assumption | exact ⟨by omega, by omega⟩) c23 (by decide) dX9_of_23 ?_
        refine g_ldc h kcX9_100 dX9_of_150 ?_
        refine g_iret h hQ (by first | decide | omega | (simp only [clS]; omega)) (by first | decide | omega | (simp only [clS]; omega)) ?_ dX9_of_152
        exact ⟨rfl, fun _ => rfl, fun q => absurd q (by omega)⟩
    · refine g_ldc h kcX9_100 dX9_of_19 ?_
      refine g_iret h hQ (by first | decide | omega | (simp only [clS]; omega)) (by first | decide | omega | (simp only [clS]; omega)) ?_ dX9_of_21
      exact ⟨rfl, fun _ => rfl, fun q => absurd q (by omega)⟩
  · have hl := lkA_none hz
    refine g_aload_n h dX9_of_0 rfl ?_
    refine g_iload_n h dX9_of_1 rfl ?_
    refine g_callV h rfl (ci := 9) [_] (by assumption) (c_X9_lakeAt _ _ _ hX hzr) clX9_66 (by decide) rfl in_X9_lakeAt se_X9_lakeAt rfl rfl (by rw [hRm]; first | decide | (simp only [clS]; omega)) (by rw [hRm]; first | decide | (simp only [clS]; omega)) (fun _ => Nat.le_of_ble_eq_true rfl) (by rw [hRm]; first | decide | (simp only [clS]; omega)) (by rw [hRm]; first | decide | (simp only [clS]; omega)) dX9_of_2 (fun r2 w2 hp2 => ?_)
    obtain ⟨rfl, hw2⟩ := hp2
    rw [hw2, hl]
    refine g_astore h dX9_of_5 (Nat.le_of_ble_eq_true rfl) rfl rfl ?_
    refine g_aload h dX9_of_7 rfl ?_
    refine g_ifnull (tgt := 19) h dX9_of_9 (by decide) (fun c => ?_) (fun _ c => by cases c)
    refine g_ldc h kcX9_100 dX9_of_19 ?_
    refine g_iret h hQ (by first | decide | omega | (simp only [clS]; omega)) (by first | decide | omega | (simp only [clS]; omega)) ?_ dX9_of_21
    exact ⟨rfl, fun _ => rfl, fun q => absurd q (by omega)⟩
def piA (z : Int) (np : Nat) : Option Nat := if 0 ≤ z ∧ z < np then some (50 + z.toNat) else none
def viA (z : Int) (nv : Nat) : Option Nat := if 0 ≤ z ∧ z < nv then some (60 + z.toNat) else none
set_option maxRecDepth 100000 in
set_option maxHeartbeats 4000000 in
theorem c_X9_pipeAt (l : Launch) (w : AW) (np : Nat) (z : Int) (hX : XS w) (hI : PI w np) (hz : R32 z) : HT l yX9_pipeAt cX9_pipeAt 2 (some (.object "LakeBreath$Pipe")) 1 0 0 w [ar 0, ai z] (fun r w' => r = some (aq (piA z np)) ∧ w' = w) := by
  refine HT.of (by decide) (by intro v hv; simp only [List.mem_cons, List.not_mem_nil, or_false] at hv; rcases hv with rfl | rfl <;> rfl) (Nat.le_of_ble_eq_true rfl) ?_
  intro Γ h hQ hRm hnm hl hw0
  have s0 : w.1 0 = (109, 0) := hX.1 0 (by decide)
  have s17 : w.1 17 = (203, 6) := hX.1 17 (by decide)
  have p0_2 : w.2.2 0 2 = some 17 := hX.2 (0, 2, 17) (by decide)
  obtain ⟨i1, i2, i3, i4⟩ := id hI
  refine g_iload_n h dX9_pipeAt_0 rfl ?_
  refine g_if_lt (tgt := 30) h dX9_pipeAt_1 (by decide) (by first | assumption | exact ⟨by omega, by omega⟩) (fun c1 => ?_) (fun c1 => ?_)
  · refine g_null h dX9_pipeAt_30 ?_
    refine g_aret h hQ (by first | decide | omega | (simp only [clS]; omega)) (by first | decide | omega | (simp only [clS]; omega)) ?_ dX9_pipeAt_31
    unfold piA
    first
    | (rw [if_pos (by omega)]; exact ⟨rfl, rfl⟩)
    | (rw [if_neg (by omega)]; exact ⟨rfl, rfl⟩)
  · refine g_iload_n h dX9_pipeAt_4 rfl ?_
    refine g_aload_n h dX9_pipeAt_5 rfl ?_
    refine g_getI h flX9_172 rfl (by assumption) dX9_pipeAt_6 ?_
    refine g_icmp_ge (tgt := 30) h dX9_pipeAt_9 (by decide) (by first | assumption | exact ⟨by omega, by omega⟩) (by first | assumption | exact ⟨by omega, by omega⟩) (fun c9 => ?_) (fun c9 => ?_)
    · refine g_null h dX9_pipeAt_30 ?_
      refine g_aret h hQ (by first | decide | omega | (simp only [clS]; omega)) (by first | decide | omega | (simp only [clS]; omega)) ?_ dX9_pipeAt_31
      unfold piA
      first
      | (rw [if_pos (by omega)]; exact ⟨rfl, rfl⟩)
      | (rw [if_neg (by omega)]; exact ⟨rfl, rfl⟩)
    · refine g_iload_n h dX9_pipeAt_12 rfl ?_
      refine g_aload_n h dX9_pipeAt_13 rfl ?_
      refine g_getQ h flX9_24 rfl (by assumption) (by assumption) dX9_pipeAt_14 ?_
      refine g_alen h (by assumption) (by unfold arK; omega) dX9_pipeAt_17 ?_
      refine g_icmp_ge (tgt := 30) h dX9_pipeAt_18 (by decide) (by first | assumption | exact ⟨by omega, by omega⟩) (by first | assumption | exact ⟨by omega, by omega⟩) (fun c18 => ?_) (fun c18 => ?_)
      · refine g_null h dX9_pipeAt_30 ?_
        refine g_aret h hQ (by first | decide | omega | (simp only [clS]; omega)) (by first | decide | omega | (simp only [clS]; omega)) ?_ dX9_pipeAt_31
        unfold piA
        first
        | (rw [if_pos (by omega)]; exact ⟨rfl, rfl⟩)
        | (rw [if_neg (by omega)]; exact ⟨rfl, rfl⟩)
      · have hl : w.2.2 17 z.toNat = some (50 + z.toNat) := (hI.2.2.1 z.toNat (by omega)).1
        refine g_aload_n h dX9_pipeAt_21 rfl ?_
        refine g_getQ h flX9_24 rfl (by assumption) (by assumption) dX9_pipeAt_22 ?_
        refine g_iload_n h dX9_pipeAt_25 rfl ?_
        refine g_aald h (z.toNat) (by assumption) (by unfold arK; omega) (by first | omega | assumption) (by first | omega | assumption) (by first | omega | assumption) (by decide) (by assumption) dX9_pipeAt_26 ?_
        refine g_goto (tgt := 31) h dX9_pipeAt_27 (by decide) ?_
        refine g_aret h hQ (by first | decide | omega | (simp only [clS]; omega)) (by first | decide | omega | (simp only [clS]; omega)) ?_ dX9_pipeAt_31
        unfold piA
        first
        | (rw [if_pos (by omega)]; exact ⟨rfl, rfl⟩)
        | (rw [if_neg (by omega)]; exact ⟨rfl, rfl⟩)
set_option maxRecDepth 100000 in
set_option maxHeartbeats 4000000 in
theorem c_X9_villageAt (l : Launch) (w : AW) (np : Nat) (z : Int) (hX : XS w) (hI : VI w np) (hz : R32 z) : HT l yX9_villageAt cX9_villageAt 2 (some (.object "LakeBreath$Village")) 1 0 0 w [ar 0, ai z] (fun r w' => r = some (aq (viA z np)) ∧ w' = w) := by
  refine HT.of (by decide) (by intro v hv; simp only [List.mem_cons, List.not_mem_nil, or_false] at hv; rcases hv with rfl | rfl <;> rfl) (Nat.le_of_ble_eq_true rfl) ?_
  intro Γ h hQ hRm hnm hl hw0
  have s0 : w.1 0 = (109, 0) := hX.1 0 (by decide)
  have s42 : w.1 42 = (208, 20) := hX.1 42 (by decide)
  have p0_11 : w.2.2 0 11 = some 42 := hX.2 (0, 11, 42) (by decide)
  obtain ⟨i1, i2, i3, i4⟩ := id hI
  refine g_iload_n h dX9_villageAt_0 rfl ?_
  refine g_if_lt (tgt := 30) h dX9_villageAt_1 (by decide) (by first | assumption | exact ⟨by omega, by omega⟩) (fun c1 => ?_) (fun c1 => ?_)
  · refine g_null h dX9_villageAt_30 ?_
    refine g_aret h hQ (by first | decide | omega | (simp only [clS]; omega)) (by first | decide | omega | (simp only [clS]; omega)) ?_ dX9_villageAt_31
    unfold viA
    first
    | (rw [if_pos (by omega)]; exact ⟨rfl, rfl⟩)
    | (rw [if_neg (by omega)]; exact ⟨rfl, rfl⟩)
  · refine g_iload_n h dX9_villageAt_4 rfl ?_
    refine g_aload_n h dX9_villageAt_5 rfl ?_
    refine g_getI h flX9_324 rfl (by assumption) dX9_villageAt_6 ?_
    refine g_icmp_ge (tgt := 30) h dX9_villageAt_9 (by decide) (by first | assumption | exact ⟨by omega, by omega⟩) (by first | assumption | exact ⟨by omega, by omega⟩) (fun c9 => ?_) (fun c9 => ?_)
    · refine g_null h dX9_villageAt_30 ?_
      refine g_aret h hQ (by first | decide | omega | (simp only [clS]; omega)) (by first | decide | omega | (simp only [clS]; omega)) ?_ dX9_villageAt_31
      unfold viA
      first
      | (rw [if_pos (by omega)]; exact ⟨rfl, rfl⟩)
      | (rw [if_neg (by omega)]; exact ⟨rfl, rfl⟩)
    · refine g_iload_n h dX9_villageAt_12 rfl ?_
      refine g_aload_n h dX9_villageAt_13 rfl ?_
      refine g_getQ h flX9_58 rfl (by assumption) (by assumption) dX9_villageAt_14 ?_
      refine g_alen h (by assumption) (by unfold arK; omega) dX9_villageAt_17 ?_
      refine g_icmp_ge (tgt := 30) h dX9_villageAt_18 (by decide) (by first | assumption | exact ⟨by omega, by omega⟩) (by first | assumption | exact ⟨by omega, by omega⟩) (fun c18 => ?_) (fun c18 => ?_)
      · refine g_null h dX9_villageAt_30 ?_
        refine g_aret h hQ (by first | decide | omega | (simp only [clS]; omega)) (by first | decide | omega | (simp only [clS]; omega)) ?_ dX9_villageAt_31
        unfold viA
        first
        | (rw [if_pos (by omega)]; exact ⟨rfl, rfl⟩)
        | (rw [if_neg (by omega)]; exact ⟨rfl, rfl⟩)
      · have hl : w.2.2 42 z.toNat = some (60 + z.toNat) := (hI.2.2.1 z.toNat (by omega)).1
        refine g_aload_n h dX9_villageAt_21 rfl ?_
        refine g_getQ h flX9_58 rfl (by assumption) (by assumption) dX9_villageAt_22 ?_
        refine g_iload_n h dX9_villageAt_25 rfl ?_
        refine g_aald h (z.toNat) (by assumption) (by unfold arK; omega) (by first | omega | assumption) (by first | omega | assumption) (by first | omega | assumption) (by decide) (by assumption) dX9_villageAt_26 ?_
        refine g_goto (tgt := 31) h dX9_villageAt_27 (by decide) ?_
        refine g_aret h hQ (by first | decide | omega | (simp only [clS]; omega)) (by first | decide | omega | (simp only [clS]; omega)) ?_ dX9_villageAt_31
        unfold viA
        first
        | (rw [if_pos (by omega)]; exact ⟨rfl, rfl⟩)
        | (rw [if_neg (by omega)]; exact ⟨rfl, rfl⟩)
set_option maxRecDepth 100000 in
set_option maxHeartbeats 4000000 in
theorem c_X9_fault (l : Launch) (w : AW)  (hX : XS w) : HT l yX9_fault cX9_fault 1 (some .int) 1 0 0 w [ar 0] (rI (w.2.1 20 5) w) := by
  refine HT.of (by decide) (by intro v hv; simp only [List.mem_cons, List.not_mem_nil, or_false] at hv; rcases hv with rfl <;> rfl) (Nat.le_of_ble_eq_true rfl) ?_
  intro Γ h hQ hRm hnm hl hw0
  have s0 : w.1 0 = (109, 0) := hX.1 0 (by decide)
  have s20 : w.1 20 = (105, 0) := hX.1 20 (by decide)
  have p0_7 : w.2.2 0 7 = some 20 := hX.2 (0, 7, 20) (by decide)
  refine g_aload_n h dX9_fault_0 rfl ?_
  refine g_getQ h flX9_38 rfl (by assumption) (by assumption) dX9_fault_1 ?_
  refine g_getI h flX9_255 rfl (by assumption) dX9_fault_4 ?_
  refine g_iret h hQ (by first | decide | omega | (simp only [clS]; omega)) (by first | decide | omega | (simp only [clS]; omega)) ?_ dX9_fault_7
  (first | exact ⟨rfl, rfl⟩ | (exfalso; omega))
set_option maxRecDepth 100000 in
set_option maxHeartbeats 4000000 in
theorem c_X9_where (l : Launch) (w : AW)  (hX : XS w) (h16 : R32 (w.2.1 0 16)) : HT l yX9_where cX9_where 1 (some .int) 1 0 0 w [ar 0] (rI (if w.2.1 0 16 = 4 then w.2.1 20 6 else -1) w) := by
  refine HT.of (by decide) (by intro v hv; simp only [List.mem_cons, List.not_mem_nil, or_false] at hv; rcases hv with rfl <;> rfl) (Nat.le_of_ble_eq_true rfl) ?_
  intro Γ h hQ hRm hnm hl hw0
  have s0 : w.1 0 = (109, 0) := hX.1 0 (by decide)
  have s20 : w.1 20 = (105, 0) := hX.1 20 (by decide)
  have p0_7 : w.2.2 0 7 = some 20 := hX.2 (0, 7, 20) (by decide)
  refine g_aload_n h dX9_where_0 rfl ?_
  refine g_getI h flX9_258 rfl (by assumption) dX9_where_1 ?_
  refine g_iconst h dX9_where_4 ?_
  refine g_icmp_ne (tgt := 18) h dX9_where_5 (by decide) (by first | assumption | exact ⟨by omega, by omega⟩) (by first | assumption | exact ⟨by omega, by omega⟩) (fun c5 => ?_) (fun c5 => ?_)
  · refine g_iconst h dX9_where_18 ?_
    refine g_iret h hQ (by first | decide | omega | (simp only [clS]; omega)) (by first | decide | omega | (simp only [clS]; omega)) ?_ dX9_where_19
    first
    | (rw [if_pos (by omega)]; exact ⟨rfl, rfl⟩)
    | (rw [if_neg (by omega)]; exact ⟨rfl, rfl⟩)
  · refine g_aload_n h dX9_where_8 rfl ?_
    refine g_getQ h flX9_38 rfl (by assumption) (by assumption) dX9_where_9 ?_
    refine g_getI h flX9_261 rfl (by assumption) dX9_where_12 ?_
    refine g_goto (tgt := 19) h dX9_where_15 (by decide) ?_
    refine g_iret h hQ (by first | decide | omega | (simp only [clS]; omega)) (by first | decide | omega | (simp only [clS]; omega)) ?_ dX9_where_19
    first
    | (rw [if_pos (by omega)]; exact ⟨rfl, rfl⟩)
    | (rw [if_neg (by omega)]; exact ⟨rfl, rfl⟩)
