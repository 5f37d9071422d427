/-! ===== the class: a pipe is laid ===== -/
theorem ptX_lt : ∀ p ∈ ptX, p.1 < 43 ∧ ¬ (14 ≤ p.1 ∧ p.1 ≤ 17) := by decide
theorem XS_alc {w : AW} {k : Nat} {kd : Nat × Nat} (hk : 43 ≤ k) (h : XS w) : XS (alc w k kd) :=
  ⟨fun j hj => (if_neg (by omega)).trans (h.1 j hj), fun p hp => (congrFun (if_neg (by have := ptX_lt p hp; omega)) p.2.1).trans (h.2 p hp)⟩
theorem XS_upP {w : AW} {k f : Nat} {r : Option Nat} (hk : 14 ≤ k ∧ k ≤ 17) (h : XS w) : XS (upP w k f r) :=
  ⟨h.1, fun p hp => (congrFun (if_neg (by have := ptX_lt p hp; omega)) p.2.1).trans (h.2 p hp)⟩
/-- lake L with n pipes gets the class's pipe np -/
def piW (w : AW) (L n np : Nat) (z i f li : Int) : AW :=
  upI (upI (upP (upI (upP (sR (alc w (50 + np) (103, 0)) (50 + np) (uI (uI (uI (uI ((alc w (50 + np) (103, 0)).2.1 (50 + np)) 0 z) 1 i) 2 f) 3 li)) (14 + L) n (some (50 + np))) (2 + L) 4 ((n : Int) + 1)) 17 np (some (50 + np))) 0 3 ((np : Int) + 1)) 0 16 0
set_option maxRecDepth 100000 in
set_option maxHeartbeats 4000000 in
theorem c_X9_pipe (l : Launch) (w : AW) (n : Nat → Nat) (q : Nat → Nat → Nat) (S rn sn : Nat) (np : Nat) (z i f li : Int) (hW : WI w n q S rn sn) (hI : PI w np) (hzr : R32 z) (hir : R32 i) (hf : R32 f) (hli : R32 li) : HT l yX9_pipe cX9_pipe 7 (some .int) 3 1 7 w [ar 0, ai z, ai i, ai f, ai li] (fun r w' => (¬ (0 ≤ z ∧ z < 2 ∧ 0 ≤ i ∧ i < 10) → r = some (ai (-1)) ∧ w' = upI w 0 16 1) ∧ (0 ≤ z ∧ z < 2 ∧ 0 ≤ i ∧ i < 10 → ¬ (1 ≤ f ∧ f ≤ 500 ∧ 0 ≤ li ∧ li ≤ 100000) → r = some (ai (-1)) ∧ w' = upI w 0 16 2) ∧ (0 ≤ z ∧ z < 2 ∧ 0 ≤ i ∧ i < 10 → 1 ≤ f ∧ f ≤ 500 ∧ 0 ≤ li ∧ li ≤ 100000 → ¬ (np < 6 ∧ n z.toNat < 3) → r = some (ai (-1)) ∧ w' = upI w 0 16 3) ∧ (0 ≤ z ∧ z < 2 ∧ 0 ≤ i ∧ i < 10 → 1 ≤ f ∧ f ≤ 500 ∧ 0 ≤ li ∧ li ≤ 100000 → np < 6 ∧ n z.toNat < 3 → r = some (ai (np : Int)) ∧ w' = piW w z.toNat (n z.toNat) np z i f li)) := by
  refine HT.of (by decide) (by intro v hv; simp only [List.mem_cons, List.not_mem_nil, or_false] at hv; rcases hv with rfl | rfl | rfl | rfl | rfl <;> rfl) (Nat.le_of_ble_eq_true rfl) ?_
  intro Γ h hQ hRm hnm hl hw0
  obtain ⟨hX, hS, hLk, hSI, t0, t1⟩ := id hW
  have s0 : w.1 0 = (109, 0) := hX.1 0 (by decide)
  have s17 : w.1 17 = (203, 6) := hX.1 17 (by decide)
  have p0_2 : w.2.2 0 2 = some 17 := hX.2 (0, 2, 17) (by decide)
  obtain ⟨j1, j2, j3, j4⟩ := id hI
  by_cases hz : 0 ≤ z ∧ z < 2
  · have hl := lkA_some hz
    have hLK := XS_LK hX z.toNat (by omega)
    have kL := hLK.2.1
    obtain ⟨hN, hP, hq5⟩ := hLk z.toNat (by omega)
    refine g_aload_n h dX9_pipe_0 rfl ?_
    refine g_iload_n h dX9_pipe_1 rfl ?_
    refine g_callV h rfl (ci := 9) [_] (by assumption) (c_X9_lakeAt _ _ _ hX hzr) clX9_66 (by decide) rfl in_X9_lakeAt se_X9_lakeAt rfl rfl (by rw [hRm]; first | decide | (simp only [clS]; omega)) (by rw [hRm]; first | decide | (simp only [clS]; omega)) (fun _ => Nat.le_of_ble_eq_true rfl) (by rw [hRm]; first | decide | (simp only [clS]; omega)) (by rw [hRm]; first | decide | (simp only [clS]; omega)) dX9_pipe_2 (fun r2 w2 hp2 => ?_)
    obtain ⟨rfl, hw2⟩ := hp2
    rw [hw2, hl]
    refine g_astore h dX9_pipe_5 (Nat.le_of_ble_eq_true rfl) rfl rfl ?_
    refine g_aload h dX9_pipe_7 rfl ?_
    refine g_ifnull (tgt := 19) h dX9_pipe_9 (by decide) (fun c => by cases c) (fun _ c => ?_)
    refine g_iload_n h dX9_pipe_12 rfl ?_
    refine g_callS h rfl [_] (c_X9_isLayer _ _ _ hir) clX9_70 st_X9_isLayer rfl rfl (by rw [hRm]; first | decide | (simp only [clS]; omega)) (by rw [hRm]; first | decide | (simp only [clS]; omega)) (fun _ => Nat.le_of_ble_eq_true rfl) (by rw [hRm]; first | decide | (simp only [clS]; omega)) (by rw [hRm]; first | decide | (simp only [clS]; omega)) dX9_pipe_13 (fun r13 w13 hp13 => ?_)
    obtain ⟨rfl, hw13⟩ := hp13
    rw [hw13]
    have hbw13 := ite01 (0 ≤ i ∧ i < 10)
    refine g_if_ne (tgt := 25) h dX9_pipe_16 (by decide) (by first | assumption | exact ⟨by omega, by omega⟩) (fun c16 => ?_) (fun c16 => ?_)
    · refine g_iload_n h dX9_pipe_25 rfl ?_
      refine g_iconst h dX9_pipe_26 ?_
      refine g_sipush h dX9_pipe_27 rfl ?_
      refine g_callS h rfl [_, _, _] (c_X9_isWithin _ _ _ _ _ hf ⟨by omega, by omega⟩ ⟨by omega, by omega⟩) clX9_78 st_X9_isWithin rfl rfl (by rw [hRm]; first | decide | (simp only [clS]; omega)) (by rw [hRm]; first | decide | (simp only [clS]; omega)) (fun _ => Nat.le_of_ble_eq_true rfl) (by rw [hRm]; first | decide | (simp only [clS]; omega)) (by rw [hRm]; first | decide | (simp only [clS]; omega)) dX9_pipe_30 (fun r30 w30 hp30 => ?_)
      obtain ⟨rfl, hw30⟩ := hp30
      rw [hw30]
      have hbw30 := ite01 ((1 : Int) ≤ f ∧ f ≤ 500)
      refine g_if_eq (tgt := 47) h dX9_pipe_33 (by decide) (by first | assumption | exact ⟨by omega, by omega⟩) (fun c33 => ?_) (fun c33 => ?_)
      · refine g_aload_n h dX9_pipe_47 rfl ?_
        refine g_iconst h dX9_pipe_48 ?_
        refine g_callV h rfl (ci := 9) [_] (by assumption) (c_X9_refused _ _ _ hX) clX9_162 (by decide) rfl in_X9_refused se_X9_refused rfl rfl (by rw [hRm]; first | decide | (simp only [clS]; omega)) (by rw [hRm]; first | decide | (simp only [clS]; omega)) (fun _ => Nat.le_of_ble_eq_true rfl) (by rw [hRm]; first | decide | (simp only [clS]; omega)) (by rw [hRm]; first | decide | (simp only [clS]; omega)) dX9_pipe_49 (fun r49 w49 hp49 => ?_)
        obtain ⟨rfl, hw49⟩ := hp49
        rw [hw49]
        refine g_iret h hQ (by first | decide | omega | (simp only [clS]; omega)) (by first | decide | omega | (simp only [clS]; omega)) ?_ dX9_pipe_52
        exact ⟨fun q => absurd (by omega) q, fun _ _ => ⟨rfl, rfl⟩, fun _ q => absurd q (by omega), fun _ q => absurd q (by omega)⟩
      · refine g_iload h dX9_pipe_36 rfl ?_
        refine g_iconst h dX9_pipe_38 ?_
        refine g_ldc h kcX9_77 dX9_pipe_39 ?_
        refine g_callS h rfl [_, _, _] (c_X9_isWithin _ _ _ _ _ hli ⟨by omega, by omega⟩ ⟨by omega, by omega⟩) clX9_78 st_X9_isWithin rfl rfl (by rw [hRm]; first | decide | (simp only [clS]; omega)) (by rw [hRm]; first | decide | (simp only [clS]; omega)) (fun _ => Nat.le_of_ble_eq_true rfl) (by rw [hRm]; first | decide | (simp only [clS]; omega)) (by rw [hRm]; first | decide | (simp only [clS]; omega)) dX9_pipe_41 (fun r41 w41 hp41 => ?_)
        obtain ⟨rfl, hw41⟩ := hp41
        rw [hw41]
        have hbw41 := ite01 ((0 : Int) ≤ li ∧ li ≤ 100000)
        refine g_if_ne (tgt := 53) h dX9_pipe_44 (by decide) (by first | assumption | exact ⟨by omega, by omega⟩) (fun c44 => ?_) (fun c44 => ?_)
        · refine g_aload_n h dX9_pipe_53 rfl ?_
          refine g_getI h flX9_172 rfl (by assumption) dX9_pipe_54 ?_
          refine g_aload_n h dX9_pipe_57 rfl ?_
          refine g_getQ h flX9_24 rfl (by assumption) (by assumption) dX9_pipe_58 ?_
          refine g_alen h (by assumption) (by unfold arK; omega) dX9_pipe_61 ?_
          refine g_icmp_ge (tgt := 73) h dX9_pipe_62 (by decide) (by first | assumption | exact ⟨by omega, by omega⟩) (by first | assumption | exact ⟨by omega, by omega⟩) (fun c62 => ?_) (fun c62 => ?_)
          · refine g_aload_n h dX9_pipe_73 rfl ?_
            refine g_iconst h dX9_pipe_74 ?_
            refine g_callV h rfl (ci := 9) [_] (by assumption) (c_X9_refused _ _ _ hX) clX9_162 (by decide) rfl in_X9_refused se_X9_refused rfl rfl (by rw [hRm]; first | decide | (simp only [clS]; omega)) (by rw [hRm]; first | decide | (simp only [clS]; omega)) (fun _ => Nat.le_of_ble_eq_true rfl) (by rw [hRm]; first | decide | (simp only [clS]; omega)) (by rw [hRm]; first | decide | (simp only [clS]; omega)) dX9_pipe_75 (fun r75 w75 hp75 => ?_)
            obtain ⟨rfl, hw75⟩ := hp75
            rw [hw75]
            refine g_iret h hQ (by first | decide | omega | (simp only [clS]; omega)) (by first | decide | omega | (simp only [clS]; omega)) ?_ dX9_pipe_78
            exact ⟨fun q => absurd (by omega) q, fun _ q => absurd (by omega) q, fun _ _ _ => ⟨rfl, rfl⟩, fun _ _ q => absurd q (by omega)⟩
          · refine g_aload h dX9_pipe_65 rfl ?_
            refine g_callV h rfl (ci := 2) [] (by assumption) (c_X2_hasRoomForPipe _ _ z.toNat (n z.toNat) hLK hP.2.1 hP.1) clX9_175 (by decide) rfl in_X2_hasRoomForPipe se_X2_hasRoomForPipe rfl rfl (by rw [hRm]; first | decide | (simp only [clS]; omega)) (by rw [hRm]; first | decide | (simp only [clS]; omega)) (fun _ => Nat.le_of_ble_eq_true rfl) (by rw [hRm]; first | decide | (simp only [clS]; omega)) (by rw [hRm]; first | decide | (simp only [clS]; omega)) dX9_pipe_67 (fun r67 w67 hp67 => ?_)
            obtain ⟨rfl, hw67⟩ := hp67
            rw [hw67]
            have hbw67 := ite01 (n z.toNat < 3)
            refine g_if_ne (tgt := 79) h dX9_pipe_70 (by decide) (by first | assumption | exact ⟨by omega, by omega⟩) (fun c70 => ?_) (fun c70 => ?_)
            · have hfree := j4 np (Nat.le_refl _) (by omega)
              have hXA : XS (alc w (50 + np) (103, 0)) := XS_alc (by omega) hX
              have kLA : (alc w (50 + np) (103, 0)).1 (2 + z.toNat) = (102, 0) := (if_neg (by omega)).trans kL
              refine g_new h (ci := 3) (50 + np) (by decide) cnX9_22 ins_3 ini_3 wsin_3 hfree (by first | omega | assumption) (by rw [hRm]; simp only [clS]; omega) (by rw [hRm]; simp only [clS]; omega) dX9_pipe_79 ?_
              refine g_dup h dX9_pipe_82 rfl ?_
              refine g_iload_n h dX9_pipe_83 rfl ?_
              refine g_iload_n h dX9_pipe_84 rfl ?_
              refine g_iload_n h dX9_pipe_85 rfl ?_
              refine g_iload h dX9_pipe_86 rfl ?_
              refine g_callI h rfl [_, _, _, _] (c_X3_init _ _ (50 + np) 0 z i f li (if_pos rfl)) clX9_178 in_X3_init rfl rfl rfl (by rw [hRm]; first | decide | (simp only [clS]; omega)) (by rw [hRm]; first | decide | (simp only [clS]; omega)) (fun _ => Nat.le_of_ble_eq_true rfl) (by rw [hRm]; first | decide | (simp only [clS]; omega)) (by rw [hRm]; first | decide | (simp only [clS]; omega)) dX9_pipe_88 (fun r88 w88 hp88 => ?_)
              obtain ⟨rfl, hw88⟩ := hp88
              rw [hw88]
              refine g_astore h dX9_pipe_91 (Nat.le_of_ble_eq_true rfl) rfl rfl ?_
              refine g_aload h dX9_pipe_93 rfl ?_
              refine g_aload h dX9_pipe_95 rfl ?_
              refine g_callV h rfl (ci := 2) [_] (by assumption) (c_X2_addPipe _ _ z.toNat (n z.toNat) (50 + np) 0 (XS_LK (XS_of rfl rfl hXA) z.toNat (by omega)) (by rw [sR_ne _ _ (by omega)]; exact (congrFun (if_neg (by omega)) 4).trans hP.2.1) (by omega) (if_pos rfl)) clX9_180 (by decide) rfl in_X2_addPipe se_X2_addPipe rfl rfl (by rw [hRm]; first | decide | (simp only [clS]; omega)) (by rw [hRm]; first | decide | (simp only [clS]; omega)) (fun _ => Nat.le_of_ble_eq_true rfl) (by rw [hRm]; first | decide | (simp only [clS]; omega)) (by rw [hRm]; first | decide | (simp only [clS]; omega)) dX9_pipe_97 (fun r97 w97 hp97 => ?_)
              obtain ⟨rfl, hw97⟩ := hp97
              have hXC : XS w97 := by rw [hw97]; exact XS_of rfl rfl (XS_upP (by omega) (XS_of rfl rfl hXA))
              have e03 : w97.2.1 0 3 = (np : Int) := by
                rw [hw97, upI_sR, sR_ne _ _ (by omega)]
                show (sR _ _ _).2.1 0 3 = _
                rw [sR_ne _ _ (by omega)]
                exact (congrFun (if_neg (by omega)) 3).trans j1
              have sqn : w97.1 (50 + np) = (103, 0) := by rw [hw97]; exact if_pos rfl
              have us0 : w97.1 0 = (109, 0) := hXC.1 0 (by decide)
              have us17 : w97.1 17 = (203, 6) := hXC.1 17 (by decide)
              have up0_2 : w97.2.2 0 2 = some 17 := hXC.2 (0, 2, 17) (by decide)
              refine g_aload_n h dX9_pipe_100 rfl ?_
              refine g_getQ h flX9_24 rfl (by assumption) (by assumption) dX9_pipe_101 ?_
              refine g_aload_n h dX9_pipe_104 rfl ?_
              refine g_getI h flX9_172 rfl (by assumption) dX9_pipe_105 ?_
              refine g_aload h dX9_pipe_108 rfl ?_
              refine g_aast h (ci := 3) (np) (by assumption) (by unfold arK; omega) (by decide) (by assumption) (by first | omega | assumption) (by first | omega | assumption) (by decide) dX9_pipe_110 ?_
              refine g_aload_n h dX9_pipe_111 rfl ?_
              refine g_dup h dX9_pipe_112 rfl ?_
              refine g_getI h flX9_172 rfl (by assumption) dX9_pipe_113 ?_
              refine g_iconst h dX9_pipe_116 ?_
              refine g_iadd h dX9_pipe_117 ?_
              refine g_putI h flX9_172 rfl rfl (by assumption) dX9_pipe_118 ?_
              refine g_aload_n h dX9_pipe_121 rfl ?_
              refine g_aload_n h dX9_pipe_122 rfl ?_
              refine g_getI h flX9_172 rfl (by assumption) dX9_pipe_123 ?_
              refine g_iconst h dX9_pipe_126 ?_
              refine g_isub h dX9_pipe_127 ?_
              refine g_callV h rfl (ci := 9) [_] (by assumption) (c_X9_answered _ _ _ (XS_of rfl rfl (XS_upP (by omega) hXC))) clX9_169 (by decide) rfl in_X9_answered se_X9_answered rfl rfl (by rw [hRm]; first | decide | (simp only [clS]; omega)) (by rw [hRm]; first | decide | (simp only [clS]; omega)) (fun _ => Nat.le_of_ble_eq_true rfl) (by rw [hRm]; first | decide | (simp only [clS]; omega)) (by rw [hRm]; first | decide | (simp only [clS]; omega)) dX9_pipe_128 (fun r128 w128 hp128 => ?_)
              obtain ⟨rfl, hw128⟩ := hp128
              rw [hw128]
              refine g_iret h hQ (by first | decide | omega | (simp only [clS]; omega)) (by first | decide | omega | (simp only [clS]; omega)) ?_ dX9_pipe_131
              refine ⟨fun q => absurd (by omega) q, fun _ q => absurd (by omega) q, fun _ _ q => absurd (by omega) q, fun _ _ _ => ⟨?_, ?_⟩⟩
              · show some (ai (w97.2.1 0 3 + 1 - 1)) = _
                rw [e03, show (np : Int) + 1 - 1 = np by omega]
              · show upI (upI (upP w97 17 np (some (50 + np))) 0 3 (w97.2.1 0 3 + 1)) 0 16 0 = _
                rw [e03, hw97]
                rfl
            · refine g_aload_n h dX9_pipe_73 rfl ?_
              refine g_iconst h dX9_pipe_74 ?_
              refine g_callV h rfl (ci := 9) [_] (by assumption) (c_X9_refused _ _ _ hX) clX9_162 (by decide) rfl in_X9_refused se_X9_refused rfl rfl (by rw [hRm]; first | decide | (simp only [clS]; omega)) (by rw [hRm]; first | decide | (simp only [clS]; omega)) (fun _ => Nat.le_of_ble_eq_true rfl) (by rw [hRm]; first | decide | (simp only [clS]; omega)) (by rw [hRm]; first | decide | (simp only [clS]; omega)) dX9_pipe_75 (fun r75 w75 hp75 => ?_)
              obtain ⟨rfl, hw75⟩ := hp75
              rw [hw75]
              refine g_iret h hQ (by first | decide | omega | (simp only [clS]; omega)) (by first | decide | omega | (simp only [clS]; omega)) ?_ dX9_pipe_78
              exact ⟨fun q => absurd (by omega) q, fun _ q => absurd (by omega) q, fun _ _ _ => ⟨rfl, rfl⟩, fun _ _ q => absurd q (by omega)⟩
        · refine g_aload_n h dX9_pipe_47 rfl ?_
          refine g_iconst h dX9_pipe_48 ?_
          refine g_callV h rfl (ci := 9) [_] (by assumption) (c_X9_refused _ _ _ hX) clX9_162 (by decide) rfl in_X9_refused se_X9_refused rfl rfl (by rw [hRm]; first | decide | (simp only [clS]; omega)) (by rw [hRm]; first | decide | (simp only [clS]; omega)) (fun _ => Nat.le_of_ble_eq_true rfl) (by rw [hRm]; first | decide | (simp only [clS]; omega)) (by rw [hRm]; first | decide | (simp only [clS]; omega)) dX9_pipe_49 (fun r49 w49 hp49 => ?_)
          obtain ⟨rfl, hw49⟩ := hp49
          rw [hw49]
          refine g_iret h hQ (by first | decide | omega | (simp only [clS]; omega)) (by first | decide | omega | (simp only [clS]; omega)) ?_ dX9_pipe_52
          exact ⟨fun q => absurd (by omega) q, fun _ _ => ⟨rfl, rfl⟩, fun _ q => absurd q (by omega), fun _ q => absurd q (by omega)⟩
    · refine g_aload_n h dX9_pipe_19 rfl ?_
      refine g_iconst h dX9_pipe_20 ?_
      refine g_callV h rfl (ci := 9) [_] (by assumption) (c_X9_refused _ _ _ hX) clX9_162 (by decide) rfl in_X9_refused se_X9_refused rfl rfl (by rw [hRm]; first | decide | (simp only [clS]; omega)) (by rw [hRm]; first | decide | (simp only [clS]; omega)) (fun _ => Nat.le_of_ble_eq_true rfl) (by rw [hRm]; first | decide | (simp only [clS]; omega)) (by rw [hRm]; first | decide | (simp only [clS]; omega)) dX9_pipe_21 (fun r21 w21 hp21 => ?_)
      obtain ⟨rfl, hw21⟩ := hp21
      rw [hw21]
      refine g_iret h hQ (by first | decide | omega | (simp only [clS]; omega)) (by first | decide | omega | (simp only [clS]; omega)) ?_ dX9_pipe_24
      exact ⟨fun _ => ⟨rfl, rfl⟩, fun q => absurd q (by omega), fun q => absurd q (by omega), fun q => absurd q (by omega)⟩
  · have hl := lkA_none hz
    refine g_aload_n h dX9_pipe_0 rfl ?_
    refine g_iload_n h dX9_pipe_1 rfl ?_
    refine g_callV h rfl (ci := 9) [_] (by assumption) (c_X9_lakeAt _ _ _ hX hzr) clX9_66 (by decide) rfl in_X9_lakeAt se_X9_lakeAt rfl rfl (by rw [hRm]; first | decide | (simp only [clS]; omega)) (by rw [hRm]; first | decide | (simp only [clS]; omega)) (fun _ => Nat.le_of_ble_eq_true rfl) (by rw [hRm]; first | decide | (simp only [clS]; omega)) (by rw [hRm]; first | decide | (simp only [clS]; omega)) dX9_pipe_2 (fun r2 w2 hp2 => ?_)
    obtain ⟨rfl, hw2⟩ := hp2
    rw [hw2, hl]
    refine g_astore h dX9_pipe_5 (Nat.le_of_ble_eq_true rfl) rfl rfl ?_
    refine g_aload h dX9_pipe_7 rfl ?_
    refine g_ifnull (tgt := 19) h dX9_pipe_9 (by decide) (fun c => ?_) (fun _ c => by cases c)
    refine g_aload_n h dX9_pipe_19 rfl ?_
    refine g_iconst h dX9_pipe_20 ?_
    refine g_callV h rfl (ci := 9) [_] (by assumption) (c_X9_refused _ _ _ hX) clX9_162 (by decide) rfl in_X9_refused se_X9_refused rfl rfl (by rw [hRm]; first | decide | (simp only [clS]; omega)) (by rw [hRm]; first | decide | (simp only [clS]; omega)) (fun _ => Nat.le_of_ble_eq_true rfl) (by rw [hRm]; first | decide | (simp only [clS]; omega)) (by rw [hRm]; first | decide | (simp only [clS]; omega)) dX9_pipe_21 (fun r21 w21 hp21 => ?_)
    obtain ⟨rfl, hw21⟩ := hp21
    rw [hw21]
    refine g_iret h hQ (by first | decide | omega | (simp only [clS]; omega)) (by first | decide | omega | (simp only [clS]; omega)) ?_ dX9_pipe_24
    exact ⟨fun _ => ⟨rfl, rfl⟩, fun q => absurd q (by omega), fun q => absurd q (by omega), fun q => absurd q (by omega)⟩
