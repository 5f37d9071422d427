/-! ===== the class: a plan is checked ===== -/
theorem tryW_ok {w : AW} {L n i : Nat} {q : Nat → Nat} {z : Int} (hL : L < 3) (hX : XS w) (hN : LN w L) (hP : PQ w L n q) (hz : i < n → 0 ≤ z ∧ z < 10) : XS (tryW w q n i z) ∧ LN (tryW w q n i z) L ∧ PQ (tryW w q n i z) L n q := by
  unfold tryW
  split
  · rename_i hc
    obtain ⟨hn3, hn4, hpi, hinj⟩ := id hP
    have h50 := (hpi i hc.1).2.1
    have o : ∀ j, j < 50 → (sR w (q i) (uI (uI (w.2.1 (q i)) 1 z) 4 1)).2.1 j = w.2.1 j := fun j hj => sR_ne _ _ (by omega)
    refine ⟨XS_of rfl rfl hX, ?_, hn3, by rw [o (2 + L) (by omega)]; exact hn4, fun j hj => ?_, hinj⟩
    · unfold LN
      rw [o (5 + L) (by omega), o (8 + L) (by omega), o (11 + L) (by omega), o (2 + L) (by omega)]
      exact hN
    · obtain ⟨a1, a2, a3, a4, a5⟩ := hpi j hj
      by_cases hji : q j = q i
      · have hji2 := hinj j i hj hc.1 hji
        subst hji2
        have hzz := hz hc.1
        refine ⟨a1, a2, a3, a4, ?_⟩
        rw [sR_at]
        exact ⟨hzz.1, hzz.2, a5.2.2.1, a5.2.2.2.1, a5.2.2.2.2.1, a5.2.2.2.2.2.1, Or.inr rfl⟩
      · refine ⟨a1, a2, a3, a4, ?_⟩
        rw [sR_ne _ _ hji]
        exact a5
  · exact ⟨hX, hN, hP⟩
theorem dtb_X {L n : Nat} {q : Nat → Nat} {share : Int} : ∀ (d : Nat) (day : Int) (w : AW), XS w → XS (dtb L n q share d day w).2
  | 0, _, _, h => h
  | d + 1, day, w, h => by
    have h2 := XS_of (goW_1 w L n q).1 (goW_1 w L n q).2 h
    unfold dtb
    split
    · exact h2
    · split
      · exact h2
      · exact dtb_X d _ _ h2
/-- the spare with a plan's layers -/
def chW (w : AW) (n : Nat) (a b c : Int) : AW := tryW (tryW (tryW w sq n 0 a) sq n 1 b) sq n 2 c
set_option maxRecDepth 100000 in
set_option maxHeartbeats 4000000 in
theorem c_X9_check (l : Launch) (w : AW) (n : Nat → Nat) (q : Nat → Nat → Nat) (S rn sn : Nat) (z s a b c : Int) (hW : WI w n q S rn sn) (hzr : R32 z) (hs : R32 s) (ha : R32 a) (hb : R32 b) (hc : R32 c) : HT l yX9_check cX9_check 8 (some .int) 6 (n z.toNat - S) (7 * (n z.toNat - S)) w [ar 0, ai z, ai s, ai a, ai b, ai c] (fun r w' => (¬ (0 ≤ z ∧ z < 2) → r = some (ai (-1)) ∧ w' = upI w 0 16 1) ∧ (0 ≤ z ∧ z < 2 → ¬ (1 ≤ s ∧ s ≤ 200 ∧ (0 < n z.toNat → 0 ≤ a ∧ a < 10) ∧ (1 < n z.toNat → 0 ≤ b ∧ b < 10) ∧ (2 < n z.toNat → 0 ≤ c ∧ c < 10)) → r = some (ai (-1)) ∧ w' = upI w 0 16 2) ∧ (0 ≤ z ∧ z < 2 → 1 ≤ s ∧ s ≤ 200 ∧ (0 < n z.toNat → 0 ≤ a ∧ a < 10) ∧ (1 < n z.toNat → 0 ≤ b ∧ b < 10) ∧ (2 < n z.toNat → 0 ≤ c ∧ c < 10) → r = some (ai (dtb 2 (n z.toNat) sq s 60 1 (chW (spW w n q S z.toNat) (n z.toNat) a b c)).1) ∧ w' = upI (dtb 2 (n z.toNat) sq s 60 1 (chW (spW w n q S z.toNat) (n z.toNat) a b c)).2 0 16 0)) := by
  refine HT.of (by decide) (by intro v hv; simp only [List.mem_cons, List.not_mem_nil, or_false] at hv; rcases hv with rfl | rfl | rfl | rfl | rfl | rfl <;> rfl) (Nat.le_of_ble_eq_true rfl) ?_
  intro Γ h hQ hRm hnm hl hw0
  obtain ⟨hX, hS, hLk, hSI, t0, t1⟩ := id hW
  have s0 : w.1 0 = (109, 0) := hX.1 0 (by decide)
  have s4 : w.1 4 = (102, 0) := hX.1 4 (by decide)
  have p0_1 : w.2.2 0 1 = some 4 := hX.2 (0, 1, 4) (by decide)
  by_cases hz : 0 ≤ z ∧ z < 2
  · have hl := lkA_some hz
    have hLK := XS_LK hX z.toNat (by omega)
    have kL := hLK.2.1
    obtain ⟨hN, hP, hq5⟩ := hLk z.toNat (by omega)
    have hLs : 2 < 3 := by omega
    obtain ⟨x1, n1, p1⟩ := bcP_ok hX (show z.toNat < 2 by omega) hN hP hq5 hS
    have fin : (1 ≤ s ∧ s ≤ 200 ∧ (0 < n z.toNat → 0 ≤ a ∧ a < 10) ∧ (1 < n z.toNat → 0 ≤ b ∧ b < 10) ∧ (2 < n z.toNat → 0 ≤ c ∧ c < 10)) → GG Γ 82 [some (ar 0), some (ai z), some (ai s), some (ai a), some (ai b), some (ai c), some (ar (2 + z.toNat)), some (ai (w.2.1 (2 + z.toNat) 4))] [] w 0 0 := by
      intro hv
      have hnn := hP.2.1
      have hn3 := hP.1
      obtain ⟨x2, n2, p2⟩ := tryW_ok (i := 0) (z := a) hLs x1 n1 p1 (by omega)
      obtain ⟨x3, n3, p3⟩ := tryW_ok (i := 1) (z := b) hLs x2 n2 p2 (by omega)
      obtain ⟨x4, n4, p4⟩ := tryW_ok (i := 2) (z := c) hLs x3 n3 p3 (by omega)
      refine g_aload_n h dX9_check_82 rfl ?_
      refine g_getQ h flX9_18 rfl (by assumption) (by assumption) dX9_check_83 ?_
      refine g_aload h dX9_check_86 rfl ?_
      refine g_callV h rfl (ci := 2) [_] (by assumption) (c_X2_become _ _ z.toNat S (n z.toNat) (q z.toNat) (by omega) (XS_LK hX 2 (by omega)) hLK hP hq5 hS) clX9_225 (by decide) rfl in_X2_become se_X2_become rfl rfl (by rw [hRm]; first | decide | (simp only [clS]; omega)) (by rw [hRm]; first | decide | (simp only [clS]; omega)) (fun _ => Nat.le_of_ble_eq_true rfl) (by rw [hRm]; first | decide | (simp only [clS]; omega)) (by rw [hRm]; first | decide | (simp only [clS]; omega)) dX9_check_88 (fun r88 w88 hp88 => ?_)
      obtain ⟨rfl, hw88⟩ := hp88
      rw [hw88]
      have x1s0_1 : _ = ((109 : Nat), (0 : Nat)) := x1.1 0 (by decide)
      have x1s4_1 : _ = ((102 : Nat), (0 : Nat)) := x1.1 4 (by decide)
      have x1p : _ = some 4 := x1.2 (0, 1, 4) (by decide)
      refine g_aload_n h dX9_check_91 rfl ?_
      refine g_getQ h flX9_18 rfl (by assumption) (by assumption) dX9_check_92 ?_
      refine g_iconst h dX9_check_95 ?_
      refine g_iload_n h dX9_check_96 rfl ?_
      refine g_callV h rfl (ci := 2) [_, _] (by assumption) (c_X2_tryPipe _ _ 2 (n z.toNat) 0 sq a (XS_LK x1 2 (by omega)) p1 ha (by omega)) clX9_229 (by decide) rfl in_X2_tryPipe se_X2_tryPipe rfl rfl (by rw [hRm]; first | decide | (simp only [clS]; omega)) (by rw [hRm]; first | decide | (simp only [clS]; omega)) (fun _ => Nat.le_of_ble_eq_true rfl) (by rw [hRm]; first | decide | (simp only [clS]; omega)) (by rw [hRm]; first | decide | (simp only [clS]; omega)) dX9_check_97 (fun r97 w97 hp97 => ?_)
      obtain ⟨rfl, hw97⟩ := hp97
      rw [hw97]
      have x2s0_1 : _ = ((109 : Nat), (0 : Nat)) := x2.1 0 (by decide)
      have x2s4_1 : _ = ((102 : Nat), (0 : Nat)) := x2.1 4 (by decide)
      have x2p : _ = some 4 := x2.2 (0, 1, 4) (by decide)
      refine g_aload_n h dX9_check_100 rfl ?_
      refine g_getQ h flX9_18 rfl (by assumption) (by assumption) dX9_check_101 ?_
      refine g_iconst h dX9_check_104 ?_
      refine g_iload h dX9_check_105 rfl ?_
      refine g_callV h rfl (ci := 2) [_, _] (by assumption) (c_X2_tryPipe _ _ 2 (n z.toNat) 1 sq b (XS_LK x2 2 (by omega)) p2 hb (by omega)) clX9_229 (by decide) rfl in_X2_tryPipe se_X2_tryPipe rfl rfl (by rw [hRm]; first | decide | (simp only [clS]; omega)) (by rw [hRm]; first | decide | (simp only [clS]; omega)) (fun _ => Nat.le_of_ble_eq_true rfl) (by rw [hRm]; first | decide | (simp only [clS]; omega)) (by rw [hRm]; first | decide | (simp only [clS]; omega)) dX9_check_107 (fun r107 w107 hp107 => ?_)
      obtain ⟨rfl, hw107⟩ := hp107
      rw [hw107]
      have x3s0_1 : _ = ((109 : Nat), (0 : Nat)) := x3.1 0 (by decide)
      have x3s4_1 : _ = ((102 : Nat), (0 : Nat)) := x3.1 4 (by decide)
      have x3p : _ = some 4 := x3.2 (0, 1, 4) (by decide)
      refine g_aload_n h dX9_check_110 rfl ?_
      refine g_getQ h flX9_18 rfl (by assumption) (by assumption) dX9_check_111 ?_
      refine g_iconst h dX9_check_114 ?_
      refine g_iload h dX9_check_115 rfl ?_
      refine g_callV h rfl (ci := 2) [_, _] (by assumption) (c_X2_tryPipe _ _ 2 (n z.toNat) 2 sq c (XS_LK x3 2 (by omega)) p3 hc (by omega)) clX9_229 (by decide) rfl in_X2_tryPipe se_X2_tryPipe rfl rfl (by rw [hRm]; first | decide | (simp only [clS]; omega)) (by rw [hRm]; first | decide | (simp only [clS]; omega)) (fun _ => Nat.le_of_ble_eq_true rfl) (by rw [hRm]; first | decide | (simp only [clS]; omega)) (by rw [hRm]; first | decide | (simp only [clS]; omega)) dX9_check_117 (fun r117 w117 hp117 => ?_)
      obtain ⟨rfl, hw117⟩ := hp117
      rw [hw117]
      have x4s0_1 : _ = ((109 : Nat), (0 : Nat)) := x4.1 0 (by decide)
      have x4s4_1 : _ = ((102 : Nat), (0 : Nat)) := x4.1 4 (by decide)
      have x4p : _ = some 4 := x4.2 (0, 1, 4) (by decide)
      refine g_aload_n h dX9_check_120 rfl ?_
      refine g_aload_n h dX9_check_121 rfl ?_
      refine g_getQ h flX9_18 rfl (by assumption) (by assumption) dX9_check_122 ?_
      refine g_iload_n h dX9_check_125 rfl ?_
      refine g_bipush h dX9_check_126 rfl ?_
      refine g_callV h rfl (ci := 2) [_, _] (by assumption) (c_X2_daysToBelow _ _ 2 (n z.toNat) sq s 60 (XS_LK x4 2 (by omega)) n4 p4 hs (by omega) (by omega)) clX9_232 (by decide) rfl in_X2_daysToBelow se_X2_daysToBelow rfl rfl (by rw [hRm]; first | decide | (simp only [clS]; omega)) (by rw [hRm]; first | decide | (simp only [clS]; omega)) (fun _ => Nat.le_of_ble_eq_true rfl) (by rw [hRm]; first | decide | (simp only [clS]; omega)) (by rw [hRm]; first | decide | (simp only [clS]; omega)) dX9_check_128 (fun r128 w128 hp128 => ?_)
      obtain ⟨rfl, hw128⟩ := hp128
      rw [hw128]
      have x5 := dtb_X (L := 2) (n := n z.toNat) (q := sq) (share := s) 60 1 _ x4
      have x5s : _ = ((109 : Nat), (0 : Nat)) := x5.1 0 (by decide)
      refine g_callV h rfl (ci := 9) [_] (by assumption) (c_X9_answered _ _ _ x5) clX9_169 (by decide) rfl in_X9_answered se_X9_answered rfl rfl (by rw [hRm]; first | decide | (simp only [clS]; omega)) (by rw [hRm]; first | decide | (simp only [clS]; omega)) (fun _ => Nat.le_of_ble_eq_true rfl) (by rw [hRm]; first | decide | (simp only [clS]; omega)) (by rw [hRm]; first | decide | (simp only [clS]; omega)) dX9_check_131 (fun r131 w131 hp131 => ?_)
      obtain ⟨rfl, hw131⟩ := hp131
      rw [hw131]
      refine g_iret h hQ (by first | decide | omega | (simp only [clS]; omega)) (by first | decide | omega | (simp only [clS]; omega)) ?_ dX9_check_134
      exact ⟨fun q => absurd hz q, fun _ q => absurd hv q, fun _ _ => ⟨rfl, rfl⟩⟩
    refine g_aload_n h dX9_check_0 rfl ?_
    refine g_iload_n h dX9_check_1 rfl ?_
    refine g_callV h rfl (ci := 9) [_] (by assumption) (c_X9_lakeAt _ _ _ hX hzr) clX9_66 (by decide) rfl in_X9_lakeAt se_X9_lakeAt rfl rfl (by rw [hRm]; first | decide | (simp only [clS]; omega)) (by rw [hRm]; first | decide | (simp only [clS]; omega)) (fun _ => Nat.le_of_ble_eq_true rfl) (by rw [hRm]; first | decide | (simp only [clS]; omega)) (by rw [hRm]; first | decide | (simp only [clS]; omega)) dX9_check_2 (fun r2 w2 hp2 => ?_)
    obtain ⟨rfl, hw2⟩ := hp2
    rw [hw2, hl]
    refine g_astore h dX9_check_5 (Nat.le_of_ble_eq_true rfl) rfl rfl ?_
    refine g_aload h dX9_check_7 rfl ?_
    refine g_ifnonnull (tgt := 18) h dX9_check_9 (by decide) (fun _ cnn => ?_) (fun cnn => by cases cnn)
    have hnn := hP.2.1
    have hn3 := hP.1
    refine g_aload h dX9_check_18 rfl ?_
    refine g_getI h flX9_224 rfl (by assumption) dX9_check_20 ?_
    refine g_istore h dX9_check_23 (Nat.le_of_ble_eq_true rfl) rfl rfl ?_
    refine g_iload_n h dX9_check_25 rfl ?_
    refine g_iconst h dX9_check_26 ?_
    refine g_sipush h dX9_check_27 rfl ?_
    refine g_callS h rfl [_, _, _] (c_X9_isWithin _ _ _ _ _ hs ⟨by omega, by omega⟩ ⟨by omega, by omega⟩) clX9_78 st_X9_isWithin rfl rfl (by rw [hRm]; first | decide | (simp only [clS]; omega)) (by rw [hRm]; first | decide | (simp only [clS]; omega)) (fun _ => Nat.le_of_ble_eq_true rfl) (by rw [hRm]; first | decide | (simp only [clS]; omega)) (by rw [hRm]; first | decide | (simp only [clS]; omega)) dX9_check_30 (fun r30 w30 hp30 => ?_)
    obtain ⟨rfl, hw30⟩ := hp30
    rw [hw30]
    have hbw30 := ite01 ((1 : Int) ≤ s ∧ s ≤ 200)
    refine g_if_eq (tgt := 76) h dX9_check_33 (by decide) (by first | assumption | exact ⟨by omega, by omega⟩) (fun c33 => ?_) (fun c33 => ?_)
    · refine g_aload_n h dX9_check_76 rfl ?_
      refine g_iconst h dX9_check_77 ?_
      refine g_callV h rfl (ci := 9) [_] (by assumption) (c_X9_refused _ _ _ hX) clX9_162 (by decide) rfl in_X9_refused se_X9_refused rfl rfl (by rw [hRm]; first | decide | (simp only [clS]; omega)) (by rw [hRm]; first | decide | (simp only [clS]; omega)) (fun _ => Nat.le_of_ble_eq_true rfl) (by rw [hRm]; first | decide | (simp only [clS]; omega)) (by rw [hRm]; first | decide | (simp only [clS]; omega)) dX9_check_78 (fun r78 w78 hp78 => ?_)
      obtain ⟨rfl, hw78⟩ := hp78
      rw [hw78]
      refine g_iret h hQ (by first | decide | omega | (simp only [clS]; omega)) (by first | decide | omega | (simp only [clS]; omega)) ?_ dX9_check_81
      exact ⟨fun q => absurd hz q, fun _ _ => ⟨rfl, rfl⟩, fun _ q => absurd q (by omega)⟩
    · refine g_iload h dX9_check_36 rfl ?_
      refine g_if_le (tgt := 48) h dX9_check_38 (by decide) (by first | assumption | exact ⟨by omega, by omega⟩) (fun c38 => ?_) (fun c38 => ?_)
      · refine g_iload h dX9_check_48 rfl ?_
        refine g_iconst h dX9_check_50 ?_
        refine g_icmp_le (tgt := 62) h dX9_check_51 (by decide) (by first | assumption | exact ⟨by omega, by omega⟩) (by first | assumption | exact ⟨by omega, by omega⟩) (fun c51 => ?_) (fun c51 => ?_)
        · refine g_iload h dX9_check_62 rfl ?_
          refine g_iconst h dX9_check_64 ?_
          refine g_icmp_le (tgt := 82) h dX9_check_65 (by decide) (by first | assumption | exact ⟨by omega, by omega⟩) (by first | assumption | exact ⟨by omega, by omega⟩) (fun c65 => ?_) (fun c65 => ?_)
          · exact fin (by omega)
          · refine g_iload h dX9_check_68 rfl ?_
            refine g_callS h rfl [_] (c_X9_isLayer _ _ _ hc) clX9_70 st_X9_isLayer rfl rfl (by rw [hRm]; first | decide | (simp only [clS]; omega)) (by rw [hRm]; first | decide | (simp only [clS]; omega)) (fun _ => Nat.le_of_ble_eq_true rfl) (by rw [hRm]; first | decide | (simp only [clS]; omega)) (by rw [hRm]; first | decide | (simp only [clS]; omega)) dX9_check_70 (fun r70 w70 hp70 => ?_)
            obtain ⟨rfl, hw70⟩ := hp70
            rw [hw70]
            have hbw70 := ite01 (0 ≤ c ∧ c < 10)
            refine g_if_ne (tgt := 82) h dX9_check_73 (by decide) (by first | assumption | exact ⟨by omega, by omega⟩) (fun c73 => ?_) (fun c73 => ?_)
            · exact fin (by omega)
            · refine g_aload_n h dX9_check_76 rfl ?_
              refine g_iconst h dX9_check_77 ?_
              refine g_callV h rfl (ci := 9) [_] (by assumption) (c_X9_refused _ _ _ hX) clX9_162 (by decide) rfl in_X9_refused se_X9_refused rfl rfl (by rw [hRm]; first | decide | (simp only [clS]; omega)) (by rw [hRm]; first | decide | (simp only [clS]; omega)) (fun _ => Nat.le_of_ble_eq_true rfl) (by rw [hRm]; first | decide | (simp only [clS]; omega)) (by rw [hRm]; first | decide | (simp only [clS]; omega)) dX9_check_78 (fun r78 w78 hp78 => ?_)
              obtain ⟨rfl, hw78⟩ := hp78
              rw [hw78]
              refine g_iret h hQ (by first | decide | omega | (simp only [clS]; omega)) (by first | decide | omega | (simp only [clS]; omega)) ?_ dX9_check_81
              exact ⟨fun q => absurd hz q, fun _ _ => ⟨rfl, rfl⟩, fun _ q => absurd q (by omega)⟩
        · refine g_iload h dX9_check_54 rfl ?_
          refine g_callS h rfl [_] (c_X9_isLayer _ _ _ hb) clX9_70 st_X9_isLayer rfl rfl (by rw [hRm]; first | decide | (simp only [clS]; omega)) (by rw [hRm]; first | decide | (simp only [clS]; omega)) (fun _ => Nat.le_of_ble_eq_true rfl) (by rw [hRm]; first | decide | (simp only [clS]; omega)) (by rw [hRm]; first | decide | (simp only [clS]; omega)) dX9_check_56 (fun r56 w56 hp56 => ?_)
          obtain ⟨rfl, hw56⟩ := hp56
          rw [hw56]
          have hbw56 := ite01 (0 ≤ b ∧ b < 10)
          refine g_if_eq (tgt := 76) h dX9_check_59 (by decide) (by first | assumption | exact ⟨by omega, by omega⟩) (fun c59 => ?_) (fun c59 => ?_)
          · refine g_aload_n h dX9_check_76 rfl ?_
            refine g_iconst h dX9_check_77 ?_
            refine g_callV h rfl (ci := 9) [_] (by assumption) (c_X9_refused _ _ _ hX) clX9_162 (by decide) rfl in_X9_refused se_X9_refused rfl rfl (by rw [hRm]; first | decide | (simp only [clS]; omega)) (by rw [hRm]; first | decide | (simp only [clS]; omega)) (fun _ => Nat.le_of_ble_eq_true rfl) (by rw [hRm]; first | decide | (simp only [clS]; omega)) (by rw [hRm]; first | decide | (simp only [clS]; omega)) dX9_check_78 (fun r78 w78 hp78 => ?_)
            obtain ⟨rfl, hw78⟩ := hp78
            rw [hw78]
            refine g_iret h hQ (by first | decide | omega | (simp only [clS]; omega)) (by first | decide | omega | (simp only [clS]; omega)) ?_ dX9_check_81
            exact ⟨fun q => absurd hz q, fun _ _ => ⟨rfl, rfl⟩, fun _ q => absurd q (by omega)⟩
          · refine g_iload h dX9_check_62 rfl ?_
            refine g_iconst h dX9_check_64 ?_
            refine g_icmp_le (tgt := 82) h dX9_check_65 (by decide) (by first | assumption | exact ⟨by omega, by omega⟩) (by first | assumption | exact ⟨by omega, by omega⟩) (fun c65 => ?_) (fun c65 => ?_)
            · exact fin (by omega)
            · refine g_iload h dX9_check_68 rfl ?_
              refine g_callS h rfl [_] (c_X9_isLayer _ _ _ hc) clX9_70 st_X9_isLayer rfl rfl (by rw [hRm]; first | decide | (simp only [clS]; omega)) (by rw [hRm]; first | decide | (simp only [clS]; omega)) (fun _ => Nat.le_of_ble_eq_true rfl) (by rw [hRm]; first | decide | (simp only [clS]; omega)) (by rw [hRm]; first | decide | (simp only [clS]; omega)) dX9_check_70 (fun r70 w70 hp70 => ?_)
              obtain ⟨rfl, hw70⟩ := hp70
              rw [hw70]
              have hbw70 := ite01 (0 ≤ c ∧ c < 10)
              refine g_if_ne (tgt := 82) h dX9_check_73 (by decide) (by first | assumption | exact ⟨by omega, by omega⟩) (fun c73 => ?_) (fun c73 => ?_)
              · exact fin (by omega)
              · refine g_aload_n h dX9_check_76 rfl ?_
                refine g_iconst h dX9_check_77 ?_
                refine g_callV h rfl (ci := 9) [_] (by assumption) (c_X9_refused _ _ _ hX) clX9_162 (by decide) rfl in_X9_refused se_X9_refused rfl rfl (by rw [hRm]; first | decide | (simp only [clS]; omega)) (by rw [hRm]; first | decide | (simp only [clS]; omega)) (fun _ => Nat.le_of_ble_eq_true rfl) (by rw [hRm]; first | decide | (simp only [clS]; omega)) (by rw [hRm]; first | decide | (simp only [clS]; omega)) dX9_check_78 (fun r78 w78 hp78 => ?_)
                obtain ⟨rfl, hw78⟩ := hp78
                rw [hw78]
                refine g_iret h hQ (by first | decide | omega | (simp only [clS]; omega)) (by first | decide | omega | (simp only [clS]; omega)) ?_ dX9_check_81
                exact ⟨fun q => absurd hz q, fun _ _ => ⟨rfl, rfl⟩, fun _ q => absurd q (by omega)⟩
      · refine g_iload_n h dX9_check_41 rfl ?_
        refine g_callS h rfl [_] (c_X9_isLayer _ _ _ ha) clX9_70 st_X9_isLayer rfl rfl (by rw [hRm]; first | decide | (simp only [clS]; omega)) (by rw [hRm]; first | decide | (simp only [clS]; omega)) (fun _ => Nat.le_of_ble_eq_true rfl) (by rw [hRm]; first | decide | (simp only [clS]; omega)) (by rw [hRm]; first | decide | (simp only [clS]; omega)) dX9_check_42 (fun r42 w42 hp42 => ?_)
        obtain ⟨rfl, hw42⟩ := hp42
        rw [hw42]
        have hbw42 := ite01 (0 ≤ a ∧ a < 10)
        refine g_if_eq (tgt := 76) h dX9_check_45 (by decide) (by first | assumption | exact ⟨by omega, by omega⟩) (fun c45 => ?_) (fun c45 => ?_)
        · refine g_aload_n h dX9_check_76 rfl ?_
          refine g_iconst h dX9_check_77 ?_
          refine g_callV h rfl (ci := 9) [_] (by assumption) (c_X9_refused _ _ _ hX) clX9_162 (by decide) rfl in_X9_refused se_X9_refused rfl rfl (by rw [hRm]; first | decide | (simp only [clS]; omega)) (by rw [hRm]; first | decide | (simp only [clS]; omega)) (fun _ => Nat.le_of_ble_eq_true rfl) (by rw [hRm]; first | decide | (simp only [clS]; omega)) (by rw [hRm]; first | decide | (simp only [clS]; omega)) dX9_check_78 (fun r78 w78 hp78 => ?_)
          obtain ⟨rfl, hw78⟩ := hp78
          rw [hw78]
          refine g_iret h hQ (by first | decide | omega | (simp only [clS]; omega)) (by first | decide | omega | (simp only [clS]; omega)) ?_ dX9_check_81
          exact ⟨fun q => absurd hz q, fun _ _ => ⟨rfl, rfl⟩, fun _ q => absurd q (by omega)⟩
        · refine g_iload h dX9_check_48 rfl ?_
          refine g_iconst h dX9_check_50 ?_
          refine g_icmp_le (tgt := 62) h dX9_check_51 (by decide) (by first | assumption | exact ⟨by omega, by omega⟩) (by first | assumption | exact ⟨by omega, by omega⟩) (fun c51 => ?_) (fun c51 => ?_)
          · refine g_iload h dX9_check_62 rfl ?_
            refine g_iconst h dX9_check_64 ?_
            refine g_icmp_le (tgt := 82) h dX9_check_65 (by decide) (by first | assumption | exact ⟨by omega, by omega⟩) (by first | assumption | exact ⟨by omega, by omega⟩) (fun c65 => ?_) (fun c65 => ?_)
            · exact fin (by omega)
            · refine g_iload h dX9_check_68 rfl ?_
              refine g_callS h rfl [_] (c_X9_isLayer _ _ _ hc) clX9_70 st_X9_isLayer rfl rfl (by rw [hRm]; first | decide | (simp only [clS]; omega)) (by rw [hRm]; first | decide | (simp only [clS]; omega)) (fun _ => Nat.le_of_ble_eq_true rfl) (by rw [hRm]; first | decide | (simp only [clS]; omega)) (by rw [hRm]; first | decide | (simp only [clS]; omega)) dX9_check_70 (fun r70 w70 hp70 => ?_)
              obtain ⟨rfl, hw70⟩ := hp70
              rw [hw70]
              have hbw70 := ite01 (0 ≤ c ∧ c < 10)
              refine g_if_ne (tgt := 82) h dX9_check_73 (by decide) (by first | assumption | exact ⟨by omega, by omega⟩) (fun c73 => ?_) (fun c73 => ?_)
              · exact fin (by omega)
              · refine g_aload_n h dX9_check_76 rfl ?_
                refine g_iconst h dX9_check_77 ?_
                refine g_callV h rfl (ci := 9) [_] (by assumption) (c_X9_refused _ _ _ hX) clX9_162 (by decide) rfl in_X9_refused se_X9_refused rfl rfl (by rw [hRm]; first | decide | (simp only [clS]; omega)) (by rw [hRm]; first | decide | (simp only [clS]; omega)) (fun _ => Nat.le_of_ble_eq_true rfl) (by rw [hRm]; first | decide | (simp only [clS]; omega)) (by rw [hRm]; first | decide | (simp only [clS]; omega)) dX9_check_78 (fun r78 w78 hp78 => ?_)
                obtain ⟨rfl, hw78⟩ := hp78
                rw [hw78]
                refine g_iret h hQ (by first | decide | omega | (simp only [clS]; omega)) (by first | decide | omega | (simp only [clS]; omega)) ?_ dX9_check_81
                exact ⟨fun q => absurd hz q, fun _ _ => ⟨rfl, rfl⟩, fun _ q => absurd q (by omega)⟩
          · refine g_iload h dX9_check_54 rfl ?_
            refine g_callS h rfl [_] (c_X9_isLayer _ _ _ hb) clX9_70 st_X9_isLayer rfl rfl (by rw [hRm]; first | decide | (simp only [clS]; omega)) (by rw [hRm]; first | decide | (simp only [clS]; omega)) (fun _ => Nat.le_of_ble_eq_true rfl) (by rw [hRm]; first | decide | (simp only [clS]; omega)) (by rw [hRm]; first | decide | (simp only [clS]; omega)) dX9_check_56 (fun r56 w56 hp56 => ?_)
            obtain ⟨rfl, hw56⟩ := hp56
            rw [hw56]
            have hbw56 := ite01 (0 ≤ b ∧ b < 10)
            refine g_if_eq (tgt := 76) h dX9_check_59 (by decide) (by first | assumption | exact ⟨by omega, by omega⟩) (fun c59 => ?_) (fun c59 => ?_)
            · refine g_aload_n h dX9_check_76 rfl ?_
              refine g_iconst h dX9_check_77 ?_
              refine g_callV h rfl (ci := 9) [_] (by assumption) (c_X9_refused _ _ _ hX) clX9_162 (by decide) rfl in_X9_refused se_X9_refused rfl rfl (by rw [hRm]; first | decide | (simp only [clS]; omega)) (by rw [hRm]; first | decide | (simp only [clS]; omega)) (fun _ => Nat.le_of_ble_eq_true rfl) (by rw [hRm]; first | decide | (simp only [clS]; omega)) (by rw [hRm]; first | decide | (simp only [clS]; omega)) dX9_check_78 (fun r78 w78 hp78 => ?_)
              obtain ⟨rfl, hw78⟩ := hp78
              rw [hw78]
              refine g_iret h hQ (by first | decide | omega | (simp only [clS]; omega)) (by first | decide | omega | (simp only [clS]; omega)) ?_ dX9_check_81
              exact ⟨fun q => absurd hz q, fun _ _ => ⟨rfl, rfl⟩, fun _ q => absurd q (by omega)⟩
            · refine g_iload h dX9_check_62 rfl ?_
              refine g_iconst h dX9_check_64 ?_
              refine g_icmp_le (tgt := 82) h dX9_check_65 (by decide) (by first | assumption | exact ⟨by omega, by omega⟩) (by first | assumption | exact ⟨by omega, by omega⟩) (fun c65 => ?_) (fun c65 => ?_)
              · exact fin (by omega)
              · refine g_iload h dX9_check_68 rfl ?_
                refine g_callS h rfl [_] (c_X9_isLayer _ _ _ hc) clX9_70 st_X9_isLayer rfl rfl (by rw [hRm]; first | decide | (simp only [clS]; omega)) (by rw [hRm]; first | decide | (simp only [clS]; omega)) (fun _ => Nat.le_of_ble_eq_true rfl) (by rw [hRm]; first | decide | (simp only [clS]; omega)) (by rw [hRm]; first | decide | (simp only [clS]; omega)) dX9_check_70 (fun r70 w70 hp70 => ?_)
                obtain ⟨rfl, hw70⟩ := hp70
                rw [hw70]
                have hbw70 := ite01 (0 ≤ c ∧ c < 10)
                refine g_if_ne (tgt := 82) h dX9_check_73 (by decide) (by first | assumption | exact ⟨by omega, by omega⟩) (fun c73 => ?_) (fun c73 => ?_)
                · exact fin (by omega)
                · refine g_aload_n h dX9_check_76 rfl ?_
                  refine g_iconst h dX9_check_77 ?_
                  refine g_callV h rfl (ci := 9) [_] (by assumption) (c_X9_refused _ _ _ hX) clX9_162 (by decide) rfl in_X9_refused se_X9_refused rfl rfl (by rw [hRm]; first | decide | (simp only [clS]; omega)) (by rw [hRm]; first | decide | (simp only [clS]; omega)) (fun _ => Nat.le_of_ble_eq_true rfl) (by rw [hRm]; first | decide | (simp only [clS]; omega)) (by rw [hRm]; first | decide | (simp only [clS]; omega)) dX9_check_78 (fun r78 w78 hp78 => ?_)
                  obtain ⟨rfl, hw78⟩ := hp78
                  rw [hw78]
                  refine g_iret h hQ (by first | decide | omega | (simp only [clS]; omega)) (by first | decide | omega | (simp only [clS]; omega)) ?_ dX9_check_81
                  exact ⟨fun q => absurd hz q, fun _ _ => ⟨rfl, rfl⟩, fun _ q => absurd q (by omega)⟩
  · have hl := lkA_none hz
    refine g_aload_n h dX9_check_0 rfl ?_
    refine g_iload_n h dX9_check_1 rfl ?_
    refine g_callV h rfl (ci := 9) [_] (by assumption) (c_X9_lakeAt _ _ _ hX hzr) clX9_66 (by decide) rfl in_X9_lakeAt se_X9_lakeAt rfl rfl (by rw [hRm]; first | decide | (simp only [clS]; omega)) (by rw [hRm]; first | decide | (simp only [clS]; omega)) (fun _ => Nat.le_of_ble_eq_true rfl) (by rw [hRm]; first | decide | (simp only [clS]; omega)) (by rw [hRm]; first | decide | (simp only [clS]; omega)) dX9_check_2 (fun r2 w2 hp2 => ?_)
    obtain ⟨rfl, hw2⟩ := hp2
    rw [hw2, hl]
    refine g_astore h dX9_check_5 (Nat.le_of_ble_eq_true rfl) rfl rfl ?_
    refine g_aload h dX9_check_7 rfl ?_
    refine g_ifnonnull (tgt := 18) h dX9_check_9 (by decide) (fun _ cnn => by cases cnn) (fun cnn => ?_)
    refine g_aload_n h dX9_check_12 rfl ?_
    refine g_iconst h dX9_check_13 ?_
    refine g_callV h rfl (ci := 9) [_] (by assumption) (c_X9_refused _ _ _ hX) clX9_162 (by decide) rfl in_X9_refused se_X9_refused rfl rfl (by rw [hRm]; first | decide | (simp only [clS]; omega)) (by rw [hRm]; first | decide | (simp only [clS]; omega)) (fun _ => Nat.le_of_ble_eq_true rfl) (by rw [hRm]; first | decide | (simp only [clS]; omega)) (by rw [hRm]; first | decide | (simp only [clS]; omega)) dX9_check_14 (fun r14 w14 hp14 => ?_)
    obtain ⟨rfl, hw14⟩ := hp14
    rw [hw14]
    refine g_iret h hQ (by first | decide | omega | (simp only [clS]; omega)) (by first | decide | omega | (simp only [clS]; omega)) ?_ dX9_check_17
    exact ⟨fun _ => ⟨rfl, rfl⟩, fun q => absurd q hz, fun q => absurd q hz⟩
