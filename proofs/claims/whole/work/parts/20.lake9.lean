/-! ===== Lake: what is told, pipes, days to below ===== -/
def tlW (w : AW) (L i : Nat) (g t s : Int) : AW := sR (sR (sR (sR w (2 + L) (uI (w.2.1 (2 + L)) 10 (w.2.1 (2 + L) 10 + (g - w.2.1 (5 + L) i)))) (5 + L) (uI (w.2.1 (5 + L)) i g)) (8 + L) (uI (w.2.1 (8 + L)) i t)) (11 + L) (uI (w.2.1 (11 + L)) i s)
set_option maxRecDepth 100000 in
set_option maxHeartbeats 4000000 in
theorem c_X2_tellLayer (l : Launch) (w : AW) (L i : Nat) (g t s : Int) (hK : LK w L) (hi : i < 10) : HT l yX2_tellLayer cX2_tellLayer 5 none 2 0 0 w [ar (2 + L), ai (i : Int), ai g, ai t, ai s] (rV (tlW w L i g t s)) := by
  refine HT.of (by decide) (by intro v hv; simp only [List.mem_cons, List.not_mem_nil, or_false] at hv; rcases hv with rfl | rfl | rfl | rfl | rfl <;> rfl) (Nat.le_of_ble_eq_true rfl) ?_
  intro Γ h hQ hRm hnm hl hw0
  obtain ⟨hL3, k2, k5, k8, k11, k14, p0, p1, p2, p3⟩ := id hK
  refine g_iload_n h dX2_tellLayer_0 rfl ?_
  refine g_callSN h rfl [_] (c_X9_isLayer _ _ _ ⟨by omega, by omega⟩) clX2_37 st_X9_isLayer rfl rfl (by rw [hRm]; decide) (by rw [hRm]; decide) (fun _ => Nat.le_of_ble_eq_true rfl) (by rw [hRm]; decide) (by rw [hRm]; decide) dX2_tellLayer_1 (fun r1 w1 hp1 => ?_)
  obtain ⟨rfl, hw1⟩ := hp1
  rw [hw1, if_pos (show 0 ≤ (i : Int) ∧ (i : Int) < 10 by omega)]
  refine g_if_ne (tgt := 8) h dX2_tellLayer_4 (by decide) (by first | assumption | exact ⟨by omega, by omega⟩) (fun c4 => ?_) (fun c4 => ?_)
  · refine g_aload_n h dX2_tellLayer_8 rfl ?_
    refine g_dup h dX2_tellLayer_9 rfl ?_
    refine g_getI h flX2_41 rfl (by assumption) dX2_tellLayer_10 ?_
    refine g_iload_n h dX2_tellLayer_13 rfl ?_
    refine g_aload_n h dX2_tellLayer_14 rfl ?_
    refine g_getQ h flX2_9 rfl (by assumption) (by assumption) dX2_tellLayer_15 ?_
    refine g_iload_n h dX2_tellLayer_18 rfl ?_
    refine g_iald h _ (by assumption) rfl (by omega) (by decide) dX2_tellLayer_19 ?_
    refine g_isub h dX2_tellLayer_20 ?_
    refine g_iadd h dX2_tellLayer_21 ?_
    refine g_putI h flX2_41 rfl rfl (by assumption) dX2_tellLayer_22 ?_
    refine g_aload_n h dX2_tellLayer_25 rfl ?_
    refine g_getQ h flX2_9 rfl (by assumption) (by assumption) dX2_tellLayer_26 ?_
    refine g_iload_n h dX2_tellLayer_29 rfl ?_
    refine g_iload_n h dX2_tellLayer_30 rfl ?_
    refine g_iast h _ (by assumption) rfl (by omega) (by decide) dX2_tellLayer_31 ?_
    refine g_aload_n h dX2_tellLayer_32 rfl ?_
    refine g_getQ h flX2_15 rfl (by assumption) (by assumption) dX2_tellLayer_33 ?_
    refine g_iload_n h dX2_tellLayer_36 rfl ?_
    refine g_iload_n h dX2_tellLayer_37 rfl ?_
    refine g_iast h _ (by assumption) rfl (by omega) (by decide) dX2_tellLayer_38 ?_
    refine g_aload_n h dX2_tellLayer_39 rfl ?_
    refine g_getQ h flX2_18 rfl (by assumption) (by assumption) dX2_tellLayer_40 ?_
    refine g_iload_n h dX2_tellLayer_43 rfl ?_
    refine g_iload h dX2_tellLayer_44 rfl ?_
    refine g_iast h _ (by assumption) rfl (by omega) (by decide) dX2_tellLayer_46 ?_
    refine g_vret h hQ (by decide) (by decide) ?_ dX2_tellLayer_47
    first
    | (exfalso; omega)
    | (refine ⟨rfl, ?_⟩
       have e1 : 2 + L ≠ 5 + L := by omega
       have e2 : 8 + L ≠ 5 + L := by omega
       have e3 : 8 + L ≠ 2 + L := by omega
       have e4 : 11 + L ≠ 5 + L := by omega
       have e5 : 11 + L ≠ 2 + L := by omega
       have e6 : 11 + L ≠ 8 + L := by omega
       have e7 : 5 + L ≠ 2 + L := by omega
       simp only [upI_sR, sR_at, sR_ne _ _ e1, sR_ne _ _ e2, sR_ne _ _ e3, sR_ne _ _ e4, sR_ne _ _ e5, sR_ne _ _ e6, sR_ne _ _ e7]
       rfl)
  · refine g_vret h hQ (by decide) (by decide) ?_ dX2_tellLayer_7
    first
    | (exfalso; omega)
    | (refine ⟨rfl, ?_⟩
       have e1 : 2 + L ≠ 5 + L := by omega
       have e2 : 8 + L ≠ 5 + L := by omega
       have e3 : 8 + L ≠ 2 + L := by omega
       have e4 : 11 + L ≠ 5 + L := by omega
       have e5 : 11 + L ≠ 2 + L := by omega
       have e6 : 11 + L ≠ 8 + L := by omega
       have e7 : 5 + L ≠ 2 + L := by omega
       simp only [upI_sR, sR_at, sR_ne _ _ e1, sR_ne _ _ e2, sR_ne _ _ e3, sR_ne _ _ e4, sR_ne _ _ e5, sR_ne _ _ e6, sR_ne _ _ e7]
       rfl)
set_option maxRecDepth 100000 in
set_option maxHeartbeats 4000000 in
theorem c_X2_tellNumber (l : Launch) (w : AW) (L a : Nat) (v : Int) (hK : LK w L) (ha : a < 5) : HT l yX2_tellNumber cX2_tellNumber 3 none 1 0 0 w [ar (2 + L), ai (a : Int), ai v] (rV (upI w (2 + L) (5 + a) v)) := by
  refine HT.of (by decide) (by intro v hv; simp only [List.mem_cons, List.not_mem_nil, or_false] at hv; rcases hv with rfl | rfl | rfl <;> rfl) (Nat.le_of_ble_eq_true rfl) ?_
  intro Γ h hQ hRm hnm hl hw0
  obtain ⟨hL3, k2, k5, k8, k11, k14, p0, p1, p2, p3⟩ := id hK
  refine g_iload_n h dX2_tellNumber_0 rfl ?_
  rcases (show (a : Int) = 0 ∨ (a : Int) = 1 ∨ (a : Int) = 2 ∨ (a : Int) = 3 ∨ (a : Int) = 4 ∨ ((a : Int) < 0 ∨ 4 < (a : Int)) by omega) with c1 | c1 | c1 | c1 | c1 | c1
  · refine g_tswI (tgt := 36) h 0 (by first | assumption | exact ⟨by omega, by omega⟩) (by omega) (by omega) rfl (by decide) dX2_tellNumber_1 ?_
    refine g_aload_n h dX2_tellNumber_36 rfl ?_
    refine g_iload_n h dX2_tellNumber_37 rfl ?_
    refine g_putI h flX2_27 rfl rfl (by assumption) dX2_tellNumber_38 ?_
    refine g_goto (tgt := 76) h dX2_tellNumber_41 (by decide) ?_
    refine g_vret h hQ (by decide) (by decide) ?_ dX2_tellNumber_76
    first
    | (exfalso; omega)
    | exact ⟨rfl, congrArg (fun f => upI w (2 + L) f v) (by omega)⟩
  · refine g_tswI (tgt := 44) h 1 (by first | assumption | exact ⟨by omega, by omega⟩) (by omega) (by omega) rfl (by decide) dX2_tellNumber_1 ?_
    refine g_aload_n h dX2_tellNumber_44 rfl ?_
    refine g_iload_n h dX2_tellNumber_45 rfl ?_
    refine g_putI h flX2_44 rfl rfl (by assumption) dX2_tellNumber_46 ?_
    refine g_goto (tgt := 76) h dX2_tellNumber_49 (by decide) ?_
    refine g_vret h hQ (by decide) (by decide) ?_ dX2_tellNumber_76
    first
    | (exfalso; omega)
    | exact ⟨rfl, congrArg (fun f => upI w (2 + L) f v) (by omega)⟩
  · refine g_tswI (tgt := 52) h 2 (by first | assumption | exact ⟨by omega, by omega⟩) (by omega) (by omega) rfl (by decide) dX2_tellNumber_1 ?_
    refine g_aload_n h dX2_tellNumber_52 rfl ?_
    refine g_iload_n h dX2_tellNumber_53 rfl ?_
    refine g_putI h flX2_47 rfl rfl (by assumption) dX2_tellNumber_54 ?_
    refine g_goto (tgt := 76) h dX2_tellNumber_57 (by decide) ?_
    refine g_vret h hQ (by decide) (by decide) ?_ dX2_tellNumber_76
    first
    | (exfalso; omega)
    | exact ⟨rfl, congrArg (fun f => upI w (2 + L) f v) (by omega)⟩
  · refine g_tswI (tgt := 60) h 3 (by first | assumption | exact ⟨by omega, by omega⟩) (by omega) (by omega) rfl (by decide) dX2_tellNumber_1 ?_
    refine g_aload_n h dX2_tellNumber_60 rfl ?_
    refine g_iload_n h dX2_tellNumber_61 rfl ?_
    refine g_putI h flX2_31 rfl rfl (by assumption) dX2_tellNumber_62 ?_
    refine g_goto (tgt := 76) h dX2_tellNumber_65 (by decide) ?_
    refine g_vret h hQ (by decide) (by decide) ?_ dX2_tellNumber_76
    first
    | (exfalso; omega)
    | exact ⟨rfl, congrArg (fun f => upI w (2 + L) f v) (by omega)⟩
  · refine g_tswI (tgt := 68) h 4 (by first | assumption | exact ⟨by omega, by omega⟩) (by omega) (by omega) rfl (by decide) dX2_tellNumber_1 ?_
    refine g_aload_n h dX2_tellNumber_68 rfl ?_
    refine g_iload_n h dX2_tellNumber_69 rfl ?_
    refine g_putI h flX2_34 rfl rfl (by assumption) dX2_tellNumber_70 ?_
    refine g_goto (tgt := 76) h dX2_tellNumber_73 (by decide) ?_
    refine g_vret h hQ (by decide) (by decide) ?_ dX2_tellNumber_76
    first
    | (exfalso; omega)
    | exact ⟨rfl, congrArg (fun f => upI w (2 + L) f v) (by omega)⟩
  · refine g_tswO (tgt := 76) h (by first | assumption | exact ⟨by omega, by omega⟩) c1 (by decide) dX2_tellNumber_1 ?_
    refine g_vret h hQ (by decide) (by decide) ?_ dX2_tellNumber_76
    first
    | (exfalso; omega)
    | exact ⟨rfl, congrArg (fun f => upI w (2 + L) f v) (by omega)⟩
set_option maxRecDepth 100000 in
set_option maxHeartbeats 4000000 in
theorem c_X2_gasInAll (l : Launch) (w : AW) (L : Nat) (hK : LK w L) : HT l yX2_gasInAll cX2_gasInAll 3 (some .int) 1 0 0 w [ar (2 + L)] (rI (sumF (w.2.1 (5 + L)) 10) w) := by
  refine HT.of (by decide) (by intro v hv; simp only [List.mem_cons, List.not_mem_nil, or_false] at hv; rcases hv with rfl <;> rfl) (Nat.le_of_ble_eq_true rfl) ?_
  intro Γ h hQ hRm hnm hl hw0
  obtain ⟨hL3, k2, k5, k8, k11, k14, p0, p1, p2, p3⟩ := id hK
  have loop : ∀ (n i : Nat), i + n = 10 → GG Γ 4 [some (ar (2 + L)), some (ai (sumF (w.2.1 (5 + L)) i)), some (ai (i : Int))] [] w 0 0 := by
    intro n
    induction n with
    | zero =>
      intro i hi
      obtain rfl : i = 10 := by omega
      refine g_iload_n h dX2_gasInAll_4 rfl ?_
      refine g_bipush h dX2_gasInAll_5 rfl ?_
      refine g_icmp_ge (tgt := 25) h dX2_gasInAll_7 (by decide) (by first | assumption | exact ⟨by omega, by omega⟩) (by first | assumption | exact ⟨by omega, by omega⟩) (fun c7 => ?_) (fun c7 => ?_)
      · refine g_iload_n h dX2_gasInAll_25 rfl ?_
        refine g_iret h hQ (by decide) (by decide) ?_ dX2_gasInAll_26
        (first | exact ⟨rfl, rfl⟩ | (exfalso; omega))
      · exfalso; omega
    | succ n ih =>
      intro i hi
      refine g_iload_n h dX2_gasInAll_4 rfl ?_
      refine g_bipush h dX2_gasInAll_5 rfl ?_
      refine g_icmp_ge (tgt := 25) h dX2_gasInAll_7 (by decide) (by first | assumption | exact ⟨by omega, by omega⟩) (by first | assumption | exact ⟨by omega, by omega⟩) (fun c7 => ?_) (fun c7 => ?_)
      · exfalso; omega
      · refine g_iload_n h dX2_gasInAll_10 rfl ?_
        refine g_aload_n h dX2_gasInAll_11 rfl ?_
        refine g_getQ h flX2_9 rfl (by assumption) (by assumption) dX2_gasInAll_12 ?_
        refine g_iload_n h dX2_gasInAll_15 rfl ?_
        refine g_iald h _ (by assumption) rfl (by omega) (by decide) dX2_gasInAll_16 ?_
        refine g_iadd h dX2_gasInAll_17 ?_
        refine g_istore_n h dX2_gasInAll_18 (Nat.le_of_ble_eq_true rfl) rfl rfl ?_
        refine g_iinc h dX2_gasInAll_19 rfl (Nat.le_of_ble_eq_true rfl) rfl rfl ?_
        refine g_goto (tgt := 4) h dX2_gasInAll_22 (by decide) ?_
        exact ih (i + 1) (by omega)
  refine g_iconst h dX2_gasInAll_0 ?_
  refine g_istore_n h dX2_gasInAll_1 (Nat.le_of_ble_eq_true rfl) rfl rfl ?_
  refine g_iconst h dX2_gasInAll_2 ?_
  refine g_istore_n h dX2_gasInAll_3 (Nat.le_of_ble_eq_true rfl) rfl rfl ?_
  exact loop 10 0 (by omega)
set_option maxRecDepth 100000 in
set_option maxHeartbeats 4000000 in
theorem c_X2_hasRoomForPipe (l : Launch) (w : AW) (L n : Nat) (hK : LK w L) (hn : w.2.1 (2 + L) 4 = (n : Int)) (h3 : n ≤ 3) : HT l yX2_hasRoomForPipe cX2_hasRoomForPipe 1 (some .boolean) 1 0 0 w [ar (2 + L)] (rI (if n < 3 then 1 else 0) w) := by
  refine HT.of (by decide) (by intro v hv; simp only [List.mem_cons, List.not_mem_nil, or_false] at hv; rcases hv with rfl <;> rfl) (Nat.le_of_ble_eq_true rfl) ?_
  intro Γ h hQ hRm hnm hl hw0
  obtain ⟨hL3, k2, k5, k8, k11, k14, p0, p1, p2, p3⟩ := id hK
  refine g_aload_n h dX2_hasRoomForPipe_0 rfl ?_
  refine g_getI h flX2_63 rfl (by assumption) dX2_hasRoomForPipe_1 ?_
  refine g_aload_n h dX2_hasRoomForPipe_4 rfl ?_
  refine g_getQ h flX2_23 rfl (by assumption) (by assumption) dX2_hasRoomForPipe_5 ?_
  refine g_alen h (by assumption) (by unfold arK; omega) dX2_hasRoomForPipe_8 ?_
  refine g_icmp_ge (tgt := 16) h dX2_hasRoomForPipe_9 (by decide) (by first | assumption | exact ⟨by omega, by omega⟩) (by first | assumption | exact ⟨by omega, by omega⟩) (fun c9 => ?_) (fun c9 => ?_)
  · refine g_iconst h dX2_hasRoomForPipe_16 ?_
    refine g_zret h hQ (by decide) (by decide) (by omega) ?_ dX2_hasRoomForPipe_17
    exact ⟨by first | rw [if_pos (by omega)] | rw [if_neg (by omega)], rfl⟩
  · refine g_iconst h dX2_hasRoomForPipe_12 ?_
    refine g_goto (tgt := 17) h dX2_hasRoomForPipe_13 (by decide) ?_
    refine g_zret h hQ (by decide) (by decide) (by omega) ?_ dX2_hasRoomForPipe_17
    exact ⟨by first | rw [if_pos (by omega)] | rw [if_neg (by omega)], rfl⟩
set_option maxRecDepth 100000 in
set_option maxHeartbeats 4000000 in
theorem c_X2_addPipe (l : Launch) (w : AW) (L n q0 nn : Nat) (hK : LK w L) (hn : w.2.1 (2 + L) 4 = (n : Int)) (h3 : n < 3) (hq : w.1 q0 = (103, nn)) : HT l yX2_addPipe cX2_addPipe 2 none 1 0 0 w [ar (2 + L), ar q0] (rV (upI (upP w (14 + L) n (some q0)) (2 + L) 4 (n + 1))) := by
  refine HT.of (by decide) (by intro v hv; simp only [List.mem_cons, List.not_mem_nil, or_false] at hv; rcases hv with rfl | rfl <;> rfl) (Nat.le_of_ble_eq_true rfl) ?_
  intro Γ h hQ hRm hnm hl hw0
  obtain ⟨hL3, k2, k5, k8, k11, k14, p0, p1, p2, p3⟩ := id hK
  refine g_aload_n h dX2_addPipe_0 rfl ?_
  refine g_getI h flX2_63 rfl (by assumption) dX2_addPipe_1 ?_
  refine g_if_lt (tgt := 39) h dX2_addPipe_4 (by decide) (by first | assumption | exact ⟨by omega, by omega⟩) (fun c4 => ?_) (fun c4 => ?_)
  · refine g_vret h hQ (by decide) (by decide) ?_ dX2_addPipe_39
    (first | (exfalso; omega) | exact ⟨rfl, by rw [← hn]; rfl⟩)
  · refine g_aload_n h dX2_addPipe_7 rfl ?_
    refine g_getI h flX2_63 rfl (by assumption) dX2_addPipe_8 ?_
    refine g_aload_n h dX2_addPipe_11 rfl ?_
    refine g_getQ h flX2_23 rfl (by assumption) (by assumption) dX2_addPipe_12 ?_
    refine g_alen h (by assumption) (by unfold arK; omega) dX2_addPipe_15 ?_
    refine g_icmp_ge (tgt := 39) h dX2_addPipe_16 (by decide) (by first | assumption | exact ⟨by omega, by omega⟩) (by first | assumption | exact ⟨by omega, by omega⟩) (fun c16 => ?_) (fun c16 => ?_)
    · refine g_vret h hQ (by decide) (by decide) ?_ dX2_addPipe_39
      (first | (exfalso; omega) | exact ⟨rfl, by rw [← hn]; rfl⟩)
    · refine g_aload_n h dX2_addPipe_19 rfl ?_
      refine g_getQ h flX2_23 rfl (by assumption) (by assumption) dX2_addPipe_20 ?_
      refine g_aload_n h dX2_addPipe_23 rfl ?_
      refine g_getI h flX2_63 rfl (by assumption) dX2_addPipe_24 ?_
      refine g_aload_n h dX2_addPipe_27 rfl ?_
      refine g_aast h (ci := 3) (n) (by assumption) (by unfold arK; omega) (by decide) (by assumption) (by omega) (by omega) (by decide) dX2_addPipe_28 ?_
      refine g_aload_n h dX2_addPipe_29 rfl ?_
      refine g_dup h dX2_addPipe_30 rfl ?_
      refine g_getI h flX2_63 rfl (by assumption) dX2_addPipe_31 ?_
      refine g_iconst h dX2_addPipe_34 ?_
      refine g_iadd h dX2_addPipe_35 ?_
      refine g_putI h flX2_63 rfl rfl (by assumption) dX2_addPipe_36 ?_
      refine g_vret h hQ (by decide) (by decide) ?_ dX2_addPipe_39
      (first | (exfalso; omega) | exact ⟨rfl, by rw [← hn]; rfl⟩)
/-- how many of the first n pipes run -/
def runS (w : AW) (q : Nat → Nat) : Nat → Int
  | 0 => 0
  | n + 1 => runS w q n + w.2.1 (q n) 4
def movS (w : AW) (q : Nat → Nat) (f : Nat → Int) : Nat → Int
  | 0 => 0
  | n + 1 => movS w q f n + (if w.2.1 (q n) 1 = f n then 0 else 1)
set_option maxRecDepth 100000 in
set_option maxHeartbeats 4000000 in
theorem c_X2_pipesRunning (l : Launch) (w : AW) (L n : Nat) (q : Nat → Nat) (hK : LK w L) (hP : PQ w L n q) : HT l yX2_pipesRunning cX2_pipesRunning 4 (some .int) 1 0 0 w [ar (2 + L)] (rI (runS w q n) w) := by
  refine HT.of (by decide) (by intro v hv; simp only [List.mem_cons, List.not_mem_nil, or_false] at hv; rcases hv with rfl <;> rfl) (Nat.le_of_ble_eq_true rfl) ?_
  intro Γ h hQ hRm hnm hl hw0
  obtain ⟨hL3, k2, k5, k8, k11, k14, p0, p1, p2, p3⟩ := id hK
  obtain ⟨hn3, hn4, hpi, hinj⟩ := id hP
  have loop : ∀ (d i : Nat) (x : Option AV), i + d = n → GG Γ 4 [some (ar (2 + L)), some (ai (runS w q i)), some (ai (i : Int)), x] [] w 0 0 := by
    intro d
    induction d with
    | zero =>
      intro i x hi
      obtain rfl : i = n := by omega
      refine g_iload_n h dX2_pipesRunning_4 rfl ?_
      refine g_aload_n h dX2_pipesRunning_5 rfl ?_
      refine g_getI h flX2_63 rfl (by assumption) dX2_pipesRunning_6 ?_
      refine g_icmp_ge (tgt := 48) h dX2_pipesRunning_9 (by decide) (by first | assumption | exact ⟨by omega, by omega⟩) (by first | assumption | exact ⟨by omega, by omega⟩) (fun c9 => ?_) (fun c9 => ?_)
      · refine g_iload_n h dX2_pipesRunning_48 rfl ?_
        refine g_iret h hQ (by decide) (by decide) ?_ dX2_pipesRunning_49
        (first | exact ⟨rfl, rfl⟩ | (exfalso; omega))
      · exfalso; omega
    | succ d ih =>
      intro i x hi
      obtain ⟨hq, h50, h59, hqs, l0, l9, f1, f5, i0, i1, hrun⟩ := hpi i (by omega)
      have hs1 : w.2.1 (q i) 4 = 0 → runS w q (i + 1) = runS w q i := fun e => by show _ + _ = _; omega
      have hs2 : w.2.1 (q i) 4 ≠ 0 → runS w q (i + 1) = runS w q i + 1 := fun e => by show _ + _ = _; omega
      refine g_iload_n h dX2_pipesRunning_4 rfl ?_
      refine g_aload_n h dX2_pipesRunning_5 rfl ?_
      refine g_getI h flX2_63 rfl (by assumption) dX2_pipesRunning_6 ?_
      refine g_icmp_ge (tgt := 48) h dX2_pipesRunning_9 (by decide) (by first | assumption | exact ⟨by omega, by omega⟩) (by first | assumption | exact ⟨by omega, by omega⟩) (fun c9 => ?_) (fun c9 => ?_)
      · exfalso; omega
      · refine g_iload_n h dX2_pipesRunning_12 rfl ?_
        refine g_aload_n h dX2_pipesRunning_13 rfl ?_
        refine g_getQ h flX2_23 rfl (by assumption) (by assumption) dX2_pipesRunning_14 ?_
        refine g_alen h (by assumption) (by unfold arK; omega) dX2_pipesRunning_17 ?_
        refine g_icmp_ge (tgt := 48) h dX2_pipesRunning_18 (by decide) (by first | assumption | exact ⟨by omega, by omega⟩) (by first | assumption | exact ⟨by omega, by omega⟩) (fun c18 => ?_) (fun c18 => ?_)
        · exfalso; omega
        · refine g_aload_n h dX2_pipesRunning_21 rfl ?_
          refine g_getQ h flX2_23 rfl (by assumption) (by assumption) dX2_pipesRunning_22 ?_
          refine g_iload_n h dX2_pipesRunning_25 rfl ?_
          refine g_aald h _ (by assumption) (by unfold arK; omega) (by omega) rfl (by omega) (by decide) (by assumption) dX2_pipesRunning_26 ?_
          refine g_astore_n h dX2_pipesRunning_27 (Nat.le_of_ble_eq_true rfl) rfl rfl ?_
          refine g_aload_n h dX2_pipesRunning_28 rfl ?_
          refine g_ifnull (tgt := 42) h dX2_pipesRunning_29 (by decide) (fun c29 => ?_) (fun a29 c29 => ?_)
          · refine g_iinc h dX2_pipesRunning_42 rfl (Nat.le_of_ble_eq_true rfl) rfl rfl ?_
            refine g_goto (tgt := 4) h dX2_pipesRunning_45 (by decide) ?_
            first
            | (exact absurd (by assumption) (fun e : some (q i) = none => by cases e))
            | (have h4 := ih (i + 1) (some (ar (q i))) (by omega)
               rw [hs1 (by omega)] at h4
               exact h4)
            | (have h4 := ih (i + 1) (some (ar (q i))) (by omega)
               rw [hs2 (by omega)] at h4
               exact h4)
          · refine g_aload_n h dX2_pipesRunning_32 rfl ?_
            refine g_getI h flX2_66 rfl (by assumption) dX2_pipesRunning_33 ?_
            refine g_if_eq (tgt := 42) h dX2_pipesRunning_36 (by decide) (by first | assumption | exact ⟨by omega, by omega⟩) (fun c36 => ?_) (fun c36 => ?_)
            · refine g_iinc h dX2_pipesRunning_42 rfl (Nat.le_of_ble_eq_true rfl) rfl rfl ?_
              refine g_goto (tgt := 4) h dX2_pipesRunning_45 (by decide) ?_
              first
              | (exact absurd (by assumption) (fun e : some (q i) = none => by cases e))
              | (have h4 := ih (i + 1) (some (ar (q i))) (by omega)
                 rw [hs1 (by omega)] at h4
                 exact h4)
              | (have h4 := ih (i + 1) (some (ar (q i))) (by omega)
                 rw [hs2 (by omega)] at h4
                 exact h4)
            · refine g_iinc h dX2_pipesRunning_39 rfl (Nat.le_of_ble_eq_true rfl) rfl rfl ?_
              refine g_iinc h dX2_pipesRunning_42 rfl (Nat.le_of_ble_eq_true rfl) rfl rfl ?_
              refine g_goto (tgt := 4) h dX2_pipesRunning_45 (by decide) ?_
              first
              | (exact absurd (by assumption) (fun e : some (q i) = none => by cases e))
              | (have h4 := ih (i + 1) (some (ar (q i))) (by omega)
                 rw [hs1 (by omega)] at h4
                 exact h4)
              | (have h4 := ih (i + 1) (some (ar (q i))) (by omega)
                 rw [hs2 (by omega)] at h4
                 exact h4)
  refine g_iconst h dX2_pipesRunning_0 ?_
  refine g_istore_n h dX2_pipesRunning_1 (Nat.le_of_ble_eq_true rfl) rfl rfl ?_
  refine g_iconst h dX2_pipesRunning_2 ?_
  refine g_istore_n h dX2_pipesRunning_3 (Nat.le_of_ble_eq_true rfl) rfl rfl ?_
  exact loop n 0 none (by omega)
set_option maxRecDepth 100000 in
set_option maxHeartbeats 4000000 in
theorem c_X2_movesTo (l : Launch) (w : AW) (L n kl : Nat) (q : Nat → Nat) (hK : LK w L) (hP : PQ w L n q) (hkl : w.1 kl = (1, 3)) (hf : ∀ i, i < 3 → R32 (w.2.1 kl i)) : HT l yX2_movesTo cX2_movesTo 5 (some .int) 1 0 0 w [ar (2 + L), ar kl] (rI (movS w q (w.2.1 kl) n) w) := by
  refine HT.of (by decide) (by intro v hv; simp only [List.mem_cons, List.not_mem_nil, or_false] at hv; rcases hv with rfl | rfl <;> rfl) (Nat.le_of_ble_eq_true rfl) ?_
  intro Γ h hQ hRm hnm hl hw0
  obtain ⟨hL3, k2, k5, k8, k11, k14, p0, p1, p2, p3⟩ := id hK
  obtain ⟨hn3, hn4, hpi, hinj⟩ := id hP
  have loop : ∀ (d i : Nat) (x : Option AV), i + d = n → GG Γ 4 [some (ar (2 + L)), some (ar kl), some (ai (movS w q (w.2.1 kl) i)), some (ai (i : Int)), x] [] w 0 0 := by
    intro d
    induction d with
    | zero =>
      intro i x hi
      obtain rfl : i = n := by omega
      refine g_iload_n h dX2_movesTo_4 rfl ?_
      refine g_aload_n h dX2_movesTo_5 rfl ?_
      refine g_getI h flX2_63 rfl (by assumption) dX2_movesTo_6 ?_
      refine g_icmp_ge (tgt := 60) h dX2_movesTo_9 (by decide) (by first | assumption | exact ⟨by omega, by omega⟩) (by first | assumption | exact ⟨by omega, by omega⟩) (fun c9 => ?_) (fun c9 => ?_)
      · refine g_iload_n h dX2_movesTo_60 rfl ?_
        refine g_iret h hQ (by decide) (by decide) ?_ dX2_movesTo_61
        (first | exact ⟨rfl, rfl⟩ | (exfalso; omega))
      · exfalso; omega
    | succ d ih =>
      intro i x hi
      obtain ⟨hq, h50, h59, hqs, l0, l9, f1, f5, i0, i1, hrun⟩ := hpi i (by omega)
      have hfi := hf i (by omega)
      have hs1 : w.2.1 (q i) 1 = w.2.1 kl i → movS w q (w.2.1 kl) (i + 1) = movS w q (w.2.1 kl) i := fun e => by show _ + ite _ _ _ = _; rw [if_pos e, Int.add_zero]
      have hs2 : w.2.1 (q i) 1 ≠ w.2.1 kl i → movS w q (w.2.1 kl) (i + 1) = movS w q (w.2.1 kl) i + 1 := fun e => by show _ + ite _ _ _ = _; rw [if_neg e]
      refine g_iload_n h dX2_movesTo_4 rfl ?_
      refine g_aload_n h dX2_movesTo_5 rfl ?_
      refine g_getI h flX2_63 rfl (by assumption) dX2_movesTo_6 ?_
      refine g_icmp_ge (tgt := 60) h dX2_movesTo_9 (by decide) (by first | assumption | exact ⟨by omega, by omega⟩) (by first | assumption | exact ⟨by omega, by omega⟩) (fun c9 => ?_) (fun c9 => ?_)
      · refine g_iload_n h dX2_movesTo_60 rfl ?_
        refine g_iret h hQ (by decide) (by decide) ?_ dX2_movesTo_61
        (exfalso; omega)
      · refine g_iload_n h dX2_movesTo_12 rfl ?_
        refine g_aload_n h dX2_movesTo_13 rfl ?_
        refine g_getQ h flX2_23 rfl (by assumption) (by assumption) dX2_movesTo_14 ?_
        refine g_alen h (by assumption) (by unfold arK; omega) dX2_movesTo_17 ?_
        refine g_icmp_ge (tgt := 60) h dX2_movesTo_18 (by decide) (by first | assumption | exact ⟨by omega, by omega⟩) (by first | assumption | exact ⟨by omega, by omega⟩) (fun c18 => ?_) (fun c18 => ?_)
        · refine g_iload_n h dX2_movesTo_60 rfl ?_
          refine g_iret h hQ (by decide) (by decide) ?_ dX2_movesTo_61
          (exfalso; omega)
        · refine g_iload_n h dX2_movesTo_21 rfl ?_
          refine g_aload_n h dX2_movesTo_22 rfl ?_
          refine g_alen h (by assumption) (by unfold arK; omega) dX2_movesTo_23 ?_
          refine g_icmp_ge (tgt := 60) h dX2_movesTo_24 (by decide) (by first | assumption | exact ⟨by omega, by omega⟩) (by first | assumption | exact ⟨by omega, by omega⟩) (fun c24 => ?_) (fun c24 => ?_)
          · refine g_iload_n h dX2_movesTo_60 rfl ?_
            refine g_iret h hQ (by decide) (by decide) ?_ dX2_movesTo_61
            (exfalso; omega)
          · refine g_aload_n h dX2_movesTo_27 rfl ?_
            refine g_getQ h flX2_23 rfl (by assumption) (by assumption) dX2_movesTo_28 ?_
            refine g_iload_n h dX2_movesTo_31 rfl ?_
            refine g_aald h _ (by assumption) (by unfold arK; omega) (by omega) rfl (by omega) (by decide) (by assumption) dX2_movesTo_32 ?_
            refine g_astore h dX2_movesTo_33 (Nat.le_of_ble_eq_true rfl) rfl rfl ?_
            refine g_aload h dX2_movesTo_35 rfl ?_
            refine g_ifnull (tgt := 54) h dX2_movesTo_37 (by decide) (fun c37 => ?_) (fun a37 c37 => ?_)
            · refine g_iinc h dX2_movesTo_54 rfl (Nat.le_of_ble_eq_true rfl) rfl rfl ?_
              refine g_goto (tgt := 4) h dX2_movesTo_57 (by decide) ?_
              first
              | (exact absurd (by assumption) (fun e : some (q i) = none => by cases e))
              | (have h4 := ih (i + 1) (some (ar (q i))) (by omega)
                 rw [hs1 (by omega)] at h4
                 exact h4)
              | (have h4 := ih (i + 1) (some (ar (q i))) (by omega)
                 rw [hs2 (by omega)] at h4
                 exact h4)
            · refine g_aload h dX2_movesTo_40 rfl ?_
              refine g_getI h flX2_70 rfl (by assumption) dX2_movesTo_42 ?_
              refine g_aload_n h dX2_movesTo_45 rfl ?_
              refine g_iload_n h dX2_movesTo_46 rfl ?_
              refine g_iald h _ (by assumption) rfl (by omega) (by decide) dX2_movesTo_47 ?_
              refine g_icmp_eq (tgt := 54) h dX2_movesTo_48 (by decide) (by first | assumption | exact ⟨by omega, by omega⟩) (by first | assumption | exact ⟨by omega, by omega⟩) (fun c48 => ?_) (fun c48 => ?_)
              · refine g_iinc h dX2_movesTo_54 rfl (Nat.le_of_ble_eq_true rfl) rfl rfl ?_
                refine g_goto (tgt := 4) h dX2_movesTo_57 (by decide) ?_
                first
                | (exact absurd (by assumption) (fun e : some (q i) = none => by cases e))
                | (have h4 := ih (i + 1) (some (ar (q i))) (by omega)
                   rw [hs1 (by omega)] at h4
                   exact h4)
                | (have h4 := ih (i + 1) (some (ar (q i))) (by omega)
                   rw [hs2 (by omega)] at h4
                   exact h4)
              · refine g_iinc h dX2_movesTo_51 rfl (Nat.le_of_ble_eq_true rfl) rfl rfl ?_
                refine g_iinc h dX2_movesTo_54 rfl (Nat.le_of_ble_eq_true rfl) rfl rfl ?_
                refine g_goto (tgt := 4) h dX2_movesTo_57 (by decide) ?_
                first
                | (exact absurd (by assumption) (fun e : some (q i) = none => by cases e))
                | (have h4 := ih (i + 1) (some (ar (q i))) (by omega)
                   rw [hs1 (by omega)] at h4
                   exact h4)
                | (have h4 := ih (i + 1) (some (ar (q i))) (by omega)
                   rw [hs2 (by omega)] at h4
                   exact h4)
  refine g_iconst h dX2_movesTo_0 ?_
  refine g_istore_n h dX2_movesTo_1 (Nat.le_of_ble_eq_true rfl) rfl rfl ?_
  refine g_iconst h dX2_movesTo_2 ?_
  refine g_istore_n h dX2_movesTo_3 (Nat.le_of_ble_eq_true rfl) rfl rfl ?_
  exact loop n 0 none (by omega)
def tryW (w : AW) (q : Nat → Nat) (n i : Nat) (z : Int) : AW := if i < n ∧ w.2.1 (q i) 1 ≠ z then sR w (q i) (uI (uI (w.2.1 (q i)) 1 z) 4 1) else w
set_option maxRecDepth 100000 in
set_option maxHeartbeats 4000000 in
theorem c_X2_tryPipe (l : Launch) (w : AW) (L n i : Nat) (q : Nat → Nat) (z : Int) (hK : LK w L) (hP : PQ w L n q) (hz : R32 z) (hi3 : i < 3) : HT l yX2_tryPipe cX2_tryPipe 4 none 1 0 0 w [ar (2 + L), ai (i : Int), ai z] (rV (tryW w q n i z)) := by
  refine HT.of (by decide) (by intro v hv; simp only [List.mem_cons, List.not_mem_nil, or_false] at hv; rcases hv with rfl | rfl | rfl <;> rfl) (Nat.le_of_ble_eq_true rfl) ?_
  intro Γ h hQ hRm hnm hl hw0
  obtain ⟨hL3, k2, k5, k8, k11, k14, p0, p1, p2, p3⟩ := id hK
  obtain ⟨hn3, hn4, hpi, hinj⟩ := id hP
  refine g_iload_n h dX2_tryPipe_0 rfl ?_
  refine g_if_lt (tgt := 21) h dX2_tryPipe_1 (by decide) (by first | assumption | exact ⟨by omega, by omega⟩) (fun c1 => ?_) (fun c1 => ?_)
  · refine g_vret h hQ (by decide) (by decide) ?_ dX2_tryPipe_21
    first
    | (exfalso; omega)
    | (exact absurd (by assumption) (fun e : some (q i) = none => by cases e))
    | (unfold tryW; rw [if_neg (by omega)]; exact ⟨rfl, rfl⟩)
    | (unfold tryW; rw [if_pos (by omega)]; exact ⟨rfl, by rw [upI_sR, upI_sR, sR_sR, sR_at]⟩)
  · refine g_iload_n h dX2_tryPipe_4 rfl ?_
    refine g_aload_n h dX2_tryPipe_5 rfl ?_
    refine g_getI h flX2_63 rfl (by assumption) dX2_tryPipe_6 ?_
    refine g_icmp_ge (tgt := 21) h dX2_tryPipe_9 (by decide) (by first | assumption | exact ⟨by omega, by omega⟩) (by first | assumption | exact ⟨by omega, by omega⟩) (fun c9 => ?_) (fun c9 => ?_)
    · refine g_vret h hQ (by decide) (by decide) ?_ dX2_tryPipe_21
      first
      | (exfalso; omega)
      | (exact absurd (by assumption) (fun e : some (q i) = none => by cases e))
      | (unfold tryW; rw [if_neg (by omega)]; exact ⟨rfl, rfl⟩)
      | (unfold tryW; rw [if_pos (by omega)]; exact ⟨rfl, by rw [upI_sR, upI_sR, sR_sR, sR_at]⟩)
    · refine g_iload_n h dX2_tryPipe_12 rfl ?_
      refine g_aload_n h dX2_tryPipe_13 rfl ?_
      obtain ⟨hq, h50, h59, hqs, l0, l9, f1, f5, i0, i1, hrun⟩ := hpi i (by omega)
      refine g_getQ h flX2_23 rfl (by assumption) (by assumption) dX2_tryPipe_14 ?_
      refine g_alen h (by assumption) (by unfold arK; omega) dX2_tryPipe_17 ?_
      refine g_icmp_lt (tgt := 22) h dX2_tryPipe_18 (by decide) (by first | assumption | exact ⟨by omega, by omega⟩) (by first | assumption | exact ⟨by omega, by omega⟩) (fun c18 => ?_) (fun c18 => ?_)
      · refine g_aload_n h dX2_tryPipe_22 rfl ?_
        refine g_getQ h flX2_23 rfl (by assumption) (by assumption) dX2_tryPipe_23 ?_
        refine g_iload_n h dX2_tryPipe_26 rfl ?_
        refine g_aald h _ (by assumption) (by unfold arK; omega) (by omega) rfl (by omega) (by decide) (by assumption) dX2_tryPipe_27 ?_
        refine g_astore_n h dX2_tryPipe_28 (Nat.le_of_ble_eq_true rfl) rfl rfl ?_
        refine g_aload_n h dX2_tryPipe_29 rfl ?_
        refine g_ifnull (tgt := 51) h dX2_tryPipe_30 (by decide) (fun c30 => ?_) (fun a30 c30 => ?_)
        · refine g_vret h hQ (by decide) (by decide) ?_ dX2_tryPipe_51
          first
          | (exfalso; omega)
          | (exact absurd (by assumption) (fun e : some (q i) = none => by cases e))
          | (unfold tryW; rw [if_neg (by omega)]; exact ⟨rfl, rfl⟩)
          | (unfold tryW; rw [if_pos (by omega)]; exact ⟨rfl, by rw [upI_sR, upI_sR, sR_sR, sR_at]⟩)
        · refine g_aload_n h dX2_tryPipe_33 rfl ?_
          refine g_getI h flX2_70 rfl (by assumption) dX2_tryPipe_34 ?_
          refine g_iload_n h dX2_tryPipe_37 rfl ?_
          refine g_icmp_eq (tgt := 51) h dX2_tryPipe_38 (by decide) (by first | assumption | exact ⟨by omega, by omega⟩) (by first | assumption | exact ⟨by omega, by omega⟩) (fun c38 => ?_) (fun c38 => ?_)
          · refine g_vret h hQ (by decide) (by decide) ?_ dX2_tryPipe_51
            first
            | (exfalso; omega)
            | (exact absurd (by assumption) (fun e : some (q i) = none => by cases e))
            | (unfold tryW; rw [if_neg (by omega)]; exact ⟨rfl, rfl⟩)
            | (unfold tryW; rw [if_pos (by omega)]; exact ⟨rfl, by rw [upI_sR, upI_sR, sR_sR, sR_at]⟩)
          · refine g_aload_n h dX2_tryPipe_41 rfl ?_
            refine g_iload_n h dX2_tryPipe_42 rfl ?_
            refine g_putI h flX2_70 rfl rfl (by assumption) dX2_tryPipe_43 ?_
            refine g_aload_n h dX2_tryPipe_46 rfl ?_
            refine g_iconst h dX2_tryPipe_47 ?_
            refine g_putZ h flX2_66 rfl rfl (by assumption) (by omega) dX2_tryPipe_48 ?_
            refine g_vret h hQ (by decide) (by decide) ?_ dX2_tryPipe_51
            first
            | (exfalso; omega)
            | (exact absurd (by assumption) (fun e : some (q i) = none => by cases e))
            | (unfold tryW; rw [if_neg (by omega)]; exact ⟨rfl, rfl⟩)
            | (unfold tryW; rw [if_pos (by omega)]; exact ⟨rfl, by rw [upI_sR, upI_sR, sR_sR, sR_at]⟩)
      · refine g_vret h hQ (by decide) (by decide) ?_ dX2_tryPipe_21
        first
        | (exfalso; omega)
        | (exact absurd (by assumption) (fun e : some (q i) = none => by cases e))
        | (unfold tryW; rw [if_neg (by omega)]; exact ⟨rfl, rfl⟩)
        | (unfold tryW; rw [if_pos (by omega)]; exact ⟨rfl, by rw [upI_sR, upI_sR, sR_sR, sR_at]⟩)
/-- days until the fullest layer is below a share; the world then -/
def dtb (L n : Nat) (q : Nat → Nat) (share : Int) : Nat → Int → AW → Int × AW
  | 0, _, w => (-2, w)
  | d + 1, day, w => if goB w L n q = 1 then (-2, goW w L n q) else
    if fullestF ((goW w L n q).2.1 (5 + L)) ((goW w L n q).2.1 (2 + L) 5) ((goW w L n q).2.1 (2 + L) 6) 10 < share then (day, goW w L n q) else dtb L n q share d (day + 1) (goW w L n q)
set_option maxRecDepth 100000 in
set_option maxHeartbeats 4000000 in
theorem c_X2_daysToBelow (l : Launch) (w : AW) (L n : Nat) (q : Nat → Nat) (share most : Int) (hK : LK w L) (hN : LN w L) (hP : PQ w L n q) (hs : R32 share) (hm : most ≤ 60) (hm0 : 0 ≤ most) : HT l yX2_daysToBelow cX2_daysToBelow 4 (some .int) 5 0 0 w [ar (2 + L), ai share, ai most] (fun r w' => r = some (ai (dtb L n q share most.toNat 1 w).1) ∧ w' = (dtb L n q share most.toNat 1 w).2) := by
  refine HT.of (by decide) (by intro v hv; simp only [List.mem_cons, List.not_mem_nil, or_false] at hv; rcases hv with rfl | rfl | rfl <;> rfl) (Nat.le_of_ble_eq_true rfl) ?_
  intro Γ h hQ hRm hnm hl hw0
  have loop : ∀ (d : Nat) (day : Int) (w1 : AW), day + d = most + 1 → 1 ≤ day → LK w1 L → LN w1 L → PQ w1 L n q → dtb L n q share d day w1 = dtb L n q share most.toNat 1 w → GG Γ 2 [some (ar (2 + L)), some (ai share), some (ai most), some (ai day)] [] w1 0 0 := by
    intro d
    induction d with
    | zero =>
      intro day w1 hd h1 hK1 hN1 hP1 he
      refine g_iload_n h dX2_daysToBelow_2 rfl ?_
      refine g_iload_n h dX2_daysToBelow_3 rfl ?_
      refine g_icmp_gt (tgt := 33) h dX2_daysToBelow_4 (by decide) (by first | assumption | exact ⟨by omega, by omega⟩) (by first | assumption | exact ⟨by omega, by omega⟩) (fun c4 => ?_) (fun c4 => ?_)
      · refine g_bipush h dX2_daysToBelow_33 rfl ?_
        refine g_iret h hQ (by decide) (by decide) ?_ dX2_daysToBelow_35
        rw [← he]; exact ⟨rfl, rfl⟩
      · exfalso; omega
    | succ d ih =>
      intro day w1 hd h1 hK1 hN1 hP1 he
      have k2 := hK1.2.1
      obtain ⟨hN2, hP2⟩ := goW_ok hK1.1 hN1 hP1
      have hK2 : LK (goW w1 L n q) L := LK_of (goW_1 w1 L n q).1 (goW_1 w1 L n q).2 hK1
      have k2' := hK2.2.1
      have hgb := goB_01 w1 L n q
      have hfb := fullestF_bd (g := (goW w1 L n q).2.1 (5 + L)) (step := (goW w1 L n q).2.1 (2 + L) 5) (drop := (goW w1 L n q).2.1 (2 + L) 6) (fun i hi => (hN2.1 i hi).2.1) 10 (by omega)
      have hdt : dtb L n q share (d + 1) day w1 = if goB w1 L n q = 1 then (-2, goW w1 L n q) else
        if fullestF ((goW w1 L n q).2.1 (5 + L)) ((goW w1 L n q).2.1 (2 + L) 5) ((goW w1 L n q).2.1 (2 + L) 6) 10 < share then (day, goW w1 L n q) else dtb L n q share d (day + 1) (goW w1 L n q) := rfl
      refine g_iload_n h dX2_daysToBelow_2 rfl ?_
      refine g_iload_n h dX2_daysToBelow_3 rfl ?_
      refine g_icmp_gt (tgt := 33) h dX2_daysToBelow_4 (by decide) (by first | assumption | exact ⟨by omega, by omega⟩) (by first | assumption | exact ⟨by omega, by omega⟩) (fun c4 => ?_) (fun c4 => ?_)
      · exfalso; omega
      · refine g_aload_n h dX2_daysToBelow_7 rfl ?_
        refine g_callV h rfl (ci := 2) [] (by assumption) (c_X2_goOn _ w1 L n q hK1 hN1 hP1) clX2_80 (by decide) rfl in_X2_goOn se_X2_goOn rfl rfl (by rw [hRm]; decide) (by rw [hRm]; decide) (fun _ => Nat.le_of_ble_eq_true rfl) (by rw [hRm]; decide) (by rw [hRm]; decide) dX2_daysToBelow_8 (fun r8 w8 hp8 => ?_)
        obtain ⟨rfl, hw8⟩ := hp8
        rw [hw8]
        refine g_if_eq (tgt := 17) h dX2_daysToBelow_11 (by decide) (by first | assumption | exact ⟨by omega, by omega⟩) (fun c11 => ?_) (fun c11 => ?_)
        · refine g_aload_n h dX2_daysToBelow_17 rfl ?_
          refine g_callV h rfl (ci := 2) [] (by assumption) (c_X2_fullest _ (goW w1 L n q) L hK2 hN2) clX2_84 (by decide) rfl in_X2_fullest se_X2_fullest rfl rfl (by rw [hRm]; decide) (by rw [hRm]; decide) (fun _ => Nat.le_of_ble_eq_true rfl) (by rw [hRm]; decide) (by rw [hRm]; decide) dX2_daysToBelow_18 (fun r18 w18 hp18 => ?_)
          obtain ⟨rfl, hw18⟩ := hp18
          rw [hw18]
          refine g_iload_n h dX2_daysToBelow_21 rfl ?_
          refine g_icmp_ge (tgt := 27) h dX2_daysToBelow_22 (by decide) (by first | assumption | exact ⟨by omega, by omega⟩) (by first | assumption | exact ⟨by omega, by omega⟩) (fun c22 => ?_) (fun c22 => ?_)
          · refine g_iinc h dX2_daysToBelow_27 rfl (Nat.le_of_ble_eq_true rfl) rfl rfl ?_
            refine g_goto (tgt := 2) h dX2_daysToBelow_30 (by decide) ?_
            exact ih (day + 1) (goW w1 L n q) (by omega) (by omega) hK2 hN2 hP2 (by rw [← he, hdt, if_neg (by omega), if_neg (by omega)])
          · refine g_iload_n h dX2_daysToBelow_25 rfl ?_
            refine g_iret h hQ (by decide) (by decide) ?_ dX2_daysToBelow_26
            rw [← he, hdt]
            first
            | (rw [if_pos (by omega)]; exact ⟨rfl, rfl⟩)
            | (rw [if_neg (by omega), if_pos (by omega)]; exact ⟨rfl, rfl⟩)
        · refine g_bipush h dX2_daysToBelow_14 rfl ?_
          refine g_iret h hQ (by decide) (by decide) ?_ dX2_daysToBelow_16
          rw [← he, hdt]
          first
          | (rw [if_pos (by omega)]; exact ⟨rfl, rfl⟩)
          | (rw [if_neg (by omega), if_pos (by omega)]; exact ⟨rfl, rfl⟩)
  refine g_iconst h dX2_daysToBelow_0 ?_
  refine g_istore_n h dX2_daysToBelow_1 (Nat.le_of_ble_eq_true rfl) rfl rfl ?_
  exact loop most.toNat 1 w (by omega) (by omega) hK hN hP rfl
