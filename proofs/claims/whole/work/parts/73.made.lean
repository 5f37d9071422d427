/-! ===== the class is made ===== -/
def iX1_init (w : AW) : AW := (upP (alc w 41 (1, 1601)) 40 0 (some 41))
set_option maxRecDepth 100000 in
set_option maxHeartbeats 4000000 in
theorem c_X1_init (l : Launch) (w : AW)  (hq : w.1 40 = (101, 0)) (hF : ∀ k ∈ [41], (w.1 k).1 = 0) : HT l yX1_init cX1_init 2 none 1 1 1601 w [ar 40, ai 1601] (rV (iX1_init w)) := by
  refine HT.of (by decide) (by intro v hv; simp only [List.mem_cons, List.not_mem_nil, or_false] at hv; rcases hv with rfl | rfl <;> rfl) (Nat.le_of_ble_eq_true rfl) ?_
  intro Γ h hQ hRm hnm hl hw0
  refine g_aload_n h dX1_init_0 rfl ?_
  refine g_objinit h obX1_3 in_obj co_obj rfl (by rw [hRm]; first | decide | (simp only [clS]; omega)) (by rw [hRm]; first | decide | (simp only [clS]; omega)) (fun _ => Nat.le_of_ble_eq_true rfl) dX1_init_1 ?_
  refine g_aload_n h dX1_init_4 rfl ?_
  refine g_iconst h dX1_init_5 ?_
  refine g_iload_n h dX1_init_6 rfl ?_
  refine g_max h rfl mmaxX1_9 (by first | assumption | exact ⟨by omega, by omega⟩) (by first | assumption | exact ⟨by omega, by omega⟩) (by rw [hRm]; first | decide | (simp only [clS]; omega)) (by rw [hRm]; first | decide | (simp only [clS]; omega)) (fun _ => Nat.le_of_ble_eq_true rfl) (by rw [hRm]; first | decide | (simp only [clS]; omega)) (by rw [hRm]; first | decide | (simp only [clS]; omega)) dX1_init_7 ?_
  refine g_newi h (41) (nn := 1601) arc_int (by decide) (by decide) (hF 41 (by decide)) (by first | omega | assumption) (by rw [hRm]; simp only [clS]; omega) (by rw [hRm]; simp only [clS]; omega) dX1_init_10 ?_
  refine g_putFQ h flX1_15 rfl hnm rfl (Or.inr ⟨_, rfl⟩) (by assumption) dX1_init_12 ?_
  refine g_vret h hQ (by first | decide | omega | (simp only [clS]; omega)) (by first | decide | omega | (simp only [clS]; omega)) ?_ dX1_init_15
  exact ⟨rfl, rfl⟩
def iX2_init0 (w : AW) : AW := (upI (upI (upI (upP (alc (upP (alc (upP (alc (upP (alc w 5 (1, 10)) 2 0 (some 5)) 8 (1, 10)) 2 1 (some 8)) 11 (1, 10)) 2 2 (some 11)) 14 (203, 3)) 2 3 (some 14)) 2 5 (1000)) 2 8 (10)) 2 9 (0))
set_option maxRecDepth 100000 in
set_option maxHeartbeats 4000000 in
theorem c_X2_init0 (l : Launch) (w : AW)  (hq : w.1 2 = (102, 0)) (hF : ∀ k ∈ [5, 8, 11, 14], (w.1 k).1 = 0) : HT l yX2_init cX2_init 2 none 1 4 33 w [ar 2, ai 0] (rV (iX2_init0 w)) := by
  refine HT.of (by decide) (by intro v hv; simp only [List.mem_cons, List.not_mem_nil, or_false] at hv; rcases hv with rfl | rfl <;> rfl) (Nat.le_of_ble_eq_true rfl) ?_
  intro Γ h hQ hRm hnm hl hw0
  refine g_aload_n h dX2_init_0 rfl ?_
  refine g_objinit h obX2_3 in_obj co_obj rfl (by rw [hRm]; first | decide | (simp only [clS]; omega)) (by rw [hRm]; first | decide | (simp only [clS]; omega)) (fun _ => Nat.le_of_ble_eq_true rfl) dX2_init_1 ?_
  refine g_aload_n h dX2_init_4 rfl ?_
  refine g_bipush h dX2_init_5 rfl ?_
  refine g_newi h (5) (nn := 10) arc_int (by decide) (by decide) (hF 5 (by decide)) (by first | omega | assumption) (by rw [hRm]; simp only [clS]; omega) (by rw [hRm]; simp only [clS]; omega) dX2_init_7 ?_
  refine g_putFQ h flX2_9 rfl hnm rfl (Or.inr ⟨_, rfl⟩) (by assumption) dX2_init_9 ?_
  refine g_aload_n h dX2_init_12 rfl ?_
  refine g_bipush h dX2_init_13 rfl ?_
  refine g_newi h (8) (nn := 10) arc_int (by decide) (by decide) (hF 8 (by decide)) (by first | omega | assumption) (by rw [hRm]; simp only [clS]; omega) (by rw [hRm]; simp only [clS]; omega) dX2_init_15 ?_
  refine g_putFQ h flX2_15 rfl hnm rfl (Or.inr ⟨_, rfl⟩) (by assumption) dX2_init_17 ?_
  refine g_aload_n h dX2_init_20 rfl ?_
  refine g_bipush h dX2_init_21 rfl ?_
  refine g_newi h (11) (nn := 10) arc_int (by decide) (by decide) (hF 11 (by decide)) (by first | omega | assumption) (by rw [hRm]; simp only [clS]; omega) (by rw [hRm]; simp only [clS]; omega) dX2_init_23 ?_
  refine g_putFQ h flX2_18 rfl hnm rfl (Or.inr ⟨_, rfl⟩) (by assumption) dX2_init_25 ?_
  refine g_aload_n h dX2_init_28 rfl ?_
  refine g_iconst h dX2_init_29 ?_
  refine g_newq h (ci := 3) (14) (nn := 3) ao_3 cnX2_21 (by unfold arK; omega) rfl (by decide) (by decide) (hF 14 (by decide)) (by first | omega | assumption) (by rw [hRm]; simp only [clS]; omega) (by rw [hRm]; simp only [clS]; omega) dX2_init_30 ?_
  refine g_putFQ h flX2_23 rfl hnm rfl (Or.inr ⟨_, rfl⟩) (by assumption) dX2_init_33 ?_
  refine g_aload_n h dX2_init_36 rfl ?_
  refine g_sipush h dX2_init_37 rfl ?_
  refine g_putI h flX2_27 rfl rfl (by assumption) dX2_init_40 ?_
  refine g_aload_n h dX2_init_43 rfl ?_
  refine g_bipush h dX2_init_44 rfl ?_
  refine g_putI h flX2_31 rfl rfl (by assumption) dX2_init_46 ?_
  refine g_aload_n h dX2_init_49 rfl ?_
  refine g_iload_n h dX2_init_50 rfl ?_
  refine g_putI h flX2_34 rfl rfl (by assumption) dX2_init_51 ?_
  refine g_vret h hQ (by first | decide | omega | (simp only [clS]; omega)) (by first | decide | omega | (simp only [clS]; omega)) ?_ dX2_init_54
  exact ⟨rfl, rfl⟩
def iX2_init1 (w : AW) : AW := (upI (upI (upI (upP (alc (upP (alc (upP (alc (upP (alc w 6 (1, 10)) 3 0 (some 6)) 9 (1, 10)) 3 1 (some 9)) 12 (1, 10)) 3 2 (some 12)) 15 (203, 3)) 3 3 (some 15)) 3 5 (1000)) 3 8 (10)) 3 9 (399))
set_option maxRecDepth 100000 in
set_option maxHeartbeats 4000000 in
theorem c_X2_init1 (l : Launch) (w : AW)  (hq : w.1 3 = (102, 0)) (hF : ∀ k ∈ [6, 9, 12, 15], (w.1 k).1 = 0) : HT l yX2_init cX2_init 2 none 1 4 33 w [ar 3, ai 399] (rV (iX2_init1 w)) := by
  refine HT.of (by decide) (by intro v hv; simp only [List.mem_cons, List.not_mem_nil, or_false] at hv; rcases hv with rfl | rfl <;> rfl) (Nat.le_of_ble_eq_true rfl) ?_
  intro Γ h hQ hRm hnm hl hw0
  refine g_aload_n h dX2_init_0 rfl ?_
  refine g_objinit h obX2_3 in_obj co_obj rfl (by rw [hRm]; first | decide | (simp only [clS]; omega)) (by rw [hRm]; first | decide | (simp only [clS]; omega)) (fun _ => Nat.le_of_ble_eq_true rfl) dX2_init_1 ?_
  refine g_aload_n h dX2_init_4 rfl ?_
  refine g_bipush h dX2_init_5 rfl ?_
  refine g_newi h (6) (nn := 10) arc_int (by decide) (by decide) (hF 6 (by decide)) (by first | omega | assumption) (by rw [hRm]; simp only [clS]; omega) (by rw [hRm]; simp only [clS]; omega) dX2_init_7 ?_
  refine g_putFQ h flX2_9 rfl hnm rfl (Or.inr ⟨_, rfl⟩) (by assumption) dX2_init_9 ?_
  refine g_aload_n h dX2_init_12 rfl ?_
  refine g_bipush h dX2_init_13 rfl ?_
  refine g_newi h (9) (nn := 10) arc_int (by decide) (by decide) (hF 9 (by decide)) (by first | omega | assumption) (by rw [hRm]; simp only [clS]; omega) (by rw [hRm]; simp only [clS]; omega) dX2_init_15 ?_
  refine g_putFQ h flX2_15 rfl hnm rfl (Or.inr ⟨_, rfl⟩) (by assumption) dX2_init_17 ?_
  refine g_aload_n h dX2_init_20 rfl ?_
  refine g_bipush h dX2_init_21 rfl ?_
  refine g_newi h (12) (nn := 10) arc_int (by decide) (by decide) (hF 12 (by decide)) (by first | omega | assumption) (by rw [hRm]; simp only [clS]; omega) (by rw [hRm]; simp only [clS]; omega) dX2_init_23 ?_
  refine g_putFQ h flX2_18 rfl hnm rfl (Or.inr ⟨_, rfl⟩) (by assumption) dX2_init_25 ?_
  refine g_aload_n h dX2_init_28 rfl ?_
  refine g_iconst h dX2_init_29 ?_
  refine g_newq h (ci := 3) (15) (nn := 3) ao_3 cnX2_21 (by unfold arK; omega) rfl (by decide) (by decide) (hF 15 (by decide)) (by first | omega | assumption) (by rw [hRm]; simp only [clS]; omega) (by rw [hRm]; simp only [clS]; omega) dX2_init_30 ?_
  refine g_putFQ h flX2_23 rfl hnm rfl (Or.inr ⟨_, rfl⟩) (by assumption) dX2_init_33 ?_
  refine g_aload_n h dX2_init_36 rfl ?_
  refine g_sipush h dX2_init_37 rfl ?_
  refine g_putI h flX2_27 rfl rfl (by assumption) dX2_init_40 ?_
  refine g_aload_n h dX2_init_43 rfl ?_
  refine g_bipush h dX2_init_44 rfl ?_
  refine g_putI h flX2_31 rfl rfl (by assumption) dX2_init_46 ?_
  refine g_aload_n h dX2_init_49 rfl ?_
  refine g_iload_n h dX2_init_50 rfl ?_
  refine g_putI h flX2_34 rfl rfl (by assumption) dX2_init_51 ?_
  refine g_vret h hQ (by first | decide | omega | (simp only [clS]; omega)) (by first | decide | omega | (simp only [clS]; omega)) ?_ dX2_init_54
  exact ⟨rfl, rfl⟩
def iX2_init2 (w : AW) : AW := (upI (upI (upI (upP (alc (upP (alc (upP (alc (upP (alc w 7 (1, 10)) 4 0 (some 7)) 10 (1, 10)) 4 1 (some 10)) 13 (1, 10)) 4 2 (some 13)) 16 (203, 3)) 4 3 (some 16)) 4 5 (1000)) 4 8 (10)) 4 9 (0))
set_option maxRecDepth 100000 in
set_option maxHeartbeats 4000000 in
theorem c_X2_init2 (l : Launch) (w : AW)  (hq : w.1 4 = (102, 0)) (hF : ∀ k ∈ [7, 10, 13, 16], (w.1 k).1 = 0) : HT l yX2_init cX2_init 2 none 1 4 33 w [ar 4, ai 0] (rV (iX2_init2 w)) := by
  refine HT.of (by decide) (by intro v hv; simp only [List.mem_cons, List.not_mem_nil, or_false] at hv; rcases hv with rfl | rfl <;> rfl) (Nat.le_of_ble_eq_true rfl) ?_
  intro Γ h hQ hRm hnm hl hw0
  refine g_aload_n h dX2_init_0 rfl ?_
  refine g_objinit h obX2_3 in_obj co_obj rfl (by rw [hRm]; first | decide | (simp only [clS]; omega)) (by rw [hRm]; first | decide | (simp only [clS]; omega)) (fun _ => Nat.le_of_ble_eq_true rfl) dX2_init_1 ?_
  refine g_aload_n h dX2_init_4 rfl ?_
  refine g_bipush h dX2_init_5 rfl ?_
  refine g_newi h (7) (nn := 10) arc_int (by decide) (by decide) (hF 7 (by decide)) (by first | omega | assumption) (by rw [hRm]; simp only [clS]; omega) (by rw [hRm]; simp only [clS]; omega) dX2_init_7 ?_
  refine g_putFQ h flX2_9 rfl hnm rfl (Or.inr ⟨_, rfl⟩) (by assumption) dX2_init_9 ?_
  refine g_aload_n h dX2_init_12 rfl ?_
  refine g_bipush h dX2_init_13 rfl ?_
  refine g_newi h (10) (nn := 10) arc_int (by decide) (by decide) (hF 10 (by decide)) (by first | omega | assumption) (by rw [hRm]; simp only [clS]; omega) (by rw [hRm]; simp only [clS]; omega) dX2_init_15 ?_
  refine g_putFQ h flX2_15 rfl hnm rfl (Or.inr ⟨_, rfl⟩) (by assumption) dX2_init_17 ?_
  refine g_aload_n h dX2_init_20 rfl ?_
  refine g_bipush h dX2_init_21 rfl ?_
  refine g_newi h (13) (nn := 10) arc_int (by decide) (by decide) (hF 13 (by decide)) (by first | omega | assumption) (by rw [hRm]; simp only [clS]; omega) (by rw [hRm]; simp only [clS]; omega) dX2_init_23 ?_
  refine g_putFQ h flX2_18 rfl hnm rfl (Or.inr ⟨_, rfl⟩) (by assumption) dX2_init_25 ?_
  refine g_aload_n h dX2_init_28 rfl ?_
  refine g_iconst h dX2_init_29 ?_
  refine g_newq h (ci := 3) (16) (nn := 3) ao_3 cnX2_21 (by unfold arK; omega) rfl (by decide) (by decide) (hF 16 (by decide)) (by first | omega | assumption) (by rw [hRm]; simp only [clS]; omega) (by rw [hRm]; simp only [clS]; omega) dX2_init_30 ?_
  refine g_putFQ h flX2_23 rfl hnm rfl (Or.inr ⟨_, rfl⟩) (by assumption) dX2_init_33 ?_
  refine g_aload_n h dX2_init_36 rfl ?_
  refine g_sipush h dX2_init_37 rfl ?_
  refine g_putI h flX2_27 rfl rfl (by assumption) dX2_init_40 ?_
  refine g_aload_n h dX2_init_43 rfl ?_
  refine g_bipush h dX2_init_44 rfl ?_
  refine g_putI h flX2_31 rfl rfl (by assumption) dX2_init_46 ?_
  refine g_aload_n h dX2_init_49 rfl ?_
  refine g_iload_n h dX2_init_50 rfl ?_
  refine g_putI h flX2_34 rfl rfl (by assumption) dX2_init_51 ?_
  refine g_vret h hQ (by first | decide | omega | (simp only [clS]; omega)) (by first | decide | omega | (simp only [clS]; omega)) ?_ dX2_init_54
  exact ⟨rfl, rfl⟩
def iX6_init (w : AW) : AW := (upP (upP (alc (upP (alc w 24 (1, 300)) 23 13 (some 24)) 25 (1, 300)) 23 15 (some 25)) 23 0 (some 21))
set_option maxRecDepth 100000 in
set_option maxHeartbeats 4000000 in
theorem c_X6_init (l : Launch) (w : AW)  (hq : w.1 23 = (106, 0)) (hF : ∀ k ∈ [24, 25], (w.1 k).1 = 0) : HT l yX6_init cX6_init 2 none 1 2 600 w [ar 23, ar 21] (rV (iX6_init w)) := by
  refine HT.of (by decide) (by intro v hv; simp only [List.mem_cons, List.not_mem_nil, or_false] at hv; rcases hv with rfl | rfl <;> rfl) (Nat.le_of_ble_eq_true rfl) ?_
  intro Γ h hQ hRm hnm hl hw0
  refine g_aload_n h dX6_init_0 rfl ?_
  refine g_objinit h obX6_3 in_obj co_obj rfl (by rw [hRm]; first | decide | (simp only [clS]; omega)) (by rw [hRm]; first | decide | (simp only [clS]; omega)) (fun _ => Nat.le_of_ble_eq_true rfl) dX6_init_1 ?_
  refine g_aload_n h dX6_init_4 rfl ?_
  refine g_sipush h dX6_init_5 rfl ?_
  refine g_newi h (24) (nn := 300) arc_int (by decide) (by decide) (hF 24 (by decide)) (by first | omega | assumption) (by rw [hRm]; simp only [clS]; omega) (by rw [hRm]; simp only [clS]; omega) dX6_init_8 ?_
  refine g_putFQ h flX6_9 rfl hnm rfl (Or.inr ⟨_, rfl⟩) (by assumption) dX6_init_10 ?_
  refine g_aload_n h dX6_init_13 rfl ?_
  refine g_sipush h dX6_init_14 rfl ?_
  refine g_newi h (25) (nn := 300) arc_int (by decide) (by decide) (hF 25 (by decide)) (by first | omega | assumption) (by rw [hRm]; simp only [clS]; omega) (by rw [hRm]; simp only [clS]; omega) dX6_init_17 ?_
  refine g_putFQ h flX6_15 rfl hnm rfl (Or.inr ⟨_, rfl⟩) (by assumption) dX6_init_19 ?_
  refine g_aload_n h dX6_init_22 rfl ?_
  refine g_aload_n h dX6_init_23 rfl ?_
  refine g_putFQ h flX6_18 rfl hnm rfl (Or.inr ⟨_, rfl⟩) (by assumption) dX6_init_24 ?_
  refine g_vret h hQ (by first | decide | omega | (simp only [clS]; omega)) (by first | decide | omega | (simp only [clS]; omega)) ?_ dX6_init_27
  exact ⟨rfl, rfl⟩
def iX7_init (w : AW) : AW := (upP (alc (upP (alc (upP (alc (upP (alc (upP (alc (upP (alc (upP (alc w 29 (1, 300)) 28 0 (some 29)) 30 (1, 300)) 28 1 (some 30)) 31 (1, 300)) 28 2 (some 31)) 32 (1, 60)) 28 4 (some 32)) 33 (1, 60)) 28 5 (some 33)) 34 (1, 60)) 28 6 (some 34)) 35 (1, 60)) 28 7 (some 35))
set_option maxRecDepth 100000 in
set_option maxHeartbeats 4000000 in
theorem c_X7_init (l : Launch) (w : AW)  (hq : w.1 28 = (107, 0)) (hF : ∀ k ∈ [29, 30, 31, 32, 33, 34, 35], (w.1 k).1 = 0) : HT l yX7_init cX7_init 1 none 1 7 1140 w [ar 28] (rV (iX7_init w)) := by
  refine HT.of (by decide) (by intro v hv; simp only [List.mem_cons, List.not_mem_nil, or_false] at hv; rcases hv with rfl <;> rfl) (Nat.le_of_ble_eq_true rfl) ?_
  intro Γ h hQ hRm hnm hl hw0
  refine g_aload_n h dX7_init_0 rfl ?_
  refine g_objinit h obX7_3 in_obj co_obj rfl (by rw [hRm]; first | decide | (simp only [clS]; omega)) (by rw [hRm]; first | decide | (simp only [clS]; omega)) (fun _ => Nat.le_of_ble_eq_true rfl) dX7_init_1 ?_
  refine g_aload_n h dX7_init_4 rfl ?_
  refine g_sipush h dX7_init_5 rfl ?_
  refine g_newi h (29) (nn := 300) arc_int (by decide) (by decide) (hF 29 (by decide)) (by first | omega | assumption) (by rw [hRm]; simp only [clS]; omega) (by rw [hRm]; simp only [clS]; omega) dX7_init_8 ?_
  refine g_putFQ h flX7_9 rfl hnm rfl (Or.inr ⟨_, rfl⟩) (by assumption) dX7_init_10 ?_
  refine g_aload_n h dX7_init_13 rfl ?_
  refine g_sipush h dX7_init_14 rfl ?_
  refine g_newi h (30) (nn := 300) arc_int (by decide) (by decide) (hF 30 (by decide)) (by first | omega | assumption) (by rw [hRm]; simp only [clS]; omega) (by rw [hRm]; simp only [clS]; omega) dX7_init_17 ?_
  refine g_putFQ h flX7_15 rfl hnm rfl (Or.inr ⟨_, rfl⟩) (by assumption) dX7_init_19 ?_
  refine g_aload_n h dX7_init_22 rfl ?_
  refine g_sipush h dX7_init_23 rfl ?_
  refine g_newi h (31) (nn := 300) arc_int (by decide) (by decide) (hF 31 (by decide)) (by first | omega | assumption) (by rw [hRm]; simp only [clS]; omega) (by rw [hRm]; simp only [clS]; omega) dX7_init_26 ?_
  refine g_putFQ h flX7_18 rfl hnm rfl (Or.inr ⟨_, rfl⟩) (by assumption) dX7_init_28 ?_
  refine g_aload_n h dX7_init_31 rfl ?_
  refine g_bipush h dX7_init_32 rfl ?_
  refine g_newi h (32) (nn := 60) arc_int (by decide) (by decide) (hF 32 (by decide)) (by first | omega | assumption) (by rw [hRm]; simp only [clS]; omega) (by rw [hRm]; simp only [clS]; omega) dX7_init_34 ?_
  refine g_putFQ h flX7_21 rfl hnm rfl (Or.inr ⟨_, rfl⟩) (by assumption) dX7_init_36 ?_
  refine g_aload_n h dX7_init_39 rfl ?_
  refine g_bipush h dX7_init_40 rfl ?_
  refine g_newi h (33) (nn := 60) arc_int (by decide) (by decide) (hF 33 (by decide)) (by first | omega | assumption) (by rw [hRm]; simp only [clS]; omega) (by rw [hRm]; simp only [clS]; omega) dX7_init_42 ?_
  refine g_putFQ h flX7_24 rfl hnm rfl (Or.inr ⟨_, rfl⟩) (by assumption) dX7_init_44 ?_
  refine g_aload_n h dX7_init_47 rfl ?_
  refine g_bipush h dX7_init_48 rfl ?_
  refine g_newi h (34) (nn := 60) arc_int (by decide) (by decide) (hF 34 (by decide)) (by first | omega | assumption) (by rw [hRm]; simp only [clS]; omega) (by rw [hRm]; simp only [clS]; omega) dX7_init_50 ?_
  refine g_putFQ h flX7_27 rfl hnm rfl (Or.inr ⟨_, rfl⟩) (by assumption) dX7_init_52 ?_
  refine g_aload_n h dX7_init_55 rfl ?_
  refine g_bipush h dX7_init_56 rfl ?_
  refine g_newi h (35) (nn := 60) arc_int (by decide) (by decide) (hF 35 (by decide)) (by first | omega | assumption) (by rw [hRm]; simp only [clS]; omega) (by rw [hRm]; simp only [clS]; omega) dX7_init_58 ?_
  refine g_putFQ h flX7_30 rfl hnm rfl (Or.inr ⟨_, rfl⟩) (by assumption) dX7_init_60 ?_
  refine g_vret h hQ (by first | decide | omega | (simp only [clS]; omega)) (by first | decide | omega | (simp only [clS]; omega)) ?_ dX7_init_63
  exact ⟨rfl, rfl⟩
def iX0_init (w : AW) : AW := (upP (iX1_init (alc (upP (alc (upP (alc (upI (upI (upI (upP (alc w 37 (1, 400)) 36 0 (some 37)) 36 1 (20)) 36 2 (100)) 36 3 (5)) 38 (1, 400)) 36 4 (some 38)) 39 (1, 400)) 36 6 (some 39)) 40 (101, 0))) 36 7 (some 40))
set_option maxRecDepth 100000 in
set_option maxHeartbeats 4000000 in
theorem c_X0_init (l : Launch) (w : AW)  (hq : w.1 36 = (100, 0)) (hF : ∀ k ∈ [37, 38, 39, 40, 41], (w.1 k).1 = 0) : HT l yX0_init cX0_init 1 none 2 5 2803 w [ar 36] (rV (iX0_init w)) := by
  refine HT.of (by decide) (by intro v hv; simp only [List.mem_cons, List.not_mem_nil, or_false] at hv; rcases hv with rfl <;> rfl) (Nat.le_of_ble_eq_true rfl) ?_
  intro Γ h hQ hRm hnm hl hw0
  refine g_aload_n h dX0_init_0 rfl ?_
  refine g_objinit h obX0_3 in_obj co_obj rfl (by rw [hRm]; first | decide | (simp only [clS]; omega)) (by rw [hRm]; first | decide | (simp only [clS]; omega)) (fun _ => Nat.le_of_ble_eq_true rfl) dX0_init_1 ?_
  refine g_aload_n h dX0_init_4 rfl ?_
  refine g_sipush h dX0_init_5 rfl ?_
  refine g_newi h (37) (nn := 400) arc_int (by decide) (by decide) (hF 37 (by decide)) (by first | omega | assumption) (by rw [hRm]; simp only [clS]; omega) (by rw [hRm]; simp only [clS]; omega) dX0_init_8 ?_
  refine g_putFQ h flX0_9 rfl hnm rfl (Or.inr ⟨_, rfl⟩) (by assumption) dX0_init_10 ?_
  refine g_aload_n h dX0_init_13 rfl ?_
  refine g_bipush h dX0_init_14 rfl ?_
  refine g_putI h flX0_15 rfl rfl (by assumption) dX0_init_16 ?_
  refine g_aload_n h dX0_init_19 rfl ?_
  refine g_bipush h dX0_init_20 rfl ?_
  refine g_putI h flX0_19 rfl rfl (by assumption) dX0_init_22 ?_
  refine g_aload_n h dX0_init_25 rfl ?_
  refine g_iconst h dX0_init_26 ?_
  refine g_putI h flX0_22 rfl rfl (by assumption) dX0_init_27 ?_
  refine g_aload_n h dX0_init_30 rfl ?_
  refine g_sipush h dX0_init_31 rfl ?_
  refine g_newi h (38) (nn := 400) arc_int (by decide) (by decide) (hF 38 (by decide)) (by first | omega | assumption) (by rw [hRm]; simp only [clS]; omega) (by rw [hRm]; simp only [clS]; omega) dX0_init_34 ?_
  refine g_putFQ h flX0_25 rfl hnm rfl (Or.inr ⟨_, rfl⟩) (by assumption) dX0_init_36 ?_
  refine g_aload_n h dX0_init_39 rfl ?_
  refine g_sipush h dX0_init_40 rfl ?_
  refine g_newi h (39) (nn := 400) arc_int (by decide) (by decide) (hF 39 (by decide)) (by first | omega | assumption) (by rw [hRm]; simp only [clS]; omega) (by rw [hRm]; simp only [clS]; omega) dX0_init_43 ?_
  refine g_putFQ h flX0_28 rfl hnm rfl (Or.inr ⟨_, rfl⟩) (by assumption) dX0_init_45 ?_
  refine g_aload_n h dX0_init_48 rfl ?_
  refine g_new h (ci := 1) (40) (by decide) cnX0_31 ins_1 ini_1 wsin_1 (hF 40 (by decide)) (by first | omega | assumption) (by rw [hRm]; simp only [clS]; omega) (by rw [hRm]; simp only [clS]; omega) dX0_init_49 ?_
  refine g_dup h dX0_init_52 rfl ?_
  refine g_sipush h dX0_init_53 rfl ?_
  refine g_callI h rfl [_] (c_X1_init _ _ rfl (fun k hk => by simp only [List.mem_cons, List.not_mem_nil, or_false] at hk; subst hk; exact hF 41 (by decide))) clX0_33 in_X1_init rfl rfl rfl (by rw [hRm]; first | decide | (simp only [clS]; omega)) (by rw [hRm]; first | decide | (simp only [clS]; omega)) (fun _ => Nat.le_of_ble_eq_true rfl) (by rw [hRm]; first | decide | (simp only [clS]; omega)) (by rw [hRm]; first | decide | (simp only [clS]; omega)) dX0_init_56 (fun r56 w56 hp56 => ?_)
  obtain ⟨rfl, hw56⟩ := hp56
  rw [hw56]
  refine g_putFQ h flX0_36 rfl hnm rfl (Or.inl ⟨_, rfl⟩) (by assumption) dX0_init_59 ?_
  refine g_vret h hQ (by first | decide | omega | (simp only [clS]; omega)) (by first | decide | omega | (simp only [clS]; omega)) ?_ dX0_init_62
  exact ⟨rfl, rfl⟩
def iX5_init (w : AW) : AW := (upP (alc (upP (alc (upP (iX6_init (alc (upP (alc (upP (alc w 21 (1, 300)) 20 0 (some 21)) 22 (204, 16)) 20 2 (some 22)) 23 (106, 0))) 20 4 (some 23)) 26 (1, 9)) 20 7 (some 26)) 27 (1, 31)) 20 8 (some 27))
set_option maxRecDepth 100000 in
set_option maxHeartbeats 4000000 in
theorem c_X5_init (l : Launch) (w : AW)  (hq : w.1 20 = (105, 0)) (hF : ∀ k ∈ [21, 22, 23, 24, 25, 26, 27], (w.1 k).1 = 0) : HT l yX5_init cX5_init 1 none 2 7 973 w [ar 20] (rV (iX5_init w)) := by
  refine HT.of (by decide) (by intro v hv; simp only [List.mem_cons, List.not_mem_nil, or_false] at hv; rcases hv with rfl <;> rfl) (Nat.le_of_ble_eq_true rfl) ?_
  intro Γ h hQ hRm hnm hl hw0
  refine g_aload_n h dX5_init_0 rfl ?_
  refine g_objinit h obX5_3 in_obj co_obj rfl (by rw [hRm]; first | decide | (simp only [clS]; omega)) (by rw [hRm]; first | decide | (simp only [clS]; omega)) (fun _ => Nat.le_of_ble_eq_true rfl) dX5_init_1 ?_
  refine g_aload_n h dX5_init_4 rfl ?_
  refine g_sipush h dX5_init_5 rfl ?_
  refine g_newi h (21) (nn := 300) arc_int (by decide) (by decide) (hF 21 (by decide)) (by first | omega | assumption) (by rw [hRm]; simp only [clS]; omega) (by rw [hRm]; simp only [clS]; omega) dX5_init_8 ?_
  refine g_putFQ h flX5_9 rfl hnm rfl (Or.inr ⟨_, rfl⟩) (by assumption) dX5_init_10 ?_
  refine g_aload_n h dX5_init_13 rfl ?_
  refine g_bipush h dX5_init_14 rfl ?_
  refine g_newq h (ci := 4) (22) (nn := 16) ao_4 cnX5_15 (by unfold arK; omega) rfl (by decide) (by decide) (hF 22 (by decide)) (by first | omega | assumption) (by rw [hRm]; simp only [clS]; omega) (by rw [hRm]; simp only [clS]; omega) dX5_init_16 ?_
  refine g_putFQ h flX5_17 rfl hnm rfl (Or.inr ⟨_, rfl⟩) (by assumption) dX5_init_19 ?_
  refine g_aload_n h dX5_init_22 rfl ?_
  refine g_new h (ci := 6) (23) (by decide) cnX5_21 ins_6 ini_6 wsin_6 (hF 23 (by decide)) (by first | omega | assumption) (by rw [hRm]; simp only [clS]; omega) (by rw [hRm]; simp only [clS]; omega) dX5_init_23 ?_
  refine g_dup h dX5_init_26 rfl ?_
  refine g_aload_n h dX5_init_27 rfl ?_
  refine g_getQ h flX5_9 rfl (by assumption) (show _ = some 21 from rfl) dX5_init_28 ?_
  refine g_callI h rfl [_] (c_X6_init _ _ rfl (fun k hk => by
      simp only [List.mem_cons, List.not_mem_nil, or_false] at hk
      rcases hk with rfl | rfl
      · exact hF 24 (by decide)
      · exact hF 25 (by decide))) clX5_23 in_X6_init rfl rfl rfl (by rw [hRm]; first | decide | (simp only [clS]; omega)) (by rw [hRm]; first | decide | (simp only [clS]; omega)) (fun _ => Nat.le_of_ble_eq_true rfl) (by rw [hRm]; first | decide | (simp only [clS]; omega)) (by rw [hRm]; first | decide | (simp only [clS]; omega)) dX5_init_31 (fun r31 w31 hp31 => ?_)
  obtain ⟨rfl, hw31⟩ := hp31
  rw [hw31]
  refine g_putFQ h flX5_26 rfl hnm rfl (Or.inl ⟨_, rfl⟩) (by assumption) dX5_init_34 ?_
  refine g_aload_n h dX5_init_37 rfl ?_
  refine g_bipush h dX5_init_38 rfl ?_
  refine g_newi h (26) (nn := 9) arc_int (by decide) (by decide) (hF 26 (by decide)) (by first | omega | assumption) (by rw [hRm]; simp only [clS]; omega) (by rw [hRm]; simp only [clS]; omega) dX5_init_40 ?_
  refine g_putFQ h flX5_30 rfl hnm rfl (Or.inr ⟨_, rfl⟩) (by assumption) dX5_init_42 ?_
  refine g_aload_n h dX5_init_45 rfl ?_
  refine g_bipush h dX5_init_46 rfl ?_
  refine g_newi h (27) (nn := 31) arc_int (by decide) (by decide) (hF 27 (by decide)) (by first | omega | assumption) (by rw [hRm]; simp only [clS]; omega) (by rw [hRm]; simp only [clS]; omega) dX5_init_48 ?_
  refine g_putFQ h flX5_33 rfl hnm rfl (Or.inr ⟨_, rfl⟩) (by assumption) dX5_init_50 ?_
  refine g_vret h hQ (by first | decide | omega | (simp only [clS]; omega)) (by first | decide | omega | (simp only [clS]; omega)) ?_ dX5_init_53
  exact ⟨rfl, rfl⟩
def iX9a (w : AW) : AW := (upI (upP (alc (upP (iX0_init (alc (upP (iX7_init (alc (upP (iX5_init (alc (upP (alc (upP (alc (upP (alc (upP (iX2_init2 (alc (upP (alc w 1 (202, 2)) 0 0 (some 1)) 4 (102, 0))) 0 1 (some 4)) 17 (203, 6)) 0 2 (some 17)) 18 (1, 3)) 0 4 (some 18)) 19 (1, 3)) 0 5 (some 19)) 20 (105, 0))) 0 7 (some 20)) 28 (107, 0))) 0 9 (some 28)) 36 (100, 0))) 0 10 (some 36)) 42 (208, 20)) 0 11 (some 42)) 0 14 (-2))
def iX9b (w : AW) : AW := upP (iX2_init0 (alc (iX9a w) 2 (102, 0))) 1 0 (some 2)
def iX9_init (w : AW) : AW := upP (iX2_init1 (alc (iX9b w) 3 (102, 0))) 1 1 (some 3)
set_option maxRecDepth 100000 in
set_option maxHeartbeats 4000000 in
theorem c_X9_init (l : Launch) (w : AW)  (hq : w.1 0 = (109, 0)) (hF : ∀ k, 0 < k → k < 43 → (w.1 k).1 = 0) : HT l yX9_init cX9_init 2 none 3 42 5120 w [ar 0] (rV (iX9_init w)) := by
  refine HT.of (by decide) (by intro v hv; simp only [List.mem_cons, List.not_mem_nil, or_false] at hv; rcases hv with rfl <;> rfl) (Nat.le_of_ble_eq_true rfl) ?_
  intro Γ h hQ hRm hnm hl hw0
  have z2 : GG Γ 97 [some (ar 0), some (ai 2)] [] (iX9_init w) 42 5120 := by
    have a0 : (iX9_init w).1 0 = (109, 0) := hq
    have a1 : (iX9_init w).1 1 = (202, 2) := rfl
    have a2 : (iX9_init w).2.2 0 0 = some 1 := rfl
    refine g_iload_n h dX9_init_97 rfl ?_
    refine g_aload_n h dX9_init_98 rfl ?_
    refine g_getQ h flX9_11 rfl (by assumption) (by assumption) dX9_init_99 ?_
    refine g_alen h (by assumption) (by unfold arK; omega) dX9_init_102 ?_
    refine g_icmp_ge (tgt := 136) h dX9_init_103 (by decide) (by first | assumption | exact ⟨by omega, by omega⟩) (by first | assumption | exact ⟨by omega, by omega⟩) (fun c103 => ?_) (fun c103 => ?_)
    · refine g_vret h hQ (by first | decide | omega | (simp only [clS]; omega)) (by first | decide | omega | (simp only [clS]; omega)) ?_ dX9_init_136
      exact ⟨rfl, rfl⟩
    · exfalso; omega
  have z1 : GG Γ 97 [some (ar 0), some (ai 1)] [] (iX9b w) 37 5072 := by
    have a0 : (iX9b w).1 0 = (109, 0) := hq
    have a1 : (iX9b w).1 1 = (202, 2) := rfl
    have a2 : (iX9b w).2.2 0 0 = some 1 := rfl
    refine g_iload_n h dX9_init_97 rfl ?_
    refine g_aload_n h dX9_init_98 rfl ?_
    refine g_getQ h flX9_11 rfl (by assumption) (by assumption) dX9_init_99 ?_
    refine g_alen h (by assumption) (by unfold arK; omega) dX9_init_102 ?_
    refine g_icmp_ge (tgt := 136) h dX9_init_103 (by decide) (by first | assumption | exact ⟨by omega, by omega⟩) (by first | assumption | exact ⟨by omega, by omega⟩) (fun c103 => ?_) (fun c103 => ?_)
    · exfalso; omega
    · refine g_aload_n h dX9_init_106 rfl ?_
      refine g_getQ h flX9_11 rfl (by assumption) (by assumption) dX9_init_107 ?_
      refine g_iload_n h dX9_init_110 rfl ?_
      refine g_new h (ci := 2) (3) (by decide) cnX9_9 ins_2 ini_2 wsin_2 (hF 3 (by decide) (by decide)) (by first | omega | assumption) (by rw [hRm]; simp only [clS]; omega) (by rw [hRm]; simp only [clS]; omega) dX9_init_111 ?_
      refine g_dup h dX9_init_114 rfl ?_
      refine g_iload_n h dX9_init_115 rfl ?_
      refine g_if_ne (tgt := 123) h dX9_init_116 (by decide) (by first | assumption | exact ⟨by omega, by omega⟩) (fun c116 => ?_) (fun c116 => ?_)
      · refine g_sipush h dX9_init_123 rfl ?_
        refine g_callI h rfl [_] (c_X2_init1 _ _ rfl (fun k hk => by
            simp only [List.mem_cons, List.not_mem_nil, or_false] at hk
            rcases hk with rfl | rfl | rfl | rfl
            · exact hF 6 (by decide) (by decide)
            · exact hF 9 (by decide) (by decide)
            · exact hF 12 (by decide) (by decide)
            · exact hF 15 (by decide) (by decide))) clX9_15 in_X2_init rfl rfl rfl (by rw [hRm]; first | decide | (simp only [clS]; omega)) (by rw [hRm]; first | decide | (simp only [clS]; omega)) (fun _ => Nat.le_of_ble_eq_true rfl) (by rw [hRm]; first | decide | (simp only [clS]; omega)) (by rw [hRm]; first | decide | (simp only [clS]; omega)) dX9_init_126 (fun r126 w126 hp126 => ?_)
        obtain ⟨rfl, hw126⟩ := hp126
        rw [hw126]
        have b1 : (iX2_init1 (alc (iX9b w) 3 (102, 0))).1 1 = (202, 2) := rfl
        have b2 : (iX2_init1 (alc (iX9b w) 3 (102, 0))).1 3 = (102, 0) := rfl
        refine g_aast h (ci := 2) (1) (by assumption) (by unfold arK; omega) (by decide) (by assumption) (by first | omega | assumption) (by first | omega | assumption) (by first | decide | omega) dX9_init_129 ?_
        refine g_iinc h dX9_init_130 rfl (Nat.le_of_ble_eq_true rfl) rfl rfl ?_
        refine g_goto (tgt := 97) h dX9_init_133 (by decide) ?_
        exact z2
      · exfalso; omega
  have z0 : GG Γ 97 [some (ar 0), some (ai 0)] [] (iX9a w) 32 5024 := by
    have a0 : (iX9a w).1 0 = (109, 0) := hq
    have a1 : (iX9a w).1 1 = (202, 2) := rfl
    have a2 : (iX9a w).2.2 0 0 = some 1 := rfl
    refine g_iload_n h dX9_init_97 rfl ?_
    refine g_aload_n h dX9_init_98 rfl ?_
    refine g_getQ h flX9_11 rfl (by assumption) (by assumption) dX9_init_99 ?_
    refine g_alen h (by assumption) (by unfold arK; omega) dX9_init_102 ?_
    refine g_icmp_ge (tgt := 136) h dX9_init_103 (by decide) (by first | assumption | exact ⟨by omega, by omega⟩) (by first | assumption | exact ⟨by omega, by omega⟩) (fun c103 => ?_) (fun c103 => ?_)
    · exfalso; omega
    · refine g_aload_n h dX9_init_106 rfl ?_
      refine g_getQ h flX9_11 rfl (by assumption) (by assumption) dX9_init_107 ?_
      refine g_iload_n h dX9_init_110 rfl ?_
      refine g_new h (ci := 2) (2) (by decide) cnX9_9 ins_2 ini_2 wsin_2 (hF 2 (by decide) (by decide)) (by first | omega | assumption) (by rw [hRm]; simp only [clS]; omega) (by rw [hRm]; simp only [clS]; omega) dX9_init_111 ?_
      refine g_dup h dX9_init_114 rfl ?_
      refine g_iload_n h dX9_init_115 rfl ?_
      refine g_if_ne (tgt := 123) h dX9_init_116 (by decide) (by first | assumption | exact ⟨by omega, by omega⟩) (fun c116 => ?_) (fun c116 => ?_)
      · exfalso; omega
      · refine g_iconst h dX9_init_119 ?_
        refine g_goto (tgt := 126) h dX9_init_120 (by decide) ?_
        refine g_callI h rfl [_] (c_X2_init0 _ _ rfl (fun k hk => by
            simp only [List.mem_cons, List.not_mem_nil, or_false] at hk
            rcases hk with rfl | rfl | rfl | rfl
            · exact hF 5 (by decide) (by decide)
            · exact hF 8 (by decide) (by decide)
            · exact hF 11 (by decide) (by decide)
            · exact hF 14 (by decide) (by decide))) clX9_15 in_X2_init rfl rfl rfl (by rw [hRm]; first | decide | (simp only [clS]; omega)) (by rw [hRm]; first | decide | (simp only [clS]; omega)) (fun _ => Nat.le_of_ble_eq_true rfl) (by rw [hRm]; first | decide | (simp only [clS]; omega)) (by rw [hRm]; first | decide | (simp only [clS]; omega)) dX9_init_126 (fun r126 w126 hp126 => ?_)
        obtain ⟨rfl, hw126⟩ := hp126
        rw [hw126]
        have b1 : (iX2_init0 (alc (iX9a w) 2 (102, 0))).1 1 = (202, 2) := rfl
        have b2 : (iX2_init0 (alc (iX9a w) 2 (102, 0))).1 2 = (102, 0) := rfl
        refine g_aast h (ci := 2) (0) (by assumption) (by unfold arK; omega) (by decide) (by assumption) (by first | omega | assumption) (by first | omega | assumption) (by first | decide | omega) dX9_init_129 ?_
        refine g_iinc h dX9_init_130 rfl (Nat.le_of_ble_eq_true rfl) rfl rfl ?_
        refine g_goto (tgt := 97) h dX9_init_133 (by decide) ?_
        exact z1
  refine g_aload_n h dX9_init_0 rfl ?_
  refine g_objinit h obX9_1 in_obj co_obj rfl (by rw [hRm]; first | decide | (simp only [clS]; omega)) (by rw [hRm]; first | decide | (simp only [clS]; omega)) (fun _ => Nat.le_of_ble_eq_true rfl) dX9_init_1 ?_
  refine g_aload_n h dX9_init_4 rfl ?_
  refine g_iconst h dX9_init_5 ?_
  refine g_newq h (ci := 2) (1) (nn := 2) ao_2 cnX9_9 (by unfold arK; omega) rfl (by decide) (by decide) (hF 1 (by decide) (by decide)) (by first | omega | assumption) (by rw [hRm]; simp only [clS]; omega) (by rw [hRm]; simp only [clS]; omega) dX9_init_6 ?_
  refine g_putFQ h flX9_11 rfl hnm rfl (Or.inr ⟨_, rfl⟩) (by assumption) dX9_init_9 ?_
  refine g_aload_n h dX9_init_12 rfl ?_
  refine g_new h (ci := 2) (4) (by decide) cnX9_9 ins_2 ini_2 wsin_2 (hF 4 (by decide) (by decide)) (by first | omega | assumption) (by rw [hRm]; simp only [clS]; omega) (by rw [hRm]; simp only [clS]; omega) dX9_init_13 ?_
  refine g_dup h dX9_init_16 rfl ?_
  refine g_iconst h dX9_init_17 ?_
  refine g_callI h rfl [_] (c_X2_init2 _ _ rfl (fun k hk => by
      simp only [List.mem_cons, List.not_mem_nil, or_false] at hk
      rcases hk with rfl | rfl | rfl | rfl
      · exact hF 7 (by decide) (by decide)
      · exact hF 10 (by decide) (by decide)
      · exact hF 13 (by decide) (by decide)
      · exact hF 16 (by decide) (by decide))) clX9_15 in_X2_init rfl rfl rfl (by rw [hRm]; first | decide | (simp only [clS]; omega)) (by rw [hRm]; first | decide | (simp only [clS]; omega)) (fun _ => Nat.le_of_ble_eq_true rfl) (by rw [hRm]; first | decide | (simp only [clS]; omega)) (by rw [hRm]; first | decide | (simp only [clS]; omega)) dX9_init_18 (fun r18 w18 hp18 => ?_)
  obtain ⟨rfl, hw18⟩ := hp18
  rw [hw18]
  refine g_putFQ h flX9_18 rfl hnm rfl (Or.inl ⟨_, rfl⟩) (by assumption) dX9_init_21 ?_
  refine g_aload_n h dX9_init_24 rfl ?_
  refine g_bipush h dX9_init_25 rfl ?_
  refine g_newq h (ci := 3) (17) (nn := 6) ao_3 cnX9_22 (by unfold arK; omega) rfl (by decide) (by decide) (hF 17 (by decide) (by decide)) (by first | omega | assumption) (by rw [hRm]; simp only [clS]; omega) (by rw [hRm]; simp only [clS]; omega) dX9_init_27 ?_
  refine g_putFQ h flX9_24 rfl hnm rfl (Or.inr ⟨_, rfl⟩) (by assumption) dX9_init_30 ?_
  refine g_aload_n h dX9_init_33 rfl ?_
  refine g_iconst h dX9_init_34 ?_
  refine g_newi h (18) (nn := 3) arc_int (by decide) (by decide) (hF 18 (by decide) (by decide)) (by first | omega | assumption) (by rw [hRm]; simp only [clS]; omega) (by rw [hRm]; simp only [clS]; omega) dX9_init_35 ?_
  refine g_putFQ h flX9_28 rfl hnm rfl (Or.inr ⟨_, rfl⟩) (by assumption) dX9_init_37 ?_
  refine g_aload_n h dX9_init_40 rfl ?_
  refine g_iconst h dX9_init_41 ?_
  refine g_newi h (19) (nn := 3) arc_int (by decide) (by decide) (hF 19 (by decide) (by decide)) (by first | omega | assumption) (by rw [hRm]; simp only [clS]; omega) (by rw [hRm]; simp only [clS]; omega) dX9_init_42 ?_
  refine g_putFQ h flX9_32 rfl hnm rfl (Or.inr ⟨_, rfl⟩) (by assumption) dX9_init_44 ?_
  refine g_aload_n h dX9_init_47 rfl ?_
  refine g_new h (ci := 5) (20) (by decide) cnX9_35 ins_5 ini_5 wsin_5 (hF 20 (by decide) (by decide)) (by first | omega | assumption) (by rw [hRm]; simp only [clS]; omega) (by rw [hRm]; simp only [clS]; omega) dX9_init_48 ?_
  refine g_dup h dX9_init_51 rfl ?_
  refine g_callIN h rfl [] (c_X5_init _ _ rfl (fun k hk => by
      simp only [List.mem_cons, List.not_mem_nil, or_false] at hk
      rcases hk with rfl | rfl | rfl | rfl | rfl | rfl | rfl
      · exact hF 21 (by decide) (by decide)
      · exact hF 22 (by decide) (by decide)
      · exact hF 23 (by decide) (by decide)
      · exact hF 24 (by decide) (by decide)
      · exact hF 25 (by decide) (by decide)
      · exact hF 26 (by decide) (by decide)
      · exact hF 27 (by decide) (by decide))) clX9_37 in_X5_init rfl rfl rfl (by rw [hRm]; first | decide | (simp only [clS]; omega)) (by rw [hRm]; first | decide | (simp only [clS]; omega)) (fun _ => Nat.le_of_ble_eq_true rfl) (by rw [hRm]; first | decide | (simp only [clS]; omega)) (by rw [hRm]; first | decide | (simp only [clS]; omega)) dX9_init_52 (fun r52 w52 hp52 => ?_)
  obtain ⟨rfl, hw52⟩ := hp52
  rw [hw52]
  refine g_putFQ h flX9_38 rfl hnm rfl (Or.inl ⟨_, rfl⟩) (by assumption) dX9_init_55 ?_
  refine g_aload_n h dX9_init_58 rfl ?_
  refine g_new h (ci := 7) (28) (by decide) cnX9_42 ins_7 ini_7 wsin_7 (hF 28 (by decide) (by decide)) (by first | omega | assumption) (by rw [hRm]; simp only [clS]; omega) (by rw [hRm]; simp only [clS]; omega) dX9_init_59 ?_
  refine g_dup h dX9_init_62 rfl ?_
  refine g_callIN h rfl [] (c_X7_init _ _ rfl (fun k hk => by
      simp only [List.mem_cons, List.not_mem_nil, or_false] at hk
      rcases hk with rfl | rfl | rfl | rfl | rfl | rfl | rfl
      · exact hF 29 (by decide) (by decide)
      · exact hF 30 (by decide) (by decide)
      · exact hF 31 (by decide) (by decide)
      · exact hF 32 (by decide) (by decide)
      · exact hF 33 (by decide) (by decide)
      · exact hF 34 (by decide) (by decide)
      · exact hF 35 (by decide) (by decide))) clX9_44 in_X7_init rfl rfl rfl (by rw [hRm]; first | decide | (simp only [clS]; omega)) (by rw [hRm]; first | decide | (simp only [clS]; omega)) (fun _ => Nat.le_of_ble_eq_true rfl) (by rw [hRm]; first | decide | (simp only [clS]; omega)) (by rw [hRm]; first | decide | (simp only [clS]; omega)) dX9_init_63 (fun r63 w63 hp63 => ?_)
  obtain ⟨rfl, hw63⟩ := hp63
  rw [hw63]
  refine g_putFQ h flX9_45 rfl hnm rfl (Or.inl ⟨_, rfl⟩) (by assumption) dX9_init_66 ?_
  refine g_aload_n h dX9_init_69 rfl ?_
  refine g_new h (ci := 0) (36) (by decide) cnX9_49 ins_0 ini_0 wsin_0 (hF 36 (by decide) (by decide)) (by first | omega | assumption) (by rw [hRm]; simp only [clS]; omega) (by rw [hRm]; simp only [clS]; omega) dX9_init_70 ?_
  refine g_dup h dX9_init_73 rfl ?_
  refine g_callIN h rfl [] (c_X0_init _ _ rfl (fun k hk => by
      simp only [List.mem_cons, List.not_mem_nil, or_false] at hk
      rcases hk with rfl | rfl | rfl | rfl | rfl
      · exact hF 37 (by decide) (by decide)
      · exact hF 38 (by decide) (by decide)
      · exact hF 39 (by decide) (by decide)
      · exact hF 40 (by decide) (by decide)
      · exact hF 41 (by decide) (by decide))) clX9_51 in_X0_init rfl rfl rfl (by rw [hRm]; first | decide | (simp only [clS]; omega)) (by rw [hRm]; first | decide | (simp only [clS]; omega)) (fun _ => Nat.le_of_ble_eq_true rfl) (by rw [hRm]; first | decide | (simp only [clS]; omega)) (by rw [hRm]; first | decide | (simp only [clS]; omega)) dX9_init_74 (fun r74 w74 hp74 => ?_)
  obtain ⟨rfl, hw74⟩ := hp74
  rw [hw74]
  refine g_putFQ h flX9_52 rfl hnm rfl (Or.inl ⟨_, rfl⟩) (by assumption) dX9_init_77 ?_
  refine g_aload_n h dX9_init_80 rfl ?_
  refine g_bipush h dX9_init_81 rfl ?_
  refine g_newq h (ci := 8) (42) (nn := 20) ao_8 cnX9_56 (by unfold arK; omega) rfl (by decide) (by decide) (hF 42 (by decide) (by decide)) (by first | omega | assumption) (by rw [hRm]; simp only [clS]; omega) (by rw [hRm]; simp only [clS]; omega) dX9_init_83 ?_
  refine g_putFQ h flX9_58 rfl hnm rfl (Or.inr ⟨_, rfl⟩) (by assumption) dX9_init_86 ?_
  refine g_aload_n h dX9_init_89 rfl ?_
  refine g_bipush h dX9_init_90 rfl ?_
  refine g_putI h flX9_62 rfl rfl (by assumption) dX9_init_92 ?_
  refine g_iconst h dX9_init_95 ?_
  refine g_istore_n h dX9_init_96 (Nat.le_of_ble_eq_true rfl) rfl rfl ?_
  exact z0
