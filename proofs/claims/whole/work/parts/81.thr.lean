/-! ===== the constructors that Stop runs ===== -/
def yT4 : MethodName := ⟨"java/lang/Throwable", "<init>", "(Ljava/lang/String;Ljava/lang/Throwable;ZZ)V"⟩
abbrev cT4 : ByteArray := prog_26_method_5_code
theorem dT4_0 : decode cT4 0 = .ok (.aload_n 0, 1) := by decide +kernel
theorem dT4_1 : decode cT4 1 = .ok (.invokespecial 1, 3) := by decide +kernel
theorem dT4_4 : decode cT4 4 = .ok (.aload_n 0, 1) := by decide +kernel
theorem dT4_5 : decode cT4 5 = .ok (.aload_n 0, 1) := by decide +kernel
theorem dT4_6 : decode cT4 6 = .ok (.putfield 7, 3) := by decide +kernel
theorem dT4_9 : decode cT4 9 = .ok (.aload_n 0, 1) := by decide +kernel
theorem dT4_10 : decode cT4 10 = .ok (.getstatic 13, 3) := by decide +kernel
theorem dT4_13 : decode cT4 13 = .ok (.putfield 17, 3) := by decide +kernel
theorem dT4_16 : decode cT4 16 = .ok (.aload_n 0, 1) := by decide +kernel
theorem dT4_17 : decode cT4 17 = .ok (.getstatic 20, 3) := by decide +kernel
theorem dT4_20 : decode cT4 20 = .ok (.putfield 24, 3) := by decide +kernel
theorem dT4_23 : decode cT4 23 = .ok (.iload 4, 2) := by decide +kernel
theorem dT4_25 : decode cT4 25 = .ok (.ifCond .eq 11, 3) := by decide +kernel
theorem dT4_36 : decode cT4 36 = .ok (.aload_n 0, 1) := by decide +kernel
theorem dT4_37 : decode cT4 37 = .ok (.aconst_null, 1) := by decide +kernel
theorem dT4_38 : decode cT4 38 = .ok (.putfield 17, 3) := by decide +kernel
theorem dT4_41 : decode cT4 41 = .ok (.aload_n 0, 1) := by decide +kernel
theorem dT4_42 : decode cT4 42 = .ok (.aload_n 1, 1) := by decide +kernel
theorem dT4_43 : decode cT4 43 = .ok (.putfield 31, 3) := by decide +kernel
theorem dT4_46 : decode cT4 46 = .ok (.aload_n 0, 1) := by decide +kernel
theorem dT4_47 : decode cT4 47 = .ok (.aload_n 2, 1) := by decide +kernel
theorem dT4_48 : decode cT4 48 = .ok (.putfield 7, 3) := by decide +kernel
theorem dT4_51 : decode cT4 51 = .ok (.iload_n 3, 1) := by decide +kernel
theorem dT4_52 : decode cT4 52 = .ok (.ifCond .ne 8, 3) := by decide +kernel
theorem dT4_55 : decode cT4 55 = .ok (.aload_n 0, 1) := by decide +kernel
theorem dT4_56 : decode cT4 56 = .ok (.aconst_null, 1) := by decide +kernel
theorem dT4_57 : decode cT4 57 = .ok (.putfield 24, 3) := by decide +kernel
theorem dT4_60 : decode cT4 60 = .ok (.return_, 1) := by decide +kernel
def yE4 : MethodName := ⟨"java/lang/Exception", "<init>", "(Ljava/lang/String;Ljava/lang/Throwable;ZZ)V"⟩
abbrev cE4 : ByteArray := prog_19_method_5_code
theorem dE4_0 : decode cE4 0 = .ok (.aload_n 0, 1) := by decide +kernel
theorem dE4_1 : decode cE4 1 = .ok (.aload_n 1, 1) := by decide +kernel
theorem dE4_2 : decode cE4 2 = .ok (.aload_n 2, 1) := by decide +kernel
theorem dE4_3 : decode cE4 3 = .ok (.iload_n 3, 1) := by decide +kernel
theorem dE4_4 : decode cE4 4 = .ok (.iload 4, 2) := by decide +kernel
theorem dE4_6 : decode cE4 6 = .ok (.invokespecial 16, 3) := by decide +kernel
theorem dE4_9 : decode cE4 9 = .ok (.return_, 1) := by decide +kernel
def yR4 : MethodName := ⟨"java/lang/RuntimeException", "<init>", "(Ljava/lang/String;Ljava/lang/Throwable;ZZ)V"⟩
abbrev cR4 : ByteArray := prog_21_method_5_code
theorem dR4_0 : decode cR4 0 = .ok (.aload_n 0, 1) := by decide +kernel
theorem dR4_1 : decode cR4 1 = .ok (.aload_n 1, 1) := by decide +kernel
theorem dR4_2 : decode cR4 2 = .ok (.aload_n 2, 1) := by decide +kernel
theorem dR4_3 : decode cR4 3 = .ok (.iload_n 3, 1) := by decide +kernel
theorem dR4_4 : decode cR4 4 = .ok (.iload 4, 2) := by decide +kernel
theorem dR4_6 : decode cR4 6 = .ok (.invokespecial 16, 3) := by decide +kernel
theorem dR4_9 : decode cR4 9 = .ok (.return_, 1) := by decide +kernel
theorem clE4 : CL "java/lang/Exception" 16 yT4 cT4 5 none 4 := ⟨gw_in (by decide +kernel) (by decide +kernel), gw_in (by decide +kernel) (by decide +kernel), gw_in (by decide +kernel) (by decide +kernel), by decide, by decide, by decide +kernel⟩
theorem in_T4 : Cond.instanceMethod yT4 ∈ gw_tbl := gw_in (by decide +kernel) (by decide +kernel)
theorem clR4 : CL "java/lang/RuntimeException" 16 yE4 cE4 5 none 4 := ⟨gw_in (by decide +kernel) (by decide +kernel), gw_in (by decide +kernel) (by decide +kernel), gw_in (by decide +kernel) (by decide +kernel), by decide, by decide, by decide +kernel⟩
theorem in_E4 : Cond.instanceMethod yE4 ∈ gw_tbl := gw_in (by decide +kernel) (by decide +kernel)
theorem clS4 : CL RX11 1 yR4 cR4 5 none 4 := ⟨gw_in (by decide +kernel) (by decide +kernel), gw_in (by decide +kernel) (by decide +kernel), gw_in (by decide +kernel) (by decide +kernel), by decide, by decide, by decide +kernel⟩
theorem in_R4 : Cond.instanceMethod yR4 ∈ gw_tbl := gw_in (by decide +kernel) (by decide +kernel)
theorem fT4_7 : FLI "java/lang/Throwable" 7 11 0 := ⟨gw_in (by decide +kernel) (by decide +kernel), wsin_11, by decide, by decide⟩
theorem fT4_17 : FLI "java/lang/Throwable" 17 11 1 := ⟨gw_in (by decide +kernel) (by decide +kernel), wsin_11, by decide, by decide⟩
theorem fT4_24 : FLI "java/lang/Throwable" 24 11 2 := ⟨gw_in (by decide +kernel) (by decide +kernel), wsin_11, by decide, by decide⟩
theorem fT4_31 : FLI "java/lang/Throwable" 31 11 3 := ⟨gw_in (by decide +kernel) (by decide +kernel), wsin_11, by decide, by decide⟩
theorem obT4 : Cond.methodLink "java/lang/Throwable" 1 objectInit ∈ gw_tbl := gw_in (by decide +kernel) (by decide +kernel)
theorem gT4_13 : Cond.fieldLink "java/lang/Throwable" 13 "java/lang/Throwable" "UNASSIGNED_STACK" "[Ljava/lang/StackTraceElement;" ∈ gw_tbl := gw_in (by decide +kernel) (by decide +kernel)
theorem gT4_20 : Cond.fieldLink "java/lang/Throwable" 20 "java/lang/Throwable" "SUPPRESSED_SENTINEL" "Ljava/util/List;" ∈ gw_tbl := gw_in (by decide +kernel) (by decide +kernel)
/-- Throwable's own references of p, all null -/
def thrW (w : AW) (p : Nat) : AW := (w.1, w.2.1, fun k => if k = p then (fun i => if i < 4 then none else w.2.2 p i) else w.2.2 k)
set_option maxRecDepth 100000 in
set_option maxHeartbeats 4000000 in
theorem c_T4 (l : Launch) (w : AW) (p n1 : Nat) (hq : w.1 p = (111, n1)) : HT l yT4 cT4 5 none 1 0 0 w [ar p, an, an, ai 0, ai 0] (rV (thrW w p)) := by
  refine HT.of (by decide) (by intro v hv; simp only [List.mem_cons, List.not_mem_nil, or_false] at hv; rcases hv with rfl | rfl | rfl | rfl | rfl <;> rfl) (Nat.le_of_ble_eq_true rfl) ?_
  intro Γ h hQ hRm hnm hl hw0
  refine g_aload_n h dT4_0 rfl ?_
  refine g_objinit h obT4 in_obj co_obj rfl (by rw [hRm]; decide) (by rw [hRm]; decide) (fun _ => Nat.le_of_ble_eq_true rfl) dT4_1 ?_
  refine g_aload_n h dT4_4 rfl ?_
  refine g_aload_n h dT4_5 rfl ?_
  refine g_putQI h fT4_7 rfl (Or.inl ⟨_, rfl⟩) (by assumption) dT4_6 ?_
  refine g_aload_n h dT4_9 rfl ?_
  refine g_getsU h gT4_13 dT4_10 (fun r1 _ => ?_)
  refine g_putQI h fT4_17 rfl (Or.inr ⟨_, rfl⟩) (by assumption) dT4_13 ?_
  refine g_aload_n h dT4_16 rfl ?_
  refine g_getsS h gT4_20 dT4_17 (fun r2 _ => ?_)
  refine g_putQI h fT4_24 rfl (Or.inl ⟨_, rfl⟩) (by assumption) dT4_20 ?_
  refine g_iload h dT4_23 rfl ?_
  refine g_if_eq (tgt := 36) h dT4_25 (by decide) ⟨by omega, by omega⟩ (fun _ => ?_) (fun q => absurd rfl q)
  refine g_aload_n h dT4_36 rfl ?_
  refine g_null h dT4_37 ?_
  refine g_putQI h fT4_17 rfl (Or.inr ⟨_, rfl⟩) (by assumption) dT4_38 ?_
  refine g_aload_n h dT4_41 rfl ?_
  refine g_aload_n h dT4_42 rfl ?_
  refine g_putQI h fT4_31 rfl (Or.inl ⟨_, rfl⟩) (by assumption) dT4_43 ?_
  refine g_aload_n h dT4_46 rfl ?_
  refine g_aload_n h dT4_47 rfl ?_
  refine g_putQI h fT4_7 rfl (Or.inl ⟨_, rfl⟩) (by assumption) dT4_48 ?_
  refine g_iload_n h dT4_51 rfl ?_
  refine g_if_ne (tgt := 60) h dT4_52 (by decide) ⟨by omega, by omega⟩ (fun q => absurd rfl q) (fun _ => ?_)
  refine g_aload_n h dT4_55 rfl ?_
  refine g_null h dT4_56 ?_
  refine g_putQI h fT4_24 rfl (Or.inl ⟨_, rfl⟩) (by assumption) dT4_57 ?_
  refine g_vret h hQ (by decide) (by decide) ?_ dT4_60
  refine ⟨rfl, ?_⟩
  unfold thrW
  refine Prod.ext rfl (Prod.ext rfl ?_)
  funext k
  by_cases hk : k = p
  · subst hk
    simp only [upP, if_pos]
    funext i
    by_cases h4 : i < 4
    · rcases (show i = 0 ∨ i = 1 ∨ i = 2 ∨ i = 3 by omega) with rfl | rfl | rfl | rfl <;> simp
    · rw [if_neg h4]
      simp [show i ≠ 0 by omega, show i ≠ 1 by omega, show i ≠ 2 by omega, show i ≠ 3 by omega]
  · simp [upP, hk]
set_option maxRecDepth 100000 in
set_option maxHeartbeats 4000000 in
theorem c_E4 (l : Launch) (w : AW) (p n1 : Nat) (hq : w.1 p = (111, n1)) : HT l yE4 cE4 5 none 2 0 0 w [ar p, an, an, ai 0, ai 0] (rV (thrW w p)) := by
  refine HT.of (by decide) (by intro v hv; simp only [List.mem_cons, List.not_mem_nil, or_false] at hv; rcases hv with rfl | rfl | rfl | rfl | rfl <;> rfl) (Nat.le_of_ble_eq_true rfl) ?_
  intro Γ h hQ hRm hnm hl hw0
  refine g_aload_n h dE4_0 rfl ?_
  refine g_aload_n h dE4_1 rfl ?_
  refine g_aload_n h dE4_2 rfl ?_
  refine g_iload_n h dE4_3 rfl ?_
  refine g_iload h dE4_4 rfl ?_
  refine g_callI h rfl [_, _, _, _] (c_T4 _ _ p n1 hq) clE4 in_T4 rfl rfl rfl (by rw [hRm]; decide) (by rw [hRm]; decide) (fun _ => Nat.le_of_ble_eq_true rfl) (by rw [hRm]; decide) (by rw [hRm]; decide) dE4_6 (fun r6 w6 hp6 => ?_)
  obtain ⟨rfl, hw6⟩ := hp6
  rw [hw6]
  refine g_vret h hQ (by decide) (by decide) ?_ dE4_9
  exact ⟨rfl, rfl⟩
set_option maxRecDepth 100000 in
set_option maxHeartbeats 4000000 in
theorem c_R4 (l : Launch) (w : AW) (p n1 : Nat) (hq : w.1 p = (111, n1)) : HT l yR4 cR4 5 none 3 0 0 w [ar p, an, an, ai 0, ai 0] (rV (thrW w p)) := by
  refine HT.of (by decide) (by intro v hv; simp only [List.mem_cons, List.not_mem_nil, or_false] at hv; rcases hv with rfl | rfl | rfl | rfl | rfl <;> rfl) (Nat.le_of_ble_eq_true rfl) ?_
  intro Γ h hQ hRm hnm hl hw0
  refine g_aload_n h dR4_0 rfl ?_
  refine g_aload_n h dR4_1 rfl ?_
  refine g_aload_n h dR4_2 rfl ?_
  refine g_iload_n h dR4_3 rfl ?_
  refine g_iload h dR4_4 rfl ?_
  refine g_callI h rfl [_, _, _, _] (c_E4 _ _ p n1 hq) clR4 in_E4 rfl rfl rfl (by rw [hRm]; decide) (by rw [hRm]; decide) (fun _ => Nat.le_of_ble_eq_true rfl) (by rw [hRm]; decide) (by rw [hRm]; decide) dR4_6 (fun r6 w6 hp6 => ?_)
  obtain ⟨rfl, hw6⟩ := hp6
  rw [hw6]
  refine g_vret h hQ (by decide) (by decide) ?_ dR4_9
  exact ⟨rfl, rfl⟩
