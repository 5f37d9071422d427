/-! ===== Pipe, Village ===== -/
def cpF (old src : Nat → Int) : Nat → Int := fun f => if f < 5 then src f else old f
set_option maxRecDepth 100000 in
set_option maxHeartbeats 4000000 in
theorem c_X3_become (l : Launch) (w : AW) (q p n1 n2 : Nat) (hq : w.1 q = (103, n1)) (hp : w.1 p = (103, n2)) (hne : p ≠ q) (hr : w.2.1 p 4 = 0 ∨ w.2.1 p 4 = 1) : HT l yX3_become cX3_become 2 none 1 0 0 w [ar q, ar p] (rV (sR w q (cpF (w.2.1 q) (w.2.1 p)))) := by
  refine HT.of (by decide) (by intro v hv; simp only [List.mem_cons, List.not_mem_nil, or_false] at hv; rcases hv with rfl | rfl <;> rfl) (Nat.le_of_ble_eq_true rfl) ?_
  intro Γ h hQ hRm hnm hl hw0
  refine g_aload_n h dX3_become_0 rfl ?_
  refine g_aload_n h dX3_become_1 rfl ?_
  refine g_getI h flX3_7 rfl (by assumption) dX3_become_2 ?_
  refine g_putI h flX3_7 rfl rfl (by assumption) dX3_become_5 ?_
  refine g_aload_n h dX3_become_8 rfl ?_
  refine g_aload_n h dX3_become_9 rfl ?_
  refine g_getI h flX3_13 rfl (by assumption) dX3_become_10 ?_
  refine g_putI h flX3_13 rfl rfl (by assumption) dX3_become_13 ?_
  refine g_aload_n h dX3_become_16 rfl ?_
  refine g_aload_n h dX3_become_17 rfl ?_
  refine g_getI h flX3_16 rfl (by assumption) dX3_become_18 ?_
  refine g_putI h flX3_16 rfl rfl (by assumption) dX3_become_21 ?_
  refine g_aload_n h dX3_become_24 rfl ?_
  refine g_aload_n h dX3_become_25 rfl ?_
  refine g_getI h flX3_19 rfl (by assumption) dX3_become_26 ?_
  refine g_putI h flX3_19 rfl rfl (by assumption) dX3_become_29 ?_
  refine g_aload_n h dX3_become_32 rfl ?_
  refine g_aload_n h dX3_become_33 rfl ?_
  refine g_getI h flX3_22 rfl (by assumption) dX3_become_34 ?_
  refine g_putZ h flX3_22 rfl rfl (by assumption) (by simp only [upI_sR, sR_ne _ _ hne]; exact hr) dX3_become_37 ?_
  refine g_vret h hQ (by decide) (by decide) ?_ dX3_become_40
  refine ⟨rfl, ?_⟩
  simp only [upI_sR, sR_sR, sR_at, sR_ne _ _ hne]
  congr 1
  funext f
  unfold uI cpF
  by_cases h5 : f < 5
  · rcases (show f = 0 ∨ f = 1 ∨ f = 2 ∨ f = 3 ∨ f = 4 by omega) with rfl | rfl | rfl | rfl | rfl <;> rfl
  · rw [if_neg (by omega), if_neg (by omega), if_neg (by omega), if_neg (by omega), if_neg (by omega), if_neg (by omega)]
set_option maxRecDepth 100000 in
set_option maxHeartbeats 4000000 in
theorem c_X3_init (l : Launch) (w : AW) (q n1 : Nat) (a b c d : Int) (hq : w.1 q = (103, n1)) : HT l yX3_init cX3_init 5 none 1 0 0 w [ar q, ai a, ai b, ai c, ai d] (rV (sR w q (uI (uI (uI (uI (w.2.1 q) 0 a) 1 b) 2 c) 3 d))) := by
  refine HT.of (by decide) (by intro v hv; simp only [List.mem_cons, List.not_mem_nil, or_false] at hv; rcases hv with rfl | rfl | rfl | rfl | rfl <;> rfl) (Nat.le_of_ble_eq_true rfl) ?_
  intro Γ h hQ hRm hnm hl hw0
  refine g_aload_n h dX3_init_0 rfl ?_
  refine g_objinit h obX3_1 in_obj co_obj rfl (by rw [hRm]; decide) (by rw [hRm]; decide) (fun _ => Nat.le_of_ble_eq_true rfl) dX3_init_1 ?_
  refine g_aload_n h dX3_init_4 rfl ?_
  refine g_iload_n h dX3_init_5 rfl ?_
  refine g_putI h flX3_7 rfl rfl (by assumption) dX3_init_6 ?_
  refine g_aload_n h dX3_init_9 rfl ?_
  refine g_iload_n h dX3_init_10 rfl ?_
  refine g_putI h flX3_13 rfl rfl (by assumption) dX3_init_11 ?_
  refine g_aload_n h dX3_init_14 rfl ?_
  refine g_iload_n h dX3_init_15 rfl ?_
  refine g_putI h flX3_16 rfl rfl (by assumption) dX3_init_16 ?_
  refine g_aload_n h dX3_init_19 rfl ?_
  refine g_iload h dX3_init_20 rfl ?_
  refine g_putI h flX3_19 rfl rfl (by assumption) dX3_init_22 ?_
  refine g_vret h hQ (by decide) (by decide) ?_ dX3_init_25
  exact ⟨rfl, by simp only [upI_sR, sR_sR, sR_at]⟩
set_option maxRecDepth 100000 in
set_option maxHeartbeats 4000000 in
theorem c_X3_moveTo (l : Launch) (w : AW) (q n1 : Nat) (z : Int) (hq : w.1 q = (103, n1)) : HT l yX3_moveTo cX3_moveTo 2 none 1 0 0 w [ar q, ai z] (rV (sR w q (uI (uI (uI (w.2.1 q) 1 z) 4 0) 6 (w.2.1 q 6 + 1)))) := by
  refine HT.of (by decide) (by intro v hv; simp only [List.mem_cons, List.not_mem_nil, or_false] at hv; rcases hv with rfl | rfl <;> rfl) (Nat.le_of_ble_eq_true rfl) ?_
  intro Γ h hQ hRm hnm hl hw0
  refine g_aload_n h dX3_moveTo_0 rfl ?_
  refine g_iload_n h dX3_moveTo_1 rfl ?_
  refine g_putI h flX3_13 rfl rfl (by assumption) dX3_moveTo_2 ?_
  refine g_aload_n h dX3_moveTo_5 rfl ?_
  refine g_iconst h dX3_moveTo_6 ?_
  refine g_putZ h flX3_22 rfl rfl (by assumption) (by omega) dX3_moveTo_7 ?_
  refine g_aload_n h dX3_moveTo_10 rfl ?_
  refine g_dup h dX3_moveTo_11 rfl ?_
  refine g_getI h flX3_26 rfl (by assumption) dX3_moveTo_12 ?_
  refine g_iconst h dX3_moveTo_15 ?_
  refine g_iadd h dX3_moveTo_16 ?_
  refine g_putI h flX3_26 rfl rfl (by assumption) dX3_moveTo_17 ?_
  refine g_vret h hQ (by decide) (by decide) ?_ dX3_moveTo_20
  exact ⟨rfl, by simp only [upI_sR, sR_sR, sR_at]; rfl⟩
set_option maxRecDepth 100000 in
set_option maxHeartbeats 4000000 in
theorem c_X8_init (l : Launch) (w : AW) (q n1 : Nat) (a b : Int) (hq : w.1 q = (108, n1)) : HT l yX8_init cX8_init 3 none 1 0 0 w [ar q, ai a, ai b] (rV (sR w q (uI (uI (w.2.1 q) 0 a) 1 b))) := by
  refine HT.of (by decide) (by intro v hv; simp only [List.mem_cons, List.not_mem_nil, or_false] at hv; rcases hv with rfl | rfl | rfl <;> rfl) (Nat.le_of_ble_eq_true rfl) ?_
  intro Γ h hQ hRm hnm hl hw0
  refine g_aload_n h dX8_init_0 rfl ?_
  refine g_objinit h obX8_1 in_obj co_obj rfl (by rw [hRm]; decide) (by rw [hRm]; decide) (fun _ => Nat.le_of_ble_eq_true rfl) dX8_init_1 ?_
  refine g_aload_n h dX8_init_4 rfl ?_
  refine g_iload_n h dX8_init_5 rfl ?_
  refine g_putFI h flX8_7 rfl hnm rfl rfl (by assumption) dX8_init_6 ?_
  refine g_aload_n h dX8_init_9 rfl ?_
  refine g_iload_n h dX8_init_10 rfl ?_
  refine g_putFI h flX8_13 rfl hnm rfl rfl (by assumption) dX8_init_11 ?_
  refine g_vret h hQ (by decide) (by decide) ?_ dX8_init_14
  exact ⟨rfl, by simp only [upI_sR, sR_sR, sR_at]⟩
