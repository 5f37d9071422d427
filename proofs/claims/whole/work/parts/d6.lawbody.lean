/-! ===== the law's body ===== -/
section LBODY
variable {Γ : Cx} {L : Nat} {xs : Nat → Int32}
theorem wL9_400 : ∀ k, 400 ≤ k → (alc wL9 400 (112, 0)).1 k = if k = 400 then (112, 0) else (0, 0) := fun k hk => by
  by_cases c : k = 400
  · subst c
    rw [if_pos rfl]
    exact alc_at _ _ _
  · rw [if_neg c, alc_ne _ _ c]
    exact wL9_far (by omega)
set_option maxHeartbeats 1000000 in
theorem law_body (h : OKB Γ cL_law RL 7) (hQ : OKR Γ (some .boolean) (fun r _ => r = some (ai 1)) 601024 7293034) (hRm : cxR Γ = room_1) (hS : SCR Γ L xs) (hst : Γ.1.2.1.stackTraces = false) : GG Γ 0 [some (ar 20000), none, none, none, none, none, none] [] w00 0 0 := by
  have r1 : (cxR Γ).frames = 2048 := by rw [hRm]; rfl
  have r2 : (cxR Γ).locals = 84000 := by rw [hRm]; rfl
  have r3 : (cxR Γ).cells = 601024 := by rw [hRm]; rfl
  have r4 : (cxR Γ).slots = 7293034 := by rw [hRm]; rfl
  refine g_new h (ci := 9) 0 (by decide) cnL_8 ins_9 ini_9 wsin_9 rfl (by decide) (by omega) (by rw [r4]; decide) dL_law_0 ?_
  refine g_dup h dL_law_3 rfl ?_
  refine g_callI h rfl [] (c_X9_init _ (alc w00 0 (109, 0)) (alc_at _ _ _) (fun k h0 _ => by rw [alc_ne _ _ (by omega)]; rfl)) clL_15 in_X9_init rfl rfl rfl (by omega) (by omega) (fun _ => Nat.le_of_ble_eq_true rfl) (by omega) (by rw [r4]; decide) dL_law_4 (fun r w1 hp => ?_)
  obtain ⟨rfl, hw1⟩ := hp
  rw [hw1]
  change GG Γ 7 _ [ar 0] wL9 43 5137
  refine g_astore_n h dL_law_7 (Nat.le_of_ble_eq_true rfl) rfl rfl ?_
  refine g_new h (ci := 12) 400 (by decide) cnL_16 ins_12 ini_12 wsin_12 (by rw [wL9_far (by decide)]) (by decide) (by omega) (by rw [r4]; decide) dL_law_8 ?_
  refine g_dup h dL_law_11 rfl ?_
  refine g_callI h rfl [] (c_X12_init _ (alc wL9 400 (112, 0)) (alc_at _ _ _) (fun k h0 _ => by rw [wL9_400 k (by omega), if_neg (by omega)])) clL_18 in_X12_init rfl rfl rfl (by omega) (by omega) (fun _ => Nat.le_of_ble_eq_true rfl) (by omega) (by rw [r4]; decide) dL_law_12 (fun r w2 hp => ?_)
  obtain ⟨rfl, hw2⟩ := hp
  rw [hw2]
  change GG Γ 15 _ [ar 400] wL12 90 8362
  refine g_astore_n h dL_law_15 (Nat.le_of_ble_eq_true rfl) rfl rfl ?_
  refine g_iconst h dL_law_16 ?_
  refine g_newl h 1900 (nn := 1) arc_long rfl (by decide) (by decide +kernel) (by decide) (by omega) (by omega) dL_law_17 ?_
  change GG Γ 19 _ [ar 1900] wL 91 8363
  refine g_astore_n h dL_law_19 (Nat.le_of_ble_eq_true rfl) rfl rfl ?_
  refine g_iconst h dL_law_20 ?_
  refine g_istore h dL_law_21 (Nat.le_of_ble_eq_true rfl) rfl rfl ?_
  exact law_loop h hQ hRm hS hst 512 0 wL none none rfl wL_REL
end LBODY
