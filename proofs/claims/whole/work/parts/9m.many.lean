/-! ===== M's reader: conditions joined ===== -/
theorem xB_join {s : XP} {v : Int} (hv : v = 38 ∨ v = 124) : xBehind s 6 v = .inr ((2, s.1.2.1, s.1.2.2), s.2.1, ((pwF (bnd v) s.2.2.1 s.2.2.2).1, v :: (pwF (bnd v) s.2.2.1 s.2.2.2).2)) := by
  unfold xBehind
  rw [if_pos ⟨rfl, hv⟩]
  rfl
def KAll (l : Launch) (m : Nat) : Prop := ∀ (w : AW) (T : Nat → Int) (n P nr : Nat) (R : (Int × Nat) ⊕ XP) (W : List Int) (D a : Nat) (s : XP) (cm : List Int), RZ w T n P nr R W 6 D a s cm → s.1.1 = 2 → s.1.2.2 = 0 → TB W 2 → s.2.1.1 + (m : Int) = 8 → HTX l yX12_readAll cX12_readAll 1 none (12 + 3 * m) 0 0 w [ar 400] (PBH w T n P nr R W D s 2 (fun a' => noW T n a' 38)) (TH P w R)
set_option maxRecDepth 100000 in
set_option maxHeartbeats 4000000 in
theorem k_all (l : Launch) (w : AW) (m : Nat) (T : Nat → Int) (n P nr : Nat) (R : (Int × Nat) ⊕ XP) (W : List Int) (D a : Nat) (s : XP) (cm : List Int) (hZ : RZ w T n P nr R W 6 D a s cm) (h2 : s.1.1 = 2) (h0 : s.1.2.2 = 0) (hW : TB W 2) (hm : s.2.1.1 + (m : Int) = 8) (hA : KOne l m) : HTX l yX12_readAll cX12_readAll 1 none (12 + 3 * m) 0 0 w [ar 400] (PBH w T n P nr R W D s 2 (fun a' => noW T n a' 38)) (TH P w R) := by
  refine HTX.of (by decide) (by intro v hv; simp only [List.mem_cons, List.not_mem_nil, or_false] at hv; rcases hv with rfl <;> rfl) (Nat.le_of_ble_eq_true rfl) ?_
  intro Γ h hQ hRm hnm hl hw0
  have hA' : KOne Γ.1.2.1 m := by rw [hl]; exact hA
  have hP4 := hZ.2.1.2.2.1.2.2.2
  have hM := hZ.2.1.1.1
  have s400 : w.1 400 = (112, 0) := hM.1 400 (by decide) (by decide)
  have sPx : w.1 P = (110, 0) := hZ.2.1.2.2.2.1.1
  have loop : ∀ (d D1 a1 : Nat) (s1 : XP) (cm1 : List Int) (u : AW), D1 = d → MY P w u → RZ u T n P nr R W 2 D1 a1 s1 cm1 → D1 < D → BH T n a1 s1 → s1.2.1.1 = s.2.1.1 → s1.2.1.2.2 = s.2.1.2.2 → True → GG Γ 4 [some (ar 400)] [] u 0 0 := by
    intro d
    induction d using Nat.strongRecOn with
    | _ d ih =>
      intro D1 a1 s1 cm1 u hd hMY hZ1 hlt hB hso hsa hX
      have zQ := hZ1.2.1
      have za := hZ1.2.2.2.2.2.2.2
      have t400 : u.1 400 = (112, 0) := by rw [hMY.1]; exact s400
      obtain ⟨k, hk⟩ : ∃ k, (tokF T n (skF T n a1)).1 = k := ⟨_, rfl⟩
      obtain ⟨v, hv⟩ : ∃ v, (tokF T n (skF T n a1)).2.1 = v := ⟨_, rfl⟩
      have hxb := xT_behind hk hv hB
      have hs16 : s1.1.1 ≠ 6 := by rcases hB.2 with e | ⟨e, -⟩ <;> omega
      by_cases hj : k = 6 ∧ v = 38
      · refine g_aload_n h dX12_readAll_4 rfl ?_
        refine g_ldsw h (i := 18) rfl rfl rfl dX12_readAll_5 ?_
        refine g_callV h rfl (ci := 12) [_] (by assumption) (t_and _ za zQ hk hv) clX12_368 (by decide) rfl in_X12_isWord se_X12_isWord rfl rfl (by rw [hRm]; first | decide | (simp only [clS]; omega)) (by rw [hRm]; first | decide | (simp only [clS]; omega)) (fun _ => Nat.le_of_ble_eq_true rfl) (by rw [hRm]; first | decide | (simp only [clS]; omega)) (by rw [hRm]; first | decide | (simp only [clS]; omega)) dX12_readAll_8 (fun r8 w8 hp8 => ?_)
        obtain ⟨rfl, hw8⟩ := hp8
        rw [hw8]
        rw [if_pos hj]
        refine g_if_eq (tgt := 35) h dX12_readAll_11 (by decide) (by first | assumption | exact ⟨by omega, by omega⟩) (fun c11 => ?_) (fun c11 => ?_)
        · exact absurd c11 (by decide)
        · refine g_aload_n h dX12_readAll_14 rfl ?_
          refine g_callV h rfl (ci := 12) [] (by assumption) (t_next _ za zQ (by rw [hk, hj.1]; decide)) clX12_391 (by decide) rfl in_X12_next se_X12_next rfl rfl (by rw [hRm]; first | decide | (simp only [clS]; omega)) (by rw [hRm]; first | decide | (simp only [clS]; omega)) (fun _ => Nat.le_of_ble_eq_true rfl) (by rw [hRm]; first | decide | (simp only [clS]; omega)) (by rw [hRm]; first | decide | (simp only [clS]; omega)) dX12_readAll_15 (fun r15 w15 hp15 => ?_)
          obtain ⟨rfl, hx, ht⟩ := hp15
          have hMY1 := MY_tr hMY (MY_X hP4 hx)
          have ex := xB_join (s := s1) (v := 38) (by decide)
          have e2 : xT s1 (tokF T n (skF T n a1)).1 (tokF T n (skF T n a1)).2.1 = xBehind s1 6 38 := by rw [hk, hv, hxb, hj.1, hj.2]
          have zt := RZ_to (b' := 6) (W' := 38 :: W) hZ1 hs16 (by rw [hk, hj.1]; decide) (e2.trans ex) (RQ_next zQ hx ht) rfl rfl (by show pwF 6 (pwF 2 s1.2.2.1 s1.2.2.2).1 (38 :: (pwF 2 s1.2.2.1 s1.2.2.2).2) = _; rw [hZ1.2.2.1]; exact TB_pw (TB_6 _) _) (Nat.le_refl _) hZ1.2.2.2.2.2.1 hZ1.2.2.2.2.2.2.1
          have tw : w15.1 400 = (112, 0) := by rw [hMY1.1]; exact s400
          refine g_aload_n h dX12_readAll_18 rfl ?_
          refine g_callVq h rfl (ci := 12) [] (by assumption) (hA' _ T n P nr R _ _ _ _ _ zt.1 rfl hB.1 (TB_c (by decide)) (by rw [← hso] at hm; exact hm)) clX12_421 (by decide) rfl in_X12_readOne se_X12_readOne rfl rfl (by rw [hRm]; first | decide | omega | (simp only [clS]; omega)) (by rw [hRm]; first | decide | omega | (simp only [clS]; omega)) (fun _ => Nat.le_of_ble_eq_true rfl) (by rw [hRm]; first | decide | omega | (simp only [clS]; omega)) (by rw [hRm]; first | decide | omega | (simp only [clS]; omega)) dX12_readAll_19 (fun r9 w9 hp9 => ?_) (fun E9 x9 w9 hx9 => g_xout hQ (by decide) (by decide) (TH_of hMY1 hx9))
          obtain ⟨rfl, hMYb, D3, a3, s3, cm3, hZ3, hD3, hB3, ho3, ha3, hX3⟩ := hp9
          have hMY4 := MY_tr hMY1 hMYb
          have t4 : w9.1 400 = (112, 0) := by rw [hMY4.1]; exact s400
          have t5 : w9.1 P = (110, 0) := by rw [hMY4.1]; exact sPx
          refine g_aload_n h dX12_readAll_22 rfl ?_
          refine g_callV h rfl (ci := 12) [] (by assumption) (t_fresh _ hZ3.2.1) clX12_378 (by decide) rfl in_X12_fresh se_X12_fresh rfl rfl (by rw [hRm]; first | decide | (simp only [clS]; omega)) (by rw [hRm]; first | decide | (simp only [clS]; omega)) (fun _ => Nat.le_of_ble_eq_true rfl) (by rw [hRm]; first | decide | (simp only [clS]; omega)) (by rw [hRm]; first | decide | (simp only [clS]; omega)) dX12_readAll_23 (fun r23 w23 hp23 => ?_)
          obtain ⟨rfl, hw23⟩ := hp23
          rw [hw23]
          refine g_bipush h dX12_readAll_26 rfl ?_
          refine g_iconst h dX12_readAll_28 ?_
          refine g_callV h rfl (ci := 10) [_, _] (by assumption) (t_put _ hZ3.2.1 _ _ (RZ_lt hZ3)) clX12_417 (by decide) rfl in_X10_put se_X10_put rfl rfl (by rw [hRm]; first | decide | (simp only [clS]; omega)) (by rw [hRm]; first | decide | (simp only [clS]; omega)) (fun _ => Nat.le_of_ble_eq_true rfl) (by rw [hRm]; first | decide | (simp only [clS]; omega)) (by rw [hRm]; first | decide | (simp only [clS]; omega)) dX12_readAll_29 (fun r29 w29 hp29 => ?_)
          obtain ⟨rfl, hw29⟩ := hp29
          rw [hw29]
          refine g_goto (tgt := 4) h dX12_readAll_32 (by decide) ?_
          exact ih _ (by omega) D3 a3 s3 _ _ rfl (MY_tr hMY4 (MY_pu _ _ _ _ hP4)) (RZ_pu hZ3 (by unfold okIt; decide) (by decide) (by decide) hW) (by omega) hB3 (by rw [ho3]; exact hso) (by rw [ha3]; exact hsa) trivial
      refine g_aload_n h dX12_readAll_4 rfl ?_
      refine g_ldsw h (i := 18) rfl rfl rfl dX12_readAll_5 ?_
      refine g_callV h rfl (ci := 12) [_] (by assumption) (t_and _ za zQ hk hv) clX12_368 (by decide) rfl in_X12_isWord se_X12_isWord rfl rfl (by rw [hRm]; first | decide | (simp only [clS]; omega)) (by rw [hRm]; first | decide | (simp only [clS]; omega)) (fun _ => Nat.le_of_ble_eq_true rfl) (by rw [hRm]; first | decide | (simp only [clS]; omega)) (by rw [hRm]; first | decide | (simp only [clS]; omega)) dX12_readAll_8 (fun r8 w8 hp8 => ?_)
      obtain ⟨rfl, hw8⟩ := hp8
      rw [hw8]
      rw [if_neg hj]
      refine g_if_eq (tgt := 35) h dX12_readAll_11 (by decide) (by first | assumption | exact ⟨by omega, by omega⟩) (fun c11 => ?_) (fun c11 => ?_)
      · refine g_xret hQ h hRm fun Γ h hQ hRm => ?_
        refine g_vret h hQ (by first | decide | omega | (simp only [clS]; omega)) (by first | decide | omega | (simp only [clS]; omega)) ?_ dX12_readAll_35
        exact ⟨rfl, hMY, D1, a1, s1, cm1, hZ1, hlt, hB, hso, hsa, (by show noW T n a1 38; unfold noW; rw [hk, hv]; exact hj)⟩
      · exact absurd c11 (by decide)
  refine g_aload_n h dX12_readAll_0 rfl ?_
  refine g_callVq h rfl (ci := 12) [] (by assumption) (hA' _ T n P nr R _ _ _ _ _ hZ h2 h0 (TB_le hW (by decide)) hm) clX12_421 (by decide) rfl in_X12_readOne se_X12_readOne rfl rfl (by rw [hRm]; first | decide | omega | (simp only [clS]; omega)) (by rw [hRm]; first | decide | omega | (simp only [clS]; omega)) (fun _ => Nat.le_of_ble_eq_true rfl) (by rw [hRm]; first | decide | omega | (simp only [clS]; omega)) (by rw [hRm]; first | decide | omega | (simp only [clS]; omega)) dX12_readAll_1 (fun r9 w9 hp9 => ?_) (fun E9 x9 w9 hx9 => g_xout hQ (by decide) (by decide) (TH_of (MY_rfl _ _) hx9))
  obtain ⟨rfl, hMY, D3, a3, s3, cm3, hZ3, hD3, hB3, ho3, ha3, hX3⟩ := hp9
  exact loop _ D3 a3 s3 _ _ rfl hMY (RZ_b hZ3 (by decide) hW) hD3 hB3 ho3 ha3 trivial
set_option maxRecDepth 100000 in
set_option maxHeartbeats 4000000 in
theorem k_any (l : Launch) (w : AW) (m : Nat) (T : Nat → Int) (n P nr : Nat) (R : (Int × Nat) ⊕ XP) (W : List Int) (D a : Nat) (s : XP) (cm : List Int) (hZ : RZ w T n P nr R W 6 D a s cm) (h2 : s.1.1 = 2) (h0 : s.1.2.2 = 0) (hW : TB W 1) (hm : s.2.1.1 + (m : Int) = 8) (hA : KAll l m) : HTX l yX12_readAny cX12_readAny 1 none (13 + 3 * m) 0 0 w [ar 400] (PBH w T n P nr R W D s 1 (fun a' => noW T n a' 38 ∧ noW T n a' 124)) (TH P w R) := by
  refine HTX.of (by decide) (by intro v hv; simp only [List.mem_cons, List.not_mem_nil, or_false] at hv; rcases hv with rfl <;> rfl) (Nat.le_of_ble_eq_true rfl) ?_
  intro Γ h hQ hRm hnm hl hw0
  have hA' : KAll Γ.1.2.1 m := by rw [hl]; exact hA
  have hP4 := hZ.2.1.2.2.1.2.2.2
  have hM := hZ.2.1.1.1
  have s400 : w.1 400 = (112, 0) := hM.1 400 (by decide) (by decide)
  have sPx : w.1 P = (110, 0) := hZ.2.1.2.2.2.1.1
  have loop : ∀ (d D1 a1 : Nat) (s1 : XP) (cm1 : List Int) (u : AW), D1 = d → MY P w u → RZ u T n P nr R W 1 D1 a1 s1 cm1 → D1 < D → BH T n a1 s1 → s1.2.1.1 = s.2.1.1 → s1.2.1.2.2 = s.2.1.2.2 → noW T n a1 38 → GG Γ 4 [some (ar 400)] [] u 0 0 := by
    intro d
    induction d using Nat.strongRecOn with
    | _ d ih =>
      intro D1 a1 s1 cm1 u hd hMY hZ1 hlt hB hso hsa hX
      have zQ := hZ1.2.1
      have za := hZ1.2.2.2.2.2.2.2
      have t400 : u.1 400 = (112, 0) := by rw [hMY.1]; exact s400
      obtain ⟨k, hk⟩ : ∃ k, (tokF T n (skF T n a1)).1 = k := ⟨_, rfl⟩
      obtain ⟨v, hv⟩ : ∃ v, (tokF T n (skF T n a1)).2.1 = v := ⟨_, rfl⟩
      have hxb := xT_behind hk hv hB
      have hs16 : s1.1.1 ≠ 6 := by rcases hB.2 with e | ⟨e, -⟩ <;> omega
      by_cases hj : k = 6 ∧ v = 124
      · refine g_aload_n h dX12_readAny_4 rfl ?_
        refine g_ldsw h (i := 19) rfl rfl rfl dX12_readAny_5 ?_
        refine g_callV h rfl (ci := 12) [_] (by assumption) (t_or _ za zQ hk hv) clX12_368 (by decide) rfl in_X12_isWord se_X12_isWord rfl rfl (by rw [hRm]; first | decide | (simp only [clS]; omega)) (by rw [hRm]; first | decide | (simp only [clS]; omega)) (fun _ => Nat.le_of_ble_eq_true rfl) (by rw [hRm]; first | decide | (simp only [clS]; omega)) (by rw [hRm]; first | decide | (simp only [clS]; omega)) dX12_readAny_8 (fun r8 w8 hp8 => ?_)
        obtain ⟨rfl, hw8⟩ := hp8
        rw [hw8]
        rw [if_pos hj]
        refine g_if_eq (tgt := 35) h dX12_readAny_11 (by decide) (by first | assumption | exact ⟨by omega, by omega⟩) (fun c11 => ?_) (fun c11 => ?_)
        · exact absurd c11 (by decide)
        · refine g_aload_n h dX12_readAny_14 rfl ?_
          refine g_callV h rfl (ci := 12) [] (by assumption) (t_next _ za zQ (by rw [hk, hj.1]; decide)) clX12_391 (by decide) rfl in_X12_next se_X12_next rfl rfl (by rw [hRm]; first | decide | (simp only [clS]; omega)) (by rw [hRm]; first | decide | (simp only [clS]; omega)) (fun _ => Nat.le_of_ble_eq_true rfl) (by rw [hRm]; first | decide | (simp only [clS]; omega)) (by rw [hRm]; first | decide | (simp only [clS]; omega)) dX12_readAny_15 (fun r15 w15 hp15 => ?_)
          obtain ⟨rfl, hx, ht⟩ := hp15
          have hMY1 := MY_tr hMY (MY_X hP4 hx)
          have ex := xB_join (s := s1) (v := 124) (by decide)
          have e2 : xT s1 (tokF T n (skF T n a1)).1 (tokF T n (skF T n a1)).2.1 = xBehind s1 6 124 := by rw [hk, hv, hxb, hj.1, hj.2]
          have zt := RZ_to (b' := 6) (W' := 124 :: W) hZ1 hs16 (by rw [hk, hj.1]; decide) (e2.trans ex) (RQ_next zQ hx ht) rfl rfl (by show pwF 6 (pwF 1 s1.2.2.1 s1.2.2.2).1 (124 :: (pwF 1 s1.2.2.1 s1.2.2.2).2) = _; rw [hZ1.2.2.1]; exact TB_pw (TB_6 _) _) (Nat.le_refl _) hZ1.2.2.2.2.2.1 hZ1.2.2.2.2.2.2.1
          have tw : w15.1 400 = (112, 0) := by rw [hMY1.1]; exact s400
          refine g_aload_n h dX12_readAny_18 rfl ?_
          refine g_callVq h rfl (ci := 12) [] (by assumption) (hA' _ T n P nr R _ _ _ _ _ zt.1 rfl hB.1 (TB_c (by decide)) (by rw [← hso] at hm; exact hm)) clX12_414 (by decide) rfl in_X12_readAll se_X12_readAll rfl rfl (by rw [hRm]; first | decide | omega | (simp only [clS]; omega)) (by rw [hRm]; first | decide | omega | (simp only [clS]; omega)) (fun _ => Nat.le_of_ble_eq_true rfl) (by rw [hRm]; first | decide | omega | (simp only [clS]; omega)) (by rw [hRm]; first | decide | omega | (simp only [clS]; omega)) dX12_readAny_19 (fun r9 w9 hp9 => ?_) (fun E9 x9 w9 hx9 => g_xout hQ (by decide) (by decide) (TH_of hMY1 hx9))
          obtain ⟨rfl, hMYb, D3, a3, s3, cm3, hZ3, hD3, hB3, ho3, ha3, hX3⟩ := hp9
          have hMY4 := MY_tr hMY1 hMYb
          have t4 : w9.1 400 = (112, 0) := by rw [hMY4.1]; exact s400
          have t5 : w9.1 P = (110, 0) := by rw [hMY4.1]; exact sPx
          refine g_aload_n h dX12_readAny_22 rfl ?_
          refine g_callV h rfl (ci := 12) [] (by assumption) (t_fresh _ hZ3.2.1) clX12_378 (by decide) rfl in_X12_fresh se_X12_fresh rfl rfl (by rw [hRm]; first | decide | (simp only [clS]; omega)) (by rw [hRm]; first | decide | (simp only [clS]; omega)) (fun _ => Nat.le_of_ble_eq_true rfl) (by rw [hRm]; first | decide | (simp only [clS]; omega)) (by rw [hRm]; first | decide | (simp only [clS]; omega)) dX12_readAny_23 (fun r23 w23 hp23 => ?_)
          obtain ⟨rfl, hw23⟩ := hp23
          rw [hw23]
          refine g_bipush h dX12_readAny_26 rfl ?_
          refine g_iconst h dX12_readAny_28 ?_
          refine g_callV h rfl (ci := 10) [_, _] (by assumption) (t_put _ hZ3.2.1 _ _ (RZ_lt hZ3)) clX12_417 (by decide) rfl in_X10_put se_X10_put rfl rfl (by rw [hRm]; first | decide | (simp only [clS]; omega)) (by rw [hRm]; first | decide | (simp only [clS]; omega)) (fun _ => Nat.le_of_ble_eq_true rfl) (by rw [hRm]; first | decide | (simp only [clS]; omega)) (by rw [hRm]; first | decide | (simp only [clS]; omega)) dX12_readAny_29 (fun r29 w29 hp29 => ?_)
          obtain ⟨rfl, hw29⟩ := hp29
          rw [hw29]
          refine g_goto (tgt := 4) h dX12_readAny_32 (by decide) ?_
          exact ih _ (by omega) D3 a3 s3 _ _ rfl (MY_tr hMY4 (MY_pu _ _ _ _ hP4)) (RZ_pu hZ3 (by unfold okIt; decide) (by decide) (by decide) hW) (by omega) hB3 (by rw [ho3]; exact hso) (by rw [ha3]; exact hsa) hX3
      refine g_aload_n h dX12_readAny_4 rfl ?_
      refine g_ldsw h (i := 19) rfl rfl rfl dX12_readAny_5 ?_
      refine g_callV h rfl (ci := 12) [_] (by assumption) (t_or _ za zQ hk hv) clX12_368 (by decide) rfl in_X12_isWord se_X12_isWord rfl rfl (by rw [hRm]; first | decide | (simp only [clS]; omega)) (by rw [hRm]; first | decide | (simp only [clS]; omega)) (fun _ => Nat.le_of_ble_eq_true rfl) (by rw [hRm]; first | decide | (simp only [clS]; omega)) (by rw [hRm]; first | decide | (simp only [clS]; omega)) dX12_readAny_8 (fun r8 w8 hp8 => ?_)
      obtain ⟨rfl, hw8⟩ := hp8
      rw [hw8]
      rw [if_neg hj]
      refine g_if_eq (tgt := 35) h dX12_readAny_11 (by decide) (by first | assumption | exact ⟨by omega, by omega⟩) (fun c11 => ?_) (fun c11 => ?_)
      · refine g_xret hQ h hRm fun Γ h hQ hRm => ?_
        refine g_vret h hQ (by first | decide | omega | (simp only [clS]; omega)) (by first | decide | omega | (simp only [clS]; omega)) ?_ dX12_readAny_35
        exact ⟨rfl, hMY, D1, a1, s1, cm1, hZ1, hlt, hB, hso, hsa, hX, (by show noW T n a1 124; unfold noW; rw [hk, hv]; exact hj)⟩
      · exact absurd c11 (by decide)
  refine g_aload_n h dX12_readAny_0 rfl ?_
  refine g_callVq h rfl (ci := 12) [] (by assumption) (hA' _ T n P nr R _ _ _ _ _ hZ h2 h0 (TB_le hW (by decide)) hm) clX12_414 (by decide) rfl in_X12_readAll se_X12_readAll rfl rfl (by rw [hRm]; first | decide | omega | (simp only [clS]; omega)) (by rw [hRm]; first | decide | omega | (simp only [clS]; omega)) (fun _ => Nat.le_of_ble_eq_true rfl) (by rw [hRm]; first | decide | omega | (simp only [clS]; omega)) (by rw [hRm]; first | decide | omega | (simp only [clS]; omega)) dX12_readAny_1 (fun r9 w9 hp9 => ?_) (fun E9 x9 w9 hx9 => g_xout hQ (by decide) (by decide) (TH_of (MY_rfl _ _) hx9))
  obtain ⟨rfl, hMY, D3, a3, s3, cm3, hZ3, hD3, hB3, ho3, ha3, hX3⟩ := hp9
  exact loop _ D3 a3 s3 _ _ rfl hMY (RZ_b hZ3 (by decide) hW) hD3 hB3 ho3 ha3 hX3
theorem k_all3 (l : Launch) : ∀ m : Nat, KAny l m
  | 0 => fun w T n P nr R W D a s cm hZ h2 h0 hW hm => k_any l w 0 T n P nr R W D a s cm hZ h2 h0 hW hm (fun w T n P nr R W D a s cm hZ h2 h0 hW hm => k_all l w 0 T n P nr R W D a s cm hZ h2 h0 hW hm (fun w T n P nr R W D a s cm hZ h2 h0 hW hm => k_one l w 0 T n P nr R W D a s cm hZ h2 h0 hW hm (fun m' e => absurd e (by omega))))
  | m + 1 => fun w T n P nr R W D a s cm hZ h2 h0 hW hm => k_any l w (m + 1) T n P nr R W D a s cm hZ h2 h0 hW hm (fun w T n P nr R W D a s cm hZ h2 h0 hW hm => k_all l w (m + 1) T n P nr R W D a s cm hZ h2 h0 hW hm (fun w T n P nr R W D a s cm hZ h2 h0 hW hm => k_one l w (m + 1) T n P nr R W D a s cm hZ h2 h0 hW hm (fun m' e => by
      obtain rfl : m' = m := by omega
      exact k_all3 l m')))
