/-! ===== M's reader: a sum ===== -/
theorem RZ_b {u : AW} {T : Nat → Int} {n P nr D a : Nat} {R : (Int × Nat) ⊕ XP} {W : List Int} {b c : Int} {s : XP} {cm : List Int} (h : RZ u T n P nr R W b D a s cm) (hc : c ≤ b) (hW : TB W c) : RZ u T n P nr R W c D a s cm := ⟨h.1, h.2.1, by rw [pw_dn h.2.2.1 hc]; exact TB_pw hW _, h.2.2.2⟩
theorem RZ_pu {u : AW} {T : Nat → Int} {n P nr D a : Nat} {R : (Int × Nat) ⊕ XP} {W : List Int} {b c x g : Int} {s : XP} {cm : List Int} (h : RZ u T n P nr R (x :: W) b D a s cm) (ho : okIt g 0 (20000 + x)) (hb : c ≤ bnd x) (hc : c ≤ b) (hW : TB W c) : RZ (puW u P cm.length g 0) T n P nr R W c D a s (cm ++ [20000 + x]) := by
  obtain ⟨r1, r2, r3, r4, r5, r6, r7, r8⟩ := h
  have r5' : cm.length + (W.length + 1) ≤ skF T n a := r5
  have hn := r2.1.2.2.1
  have hp : skF T n a ≤ n := by
    have := runF_bd isBb T (n - a) a
    unfold skF
    omega
  refine ⟨r1, RQ_pu r2 (by omega) ho, ?_, r4, ?_, r6, r7, r8⟩
  · rw [pw_dn r3 hc, pw_c hb]
    exact TB_pw hW _
  · rw [List.length_append]
    show cm.length + 1 + W.length ≤ _
    omega
theorem RZ_lt {u : AW} {T : Nat → Int} {n P nr D a : Nat} {R : (Int × Nat) ⊕ XP} {W : List Int} {b x : Int} {s : XP} {cm : List Int} (h : RZ u T n P nr R (x :: W) b D a s cm) : cm.length < 300 := by
  have r5' : cm.length + (W.length + 1) ≤ skF T n a := h.2.2.2.2.1
  have hn := h.2.1.1.2.2.1
  have h8 := h.2.2.2.2.2.2.2
  have hp : skF T n a ≤ n := by
    have := runF_bd isBb T (n - a) a
    unfold skF
    omega
  omega
theorem xT_sum {s : XP} {v : Int} (h4 : s.1.1 = 4) (hj : v = 43 ∨ v = 45) : xT s 3 v = .inr ((3, s.1.2.1, s.1.2.2), s.2.1, ((pwF 5 s.2.2.1 s.2.2.2).1, v :: (pwF 5 s.2.2.1 s.2.2.2).2)) := by
  have hb : bnd v = 5 := by unfold bnd; rw [if_neg (by omega), if_neg (by omega), if_neg (by omega), if_neg (by omega), if_neg (by omega)]
  have hg : xGoes s 3 v = true := by
    unfold xGoes isJ
    rw [Bool.and_eq_true, Bool.or_eq_true]
    exact ⟨rfl, Or.inl (decide_eq_true hj)⟩
  have hc : isC v = false := decide_eq_false (by omega)
  unfold xT
  rw [if_neg (by omega), if_neg (by omega), if_neg (by omega), if_neg (by omega), if_pos h4, if_pos hg]
  unfold xCmp xJoin
  rw [hc, hb]
  rfl
/-- the next token isn't + or - -/
def noJ (T : Nat → Int) (n a : Nat) : Prop := ¬ ((tokF T n (skF T n a)).1 = 3 ∧ (tokF T n (skF T n a)).2.1 = 43) ∧ ¬ ((tokF T n (skF T n a)).1 = 3 ∧ (tokF T n (skF T n a)).2.1 = 45)
set_option maxRecDepth 100000 in
set_option maxHeartbeats 4000000 in
theorem c_X12_readSum (l : Launch) (w : AW) (T : Nat → Int) (n P nr : Nat) (R : (Int × Nat) ⊕ XP) (W : List Int) (D a : Nat) (s : XP) (cm : List Int) (hZ : RZ w T n P nr R W 6 D a s cm) (hst : s.1.1 = 3 ∨ (s.1.1 = 2 ∧ ¬ ((tokF T n (skF T n a)).1 = 6 ∧ (tokF T n (skF T n a)).2.1 = 33) ∧ ¬ ((tokF T n (skF T n a)).1 = 3 ∧ (tokF T n (skF T n a)).2.1 = 40))) (hW : TB W 5) : HTX l yX12_readSum cX12_readSum 2 none 10 0 0 w [ar 400] (fun r w' => r = none ∧ MY P w w' ∧ ∃ (D' a' : Nat) (s' : XP) (cm' : List Int), RZ w' T n P nr R W 5 D' a' s' cm' ∧ D' < D ∧ s'.1 = (4, (sN s).1.2) ∧ s'.2.1.1 = s.2.1.1 ∧ s'.2.1.2.2 = s.2.1.2.2 ∧ noJ T n a') (TH P w R) := by
  refine HTX.of (by decide) (by intro v hv; simp only [List.mem_cons, List.not_mem_nil, or_false] at hv; rcases hv with rfl <;> rfl) (Nat.le_of_ble_eq_true rfl) ?_
  intro Γ h hQ hRm hnm hl hw0
  have hP4 := hZ.2.1.2.2.1.2.2.2
  have hM := hZ.2.1.1.1
  have s400 : w.1 400 = (112, 0) := hM.1 400 (by decide) (by decide)
  have loop : ∀ (d D1 a1 : Nat) (s1 : XP) (cm1 : List Int) (u : AW) (x : Option AV), D1 = d → MY P w u → RZ u T n P nr R W 5 D1 a1 s1 cm1 → D1 < D → s1.1 = (4, (sN s).1.2) → s1.2.1.1 = s.2.1.1 → s1.2.1.2.2 = s.2.1.2.2 → GG Γ 4 [some (ar 400), x] [] u 0 0 := by
    intro d
    induction d using Nat.strongRecOn with
    | _ d ih =>
      intro D1 a1 s1 cm1 u x hd hMY hZ1 hlt hs4 hso hsa
      have zQ := hZ1.2.1
      have za := hZ1.2.2.2.2.2.2.2
      have t400 : u.1 400 = (112, 0) := by rw [hMY.1]; exact s400
      have tP : u.1 P = (110, 0) := zQ.2.2.2.1.1
      obtain ⟨k, hk⟩ : ∃ k, (tokF T n (skF T n a1)).1 = k := ⟨_, rfl⟩
      obtain ⟨v, hv⟩ : ∃ v, (tokF T n (skF T n a1)).2.1 = v := ⟨_, rfl⟩
      have go : ∀ (g v : Int), (g = 2 ∧ v = 43 ∨ g = 3 ∧ v = 45) → (tokF T n (skF T n a1)).1 = 3 → (tokF T n (skF T n a1)).2.1 = v → GG Γ 37 [some (ar 400), some (ai g)] [] u 0 0 := by
        intro g v hgv hk hv
        have hb5 : bnd v = 5 := by rcases hgv with ⟨-, e⟩ | ⟨-, e⟩ <;> rw [e] <;> decide
        have hok : okIt g 0 (20000 + v) := by unfold okIt; rcases hgv with ⟨e1, e2⟩ | ⟨e1, e2⟩ <;> rw [e1, e2] <;> decide
        refine g_aload_n h dX12_readSum_37 rfl ?_
        refine g_callV h rfl (ci := 12) [] (by assumption) (t_next _ za zQ (by rw [hk]; decide)) clX12_391 (by decide) rfl in_X12_next se_X12_next rfl rfl (by rw [hRm]; first | decide | (simp only [clS]; omega)) (by rw [hRm]; first | decide | (simp only [clS]; omega)) (fun _ => Nat.le_of_ble_eq_true rfl) (by rw [hRm]; first | decide | (simp only [clS]; omega)) (by rw [hRm]; first | decide | (simp only [clS]; omega)) dX12_readSum_38 (fun r38 w38 hp38 => ?_)
        obtain ⟨rfl, hx, ht⟩ := hp38
        have hMY1 := MY_tr hMY (MY_X hP4 hx)
        have ex := xT_sum (s := s1) (v := v) (by rw [hs4]) (by clear hZ1; rcases hgv with ⟨-, e⟩ | ⟨-, e⟩ <;> omega)
        have e2 : xT s1 (tokF T n (skF T n a1)).1 (tokF T n (skF T n a1)).2.1 = xT s1 3 v := by rw [hk, hv]
        have zt := RZ_to (b' := 6) (W' := v :: W) hZ1 (by rw [hs4]; show (4 : Int) ≠ 6; decide) (by rw [hk]; decide) (e2.trans ex) (RQ_next zQ hx ht) rfl rfl (by rw [hZ1.2.2.1]; exact TB_pw (TB_6 _) _) (Nat.le_refl _) hZ1.2.2.2.2.2.1 hZ1.2.2.2.2.2.2.1
        have tw : w38.1 400 = (112, 0) := by rw [hMY1.1]; exact s400
        refine g_aload_n h dX12_readSum_41 rfl ?_
        refine g_callVq h rfl (ci := 12) [] (by assumption) (c_X12_readTerm _ _ T n P nr R (v :: W) _ _ _ _ zt.1 (Or.inl rfl)) clX12_430 (by decide) rfl in_X12_readTerm se_X12_readTerm rfl rfl (by rw [hRm]; first | decide | omega | (simp only [clS]; omega)) (by rw [hRm]; first | decide | omega | (simp only [clS]; omega)) (fun _ => Nat.le_of_ble_eq_true rfl) (by rw [hRm]; first | decide | omega | (simp only [clS]; omega)) (by rw [hRm]; first | decide | omega | (simp only [clS]; omega)) dX12_readSum_42 (fun r9 w9 hp9 => ?_) (fun E9 x9 w9 hx9 => g_xout hQ (by decide) (by decide) (TH_of hMY1 hx9))
        obtain ⟨rfl, hMY2, D2, a2, s2, cm2, hZ2, hD2, hs2, ho2, ha2⟩ := hp9
        have hMY3 := MY_tr hMY1 hMY2
        have t4 : w9.1 400 = (112, 0) := by rw [hMY3.1]; exact s400
        have t5 : w9.1 P = (110, 0) := hZ2.2.1.2.2.2.1.1
        refine g_aload_n h dX12_readSum_45 rfl ?_
        refine g_callV h rfl (ci := 12) [] (by assumption) (t_fresh _ hZ2.2.1) clX12_378 (by decide) rfl in_X12_fresh se_X12_fresh rfl rfl (by rw [hRm]; first | decide | (simp only [clS]; omega)) (by rw [hRm]; first | decide | (simp only [clS]; omega)) (fun _ => Nat.le_of_ble_eq_true rfl) (by rw [hRm]; first | decide | (simp only [clS]; omega)) (by rw [hRm]; first | decide | (simp only [clS]; omega)) dX12_readSum_46 (fun r46 w46 hp46 => ?_)
        obtain ⟨rfl, hw46⟩ := hp46
        rw [hw46]
        refine g_iload_n h dX12_readSum_49 rfl ?_
        refine g_iconst h dX12_readSum_50 ?_
        refine g_callV h rfl (ci := 10) [_, _] (by assumption) (t_put _ hZ2.2.1 _ _ (RZ_lt hZ2)) clX12_417 (by decide) rfl in_X10_put se_X10_put rfl rfl (by rw [hRm]; first | decide | (simp only [clS]; omega)) (by rw [hRm]; first | decide | (simp only [clS]; omega)) (fun _ => Nat.le_of_ble_eq_true rfl) (by rw [hRm]; first | decide | (simp only [clS]; omega)) (by rw [hRm]; first | decide | (simp only [clS]; omega)) dX12_readSum_51 (fun r51 w51 hp51 => ?_)
        obtain ⟨rfl, hw51⟩ := hp51
        rw [hw51]
        refine g_goto (tgt := 4) h dX12_readSum_54 (by decide) ?_
        exact ih D2 (by omega) D2 a2 s2 _ _ _ rfl (MY_tr hMY3 (MY_pu _ _ _ _ hP4)) (RZ_pu hZ2 hok (by omega) (by decide) hW) (by omega) (by rw [hs2, hs4]; rfl) (by rw [ho2]; exact hso) (by rw [ha2]; exact hsa)
      by_cases hj : k = 3 ∧ v = 43
      · refine g_aload_n h dX12_readSum_4 rfl ?_
        refine g_bipush h dX12_readSum_5 rfl ?_
        refine g_callV h rfl (ci := 12) [_] (by assumption) (t_is _ za zQ hk hv 43 ⟨by decide, by decide⟩) clX12_424 (by decide) rfl in_X12_is se_X12_is rfl rfl (by rw [hRm]; first | decide | (simp only [clS]; omega)) (by rw [hRm]; first | decide | (simp only [clS]; omega)) (fun _ => Nat.le_of_ble_eq_true rfl) (by rw [hRm]; first | decide | (simp only [clS]; omega)) (by rw [hRm]; first | decide | (simp only [clS]; omega)) dX12_readSum_7 (fun r7 w7 hp7 => ?_)
        obtain ⟨rfl, hw7⟩ := hp7
        rw [hw7]
        rw [if_pos hj]
        refine g_if_ne (tgt := 22) h dX12_readSum_10 (by decide) (by first | assumption | exact ⟨by omega, by omega⟩) (fun c10 => ?_) (fun c10 => ?_)
        · refine g_aload_n h dX12_readSum_22 rfl ?_
          refine g_bipush h dX12_readSum_23 rfl ?_
          refine g_callV h rfl (ci := 12) [_] (by assumption) (t_is _ za zQ hk hv 43 ⟨by decide, by decide⟩) clX12_424 (by decide) rfl in_X12_is se_X12_is rfl rfl (by rw [hRm]; first | decide | (simp only [clS]; omega)) (by rw [hRm]; first | decide | (simp only [clS]; omega)) (fun _ => Nat.le_of_ble_eq_true rfl) (by rw [hRm]; first | decide | (simp only [clS]; omega)) (by rw [hRm]; first | decide | (simp only [clS]; omega)) dX12_readSum_25 (fun r25 w25 hp25 => ?_)
          obtain ⟨rfl, hw25⟩ := hp25
          rw [hw25]
          rw [if_pos hj]
          refine g_if_eq (tgt := 35) h dX12_readSum_28 (by decide) (by first | assumption | exact ⟨by omega, by omega⟩) (fun c28 => ?_) (fun c28 => ?_)
          · exact absurd c28 (by decide)
          · refine g_iconst h dX12_readSum_31 ?_
            refine g_goto (tgt := 36) h dX12_readSum_32 (by decide) ?_
            refine g_istore_n h dX12_readSum_36 (Nat.le_of_ble_eq_true rfl) rfl rfl ?_
            exact go 2 43 (Or.inl ⟨rfl, rfl⟩) (by rw [hk]; exact hj.1) (by rw [hv]; exact hj.2)
        · exact absurd c10 (by decide)
      · by_cases hm : k = 3 ∧ v = 45
        · refine g_aload_n h dX12_readSum_4 rfl ?_
          refine g_bipush h dX12_readSum_5 rfl ?_
          refine g_callV h rfl (ci := 12) [_] (by assumption) (t_is _ za zQ hk hv 43 ⟨by decide, by decide⟩) clX12_424 (by decide) rfl in_X12_is se_X12_is rfl rfl (by rw [hRm]; first | decide | (simp only [clS]; omega)) (by rw [hRm]; first | decide | (simp only [clS]; omega)) (fun _ => Nat.le_of_ble_eq_true rfl) (by rw [hRm]; first | decide | (simp only [clS]; omega)) (by rw [hRm]; first | decide | (simp only [clS]; omega)) dX12_readSum_7 (fun r7 w7 hp7 => ?_)
          obtain ⟨rfl, hw7⟩ := hp7
          rw [hw7]
          rw [if_neg hj]
          refine g_if_ne (tgt := 22) h dX12_readSum_10 (by decide) (by first | assumption | exact ⟨by omega, by omega⟩) (fun c10 => ?_) (fun c10 => ?_)
          · refine g_aload_n h dX12_readSum_22 rfl ?_
            refine g_bipush h dX12_readSum_23 rfl ?_
            refine g_callV h rfl (ci := 12) [_] (by assumption) (t_is _ za zQ hk hv 43 ⟨by decide, by decide⟩) clX12_424 (by decide) rfl in_X12_is se_X12_is rfl rfl (by rw [hRm]; first | decide | (simp only [clS]; omega)) (by rw [hRm]; first | decide | (simp only [clS]; omega)) (fun _ => Nat.le_of_ble_eq_true rfl) (by rw [hRm]; first | decide | (simp only [clS]; omega)) (by rw [hRm]; first | decide | (simp only [clS]; omega)) dX12_readSum_25 (fun r25 w25 hp25 => ?_)
            obtain ⟨rfl, hw25⟩ := hp25
            rw [hw25]
            rw [if_neg hj]
            refine g_if_eq (tgt := 35) h dX12_readSum_28 (by decide) (by first | assumption | exact ⟨by omega, by omega⟩) (fun c28 => ?_) (fun c28 => ?_)
            · refine g_iconst h dX12_readSum_35 ?_
              refine g_istore_n h dX12_readSum_36 (Nat.le_of_ble_eq_true rfl) rfl rfl ?_
              exact go 3 45 (Or.inr ⟨rfl, rfl⟩) (by rw [hk]; exact hm.1) (by rw [hv]; exact hm.2)
            · exact absurd c28 (by decide)
          · refine g_aload_n h dX12_readSum_13 rfl ?_
            refine g_bipush h dX12_readSum_14 rfl ?_
            refine g_callV h rfl (ci := 12) [_] (by assumption) (t_is _ za zQ hk hv 45 ⟨by decide, by decide⟩) clX12_424 (by decide) rfl in_X12_is se_X12_is rfl rfl (by rw [hRm]; first | decide | (simp only [clS]; omega)) (by rw [hRm]; first | decide | (simp only [clS]; omega)) (fun _ => Nat.le_of_ble_eq_true rfl) (by rw [hRm]; first | decide | (simp only [clS]; omega)) (by rw [hRm]; first | decide | (simp only [clS]; omega)) dX12_readSum_16 (fun r16 w16 hp16 => ?_)
            obtain ⟨rfl, hw16⟩ := hp16
            rw [hw16]
            rw [if_pos hm]
            refine g_if_eq (tgt := 57) h dX12_readSum_19 (by decide) (by first | assumption | exact ⟨by omega, by omega⟩) (fun c19 => ?_) (fun c19 => ?_)
            · exact absurd c19 (by decide)
            · refine g_aload_n h dX12_readSum_22 rfl ?_
              refine g_bipush h dX12_readSum_23 rfl ?_
              refine g_callV h rfl (ci := 12) [_] (by assumption) (t_is _ za zQ hk hv 43 ⟨by decide, by decide⟩) clX12_424 (by decide) rfl in_X12_is se_X12_is rfl rfl (by rw [hRm]; first | decide | (simp only [clS]; omega)) (by rw [hRm]; first | decide | (simp only [clS]; omega)) (fun _ => Nat.le_of_ble_eq_true rfl) (by rw [hRm]; first | decide | (simp only [clS]; omega)) (by rw [hRm]; first | decide | (simp only [clS]; omega)) dX12_readSum_25 (fun r25 w25 hp25 => ?_)
              obtain ⟨rfl, hw25⟩ := hp25
              rw [hw25]
              rw [if_neg hj]
              refine g_if_eq (tgt := 35) h dX12_readSum_28 (by decide) (by first | assumption | exact ⟨by omega, by omega⟩) (fun c28 => ?_) (fun c28 => ?_)
              · refine g_iconst h dX12_readSum_35 ?_
                refine g_istore_n h dX12_readSum_36 (Nat.le_of_ble_eq_true rfl) rfl rfl ?_
                exact go 3 45 (Or.inr ⟨rfl, rfl⟩) (by rw [hk]; exact hm.1) (by rw [hv]; exact hm.2)
              · exact absurd c28 (by decide)
        · refine g_aload_n h dX12_readSum_4 rfl ?_
          refine g_bipush h dX12_readSum_5 rfl ?_
          refine g_callV h rfl (ci := 12) [_] (by assumption) (t_is _ za zQ hk hv 43 ⟨by decide, by decide⟩) clX12_424 (by decide) rfl in_X12_is se_X12_is rfl rfl (by rw [hRm]; first | decide | (simp only [clS]; omega)) (by rw [hRm]; first | decide | (simp only [clS]; omega)) (fun _ => Nat.le_of_ble_eq_true rfl) (by rw [hRm]; first | decide | (simp only [clS]; omega)) (by rw [hRm]; first | decide | (simp only [clS]; omega)) dX12_readSum_7 (fun r7 w7 hp7 => ?_)
          obtain ⟨rfl, hw7⟩ := hp7
          rw [hw7]
          rw [if_neg hj]
          refine g_if_ne (tgt := 22) h dX12_readSum_10 (by decide) (by first | assumption | exact ⟨by omega, by omega⟩) (fun c10 => ?_) (fun c10 => ?_)
          · first
            | exact absurd c10 (by decide)
            | exact absurd c19 (by decide)
          · refine g_aload_n h dX12_readSum_13 rfl ?_
            refine g_bipush h dX12_readSum_14 rfl ?_
            refine g_callV h rfl (ci := 12) [_] (by assumption) (t_is _ za zQ hk hv 45 ⟨by decide, by decide⟩) clX12_424 (by decide) rfl in_X12_is se_X12_is rfl rfl (by rw [hRm]; first | decide | (simp only [clS]; omega)) (by rw [hRm]; first | decide | (simp only [clS]; omega)) (fun _ => Nat.le_of_ble_eq_true rfl) (by rw [hRm]; first | decide | (simp only [clS]; omega)) (by rw [hRm]; first | decide | (simp only [clS]; omega)) dX12_readSum_16 (fun r16 w16 hp16 => ?_)
            obtain ⟨rfl, hw16⟩ := hp16
            rw [hw16]
            rw [if_neg hm]
            refine g_if_eq (tgt := 57) h dX12_readSum_19 (by decide) (by first | assumption | exact ⟨by omega, by omega⟩) (fun c19 => ?_) (fun c19 => ?_)
            · refine g_xret hQ h hRm fun Γ h hQ hRm => ?_
              refine g_vret h hQ (by first | decide | omega | (simp only [clS]; omega)) (by first | decide | omega | (simp only [clS]; omega)) ?_ dX12_readSum_57
              exact ⟨rfl, hMY, D1, a1, s1, cm1, hZ1, hlt, hs4, hso, hsa, by unfold noJ; rw [hk, hv]; exact ⟨hj, hm⟩⟩
            · first
              | exact absurd c10 (by decide)
              | exact absurd c19 (by decide)
  refine g_aload_n h dX12_readSum_0 rfl ?_
  refine g_callVq h rfl (ci := 12) [] (by assumption) (c_X12_readTerm _ _ T n P nr R W D a s cm hZ hst) clX12_430 (by decide) rfl in_X12_readTerm se_X12_readTerm rfl rfl (by rw [hRm]; first | decide | omega | (simp only [clS]; omega)) (by rw [hRm]; first | decide | omega | (simp only [clS]; omega)) (fun _ => Nat.le_of_ble_eq_true rfl) (by rw [hRm]; first | decide | omega | (simp only [clS]; omega)) (by rw [hRm]; first | decide | omega | (simp only [clS]; omega)) dX12_readSum_1 (fun r9 w9 hp9 => ?_) (fun E9 x9 w9 hx9 => g_xout hQ (by decide) (by decide) (TH_of (MY_rfl _ _) hx9))
  obtain ⟨rfl, hMY, D2, a2, s2, cm2, hZ2, hD2, hs2, ho2, ha2⟩ := hp9
  exact loop D2 D2 a2 s2 cm2 _ _ rfl hMY (RZ_b hZ2 (by decide) hW) hD2 hs2 ho2 ha2
