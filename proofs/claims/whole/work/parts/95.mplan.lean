/-! ===== M: what is checked and planned ===== -/
/-- the k-th of lake L's own pipes -/
def ooM (w : AW) (L np k : Nat) : Nat := (loF (w.2.1 429) L (w.2.1 436) np k).toNat
def ckW (u : AW) (a b c : Int) : AW := upI (upI (upI u 437 0 a) 437 1 b) 437 2 c
def trF (a b c : Int) (k : Nat) : Int := if k = 0 then a else if k = 1 then b else c
/-- share and layers are good, the first k -/
def ckG (share : Int) (f : Nat → Int) : Nat → Int
  | 0 => if 1 ≤ share ∧ share ≤ 200 then 1 else 0
  | k + 1 => if ckG share f k = 1 ∧ 0 ≤ f k ∧ f k < 10 then 1 else 0
theorem ckG_01 (share : Int) (f : Nat → Int) : ∀ k, ckG share f k = 0 ∨ ckG share f k = 1
  | 0 => by unfold ckG; split; exact Or.inr rfl; exact Or.inl rfl
  | k + 1 => by unfold ckG; split; exact Or.inr rfl; exact Or.inl rfl
theorem ckG_1 {share : Int} {f : Nat → Int} : ∀ {k : Nat}, ckG share f k = 1 → (1 ≤ share ∧ share ≤ 200) ∧ ∀ j, j < k → 0 ≤ f j ∧ f j < 10
  | 0, h => by
    unfold ckG at h
    split at h
    · exact ⟨by assumption, fun j hj => by omega⟩
    · cases h
  | k + 1, h => by
    unfold ckG at h
    split at h
    · rename_i q
      obtain ⟨a, b⟩ := ckG_1 q.1
      refine ⟨a, fun j hj => ?_⟩
      by_cases e : j = k
      · subst e; exact q.2
      · exact b j (by omega)
    · cases h
def ckU (w : AW) (L np : Nat) (a b c : Int) : AW := ckW (loW (th w) L np) a b c
def ckR (w : AW) (L np : Nat) (share a b c : Int) : Int × AW := dsM (ckU w L np a b c) L np (rkF (w.2.1 429) L np) (ooM w L np) share 60
theorem MO_ck {w : AW} {L np : Nat} {a b c : Int} (hP : MPI w np) (h3 : rkF (w.2.1 429) L np ≤ 3) (hf : ∀ k, k < rkF (w.2.1 429) L np → 0 ≤ trF a b c k ∧ trF a b c k < 10) : MO (ckU w L np a b c) np (rkF (w.2.1 429) L np) (ooM w L np) := by
  refine ⟨rfl, h3, fun k hk => ?_⟩
  obtain ⟨p, p1, p2, p3, p4⟩ := loF_of (old := w.2.1 436) hk
  have e1 : (ckU w L np a b c).2.1 436 k = loF (w.2.1 429) L (w.2.1 436) np k := rfl
  have e2 : ooM w L np k = p := by unfold ooM; rw [p4]; rfl
  have e3 : (ckU w L np a b c).2.1 437 k = trF a b c k := by
    rcases (show k = 0 ∨ k = 1 ∨ k = 2 by omega) with rfl | rfl | rfl <;> rfl
  rw [e1, e2, e3, p4]
  exact ⟨rfl, p1, hf k hk⟩
set_option maxRecDepth 100000 in
set_option maxHeartbeats 4000000 in
theorem c_X12_check (l : Launch) (w : AW) (np : Nat) (z share a b c : Int) (hM : MS w) (hG : MG w) (hN : MN w) (hP : MPI w np) (hr3 : ∀ L, L < 2 → rkF (w.2.1 429) L np ≤ 3) (hz : R32 z) (hs : R32 share) (ha : R32 a) (hb : R32 b) (hc : R32 c) : HT l yX12_check cX12_check 8 (some .int) 6 0 0 w [ar 400, ai z, ai share, ai a, ai b, ai c] (fun r w' => (¬ (0 ≤ z ∧ z < 2) → r = some (ai (-1)) ∧ w' = tM (th w) 1) ∧ (0 ≤ z ∧ z < 2 → ¬ ckG share (trF a b c) (rkF (w.2.1 429) z.toNat np) = 1 → r = some (ai (-1)) ∧ w' = tM (ckU w z.toNat np a b c) 2) ∧ (0 ≤ z ∧ z < 2 → ckG share (trF a b c) (rkF (w.2.1 429) z.toNat np) = 1 → r = some (ai (ckR w z.toNat np share a b c).1) ∧ w' = tM (ckR w z.toNat np share a b c).2 0)) := by
  refine HT.of (by decide) (by intro v hv; simp only [List.mem_cons, List.not_mem_nil, or_false] at hv; rcases hv with rfl | rfl | rfl | rfl | rfl | rfl <;> rfl) (Nat.le_of_ble_eq_true rfl) ?_
  intro Γ h hQ hRm hnm hl hw0
  have s400 : w.1 400 = (112, 0) := hM.1 400 (by decide) (by decide)
  have s437 : w.1 437 = (1, 3) := hM.1 437 (by decide) (by decide)
  have p37 : w.2.2 400 37 = some 437 := hM.2 (400, 37, 437) (by decide)
  by_cases hzl : 0 ≤ z ∧ z < 2
  · obtain ⟨L, rfl⟩ : ∃ L : Nat, z = (L : Int) := ⟨z.toNat, by omega⟩
    have hL : L < 2 := by omega
    have eL : ((L : Int)).toNat = L := Int.toNat_natCast L
    rw [eL] at hQ
    have hr := hr3 L hL
    have hMc : MS (ckU w L np a b c) := MS_of rfl rfl hM
    have e39 : (ckU w L np a b c).2.1 400 39 = ((rkF (w.2.1 429) L np : Nat) : Int) := rfl
    have h437 : ∀ k, k < 3 → (ckU w L np a b c).2.1 437 k = trF a b c k := by
      intro k hk
      rcases (show k = 0 ∨ k = 1 ∨ k = 2 by omega) with rfl | rfl | rfl <;> rfl
    have htR : ∀ k, R32 (trF a b c k) := by
      intro k
      unfold trF
      split
      · exact ha
      · split
        · exact hb
        · exact hc
    have done1 : ckG share (trF a b c) (rkF (w.2.1 429) L np) = 1 → ∀ (x : Option AV), GG Γ 111 [some (ar 400), some (ai (L : Int)), some (ai share), some (ai a), some (ai b), some (ai c), some (ai 1), x] [] (ckU w L np a b c) 0 0 := by
      intro hg x
      have hg2 := (ckG_1 hg).2
      have hMO := MO_ck (a := a) (b := b) (c := c) hP hr hg2
      have ts400 : (ckU w L np a b c).1 400 = (112, 0) := hMc.1 400 (by decide) (by decide)
      have ts437 : (ckU w L np a b c).1 437 = (1, 3) := hMc.1 437 (by decide) (by decide)
      have tp37 : (ckU w L np a b c).2.2 400 37 = some 437 := hMc.2 (400, 37, 437) (by decide)
      refine g_aload_n h dX12_check_111 rfl ?_
      refine g_aload_n h dX12_check_112 rfl ?_
      refine g_iload_n h dX12_check_113 rfl ?_
      refine g_iload_n h dX12_check_114 rfl ?_
      refine g_bipush h dX12_check_115 rfl ?_
      refine g_callV h rfl (ci := 12) [_, _, _] (by assumption) (c_X12_daysBy _ _ np _ L _ share 60 hMc hG hN hP hL hMO hs ⟨by decide, by decide⟩) clX12_302 (by decide) rfl in_X12_daysBy se_X12_daysBy rfl rfl (by rw [hRm]; first | decide | (simp only [clS]; omega)) (by rw [hRm]; first | decide | (simp only [clS]; omega)) (fun _ => Nat.le_of_ble_eq_true rfl) (by rw [hRm]; first | decide | (simp only [clS]; omega)) (by rw [hRm]; first | decide | (simp only [clS]; omega)) dX12_check_117 (fun r117 w117 hp117 => ?_)
      obtain ⟨rfl, hw117⟩ := hp117
      rw [hw117]
      have hMF : MF (ckU w L np a b c) (ckR w L np share a b c).2 := MF_ds _ _ _ _ _ _ _
      have hM9 := MS_MF hMF hMc
      have v400 : (ckR w L np share a b c).2.1 400 = (112, 0) := hM9.1 400 (by decide) (by decide)
      change GG Γ _ _ [ai (ckR w L np share a b c).1, ar 400] (ckR w L np share a b c).2 _ _
      refine g_callV h rfl (ci := 12) [_] (by assumption) (c_X12_done _ _ _ hM9) clX12_277 (by decide) rfl in_X12_done se_X12_done rfl rfl (by rw [hRm]; first | decide | (simp only [clS]; omega)) (by rw [hRm]; first | decide | (simp only [clS]; omega)) (fun _ => Nat.le_of_ble_eq_true rfl) (by rw [hRm]; first | decide | (simp only [clS]; omega)) (by rw [hRm]; first | decide | (simp only [clS]; omega)) dX12_check_120 (fun r120 w120 hp120 => ?_)
      obtain ⟨rfl, hw120⟩ := hp120
      rw [hw120]
      refine g_iret h hQ (by first | decide | omega | (simp only [clS]; omega)) (by first | decide | omega | (simp only [clS]; omega)) ?_ dX12_check_123
      exact ⟨fun q => absurd hzl q, fun _ q => absurd hg q, fun _ _ => ⟨rfl, rfl⟩⟩
    have loop : ∀ (d k : Nat), k + d = rkF (w.2.1 429) L np → GG Γ 59 [some (ar 400), some (ai (L : Int)), some (ai share), some (ai a), some (ai b), some (ai c), some (ai (ckG share (trF a b c) k)), some (ai (k : Int))] [] (ckU w L np a b c) 0 0 := by
      intro d
      have ts400 : (ckU w L np a b c).1 400 = (112, 0) := hMc.1 400 (by decide) (by decide)
      have ts437 : (ckU w L np a b c).1 437 = (1, 3) := hMc.1 437 (by decide) (by decide)
      have tp37 : (ckU w L np a b c).2.2 400 37 = some 437 := hMc.2 (400, 37, 437) (by decide)
      induction d with
      | zero =>
        intro k hk
        have hk2 : k = rkF (w.2.1 429) L np := by omega
        subst hk2
        have h01 := ckG_01 share (trF a b c) (rkF (w.2.1 429) L np)
        refine g_iload h dX12_check_59 rfl ?_
        refine g_aload_n h dX12_check_61 rfl ?_
        refine g_getI h flX12_295 rfl (by assumption) dX12_check_62 ?_
        rw [e39]
        refine g_icmp_ge (tgt := 100) h dX12_check_65 (by decide) (by first | assumption | exact ⟨by omega, by omega⟩) (by first | assumption | exact ⟨by omega, by omega⟩) (fun c65 => ?_) (fun c65 => ?_)
        · refine g_iload h dX12_check_100 rfl ?_
          refine g_if_ne (tgt := 111) h dX12_check_102 (by decide) (by first | assumption | exact ⟨by omega, by omega⟩) (fun c102 => ?_) (fun c102 => ?_)
          · have hg : ckG share (trF a b c) (rkF (w.2.1 429) L np) = 1 := by omega
            rw [hg]
            exact done1 hg _
          · refine g_aload_n h dX12_check_105 rfl ?_
            refine g_iconst h dX12_check_106 ?_
            refine g_callV h rfl (ci := 12) [_] (by assumption) (c_X12_refused _ _ _ hMc) clX12_274 (by decide) rfl in_X12_refused se_X12_refused rfl rfl (by rw [hRm]; first | decide | (simp only [clS]; omega)) (by rw [hRm]; first | decide | (simp only [clS]; omega)) (fun _ => Nat.le_of_ble_eq_true rfl) (by rw [hRm]; first | decide | (simp only [clS]; omega)) (by rw [hRm]; first | decide | (simp only [clS]; omega)) dX12_check_107 (fun r107 w107 hp107 => ?_)
            obtain ⟨rfl, hw107⟩ := hp107
            rw [hw107]
            refine g_iret h hQ (by first | decide | omega | (simp only [clS]; omega)) (by first | decide | omega | (simp only [clS]; omega)) ?_ dX12_check_110
            exact ⟨fun q => absurd hzl q, fun _ _ => ⟨rfl, rfl⟩, fun _ q => absurd q (by omega)⟩
        · exfalso; omega
      | succ d ih =>
        intro k hk
        have h01 := ckG_01 share (trF a b c) k
        have h43 := h437 k (by omega)
        have hR := htR k
        have ih2 := ih (k + 1) (by omega)
        have hst : ckG share (trF a b c) (k + 1) = if ckG share (trF a b c) k = 1 ∧ 0 ≤ trF a b c k ∧ trF a b c k < 10 then 1 else 0 := rfl
        rw [hst] at ih2
        refine g_iload h dX12_check_59 rfl ?_
        refine g_aload_n h dX12_check_61 rfl ?_
        refine g_getI h flX12_295 rfl (by assumption) dX12_check_62 ?_
        rw [e39]
        refine g_icmp_ge (tgt := 100) h dX12_check_65 (by decide) (by first | assumption | exact ⟨by omega, by omega⟩) (by first | assumption | exact ⟨by omega, by omega⟩) (fun c65 => ?_) (fun c65 => ?_)
        · exfalso; omega
        · refine g_iload h dX12_check_68 rfl ?_
          refine g_if_eq (tgt := 91) h dX12_check_70 (by decide) (by first | assumption | exact ⟨by omega, by omega⟩) (fun c70 => ?_) (fun c70 => ?_)
          · refine g_iconst h dX12_check_91 ?_
            refine g_istore h dX12_check_92 (Nat.le_of_ble_eq_true rfl) rfl rfl ?_
            refine g_iinc h dX12_check_94 rfl (Nat.le_of_ble_eq_true rfl) rfl rfl ?_
            refine g_goto (tgt := 59) h dX12_check_97 (by decide) ?_
            first
            | (rw [if_pos (by omega)] at ih2; exact ih2)
            | (rw [if_neg (by omega)] at ih2; exact ih2)
          · refine g_iload_n h dX12_check_73 rfl ?_
            refine g_aload_n h dX12_check_74 rfl ?_
            refine g_getQ h flX12_108 rfl (by assumption) (by assumption) dX12_check_75 ?_
            refine g_iload h dX12_check_78 rfl ?_
            refine g_iald h _ (by assumption) rfl (by first | omega | assumption) (by first | decide | omega) dX12_check_80 ?_
            rw [h43]
            refine g_callS h rfl [_, _] (c_X12_isLayer _ _ _ _ hz hR) clX12_203 st_X12_isLayer rfl rfl (by rw [hRm]; first | decide | (simp only [clS]; omega)) (by rw [hRm]; first | decide | (simp only [clS]; omega)) (fun _ => Nat.le_of_ble_eq_true rfl) (by rw [hRm]; first | decide | (simp only [clS]; omega)) (by rw [hRm]; first | decide | (simp only [clS]; omega)) dX12_check_81 (fun r81 w81 hp81 => ?_)
            obtain ⟨rfl, hw81⟩ := hp81
            rw [hw81]
            have hbw81 := ite01 ((0 ≤ (L : Int) ∧ (L : Int) < 2) ∧ 0 ≤ trF a b c k ∧ trF a b c k < 10)
            refine g_if_eq (tgt := 91) h dX12_check_84 (by decide) (by first | assumption | exact ⟨by omega, by omega⟩) (fun c84 => ?_) (fun c84 => ?_)
            · refine g_iconst h dX12_check_91 ?_
              refine g_istore h dX12_check_92 (Nat.le_of_ble_eq_true rfl) rfl rfl ?_
              refine g_iinc h dX12_check_94 rfl (Nat.le_of_ble_eq_true rfl) rfl rfl ?_
              refine g_goto (tgt := 59) h dX12_check_97 (by decide) ?_
              first
              | (rw [if_pos (by omega)] at ih2; exact ih2)
              | (rw [if_neg (by omega)] at ih2; exact ih2)
            · refine g_iconst h dX12_check_87 ?_
              refine g_goto (tgt := 92) h dX12_check_88 (by decide) ?_
              refine g_istore h dX12_check_92 (Nat.le_of_ble_eq_true rfl) rfl rfl ?_
              refine g_iinc h dX12_check_94 rfl (Nat.le_of_ble_eq_true rfl) rfl rfl ?_
              refine g_goto (tgt := 59) h dX12_check_97 (by decide) ?_
              first
              | (rw [if_pos (by omega)] at ih2; exact ih2)
              | (rw [if_neg (by omega)] at ih2; exact ih2)
    refine g_aload_n h dX12_check_0 rfl ?_
    refine g_iconst h dX12_check_1 ?_
    refine g_putI h flX12_1 rfl rfl (by assumption) dX12_check_2 ?_
    refine g_iload_n h dX12_check_5 rfl ?_
    refine g_callS h rfl [_] (c_X12_isLake _ _ _ hz) clX12_182 st_X12_isLake rfl rfl (by rw [hRm]; first | decide | (simp only [clS]; omega)) (by rw [hRm]; first | decide | (simp only [clS]; omega)) (fun _ => Nat.le_of_ble_eq_true rfl) (by rw [hRm]; first | decide | (simp only [clS]; omega)) (by rw [hRm]; first | decide | (simp only [clS]; omega)) dX12_check_6 (fun r6 w6 hp6 => ?_)
    obtain ⟨rfl, hw6⟩ := hp6
    rw [hw6]
    have hbw6 := ite01 (0 ≤ (L : Int) ∧ (L : Int) < 2)
    refine g_if_ne (tgt := 18) h dX12_check_9 (by decide) (by first | assumption | exact ⟨by omega, by omega⟩) (fun c9 => ?_) (fun c9 => ?_)
    · refine g_aload_n h dX12_check_18 rfl ?_
      refine g_iload_n h dX12_check_19 rfl ?_
      refine g_callV h rfl (ci := 12) [_] (by assumption) (c_X12_listOwn _ _ np L (MS_th hM) hP hL hr) clX12_298 (by decide) rfl in_X12_listOwn se_X12_listOwn rfl rfl (by rw [hRm]; first | decide | (simp only [clS]; omega)) (by rw [hRm]; first | decide | (simp only [clS]; omega)) (fun _ => Nat.le_of_ble_eq_true rfl) (by rw [hRm]; first | decide | (simp only [clS]; omega)) (by rw [hRm]; first | decide | (simp only [clS]; omega)) dX12_check_20 (fun r20 w20 hp20 => ?_)
      obtain ⟨rfl, hw20⟩ := hp20
      rw [hw20]
      refine g_aload_n h dX12_check_23 rfl ?_
      refine g_getQ h flX12_108 rfl (by assumption) (by assumption) dX12_check_24 ?_
      refine g_iconst h dX12_check_27 ?_
      refine g_iload_n h dX12_check_28 rfl ?_
      refine g_iast h (0) (by assumption) (by first | omega | assumption) (by first | omega | assumption) (by first | decide | omega) dX12_check_29 ?_
      refine g_aload_n h dX12_check_30 rfl ?_
      refine g_getQ h flX12_108 rfl (by assumption) (by assumption) dX12_check_31 ?_
      refine g_iconst h dX12_check_34 ?_
      refine g_iload h dX12_check_35 rfl ?_
      refine g_iast h (1) (by assumption) (by first | omega | assumption) (by first | omega | assumption) (by first | decide | omega) dX12_check_37 ?_
      refine g_aload_n h dX12_check_38 rfl ?_
      refine g_getQ h flX12_108 rfl (by assumption) (by assumption) dX12_check_39 ?_
      refine g_iconst h dX12_check_42 ?_
      refine g_iload h dX12_check_43 rfl ?_
      refine g_iast h (2) (by assumption) (by first | omega | assumption) (by first | omega | assumption) (by first | decide | omega) dX12_check_45 ?_
      refine g_iload_n h dX12_check_46 rfl ?_
      refine g_iconst h dX12_check_47 ?_
      refine g_sipush h dX12_check_48 rfl ?_
      refine g_callS h rfl [_, _, _] (c_X12_in _ _ _ _ _ hs ⟨by omega, by omega⟩ ⟨by omega, by omega⟩) clX12_211 st_X12_in rfl rfl (by rw [hRm]; first | decide | (simp only [clS]; omega)) (by rw [hRm]; first | decide | (simp only [clS]; omega)) (fun _ => Nat.le_of_ble_eq_true rfl) (by rw [hRm]; first | decide | (simp only [clS]; omega)) (by rw [hRm]; first | decide | (simp only [clS]; omega)) dX12_check_51 (fun r51 w51 hp51 => ?_)
      obtain ⟨rfl, hw51⟩ := hp51
      rw [hw51]
      refine g_istore h dX12_check_54 (Nat.le_of_ble_eq_true rfl) rfl rfl ?_
      refine g_iconst h dX12_check_56 ?_
      refine g_istore h dX12_check_57 (Nat.le_of_ble_eq_true rfl) rfl rfl ?_
      exact loop (rkF (w.2.1 429) L np) 0 (by omega)
    · exfalso; omega
  · skip
    refine g_aload_n h dX12_check_0 rfl ?_
    refine g_iconst h dX12_check_1 ?_
    refine g_putI h flX12_1 rfl rfl (by assumption) dX12_check_2 ?_
    refine g_iload_n h dX12_check_5 rfl ?_
    refine g_callS h rfl [_] (c_X12_isLake _ _ _ hz) clX12_182 st_X12_isLake rfl rfl (by rw [hRm]; first | decide | (simp only [clS]; omega)) (by rw [hRm]; first | decide | (simp only [clS]; omega)) (fun _ => Nat.le_of_ble_eq_true rfl) (by rw [hRm]; first | decide | (simp only [clS]; omega)) (by rw [hRm]; first | decide | (simp only [clS]; omega)) dX12_check_6 (fun r6 w6 hp6 => ?_)
    obtain ⟨rfl, hw6⟩ := hp6
    rw [hw6]
    have hbw6 := ite01 (0 ≤ z ∧ z < 2)
    refine g_if_ne (tgt := 18) h dX12_check_9 (by decide) (by first | assumption | exact ⟨by omega, by omega⟩) (fun c9 => ?_) (fun c9 => ?_)
    · exfalso; omega
    · refine g_aload_n h dX12_check_12 rfl ?_
      refine g_iconst h dX12_check_13 ?_
      refine g_callV h rfl (ci := 12) [_] (by assumption) (c_X12_refused _ _ _ (MS_of rfl rfl hM)) clX12_274 (by decide) rfl in_X12_refused se_X12_refused rfl rfl (by rw [hRm]; first | decide | (simp only [clS]; omega)) (by rw [hRm]; first | decide | (simp only [clS]; omega)) (fun _ => Nat.le_of_ble_eq_true rfl) (by rw [hRm]; first | decide | (simp only [clS]; omega)) (by rw [hRm]; first | decide | (simp only [clS]; omega)) dX12_check_14 (fun r14 w14 hp14 => ?_)
      obtain ⟨rfl, hw14⟩ := hp14
      rw [hw14]
      refine g_iret h hQ (by first | decide | omega | (simp only [clS]; omega)) (by first | decide | omega | (simp only [clS]; omega)) ?_ dX12_check_17
      exact ⟨fun _ => ⟨rfl, rfl⟩, fun q => absurd q hzl, fun q => absurd q hzl⟩
abbrev PS : Type := AW × Int × Int × Int
/-- one try of a plan: the world, whether found, the least days, the fewest moved -/
def plS (L np m : Nat) (o : Nat → Nat) (share : Int) (s : PS) (code : Nat) : PS :=
  if (dsM (sR s.1 437 (spR m (code : Int) (s.1.2.1 437))) L np m o share s.2.2.1).1 = -2 ∨ (s.2.1 = 1 ∧ (dsM (sR s.1 437 (spR m (code : Int) (s.1.2.1 437))) L np m o share s.2.2.1).1 = s.2.2.1 ∧ s.2.2.2 ≤ mvF (dsM (sR s.1 437 (spR m (code : Int) (s.1.2.1 437))) L np m o share s.2.2.1).2 o m)
  then ((dsM (sR s.1 437 (spR m (code : Int) (s.1.2.1 437))) L np m o share s.2.2.1).2, s.2.1, s.2.2.1, s.2.2.2)
  else (sR (dsM (sR s.1 437 (spR m (code : Int) (s.1.2.1 437))) L np m o share s.2.2.1).2 438 (cpR ((dsM (sR s.1 437 (spR m (code : Int) (s.1.2.1 437))) L np m o share s.2.2.1).2.2.1 438) ((dsM (sR s.1 437 (spR m (code : Int) (s.1.2.1 437))) L np m o share s.2.2.1).2.2.1 437) m), 1, (dsM (sR s.1 437 (spR m (code : Int) (s.1.2.1 437))) L np m o share s.2.2.1).1, mvF (dsM (sR s.1 437 (spR m (code : Int) (s.1.2.1 437))) L np m o share s.2.2.1).2 o m)
def plF (L np m : Nat) (o : Nat → Nat) (share : Int) (s : PS) : Nat → PS
  | 0 => s
  | c + 1 => plS L np m o share (plF L np m o share s c) c
theorem spR_b2 : ∀ (k : Nat) (r : Int) (f : Nat → Int) (j : Nat), 0 ≤ r → j < k ∨ (0 ≤ f j ∧ f j < 10) → 0 ≤ spR k r f j ∧ spR k r f j < 10
  | 0, _, _, _, _, h => by
    rcases h with h | h
    · omega
    · exact h
  | k + 1, r, f, j, hr, h => by
    refine spR_b2 k (r / 10) (uI f k (r % 10)) j (by omega) ?_
    by_cases e : j = k
    · subst e; right; rw [uI_at]; omega
    · rcases h with h | h
      · exact Or.inl (by omega)
      · right; rw [uI_ne _ _ e]; exact h
/-- what holds along a plan -/
def PK (u : AW) (np m : Nat) (o : Nat → Nat) : Prop := MS u ∧ MG u ∧ MN u ∧ MPI u np ∧ u.2.1 400 39 = (m : Int) ∧ m ≤ 3 ∧ ∀ k, k < m → u.2.1 436 k = (o k : Int) ∧ o k < np
theorem PK_437 {u : AW} {np m : Nat} {o : Nat → Nat} (h : PK u np m o) (f : Nat → Int) : PK (sR u 437 f) np m o := ⟨MS_of rfl rfl h.1, h.2.1, h.2.2.1, h.2.2.2.1, h.2.2.2.2.1, h.2.2.2.2.2.1, h.2.2.2.2.2.2⟩
theorem PK_438 {u : AW} {np m : Nat} {o : Nat → Nat} (h : PK u np m o) (f : Nat → Int) : PK (sR u 438 f) np m o := ⟨MS_of rfl rfl h.1, h.2.1, h.2.2.1, h.2.2.2.1, h.2.2.2.2.1, h.2.2.2.2.2.1, h.2.2.2.2.2.2⟩
theorem PK_MF {u v : AW} {np m : Nat} {o : Nat → Nat} (g : MF u v) (h : PK u np m o) : PK v np m o := by
  refine ⟨MS_MF g h.1, MG_MF g h.2.1, MN_MF g h.2.2.1, MPI_MF g h.2.2.2.1, (g.2.2.2 39 (by decide) (by decide)).trans h.2.2.2.2.1, h.2.2.2.2.2.1, ?_⟩
  rw [g.2.2.1 436 ⟨by decide, by decide, by decide, by decide, by decide, by decide, by decide⟩]
  exact h.2.2.2.2.2.2
theorem PK_MO {u : AW} {np m : Nat} {o : Nat → Nat} (h : PK u np m o) (hf : ∀ k, k < m → 0 ≤ u.2.1 437 k ∧ u.2.1 437 k < 10) : MO u np m o := ⟨h.2.2.2.2.1, h.2.2.2.2.2.1, fun k hk => ⟨(h.2.2.2.2.2.2 k hk).1, (h.2.2.2.2.2.2 k hk).2, hf k hk⟩⟩
theorem mvF_bd (w : AW) (o : Nat → Nat) : ∀ k : Nat, 0 ≤ mvF w o k ∧ mvF w o k ≤ k
  | 0 => ⟨Int.le_refl _, Int.le_refl _⟩
  | k + 1 => by
    have := mvF_bd w o k
    unfold mvF
    split <;> omega
/-- what holds along the tries -/
def PI2 (s : PS) (np m : Nat) (o : Nat → Nat) : Prop := PK s.1 np m o ∧ (s.2.1 = 0 ∨ s.2.1 = 1) ∧ (0 ≤ s.2.2.1 ∧ s.2.2.1 ≤ 60) ∧ (0 ≤ s.2.2.2 ∧ s.2.2.2 ≤ 1000000)
theorem PI2_s {s : PS} {L np m : Nat} {o : Nat → Nat} {share : Int} {code : Nat} (h : PI2 s np m o) : PI2 (plS L np m o share s code) np m o := by
  obtain ⟨h1, h2, h3, h4⟩ := h
  have g := MF_ds (sR s.1 437 (spR m (code : Int) (s.1.2.1 437))) L np m o share s.2.2.1
  have k1 := PK_MF g (PK_437 h1 _)
  have hb := dtM_bd (L := L) (np := np) (share := share) s.2.2.1.toNat 1 (dyF (tkW (sR s.1 437 (spR m (code : Int) (s.1.2.1 437))) L np) o m)
  have hmv := mvF_bd (dsM (sR s.1 437 (spR m (code : Int) (s.1.2.1 437))) L np m o share s.2.2.1).2 o m
  have hm3 := h1.2.2.2.2.2.1
  unfold plS
  split
  · exact ⟨k1, h2, h3, h4⟩
  · rename_i q
    have hd : (dsM (sR s.1 437 (spR m (code : Int) (s.1.2.1 437))) L np m o share s.2.2.1).1 ≠ -2 := fun e => q (Or.inl e)
    unfold dsM at hd
    refine ⟨PK_438 k1 _, Or.inr rfl, ?_, ?_⟩
    · unfold dsM
      show 0 ≤ (dtM L np share s.2.2.1.toNat 1 (dyF (tkW (sR s.1 437 (spR m (code : Int) (s.1.2.1 437))) L np) o m)).1 ∧ (dtM L np share s.2.2.1.toNat 1 (dyF (tkW (sR s.1 437 (spR m (code : Int) (s.1.2.1 437))) L np) o m)).1 ≤ 60
      omega
    · show 0 ≤ mvF _ o m ∧ mvF _ o m ≤ 1000000
      omega
theorem PI2_F {s : PS} {L np m : Nat} {o : Nat → Nat} {share : Int} (h : PI2 s np m o) : ∀ c, PI2 (plF L np m o share s c) np m o
  | 0 => h
  | c + 1 => PI2_s (PI2_F h c)
def allF (m : Nat) : Nat := if m = 0 then 1 else if m = 1 then 10 else if m = 2 then 100 else 1000
def plR (w : AW) (L np : Nat) (share : Int) : PS := plF L np (rkF (w.2.1 429) L np) (ooM w L np) share (loW (th w) L np, 0, 60, 1000000) (allF (rkF (w.2.1 429) L np))
def plE (s : PS) (m : Nat) : AW := sR (upI s.1 400 40 (m : Int)) 441 (cpR (s.1.2.1 441) (s.1.2.1 438) m)
set_option maxRecDepth 100000 in
set_option maxHeartbeats 4000000 in
theorem c_X12_plan (l : Launch) (w : AW) (np : Nat) (z share : Int) (hM : MS w) (hG : MG w) (hN : MN w) (hP : MPI w np) (hr3 : ∀ L, L < 2 → rkF (w.2.1 429) L np ≤ 3) (hz : R32 z) (hs : R32 share) : HT l yX12_plan cX12_plan 11 (some .int) 6 0 0 w [ar 400, ai z, ai share] (fun r w' => (¬ (0 ≤ z ∧ z < 2) → r = some (ai (-1)) ∧ w' = tM (th w) 1) ∧ (0 ≤ z ∧ z < 2 → ¬ (1 ≤ share ∧ share ≤ 200) → r = some (ai (-1)) ∧ w' = tM (th w) 2) ∧ (0 ≤ z ∧ z < 2 → 1 ≤ share ∧ share ≤ 200 → r = some (ai (if (plR w z.toNat np share).2.1 = 0 then -2 else (plR w z.toNat np share).2.2.1)) ∧ w' = tM (if (plR w z.toNat np share).2.1 = 0 then (plR w z.toNat np share).1 else plE (plR w z.toNat np share) (rkF (w.2.1 429) z.toNat np)) 0)) := by
  refine HT.of (by decide) (by intro v hv; simp only [List.mem_cons, List.not_mem_nil, or_false] at hv; rcases hv with rfl | rfl | rfl <;> rfl) (Nat.le_of_ble_eq_true rfl) ?_
  intro Γ h hQ hRm hnm hl hw0
  have s400 : w.1 400 = (112, 0) := hM.1 400 (by decide) (by decide)
  have s437 : w.1 437 = (1, 3) := hM.1 437 (by decide) (by decide)
  have s438 : w.1 438 = (1, 3) := hM.1 438 (by decide) (by decide)
  have s441 : w.1 441 = (1, 3) := hM.1 441 (by decide) (by decide)
  have p37 : w.2.2 400 37 = some 437 := hM.2 (400, 37, 437) (by decide)
  have p38 : w.2.2 400 38 = some 438 := hM.2 (400, 38, 438) (by decide)
  have p41 : w.2.2 400 41 = some 441 := hM.2 (400, 41, 441) (by decide)
  by_cases hzl : 0 ≤ z ∧ z < 2
  · obtain ⟨L, rfl⟩ : ∃ L : Nat, z = (L : Int) := ⟨z.toNat, by omega⟩
    have hL : L < 2 := by omega
    have eL : ((L : Int)).toNat = L := Int.toNat_natCast L
    rw [eL] at hQ
    have hr := hr3 L hL
    have hPK0 : PK (loW (th w) L np) np (rkF (w.2.1 429) L np) (ooM w L np) := by
      refine ⟨MS_of rfl rfl hM, hG, hN, hP, rfl, hr, fun k hk => ?_⟩
      obtain ⟨p, p1, p2, p3, p4⟩ := loF_of (old := w.2.1 436) hk
      have e1 : (loW (th w) L np).2.1 436 k = loF (w.2.1 429) L (w.2.1 436) np k := rfl
      have e2 : ooM w L np k = p := by unfold ooM; rw [p4]; rfl
      rw [e1, e2, p4]
      exact ⟨rfl, p1⟩
    have e39 : (loW (th w) L np).2.1 400 39 = ((rkF (w.2.1 429) L np : Nat) : Int) := rfl
    have hPR : plR w L np share = plF L np (rkF (w.2.1 429) L np) (ooM w L np) share (loW (th w) L np, 0, 60, 1000000) (allF (rkF (w.2.1 429) L np)) := rfl
    have hPI0 : PI2 (loW (th w) L np, 0, 60, 1000000) np (rkF (w.2.1 429) L np) (ooM w L np) := ⟨hPK0, Or.inl rfl, (by show (0 : Int) ≤ 60 ∧ (60 : Int) ≤ 60; omega), (by show (0 : Int) ≤ 1000000 ∧ (1000000 : Int) ≤ 1000000; omega)⟩
    have hPIF := fun c => PI2_F (L := L) (share := share) hPI0 c
    generalize ooM w L np = o at hPR hPIF hPI0 hPK0
    have s0 : PS := (loW (th w) L np, 0, 60, 1000000)
    clear s0
    revert hPR hPIF
    generalize hs0 : ((loW (th w) L np, 0, 60, 1000000) : PS) = s0
    intro hPR hPIF
    generalize hm : rkF (w.2.1 429) L np = m at hPR hPIF hPI0 hPK0 e39 hr hQ
    have hm4 : (allF m : Nat) ≤ 1000 := by unfold allF; repeat (first | omega | split)
    -- told: the plan's layers
    have tell : ∀ (s : PS), 1 ≤ share ∧ share ≤ 200 → PI2 s np m o → s = plR w L np share → s.2.1 = 1 → ∀ (d k : Nat) (x y z : Option AV), k + d = m → GG Γ 259 [some (ar 400), some (ai (L : Int)), some (ai share), some (ai ((allF m : Nat) : Int)), some (ai s.2.2.1), some (ai s.2.2.2), some (ai s.2.1), some (ai (k : Int)), x, y, z] [] (sR (upI s.1 400 40 (m : Int)) 441 (cpR (s.1.2.1 441) (s.1.2.1 438) k)) 0 0 := by
      intro s hsh hPI hsr hfd d
      obtain ⟨hPK, -, hle, hfe⟩ := hPI
      obtain ⟨hMs, -, -, -, hs39, -, -⟩ := hPK
      induction d with
      | zero =>
        intro k x y z hk
        obtain rfl : k = m := by omega
        have q39 : (sR (upI s.1 400 40 (k : Int)) 441 (cpR (s.1.2.1 441) (s.1.2.1 438) k)).2.1 400 39 = (k : Int) := hs39
        have t400 : s.1.1 400 = (112, 0) := hMs.1 400 (by decide) (by decide)
        refine g_iload h dX12_plan_259 rfl ?_
        refine g_aload_n h dX12_plan_261 rfl ?_
        refine g_getI h flX12_295 rfl (by assumption) dX12_plan_262 ?_
        refine g_icmp_ge (tgt := 288) h dX12_plan_265 (by decide) (by first | assumption | exact ⟨by omega, by omega⟩) (by first | assumption | exact ⟨by omega, by omega⟩) (fun c265 => ?_) (fun c265 => ?_)
        · refine g_aload_n h dX12_plan_288 rfl ?_
          refine g_iload h dX12_plan_289 rfl ?_
          refine g_callV h rfl (ci := 12) [_] (by assumption) (c_X12_done _ _ _ (MS_of rfl rfl hMs)) clX12_277 (by decide) rfl in_X12_done se_X12_done rfl rfl (by rw [hRm]; first | decide | (simp only [clS]; omega)) (by rw [hRm]; first | decide | (simp only [clS]; omega)) (fun _ => Nat.le_of_ble_eq_true rfl) (by rw [hRm]; first | decide | (simp only [clS]; omega)) (by rw [hRm]; first | decide | (simp only [clS]; omega)) dX12_plan_291 (fun r291 w291 hp291 => ?_)
          obtain ⟨rfl, hw291⟩ := hp291
          rw [hw291]
          refine g_iret h hQ (by first | decide | omega | (simp only [clS]; omega)) (by first | decide | omega | (simp only [clS]; omega)) ?_ dX12_plan_294
          refine ⟨fun q => absurd hzl q, fun _ q => absurd hsh q, fun _ _ => ?_⟩
          rw [← hsr, if_neg (by omega), if_neg (by omega)]
          exact ⟨rfl, rfl⟩
        · exfalso; omega
      | succ d ih =>
        intro k x y z hk
        have q39 : (sR (upI s.1 400 40 (m : Int)) 441 (cpR (s.1.2.1 441) (s.1.2.1 438) k)).2.1 400 39 = (m : Int) := hs39
        have ih2 := ih (k + 1) x y z (by omega)
        rw [cpR_s] at ih2
        have ts400 : s.1.1 400 = (112, 0) := hMs.1 400 (by decide) (by decide)
        have ts437 : s.1.1 437 = (1, 3) := hMs.1 437 (by decide) (by decide)
        have ts438 : s.1.1 438 = (1, 3) := hMs.1 438 (by decide) (by decide)
        have ts441 : s.1.1 441 = (1, 3) := hMs.1 441 (by decide) (by decide)
        have tp37 : s.1.2.2 400 37 = some 437 := hMs.2 (400, 37, 437) (by decide)
        have tp38 : s.1.2.2 400 38 = some 438 := hMs.2 (400, 38, 438) (by decide)
        have tp41 : s.1.2.2 400 41 = some 441 := hMs.2 (400, 41, 441) (by decide)
        refine g_iload h dX12_plan_259 rfl ?_
        refine g_aload_n h dX12_plan_261 rfl ?_
        refine g_getI h flX12_295 rfl (by assumption) dX12_plan_262 ?_
        refine g_icmp_ge (tgt := 288) h dX12_plan_265 (by decide) (by first | assumption | exact ⟨by omega, by omega⟩) (by first | assumption | exact ⟨by omega, by omega⟩) (fun c265 => ?_) (fun c265 => ?_)
        · exfalso; omega
        · refine g_aload_n h dX12_plan_268 rfl ?_
          refine g_getQ h flX12_114 rfl (by assumption) (by assumption) dX12_plan_269 ?_
          refine g_iload h dX12_plan_272 rfl ?_
          refine g_aload_n h dX12_plan_274 rfl ?_
          refine g_getQ h flX12_111 rfl (by assumption) (by assumption) dX12_plan_275 ?_
          refine g_iload h dX12_plan_278 rfl ?_
          refine g_iald h _ (by assumption) rfl (by first | omega | assumption) (by first | decide | omega) dX12_plan_280 ?_
          refine g_iast h _ (by assumption) rfl (by first | omega | assumption) (by first | decide | omega) dX12_plan_281 ?_
          refine g_iinc h dX12_plan_282 rfl (Nat.le_of_ble_eq_true rfl) rfl rfl ?_
          refine g_goto (tgt := 259) h dX12_plan_285 (by decide) ?_
          refine g_eq rfl rfl ?_ ih2
          rw [upI_sR, sR_sR, sR_at]
          rfl
    have one : ∀ (s : PS) (code : Nat) (x y z : Option AV), PI2 s np m o → code < allF m → (∀ (x y z : Option AV), (fun s : PS => GG Γ 96 [some (ar 400), some (ai (L : Int)), some (ai share), some (ai ((allF m : Nat) : Int)), some (ai s.2.2.1), some (ai s.2.2.2), some (ai s.2.1), some (ai ((code : Int) + 1)), x, y, z] [] s.1 0 0) (plS L np m o share s code)) → GG Γ 96 [some (ar 400), some (ai (L : Int)), some (ai share), some (ai ((allF m : Nat) : Int)), some (ai s.2.2.1), some (ai s.2.2.2), some (ai s.2.1), some (ai (code : Int)), x, y, z] [] s.1 0 0 := by
      intro s code x y z hPI hco kk
      obtain ⟨hPK, hfd, hle, hfe⟩ := id hPI
      obtain ⟨hMs, hGs, hNs, hPs, hs39, hm3, hs6⟩ := id hPK
      have ts400 : s.1.1 400 = (112, 0) := hMs.1 400 (by decide) (by decide)
      have ts437 : s.1.1 437 = (1, 3) := hMs.1 437 (by decide) (by decide)
      have ts438 : s.1.1 438 = (1, 3) := hMs.1 438 (by decide) (by decide)
      have ts441 : s.1.1 441 = (1, 3) := hMs.1 441 (by decide) (by decide)
      have tp37 : s.1.2.2 400 37 = some 437 := hMs.2 (400, 37, 437) (by decide)
      have tp38 : s.1.2.2 400 38 = some 438 := hMs.2 (400, 38, 438) (by decide)
      have tp41 : s.1.2.2 400 41 = some 441 := hMs.2 (400, 41, 441) (by decide)
      have digits : ∀ (k : Nat) (left i : Int) (f : Nat → Int), i + 1 = (k : Int) → k ≤ m → 0 ≤ left ∧ left ≤ 1000 → spR k left f = spR m (code : Int) (s.1.2.1 437) → GG Γ 114 [some (ar 400), some (ai (L : Int)), some (ai share), some (ai ((allF m : Nat) : Int)), some (ai s.2.2.1), some (ai s.2.2.2), some (ai s.2.1), some (ai (code : Int)), some (ai left), some (ai i), z] [] (sR s.1 437 f) 0 0 := by
        intro k
        induction k with
        | zero =>
          intro left i f hi hk hl hf
          obtain rfl : i = -1 := by omega
          have hf2 : f = spR m (code : Int) (s.1.2.1 437) := hf
          have hfb : ∀ j, j < m → 0 ≤ f j ∧ f j < 10 := fun j hj => by rw [hf2]; exact spR_b2 m (code : Int) (s.1.2.1 437) j (by omega) (Or.inl hj)
          have hPK1 : PK (sR s.1 437 f) np m o := PK_437 hPK f
          have hMO1 : MO (sR s.1 437 f) np m o := PK_MO hPK1 hfb
          have hMF := MF_ds (sR s.1 437 f) L np m o share s.2.2.1
          have hPK2 := PK_MF hMF hPK1
          have e437 : (dsM (sR s.1 437 f) L np m o share s.2.2.1).2.2.1 437 = f := (hMF.2.2.1 437 ⟨by decide, by decide, by decide, by decide, by decide, by decide, by decide⟩).trans (sR_at _ _ _)
          have hMO2 : MO (dsM (sR s.1 437 f) L np m o share s.2.2.1).2 np m o := PK_MO hPK2 (by rw [e437]; exact hfb)
          have hmv := mvF_bd (dsM (sR s.1 437 f) L np m o share s.2.2.1).2 o m
          have hdb := dtM_bd (L := L) (np := np) (share := share) s.2.2.1.toNat 1 (dyF (tkW (sR s.1 437 f) L np) o m)
          have hdb2 : (dsM (sR s.1 437 f) L np m o share s.2.2.1).1 = -2 ∨ (1 ≤ (dsM (sR s.1 437 f) L np m o share s.2.2.1).1 ∧ (dsM (sR s.1 437 f) L np m o share s.2.2.1).1 < 1 + ((s.2.2.1.toNat : Nat) : Int)) := hdb
          have hS : plS L np m o share s code = if (dsM (sR s.1 437 f) L np m o share s.2.2.1).1 = -2 ∨ (s.2.1 = 1 ∧ (dsM (sR s.1 437 f) L np m o share s.2.2.1).1 = s.2.2.1 ∧ s.2.2.2 ≤ mvF (dsM (sR s.1 437 f) L np m o share s.2.2.1).2 o m) then ((dsM (sR s.1 437 f) L np m o share s.2.2.1).2, s.2.1, s.2.2.1, s.2.2.2) else (sR (dsM (sR s.1 437 f) L np m o share s.2.2.1).2 438 (cpR ((dsM (sR s.1 437 f) L np m o share s.2.2.1).2.2.1 438) ((dsM (sR s.1 437 f) L np m o share s.2.2.1).2.2.1 437) m), 1, (dsM (sR s.1 437 f) L np m o share s.2.2.1).1, mvF (dsM (sR s.1 437 f) L np m o share s.2.2.1).2 o m) := by rw [hf2]; rfl
          rw [hS] at kk
          have hPd := c_X12_daysBy Γ.1.2.1 (sR s.1 437 f) np m L o share s.2.2.1 hPK1.1 hPK1.2.1 hPK1.2.2.1 hPK1.2.2.2.1 hL hMO1 hs hle
          have u400 : (sR s.1 437 f).1 400 = (112, 0) := ts400
          clear hS hdb e437 hMF
          generalize dsM (sR s.1 437 f) L np m o share s.2.2.1 = r at hPd hPK2 hMO2 hmv hdb2 kk
          obtain ⟨days, v⟩ := r
          have hMv := hPK2.1
          have hv39 : v.2.1 400 39 = (m : Int) := hPK2.2.2.2.2.1
          dsimp only at hMv hv39 hmv hdb2
          change ∀ (x y z : Option AV), (fun s : PS => GG Γ 96 [some (ar 400), some (ai (L : Int)), some (ai share), some (ai ((allF m : Nat) : Int)), some (ai s.2.2.1), some (ai s.2.2.2), some (ai s.2.1), some (ai ((code : Int) + 1)), x, y, z] [] s.1 0 0) (if days = -2 ∨ (s.2.1 = 1 ∧ days = s.2.2.1 ∧ s.2.2.2 ≤ mvF v o m) then (v, s.2.1, s.2.2.1, s.2.2.2) else (sR v 438 (cpR (v.2.1 438) (v.2.1 437) m), 1, days, mvF v o m)) at kk
          change HT Γ.1.2.1 _ _ _ _ _ _ _ _ _ (fun r w' => r = some (ai days) ∧ w' = v) at hPd
          have vs400 : v.1 400 = (112, 0) := hMv.1 400 (by decide) (by decide)
          have vs437 : v.1 437 = (1, 3) := hMv.1 437 (by decide) (by decide)
          have vs438 : v.1 438 = (1, 3) := hMv.1 438 (by decide) (by decide)
          have vs441 : v.1 441 = (1, 3) := hMv.1 441 (by decide) (by decide)
          have vp37 : v.2.2 400 37 = some 437 := hMv.2 (400, 37, 437) (by decide)
          have vp38 : v.2.2 400 38 = some 438 := hMv.2 (400, 38, 438) (by decide)
          have vp41 : v.2.2 400 41 = some 441 := hMv.2 (400, 41, 441) (by decide)
          have copy : ¬ (days = -2 ∨ (s.2.1 = 1 ∧ days = s.2.2.1 ∧ s.2.2.2 ≤ mvF v o m)) → ∀ (d k : Nat) (x y : Option AV), k + d = m → GG Γ 201 [some (ar 400), some (ai (L : Int)), some (ai share), some (ai ((allF m : Nat) : Int)), some (ai days), some (ai (mvF v o m)), some (ai 1), some (ai (code : Int)), x, some (ai days), some (ai (k : Int))] [] (sR v 438 (cpR (v.2.1 438) (v.2.1 437) k)) 0 0 := by
            intro hneg d
            rw [if_neg hneg] at kk
            induction d with
            | zero =>
              intro k x y hk
              obtain rfl : k = m := by omega
              have q39 : (sR v 438 (cpR (v.2.1 438) (v.2.1 437) k)).2.1 400 39 = (k : Int) := hv39
              refine g_iload h dX12_plan_201 rfl ?_
              refine g_aload_n h dX12_plan_203 rfl ?_
              refine g_getI h flX12_295 rfl (by assumption) dX12_plan_204 ?_
              refine g_icmp_ge (tgt := 230) h dX12_plan_207 (by decide) (by first | assumption | exact ⟨by omega, by omega⟩) (by first | assumption | exact ⟨by omega, by omega⟩) (fun c207 => ?_) (fun c207 => ?_)
              · refine g_iinc h dX12_plan_230 rfl (Nat.le_of_ble_eq_true rfl) rfl rfl ?_
                refine g_goto (tgt := 96) h dX12_plan_233 (by decide) ?_
                exact kk x (some (ai days)) (some (ai (k : Int)))
              · exfalso; omega
            | succ d ih =>
              intro k x y hk
              have q39 : (sR v 438 (cpR (v.2.1 438) (v.2.1 437) k)).2.1 400 39 = (m : Int) := hv39
              have ih2 := ih (k + 1) x y (by omega)
              rw [cpR_s] at ih2
              refine g_iload h dX12_plan_201 rfl ?_
              refine g_aload_n h dX12_plan_203 rfl ?_
              refine g_getI h flX12_295 rfl (by assumption) dX12_plan_204 ?_
              refine g_icmp_ge (tgt := 230) h dX12_plan_207 (by decide) (by first | assumption | exact ⟨by omega, by omega⟩) (by first | assumption | exact ⟨by omega, by omega⟩) (fun c207 => ?_) (fun c207 => ?_)
              · exfalso; omega
              · refine g_aload_n h dX12_plan_210 rfl ?_
                refine g_getQ h flX12_111 rfl (by assumption) (by assumption) dX12_plan_211 ?_
                refine g_iload h dX12_plan_214 rfl ?_
                refine g_aload_n h dX12_plan_216 rfl ?_
                refine g_getQ h flX12_108 rfl (by assumption) (by assumption) dX12_plan_217 ?_
                refine g_iload h dX12_plan_220 rfl ?_
                refine g_iald h _ (by assumption) rfl (by first | omega | assumption) (by first | decide | omega) dX12_plan_222 ?_
                refine g_iast h _ (by assumption) rfl (by first | omega | assumption) (by first | decide | omega) dX12_plan_223 ?_
                refine g_iinc h dX12_plan_224 rfl (Nat.le_of_ble_eq_true rfl) rfl rfl ?_
                refine g_goto (tgt := 201) h dX12_plan_227 (by decide) ?_
                refine g_eq rfl rfl ?_ ih2
                rw [upI_sR, sR_sR, sR_at]
                rfl
          refine g_iload h dX12_plan_114 rfl ?_
          refine g_if_lt (tgt := 144) h dX12_plan_116 (by decide) (by first | assumption | exact ⟨by omega, by omega⟩) (fun c116 => ?_) (fun c116 => ?_)
          · refine g_aload_n h dX12_plan_144 rfl ?_
            refine g_iload_n h dX12_plan_145 rfl ?_
            refine g_iload_n h dX12_plan_146 rfl ?_
            refine g_iload h dX12_plan_147 rfl ?_
            refine g_callV h rfl (ci := 12) [_, _, _] (by assumption) hPd clX12_302 (by decide) rfl in_X12_daysBy se_X12_daysBy rfl rfl (by rw [hRm]; first | decide | (simp only [clS]; omega)) (by rw [hRm]; first | decide | (simp only [clS]; omega)) (fun _ => Nat.le_of_ble_eq_true rfl) (by rw [hRm]; first | decide | (simp only [clS]; omega)) (by rw [hRm]; first | decide | (simp only [clS]; omega)) dX12_plan_149 (fun r149 w149 hp149 => ?_)
            obtain ⟨rfl, hw149⟩ := hp149
            rw [hw149]
            refine g_istore h dX12_plan_152 (Nat.le_of_ble_eq_true rfl) rfl rfl ?_
            refine g_iload h dX12_plan_154 rfl ?_
            refine g_bipush h dX12_plan_156 rfl ?_
            refine g_icmp_eq (tgt := 230) h dX12_plan_158 (by decide) (by first | assumption | exact ⟨by omega, by omega⟩) (by first | assumption | exact ⟨by omega, by omega⟩) (fun c158 => ?_) (fun c158 => ?_)
            · refine g_iinc h dX12_plan_230 rfl (Nat.le_of_ble_eq_true rfl) rfl rfl ?_
              refine g_goto (tgt := 96) h dX12_plan_233 (by decide) ?_
              first
              | (exfalso; omega)
              | (rw [if_pos (by omega)] at kk
                 exact kk _ _ _)
            · refine g_iload h dX12_plan_161 rfl ?_
              refine g_if_eq (tgt := 185) h dX12_plan_163 (by decide) (by first | assumption | exact ⟨by omega, by omega⟩) (fun c163 => ?_) (fun c163 => ?_)
              · refine g_iconst h dX12_plan_185 ?_
                refine g_istore h dX12_plan_186 (Nat.le_of_ble_eq_true rfl) rfl rfl ?_
                refine g_iload h dX12_plan_188 rfl ?_
                refine g_istore h dX12_plan_190 (Nat.le_of_ble_eq_true rfl) rfl rfl ?_
                refine g_aload_n h dX12_plan_192 rfl ?_
                refine g_callV h rfl (ci := 12) [] (by assumption) (c_X12_movedOnes _ _ np m o hMv hPK2.2.2.2.1 hMO2) clX12_305 (by decide) rfl in_X12_movedOnes se_X12_movedOnes rfl rfl (by rw [hRm]; first | decide | (simp only [clS]; omega)) (by rw [hRm]; first | decide | (simp only [clS]; omega)) (fun _ => Nat.le_of_ble_eq_true rfl) (by rw [hRm]; first | decide | (simp only [clS]; omega)) (by rw [hRm]; first | decide | (simp only [clS]; omega)) dX12_plan_193 (fun r193 w193 hp193 => ?_)
                obtain ⟨rfl, hw193⟩ := hp193
                rw [hw193]
                refine g_istore h dX12_plan_196 (Nat.le_of_ble_eq_true rfl) rfl rfl ?_
                refine g_iconst h dX12_plan_198 ?_
                refine g_istore h dX12_plan_199 (Nat.le_of_ble_eq_true rfl) rfl rfl ?_
                first
                | (exfalso; omega)
                | (have h4 := copy (by omega) m 0 (some (ai left)) none (by omega)
                   rw [cpR_0, sR_self] at h4
                   exact h4)
              · refine g_iload h dX12_plan_166 rfl ?_
                refine g_iload h dX12_plan_168 rfl ?_
                refine g_icmp_ne (tgt := 185) h dX12_plan_170 (by decide) (by first | assumption | exact ⟨by omega, by omega⟩) (by first | assumption | exact ⟨by omega, by omega⟩) (fun c170 => ?_) (fun c170 => ?_)
                · refine g_iconst h dX12_plan_185 ?_
                  refine g_istore h dX12_plan_186 (Nat.le_of_ble_eq_true rfl) rfl rfl ?_
                  refine g_iload h dX12_plan_188 rfl ?_
                  refine g_istore h dX12_plan_190 (Nat.le_of_ble_eq_true rfl) rfl rfl ?_
                  refine g_aload_n h dX12_plan_192 rfl ?_
                  refine g_callV h rfl (ci := 12) [] (by assumption) (c_X12_movedOnes _ _ np m o hMv hPK2.2.2.2.1 hMO2) clX12_305 (by decide) rfl in_X12_movedOnes se_X12_movedOnes rfl rfl (by rw [hRm]; first | decide | (simp only [clS]; omega)) (by rw [hRm]; first | decide | (simp only [clS]; omega)) (fun _ => Nat.le_of_ble_eq_true rfl) (by rw [hRm]; first | decide | (simp only [clS]; omega)) (by rw [hRm]; first | decide | (simp only [clS]; omega)) dX12_plan_193 (fun r193 w193 hp193 => ?_)
                  obtain ⟨rfl, hw193⟩ := hp193
                  rw [hw193]
                  refine g_istore h dX12_plan_196 (Nat.le_of_ble_eq_true rfl) rfl rfl ?_
                  refine g_iconst h dX12_plan_198 ?_
                  refine g_istore h dX12_plan_199 (Nat.le_of_ble_eq_true rfl) rfl rfl ?_
                  first
                  | (exfalso; omega)
                  | (have h4 := copy (by omega) m 0 (some (ai left)) none (by omega)
                     rw [cpR_0, sR_self] at h4
                     exact h4)
                · refine g_aload_n h dX12_plan_173 rfl ?_
                  refine g_callV h rfl (ci := 12) [] (by assumption) (c_X12_movedOnes _ _ np m o hMv hPK2.2.2.2.1 hMO2) clX12_305 (by decide) rfl in_X12_movedOnes se_X12_movedOnes rfl rfl (by rw [hRm]; first | decide | (simp only [clS]; omega)) (by rw [hRm]; first | decide | (simp only [clS]; omega)) (fun _ => Nat.le_of_ble_eq_true rfl) (by rw [hRm]; first | decide | (simp only [clS]; omega)) (by rw [hRm]; first | decide | (simp only [clS]; omega)) dX12_plan_174 (fun r174 w174 hp174 => ?_)
                  obtain ⟨rfl, hw174⟩ := hp174
                  rw [hw174]
                  refine g_iload h dX12_plan_177 rfl ?_
                  refine g_icmp_lt (tgt := 185) h dX12_plan_179 (by decide) (by first | assumption | exact ⟨by omega, by omega⟩) (by first | assumption | exact ⟨by omega, by omega⟩) (fun c179 => ?_) (fun c179 => ?_)
                  · refine g_iconst h dX12_plan_185 ?_
                    refine g_istore h dX12_plan_186 (Nat.le_of_ble_eq_true rfl) rfl rfl ?_
                    refine g_iload h dX12_plan_188 rfl ?_
                    refine g_istore h dX12_plan_190 (Nat.le_of_ble_eq_true rfl) rfl rfl ?_
                    refine g_aload_n h dX12_plan_192 rfl ?_
                    refine g_callV h rfl (ci := 12) [] (by assumption) (c_X12_movedOnes _ _ np m o hMv hPK2.2.2.2.1 hMO2) clX12_305 (by decide) rfl in_X12_movedOnes se_X12_movedOnes rfl rfl (by rw [hRm]; first | decide | (simp only [clS]; omega)) (by rw [hRm]; first | decide | (simp only [clS]; omega)) (fun _ => Nat.le_of_ble_eq_true rfl) (by rw [hRm]; first | decide | (simp only [clS]; omega)) (by rw [hRm]; first | decide | (simp only [clS]; omega)) dX12_plan_193 (fun r193 w193 hp193 => ?_)
                    obtain ⟨rfl, hw193⟩ := hp193
                    rw [hw193]
                    refine g_istore h dX12_plan_196 (Nat.le_of_ble_eq_true rfl) rfl rfl ?_
                    refine g_iconst h dX12_plan_198 ?_
                    refine g_istore h dX12_plan_199 (Nat.le_of_ble_eq_true rfl) rfl rfl ?_
                    first
                    | (exfalso; omega)
                    | (have h4 := copy (by omega) m 0 (some (ai left)) none (by omega)
                       rw [cpR_0, sR_self] at h4
                       exact h4)
                  · refine g_goto (tgt := 230) h dX12_plan_182 (by decide) ?_
                    refine g_iinc h dX12_plan_230 rfl (Nat.le_of_ble_eq_true rfl) rfl rfl ?_
                    refine g_goto (tgt := 96) h dX12_plan_233 (by decide) ?_
                    first
                    | (exfalso; omega)
                    | (rw [if_pos (by omega)] at kk
                       exact kk _ _ _)
          · exfalso; omega
        | succ k ih =>
          intro left i f hi hk hl hf
          obtain rfl : i = (k : Int) := by omega
          refine g_iload h dX12_plan_114 rfl ?_
          refine g_if_lt (tgt := 144) h dX12_plan_116 (by decide) (by first | assumption | exact ⟨by omega, by omega⟩) (fun c116 => ?_) (fun c116 => ?_)
          · exfalso; omega
          · refine g_aload_n h dX12_plan_119 rfl ?_
            refine g_getQ h flX12_108 rfl (by assumption) (by assumption) dX12_plan_120 ?_
            refine g_iload h dX12_plan_123 rfl ?_
            refine g_iload h dX12_plan_125 rfl ?_
            refine g_bipush h dX12_plan_127 rfl ?_
            refine g_irem h (by first | assumption | exact ⟨by omega, by omega⟩) (by first | assumption | exact ⟨by omega, by omega⟩) (by first | omega | assumption) (by first | omega | assumption) dX12_plan_129 ?_
            refine g_iast h _ (by assumption) rfl (by first | omega | assumption) (by first | decide | omega) dX12_plan_130 ?_
            refine g_iload h dX12_plan_131 rfl ?_
            refine g_bipush h dX12_plan_133 rfl ?_
            refine g_idiv h (by first | assumption | exact ⟨by omega, by omega⟩) (by first | assumption | exact ⟨by omega, by omega⟩) (by first | omega | assumption) (by first | omega | assumption) dX12_plan_135 ?_
            refine g_istore h dX12_plan_136 (Nat.le_of_ble_eq_true rfl) rfl rfl ?_
            refine g_iinc h dX12_plan_138 rfl (Nat.le_of_ble_eq_true rfl) rfl rfl ?_
            refine g_goto (tgt := 114) h dX12_plan_141 (by decide) ?_
            refine g_eq rfl rfl ?_ (ih (left / 10) ((k : Int) + -1) (uI f k (left % 10)) (by omega) (by omega) ⟨by omega, by omega⟩ hf)
            rw [upI_sR, sR_sR, sR_at]
      have q39 : s.1.2.1 400 39 = (m : Int) := hs39
      refine g_iload h dX12_plan_96 rfl ?_
      refine g_iload_n h dX12_plan_98 rfl ?_
      refine g_icmp_ge (tgt := 236) h dX12_plan_99 (by decide) (by first | assumption | exact ⟨by omega, by omega⟩) (by first | assumption | exact ⟨by omega, by omega⟩) (fun c99 => ?_) (fun c99 => ?_)
      · exfalso; omega
      · refine g_iload h dX12_plan_102 rfl ?_
        refine g_istore h dX12_plan_104 (Nat.le_of_ble_eq_true rfl) rfl rfl ?_
        refine g_aload_n h dX12_plan_106 rfl ?_
        refine g_getI h flX12_295 rfl (by assumption) dX12_plan_107 ?_
        rw [q39]
        refine g_iconst h dX12_plan_110 ?_
        refine g_isub h dX12_plan_111 ?_
        refine g_istore h dX12_plan_112 (Nat.le_of_ble_eq_true rfl) rfl rfl ?_
        have h4 := digits m (code : Int) ((m : Int) - 1) (s.1.2.1 437) (by omega) (Nat.le_refl _) ⟨by omega, by omega⟩ rfl
        rw [sR_self] at h4
        exact h4
    have loop : 1 ≤ share ∧ share ≤ 200 → ∀ (d c : Nat) (x y z : Option AV), c + d = allF m → (fun s : PS => GG Γ 96 [some (ar 400), some (ai (L : Int)), some (ai share), some (ai ((allF m : Nat) : Int)), some (ai s.2.2.1), some (ai s.2.2.2), some (ai s.2.1), some (ai (c : Int)), x, y, z] [] s.1 0 0) (plF L np m o share s0 c) := by
      intro hsh d
      induction d with
      | zero =>
        intro c x y z hc
        have hc2 : c = allF m := by omega
        have hPI := hPIF c
        have hsr : plF L np m o share s0 c = plR w L np share := by rw [hc2, hPR]
        revert hPI hsr
        generalize plF L np m o share s0 c = s
        intro hPI hsr
        obtain ⟨hPK, hfd, hle, hfe⟩ := id hPI
        obtain ⟨hMs, -, -, -, hs39, -, -⟩ := id hPK
        have t400 : s.1.1 400 = (112, 0) := hMs.1 400 (by decide) (by decide)
        show GG Γ 96 [some (ar 400), some (ai (L : Int)), some (ai share), some (ai ((allF m : Nat) : Int)), some (ai s.2.2.1), some (ai s.2.2.2), some (ai s.2.1), some (ai (c : Int)), x, y, z] [] s.1 0 0
        refine g_iload h dX12_plan_96 rfl ?_
        refine g_iload_n h dX12_plan_98 rfl ?_
        refine g_icmp_ge (tgt := 236) h dX12_plan_99 (by decide) (by first | assumption | exact ⟨by omega, by omega⟩) (by first | assumption | exact ⟨by omega, by omega⟩) (fun c99 => ?_) (fun c99 => ?_)
        · refine g_iload h dX12_plan_236 rfl ?_
          refine g_if_ne (tgt := 248) h dX12_plan_238 (by decide) (by first | assumption | exact ⟨by omega, by omega⟩) (fun c238 => ?_) (fun c238 => ?_)
          · refine g_aload_n h dX12_plan_248 rfl ?_
            refine g_aload_n h dX12_plan_249 rfl ?_
            refine g_getI h flX12_295 rfl (by assumption) dX12_plan_250 ?_
            rw [hs39]
            refine g_putI h flX12_309 rfl rfl (by assumption) dX12_plan_253 ?_
            refine g_iconst h dX12_plan_256 ?_
            refine g_istore h dX12_plan_257 (Nat.le_of_ble_eq_true rfl) rfl rfl ?_
            first
            | (exfalso; omega)
            | (have h4 := tell s hsh hPI hsr (by omega) m 0 x y z (by omega)
               rw [cpR_0] at h4
               rw [show sR (upI s.1 400 40 (m : Int)) 441 (s.1.2.1 441) = upI s.1 400 40 (m : Int) from sR_self (upI s.1 400 40 (m : Int)) 441] at h4
               exact h4)
          · refine g_aload_n h dX12_plan_241 rfl ?_
            refine g_bipush h dX12_plan_242 rfl ?_
            refine g_callV h rfl (ci := 12) [_] (by assumption) (c_X12_done _ _ _ hMs) clX12_277 (by decide) rfl in_X12_done se_X12_done rfl rfl (by rw [hRm]; first | decide | (simp only [clS]; omega)) (by rw [hRm]; first | decide | (simp only [clS]; omega)) (fun _ => Nat.le_of_ble_eq_true rfl) (by rw [hRm]; first | decide | (simp only [clS]; omega)) (by rw [hRm]; first | decide | (simp only [clS]; omega)) dX12_plan_244 (fun r244 w244 hp244 => ?_)
            obtain ⟨rfl, hw244⟩ := hp244
            rw [hw244]
            refine g_iret h hQ (by first | decide | omega | (simp only [clS]; omega)) (by first | decide | omega | (simp only [clS]; omega)) ?_ dX12_plan_247
            first
            | (exfalso; omega)
            | (refine ⟨fun q => absurd hzl q, fun _ q => absurd hsh q, fun _ _ => ?_⟩
               rw [← hsr, if_pos (by omega), if_pos (by omega)]
               exact ⟨rfl, rfl⟩)
        · exfalso; omega
      | succ d ih =>
        intro c x y z hc
        have hPI := hPIF c
        have hn : ∀ (x y z : Option AV), (fun s : PS => GG Γ 96 [some (ar 400), some (ai (L : Int)), some (ai share), some (ai ((allF m : Nat) : Int)), some (ai s.2.2.1), some (ai s.2.2.2), some (ai s.2.1), some (ai ((c : Int) + 1)), x, y, z] [] s.1 0 0) (plS L np m o share (plF L np m o share s0 c) c) := fun x y z => ih (c + 1) x y z (by omega)
        revert hPI hn
        generalize plF L np m o share s0 c = s
        intro hPI hn
        exact one s c x y z hPI (by omega) hn
    refine g_aload_n h dX12_plan_0 rfl ?_
    refine g_iconst h dX12_plan_1 ?_
    refine g_putI h flX12_1 rfl rfl (by assumption) dX12_plan_2 ?_
    refine g_iload_n h dX12_plan_5 rfl ?_
    refine g_callS h rfl [_] (c_X12_isLake _ _ _ hz) clX12_182 st_X12_isLake rfl rfl (by rw [hRm]; first | decide | (simp only [clS]; omega)) (by rw [hRm]; first | decide | (simp only [clS]; omega)) (fun _ => Nat.le_of_ble_eq_true rfl) (by rw [hRm]; first | decide | (simp only [clS]; omega)) (by rw [hRm]; first | decide | (simp only [clS]; omega)) dX12_plan_6 (fun r6 w6 hp6 => ?_)
    obtain ⟨rfl, hw6⟩ := hp6
    rw [hw6]
    have hbw6 := ite01 (0 ≤ (L : Int) ∧ (L : Int) < 2)
    refine g_if_ne (tgt := 18) h dX12_plan_9 (by decide) (by first | assumption | exact ⟨by omega, by omega⟩) (fun c9 => ?_) (fun c9 => ?_)
    · refine g_iload_n h dX12_plan_18 rfl ?_
      refine g_iconst h dX12_plan_19 ?_
      refine g_sipush h dX12_plan_20 rfl ?_
      refine g_callS h rfl [_, _, _] (c_X12_in _ _ _ _ _ hs ⟨by omega, by omega⟩ ⟨by omega, by omega⟩) clX12_211 st_X12_in rfl rfl (by rw [hRm]; first | decide | (simp only [clS]; omega)) (by rw [hRm]; first | decide | (simp only [clS]; omega)) (fun _ => Nat.le_of_ble_eq_true rfl) (by rw [hRm]; first | decide | (simp only [clS]; omega)) (by rw [hRm]; first | decide | (simp only [clS]; omega)) dX12_plan_23 (fun r23 w23 hp23 => ?_)
      obtain ⟨rfl, hw23⟩ := hp23
      rw [hw23]
      have hbw23 := ite01 ((1 : Int) ≤ share ∧ share ≤ 200)
      refine g_if_ne (tgt := 35) h dX12_plan_26 (by decide) (by first | assumption | exact ⟨by omega, by omega⟩) (fun c26 => ?_) (fun c26 => ?_)
      · refine g_aload_n h dX12_plan_35 rfl ?_
        refine g_iload_n h dX12_plan_36 rfl ?_
        refine g_callV h rfl (ci := 12) [_] (by assumption) (c_X12_listOwn _ _ np L (MS_th hM) hP hL (by rw [← hm] at hr; exact hr)) clX12_298 (by decide) rfl in_X12_listOwn se_X12_listOwn rfl rfl (by rw [hRm]; first | decide | (simp only [clS]; omega)) (by rw [hRm]; first | decide | (simp only [clS]; omega)) (fun _ => Nat.le_of_ble_eq_true rfl) (by rw [hRm]; first | decide | (simp only [clS]; omega)) (by rw [hRm]; first | decide | (simp only [clS]; omega)) dX12_plan_37 (fun r37 w37 hp37 => ?_)
        obtain ⟨rfl, hw37⟩ := hp37
        rw [hw37]
        change GG Γ _ _ _ (loW (th w) L np) _ _
        refine g_aload_n h dX12_plan_40 rfl ?_
        refine g_getI h flX12_295 rfl (by assumption) dX12_plan_41 ?_
        rw [e39]
        refine g_if_ne (tgt := 51) h dX12_plan_44 (by decide) (by first | assumption | exact ⟨by omega, by omega⟩) (fun c44 => ?_) (fun c44 => ?_)
        · refine g_aload_n h dX12_plan_51 rfl ?_
          refine g_getI h flX12_295 rfl (by assumption) dX12_plan_52 ?_
          rw [e39]
          refine g_iconst h dX12_plan_55 ?_
          refine g_icmp_ne (tgt := 64) h dX12_plan_56 (by decide) (by first | assumption | exact ⟨by omega, by omega⟩) (by first | assumption | exact ⟨by omega, by omega⟩) (fun c56 => ?_) (fun c56 => ?_)
          · refine g_aload_n h dX12_plan_64 rfl ?_
            refine g_getI h flX12_295 rfl (by assumption) dX12_plan_65 ?_
            rw [e39]
            refine g_iconst h dX12_plan_68 ?_
            refine g_icmp_ne (tgt := 77) h dX12_plan_69 (by decide) (by first | assumption | exact ⟨by omega, by omega⟩) (by first | assumption | exact ⟨by omega, by omega⟩) (fun c69 => ?_) (fun c69 => ?_)
            · refine g_sipush h dX12_plan_77 rfl ?_
              first
              | (exfalso; omega)
              | (have hall : ((allF m : Nat) : Int) = 1000 := by unfold allF; (repeat first | rw [if_pos (by omega)] | rw [if_neg (by omega)]); rfl
                 rw [← hall]
                 refine g_istore_n h dX12_plan_80 (Nat.le_of_ble_eq_true rfl) rfl rfl ?_
                 refine g_bipush h dX12_plan_81 rfl ?_
                 refine g_istore h dX12_plan_83 (Nat.le_of_ble_eq_true rfl) rfl rfl ?_
                 refine g_ldcw h kcX12_301 dX12_plan_85 ?_
                 refine g_istore h dX12_plan_88 (Nat.le_of_ble_eq_true rfl) rfl rfl ?_
                 refine g_iconst h dX12_plan_90 ?_
                 refine g_istore h dX12_plan_91 (Nat.le_of_ble_eq_true rfl) rfl rfl ?_
                 refine g_iconst h dX12_plan_93 ?_
                 refine g_istore h dX12_plan_94 (Nat.le_of_ble_eq_true rfl) rfl rfl ?_
                 have h4 := loop (by omega) (allF m) 0 none none none (by omega)
                 rw [← hs0] at h4
                 exact h4)
            · refine g_bipush h dX12_plan_72 rfl ?_
              refine g_goto (tgt := 80) h dX12_plan_74 (by decide) ?_
              first
              | (exfalso; omega)
              | (have hall : ((allF m : Nat) : Int) = 100 := by unfold allF; (repeat first | rw [if_pos (by omega)] | rw [if_neg (by omega)]); rfl
                 rw [← hall]
                 refine g_istore_n h dX12_plan_80 (Nat.le_of_ble_eq_true rfl) rfl rfl ?_
                 refine g_bipush h dX12_plan_81 rfl ?_
                 refine g_istore h dX12_plan_83 (Nat.le_of_ble_eq_true rfl) rfl rfl ?_
                 refine g_ldcw h kcX12_301 dX12_plan_85 ?_
                 refine g_istore h dX12_plan_88 (Nat.le_of_ble_eq_true rfl) rfl rfl ?_
                 refine g_iconst h dX12_plan_90 ?_
                 refine g_istore h dX12_plan_91 (Nat.le_of_ble_eq_true rfl) rfl rfl ?_
                 refine g_iconst h dX12_plan_93 ?_
                 refine g_istore h dX12_plan_94 (Nat.le_of_ble_eq_true rfl) rfl rfl ?_
                 have h4 := loop (by omega) (allF m) 0 none none none (by omega)
                 rw [← hs0] at h4
                 exact h4)
          · refine g_bipush h dX12_plan_59 rfl ?_
            refine g_goto (tgt := 80) h dX12_plan_61 (by decide) ?_
            first
            | (exfalso; omega)
            | (have hall : ((allF m : Nat) : Int) = 10 := by unfold allF; (repeat first | rw [if_pos (by omega)] | rw [if_neg (by omega)]); rfl
               rw [← hall]
               refine g_istore_n h dX12_plan_80 (Nat.le_of_ble_eq_true rfl) rfl rfl ?_
               refine g_bipush h dX12_plan_81 rfl ?_
               refine g_istore h dX12_plan_83 (Nat.le_of_ble_eq_true rfl) rfl rfl ?_
               refine g_ldcw h kcX12_301 dX12_plan_85 ?_
               refine g_istore h dX12_plan_88 (Nat.le_of_ble_eq_true rfl) rfl rfl ?_
               refine g_iconst h dX12_plan_90 ?_
               refine g_istore h dX12_plan_91 (Nat.le_of_ble_eq_true rfl) rfl rfl ?_
               refine g_iconst h dX12_plan_93 ?_
               refine g_istore h dX12_plan_94 (Nat.le_of_ble_eq_true rfl) rfl rfl ?_
               have h4 := loop (by omega) (allF m) 0 none none none (by omega)
               rw [← hs0] at h4
               exact h4)
        · refine g_iconst h dX12_plan_47 ?_
          refine g_goto (tgt := 80) h dX12_plan_48 (by decide) ?_
          first
          | (exfalso; omega)
          | (have hall : ((allF m : Nat) : Int) = 1 := by unfold allF; (repeat first | rw [if_pos (by omega)] | rw [if_neg (by omega)]); rfl
             rw [← hall]
             refine g_istore_n h dX12_plan_80 (Nat.le_of_ble_eq_true rfl) rfl rfl ?_
             refine g_bipush h dX12_plan_81 rfl ?_
             refine g_istore h dX12_plan_83 (Nat.le_of_ble_eq_true rfl) rfl rfl ?_
             refine g_ldcw h kcX12_301 dX12_plan_85 ?_
             refine g_istore h dX12_plan_88 (Nat.le_of_ble_eq_true rfl) rfl rfl ?_
             refine g_iconst h dX12_plan_90 ?_
             refine g_istore h dX12_plan_91 (Nat.le_of_ble_eq_true rfl) rfl rfl ?_
             refine g_iconst h dX12_plan_93 ?_
             refine g_istore h dX12_plan_94 (Nat.le_of_ble_eq_true rfl) rfl rfl ?_
             have h4 := loop (by omega) (allF m) 0 none none none (by omega)
             rw [← hs0] at h4
             exact h4)
      · refine g_aload_n h dX12_plan_29 rfl ?_
        refine g_iconst h dX12_plan_30 ?_
        refine g_callV h rfl (ci := 12) [_] (by assumption) (c_X12_refused _ _ _ (MS_of rfl rfl hM)) clX12_274 (by decide) rfl in_X12_refused se_X12_refused rfl rfl (by rw [hRm]; first | decide | (simp only [clS]; omega)) (by rw [hRm]; first | decide | (simp only [clS]; omega)) (fun _ => Nat.le_of_ble_eq_true rfl) (by rw [hRm]; first | decide | (simp only [clS]; omega)) (by rw [hRm]; first | decide | (simp only [clS]; omega)) dX12_plan_31 (fun r31 w31 hp31 => ?_)
        obtain ⟨rfl, hw31⟩ := hp31
        rw [hw31]
        refine g_iret h hQ (by first | decide | omega | (simp only [clS]; omega)) (by first | decide | omega | (simp only [clS]; omega)) ?_ dX12_plan_34
        first
        | (exfalso; omega)
        | (exact ⟨fun q => absurd hzl q, fun _ _ => ⟨rfl, rfl⟩, fun _ q => absurd q (by omega)⟩)
    · exfalso; omega
  · skip
    refine g_aload_n h dX12_plan_0 rfl ?_
    refine g_iconst h dX12_plan_1 ?_
    refine g_putI h flX12_1 rfl rfl (by assumption) dX12_plan_2 ?_
    refine g_iload_n h dX12_plan_5 rfl ?_
    refine g_callS h rfl [_] (c_X12_isLake _ _ _ hz) clX12_182 st_X12_isLake rfl rfl (by rw [hRm]; first | decide | (simp only [clS]; omega)) (by rw [hRm]; first | decide | (simp only [clS]; omega)) (fun _ => Nat.le_of_ble_eq_true rfl) (by rw [hRm]; first | decide | (simp only [clS]; omega)) (by rw [hRm]; first | decide | (simp only [clS]; omega)) dX12_plan_6 (fun r6 w6 hp6 => ?_)
    obtain ⟨rfl, hw6⟩ := hp6
    rw [hw6]
    have hbw6 := ite01 (0 ≤ z ∧ z < 2)
    refine g_if_ne (tgt := 18) h dX12_plan_9 (by decide) (by first | assumption | exact ⟨by omega, by omega⟩) (fun c9 => ?_) (fun c9 => ?_)
    · exfalso; omega
    · refine g_aload_n h dX12_plan_12 rfl ?_
      refine g_iconst h dX12_plan_13 ?_
      refine g_callV h rfl (ci := 12) [_] (by assumption) (c_X12_refused _ _ _ (MS_of rfl rfl hM)) clX12_274 (by decide) rfl in_X12_refused se_X12_refused rfl rfl (by rw [hRm]; first | decide | (simp only [clS]; omega)) (by rw [hRm]; first | decide | (simp only [clS]; omega)) (fun _ => Nat.le_of_ble_eq_true rfl) (by rw [hRm]; first | decide | (simp only [clS]; omega)) (by rw [hRm]; first | decide | (simp only [clS]; omega)) dX12_plan_14 (fun r14 w14 hp14 => ?_)
      obtain ⟨rfl, hw14⟩ := hp14
      rw [hw14]
      refine g_iret h hQ (by first | decide | omega | (simp only [clS]; omega)) (by first | decide | omega | (simp only [clS]; omega)) ?_ dX12_plan_17
      exact ⟨fun _ => ⟨rfl, rfl⟩, fun q => absurd q hzl, fun q => absurd q hzl⟩
