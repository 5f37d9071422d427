/-! ===== M: pipes, plans ===== -/
/-- how many of the first p pipes are lake L's -/
def rkF (pl : Nat → Int) (L : Nat) : Nat → Nat
  | 0 => 0
  | p + 1 => rkF pl L p + if pl p = (L : Int) then 1 else 0
theorem rkF_le (pl : Nat → Int) (L : Nat) : ∀ p, rkF pl L p ≤ p
  | 0 => Nat.le_refl _
  | p + 1 => by
    have := rkF_le pl L p
    unfold rkF
    split <;> omega
theorem rkF_mono (pl : Nat → Int) (L : Nat) {p : Nat} : ∀ {n : Nat}, p ≤ n → rkF pl L p ≤ rkF pl L n
  | 0, h => by obtain rfl : p = 0 := by omega
               exact Nat.le_refl _
  | n + 1, h => by
    by_cases e : p = n + 1
    · rw [e]; exact Nat.le_refl _
    · have h1 := rkF_mono pl L (p := p) (n := n) (by omega)
      have h2 : rkF pl L (n + 1) = rkF pl L n + if pl n = (L : Int) then 1 else 0 := rfl
      omega
theorem rk_sum {pl : Nat → Int} : ∀ {n : Nat}, (∀ p, p < n → 0 ≤ pl p ∧ pl p < 2) → rkF pl 0 n + rkF pl 1 n = n
  | 0, _ => rfl
  | n + 1, h => by
    have h1 := rk_sum (n := n) (fun p hp => h p (by omega))
    have h2 := h n (by omega)
    show (rkF pl 0 n + if pl n = ((0 : Nat) : Int) then 1 else 0) + (rkF pl 1 n + if pl n = ((1 : Nat) : Int) then 1 else 0) = n + 1
    rcases (show pl n = 0 ∨ pl n = 1 by omega) with e | e
    · rw [if_pos (by omega), if_neg (by omega)]; omega
    · rw [if_neg (by omega), if_pos (by omega)]; omega
theorem rkF_lt {pl : Nat → Int} {L p n : Nat} (hp : p < n) (h : pl p = (L : Int)) : rkF pl L p < rkF pl L n := by
  have h1 : rkF pl L (p + 1) = rkF pl L p + 1 := by show _ + ite _ _ _ = _; rw [if_pos h]
  have h2 := rkF_mono pl L (show p + 1 ≤ n by omega)
  omega
set_option maxRecDepth 100000 in
set_option maxHeartbeats 4000000 in
theorem c_X12_pipesOf (l : Launch) (w : AW) (np L : Nat) (hM : MS w) (hP : MPI w np) (hL : L < 2) : HT l yX12_pipesOf cX12_pipesOf 4 (some .int) 1 0 0 w [ar 400, ai (L : Int)] (rI ((rkF (w.2.1 429) L np : Nat) : Int) w) := by
  refine HT.of (by decide) (by intro v hv; simp only [List.mem_cons, List.not_mem_nil, or_false] at hv; rcases hv with rfl | rfl <;> rfl) (Nat.le_of_ble_eq_true rfl) ?_
  intro Γ h hQ hRm hnm hl hw0
  have s400 : w.1 400 = (112, 0) := hM.1 400 (by decide) (by decide)
  have s429 : w.1 429 = (1, 6) := hM.1 429 (by decide) (by decide)
  have p29 : w.2.2 400 29 = some 429 := hM.2 (400, 29, 429) (by decide)
  obtain ⟨hnp, hn6, hpp⟩ := id hP
  have loop : ∀ (d p : Nat), p + d = np → GG Γ 4 [some (ar 400), some (ai (L : Int)), some (ai ((rkF (w.2.1 429) L p : Nat) : Int)), some (ai (p : Int))] [] w 0 0 := by
    intro d
    induction d with
    | zero =>
      intro p hp
      obtain rfl : p = np := by omega
      refine g_iload_n h dX12_pipesOf_4 rfl ?_
      refine g_aload_n h dX12_pipesOf_5 rfl ?_
      refine g_getI h flX12_246 rfl (by assumption) dX12_pipesOf_6 ?_
      refine g_icmp_ge (tgt := 36) h dX12_pipesOf_9 (by decide) (by first | assumption | exact ⟨by omega, by omega⟩) (by first | assumption | exact ⟨by omega, by omega⟩) (fun c9 => ?_) (fun c9 => ?_)
      · refine g_iload_n h dX12_pipesOf_36 rfl ?_
        refine g_iret h hQ (by first | decide | omega | (simp only [clS]; omega)) (by first | decide | omega | (simp only [clS]; omega)) ?_ dX12_pipesOf_37
        exact ⟨rfl, rfl⟩
      · exfalso; omega
    | succ d ih =>
      intro p hp
      obtain ⟨a1, a2, -⟩ := hpp p (by omega)
      have hst : rkF (w.2.1 429) L (p + 1) = rkF (w.2.1 429) L p + if w.2.1 429 p = (L : Int) then 1 else 0 := rfl
      have ih2 := ih (p + 1) (by omega)
      rw [hst] at ih2
      refine g_iload_n h dX12_pipesOf_4 rfl ?_
      refine g_aload_n h dX12_pipesOf_5 rfl ?_
      refine g_getI h flX12_246 rfl (by assumption) dX12_pipesOf_6 ?_
      refine g_icmp_ge (tgt := 36) h dX12_pipesOf_9 (by decide) (by first | assumption | exact ⟨by omega, by omega⟩) (by first | assumption | exact ⟨by omega, by omega⟩) (fun c9 => ?_) (fun c9 => ?_)
      · exfalso; omega
      · refine g_iload_n h dX12_pipesOf_12 rfl ?_
        refine g_aload_n h dX12_pipesOf_13 rfl ?_
        refine g_getQ h flX12_84 rfl (by assumption) (by assumption) dX12_pipesOf_14 ?_
        refine g_iload_n h dX12_pipesOf_17 rfl ?_
        refine g_iald h _ (by assumption) rfl (by first | omega | assumption) (by first | decide | omega) dX12_pipesOf_18 ?_
        refine g_iload_n h dX12_pipesOf_19 rfl ?_
        refine g_icmp_ne (tgt := 27) h dX12_pipesOf_20 (by decide) (by first | assumption | exact ⟨by omega, by omega⟩) (by first | assumption | exact ⟨by omega, by omega⟩) (fun c20 => ?_) (fun c20 => ?_)
        · refine g_iconst h dX12_pipesOf_27 ?_
          refine g_iadd h dX12_pipesOf_28 ?_
          refine g_istore_n h dX12_pipesOf_29 (Nat.le_of_ble_eq_true rfl) rfl rfl ?_
          refine g_iinc h dX12_pipesOf_30 rfl (Nat.le_of_ble_eq_true rfl) rfl rfl ?_
          refine g_goto (tgt := 4) h dX12_pipesOf_33 (by decide) ?_
          first
          | (rw [if_pos (by omega)] at ih2; exact ih2)
          | (rw [if_neg (by omega)] at ih2; exact ih2)
        · refine g_iconst h dX12_pipesOf_23 ?_
          refine g_goto (tgt := 28) h dX12_pipesOf_24 (by decide) ?_
          refine g_iadd h dX12_pipesOf_28 ?_
          refine g_istore_n h dX12_pipesOf_29 (Nat.le_of_ble_eq_true rfl) rfl rfl ?_
          refine g_iinc h dX12_pipesOf_30 rfl (Nat.le_of_ble_eq_true rfl) rfl rfl ?_
          refine g_goto (tgt := 4) h dX12_pipesOf_33 (by decide) ?_
          first
          | (rw [if_pos (by omega)] at ih2; exact ih2)
          | (rw [if_neg (by omega)] at ih2; exact ih2)
  refine g_iconst h dX12_pipesOf_0 ?_
  refine g_istore_n h dX12_pipesOf_1 (Nat.le_of_ble_eq_true rfl) rfl rfl ?_
  refine g_iconst h dX12_pipesOf_2 ?_
  refine g_istore_n h dX12_pipesOf_3 (Nat.le_of_ble_eq_true rfl) rfl rfl ?_
  exact loop np 0 (by omega)
def ppW (w : AW) (np : Nat) (z i f li : Int) : AW := upI (upI (upI (upI (upI w 429 np z) 430 np i) 431 np f) 432 np li) 400 28 ((np : Int) + 1)
set_option maxRecDepth 100000 in
set_option maxHeartbeats 4000000 in
theorem c_X12_pipe (l : Launch) (w : AW) (np : Nat) (z i f li : Int) (hM : MS w) (hP : MPI w np) (hr3 : ∀ L, L < 2 → rkF (w.2.1 429) L np ≤ 3) (hz : R32 z) (hi : R32 i) (hf : R32 f) (hli : R32 li) : HT l yX12_pipe cX12_pipe 5 (some .int) 3 0 0 w [ar 400, ai z, ai i, ai f, ai li] (fun r w' => r = some (ai (if (0 ≤ z ∧ z < 2) ∧ 0 ≤ i ∧ i < 10 then if (1 ≤ f ∧ f ≤ 500) ∧ 0 ≤ li ∧ li ≤ 100000 then if rkF (w.2.1 429) z.toNat np = 3 then -1 else (np : Int) else -1 else -1)) ∧ w' = (if (0 ≤ z ∧ z < 2) ∧ 0 ≤ i ∧ i < 10 then if (1 ≤ f ∧ f ≤ 500) ∧ 0 ≤ li ∧ li ≤ 100000 then if rkF (w.2.1 429) z.toNat np = 3 then tM (th w) 3 else tM (ppW (th w) np z i f li) 0 else tM (th w) 2 else tM (th w) 1)) := by
  refine HT.of (by decide) (by intro v hv; simp only [List.mem_cons, List.not_mem_nil, or_false] at hv; rcases hv with rfl | rfl | rfl | rfl | rfl <;> rfl) (Nat.le_of_ble_eq_true rfl) ?_
  intro Γ h hQ hRm hnm hl hw0
  have s400 : w.1 400 = (112, 0) := hM.1 400 (by decide) (by decide)
  have s429 : w.1 429 = (1, 6) := hM.1 429 (by decide) (by decide)
  have s430 : w.1 430 = (1, 6) := hM.1 430 (by decide) (by decide)
  have s431 : w.1 431 = (1, 6) := hM.1 431 (by decide) (by decide)
  have s432 : w.1 432 = (1, 6) := hM.1 432 (by decide) (by decide)
  have p29 : w.2.2 400 29 = some 429 := hM.2 (400, 29, 429) (by decide)
  have p30 : w.2.2 400 30 = some 430 := hM.2 (400, 30, 430) (by decide)
  have p31 : w.2.2 400 31 = some 431 := hM.2 (400, 31, 431) (by decide)
  have p32 : w.2.2 400 32 = some 432 := hM.2 (400, 32, 432) (by decide)
  obtain ⟨hnp, hn6, hpp⟩ := id hP
  have e28 : (upI w 400 0 0).2.1 400 28 = (np : Int) := hnp
  have hrk := rkF_le (w.2.1 429) z.toNat np
  refine g_aload_n h dX12_pipe_0 rfl ?_
  refine g_iconst h dX12_pipe_1 ?_
  refine g_putI h flX12_1 rfl rfl (by assumption) dX12_pipe_2 ?_
  refine g_iload_n h dX12_pipe_5 rfl ?_
  refine g_iload_n h dX12_pipe_6 rfl ?_
  refine g_callS h rfl [_, _] (c_X12_isLayer _ _ z i hz hi) clX12_203 st_X12_isLayer rfl rfl (by rw [hRm]; first | decide | (simp only [clS]; omega)) (by rw [hRm]; first | decide | (simp only [clS]; omega)) (fun _ => Nat.le_of_ble_eq_true rfl) (by rw [hRm]; first | decide | (simp only [clS]; omega)) (by rw [hRm]; first | decide | (simp only [clS]; omega)) dX12_pipe_7 (fun r7 w7 hp7 => ?_)
  obtain ⟨rfl, hw7⟩ := hp7
  rw [hw7]
  have hbw7 := ite01 ((0 ≤ z ∧ z < 2) ∧ 0 ≤ i ∧ i < 10)
  refine g_if_ne (tgt := 19) h dX12_pipe_10 (by decide) (by first | assumption | exact ⟨by omega, by omega⟩) (fun c10 => ?_) (fun c10 => ?_)
  · refine g_iload_n h dX12_pipe_19 rfl ?_
    refine g_iconst h dX12_pipe_20 ?_
    refine g_sipush h dX12_pipe_21 rfl ?_
    refine g_callS h rfl [_, _, _] (c_X12_in _ _ _ _ _ hf ⟨by omega, by omega⟩ ⟨by omega, by omega⟩) clX12_211 st_X12_in rfl rfl (by rw [hRm]; first | decide | (simp only [clS]; omega)) (by rw [hRm]; first | decide | (simp only [clS]; omega)) (fun _ => Nat.le_of_ble_eq_true rfl) (by rw [hRm]; first | decide | (simp only [clS]; omega)) (by rw [hRm]; first | decide | (simp only [clS]; omega)) dX12_pipe_24 (fun r24 w24 hp24 => ?_)
    obtain ⟨rfl, hw24⟩ := hp24
    rw [hw24]
    have hbw24 := ite01 ((1 : Int) ≤ f ∧ f ≤ 500)
    refine g_if_eq (tgt := 41) h dX12_pipe_27 (by decide) (by first | assumption | exact ⟨by omega, by omega⟩) (fun c27 => ?_) (fun c27 => ?_)
    · refine g_aload_n h dX12_pipe_41 rfl ?_
      refine g_iconst h dX12_pipe_42 ?_
      refine g_callV h rfl (ci := 12) [_] (by assumption) (c_X12_refused _ _ _ (MS_of rfl rfl hM)) clX12_274 (by decide) rfl in_X12_refused se_X12_refused rfl rfl (by rw [hRm]; first | decide | (simp only [clS]; omega)) (by rw [hRm]; first | decide | (simp only [clS]; omega)) (fun _ => Nat.le_of_ble_eq_true rfl) (by rw [hRm]; first | decide | (simp only [clS]; omega)) (by rw [hRm]; first | decide | (simp only [clS]; omega)) dX12_pipe_43 (fun r43 w43 hp43 => ?_)
      obtain ⟨rfl, hw43⟩ := hp43
      rw [hw43]
      refine g_iret h hQ (by first | decide | omega | (simp only [clS]; omega)) (by first | decide | omega | (simp only [clS]; omega)) ?_ dX12_pipe_46
      first
      | (exfalso; omega)
      | (refine ⟨?_, ?_⟩ <;> (repeat first | rw [if_pos (by omega)] | rw [if_neg (by omega)]) <;> rfl)
    · refine g_iload h dX12_pipe_30 rfl ?_
      refine g_iconst h dX12_pipe_32 ?_
      refine g_ldc h kcX12_210 dX12_pipe_33 ?_
      refine g_callS h rfl [_, _, _] (c_X12_in _ _ _ _ _ hli ⟨by omega, by omega⟩ ⟨by omega, by omega⟩) clX12_211 st_X12_in rfl rfl (by rw [hRm]; first | decide | (simp only [clS]; omega)) (by rw [hRm]; first | decide | (simp only [clS]; omega)) (fun _ => Nat.le_of_ble_eq_true rfl) (by rw [hRm]; first | decide | (simp only [clS]; omega)) (by rw [hRm]; first | decide | (simp only [clS]; omega)) dX12_pipe_35 (fun r35 w35 hp35 => ?_)
      obtain ⟨rfl, hw35⟩ := hp35
      rw [hw35]
      have hbw35 := ite01 ((0 : Int) ≤ li ∧ li ≤ 100000)
      refine g_if_ne (tgt := 47) h dX12_pipe_38 (by decide) (by first | assumption | exact ⟨by omega, by omega⟩) (fun c38 => ?_) (fun c38 => ?_)
      · refine g_aload_n h dX12_pipe_47 rfl ?_
        refine g_iload_n h dX12_pipe_48 rfl ?_
        obtain ⟨L, hLz⟩ : ∃ L : Nat, z = (L : Int) := ⟨z.toNat, by omega⟩
        have hLe : z.toNat = L := by omega
        rw [hLe] at hQ hrk
        subst hLz
        have hnp6 : ¬ rkF (w.2.1 429) L np = 3 → np < 6 := by
          have h1 := rk_sum (fun p hp => ⟨(hpp p hp).1, (hpp p hp).2.1⟩)
          have h2 := hr3 0 (by decide)
          have h3 := hr3 1 (by decide)
          rcases (show L = 0 ∨ L = 1 by omega) with rfl | rfl <;> omega
        refine g_callV h rfl (ci := 12) [_] (by assumption) (c_X12_pipesOf _ _ np L (MS_th hM) hP (by omega)) clX12_280 (by decide) rfl in_X12_pipesOf se_X12_pipesOf rfl rfl (by rw [hRm]; first | decide | (simp only [clS]; omega)) (by rw [hRm]; first | decide | (simp only [clS]; omega)) (fun _ => Nat.le_of_ble_eq_true rfl) (by rw [hRm]; first | decide | (simp only [clS]; omega)) (by rw [hRm]; first | decide | (simp only [clS]; omega)) dX12_pipe_49 (fun r49 w49 hp49 => ?_)
        obtain ⟨rfl, hw49⟩ := hp49
        rw [hw49]
        change GG Γ _ _ [ai ((rkF (w.2.1 429) L np : Nat) : Int)] _ _ _
        refine g_iconst h dX12_pipe_52 ?_
        refine g_icmp_ne (tgt := 62) h dX12_pipe_53 (by decide) (by first | assumption | exact ⟨by omega, by omega⟩) (by first | assumption | exact ⟨by omega, by omega⟩) (fun c53 => ?_) (fun c53 => ?_)
        · have hnp7 := hnp6 (by omega)
          refine g_aload_n h dX12_pipe_62 rfl ?_
          refine g_getQ h flX12_84 rfl (by assumption) (by assumption) dX12_pipe_63 ?_
          refine g_aload_n h dX12_pipe_66 rfl ?_
          refine g_getI h flX12_246 rfl (by assumption) dX12_pipe_67 ?_
          refine g_iload_n h dX12_pipe_70 rfl ?_
          refine g_iast h (np) (by assumption) (by first | omega | assumption) (by first | omega | assumption) (by first | decide | omega) dX12_pipe_71 ?_
          refine g_aload_n h dX12_pipe_72 rfl ?_
          refine g_getQ h flX12_87 rfl (by assumption) (by assumption) dX12_pipe_73 ?_
          refine g_aload_n h dX12_pipe_76 rfl ?_
          refine g_getI h flX12_246 rfl (by assumption) dX12_pipe_77 ?_
          refine g_iload_n h dX12_pipe_80 rfl ?_
          refine g_iast h (np) (by assumption) (by first | omega | assumption) (by first | omega | assumption) (by first | decide | omega) dX12_pipe_81 ?_
          refine g_aload_n h dX12_pipe_82 rfl ?_
          refine g_getQ h flX12_90 rfl (by assumption) (by assumption) dX12_pipe_83 ?_
          refine g_aload_n h dX12_pipe_86 rfl ?_
          refine g_getI h flX12_246 rfl (by assumption) dX12_pipe_87 ?_
          refine g_iload_n h dX12_pipe_90 rfl ?_
          refine g_iast h (np) (by assumption) (by first | omega | assumption) (by first | omega | assumption) (by first | decide | omega) dX12_pipe_91 ?_
          refine g_aload_n h dX12_pipe_92 rfl ?_
          refine g_getQ h flX12_93 rfl (by assumption) (by assumption) dX12_pipe_93 ?_
          refine g_aload_n h dX12_pipe_96 rfl ?_
          refine g_getI h flX12_246 rfl (by assumption) dX12_pipe_97 ?_
          refine g_iload h dX12_pipe_100 rfl ?_
          refine g_iast h (np) (by assumption) (by first | omega | assumption) (by first | omega | assumption) (by first | decide | omega) dX12_pipe_102 ?_
          refine g_aload_n h dX12_pipe_103 rfl ?_
          refine g_dup h dX12_pipe_104 rfl ?_
          refine g_getI h flX12_246 rfl (by assumption) dX12_pipe_105 ?_
          refine g_iconst h dX12_pipe_108 ?_
          refine g_iadd h dX12_pipe_109 ?_
          refine g_putI h flX12_246 rfl rfl (by assumption) dX12_pipe_110 ?_
          refine g_aload_n h dX12_pipe_113 rfl ?_
          refine g_aload_n h dX12_pipe_114 rfl ?_
          refine g_getI h flX12_246 rfl (by assumption) dX12_pipe_115 ?_
          refine g_iconst h dX12_pipe_118 ?_
          rw [upI_self]
          refine g_isub h dX12_pipe_119 ?_
          refine g_callV h rfl (ci := 12) [_] (by assumption) (c_X12_done _ _ _ (MS_of rfl rfl hM)) clX12_277 (by decide) rfl in_X12_done se_X12_done rfl rfl (by rw [hRm]; first | decide | (simp only [clS]; omega)) (by rw [hRm]; first | decide | (simp only [clS]; omega)) (fun _ => Nat.le_of_ble_eq_true rfl) (by rw [hRm]; first | decide | (simp only [clS]; omega)) (by rw [hRm]; first | decide | (simp only [clS]; omega)) dX12_pipe_120 (fun r120 w120 hp120 => ?_)
          obtain ⟨rfl, hw120⟩ := hp120
          rw [hw120]
          refine g_iret h hQ (by first | decide | omega | (simp only [clS]; omega)) (by first | decide | omega | (simp only [clS]; omega)) ?_ dX12_pipe_123
          first
          | (exfalso; omega)
          | (refine ⟨?_, ?_⟩ <;> (repeat first | rw [if_pos (by omega)] | rw [if_neg (by omega)]) <;> first | rfl | (unfold ppW; rw [← hnp]; rfl) | (refine congrArg (fun z => some (ai z)) ?_; show w.2.1 400 28 + 1 - 1 = (np : Int); omega))
        · refine g_aload_n h dX12_pipe_56 rfl ?_
          refine g_iconst h dX12_pipe_57 ?_
          refine g_callV h rfl (ci := 12) [_] (by assumption) (c_X12_refused _ _ _ (MS_of rfl rfl hM)) clX12_274 (by decide) rfl in_X12_refused se_X12_refused rfl rfl (by rw [hRm]; first | decide | (simp only [clS]; omega)) (by rw [hRm]; first | decide | (simp only [clS]; omega)) (fun _ => Nat.le_of_ble_eq_true rfl) (by rw [hRm]; first | decide | (simp only [clS]; omega)) (by rw [hRm]; first | decide | (simp only [clS]; omega)) dX12_pipe_58 (fun r58 w58 hp58 => ?_)
          obtain ⟨rfl, hw58⟩ := hp58
          rw [hw58]
          refine g_iret h hQ (by first | decide | omega | (simp only [clS]; omega)) (by first | decide | omega | (simp only [clS]; omega)) ?_ dX12_pipe_61
          first
          | (exfalso; omega)
          | (refine ⟨?_, ?_⟩ <;> (repeat first | rw [if_pos (by omega)] | rw [if_neg (by omega)]) <;> first | rfl | (unfold ppW; rw [← hnp]; rfl) | (refine congrArg (fun z => some (ai z)) ?_; show w.2.1 400 28 + 1 - 1 = (np : Int); omega))
      · refine g_aload_n h dX12_pipe_41 rfl ?_
        refine g_iconst h dX12_pipe_42 ?_
        refine g_callV h rfl (ci := 12) [_] (by assumption) (c_X12_refused _ _ _ (MS_of rfl rfl hM)) clX12_274 (by decide) rfl in_X12_refused se_X12_refused rfl rfl (by rw [hRm]; first | decide | (simp only [clS]; omega)) (by rw [hRm]; first | decide | (simp only [clS]; omega)) (fun _ => Nat.le_of_ble_eq_true rfl) (by rw [hRm]; first | decide | (simp only [clS]; omega)) (by rw [hRm]; first | decide | (simp only [clS]; omega)) dX12_pipe_43 (fun r43 w43 hp43 => ?_)
        obtain ⟨rfl, hw43⟩ := hp43
        rw [hw43]
        refine g_iret h hQ (by first | decide | omega | (simp only [clS]; omega)) (by first | decide | omega | (simp only [clS]; omega)) ?_ dX12_pipe_46
        first
        | (exfalso; omega)
        | (refine ⟨?_, ?_⟩ <;> (repeat first | rw [if_pos (by omega)] | rw [if_neg (by omega)]) <;> rfl)
  · refine g_aload_n h dX12_pipe_13 rfl ?_
    refine g_iconst h dX12_pipe_14 ?_
    refine g_callV h rfl (ci := 12) [_] (by assumption) (c_X12_refused _ _ _ (MS_of rfl rfl hM)) clX12_274 (by decide) rfl in_X12_refused se_X12_refused rfl rfl (by rw [hRm]; first | decide | (simp only [clS]; omega)) (by rw [hRm]; first | decide | (simp only [clS]; omega)) (fun _ => Nat.le_of_ble_eq_true rfl) (by rw [hRm]; first | decide | (simp only [clS]; omega)) (by rw [hRm]; first | decide | (simp only [clS]; omega)) dX12_pipe_15 (fun r15 w15 hp15 => ?_)
    obtain ⟨rfl, hw15⟩ := hp15
    rw [hw15]
    refine g_iret h hQ (by first | decide | omega | (simp only [clS]; omega)) (by first | decide | omega | (simp only [clS]; omega)) ?_ dX12_pipe_18
    first
    | (exfalso; omega)
    | (refine ⟨?_, ?_⟩ <;> (repeat first | rw [if_pos (by omega)] | rw [if_neg (by omega)]) <;> rfl)
def poM (w : AW) (p : Nat) (a : Int) : Int := if a = 0 then w.2.1 429 p else if a = 1 then w.2.1 430 p else if a = 2 then w.2.1 435 p else if a = 3 then w.2.1 433 p else if a = 4 then w.2.1 434 p else -1
set_option maxRecDepth 100000 in
set_option maxHeartbeats 4000000 in
theorem c_X12_pipeOf (l : Launch) (w : AW) (np : Nat) (z a : Int) (hM : MS w) (hP : MPI w np) (hz : R32 z) (ha : R32 a) : HT l yX12_pipeOf cX12_pipeOf 3 (some .int) 2 0 0 w [ar 400, ai z, ai a] (fun r w' => r = some (ai (if 0 ≤ z ∧ z < (np : Int) then poM w z.toNat a else -1)) ∧ w' = (th w)) := by
  refine HT.of (by decide) (by intro v hv; simp only [List.mem_cons, List.not_mem_nil, or_false] at hv; rcases hv with rfl | rfl | rfl <;> rfl) (Nat.le_of_ble_eq_true rfl) ?_
  intro Γ h hQ hRm hnm hl hw0
  have s400 : w.1 400 = (112, 0) := hM.1 400 (by decide) (by decide)
  have s429 : w.1 429 = (1, 6) := hM.1 429 (by decide) (by decide)
  have s430 : w.1 430 = (1, 6) := hM.1 430 (by decide) (by decide)
  have s435 : w.1 435 = (3, 6) := hM.1 435 (by decide) (by decide)
  have s433 : w.1 433 = (1, 6) := hM.1 433 (by decide) (by decide)
  have s434 : w.1 434 = (1, 6) := hM.1 434 (by decide) (by decide)
  have p29 : w.2.2 400 29 = some 429 := hM.2 (400, 29, 429) (by decide)
  have p30 : w.2.2 400 30 = some 430 := hM.2 (400, 30, 430) (by decide)
  have p35 : w.2.2 400 35 = some 435 := hM.2 (400, 35, 435) (by decide)
  have p33 : w.2.2 400 33 = some 433 := hM.2 (400, 33, 433) (by decide)
  have p34 : w.2.2 400 34 = some 434 := hM.2 (400, 34, 434) (by decide)
  obtain ⟨hnp, hn6, hpp⟩ := id hP
  have e28 : (upI w 400 0 0).2.1 400 28 = (np : Int) := hnp
  have hpz := fun (q : 0 ≤ z ∧ z < (np : Int)) => (hpp z.toNat (by omega)).2.2.2.2.2.2.2.2
  have e35 : (upI w 400 0 0).2.1 435 z.toNat = w.2.1 435 z.toNat := rfl
  refine g_aload_n h dX12_pipeOf_0 rfl ?_
  refine g_iconst h dX12_pipeOf_1 ?_
  refine g_putI h flX12_1 rfl rfl (by assumption) dX12_pipeOf_2 ?_
  refine g_aload_n h dX12_pipeOf_5 rfl ?_
  refine g_iload_n h dX12_pipeOf_6 rfl ?_
  refine g_callV h rfl (ci := 12) [_] (by assumption) (c_X12_isPipe _ _ z (MS_of rfl rfl hM) hz (by rw [e28]; exact ⟨by omega, by omega⟩)) clX12_283 (by decide) rfl in_X12_isPipe se_X12_isPipe rfl rfl (by rw [hRm]; first | decide | (simp only [clS]; omega)) (by rw [hRm]; first | decide | (simp only [clS]; omega)) (fun _ => Nat.le_of_ble_eq_true rfl) (by rw [hRm]; first | decide | (simp only [clS]; omega)) (by rw [hRm]; first | decide | (simp only [clS]; omega)) dX12_pipeOf_7 (fun r7 w7 hp7 => ?_)
  obtain ⟨rfl, hw7⟩ := hp7
  rw [hw7]
  rw [e28]
  have hbw7 := ite01 (0 ≤ z ∧ z < (np : Int))
  refine g_if_ne (tgt := 15) h dX12_pipeOf_10 (by decide) (by first | assumption | exact ⟨by omega, by omega⟩) (fun c10 => ?_) (fun c10 => ?_)
  · refine g_iload_n h dX12_pipeOf_15 rfl ?_
    rcases (show a = 0 ∨ a = 1 ∨ a = 2 ∨ a = 3 ∨ a = 4 ∨ (a < 0 ∨ 4 < a) by omega) with c16 | c16 | c16 | c16 | c16 | c16
    · refine g_tswI (tgt := 52) h 0 (by first | assumption | exact ⟨by omega, by omega⟩) (by first | omega | assumption) (by first | omega | assumption) rfl (by decide) dX12_pipeOf_16 ?_
      refine g_aload_n h dX12_pipeOf_52 rfl ?_
      refine g_getQ h flX12_84 rfl (by assumption) (by assumption) dX12_pipeOf_53 ?_
      refine g_iload_n h dX12_pipeOf_56 rfl ?_
      refine g_iald h (z.toNat) (by assumption) (by first | omega | assumption) (by first | omega | assumption) (by first | decide | omega) dX12_pipeOf_57 ?_
      refine g_iret h hQ (by first | decide | omega | (simp only [clS]; omega)) (by first | decide | omega | (simp only [clS]; omega)) ?_ dX12_pipeOf_58
      first
      | (exfalso; omega)
      | (refine ⟨?_, rfl⟩
         first
         | (rw [if_neg (by omega)])
         | (rw [if_pos (by omega)]
            unfold poM
            (repeat first | rw [if_pos (by omega)] | rw [if_neg (by omega)])
            all_goals first | rfl | (refine congrArg (fun z => some (ai z)) ?_; omega)))
    · refine g_tswI (tgt := 59) h 1 (by first | assumption | exact ⟨by omega, by omega⟩) (by first | omega | assumption) (by first | omega | assumption) rfl (by decide) dX12_pipeOf_16 ?_
      refine g_aload_n h dX12_pipeOf_59 rfl ?_
      refine g_getQ h flX12_87 rfl (by assumption) (by assumption) dX12_pipeOf_60 ?_
      refine g_iload_n h dX12_pipeOf_63 rfl ?_
      refine g_iald h (z.toNat) (by assumption) (by first | omega | assumption) (by first | omega | assumption) (by first | decide | omega) dX12_pipeOf_64 ?_
      refine g_iret h hQ (by first | decide | omega | (simp only [clS]; omega)) (by first | decide | omega | (simp only [clS]; omega)) ?_ dX12_pipeOf_65
      first
      | (exfalso; omega)
      | (refine ⟨?_, rfl⟩
         first
         | (rw [if_neg (by omega)])
         | (rw [if_pos (by omega)]
            unfold poM
            (repeat first | rw [if_pos (by omega)] | rw [if_neg (by omega)])
            all_goals first | rfl | (refine congrArg (fun z => some (ai z)) ?_; omega)))
    · refine g_tswI (tgt := 66) h 2 (by first | assumption | exact ⟨by omega, by omega⟩) (by first | omega | assumption) (by first | omega | assumption) rfl (by decide) dX12_pipeOf_16 ?_
      refine g_aload_n h dX12_pipeOf_66 rfl ?_
      refine g_getQ h flX12_102 rfl (by assumption) (by assumption) dX12_pipeOf_67 ?_
      refine g_iload_n h dX12_pipeOf_70 rfl ?_
      have hp9 := hpz (by omega)
      refine g_zald h (z.toNat) (by assumption) (by first | omega | assumption) (by first | omega | assumption) (by first | decide | omega) dX12_pipeOf_71 ?_
      rw [e35]
      refine g_if_eq (tgt := 79) h dX12_pipeOf_72 (by decide) (by first | assumption | exact ⟨by omega, by omega⟩) (fun c72 => ?_) (fun c72 => ?_)
      · refine g_iconst h dX12_pipeOf_79 ?_
        refine g_iret h hQ (by first | decide | omega | (simp only [clS]; omega)) (by first | decide | omega | (simp only [clS]; omega)) ?_ dX12_pipeOf_80
        first
        | (exfalso; omega)
        | (refine ⟨?_, rfl⟩
           first
           | (rw [if_neg (by omega)])
           | (rw [if_pos (by omega)]
              unfold poM
              (repeat first | rw [if_pos (by omega)] | rw [if_neg (by omega)])
              all_goals first | rfl | (refine congrArg (fun z => some (ai z)) ?_; omega)))
      · refine g_iconst h dX12_pipeOf_75 ?_
        refine g_goto (tgt := 80) h dX12_pipeOf_76 (by decide) ?_
        refine g_iret h hQ (by first | decide | omega | (simp only [clS]; omega)) (by first | decide | omega | (simp only [clS]; omega)) ?_ dX12_pipeOf_80
        first
        | (exfalso; omega)
        | (refine ⟨?_, rfl⟩
           first
           | (rw [if_neg (by omega)])
           | (rw [if_pos (by omega)]
              unfold poM
              (repeat first | rw [if_pos (by omega)] | rw [if_neg (by omega)])
              all_goals first | rfl | (refine congrArg (fun z => some (ai z)) ?_; omega)))
    · refine g_tswI (tgt := 81) h 3 (by first | assumption | exact ⟨by omega, by omega⟩) (by first | omega | assumption) (by first | omega | assumption) rfl (by decide) dX12_pipeOf_16 ?_
      refine g_aload_n h dX12_pipeOf_81 rfl ?_
      refine g_getQ h flX12_96 rfl (by assumption) (by assumption) dX12_pipeOf_82 ?_
      refine g_iload_n h dX12_pipeOf_85 rfl ?_
      refine g_iald h (z.toNat) (by assumption) (by first | omega | assumption) (by first | omega | assumption) (by first | decide | omega) dX12_pipeOf_86 ?_
      refine g_iret h hQ (by first | decide | omega | (simp only [clS]; omega)) (by first | decide | omega | (simp only [clS]; omega)) ?_ dX12_pipeOf_87
      first
      | (exfalso; omega)
      | (refine ⟨?_, rfl⟩
         first
         | (rw [if_neg (by omega)])
         | (rw [if_pos (by omega)]
            unfold poM
            (repeat first | rw [if_pos (by omega)] | rw [if_neg (by omega)])
            all_goals first | rfl | (refine congrArg (fun z => some (ai z)) ?_; omega)))
    · refine g_tswI (tgt := 88) h 4 (by first | assumption | exact ⟨by omega, by omega⟩) (by first | omega | assumption) (by first | omega | assumption) rfl (by decide) dX12_pipeOf_16 ?_
      refine g_aload_n h dX12_pipeOf_88 rfl ?_
      refine g_getQ h flX12_99 rfl (by assumption) (by assumption) dX12_pipeOf_89 ?_
      refine g_iload_n h dX12_pipeOf_92 rfl ?_
      refine g_iald h (z.toNat) (by assumption) (by first | omega | assumption) (by first | omega | assumption) (by first | decide | omega) dX12_pipeOf_93 ?_
      refine g_iret h hQ (by first | decide | omega | (simp only [clS]; omega)) (by first | decide | omega | (simp only [clS]; omega)) ?_ dX12_pipeOf_94
      first
      | (exfalso; omega)
      | (refine ⟨?_, rfl⟩
         first
         | (rw [if_neg (by omega)])
         | (rw [if_pos (by omega)]
            unfold poM
            (repeat first | rw [if_pos (by omega)] | rw [if_neg (by omega)])
            all_goals first | rfl | (refine congrArg (fun z => some (ai z)) ?_; omega)))
    · refine g_tswO (tgt := 95) h (by first | assumption | exact ⟨by omega, by omega⟩) c16 (by decide) dX12_pipeOf_16 ?_
      refine g_iconst h dX12_pipeOf_95 ?_
      refine g_iret h hQ (by first | decide | omega | (simp only [clS]; omega)) (by first | decide | omega | (simp only [clS]; omega)) ?_ dX12_pipeOf_96
      first
      | (exfalso; omega)
      | (refine ⟨?_, rfl⟩
         first
         | (rw [if_neg (by omega)])
         | (rw [if_pos (by omega)]
            unfold poM
            (repeat first | rw [if_pos (by omega)] | rw [if_neg (by omega)])
            all_goals first | rfl | (refine congrArg (fun z => some (ai z)) ?_; omega)))
  · refine g_iconst h dX12_pipeOf_13 ?_
    refine g_iret h hQ (by first | decide | omega | (simp only [clS]; omega)) (by first | decide | omega | (simp only [clS]; omega)) ?_ dX12_pipeOf_14
    first
    | (exfalso; omega)
    | (refine ⟨?_, rfl⟩
       first
       | (rw [if_neg (by omega)])
       | (rw [if_pos (by omega)]
          unfold poM
          (repeat first | rw [if_pos (by omega)] | rw [if_neg (by omega)])
          all_goals first | rfl | (refine congrArg (fun z => some (ai z)) ?_; omega)))
/-- lake L's own pipes in a row -/
def loF (pl : Nat → Int) (L : Nat) (old : Nat → Int) : Nat → Nat → Int
  | 0 => old
  | p + 1 => if pl p = (L : Int) then uI (loF pl L old p) (rkF pl L p) (p : Int) else loF pl L old p
def loW (w : AW) (L p : Nat) : AW := upI (sR w 436 (loF (w.2.1 429) L (w.2.1 436) p)) 400 39 ((rkF (w.2.1 429) L p : Nat) : Int)
theorem loF_at {pl : Nat → Int} {L : Nat} {old : Nat → Int} : ∀ {n p : Nat}, p < n → pl p = (L : Int) → loF pl L old n (rkF pl L p) = (p : Int)
  | 0, p, h, _ => by omega
  | n + 1, p, h, hp => by
    unfold loF
    by_cases e : p = n
    · subst e
      rw [if_pos hp, uI_at]
    · have h1 := loF_at (pl := pl) (L := L) (old := old) (n := n) (p := p) (by omega) hp
      split
      · have h2 := rkF_lt (n := n) (show p < n by omega) hp
        rw [uI_ne _ _ (by omega)]
        exact h1
      · exact h1
/-- each of the row's places tells a pipe of the lake -/
theorem loF_of {pl : Nat → Int} {L : Nat} {old : Nat → Int} : ∀ {n k : Nat}, k < rkF pl L n → ∃ p, p < n ∧ pl p = (L : Int) ∧ rkF pl L p = k ∧ loF pl L old n k = (p : Int)
  | 0, k, h => by cases h
  | n + 1, k, h => by
    have hs : rkF pl L (n + 1) = rkF pl L n + if pl n = (L : Int) then 1 else 0 := rfl
    by_cases hn : pl n = (L : Int)
    · rw [if_pos hn] at hs
      by_cases e : k = rkF pl L n
      · exact ⟨n, by omega, hn, e.symm, by unfold loF; rw [if_pos hn, e, uI_at]⟩
      · obtain ⟨p, a, b, c, d⟩ := loF_of (old := old) (show k < rkF pl L n by omega)
        exact ⟨p, by omega, b, c, by unfold loF; rw [if_pos hn, uI_ne _ _ e]; exact d⟩
    · rw [if_neg hn] at hs
      obtain ⟨p, a, b, c, d⟩ := loF_of (old := old) (show k < rkF pl L n by omega)
      exact ⟨p, by omega, b, c, by unfold loF; rw [if_neg hn]; exact d⟩
set_option maxRecDepth 100000 in
set_option maxHeartbeats 4000000 in
theorem c_X12_listOwn (l : Launch) (w : AW) (np L : Nat) (hM : MS w) (hP : MPI w np) (hL : L < 2) (hr3 : rkF (w.2.1 429) L np ≤ 3) : HT l yX12_listOwn cX12_listOwn 3 none 1 0 0 w [ar 400, ai (L : Int)] (rV (loW w L np)) := by
  refine HT.of (by decide) (by intro v hv; simp only [List.mem_cons, List.not_mem_nil, or_false] at hv; rcases hv with rfl | rfl <;> rfl) (Nat.le_of_ble_eq_true rfl) ?_
  intro Γ h hQ hRm hnm hl hw0
  have s400 : w.1 400 = (112, 0) := hM.1 400 (by decide) (by decide)
  have s429 : w.1 429 = (1, 6) := hM.1 429 (by decide) (by decide)
  have s436 : w.1 436 = (1, 3) := hM.1 436 (by decide) (by decide)
  have p29 : w.2.2 400 29 = some 429 := hM.2 (400, 29, 429) (by decide)
  have p36 : w.2.2 400 36 = some 436 := hM.2 (400, 36, 436) (by decide)
  obtain ⟨hnp, hn6, hpp⟩ := id hP
  have loop : ∀ (d p : Nat), p + d = np → GG Γ 7 [some (ar 400), some (ai (L : Int)), some (ai (p : Int))] [] (loW w L p) 0 0 := by
    intro d
    induction d with
    | zero =>
      intro p hp
      obtain rfl : p = np := by omega
      have e28 : (loW w L p).2.1 400 28 = (p : Int) := hnp
      refine g_iload_n h dX12_listOwn_7 rfl ?_
      refine g_aload_n h dX12_listOwn_8 rfl ?_
      refine g_getI h flX12_246 rfl (by assumption) dX12_listOwn_9 ?_
      refine g_icmp_ge (tgt := 54) h dX12_listOwn_12 (by decide) (by first | assumption | exact ⟨by omega, by omega⟩) (by first | assumption | exact ⟨by omega, by omega⟩) (fun c12 => ?_) (fun c12 => ?_)
      · refine g_vret h hQ (by first | decide | omega | (simp only [clS]; omega)) (by first | decide | omega | (simp only [clS]; omega)) ?_ dX12_listOwn_54
        exact ⟨rfl, rfl⟩
      · exfalso; omega
    | succ d ih =>
      intro p hp
      have e28 : (loW w L p).2.1 400 28 = (np : Int) := hnp
      have e29 : (loW w L p).2.1 429 p = w.2.1 429 p := rfl
      have e39 : (loW w L p).2.1 400 39 = ((rkF (w.2.1 429) L p : Nat) : Int) := rfl
      obtain ⟨a1, a2, -⟩ := hpp p (by omega)
      have hst : rkF (w.2.1 429) L (p + 1) = rkF (w.2.1 429) L p + if w.2.1 429 p = (L : Int) then 1 else 0 := rfl
      have hlo : loF (w.2.1 429) L (w.2.1 436) (p + 1) = if w.2.1 429 p = (L : Int) then uI (loF (w.2.1 429) L (w.2.1 436) p) (rkF (w.2.1 429) L p) (p : Int) else loF (w.2.1 429) L (w.2.1 436) p := rfl
      have hlt := fun (q : w.2.1 429 p = (L : Int)) => rkF_lt (n := np) (show p < np by omega) q
      have ih2 := ih (p + 1) (by omega)
      refine g_iload_n h dX12_listOwn_7 rfl ?_
      refine g_aload_n h dX12_listOwn_8 rfl ?_
      refine g_getI h flX12_246 rfl (by assumption) dX12_listOwn_9 ?_
      refine g_icmp_ge (tgt := 54) h dX12_listOwn_12 (by decide) (by first | assumption | exact ⟨by omega, by omega⟩) (by first | assumption | exact ⟨by omega, by omega⟩) (fun c12 => ?_) (fun c12 => ?_)
      · exfalso; omega
      · refine g_aload_n h dX12_listOwn_15 rfl ?_
        refine g_getQ h flX12_84 rfl (by assumption) (by assumption) dX12_listOwn_16 ?_
        refine g_iload_n h dX12_listOwn_19 rfl ?_
        refine g_iald h _ (by assumption) rfl (by first | omega | assumption) (by first | decide | omega) dX12_listOwn_20 ?_
        refine g_iload_n h dX12_listOwn_21 rfl ?_
        refine g_icmp_eq (tgt := 28) h dX12_listOwn_22 (by decide) (by first | assumption | exact ⟨by omega, by omega⟩) (by first | assumption | exact ⟨by omega, by omega⟩) (fun c22 => ?_) (fun c22 => ?_)
        · have hlt2 := hlt (by omega)
          refine g_aload_n h dX12_listOwn_28 rfl ?_
          refine g_getQ h flX12_105 rfl (by assumption) (by assumption) dX12_listOwn_29 ?_
          refine g_aload_n h dX12_listOwn_32 rfl ?_
          refine g_getI h flX12_295 rfl (by assumption) dX12_listOwn_33 ?_
          rw [e39]
          refine g_iload_n h dX12_listOwn_36 rfl ?_
          refine g_iast h (rkF (w.2.1 429) L p) (by assumption) (by first | omega | assumption) (by first | omega | assumption) (by first | decide | omega) dX12_listOwn_37 ?_
          refine g_aload_n h dX12_listOwn_38 rfl ?_
          refine g_dup h dX12_listOwn_39 rfl ?_
          refine g_getI h flX12_295 rfl (by assumption) dX12_listOwn_40 ?_
          refine g_iconst h dX12_listOwn_43 ?_
          refine g_iadd h dX12_listOwn_44 ?_
          refine g_putI h flX12_295 rfl rfl (by assumption) dX12_listOwn_45 ?_
          refine g_iinc h dX12_listOwn_48 rfl (Nat.le_of_ble_eq_true rfl) rfl rfl ?_
          refine g_goto (tgt := 7) h dX12_listOwn_51 (by decide) ?_
          first
          | (exfalso; omega)
          | (have e9 : loW w L (p + 1) = loW w L p := by
               unfold loW
               rw [hst, hlo, if_neg (by omega), if_neg (by omega)]
               rfl
             rw [e9] at ih2
             exact ih2)
          | (refine g_eq rfl rfl ?_ ih2
             unfold loW
             rw [hst, hlo, if_pos (by omega), if_pos (by omega)]
             refine aw_ext rfl (fun j => ?_) rfl
             by_cases q1 : j = 400
             · subst q1
               show uI (uI (w.2.1 400) 39 _) 39 _ = uI (w.2.1 400) 39 _
               rw [uI_uI]
               rfl
             by_cases q2 : j = 436
             · subst q2; rfl
             rw [upI_o _ _ _ q1, upI_o _ _ _ q2, upI_o _ _ _ q1, sR_ne _ _ q2, upI_o _ _ _ q1, sR_ne _ _ q2])
        · refine g_goto (tgt := 48) h dX12_listOwn_25 (by decide) ?_
          refine g_iinc h dX12_listOwn_48 rfl (Nat.le_of_ble_eq_true rfl) rfl rfl ?_
          refine g_goto (tgt := 7) h dX12_listOwn_51 (by decide) ?_
          first
          | (exfalso; omega)
          | (have e9 : loW w L (p + 1) = loW w L p := by
               unfold loW
               rw [hst, hlo, if_neg (by omega), if_neg (by omega)]
               rfl
             rw [e9] at ih2
             exact ih2)
          | (refine g_eq rfl rfl ?_ ih2
             unfold loW
             rw [hst, hlo, if_pos (by omega), if_pos (by omega)]
             refine aw_ext rfl (fun j => ?_) rfl
             by_cases q1 : j = 400
             · subst q1
               show uI (uI (w.2.1 400) 39 _) 39 _ = uI (w.2.1 400) 39 _
               rw [uI_uI]
               rfl
             by_cases q2 : j = 436
             · subst q2; rfl
             rw [upI_o _ _ _ q1, upI_o _ _ _ q2, upI_o _ _ _ q1, sR_ne _ _ q2, upI_o _ _ _ q1, sR_ne _ _ q2])
  refine g_aload_n h dX12_listOwn_0 rfl ?_
  refine g_iconst h dX12_listOwn_1 ?_
  refine g_putI h flX12_295 rfl rfl (by assumption) dX12_listOwn_2 ?_
  refine g_eq (w' := loW w L 0) rfl rfl ?_ ?_
  · unfold loW
    show upI w 400 39 0 = upI (sR w 436 (w.2.1 436)) 400 39 0
    rw [sR_self w 436]
  refine g_iconst h dX12_listOwn_5 ?_
  refine g_istore_n h dX12_listOwn_6 (Nat.le_of_ble_eq_true rfl) rfl rfl ?_
  exact loop np 0 (by omega)
/-- what is asked of own pipes: how many, where they are -/
def MO (w : AW) (np m : Nat) (o : Nat → Nat) : Prop := w.2.1 400 39 = (m : Int) ∧ m ≤ 3 ∧ ∀ k, k < m → w.2.1 436 k = (o k : Int) ∧ o k < np ∧ 0 ≤ w.2.1 437 k ∧ w.2.1 437 k < 10
def mvF (w : AW) (o : Nat → Nat) : Nat → Int
  | 0 => 0
  | k + 1 => mvF w o k + (if w.2.1 437 k = w.2.1 430 (o k) then 0 else 1)
/-- the pipes at hand as tried, moved and started at once -/
def dyF (w : AW) (o : Nat → Nat) : Nat → AW
  | 0 => w
  | k + 1 => if w.2.1 437 k = w.2.1 430 (o k) then dyF w o k else upI (upI (dyF w o k) 423 (o k) (w.2.1 437 k)) 425 (o k) 1
theorem dyF_1 (w : AW) (o : Nat → Nat) : ∀ k, (dyF w o k).1 = w.1 ∧ (dyF w o k).2.2 = w.2.2
  | 0 => ⟨rfl, rfl⟩
  | k + 1 => by
    have := dyF_1 w o k
    unfold dyF
    split
    · exact this
    · exact this
theorem dyF_o (w : AW) (o : Nat → Nat) {j : Nat} (h1 : j ≠ 423) (h2 : j ≠ 425) : ∀ k, (dyF w o k).2.1 j = w.2.1 j
  | 0 => rfl
  | k + 1 => by
    have := dyF_o w o h1 h2 k
    unfold dyF
    split
    · exact this
    · rw [upI_o _ _ _ h2, upI_o _ _ _ h1]; exact this
theorem dyF_ok {w : AW} {np m : Nat} {o : Nat → Nat} (hO : MO w np m o) (hQ : MQ2 w np) : ∀ k, k ≤ m → MQ2 (dyF w o k) np
  | 0, _ => hQ
  | k + 1, hk => by
    have h1 := dyF_ok hO hQ k (by omega)
    unfold dyF
    split
    · exact h1
    · obtain ⟨a1, a2, a3⟩ := h1
      refine ⟨a1, a2, fun p hp => ?_⟩
      obtain ⟨b1, b2, b3, b4, b5, b6, b7, b8, b9⟩ := a3 p hp
      have ho := hO.2.2 k (by omega)
      refine ⟨b1, b2, ?_, ?_, b5, b6, b7, b8, ?_⟩
      · show 0 ≤ uI ((dyF w o k).2.1 423) (o k) (w.2.1 437 k) p
        by_cases e : p = o k
        · rw [e, uI_at]; exact ho.2.2.1
        · rw [uI_ne _ _ e]; exact b3
      · show uI ((dyF w o k).2.1 423) (o k) (w.2.1 437 k) p < 10
        by_cases e : p = o k
        · rw [e, uI_at]; exact ho.2.2.2
        · rw [uI_ne _ _ e]; exact b4
      · show uI ((dyF w o k).2.1 425) (o k) 1 p = 0 ∨ uI ((dyF w o k).2.1 425) (o k) 1 p = 1
        by_cases e : p = o k
        · rw [e, uI_at]; exact Or.inr rfl
        · rw [uI_ne _ _ e]; exact b9
/-- days until full is below a share -/
def dtM (L np : Nat) (share : Int) : Nat → Int → AW → Int × AW
  | 0, _, w => (-2, w)
  | d + 1, day, w => if mdB w L np = 1 then (-2, mdW w L np) else if fhM (mdW w L np) L < share then (day, mdW w L np) else dtM L np share d (day + 1) (mdW w L np)
def dsM (w : AW) (L np m : Nat) (o : Nat → Nat) (share most : Int) : Int × AW := dtM L np share most.toNat 1 (dyF (tkW w L np) o m)
theorem MF_dy (w : AW) (o : Nat → Nat) (k : Nat) : MF w (dyF w o k) := ⟨(dyF_1 w o k).1, (dyF_1 w o k).2, fun j h => dyF_o w o h.2.2.2.2.1 h.2.2.2.2.2.2 k, fun f _ _ => congrFun (dyF_o w o (by decide) (by decide) k) f⟩
theorem MF_dt {L np : Nat} {share : Int} : ∀ (d : Nat) (day : Int) (w : AW), MF w (dtM L np share d day w).2
  | 0, _, w => MF_rfl w
  | d + 1, day, w => by
    unfold dtM
    split
    · exact MF_md w L np
    · split
      · exact MF_md w L np
      · exact MF_tr (MF_md w L np) (MF_dt d (day + 1) _)
theorem MF_ds (w : AW) (L np m : Nat) (o : Nat → Nat) (share most : Int) : MF w (dsM w L np m o share most).2 := MF_tr (MF_tk w L np) (MF_tr (MF_dy _ o m) (MF_dt _ _ _))
theorem dtM_bd {L np : Nat} {share : Int} : ∀ (d : Nat) (day : Int) (w : AW), (dtM L np share d day w).1 = -2 ∨ (day ≤ (dtM L np share d day w).1 ∧ (dtM L np share d day w).1 < day + d)
  | 0, _, _ => Or.inl rfl
  | d + 1, day, w => by
    unfold dtM
    split
    · exact Or.inl rfl
    · split
      · exact Or.inr ⟨Int.le_refl _, by show day < day + ((d + 1 : Nat) : Int); omega⟩
      · have := dtM_bd (L := L) (np := np) (share := share) d (day + 1) (mdW w L np)
        omega
set_option maxRecDepth 100000 in
set_option maxHeartbeats 4000000 in
theorem c_X12_movedOnes (l : Launch) (w : AW) (np m : Nat) (o : Nat → Nat) (hM : MS w) (hP : MPI w np) (hO : MO w np m o) : HT l yX12_movedOnes cX12_movedOnes 3 (some .int) 1 0 0 w [ar 400] (rI (mvF w o m) w) := by
  refine HT.of (by decide) (by intro v hv; simp only [List.mem_cons, List.not_mem_nil, or_false] at hv; rcases hv with rfl <;> rfl) (Nat.le_of_ble_eq_true rfl) ?_
  intro Γ h hQ hRm hnm hl hw0
  have s400 : w.1 400 = (112, 0) := hM.1 400 (by decide) (by decide)
  have s437 : w.1 437 = (1, 3) := hM.1 437 (by decide) (by decide)
  have s430 : w.1 430 = (1, 6) := hM.1 430 (by decide) (by decide)
  have s436 : w.1 436 = (1, 3) := hM.1 436 (by decide) (by decide)
  have p37 : w.2.2 400 37 = some 437 := hM.2 (400, 37, 437) (by decide)
  have p30 : w.2.2 400 30 = some 430 := hM.2 (400, 30, 430) (by decide)
  have p36 : w.2.2 400 36 = some 436 := hM.2 (400, 36, 436) (by decide)
  obtain ⟨hnp, hn6, hpp⟩ := id hP
  obtain ⟨hm, hm3, ho⟩ := id hO
  have loop : ∀ (d k : Nat), k + d = m → GG Γ 4 [some (ar 400), some (ai (mvF w o k)), some (ai (k : Int))] [] w 0 0 := by
    intro d
    induction d with
    | zero =>
      intro k hk
      obtain rfl : k = m := by omega
      refine g_iload_n h dX12_movedOnes_4 rfl ?_
      refine g_aload_n h dX12_movedOnes_5 rfl ?_
      refine g_getI h flX12_295 rfl (by assumption) dX12_movedOnes_6 ?_
      refine g_icmp_ge (tgt := 46) h dX12_movedOnes_9 (by decide) (by first | assumption | exact ⟨by omega, by omega⟩) (by first | assumption | exact ⟨by omega, by omega⟩) (fun c9 => ?_) (fun c9 => ?_)
      · refine g_iload_n h dX12_movedOnes_46 rfl ?_
        refine g_iret h hQ (by first | decide | omega | (simp only [clS]; omega)) (by first | decide | omega | (simp only [clS]; omega)) ?_ dX12_movedOnes_47
        exact ⟨rfl, rfl⟩
      · exfalso; omega
    | succ d ih =>
      intro k hk
      obtain ⟨o1, o2, o3, o4⟩ := ho k (by omega)
      obtain ⟨-, -, l0, l9, -⟩ := hpp (o k) o2
      have hst : mvF w o (k + 1) = mvF w o k + (if w.2.1 437 k = w.2.1 430 (o k) then 0 else 1) := rfl
      have ih2 := ih (k + 1) (by omega)
      rw [hst] at ih2
      refine g_iload_n h dX12_movedOnes_4 rfl ?_
      refine g_aload_n h dX12_movedOnes_5 rfl ?_
      refine g_getI h flX12_295 rfl (by assumption) dX12_movedOnes_6 ?_
      refine g_icmp_ge (tgt := 46) h dX12_movedOnes_9 (by decide) (by first | assumption | exact ⟨by omega, by omega⟩) (by first | assumption | exact ⟨by omega, by omega⟩) (fun c9 => ?_) (fun c9 => ?_)
      · exfalso; omega
      · refine g_iload_n h dX12_movedOnes_12 rfl ?_
        refine g_aload_n h dX12_movedOnes_13 rfl ?_
        refine g_getQ h flX12_108 rfl (by assumption) (by assumption) dX12_movedOnes_14 ?_
        refine g_iload_n h dX12_movedOnes_17 rfl ?_
        refine g_iald h _ (by assumption) rfl (by first | omega | assumption) (by first | decide | omega) dX12_movedOnes_18 ?_
        refine g_aload_n h dX12_movedOnes_19 rfl ?_
        refine g_getQ h flX12_87 rfl (by assumption) (by assumption) dX12_movedOnes_20 ?_
        refine g_aload_n h dX12_movedOnes_23 rfl ?_
        refine g_getQ h flX12_105 rfl (by assumption) (by assumption) dX12_movedOnes_24 ?_
        refine g_iload_n h dX12_movedOnes_27 rfl ?_
        refine g_iald h _ (by assumption) rfl (by first | omega | assumption) (by first | decide | omega) dX12_movedOnes_28 ?_
        refine g_iald h (o k) (by assumption) (by first | omega | assumption) (by first | omega | assumption) (by first | decide | omega) dX12_movedOnes_29 ?_
        refine g_icmp_ne (tgt := 37) h dX12_movedOnes_30 (by decide) (by first | assumption | exact ⟨by omega, by omega⟩) (by first | assumption | exact ⟨by omega, by omega⟩) (fun c30 => ?_) (fun c30 => ?_)
        · refine g_iconst h dX12_movedOnes_37 ?_
          refine g_iadd h dX12_movedOnes_38 ?_
          refine g_istore_n h dX12_movedOnes_39 (Nat.le_of_ble_eq_true rfl) rfl rfl ?_
          refine g_iinc h dX12_movedOnes_40 rfl (Nat.le_of_ble_eq_true rfl) rfl rfl ?_
          refine g_goto (tgt := 4) h dX12_movedOnes_43 (by decide) ?_
          first
          | (rw [if_pos (by omega)] at ih2; exact ih2)
          | (rw [if_neg (by omega)] at ih2; exact ih2)
        · refine g_iconst h dX12_movedOnes_33 ?_
          refine g_goto (tgt := 38) h dX12_movedOnes_34 (by decide) ?_
          refine g_iadd h dX12_movedOnes_38 ?_
          refine g_istore_n h dX12_movedOnes_39 (Nat.le_of_ble_eq_true rfl) rfl rfl ?_
          refine g_iinc h dX12_movedOnes_40 rfl (Nat.le_of_ble_eq_true rfl) rfl rfl ?_
          refine g_goto (tgt := 4) h dX12_movedOnes_43 (by decide) ?_
          first
          | (rw [if_pos (by omega)] at ih2; exact ih2)
          | (rw [if_neg (by omega)] at ih2; exact ih2)
  refine g_iconst h dX12_movedOnes_0 ?_
  refine g_istore_n h dX12_movedOnes_1 (Nat.le_of_ble_eq_true rfl) rfl rfl ?_
  refine g_iconst h dX12_movedOnes_2 ?_
  refine g_istore_n h dX12_movedOnes_3 (Nat.le_of_ble_eq_true rfl) rfl rfl ?_
  exact loop m 0 (by omega)
set_option maxRecDepth 100000 in
set_option maxHeartbeats 4000000 in
theorem c_X12_daysBy (l : Launch) (w : AW) (np m L : Nat) (o : Nat → Nat) (share most : Int) (hM : MS w) (hG : MG w) (hN : MN w) (hP : MPI w np) (hL : L < 2) (hO : MO w np m o) (hs : R32 share) (hmo : 0 ≤ most ∧ most ≤ 60) : HT l yX12_daysBy cX12_daysBy 5 (some .int) 5 0 0 w [ar 400, ai (L : Int), ai share, ai most] (fun r w' => r = some (ai (dsM w L np m o share most).1) ∧ w' = (dsM w L np m o share most).2) := by
  refine HT.of (by decide) (by intro v hv; simp only [List.mem_cons, List.not_mem_nil, or_false] at hv; rcases hv with rfl | rfl | rfl | rfl <;> rfl) (Nat.le_of_ble_eq_true rfl) ?_
  intro Γ h hQ hRm hnm hl hw0
  have s400 : w.1 400 = (112, 0) := hM.1 400 (by decide) (by decide)
  have s437 : w.1 437 = (1, 3) := hM.1 437 (by decide) (by decide)
  have s430 : w.1 430 = (1, 6) := hM.1 430 (by decide) (by decide)
  have s436 : w.1 436 = (1, 3) := hM.1 436 (by decide) (by decide)
  have s423 : w.1 423 = (1, 6) := hM.1 423 (by decide) (by decide)
  have s425 : w.1 425 = (3, 6) := hM.1 425 (by decide) (by decide)
  have p37 : w.2.2 400 37 = some 437 := hM.2 (400, 37, 437) (by decide)
  have p30 : w.2.2 400 30 = some 430 := hM.2 (400, 30, 430) (by decide)
  have p36 : w.2.2 400 36 = some 436 := hM.2 (400, 36, 436) (by decide)
  have p23 : w.2.2 400 23 = some 423 := hM.2 (400, 23, 423) (by decide)
  have p25 : w.2.2 400 25 = some 425 := hM.2 (400, 25, 425) (by decide)
  obtain ⟨hnp, hn6, hpp⟩ := id hP
  obtain ⟨hm, hm3, ho⟩ := id hO
  obtain ⟨hN0, hQ0, hb0⟩ := tk_ok (L := L) hL hG hN hP
  have hO0 : MO (tkW w L np) np m o := hO
  have hQm := dyF_ok hO0 hQ0 m (Nat.le_refl _)
  have loop2 : ∀ (d : Nat) (day : Int) (u : AW), day + d = most + 1 → 1 ≤ day → MS u → MN u → MQ2 u np → RB3 (gH u) → dtM L np share d day u = dsM w L np m o share most → GG Γ 83 [some (ar 400), some (ai (L : Int)), some (ai share), some (ai most), some (ai day)] [] u 0 0 := by
    intro d
    induction d with
    | zero =>
      intro day u hd h1 hMu hNu hQu hbu hrun
      have hrun2 : ((-2 : Int), u) = dsM w L np m o share most := hrun
      refine g_iload h dX12_daysBy_83 rfl ?_
      refine g_iload_n h dX12_daysBy_85 rfl ?_
      refine g_icmp_gt (tgt := 118) h dX12_daysBy_86 (by decide) (by first | assumption | exact ⟨by omega, by omega⟩) (by first | assumption | exact ⟨by omega, by omega⟩) (fun c86 => ?_) (fun c86 => ?_)
      · refine g_bipush h dX12_daysBy_118 rfl ?_
        refine g_iret h hQ (by first | decide | omega | (simp only [clS]; omega)) (by first | decide | omega | (simp only [clS]; omega)) ?_ dX12_daysBy_120
        rw [← hrun2]
        exact ⟨rfl, rfl⟩
      · exfalso; omega
    | succ d ih =>
      intro day u hd h1 hMu hNu hQu hbu hrun
      have hrun2 : (if mdB u L np = 1 then ((-2 : Int), mdW u L np) else if fhM (mdW u L np) L < share then (day, mdW u L np) else dtM L np share d (day + 1) (mdW u L np)) = dsM w L np m o share most := hrun
      have t400 : u.1 400 = (112, 0) := hMu.1 400 (by decide) (by decide)
      have h01 := mdB_01 u L np
      obtain ⟨hN2, hQ2, hb2⟩ := mdW_ok (L := L) hNu hL hQu hbu
      have hM2 := MS_of (mdW_1 u L np).1 (mdW_1 u L np).2 hMu
      have v400 : (mdW u L np).1 400 = (112, 0) := hM2.1 400 (by decide) (by decide)
      have hfb := fhM_bd (L := L) hb2
      refine g_iload h dX12_daysBy_83 rfl ?_
      refine g_iload_n h dX12_daysBy_85 rfl ?_
      refine g_icmp_gt (tgt := 118) h dX12_daysBy_86 (by decide) (by first | assumption | exact ⟨by omega, by omega⟩) (by first | assumption | exact ⟨by omega, by omega⟩) (fun c86 => ?_) (fun c86 => ?_)
      · exfalso; omega
      · refine g_aload_n h dX12_daysBy_89 rfl ?_
        refine g_iload_n h dX12_daysBy_90 rfl ?_
        refine g_callV h rfl (ci := 12) [_] (by assumption) (c_X12_aDay _ _ L np hMu hNu hL hQu hbu) clX12_268 (by decide) rfl in_X12_aDay se_X12_aDay rfl rfl (by rw [hRm]; first | decide | (simp only [clS]; omega)) (by rw [hRm]; first | decide | (simp only [clS]; omega)) (fun _ => Nat.le_of_ble_eq_true rfl) (by rw [hRm]; first | decide | (simp only [clS]; omega)) (by rw [hRm]; first | decide | (simp only [clS]; omega)) dX12_daysBy_91 (fun r91 w91 hp91 => ?_)
        obtain ⟨rfl, hw91⟩ := hp91
        rw [hw91]
        change GG Γ _ _ [ai (mdB u L np)] (mdW u L np) _ _
        refine g_if_eq (tgt := 100) h dX12_daysBy_94 (by decide) (by first | assumption | exact ⟨by omega, by omega⟩) (fun c94 => ?_) (fun c94 => ?_)
        · refine g_aload_n h dX12_daysBy_100 rfl ?_
          refine g_iload_n h dX12_daysBy_101 rfl ?_
          refine g_callV h rfl (ci := 12) [_] (by assumption) (c_X12_fullHere _ _ L hM2 hN2 hL (fun j hj => ⟨(hb2 j hj).1, (hb2 j hj).2.1⟩)) clX12_243 (by decide) rfl in_X12_fullHere se_X12_fullHere rfl rfl (by rw [hRm]; first | decide | (simp only [clS]; omega)) (by rw [hRm]; first | decide | (simp only [clS]; omega)) (fun _ => Nat.le_of_ble_eq_true rfl) (by rw [hRm]; first | decide | (simp only [clS]; omega)) (by rw [hRm]; first | decide | (simp only [clS]; omega)) dX12_daysBy_102 (fun r102 w102 hp102 => ?_)
          obtain ⟨rfl, hw102⟩ := hp102
          rw [hw102]
          change GG Γ _ _ (ai (fhM (mdW u L np) L) :: _) _ _ _
          refine g_iload_n h dX12_daysBy_105 rfl ?_
          refine g_icmp_ge (tgt := 112) h dX12_daysBy_106 (by decide) (by first | assumption | exact ⟨by omega, by omega⟩) (by first | assumption | exact ⟨by omega, by omega⟩) (fun c106 => ?_) (fun c106 => ?_)
          · refine g_iinc h dX12_daysBy_112 rfl (Nat.le_of_ble_eq_true rfl) rfl rfl ?_
            refine g_goto (tgt := 83) h dX12_daysBy_115 (by decide) ?_
            rw [if_neg (by omega), if_neg (by omega)] at hrun2
            exact ih (day + 1) _ (by omega) (by omega) hM2 hN2 hQ2 hb2 hrun2
          · refine g_iload h dX12_daysBy_109 rfl ?_
            refine g_iret h hQ (by first | decide | omega | (simp only [clS]; omega)) (by first | decide | omega | (simp only [clS]; omega)) ?_ dX12_daysBy_111
            first
            | (rw [if_pos (by omega)] at hrun2
               rw [← hrun2]
               exact ⟨rfl, rfl⟩)
            | (rw [if_neg (by omega), if_pos (by omega)] at hrun2
               rw [← hrun2]
               exact ⟨rfl, rfl⟩)
        · refine g_bipush h dX12_daysBy_97 rfl ?_
          refine g_iret h hQ (by first | decide | omega | (simp only [clS]; omega)) (by first | decide | omega | (simp only [clS]; omega)) ?_ dX12_daysBy_99
          first
          | (rw [if_pos (by omega)] at hrun2
             rw [← hrun2]
             exact ⟨rfl, rfl⟩)
          | (rw [if_neg (by omega), if_pos (by omega)] at hrun2
             rw [← hrun2]
             exact ⟨rfl, rfl⟩)
  have loop1 : ∀ (d k : Nat), k + d = m → GG Γ 8 [some (ar 400), some (ai (L : Int)), some (ai share), some (ai most), some (ai (k : Int))] [] (dyF (tkW w L np) o k) 0 0 := by
    intro d
    induction d with
    | zero =>
      intro k hk
      obtain rfl : k = m := by omega
      have hMk : MS (dyF (tkW w L np) o k) := MS_of (dyF_1 _ o k).1 (dyF_1 _ o k).2 (MS_of rfl rfl hM)
      have t400 : (dyF (tkW w L np) o k).1 400 = (112, 0) := hMk.1 400 (by decide) (by decide)
      have e39 : (dyF (tkW w L np) o k).2.1 400 39 = (k : Int) := (congrFun (dyF_o (tkW w L np) o (by decide) (by decide) k) 39).trans hm
      have eo := fun j h1 h2 => dyF_o (tkW w L np) o (j := j) h1 h2 k
      refine g_iload h dX12_daysBy_8 rfl ?_
      refine g_aload_n h dX12_daysBy_10 rfl ?_
      refine g_getI h flX12_295 rfl (by assumption) dX12_daysBy_11 ?_
      refine g_icmp_ge (tgt := 80) h dX12_daysBy_14 (by decide) (by first | assumption | exact ⟨by omega, by omega⟩) (by first | assumption | exact ⟨by omega, by omega⟩) (fun c14 => ?_) (fun c14 => ?_)
      · refine g_iconst h dX12_daysBy_80 ?_
        refine g_istore h dX12_daysBy_81 (Nat.le_of_ble_eq_true rfl) rfl rfl ?_
        exact loop2 most.toNat 1 _ (by omega) (by omega) hMk (MN_of (fun j a b => eo j (by omega) (by omega)) hN0) hQm (by
          have e420 := eo 420 (by decide) (by decide)
          have e421 := eo 421 (by decide) (by decide)
          have e422 := eo 422 (by decide) (by decide)
          show RB ((dyF (tkW w L np) o k).2.1 420) ((dyF (tkW w L np) o k).2.1 421) ((dyF (tkW w L np) o k).2.1 422)
          rw [e420, e421, e422]
          exact hb0) rfl
      · exfalso; omega
    | succ d ih =>
      intro k hk
      have hMk : MS (dyF (tkW w L np) o k) := MS_of (dyF_1 _ o k).1 (dyF_1 _ o k).2 (MS_of rfl rfl hM)
      have ts400 : (dyF (tkW w L np) o k).1 400 = (112, 0) := hMk.1 400 (by decide) (by decide)
      have ts437 : (dyF (tkW w L np) o k).1 437 = (1, 3) := hMk.1 437 (by decide) (by decide)
      have ts430 : (dyF (tkW w L np) o k).1 430 = (1, 6) := hMk.1 430 (by decide) (by decide)
      have ts436 : (dyF (tkW w L np) o k).1 436 = (1, 3) := hMk.1 436 (by decide) (by decide)
      have ts423 : (dyF (tkW w L np) o k).1 423 = (1, 6) := hMk.1 423 (by decide) (by decide)
      have ts425 : (dyF (tkW w L np) o k).1 425 = (3, 6) := hMk.1 425 (by decide) (by decide)
      have tp37 : (dyF (tkW w L np) o k).2.2 400 37 = some 437 := hMk.2 (400, 37, 437) (by decide)
      have tp30 : (dyF (tkW w L np) o k).2.2 400 30 = some 430 := hMk.2 (400, 30, 430) (by decide)
      have tp36 : (dyF (tkW w L np) o k).2.2 400 36 = some 436 := hMk.2 (400, 36, 436) (by decide)
      have tp23 : (dyF (tkW w L np) o k).2.2 400 23 = some 423 := hMk.2 (400, 23, 423) (by decide)
      have tp25 : (dyF (tkW w L np) o k).2.2 400 25 = some 425 := hMk.2 (400, 25, 425) (by decide)
      have e39 : (dyF (tkW w L np) o k).2.1 400 39 = (m : Int) := (congrFun (dyF_o (tkW w L np) o (by decide) (by decide) k) 39).trans hm
      have e437 : (dyF (tkW w L np) o k).2.1 437 k = w.2.1 437 k := congrFun (dyF_o (tkW w L np) o (by decide) (by decide) k) k
      have e436 : (dyF (tkW w L np) o k).2.1 436 k = w.2.1 436 k := congrFun (dyF_o (tkW w L np) o (by decide) (by decide) k) k
      have e430 : (dyF (tkW w L np) o k).2.1 430 (o k) = w.2.1 430 (o k) := congrFun (dyF_o (tkW w L np) o (by decide) (by decide) k) (o k)
      obtain ⟨o1, o2, o3, o4⟩ := ho k (by omega)
      obtain ⟨-, -, l0, l9, -⟩ := hpp (o k) o2
      have hst : dyF (tkW w L np) o (k + 1) = if w.2.1 437 k = w.2.1 430 (o k) then dyF (tkW w L np) o k else upI (upI (dyF (tkW w L np) o k) 423 (o k) (w.2.1 437 k)) 425 (o k) 1 := rfl
      have ih2 := ih (k + 1) (by omega)
      rw [hst] at ih2
      have f436 : (upI (dyF (tkW w L np) o k) 423 (o k) (w.2.1 437 k)).2.1 436 k = (dyF (tkW w L np) o k).2.1 436 k := rfl
      refine g_iload h dX12_daysBy_8 rfl ?_
      refine g_aload_n h dX12_daysBy_10 rfl ?_
      refine g_getI h flX12_295 rfl (by assumption) dX12_daysBy_11 ?_
      refine g_icmp_ge (tgt := 80) h dX12_daysBy_14 (by decide) (by first | assumption | exact ⟨by omega, by omega⟩) (by first | assumption | exact ⟨by omega, by omega⟩) (fun c14 => ?_) (fun c14 => ?_)
      · exfalso; omega
      · refine g_aload_n h dX12_daysBy_17 rfl ?_
        refine g_getQ h flX12_108 rfl (by assumption) (by assumption) dX12_daysBy_18 ?_
        refine g_iload h dX12_daysBy_21 rfl ?_
        refine g_iald h _ (by assumption) rfl (by first | omega | assumption) (by first | decide | omega) dX12_daysBy_23 ?_
        refine g_aload_n h dX12_daysBy_24 rfl ?_
        refine g_getQ h flX12_87 rfl (by assumption) (by assumption) dX12_daysBy_25 ?_
        refine g_aload_n h dX12_daysBy_28 rfl ?_
        refine g_getQ h flX12_105 rfl (by assumption) (by assumption) dX12_daysBy_29 ?_
        refine g_iload h dX12_daysBy_32 rfl ?_
        refine g_iald h _ (by assumption) rfl (by first | omega | assumption) (by first | decide | omega) dX12_daysBy_34 ?_
        refine g_iald h (o k) (by assumption) (by first | omega | assumption) (by first | omega | assumption) (by first | decide | omega) dX12_daysBy_35 ?_
        refine g_icmp_ne (tgt := 42) h dX12_daysBy_36 (by decide) (by first | assumption | exact ⟨by omega, by omega⟩) (by first | assumption | exact ⟨by omega, by omega⟩) (fun c36 => ?_) (fun c36 => ?_)
        · refine g_aload_n h dX12_daysBy_42 rfl ?_
          refine g_getQ h flX12_74 rfl (by assumption) (by assumption) dX12_daysBy_43 ?_
          refine g_aload_n h dX12_daysBy_46 rfl ?_
          refine g_getQ h flX12_105 rfl (by assumption) (by assumption) dX12_daysBy_47 ?_
          refine g_iload h dX12_daysBy_50 rfl ?_
          refine g_iald h _ (by assumption) rfl (by first | omega | assumption) (by first | decide | omega) dX12_daysBy_52 ?_
          refine g_aload_n h dX12_daysBy_53 rfl ?_
          refine g_getQ h flX12_108 rfl (by assumption) (by assumption) dX12_daysBy_54 ?_
          refine g_iload h dX12_daysBy_57 rfl ?_
          refine g_iald h _ (by assumption) rfl (by first | omega | assumption) (by first | decide | omega) dX12_daysBy_59 ?_
          rw [e437]
          refine g_iast h (o k) (by assumption) (by first | omega | assumption) (by first | omega | assumption) (by first | decide | omega) dX12_daysBy_60 ?_
          refine g_aload_n h dX12_daysBy_61 rfl ?_
          refine g_getQ h flX12_80 rfl (by assumption) (by assumption) dX12_daysBy_62 ?_
          refine g_aload_n h dX12_daysBy_65 rfl ?_
          refine g_getQ h flX12_105 rfl (by assumption) (by assumption) dX12_daysBy_66 ?_
          refine g_iload h dX12_daysBy_69 rfl ?_
          refine g_iald h _ (by assumption) rfl (by first | omega | assumption) (by first | decide | omega) dX12_daysBy_71 ?_
          refine g_iconst h dX12_daysBy_72 ?_
          refine g_zast h (o k) (by assumption) (by first | omega | assumption) (by first | omega | assumption) (by first | decide | omega) (by omega) dX12_daysBy_73 ?_
          refine g_iinc h dX12_daysBy_74 rfl (Nat.le_of_ble_eq_true rfl) rfl rfl ?_
          refine g_goto (tgt := 8) h dX12_daysBy_77 (by decide) ?_
          first
          | (rw [if_pos (by omega)] at ih2; exact ih2)
          | (rw [if_neg (by omega)] at ih2; exact ih2)
        · refine g_goto (tgt := 74) h dX12_daysBy_39 (by decide) ?_
          refine g_iinc h dX12_daysBy_74 rfl (Nat.le_of_ble_eq_true rfl) rfl rfl ?_
          refine g_goto (tgt := 8) h dX12_daysBy_77 (by decide) ?_
          first
          | (rw [if_pos (by omega)] at ih2; exact ih2)
          | (rw [if_neg (by omega)] at ih2; exact ih2)
  refine g_aload_n h dX12_daysBy_0 rfl ?_
  refine g_iload_n h dX12_daysBy_1 rfl ?_
  refine g_callV h rfl (ci := 12) [_] (by assumption) (c_X12_takes _ _ L np hM hL hP.1 hP.2.1 (fun p hp => (hP.2.2 p hp).2.2.2.2.2.2.2.2)) clX12_239 (by decide) rfl in_X12_takes se_X12_takes rfl rfl (by rw [hRm]; first | decide | (simp only [clS]; omega)) (by rw [hRm]; first | decide | (simp only [clS]; omega)) (fun _ => Nat.le_of_ble_eq_true rfl) (by rw [hRm]; first | decide | (simp only [clS]; omega)) (by rw [hRm]; first | decide | (simp only [clS]; omega)) dX12_daysBy_2 (fun r2 w2 hp2 => ?_)
  obtain ⟨rfl, hw2⟩ := hp2
  rw [hw2]
  refine g_iconst h dX12_daysBy_5 ?_
  refine g_istore h dX12_daysBy_6 (Nat.le_of_ble_eq_true rfl) rfl rfl ?_
  exact loop1 m 0 (by omega)
