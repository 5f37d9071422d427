/-! ===== M's reader: a term, a sum ===== -/
theorem pw6 {cx wt cm W : List Int} (h : pwF 6 cx wt = (cm, W)) : cx = cm ∧ wt = W := by
  rw [TB_pw (TB_6 wt)] at h
  cases h
  exact ⟨rfl, rfl⟩
def sN (s : XP) : XP := if s.1.1 = 3 then s else ((s.1.1, 0, 0), s.2)
theorem sN_2 (s : XP) : (sN s).2 = s.2 := by unfold sN; split <;> rfl
theorem xT_term {s : XP} {k v : Int} (h : s.1.1 = 3 ∨ (s.1.1 = 2 ∧ ¬ (k = 6 ∧ v = 33) ∧ ¬ (k = 3 ∧ v = 40))) : xT s k v = xTerm (sN s) k v := by
  unfold xT sN
  rcases h with h | ⟨h, h1, h2⟩
  · rw [if_neg (by omega), if_neg (by omega), if_neg (by omega), if_pos h, if_pos h]
  · rw [if_neg (by omega), if_neg (by omega), if_pos h, if_neg (by omega)]
    unfold xOne
    rw [if_neg h1, if_neg h2]
theorem xTerm_1 {s : XP} {k v : Int} (h : ¬ (k = 4 ∨ k = 7)) (h2 : k ≠ 2 ∧ k ≠ 5) : xTerm s k v = .inl 1 := by
  unfold xTerm
  rw [if_neg h, if_pos h2]
theorem xTerm_2 {s : XP} {k v : Int} (h : k = 4 ∨ k = 7) : xTerm s k v = .inl 2 := by
  unfold xTerm
  rw [if_pos h]
theorem xTerm_3 {s : XP} {k v : Int} (h : k = 2 ∨ k = 5) (h3 : s.2.1.2.1 + 1 > 30) : xTerm s k v = .inl 3 := by
  unfold xTerm
  rw [if_neg (by omega), if_neg (by omega), if_pos h3]
theorem xTerm_r {s : XP} {k v : Int} (h : k = 2 ∨ k = 5) (h3 : s.2.1.2.1 < 30) : xTerm s k v = .inr ((4, s.1.2.1, s.1.2.2), (s.2.1.1, s.2.1.2.1 + 1, s.2.1.2.2), (s.2.2.1 ++ [if k = 5 then 10000 + v else v], s.2.2.2)) := by
  unfold xTerm
  rw [if_neg (by omega), if_neg (by omega), if_neg (by omega)]
theorem tk_lt {T : Nat → Int} {n a : Nat} (hT : ∀ i, i < 300 → 0 ≤ T i ∧ T i < 256) (hn : n ≤ 300) (ha : a ≤ n) (h : (tokF T n (skF T n a)).1 ≠ 0) : skF T n a < n := by
  have hps : skF T n a ≤ n := by
    have := runF_bd isBb T (n - a) a
    unfold skF
    omega
  by_cases c : skF T n a < n
  · exact c
  · exact absurd ((tokF_bd (T := T) hT hn hps).2.2 (by omega)).1 h
theorem lf1 {k : Int} (h : 0 ≤ k) (a : ¬ srt k = 3) (b : ¬ srt k = 2) : ¬ (k = 4 ∨ k = 7) ∧ (k ≠ 2 ∧ k ≠ 5) := by
  rw [srt3] at a
  rw [srt2 h] at b
  omega
theorem lf2 {k : Int} (a : ¬ (if k = 6 then (1 : Int) else 0) = 0) : ¬ (k = 4 ∨ k = 7) ∧ (k ≠ 2 ∧ k ≠ 5) := by
  by_cases c : k = 6
  · omega
  · rw [if_neg c] at a
    exact absurd rfl a
theorem lf3 {k v : Int} (h : 0 ≤ k ∧ k ≤ 7) (a : (if k = 6 then (1 : Int) else 0) = 0) (b : srt k = 2) (c : (if k = 5 then v else -1) = -1) (hv : k = 5 → 0 ≤ v) : k = 4 ∨ k = 7 := by
  rw [srt2 h.1] at b
  by_cases c6 : k = 6
  · rw [if_pos c6] at a
    exact absurd a (by decide)
  · by_cases c5 : k = 5
    · rw [if_pos c5] at c
      have := hv c5
      omega
    · omega
theorem lf4 {k v : Int} (h : 0 ≤ k ∧ k ≤ 7) (a : (if k = 6 then (1 : Int) else 0) = 0) (b : srt k = 2) (c : ¬ (if k = 5 then v else -1) = -1) : k = 2 ∨ k = 5 := by
  by_cases c5 : k = 5
  · exact Or.inr c5
  · rw [if_neg c5] at c
    exact absurd rfl c
theorem lf5 {k : Int} (a : srt k = 3) (b : ¬ srt k = 2) : k = 2 ∨ k = 5 := Or.inl (srt3.1 a)
theorem lf6 {k : Int} (a : k = 2 ∨ k = 5) (b : ¬ srt k = 3) : k = 5 := by
  rw [srt3] at b
  omega
set_option maxRecDepth 100000 in
set_option maxHeartbeats 4000000 in
theorem c_X12_readTerm (l : Launch) (w : AW) (T : Nat → Int) (n P nr : Nat) (R : (Int × Nat) ⊕ XP) (W : List Int) (D a : Nat) (s : XP) (cm : List Int) (hZ : RZ w T n P nr R W 6 D a s cm) (hst : s.1.1 = 3 ∨ (s.1.1 = 2 ∧ ¬ ((tokF T n (skF T n a)).1 = 6 ∧ (tokF T n (skF T n a)).2.1 = 33) ∧ ¬ ((tokF T n (skF T n a)).1 = 3 ∧ (tokF T n (skF T n a)).2.1 = 40))) : HTX l yX12_readTerm cX12_readTerm 1 none 9 0 0 w [ar 400] (fun r w' => r = none ∧ MY P w w' ∧ ∃ (D' a' : Nat) (s' : XP) (cm' : List Int), RZ w' T n P nr R W 6 D' a' s' cm' ∧ D' < D ∧ s'.1 = (4, (sN s).1.2) ∧ s'.2.1.1 = s.2.1.1 ∧ s'.2.1.2.2 = s.2.1.2.2) (TH P w R) := by
  refine HTX.of (by decide) (by intro v hv; simp only [List.mem_cons, List.not_mem_nil, or_false] at hv; rcases hv with rfl <;> rfl) (Nat.le_of_ble_eq_true rfl) ?_
  intro Γ h hQ hRm hnm hl hw0
  obtain ⟨z1, zQ, z3, z4, z5, z6, z7, za⟩ := id hZ
  have hP4 := zQ.2.2.1.2.2.2
  have h54 := zQ.2.2.2.2.1
  have h55 := zQ.2.2.2.2.2
  have hM := zQ.1.1
  have hn3 := zQ.1.2.2.1
  have m1 : w.1 P = (110, 0) := zQ.2.2.2.1.1
  have hps : skF T n a ≤ n := by
    have := runF_bd isBb T (n - a) a
    unfold skF
    omega
  obtain ⟨k, hk⟩ : ∃ k, (tokF T n (skF T n a)).1 = k := ⟨_, rfl⟩
  obtain ⟨v, hv⟩ : ∃ v, (tokF T n (skF T n a)).2.1 = v := ⟨_, rfl⟩
  obtain ⟨hS, bk, -, g51, -, -, -, r56, -, rv, -⟩ := RQ_TF za zQ hk hv
  have rS := srt_R k
  have hlt : k ≠ 0 → skF T n a < n := fun q => tk_lt zQ.1.2.2.2.2 hn3 za (by rw [hk]; exact q)
  have s445 : w.1 445 = (111, 0) := hM.1 445 (by decide) (by decide)
  rw [hk, hv] at hst
  have hxT := xT_term hst
  have hs23 : s.1.1 ≠ 6 := by clear z7 z6 z5 z4 bk; omega
  have hk4 := srt3 (k := k)
  have hk5 := srt2 bk.1
  clear hst
  have hs2 := sN_2 s
  have hnb : (if k = 5 then v else -1) = v ∧ k = 5 ∨ (if k = 5 then v else -1) = -1 ∧ k ≠ 5 := by
    by_cases c : k = 5
    · rw [if_pos c]; exact Or.inl ⟨rfl, c⟩
    · rw [if_neg c]; exact Or.inr ⟨rfl, c⟩
  have h5v := (RQ_TF za zQ hk hv).2.2.2.2.2.1
  have hnr : R32 (if k = 5 then v else -1) := ⟨by omega, by omega⟩
  have htm : R32 (w.2.1 400 55) := ⟨by omega, by omega⟩
  have u5 := ite01 (k = 6)
  clear hk4 hk5 h5v hnb
  have s400 : w.1 400 = (112, 0) := hM.1 400 (by decide) (by decide)
  have t51 : (k = 2 ∨ k = 5) → GG Γ 51 [some (ar 400)] [] w 0 0 := by
    intro hkk
    refine g_aload_n h dX12_readTerm_51 rfl ?_
    refine g_getI h flX12_388 rfl (by assumption) dX12_readTerm_52 ?_
    refine g_bipush h dX12_readTerm_55 rfl ?_
    refine g_icmp_ne (tgt := 66) h dX12_readTerm_57 (by decide) (by first | assumption | exact ⟨by omega, by omega⟩) (by first | assumption | exact ⟨by omega, by omega⟩) (fun c57 => ?_) (fun c57 => ?_)
    · refine g_aload_n h dX12_readTerm_66 rfl ?_
      refine g_dup h dX12_readTerm_67 rfl ?_
      refine g_getI h flX12_388 rfl (by assumption) dX12_readTerm_68 ?_
      refine g_iconst h dX12_readTerm_71 ?_
      refine g_iadd h dX12_readTerm_72 ?_
      refine g_putI h flX12_388 rfl rfl (by assumption) dX12_readTerm_73 ?_
      have htl : s.2.1.2.1 < 30 := by omega
      rw [h55]
      have hQ1 := RQ_55 (s.2.1.2.1 + 1) zQ
      have hM1 := hQ1.1.1
      have hMY1 : MY P w (upI w 400 55 (s.2.1.2.1 + 1)) := MY_f _ _ hP4 (by decide)
      obtain ⟨hS1, -, y53, -, -, h5v, h2v, -, -, -, -⟩ := RQ_TF za hQ1 hk hv
      have hs1 : (upI w 400 55 (s.2.1.2.1 + 1)).1 400 = (112, 0) := s400
      have m11 : (upI w 400 55 (s.2.1.2.1 + 1)).1 P = (110, 0) := m1
      have fin : ∀ (sg0 vl c : Int), okIt sg0 vl c → c = (if k = 5 then 10000 + v else v) → GG Γ 112 [some (ar 400)] [ai vl, ai sg0, ar P] (upI w 400 55 (s.2.1.2.1 + 1)) 0 0 := by
        intro sg0 vl c hok hc
        have hl3 := hlt (by clear z5 z6 z7; omega)
        have hQp := RQ_pu hQ1 (by omega) hok
        have t400 : (puW (upI w 400 55 (s.2.1.2.1 + 1)) P cm.length sg0 vl).1 400 = (112, 0) := s400
        refine g_callV h rfl (ci := 10) [_, _] (by assumption) (t_put _ hQ1 _ _ (by omega)) clX12_417 (by decide) rfl in_X10_put se_X10_put rfl rfl (by rw [hRm]; first | decide | (simp only [clS]; omega)) (by rw [hRm]; first | decide | (simp only [clS]; omega)) (fun _ => Nat.le_of_ble_eq_true rfl) (by rw [hRm]; first | decide | (simp only [clS]; omega)) (by rw [hRm]; first | decide | (simp only [clS]; omega)) dX12_readTerm_112 (fun r112 w112 hp112 => ?_)
        obtain ⟨rfl, hw112⟩ := hp112
        rw [hw112]
        refine g_aload_n h dX12_readTerm_115 rfl ?_
        refine g_callV h rfl (ci := 12) [] (by assumption) (t_next _ za hQp (by rw [hk]; omega)) clX12_391 (by decide) rfl in_X12_next se_X12_next rfl rfl (by rw [hRm]; first | decide | (simp only [clS]; omega)) (by rw [hRm]; first | decide | (simp only [clS]; omega)) (fun _ => Nat.le_of_ble_eq_true rfl) (by rw [hRm]; first | decide | (simp only [clS]; omega)) (by rw [hRm]; first | decide | (simp only [clS]; omega)) dX12_readTerm_116 (fun r116 w116 hp116 => ?_)
        obtain ⟨rfl, hx, ht⟩ := hp116
        refine g_xret hQ h hRm fun Γ h hQ hRm => ?_
        refine g_vret h hQ (by first | decide | omega | (simp only [clS]; omega)) (by first | decide | omega | (simp only [clS]; omega)) ?_ dX12_readTerm_119
        refine ⟨rfl, MY_tr hMY1 (MY_tr (MY_pu _ _ _ _ hP4) (MY_X hP4 hx)), ?_⟩
        have hq2 := RQ_next hQp hx ht
        obtain ⟨c1, c2⟩ := pw6 z3
        have hto := RZ_to (b' := 6) (W' := W) hZ hs23 (by rw [hk]; omega) (by rw [hk, hv, hxT]; exact xTerm_r hkk (by rw [hs2]; exact htl)) hq2 (by rw [hs2]) (by rw [hs2]) (by rw [hs2, ← hc]; show pwF 6 (s.2.2.1 ++ [c]) s.2.2.2 = _; rw [c1, c2]; exact TB_pw (TB_6 W) _) (by rw [List.length_append]; show cm.length + 1 + W.length ≤ _; omega) z6 ⟨by omega, by omega⟩
        exact ⟨_, _, _, _, hto.1, hto.2, rfl, by rw [hs2], by rw [hs2]⟩
      refine g_aload_n h dX12_readTerm_76 rfl ?_
      refine g_callV h rfl (ci := 12) [] (by assumption) (t_fresh _ hQ1) clX12_378 (by decide) rfl in_X12_fresh se_X12_fresh rfl rfl (by rw [hRm]; first | decide | (simp only [clS]; omega)) (by rw [hRm]; first | decide | (simp only [clS]; omega)) (fun _ => Nat.le_of_ble_eq_true rfl) (by rw [hRm]; first | decide | (simp only [clS]; omega)) (by rw [hRm]; first | decide | (simp only [clS]; omega)) dX12_readTerm_77 (fun r77 w77 hp77 => ?_)
      obtain ⟨rfl, hw77⟩ := hp77
      rw [hw77]
      refine g_aload_n h dX12_readTerm_80 rfl ?_
      refine g_getI h flX12_343 rfl (by assumption) dX12_readTerm_81 ?_
      rw [hS1]
      refine g_iconst h dX12_readTerm_84 ?_
      refine g_icmp_ne (tgt := 92) h dX12_readTerm_85 (by decide) (by first | assumption | exact ⟨by omega, by omega⟩) (by first | assumption | exact ⟨by omega, by omega⟩) (fun c85 => ?_) (fun c85 => ?_)
      · refine g_iconst h dX12_readTerm_92 ?_
        refine g_aload_n h dX12_readTerm_93 rfl ?_
        refine g_getI h flX12_343 rfl (by assumption) dX12_readTerm_94 ?_
        rw [hS1]
        refine g_iconst h dX12_readTerm_97 ?_
        refine g_icmp_ne (tgt := 108) h dX12_readTerm_98 (by decide) (by first | assumption | exact ⟨by omega, by omega⟩) (by first | assumption | exact ⟨by omega, by omega⟩) (fun c98 => ?_) (fun c98 => ?_)
        · refine g_aload_n h dX12_readTerm_108 rfl ?_
          refine g_callV h rfl (ci := 12) [] (by assumption) (t_nameHere _ za hQ1 hk hv) clX12_450 (by decide) rfl in_X12_nameHere se_X12_nameHere rfl rfl (by rw [hRm]; first | decide | (simp only [clS]; omega)) (by rw [hRm]; first | decide | (simp only [clS]; omega)) (fun _ => Nat.le_of_ble_eq_true rfl) (by rw [hRm]; first | decide | (simp only [clS]; omega)) (by rw [hRm]; first | decide | (simp only [clS]; omega)) dX12_readTerm_109 (fun r109 w109 hp109 => ?_)
          obtain ⟨rfl, hw109⟩ := hp109
          rw [hw109]
          first
          | (have hk2 : k = 2 := srt3.1 (by assumption)
             exact fin 0 v v (Or.inl ⟨rfl, rfl, by omega, by omega⟩) (if_neg (by omega)).symm)
          | (have hk5 : k = 5 := lf6 hkk (by assumption)
             rw [if_pos hk5]
             exact fin 1 v (10000 + v) (Or.inr (Or.inl ⟨rfl, rfl, by omega, by omega⟩)) (if_pos hk5).symm)
          | exact absurd (show srt k = 3 by assumption) (by assumption)
        · refine g_aload_n h dX12_readTerm_101 rfl ?_
          refine g_getI h flX12_359 rfl (by assumption) dX12_readTerm_102 ?_
          rw [y53 (srt3.1 (by assumption))]
          refine g_goto (tgt := 112) h dX12_readTerm_105 (by decide) ?_
          first
          | (have hk2 : k = 2 := srt3.1 (by assumption)
             exact fin 0 v v (Or.inl ⟨rfl, rfl, by omega, by omega⟩) (if_neg (by omega)).symm)
          | (have hk5 : k = 5 := lf6 hkk (by assumption)
             rw [if_pos hk5]
             exact fin 1 v (10000 + v) (Or.inr (Or.inl ⟨rfl, rfl, by omega, by omega⟩)) (if_pos hk5).symm)
          | exact absurd (show srt k = 3 by assumption) (by assumption)
      · refine g_iconst h dX12_readTerm_88 ?_
        refine g_goto (tgt := 93) h dX12_readTerm_89 (by decide) ?_
        refine g_aload_n h dX12_readTerm_93 rfl ?_
        refine g_getI h flX12_343 rfl (by assumption) dX12_readTerm_94 ?_
        rw [hS1]
        refine g_iconst h dX12_readTerm_97 ?_
        refine g_icmp_ne (tgt := 108) h dX12_readTerm_98 (by decide) (by first | assumption | exact ⟨by omega, by omega⟩) (by first | assumption | exact ⟨by omega, by omega⟩) (fun c98 => ?_) (fun c98 => ?_)
        · refine g_aload_n h dX12_readTerm_108 rfl ?_
          refine g_callV h rfl (ci := 12) [] (by assumption) (t_nameHere _ za hQ1 hk hv) clX12_450 (by decide) rfl in_X12_nameHere se_X12_nameHere rfl rfl (by rw [hRm]; first | decide | (simp only [clS]; omega)) (by rw [hRm]; first | decide | (simp only [clS]; omega)) (fun _ => Nat.le_of_ble_eq_true rfl) (by rw [hRm]; first | decide | (simp only [clS]; omega)) (by rw [hRm]; first | decide | (simp only [clS]; omega)) dX12_readTerm_109 (fun r109 w109 hp109 => ?_)
          obtain ⟨rfl, hw109⟩ := hp109
          rw [hw109]
          first
          | (have hk2 : k = 2 := srt3.1 (by assumption)
             exact fin 0 v v (Or.inl ⟨rfl, rfl, by omega, by omega⟩) (if_neg (by omega)).symm)
          | (have hk5 : k = 5 := lf6 hkk (by assumption)
             rw [if_pos hk5]
             exact fin 1 v (10000 + v) (Or.inr (Or.inl ⟨rfl, rfl, by omega, by omega⟩)) (if_pos hk5).symm)
          | exact absurd (show srt k = 3 by assumption) (by assumption)
        · refine g_aload_n h dX12_readTerm_101 rfl ?_
          refine g_getI h flX12_359 rfl (by assumption) dX12_readTerm_102 ?_
          rw [y53 (srt3.1 (by assumption))]
          refine g_goto (tgt := 112) h dX12_readTerm_105 (by decide) ?_
          first
          | (have hk2 : k = 2 := srt3.1 (by assumption)
             exact fin 0 v v (Or.inl ⟨rfl, rfl, by omega, by omega⟩) (if_neg (by omega)).symm)
          | (have hk5 : k = 5 := lf6 hkk (by assumption)
             rw [if_pos hk5]
             exact fin 1 v (10000 + v) (Or.inr (Or.inl ⟨rfl, rfl, by omega, by omega⟩)) (if_pos hk5).symm)
          | exact absurd (show srt k = 3 by assumption) (by assumption)
    · refine g_aload_n h dX12_readTerm_60 rfl ?_
      refine g_iconst h dX12_readTerm_61 ?_
      refine g_callV h rfl (ci := 12) [_] (by assumption) (c_X12_stop _ _ _ hM) clX12_397 (by decide) rfl in_X12_stop se_X12_stop rfl rfl (by rw [hRm]; first | decide | (simp only [clS]; omega)) (by rw [hRm]; first | decide | (simp only [clS]; omega)) (fun _ => Nat.le_of_ble_eq_true rfl) (by rw [hRm]; first | decide | (simp only [clS]; omega)) (by rw [hRm]; first | decide | (simp only [clS]; omega)) dX12_readTerm_62 (fun r62 w62 hp62 => ?_)
      obtain ⟨rfl, hw62⟩ := hp62
      rw [hw62]
      refine g_athrow h (ci := 11) s445 (by decide) dX12_readTerm_65 ?_
      refine g_xout hQ (by decide) (by decide) (TH_stop hP4 (MY_rfl _ _) g51 r56 (RZ_bad hZ hs23 (by rw [hk, hv]; rw [hxT]; exact xTerm_3 hkk (by rw [hs2]; omega))))
  refine g_aload_n h dX12_readTerm_0 rfl ?_
  refine g_getI h flX12_343 rfl (by assumption) dX12_readTerm_1 ?_
  rw [hS]
  refine g_iconst h dX12_readTerm_4 ?_
  refine g_icmp_eq (tgt := 16) h dX12_readTerm_5 (by decide) (by first | assumption | exact ⟨by omega, by omega⟩) (by first | assumption | exact ⟨by omega, by omega⟩) (fun c5 => ?_) (fun c5 => ?_)
  · refine g_aload_n h dX12_readTerm_16 rfl ?_
    refine g_callV h rfl (ci := 12) [] (by assumption) (t_isKept _ za zQ hk hv) clX12_394 (by decide) rfl in_X12_isKept se_X12_isKept rfl rfl (by rw [hRm]; first | decide | (simp only [clS]; omega)) (by rw [hRm]; first | decide | (simp only [clS]; omega)) (fun _ => Nat.le_of_ble_eq_true rfl) (by rw [hRm]; first | decide | (simp only [clS]; omega)) (by rw [hRm]; first | decide | (simp only [clS]; omega)) dX12_readTerm_17 (fun r17 w17 hp17 => ?_)
    obtain ⟨rfl, hw17⟩ := hp17
    rw [hw17]
    refine g_if_eq (tgt := 29) h dX12_readTerm_20 (by decide) (by first | assumption | exact ⟨by omega, by omega⟩) (fun c20 => ?_) (fun c20 => ?_)
    · refine g_aload_n h dX12_readTerm_29 rfl ?_
      refine g_getI h flX12_343 rfl (by assumption) dX12_readTerm_30 ?_
      rw [hS]
      refine g_iconst h dX12_readTerm_33 ?_
      refine g_icmp_ne (tgt := 51) h dX12_readTerm_34 (by decide) (by first | assumption | exact ⟨by omega, by omega⟩) (by first | assumption | exact ⟨by omega, by omega⟩) (fun c34 => ?_) (fun c34 => ?_)
      · first
        | exact t51 (Or.inl (srt3.1 (by assumption)))
        | exact t51 (lf4 bk (by assumption) (by assumption) (by assumption))
        | exact t51 (lf5 (by assumption) (by assumption))
        | exact absurd (show srt k = 2 by assumption) (by assumption)
      · refine g_aload_n h dX12_readTerm_37 rfl ?_
        refine g_callV h rfl (ci := 12) [] (by assumption) (t_nameHere _ za zQ hk hv) clX12_450 (by decide) rfl in_X12_nameHere se_X12_nameHere rfl rfl (by rw [hRm]; first | decide | (simp only [clS]; omega)) (by rw [hRm]; first | decide | (simp only [clS]; omega)) (fun _ => Nat.le_of_ble_eq_true rfl) (by rw [hRm]; first | decide | (simp only [clS]; omega)) (by rw [hRm]; first | decide | (simp only [clS]; omega)) dX12_readTerm_38 (fun r38 w38 hp38 => ?_)
        obtain ⟨rfl, hw38⟩ := hp38
        rw [hw38]
        refine g_iconst h dX12_readTerm_41 ?_
        refine g_icmp_ne (tgt := 51) h dX12_readTerm_42 (by decide) (by first | assumption | exact ⟨by omega, by omega⟩) (by first | assumption | exact ⟨by omega, by omega⟩) (fun c42 => ?_) (fun c42 => ?_)
        · first
          | exact t51 (Or.inl (srt3.1 (by assumption)))
          | exact t51 (lf4 bk (by assumption) (by assumption) (by assumption))
          | exact t51 (lf5 (by assumption) (by assumption))
          | exact absurd (show srt k = 2 by assumption) (by assumption)
        · refine g_aload_n h dX12_readTerm_45 rfl ?_
          refine g_iconst h dX12_readTerm_46 ?_
          refine g_callV h rfl (ci := 12) [_] (by assumption) (c_X12_stop _ _ _ hM) clX12_397 (by decide) rfl in_X12_stop se_X12_stop rfl rfl (by rw [hRm]; first | decide | (simp only [clS]; omega)) (by rw [hRm]; first | decide | (simp only [clS]; omega)) (fun _ => Nat.le_of_ble_eq_true rfl) (by rw [hRm]; first | decide | (simp only [clS]; omega)) (by rw [hRm]; first | decide | (simp only [clS]; omega)) dX12_readTerm_47 (fun r47 w47 hp47 => ?_)
          obtain ⟨rfl, hw47⟩ := hp47
          rw [hw47]
          have hf : k = 4 ∨ k = 7 := lf3 bk (by assumption) (by assumption) (by assumption) (fun q => ((RQ_TF za zQ hk hv).2.2.2.2.2.1 q).1)
          refine g_athrow h (ci := 11) s445 (by decide) dX12_readTerm_50 ?_
          refine g_xout hQ (by decide) (by decide) (TH_stop hP4 (MY_rfl _ _) g51 r56 (RZ_bad hZ hs23 (by rw [hk, hv]; rw [hxT]; exact xTerm_2 hf)))
    · refine g_aload_n h dX12_readTerm_23 rfl ?_
      refine g_iconst h dX12_readTerm_24 ?_
      refine g_callV h rfl (ci := 12) [_] (by assumption) (c_X12_stop _ _ _ hM) clX12_397 (by decide) rfl in_X12_stop se_X12_stop rfl rfl (by rw [hRm]; first | decide | (simp only [clS]; omega)) (by rw [hRm]; first | decide | (simp only [clS]; omega)) (fun _ => Nat.le_of_ble_eq_true rfl) (by rw [hRm]; first | decide | (simp only [clS]; omega)) (by rw [hRm]; first | decide | (simp only [clS]; omega)) dX12_readTerm_25 (fun r25 w25 hp25 => ?_)
      obtain ⟨rfl, hw25⟩ := hp25
      rw [hw25]
      have hf : ¬ (k = 4 ∨ k = 7) ∧ (k ≠ 2 ∧ k ≠ 5) := by
        first
        | exact lf1 bk.1 (by assumption) (by assumption)
        | exact lf2 (by assumption)
      refine g_athrow h (ci := 11) s445 (by decide) dX12_readTerm_28 ?_
      refine g_xout hQ (by decide) (by decide) (TH_stop hP4 (MY_rfl _ _) g51 r56 (RZ_bad hZ hs23 (by rw [hk, hv]; rw [hxT]; exact xTerm_1 hf.1 hf.2)))
  · refine g_aload_n h dX12_readTerm_8 rfl ?_
    refine g_getI h flX12_343 rfl (by assumption) dX12_readTerm_9 ?_
    rw [hS]
    refine g_iconst h dX12_readTerm_12 ?_
    refine g_icmp_ne (tgt := 23) h dX12_readTerm_13 (by decide) (by first | assumption | exact ⟨by omega, by omega⟩) (by first | assumption | exact ⟨by omega, by omega⟩) (fun c13 => ?_) (fun c13 => ?_)
    · refine g_aload_n h dX12_readTerm_23 rfl ?_
      refine g_iconst h dX12_readTerm_24 ?_
      refine g_callV h rfl (ci := 12) [_] (by assumption) (c_X12_stop _ _ _ hM) clX12_397 (by decide) rfl in_X12_stop se_X12_stop rfl rfl (by rw [hRm]; first | decide | (simp only [clS]; omega)) (by rw [hRm]; first | decide | (simp only [clS]; omega)) (fun _ => Nat.le_of_ble_eq_true rfl) (by rw [hRm]; first | decide | (simp only [clS]; omega)) (by rw [hRm]; first | decide | (simp only [clS]; omega)) dX12_readTerm_25 (fun r25 w25 hp25 => ?_)
      obtain ⟨rfl, hw25⟩ := hp25
      rw [hw25]
      have hf : ¬ (k = 4 ∨ k = 7) ∧ (k ≠ 2 ∧ k ≠ 5) := by
        first
        | exact lf1 bk.1 (by assumption) (by assumption)
        | exact lf2 (by assumption)
      refine g_athrow h (ci := 11) s445 (by decide) dX12_readTerm_28 ?_
      refine g_xout hQ (by decide) (by decide) (TH_stop hP4 (MY_rfl _ _) g51 r56 (RZ_bad hZ hs23 (by rw [hk, hv]; rw [hxT]; exact xTerm_1 hf.1 hf.2)))
    · refine g_aload_n h dX12_readTerm_16 rfl ?_
      refine g_callV h rfl (ci := 12) [] (by assumption) (t_isKept _ za zQ hk hv) clX12_394 (by decide) rfl in_X12_isKept se_X12_isKept rfl rfl (by rw [hRm]; first | decide | (simp only [clS]; omega)) (by rw [hRm]; first | decide | (simp only [clS]; omega)) (fun _ => Nat.le_of_ble_eq_true rfl) (by rw [hRm]; first | decide | (simp only [clS]; omega)) (by rw [hRm]; first | decide | (simp only [clS]; omega)) dX12_readTerm_17 (fun r17 w17 hp17 => ?_)
      obtain ⟨rfl, hw17⟩ := hp17
      rw [hw17]
      refine g_if_eq (tgt := 29) h dX12_readTerm_20 (by decide) (by first | assumption | exact ⟨by omega, by omega⟩) (fun c20 => ?_) (fun c20 => ?_)
      · refine g_aload_n h dX12_readTerm_29 rfl ?_
        refine g_getI h flX12_343 rfl (by assumption) dX12_readTerm_30 ?_
        rw [hS]
        refine g_iconst h dX12_readTerm_33 ?_
        refine g_icmp_ne (tgt := 51) h dX12_readTerm_34 (by decide) (by first | assumption | exact ⟨by omega, by omega⟩) (by first | assumption | exact ⟨by omega, by omega⟩) (fun c34 => ?_) (fun c34 => ?_)
        · first
          | exact t51 (Or.inl (srt3.1 (by assumption)))
          | exact t51 (lf4 bk (by assumption) (by assumption) (by assumption))
          | exact t51 (lf5 (by assumption) (by assumption))
          | exact absurd (show srt k = 2 by assumption) (by assumption)
        · refine g_aload_n h dX12_readTerm_37 rfl ?_
          refine g_callV h rfl (ci := 12) [] (by assumption) (t_nameHere _ za zQ hk hv) clX12_450 (by decide) rfl in_X12_nameHere se_X12_nameHere rfl rfl (by rw [hRm]; first | decide | (simp only [clS]; omega)) (by rw [hRm]; first | decide | (simp only [clS]; omega)) (fun _ => Nat.le_of_ble_eq_true rfl) (by rw [hRm]; first | decide | (simp only [clS]; omega)) (by rw [hRm]; first | decide | (simp only [clS]; omega)) dX12_readTerm_38 (fun r38 w38 hp38 => ?_)
          obtain ⟨rfl, hw38⟩ := hp38
          rw [hw38]
          refine g_iconst h dX12_readTerm_41 ?_
          refine g_icmp_ne (tgt := 51) h dX12_readTerm_42 (by decide) (by first | assumption | exact ⟨by omega, by omega⟩) (by first | assumption | exact ⟨by omega, by omega⟩) (fun c42 => ?_) (fun c42 => ?_)
          · first
            | exact t51 (Or.inl (srt3.1 (by assumption)))
            | exact t51 (lf4 bk (by assumption) (by assumption) (by assumption))
            | exact t51 (lf5 (by assumption) (by assumption))
            | exact absurd (show srt k = 2 by assumption) (by assumption)
          · refine g_aload_n h dX12_readTerm_45 rfl ?_
            refine g_iconst h dX12_readTerm_46 ?_
            refine g_callV h rfl (ci := 12) [_] (by assumption) (c_X12_stop _ _ _ hM) clX12_397 (by decide) rfl in_X12_stop se_X12_stop rfl rfl (by rw [hRm]; first | decide | (simp only [clS]; omega)) (by rw [hRm]; first | decide | (simp only [clS]; omega)) (fun _ => Nat.le_of_ble_eq_true rfl) (by rw [hRm]; first | decide | (simp only [clS]; omega)) (by rw [hRm]; first | decide | (simp only [clS]; omega)) dX12_readTerm_47 (fun r47 w47 hp47 => ?_)
            obtain ⟨rfl, hw47⟩ := hp47
            rw [hw47]
            have hf : k = 4 ∨ k = 7 := lf3 bk (by assumption) (by assumption) (by assumption) (fun q => ((RQ_TF za zQ hk hv).2.2.2.2.2.1 q).1)
            refine g_athrow h (ci := 11) s445 (by decide) dX12_readTerm_50 ?_
            refine g_xout hQ (by decide) (by decide) (TH_stop hP4 (MY_rfl _ _) g51 r56 (RZ_bad hZ hs23 (by rw [hk, hv]; rw [hxT]; exact xTerm_2 hf)))
      · refine g_aload_n h dX12_readTerm_23 rfl ?_
        refine g_iconst h dX12_readTerm_24 ?_
        refine g_callV h rfl (ci := 12) [_] (by assumption) (c_X12_stop _ _ _ hM) clX12_397 (by decide) rfl in_X12_stop se_X12_stop rfl rfl (by rw [hRm]; first | decide | (simp only [clS]; omega)) (by rw [hRm]; first | decide | (simp only [clS]; omega)) (fun _ => Nat.le_of_ble_eq_true rfl) (by rw [hRm]; first | decide | (simp only [clS]; omega)) (by rw [hRm]; first | decide | (simp only [clS]; omega)) dX12_readTerm_25 (fun r25 w25 hp25 => ?_)
        obtain ⟨rfl, hw25⟩ := hp25
        rw [hw25]
        have hf : ¬ (k = 4 ∨ k = 7) ∧ (k ≠ 2 ∧ k ≠ 5) := by
          first
          | exact lf1 bk.1 (by assumption) (by assumption)
          | exact lf2 (by assumption)
        refine g_athrow h (ci := 11) s445 (by decide) dX12_readTerm_28 ?_
        refine g_xout hQ (by decide) (by decide) (TH_stop hP4 (MY_rfl _ _) g51 r56 (RZ_bad hZ hs23 (by rw [hk, hv]; rw [hxT]; exact xTerm_1 hf.1 hf.2)))
