/-! ===== Strings: a reading, a sounding ===== -/
def arW (w : AW) (rn : Nat) (st day gas : Int) : AW := sR (sR (sR (sR w 29 (uI (w.2.1 29) rn st)) 30 (uI (w.2.1 30) rn day)) 31 (uI (w.2.1 31) rn gas)) 28 (uI (w.2.1 28) 3 (rn + 1))
def adF (w : AW) (st day gas : Int) (n : Nat) : Nat → Int := fun j => if j < n ∧ w.2.1 32 j = st ∧ w.2.1 33 j = day then w.2.1 34 j - gas else w.2.1 35 j
def rdW (w : AW) (rn sn : Nat) (st day gas : Int) : AW := sR (arW w rn st day gas) 35 (adF w st day gas sn)
theorem arW_28 (w : AW) (rn : Nat) (st day gas : Int) : (arW w rn st day gas).2.1 28 = uI (w.2.1 28) 3 (rn + 1) := by unfold arW; rw [sR_at]
theorem arW_o (w : AW) (rn : Nat) (st day gas : Int) {j : Nat} (h1 : j ≠ 28) (h2 : j ≠ 29) (h3 : j ≠ 30) (h4 : j ≠ 31) : (arW w rn st day gas).2.1 j = w.2.1 j := by unfold arW; rw [sR_ne _ _ h1, sR_ne _ _ h4, sR_ne _ _ h3, sR_ne _ _ h2]
set_option maxRecDepth 100000 in
set_option maxHeartbeats 4000000 in
theorem c_X7_addReading (l : Launch) (w : AW) (rn sn : Nat) (st day gas : Int) (hX : XS w) (hS : SI w rn sn) (hst : R32 st) (hd : R32 day) (hg : R32 gas) : HT l yX7_addReading cX7_addReading 5 (some .boolean) 1 0 0 w [ar 28, ai st, ai day, ai gas] (fun r w' => (rn < 300 ∧ r = some (ai 1) ∧ w' = rdW w rn sn st day gas) ∨ (300 ≤ rn ∧ r = some (ai 0) ∧ w' = w)) := by
  refine HT.of (by decide) (by intro v hv; simp only [List.mem_cons, List.not_mem_nil, or_false] at hv; rcases hv with rfl | rfl | rfl | rfl <;> rfl) (Nat.le_of_ble_eq_true rfl) ?_
  intro Γ h hQ hRm hnm hl hw0
  have s28 : w.1 28 = (107, 0) := hX.1 28 (by decide)
  have s29 : w.1 29 = (1, 300) := hX.1 29 (by decide)
  have s30 : w.1 30 = (1, 300) := hX.1 30 (by decide)
  have s31 : w.1 31 = (1, 300) := hX.1 31 (by decide)
  have s32 : w.1 32 = (1, 60) := hX.1 32 (by decide)
  have s33 : w.1 33 = (1, 60) := hX.1 33 (by decide)
  have s35 : w.1 35 = (1, 60) := hX.1 35 (by decide)
  have s34 : w.1 34 = (1, 60) := hX.1 34 (by decide)
  have p28_0 : w.2.2 28 0 = some 29 := hX.2 (28, 0, 29) (by decide)
  have p28_1 : w.2.2 28 1 = some 30 := hX.2 (28, 1, 30) (by decide)
  have p28_2 : w.2.2 28 2 = some 31 := hX.2 (28, 2, 31) (by decide)
  have p28_4 : w.2.2 28 4 = some 32 := hX.2 (28, 4, 32) (by decide)
  have p28_5 : w.2.2 28 5 = some 33 := hX.2 (28, 5, 33) (by decide)
  have p28_7 : w.2.2 28 7 = some 35 := hX.2 (28, 7, 35) (by decide)
  have p28_6 : w.2.2 28 6 = some 34 := hX.2 (28, 6, 34) (by decide)
  obtain ⟨hr, hr3, hs, hs6, hri, hsi⟩ := id hS
  have loop : rn < 300 → ∀ (n i : Nat) (w1 : AW) (x : Option AV), i + n = sn → w1 = sR (arW w rn st day gas) 35 (adF w st day gas i) → GG Γ 62 [some (ar 28), some (ai st), some (ai day), some (ai gas), some (ai (i : Int))] [] w1 0 0 := by
    intro hlt n
    induction n with
    | zero =>
      intro i w1 x hi he
      obtain rfl : i = sn := by omega
      have hX1 : XS w1 := by rw [he]; exact XS_of rfl rfl hX
      have h8 : w1.2.1 28 8 = (i : Int) := by rw [he, sR_ne _ _ (by decide), arW_28, uI_ne _ _ (by decide)]; exact hs
      have qs28 : w1.1 28 = (107, 0) := hX1.1 28 (by decide)
      have qs29 : w1.1 29 = (1, 300) := hX1.1 29 (by decide)
      have qs30 : w1.1 30 = (1, 300) := hX1.1 30 (by decide)
      have qs31 : w1.1 31 = (1, 300) := hX1.1 31 (by decide)
      have qs32 : w1.1 32 = (1, 60) := hX1.1 32 (by decide)
      have qs33 : w1.1 33 = (1, 60) := hX1.1 33 (by decide)
      have qs35 : w1.1 35 = (1, 60) := hX1.1 35 (by decide)
      have qs34 : w1.1 34 = (1, 60) := hX1.1 34 (by decide)
      have qp28_0 : w1.2.2 28 0 = some 29 := hX1.2 (28, 0, 29) (by decide)
      have qp28_1 : w1.2.2 28 1 = some 30 := hX1.2 (28, 1, 30) (by decide)
      have qp28_2 : w1.2.2 28 2 = some 31 := hX1.2 (28, 2, 31) (by decide)
      have qp28_4 : w1.2.2 28 4 = some 32 := hX1.2 (28, 4, 32) (by decide)
      have qp28_5 : w1.2.2 28 5 = some 33 := hX1.2 (28, 5, 33) (by decide)
      have qp28_7 : w1.2.2 28 7 = some 35 := hX1.2 (28, 7, 35) (by decide)
      have qp28_6 : w1.2.2 28 6 = some 34 := hX1.2 (28, 6, 34) (by decide)
      refine g_iload h dX7_addReading_62 rfl ?_
      refine g_aload_n h dX7_addReading_64 rfl ?_
      refine g_getI h flX7_37 rfl (by assumption) dX7_addReading_65 ?_
      refine g_icmp_ge (tgt := 122) h dX7_addReading_68 (by decide) (by first | assumption | exact ⟨by omega, by omega⟩) (by first | assumption | exact ⟨by omega, by omega⟩) (fun c68 => ?_) (fun c68 => ?_)
      · refine g_iconst h dX7_addReading_122 ?_
        refine g_zret h hQ (by decide) (by decide) (by omega) ?_ dX7_addReading_123
        exact Or.inl ⟨hlt, rfl, he⟩
      · refine g_iload h dX7_addReading_71 rfl ?_
        refine g_bipush h dX7_addReading_73 rfl ?_
        refine g_icmp_ge (tgt := 122) h dX7_addReading_75 (by decide) (by first | assumption | exact ⟨by omega, by omega⟩) (by first | assumption | exact ⟨by omega, by omega⟩) (fun c75 => ?_) (fun c75 => ?_)
        · refine g_iconst h dX7_addReading_122 ?_
          refine g_zret h hQ (by decide) (by decide) (by omega) ?_ dX7_addReading_123
          exact Or.inl ⟨hlt, rfl, he⟩
        · exfalso; omega
    | succ n ih =>
      intro i w1 x hi he
      have hX1 : XS w1 := by rw [he]; exact XS_of rfl rfl hX
      have h8 : w1.2.1 28 8 = (sn : Int) := by rw [he, sR_ne _ _ (by decide), arW_28, uI_ne _ _ (by decide)]; exact hs
      have e32 : w1.2.1 32 i = w.2.1 32 i := by rw [he, sR_ne _ _ (by decide), arW_o _ _ _ _ _ (by decide) (by decide) (by decide) (by decide)]
      have e33 : w1.2.1 33 i = w.2.1 33 i := by rw [he, sR_ne _ _ (by decide), arW_o _ _ _ _ _ (by decide) (by decide) (by decide) (by decide)]
      have e34 : w1.2.1 34 i = w.2.1 34 i := by rw [he, sR_ne _ _ (by decide), arW_o _ _ _ _ _ (by decide) (by decide) (by decide) (by decide)]
      have hsi1 := hsi i (by omega)
      have keep : ¬ (w.2.1 32 i = st ∧ w.2.1 33 i = day) → adF w st day gas (i + 1) = adF w st day gas i := by
        intro q
        funext j
        unfold adF
        by_cases hj : j = i
        · subst hj
          rw [if_neg (by omega), if_neg (by omega)]
        · by_cases c : j < i ∧ w.2.1 32 j = st ∧ w.2.1 33 j = day
          · rw [if_pos ⟨by omega, c.2⟩, if_pos c]
          · rw [if_neg (fun c2 => c ⟨by omega, c2.2⟩), if_neg c]
      have put : w.2.1 32 i = st → w.2.1 33 i = day → adF w st day gas (i + 1) = uI (adF w st day gas i) i (w.2.1 34 i - gas) := by
        intro q1 q2
        funext j
        unfold adF uI
        by_cases hj : j = i
        · subst hj
          rw [if_pos ⟨by omega, q1, q2⟩, if_pos rfl]
        · rw [if_neg hj]
          dsimp only
          by_cases c : j < i ∧ w.2.1 32 j = st ∧ w.2.1 33 j = day
          · rw [if_pos ⟨by omega, c.2⟩, if_pos c]
          · rw [if_neg (fun c2 => c ⟨by omega, c2.2⟩), if_neg c]
      have qs28 : w1.1 28 = (107, 0) := hX1.1 28 (by decide)
      have qs29 : w1.1 29 = (1, 300) := hX1.1 29 (by decide)
      have qs30 : w1.1 30 = (1, 300) := hX1.1 30 (by decide)
      have qs31 : w1.1 31 = (1, 300) := hX1.1 31 (by decide)
      have qs32 : w1.1 32 = (1, 60) := hX1.1 32 (by decide)
      have qs33 : w1.1 33 = (1, 60) := hX1.1 33 (by decide)
      have qs35 : w1.1 35 = (1, 60) := hX1.1 35 (by decide)
      have qs34 : w1.1 34 = (1, 60) := hX1.1 34 (by decide)
      have qp28_0 : w1.2.2 28 0 = some 29 := hX1.2 (28, 0, 29) (by decide)
      have qp28_1 : w1.2.2 28 1 = some 30 := hX1.2 (28, 1, 30) (by decide)
      have qp28_2 : w1.2.2 28 2 = some 31 := hX1.2 (28, 2, 31) (by decide)
      have qp28_4 : w1.2.2 28 4 = some 32 := hX1.2 (28, 4, 32) (by decide)
      have qp28_5 : w1.2.2 28 5 = some 33 := hX1.2 (28, 5, 33) (by decide)
      have qp28_7 : w1.2.2 28 7 = some 35 := hX1.2 (28, 7, 35) (by decide)
      have qp28_6 : w1.2.2 28 6 = some 34 := hX1.2 (28, 6, 34) (by decide)
      refine g_iload h dX7_addReading_62 rfl ?_
      refine g_aload_n h dX7_addReading_64 rfl ?_
      refine g_getI h flX7_37 rfl (by assumption) dX7_addReading_65 ?_
      refine g_icmp_ge (tgt := 122) h dX7_addReading_68 (by decide) (by first | assumption | exact ⟨by omega, by omega⟩) (by first | assumption | exact ⟨by omega, by omega⟩) (fun c68 => ?_) (fun c68 => ?_)
      · exfalso; omega
      · refine g_iload h dX7_addReading_71 rfl ?_
        refine g_bipush h dX7_addReading_73 rfl ?_
        refine g_icmp_ge (tgt := 122) h dX7_addReading_75 (by decide) (by first | assumption | exact ⟨by omega, by omega⟩) (by first | assumption | exact ⟨by omega, by omega⟩) (fun c75 => ?_) (fun c75 => ?_)
        · exfalso; omega
        · refine g_aload_n h dX7_addReading_78 rfl ?_
          refine g_getQ h flX7_21 rfl (by assumption) (by assumption) dX7_addReading_79 ?_
          refine g_iload h dX7_addReading_82 rfl ?_
          refine g_iald h _ (by assumption) rfl (by first | omega | assumption) (by decide) dX7_addReading_84 ?_
          refine g_iload_n h dX7_addReading_85 rfl ?_
          refine g_icmp_ne (tgt := 116) h dX7_addReading_86 (by decide) (by first | assumption | exact ⟨by omega, by omega⟩) (by first | assumption | exact ⟨by omega, by omega⟩) (fun c86 => ?_) (fun c86 => ?_)
          · refine g_iinc h dX7_addReading_116 rfl (Nat.le_of_ble_eq_true rfl) rfl rfl ?_
            refine g_goto (tgt := 62) h dX7_addReading_119 (by decide) ?_
            first
            | exact ih (i + 1) w1 none (by omega) (by rw [keep (by omega)]; exact he)
            | (refine ih (i + 1) _ none (by omega) ?_
               rw [upI_sR, put (by omega) (by omega), e34, he, sR_sR, sR_at])
          · refine g_aload_n h dX7_addReading_89 rfl ?_
            refine g_getQ h flX7_24 rfl (by assumption) (by assumption) dX7_addReading_90 ?_
            refine g_iload h dX7_addReading_93 rfl ?_
            refine g_iald h _ (by assumption) rfl (by first | omega | assumption) (by decide) dX7_addReading_95 ?_
            refine g_iload_n h dX7_addReading_96 rfl ?_
            refine g_icmp_ne (tgt := 116) h dX7_addReading_97 (by decide) (by first | assumption | exact ⟨by omega, by omega⟩) (by first | assumption | exact ⟨by omega, by omega⟩) (fun c97 => ?_) (fun c97 => ?_)
            · refine g_iinc h dX7_addReading_116 rfl (Nat.le_of_ble_eq_true rfl) rfl rfl ?_
              refine g_goto (tgt := 62) h dX7_addReading_119 (by decide) ?_
              first
              | exact ih (i + 1) w1 none (by omega) (by rw [keep (by omega)]; exact he)
              | (refine ih (i + 1) _ none (by omega) ?_
                 rw [upI_sR, put (by omega) (by omega), e34, he, sR_sR, sR_at])
            · refine g_aload_n h dX7_addReading_100 rfl ?_
              refine g_getQ h flX7_30 rfl (by assumption) (by assumption) dX7_addReading_101 ?_
              refine g_iload h dX7_addReading_104 rfl ?_
              refine g_aload_n h dX7_addReading_106 rfl ?_
              refine g_getQ h flX7_27 rfl (by assumption) (by assumption) dX7_addReading_107 ?_
              refine g_iload h dX7_addReading_110 rfl ?_
              refine g_iald h _ (by assumption) rfl (by first | omega | assumption) (by decide) dX7_addReading_112 ?_
              refine g_iload_n h dX7_addReading_113 rfl ?_
              refine g_isub h dX7_addReading_114 ?_
              refine g_iast h _ (by assumption) rfl (by first | omega | assumption) (by decide) dX7_addReading_115 ?_
              refine g_iinc h dX7_addReading_116 rfl (Nat.le_of_ble_eq_true rfl) rfl rfl ?_
              refine g_goto (tgt := 62) h dX7_addReading_119 (by decide) ?_
              first
              | exact ih (i + 1) w1 none (by omega) (by rw [keep (by omega)]; exact he)
              | (refine ih (i + 1) _ none (by omega) ?_
                 rw [upI_sR, put (by omega) (by omega), e34, he, sR_sR, sR_at])
  refine g_aload_n h dX7_addReading_0 rfl ?_
  refine g_getI h flX7_33 rfl (by assumption) dX7_addReading_1 ?_
  refine g_if_lt (tgt := 17) h dX7_addReading_4 (by decide) (by first | assumption | exact ⟨by omega, by omega⟩) (fun c4 => ?_) (fun c4 => ?_)
  · refine g_iconst h dX7_addReading_17 ?_
    refine g_zret h hQ (by decide) (by decide) (by omega) ?_ dX7_addReading_18
    first | (exfalso; omega) | exact Or.inr ⟨by omega, rfl, rfl⟩
  · refine g_aload_n h dX7_addReading_7 rfl ?_
    refine g_getI h flX7_33 rfl (by assumption) dX7_addReading_8 ?_
    refine g_sipush h dX7_addReading_11 rfl ?_
    refine g_icmp_lt (tgt := 19) h dX7_addReading_14 (by decide) (by first | assumption | exact ⟨by omega, by omega⟩) (by first | assumption | exact ⟨by omega, by omega⟩) (fun c14 => ?_) (fun c14 => ?_)
    · refine g_aload_n h dX7_addReading_19 rfl ?_
      refine g_getQ h flX7_9 rfl (by assumption) (by assumption) dX7_addReading_20 ?_
      refine g_aload_n h dX7_addReading_23 rfl ?_
      refine g_getI h flX7_33 rfl (by assumption) dX7_addReading_24 ?_
      refine g_iload_n h dX7_addReading_27 rfl ?_
      refine g_iast h (rn) (by assumption) (by first | omega | assumption) (by first | omega | assumption) (by decide) dX7_addReading_28 ?_
      refine g_aload_n h dX7_addReading_29 rfl ?_
      refine g_getQ h flX7_15 rfl (by assumption) (by assumption) dX7_addReading_30 ?_
      refine g_aload_n h dX7_addReading_33 rfl ?_
      refine g_getI h flX7_33 rfl (by assumption) dX7_addReading_34 ?_
      refine g_iload_n h dX7_addReading_37 rfl ?_
      refine g_iast h (rn) (by assumption) (by first | omega | assumption) (by first | omega | assumption) (by decide) dX7_addReading_38 ?_
      refine g_aload_n h dX7_addReading_39 rfl ?_
      refine g_getQ h flX7_18 rfl (by assumption) (by assumption) dX7_addReading_40 ?_
      refine g_aload_n h dX7_addReading_43 rfl ?_
      refine g_getI h flX7_33 rfl (by assumption) dX7_addReading_44 ?_
      refine g_iload_n h dX7_addReading_47 rfl ?_
      refine g_iast h (rn) (by assumption) (by first | omega | assumption) (by first | omega | assumption) (by decide) dX7_addReading_48 ?_
      refine g_aload_n h dX7_addReading_49 rfl ?_
      refine g_dup h dX7_addReading_50 rfl ?_
      refine g_getI h flX7_33 rfl (by assumption) dX7_addReading_51 ?_
      refine g_iconst h dX7_addReading_54 ?_
      refine g_iadd h dX7_addReading_55 ?_
      refine g_putI h flX7_33 rfl rfl (by assumption) dX7_addReading_56 ?_
      refine g_iconst h dX7_addReading_59 ?_
      refine g_istore h dX7_addReading_60 (Nat.le_of_ble_eq_true rfl) rfl rfl ?_
      refine loop (by omega) sn 0 _ none (by omega) ?_
      have e0 : adF w st day gas 0 = w.2.1 35 := funext (fun j => if_neg (by omega))
      rw [e0]
      have e1 : (arW w rn st day gas).2.1 35 = w.2.1 35 := arW_o _ _ _ _ _ (by decide) (by decide) (by decide) (by decide)
      rw [← e1, sR_self]
      show upI (upI (upI (upI w 29 rn st) 30 rn day) 31 rn gas) 28 3 (w.2.1 28 3 + 1) = _
      rw [hr]
      rfl
    · refine g_iconst h dX7_addReading_17 ?_
      refine g_zret h hQ (by decide) (by decide) (by omega) ?_ dX7_addReading_18
      first | (exfalso; omega) | exact Or.inr ⟨by omega, rfl, rfl⟩
def adW (w : AW) (sn : Nat) (st day gas dr : Int) : AW := sR (sR (sR (sR (sR w 32 (uI (w.2.1 32) sn st)) 33 (uI (w.2.1 33) sn day)) 34 (uI (w.2.1 34) sn gas)) 35 (uI (w.2.1 35) sn dr)) 28 (uI (w.2.1 28) 8 (sn + 1))
set_option maxRecDepth 100000 in
set_option maxHeartbeats 4000000 in
theorem c_X7_addSounding (l : Launch) (w : AW) (rn sn m : Nat) (st day gas : Int) (hX : XS w) (hS : SI w rn sn) (hst : R32 st) (hd : R32 day) (hg : 0 ≤ gas) (hg2 : gas ≤ 100000) (hm : lrF (w.2.1 29) (w.2.1 30) st day day rn = some m) (hsn : sn < 60) : HT l yX7_addSounding cX7_addSounding 5 (some .int) 2 0 0 w [ar 28, ai st, ai day, ai gas] (rZ (gas - w.2.1 31 m) (adW w sn st day gas (gas - w.2.1 31 m))) := by
  refine HT.of (by decide) (by intro v hv; simp only [List.mem_cons, List.not_mem_nil, or_false] at hv; rcases hv with rfl | rfl | rfl | rfl <;> rfl) (Nat.le_of_ble_eq_true rfl) ?_
  intro Γ h hQ hRm hnm hl hw0
  have s28 : w.1 28 = (107, 0) := hX.1 28 (by decide)
  have s32 : w.1 32 = (1, 60) := hX.1 32 (by decide)
  have s33 : w.1 33 = (1, 60) := hX.1 33 (by decide)
  have s34 : w.1 34 = (1, 60) := hX.1 34 (by decide)
  have s35 : w.1 35 = (1, 60) := hX.1 35 (by decide)
  have p28_4 : w.2.2 28 4 = some 32 := hX.2 (28, 4, 32) (by decide)
  have p28_5 : w.2.2 28 5 = some 33 := hX.2 (28, 5, 33) (by decide)
  have p28_6 : w.2.2 28 6 = some 34 := hX.2 (28, 6, 34) (by decide)
  have p28_7 : w.2.2 28 7 = some 35 := hX.2 (28, 7, 35) (by decide)
  obtain ⟨hr, hr3, hs, hs6, hri, hsi⟩ := id hS
  refine g_iload_n h dX7_addSounding_0 rfl ?_
  refine g_aload_n h dX7_addSounding_1 rfl ?_
  refine g_aload_n h dX7_addSounding_2 rfl ?_
  refine g_iload_n h dX7_addSounding_3 rfl ?_
  refine g_iload_n h dX7_addSounding_4 rfl ?_
  refine g_iload_n h dX7_addSounding_5 rfl ?_
  refine g_callV h rfl (ci := 7) [_, _, _] (by assumption) (c_X7_latestReading _ _ rn sn st day day hX hS hst hd hd) clX7_40 (by decide) rfl in_X7_latestReading se_X7_latestReading rfl rfl (by rw [hRm]; decide) (by rw [hRm]; decide) (fun _ => Nat.le_of_ble_eq_true rfl) (by rw [hRm]; decide) (by rw [hRm]; decide) dX7_addSounding_6 (fun r6 w6 hp6 => ?_)
  obtain ⟨rfl, hw6⟩ := hp6
  rw [hw6, hm]
  refine g_callV h rfl (ci := 7) [_] (by assumption) (c_X7_gasOfReading _ _ rn sn m hX hS (lrF_lt _ _ hm).1) clX7_44 (by decide) rfl in_X7_gasOfReading se_X7_gasOfReading rfl rfl (by rw [hRm]; decide) (by rw [hRm]; decide) (fun _ => Nat.le_of_ble_eq_true rfl) (by rw [hRm]; decide) (by rw [hRm]; decide) dX7_addSounding_9 (fun r9 w9 hp9 => ?_)
  obtain ⟨rfl, hw9⟩ := hp9
  rw [hw9]
  refine g_isub h dX7_addSounding_12 ?_
  refine g_istore h dX7_addSounding_13 (Nat.le_of_ble_eq_true rfl) rfl rfl ?_
  refine g_aload_n h dX7_addSounding_15 rfl ?_
  refine g_getI h flX7_37 rfl (by assumption) dX7_addSounding_16 ?_
  refine g_if_lt (tgt := 82) h dX7_addSounding_19 (by decide) (by first | assumption | exact ⟨by omega, by omega⟩) (fun c19 => ?_) (fun c19 => ?_)
  · refine g_iload h dX7_addSounding_82 rfl ?_
    refine g_iret h hQ (by decide) (by decide) ?_ dX7_addSounding_84
    first
    | (exfalso; omega)
    | (refine ⟨rfl, ?_⟩
       show upI (upI (upI (upI (upI w 32 sn st) 33 sn day) 34 sn gas) 35 sn _) 28 8 (w.2.1 28 8 + 1) = _
       rw [hs]
       rfl)
  · refine g_aload_n h dX7_addSounding_22 rfl ?_
    refine g_getI h flX7_37 rfl (by assumption) dX7_addSounding_23 ?_
    refine g_bipush h dX7_addSounding_26 rfl ?_
    refine g_icmp_ge (tgt := 82) h dX7_addSounding_28 (by decide) (by first | assumption | exact ⟨by omega, by omega⟩) (by first | assumption | exact ⟨by omega, by omega⟩) (fun c28 => ?_) (fun c28 => ?_)
    · refine g_iload h dX7_addSounding_82 rfl ?_
      refine g_iret h hQ (by decide) (by decide) ?_ dX7_addSounding_84
      first
      | (exfalso; omega)
      | (refine ⟨rfl, ?_⟩
         show upI (upI (upI (upI (upI w 32 sn st) 33 sn day) 34 sn gas) 35 sn _) 28 8 (w.2.1 28 8 + 1) = _
         rw [hs]
         rfl)
    · refine g_aload_n h dX7_addSounding_31 rfl ?_
      refine g_getQ h flX7_21 rfl (by assumption) (by assumption) dX7_addSounding_32 ?_
      refine g_aload_n h dX7_addSounding_35 rfl ?_
      refine g_getI h flX7_37 rfl (by assumption) dX7_addSounding_36 ?_
      refine g_iload_n h dX7_addSounding_39 rfl ?_
      refine g_iast h (sn) (by assumption) (by first | omega | assumption) (by first | omega | assumption) (by decide) dX7_addSounding_40 ?_
      refine g_aload_n h dX7_addSounding_41 rfl ?_
      refine g_getQ h flX7_24 rfl (by assumption) (by assumption) dX7_addSounding_42 ?_
      refine g_aload_n h dX7_addSounding_45 rfl ?_
      refine g_getI h flX7_37 rfl (by assumption) dX7_addSounding_46 ?_
      refine g_iload_n h dX7_addSounding_49 rfl ?_
      refine g_iast h (sn) (by assumption) (by first | omega | assumption) (by first | omega | assumption) (by decide) dX7_addSounding_50 ?_
      refine g_aload_n h dX7_addSounding_51 rfl ?_
      refine g_getQ h flX7_27 rfl (by assumption) (by assumption) dX7_addSounding_52 ?_
      refine g_aload_n h dX7_addSounding_55 rfl ?_
      refine g_getI h flX7_37 rfl (by assumption) dX7_addSounding_56 ?_
      refine g_iload_n h dX7_addSounding_59 rfl ?_
      refine g_iast h (sn) (by assumption) (by first | omega | assumption) (by first | omega | assumption) (by decide) dX7_addSounding_60 ?_
      refine g_aload_n h dX7_addSounding_61 rfl ?_
      refine g_getQ h flX7_30 rfl (by assumption) (by assumption) dX7_addSounding_62 ?_
      refine g_aload_n h dX7_addSounding_65 rfl ?_
      refine g_getI h flX7_37 rfl (by assumption) dX7_addSounding_66 ?_
      refine g_iload h dX7_addSounding_69 rfl ?_
      refine g_iast h (sn) (by assumption) (by first | omega | assumption) (by first | omega | assumption) (by decide) dX7_addSounding_71 ?_
      refine g_aload_n h dX7_addSounding_72 rfl ?_
      refine g_dup h dX7_addSounding_73 rfl ?_
      refine g_getI h flX7_37 rfl (by assumption) dX7_addSounding_74 ?_
      refine g_iconst h dX7_addSounding_77 ?_
      refine g_iadd h dX7_addSounding_78 ?_
      refine g_putI h flX7_37 rfl rfl (by assumption) dX7_addSounding_79 ?_
      refine g_iload h dX7_addSounding_82 rfl ?_
      refine g_iret h hQ (by decide) (by decide) ?_ dX7_addSounding_84
      first
      | (exfalso; omega)
      | (refine ⟨rfl, ?_⟩
         show upI (upI (upI (upI (upI w 32 sn st) 33 sn day) 34 sn gas) 35 sn _) 28 8 (w.2.1 28 8 + 1) = _
         rw [hs]
         rfl)
