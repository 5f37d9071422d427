/-! ===== Lake: the spare becomes another ===== -/
theorem AW_ext {a b : AW} (h1 : a.1 = b.1) (h2 : a.2.2 = b.2.2) (h3 : ∀ j, a.2.1 j = b.2.1 j) : a = b := by
  obtain ⟨a1, a2, a3⟩ := a
  obtain ⟨b1, b2, b3⟩ := b
  obtain rfl : a1 = b1 := h1
  obtain rfl : a3 = b3 := h2
  obtain rfl : a2 = b2 := funext h3
  rfl
def cpR (old src : Nat → Int) (n : Nat) : Nat → Int := fun j => if j < n then src j else old j
theorem cpR_0 (old src : Nat → Int) : cpR old src 0 = old := funext fun j => if_neg (by omega)
theorem cpR_s (old src : Nat → Int) (i : Nat) : cpR old src (i + 1) = uI (cpR old src i) i (src i) := by
  funext j
  unfold uI cpR
  by_cases hj : j = i
  · rw [if_pos hj, if_pos (by omega), hj]
  · rw [if_neg hj]
    by_cases hj2 : j < i
    · rw [if_pos hj2, if_pos (by omega)]
    · rw [if_neg hj2, if_neg (by omega)]
def bcF (old src : Nat → Int) : Nat → Int := fun f => if 4 ≤ f ∧ f < 9 then src f else old f
/-- the spare with another's rows and numbers -/
def bcB (w : AW) (L : Nat) : AW := sR (sR (sR (sR w 7 (cpR (w.2.1 7) (w.2.1 (5 + L)) 10)) 10 (cpR (w.2.1 10) (w.2.1 (8 + L)) 10)) 13 (cpR (w.2.1 13) (w.2.1 (11 + L)) 10)) 4 (bcF (w.2.1 4) (w.2.1 (2 + L)))
/-- and its first pipes; S of the spare's own were made before -/
def bcP (v : AW) (S : Nat) (q : Nat → Nat) : Nat → AW
  | 0 => v
  | i + 1 => if i < S then sR (bcP v S q i) (56 + i) (cpF ((bcP v S q i).2.1 (56 + i)) ((bcP v S q i).2.1 (q i)))
    else sR (upP (alc (bcP v S q i) (56 + i) (103, 0)) 16 i (some (56 + i))) (56 + i) (cpF (fun _ => 0) ((bcP v S q i).2.1 (q i)))
/-- what the spare's pipes are -/
def SPI (w : AW) (S : Nat) : Prop := S ≤ 3 ∧ (∀ i, i < S → w.2.2 16 i = some (56 + i) ∧ w.1 (56 + i) = (103, 0)) ∧ ∀ i, S ≤ i → i < 3 → w.2.2 16 i = none ∧ (w.1 (56 + i)).1 = 0
theorem bcP_lo (v : AW) (S : Nat) (q : Nat → Nat) : ∀ (i j : Nat), j < 56 ∨ 56 + i ≤ j → (bcP v S q i).1 j = v.1 j ∧ (bcP v S q i).2.1 j = v.2.1 j ∧ (j ≠ 16 → (bcP v S q i).2.2 j = v.2.2 j)
  | 0, j, _ => ⟨rfl, rfl, fun _ => rfl⟩
  | i + 1, j, h => by
    obtain ⟨a1, a2, a3⟩ := bcP_lo v S q i j (by omega)
    have hj : j ≠ 56 + i := by omega
    unfold bcP
    split
    · exact ⟨a1, by rw [sR_ne _ _ hj]; exact a2, a3⟩
    · refine ⟨(if_neg hj).trans a1, ?_, fun h16 => ?_⟩
      · rw [sR_ne _ _ hj]; exact (if_neg hj).trans a2
      · exact (if_neg h16).trans ((if_neg hj).trans (a3 h16))
theorem bcP_16 (v : AW) (S : Nat) (q : Nat → Nat) : ∀ (i t : Nat), i ≤ t → (bcP v S q i).2.2 16 t = v.2.2 16 t
  | 0, t, _ => rfl
  | i + 1, t, h => by
    have a := bcP_16 v S q i t (by omega)
    unfold bcP
    split
    · exact a
    · show (upP (alc (bcP v S q i) (56 + i) (103, 0)) 16 i (some (56 + i))).2.2 16 t = _
      exact (congrFun (upP_at _ 16 i _) t).trans ((if_neg (by omega)).trans ((congrFun (if_neg (by omega)) t).trans a))
theorem bc_new (u : AW) (i p : Nat) (hp : p ≠ 56 + i) (V : AW) (hV : V = upP (sR (alc u (56 + i) (103, 0)) (56 + i) (uI (uI (uI (uI ((alc u (56 + i) (103, 0)).2.1 (56 + i)) 0 0) 1 0) 2 0) 3 0)) 16 i (some (56 + i))) :
    sR V (56 + i) (cpF (V.2.1 (56 + i)) (V.2.1 p)) = sR (upP (alc u (56 + i) (103, 0)) 16 i (some (56 + i))) (56 + i) (cpF (fun _ => 0) (u.2.1 p)) := by
  have e1 : V.2.1 p = u.2.1 p := by
    rw [hV]
    show (sR _ _ _).2.1 p = _
    rw [sR_ne _ _ hp]
    exact if_neg hp
  have e2 : V.2.1 (56 + i) = fun _ => 0 := by
    rw [hV]
    show (sR _ _ _).2.1 (56 + i) = _
    rw [sR_at, show (alc u (56 + i) (103, 0)).2.1 (56 + i) = fun _ => 0 from if_pos rfl]
    funext f
    unfold uI
    repeat' split
    all_goals rfl
  rw [e1, e2, hV]
  refine AW_ext rfl rfl fun j => ?_
  by_cases hj : j = 56 + i
  · subst hj
    rw [sR_at, sR_at]
  · rw [sR_ne _ _ hj, sR_ne _ _ hj]
    show (sR _ _ _).2.1 j = _
    rw [sR_ne _ _ hj]
    rfl
set_option maxRecDepth 100000 in
set_option maxHeartbeats 4000000 in
theorem c_X2_become (l : Launch) (w : AW) (L S n : Nat) (q : Nat → Nat) (hL : L < 2) (hK2 : LK w 2) (hK : LK w L) (hP : PQ w L n q) (hq5 : ∀ i, i < n → q i < 56) (hS : SPI w S) : HT l yX2_become cX2_become 5 none 2 (n - S) (7 * (n - S)) w [ar 4, ar (2 + L)] (rV (bcP (bcB w L) S q n)) := by
  refine HT.of (by decide) (by intro v hv; simp only [List.mem_cons, List.not_mem_nil, or_false] at hv; rcases hv with rfl | rfl <;> rfl) (Nat.le_of_ble_eq_true rfl) ?_
  intro Γ h hQ hRm hnm hl hw0
  obtain ⟨hL3, k2, k5, k8, k11, k14, p0, p1, p2, p3⟩ := id hK
  obtain ⟨-, m2, m5, m8, m11, m14, r0, r1, r2, r3⟩ := id hK2
  simp only [Nat.reduceAdd] at m2 m5 m8 m11 m14 r0 r1 r2 r3
  obtain ⟨hn3, hn4, hpi, hinj⟩ := id hP
  obtain ⟨hS3, hSa, hSb⟩ := id hS
  have loop2 : ∀ (d i : Nat) (x y : Option AV), i + d = n → GG Γ 92 [some (ar 4), some (ar (2 + L)), some (ai (i : Int)), x, y] [] (bcP (bcB w L) S q i) (i - S) (7 * (i - S)) := by
    intro d
    induction d with
    | zero =>
      intro i x y hi
      obtain rfl : i = n := by omega
      have f4 : (bcP (bcB w L) S q i).1 4 = (102, 0) := (bcP_lo _ S q i 4 (by omega)).1.trans m2
      have g4 : (bcP (bcB w L) S q i).2.1 4 4 = (i : Int) := by rw [(bcP_lo _ S q i 4 (by omega)).2.1]; unfold bcB; rw [sR_at]; exact hn4
      refine g_iload_n h dX2_become_92 rfl ?_
      refine g_aload_n h dX2_become_93 rfl ?_
      refine g_getI h flX2_63 rfl (by assumption) dX2_become_94 ?_
      refine g_icmp_ge (tgt := 175) h dX2_become_97 (by decide) (by first | assumption | exact ⟨by omega, by omega⟩) (by first | assumption | exact ⟨by omega, by omega⟩) (fun c97 => ?_) (fun c97 => ?_)
      · refine g_vret h hQ (by omega) (by omega) ?_ dX2_become_175
        (first | exact ⟨rfl, rfl⟩ | (exfalso; omega))
      · exfalso; omega
    | succ d ih =>
      intro i x y hi
      obtain ⟨hq, h50, h59, hqs, l0, l9, f1, f5, i0, i1, hrun⟩ := hpi i (by omega)
      have hqi := hq5 i (by omega)
      have L2 := bcP_lo (bcB w L) S q i
      have f4 : (bcP (bcB w L) S q i).1 4 = (102, 0) := (L2 4 (by omega)).1.trans m2
      have g4 : (bcP (bcB w L) S q i).2.1 4 4 = (n : Int) := by rw [(L2 4 (by omega)).2.1]; unfold bcB; rw [sR_at]; exact hn4
      have f16 : (bcP (bcB w L) S q i).1 16 = (203, 3) := (L2 16 (by omega)).1.trans m14
      have fL : (bcP (bcB w L) S q i).1 (2 + L) = (102, 0) := (L2 (2 + L) (by omega)).1.trans k2
      have f14 : (bcP (bcB w L) S q i).1 (14 + L) = (203, 3) := (L2 (14 + L) (by omega)).1.trans k14
      have fq : (bcP (bcB w L) S q i).1 (q i) = (103, 0) := (L2 (q i) (by omega)).1.trans hqs
      have p43 : (bcP (bcB w L) S q i).2.2 4 3 = some 16 := (congrFun ((L2 4 (by omega)).2.2 (by omega)) 3).trans r3
      have pL3 : (bcP (bcB w L) S q i).2.2 (2 + L) 3 = some (14 + L) := (congrFun ((L2 (2 + L) (by omega)).2.2 (by omega)) 3).trans p3
      have pq : (bcP (bcB w L) S q i).2.2 (14 + L) i = some (q i) := (congrFun ((L2 (14 + L) (by omega)).2.2 (by omega)) i).trans hq
      have gq : (bcP (bcB w L) S q i).2.1 (q i) = w.2.1 (q i) := by
        rw [(L2 (q i) (by omega)).2.1]
        unfold bcB
        rw [sR_ne _ _ (by omega), sR_ne _ _ (by omega), sR_ne _ _ (by omega), sR_ne _ _ (by omega)]
      have p16 : (bcP (bcB w L) S q i).2.2 16 i = w.2.2 16 i := bcP_16 _ S q i i (by omega)
      have f56 : (bcP (bcB w L) S q i).1 (56 + i) = w.1 (56 + i) := (L2 (56 + i) (by omega)).1
      by_cases hiS : i < S
      · obtain ⟨s1, s2⟩ := hSa i hiS
        rw [s1] at p16
        rw [s2] at f56
        refine g_iload_n h dX2_become_92 rfl ?_
        refine g_aload_n h dX2_become_93 rfl ?_
        refine g_getI h flX2_63 rfl (by assumption) dX2_become_94 ?_
        refine g_icmp_ge (tgt := 175) h dX2_become_97 (by decide) (by first | assumption | exact ⟨by omega, by omega⟩) (by first | assumption | exact ⟨by omega, by omega⟩) (fun c97 => ?_) (fun c97 => ?_)
        · exfalso; omega
        · refine g_iload_n h dX2_become_100 rfl ?_
          refine g_aload_n h dX2_become_101 rfl ?_
          refine g_getQ h flX2_23 rfl (by assumption) (by assumption) dX2_become_102 ?_
          refine g_alen h (by assumption) (by unfold arK; omega) dX2_become_105 ?_
          refine g_icmp_ge (tgt := 175) h dX2_become_106 (by decide) (by first | assumption | exact ⟨by omega, by omega⟩) (by first | assumption | exact ⟨by omega, by omega⟩) (fun c106 => ?_) (fun c106 => ?_)
          · exfalso; omega
          · refine g_iload_n h dX2_become_109 rfl ?_
            refine g_aload_n h dX2_become_110 rfl ?_
            refine g_getQ h flX2_23 rfl (by assumption) (by assumption) dX2_become_111 ?_
            refine g_alen h (by assumption) (by unfold arK; omega) dX2_become_114 ?_
            refine g_icmp_ge (tgt := 175) h dX2_become_115 (by decide) (by first | assumption | exact ⟨by omega, by omega⟩) (by first | assumption | exact ⟨by omega, by omega⟩) (fun c115 => ?_) (fun c115 => ?_)
            · exfalso; omega
            · refine g_aload_n h dX2_become_118 rfl ?_
              refine g_getQ h flX2_23 rfl (by assumption) (by assumption) dX2_become_119 ?_
              refine g_iload_n h dX2_become_122 rfl ?_
              refine g_aald h _ (by assumption) (by unfold arK; omega) (by first | omega | assumption) rfl (by first | omega | assumption) (by decide) (by assumption) dX2_become_123 ?_
              refine g_astore_n h dX2_become_124 (Nat.le_of_ble_eq_true rfl) rfl rfl ?_
              refine g_aload_n h dX2_become_125 rfl ?_
              refine g_getQ h flX2_23 rfl (by assumption) (by assumption) dX2_become_126 ?_
              refine g_iload_n h dX2_become_129 rfl ?_
              refine g_aald h _ (by assumption) (by unfold arK; omega) (by first | omega | assumption) rfl (by first | omega | assumption) (by decide) (by assumption) dX2_become_130 ?_
              refine g_astore h dX2_become_131 (Nat.le_of_ble_eq_true rfl) rfl rfl ?_
              refine g_aload h dX2_become_133 rfl ?_
              refine g_ifnonnull (tgt := 159) h dX2_become_135 (by decide) (fun a135 c135 => ?_) (fun c135 => by cases c135)
              refine g_aload_n h dX2_become_159 rfl ?_
              refine g_ifnull (tgt := 169) h dX2_become_160 (by decide) (fun c160 => by cases c160) (fun a160 c160 => ?_)
              refine g_aload h dX2_become_163 rfl ?_
              refine g_aload_n h dX2_become_165 rfl ?_
              refine g_callV h rfl (ci := 3) [_] (by assumption) (c_X3_become _ _ (56 + i) (q i) 0 0 f56 fq (by omega) (by rw [gq]; exact hrun)) clX2_76 (by decide) rfl in_X3_become se_X3_become rfl rfl (by rw [hRm]; first | decide | (simp only [clS]; omega)) (by rw [hRm]; first | decide | (simp only [clS]; omega)) (fun _ => Nat.le_of_ble_eq_true rfl) (by rw [hRm]; first | decide | (simp only [clS]; omega)) (by rw [hRm]; first | decide | (simp only [clS]; omega)) dX2_become_166 (fun r166 w166 hp166 => ?_)
              obtain ⟨rfl, hw166⟩ := hp166
              rw [hw166]
              refine g_iinc h dX2_become_169 rfl (Nat.le_of_ble_eq_true rfl) rfl rfl ?_
              refine g_goto (tgt := 92) h dX2_become_172 (by decide) ?_
              have hk0 : i + 1 - S = i - S := by omega
              have h4 := ih (i + 1) (some (ar (q i))) (some (ar (56 + i))) (by omega)
              rw [hk0, show bcP (bcB w L) S q (i + 1) = _ from if_pos hiS] at h4
              exact h4
      · obtain ⟨s1, s2⟩ := hSb i (by omega) (by omega)
        rw [s1] at p16
        rw [← f56] at s2
        have z4 : (alc (bcP (bcB w L) S q i) (56 + i) (103, 0)).1 4 = (102, 0) := (if_neg (by omega)).trans f4
        have z16 : (alc (bcP (bcB w L) S q i) (56 + i) (103, 0)).1 16 = (203, 3) := (if_neg (by omega)).trans f16
        have zn : (alc (bcP (bcB w L) S q i) (56 + i) (103, 0)).1 (56 + i) = (103, 0) := if_pos rfl
        have zq : (alc (bcP (bcB w L) S q i) (56 + i) (103, 0)).1 (q i) = (103, 0) := (if_neg (by omega)).trans fq
        have z43 : (alc (bcP (bcB w L) S q i) (56 + i) (103, 0)).2.2 4 3 = some 16 := (congrFun (if_neg (by omega)) 3).trans p43
        have zr : ∀ g, (sR (alc (bcP (bcB w L) S q i) (56 + i) (103, 0)) (56 + i) g).2.1 (q i) = w.2.1 (q i) := by
          intro g
          rw [sR_ne _ _ (by omega)]
          exact (if_neg (by omega)).trans gq
        refine g_iload_n h dX2_become_92 rfl ?_
        refine g_aload_n h dX2_become_93 rfl ?_
        refine g_getI h flX2_63 rfl (by assumption) dX2_become_94 ?_
        refine g_icmp_ge (tgt := 175) h dX2_become_97 (by decide) (by first | assumption | exact ⟨by omega, by omega⟩) (by first | assumption | exact ⟨by omega, by omega⟩) (fun c97 => ?_) (fun c97 => ?_)
        · exfalso; omega
        · refine g_iload_n h dX2_become_100 rfl ?_
          refine g_aload_n h dX2_become_101 rfl ?_
          refine g_getQ h flX2_23 rfl (by assumption) (by assumption) dX2_become_102 ?_
          refine g_alen h (by assumption) (by unfold arK; omega) dX2_become_105 ?_
          refine g_icmp_ge (tgt := 175) h dX2_become_106 (by decide) (by first | assumption | exact ⟨by omega, by omega⟩) (by first | assumption | exact ⟨by omega, by omega⟩) (fun c106 => ?_) (fun c106 => ?_)
          · exfalso; omega
          · refine g_iload_n h dX2_become_109 rfl ?_
            refine g_aload_n h dX2_become_110 rfl ?_
            refine g_getQ h flX2_23 rfl (by assumption) (by assumption) dX2_become_111 ?_
            refine g_alen h (by assumption) (by unfold arK; omega) dX2_become_114 ?_
            refine g_icmp_ge (tgt := 175) h dX2_become_115 (by decide) (by first | assumption | exact ⟨by omega, by omega⟩) (by first | assumption | exact ⟨by omega, by omega⟩) (fun c115 => ?_) (fun c115 => ?_)
            · exfalso; omega
            · refine g_aload_n h dX2_become_118 rfl ?_
              refine g_getQ h flX2_23 rfl (by assumption) (by assumption) dX2_become_119 ?_
              refine g_iload_n h dX2_become_122 rfl ?_
              refine g_aald h _ (by assumption) (by unfold arK; omega) (by first | omega | assumption) rfl (by first | omega | assumption) (by decide) (by assumption) dX2_become_123 ?_
              refine g_astore_n h dX2_become_124 (Nat.le_of_ble_eq_true rfl) rfl rfl ?_
              refine g_aload_n h dX2_become_125 rfl ?_
              refine g_getQ h flX2_23 rfl (by assumption) (by assumption) dX2_become_126 ?_
              refine g_iload_n h dX2_become_129 rfl ?_
              refine g_aald h _ (by assumption) (by unfold arK; omega) (by first | omega | assumption) rfl (by first | omega | assumption) (by decide) (by assumption) dX2_become_130 ?_
              refine g_astore h dX2_become_131 (Nat.le_of_ble_eq_true rfl) rfl rfl ?_
              refine g_aload h dX2_become_133 rfl ?_
              refine g_ifnonnull (tgt := 159) h dX2_become_135 (by decide) (fun a135 c135 => by cases c135) (fun c135 => ?_)
              refine g_new h (ci := 3) (56 + i) (by decide) cnX2_21 ins_3 ini_3 wsin_3 s2 (by first | omega | assumption) (by rw [hRm]; simp only [clS]; omega) (by rw [hRm]; simp only [clS]; omega) dX2_become_138 ?_
              refine g_dup h dX2_become_141 rfl ?_
              refine g_iconst h dX2_become_142 ?_
              refine g_iconst h dX2_become_143 ?_
              refine g_iconst h dX2_become_144 ?_
              refine g_iconst h dX2_become_145 ?_
              refine g_callI h rfl [_, _, _, _] (c_X3_init _ _ (56 + i) 0 0 0 0 0 zn) clX2_73 in_X3_init rfl rfl rfl (by rw [hRm]; first | decide | (simp only [clS]; omega)) (by rw [hRm]; first | decide | (simp only [clS]; omega)) (fun _ => Nat.le_of_ble_eq_true rfl) (by rw [hRm]; first | decide | (simp only [clS]; omega)) (by rw [hRm]; first | decide | (simp only [clS]; omega)) dX2_become_146 (fun r146 w146 hp146 => ?_)
              obtain ⟨rfl, hw146⟩ := hp146
              rw [hw146]
              refine g_astore h dX2_become_149 (Nat.le_of_ble_eq_true rfl) rfl rfl ?_
              refine g_aload_n h dX2_become_151 rfl ?_
              refine g_getQ h flX2_23 rfl (by assumption) (by assumption) dX2_become_152 ?_
              refine g_iload_n h dX2_become_155 rfl ?_
              refine g_aload h dX2_become_156 rfl ?_
              refine g_aast h (ci := 3) _ (by assumption) (by unfold arK; omega) (by decide) (by assumption) rfl (by first | omega | assumption) (by decide) dX2_become_158 ?_
              refine g_aload_n h dX2_become_159 rfl ?_
              refine g_ifnull (tgt := 169) h dX2_become_160 (by decide) (fun c160 => by cases c160) (fun a160 c160 => ?_)
              refine g_aload h dX2_become_163 rfl ?_
              refine g_aload_n h dX2_become_165 rfl ?_
              refine g_callV h rfl (ci := 3) [_] (by assumption) (c_X3_become _ _ (56 + i) (q i) 0 0 zn zq (by omega) (Eq.mpr (congrArg (fun f => f 4 = 0 ∨ f 4 = 1) (zr _)) hrun)) clX2_76 (by decide) rfl in_X3_become se_X3_become rfl rfl (by rw [hRm]; first | decide | (simp only [clS]; omega)) (by rw [hRm]; first | decide | (simp only [clS]; omega)) (fun _ => Nat.le_of_ble_eq_true rfl) (by rw [hRm]; first | decide | (simp only [clS]; omega)) (by rw [hRm]; first | decide | (simp only [clS]; omega)) dX2_become_166 (fun r166 w166 hp166 => ?_)
              obtain ⟨rfl, hw166⟩ := hp166
              rw [hw166]
              refine g_iinc h dX2_become_169 rfl (Nat.le_of_ble_eq_true rfl) rfl rfl ?_
              refine g_goto (tgt := 92) h dX2_become_172 (by decide) ?_
              have e2 : 7 * (i - S) + clS 3 = 7 * (i + 1 - S) := by show 7 * (i - S) + 7 = _; omega
              have e1 : i - S + 1 = i + 1 - S := by omega
              have h4 := ih (i + 1) (some (ar (q i))) (some (ar (56 + i))) (by omega)
              rw [← e2, ← e1, show bcP (bcB w L) S q (i + 1) = _ from if_neg hiS, ← bc_new (bcP (bcB w L) S q i) i (q i) (by omega) _ rfl] at h4
              exact h4
  have loop1 : ∀ (d i : Nat) (w1 : AW), i + d = 10 → w1.1 = w.1 → w1.2.2 = w.2.2 → w1.2.1 7 = cpR (w.2.1 7) (w.2.1 (5 + L)) i → w1.2.1 10 = cpR (w.2.1 10) (w.2.1 (8 + L)) i → w1.2.1 13 = cpR (w.2.1 13) (w.2.1 (11 + L)) i →
      (∀ j, j ≠ 7 → j ≠ 10 → j ≠ 13 → w1.2.1 j = w.2.1 j) → GG Γ 2 [some (ar 4), some (ar (2 + L)), some (ai (i : Int)), none, none] [] w1 0 0 := by
    intro d
    induction d with
    | zero =>
      intro i w1 hi h1 h2 e7 e10 e13 eo
      obtain rfl : i = 10 := by omega
      have m2' : w1.1 4 = (102, 0) := by rw [h1]; exact m2
      have m5' : w1.1 7 = (1, 10) := by rw [h1]; exact m5
      have m8' : w1.1 10 = (1, 10) := by rw [h1]; exact m8
      have m11' : w1.1 13 = (1, 10) := by rw [h1]; exact m11
      have k2' : w1.1 (2 + L) = (102, 0) := by rw [h1]; exact k2
      have k5' : w1.1 (5 + L) = (1, 10) := by rw [h1]; exact k5
      have k8' : w1.1 (8 + L) = (1, 10) := by rw [h1]; exact k8
      have k11' : w1.1 (11 + L) = (1, 10) := by rw [h1]; exact k11
      have r0' : w1.2.2 4 0 = some 7 := by rw [h2]; exact r0
      have r1' : w1.2.2 4 1 = some 10 := by rw [h2]; exact r1
      have r2' : w1.2.2 4 2 = some 13 := by rw [h2]; exact r2
      have p0' : w1.2.2 (2 + L) 0 = some (5 + L) := by rw [h2]; exact p0
      have p1' : w1.2.2 (2 + L) 1 = some (8 + L) := by rw [h2]; exact p1
      have p2' : w1.2.2 (2 + L) 2 = some (11 + L) := by rw [h2]; exact p2
      refine g_iload_n h dX2_become_2 rfl ?_
      refine g_bipush h dX2_become_3 rfl ?_
      refine g_icmp_ge (tgt := 50) h dX2_become_5 (by decide) (by first | assumption | exact ⟨by omega, by omega⟩) (by first | assumption | exact ⟨by omega, by omega⟩) (fun c5 => ?_) (fun c5 => ?_)
      · refine g_aload_n h dX2_become_50 rfl ?_
        refine g_aload_n h dX2_become_51 rfl ?_
        refine g_getI h flX2_27 rfl (by assumption) dX2_become_52 ?_
        refine g_putI h flX2_27 rfl rfl (by assumption) dX2_become_55 ?_
        refine g_aload_n h dX2_become_58 rfl ?_
        refine g_aload_n h dX2_become_59 rfl ?_
        refine g_getI h flX2_44 rfl (by assumption) dX2_become_60 ?_
        refine g_putI h flX2_44 rfl rfl (by assumption) dX2_become_63 ?_
        refine g_aload_n h dX2_become_66 rfl ?_
        refine g_aload_n h dX2_become_67 rfl ?_
        refine g_getI h flX2_47 rfl (by assumption) dX2_become_68 ?_
        refine g_putI h flX2_47 rfl rfl (by assumption) dX2_become_71 ?_
        refine g_aload_n h dX2_become_74 rfl ?_
        refine g_aload_n h dX2_become_75 rfl ?_
        refine g_getI h flX2_31 rfl (by assumption) dX2_become_76 ?_
        refine g_putI h flX2_31 rfl rfl (by assumption) dX2_become_79 ?_
        refine g_aload_n h dX2_become_82 rfl ?_
        refine g_aload_n h dX2_become_83 rfl ?_
        refine g_getI h flX2_63 rfl (by assumption) dX2_become_84 ?_
        refine g_putI h flX2_63 rfl rfl (by assumption) dX2_become_87 ?_
        refine g_iconst h dX2_become_90 ?_
        refine g_istore_n h dX2_become_91 (Nat.le_of_ble_eq_true rfl) rfl rfl ?_
        have key : ∀ w2 : AW, w2 = bcB w L → GG Γ 92 [some (ar 4), some (ar (2 + L)), some (ai ((0 : Nat) : Int)), none, none] [] w2 0 0 := by
          rintro w2 rfl
          have h4 := loop2 n 0 none none (by omega)
          rw [show 0 - S = 0 by omega] at h4
          exact h4
        refine key _ (AW_ext h1 h2 fun j => ?_)
        have o4 : w1.2.1 4 = w.2.1 4 := eo 4 (by omega) (by omega) (by omega)
        have oL : w1.2.1 (2 + L) = w.2.1 (2 + L) := eo _ (by omega) (by omega) (by omega)
        have nL : 2 + L ≠ 4 := by omega
        unfold bcB
        simp only [upI_sR, sR_sR, sR_at, sR_ne _ _ nL, o4, oL]
        by_cases j4 : j = 4
        · subst j4
          rw [sR_at, sR_at]
          funext f
          unfold uI bcF
          by_cases hf : 4 ≤ f ∧ f < 9
          · rw [if_pos hf]
            rcases (show f = 4 ∨ f = 5 ∨ f = 6 ∨ f = 7 ∨ f = 8 by omega) with rfl | rfl | rfl | rfl | rfl <;> rfl
          · rw [if_neg hf, if_neg (by omega), if_neg (by omega), if_neg (by omega), if_neg (by omega), if_neg (by omega)]
        · rw [sR_ne _ _ j4, sR_ne _ _ j4]
          by_cases j13 : j = 13
          · subst j13; rw [sR_at]; exact e13
          · rw [sR_ne _ _ j13]
            by_cases j10 : j = 10
            · subst j10; rw [sR_at]; exact e10
            · rw [sR_ne _ _ j10]
              by_cases j7 : j = 7
              · subst j7; rw [sR_at]; exact e7
              · rw [sR_ne _ _ j7]; exact eo j j7 j10 j13
      · exfalso; omega
    | succ d ih =>
      intro i w1 hi h1 h2 e7 e10 e13 eo
      have m2' : w1.1 4 = (102, 0) := by rw [h1]; exact m2
      have m5' : w1.1 7 = (1, 10) := by rw [h1]; exact m5
      have m8' : w1.1 10 = (1, 10) := by rw [h1]; exact m8
      have m11' : w1.1 13 = (1, 10) := by rw [h1]; exact m11
      have k2' : w1.1 (2 + L) = (102, 0) := by rw [h1]; exact k2
      have k5' : w1.1 (5 + L) = (1, 10) := by rw [h1]; exact k5
      have k8' : w1.1 (8 + L) = (1, 10) := by rw [h1]; exact k8
      have k11' : w1.1 (11 + L) = (1, 10) := by rw [h1]; exact k11
      have r0' : w1.2.2 4 0 = some 7 := by rw [h2]; exact r0
      have r1' : w1.2.2 4 1 = some 10 := by rw [h2]; exact r1
      have r2' : w1.2.2 4 2 = some 13 := by rw [h2]; exact r2
      have p0' : w1.2.2 (2 + L) 0 = some (5 + L) := by rw [h2]; exact p0
      have p1' : w1.2.2 (2 + L) 1 = some (8 + L) := by rw [h2]; exact p1
      have p2' : w1.2.2 (2 + L) 2 = some (11 + L) := by rw [h2]; exact p2
      have o5 : w1.2.1 (5 + L) = w.2.1 (5 + L) := eo _ (by omega) (by omega) (by omega)
      have o8 : w1.2.1 (8 + L) = w.2.1 (8 + L) := eo _ (by omega) (by omega) (by omega)
      have o11 : w1.2.1 (11 + L) = w.2.1 (11 + L) := eo _ (by omega) (by omega) (by omega)
      have n1 : 8 + L ≠ 7 := by omega
      have n2 : 11 + L ≠ 7 := by omega
      have n3 : 11 + L ≠ 10 := by omega
      have n4 : (10 : Nat) ≠ 7 := by omega
      have n5 : (13 : Nat) ≠ 7 := by omega
      have n6 : (13 : Nat) ≠ 10 := by omega
      have n7 : (7 : Nat) ≠ 10 := by omega
      have n8 : (7 : Nat) ≠ 13 := by omega
      have n9 : (10 : Nat) ≠ 13 := by omega
      refine g_iload_n h dX2_become_2 rfl ?_
      refine g_bipush h dX2_become_3 rfl ?_
      refine g_icmp_ge (tgt := 50) h dX2_become_5 (by decide) (by first | assumption | exact ⟨by omega, by omega⟩) (by first | assumption | exact ⟨by omega, by omega⟩) (fun c5 => ?_) (fun c5 => ?_)
      · exfalso; omega
      · refine g_aload_n h dX2_become_8 rfl ?_
        refine g_getQ h flX2_9 rfl (by assumption) (by assumption) dX2_become_9 ?_
        refine g_iload_n h dX2_become_12 rfl ?_
        refine g_aload_n h dX2_become_13 rfl ?_
        refine g_getQ h flX2_9 rfl (by assumption) (by assumption) dX2_become_14 ?_
        refine g_iload_n h dX2_become_17 rfl ?_
        refine g_iald h _ (by assumption) rfl (by first | omega | assumption) (by decide) dX2_become_18 ?_
        refine g_iast h _ (by assumption) rfl (by first | omega | assumption) (by decide) dX2_become_19 ?_
        refine g_aload_n h dX2_become_20 rfl ?_
        refine g_getQ h flX2_15 rfl (by assumption) (by assumption) dX2_become_21 ?_
        refine g_iload_n h dX2_become_24 rfl ?_
        refine g_aload_n h dX2_become_25 rfl ?_
        refine g_getQ h flX2_15 rfl (by assumption) (by assumption) dX2_become_26 ?_
        refine g_iload_n h dX2_become_29 rfl ?_
        refine g_iald h _ (by assumption) rfl (by first | omega | assumption) (by decide) dX2_become_30 ?_
        refine g_iast h _ (by assumption) rfl (by first | omega | assumption) (by decide) dX2_become_31 ?_
        refine g_aload_n h dX2_become_32 rfl ?_
        refine g_getQ h flX2_18 rfl (by assumption) (by assumption) dX2_become_33 ?_
        refine g_iload_n h dX2_become_36 rfl ?_
        refine g_aload_n h dX2_become_37 rfl ?_
        refine g_getQ h flX2_18 rfl (by assumption) (by assumption) dX2_become_38 ?_
        refine g_iload_n h dX2_become_41 rfl ?_
        refine g_iald h _ (by assumption) rfl (by first | omega | assumption) (by decide) dX2_become_42 ?_
        refine g_iast h _ (by assumption) rfl (by first | omega | assumption) (by decide) dX2_become_43 ?_
        refine g_iinc h dX2_become_44 rfl (Nat.le_of_ble_eq_true rfl) rfl rfl ?_
        refine g_goto (tgt := 2) h dX2_become_47 (by decide) ?_
        refine ih (i + 1) _ (by omega) h1 h2 ?_ ?_ ?_ (fun j j7 j10 j13 => ?_)
        all_goals simp only [upI_sR]
        · rw [sR_ne _ _ n8, sR_ne _ _ n7, sR_at, cpR_s, e7, o5]
        · rw [sR_ne _ _ n9, sR_at, cpR_s, sR_ne _ _ n4, sR_ne _ _ n1, e10, o8]
        · rw [sR_at, cpR_s, sR_ne _ _ n6, sR_ne _ _ n5, sR_ne _ _ n3, sR_ne _ _ n2, e13, o11]
        · rw [sR_ne _ _ j13, sR_ne _ _ j10, sR_ne _ _ j7]; exact eo j j7 j10 j13
  refine g_iconst h dX2_become_0 ?_
  refine g_istore_n h dX2_become_1 (Nat.le_of_ble_eq_true rfl) rfl rfl ?_
  exact loop1 10 0 w (by omega) rfl rfl (cpR_0 _ _).symm (cpR_0 _ _).symm (cpR_0 _ _).symm (fun _ _ _ _ => rfl)
