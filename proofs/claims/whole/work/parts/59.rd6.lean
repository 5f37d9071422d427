/-! ===== the reader of rules: readRule ===== -/
theorem F3.refl (w : AW) : F3 w w := ⟨rfl, rfl, fun _ _ _ _ => rfl⟩
theorem F3.trans {a b c : AW} (h : F3 a b) (g : F3 b c) : F3 a c := ⟨g.1.trans h.1, g.2.1.trans h.2.1, fun j h1 h2 h3 => (g.2.2 j h1 h2 h3).trans (h.2.2 j h1 h2 h3)⟩
theorem XJ0 (A : Int) : XJ (xs0 A) 0 := by
  unfold XJ xs0
  dsimp only
  exact ⟨⟨by decide, by decide⟩, Or.inl rfl, ⟨by decide, by decide⟩, ⟨by decide, by decide⟩, ⟨by decide, by decide⟩, fun x hx => (by cases hx), fun _ => rfl, fun q => absurd q (by decide), fun q => absurd q (by decide), fun q => absurd q (by decide)⟩
theorem alc_i (w : AW) {k j : Nat} (kd : Nat × Nat) (h : j ≠ k) : (alc w k kd).2.1 j = w.2.1 j := if_neg h
theorem alc_r (w : AW) {k j : Nat} (kd : Nat × Nat) (h : j ≠ k) : (alc w k kd).2.2 j = w.2.2 j := if_neg h
set_option maxRecDepth 100000 in
set_option maxHeartbeats 4000000 in
theorem c_X6_readRule (l : Launch) (w : AW) (n p : Nat) (T : Nat → Int) (hX : XS w) (hT : w.2.1 21 = T) (hn : n ≤ 300) (hTb : ∀ i, i < 300 → 0 ≤ T i ∧ T i < 256) (hp : (w.1 p).1 = 0) (hp1 : (w.1 (p + 1)).1 = 0) (hp2 : p + 1 < 20000) (hp4 : 43 ≤ p) : HT l yX6_readRule cX6_readRule 3 (some (.object "LakeBreath$Rule")) 9 2 302 w [ar 23, ai (n : Int)] (fun r w' => ∃ u, F3 w u ∧ match xRun T n 301 0 (xs0 (w.2.1 23 12)) with | .inl (f, q) => r = some an ∧ w' = u ∧ u.2.1 23 6 = f ∧ u.2.1 23 2 = (q : Int) | .inr s => r = some (ar p) ∧ RDs u s ∧ XJ s 301 ∧ w' = mkR u p s.2.2.1.length s.2.1.2.2) := by
  refine HT.of (by decide) (by intro v hv; simp only [List.mem_cons, List.not_mem_nil, or_false] at hv; rcases hv with rfl | rfl <;> rfl) (Nat.le_of_ble_eq_true rfl) ?_
  intro Γ h hQ hRm hnm hl hw0
  have s23 : w.1 23 = (106, 0) := hX.1 23 (by decide)
  have s21 : w.1 21 = (1, 300) := hX.1 21 (by decide)
  have s24 : w.1 24 = (1, 300) := hX.1 24 (by decide)
  have p23_0 : w.2.2 23 0 = some 21 := hX.2 (23, 0, 21) (by decide)
  have p23_13 : w.2.2 23 13 = some 24 := hX.2 (23, 13, 24) (by decide)
  have fin : ∀ (s : XP) (u : AW) (i : Int), F3 w u → RDs u s → XJ s 301 → xRun T n 301 0 (xs0 (w.2.1 23 12)) = .inr s → GG Γ 95 [some (ar 23), some (ai (n : Int)), some (ai i)] [] u 0 0 := by
    intro s u i hF hr hJ hrun
    obtain ⟨r7, r8, r9, r10, r11, r12, r14, r16, rc, rw1⟩ := id hr
    have hXu := XS_of hF.1 hF.2.1 hX
    have s23u : u.1 23 = (106, 0) := hXu.1 23 (by decide)
    have hcl : s.2.2.1.length ≤ 299 := by
      obtain ⟨g1, g2, g3, g4, g5, g6, g7, g8, g9, g10⟩ := hJ
      omega
    have hfr : (u.1 p).1 = 0 := by rw [hF.1]; exact hp
    have hfr1 : (u.1 (p + 1)).1 = 0 := by rw [hF.1]; exact hp1
    have t23 : (alc u p (104, 0)).1 23 = (106, 0) := (alc_ne _ _ (by omega)).trans s23u
    have t24 : (alc u p (104, 0)).1 24 = (1, 300) := (alc_ne _ _ (by omega)).trans (hXu.1 24 (by decide))
    have tp13 : (alc u p (104, 0)).2.2 23 13 = some 24 := (congrFun (alc_r _ _ (by omega)) 13).trans (hXu.2 (23, 13, 24) (by decide))
    have e12 : (alc u p (104, 0)).2.1 23 12 = s.2.1.2.2 := (congrFun (alc_i _ _ (by omega)) 12).trans r12
    have e14 : (alc u p (104, 0)).2.1 23 14 = (s.2.2.1.length : Int) := (congrFun (alc_i _ _ (by omega)) 14).trans r14
    refine g_aload_n h dX6_readRule_95 rfl ?_
    refine g_getI h flX6_53 rfl s23u dX6_readRule_96 ?_
    rw [r14]
    refine g_if_ge (tgt := 106) h dX6_readRule_99 (by decide) (by first | assumption | exact ⟨by omega, by omega⟩) (fun c99 => ?_) (fun c99 => ?_)
    · refine g_new h (ci := 4) (p) (by decide) cnX6_66 ins_4 ini_4 wsin_4 hfr (by first | omega | assumption) (by rw [hRm]; simp only [clS]; omega) (by rw [hRm]; simp only [clS]; omega) dX6_readRule_106 ?_
      refine g_dup h dX6_readRule_109 rfl ?_
      refine g_aload_n h dX6_readRule_110 rfl ?_
      refine g_getI h flX6_68 rfl (by assumption) dX6_readRule_111 ?_
      rw [e12]
      refine g_aload_n h dX6_readRule_114 rfl ?_
      refine g_getQ h flX6_9 rfl (by assumption) (by assumption) dX6_readRule_115 ?_
      refine g_aload_n h dX6_readRule_118 rfl ?_
      refine g_getI h flX6_53 rfl (by assumption) dX6_readRule_119 ?_
      rw [e14]
      refine g_callS h rfl [_, _] (c_J7_copyOf_59c91 _ _ 24 (p + 1) 300 s.2.2.1.length t24 (by omega) (by decide) ((congrArg Prod.fst (alc_ne u (104, 0) (show p + 1 ≠ p by omega))).trans hfr1) hp2) clX6_71 st_J7_copyOf_59c91 rfl rfl (by rw [hRm]; first | decide | (simp only [clS]; omega)) (by rw [hRm]; first | decide | (simp only [clS]; omega)) (fun _ => Nat.le_of_ble_eq_true rfl) (by rw [hRm]; first | decide | (simp only [clS]; omega)) (by rw [hRm]; first | decide | (simp only [clS]; omega)) dX6_readRule_122 (fun r122 w122 hp122 => ?_)
      obtain ⟨rfl, hw122⟩ := hp122
      rw [hw122]
      refine g_callI h rfl [_, _] (c_X4_init _ _ p (p + 1) 0 s.2.1.2.2 ((alc_ne _ _ (by omega)).trans (alc_at _ _ _))) clX6_77 in_X4_init rfl rfl rfl (by rw [hRm]; first | decide | (simp only [clS]; omega)) (by rw [hRm]; first | decide | (simp only [clS]; omega)) (fun _ => Nat.le_of_ble_eq_true rfl) (by rw [hRm]; first | decide | (simp only [clS]; omega)) (by rw [hRm]; first | decide | (simp only [clS]; omega)) dX6_readRule_125 (fun r125 w125 hp125 => ?_)
      obtain ⟨rfl, hw125⟩ := hp125
      rw [hw125]
      refine g_aret h hQ (by first | decide | omega | (simp only [clS]; omega)) (by first | decide | omega | (simp only [clS]; omega)) ?_ dX6_readRule_128
      refine ⟨u, hF, ?_⟩
      rw [hrun]
      exact ⟨rfl, hr, hJ, rfl⟩
    · exfalso; omega
  have loop : ∀ (d i a : Nat) (s : XP) (u : AW), i + d = 301 → XJ s i → (s.1.1 ≠ 6 → a ≤ n) → F3 w u → RXc u T n → u.2.1 23 3 = (a : Int) → RDs u s → xRun T n d a s = xRun T n 301 0 (xs0 (w.2.1 23 12)) → GG Γ 60 [some (ar 23), some (ai (n : Int)), some (ai (i : Int))] [] u 0 0 := by
    intro d
    induction d with
    | zero =>
      intro i a s u hi hJ ha hF hc h3 hr hrun
      obtain rfl : i = 301 := by omega
      refine g_iload_n h dX6_readRule_60 rfl ?_
      refine g_sipush h dX6_readRule_61 rfl ?_
      refine g_icmp_gt (tgt := 95) h dX6_readRule_64 (by decide) (by first | assumption | exact ⟨by omega, by omega⟩) (by first | assumption | exact ⟨by omega, by omega⟩) (fun c64 => ?_) (fun c64 => ?_)
      · exact fin s u _ hF hr hJ hrun.symm
      · exfalso; omega
    | succ d ih =>
      intro i a s u hi hJ ha hF hc h3 hr hrun
      obtain ⟨r7, r8, r9, r10, r11, r12, r14, r16, rc, rw1⟩ := id hr
      have hXu := hc.1
      have s23u : u.1 23 = (106, 0) := hXu.1 23 (by decide)
      have hst : 0 ≤ s.1.1 ∧ s.1.1 ≤ 6 := hJ.1
      by_cases h6 : s.1.1 = 6
      · have hJ2 : XJ s 301 := by
          obtain ⟨g1, g2, g3, g4, g5, g6, g7, g8, g9, g10⟩ := hJ
          exact ⟨g1, g2, g3, g4, g5, g6, g7, fun q => by have := g8 q; omega, fun q => by omega, g10⟩
        rw [xRun_6 h6] at hrun
        refine g_iload_n h dX6_readRule_60 rfl ?_
        refine g_sipush h dX6_readRule_61 rfl ?_
        refine g_icmp_gt (tgt := 95) h dX6_readRule_64 (by decide) (by first | assumption | exact ⟨by omega, by omega⟩) (by first | assumption | exact ⟨by omega, by omega⟩) (fun c64 => ?_) (fun c64 => ?_)
        · first | (exfalso; omega) | exact fin s u _ hF hr hJ2 hrun.symm
        · refine g_aload_n h dX6_readRule_67 rfl ?_
          refine g_getI h flX6_37 rfl (by assumption) dX6_readRule_68 ?_
          rw [r7]
          refine g_bipush h dX6_readRule_71 rfl ?_
          refine g_icmp_eq (tgt := 95) h dX6_readRule_73 (by decide) (by first | assumption | exact ⟨by omega, by omega⟩) (by first | assumption | exact ⟨by omega, by omega⟩) (fun c73 => ?_) (fun c73 => ?_)
          · first | (exfalso; omega) | exact fin s u _ hF hr hJ2 hrun.symm
          · exfalso; omega
      · have ha2 := ha h6
        have hsk := runF_bd isBb T (n - a) a
        have hskn : skF T n a ≤ n := by unfold skF; omega
        obtain ⟨k1, k2, k3⟩ := tokF_bd hTb hn hskn
        refine g_iload_n h dX6_readRule_60 rfl ?_
        refine g_sipush h dX6_readRule_61 rfl ?_
        refine g_icmp_gt (tgt := 95) h dX6_readRule_64 (by decide) (by first | assumption | exact ⟨by omega, by omega⟩) (by first | assumption | exact ⟨by omega, by omega⟩) (fun c64 => ?_) (fun c64 => ?_)
        · exfalso; omega
        · refine g_aload_n h dX6_readRule_67 rfl ?_
          refine g_getI h flX6_37 rfl (by assumption) dX6_readRule_68 ?_
          rw [r7]
          refine g_bipush h dX6_readRule_71 rfl ?_
          refine g_icmp_eq (tgt := 95) h dX6_readRule_73 (by decide) (by first | assumption | exact ⟨by omega, by omega⟩) (by first | assumption | exact ⟨by omega, by omega⟩) (fun c73 => ?_) (fun c73 => ?_)
          · exfalso; omega
          · refine g_aload_n h dX6_readRule_76 rfl ?_
            refine g_callV h rfl (ci := 6) [] (by assumption) (c_X6_readToken _ _ T n a hc h3 (by omega) (by omega)) clX6_59 (by decide) rfl in_X6_readToken se_X6_readToken rfl rfl (by rw [hRm]; first | decide | (simp only [clS]; omega)) (by rw [hRm]; first | decide | (simp only [clS]; omega)) (fun _ => Nat.le_of_ble_eq_true rfl) (by rw [hRm]; first | decide | (simp only [clS]; omega)) (by rw [hRm]; first | decide | (simp only [clS]; omega)) dX6_readRule_77 (fun r77 w77 hp77 => ?_)
            obtain ⟨rfl, g1, g2, g3, g4⟩ := hp77
            have hX2 : XS w77 := XS_of g1 g2 hXu
            have s23v : w77.1 23 = (106, 0) := hX2.1 23 (by decide)
            have hf : ∀ f, 6 ≤ f → w77.2.1 23 f = u.2.1 23 f := fun f hf => by
              rw [g4]
              unfold rowK
              rw [if_neg (by omega), if_neg (by omega), if_neg (by omega)]
              exact if_neg (by omega)
            have hrv : RDs w77 s := ⟨(hf 7 (by decide)).trans r7, (hf 8 (by decide)).trans r8, (hf 9 (by decide)).trans r9, (hf 10 (by decide)).trans r10, (hf 11 (by decide)).trans r11, (hf 12 (by decide)).trans r12, (hf 14 (by decide)).trans r14, (hf 16 (by decide)).trans r16, fun i hi => by rw [g3 24 (by decide)]; exact rc i hi, by rw [g3 25 (by decide)]; exact rw1⟩
            have hFv : F3 w w77 := hF.trans ⟨g1, g2, fun j h1 _ _ => g3 j h1⟩
            have e2 : w77.2.1 23 2 = (skF T n a : Int) := by rw [g4]; rfl
            have e3 : w77.2.1 23 3 = ((tokF T n (skF T n a)).2.2 : Int) := by rw [g4]; rfl
            have e4 : w77.2.1 23 4 = (tokF T n (skF T n a)).1 := by rw [g4]; rfl
            have e5 : w77.2.1 23 5 = (tokF T n (skF T n a)).2.1 := by rw [g4]; rfl
            have hcv : RXc w77 T n := RXc_of g1 g2 (g3 21 (by decide)) (by rw [g4]; rfl) hc
            have hkv : 0 ≤ (tokF T n (skF T n a)).1 ∧ (tokF T n (skF T n a)).1 ≤ 7 := k1.1
            have hvv := k1.2.1
            refine g_aload_n h dX6_readRule_80 rfl ?_
            refine g_callV h rfl (ci := 6) [] (by assumption) (c_X6_takeToken _ _ s.1.1 s.1.2.1 s.1.2.2 s.2.1.1 s.2.1.2.1 s.2.1.2.2 s.2.2.1 s.2.2.2 (tokF T n (skF T n a)).1 (tokF T n (skF T n a)).2.1 hX2 hrv e4 e5 hkv ⟨by omega, by omega⟩ (XJ_XB hJ (by omega))) clX6_62 (by decide) rfl in_X6_takeToken se_X6_takeToken rfl rfl (by rw [hRm]; first | decide | (simp only [clS]; omega)) (by rw [hRm]; first | decide | (simp only [clS]; omega)) (fun _ => Nat.le_of_ble_eq_true rfl) (by rw [hRm]; first | decide | (simp only [clS]; omega)) (by rw [hRm]; first | decide | (simp only [clS]; omega)) dX6_readRule_81 (fun r81 w81 hp81 => ?_)
            have HZ : Pt w77 (xT s (tokF T n (skF T n a)).1 (tokF T n (skF T n a)).2.1) r81 w81 := hp81
            clear hp81
            cases e9 : xT s (tokF T n (skF T n a)).1 (tokF T n (skF T n a)).2.1 with
            | inl f =>
              rw [e9] at HZ
              obtain ⟨hF9, rfl, h69⟩ := HZ
              refine g_if_ne (tgt := 89) h dX6_readRule_84 (by decide) (by first | assumption | exact ⟨by omega, by omega⟩) (fun c84 => ?_) (fun c84 => ?_)
              · exfalso; omega
              · refine g_null h dX6_readRule_87 ?_
                refine g_aret h hQ (by first | decide | omega | (simp only [clS]; omega)) (by first | decide | omega | (simp only [clS]; omega)) ?_ dX6_readRule_88
                refine ⟨w81, hFv.trans ⟨hF9.1, hF9.2.1, hF9.2.2.1⟩, ?_⟩
                rw [← hrun, xRun_l h6 e9]
                exact ⟨rfl, rfl, h69, (hF9.2.2.2 2 (by decide)).trans e2⟩
            | inr s2 =>
              rw [e9] at HZ
              obtain ⟨hF9, rfl, hr2⟩ := HZ
              refine g_if_ne (tgt := 89) h dX6_readRule_84 (by decide) (by first | assumption | exact ⟨by omega, by omega⟩) (fun c84 => ?_) (fun c84 => ?_)
              · refine g_iinc h dX6_readRule_89 rfl (Nat.le_of_ble_eq_true rfl) rfl rfl ?_
                refine g_goto (tgt := 60) h dX6_readRule_92 (by decide) ?_
                obtain ⟨hJ2, hend⟩ := xT_J hJ k1 e9
                refine ih (i + 1) (tokF T n (skF T n a)).2.2 s2 w81 (by omega) hJ2 (fun q => ?_) (hFv.trans ⟨hF9.1, hF9.2.1, hF9.2.2.1⟩) (RXc_of hF9.1 hF9.2.1 (hF9.2.2.1 21 (by decide) (by decide) (by decide)) (hF9.2.2.2 1 (by decide)) hcv) ((hF9.2.2.2 3 (by decide)).trans e3) hr2 ?_
                · by_cases hpn : skF T n a < n
                  · exact (k2 hpn).2.2
                  · exact absurd (hend (k3 (by omega)).1) q
                · rw [← hrun, xRun_r h6 e9]
              · exfalso; omega
  refine g_aload_n h dX6_readRule_0 rfl ?_
  refine g_iload_n h dX6_readRule_1 rfl ?_
  refine g_aload_n h dX6_readRule_2 rfl ?_
  refine g_getQ h flX6_18 rfl (by first | assumption | exact s23) (by first | assumption | exact s23) dX6_readRule_3 ?_
  refine g_alen h (by first | assumption | exact s23) (by unfold arK; omega) dX6_readRule_6 ?_
  refine g_min h rfl mminX6_21 ⟨by omega, by omega⟩ ⟨by omega, by omega⟩ (by rw [hRm]; decide) (by rw [hRm]; decide) (fun _ => Nat.le_of_ble_eq_true rfl) (by rw [hRm]; decide) (by rw [hRm]; decide) dX6_readRule_7 ?_
  rw [show min (n : Int) ((300 : Nat) : Int) = (n : Int) by omega]
  refine g_putI h flX6_27 rfl rfl (by first | assumption | exact s23) dX6_readRule_10 ?_
  refine g_aload_n h dX6_readRule_13 rfl ?_
  refine g_iconst h dX6_readRule_14 ?_
  refine g_putI h flX6_31 rfl rfl (by first | assumption | exact s23) dX6_readRule_15 ?_
  refine g_aload_n h dX6_readRule_18 rfl ?_
  refine g_iconst h dX6_readRule_19 ?_
  refine g_putI h flX6_34 rfl rfl (by first | assumption | exact s23) dX6_readRule_20 ?_
  refine g_aload_n h dX6_readRule_23 rfl ?_
  refine g_iconst h dX6_readRule_24 ?_
  refine g_putI h flX6_37 rfl rfl (by first | assumption | exact s23) dX6_readRule_25 ?_
  refine g_aload_n h dX6_readRule_28 rfl ?_
  refine g_iconst h dX6_readRule_29 ?_
  refine g_putZ h flX6_40 rfl rfl (by first | assumption | exact s23) (by omega) dX6_readRule_30 ?_
  refine g_aload_n h dX6_readRule_33 rfl ?_
  refine g_iconst h dX6_readRule_34 ?_
  refine g_putI h flX6_44 rfl rfl (by first | assumption | exact s23) dX6_readRule_35 ?_
  refine g_aload_n h dX6_readRule_38 rfl ?_
  refine g_iconst h dX6_readRule_39 ?_
  refine g_putI h flX6_47 rfl rfl (by first | assumption | exact s23) dX6_readRule_40 ?_
  refine g_aload_n h dX6_readRule_43 rfl ?_
  refine g_iconst h dX6_readRule_44 ?_
  refine g_putI h flX6_50 rfl rfl (by first | assumption | exact s23) dX6_readRule_45 ?_
  refine g_aload_n h dX6_readRule_48 rfl ?_
  refine g_iconst h dX6_readRule_49 ?_
  refine g_putI h flX6_53 rfl rfl (by first | assumption | exact s23) dX6_readRule_50 ?_
  refine g_aload_n h dX6_readRule_53 rfl ?_
  refine g_iconst h dX6_readRule_54 ?_
  refine g_putI h flX6_56 rfl rfl (by first | assumption | exact s23) dX6_readRule_55 ?_
  refine g_iconst h dX6_readRule_58 ?_
  refine g_istore_n h dX6_readRule_59 (Nat.le_of_ble_eq_true rfl) rfl rfl ?_
  exact loop 301 0 0 (xs0 (w.2.1 23 12)) _ (by omega) (XJ0 _) (fun _ => Nat.zero_le _) ⟨rfl, rfl, fun j h1 _ _ => by simp only [upI_sR, sR_ne _ _ h1]⟩ ⟨XS_of rfl rfl hX, hT, rfl, hn, hTb⟩ rfl ⟨rfl, rfl, rfl, rfl, rfl, rfl, rfl, rfl, fun i hi => absurd hi (Nat.not_lt_zero i), trivial⟩ rfl
