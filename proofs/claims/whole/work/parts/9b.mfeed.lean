/-! ===== M: the tape is fed, rules repealed ===== -/
/-- a byte's number as the machine tells it -/
def sg (x : Int) : Int := if x < 128 then x else x - 256
theorem shr_ok {z b : Int} (hz : R32 z) {s : Nat} (hs : s = 24 ∨ s = 16 ∨ s = 8 ∨ s = 0) (hb : b = (s : Int)) : Int32.ofInt z >>> (Int32.ofInt b &&& 31) = Int32.ofInt (z / 2 ^ s) := by
  subst hb
  have hd : R32 (z / 2 ^ s) := by
    rcases hs with rfl | rfl | rfl | rfl <;> exact ⟨by omega, by omega⟩
  rw [← Int32.toInt_inj, hd.toInt]
  have e : (Int32.ofInt z >>> (Int32.ofInt (s : Int) &&& 31)).toInt = ((Int32.ofInt z).toBitVec.sshiftRight' ((Int32.ofInt (s : Int) &&& 31).toBitVec.smod 32)).toInt := rfl
  rw [e, BitVec.toInt_sshiftRight']
  have h1 : (Int32.ofInt z).toBitVec.toInt = z := hz.toInt
  have h2 : ((Int32.ofInt (s : Int) &&& 31).toBitVec.smod 32).toNat = s := by
    rcases hs with rfl | rfl | rfl | rfl <;> decide
  rw [h1, h2, Int.shiftRight_eq_div_pow]
  rfl
theorem sg_bd {x : Int} (h : 0 ≤ x ∧ x < 256) : -128 ≤ sg x ∧ sg x ≤ 127 := by unfold sg; split <;> omega
theorem b8_ok {x : Int} (h : -128 ≤ x ∧ x ≤ 127) : (Int32.ofInt x).toInt8.toInt32 = Int32.ofInt x := by
  have hx : R32 x := ⟨by omega, by omega⟩
  rw [← Int32.toInt_inj, Int8.toInt_toInt32, Int32.toInt_toInt8, hx.toInt, Int.bmod_def]
  split <;> omega
theorem i2b_ok {z : Int} {s : Nat} (hz : R32 (z / 2 ^ s)) : (Int32.ofInt (z / 2 ^ s)).toInt8.toInt32 = Int32.ofInt (sg (byF z s)) := by
  have hb : 0 ≤ byF z s ∧ byF z s < 256 := by unfold byF; omega
  have hs := sg_bd hb
  have hx : R32 (sg (byF z s)) := ⟨by omega, by omega⟩
  rw [← Int32.toInt_inj, Int8.toInt_toInt32, Int32.toInt_toInt8, hz.toInt, hx.toInt, Int.bmod_def]
  unfold sg byF at *
  generalize z / 2 ^ s = q at *
  split <;> split <;> omega
def fvF (a b c d e : Int) (k : Nat) : Int := if k < 4 then a else if k < 8 then b else if k < 12 then c else if k < 16 then d else e
def fdF (old : Nat → Int) (tl : Nat) (v : Nat → Int) (k : Nat) : Nat → Int := fun j => if tl ≤ j ∧ j < tl + k then sg (byF (v (j - tl)) (24 - 8 * ((j - tl) % 4))) else old j
theorem fdF_0 (old : Nat → Int) (tl : Nat) (v : Nat → Int) : fdF old tl v 0 = old := funext fun j => if_neg (by omega)
theorem fdF_s (old : Nat → Int) (tl : Nat) (v : Nat → Int) (k : Nat) : fdF old tl v (k + 1) = uI (fdF old tl v k) (tl + k) (sg (byF (v k) (24 - 8 * (k % 4)))) := by
  funext j
  unfold uI fdF
  by_cases hj : j = tl + k
  · rw [if_pos hj, if_pos (by omega), show j - tl = k by omega]
  · rw [if_neg hj]
    by_cases hj2 : tl ≤ j ∧ j < tl + k
    · rw [if_pos hj2, if_pos (by omega)]
    · rw [if_neg hj2, if_neg (by omega)]
def fdW (w : AW) (tl : Nat) (v : Nat → Int) (k : Nat) : AW := upI (sR w 446 (fdF (w.2.1 446) tl v k)) 400 47 ((tl : Int) + (k : Int))
set_option maxRecDepth 100000 in
set_option maxHeartbeats 4000000 in
theorem c_X12_feed (l : Launch) (w : AW) (tl : Nat) (a b c d e : Int) (hM : MS w) (ht : w.2.1 400 47 = (tl : Int)) (h3 : tl ≤ 300) (ha : R32 a) (hb : R32 b) (hc : R32 c) (hd : R32 d) (he : R32 e) : HT l yX12_feed cX12_feed 8 (some .int) 1 0 0 w [ar 400, ai a, ai b, ai c, ai d, ai e] (fun r w' => r = some (ai (if tl + 20 ≤ 300 then (tl : Int) + 20 else -1)) ∧ w' = (if tl + 20 ≤ 300 then fdW (th w) tl (fvF a b c d e) 20 else th w)) := by
  refine HT.of (by decide) (by intro v hv; simp only [List.mem_cons, List.not_mem_nil, or_false] at hv; rcases hv with rfl | rfl | rfl | rfl | rfl | rfl <;> rfl) (Nat.le_of_ble_eq_true rfl) ?_
  intro Γ h hQ hRm hnm hl hw0
  have s400 : w.1 400 = (112, 0) := hM.1 400 (by decide) (by decide)
  have s446 : w.1 446 = (2, 300) := hM.1 446 (by decide) (by decide)
  have p46 : w.2.2 400 46 = some 446 := hM.2 (400, 46, 446) (by decide)
  have e47 : (upI w 400 0 0).2.1 400 47 = (tl : Int) := ht
  have loop : tl + 20 ≤ 300 → ∀ (d' k : Nat) (x : Option AV), k + d' = 20 → GG Γ 23 [some (ar 400), some (ai a), some (ai b), some (ai c), some (ai d), some (ai e), some (ai (k : Int)), x] [] (fdW (th w) tl (fvF a b c d e) k) 0 0 := by
    intro htl d'
    induction d' with
    | zero =>
      intro k x hk
      obtain rfl : k = 20 := by omega
      have f47 : (fdW (th w) tl (fvF a b c d e) 20).2.1 400 47 = (tl : Int) + ((20 : Nat) : Int) := rfl
      refine g_iload h dX12_feed_23 rfl ?_
      refine g_bipush h dX12_feed_25 rfl ?_
      refine g_icmp_ge (tgt := 117) h dX12_feed_27 (by decide) (by first | assumption | exact ⟨by omega, by omega⟩) (by first | assumption | exact ⟨by omega, by omega⟩) (fun c27 => ?_) (fun c27 => ?_)
      · refine g_aload_n h dX12_feed_117 rfl ?_
        refine g_getI h flX12_453 rfl (by assumption) dX12_feed_118 ?_
        rw [f47]
        refine g_iret h hQ (by first | decide | omega | (simp only [clS]; omega)) (by first | decide | omega | (simp only [clS]; omega)) ?_ dX12_feed_121
        exact ⟨by rw [if_pos htl]; rfl, by rw [if_pos htl]⟩
      · exfalso; omega
    | succ d' ih =>
      intro k x hk
      have f47 : (fdW (th w) tl (fvF a b c d e) k).2.1 400 47 = (tl : Int) + (k : Int) := rfl
      have hk4 : 0 ≤ (k : Int) % 4 ∧ (k : Int) % 4 < 4 := ⟨by omega, by omega⟩
      have hsc : (24 - 8 * (k % 4)) = 24 ∨ (24 - 8 * (k % 4)) = 16 ∨ (24 - 8 * (k % 4)) = 8 ∨ (24 - 8 * (k % 4)) = 0 := by omega
      have one : ∀ (v : Int), R32 v → fvF a b c d e k = v → GG Γ 76 [some (ar 400), some (ai a), some (ai b), some (ai c), some (ai d), some (ai e), some (ai (k : Int)), x] [ai v] (fdW (th w) tl (fvF a b c d e) k) 0 0 := by
        intro v hv hf
        have hvd : R32 (v / 2 ^ (24 - 8 * (k % 4))) := by
          rcases hsc with q | q | q | q <;> rw [q] <;> exact ⟨by omega, by omega⟩
        have hbb : 0 ≤ byF v (24 - 8 * (k % 4)) ∧ byF v (24 - 8 * (k % 4)) < 256 := by unfold byF; omega
        have ih2 := ih (k + 1) (some (ai v)) (by omega)
        have hst : fdW (th w) tl (fvF a b c d e) (k + 1) = upI (upI (fdW (th w) tl (fvF a b c d e) k) 446 (tl + k) (sg (byF v (24 - 8 * (k % 4))))) 400 47 ((tl : Int) + (k : Int) + 1) := by
          unfold fdW
          rw [fdF_s, hf]
          refine aw_ext rfl (fun j => ?_) rfl
          by_cases q1 : j = 400
          · subst q1
            show uI (th w |>.2.1 400) 47 _ = uI (uI (th w |>.2.1 400) 47 _) 47 _
            rw [uI_uI]
            congr 1
          by_cases q2 : j = 446
          · subst q2; rfl
          rw [upI_o _ _ _ q1, sR_ne _ _ q2, upI_o _ _ _ q1, upI_o _ _ _ q2, upI_o _ _ _ q1, sR_ne _ _ q2]
        rw [hst] at ih2
        have g47 : (upI (fdW (th w) tl (fvF a b c d e) k) 446 (tl + k) (sg (byF v (24 - 8 * (k % 4))))).2.1 400 47 = (tl : Int) + (k : Int) := rfl
        refine g_istore h dX12_feed_76 (Nat.le_of_ble_eq_true rfl) rfl rfl ?_
        refine g_aload_n h dX12_feed_78 rfl ?_
        refine g_getQ h flX12_130 rfl (by assumption) (by assumption) dX12_feed_79 ?_
        refine g_aload_n h dX12_feed_82 rfl ?_
        refine g_getI h flX12_453 rfl (by assumption) dX12_feed_83 ?_
        rw [f47]
        refine g_iload h dX12_feed_86 rfl ?_
        refine g_bipush h dX12_feed_88 rfl ?_
        refine g_bipush h dX12_feed_90 rfl ?_
        refine g_iload h dX12_feed_92 rfl ?_
        refine g_iconst h dX12_feed_94 ?_
        refine g_irem h (by first | assumption | exact ⟨by omega, by omega⟩) (by first | assumption | exact ⟨by omega, by omega⟩) (by first | omega | assumption) (by first | omega | assumption) dX12_feed_95 ?_
        refine g_imul h dX12_feed_96 ?_
        refine g_isub h dX12_feed_97 ?_
        refine g_ishr h (v := v / 2 ^ (24 - 8 * (k % 4))) (shr_ok hv hsc (by omega)) dX12_feed_98 ?_
        refine g_i2b h (v := sg (byF v (24 - 8 * (k % 4)))) (i2b_ok hvd) dX12_feed_99 ?_
        refine g_bast h (tl + k) (by assumption) (by first | omega | assumption) (by first | omega | assumption) (by first | decide | omega) (b8_ok (sg_bd hbb)) dX12_feed_100 ?_
        refine g_aload_n h dX12_feed_101 rfl ?_
        refine g_dup h dX12_feed_102 rfl ?_
        refine g_getI h flX12_453 rfl (by assumption) dX12_feed_103 ?_
        rw [g47]
        refine g_iconst h dX12_feed_106 ?_
        refine g_iadd h dX12_feed_107 ?_
        refine g_putI h flX12_453 rfl rfl (by assumption) dX12_feed_108 ?_
        refine g_iinc h dX12_feed_111 rfl (Nat.le_of_ble_eq_true rfl) rfl rfl ?_
        refine g_goto (tgt := 23) h dX12_feed_114 (by decide) ?_
        exact ih2
      refine g_iload h dX12_feed_23 rfl ?_
      refine g_bipush h dX12_feed_25 rfl ?_
      refine g_icmp_ge (tgt := 117) h dX12_feed_27 (by decide) (by first | assumption | exact ⟨by omega, by omega⟩) (by first | assumption | exact ⟨by omega, by omega⟩) (fun c27 => ?_) (fun c27 => ?_)
      · exfalso; omega
      · refine g_iload h dX12_feed_30 rfl ?_
        refine g_iconst h dX12_feed_32 ?_
        refine g_icmp_ge (tgt := 40) h dX12_feed_33 (by decide) (by first | assumption | exact ⟨by omega, by omega⟩) (by first | assumption | exact ⟨by omega, by omega⟩) (fun c33 => ?_) (fun c33 => ?_)
        · refine g_iload h dX12_feed_40 rfl ?_
          refine g_bipush h dX12_feed_42 rfl ?_
          refine g_icmp_ge (tgt := 51) h dX12_feed_44 (by decide) (by first | assumption | exact ⟨by omega, by omega⟩) (by first | assumption | exact ⟨by omega, by omega⟩) (fun c44 => ?_) (fun c44 => ?_)
          · refine g_iload h dX12_feed_51 rfl ?_
            refine g_bipush h dX12_feed_53 rfl ?_
            refine g_icmp_ge (tgt := 62) h dX12_feed_55 (by decide) (by first | assumption | exact ⟨by omega, by omega⟩) (by first | assumption | exact ⟨by omega, by omega⟩) (fun c55 => ?_) (fun c55 => ?_)
            · refine g_iload h dX12_feed_62 rfl ?_
              refine g_bipush h dX12_feed_64 rfl ?_
              refine g_icmp_ge (tgt := 74) h dX12_feed_66 (by decide) (by first | assumption | exact ⟨by omega, by omega⟩) (by first | assumption | exact ⟨by omega, by omega⟩) (fun c66 => ?_) (fun c66 => ?_)
              · refine g_iload h dX12_feed_74 rfl ?_
                first
                | (exfalso; omega)
                | exact one _ ha (by unfold fvF; (repeat first | rw [if_pos (by omega)] | rw [if_neg (by omega)]))
                | exact one _ hb (by unfold fvF; (repeat first | rw [if_pos (by omega)] | rw [if_neg (by omega)]))
                | exact one _ hc (by unfold fvF; (repeat first | rw [if_pos (by omega)] | rw [if_neg (by omega)]))
                | exact one _ hd (by unfold fvF; (repeat first | rw [if_pos (by omega)] | rw [if_neg (by omega)]))
                | exact one _ he (by unfold fvF; (repeat first | rw [if_pos (by omega)] | rw [if_neg (by omega)]))
              · refine g_iload h dX12_feed_69 rfl ?_
                refine g_goto (tgt := 76) h dX12_feed_71 (by decide) ?_
                first
                | (exfalso; omega)
                | exact one _ ha (by unfold fvF; (repeat first | rw [if_pos (by omega)] | rw [if_neg (by omega)]))
                | exact one _ hb (by unfold fvF; (repeat first | rw [if_pos (by omega)] | rw [if_neg (by omega)]))
                | exact one _ hc (by unfold fvF; (repeat first | rw [if_pos (by omega)] | rw [if_neg (by omega)]))
                | exact one _ hd (by unfold fvF; (repeat first | rw [if_pos (by omega)] | rw [if_neg (by omega)]))
                | exact one _ he (by unfold fvF; (repeat first | rw [if_pos (by omega)] | rw [if_neg (by omega)]))
            · refine g_iload_n h dX12_feed_58 rfl ?_
              refine g_goto (tgt := 76) h dX12_feed_59 (by decide) ?_
              first
              | (exfalso; omega)
              | exact one _ ha (by unfold fvF; (repeat first | rw [if_pos (by omega)] | rw [if_neg (by omega)]))
              | exact one _ hb (by unfold fvF; (repeat first | rw [if_pos (by omega)] | rw [if_neg (by omega)]))
              | exact one _ hc (by unfold fvF; (repeat first | rw [if_pos (by omega)] | rw [if_neg (by omega)]))
              | exact one _ hd (by unfold fvF; (repeat first | rw [if_pos (by omega)] | rw [if_neg (by omega)]))
              | exact one _ he (by unfold fvF; (repeat first | rw [if_pos (by omega)] | rw [if_neg (by omega)]))
          · refine g_iload_n h dX12_feed_47 rfl ?_
            refine g_goto (tgt := 76) h dX12_feed_48 (by decide) ?_
            first
            | (exfalso; omega)
            | exact one _ ha (by unfold fvF; (repeat first | rw [if_pos (by omega)] | rw [if_neg (by omega)]))
            | exact one _ hb (by unfold fvF; (repeat first | rw [if_pos (by omega)] | rw [if_neg (by omega)]))
            | exact one _ hc (by unfold fvF; (repeat first | rw [if_pos (by omega)] | rw [if_neg (by omega)]))
            | exact one _ hd (by unfold fvF; (repeat first | rw [if_pos (by omega)] | rw [if_neg (by omega)]))
            | exact one _ he (by unfold fvF; (repeat first | rw [if_pos (by omega)] | rw [if_neg (by omega)]))
        · refine g_iload_n h dX12_feed_36 rfl ?_
          refine g_goto (tgt := 76) h dX12_feed_37 (by decide) ?_
          first
          | (exfalso; omega)
          | exact one _ ha (by unfold fvF; (repeat first | rw [if_pos (by omega)] | rw [if_neg (by omega)]))
          | exact one _ hb (by unfold fvF; (repeat first | rw [if_pos (by omega)] | rw [if_neg (by omega)]))
          | exact one _ hc (by unfold fvF; (repeat first | rw [if_pos (by omega)] | rw [if_neg (by omega)]))
          | exact one _ hd (by unfold fvF; (repeat first | rw [if_pos (by omega)] | rw [if_neg (by omega)]))
          | exact one _ he (by unfold fvF; (repeat first | rw [if_pos (by omega)] | rw [if_neg (by omega)]))
  refine g_aload_n h dX12_feed_0 rfl ?_
  refine g_iconst h dX12_feed_1 ?_
  refine g_putI h flX12_1 rfl rfl (by assumption) dX12_feed_2 ?_
  refine g_aload_n h dX12_feed_5 rfl ?_
  refine g_getI h flX12_453 rfl (by assumption) dX12_feed_6 ?_
  rw [e47]
  refine g_bipush h dX12_feed_9 rfl ?_
  refine g_iadd h dX12_feed_11 ?_
  refine g_sipush h dX12_feed_12 rfl ?_
  refine g_icmp_le (tgt := 20) h dX12_feed_15 (by decide) (by first | assumption | exact ⟨by omega, by omega⟩) (by first | assumption | exact ⟨by omega, by omega⟩) (fun c15 => ?_) (fun c15 => ?_)
  · refine g_iconst h dX12_feed_20 ?_
    refine g_istore h dX12_feed_21 (Nat.le_of_ble_eq_true rfl) rfl rfl ?_
    have h4 := loop (by omega) 20 0 none (by omega)
    refine g_eq rfl rfl ?_ h4
    unfold fdW
    rw [fdF_0, sR_self (th w) 446]
    refine aw_ext rfl (fun j => ?_) rfl
    by_cases q1 : j = 400
    · subst q1
      show w.2.1 400 |> fun r => uI r 0 0 = uI (uI (w.2.1 400) 0 0) 47 _
      funext f
      unfold uI
      by_cases q2 : f = 47
      · rw [if_pos q2, q2, if_neg (by decide), ht]; omega
      · rw [if_neg q2]
    · rw [upI_o _ _ _ q1]; exact ((upI_o _ _ _ q1).trans (upI_o _ _ _ q1)).symm
  · refine g_iconst h dX12_feed_18 ?_
    refine g_iret h hQ (by first | decide | omega | (simp only [clS]; omega)) (by first | decide | omega | (simp only [clS]; omega)) ?_ dX12_feed_19
    exact ⟨by rw [if_neg (by omega)], by rw [if_neg (by omega)]; rfl⟩
/-- the rules' row with rule r at the end -/
def rpP (row : Nat → Option Nat) (r n : Nat) : Nat → Option Nat := updP (rmP row r (n - 1)) (n - 1) (row r)
def rpM (w : AW) (nr r : Nat) : AW := sP (upI w 400 42 ((nr : Int) - 1)) 444 (rpP (w.2.2 444) r nr)
set_option maxRecDepth 100000 in
set_option maxHeartbeats 4000000 in
theorem c_X12_repeal (l : Launch) (w : AW) (nr : Nat) (q : Nat → Nat) (a : Int) (hM : MS w) (hn : w.2.1 400 42 = (nr : Int)) (hn16 : nr ≤ 16) (hq : ∀ r, r < nr → w.2.2 444 r = some (q r) ∧ w.1 (q r) = (110, 0)) (ha : R32 a) : HT l yX12_repeal cX12_repeal 4 (some .boolean) 2 0 0 w [ar 400, ai a] (fun r w' => r = some (ai (if 0 ≤ a ∧ a < (nr : Int) then 1 else 0)) ∧ w' = (if 0 ≤ a ∧ a < (nr : Int) then tM (rpM (th w) nr a.toNat) 0 else tM (th w) 1)) := by
  refine HT.of (by decide) (by intro v hv; simp only [List.mem_cons, List.not_mem_nil, or_false] at hv; rcases hv with rfl | rfl <;> rfl) (Nat.le_of_ble_eq_true rfl) ?_
  intro Γ h hQ hRm hnm hl hw0
  have s400 : w.1 400 = (112, 0) := hM.1 400 (by decide) (by decide)
  have s444 : w.1 444 = (210, 17) := hM.1 444 (by decide) (by decide)
  have p44 : w.2.2 400 44 = some 444 := hM.2 (400, 44, 444) (by decide)
  have e42 : (upI w 400 0 0).2.1 400 42 = (nr : Int) := hn
  by_cases haa : 0 ≤ a ∧ a < (nr : Int)
  · obtain ⟨r, rfl⟩ : ∃ r : Nat, a = (r : Int) := ⟨a.toNat, by omega⟩
    rw [Int.toNat_natCast] at hQ
    obtain ⟨hqr, hqs⟩ := hq r (by omega)
    have hqr' : (upI w 400 0 0).2.2 444 r = some (q r) := hqr
    have loop : ∀ (d i : Nat), i + d = nr - 1 → r ≤ i → GG Γ 42 [some (ar 400), some (ai (r : Int)), some (ar (q r)), some (ai (i : Int))] [] (sP (upI (th w) 400 42 ((nr : Int) - 1)) 444 (rmP (w.2.2 444) r i)) 0 0 := by
      intro d
      induction d with
      | zero =>
        intro i hi hri
        obtain rfl : i = nr - 1 := by omega
        have f42 : (sP (upI (th w) 400 42 ((nr : Int) - 1)) 444 (rmP (w.2.2 444) r (nr - 1))).2.1 400 42 = (nr : Int) - 1 := rfl
        have t444 : (sP (upI (th w) 400 42 ((nr : Int) - 1)) 444 (rmP (w.2.2 444) r (nr - 1))).1 444 = (210, 17) := s444
        have tp44 : (sP (upI (th w) 400 42 ((nr : Int) - 1)) 444 (rmP (w.2.2 444) r (nr - 1))).2.2 400 44 = some 444 := p44
        have tq : (sP (upI (th w) 400 42 ((nr : Int) - 1)) 444 (rmP (w.2.2 444) r (nr - 1))).1 (q r) = (110, 0) := hqs
        refine g_iload_n h dX12_repeal_42 rfl ?_
        refine g_aload_n h dX12_repeal_43 rfl ?_
        refine g_getI h flX12_312 rfl (by assumption) dX12_repeal_44 ?_
        rw [f42]
        refine g_icmp_ge (tgt := 70) h dX12_repeal_47 (by decide) (by first | assumption | exact ⟨by omega, by omega⟩) (by first | assumption | exact ⟨by omega, by omega⟩) (fun c47 => ?_) (fun c47 => ?_)
        · refine g_aload_n h dX12_repeal_70 rfl ?_
          refine g_getQ h flX12_119 rfl (by assumption) (by assumption) dX12_repeal_71 ?_
          refine g_aload_n h dX12_repeal_74 rfl ?_
          refine g_getI h flX12_312 rfl (by assumption) dX12_repeal_75 ?_
          rw [f42]
          refine g_aload_n h dX12_repeal_78 rfl ?_
          refine g_aast h (ci := 10) (nr - 1) (by assumption) (by unfold arK; omega) (by decide) (by assumption) (by first | omega | assumption) (by first | omega | assumption) (by first | decide | omega) dX12_repeal_79 ?_
          refine g_aload_n h dX12_repeal_80 rfl ?_
          refine g_callV h rfl (ci := 12) [] (by assumption) (c_X12_granted _ _ (MS_of2 (w := w) (fun _ _ _ => rfl) rfl hM)) clX12_215 (by decide) rfl in_X12_granted se_X12_granted rfl rfl (by rw [hRm]; first | decide | (simp only [clS]; omega)) (by rw [hRm]; first | decide | (simp only [clS]; omega)) (fun _ => Nat.le_of_ble_eq_true rfl) (by rw [hRm]; first | decide | (simp only [clS]; omega)) (by rw [hRm]; first | decide | (simp only [clS]; omega)) dX12_repeal_81 (fun r81 w81 hp81 => ?_)
          obtain ⟨rfl, hw81⟩ := hp81
          rw [hw81]
          refine g_zret h hQ (by first | decide | omega | (simp only [clS]; omega)) (by first | decide | omega | (simp only [clS]; omega)) (by omega) ?_ dX12_repeal_84
          refine ⟨by rw [if_pos haa], ?_⟩
          rw [if_pos haa]
          unfold rpM rpP
          rw [upP_sP, show (th w).2.2 444 r = some (q r) from hqr]
          rfl
        · exfalso; omega
      | succ d ih =>
        intro i hi hri
        have f42 : (sP (upI (th w) 400 42 ((nr : Int) - 1)) 444 (rmP (w.2.2 444) r i)).2.1 400 42 = (nr : Int) - 1 := rfl
        have t444 : (sP (upI (th w) 400 42 ((nr : Int) - 1)) 444 (rmP (w.2.2 444) r i)).1 444 = (210, 17) := s444
        have tp44 : (sP (upI (th w) 400 42 ((nr : Int) - 1)) 444 (rmP (w.2.2 444) r i)).2.2 400 44 = some 444 := p44
        obtain ⟨g1, g2⟩ := hq (i + 1) (by omega)
        have tn : (sP (upI (th w) 400 42 ((nr : Int) - 1)) 444 (rmP (w.2.2 444) r i)).2.2 444 (i + 1) = some (q (i + 1)) := by
          rw [sP_at]
          exact (if_neg (by omega)).trans g1
        have tq : (sP (upI (th w) 400 42 ((nr : Int) - 1)) 444 (rmP (w.2.2 444) r i)).1 (q (i + 1)) = (110, 0) := g2
        have ih2 := ih (i + 1) (by omega) (by omega)
        have hst := rmP_s (w.2.2 444) (r := r) (i := i) hri
        rw [← hst, ← upP_sP, g1] at ih2
        refine g_iload_n h dX12_repeal_42 rfl ?_
        refine g_aload_n h dX12_repeal_43 rfl ?_
        refine g_getI h flX12_312 rfl (by assumption) dX12_repeal_44 ?_
        rw [f42]
        refine g_icmp_ge (tgt := 70) h dX12_repeal_47 (by decide) (by first | assumption | exact ⟨by omega, by omega⟩) (by first | assumption | exact ⟨by omega, by omega⟩) (fun c47 => ?_) (fun c47 => ?_)
        · exfalso; omega
        · refine g_aload_n h dX12_repeal_50 rfl ?_
          refine g_getQ h flX12_119 rfl (by assumption) (by assumption) dX12_repeal_51 ?_
          refine g_iload_n h dX12_repeal_54 rfl ?_
          refine g_aload_n h dX12_repeal_55 rfl ?_
          refine g_getQ h flX12_119 rfl (by assumption) (by assumption) dX12_repeal_56 ?_
          refine g_iload_n h dX12_repeal_59 rfl ?_
          refine g_iconst h dX12_repeal_60 ?_
          refine g_iadd h dX12_repeal_61 ?_
          refine g_aald h (i + 1) (by assumption) (by unfold arK; omega) (by first | omega | assumption) (by first | omega | assumption) (by first | omega | assumption) (by first | decide | omega) (by assumption) dX12_repeal_62 ?_
          refine g_aast h (ci := 10) (i) (by assumption) (by unfold arK; omega) (by decide) (by assumption) (by first | omega | assumption) (by first | omega | assumption) (by first | decide | omega) dX12_repeal_63 ?_
          refine g_iinc h dX12_repeal_64 rfl (Nat.le_of_ble_eq_true rfl) rfl rfl ?_
          refine g_goto (tgt := 42) h dX12_repeal_67 (by decide) ?_
          exact ih2
    refine g_aload_n h dX12_repeal_0 rfl ?_
    refine g_iconst h dX12_repeal_1 ?_
    refine g_putI h flX12_1 rfl rfl (by assumption) dX12_repeal_2 ?_
    refine g_iload_n h dX12_repeal_5 rfl ?_
    refine g_if_lt (tgt := 17) h dX12_repeal_6 (by decide) (by first | assumption | exact ⟨by omega, by omega⟩) (fun c6 => ?_) (fun c6 => ?_)
    · exfalso; omega
    · refine g_iload_n h dX12_repeal_9 rfl ?_
      refine g_aload_n h dX12_repeal_10 rfl ?_
      refine g_getI h flX12_312 rfl (by assumption) dX12_repeal_11 ?_
      rw [e42]
      refine g_icmp_lt (tgt := 23) h dX12_repeal_14 (by decide) (by first | assumption | exact ⟨by omega, by omega⟩) (by first | assumption | exact ⟨by omega, by omega⟩) (fun c14 => ?_) (fun c14 => ?_)
      · refine g_aload_n h dX12_repeal_23 rfl ?_
        refine g_getQ h flX12_119 rfl (by assumption) (by assumption) dX12_repeal_24 ?_
        refine g_iload_n h dX12_repeal_27 rfl ?_
        refine g_aald h (r) (by assumption) (by unfold arK; omega) (by first | omega | assumption) (by first | omega | assumption) (by first | omega | assumption) (by first | decide | omega) (by assumption) dX12_repeal_28 ?_
        refine g_astore_n h dX12_repeal_29 (Nat.le_of_ble_eq_true rfl) rfl rfl ?_
        refine g_aload_n h dX12_repeal_30 rfl ?_
        refine g_dup h dX12_repeal_31 rfl ?_
        refine g_getI h flX12_312 rfl (by assumption) dX12_repeal_32 ?_
        rw [e42]
        refine g_iconst h dX12_repeal_35 ?_
        refine g_isub h dX12_repeal_36 ?_
        refine g_putI h flX12_312 rfl rfl (by assumption) dX12_repeal_37 ?_
        refine g_iload_n h dX12_repeal_40 rfl ?_
        refine g_istore_n h dX12_repeal_41 (Nat.le_of_ble_eq_true rfl) rfl rfl ?_
        have h4 := loop (nr - 1 - r) r (by omega) (Nat.le_refl _)
        refine g_eq rfl rfl ?_ h4
        rw [show rmP (w.2.2 444) r r = (upI (th w) 400 42 ((nr : Int) - 1)).2.2 444 from funext (fun j => if_neg (by omega)), sP_self]
        rfl
      · exfalso; omega
  · skip
    refine g_aload_n h dX12_repeal_0 rfl ?_
    refine g_iconst h dX12_repeal_1 ?_
    refine g_putI h flX12_1 rfl rfl (by assumption) dX12_repeal_2 ?_
    refine g_iload_n h dX12_repeal_5 rfl ?_
    refine g_if_lt (tgt := 17) h dX12_repeal_6 (by decide) (by first | assumption | exact ⟨by omega, by omega⟩) (fun c6 => ?_) (fun c6 => ?_)
    · refine g_aload_n h dX12_repeal_17 rfl ?_
      refine g_iconst h dX12_repeal_18 ?_
      refine g_callV h rfl (ci := 12) [_] (by assumption) (c_X12_denied _ _ _ (MS_of rfl rfl hM)) clX12_207 (by decide) rfl in_X12_denied se_X12_denied rfl rfl (by rw [hRm]; first | decide | (simp only [clS]; omega)) (by rw [hRm]; first | decide | (simp only [clS]; omega)) (fun _ => Nat.le_of_ble_eq_true rfl) (by rw [hRm]; first | decide | (simp only [clS]; omega)) (by rw [hRm]; first | decide | (simp only [clS]; omega)) dX12_repeal_19 (fun r19 w19 hp19 => ?_)
      obtain ⟨rfl, hw19⟩ := hp19
      rw [hw19]
      refine g_zret h hQ (by first | decide | omega | (simp only [clS]; omega)) (by first | decide | omega | (simp only [clS]; omega)) (by omega) ?_ dX12_repeal_22
      exact ⟨by rw [if_neg haa], by rw [if_neg haa]; rfl⟩
    · refine g_iload_n h dX12_repeal_9 rfl ?_
      refine g_aload_n h dX12_repeal_10 rfl ?_
      refine g_getI h flX12_312 rfl (by assumption) dX12_repeal_11 ?_
      rw [e42]
      refine g_icmp_lt (tgt := 23) h dX12_repeal_14 (by decide) (by first | assumption | exact ⟨by omega, by omega⟩) (by first | assumption | exact ⟨by omega, by omega⟩) (fun c14 => ?_) (fun c14 => ?_)
      · exfalso; omega
      · refine g_aload_n h dX12_repeal_17 rfl ?_
        refine g_iconst h dX12_repeal_18 ?_
        refine g_callV h rfl (ci := 12) [_] (by assumption) (c_X12_denied _ _ _ (MS_of rfl rfl hM)) clX12_207 (by decide) rfl in_X12_denied se_X12_denied rfl rfl (by rw [hRm]; first | decide | (simp only [clS]; omega)) (by rw [hRm]; first | decide | (simp only [clS]; omega)) (fun _ => Nat.le_of_ble_eq_true rfl) (by rw [hRm]; first | decide | (simp only [clS]; omega)) (by rw [hRm]; first | decide | (simp only [clS]; omega)) dX12_repeal_19 (fun r19 w19 hp19 => ?_)
        obtain ⟨rfl, hw19⟩ := hp19
        rw [hw19]
        refine g_zret h hQ (by first | decide | omega | (simp only [clS]; omega)) (by first | decide | omega | (simp only [clS]; omega)) (by omega) ?_ dX12_repeal_22
        exact ⟨by rw [if_neg haa], by rw [if_neg haa]; rfl⟩
