/-! ===== the class: the tape, rules told and repealed ===== -/
theorem mkR_o (u : AW) {p L j : Nat} (act : Int) (h1 : j ≠ p) (h2 : j ≠ p + 1) : (mkR u p L act).1 j = u.1 j ∧ (mkR u p L act).2.1 j = u.2.1 j ∧ (mkR u p L act).2.2 j = u.2.2 j := by
  unfold mkR coW
  refine ⟨?_, ?_, ?_⟩
  · exact (alc_ne _ _ h2).trans (alc_ne _ _ h1)
  · exact (if_neg h1).trans ((sR_ne _ _ h2).trans ((alc_i _ _ h2).trans (alc_i _ _ h1)))
  · exact (if_neg h1).trans ((alc_r (alc u p (104, 0)) (1, L) h2).trans (alc_r _ _ h1))
theorem XS_mkR {u : AW} {p L : Nat} {act : Int} (hp : 43 ≤ p) (h : XS u) : XS (mkR u p L act) := by
  refine ⟨fun k hk => ((mkR_o u act (by omega) (by omega)).1).trans (h.1 k hk), fun q hq => ?_⟩
  have := ptX_lt2 q hq
  rw [(mkR_o u act (show q.1 ≠ p by omega) (show q.1 ≠ p + 1 by omega)).2.2]
  exact h.2 q hq
/-- the book behind a text was read -/
def rtW (u : AW) (f q : Int) : AW := upI (upI (upI u 20 1 0) 20 5 f) 20 6 q
set_option maxRecDepth 100000 in
set_option maxHeartbeats 4000000 in
theorem c_X5_readTape (l : Launch) (w : AW) (n p : Nat) (T : Nat → Int) (hX : XS w) (hT : w.2.1 21 = T) (hn : n ≤ 300) (hTb : ∀ i, i < 300 → 0 ≤ T i ∧ T i < 256) (hp : (w.1 p).1 = 0) (hp1 : (w.1 (p + 1)).1 = 0) (hp2 : p + 1 < 20000) (hp4 : 43 ≤ p) : HT l yX5_readTape cX5_readTape 3 (some (.object "LakeBreath$Rule")) 10 2 302 w [ar 20, ai (n : Int)] (fun r w' => ∃ u, F3 w u ∧ match xRun T n 301 0 (xs0 (w.2.1 23 12)) with | .inl (f, q) => r = some an ∧ w' = rtW u f (q : Int) | .inr s => r = some (ar p) ∧ RDs u s ∧ XJ s 301 ∧ w' = rtW (mkR u p s.2.2.1.length s.2.1.2.2) 0 (-1)) := by
  refine HT.of (by decide) (by intro v hv; simp only [List.mem_cons, List.not_mem_nil, or_false] at hv; rcases hv with rfl | rfl <;> rfl) (Nat.le_of_ble_eq_true rfl) ?_
  intro Γ h hQ hRm hnm hl hw0
  have s20 : w.1 20 = (105, 0) := hX.1 20 (by decide)
  have s23 : w.1 23 = (106, 0) := hX.1 23 (by decide)
  have p20_4 : w.2.2 20 4 = some 23 := hX.2 (20, 4, 23) (by decide)
  have s23 : w.1 23 = (106, 0) := hX.1 23 (by decide)
  refine g_aload_n h dX5_readTape_0 rfl ?_
  refine g_getQ h flX5_26 rfl (by assumption) (by assumption) dX5_readTape_1 ?_
  refine g_iload_n h dX5_readTape_4 rfl ?_
  refine g_callV h rfl (ci := 6) [_] (by assumption) (c_X6_readRule _ _ n p T hX hT hn hTb hp hp1 hp2 hp4) clX5_40 (by decide) rfl in_X6_readRule se_X6_readRule rfl rfl (by rw [hRm]; first | decide | (simp only [clS]; omega)) (by rw [hRm]; first | decide | (simp only [clS]; omega)) (fun _ => Nat.le_of_ble_eq_true rfl) (by rw [hRm]; first | decide | (simp only [clS]; omega)) (by rw [hRm]; first | decide | (simp only [clS]; omega)) dX5_readTape_5 (fun r5 w5 hp5 => ?_)
  obtain ⟨u, hF, HZ⟩ := hp5
  have hXu := XS_of hF.1 hF.2.1 hX
  cases e9 : xRun T n 301 0 (xs0 (w.2.1 23 12)) with
  | inl fq =>
    obtain ⟨f, q⟩ := fq
    rw [e9] at HZ
    obtain ⟨rfl, rfl, h69, h2⟩ := HZ
    have v20 : w5.1 20 = (105, 0) := hXu.1 20 (by decide)
    have v23 : w5.1 23 = (106, 0) := hXu.1 23 (by decide)
    have vp : w5.2.2 20 4 = some 23 := hXu.2 (20, 4, 23) (by decide)
    refine g_astore_n h dX5_readTape_8 (Nat.le_of_ble_eq_true rfl) rfl rfl ?_
    refine g_aload_n h dX5_readTape_9 rfl ?_
    refine g_iconst h dX5_readTape_10 ?_
    refine g_putI h flX5_36 rfl rfl (by first | assumption | exact v20) dX5_readTape_11 ?_
    refine g_aload_n h dX5_readTape_14 rfl ?_
    refine g_aload_n h dX5_readTape_15 rfl ?_
    refine g_ifnonnull (tgt := 29) h dX5_readTape_16 (by decide) (fun _ cnn => by cases cnn) (fun cnn => ?_)
    refine g_aload_n h dX5_readTape_19 rfl ?_
    refine g_getQ h flX5_26 rfl (by first | assumption | exact v20) (by first | assumption | exact vp) dX5_readTape_20 ?_
    refine g_getI h flX5_44 rfl (by exact v23) dX5_readTape_23 ?_
    rw [show (upI w5 20 1 0).2.1 23 6 = f from h69]
    refine g_goto (tgt := 30) h dX5_readTape_26 (by decide) ?_
    refine g_putI h flX5_47 rfl rfl (by first | assumption | exact v20) dX5_readTape_30 ?_
    refine g_aload_n h dX5_readTape_33 rfl ?_
    refine g_aload_n h dX5_readTape_34 rfl ?_
    refine g_ifnonnull (tgt := 48) h dX5_readTape_35 (by decide) (fun _ cnn => by cases cnn) (fun cnn => ?_)
    refine g_aload_n h dX5_readTape_38 rfl ?_
    refine g_getQ h flX5_26 rfl (by first | assumption | exact v20) (by first | assumption | exact vp) dX5_readTape_39 ?_
    refine g_getI h flX5_48 rfl (by exact v23) dX5_readTape_42 ?_
    rw [show (upI (upI w5 20 1 0) 20 5 f).2.1 23 2 = (q : Int) from h2]
    refine g_goto (tgt := 49) h dX5_readTape_45 (by decide) ?_
    refine g_putI h flX5_51 rfl rfl (by first | assumption | exact v20) dX5_readTape_49 ?_
    refine g_aload_n h dX5_readTape_52 rfl ?_
    refine g_aret h hQ (by first | decide | omega | (simp only [clS]; omega)) (by first | decide | omega | (simp only [clS]; omega)) ?_ dX5_readTape_53
    refine ⟨w5, hF, ?_⟩
    rw [e9]
    exact ⟨rfl, rfl⟩
  | inr s =>
    rw [e9] at HZ
    obtain ⟨rfl, hr, hJ, hw9⟩ := HZ
    have hXm : XS (mkR u p s.2.2.1.length s.2.1.2.2) := XS_mkR hp4 hXu
    rw [hw9]
    have v20 : (mkR u p s.2.2.1.length s.2.1.2.2).1 20 = (105, 0) := hXm.1 20 (by decide)
    refine g_astore_n h dX5_readTape_8 (Nat.le_of_ble_eq_true rfl) rfl rfl ?_
    refine g_aload_n h dX5_readTape_9 rfl ?_
    refine g_iconst h dX5_readTape_10 ?_
    refine g_putI h flX5_36 rfl rfl (by first | assumption | exact v20) dX5_readTape_11 ?_
    refine g_aload_n h dX5_readTape_14 rfl ?_
    refine g_aload_n h dX5_readTape_15 rfl ?_
    refine g_ifnonnull (tgt := 29) h dX5_readTape_16 (by decide) (fun _ cnn => ?_) (fun cnn => by cases cnn)
    refine g_iconst h dX5_readTape_29 ?_
    refine g_putI h flX5_47 rfl rfl (by first | assumption | exact v20) dX5_readTape_30 ?_
    refine g_aload_n h dX5_readTape_33 rfl ?_
    refine g_aload_n h dX5_readTape_34 rfl ?_
    refine g_ifnonnull (tgt := 48) h dX5_readTape_35 (by decide) (fun _ cnn => ?_) (fun cnn => by cases cnn)
    refine g_iconst h dX5_readTape_48 ?_
    refine g_putI h flX5_51 rfl rfl (by first | assumption | exact v20) dX5_readTape_49 ?_
    refine g_aload_n h dX5_readTape_52 rfl ?_
    refine g_aret h hQ (by first | decide | omega | (simp only [clS]; omega)) (by first | decide | omega | (simp only [clS]; omega)) ?_ dX5_readTape_53
    refine ⟨u, hF, ?_⟩
    rw [e9]
    exact ⟨rfl, hr, hJ, rfl⟩
set_option maxRecDepth 100000 in
set_option maxHeartbeats 4000000 in
theorem c_X9_feed (l : Launch) (w : AW) (tl : Nat) (a b c d e : Int) (hX : XS w) (ht : w.2.1 20 1 = (tl : Int)) (h3 : tl ≤ 300) : HT l yX9_feed cX9_feed 6 (some .int) 2 0 0 w [ar 0, ai a, ai b, ai c, ai d, ai e] (fun r w' => r = some (ai (if tl + 20 ≤ 300 then (tl : Int) + 20 else -1)) ∧ w' = (if tl + 20 ≤ 300 then abW (abW (abW (abW (abW w tl a) (tl + 4) b) (tl + 8) c) (tl + 12) d) (tl + 16) e else w)) := by
  refine HT.of (by decide) (by intro v hv; simp only [List.mem_cons, List.not_mem_nil, or_false] at hv; rcases hv with rfl | rfl | rfl | rfl | rfl | rfl <;> rfl) (Nat.le_of_ble_eq_true rfl) ?_
  intro Γ h hQ hRm hnm hl hw0
  have s0 : w.1 0 = (109, 0) := hX.1 0 (by decide)
  have s20 : w.1 20 = (105, 0) := hX.1 20 (by decide)
  have p0_7 : w.2.2 0 7 = some 20 := hX.2 (0, 7, 20) (by decide)
  have ab1 : ∀ (u : AW) (t : Nat) (z : Int), (abW u t z).2.1 20 1 = ((t + 4 : Nat) : Int) := fun u t z => by
    unfold abW
    rw [sR_at]
    show (t : Int) + 4 = _
    omega
  have abX : ∀ (u : AW) (t : Nat) (z : Int), XS u → XS (abW u t z) := fun u t z h => XS_of rfl rfl h
  refine g_aload_n h dX9_feed_0 rfl ?_
  refine g_getQ h flX9_38 rfl (by assumption) (by assumption) dX9_feed_1 ?_
  refine g_callV h rfl (ci := 5) [] (by assumption) (c_X5_hasRoomOnTape _ _ tl hX ht h3) clX9_235 (by decide) rfl in_X5_hasRoomOnTape se_X5_hasRoomOnTape rfl rfl (by rw [hRm]; first | decide | (simp only [clS]; omega)) (by rw [hRm]; first | decide | (simp only [clS]; omega)) (fun _ => Nat.le_of_ble_eq_true rfl) (by rw [hRm]; first | decide | (simp only [clS]; omega)) (by rw [hRm]; first | decide | (simp only [clS]; omega)) dX9_feed_4 (fun r4 w4 hp4 => ?_)
  obtain ⟨rfl, hw4⟩ := hp4
  rw [hw4]
  have hbw4 := ite01 (tl + 20 ≤ 300)
  refine g_if_ne (tgt := 12) h dX9_feed_7 (by decide) (by first | assumption | exact ⟨by omega, by omega⟩) (fun c7 => ?_) (fun c7 => ?_)
  · refine g_aload_n h dX9_feed_12 rfl ?_
    refine g_getQ h flX9_38 rfl (by assumption) (by assumption) dX9_feed_13 ?_
    refine g_iload_n h dX9_feed_16 rfl ?_
    refine g_callV h rfl (ci := 5) [_] (by assumption) (c_X5_addBytes _ _ tl a hX ht (by omega)) clX9_238 (by decide) rfl in_X5_addBytes se_X5_addBytes rfl rfl (by rw [hRm]; first | decide | (simp only [clS]; omega)) (by rw [hRm]; first | decide | (simp only [clS]; omega)) (fun _ => Nat.le_of_ble_eq_true rfl) (by rw [hRm]; first | decide | (simp only [clS]; omega)) (by rw [hRm]; first | decide | (simp only [clS]; omega)) dX9_feed_17 (fun r17 w17 hp17 => ?_)
    obtain ⟨rfl, hw17⟩ := hp17
    rw [hw17]
    have v17 : (abW w tl a).1 0 = (109, 0) := s0
    have x17 : (abW w tl a).1 20 = (105, 0) := s20
    have y17 : (abW w tl a).2.2 0 7 = some 20 := p0_7
    refine g_aload_n h dX9_feed_20 rfl ?_
    refine g_getQ h flX9_38 rfl (by assumption) (by assumption) dX9_feed_21 ?_
    refine g_iload_n h dX9_feed_24 rfl ?_
    refine g_callV h rfl (ci := 5) [_] (by assumption) (c_X5_addBytes _ _ (tl + 4) b (abX _ _ _ hX) (ab1 _ _ _) (by omega)) clX9_238 (by decide) rfl in_X5_addBytes se_X5_addBytes rfl rfl (by rw [hRm]; first | decide | (simp only [clS]; omega)) (by rw [hRm]; first | decide | (simp only [clS]; omega)) (fun _ => Nat.le_of_ble_eq_true rfl) (by rw [hRm]; first | decide | (simp only [clS]; omega)) (by rw [hRm]; first | decide | (simp only [clS]; omega)) dX9_feed_25 (fun r25 w25 hp25 => ?_)
    obtain ⟨rfl, hw25⟩ := hp25
    rw [hw25]
    have v25 : (abW (abW w tl a) (tl + 4) b).1 0 = (109, 0) := s0
    have x25 : (abW (abW w tl a) (tl + 4) b).1 20 = (105, 0) := s20
    have y25 : (abW (abW w tl a) (tl + 4) b).2.2 0 7 = some 20 := p0_7
    refine g_aload_n h dX9_feed_28 rfl ?_
    refine g_getQ h flX9_38 rfl (by assumption) (by assumption) dX9_feed_29 ?_
    refine g_iload_n h dX9_feed_32 rfl ?_
    refine g_callV h rfl (ci := 5) [_] (by assumption) (c_X5_addBytes _ _ (tl + 8) c (abX _ _ _ (abX _ _ _ hX)) (ab1 _ _ _) (by omega)) clX9_238 (by decide) rfl in_X5_addBytes se_X5_addBytes rfl rfl (by rw [hRm]; first | decide | (simp only [clS]; omega)) (by rw [hRm]; first | decide | (simp only [clS]; omega)) (fun _ => Nat.le_of_ble_eq_true rfl) (by rw [hRm]; first | decide | (simp only [clS]; omega)) (by rw [hRm]; first | decide | (simp only [clS]; omega)) dX9_feed_33 (fun r33 w33 hp33 => ?_)
    obtain ⟨rfl, hw33⟩ := hp33
    rw [hw33]
    have v33 : (abW (abW (abW w tl a) (tl + 4) b) (tl + 8) c).1 0 = (109, 0) := s0
    have x33 : (abW (abW (abW w tl a) (tl + 4) b) (tl + 8) c).1 20 = (105, 0) := s20
    have y33 : (abW (abW (abW w tl a) (tl + 4) b) (tl + 8) c).2.2 0 7 = some 20 := p0_7
    refine g_aload_n h dX9_feed_36 rfl ?_
    refine g_getQ h flX9_38 rfl (by assumption) (by assumption) dX9_feed_37 ?_
    refine g_iload h dX9_feed_40 rfl ?_
    refine g_callV h rfl (ci := 5) [_] (by assumption) (c_X5_addBytes _ _ (tl + 12) d (abX _ _ _ (abX _ _ _ (abX _ _ _ hX))) (ab1 _ _ _) (by omega)) clX9_238 (by decide) rfl in_X5_addBytes se_X5_addBytes rfl rfl (by rw [hRm]; first | decide | (simp only [clS]; omega)) (by rw [hRm]; first | decide | (simp only [clS]; omega)) (fun _ => Nat.le_of_ble_eq_true rfl) (by rw [hRm]; first | decide | (simp only [clS]; omega)) (by rw [hRm]; first | decide | (simp only [clS]; omega)) dX9_feed_42 (fun r42 w42 hp42 => ?_)
    obtain ⟨rfl, hw42⟩ := hp42
    rw [hw42]
    have v42 : (abW (abW (abW (abW w tl a) (tl + 4) b) (tl + 8) c) (tl + 12) d).1 0 = (109, 0) := s0
    have x42 : (abW (abW (abW (abW w tl a) (tl + 4) b) (tl + 8) c) (tl + 12) d).1 20 = (105, 0) := s20
    have y42 : (abW (abW (abW (abW w tl a) (tl + 4) b) (tl + 8) c) (tl + 12) d).2.2 0 7 = some 20 := p0_7
    refine g_aload_n h dX9_feed_45 rfl ?_
    refine g_getQ h flX9_38 rfl (by assumption) (by assumption) dX9_feed_46 ?_
    refine g_iload h dX9_feed_49 rfl ?_
    refine g_callV h rfl (ci := 5) [_] (by assumption) (c_X5_addBytes _ _ (tl + 16) e (abX _ _ _ (abX _ _ _ (abX _ _ _ (abX _ _ _ hX)))) (ab1 _ _ _) (by omega)) clX9_238 (by decide) rfl in_X5_addBytes se_X5_addBytes rfl rfl (by rw [hRm]; first | decide | (simp only [clS]; omega)) (by rw [hRm]; first | decide | (simp only [clS]; omega)) (fun _ => Nat.le_of_ble_eq_true rfl) (by rw [hRm]; first | decide | (simp only [clS]; omega)) (by rw [hRm]; first | decide | (simp only [clS]; omega)) dX9_feed_51 (fun r51 w51 hp51 => ?_)
    obtain ⟨rfl, hw51⟩ := hp51
    rw [hw51]
    have v51 : (abW (abW (abW (abW (abW w tl a) (tl + 4) b) (tl + 8) c) (tl + 12) d) (tl + 16) e).1 0 = (109, 0) := s0
    have x51 : (abW (abW (abW (abW (abW w tl a) (tl + 4) b) (tl + 8) c) (tl + 12) d) (tl + 16) e).1 20 = (105, 0) := s20
    have y51 : (abW (abW (abW (abW (abW w tl a) (tl + 4) b) (tl + 8) c) (tl + 12) d) (tl + 16) e).2.2 0 7 = some 20 := p0_7
    refine g_aload_n h dX9_feed_54 rfl ?_
    refine g_getQ h flX9_38 rfl (by assumption) (by assumption) dX9_feed_55 ?_
    refine g_getI h flX9_241 rfl (by assumption) dX9_feed_58 ?_
    rw [ab1]
    refine g_iret h hQ (by first | decide | omega | (simp only [clS]; omega)) (by first | decide | omega | (simp only [clS]; omega)) ?_ dX9_feed_61
    refine ⟨?_, ?_⟩
    · rw [if_pos (by omega)]
      exact congrArg (fun z => some (ai z)) (by omega)
    · rw [if_pos (by omega)]
  · refine g_iconst h dX9_feed_10 ?_
    refine g_iret h hQ (by first | decide | omega | (simp only [clS]; omega)) (by first | decide | omega | (simp only [clS]; omega)) ?_ dX9_feed_11
    first
    | (exfalso; omega)
    | (refine ⟨?_, ?_⟩ <;> (repeat first | rw [if_pos (by omega)] | rw [if_neg (by omega)]) <;> rfl)
set_option maxRecDepth 100000 in
set_option maxHeartbeats 4000000 in
theorem c_X9_repeal (l : Launch) (w : AW) (nr : Nat) (rp rc : Nat → Nat) (cl : Nat → List Int) (a : Int) (hX : XS w) (hB : RBK w nr rp rc cl) (ha : R32 a) : HT l yX9_repeal cX9_repeal 2 (some .boolean) 2 0 0 w [ar 0, ai a] (fun r w' => r = some (ai (if 0 ≤ a ∧ a < (nr : Int) then 1 else 0)) ∧ w' = (if 0 ≤ a ∧ a < (nr : Int) then upI (rmW w nr a.toNat) 0 16 0 else upI w 0 16 1)) := by
  refine HT.of (by decide) (by intro v hv; simp only [List.mem_cons, List.not_mem_nil, or_false] at hv; rcases hv with rfl | rfl <;> rfl) (Nat.le_of_ble_eq_true rfl) ?_
  intro Γ h hQ hRm hnm hl hw0
  have s0 : w.1 0 = (109, 0) := hX.1 0 (by decide)
  have s20 : w.1 20 = (105, 0) := hX.1 20 (by decide)
  have p0_7 : w.2.2 0 7 = some 20 := hX.2 (0, 7, 20) (by decide)
  have hXr : XS (rmW w nr a.toNat) := by
    unfold rmW
    refine ⟨hX.1, fun q hq => ?_⟩
    have h22 : ∀ q ∈ ptX, q.1 ≠ 22 := by decide
    exact (congrFun (if_neg (h22 q hq)) q.2.1).trans ((congrFun (sP_ne _ _ (h22 q hq)) q.2.1).trans (hX.2 q hq))
  have v0 : (rmW w nr a.toNat).1 0 = (109, 0) := hXr.1 0 (by decide)
  refine g_aload_n h dX9_repeal_0 rfl ?_
  refine g_getQ h flX9_38 rfl (by assumption) (by assumption) dX9_repeal_1 ?_
  refine g_iload_n h dX9_repeal_4 rfl ?_
  refine g_callV h rfl (ci := 5) [_] (by assumption) (c_X5_removeRule _ _ nr rp rc cl a hX hB ha) clX9_264 (by decide) rfl in_X5_removeRule se_X5_removeRule rfl rfl (by rw [hRm]; first | decide | (simp only [clS]; omega)) (by rw [hRm]; first | decide | (simp only [clS]; omega)) (fun _ => Nat.le_of_ble_eq_true rfl) (by rw [hRm]; first | decide | (simp only [clS]; omega)) (by rw [hRm]; first | decide | (simp only [clS]; omega)) dX9_repeal_5 (fun r5 w5 hp5 => ?_)
  obtain ⟨rfl, hw5⟩ := hp5
  have hbw5 := ite01 (0 ≤ a ∧ a < (nr : Int))
  refine g_if_ne (tgt := 17) h dX9_repeal_8 (by decide) (by first | assumption | exact ⟨by omega, by omega⟩) (fun c8 => ?_) (fun c8 => ?_)
  · rw [if_pos (ite_ne0 (by assumption))] at hw5
    rw [hw5]
    refine g_aload_n h dX9_repeal_17 rfl ?_
    refine g_callV h rfl (ci := 9) [] (by assumption) (c_X9_granted _ _ hXr) clX9_86 (by decide) rfl in_X9_granted se_X9_granted rfl rfl (by rw [hRm]; first | decide | (simp only [clS]; omega)) (by rw [hRm]; first | decide | (simp only [clS]; omega)) (fun _ => Nat.le_of_ble_eq_true rfl) (by rw [hRm]; first | decide | (simp only [clS]; omega)) (by rw [hRm]; first | decide | (simp only [clS]; omega)) dX9_repeal_18 (fun r18 w18 hp18 => ?_)
    obtain ⟨rfl, hw18⟩ := hp18
    rw [hw18]
    refine g_zret h hQ (by first | decide | omega | (simp only [clS]; omega)) (by first | decide | omega | (simp only [clS]; omega)) (by omega) ?_ dX9_repeal_21
    first
    | (exfalso; omega)
    | (refine ⟨?_, ?_⟩ <;> (repeat first | rw [if_pos (by omega)] | rw [if_neg (by omega)]) <;> rfl)
  · rw [if_neg (ite_eq0 (by assumption))] at hw5
    rw [hw5]
    refine g_aload_n h dX9_repeal_11 rfl ?_
    refine g_iconst h dX9_repeal_12 ?_
    refine g_callV h rfl (ci := 9) [_] (by assumption) (c_X9_denied _ _ _ hX) clX9_74 (by decide) rfl in_X9_denied se_X9_denied rfl rfl (by rw [hRm]; first | decide | (simp only [clS]; omega)) (by rw [hRm]; first | decide | (simp only [clS]; omega)) (fun _ => Nat.le_of_ble_eq_true rfl) (by rw [hRm]; first | decide | (simp only [clS]; omega)) (by rw [hRm]; first | decide | (simp only [clS]; omega)) dX9_repeal_13 (fun r13 w13 hp13 => ?_)
    obtain ⟨rfl, hw13⟩ := hp13
    rw [hw13]
    refine g_zret h hQ (by first | decide | omega | (simp only [clS]; omega)) (by first | decide | omega | (simp only [clS]; omega)) (by omega) ?_ dX9_repeal_16
    first
    | (exfalso; omega)
    | (refine ⟨?_, ?_⟩ <;> (repeat first | rw [if_pos (by omega)] | rw [if_neg (by omega)]) <;> rfl)
set_option maxRecDepth 100000 in
set_option maxHeartbeats 4000000 in
theorem c_X9_rule (l : Launch) (w : AW) (tl nr p : Nat) (T : Nat → Int) (z : Int) (hX : XS w) (hT : w.2.1 21 = T) (ht : w.2.1 20 1 = (tl : Int)) (hn : tl ≤ 300) (hTb : ∀ i, i < 300 → 0 ≤ T i ∧ T i < 256) (hp : (w.1 p).1 = 0) (hp1 : (w.1 (p + 1)).1 = 0) (hp2 : p + 1 < 20000) (hp4 : 43 ≤ p) (hnr : w.2.1 20 3 = (nr : Int)) (hnr2 : nr ≤ 16) (hz : R32 z) : HT l yX9_rule cX9_rule 3 (some .int) 11 2 302 w [ar 0, ai z] (fun r w' => (¬ (0 ≤ z ∧ z ≤ (tl : Int)) → r = some (ai (-1)) ∧ w' = upI w 0 16 2) ∧ (0 ≤ z ∧ z ≤ (tl : Int) → ∃ u, F3 w u ∧ match xRun T z.toNat 301 0 (xs0 (w.2.1 23 12)) with | .inl (f, q) => r = some (ai (-1)) ∧ w' = upI (rtW u f (q : Int)) 0 16 4 | .inr s => RDs u s ∧ XJ s 301 ∧ (nr < 16 → r = some (ai (nr : Int)) ∧ w' = upI (upI (upP (rtW (mkR u p s.2.2.1.length s.2.1.2.2) 0 (-1)) 22 nr (some p)) 20 3 ((nr : Int) + 1)) 0 16 0) ∧ (¬ nr < 16 → r = some (ai (-1)) ∧ w' = upI (rtW (mkR u p s.2.2.1.length s.2.1.2.2) 0 (-1)) 0 16 3))) := by
  refine HT.of (by decide) (by intro v hv; simp only [List.mem_cons, List.not_mem_nil, or_false] at hv; rcases hv with rfl | rfl <;> rfl) (Nat.le_of_ble_eq_true rfl) ?_
  intro Γ h hQ hRm hnm hl hw0
  have s0 : w.1 0 = (109, 0) := hX.1 0 (by decide)
  have s20 : w.1 20 = (105, 0) := hX.1 20 (by decide)
  have p0_7 : w.2.2 0 7 = some 20 := hX.2 (0, 7, 20) (by decide)
  by_cases hzt : 0 ≤ z ∧ z ≤ (tl : Int)
  · obtain ⟨n, rfl⟩ : ∃ n : Nat, z = (n : Int) := ⟨z.toNat, by omega⟩
    refine g_iload_n h dX9_rule_0 rfl ?_
    refine g_iconst h dX9_rule_1 ?_
    refine g_aload_n h dX9_rule_2 rfl ?_
    refine g_getQ h flX9_38 rfl (by assumption) (by assumption) dX9_rule_3 ?_
    refine g_getI h flX9_241 rfl (by assumption) dX9_rule_6 ?_
    rw [ht]
    refine g_callS h rfl [_, _, _] (c_X9_isWithin _ _ _ _ _ hz ⟨by omega, by omega⟩ ⟨by omega, by omega⟩) clX9_78 st_X9_isWithin rfl rfl (by rw [hRm]; first | decide | (simp only [clS]; omega)) (by rw [hRm]; first | decide | (simp only [clS]; omega)) (fun _ => Nat.le_of_ble_eq_true rfl) (by rw [hRm]; first | decide | (simp only [clS]; omega)) (by rw [hRm]; first | decide | (simp only [clS]; omega)) dX9_rule_9 (fun r9 w9 hp9 => ?_)
    obtain ⟨rfl, hw9⟩ := hp9
    rw [hw9]
    have hbw9 := ite01 ((0 : Int) ≤ (n : Int) ∧ (n : Int) ≤ (tl : Int))
    refine g_if_ne (tgt := 21) h dX9_rule_12 (by decide) (by first | assumption | exact ⟨by omega, by omega⟩) (fun c12 => ?_) (fun c12 => ?_)
    · refine g_aload_n h dX9_rule_21 rfl ?_
      refine g_getQ h flX9_38 rfl (by assumption) (by assumption) dX9_rule_22 ?_
      refine g_iload_n h dX9_rule_25 rfl ?_
      refine g_callV h rfl (ci := 5) [_] (by assumption) (c_X5_readTape _ _ n p T hX hT (by omega) hTb hp hp1 hp2 hp4) clX9_244 (by decide) rfl in_X5_readTape se_X5_readTape rfl rfl (by rw [hRm]; first | decide | (simp only [clS]; omega)) (by rw [hRm]; first | decide | (simp only [clS]; omega)) (fun _ => Nat.le_of_ble_eq_true rfl) (by rw [hRm]; first | decide | (simp only [clS]; omega)) (by rw [hRm]; first | decide | (simp only [clS]; omega)) dX9_rule_26 (fun r26 w26 hp26 => ?_)
      obtain ⟨u, hF, HZ⟩ := hp26
      have hXu := XS_of hF.1 hF.2.1 hX
      cases e9 : xRun T n 301 0 (xs0 (w.2.1 23 12)) with
      | inl fq =>
        obtain ⟨f, q⟩ := fq
        rw [e9] at HZ
        obtain ⟨rfl, hw9⟩ := HZ
        rw [hw9]
        have v0 : (rtW u f (q : Int)).1 0 = (109, 0) := hXu.1 0 (by decide)
        refine g_astore_n h dX9_rule_29 (Nat.le_of_ble_eq_true rfl) rfl rfl ?_
        refine g_aload_n h dX9_rule_30 rfl ?_
        refine g_ifnonnull (tgt := 40) h dX9_rule_31 (by decide) (fun _ cnn => by cases cnn) (fun cnn => ?_)
        refine g_aload_n h dX9_rule_34 rfl ?_
        refine g_iconst h dX9_rule_35 ?_
        refine g_callV h rfl (ci := 9) [_] (by assumption) (c_X9_refused _ _ _ (XS_of rfl rfl hXu)) clX9_162 (by decide) rfl in_X9_refused se_X9_refused rfl rfl (by rw [hRm]; first | decide | (simp only [clS]; omega)) (by rw [hRm]; first | decide | (simp only [clS]; omega)) (fun _ => Nat.le_of_ble_eq_true rfl) (by rw [hRm]; first | decide | (simp only [clS]; omega)) (by rw [hRm]; first | decide | (simp only [clS]; omega)) dX9_rule_36 (fun r36 w36 hp36 => ?_)
        obtain ⟨rfl, hw36⟩ := hp36
        rw [hw36]
        refine g_iret h hQ (by first | decide | omega | (simp only [clS]; omega)) (by first | decide | omega | (simp only [clS]; omega)) ?_ dX9_rule_39
        refine ⟨fun q => absurd hzt q, fun _ => ⟨u, hF, ?_⟩⟩
        rw [Int.toNat_natCast, e9]
        exact ⟨rfl, rfl⟩
      | inr s =>
        rw [e9] at HZ
        obtain ⟨rfl, hr, hJ, hw9⟩ := HZ
        rw [hw9]
        have hXm : XS (mkR u p s.2.2.1.length s.2.1.2.2) := XS_mkR hp4 hXu
        have hXv : XS (rtW (mkR u p s.2.2.1.length s.2.1.2.2) 0 (-1)) := XS_of rfl rfl hXm
        have v0 : (rtW (mkR u p s.2.2.1.length s.2.1.2.2) 0 (-1)).1 0 = (109, 0) := hXv.1 0 (by decide)
        have v20 : (rtW (mkR u p s.2.2.1.length s.2.1.2.2) 0 (-1)).1 20 = (105, 0) := hXv.1 20 (by decide)
        have vp : (rtW (mkR u p s.2.2.1.length s.2.1.2.2) 0 (-1)).2.2 0 7 = some 20 := hXv.2 (0, 7, 20) (by decide)
        have v3 : (rtW (mkR u p s.2.2.1.length s.2.1.2.2) 0 (-1)).2.1 20 3 = (nr : Int) := by
          show (mkR u p s.2.2.1.length s.2.1.2.2).2.1 20 3 = _
          rw [(mkR_o u _ (by omega) (by omega)).2.1, hF.2.2 20 (by decide) (by decide) (by decide)]
          exact hnr
        have vq : (rtW (mkR u p s.2.2.1.length s.2.1.2.2) 0 (-1)).1 p = (104, 0) := (alc_ne _ _ (by omega)).trans (alc_at _ _ _)
        have hXa : XS (upI (upP (rtW (mkR u p s.2.2.1.length s.2.1.2.2) 0 (-1)) 22 nr (some p)) 20 3 ((nr : Int) + 1)) := by
          refine ⟨hXv.1, fun q hq => ?_⟩
          have h22 : ∀ q ∈ ptX, q.1 ≠ 22 := by decide
          exact (congrFun (if_neg (h22 q hq)) q.2.1).trans (hXv.2 q hq)
        have a0 : (upI (upP (rtW (mkR u p s.2.2.1.length s.2.1.2.2) 0 (-1)) 22 nr (some p)) 20 3 ((nr : Int) + 1)).1 0 = (109, 0) := v0
        have a20 : (upI (upP (rtW (mkR u p s.2.2.1.length s.2.1.2.2) 0 (-1)) 22 nr (some p)) 20 3 ((nr : Int) + 1)).1 20 = (105, 0) := v20
        have ap : (upI (upP (rtW (mkR u p s.2.2.1.length s.2.1.2.2) 0 (-1)) 22 nr (some p)) 20 3 ((nr : Int) + 1)).2.2 0 7 = some 20 := hXa.2 (0, 7, 20) (by decide)
        refine g_astore_n h dX9_rule_29 (Nat.le_of_ble_eq_true rfl) rfl rfl ?_
        refine g_aload_n h dX9_rule_30 rfl ?_
        refine g_ifnonnull (tgt := 40) h dX9_rule_31 (by decide) (fun _ cnn => ?_) (fun cnn => by cases cnn)
        refine g_aload_n h dX9_rule_40 rfl ?_
        refine g_getQ h flX9_38 rfl (by assumption) (by assumption) dX9_rule_41 ?_
        refine g_aload_n h dX9_rule_44 rfl ?_
        refine g_callV h rfl (ci := 5) [_] (by assumption) (c_X5_addRule _ _ nr p 0 hXv v3 hnr2 vq) clX9_248 (by decide) rfl in_X5_addRule se_X5_addRule rfl rfl (by rw [hRm]; first | decide | (simp only [clS]; omega)) (by rw [hRm]; first | decide | (simp only [clS]; omega)) (fun _ => Nat.le_of_ble_eq_true rfl) (by rw [hRm]; first | decide | (simp only [clS]; omega)) (by rw [hRm]; first | decide | (simp only [clS]; omega)) dX9_rule_45 (fun r45 w45 hp45 => ?_)
        obtain ⟨rfl, hw45⟩ := hp45
        have hbw45 := ite01 (nr < 16)
        refine g_if_ne (tgt := 57) h dX9_rule_48 (by decide) (by first | assumption | exact ⟨by omega, by omega⟩) (fun c48 => ?_) (fun c48 => ?_)
        · rw [if_pos (ite_ne0 (by assumption))] at hw45
          rw [hw45]
          refine g_aload_n h dX9_rule_57 rfl ?_
          refine g_aload_n h dX9_rule_58 rfl ?_
          refine g_getQ h flX9_38 rfl (by assumption) (by assumption) dX9_rule_59 ?_
          refine g_getI h flX9_252 rfl (by assumption) dX9_rule_62 ?_
          rw [upI_self]
          refine g_iconst h dX9_rule_65 ?_
          refine g_isub h dX9_rule_66 ?_
          refine g_callV h rfl (ci := 9) [_] (by assumption) (c_X9_answered _ _ _ hXa) clX9_169 (by decide) rfl in_X9_answered se_X9_answered rfl rfl (by rw [hRm]; first | decide | (simp only [clS]; omega)) (by rw [hRm]; first | decide | (simp only [clS]; omega)) (fun _ => Nat.le_of_ble_eq_true rfl) (by rw [hRm]; first | decide | (simp only [clS]; omega)) (by rw [hRm]; first | decide | (simp only [clS]; omega)) dX9_rule_67 (fun r67 w67 hp67 => ?_)
          obtain ⟨rfl, hw67⟩ := hp67
          rw [hw67]
          refine g_iret h hQ (by first | decide | omega | (simp only [clS]; omega)) (by first | decide | omega | (simp only [clS]; omega)) ?_ dX9_rule_70
          refine ⟨fun q => absurd hzt q, fun _ => ⟨u, hF, ?_⟩⟩
          rw [Int.toNat_natCast, e9]
          exact ⟨hr, hJ, fun _ => ⟨congrArg (fun z => some (ai z)) (by omega), rfl⟩, fun q => absurd (ite_ne0 (by assumption)) q⟩
        · rw [if_neg (ite_eq0 (by assumption))] at hw45
          rw [hw45]
          refine g_aload_n h dX9_rule_51 rfl ?_
          refine g_iconst h dX9_rule_52 ?_
          refine g_callV h rfl (ci := 9) [_] (by assumption) (c_X9_refused _ _ _ hXv) clX9_162 (by decide) rfl in_X9_refused se_X9_refused rfl rfl (by rw [hRm]; first | decide | (simp only [clS]; omega)) (by rw [hRm]; first | decide | (simp only [clS]; omega)) (fun _ => Nat.le_of_ble_eq_true rfl) (by rw [hRm]; first | decide | (simp only [clS]; omega)) (by rw [hRm]; first | decide | (simp only [clS]; omega)) dX9_rule_53 (fun r53 w53 hp53 => ?_)
          obtain ⟨rfl, hw53⟩ := hp53
          rw [hw53]
          refine g_iret h hQ (by first | decide | omega | (simp only [clS]; omega)) (by first | decide | omega | (simp only [clS]; omega)) ?_ dX9_rule_56
          refine ⟨fun q => absurd hzt q, fun _ => ⟨u, hF, ?_⟩⟩
          rw [Int.toNat_natCast, e9]
          exact ⟨hr, hJ, fun q => absurd q (ite_eq0 (by assumption)), fun _ => ⟨rfl, rfl⟩⟩
    · exfalso; omega
  · skip
    refine g_iload_n h dX9_rule_0 rfl ?_
    refine g_iconst h dX9_rule_1 ?_
    refine g_aload_n h dX9_rule_2 rfl ?_
    refine g_getQ h flX9_38 rfl (by assumption) (by assumption) dX9_rule_3 ?_
    refine g_getI h flX9_241 rfl (by assumption) dX9_rule_6 ?_
    rw [ht]
    refine g_callS h rfl [_, _, _] (c_X9_isWithin _ _ _ _ _ hz ⟨by omega, by omega⟩ ⟨by omega, by omega⟩) clX9_78 st_X9_isWithin rfl rfl (by rw [hRm]; first | decide | (simp only [clS]; omega)) (by rw [hRm]; first | decide | (simp only [clS]; omega)) (fun _ => Nat.le_of_ble_eq_true rfl) (by rw [hRm]; first | decide | (simp only [clS]; omega)) (by rw [hRm]; first | decide | (simp only [clS]; omega)) dX9_rule_9 (fun r9 w9 hp9 => ?_)
    obtain ⟨rfl, hw9⟩ := hp9
    rw [hw9]
    have hbw9 := ite01 ((0 : Int) ≤ z ∧ z ≤ (tl : Int))
    refine g_if_ne (tgt := 21) h dX9_rule_12 (by decide) (by first | assumption | exact ⟨by omega, by omega⟩) (fun c12 => ?_) (fun c12 => ?_)
    · exfalso; omega
    · refine g_aload_n h dX9_rule_15 rfl ?_
      refine g_iconst h dX9_rule_16 ?_
      refine g_callV h rfl (ci := 9) [_] (by assumption) (c_X9_refused _ _ _ hX) clX9_162 (by decide) rfl in_X9_refused se_X9_refused rfl rfl (by rw [hRm]; first | decide | (simp only [clS]; omega)) (by rw [hRm]; first | decide | (simp only [clS]; omega)) (fun _ => Nat.le_of_ble_eq_true rfl) (by rw [hRm]; first | decide | (simp only [clS]; omega)) (by rw [hRm]; first | decide | (simp only [clS]; omega)) dX9_rule_17 (fun r17 w17 hp17 => ?_)
      obtain ⟨rfl, hw17⟩ := hp17
      rw [hw17]
      refine g_iret h hQ (by first | decide | omega | (simp only [clS]; omega)) (by first | decide | omega | (simp only [clS]; omega)) ?_ dX9_rule_20
      exact ⟨fun _ => ⟨rfl, rfl⟩, fun q => absurd q hzt⟩
