/-! ===== M: a rule's object ===== -/
theorem upP_o (w : AW) {k j : Nat} (f : Nat) (r : Option Nat) (h : j ≠ k) : (upP w k f r).2.2 j = w.2.2 j := if_neg h
theorem upP_self (w : AW) (k f : Nat) (r : Option Nat) : (upP w k f r).2.2 k f = r := by
  rw [upP_at]
  exact if_pos rfl
set_option maxRecDepth 100000 in
set_option maxHeartbeats 4000000 in
theorem c_X12_fresh (l : Launch) (w : AW) (nr P : Nat) (hM : MS w) (h42 : w.2.1 400 42 = (nr : Int)) (hn : nr < 17) (hs : w.2.2 444 nr = some P) : HT l yX12_fresh cX12_fresh 1 (some (.object "LakeBreathModel$Rule")) 1 0 0 w [ar 400] (fun r w' => r = some (ar P) ∧ w' = w) := by
  refine HT.of (by decide) (by intro v hv; simp only [List.mem_cons, List.not_mem_nil, or_false] at hv; rcases hv with rfl <;> rfl) (Nat.le_of_ble_eq_true rfl) ?_
  intro Γ h hQ hRm hnm hl hw0
  have s400 : w.1 400 = (112, 0) := hM.1 400 (by decide) (by decide)
  have s444 : w.1 444 = (210, 17) := hM.1 444 (by decide) (by decide)
  have p44 : w.2.2 400 44 = some 444 := hM.2 (400, 44, 444) (by decide)
  refine g_aload_n h dX12_fresh_0 rfl ?_
  refine g_getQ h flX12_119 rfl (by assumption) (by assumption) dX12_fresh_1 ?_
  refine g_aload_n h dX12_fresh_4 rfl ?_
  refine g_getI h flX12_312 rfl (by assumption) dX12_fresh_5 ?_
  rw [h42]
  refine g_aald h (nr) (by assumption) (by unfold arK; omega) (by first | omega | assumption) (by first | omega | assumption) (by first | omega | assumption) (by first | decide | omega) (by assumption) dX12_fresh_8 ?_
  refine g_ifnonnull (tgt := 28) h dX12_fresh_9 (by decide) (fun a9 c9 => ?_) (fun c9 => ?_)
  · refine g_aload_n h dX12_fresh_28 rfl ?_
    refine g_getQ h flX12_119 rfl (by assumption) (by assumption) dX12_fresh_29 ?_
    refine g_aload_n h dX12_fresh_32 rfl ?_
    refine g_getI h flX12_312 rfl (by assumption) dX12_fresh_33 ?_
    rw [h42]
    refine g_aald h (nr) (by assumption) (by unfold arK; omega) (by first | omega | assumption) (by first | omega | assumption) (by first | omega | assumption) (by first | decide | omega) (by assumption) dX12_fresh_36 ?_
    refine g_aret h hQ (by first | decide | omega | (simp only [clS]; omega)) (by first | decide | omega | (simp only [clS]; omega)) ?_ dX12_fresh_37
    exact ⟨rfl, rfl⟩
  · cases c9
/-- a rule's object made at p, put into slot r -/
def fsW (w : AW) (p r : Nat) : AW := upP (iX10_init (alc w p (110, 0)) p) 444 r (some p)
set_option maxRecDepth 100000 in
set_option maxHeartbeats 4000000 in
theorem c_X12_fresh1 (l : Launch) (w : AW) (nr P : Nat) (hM : MS w) (h42 : w.2.1 400 42 = (nr : Int)) (hn : nr < 17) (hs : w.2.2 444 nr = none) (hp0 : (w.1 P).1 = 0) (hp1 : (w.1 (P + 1)).1 = 0) (hp2 : (w.1 (P + 2)).1 = 0) (hP : P + 2 < 20000) (hP4 : 478 ≤ P) : HT l yX12_fresh cX12_fresh 1 (some (.object "LakeBreathModel$Rule")) 3 3 604 w [ar 400] (fun r w' => r = some (ar P) ∧ w' = fsW w P nr) := by
  refine HT.of (by decide) (by intro v hv; simp only [List.mem_cons, List.not_mem_nil, or_false] at hv; rcases hv with rfl <;> rfl) (Nat.le_of_ble_eq_true rfl) ?_
  intro Γ h hQ hRm hnm hl hw0
  have s400 : w.1 400 = (112, 0) := hM.1 400 (by decide) (by decide)
  have s444 : w.1 444 = (210, 17) := hM.1 444 (by decide) (by decide)
  have p44 : w.2.2 400 44 = some 444 := hM.2 (400, 44, 444) (by decide)
  have q0 : (alc w P (110, 0)).1 P = (110, 0) := alc_at _ _ _
  have q1 : ((alc w P (110, 0)).1 (P + 1)).1 = 0 := by rw [alc_ne _ _ (by omega)]; exact hp1
  have q2 : ((alc w P (110, 0)).1 (P + 2)).1 = 0 := by rw [alc_ne _ _ (by omega)]; exact hp2
  have z0 : (iX10_init (alc w P (110, 0)) P).1 P = (110, 0) := by
    show (alc (alc (alc w P (110, 0)) (P + 1) (1, 300)) (P + 2) (1, 300)).1 P = _
    rw [alc_ne _ _ (by omega), alc_ne _ _ (by omega)]
    exact q0
  have z4 : ∀ j, j < 478 → (iX10_init (alc w P (110, 0)) P).1 j = w.1 j := by
    intro j hj
    show (alc (alc (alc w P (110, 0)) (P + 1) (1, 300)) (P + 2) (1, 300)).1 j = _
    rw [alc_ne _ _ (by omega), alc_ne _ _ (by omega), alc_ne _ _ (by omega)]
  have zi : ∀ j, j < 478 → (iX10_init (alc w P (110, 0)) P).2.1 j = w.2.1 j := by
    intro j hj
    show (alc (alc (alc w P (110, 0)) (P + 1) (1, 300)) (P + 2) (1, 300)).2.1 j = _
    rw [alc_i _ _ (by omega), alc_i _ _ (by omega), alc_i _ _ (by omega)]
  have zr : ∀ j, j < 478 → (iX10_init (alc w P (110, 0)) P).2.2 j = w.2.2 j := by
    intro j hj
    show (upP (alc (upP (alc (alc w P (110, 0)) (P + 1) (1, 300)) P 2 (some (P + 1))) (P + 2) (1, 300)) P 3 (some (P + 2))).2.2 j = _
    rw [upP_o _ _ _ (by omega), alc_r _ _ (by omega), upP_o _ _ _ (by omega), alc_r _ _ (by omega), alc_r _ _ (by omega)]
  have t400 : (fsW w P nr).1 400 = (112, 0) := (z4 400 (by decide)).trans s400
  have t444 : (fsW w P nr).1 444 = (210, 17) := (z4 444 (by decide)).trans s444
  have tp : (fsW w P nr).2.2 400 44 = some 444 := by
    show (upP _ 444 nr _).2.2 400 44 = _
    rw [upP_o _ _ _ (by decide), zr 400 (by decide)]
    exact p44
  have t42 : (fsW w P nr).2.1 400 42 = (nr : Int) := by
    show (iX10_init (alc w P (110, 0)) P).2.1 400 42 = _
    rw [zi 400 (by decide)]
    exact h42
  have tn : (fsW w P nr).2.2 444 nr = some P := upP_self _ _ _ _
  have tz : (iX10_init (alc w P (110, 0)) P).1 444 = (210, 17) := (z4 444 (by decide)).trans s444
  refine g_aload_n h dX12_fresh_0 rfl ?_
  refine g_getQ h flX12_119 rfl (by assumption) (by assumption) dX12_fresh_1 ?_
  refine g_aload_n h dX12_fresh_4 rfl ?_
  refine g_getI h flX12_312 rfl (by assumption) dX12_fresh_5 ?_
  rw [h42]
  refine g_aald h (nr) (by assumption) (by unfold arK; omega) (by first | omega | assumption) (by first | omega | assumption) (by first | omega | assumption) (by first | decide | omega) (by assumption) dX12_fresh_8 ?_
  refine g_ifnonnull (tgt := 28) h dX12_fresh_9 (by decide) (fun a9 c9 => ?_) (fun c9 => ?_)
  · cases c9
  · refine g_aload_n h dX12_fresh_12 rfl ?_
    refine g_getQ h flX12_119 rfl (by assumption) (by assumption) dX12_fresh_13 ?_
    refine g_aload_n h dX12_fresh_16 rfl ?_
    refine g_getI h flX12_312 rfl (by assumption) dX12_fresh_17 ?_
    rw [h42]
    refine g_new h (ci := 10) (P) (by decide) cnX12_117 ins_10 ini_10 wsin_10 hp0 (by first | omega | assumption) (by rw [hRm]; simp only [clS]; omega) (by rw [hRm]; simp only [clS]; omega) dX12_fresh_20 ?_
    refine g_dup h dX12_fresh_23 rfl ?_
    refine g_callIN h rfl [] (c_X10_init _ _ P q0 q1 q2 (by omega)) clX12_315 in_X10_init rfl rfl rfl (by rw [hRm]; first | decide | (simp only [clS]; omega)) (by rw [hRm]; first | decide | (simp only [clS]; omega)) (fun _ => Nat.le_of_ble_eq_true rfl) (by rw [hRm]; first | decide | (simp only [clS]; omega)) (by rw [hRm]; first | decide | (simp only [clS]; omega)) dX12_fresh_24 (fun r24 w24 hp24 => ?_)
    obtain ⟨rfl, hw24⟩ := hp24
    rw [hw24]
    refine g_aast h (ci := 10) nr tz (by unfold arK; omega) (by decide) z0 rfl (by omega) (by decide) dX12_fresh_27 ?_
    change GG Γ _ _ _ (fsW w P nr) _ _
    refine g_aload_n h dX12_fresh_28 rfl ?_
    refine g_getQ h flX12_119 rfl (by assumption) (by assumption) dX12_fresh_29 ?_
    refine g_aload_n h dX12_fresh_32 rfl ?_
    refine g_getI h flX12_312 rfl (by assumption) dX12_fresh_33 ?_
    rw [t42]
    refine g_aald h (nr) (by assumption) (by unfold arK; omega) (by first | omega | assumption) (by first | omega | assumption) (by first | omega | assumption) (by first | decide | omega) (by assumption) dX12_fresh_36 ?_
    refine g_aret h hQ (by first | decide | omega | (simp only [clS]; omega)) (by first | decide | omega | (simp only [clS]; omega)) ?_ dX12_fresh_37
    exact ⟨rfl, rfl⟩
