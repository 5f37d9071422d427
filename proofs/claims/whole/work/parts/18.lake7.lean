/-! ===== Pipe.letOffFrom, Lake.runPipes ===== -/
theorem uI_self (f : Nat → Int) (k : Nat) : uI f k (f k) = f := by
  funext j
  unfold uI
  split
  · rename_i h; rw [h]
  · rfl
def pRun (run g li : Int) : Int := if run = 0 then 0 else if g < li then 0 else run
def pOff (run g fl li : Int) : Int := if run = 0 then 0 else if g < li then 0 else g * fl / 1000
def pOffW (w : AW) (ka q : Nat) : Int := pOff (w.2.1 q 4) (w.2.1 ka (w.2.1 q 1).toNat) (w.2.1 q 2) (w.2.1 q 3)
def pRunW (w : AW) (ka q : Nat) : Int := pRun (w.2.1 q 4) (w.2.1 ka (w.2.1 q 1).toNat) (w.2.1 q 3)
def pStep (w : AW) (ka q : Nat) : AW := sR (sR w ka (uI (w.2.1 ka) (w.2.1 q 1).toNat (w.2.1 ka (w.2.1 q 1).toNat - pOffW w ka q))) q (uI (uI (w.2.1 q) 4 (pRunW w ka q)) 5 (w.2.1 q 5 + pOffW w ka q))
/-- a pipe's object: 0 lake, 1 layer, 2 flow, 3 lift, 4 whether it runs, 5 what it let off, 6 how often it was moved -/
def pOK (w : AW) (q : Nat) : Prop := 50 ≤ q ∧ q < 59 ∧ w.1 q = (103, 0) ∧ 0 ≤ w.2.1 q 1 ∧ w.2.1 q 1 < 10 ∧ 1 ≤ w.2.1 q 2 ∧ w.2.1 q 2 ≤ 500 ∧ 0 ≤ w.2.1 q 3 ∧ w.2.1 q 3 ≤ 100000 ∧ (w.2.1 q 4 = 0 ∨ w.2.1 q 4 = 1)
theorem pOff_bd {run g fl li : Int} (hg : 0 ≤ g) (h1 : 1 ≤ fl) (h2 : fl ≤ 500) : 0 ≤ pOff run g fl li ∧ pOff run g fl li ≤ g := by
  unfold pOff
  split
  · omega
  · split
    · omega
    · have a := Int.mul_nonneg hg (show 0 ≤ fl by omega)
      have b : g * fl ≤ g * 500 := Int.mul_le_mul_of_nonneg_left h2 hg
      omega
set_option maxRecDepth 100000 in
set_option maxHeartbeats 4000000 in
theorem c_X3_letOffFrom (l : Launch) (w : AW) (q ka : Nat) (hq : pOK w q) (hka : w.1 ka = (1, 10)) (hne : q ≠ ka) (hb : ∀ j, j < 10 → 0 ≤ w.2.1 ka j ∧ w.2.1 ka j ≤ 100000) : HT l yX3_letOffFrom cX3_letOffFrom 3 (some .int) 1 0 0 w [ar q, ar ka] (fun r w' => r = some (ai (pOffW w ka q)) ∧ w' = pStep w ka q) := by
  refine HT.of (by decide) (by intro v hv; simp only [List.mem_cons, List.not_mem_nil, or_false] at hv; rcases hv with rfl | rfl <;> rfl) (Nat.le_of_ble_eq_true rfl) ?_
  intro Γ h hQ hRm hnm hl hw0
  obtain ⟨h50, h59, k3, l0, l9, f1, f5, i0, i1, hrun⟩ := id hq
  obtain ⟨ly, hly⟩ : ∃ ly : Nat, (w.2.1 q 1).toNat = ly := ⟨_, rfl⟩
  have hly2 : w.2.1 q 1 = (ly : Int) := by omega
  have hbl := hb ly (by omega)
  refine g_aload_n h dX3_letOffFrom_0 rfl ?_
  refine g_getI h flX3_22 rfl (by assumption) dX3_letOffFrom_1 ?_
  refine g_if_eq (tgt := 23) h dX3_letOffFrom_4 (by decide) (by first | assumption | exact ⟨by omega, by omega⟩) (fun c4 => ?_) (fun c4 => ?_)
  · refine g_iconst h dX3_letOffFrom_23 ?_
    refine g_iret h hQ (by decide) (by decide) ?_ dX3_letOffFrom_24
    first
    | (exfalso; omega)
    | (unfold pStep pRunW pOffW pRun pOff
       simp only [if_pos c4, Int.sub_zero, Int.add_zero, uI_self, sR_self]
       refine ⟨trivial, ?_⟩
       rw [← c4, uI_self, uI_self, sR_self])
  · refine g_aload_n h dX3_letOffFrom_7 rfl ?_
    refine g_getI h flX3_13 rfl (by assumption) dX3_letOffFrom_8 ?_
    refine g_if_lt (tgt := 23) h dX3_letOffFrom_11 (by decide) (by first | assumption | exact ⟨by omega, by omega⟩) (fun c11 => ?_) (fun c11 => ?_)
    · refine g_iconst h dX3_letOffFrom_23 ?_
      refine g_iret h hQ (by decide) (by decide) ?_ dX3_letOffFrom_24
      first
      | (exfalso; omega)
      | (unfold pStep pRunW pOffW pRun pOff
         simp only [if_pos c4, Int.sub_zero, Int.add_zero, uI_self, sR_self]
         refine ⟨trivial, ?_⟩
         rw [← c4, uI_self, uI_self, sR_self])
    · refine g_aload_n h dX3_letOffFrom_14 rfl ?_
      refine g_getI h flX3_13 rfl (by assumption) dX3_letOffFrom_15 ?_
      refine g_aload_n h dX3_letOffFrom_18 rfl ?_
      refine g_alen h (by assumption) (by unfold arK; omega) dX3_letOffFrom_19 ?_
      refine g_icmp_lt (tgt := 25) h dX3_letOffFrom_20 (by decide) (by first | assumption | exact ⟨by omega, by omega⟩) (by first | assumption | exact ⟨by omega, by omega⟩) (fun c20 => ?_) (fun c20 => ?_)
      · refine g_aload_n h dX3_letOffFrom_25 rfl ?_
        refine g_aload_n h dX3_letOffFrom_26 rfl ?_
        refine g_getI h flX3_13 rfl (by assumption) dX3_letOffFrom_27 ?_
        refine g_iald h (ly) (by assumption) (by omega) (by omega) (by decide) dX3_letOffFrom_30 ?_
        refine g_aload_n h dX3_letOffFrom_31 rfl ?_
        refine g_getI h flX3_19 rfl (by assumption) dX3_letOffFrom_32 ?_
        refine g_icmp_ge (tgt := 45) h dX3_letOffFrom_35 (by decide) (by first | assumption | exact ⟨by omega, by omega⟩) (by first | assumption | exact ⟨by omega, by omega⟩) (fun c35 => ?_) (fun c35 => ?_)
        · have hm := mul_bd (a := w.2.1 ka ly) (b := w.2.1 q 2) (x := 100000) (y := 500) (by omega) (by omega) (by omega) (by omega)
          refine g_aload_n h dX3_letOffFrom_45 rfl ?_
          refine g_aload_n h dX3_letOffFrom_46 rfl ?_
          refine g_getI h flX3_13 rfl (by assumption) dX3_letOffFrom_47 ?_
          refine g_iald h (ly) (by assumption) (by omega) (by omega) (by decide) dX3_letOffFrom_50 ?_
          refine g_aload_n h dX3_letOffFrom_51 rfl ?_
          refine g_getI h flX3_16 rfl (by assumption) dX3_letOffFrom_52 ?_
          refine g_imul h dX3_letOffFrom_55 ?_
          refine g_sipush h dX3_letOffFrom_56 rfl ?_
          refine g_idiv h (by first | assumption | exact ⟨by omega, by omega⟩) (by first | assumption | exact ⟨by omega, by omega⟩) (by omega) (by omega) dX3_letOffFrom_59 ?_
          refine g_istore_n h dX3_letOffFrom_60 (Nat.le_of_ble_eq_true rfl) rfl rfl ?_
          refine g_aload_n h dX3_letOffFrom_61 rfl ?_
          refine g_aload_n h dX3_letOffFrom_62 rfl ?_
          refine g_getI h flX3_13 rfl (by assumption) dX3_letOffFrom_63 ?_
          refine g_dup2 h dX3_letOffFrom_66 rfl rfl ?_
          refine g_iald h (ly) (by assumption) (by omega) (by omega) (by decide) dX3_letOffFrom_67 ?_
          refine g_iload_n h dX3_letOffFrom_68 rfl ?_
          refine g_isub h dX3_letOffFrom_69 ?_
          refine g_iast h (ly) (by assumption) (by omega) (by omega) (by decide) dX3_letOffFrom_70 ?_
          refine g_aload_n h dX3_letOffFrom_71 rfl ?_
          refine g_dup h dX3_letOffFrom_72 rfl ?_
          refine g_getI h flX3_29 rfl (by assumption) dX3_letOffFrom_73 ?_
          refine g_iload_n h dX3_letOffFrom_76 rfl ?_
          refine g_iadd h dX3_letOffFrom_77 ?_
          refine g_putI h flX3_29 rfl rfl (by assumption) dX3_letOffFrom_78 ?_
          refine g_iload_n h dX3_letOffFrom_81 rfl ?_
          refine g_iret h hQ (by decide) (by decide) ?_ dX3_letOffFrom_82
          have c35' : ¬ w.2.1 ka ly < w.2.1 q 3 := by omega
          unfold pStep pRunW pOffW pRun pOff
          rw [hly]
          simp only [if_neg c4, if_neg c35', upI_sR, sR_ne _ _ hne, uI_self]
          exact ⟨trivial, trivial⟩
        · refine g_aload_n h dX3_letOffFrom_38 rfl ?_
          refine g_iconst h dX3_letOffFrom_39 ?_
          refine g_putZ h flX3_22 rfl rfl (by assumption) (by omega) dX3_letOffFrom_40 ?_
          refine g_iconst h dX3_letOffFrom_43 ?_
          refine g_iret h hQ (by decide) (by decide) ?_ dX3_letOffFrom_44
          have c35' : w.2.1 ka ly < w.2.1 q 3 := by omega
          unfold pStep pRunW pOffW pRun pOff
          rw [hly]
          simp only [if_neg c4, if_pos c35', Int.sub_zero, Int.add_zero, uI_self, sR_self]
          refine ⟨trivial, ?_⟩
          rw [upI_sR]
          congr 1
          funext j
          unfold uI
          by_cases h5 : j = 5
          · rw [if_pos h5, if_neg (by omega), h5]
          · rw [if_neg h5]
      · refine g_iconst h dX3_letOffFrom_23 ?_
        refine g_iret h hQ (by decide) (by decide) ?_ dX3_letOffFrom_24
        first
        | (exfalso; omega)
        | (unfold pStep pRunW pOffW pRun pOff
           simp only [if_pos c4, Int.sub_zero, Int.add_zero, uI_self, sR_self]
           refine ⟨trivial, ?_⟩
           rw [← c4, uI_self, uI_self, sR_self])
def PQ (w : AW) (L n : Nat) (q : Nat → Nat) : Prop := n ≤ 3 ∧ w.2.1 (2 + L) 4 = (n : Int) ∧ (∀ i, i < n → w.2.2 (14 + L) i = some (q i) ∧ pOK w (q i)) ∧ ∀ i j, i < n → j < n → q i = q j → i = j
def pAll (w : AW) (ka : Nat) (q : Nat → Nat) : Nat → AW
  | 0 => w
  | n + 1 => pStep (pAll w ka q n) ka (q n)
def pSum (w : AW) (ka : Nat) (q : Nat → Nat) : Nat → Int
  | 0 => 0
  | n + 1 => pSum w ka q n + pOffW (pAll w ka q n) ka (q n)
theorem pStep_1 (w : AW) (ka q : Nat) : (pStep w ka q).1 = w.1 := rfl
theorem pStep_2 (w : AW) (ka q : Nat) : (pStep w ka q).2.2 = w.2.2 := rfl
theorem pStep_o (w : AW) {ka q j : Nat} (h1 : j ≠ ka) (h2 : j ≠ q) : (pStep w ka q).2.1 j = w.2.1 j := by unfold pStep; rw [sR_ne _ _ h2, sR_ne _ _ h1]
theorem pStep_q (w : AW) (ka q : Nat) : (pStep w ka q).2.1 q = uI (uI (w.2.1 q) 4 (pRunW w ka q)) 5 (w.2.1 q 5 + pOffW w ka q) := by unfold pStep; rw [sR_at]
theorem pStep_a (w : AW) {ka q : Nat} (h : ka ≠ q) : (pStep w ka q).2.1 ka = uI (w.2.1 ka) (w.2.1 q 1).toNat (w.2.1 ka (w.2.1 q 1).toNat - pOffW w ka q) := by unfold pStep; rw [sR_ne _ _ h, sR_at]
theorem pAll_1 (w : AW) (ka : Nat) (q : Nat → Nat) : ∀ n, (pAll w ka q n).1 = w.1 ∧ (pAll w ka q n).2.2 = w.2.2
  | 0 => ⟨rfl, rfl⟩
  | n + 1 => pAll_1 w ka q n
theorem pAll_o (w : AW) {ka : Nat} {q : Nat → Nat} {j : Nat} (h1 : j ≠ ka) : ∀ n, (∀ i, i < n → j ≠ q i) → (pAll w ka q n).2.1 j = w.2.1 j
  | 0, _ => rfl
  | n + 1, h2 => by
    show (pStep _ _ _).2.1 j = _
    rw [pStep_o _ h1 (h2 n (by omega)), pAll_o w h1 n (fun i hi => h2 i (by omega))]
theorem pOK_of {w w' : AW} {q : Nat} (h1 : w'.1 = w.1) (h2 : w'.2.1 q = w.2.1 q) (h : pOK w q) : pOK w' q := by unfold pOK at h ⊢; rw [h1, h2]; exact h
theorem uI_bd {f : Nat → Int} {k : Nat} {z : Int} (hb : ∀ j, j < 10 → 0 ≤ f j ∧ f j ≤ 100000) (hz : 0 ≤ z ∧ z ≤ 100000) : ∀ j, j < 10 → 0 ≤ uI f k z j ∧ uI f k z j ≤ 100000 := by
  intro j hj
  unfold uI
  split
  · exact hz
  · exact hb j hj
theorem pOffW_bd {w : AW} {ka q : Nat} (hb : ∀ j, j < 10 → 0 ≤ w.2.1 ka j ∧ w.2.1 ka j ≤ 100000) (hq : pOK w q) : 0 ≤ pOffW w ka q ∧ pOffW w ka q ≤ w.2.1 ka (w.2.1 q 1).toNat := by
  obtain ⟨h50, h59, k3, l0, l9, f1, f5, i0, i1, hrun⟩ := hq
  exact pOff_bd (hb _ (by omega)).1 f1 f5
theorem pStep_bd {w : AW} {ka q : Nat} (hne : ka ≠ q) (hb : ∀ j, j < 10 → 0 ≤ w.2.1 ka j ∧ w.2.1 ka j ≤ 100000) (hq : pOK w q) : ∀ j, j < 10 → 0 ≤ (pStep w ka q).2.1 ka j ∧ (pStep w ka q).2.1 ka j ≤ 100000 := by
  have h1 := pOffW_bd hb hq
  obtain ⟨h50, h59, k3, l0, l9, f1, f5, i0, i1, hrun⟩ := hq
  have h2 := hb (w.2.1 q 1).toNat (by omega)
  rw [pStep_a _ hne]
  exact uI_bd hb (by omega)
theorem pAll_ok {w : AW} {L : Nat} {n : Nat} {q : Nat → Nat} (hL : L < 3) (hP : PQ w L n q) (hb : ∀ j, j < 10 → 0 ≤ w.2.1 (5 + L) j ∧ w.2.1 (5 + L) j ≤ 100000) : ∀ i, i ≤ n → (∀ j, j < 10 → 0 ≤ (pAll w (5 + L) q i).2.1 (5 + L) j ∧ (pAll w (5 + L) q i).2.1 (5 + L) j ≤ 100000) ∧ ∀ j, i ≤ j → j < n → pOK (pAll w (5 + L) q i) (q j)
  | 0, _ => ⟨hb, fun j _ hj => (hP.2.2.1 j hj).2⟩
  | i + 1, hi => by
    obtain ⟨a, b⟩ := pAll_ok hL hP hb i (by omega)
    have hq := b i (Nat.le_refl _) (by omega)
    refine ⟨pStep_bd (by have := hq.1; omega) a hq, fun j h1 h2 => pOK_of (pStep_1 _ _ _) (pStep_o _ ?_ ?_) (b j (by omega) h2)⟩
    · have := (hP.2.2.1 j h2).2.1; omega
    · intro e
      have := hP.2.2.2 j i h2 (by omega) e
      omega
theorem pStep_sR (w : AW) {ka q k : Nat} (h1 : k ≠ ka) (h2 : k ≠ q) (r : Nat → Int) : pStep (sR w k r) ka q = sR (pStep w ka q) k r := by
  unfold pStep pOffW pRunW
  rw [sR_ne _ _ (Ne.symm h1), sR_ne _ _ (Ne.symm h2), sR_comm _ h1, sR_comm _ h2]
theorem pOffW_sR (w : AW) {ka q k : Nat} (h1 : k ≠ ka) (h2 : k ≠ q) (r : Nat → Int) : pOffW (sR w k r) ka q = pOffW w ka q := by
  unfold pOffW
  rw [sR_ne _ _ (Ne.symm h1), sR_ne _ _ (Ne.symm h2)]
set_option maxRecDepth 100000 in
set_option maxHeartbeats 4000000 in
theorem c_X2_runPipes (l : Launch) (w : AW) (L n : Nat) (q : Nat → Nat) (hK : LK w L) (hN : LN w L) (hP : PQ w L n q) : HT l yX2_runPipes cX2_runPipes 3 none 2 0 0 w [ar (2 + L)] (rV (sR (pAll w (5 + L) q n) (2 + L) (uI (w.2.1 (2 + L)) 11 (w.2.1 (2 + L) 11 + pSum w (5 + L) q n)))) := by
  refine HT.of (by decide) (by intro v hv; simp only [List.mem_cons, List.not_mem_nil, or_false] at hv; rcases hv with rfl <;> rfl) (Nat.le_of_ble_eq_true rfl) ?_
  intro Γ h hQ hRm hnm hl hw0
  obtain ⟨hL3, k2, k5, k8, k11, k14, p0, p1, p2, p3⟩ := id hK
  obtain ⟨hn3, hn4, hpi, hinj⟩ := id hP
  have hgb : ∀ j, j < 10 → 0 ≤ w.2.1 (5 + L) j ∧ w.2.1 (5 + L) j ≤ 100000 := fun j hj => ⟨(hN.1 j hj).1, (hN.1 j hj).2.1⟩
  have hall := pAll_ok hL3 hP hgb
  have loop : ∀ (d i : Nat) (x : Option AV) (w1 : AW), i + d = n → w1 = sR (pAll w (5 + L) q i) (2 + L) (uI (w.2.1 (2 + L)) 11 (w.2.1 (2 + L) 11 + pSum w (5 + L) q i)) → GG Γ 2 [some (ar (2 + L)), some (ai (i : Int)), x] [] w1 0 0 := by
    intro d
    induction d with
    | zero =>
      intro i x w1 hi he
      obtain rfl : i = n := by omega
      have k2' : w1.1 (2 + L) = (102, 0) := by rw [he]; show (pAll w (5 + L) q i).1 _ = _; rw [(pAll_1 w (5 + L) q i).1]; exact k2
      have h4 : w1.2.1 (2 + L) 4 = (i : Int) := by rw [he, sR_at, uI_ne _ _ (by decide)]; exact hn4
      refine g_iload_n h dX2_runPipes_2 rfl ?_
      refine g_aload_n h dX2_runPipes_3 rfl ?_
      refine g_getI h flX2_63 rfl (by assumption) dX2_runPipes_4 ?_
      refine g_icmp_ge (tgt := 53) h dX2_runPipes_7 (by decide) (by first | assumption | exact ⟨by omega, by omega⟩) (by first | assumption | exact ⟨by omega, by omega⟩) (fun c7 => ?_) (fun c7 => ?_)
      · refine g_vret h hQ (by decide) (by decide) ?_ dX2_runPipes_53
        exact ⟨rfl, he⟩
      · exfalso; omega
    | succ d ih =>
      intro i x w1 hi he
      have e1 : w1.1 = w.1 := by rw [he]; exact (pAll_1 w (5 + L) q i).1
      have e2 : w1.2.2 = w.2.2 := by rw [he]; exact (pAll_1 w (5 + L) q i).2
      have k2' : w1.1 (2 + L) = (102, 0) := by rw [e1]; exact k2
      have k5' : w1.1 (5 + L) = (1, 10) := by rw [e1]; exact k5
      have k14' : w1.1 (14 + L) = (203, 3) := by rw [e1]; exact k14
      have p0' : w1.2.2 (2 + L) 0 = some (5 + L) := by rw [e2]; exact p0
      have p3' : w1.2.2 (2 + L) 3 = some (14 + L) := by rw [e2]; exact p3
      have h4 : w1.2.1 (2 + L) 4 = (n : Int) := by rw [he, sR_at, uI_ne _ _ (by decide)]; exact hn4
      have h11 : w1.2.1 (2 + L) 11 = w.2.1 (2 + L) 11 + pSum w (5 + L) q i := by rw [he, sR_at, uI_at]
      obtain ⟨hb1, hok⟩ := hall i (by omega)
      have hq := hok i (Nat.le_refl _) (by omega)
      have hq1 := hq.1
      have hq2 := hq.2.1
      have hpq : w1.2.2 (14 + L) i = some (q i) := by rw [e2]; exact (hpi i (by omega)).1
      have hqok : pOK w1 (q i) := by rw [he]; exact pOK_of (w := pAll w (5 + L) q i) rfl (sR_ne _ _ (show q i ≠ 2 + L by omega)) hq
      have hqs := hqok.2.2.1
      have hgb1 : ∀ j, j < 10 → 0 ≤ w1.2.1 (5 + L) j ∧ w1.2.1 (5 + L) j ≤ 100000 := by rw [he, sR_ne _ _ (by omega)]; exact hb1
      refine g_iload_n h dX2_runPipes_2 rfl ?_
      refine g_aload_n h dX2_runPipes_3 rfl ?_
      refine g_getI h flX2_63 rfl (by assumption) dX2_runPipes_4 ?_
      refine g_icmp_ge (tgt := 53) h dX2_runPipes_7 (by decide) (by first | assumption | exact ⟨by omega, by omega⟩) (by first | assumption | exact ⟨by omega, by omega⟩) (fun c7 => ?_) (fun c7 => ?_)
      · exfalso; omega
      · refine g_iload_n h dX2_runPipes_10 rfl ?_
        refine g_aload_n h dX2_runPipes_11 rfl ?_
        refine g_getQ h flX2_23 rfl (by assumption) (by assumption) dX2_runPipes_12 ?_
        refine g_alen h (by assumption) (by unfold arK; omega) dX2_runPipes_15 ?_
        refine g_icmp_ge (tgt := 53) h dX2_runPipes_16 (by decide) (by first | assumption | exact ⟨by omega, by omega⟩) (by first | assumption | exact ⟨by omega, by omega⟩) (fun c16 => ?_) (fun c16 => ?_)
        · exfalso; omega
        · refine g_aload_n h dX2_runPipes_19 rfl ?_
          refine g_getQ h flX2_23 rfl (by assumption) (by assumption) dX2_runPipes_20 ?_
          refine g_iload_n h dX2_runPipes_23 rfl ?_
          refine g_aald h i (by assumption) (by unfold arK; omega) (by omega) rfl (by omega) (by decide) hpq dX2_runPipes_24 ?_
          refine g_astore_n h dX2_runPipes_25 (Nat.le_of_ble_eq_true rfl) rfl rfl ?_
          refine g_aload_n h dX2_runPipes_26 rfl ?_
          refine g_ifnull (tgt := 47) h dX2_runPipes_27 (by decide) (fun c27 => ?_) (fun a27 c27 => ?_)
          · refine g_iinc h dX2_runPipes_47 rfl (Nat.le_of_ble_eq_true rfl) rfl rfl ?_
            refine g_goto (tgt := 2) h dX2_runPipes_50 (by decide) ?_
            first
            | (exact absurd (by assumption) (fun h : some (q i) = none => by cases h))
            | (refine ih (i + 1) _ _ (by omega) ?_
               show upI (pStep w1 (5 + L) (q i)) (2 + L) 11 _ = _
               rw [upI_sR, h11, he, pStep_sR _ (by omega) (by omega), sR_sR, sR_at, pOffW_sR _ (by omega) (by omega), uI_uI, Int.add_assoc]
               rfl)
          · refine g_aload_n h dX2_runPipes_30 rfl ?_
            refine g_dup h dX2_runPipes_31 rfl ?_
            refine g_getI h flX2_107 rfl (by assumption) dX2_runPipes_32 ?_
            refine g_aload_n h dX2_runPipes_35 rfl ?_
            refine g_aload_n h dX2_runPipes_36 rfl ?_
            refine g_getQ h flX2_9 rfl (by assumption) (by assumption) dX2_runPipes_37 ?_
            refine g_callV h rfl (ci := 3) [_] (by assumption) (c_X3_letOffFrom _ _ (q i) (5 + L) hqok (by assumption) (by omega) hgb1) clX2_110 (by decide) rfl in_X3_letOffFrom se_X3_letOffFrom rfl rfl (by rw [hRm]; decide) (by rw [hRm]; decide) (fun _ => Nat.le_of_ble_eq_true rfl) (by rw [hRm]; decide) (by rw [hRm]; decide) dX2_runPipes_40 (fun r40 w40 hp40 => ?_)
            obtain ⟨rfl, hw40⟩ := hp40
            rw [hw40]
            refine g_iadd h dX2_runPipes_43 ?_
            refine g_putI h flX2_107 rfl rfl (by assumption) dX2_runPipes_44 ?_
            refine g_iinc h dX2_runPipes_47 rfl (Nat.le_of_ble_eq_true rfl) rfl rfl ?_
            refine g_goto (tgt := 2) h dX2_runPipes_50 (by decide) ?_
            first
            | (exact absurd (by assumption) (fun h : some (q i) = none => by cases h))
            | (refine ih (i + 1) _ _ (by omega) ?_
               show upI (pStep w1 (5 + L) (q i)) (2 + L) 11 _ = _
               rw [upI_sR, h11, he, pStep_sR _ (by omega) (by omega), sR_sR, sR_at, pOffW_sR _ (by omega) (by omega), uI_uI, Int.add_assoc]
               rfl)
  refine g_iconst h dX2_runPipes_0 ?_
  refine g_istore_n h dX2_runPipes_1 (Nat.le_of_ble_eq_true rfl) rfl rfl ?_
  refine loop n 0 none w (by omega) ?_
  show w = sR w (2 + L) (uI (w.2.1 (2 + L)) 11 (w.2.1 (2 + L) 11 + 0))
  rw [Int.add_zero, uI_self, sR_self]
