/-! ===== Strings: readings and soundings =====
places 29 strings, 30 days, 31 gas of readings; 32 strings, 33 days, 34 gas, 35 drift of soundings; the object 28: 3 readings, 8 soundings -/
def SI (w : AW) (rn sn : Nat) : Prop := w.2.1 28 3 = (rn : Int) ∧ rn ≤ 300 ∧ w.2.1 28 8 = (sn : Int) ∧ sn ≤ 60 ∧
  (∀ i, i < rn → 0 ≤ w.2.1 29 i ∧ w.2.1 29 i < 20 ∧ 0 ≤ w.2.1 30 i ∧ w.2.1 30 i ≤ 2999 ∧ 0 ≤ w.2.1 31 i ∧ w.2.1 31 i ≤ 100000) ∧
  ∀ i, i < sn → 0 ≤ w.2.1 32 i ∧ w.2.1 32 i < 20 ∧ 0 ≤ w.2.1 33 i ∧ w.2.1 33 i ≤ 2999 ∧ 0 ≤ w.2.1 34 i ∧ w.2.1 34 i ≤ 100000 ∧ -100000 ≤ w.2.1 35 i ∧ w.2.1 35 i ≤ 100000
/-- the last of the first n readings of a string, of days f to l -/
def lrF (rs rd : Nat → Int) (st f l : Int) : Nat → Option Nat
  | 0 => none
  | n + 1 => if rs n = st ∧ f ≤ rd n ∧ rd n ≤ l then some n else lrF rs rd st f l n
theorem lrF_lt {rs rd : Nat → Int} {st f l : Int} : ∀ (n m : Nat), lrF rs rd st f l n = some m → m < n ∧ rs m = st ∧ f ≤ rd m ∧ rd m ≤ l
  | 0, m, h => by cases h
  | n + 1, m, h => by
    unfold lrF at h
    split at h
    · rename_i c; cases h; exact ⟨by omega, c⟩
    · have := lrF_lt n m h; exact ⟨by omega, this.2⟩
set_option maxRecDepth 100000 in
set_option maxHeartbeats 4000000 in
theorem c_X7_latestReading (l : Launch) (w : AW) (rn sn : Nat) (st f e : Int) (hX : XS w) (hS : SI w rn sn) (hst : R32 st) (hf : R32 f) (he : R32 e) : HT l yX7_latestReading cX7_latestReading 5 (some .int) 1 0 0 w [ar 28, ai st, ai f, ai e] (rI (flA (lrF (w.2.1 29) (w.2.1 30) st f e rn)) w) := by
  refine HT.of (by decide) (by intro v hv; simp only [List.mem_cons, List.not_mem_nil, or_false] at hv; rcases hv with rfl | rfl | rfl | rfl <;> rfl) (Nat.le_of_ble_eq_true rfl) ?_
  intro Γ h hQ hRm hnm hl hw0
  have s28 : w.1 28 = (107, 0) := hX.1 28 (by decide)
  have s29 : w.1 29 = (1, 300) := hX.1 29 (by decide)
  have s30 : w.1 30 = (1, 300) := hX.1 30 (by decide)
  have p28_0 : w.2.2 28 0 = some 29 := hX.2 (28, 0, 29) (by decide)
  have p28_1 : w.2.2 28 1 = some 30 := hX.2 (28, 1, 30) (by decide)
  obtain ⟨hr, hr3, hs, hs6, hri, hsi⟩ := id hS
  have loop : ∀ (n : Nat), n ≤ rn → lrF (w.2.1 29) (w.2.1 30) st f e n = lrF (w.2.1 29) (w.2.1 30) st f e rn → GG Γ 14 [some (ar 28), some (ai st), some (ai f), some (ai e), some (ai ((n : Int) - 1))] [] w 0 0 := by
    intro n
    induction n with
    | zero =>
      intro hn hq
      refine g_iload h dX7_latestReading_14 rfl ?_
      refine g_if_lt (tgt := 61) h dX7_latestReading_16 (by decide) (by first | assumption | exact ⟨by omega, by omega⟩) (fun c16 => ?_) (fun c16 => ?_)
      · refine g_iconst h dX7_latestReading_61 ?_
        refine g_iret h hQ (by decide) (by decide) ?_ dX7_latestReading_62
        rw [← hq]; exact ⟨rfl, rfl⟩
      · exfalso; omega
    | succ n ih =>
      intro hn hq
      have hi := hri n (by omega)
      refine g_iload h dX7_latestReading_14 rfl ?_
      refine g_if_lt (tgt := 61) h dX7_latestReading_16 (by decide) (by first | assumption | exact ⟨by omega, by omega⟩) (fun c16 => ?_) (fun c16 => ?_)
      · exfalso; omega
      · refine g_aload_n h dX7_latestReading_19 rfl ?_
        refine g_getQ h flX7_9 rfl (by assumption) (by assumption) dX7_latestReading_20 ?_
        refine g_iload h dX7_latestReading_23 rfl ?_
        refine g_iald h (n) (by assumption) (by omega) (by omega) (by decide) dX7_latestReading_25 ?_
        refine g_iload_n h dX7_latestReading_26 rfl ?_
        refine g_icmp_ne (tgt := 55) h dX7_latestReading_27 (by decide) (by first | assumption | exact ⟨by omega, by omega⟩) (by first | assumption | exact ⟨by omega, by omega⟩) (fun c27 => ?_) (fun c27 => ?_)
        · refine g_iinc h dX7_latestReading_55 rfl (Nat.le_of_ble_eq_true rfl) rfl rfl ?_
          refine g_goto (tgt := 14) h dX7_latestReading_58 (by decide) ?_
          rw [show ((n + 1 : Nat) : Int) - 1 + -1 = (n : Int) - 1 by omega]
          exact ih (by omega) (by rw [← hq]; show _ = ite _ _ _; rw [if_neg (by omega)])
        · refine g_aload_n h dX7_latestReading_30 rfl ?_
          refine g_getQ h flX7_15 rfl (by assumption) (by assumption) dX7_latestReading_31 ?_
          refine g_iload h dX7_latestReading_34 rfl ?_
          refine g_iald h (n) (by assumption) (by omega) (by omega) (by decide) dX7_latestReading_36 ?_
          refine g_iload_n h dX7_latestReading_37 rfl ?_
          refine g_icmp_lt (tgt := 55) h dX7_latestReading_38 (by decide) (by first | assumption | exact ⟨by omega, by omega⟩) (by first | assumption | exact ⟨by omega, by omega⟩) (fun c38 => ?_) (fun c38 => ?_)
          · refine g_iinc h dX7_latestReading_55 rfl (Nat.le_of_ble_eq_true rfl) rfl rfl ?_
            refine g_goto (tgt := 14) h dX7_latestReading_58 (by decide) ?_
            rw [show ((n + 1 : Nat) : Int) - 1 + -1 = (n : Int) - 1 by omega]
            exact ih (by omega) (by rw [← hq]; show _ = ite _ _ _; rw [if_neg (by omega)])
          · refine g_aload_n h dX7_latestReading_41 rfl ?_
            refine g_getQ h flX7_15 rfl (by assumption) (by assumption) dX7_latestReading_42 ?_
            refine g_iload h dX7_latestReading_45 rfl ?_
            refine g_iald h (n) (by assumption) (by omega) (by omega) (by decide) dX7_latestReading_47 ?_
            refine g_iload_n h dX7_latestReading_48 rfl ?_
            refine g_icmp_gt (tgt := 55) h dX7_latestReading_49 (by decide) (by first | assumption | exact ⟨by omega, by omega⟩) (by first | assumption | exact ⟨by omega, by omega⟩) (fun c49 => ?_) (fun c49 => ?_)
            · refine g_iinc h dX7_latestReading_55 rfl (Nat.le_of_ble_eq_true rfl) rfl rfl ?_
              refine g_goto (tgt := 14) h dX7_latestReading_58 (by decide) ?_
              rw [show ((n + 1 : Nat) : Int) - 1 + -1 = (n : Int) - 1 by omega]
              exact ih (by omega) (by rw [← hq]; show _ = ite _ _ _; rw [if_neg (by omega)])
            · refine g_iload h dX7_latestReading_52 rfl ?_
              refine g_iret h hQ (by decide) (by decide) ?_ dX7_latestReading_54
              rw [← hq]; refine ⟨?_, rfl⟩; show some (ai _) = some (ai (flA (ite _ _ _))); rw [if_pos (by omega), show ((n + 1 : Nat) : Int) - 1 = (n : Int) by omega]; rfl
  refine g_aload_n h dX7_latestReading_0 rfl ?_
  refine g_getI h flX7_33 rfl (by assumption) dX7_latestReading_1 ?_
  refine g_sipush h dX7_latestReading_4 rfl ?_
  refine g_min h rfl mminX7_48 (by first | assumption | exact ⟨by omega, by omega⟩) (by first | assumption | exact ⟨by omega, by omega⟩) (by rw [hRm]; decide) (by rw [hRm]; decide) (fun _ => Nat.le_of_ble_eq_true rfl) (by rw [hRm]; decide) (by rw [hRm]; decide) dX7_latestReading_7 ?_
  refine g_iconst h dX7_latestReading_10 ?_
  refine g_isub h dX7_latestReading_11 ?_
  refine g_istore h dX7_latestReading_12 (Nat.le_of_ble_eq_true rfl) rfl rfl ?_
  rw [show min (w.2.1 28 3) 300 - 1 = (rn : Int) - 1 by omega]
  exact loop rn (Nat.le_refl _) rfl
def laF (w : AW) (st day : Int) (rn : Nat) : Option Nat := lrF (w.2.1 29) (w.2.1 30) st (day - 7 + 1) day rn
set_option maxRecDepth 100000 in
set_option maxHeartbeats 4000000 in
theorem c_X7_latestAlive (l : Launch) (w : AW) (rn sn : Nat) (st day : Int) (hX : XS w) (hS : SI w rn sn) (hst : R32 st) (hd : -1 ≤ day) (hd2 : day ≤ 3000) : HT l yX7_latestAlive cX7_latestAlive 3 (some .int) 2 0 0 w [ar 28, ai st, ai day] (rI (flA (laF w st day rn)) w) := by
  refine HT.of (by decide) (by intro v hv; simp only [List.mem_cons, List.not_mem_nil, or_false] at hv; rcases hv with rfl | rfl | rfl <;> rfl) (Nat.le_of_ble_eq_true rfl) ?_
  intro Γ h hQ hRm hnm hl hw0
  have s28 : w.1 28 = (107, 0) := hX.1 28 (by decide)
  refine g_aload_n h dX7_latestAlive_0 rfl ?_
  refine g_iload_n h dX7_latestAlive_1 rfl ?_
  refine g_iload_n h dX7_latestAlive_2 rfl ?_
  refine g_bipush h dX7_latestAlive_3 rfl ?_
  refine g_isub h dX7_latestAlive_5 ?_
  refine g_iconst h dX7_latestAlive_6 ?_
  refine g_iadd h dX7_latestAlive_7 ?_
  refine g_iload_n h dX7_latestAlive_8 rfl ?_
  refine g_callV h rfl (ci := 7) [_, _, _] (by assumption) (c_X7_latestReading _ _ rn sn st _ _ hX hS hst ⟨by omega, by omega⟩ ⟨by omega, by omega⟩) clX7_40 (by decide) rfl in_X7_latestReading se_X7_latestReading rfl rfl (by rw [hRm]; decide) (by rw [hRm]; decide) (fun _ => Nat.le_of_ble_eq_true rfl) (by rw [hRm]; decide) (by rw [hRm]; decide) dX7_latestAlive_9 (fun r9 w9 hp9 => ?_)
  obtain ⟨rfl, hw9⟩ := hp9
  rw [hw9]
  refine g_iret h hQ (by decide) (by decide) ?_ dX7_latestAlive_12
  (first | exact ⟨rfl, rfl⟩ | (exfalso; omega))
set_option maxRecDepth 100000 in
set_option maxHeartbeats 4000000 in
theorem c_X7_isDead (l : Launch) (w : AW) (rn sn : Nat) (st day : Int) (hX : XS w) (hS : SI w rn sn) (hst : R32 st) (hd : -1 ≤ day) (hd2 : day ≤ 3000) : HT l yX7_isDead cX7_isDead 3 (some .boolean) 3 0 0 w [ar 28, ai st, ai day] (rI (if laF w st day rn = none then 1 else 0) w) := by
  refine HT.of (by decide) (by intro v hv; simp only [List.mem_cons, List.not_mem_nil, or_false] at hv; rcases hv with rfl | rfl | rfl <;> rfl) (Nat.le_of_ble_eq_true rfl) ?_
  intro Γ h hQ hRm hnm hl hw0
  have s28 : w.1 28 = (107, 0) := hX.1 28 (by decide)
  have hla := flA_bd (r := laF w st day rn) (n := rn) (fun m q => (lrF_lt _ _ q).1)
  have hr3 := hS.2.1
  have hlb : (flA (laF w st day rn) = -1 → laF w st day rn = none) ∧ (flA (laF w st day rn) ≠ -1 → laF w st day rn ≠ none) := by
    cases hq : laF w st day rn with
    | none => exact ⟨fun _ => rfl, fun q => absurd rfl q⟩
    | some m => exact ⟨fun q => by have : (m : Int) = -1 := q; omega, fun _ q => by cases q⟩
  refine g_aload_n h dX7_isDead_0 rfl ?_
  refine g_iload_n h dX7_isDead_1 rfl ?_
  refine g_iload_n h dX7_isDead_2 rfl ?_
  refine g_callV h rfl (ci := 7) [_, _] (by assumption) (c_X7_latestAlive _ _ rn sn st _ hX hS hst hd hd2) clX7_54 (by decide) rfl in_X7_latestAlive se_X7_latestAlive rfl rfl (by rw [hRm]; decide) (by rw [hRm]; decide) (fun _ => Nat.le_of_ble_eq_true rfl) (by rw [hRm]; decide) (by rw [hRm]; decide) dX7_isDead_3 (fun r3 w3 hp3 => ?_)
  obtain ⟨rfl, hw3⟩ := hp3
  rw [hw3]
  refine g_iconst h dX7_isDead_6 ?_
  refine g_icmp_ne (tgt := 14) h dX7_isDead_7 (by decide) (by first | assumption | exact ⟨by omega, by omega⟩) (by first | assumption | exact ⟨by omega, by omega⟩) (fun c7 => ?_) (fun c7 => ?_)
  · refine g_iconst h dX7_isDead_14 ?_
    refine g_zret h hQ (by decide) (by decide) (by omega) ?_ dX7_isDead_15
    first
    | (rw [hlb.1 (by omega)]; exact ⟨rfl, rfl⟩)
    | (rw [if_neg (hlb.2 (by omega))]; exact ⟨rfl, rfl⟩)
  · refine g_iconst h dX7_isDead_10 ?_
    refine g_goto (tgt := 15) h dX7_isDead_11 (by decide) ?_
    refine g_zret h hQ (by decide) (by decide) (by omega) ?_ dX7_isDead_15
    first
    | (rw [hlb.1 (by omega)]; exact ⟨rfl, rfl⟩)
    | (rw [if_neg (hlb.2 (by omega))]; exact ⟨rfl, rfl⟩)
set_option maxRecDepth 100000 in
set_option maxHeartbeats 4000000 in
theorem c_X7_gasOfReading (l : Launch) (w : AW) (rn sn i : Nat) (hX : XS w) (hS : SI w rn sn) (hi : i < rn) : HT l yX7_gasOfReading cX7_gasOfReading 2 (some .int) 1 0 0 w [ar 28, ai (i : Int)] (rI (w.2.1 31 i) w) := by
  refine HT.of (by decide) (by intro v hv; simp only [List.mem_cons, List.not_mem_nil, or_false] at hv; rcases hv with rfl | rfl <;> rfl) (Nat.le_of_ble_eq_true rfl) ?_
  intro Γ h hQ hRm hnm hl hw0
  have s28 : w.1 28 = (107, 0) := hX.1 28 (by decide)
  have s31 : w.1 31 = (1, 300) := hX.1 31 (by decide)
  have p28_2 : w.2.2 28 2 = some 31 := hX.2 (28, 2, 31) (by decide)
  have hr3 := hS.2.1
  refine g_iload_n h dX7_gasOfReading_0 rfl ?_
  refine g_if_lt (tgt := 20) h dX7_gasOfReading_1 (by decide) (by first | assumption | exact ⟨by omega, by omega⟩) (fun c1 => ?_) (fun c1 => ?_)
  · refine g_iconst h dX7_gasOfReading_20 ?_
    refine g_iret h hQ (by decide) (by decide) ?_ dX7_gasOfReading_21
    (first | exact ⟨rfl, rfl⟩ | (exfalso; omega))
  · refine g_iload_n h dX7_gasOfReading_4 rfl ?_
    refine g_sipush h dX7_gasOfReading_5 rfl ?_
    refine g_icmp_ge (tgt := 20) h dX7_gasOfReading_8 (by decide) (by first | assumption | exact ⟨by omega, by omega⟩) (by first | assumption | exact ⟨by omega, by omega⟩) (fun c8 => ?_) (fun c8 => ?_)
    · refine g_iconst h dX7_gasOfReading_20 ?_
      refine g_iret h hQ (by decide) (by decide) ?_ dX7_gasOfReading_21
      (first | exact ⟨rfl, rfl⟩ | (exfalso; omega))
    · refine g_aload_n h dX7_gasOfReading_11 rfl ?_
      refine g_getQ h flX7_18 rfl (by assumption) (by assumption) dX7_gasOfReading_12 ?_
      refine g_iload_n h dX7_gasOfReading_15 rfl ?_
      refine g_iald h _ (by assumption) rfl (by omega) (by decide) dX7_gasOfReading_16 ?_
      refine g_goto (tgt := 21) h dX7_gasOfReading_17 (by decide) ?_
      refine g_iret h hQ (by decide) (by decide) ?_ dX7_gasOfReading_21
      (first | exact ⟨rfl, rfl⟩ | (exfalso; omega))
/-- soundings ahead of a day, and behind it: the last of the nearest -/
def dB (ss sd : Nat → Int) (st day last : Int) : Nat → Option Nat × Option Nat
  | 0 => (none, none)
  | n + 1 => if ss n = st ∧ sd n ≤ last then
      (if sd n ≤ day then (some n, (dB ss sd st day last n).2)
       else match (dB ss sd st day last n).2 with
        | none => ((dB ss sd st day last n).1, some n)
        | some b => if sd n = sd b then ((dB ss sd st day last n).1, some n) else dB ss sd st day last n)
    else dB ss sd st day last n
theorem dB_lt {ss sd : Nat → Int} {st day last : Int} : ∀ n : Nat, (∀ a, (dB ss sd st day last n).1 = some a → a < n ∧ sd a ≤ day) ∧ (∀ b, (dB ss sd st day last n).2 = some b → b < n ∧ day < sd b)
  | 0 => ⟨fun a h => (by cases h), fun a h => (by cases h)⟩
  | n + 1 => by
    obtain ⟨h1, h2⟩ := dB_lt (ss := ss) (sd := sd) (st := st) (day := day) (last := last) n
    have h1' : ∀ a, (dB ss sd st day last n).1 = some a → a < n + 1 ∧ sd a ≤ day := fun a q => ⟨by have := (h1 a q).1; omega, (h1 a q).2⟩
    have h2' : ∀ a, (dB ss sd st day last n).2 = some a → a < n + 1 ∧ day < sd a := fun a q => ⟨by have := (h2 a q).1; omega, (h2 a q).2⟩
    unfold dB
    split
    · split
      · rename_i c
        exact ⟨fun a q => (by cases q; exact ⟨by omega, c⟩), h2'⟩
      · rename_i c
        split
        · exact ⟨h1', fun a q => by cases q; exact ⟨by omega, by omega⟩⟩
        · split
          · exact ⟨h1', fun a q => by cases q; exact ⟨by omega, by omega⟩⟩
          · exact ⟨h1', h2'⟩
    · exact ⟨h1', h2'⟩
def drF (sd dr : Nat → Int) (day : Int) : Option Nat × Option Nat → Int
  | (none, none) => 0
  | (none, some b) => dr b
  | (some a, none) => dr a
  | (some a, some b) => dr a + (dr b - dr a) * (day - sd a) / (sd b - sd a)
theorem mulR {a b : Int} (ha : -200000 ≤ a) (ha2 : a ≤ 200000) (hb : 0 ≤ b) (hb2 : b ≤ 3000) : -600000000 ≤ a * b ∧ a * b ≤ 600000000 := by
  have h1 := Int.mul_le_mul_of_nonneg_right ha hb
  have h2 := Int.mul_le_mul_of_nonneg_right ha2 hb
  omega
theorem divR {a b : Int} (ha : -600000000 ≤ a) (ha2 : a ≤ 600000000) (hb : 0 < b) : -600000000 ≤ a / b ∧ a / b ≤ 600000000 := by
  refine ⟨?_, ?_⟩
  · rw [Int.le_ediv_iff_mul_le hb]
    have : (-600000000 : Int) * b ≤ -600000000 * 1 := by omega
    omega
  · have : a / b < 600000001 := by
      rw [Int.ediv_lt_iff_lt_mul hb]
      have : (600000001 : Int) * 1 ≤ 600000001 * b := by omega
      omega
    omega
def drW (w : AW) (st day last : Int) (sn : Nat) : Int := drF (w.2.1 33) (w.2.1 35) day (dB (w.2.1 32) (w.2.1 33) st day last sn)
theorem drW_bd {w : AW} {rn sn : Nat} (hS : SI w rn sn) {st day last : Int} (hd : 0 ≤ day) (hd2 : day ≤ 2999) : -600100000 ≤ drW w st day last sn ∧ drW w st day last sn ≤ 600100000 := by
  obtain ⟨hr, hr3, hs, hs6, hri, hsi⟩ := hS
  obtain ⟨h1, h2⟩ := dB_lt (ss := w.2.1 32) (sd := w.2.1 33) (st := st) (day := day) (last := last) sn
  unfold drW
  rcases hq : dB (w.2.1 32) (w.2.1 33) st day last sn with ⟨_ | a, _ | b⟩
  · show _ ≤ (0 : Int) ∧ (0 : Int) ≤ _; omega
  · rw [hq] at h2
    have := hsi b (h2 b rfl).1
    show _ ≤ w.2.1 35 b ∧ w.2.1 35 b ≤ _; omega
  · rw [hq] at h1
    have := hsi a (h1 a rfl).1
    show _ ≤ w.2.1 35 a ∧ w.2.1 35 a ≤ _; omega
  · rw [hq] at h1 h2
    have a1 := h1 a rfl
    have b1 := h2 b rfl
    have a2 := hsi a a1.1
    have b2 := hsi b b1.1
    have m := mulR (a := w.2.1 35 b - w.2.1 35 a) (b := day - w.2.1 33 a) (by omega) (by omega) (by omega) (by omega)
    have d := divR m.1 m.2 (show 0 < w.2.1 33 b - w.2.1 33 a by omega)
    show _ ≤ w.2.1 35 a + _ / _ ∧ w.2.1 35 a + _ / _ ≤ _
    omega
set_option maxRecDepth 100000 in
set_option maxHeartbeats 4000000 in
theorem c_X7_driftOn (l : Launch) (w : AW) (rn sn : Nat) (st day last : Int) (hX : XS w) (hS : SI w rn sn) (hst : R32 st) (hd : 0 ≤ day) (hd2 : day ≤ 2999) (hla : R32 last) : HT l yX7_driftOn cX7_driftOn 8 (some .int) 2 0 0 w [ar 28, ai st, ai day, ai last] (rI (drW w st day last sn) w) := by
  refine HT.of (by decide) (by intro v hv; simp only [List.mem_cons, List.not_mem_nil, or_false] at hv; rcases hv with rfl | rfl | rfl | rfl <;> rfl) (Nat.le_of_ble_eq_true rfl) ?_
  intro Γ h hQ hRm hnm hl hw0
  have s28 : w.1 28 = (107, 0) := hX.1 28 (by decide)
  have s32 : w.1 32 = (1, 60) := hX.1 32 (by decide)
  have s33 : w.1 33 = (1, 60) := hX.1 33 (by decide)
  have s35 : w.1 35 = (1, 60) := hX.1 35 (by decide)
  have p28_4 : w.2.2 28 4 = some 32 := hX.2 (28, 4, 32) (by decide)
  have p28_5 : w.2.2 28 5 = some 33 := hX.2 (28, 5, 33) (by decide)
  have p28_7 : w.2.2 28 7 = some 35 := hX.2 (28, 7, 35) (by decide)
  obtain ⟨hr, hr3, hs, hs6, hri, hsi⟩ := id hS
  have tail : ∀ (x : Option AV) (y z : Option AV), GG Γ 98 [some (ar 28), some (ai st), some (ai day), some (ai last), some (ai (flA (dB (w.2.1 32) (w.2.1 33) st day last sn).1)), some (ai (flA (dB (w.2.1 32) (w.2.1 33) st day last sn).2)), x, y] [] w 0 0 := by
    intro x y z
    obtain ⟨h1, h2⟩ := dB_lt (ss := w.2.1 32) (sd := w.2.1 33) (st := st) (day := day) (last := last) sn
    rcases hq : dB (w.2.1 32) (w.2.1 33) st day last sn with ⟨_ | a, _ | b⟩
    · skip
      show GG Γ 98 [some (ar 28), some (ai st), some (ai day), some (ai last), some (ai (-1)), some (ai (-1)), x, y] [] w 0 0
      refine g_iload h dX7_driftOn_98 rfl ?_
      refine g_iconst h dX7_driftOn_100 ?_
      refine g_icmp_ne (tgt := 122) h dX7_driftOn_101 (by decide) (by first | assumption | exact ⟨by omega, by omega⟩) (by first | assumption | exact ⟨by omega, by omega⟩) (fun c101 => ?_) (fun c101 => ?_)
      · exfalso; omega
      · refine g_iload h dX7_driftOn_104 rfl ?_
        refine g_iconst h dX7_driftOn_106 ?_
        refine g_icmp_ne (tgt := 114) h dX7_driftOn_107 (by decide) (by first | assumption | exact ⟨by omega, by omega⟩) (by first | assumption | exact ⟨by omega, by omega⟩) (fun c107 => ?_) (fun c107 => ?_)
        · exfalso; omega
        · refine g_iconst h dX7_driftOn_110 ?_
          refine g_goto (tgt := 121) h dX7_driftOn_111 (by decide) ?_
          refine g_iret h hQ (by decide) (by decide) ?_ dX7_driftOn_121
          (unfold drW; rw [hq]; exact ⟨rfl, rfl⟩)
    · rw [hq] at h2
      have b2 := hsi b (h2 b rfl).1
      have b3 := (h2 b rfl).1
      show GG Γ 98 [some (ar 28), some (ai st), some (ai day), some (ai last), some (ai (-1)), some (ai (b : Int)), x, y] [] w 0 0
      refine g_iload h dX7_driftOn_98 rfl ?_
      refine g_iconst h dX7_driftOn_100 ?_
      refine g_icmp_ne (tgt := 122) h dX7_driftOn_101 (by decide) (by first | assumption | exact ⟨by omega, by omega⟩) (by first | assumption | exact ⟨by omega, by omega⟩) (fun c101 => ?_) (fun c101 => ?_)
      · exfalso; omega
      · refine g_iload h dX7_driftOn_104 rfl ?_
        refine g_iconst h dX7_driftOn_106 ?_
        refine g_icmp_ne (tgt := 114) h dX7_driftOn_107 (by decide) (by first | assumption | exact ⟨by omega, by omega⟩) (by first | assumption | exact ⟨by omega, by omega⟩) (fun c107 => ?_) (fun c107 => ?_)
        · refine g_aload_n h dX7_driftOn_114 rfl ?_
          refine g_getQ h flX7_30 rfl (by assumption) (by assumption) dX7_driftOn_115 ?_
          refine g_iload h dX7_driftOn_118 rfl ?_
          refine g_iald h _ (by assumption) rfl (by omega) (by decide) dX7_driftOn_120 ?_
          refine g_iret h hQ (by decide) (by decide) ?_ dX7_driftOn_121
          (unfold drW; rw [hq]; exact ⟨rfl, rfl⟩)
        · exfalso; omega
    · rw [hq] at h1
      have a2 := hsi a (h1 a rfl).1
      have a3 := (h1 a rfl).1
      show GG Γ 98 [some (ar 28), some (ai st), some (ai day), some (ai last), some (ai (a : Int)), some (ai (-1)), x, y] [] w 0 0
      refine g_iload h dX7_driftOn_98 rfl ?_
      refine g_iconst h dX7_driftOn_100 ?_
      refine g_icmp_ne (tgt := 122) h dX7_driftOn_101 (by decide) (by first | assumption | exact ⟨by omega, by omega⟩) (by first | assumption | exact ⟨by omega, by omega⟩) (fun c101 => ?_) (fun c101 => ?_)
      · refine g_iload h dX7_driftOn_122 rfl ?_
        refine g_iconst h dX7_driftOn_124 ?_
        refine g_icmp_ne (tgt := 132) h dX7_driftOn_125 (by decide) (by first | assumption | exact ⟨by omega, by omega⟩) (by first | assumption | exact ⟨by omega, by omega⟩) (fun c125 => ?_) (fun c125 => ?_)
        · exfalso; omega
        · refine g_iconst h dX7_driftOn_128 ?_
          refine g_goto (tgt := 147) h dX7_driftOn_129 (by decide) ?_
          refine g_istore h dX7_driftOn_147 (Nat.le_of_ble_eq_true rfl) rfl rfl ?_
          refine g_iload h dX7_driftOn_149 rfl ?_
          refine g_if_gt (tgt := 162) h dX7_driftOn_151 (by decide) (by first | assumption | exact ⟨by omega, by omega⟩) (fun c151 => ?_) (fun c151 => ?_)
          · exfalso; omega
          · refine g_aload_n h dX7_driftOn_154 rfl ?_
            refine g_getQ h flX7_30 rfl (by assumption) (by assumption) dX7_driftOn_155 ?_
            refine g_iload h dX7_driftOn_158 rfl ?_
            refine g_iald h _ (by assumption) rfl (by omega) (by decide) dX7_driftOn_160 ?_
            refine g_iret h hQ (by decide) (by decide) ?_ dX7_driftOn_161
            (unfold drW; rw [hq]; exact ⟨rfl, rfl⟩)
      · exfalso; omega
    · rw [hq] at h1 h2
      have a1 := h1 a rfl
      have b1 := h2 b rfl
      have a2 := hsi a a1.1
      have b2 := hsi b b1.1
      have m := mulR (a := w.2.1 35 b - w.2.1 35 a) (b := day - w.2.1 33 a) (by omega) (by omega) (by omega) (by omega)
      show GG Γ 98 [some (ar 28), some (ai st), some (ai day), some (ai last), some (ai (a : Int)), some (ai (b : Int)), x, y] [] w 0 0
      refine g_iload h dX7_driftOn_98 rfl ?_
      refine g_iconst h dX7_driftOn_100 ?_
      refine g_icmp_ne (tgt := 122) h dX7_driftOn_101 (by decide) (by first | assumption | exact ⟨by omega, by omega⟩) (by first | assumption | exact ⟨by omega, by omega⟩) (fun c101 => ?_) (fun c101 => ?_)
      · refine g_iload h dX7_driftOn_122 rfl ?_
        refine g_iconst h dX7_driftOn_124 ?_
        refine g_icmp_ne (tgt := 132) h dX7_driftOn_125 (by decide) (by first | assumption | exact ⟨by omega, by omega⟩) (by first | assumption | exact ⟨by omega, by omega⟩) (fun c125 => ?_) (fun c125 => ?_)
        · refine g_aload_n h dX7_driftOn_132 rfl ?_
          refine g_getQ h flX7_24 rfl (by assumption) (by assumption) dX7_driftOn_133 ?_
          refine g_iload h dX7_driftOn_136 rfl ?_
          refine g_iald h _ (by assumption) rfl (by omega) (by decide) dX7_driftOn_138 ?_
          refine g_aload_n h dX7_driftOn_139 rfl ?_
          refine g_getQ h flX7_24 rfl (by assumption) (by assumption) dX7_driftOn_140 ?_
          refine g_iload h dX7_driftOn_143 rfl ?_
          refine g_iald h _ (by assumption) rfl (by omega) (by decide) dX7_driftOn_145 ?_
          refine g_isub h dX7_driftOn_146 ?_
          refine g_istore h dX7_driftOn_147 (Nat.le_of_ble_eq_true rfl) rfl rfl ?_
          refine g_iload h dX7_driftOn_149 rfl ?_
          refine g_if_gt (tgt := 162) h dX7_driftOn_151 (by decide) (by first | assumption | exact ⟨by omega, by omega⟩) (fun c151 => ?_) (fun c151 => ?_)
          · refine g_aload_n h dX7_driftOn_162 rfl ?_
            refine g_getQ h flX7_30 rfl (by assumption) (by assumption) dX7_driftOn_163 ?_
            refine g_iload h dX7_driftOn_166 rfl ?_
            refine g_iald h _ (by assumption) rfl (by omega) (by decide) dX7_driftOn_168 ?_
            refine g_aload_n h dX7_driftOn_169 rfl ?_
            refine g_getQ h flX7_30 rfl (by assumption) (by assumption) dX7_driftOn_170 ?_
            refine g_iload h dX7_driftOn_173 rfl ?_
            refine g_iald h _ (by assumption) rfl (by omega) (by decide) dX7_driftOn_175 ?_
            refine g_isub h dX7_driftOn_176 ?_
            refine g_istore h dX7_driftOn_177 (Nat.le_of_ble_eq_true rfl) rfl rfl ?_
            refine g_aload_n h dX7_driftOn_179 rfl ?_
            refine g_getQ h flX7_30 rfl (by assumption) (by assumption) dX7_driftOn_180 ?_
            refine g_iload h dX7_driftOn_183 rfl ?_
            refine g_iald h _ (by assumption) rfl (by omega) (by decide) dX7_driftOn_185 ?_
            refine g_iload h dX7_driftOn_186 rfl ?_
            refine g_iload_n h dX7_driftOn_188 rfl ?_
            refine g_aload_n h dX7_driftOn_189 rfl ?_
            refine g_getQ h flX7_24 rfl (by assumption) (by assumption) dX7_driftOn_190 ?_
            refine g_iload h dX7_driftOn_193 rfl ?_
            refine g_iald h _ (by assumption) rfl (by omega) (by decide) dX7_driftOn_195 ?_
            refine g_isub h dX7_driftOn_196 ?_
            refine g_imul h dX7_driftOn_197 ?_
            refine g_iload h dX7_driftOn_198 rfl ?_
            refine g_callS h rfl [_, _] (c_J9_floorDiv_7cf53 _ _ _ _ ⟨by omega, by omega⟩ ⟨by omega, by omega⟩ (by omega)) clX7_67 st_J9_floorDiv_7cf53 rfl rfl (by rw [hRm]; decide) (by rw [hRm]; decide) (fun _ => Nat.le_of_ble_eq_true rfl) (by rw [hRm]; decide) (by rw [hRm]; decide) dX7_driftOn_200 (fun r200 w200 hp200 => ?_)
            obtain ⟨rfl, hw200⟩ := hp200
            rw [hw200]
            refine g_iadd h dX7_driftOn_203 ?_
            refine g_iret h hQ (by decide) (by decide) ?_ dX7_driftOn_204
            (unfold drW; rw [hq]; exact ⟨rfl, rfl⟩)
          · exfalso; omega
        · exfalso; omega
      · exfalso; omega
  have loop : ∀ (n i : Nat) (x y : Option AV), i + n = sn → GG Γ 9 [some (ar 28), some (ai st), some (ai day), some (ai last), some (ai (flA (dB (w.2.1 32) (w.2.1 33) st day last i).1)), some (ai (flA (dB (w.2.1 32) (w.2.1 33) st day last i).2)), some (ai (i : Int)), x] [] w 0 0 := by
    intro n
    induction n with
    | zero =>
      intro i x y hi
      obtain rfl : i = sn := by omega
      refine g_iload h dX7_driftOn_9 rfl ?_
      refine g_aload_n h dX7_driftOn_11 rfl ?_
      refine g_getI h flX7_37 rfl (by assumption) dX7_driftOn_12 ?_
      refine g_icmp_ge (tgt := 98) h dX7_driftOn_15 (by decide) (by first | assumption | exact ⟨by omega, by omega⟩) (by first | assumption | exact ⟨by omega, by omega⟩) (fun c15 => ?_) (fun c15 => ?_)
      · exact tail _ _ none
      · exfalso; omega
    | succ n ih =>
      intro i x y hi
      have hsi1 := hsi i (by omega)
      obtain ⟨h1, h2⟩ := dB_lt (ss := w.2.1 32) (sd := w.2.1 33) (st := st) (day := day) (last := last) i
      have hih := ih (i + 1) x y (by omega)
      have hdb : dB (w.2.1 32) (w.2.1 33) st day last (i + 1) = if w.2.1 32 i = st ∧ w.2.1 33 i ≤ last then
        (if w.2.1 33 i ≤ day then (some i, (dB (w.2.1 32) (w.2.1 33) st day last i).2)
         else match (dB (w.2.1 32) (w.2.1 33) st day last i).2 with
          | none => ((dB (w.2.1 32) (w.2.1 33) st day last i).1, some i)
          | some b => if w.2.1 33 i = w.2.1 33 b then ((dB (w.2.1 32) (w.2.1 33) st day last i).1, some i) else dB (w.2.1 32) (w.2.1 33) st day last i)
        else dB (w.2.1 32) (w.2.1 33) st day last i := rfl
      rw [hdb] at hih
      rcases hq : (dB (w.2.1 32) (w.2.1 33) st day last i).2 with _ | b
      · rw [hq] at hih
        show GG Γ 9 [some (ar 28), some (ai st), some (ai day), some (ai last), some (ai (flA (dB (w.2.1 32) (w.2.1 33) st day last i).1)), some (ai (-1)), some (ai (i : Int)), x] [] w 0 0
        refine g_iload h dX7_driftOn_9 rfl ?_
        refine g_aload_n h dX7_driftOn_11 rfl ?_
        refine g_getI h flX7_37 rfl (by assumption) dX7_driftOn_12 ?_
        refine g_icmp_ge (tgt := 98) h dX7_driftOn_15 (by decide) (by first | assumption | exact ⟨by omega, by omega⟩) (by first | assumption | exact ⟨by omega, by omega⟩) (fun c15 => ?_) (fun c15 => ?_)
        · exfalso; omega
        · refine g_iload h dX7_driftOn_18 rfl ?_
          refine g_bipush h dX7_driftOn_20 rfl ?_
          refine g_icmp_ge (tgt := 98) h dX7_driftOn_22 (by decide) (by first | assumption | exact ⟨by omega, by omega⟩) (by first | assumption | exact ⟨by omega, by omega⟩) (fun c22 => ?_) (fun c22 => ?_)
          · exfalso; omega
          · refine g_aload_n h dX7_driftOn_25 rfl ?_
            refine g_getQ h flX7_21 rfl (by assumption) (by assumption) dX7_driftOn_26 ?_
            refine g_iload h dX7_driftOn_29 rfl ?_
            refine g_iald h _ (by assumption) rfl (by omega) (by decide) dX7_driftOn_31 ?_
            refine g_iload_n h dX7_driftOn_32 rfl ?_
            refine g_icmp_ne (tgt := 92) h dX7_driftOn_33 (by decide) (by first | assumption | exact ⟨by omega, by omega⟩) (by first | assumption | exact ⟨by omega, by omega⟩) (fun c33 => ?_) (fun c33 => ?_)
            · refine g_iinc h dX7_driftOn_92 rfl (Nat.le_of_ble_eq_true rfl) rfl rfl ?_
              refine g_goto (tgt := 9) h dX7_driftOn_95 (by decide) ?_
              first
              | (rw [if_neg (by omega)] at hih; rw [hq] at hih; exact hih)
              | (rw [if_pos (by omega), if_pos (by omega)] at hih; exact hih)
              | (rw [if_pos (by omega), if_neg (by omega)] at hih; exact hih)
            · refine g_aload_n h dX7_driftOn_36 rfl ?_
              refine g_getQ h flX7_24 rfl (by assumption) (by assumption) dX7_driftOn_37 ?_
              refine g_iload h dX7_driftOn_40 rfl ?_
              refine g_iald h _ (by assumption) rfl (by omega) (by decide) dX7_driftOn_42 ?_
              refine g_iload_n h dX7_driftOn_43 rfl ?_
              refine g_icmp_gt (tgt := 92) h dX7_driftOn_44 (by decide) (by first | assumption | exact ⟨by omega, by omega⟩) (by first | assumption | exact ⟨by omega, by omega⟩) (fun c44 => ?_) (fun c44 => ?_)
              · refine g_iinc h dX7_driftOn_92 rfl (Nat.le_of_ble_eq_true rfl) rfl rfl ?_
                refine g_goto (tgt := 9) h dX7_driftOn_95 (by decide) ?_
                first
                | (rw [if_neg (by omega)] at hih; rw [hq] at hih; exact hih)
                | (rw [if_pos (by omega), if_pos (by omega)] at hih; exact hih)
                | (rw [if_pos (by omega), if_neg (by omega)] at hih; exact hih)
              · refine g_aload_n h dX7_driftOn_47 rfl ?_
                refine g_getQ h flX7_24 rfl (by assumption) (by assumption) dX7_driftOn_48 ?_
                refine g_iload h dX7_driftOn_51 rfl ?_
                refine g_iald h _ (by assumption) rfl (by omega) (by decide) dX7_driftOn_53 ?_
                refine g_iload_n h dX7_driftOn_54 rfl ?_
                refine g_icmp_gt (tgt := 65) h dX7_driftOn_55 (by decide) (by first | assumption | exact ⟨by omega, by omega⟩) (by first | assumption | exact ⟨by omega, by omega⟩) (fun c55 => ?_) (fun c55 => ?_)
                · refine g_iload h dX7_driftOn_65 rfl ?_
                  refine g_iconst h dX7_driftOn_67 ?_
                  refine g_icmp_eq (tgt := 88) h dX7_driftOn_68 (by decide) (by first | assumption | exact ⟨by omega, by omega⟩) (by first | assumption | exact ⟨by omega, by omega⟩) (fun c68 => ?_) (fun c68 => ?_)
                  · refine g_iload h dX7_driftOn_88 rfl ?_
                    refine g_istore h dX7_driftOn_90 (Nat.le_of_ble_eq_true rfl) rfl rfl ?_
                    refine g_iinc h dX7_driftOn_92 rfl (Nat.le_of_ble_eq_true rfl) rfl rfl ?_
                    refine g_goto (tgt := 9) h dX7_driftOn_95 (by decide) ?_
                    first
                    | (rw [if_neg (by omega)] at hih; rw [hq] at hih; exact hih)
                    | (rw [if_pos (by omega), if_pos (by omega)] at hih; exact hih)
                    | (rw [if_pos (by omega), if_neg (by omega)] at hih; exact hih)
                  · exfalso; omega
                · refine g_iload h dX7_driftOn_58 rfl ?_
                  refine g_istore h dX7_driftOn_60 (Nat.le_of_ble_eq_true rfl) rfl rfl ?_
                  refine g_goto (tgt := 92) h dX7_driftOn_62 (by decide) ?_
                  refine g_iinc h dX7_driftOn_92 rfl (Nat.le_of_ble_eq_true rfl) rfl rfl ?_
                  refine g_goto (tgt := 9) h dX7_driftOn_95 (by decide) ?_
                  first
                  | (rw [if_neg (by omega)] at hih; rw [hq] at hih; exact hih)
                  | (rw [if_pos (by omega), if_pos (by omega)] at hih; exact hih)
                  | (rw [if_pos (by omega), if_neg (by omega)] at hih; exact hih)
      · rw [hq] at hih
        have hbb := h2 b hq
        have hsb := hsi b (by omega)
        show GG Γ 9 [some (ar 28), some (ai st), some (ai day), some (ai last), some (ai (flA (dB (w.2.1 32) (w.2.1 33) st day last i).1)), some (ai (b : Int)), some (ai (i : Int)), x] [] w 0 0
        refine g_iload h dX7_driftOn_9 rfl ?_
        refine g_aload_n h dX7_driftOn_11 rfl ?_
        refine g_getI h flX7_37 rfl (by assumption) dX7_driftOn_12 ?_
        refine g_icmp_ge (tgt := 98) h dX7_driftOn_15 (by decide) (by first | assumption | exact ⟨by omega, by omega⟩) (by first | assumption | exact ⟨by omega, by omega⟩) (fun c15 => ?_) (fun c15 => ?_)
        · exfalso; omega
        · refine g_iload h dX7_driftOn_18 rfl ?_
          refine g_bipush h dX7_driftOn_20 rfl ?_
          refine g_icmp_ge (tgt := 98) h dX7_driftOn_22 (by decide) (by first | assumption | exact ⟨by omega, by omega⟩) (by first | assumption | exact ⟨by omega, by omega⟩) (fun c22 => ?_) (fun c22 => ?_)
          · exfalso; omega
          · refine g_aload_n h dX7_driftOn_25 rfl ?_
            refine g_getQ h flX7_21 rfl (by assumption) (by assumption) dX7_driftOn_26 ?_
            refine g_iload h dX7_driftOn_29 rfl ?_
            refine g_iald h _ (by assumption) rfl (by omega) (by decide) dX7_driftOn_31 ?_
            refine g_iload_n h dX7_driftOn_32 rfl ?_
            refine g_icmp_ne (tgt := 92) h dX7_driftOn_33 (by decide) (by first | assumption | exact ⟨by omega, by omega⟩) (by first | assumption | exact ⟨by omega, by omega⟩) (fun c33 => ?_) (fun c33 => ?_)
            · refine g_iinc h dX7_driftOn_92 rfl (Nat.le_of_ble_eq_true rfl) rfl rfl ?_
              refine g_goto (tgt := 9) h dX7_driftOn_95 (by decide) ?_
              first
              | (rw [if_neg (by omega)] at hih; rw [hq] at hih; exact hih)
              | (rw [if_pos (by omega), if_pos (by omega)] at hih; exact hih)
              | (rw [if_pos (by omega), if_neg (by omega)] at hih; dsimp only at hih; rw [if_pos (by omega)] at hih; exact hih)
              | (rw [if_pos (by omega), if_neg (by omega)] at hih; dsimp only at hih; rw [if_neg (by omega)] at hih; rw [hq] at hih; exact hih)
            · refine g_aload_n h dX7_driftOn_36 rfl ?_
              refine g_getQ h flX7_24 rfl (by assumption) (by assumption) dX7_driftOn_37 ?_
              refine g_iload h dX7_driftOn_40 rfl ?_
              refine g_iald h _ (by assumption) rfl (by omega) (by decide) dX7_driftOn_42 ?_
              refine g_iload_n h dX7_driftOn_43 rfl ?_
              refine g_icmp_gt (tgt := 92) h dX7_driftOn_44 (by decide) (by first | assumption | exact ⟨by omega, by omega⟩) (by first | assumption | exact ⟨by omega, by omega⟩) (fun c44 => ?_) (fun c44 => ?_)
              · refine g_iinc h dX7_driftOn_92 rfl (Nat.le_of_ble_eq_true rfl) rfl rfl ?_
                refine g_goto (tgt := 9) h dX7_driftOn_95 (by decide) ?_
                first
                | (rw [if_neg (by omega)] at hih; rw [hq] at hih; exact hih)
                | (rw [if_pos (by omega), if_pos (by omega)] at hih; exact hih)
                | (rw [if_pos (by omega), if_neg (by omega)] at hih; dsimp only at hih; rw [if_pos (by omega)] at hih; exact hih)
                | (rw [if_pos (by omega), if_neg (by omega)] at hih; dsimp only at hih; rw [if_neg (by omega)] at hih; rw [hq] at hih; exact hih)
              · refine g_aload_n h dX7_driftOn_47 rfl ?_
                refine g_getQ h flX7_24 rfl (by assumption) (by assumption) dX7_driftOn_48 ?_
                refine g_iload h dX7_driftOn_51 rfl ?_
                refine g_iald h _ (by assumption) rfl (by omega) (by decide) dX7_driftOn_53 ?_
                refine g_iload_n h dX7_driftOn_54 rfl ?_
                refine g_icmp_gt (tgt := 65) h dX7_driftOn_55 (by decide) (by first | assumption | exact ⟨by omega, by omega⟩) (by first | assumption | exact ⟨by omega, by omega⟩) (fun c55 => ?_) (fun c55 => ?_)
                · refine g_iload h dX7_driftOn_65 rfl ?_
                  refine g_iconst h dX7_driftOn_67 ?_
                  refine g_icmp_eq (tgt := 88) h dX7_driftOn_68 (by decide) (by first | assumption | exact ⟨by omega, by omega⟩) (by first | assumption | exact ⟨by omega, by omega⟩) (fun c68 => ?_) (fun c68 => ?_)
                  · refine g_iload h dX7_driftOn_88 rfl ?_
                    refine g_istore h dX7_driftOn_90 (Nat.le_of_ble_eq_true rfl) rfl rfl ?_
                    refine g_iinc h dX7_driftOn_92 rfl (Nat.le_of_ble_eq_true rfl) rfl rfl ?_
                    refine g_goto (tgt := 9) h dX7_driftOn_95 (by decide) ?_
                    first
                    | (rw [if_neg (by omega)] at hih; rw [hq] at hih; exact hih)
                    | (rw [if_pos (by omega), if_pos (by omega)] at hih; exact hih)
                    | (rw [if_pos (by omega), if_neg (by omega)] at hih; dsimp only at hih; rw [if_pos (by omega)] at hih; exact hih)
                    | (rw [if_pos (by omega), if_neg (by omega)] at hih; dsimp only at hih; rw [if_neg (by omega)] at hih; rw [hq] at hih; exact hih)
                  · refine g_aload_n h dX7_driftOn_71 rfl ?_
                    refine g_getQ h flX7_24 rfl (by assumption) (by assumption) dX7_driftOn_72 ?_
                    refine g_iload h dX7_driftOn_75 rfl ?_
                    refine g_iald h _ (by assumption) rfl (by omega) (by decide) dX7_driftOn_77 ?_
                    refine g_aload_n h dX7_driftOn_78 rfl ?_
                    refine g_getQ h flX7_24 rfl (by assumption) (by assumption) dX7_driftOn_79 ?_
                    refine g_iload h dX7_driftOn_82 rfl ?_
                    refine g_iald h _ (by assumption) rfl (by omega) (by decide) dX7_driftOn_84 ?_
                    refine g_icmp_ne (tgt := 92) h dX7_driftOn_85 (by decide) (by first | assumption | exact ⟨by omega, by omega⟩) (by first | assumption | exact ⟨by omega, by omega⟩) (fun c85 => ?_) (fun c85 => ?_)
                    · refine g_iinc h dX7_driftOn_92 rfl (Nat.le_of_ble_eq_true rfl) rfl rfl ?_
                      refine g_goto (tgt := 9) h dX7_driftOn_95 (by decide) ?_
                      first
                      | (rw [if_neg (by omega)] at hih; rw [hq] at hih; exact hih)
                      | (rw [if_pos (by omega), if_pos (by omega)] at hih; exact hih)
                      | (rw [if_pos (by omega), if_neg (by omega)] at hih; dsimp only at hih; rw [if_pos (by omega)] at hih; exact hih)
                      | (rw [if_pos (by omega), if_neg (by omega)] at hih; dsimp only at hih; rw [if_neg (by omega)] at hih; rw [hq] at hih; exact hih)
                    · refine g_iload h dX7_driftOn_88 rfl ?_
                      refine g_istore h dX7_driftOn_90 (Nat.le_of_ble_eq_true rfl) rfl rfl ?_
                      refine g_iinc h dX7_driftOn_92 rfl (Nat.le_of_ble_eq_true rfl) rfl rfl ?_
                      refine g_goto (tgt := 9) h dX7_driftOn_95 (by decide) ?_
                      first
                      | (rw [if_neg (by omega)] at hih; rw [hq] at hih; exact hih)
                      | (rw [if_pos (by omega), if_pos (by omega)] at hih; exact hih)
                      | (rw [if_pos (by omega), if_neg (by omega)] at hih; dsimp only at hih; rw [if_pos (by omega)] at hih; exact hih)
                      | (rw [if_pos (by omega), if_neg (by omega)] at hih; dsimp only at hih; rw [if_neg (by omega)] at hih; rw [hq] at hih; exact hih)
                · refine g_iload h dX7_driftOn_58 rfl ?_
                  refine g_istore h dX7_driftOn_60 (Nat.le_of_ble_eq_true rfl) rfl rfl ?_
                  refine g_goto (tgt := 92) h dX7_driftOn_62 (by decide) ?_
                  refine g_iinc h dX7_driftOn_92 rfl (Nat.le_of_ble_eq_true rfl) rfl rfl ?_
                  refine g_goto (tgt := 9) h dX7_driftOn_95 (by decide) ?_
                  first
                  | (rw [if_neg (by omega)] at hih; rw [hq] at hih; exact hih)
                  | (rw [if_pos (by omega), if_pos (by omega)] at hih; exact hih)
                  | (rw [if_pos (by omega), if_neg (by omega)] at hih; dsimp only at hih; rw [if_pos (by omega)] at hih; exact hih)
                  | (rw [if_pos (by omega), if_neg (by omega)] at hih; dsimp only at hih; rw [if_neg (by omega)] at hih; rw [hq] at hih; exact hih)
  refine g_iconst h dX7_driftOn_0 ?_
  refine g_istore h dX7_driftOn_1 (Nat.le_of_ble_eq_true rfl) rfl rfl ?_
  refine g_iconst h dX7_driftOn_3 ?_
  refine g_istore h dX7_driftOn_4 (Nat.le_of_ble_eq_true rfl) rfl rfl ?_
  refine g_iconst h dX7_driftOn_6 ?_
  refine g_istore h dX7_driftOn_7 (Nat.le_of_ble_eq_true rfl) rfl rfl ?_
  exact loop sn 0 none none (by omega)
def prW (w : AW) (i : Nat) (last : Int) (sn : Nat) : Int := max 0 (min 100000 (w.2.1 31 i + drW w (w.2.1 29 i) (w.2.1 30 i) last sn))
set_option maxRecDepth 100000 in
set_option maxHeartbeats 4000000 in
theorem c_X7_putRight (l : Launch) (w : AW) (rn sn i : Nat) (last : Int) (hX : XS w) (hS : SI w rn sn) (hi : i < rn) (hla : R32 last) : HT l yX7_putRight cX7_putRight 4 (some .int) 3 0 0 w [ar 28, ai (i : Int), ai last] (rI (prW w i last sn) w) := by
  refine HT.of (by decide) (by intro v hv; simp only [List.mem_cons, List.not_mem_nil, or_false] at hv; rcases hv with rfl | rfl | rfl <;> rfl) (Nat.le_of_ble_eq_true rfl) ?_
  intro Γ h hQ hRm hnm hl hw0
  have s28 : w.1 28 = (107, 0) := hX.1 28 (by decide)
  have s29 : w.1 29 = (1, 300) := hX.1 29 (by decide)
  have s30 : w.1 30 = (1, 300) := hX.1 30 (by decide)
  have s31 : w.1 31 = (1, 300) := hX.1 31 (by decide)
  have p28_0 : w.2.2 28 0 = some 29 := hX.2 (28, 0, 29) (by decide)
  have p28_1 : w.2.2 28 1 = some 30 := hX.2 (28, 1, 30) (by decide)
  have p28_2 : w.2.2 28 2 = some 31 := hX.2 (28, 2, 31) (by decide)
  have hr3 := hS.2.1
  have hi1 := hS.2.2.2.2.1 i hi
  have hdr := drW_bd hS (st := w.2.1 29 i) (day := w.2.1 30 i) (last := last) (by omega) (by omega)
  refine g_iload_n h dX7_putRight_0 rfl ?_
  refine g_if_lt (tgt := 11) h dX7_putRight_1 (by decide) (by first | assumption | exact ⟨by omega, by omega⟩) (fun c1 => ?_) (fun c1 => ?_)
  · refine g_iconst h dX7_putRight_11 ?_
    refine g_iret h hQ (by decide) (by decide) ?_ dX7_putRight_12
    (first | (exfalso; omega) | exact ⟨by unfold prW; rw [Int.min_comm] <;> rfl, rfl⟩ | exact ⟨rfl, rfl⟩)
  · refine g_iload_n h dX7_putRight_4 rfl ?_
    refine g_sipush h dX7_putRight_5 rfl ?_
    refine g_icmp_lt (tgt := 13) h dX7_putRight_8 (by decide) (by first | assumption | exact ⟨by omega, by omega⟩) (by first | assumption | exact ⟨by omega, by omega⟩) (fun c8 => ?_) (fun c8 => ?_)
    · refine g_aload_n h dX7_putRight_13 rfl ?_
      refine g_aload_n h dX7_putRight_14 rfl ?_
      refine g_getQ h flX7_9 rfl (by assumption) (by assumption) dX7_putRight_15 ?_
      refine g_iload_n h dX7_putRight_18 rfl ?_
      refine g_iald h _ (by assumption) rfl (by omega) (by decide) dX7_putRight_19 ?_
      refine g_aload_n h dX7_putRight_20 rfl ?_
      refine g_getQ h flX7_15 rfl (by assumption) (by assumption) dX7_putRight_21 ?_
      refine g_iload_n h dX7_putRight_24 rfl ?_
      refine g_iald h _ (by assumption) rfl (by omega) (by decide) dX7_putRight_25 ?_
      refine g_iload_n h dX7_putRight_26 rfl ?_
      refine g_callV h rfl (ci := 7) [_, _, _] (by assumption) (c_X7_driftOn _ _ rn sn _ _ last hX hS ⟨by omega, by omega⟩ (by omega) (by omega) hla) clX7_60 (by decide) rfl in_X7_driftOn se_X7_driftOn rfl rfl (by rw [hRm]; decide) (by rw [hRm]; decide) (fun _ => Nat.le_of_ble_eq_true rfl) (by rw [hRm]; decide) (by rw [hRm]; decide) dX7_putRight_27 (fun r27 w27 hp27 => ?_)
      obtain ⟨rfl, hw27⟩ := hp27
      rw [hw27]
      refine g_istore_n h dX7_putRight_30 (Nat.le_of_ble_eq_true rfl) rfl rfl ?_
      refine g_iconst h dX7_putRight_31 ?_
      refine g_ldc h kcX7_63 dX7_putRight_32 ?_
      refine g_aload_n h dX7_putRight_34 rfl ?_
      refine g_getQ h flX7_18 rfl (by assumption) (by assumption) dX7_putRight_35 ?_
      refine g_iload_n h dX7_putRight_38 rfl ?_
      refine g_iald h _ (by assumption) rfl (by omega) (by decide) dX7_putRight_39 ?_
      refine g_iload_n h dX7_putRight_40 rfl ?_
      refine g_iadd h dX7_putRight_41 ?_
      refine g_min h rfl mminX7_48 (by first | assumption | exact ⟨by omega, by omega⟩) (by first | assumption | exact ⟨by omega, by omega⟩) (by rw [hRm]; decide) (by rw [hRm]; decide) (fun _ => Nat.le_of_ble_eq_true rfl) (by rw [hRm]; decide) (by rw [hRm]; decide) dX7_putRight_42 ?_
      refine g_max h rfl mmaxX7_64 (by first | assumption | exact ⟨by omega, by omega⟩) (by first | assumption | exact ⟨by omega, by omega⟩) (by rw [hRm]; decide) (by rw [hRm]; decide) (fun _ => Nat.le_of_ble_eq_true rfl) (by rw [hRm]; decide) (by rw [hRm]; decide) dX7_putRight_45 ?_
      refine g_iret h hQ (by decide) (by decide) ?_ dX7_putRight_48
      (first | (exfalso; omega) | exact ⟨by unfold prW; rw [Int.min_comm] <;> rfl, rfl⟩ | exact ⟨rfl, rfl⟩)
    · refine g_iconst h dX7_putRight_11 ?_
      refine g_iret h hQ (by decide) (by decide) ?_ dX7_putRight_12
      (first | (exfalso; omega) | exact ⟨by unfold prW; rw [Int.min_comm] <;> rfl, rfl⟩ | exact ⟨rfl, rfl⟩)
def tgW (w : AW) (st day holds : Int) (rn sn : Nat) : Int := match laF w st day rn with
  | none => holds
  | some i => prW w i day sn
set_option maxRecDepth 100000 in
set_option maxHeartbeats 4000000 in
theorem c_X7_toldGas (l : Launch) (w : AW) (rn sn : Nat) (st day holds : Int) (hX : XS w) (hS : SI w rn sn) (hst : R32 st) (hd : -1 ≤ day) (hd2 : day ≤ 3000) : HT l yX7_toldGas cX7_toldGas 5 (some .int) 4 0 0 w [ar 28, ai st, ai day, ai holds] (rI (tgW w st day holds rn sn) w) := by
  refine HT.of (by decide) (by intro v hv; simp only [List.mem_cons, List.not_mem_nil, or_false] at hv; rcases hv with rfl | rfl | rfl | rfl <;> rfl) (Nat.le_of_ble_eq_true rfl) ?_
  intro Γ h hQ hRm hnm hl hw0
  have s28 : w.1 28 = (107, 0) := hX.1 28 (by decide)
  have hr3 := hS.2.1
  refine g_aload_n h dX7_toldGas_0 rfl ?_
  refine g_iload_n h dX7_toldGas_1 rfl ?_
  refine g_iload_n h dX7_toldGas_2 rfl ?_
  refine g_callV h rfl (ci := 7) [_, _] (by assumption) (c_X7_latestAlive _ _ rn sn st _ hX hS hst hd hd2) clX7_54 (by decide) rfl in_X7_latestAlive se_X7_latestAlive rfl rfl (by rw [hRm]; decide) (by rw [hRm]; decide) (fun _ => Nat.le_of_ble_eq_true rfl) (by rw [hRm]; decide) (by rw [hRm]; decide) dX7_toldGas_3 (fun r3 w3 hp3 => ?_)
  obtain ⟨rfl, hw3⟩ := hp3
  rw [hw3]
  rcases hq : laF w st day rn with _ | i
  · show GG Γ 6 _ [ai (-1)] _ _ _
    refine g_istore h dX7_toldGas_6 (Nat.le_of_ble_eq_true rfl) rfl rfl ?_
    refine g_iload h dX7_toldGas_8 rfl ?_
    refine g_iconst h dX7_toldGas_10 ?_
    refine g_icmp_ne (tgt := 18) h dX7_toldGas_11 (by decide) (by first | assumption | exact ⟨by omega, by omega⟩) (by first | assumption | exact ⟨by omega, by omega⟩) (fun c11 => ?_) (fun c11 => ?_)
    · exfalso; omega
    · refine g_iload_n h dX7_toldGas_14 rfl ?_
      refine g_goto (tgt := 25) h dX7_toldGas_15 (by decide) ?_
      refine g_iret h hQ (by decide) (by decide) ?_ dX7_toldGas_25
      exact ⟨by unfold tgW; rw [hq], rfl⟩
  · have hi := lrF_lt _ _ hq
    show GG Γ 6 _ [ai (i : Int)] _ _ _
    refine g_istore h dX7_toldGas_6 (Nat.le_of_ble_eq_true rfl) rfl rfl ?_
    refine g_iload h dX7_toldGas_8 rfl ?_
    refine g_iconst h dX7_toldGas_10 ?_
    refine g_icmp_ne (tgt := 18) h dX7_toldGas_11 (by decide) (by first | assumption | exact ⟨by omega, by omega⟩) (by first | assumption | exact ⟨by omega, by omega⟩) (fun c11 => ?_) (fun c11 => ?_)
    · refine g_aload_n h dX7_toldGas_18 rfl ?_
      refine g_iload h dX7_toldGas_19 rfl ?_
      refine g_iload_n h dX7_toldGas_21 rfl ?_
      refine g_callV h rfl (ci := 7) [_, _] (by assumption) (c_X7_putRight _ _ rn sn i day hX hS hi.1 ⟨by omega, by omega⟩) clX7_57 (by decide) rfl in_X7_putRight se_X7_putRight rfl rfl (by rw [hRm]; decide) (by rw [hRm]; decide) (fun _ => Nat.le_of_ble_eq_true rfl) (by rw [hRm]; decide) (by rw [hRm]; decide) dX7_toldGas_22 (fun r22 w22 hp22 => ?_)
      obtain ⟨rfl, hw22⟩ := hp22
      rw [hw22]
      refine g_iret h hQ (by decide) (by decide) ?_ dX7_toldGas_25
      exact ⟨by unfold tgW; rw [hq], rfl⟩
    · exfalso; omega
