/-! ===== Lake: bursts ===== -/
/-- the lowest of the first n layers with more than it holds -/
def lowF (g : Nat → Int) (step drop : Int) : Nat → Option Nat
  | 0 => none
  | n + 1 => if holdsF step drop n < g n then some n else lowF g step drop n
def sumF (g : Nat → Int) : Nat → Int
  | 0 => 0
  | n + 1 => sumF g n + g n
def zeroF (g : Nat → Int) (n : Nat) : Nat → Int := fun i => if i < n then 0 else g i
theorem lowF_lt {g : Nat → Int} {step drop : Int} : ∀ (n m : Nat), lowF g step drop n = some m → m < n
  | 0, m, h => by cases h
  | n + 1, m, h => by
    unfold lowF at h
    split at h
    · cases h; omega
    · have := lowF_lt n m h; omega
theorem flA_bd {r : Option Nat} {n : Nat} (h : ∀ m, r = some m → m < n) : -1 ≤ flA r ∧ flA r < (n : Int) + 1 := by
  cases r with
  | none => show -1 ≤ (-1 : Int) ∧ (-1 : Int) < _; omega
  | some m => have := h m rfl; show -1 ≤ (m : Int) ∧ (m : Int) < _; omega
theorem sumF_bd {g : Nat → Int} (hb : ∀ j, j < 10 → 0 ≤ g j ∧ g j ≤ 100000) : ∀ n, n ≤ 10 → 0 ≤ sumF g n ∧ sumF g n ≤ 100000 * n
  | 0, _ => by unfold sumF; omega
  | n + 1, h => by
    have := sumF_bd hb n (by omega)
    have := hb n (by omega)
    unfold sumF
    omega
theorem zeroF_bd {g : Nat → Int} (n : Nat) (hb : ∀ j, j < 10 → 0 ≤ g j ∧ g j ≤ 100000) : ∀ j, j < 10 → 0 ≤ zeroF g n j ∧ zeroF g n j ≤ 100000 := by
  intro j hj
  have := hb j hj
  unfold zeroF
  split <;> omega
/-- what a burst leaves -/
def burW (w : AW) (L m : Nat) : AW := sR (sR w (5 + L) (zeroF (w.2.1 (5 + L)) (m + 1))) (2 + L) (uI (uI (w.2.1 (2 + L)) 13 (w.2.1 (2 + L) 13 + sumF (w.2.1 (5 + L)) (m + 1))) 14 (sumF (w.2.1 (5 + L)) (m + 1)))
def burP (w : AW) (L : Nat) : Option AV → AW → Prop := fun r w' => match lowF (w.2.1 (5 + L)) (w.2.1 (2 + L) 5) (w.2.1 (2 + L) 6) 10 with
  | none => r = some (ai 0) ∧ w' = w
  | some m => r = some (ai 1) ∧ w' = burW w L m
set_option maxRecDepth 100000 in
set_option maxHeartbeats 4000000 in
theorem c_X2_burstIfTooFull (l : Launch) (w : AW) (L : Nat) (hK : LK w L) (hN : LN w L) : HT l yX2_burstIfTooFull cX2_burstIfTooFull 4 (some .boolean) 3 0 0 w [ar (2 + L)] (burP w L) := by
  refine HT.of (by decide) (by intro v hv; simp only [List.mem_cons, List.not_mem_nil, or_false] at hv; rcases hv with rfl <;> rfl) (Nat.le_of_ble_eq_true rfl) ?_
  intro Γ h hQ hRm hnm hl hw0
  obtain ⟨hL3, k2, k5, k8, k11, k14, p0, p1, p2, p3⟩ := id hK
  obtain ⟨-, n5, n5', n6, n6', n7, n7', n8, n8', -⟩ := id hN
  have hne : 2 + L ≠ 5 + L := by omega
  have hgb : ∀ j, j < 10 → 0 ≤ w.2.1 (5 + L) j ∧ w.2.1 (5 + L) j ≤ 100000 := fun j hj => ⟨(hN.1 j hj).1, (hN.1 j hj).2.1⟩
  -- the sum of the cloud
  have loop2 : ∀ (m : Nat), m < 10 → lowF (w.2.1 (5 + L)) (w.2.1 (2 + L) 5) (w.2.1 (2 + L) 6) 10 = some m → ∀ (n i : Nat) (w1 : AW), i + n = m + 1 → w1 = sR w (5 + L) (zeroF (w.2.1 (5 + L)) i) → GG Γ 43 [some (ar (2 + L)), some (ai (m : Int)), some (ai (sumF (w.2.1 (5 + L)) i)), some (ai (i : Int))] [] w1 0 0 := by
    intro m hm9 hm n
    induction n with
    | zero =>
      intro i w1 hi he
      obtain rfl : i = m + 1 := by omega
      have k2' : w1.1 (2 + L) = (102, 0) := by rw [he]; exact k2
      refine g_iload_n h dX2_burstIfTooFull_43 rfl ?_
      refine g_iload_n h dX2_burstIfTooFull_44 rfl ?_
      refine g_icmp_gt (tgt := 76) h dX2_burstIfTooFull_45 (by decide) (by first | assumption | exact ⟨by omega, by omega⟩) (by first | assumption | exact ⟨by omega, by omega⟩) (fun c45 => ?_) (fun c45 => ?_)
      · refine g_aload_n h dX2_burstIfTooFull_76 rfl ?_
        refine g_dup h dX2_burstIfTooFull_77 rfl ?_
        refine g_getI h flX2_128 rfl (by assumption) dX2_burstIfTooFull_78 ?_
        refine g_iload_n h dX2_burstIfTooFull_81 rfl ?_
        refine g_iadd h dX2_burstIfTooFull_82 ?_
        refine g_putI h flX2_128 rfl rfl (by assumption) dX2_burstIfTooFull_83 ?_
        refine g_aload_n h dX2_burstIfTooFull_86 rfl ?_
        refine g_iload_n h dX2_burstIfTooFull_87 rfl ?_
        refine g_putI h flX2_131 rfl rfl (by assumption) dX2_burstIfTooFull_88 ?_
        refine g_iconst h dX2_burstIfTooFull_91 ?_
        refine g_zret h hQ (by decide) (by decide) (by omega) ?_ dX2_burstIfTooFull_92
        unfold burP
        rw [hm]
        refine ⟨rfl, ?_⟩
        have ho : w1.2.1 (2 + L) = w.2.1 (2 + L) := by rw [he, sR_ne _ _ hne]
        simp only [upI_sR, sR_at, sR_sR, ho]
        rw [he]
        rfl
      · exfalso; omega
    | succ n ih =>
      intro i w1 hi he
      have k2' : w1.1 (2 + L) = (102, 0) := by rw [he]; exact k2
      have k5' : w1.1 (5 + L) = (1, 10) := by rw [he]; exact k5
      have p0' : w1.2.2 (2 + L) 0 = some (5 + L) := by rw [he]; exact p0
      have hg : w1.2.1 (5 + L) i = w.2.1 (5 + L) i := by rw [he, sR_at]; unfold zeroF; rw [if_neg (by omega)]
      refine g_iload_n h dX2_burstIfTooFull_43 rfl ?_
      refine g_iload_n h dX2_burstIfTooFull_44 rfl ?_
      refine g_icmp_gt (tgt := 76) h dX2_burstIfTooFull_45 (by decide) (by first | assumption | exact ⟨by omega, by omega⟩) (by first | assumption | exact ⟨by omega, by omega⟩) (fun c45 => ?_) (fun c45 => ?_)
      · exfalso; omega
      · refine g_iload_n h dX2_burstIfTooFull_48 rfl ?_
        refine g_bipush h dX2_burstIfTooFull_49 rfl ?_
        refine g_icmp_ge (tgt := 76) h dX2_burstIfTooFull_51 (by decide) (by first | assumption | exact ⟨by omega, by omega⟩) (by first | assumption | exact ⟨by omega, by omega⟩) (fun c51 => ?_) (fun c51 => ?_)
        · exfalso; omega
        · refine g_iload_n h dX2_burstIfTooFull_54 rfl ?_
          refine g_aload_n h dX2_burstIfTooFull_55 rfl ?_
          refine g_getQ h flX2_9 rfl (by assumption) (by assumption) dX2_burstIfTooFull_56 ?_
          refine g_iload_n h dX2_burstIfTooFull_59 rfl ?_
          refine g_iald h _ (by assumption) rfl (by omega) (by decide) dX2_burstIfTooFull_60 ?_
          refine g_iadd h dX2_burstIfTooFull_61 ?_
          refine g_istore_n h dX2_burstIfTooFull_62 (Nat.le_of_ble_eq_true rfl) rfl rfl ?_
          refine g_aload_n h dX2_burstIfTooFull_63 rfl ?_
          refine g_getQ h flX2_9 rfl (by assumption) (by assumption) dX2_burstIfTooFull_64 ?_
          refine g_iload_n h dX2_burstIfTooFull_67 rfl ?_
          refine g_iconst h dX2_burstIfTooFull_68 ?_
          refine g_iast h _ (by assumption) rfl (by omega) (by decide) dX2_burstIfTooFull_69 ?_
          refine g_iinc h dX2_burstIfTooFull_70 rfl (Nat.le_of_ble_eq_true rfl) rfl rfl ?_
          refine g_goto (tgt := 43) h dX2_burstIfTooFull_73 (by decide) ?_
          rw [hg]
          refine ih (i + 1) _ (by omega) ?_
          rw [upI_sR, he, sR_sR, sR_at]
          congr 1
          funext j
          unfold uI zeroF
          by_cases hj : j = i
          · rw [if_pos hj, if_pos (by omega)]
          · rw [if_neg hj]
            by_cases hj2 : j < i
            · rw [if_pos hj2, if_pos (by omega)]
            · rw [if_neg hj2, if_neg (by omega)]
  have loop : ∀ (n i : Nat) (x y : Option AV), i + n = 10 → GG Γ 4 [some (ar (2 + L)), some (ai (flA (lowF (w.2.1 (5 + L)) (w.2.1 (2 + L) 5) (w.2.1 (2 + L) 6) i))), some (ai (i : Int)), x] [] w 0 0 := by
    intro n
    induction n with
    | zero =>
      intro i x y hi
      obtain rfl : i = 10 := by omega
      cases hm : lowF (w.2.1 (5 + L)) (w.2.1 (2 + L) 5) (w.2.1 (2 + L) 6) 10 with
      | none =>
        show GG Γ 4 [some (ar (2 + L)), some (ai (-1)), some (ai ((10 : Nat) : Int)), x] [] w 0 0
        refine g_iload_n h dX2_burstIfTooFull_4 rfl ?_
        refine g_bipush h dX2_burstIfTooFull_5 rfl ?_
        refine g_icmp_ge (tgt := 32) h dX2_burstIfTooFull_7 (by decide) (by first | assumption | exact ⟨by omega, by omega⟩) (by first | assumption | exact ⟨by omega, by omega⟩) (fun c7 => ?_) (fun c7 => ?_)
        · refine g_iload_n h dX2_burstIfTooFull_32 rfl ?_
          refine g_iconst h dX2_burstIfTooFull_33 ?_
          refine g_icmp_ne (tgt := 39) h dX2_burstIfTooFull_34 (by decide) (by first | assumption | exact ⟨by omega, by omega⟩) (by first | assumption | exact ⟨by omega, by omega⟩) (fun c34 => ?_) (fun c34 => ?_)
          · exfalso; omega
          · refine g_iconst h dX2_burstIfTooFull_37 ?_
            refine g_zret h hQ (by decide) (by decide) (by omega) ?_ dX2_burstIfTooFull_38
            unfold burP; rw [hm]; exact ⟨rfl, rfl⟩
        · exfalso; omega
      | some m =>
        have hm9 := lowF_lt _ _ hm
        show GG Γ 4 [some (ar (2 + L)), some (ai (m : Int)), some (ai ((10 : Nat) : Int)), x] [] w 0 0
        refine g_iload_n h dX2_burstIfTooFull_4 rfl ?_
        refine g_bipush h dX2_burstIfTooFull_5 rfl ?_
        refine g_icmp_ge (tgt := 32) h dX2_burstIfTooFull_7 (by decide) (by first | assumption | exact ⟨by omega, by omega⟩) (by first | assumption | exact ⟨by omega, by omega⟩) (fun c7 => ?_) (fun c7 => ?_)
        · refine g_iload_n h dX2_burstIfTooFull_32 rfl ?_
          refine g_iconst h dX2_burstIfTooFull_33 ?_
          refine g_icmp_ne (tgt := 39) h dX2_burstIfTooFull_34 (by decide) (by first | assumption | exact ⟨by omega, by omega⟩) (by first | assumption | exact ⟨by omega, by omega⟩) (fun c34 => ?_) (fun c34 => ?_)
          · refine g_iconst h dX2_burstIfTooFull_39 ?_
            refine g_istore_n h dX2_burstIfTooFull_40 (Nat.le_of_ble_eq_true rfl) rfl rfl ?_
            refine g_iconst h dX2_burstIfTooFull_41 ?_
            refine g_istore_n h dX2_burstIfTooFull_42 (Nat.le_of_ble_eq_true rfl) rfl rfl ?_
            exact loop2 m hm9 hm (m + 1) 0 w (by omega) (by rw [show zeroF (w.2.1 (5 + L)) 0 = w.2.1 (5 + L) from funext (fun j => if_neg (by omega)), sR_self])
          · exfalso; omega
        · exfalso; omega
    | succ n ih =>
      intro i x y hi
      have hgi := hgb i (by omega)
      have hhb := holdsF_bd n5 n5' n6 n6' (show i < 10 by omega)
      have hlb := flA_bd (fun m (q : lowF (w.2.1 (5 + L)) (w.2.1 (2 + L) 5) (w.2.1 (2 + L) 6) i = some m) => lowF_lt _ _ q)
      refine g_iload_n h dX2_burstIfTooFull_4 rfl ?_
      refine g_bipush h dX2_burstIfTooFull_5 rfl ?_
      refine g_icmp_ge (tgt := 32) h dX2_burstIfTooFull_7 (by decide) (by first | assumption | exact ⟨by omega, by omega⟩) (by first | assumption | exact ⟨by omega, by omega⟩) (fun c7 => ?_) (fun c7 => ?_)
      · exfalso; omega
      · refine g_aload_n h dX2_burstIfTooFull_10 rfl ?_
        refine g_getQ h flX2_9 rfl (by assumption) (by assumption) dX2_burstIfTooFull_11 ?_
        refine g_iload_n h dX2_burstIfTooFull_14 rfl ?_
        refine g_iald h _ (by assumption) rfl (by omega) (by decide) dX2_burstIfTooFull_15 ?_
        refine g_aload_n h dX2_burstIfTooFull_16 rfl ?_
        refine g_iload_n h dX2_burstIfTooFull_17 rfl ?_
        refine g_callV h rfl (ci := 2) [_] (by assumption) (c_X2_holdsOf _ _ L i hK hN (by omega)) clX2_56 (by decide) rfl in_X2_holdsOf se_X2_holdsOf rfl rfl (by rw [hRm]; decide) (by rw [hRm]; decide) (fun _ => Nat.le_of_ble_eq_true rfl) (by rw [hRm]; decide) (by rw [hRm]; decide) dX2_burstIfTooFull_18 (fun r18 w18 hp18 => ?_)
        obtain ⟨rfl, hw18⟩ := hp18
        rw [hw18]
        refine g_icmp_le (tgt := 26) h dX2_burstIfTooFull_21 (by decide) (by first | assumption | exact ⟨by omega, by omega⟩) (by first | assumption | exact ⟨by omega, by omega⟩) (fun c21 => ?_) (fun c21 => ?_)
        · refine g_iinc h dX2_burstIfTooFull_26 rfl (Nat.le_of_ble_eq_true rfl) rfl rfl ?_
          refine g_goto (tgt := 4) h dX2_burstIfTooFull_29 (by decide) ?_
          first
          | (have hl : lowF (w.2.1 (5 + L)) (w.2.1 (2 + L) 5) (w.2.1 (2 + L) 6) (i + 1) = lowF (w.2.1 (5 + L)) (w.2.1 (2 + L) 5) (w.2.1 (2 + L) 6) i := by show ite _ _ _ = _; rw [if_neg (by omega)]
             have h4 := ih (i + 1) x y (by omega)
             rw [hl] at h4
             exact h4)
          | (have hl : lowF (w.2.1 (5 + L)) (w.2.1 (2 + L) 5) (w.2.1 (2 + L) 6) (i + 1) = some i := by show ite _ _ _ = _; rw [if_pos (by omega)]
             have h4 := ih (i + 1) x y (by omega)
             rw [hl] at h4
             exact h4)
        · refine g_iload_n h dX2_burstIfTooFull_24 rfl ?_
          refine g_istore_n h dX2_burstIfTooFull_25 (Nat.le_of_ble_eq_true rfl) rfl rfl ?_
          refine g_iinc h dX2_burstIfTooFull_26 rfl (Nat.le_of_ble_eq_true rfl) rfl rfl ?_
          refine g_goto (tgt := 4) h dX2_burstIfTooFull_29 (by decide) ?_
          first
          | (have hl : lowF (w.2.1 (5 + L)) (w.2.1 (2 + L) 5) (w.2.1 (2 + L) 6) (i + 1) = lowF (w.2.1 (5 + L)) (w.2.1 (2 + L) 5) (w.2.1 (2 + L) 6) i := by show ite _ _ _ = _; rw [if_neg (by omega)]
             have h4 := ih (i + 1) x y (by omega)
             rw [hl] at h4
             exact h4)
          | (have hl : lowF (w.2.1 (5 + L)) (w.2.1 (2 + L) 5) (w.2.1 (2 + L) 6) (i + 1) = some i := by show ite _ _ _ = _; rw [if_pos (by omega)]
             have h4 := ih (i + 1) x y (by omega)
             rw [hl] at h4
             exact h4)
  refine g_iconst h dX2_burstIfTooFull_0 ?_
  refine g_istore_n h dX2_burstIfTooFull_1 (Nat.le_of_ble_eq_true rfl) rfl rfl ?_
  refine g_iconst h dX2_burstIfTooFull_2 ?_
  refine g_istore_n h dX2_burstIfTooFull_3 (Nat.le_of_ble_eq_true rfl) rfl rfl ?_
  exact loop 10 0 none none (by omega)
