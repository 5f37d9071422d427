/-! ===== the class: a plan ===== -/
/-- what a search for a plan leaves -/
def BF (u v : AW) : Prop := (∀ j, noS j → j ≠ 18 → j ≠ 19 → j ≠ 0 → v.2.1 j = u.2.1 j) ∧ (∀ i, i ≠ 6 → v.2.1 0 i = u.2.1 0 i) ∧ (∀ j, j < 56 → v.1 j = u.1 j) ∧ ∀ j, j < 16 → v.2.2 j = u.2.2 j
theorem BF_rfl (u : AW) : BF u u := ⟨fun _ _ _ _ _ => rfl, fun _ _ => rfl, fun _ _ => rfl, fun _ _ => rfl⟩
theorem BF_tr {u v x : AW} (h : BF u v) (k : BF v x) : BF u x := ⟨fun j a b c d => (k.1 j a b c d).trans (h.1 j a b c d), fun i a => (k.2.1 i a).trans (h.2.1 i a), fun j a => (k.2.2.1 j a).trans (h.2.2.1 j a), fun j a => (k.2.2.2 j a).trans (h.2.2.2 j a)⟩
theorem BF_bmT (u : AW) (n : Nat) (t : Int) : BF u (bmT u n t) := ⟨fun _ _ h _ _ => sR_ne _ _ h, fun _ _ => rfl, fun _ _ => rfl, fun _ _ => rfl⟩
theorem BF_bmD {u : AW} {L n S : Nat} {q : Nat → Nat} {t share least : Int} (hI : BI u L n q S) (hL : L < 2) (h56 : ∀ i, i < n → q i < 56) : BF u (bmD u L S n q share t least).2 := by
  have hI1 := BI_bmT (t := t) hI hL h56
  obtain ⟨hX, hN, hP, hS, h18⟩ := id hI1
  obtain ⟨c1, c2, c3⟩ := bmV_ok (t := t) hI hL h56
  have g := fun j (hj : noS j) => dtb_s (share := share) hP.1 hj (least - 1).toNat 1 (tyA (bmV u L S n q t) n ((bmT u n t).2.1 18) n)
  have g0 := g 0 ⟨by decide, by decide, by decide, by decide, by decide⟩
  have e : ∀ j, noS j → (bmD u L S n q share t least).2.2.1 j = (bmT u n t).2.1 j := fun j hj => (g j hj).1.trans (c2 n j hj)
  refine ⟨fun j hj a _ _ => (e j hj).trans (sR_ne _ _ a), fun i _ => congrFun ((e 0 ⟨by decide, by decide, by decide, by decide, by decide⟩).trans (sR_ne _ _ (by decide))) i, fun j hj => ?_, fun j hj => ?_⟩
  · show (dtb 2 n sq share (least - 1).toNat 1 (tyA (bmV u L S n q t) n ((bmT u n t).2.1 18) n)).2.1 j = _
    rw [g0.2.1, (c3 n).1]
    exact (bcP_lo (bcB (bmT u n t) L) S q n j (Or.inl hj)).1
  · show (dtb 2 n sq share (least - 1).toNat 1 (tyA (bmV u L S n q t) n ((bmT u n t).2.1 18) n)).2.2.2 j = _
    rw [g0.2.2, (c3 n).2]
    exact (bcP_lo (bcB (bmT u n t) L) S q n j (by omega)).2.2 (by omega)
theorem BF_kp (u : AW) (m : Nat) : BF u (kpW u m) := ⟨fun _ _ _ h19 h0 => (upI_o _ _ _ h0).trans (sR_ne _ _ h19), fun i h => by
    unfold kpW
    rw [upI_at]
    exact (if_neg h).trans rfl, fun _ _ => rfl, fun _ _ => rfl⟩
/-- what a search by so many moves keeps -/
theorem bmF_ok {L n : Nat} {q : Nat → Nat} {share m : Int} (hL : L < 2) (h56 : ∀ i, i < n → q i < 56) : ∀ (d : Nat) (t least : Int) (S : Nat) (w : AW), BI w L n q S → 1 ≤ least → (1 ≤ (bmF L n q share m d t least S w).1 ∧ (bmF L n q share m d t least S w).1 ≤ least) ∧ BI (bmF L n q share m d t least S w).2.1 L n q (bmF L n q share m d t least S w).2.2 ∧ (bmF L n q share m d t least S w).2.2 ≤ max S n ∧ BF w (bmF L n q share m d t least S w).2.1
  | 0, _, least, S, w, h, hl => ⟨⟨hl, Int.le_refl _⟩, h, Nat.le_max_left _ _, BF_rfl _⟩
  | d + 1, t, least, S, w, h, hl => by
    unfold bmF
    split
    · exact ⟨⟨hl, Int.le_refl _⟩, h, Nat.le_max_left _ _, BF_rfl _⟩
    · have hD := (BI_bmD (t := t) (share := share) (least := least) h hL h56).1
      have hF := BF_bmD (t := t) (share := share) (least := least) h hL h56
      have hbd : (bmD w L S n q share t least).1 = -2 ∨ (1 ≤ (bmD w L S n q share t least).1 ∧ (bmD w L S n q share t least).1 < 1 + ((least - 1).toNat : Int)) := dtb_bd (L := 2) (n := n) (q := sq) (share := share) (least - 1).toNat 1 (tyA (bmV w L S n q t) n ((bmT w n t).2.1 18) n) (Int.le_refl _)
      split
      · split
        · obtain ⟨a, b, c, e⟩ := bmF_ok hL h56 d (t + 1) least (max S n) _ hD hl
          exact ⟨a, b, by omega, BF_tr hF e⟩
        · obtain ⟨a, b, c, e⟩ := bmF_ok hL h56 d (t + 1) (bmD w L S n q share t least).1 (max S n) _ (BI_kp (m := n) hD hL h56) (by omega)
          exact ⟨⟨a.1, by omega⟩, b, by omega, BF_tr (BF_tr hF (BF_kp _ n)) e⟩
      · obtain ⟨a, b, c, e⟩ := bmF_ok hL h56 d (t + 1) least S (bmT w n t) (BI_bmT h hL h56) hl
        exact ⟨a, b, c, BF_tr (BF_bmT _ _ _) e⟩
/-- the best by so many moves and more -/
def plB (L n : Nat) (q : Nat → Nat) (share : Int) : Nat → Int → Int → Nat → AW → Int × AW × Nat
  | 0, _, best, S, w => (best, w, S)
  | d + 1, m, best, S, w => if best ≤ 1 then (best, w, S) else plB L n q share d (m + 1) (bmF L n q share m (10 ^ n) 0 best S w).1 (bmF L n q share m (10 ^ n) 0 best S w).2.2 (bmF L n q share m (10 ^ n) 0 best S w).2.1
theorem plB_ok {L n : Nat} {q : Nat → Nat} {share : Int} (hL : L < 2) (h56 : ∀ i, i < n → q i < 56) : ∀ (d : Nat) (m best : Int) (S : Nat) (w : AW), BI w L n q S → 1 ≤ best → (1 ≤ (plB L n q share d m best S w).1 ∧ (plB L n q share d m best S w).1 ≤ best) ∧ BI (plB L n q share d m best S w).2.1 L n q (plB L n q share d m best S w).2.2 ∧ (S ≤ (plB L n q share d m best S w).2.2 ∧ (plB L n q share d m best S w).2.2 ≤ max S n) ∧ BF w (plB L n q share d m best S w).2.1
  | 0, _, _, S, w, h, hl => ⟨⟨hl, Int.le_refl _⟩, h, ⟨Nat.le_refl _, Nat.le_max_left _ _⟩, BF_rfl _⟩
  | d + 1, m, best, S, w, h, hl => by
    unfold plB
    split
    · exact ⟨⟨hl, Int.le_refl _⟩, h, ⟨Nat.le_refl _, Nat.le_max_left _ _⟩, BF_rfl _⟩
    · obtain ⟨a, b, c, e⟩ := bmF_ok (share := share) (m := m) hL h56 (10 ^ n) 0 best S w h hl
      have s1 := bmF_S (L := L) (n := n) (q := q) (share := share) (m := m) (10 ^ n) 0 best S w
      obtain ⟨a2, b2, c2, e2⟩ := plB_ok hL h56 d (m + 1) _ _ _ b a.1
      exact ⟨⟨a2.1, by omega⟩, b2, ⟨by omega, by omega⟩, BF_tr e e2⟩
set_option maxRecDepth 100000 in
set_option maxHeartbeats 4000000 in
theorem c_X9_plan (l : Launch) (w : AW) (n : Nat → Nat) (q : Nat → Nat → Nat) (S rn sn : Nat) (z s : Int) (hW : WI w n q S rn sn) (hzr : R32 z) (hs : R32 s) (h18 : ∀ j, j < 3 → 0 ≤ w.2.1 18 j ∧ w.2.1 18 j ≤ 9) : HT l yX9_plan cX9_plan 6 (some .int) 7 ((plB z.toNat (n z.toNat) (q z.toNat) s 4 0 61 S w).2.2 - S) (7 * ((plB z.toNat (n z.toNat) (q z.toNat) s 4 0 61 S w).2.2 - S)) w [ar 0, ai z, ai s] (fun r w' => (¬ (0 ≤ z ∧ z < 2) → r = some (ai (-1)) ∧ w' = upI w 0 16 1) ∧ (0 ≤ z ∧ z < 2 → ¬ (1 ≤ s ∧ s ≤ 200) → r = some (ai (-1)) ∧ w' = upI w 0 16 2) ∧ (0 ≤ z ∧ z < 2 → 1 ≤ s ∧ s ≤ 200 → r = some (ai (if 60 < (plB z.toNat (n z.toNat) (q z.toNat) s 4 0 61 S w).1 then -2 else (plB z.toNat (n z.toNat) (q z.toNat) s 4 0 61 S w).1)) ∧ w' = upI (plB z.toNat (n z.toNat) (q z.toNat) s 4 0 61 S w).2.1 0 16 0)) := by
  refine HT.of (by decide) (by intro v hv; simp only [List.mem_cons, List.not_mem_nil, or_false] at hv; rcases hv with rfl | rfl | rfl <;> rfl) (Nat.le_of_ble_eq_true rfl) ?_
  intro Γ h hQ hRm hnm hl hw0
  obtain ⟨hX, hS, hLk, hSI, t0, t1⟩ := id hW
  have s0 : w.1 0 = (109, 0) := hX.1 0 (by decide)
  by_cases hz : 0 ≤ z ∧ z < 2
  · have hl := lkA_some hz
    have hLK := XS_LK hX z.toNat (by omega)
    have kL := hLK.2.1
    obtain ⟨hN, hP, hq5⟩ := hLk z.toNat (by omega)
    refine g_aload_n h dX9_plan_0 rfl ?_
    refine g_iload_n h dX9_plan_1 rfl ?_
    refine g_callV h rfl (ci := 9) [_] (by assumption) (c_X9_lakeAt _ _ _ hX hzr) clX9_66 (by decide) rfl in_X9_lakeAt se_X9_lakeAt rfl rfl (by rw [hRm]; first | decide | (simp only [clS]; omega)) (by rw [hRm]; first | decide | (simp only [clS]; omega)) (fun _ => Nat.le_of_ble_eq_true rfl) (by rw [hRm]; first | decide | (simp only [clS]; omega)) (by rw [hRm]; first | decide | (simp only [clS]; omega)) dX9_plan_2 (fun r2 w2 hp2 => ?_)
    obtain ⟨rfl, hw2⟩ := hp2
    rw [hw2, hl]
    refine g_astore_n h dX9_plan_5 (Nat.le_of_ble_eq_true rfl) rfl rfl ?_
    refine g_aload_n h dX9_plan_6 rfl ?_
    refine g_ifnonnull (tgt := 16) h dX9_plan_7 (by decide) (fun _ cnn => ?_) (fun cnn => by cases cnn)
    refine g_iload_n h dX9_plan_16 rfl ?_
    refine g_iconst h dX9_plan_17 ?_
    refine g_sipush h dX9_plan_18 rfl ?_
    refine g_callS h rfl [_, _, _] (c_X9_isWithin _ _ _ _ _ hs ⟨by omega, by omega⟩ ⟨by omega, by omega⟩) clX9_78 st_X9_isWithin rfl rfl (by rw [hRm]; first | decide | (simp only [clS]; omega)) (by rw [hRm]; first | decide | (simp only [clS]; omega)) (fun _ => Nat.le_of_ble_eq_true rfl) (by rw [hRm]; first | decide | (simp only [clS]; omega)) (by rw [hRm]; first | decide | (simp only [clS]; omega)) dX9_plan_21 (fun r21 w21 hp21 => ?_)
    obtain ⟨rfl, hw21⟩ := hp21
    rw [hw21]
    have hbw21 := ite01 ((1 : Int) ≤ s ∧ s ≤ 200)
    refine g_if_ne (tgt := 33) h dX9_plan_24 (by decide) (by first | assumption | exact ⟨by omega, by omega⟩) (fun c24 => ?_) (fun c24 => ?_)
    · refine g_bipush h dX9_plan_33 rfl ?_
      refine g_istore h dX9_plan_35 (Nat.le_of_ble_eq_true rfl) rfl rfl ?_
      refine g_iconst h dX9_plan_37 ?_
      refine g_istore h dX9_plan_38 (Nat.le_of_ble_eq_true rfl) rfl rfl ?_
      have hI0 : BI w z.toNat (n z.toNat) (q z.toNat) S := ⟨hX, hN, hP, hS, h18⟩
      obtain ⟨K, hKe⟩ : ∃ K, (plB z.toNat (n z.toNat) (q z.toNat) s 4 0 61 S w).2.2 = K := ⟨_, rfl⟩
      rw [hKe] at hQ hRm
      have hKS : S ≤ K := by rw [← hKe]; exact (plB_ok (by omega) hq5 4 0 61 S w hI0 (by decide)).2.2.1.1
      have loop : ∀ (d m S1 : Nat) (best : Int) (u : AW), m + d = 4 → BI u z.toNat (n z.toNat) (q z.toNat) S1 → S ≤ S1 → 1 ≤ best ∧ best ≤ 61 → plB z.toNat (n z.toNat) (q z.toNat) s d (m : Int) best S1 u = (plB z.toNat (n z.toNat) (q z.toNat) s 4 0 61 S w) →
          GG Γ 40 [some (ar 0), some (ai z), some (ai s), some (ar (2 + z.toNat)), some (ai best), some (ai (m : Int))] [] u (S1 - S) (7 * (S1 - S)) := by
        intro d
        induction d with
        | zero =>
          intro m S1 best u hm hIu hS1 hle hrun
          obtain rfl : m = 4 := by omega
          have hrun2 : (best, u, S1) = (plB z.toNat (n z.toNat) (q z.toNat) s 4 0 61 S w) := hrun
          have hKm : S1 ≤ K := by rw [← hKe, ← hrun2]; exact Nat.le_refl _
          have hXu := hIu.1
          have t0 : u.1 0 = (109, 0) := hXu.1 0 (by decide)
          refine g_iload h dX9_plan_40 rfl ?_
          refine g_iconst h dX9_plan_42 ?_
          refine g_icmp_gt (tgt := 70) h dX9_plan_43 (by decide) (by first | assumption | exact ⟨by omega, by omega⟩) (by first | assumption | exact ⟨by omega, by omega⟩) (fun c43 => ?_) (fun c43 => ?_)
          · refine g_aload_n h dX9_plan_70 rfl ?_
            refine g_iload h dX9_plan_71 rfl ?_
            refine g_bipush h dX9_plan_73 rfl ?_
            refine g_icmp_le (tgt := 83) h dX9_plan_75 (by decide) (by first | assumption | exact ⟨by omega, by omega⟩) (by first | assumption | exact ⟨by omega, by omega⟩) (fun c75 => ?_) (fun c75 => ?_)
            · refine g_iload h dX9_plan_83 rfl ?_
              refine g_callV h rfl (ci := 9) [_] (by assumption) (c_X9_answered _ _ _ hXu) clX9_169 (by decide) rfl in_X9_answered se_X9_answered rfl rfl (by rw [hRm]; first | decide | (simp only [clS]; omega)) (by rw [hRm]; first | decide | (simp only [clS]; omega)) (fun _ => Nat.le_of_ble_eq_true rfl) (by rw [hRm]; first | decide | (simp only [clS]; omega)) (by rw [hRm]; first | decide | (simp only [clS]; omega)) dX9_plan_85 (fun r85 w85 hp85 => ?_)
              obtain ⟨rfl, hw85⟩ := hp85
              rw [hw85]
              refine g_iret h hQ (by first | decide | omega | (simp only [clS]; omega)) (by first | decide | omega | (simp only [clS]; omega)) ?_ dX9_plan_88
              refine ⟨fun q => absurd hz q, fun _ q => absurd (by omega) q, fun _ _ => ?_⟩
              rw [← hrun2]
              dsimp only
              refine ⟨?_, ?_⟩ <;> (repeat first | rw [if_pos (by omega)] | rw [if_neg (by omega)]) <;> rfl
            · refine g_bipush h dX9_plan_78 rfl ?_
              refine g_goto (tgt := 85) h dX9_plan_80 (by decide) ?_
              refine g_callV h rfl (ci := 9) [_] (by assumption) (c_X9_answered _ _ _ hXu) clX9_169 (by decide) rfl in_X9_answered se_X9_answered rfl rfl (by rw [hRm]; first | decide | (simp only [clS]; omega)) (by rw [hRm]; first | decide | (simp only [clS]; omega)) (fun _ => Nat.le_of_ble_eq_true rfl) (by rw [hRm]; first | decide | (simp only [clS]; omega)) (by rw [hRm]; first | decide | (simp only [clS]; omega)) dX9_plan_85 (fun r85 w85 hp85 => ?_)
              obtain ⟨rfl, hw85⟩ := hp85
              rw [hw85]
              refine g_iret h hQ (by first | decide | omega | (simp only [clS]; omega)) (by first | decide | omega | (simp only [clS]; omega)) ?_ dX9_plan_88
              refine ⟨fun q => absurd hz q, fun _ q => absurd (by omega) q, fun _ _ => ?_⟩
              rw [← hrun2]
              dsimp only
              refine ⟨?_, ?_⟩ <;> (repeat first | rw [if_pos (by omega)] | rw [if_neg (by omega)]) <;> rfl
          · exfalso; omega
        | succ d ih =>
          intro m S1 best u hm hIu hS1 hle hrun
          have hrun2 : (if best ≤ 1 then (best, u, S1) else plB z.toNat (n z.toNat) (q z.toNat) s d ((m : Int) + 1) (bmF z.toNat (n z.toNat) (q z.toNat) s (m : Int) (10 ^ n z.toNat) 0 best S1 u).1 (bmF z.toNat (n z.toNat) (q z.toNat) s (m : Int) (10 ^ n z.toNat) 0 best S1 u).2.2 (bmF z.toNat (n z.toNat) (q z.toNat) s (m : Int) (10 ^ n z.toNat) 0 best S1 u).2.1) = (plB z.toNat (n z.toNat) (q z.toNat) s 4 0 61 S w) := hrun
          obtain ⟨x1, x2, x3, -⟩ := bmF_ok (share := s) (m := (m : Int)) (by omega) hq5 (10 ^ n z.toNat) 0 best S1 u hIu hle.1
          have x4 := bmF_S (L := z.toNat) (n := n z.toNat) (q := q z.toNat) (share := s) (m := (m : Int)) (10 ^ n z.toNat) 0 best S1 u
          have hKm : S1 ≤ K := by
            rw [← hKe, ← hrun]
            exact (plB_ok (by omega) hq5 _ _ _ _ _ hIu hle.1).2.2.1.1
          have hXu := hIu.1
          have t0 : u.1 0 = (109, 0) := hXu.1 0 (by decide)
          have tL : u.1 (2 + z.toNat) = (102, 0) := (XS_LK hXu z.toNat (by omega)).2.1
          refine g_iload h dX9_plan_40 rfl ?_
          refine g_iconst h dX9_plan_42 ?_
          refine g_icmp_gt (tgt := 70) h dX9_plan_43 (by decide) (by first | assumption | exact ⟨by omega, by omega⟩) (by first | assumption | exact ⟨by omega, by omega⟩) (fun c43 => ?_) (fun c43 => ?_)
          · first
            | (exfalso; omega)
            | (rw [if_pos (by omega)] at hrun2
               refine g_aload_n h dX9_plan_70 rfl ?_
               refine g_iload h dX9_plan_71 rfl ?_
               refine g_bipush h dX9_plan_73 rfl ?_
               refine g_icmp_le (tgt := 83) h dX9_plan_75 (by decide) (by first | assumption | exact ⟨by omega, by omega⟩) (by first | assumption | exact ⟨by omega, by omega⟩) (fun c75 => ?_) (fun c75 => ?_)
               · refine g_iload h dX9_plan_83 rfl ?_
                 refine g_callV h rfl (ci := 9) [_] (by assumption) (c_X9_answered _ _ _ hXu) clX9_169 (by decide) rfl in_X9_answered se_X9_answered rfl rfl (by rw [hRm]; first | decide | (simp only [clS]; omega)) (by rw [hRm]; first | decide | (simp only [clS]; omega)) (fun _ => Nat.le_of_ble_eq_true rfl) (by rw [hRm]; first | decide | (simp only [clS]; omega)) (by rw [hRm]; first | decide | (simp only [clS]; omega)) dX9_plan_85 (fun r85 w85 hp85 => ?_)
                 obtain ⟨rfl, hw85⟩ := hp85
                 rw [hw85]
                 refine g_iret h hQ (by first | decide | omega | (simp only [clS]; omega)) (by first | decide | omega | (simp only [clS]; omega)) ?_ dX9_plan_88
                 refine ⟨fun q => absurd hz q, fun _ q => absurd (by omega) q, fun _ _ => ?_⟩
                 rw [← hrun2]
                 dsimp only
                 refine ⟨?_, ?_⟩ <;> (repeat first | rw [if_pos (by omega)] | rw [if_neg (by omega)]) <;> rfl
               · refine g_bipush h dX9_plan_78 rfl ?_
                 refine g_goto (tgt := 85) h dX9_plan_80 (by decide) ?_
                 refine g_callV h rfl (ci := 9) [_] (by assumption) (c_X9_answered _ _ _ hXu) clX9_169 (by decide) rfl in_X9_answered se_X9_answered rfl rfl (by rw [hRm]; first | decide | (simp only [clS]; omega)) (by rw [hRm]; first | decide | (simp only [clS]; omega)) (fun _ => Nat.le_of_ble_eq_true rfl) (by rw [hRm]; first | decide | (simp only [clS]; omega)) (by rw [hRm]; first | decide | (simp only [clS]; omega)) dX9_plan_85 (fun r85 w85 hp85 => ?_)
                 obtain ⟨rfl, hw85⟩ := hp85
                 rw [hw85]
                 refine g_iret h hQ (by first | decide | omega | (simp only [clS]; omega)) (by first | decide | omega | (simp only [clS]; omega)) ?_ dX9_plan_88
                 refine ⟨fun q => absurd hz q, fun _ q => absurd (by omega) q, fun _ _ => ?_⟩
                 rw [← hrun2]
                 dsimp only
                 refine ⟨?_, ?_⟩ <;> (repeat first | rw [if_pos (by omega)] | rw [if_neg (by omega)]) <;> rfl)
          · refine g_iload h dX9_plan_46 rfl ?_
            refine g_iconst h dX9_plan_48 ?_
            refine g_icmp_le (tgt := 70) h dX9_plan_49 (by decide) (by first | assumption | exact ⟨by omega, by omega⟩) (by first | assumption | exact ⟨by omega, by omega⟩) (fun c49 => ?_) (fun c49 => ?_)
            · first
              | (exfalso; omega)
              | (rw [if_pos (by omega)] at hrun2
                 refine g_aload_n h dX9_plan_70 rfl ?_
                 refine g_iload h dX9_plan_71 rfl ?_
                 refine g_bipush h dX9_plan_73 rfl ?_
                 refine g_icmp_le (tgt := 83) h dX9_plan_75 (by decide) (by first | assumption | exact ⟨by omega, by omega⟩) (by first | assumption | exact ⟨by omega, by omega⟩) (fun c75 => ?_) (fun c75 => ?_)
                 · refine g_iload h dX9_plan_83 rfl ?_
                   refine g_callV h rfl (ci := 9) [_] (by assumption) (c_X9_answered _ _ _ hXu) clX9_169 (by decide) rfl in_X9_answered se_X9_answered rfl rfl (by rw [hRm]; first | decide | (simp only [clS]; omega)) (by rw [hRm]; first | decide | (simp only [clS]; omega)) (fun _ => Nat.le_of_ble_eq_true rfl) (by rw [hRm]; first | decide | (simp only [clS]; omega)) (by rw [hRm]; first | decide | (simp only [clS]; omega)) dX9_plan_85 (fun r85 w85 hp85 => ?_)
                   obtain ⟨rfl, hw85⟩ := hp85
                   rw [hw85]
                   refine g_iret h hQ (by first | decide | omega | (simp only [clS]; omega)) (by first | decide | omega | (simp only [clS]; omega)) ?_ dX9_plan_88
                   refine ⟨fun q => absurd hz q, fun _ q => absurd (by omega) q, fun _ _ => ?_⟩
                   rw [← hrun2]
                   dsimp only
                   refine ⟨?_, ?_⟩ <;> (repeat first | rw [if_pos (by omega)] | rw [if_neg (by omega)]) <;> rfl
                 · refine g_bipush h dX9_plan_78 rfl ?_
                   refine g_goto (tgt := 85) h dX9_plan_80 (by decide) ?_
                   refine g_callV h rfl (ci := 9) [_] (by assumption) (c_X9_answered _ _ _ hXu) clX9_169 (by decide) rfl in_X9_answered se_X9_answered rfl rfl (by rw [hRm]; first | decide | (simp only [clS]; omega)) (by rw [hRm]; first | decide | (simp only [clS]; omega)) (fun _ => Nat.le_of_ble_eq_true rfl) (by rw [hRm]; first | decide | (simp only [clS]; omega)) (by rw [hRm]; first | decide | (simp only [clS]; omega)) dX9_plan_85 (fun r85 w85 hp85 => ?_)
                   obtain ⟨rfl, hw85⟩ := hp85
                   rw [hw85]
                   refine g_iret h hQ (by first | decide | omega | (simp only [clS]; omega)) (by first | decide | omega | (simp only [clS]; omega)) ?_ dX9_plan_88
                   refine ⟨fun q => absurd hz q, fun _ q => absurd (by omega) q, fun _ _ => ?_⟩
                   rw [← hrun2]
                   dsimp only
                   refine ⟨?_, ?_⟩ <;> (repeat first | rw [if_pos (by omega)] | rw [if_neg (by omega)]) <;> rfl)
            · refine g_aload_n h dX9_plan_52 rfl ?_
              refine g_aload_n h dX9_plan_53 rfl ?_
              refine g_iload_n h dX9_plan_54 rfl ?_
              refine g_iload h dX9_plan_55 rfl ?_
              refine g_iload h dX9_plan_57 rfl ?_
              have hKn : (bmF z.toNat (n z.toNat) (q z.toNat) s (m : Int) (10 ^ n z.toNat) 0 best S1 u).2.2 ≤ K := by
                have q9 := hrun2
                rw [if_neg (by omega)] at q9
                rw [← hKe, ← q9]
                exact (plB_ok (by omega) hq5 _ _ _ _ _ x2 x1.1).2.2.1.1
              refine g_callV h rfl (ci := 9) [_, _, _, _] (by assumption) (c_X9_bestByMoves _ _ z.toNat S1 (n z.toNat) (q z.toNat) s (m : Int) best (by omega) hIu hq5 hs (by omega) hle) clX9_214 (by decide) rfl in_X9_bestByMoves se_X9_bestByMoves rfl rfl (by rw [hRm]; first | decide | (simp only [clS]; omega)) (by rw [hRm]; first | decide | (simp only [clS]; omega)) (fun _ => Nat.le_of_ble_eq_true rfl) (by rw [hRm]; first | decide | (simp only [clS]; omega)) (by rw [hRm]; first | decide | (simp only [clS]; omega)) dX9_plan_59 (fun r59 w59 hp59 => ?_)
              obtain ⟨rfl, hw59⟩ := hp59
              rw [hw59]
              refine g_istore h dX9_plan_62 (Nat.le_of_ble_eq_true rfl) rfl rfl ?_
              refine g_iinc h dX9_plan_64 rfl (Nat.le_of_ble_eq_true rfl) rfl rfl ?_
              refine g_goto (tgt := 40) h dX9_plan_67 (by decide) ?_
              rw [if_neg (by omega)] at hrun2
              exact g_kn2 _ _ (by omega) (by omega) (ih (m + 1) _ _ _ (by omega) x2 (by omega) ⟨x1.1, by omega⟩ hrun2)
      exact g_kn2 _ _ (by omega) (by omega) (loop 4 0 S 61 w (by omega) hI0 (Nat.le_refl _) (by decide) rfl)
    · refine g_aload_n h dX9_plan_27 rfl ?_
      refine g_iconst h dX9_plan_28 ?_
      refine g_callV h rfl (ci := 9) [_] (by assumption) (c_X9_refused _ _ _ hX) clX9_162 (by decide) rfl in_X9_refused se_X9_refused rfl rfl (by rw [hRm]; first | decide | (simp only [clS]; omega)) (by rw [hRm]; first | decide | (simp only [clS]; omega)) (fun _ => Nat.le_of_ble_eq_true rfl) (by rw [hRm]; first | decide | (simp only [clS]; omega)) (by rw [hRm]; first | decide | (simp only [clS]; omega)) dX9_plan_29 (fun r29 w29 hp29 => ?_)
      obtain ⟨rfl, hw29⟩ := hp29
      rw [hw29]
      refine g_iret h hQ (by first | decide | omega | (simp only [clS]; omega)) (by first | decide | omega | (simp only [clS]; omega)) ?_ dX9_plan_32
      exact ⟨fun q => absurd hz q, fun _ _ => ⟨rfl, rfl⟩, fun _ q => absurd q (by omega)⟩
  · have hl := lkA_none hz
    refine g_aload_n h dX9_plan_0 rfl ?_
    refine g_iload_n h dX9_plan_1 rfl ?_
    refine g_callV h rfl (ci := 9) [_] (by assumption) (c_X9_lakeAt _ _ _ hX hzr) clX9_66 (by decide) rfl in_X9_lakeAt se_X9_lakeAt rfl rfl (by rw [hRm]; first | decide | (simp only [clS]; omega)) (by rw [hRm]; first | decide | (simp only [clS]; omega)) (fun _ => Nat.le_of_ble_eq_true rfl) (by rw [hRm]; first | decide | (simp only [clS]; omega)) (by rw [hRm]; first | decide | (simp only [clS]; omega)) dX9_plan_2 (fun r2 w2 hp2 => ?_)
    obtain ⟨rfl, hw2⟩ := hp2
    rw [hw2, hl]
    refine g_astore_n h dX9_plan_5 (Nat.le_of_ble_eq_true rfl) rfl rfl ?_
    refine g_aload_n h dX9_plan_6 rfl ?_
    refine g_ifnonnull (tgt := 16) h dX9_plan_7 (by decide) (fun _ cnn => by cases cnn) (fun cnn => ?_)
    refine g_aload_n h dX9_plan_10 rfl ?_
    refine g_iconst h dX9_plan_11 ?_
    refine g_callV h rfl (ci := 9) [_] (by assumption) (c_X9_refused _ _ _ hX) clX9_162 (by decide) rfl in_X9_refused se_X9_refused rfl rfl (by rw [hRm]; first | decide | (simp only [clS]; omega)) (by rw [hRm]; first | decide | (simp only [clS]; omega)) (fun _ => Nat.le_of_ble_eq_true rfl) (by rw [hRm]; first | decide | (simp only [clS]; omega)) (by rw [hRm]; first | decide | (simp only [clS]; omega)) dX9_plan_12 (fun r12 w12 hp12 => ?_)
    obtain ⟨rfl, hw12⟩ := hp12
    rw [hw12]
    refine g_iret h hQ (by first | decide | omega | (simp only [clS]; omega)) (by first | decide | omega | (simp only [clS]; omega)) ?_ dX9_plan_15
    exact ⟨fun _ => ⟨rfl, rfl⟩, fun q => absurd q hz, fun q => absurd q hz⟩
