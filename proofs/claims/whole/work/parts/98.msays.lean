/-! ===== M: what rules say ===== -/
/-- M's rules: nr of them, at places q, with codes cl -/
def RMB (w : AW) (nr : Nat) (q : Nat → Nat) (cl : Nat → List Int) : Prop := w.2.1 400 42 = (nr : Int) ∧ nr ≤ 16 ∧ ∀ r, r < nr → w.2.2 444 r = some (q r) ∧ 478 ≤ q r ∧ RM w (q r) (cl r) ∧ tcL (cl r) [] = some [true] ∧ tms (cl r) ≤ 30
theorem RM_MP {u v : AW} {p : Nat} {cl : List Int} (h : MP u v) (hp : 478 ≤ p) (k : RM u p cl) : RM v p cl := RM_of h.1 h.2.1 (MP_e h p (by omega)) (MP_e h (p + 1) (by omega)) (MP_e h (p + 2) (by omega)) k
theorem RMB_MP {u v : AW} {nr : Nat} {q : Nat → Nat} {cl : Nat → List Int} (h : MP u v) (k : RMB u nr q cl) : RMB v nr q cl := by
  refine ⟨(h.2.2.2 42 (by decide) (by decide)).trans k.1, k.2.1, fun r hr => ?_⟩
  obtain ⟨a, b, c, d, e⟩ := k.2.2 r hr
  exact ⟨by rw [h.2.1]; exact a, b, RM_MP h b c, d, e⟩
def mlT (w : AW) (q : Nat → Nat) (cl : Nat → List Int) (nm : Nat → Int) (act : Int) (i : Nat) : Bool := decide (w.2.1 (q i) 0 = act) && decide (evL nm (cl i) [] = [1])
def mlN (w : AW) (q : Nat → Nat) (cl : Nat → List Int) (nm : Nat → Int) (act : Int) (i : Nat) : Bool := !decide (w.2.1 (q i) 0 = act) || decide (evL nm (cl i) [] = [1])
theorem b01_or (b : Bool) (p : Prop) [Decidable p] : b01 (b || decide p) = if b01 b ≠ 0 ∨ (if p then (1 : Int) else 0) ≠ 0 then 1 else 0 := by
  cases b <;> by_cases c : p <;> simp [b01, c]
theorem b01_and (b : Bool) (p : Prop) [Decidable p] : b01 (b && decide p) = if b01 b ≠ 0 ∧ (if p then (1 : Int) else 0) ≠ 0 then 1 else 0 := by
  cases b <;> by_cases c : p <;> simp [b01, c]
def saM (w : AW) (nr : Nat) (q : Nat → Nat) (cl : Nat → List Int) (nm : Nat → Int) (act : Int) : Bool := if act = 1 then allB (mlN w q cl nm act) nr else anyB (mlT w q cl nm act) nr
theorem saM_MP {u v : AW} {nr : Nat} {q : Nat → Nat} {cl : Nat → List Int} (h : MP u v) (k : RMB u nr q cl) (nm : Nat → Int) (act : Int) : saM v nr q cl nm act = saM u nr q cl nm act := by
  unfold saM
  rw [allB_congr (g := mlN u q cl nm act) nr (fun i hi => by unfold mlN; rw [MP_e h (q i) (by have := (k.2.2 i hi).2.1; omega)]), anyB_congr (g := mlT u q cl nm act) nr (fun i hi => by unfold mlT; rw [MP_e h (q i) (by have := (k.2.2 i hi).2.1; omega)])]
set_option maxRecDepth 100000 in
set_option maxHeartbeats 4000000 in
theorem c_X12_says0 (l : Launch) (w : AW) (np rn sn nr : Nat) (q : Nat → Nat) (cl : Nat → List Int) (L : Nat) (act : Int) (hR : MR w np rn sn) (hB : RMB w nr q cl) (hL : L < 2) (ha : 0 ≤ act ∧ act < 4) : HT l yX12_says0 cX12_says0 7 (some .boolean) 9 0 0 w [ar 400, ai (L : Int), ai act] (fun r w' => r = some (ai (b01 (saM w nr q cl (nmM w L np rn sn 0) act))) ∧ MP w w') := by
  refine HT.of (by decide) (by intro v hv; simp only [List.mem_cons, List.not_mem_nil, or_false] at hv; rcases hv with rfl | rfl | rfl <;> rfl) (Nat.le_of_ble_eq_true rfl) ?_
  intro Γ h hQ hRm hnm hl hw0
  obtain ⟨hnr, hnr2, hrl⟩ := id hB
  have loop : ∀ (d i : Nat) (u : AW) (x : Option AV), i + d = nr → MP w u → GG Γ 8 [some (ar 400), some (ai (L : Int)), some (ai act), some (ai (b01 (anyB (mlT w q cl (nmM w L np rn sn 0) act) i))), some (ai (b01 (allB (mlN w q cl (nmM w L np rn sn 0) act) i))), some (ai (i : Int)), x] [] u 0 0 := by
    intro d
    induction d with
    | zero =>
      intro i u x hi hF
      obtain rfl : i = nr := by omega
      have hMu := MS_MP hF hR.1
      have e42 : u.2.1 400 42 = (i : Int) := (hF.2.2.2 42 (by decide) (by decide)).trans hnr
      have a01 := b01_01 (anyB (mlT w q cl (nmM w L np rn sn 0) act) i)
      have b01_ := b01_01 (allB (mlN w q cl (nmM w L np rn sn 0) act) i)
      have ts400 : u.1 400 = (112, 0) := hMu.1 400 (by decide) (by decide)
      have ts444 : u.1 444 = (210, 17) := hMu.1 444 (by decide) (by decide)
      have tp44 : u.2.2 400 44 = some 444 := hMu.2 (400, 44, 444) (by decide)
      refine g_iload h dX12_says0_8 rfl ?_
      refine g_aload_n h dX12_says0_10 rfl ?_
      refine g_getI h flX12_312 rfl (by assumption) dX12_says0_11 ?_
      rw [e42]
      refine g_icmp_ge (tgt := 87) h dX12_says0_14 (by decide) (by first | assumption | exact ⟨by omega, by omega⟩) (by first | assumption | exact ⟨by omega, by omega⟩) (fun c14 => ?_) (fun c14 => ?_)
      · refine g_iload_n h dX12_says0_87 rfl ?_
        refine g_iconst h dX12_says0_88 ?_
        refine g_icmp_ne (tgt := 97) h dX12_says0_89 (by decide) (by first | assumption | exact ⟨by omega, by omega⟩) (by first | assumption | exact ⟨by omega, by omega⟩) (fun c89 => ?_) (fun c89 => ?_)
        · refine g_iload_n h dX12_says0_97 rfl ?_
          refine g_zret h hQ (by first | decide | omega | (simp only [clS]; omega)) (by first | decide | omega | (simp only [clS]; omega)) (by omega) ?_ dX12_says0_98
          refine ⟨?_, hF⟩
          unfold saM
          first | rw [if_pos (by omega)] | rw [if_neg (by omega)]
        · refine g_iload h dX12_says0_92 rfl ?_
          refine g_goto (tgt := 98) h dX12_says0_94 (by decide) ?_
          refine g_zret h hQ (by first | decide | omega | (simp only [clS]; omega)) (by first | decide | omega | (simp only [clS]; omega)) (by omega) ?_ dX12_says0_98
          refine ⟨?_, hF⟩
          unfold saM
          first | rw [if_pos (by omega)] | rw [if_neg (by omega)]
      · exfalso; omega
    | succ d ih =>
      intro i u x hi hF
      obtain ⟨g1, g2, g3, g4, g5⟩ := hrl i (by omega)
      have hMu := MS_MP hF hR.1
      have hRu := MR_MP hF hR
      have e42 : u.2.1 400 42 = (nr : Int) := (hF.2.2.2 42 (by decide) (by decide)).trans hnr
      have h444 : u.2.2 444 i = some (q i) := by rw [hF.2.1]; exact g1
      have hqs : u.1 (q i) = (110, 0) := by rw [hF.1]; exact g3.1
      have hqa : u.2.1 (q i) 0 = w.2.1 (q i) 0 := congrFun (MP_e hF (q i) (by omega)) 0
      have hab : 0 ≤ w.2.1 (q i) 0 ∧ w.2.1 (q i) 0 < 4 := g3.2.2.2.2.2.2.2.2
      have a01 := b01_01 (anyB (mlT w q cl (nmM w L np rn sn 0) act) i)
      have b01_ := b01_01 (allB (mlN w q cl (nmM w L np rn sn 0) act) i)
      have sA : anyB (mlT w q cl (nmM w L np rn sn 0) act) (i + 1) = (anyB (mlT w q cl (nmM w L np rn sn 0) act) i || mlT w q cl (nmM w L np rn sn 0) act i) := rfl
      have sB : allB (mlN w q cl (nmM w L np rn sn 0) act) (i + 1) = (allB (mlN w q cl (nmM w L np rn sn 0) act) i && mlN w q cl (nmM w L np rn sn 0) act i) := rfl
      have mT : mlT w q cl (nmM w L np rn sn 0) act i = (decide (w.2.1 (q i) 0 = act) && decide (evL (nmM w L np rn sn 0) (cl i) [] = [1])) := rfl
      have mN : mlN w q cl (nmM w L np rn sn 0) act i = (!decide (w.2.1 (q i) 0 = act) || decide (evL (nmM w L np rn sn 0) (cl i) [] = [1])) := rfl
      have hnu := nmM_MP (L := L) hF hL 0 hR
      have ih2 := fun u x g => ih (i + 1) u x (by omega) g
      rw [sA, sB] at ih2
      clear sA sB
      generalize anyB (mlT w q cl (nmM w L np rn sn 0) act) i = bA at a01 ih2 ⊢
      generalize allB (mlN w q cl (nmM w L np rn sn 0) act) i = bB at b01_ ih2 ⊢
      have ts400 : u.1 400 = (112, 0) := hMu.1 400 (by decide) (by decide)
      have ts444 : u.1 444 = (210, 17) := hMu.1 444 (by decide) (by decide)
      have tp44 : u.2.2 400 44 = some 444 := hMu.2 (400, 44, 444) (by decide)
      refine g_iload h dX12_says0_8 rfl ?_
      refine g_aload_n h dX12_says0_10 rfl ?_
      refine g_getI h flX12_312 rfl (by assumption) dX12_says0_11 ?_
      rw [e42]
      refine g_icmp_ge (tgt := 87) h dX12_says0_14 (by decide) (by first | assumption | exact ⟨by omega, by omega⟩) (by first | assumption | exact ⟨by omega, by omega⟩) (fun c14 => ?_) (fun c14 => ?_)
      · exfalso; omega
      · refine g_aload_n h dX12_says0_17 rfl ?_
        refine g_getQ h flX12_119 rfl (by assumption) (by assumption) dX12_says0_18 ?_
        refine g_iload h dX12_says0_21 rfl ?_
        refine g_aald h (i) (by assumption) (by unfold arK; omega) (by first | omega | assumption) (by first | omega | assumption) (by first | omega | assumption) (by first | decide | omega) (by assumption) dX12_says0_23 ?_
        refine g_getIN h flX12_408 rfl (by assumption) dX12_says0_24 ?_
        rw [hqa]
        refine g_iload_n h dX12_says0_27 rfl ?_
        refine g_icmp_eq (tgt := 34) h dX12_says0_28 (by decide) (by first | assumption | exact ⟨by omega, by omega⟩) (by first | assumption | exact ⟨by omega, by omega⟩) (fun c28 => ?_) (fun c28 => ?_)
        · refine g_aload_n h dX12_says0_34 rfl ?_
          refine g_aload_n h dX12_says0_35 rfl ?_
          refine g_getQ h flX12_119 rfl (by assumption) (by assumption) dX12_says0_36 ?_
          refine g_iload h dX12_says0_39 rfl ?_
          refine g_aald h (i) (by assumption) (by unfold arK; omega) (by first | omega | assumption) (by first | omega | assumption) (by first | omega | assumption) (by first | decide | omega) (by assumption) dX12_says0_41 ?_
          refine g_iload_n h dX12_says0_42 rfl ?_
          refine g_iconst h dX12_says0_43 ?_
          refine g_callV h rfl (ci := 12) [_, _, _] (by assumption) (c_X12_holdsBy _ _ np rn sn L (q i) 0 (cl i) hRu hL g2 (RM_MP hF g2 g3) ⟨by decide, by decide⟩ g4 g5) clX12_473 (by decide) rfl in_X12_holdsBy se_X12_holdsBy rfl rfl (by rw [hRm]; first | decide | (simp only [clS]; omega)) (by rw [hRm]; first | decide | (simp only [clS]; omega)) (fun _ => Nat.le_of_ble_eq_true rfl) (by rw [hRm]; first | decide | (simp only [clS]; omega)) (by rw [hRm]; first | decide | (simp only [clS]; omega)) dX12_says0_44 (fun r44 w44 hp44 => ?_)
          obtain ⟨rfl, hP9⟩ := hp44
          rw [hnu]
          have hb9 := ite01 (evL (nmM w L np rn sn 0) (cl i) [] = [1])
          refine g_istore h dX12_says0_47 (Nat.le_of_ble_eq_true rfl) rfl rfl ?_
          refine g_iload_n h dX12_says0_49 rfl ?_
          refine g_if_ne (tgt := 58) h dX12_says0_50 (by decide) (by first | assumption | exact ⟨by omega, by omega⟩) (fun c50 => ?_) (fun c50 => ?_)
          · refine g_iconst h dX12_says0_58 ?_
            refine g_goto (tgt := 63) h dX12_says0_59 (by decide) ?_
            refine g_istore_n h dX12_says0_63 (Nat.le_of_ble_eq_true rfl) rfl rfl ?_
            refine g_iload h dX12_says0_64 rfl ?_
            refine g_if_eq (tgt := 78) h dX12_says0_66 (by decide) (by first | assumption | exact ⟨by omega, by omega⟩) (fun c66 => ?_) (fun c66 => ?_)
            · refine g_iconst h dX12_says0_78 ?_
              refine g_istore h dX12_says0_79 (Nat.le_of_ble_eq_true rfl) rfl rfl ?_
              refine g_iinc h dX12_says0_81 rfl (Nat.le_of_ble_eq_true rfl) rfl rfl ?_
              refine g_goto (tgt := 8) h dX12_says0_84 (by decide) ?_
              have h4 := ih2 _ (some (ai (if evL (nmM w L np rn sn 0) (cl i) [] = [1] then 1 else 0))) (MP_tr hF hP9)
              rw [mT, mN, decide_eq_true (show w.2.1 (q i) 0 = act by omega), Bool.true_and, Bool.not_true, Bool.false_or, b01_or, b01_and] at h4
              first
              | (exfalso; omega)
              | (rw [if_pos (by omega), if_pos (by omega)] at h4; exact h4)
              | (rw [if_pos (by omega), if_neg (by omega)] at h4; exact h4)
              | (rw [if_neg (by omega), if_pos (by omega)] at h4; exact h4)
              | (rw [if_neg (by omega), if_neg (by omega)] at h4; exact h4)
            · refine g_iload h dX12_says0_69 rfl ?_
              refine g_if_eq (tgt := 78) h dX12_says0_71 (by decide) (by first | assumption | exact ⟨by omega, by omega⟩) (fun c71 => ?_) (fun c71 => ?_)
              · refine g_iconst h dX12_says0_78 ?_
                refine g_istore h dX12_says0_79 (Nat.le_of_ble_eq_true rfl) rfl rfl ?_
                refine g_iinc h dX12_says0_81 rfl (Nat.le_of_ble_eq_true rfl) rfl rfl ?_
                refine g_goto (tgt := 8) h dX12_says0_84 (by decide) ?_
                have h4 := ih2 _ (some (ai (if evL (nmM w L np rn sn 0) (cl i) [] = [1] then 1 else 0))) (MP_tr hF hP9)
                rw [mT, mN, decide_eq_true (show w.2.1 (q i) 0 = act by omega), Bool.true_and, Bool.not_true, Bool.false_or, b01_or, b01_and] at h4
                first
                | (exfalso; omega)
                | (rw [if_pos (by omega), if_pos (by omega)] at h4; exact h4)
                | (rw [if_pos (by omega), if_neg (by omega)] at h4; exact h4)
                | (rw [if_neg (by omega), if_pos (by omega)] at h4; exact h4)
                | (rw [if_neg (by omega), if_neg (by omega)] at h4; exact h4)
              · refine g_iconst h dX12_says0_74 ?_
                refine g_goto (tgt := 79) h dX12_says0_75 (by decide) ?_
                refine g_istore h dX12_says0_79 (Nat.le_of_ble_eq_true rfl) rfl rfl ?_
                refine g_iinc h dX12_says0_81 rfl (Nat.le_of_ble_eq_true rfl) rfl rfl ?_
                refine g_goto (tgt := 8) h dX12_says0_84 (by decide) ?_
                have h4 := ih2 _ (some (ai (if evL (nmM w L np rn sn 0) (cl i) [] = [1] then 1 else 0))) (MP_tr hF hP9)
                rw [mT, mN, decide_eq_true (show w.2.1 (q i) 0 = act by omega), Bool.true_and, Bool.not_true, Bool.false_or, b01_or, b01_and] at h4
                first
                | (exfalso; omega)
                | (rw [if_pos (by omega), if_pos (by omega)] at h4; exact h4)
                | (rw [if_pos (by omega), if_neg (by omega)] at h4; exact h4)
                | (rw [if_neg (by omega), if_pos (by omega)] at h4; exact h4)
                | (rw [if_neg (by omega), if_neg (by omega)] at h4; exact h4)
          · refine g_iload h dX12_says0_53 rfl ?_
            refine g_if_eq (tgt := 62) h dX12_says0_55 (by decide) (by first | assumption | exact ⟨by omega, by omega⟩) (fun c55 => ?_) (fun c55 => ?_)
            · refine g_iconst h dX12_says0_62 ?_
              refine g_istore_n h dX12_says0_63 (Nat.le_of_ble_eq_true rfl) rfl rfl ?_
              refine g_iload h dX12_says0_64 rfl ?_
              refine g_if_eq (tgt := 78) h dX12_says0_66 (by decide) (by first | assumption | exact ⟨by omega, by omega⟩) (fun c66 => ?_) (fun c66 => ?_)
              · refine g_iconst h dX12_says0_78 ?_
                refine g_istore h dX12_says0_79 (Nat.le_of_ble_eq_true rfl) rfl rfl ?_
                refine g_iinc h dX12_says0_81 rfl (Nat.le_of_ble_eq_true rfl) rfl rfl ?_
                refine g_goto (tgt := 8) h dX12_says0_84 (by decide) ?_
                have h4 := ih2 _ (some (ai (if evL (nmM w L np rn sn 0) (cl i) [] = [1] then 1 else 0))) (MP_tr hF hP9)
                rw [mT, mN, decide_eq_true (show w.2.1 (q i) 0 = act by omega), Bool.true_and, Bool.not_true, Bool.false_or, b01_or, b01_and] at h4
                first
                | (exfalso; omega)
                | (rw [if_pos (by omega), if_pos (by omega)] at h4; exact h4)
                | (rw [if_pos (by omega), if_neg (by omega)] at h4; exact h4)
                | (rw [if_neg (by omega), if_pos (by omega)] at h4; exact h4)
                | (rw [if_neg (by omega), if_neg (by omega)] at h4; exact h4)
              · refine g_iload h dX12_says0_69 rfl ?_
                refine g_if_eq (tgt := 78) h dX12_says0_71 (by decide) (by first | assumption | exact ⟨by omega, by omega⟩) (fun c71 => ?_) (fun c71 => ?_)
                · refine g_iconst h dX12_says0_78 ?_
                  refine g_istore h dX12_says0_79 (Nat.le_of_ble_eq_true rfl) rfl rfl ?_
                  refine g_iinc h dX12_says0_81 rfl (Nat.le_of_ble_eq_true rfl) rfl rfl ?_
                  refine g_goto (tgt := 8) h dX12_says0_84 (by decide) ?_
                  have h4 := ih2 _ (some (ai (if evL (nmM w L np rn sn 0) (cl i) [] = [1] then 1 else 0))) (MP_tr hF hP9)
                  rw [mT, mN, decide_eq_true (show w.2.1 (q i) 0 = act by omega), Bool.true_and, Bool.not_true, Bool.false_or, b01_or, b01_and] at h4
                  first
                  | (exfalso; omega)
                  | (rw [if_pos (by omega), if_pos (by omega)] at h4; exact h4)
                  | (rw [if_pos (by omega), if_neg (by omega)] at h4; exact h4)
                  | (rw [if_neg (by omega), if_pos (by omega)] at h4; exact h4)
                  | (rw [if_neg (by omega), if_neg (by omega)] at h4; exact h4)
                · refine g_iconst h dX12_says0_74 ?_
                  refine g_goto (tgt := 79) h dX12_says0_75 (by decide) ?_
                  refine g_istore h dX12_says0_79 (Nat.le_of_ble_eq_true rfl) rfl rfl ?_
                  refine g_iinc h dX12_says0_81 rfl (Nat.le_of_ble_eq_true rfl) rfl rfl ?_
                  refine g_goto (tgt := 8) h dX12_says0_84 (by decide) ?_
                  have h4 := ih2 _ (some (ai (if evL (nmM w L np rn sn 0) (cl i) [] = [1] then 1 else 0))) (MP_tr hF hP9)
                  rw [mT, mN, decide_eq_true (show w.2.1 (q i) 0 = act by omega), Bool.true_and, Bool.not_true, Bool.false_or, b01_or, b01_and] at h4
                  first
                  | (exfalso; omega)
                  | (rw [if_pos (by omega), if_pos (by omega)] at h4; exact h4)
                  | (rw [if_pos (by omega), if_neg (by omega)] at h4; exact h4)
                  | (rw [if_neg (by omega), if_pos (by omega)] at h4; exact h4)
                  | (rw [if_neg (by omega), if_neg (by omega)] at h4; exact h4)
            · refine g_iconst h dX12_says0_58 ?_
              refine g_goto (tgt := 63) h dX12_says0_59 (by decide) ?_
              refine g_istore_n h dX12_says0_63 (Nat.le_of_ble_eq_true rfl) rfl rfl ?_
              refine g_iload h dX12_says0_64 rfl ?_
              refine g_if_eq (tgt := 78) h dX12_says0_66 (by decide) (by first | assumption | exact ⟨by omega, by omega⟩) (fun c66 => ?_) (fun c66 => ?_)
              · refine g_iconst h dX12_says0_78 ?_
                refine g_istore h dX12_says0_79 (Nat.le_of_ble_eq_true rfl) rfl rfl ?_
                refine g_iinc h dX12_says0_81 rfl (Nat.le_of_ble_eq_true rfl) rfl rfl ?_
                refine g_goto (tgt := 8) h dX12_says0_84 (by decide) ?_
                have h4 := ih2 _ (some (ai (if evL (nmM w L np rn sn 0) (cl i) [] = [1] then 1 else 0))) (MP_tr hF hP9)
                rw [mT, mN, decide_eq_true (show w.2.1 (q i) 0 = act by omega), Bool.true_and, Bool.not_true, Bool.false_or, b01_or, b01_and] at h4
                first
                | (exfalso; omega)
                | (rw [if_pos (by omega), if_pos (by omega)] at h4; exact h4)
                | (rw [if_pos (by omega), if_neg (by omega)] at h4; exact h4)
                | (rw [if_neg (by omega), if_pos (by omega)] at h4; exact h4)
                | (rw [if_neg (by omega), if_neg (by omega)] at h4; exact h4)
              · refine g_iload h dX12_says0_69 rfl ?_
                refine g_if_eq (tgt := 78) h dX12_says0_71 (by decide) (by first | assumption | exact ⟨by omega, by omega⟩) (fun c71 => ?_) (fun c71 => ?_)
                · refine g_iconst h dX12_says0_78 ?_
                  refine g_istore h dX12_says0_79 (Nat.le_of_ble_eq_true rfl) rfl rfl ?_
                  refine g_iinc h dX12_says0_81 rfl (Nat.le_of_ble_eq_true rfl) rfl rfl ?_
                  refine g_goto (tgt := 8) h dX12_says0_84 (by decide) ?_
                  have h4 := ih2 _ (some (ai (if evL (nmM w L np rn sn 0) (cl i) [] = [1] then 1 else 0))) (MP_tr hF hP9)
                  rw [mT, mN, decide_eq_true (show w.2.1 (q i) 0 = act by omega), Bool.true_and, Bool.not_true, Bool.false_or, b01_or, b01_and] at h4
                  first
                  | (exfalso; omega)
                  | (rw [if_pos (by omega), if_pos (by omega)] at h4; exact h4)
                  | (rw [if_pos (by omega), if_neg (by omega)] at h4; exact h4)
                  | (rw [if_neg (by omega), if_pos (by omega)] at h4; exact h4)
                  | (rw [if_neg (by omega), if_neg (by omega)] at h4; exact h4)
                · refine g_iconst h dX12_says0_74 ?_
                  refine g_goto (tgt := 79) h dX12_says0_75 (by decide) ?_
                  refine g_istore h dX12_says0_79 (Nat.le_of_ble_eq_true rfl) rfl rfl ?_
                  refine g_iinc h dX12_says0_81 rfl (Nat.le_of_ble_eq_true rfl) rfl rfl ?_
                  refine g_goto (tgt := 8) h dX12_says0_84 (by decide) ?_
                  have h4 := ih2 _ (some (ai (if evL (nmM w L np rn sn 0) (cl i) [] = [1] then 1 else 0))) (MP_tr hF hP9)
                  rw [mT, mN, decide_eq_true (show w.2.1 (q i) 0 = act by omega), Bool.true_and, Bool.not_true, Bool.false_or, b01_or, b01_and] at h4
                  first
                  | (exfalso; omega)
                  | (rw [if_pos (by omega), if_pos (by omega)] at h4; exact h4)
                  | (rw [if_pos (by omega), if_neg (by omega)] at h4; exact h4)
                  | (rw [if_neg (by omega), if_pos (by omega)] at h4; exact h4)
                  | (rw [if_neg (by omega), if_neg (by omega)] at h4; exact h4)
        · refine g_goto (tgt := 81) h dX12_says0_31 (by decide) ?_
          refine g_iinc h dX12_says0_81 rfl (Nat.le_of_ble_eq_true rfl) rfl rfl ?_
          refine g_goto (tgt := 8) h dX12_says0_84 (by decide) ?_
          have eN : (mlN w q cl (nmM w L np rn sn 0) act i) = true := by rw [mN, decide_eq_false (by omega)]; rfl
          have eT : (mlT w q cl (nmM w L np rn sn 0) act i) = false := by rw [mT, decide_eq_false (by omega)]; rfl
          have h4 := ih2 u x hF
          rw [eN, eT, Bool.or_false, Bool.and_true] at h4
          exact h4
  have hMs := hR.1
  refine g_iconst h dX12_says0_0 ?_
  refine g_istore_n h dX12_says0_1 (Nat.le_of_ble_eq_true rfl) rfl rfl ?_
  refine g_iconst h dX12_says0_2 ?_
  refine g_istore h dX12_says0_3 (Nat.le_of_ble_eq_true rfl) rfl rfl ?_
  refine g_iconst h dX12_says0_5 ?_
  refine g_istore h dX12_says0_6 (Nat.le_of_ble_eq_true rfl) rfl rfl ?_
  exact loop nr 0 w none (by omega) (MP_rfl w)
