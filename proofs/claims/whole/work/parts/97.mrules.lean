/-! ===== M: what names are worth, rules asked ===== -/
/-- a world of M but for the rows at hand and the pile -/
def MP (u v : AW) : Prop := v.1 = u.1 ∧ v.2.2 = u.2.2 ∧ (∀ j, noH j → j ≠ 457 → v.2.1 j = u.2.1 j) ∧ ∀ f, f ≠ 26 → f ≠ 27 → v.2.1 400 f = u.2.1 400 f
theorem MP_rfl (u : AW) : MP u u := ⟨rfl, rfl, fun _ _ _ => rfl, fun _ _ _ => rfl⟩
theorem MP_tr {u v x : AW} (h : MP u v) (k : MP v x) : MP u x := ⟨k.1.trans h.1, k.2.1.trans h.2.1, fun j a b => (k.2.2.1 j a b).trans (h.2.2.1 j a b), fun f a b => (k.2.2.2 f a b).trans (h.2.2.2 f a b)⟩
theorem MP_MF {u v : AW} (h : MF u v) : MP u v := ⟨h.1, h.2.1, fun j a _ => h.2.2.1 j a, h.2.2.2⟩
theorem MP_457 (u : AW) (f : Nat) (z : Int) : MP u (upI u 457 f z) := ⟨rfl, rfl, fun j _ b => upI_o _ _ _ b, fun _ _ _ => rfl⟩
theorem MP_e {u v : AW} (h : MP u v) : ∀ j, (407 ≤ j ∧ j ≤ 419) ∨ (429 ≤ j ∧ j ≤ 446) ∨ 460 ≤ j → v.2.1 j = u.2.1 j := fun j a => h.2.2.1 j ⟨by omega, by omega, by omega, by omega, by omega, by omega, by omega⟩ (by omega)
theorem MS_MP {u v : AW} (h : MP u v) (hM : MS u) : MS v := MS_of h.1 h.2.1 hM
theorem MG_MP {u v : AW} (h : MP u v) (hM : MG u) : MG v := by
  unfold MG at hM ⊢
  rw [MP_e h 407 (by decide), MP_e h 408 (by decide), MP_e h 409 (by decide)]
  exact hM
theorem MN_MP {u v : AW} (h : MP u v) (hM : MN u) : MN v := MN_of (fun j a b => MP_e h j (by omega)) hM
theorem MPI_MP {u v : AW} {np : Nat} (h : MP u v) (hM : MPI u np) : MPI v np := by
  unfold MPI at hM ⊢
  rw [h.2.2.2 28 (by decide) (by decide), MP_e h 429 (by decide), MP_e h 430 (by decide), MP_e h 431 (by decide), MP_e h 432 (by decide), MP_e h 435 (by decide)]
  exact hM
theorem MSI_MP {u v : AW} {rn sn : Nat} (h : MP u v) (hM : MSI u rn sn) : MSI v rn sn := by
  unfold MSI at hM ⊢
  rw [h.2.2.2 58 (by decide) (by decide), h.2.2.2 59 (by decide) (by decide), MP_e h 460 (by decide), MP_e h 461 (by decide), MP_e h 462 (by decide), MP_e h 463 (by decide), MP_e h 464 (by decide), MP_e h 465 (by decide)]
  exact hM
/-- how many of lake L's pipes run, how many of its strings are dead -/
def ruM (w : AW) (L : Nat) : Nat → Int
  | 0 => 0
  | p + 1 => ruM w L p + (if w.2.1 429 p = (L : Int) ∧ w.2.1 435 p ≠ 0 then 1 else 0)
def deS (w : AW) (L rn : Nat) : Nat → Int
  | 0 => 0
  | i + 1 => deS w L rn i + deM w L i (w.2.1 400 4) rn
theorem ruM_bd (w : AW) (L : Nat) : ∀ p : Nat, 0 ≤ ruM w L p ∧ ruM w L p ≤ p
  | 0 => ⟨Int.le_refl _, Int.le_refl _⟩
  | p + 1 => by
    have := ruM_bd w L p
    unfold ruM
    split <;> omega
theorem deS_bd (w : AW) (L rn : Nat) : ∀ i : Nat, 0 ≤ deS w L rn i ∧ deS w L rn i ≤ i
  | 0 => ⟨Int.le_refl _, Int.le_refl _⟩
  | i + 1 => by
    have := deS_bd w L rn i
    have h2 := deM_01 w L i (w.2.1 400 4) rn
    show 0 ≤ deS w L rn i + deM w L i (w.2.1 400 4) rn ∧ deS w L rn i + deM w L i (w.2.1 400 4) rn ≤ ((i + 1 : Nat) : Int)
    omega
theorem ftM_bd {w : AW} {L rn sn : Nat} (hN : MN w) (hL : L < 2) : ∀ i, i ≤ 10 → 0 ≤ ftM w L rn sn i ∧ ftM w L rn sn i ≤ 999
  | 0, _ => by show 0 ≤ (0 : Int) ∧ (0 : Int) ≤ 999; omega
  | i + 1, hi => by
    have h1 := ftM_bd (rn := rn) (sn := sn) hN hL i (by omega)
    have h2 := tgM_bd (w := w) (L := L) (i := i) (rn := rn) (sn := sn) (by_ := w.2.1 400 4) hN hL (by omega)
    have h3 := fullF_bd (tgM w L i (w.2.1 400 4) rn sn) (holdsM w L i) h2.2
    show 0 ≤ max _ _ ∧ max _ _ ≤ 999
    omega
/-- names' worths by M -/
def nmM (w : AW) (L np rn sn : Nat) (hi : Int) : Nat → Int := fun a => if a = 0 then ftM w L rn sn 10 else if a = 1 then (if (baM w L np).1 = -2 then 999 else (baM w L np).1) else if a = 2 then ruM w L np else if a = 3 then w.2.1 411 L else if a = 4 then deS w L rn 10 else if a = 5 then w.2.1 400 43 else if a = 6 then (L : Int) else if a = 7 then w.2.1 400 4 else hi
/-- what M keeps as rules are asked -/
def MR (w : AW) (np rn sn : Nat) : Prop := MS w ∧ MG w ∧ MN w ∧ MPI w np ∧ MSI w rn sn ∧ (0 ≤ w.2.1 400 4 ∧ w.2.1 400 4 ≤ 2999) ∧ (0 ≤ w.2.1 400 43 ∧ w.2.1 400 43 ≤ 99)
theorem MR_MP {u v : AW} {np rn sn : Nat} (h : MP u v) (k : MR u np rn sn) : MR v np rn sn := by
  obtain ⟨a, b, c, d, e, f, g⟩ := k
  refine ⟨MS_MP h a, MG_MP h b, MN_MP h c, MPI_MP h d, MSI_MP h e, ?_, ?_⟩
  · rw [h.2.2.2 4 (by decide) (by decide)]; exact f
  · rw [h.2.2.2 43 (by decide) (by decide)]; exact g
theorem deM_MP {u v : AW} (h : MP u v) (L i : Nat) (b : Int) (rn : Nat) : deM v L i b rn = deM u L i b rn := by
  unfold deM ldM
  rw [MP_e h 460 (by decide), MP_e h 461 (by decide)]
theorem tgM_MP {u v : AW} (h : MP u v) (L i : Nat) (b : Int) (rn sn : Nat) : tgM v L i b rn sn = tgM u L i b rn sn := by
  unfold tgM
  rw [deM_MP h]
  unfold holdsM prM ldM rdM drfM dfM drM sdM rdM
  rw [MP_e h 410 (by decide), MP_e h 411 (by decide), MP_e h 460 (by decide), MP_e h 461 (by decide), MP_e h 462 (by decide), MP_e h 463 (by decide), MP_e h 464 (by decide), MP_e h 465 (by decide)]
theorem ftM_MP {u v : AW} (h : MP u v) (L rn sn : Nat) : ∀ i, ftM v L rn sn i = ftM u L rn sn i
  | 0 => rfl
  | i + 1 => by
    unfold ftM
    rw [ftM_MP h L rn sn i, tgM_MP h, h.2.2.2 4 (by decide) (by decide)]
    unfold holdsM
    rw [MP_e h 410 (by decide), MP_e h 411 (by decide)]
theorem ruM_MP {u v : AW} (h : MP u v) (L : Nat) : ∀ p, ruM v L p = ruM u L p
  | 0 => rfl
  | p + 1 => by
    unfold ruM
    rw [ruM_MP h L p, MP_e h 429 (by decide), MP_e h 435 (by decide)]
theorem deS_MP {u v : AW} (h : MP u v) (L rn : Nat) : ∀ i, deS v L rn i = deS u L rn i
  | 0 => rfl
  | i + 1 => by
    unfold deS
    rw [deS_MP h L rn i, deM_MP h, h.2.2.2 4 (by decide) (by decide)]
theorem nmM_MP {u v : AW} {np rn sn : Nat} (h : MP u v) {L : Nat} (hL : L < 2) (hi : Int) (k : MR u np rn sn) : nmM v L np rn sn hi = nmM u L np rn sn hi := by
  funext a
  unfold nmM
  rw [ftM_MP h, ruM_MP h, deS_MP h, MP_e h 411 (by decide), h.2.2.2 43 (by decide) (by decide), h.2.2.2 4 (by decide) (by decide), baM_HE (L := L) (np := np) hL k.2.1 k.2.2.1 k.2.2.2.1 (fun j q => (MP_e h j (by omega)).symm)]
theorem nmM_bd {w : AW} {L np rn sn : Nat} {hi : Int} (hL : L < 2) (k : MR w np rn sn) (hh : 0 ≤ hi ∧ hi ≤ 999) : ∀ a, -100000 ≤ nmM w L np rn sn hi a ∧ nmM w L np rn sn hi a ≤ 100000 := by
  obtain ⟨k1, k2, k3, k4, k5, k6, k7⟩ := k
  intro a
  have h1 := ftM_bd (rn := rn) (sn := sn) k3 hL 10 (Nat.le_refl _)
  have h2 := baM_bd w L np
  have h3 := ruM_bd w L np
  have h4 := (k3 L hL).2.2.1
  have h5 := (k3 L hL).2.2.2.1
  have h6 := deS_bd w L rn 10
  have h7 := k4.2.1
  unfold nmM
  repeat (first | omega | split)
theorem mdW_457 (w : AW) (L np : Nat) : (mdW w L np).2.1 457 = w.2.1 457 := (MF_md w L np).2.2.1 457 ⟨by decide, by decide, by decide, by decide, by decide, by decide, by decide⟩
theorem baM_457 (w : AW) (L np : Nat) : (baM w L np).2.2.1 457 = w.2.1 457 := (MF_ba w L np).2.2.1 457 ⟨by decide, by decide, by decide, by decide, by decide, by decide, by decide⟩
set_option maxRecDepth 100000 in
set_option maxHeartbeats 4000000 in
theorem c_X12_nameOf (l : Launch) (w : AW) (np rn sn L a : Nat) (hi : Int) (hR : MR w np rn sn) (hL : L < 2) (ha : a < 9) : HT l yX12_nameOf cX12_nameOf 6 (some .int) 7 0 0 w [ar 400, ai (a : Int), ai (L : Int), ai hi] (fun r w' => r = some (ai (nmM w L np rn sn hi a)) ∧ MP w w' ∧ w'.2.1 457 = w.2.1 457) := by
  refine HT.of (by decide) (by intro v hv; simp only [List.mem_cons, List.not_mem_nil, or_false] at hv; rcases hv with rfl | rfl | rfl | rfl <;> rfl) (Nat.le_of_ble_eq_true rfl) ?_
  intro Γ h hQ hRm hnm hl hw0
  obtain ⟨hM, hG, hN, hP, hI, hd, hwi⟩ := id hR
  have s400 : w.1 400 = (112, 0) := hM.1 400 (by decide) (by decide)
  have s429 : w.1 429 = (1, 6) := hM.1 429 (by decide) (by decide)
  have s435 : w.1 435 = (3, 6) := hM.1 435 (by decide) (by decide)
  have s411 : w.1 411 = (1, 2) := hM.1 411 (by decide) (by decide)
  have p29 : w.2.2 400 29 = some 429 := hM.2 (400, 29, 429) (by decide)
  have p35 : w.2.2 400 35 = some 435 := hM.2 (400, 35, 435) (by decide)
  have p11 : w.2.2 400 11 = some 411 := hM.2 (400, 11, 411) (by decide)
  obtain ⟨hnp, hn6, hpp⟩ := id hP
  have run : a = 2 → ∀ (d p : Nat), p + d = np → GG Γ 84 [some (ar 400), some (ai (a : Int)), some (ai (L : Int)), some (ai hi), some (ai (ruM w L p)), some (ai (p : Int))] [] w 0 0 := by
    intro ha2 d
    induction d with
    | zero =>
      intro p hp
      obtain rfl : p = np := by omega
      refine g_iload h dX12_nameOf_84 rfl ?_
      refine g_aload_n h dX12_nameOf_86 rfl ?_
      refine g_getI h flX12_246 rfl (by assumption) dX12_nameOf_87 ?_
      refine g_icmp_ge (tgt := 130) h dX12_nameOf_90 (by decide) (by first | assumption | exact ⟨by omega, by omega⟩) (by first | assumption | exact ⟨by omega, by omega⟩) (fun c90 => ?_) (fun c90 => ?_)
      · refine g_iload h dX12_nameOf_130 rfl ?_
        refine g_iret h hQ (by first | decide | omega | (simp only [clS]; omega)) (by first | decide | omega | (simp only [clS]; omega)) ?_ dX12_nameOf_132
        refine ⟨?_, MP_rfl w, rfl⟩
        unfold nmM
        rw [ha2]
        rfl
      · exfalso; omega
    | succ d ih =>
      intro p hp
      obtain ⟨b1, b2, -, -, -, -, -, -, b9⟩ := hpp p (by omega)
      have hst : ruM w L (p + 1) = ruM w L p + (if w.2.1 429 p = (L : Int) ∧ w.2.1 435 p ≠ 0 then 1 else 0) := rfl
      have ih2 := ih (p + 1) (by omega)
      rw [hst] at ih2
      refine g_iload h dX12_nameOf_84 rfl ?_
      refine g_aload_n h dX12_nameOf_86 rfl ?_
      refine g_getI h flX12_246 rfl (by assumption) dX12_nameOf_87 ?_
      refine g_icmp_ge (tgt := 130) h dX12_nameOf_90 (by decide) (by first | assumption | exact ⟨by omega, by omega⟩) (by first | assumption | exact ⟨by omega, by omega⟩) (fun c90 => ?_) (fun c90 => ?_)
      · exfalso; omega
      · refine g_iload h dX12_nameOf_93 rfl ?_
        refine g_aload_n h dX12_nameOf_95 rfl ?_
        refine g_getQ h flX12_84 rfl (by assumption) (by assumption) dX12_nameOf_96 ?_
        refine g_iload h dX12_nameOf_99 rfl ?_
        refine g_iald h _ (by assumption) rfl (by first | omega | assumption) (by first | decide | omega) dX12_nameOf_101 ?_
        refine g_iload_n h dX12_nameOf_102 rfl ?_
        refine g_icmp_ne (tgt := 120) h dX12_nameOf_103 (by decide) (by first | assumption | exact ⟨by omega, by omega⟩) (by first | assumption | exact ⟨by omega, by omega⟩) (fun c103 => ?_) (fun c103 => ?_)
        · refine g_iconst h dX12_nameOf_120 ?_
          refine g_iadd h dX12_nameOf_121 ?_
          refine g_istore h dX12_nameOf_122 (Nat.le_of_ble_eq_true rfl) rfl rfl ?_
          refine g_iinc h dX12_nameOf_124 rfl (Nat.le_of_ble_eq_true rfl) rfl rfl ?_
          refine g_goto (tgt := 84) h dX12_nameOf_127 (by decide) ?_
          first
          | (rw [if_pos ⟨by omega, by omega⟩] at ih2; exact ih2)
          | (rw [if_neg (by omega)] at ih2; exact ih2)
        · refine g_aload_n h dX12_nameOf_106 rfl ?_
          refine g_getQ h flX12_102 rfl (by assumption) (by assumption) dX12_nameOf_107 ?_
          refine g_iload h dX12_nameOf_110 rfl ?_
          refine g_zald h _ (by assumption) rfl (by first | omega | assumption) (by first | decide | omega) dX12_nameOf_112 ?_
          refine g_if_eq (tgt := 120) h dX12_nameOf_113 (by decide) (by first | assumption | exact ⟨by omega, by omega⟩) (fun c113 => ?_) (fun c113 => ?_)
          · refine g_iconst h dX12_nameOf_120 ?_
            refine g_iadd h dX12_nameOf_121 ?_
            refine g_istore h dX12_nameOf_122 (Nat.le_of_ble_eq_true rfl) rfl rfl ?_
            refine g_iinc h dX12_nameOf_124 rfl (Nat.le_of_ble_eq_true rfl) rfl rfl ?_
            refine g_goto (tgt := 84) h dX12_nameOf_127 (by decide) ?_
            first
            | (rw [if_pos ⟨by omega, by omega⟩] at ih2; exact ih2)
            | (rw [if_neg (by omega)] at ih2; exact ih2)
          · refine g_iconst h dX12_nameOf_116 ?_
            refine g_goto (tgt := 121) h dX12_nameOf_117 (by decide) ?_
            refine g_iadd h dX12_nameOf_121 ?_
            refine g_istore h dX12_nameOf_122 (Nat.le_of_ble_eq_true rfl) rfl rfl ?_
            refine g_iinc h dX12_nameOf_124 rfl (Nat.le_of_ble_eq_true rfl) rfl rfl ?_
            refine g_goto (tgt := 84) h dX12_nameOf_127 (by decide) ?_
            first
            | (rw [if_pos ⟨by omega, by omega⟩] at ih2; exact ih2)
            | (rw [if_neg (by omega)] at ih2; exact ih2)
  have dead : a = 4 → ∀ (d i : Nat), i + d = 10 → GG Γ 143 [some (ar 400), some (ai (a : Int)), some (ai (L : Int)), some (ai hi), some (ai (deS w L rn i)), some (ai (i : Int))] [] w 0 0 := by
    intro ha4 d
    induction d with
    | zero =>
      intro i hi2
      obtain rfl : i = 10 := by omega
      refine g_iload h dX12_nameOf_143 rfl ?_
      refine g_bipush h dX12_nameOf_145 rfl ?_
      refine g_icmp_ge (tgt := 180) h dX12_nameOf_147 (by decide) (by first | assumption | exact ⟨by omega, by omega⟩) (by first | assumption | exact ⟨by omega, by omega⟩) (fun c147 => ?_) (fun c147 => ?_)
      · refine g_iload h dX12_nameOf_180 rfl ?_
        refine g_iret h hQ (by first | decide | omega | (simp only [clS]; omega)) (by first | decide | omega | (simp only [clS]; omega)) ?_ dX12_nameOf_182
        refine ⟨?_, MP_rfl w, rfl⟩
        unfold nmM
        rw [ha4]
        rfl
      · exfalso; omega
    | succ d ih =>
      intro i hi2
      have h01 := deM_01 w L i (w.2.1 400 4) rn
      have hst : deS w L rn (i + 1) = deS w L rn i + deM w L i (w.2.1 400 4) rn := rfl
      have ih2 := ih (i + 1) (by omega)
      rw [hst] at ih2
      refine g_iload h dX12_nameOf_143 rfl ?_
      refine g_bipush h dX12_nameOf_145 rfl ?_
      refine g_icmp_ge (tgt := 180) h dX12_nameOf_147 (by decide) (by first | assumption | exact ⟨by omega, by omega⟩) (by first | assumption | exact ⟨by omega, by omega⟩) (fun c147 => ?_) (fun c147 => ?_)
      · exfalso; omega
      · refine g_iload h dX12_nameOf_150 rfl ?_
        refine g_aload_n h dX12_nameOf_152 rfl ?_
        refine g_iload_n h dX12_nameOf_153 rfl ?_
        refine g_iload h dX12_nameOf_154 rfl ?_
        refine g_aload_n h dX12_nameOf_156 rfl ?_
        refine g_getI h flX12_223 rfl (by assumption) dX12_nameOf_157 ?_
        refine g_callV h rfl (ci := 12) [_, _, _] (by assumption) (c_X12_isDead _ _ rn sn L i _ hM hI hL (by omega) hd) clX12_229 (by decide) rfl in_X12_isDead se_X12_isDead rfl rfl (by rw [hRm]; first | decide | (simp only [clS]; omega)) (by rw [hRm]; first | decide | (simp only [clS]; omega)) (fun _ => Nat.le_of_ble_eq_true rfl) (by rw [hRm]; first | decide | (simp only [clS]; omega)) (by rw [hRm]; first | decide | (simp only [clS]; omega)) dX12_nameOf_160 (fun r160 w160 hp160 => ?_)
        obtain ⟨rfl, hw160⟩ := hp160
        rw [hw160]
        refine g_if_eq (tgt := 170) h dX12_nameOf_163 (by decide) (by first | assumption | exact ⟨by omega, by omega⟩) (fun c163 => ?_) (fun c163 => ?_)
        · refine g_iconst h dX12_nameOf_170 ?_
          refine g_iadd h dX12_nameOf_171 ?_
          refine g_istore h dX12_nameOf_172 (Nat.le_of_ble_eq_true rfl) rfl rfl ?_
          refine g_iinc h dX12_nameOf_174 rfl (Nat.le_of_ble_eq_true rfl) rfl rfl ?_
          refine g_goto (tgt := 143) h dX12_nameOf_177 (by decide) ?_
          first
          | (rw [show deM w L i (w.2.1 400 4) rn = 1 by omega] at ih2; exact ih2)
          | (rw [show deM w L i (w.2.1 400 4) rn = 0 by omega] at ih2; exact ih2)
        · refine g_iconst h dX12_nameOf_166 ?_
          refine g_goto (tgt := 171) h dX12_nameOf_167 (by decide) ?_
          refine g_iadd h dX12_nameOf_171 ?_
          refine g_istore h dX12_nameOf_172 (Nat.le_of_ble_eq_true rfl) rfl rfl ?_
          refine g_iinc h dX12_nameOf_174 rfl (Nat.le_of_ble_eq_true rfl) rfl rfl ?_
          refine g_goto (tgt := 143) h dX12_nameOf_177 (by decide) ?_
          first
          | (rw [show deM w L i (w.2.1 400 4) rn = 1 by omega] at ih2; exact ih2)
          | (rw [show deM w L i (w.2.1 400 4) rn = 0 by omega] at ih2; exact ih2)
  refine g_iconst h dX12_nameOf_0 ?_
  refine g_istore h dX12_nameOf_1 (Nat.le_of_ble_eq_true rfl) rfl rfl ?_
  refine g_iload_n h dX12_nameOf_3 rfl ?_
  rcases (show (a : Int) = 0 ∨ (a : Int) = 1 ∨ (a : Int) = 2 ∨ (a : Int) = 3 ∨ (a : Int) = 4 ∨ (a : Int) = 5 ∨ (a : Int) = 6 ∨ (a : Int) = 7 ∨ ((a : Int) < 0 ∨ 7 < (a : Int)) by omega) with c4 | c4 | c4 | c4 | c4 | c4 | c4 | c4 | c4
  · refine g_tswI (tgt := 52) h 0 (by first | assumption | exact ⟨by omega, by omega⟩) (by first | omega | assumption) (by first | omega | assumption) rfl (by decide) dX12_nameOf_4 ?_
    refine g_aload_n h dX12_nameOf_52 rfl ?_
    refine g_iload_n h dX12_nameOf_53 rfl ?_
    refine g_callV h rfl (ci := 12) [_] (by assumption) (c_X12_fullTold _ _ rn sn L hM hN hI hd hL) clX12_235 (by decide) rfl in_X12_fullTold se_X12_fullTold rfl rfl (by rw [hRm]; first | decide | (simp only [clS]; omega)) (by rw [hRm]; first | decide | (simp only [clS]; omega)) (fun _ => Nat.le_of_ble_eq_true rfl) (by rw [hRm]; first | decide | (simp only [clS]; omega)) (by rw [hRm]; first | decide | (simp only [clS]; omega)) dX12_nameOf_54 (fun r54 w54 hp54 => ?_)
    obtain ⟨rfl, hw54⟩ := hp54
    rw [hw54]
    refine g_iret h hQ (by first | decide | omega | (simp only [clS]; omega)) (by first | decide | omega | (simp only [clS]; omega)) ?_ dX12_nameOf_57
    first
    | (exfalso; omega)
    | (refine ⟨?_, MP_rfl w, rfl⟩
       unfold nmM
       (repeat first | rw [if_pos (by omega)] | rw [if_neg (by omega)]))
  · refine g_tswI (tgt := 58) h 1 (by first | assumption | exact ⟨by omega, by omega⟩) (by first | omega | assumption) (by first | omega | assumption) rfl (by decide) dX12_nameOf_4 ?_
    refine g_aload_n h dX12_nameOf_58 rfl ?_
    refine g_iload_n h dX12_nameOf_59 rfl ?_
    refine g_callV h rfl (ci := 12) [_] (by assumption) (c_X12_burstAhead _ _ L np hM hG hN hP hL) clX12_271 (by decide) rfl in_X12_burstAhead se_X12_burstAhead rfl rfl (by rw [hRm]; first | decide | (simp only [clS]; omega)) (by rw [hRm]; first | decide | (simp only [clS]; omega)) (fun _ => Nat.le_of_ble_eq_true rfl) (by rw [hRm]; first | decide | (simp only [clS]; omega)) (by rw [hRm]; first | decide | (simp only [clS]; omega)) dX12_nameOf_60 (fun r60 w60 hp60 => ?_)
    obtain ⟨rfl, hw60⟩ := hp60
    rw [hw60]
    have hbb := baM_bd w L np
    refine g_istore h dX12_nameOf_63 (Nat.le_of_ble_eq_true rfl) rfl rfl ?_
    refine g_iload h dX12_nameOf_65 rfl ?_
    refine g_bipush h dX12_nameOf_67 rfl ?_
    refine g_icmp_ne (tgt := 78) h dX12_nameOf_69 (by decide) (by first | assumption | exact ⟨by omega, by omega⟩) (by first | assumption | exact ⟨by omega, by omega⟩) (fun c69 => ?_) (fun c69 => ?_)
    · refine g_iload h dX12_nameOf_78 rfl ?_
      refine g_iret h hQ (by first | decide | omega | (simp only [clS]; omega)) (by first | decide | omega | (simp only [clS]; omega)) ?_ dX12_nameOf_80
      first
      | (exfalso; omega)
      | (refine ⟨?_, MP_MF (MF_ba w L np), baM_457 w L np⟩
         unfold nmM
         (repeat first | rw [if_pos (by omega)] | rw [if_neg (by omega)]))
    · refine g_sipush h dX12_nameOf_72 rfl ?_
      refine g_goto (tgt := 80) h dX12_nameOf_75 (by decide) ?_
      refine g_iret h hQ (by first | decide | omega | (simp only [clS]; omega)) (by first | decide | omega | (simp only [clS]; omega)) ?_ dX12_nameOf_80
      first
      | (exfalso; omega)
      | (refine ⟨?_, MP_MF (MF_ba w L np), baM_457 w L np⟩
         unfold nmM
         (repeat first | rw [if_pos (by omega)] | rw [if_neg (by omega)]))
  · refine g_tswI (tgt := 81) h 2 (by first | assumption | exact ⟨by omega, by omega⟩) (by first | omega | assumption) (by first | omega | assumption) rfl (by decide) dX12_nameOf_4 ?_
    refine g_iconst h dX12_nameOf_81 ?_
    refine g_istore h dX12_nameOf_82 (Nat.le_of_ble_eq_true rfl) rfl rfl ?_
    exact run (by omega) np 0 (by omega)
  · refine g_tswI (tgt := 133) h 3 (by first | assumption | exact ⟨by omega, by omega⟩) (by first | omega | assumption) (by first | omega | assumption) rfl (by decide) dX12_nameOf_4 ?_
    refine g_aload_n h dX12_nameOf_133 rfl ?_
    refine g_getQ h flX12_38 rfl (by assumption) (by assumption) dX12_nameOf_134 ?_
    refine g_iload_n h dX12_nameOf_137 rfl ?_
    refine g_iald h _ (by assumption) rfl (by first | omega | assumption) (by first | decide | omega) dX12_nameOf_138 ?_
    refine g_iret h hQ (by first | decide | omega | (simp only [clS]; omega)) (by first | decide | omega | (simp only [clS]; omega)) ?_ dX12_nameOf_139
    first
    | (exfalso; omega)
    | (refine ⟨?_, MP_rfl w, rfl⟩
       unfold nmM
       (repeat first | rw [if_pos (by omega)] | rw [if_neg (by omega)]))
  · refine g_tswI (tgt := 140) h 4 (by first | assumption | exact ⟨by omega, by omega⟩) (by first | omega | assumption) (by first | omega | assumption) rfl (by decide) dX12_nameOf_4 ?_
    refine g_iconst h dX12_nameOf_140 ?_
    refine g_istore h dX12_nameOf_141 (Nat.le_of_ble_eq_true rfl) rfl rfl ?_
    exact dead (by omega) 10 0 (by omega)
  · refine g_tswI (tgt := 183) h 5 (by first | assumption | exact ⟨by omega, by omega⟩) (by first | omega | assumption) (by first | omega | assumption) rfl (by decide) dX12_nameOf_4 ?_
    refine g_aload_n h dX12_nameOf_183 rfl ?_
    refine g_getI h flX12_462 rfl (by assumption) dX12_nameOf_184 ?_
    refine g_iret h hQ (by first | decide | omega | (simp only [clS]; omega)) (by first | decide | omega | (simp only [clS]; omega)) ?_ dX12_nameOf_187
    first
    | (exfalso; omega)
    | (refine ⟨?_, MP_rfl w, rfl⟩
       unfold nmM
       (repeat first | rw [if_pos (by omega)] | rw [if_neg (by omega)]))
  · refine g_tswI (tgt := 188) h 6 (by first | assumption | exact ⟨by omega, by omega⟩) (by first | omega | assumption) (by first | omega | assumption) rfl (by decide) dX12_nameOf_4 ?_
    refine g_iload_n h dX12_nameOf_188 rfl ?_
    refine g_iret h hQ (by first | decide | omega | (simp only [clS]; omega)) (by first | decide | omega | (simp only [clS]; omega)) ?_ dX12_nameOf_189
    first
    | (exfalso; omega)
    | (refine ⟨?_, MP_rfl w, rfl⟩
       unfold nmM
       (repeat first | rw [if_pos (by omega)] | rw [if_neg (by omega)]))
  · refine g_tswI (tgt := 190) h 7 (by first | assumption | exact ⟨by omega, by omega⟩) (by first | omega | assumption) (by first | omega | assumption) rfl (by decide) dX12_nameOf_4 ?_
    refine g_aload_n h dX12_nameOf_190 rfl ?_
    refine g_getI h flX12_223 rfl (by assumption) dX12_nameOf_191 ?_
    refine g_iret h hQ (by first | decide | omega | (simp only [clS]; omega)) (by first | decide | omega | (simp only [clS]; omega)) ?_ dX12_nameOf_194
    first
    | (exfalso; omega)
    | (refine ⟨?_, MP_rfl w, rfl⟩
       unfold nmM
       (repeat first | rw [if_pos (by omega)] | rw [if_neg (by omega)]))
  · refine g_tswO (tgt := 195) h (by first | assumption | exact ⟨by omega, by omega⟩) c4 (by decide) dX12_nameOf_4 ?_
    refine g_iload_n h dX12_nameOf_195 rfl ?_
    refine g_iret h hQ (by first | decide | omega | (simp only [clS]; omega)) (by first | decide | omega | (simp only [clS]; omega)) ?_ dX12_nameOf_196
    first
    | (exfalso; omega)
    | (refine ⟨?_, MP_rfl w, rfl⟩
       unfold nmM
       (repeat first | rw [if_pos (by omega)] | rw [if_neg (by omega)]))
/-- an item's code -/
def okIt (s v c : Int) : Prop := (s = 0 ∧ c = v ∧ 0 ≤ v ∧ v < 10000) ∨ (s = 1 ∧ c = 10000 + v ∧ 0 ≤ v ∧ v < 9) ∨ (s = 2 ∧ c = 20043) ∨ (s = 3 ∧ c = 20045) ∨ (s = 4 ∧ c = 20060) ∨ (s = 5 ∧ c = 20062) ∨ (s = 6 ∧ c = 20061) ∨ (s = 7 ∧ c = 20033) ∨ (s = 8 ∧ c = 20038) ∨ (s = 9 ∧ c = 20124)
/-- a rule of M's at place p: its items are code cl -/
def RM (w : AW) (p : Nat) (cl : List Int) : Prop := w.1 p = (110, 0) ∧ w.2.2 p 2 = some (p + 1) ∧ w.2.2 p 3 = some (p + 2) ∧ w.1 (p + 1) = (1, 300) ∧ w.1 (p + 2) = (1, 300) ∧ w.2.1 p 1 = (cl.length : Int) ∧ cl.length ≤ 300 ∧ (∀ i, i < cl.length → okIt (w.2.1 (p + 1) i) (w.2.1 (p + 2) i) (cl.getD i 0)) ∧ 0 ≤ w.2.1 p 0 ∧ w.2.1 p 0 < 4
theorem RM_of {u v : AW} {p : Nat} {cl : List Int} (h1 : v.1 = u.1) (h2 : v.2.2 = u.2.2) (h3 : v.2.1 p = u.2.1 p) (h4 : v.2.1 (p + 1) = u.2.1 (p + 1)) (h5 : v.2.1 (p + 2) = u.2.1 (p + 2)) (h : RM u p cl) : RM v p cl := by
  unfold RM at h ⊢
  rw [h1, h2, h3, h4, h5]
  exact h
theorem tc_ff {c : Int} {ts ts2 : List Bool} (h : tcS c ts = some ts2) (hc : c = 20043 ∨ c = 20045 ∨ c = 20060 ∨ c = 20061 ∨ c = 20062) : ∃ t, ts = false :: false :: t := by
  rcases tcS_inv h with ⟨a, b, -⟩ | ⟨a, -⟩ | ⟨-, t, a, -⟩ | ⟨-, t, a, -⟩ | ⟨a, -⟩
  · omega
  · omega
  · exact ⟨t, a⟩
  · exact ⟨t, a⟩
  · omega
theorem tc_tt {c : Int} {ts ts2 : List Bool} (h : tcS c ts = some ts2) (hc : c = 20038 ∨ c = 20124) : ∃ t, ts = true :: true :: t := by
  rcases tcS_inv h with ⟨a, b, -⟩ | ⟨a, -⟩ | ⟨a, -⟩ | ⟨a, -⟩ | ⟨-, t, a, -⟩
  · omega
  · omega
  · omega
  · omega
  · exact ⟨t, a⟩
theorem tc_t {ts ts2 : List Bool} (h : tcS 20033 ts = some ts2) : ∃ t, ts = true :: t := by
  rcases tcS_inv h with ⟨a, b, -⟩ | ⟨-, t, a, -⟩ | ⟨a, -⟩ | ⟨a, -⟩ | ⟨a, -⟩
  · omega
  · exact ⟨t, a⟩
  · omega
  · omega
  · omega
theorem tcL_c {c : Int} {cs : List Int} {ts : List Bool} {r : List Bool} (h : tcL (c :: cs) ts = some r) : ∃ ts2, tcS c ts = some ts2 ∧ tcL cs ts2 = some r := by
  unfold tcL at h
  split at h
  · cases h
  · exact ⟨_, by assumption, h⟩
set_option maxRecDepth 100000 in
set_option maxHeartbeats 4000000 in
theorem c_X12_holdsBy (l : Launch) (w : AW) (np rn sn L p : Nat) (hi : Int) (cl : List Int) (hR : MR w np rn sn) (hL : L < 2) (hp : 478 ≤ p) (hRM : RM w p cl) (hh : 0 ≤ hi ∧ hi ≤ 999) (htc : tcL cl [] = some [true]) (htm : tms cl ≤ 30) : HT l yX12_holdsBy cX12_holdsBy 10 (some .boolean) 8 0 0 w [ar 400, ar p, ai (L : Int), ai hi] (fun r w' => r = some (ai (if evL (nmM w L np rn sn hi) cl [] = [1] then 1 else 0)) ∧ MP w w') := by
  refine HT.of (by decide) (by intro v hv; simp only [List.mem_cons, List.not_mem_nil, or_false] at hv; rcases hv with rfl | rfl | rfl | rfl <;> rfl) (Nat.le_of_ble_eq_true rfl) ?_
  intro Γ h hQ hRm hnm hl hw0
  obtain ⟨r1, r2, r3, r4, r5, r6, r7, r8, -⟩ := id hRM
  have hnb := nmM_bd (L := L) hL hR hh
  have loop : ∀ (rest : List Int) (i k tp : Nat) (ts : List Bool) (st : List Int) (u : AW) (x0 x1 x2 x3 : Option AV), cl.drop i = rest → i ≤ cl.length → tcL rest ts = some [true] → SV ts st k → k + tms rest ≤ 30 → SR (u.2.1 457) st → tp = st.length → evL (nmM w L np rn sn hi) rest st = evL (nmM w L np rn sn hi) cl [] → MP w u →
      GG Γ 6 [some (ar 400), some (ar p), some (ai (L : Int)), some (ai hi), some (ai (tp : Int)), some (ai (i : Int)), x0, x1, x2, x3] [] u 0 0 := by
    intro rest
    induction rest with
    | nil =>
      intro i k tp ts st u x0 x1 x2 x3 hd hi2 htc2 hsv hk hsr htp hev hF
      have hil : i = cl.length := by
        have := List.drop_eq_nil_iff.mp hd
        omega
      subst hil
      obtain rfl : ts = [true] := Option.some.inj htc2
      obtain ⟨v, t, m, rfl, hv, h1, h2, h3⟩ := SV_t hsv
      have ht0 : t = [] := by cases t with | nil => rfl | cons _ _ => exact h3.elim
      subst ht0
      obtain ⟨hr1, -⟩ := hsr
      have hr1' : u.2.1 457 0 = v := hr1
      have e1 : evL (nmM w L np rn sn hi) cl [] = [v] := hev.symm
      have hMu := MS_MP hF hR.1
      have u1 : u.1 p = (110, 0) := by rw [hF.1]; exact r1
      have up : u.2.1 p = w.2.1 p := MP_e hF p (by omega)
      have e6 : u.2.1 p 1 = (cl.length : Int) := by rw [up]; exact r6
      have ts400 : u.1 400 = (112, 0) := hMu.1 400 (by decide) (by decide)
      have ts457 : u.1 457 = (1, 300) := hMu.1 457 (by decide) (by decide)
      have tp57 : u.2.2 400 57 = some 457 := hMu.2 (400, 57, 457) (by decide)
      refine g_iload h dX12_holdsBy_6 rfl ?_
      refine g_aload_n h dX12_holdsBy_8 rfl ?_
      refine g_getIN h flX12_382 rfl (by assumption) dX12_holdsBy_9 ?_
      rw [e6]
      refine g_icmp_ge (tgt := 285) h dX12_holdsBy_12 (by decide) (by first | assumption | exact ⟨by omega, by omega⟩) (by first | assumption | exact ⟨by omega, by omega⟩) (fun c12 => ?_) (fun c12 => ?_)
      · refine g_aload_n h dX12_holdsBy_285 rfl ?_
        refine g_getQ h flX12_134 rfl (by assumption) (by assumption) dX12_holdsBy_286 ?_
        refine g_iconst h dX12_holdsBy_289 ?_
        refine g_iald h (0) (by assumption) (by first | omega | assumption) (by first | omega | assumption) (by first | decide | omega) dX12_holdsBy_290 ?_
        rw [hr1']
        refine g_iconst h dX12_holdsBy_291 ?_
        refine g_icmp_ne (tgt := 299) h dX12_holdsBy_292 (by decide) (by first | assumption | exact ⟨by omega, by omega⟩) (by first | assumption | exact ⟨by omega, by omega⟩) (fun c292 => ?_) (fun c292 => ?_)
        · refine g_iconst h dX12_holdsBy_299 ?_
          refine g_zret h hQ (by first | decide | omega | (simp only [clS]; omega)) (by first | decide | omega | (simp only [clS]; omega)) (by omega) ?_ dX12_holdsBy_300
          refine ⟨?_, hF⟩
          rw [e1]
          first
          | (rw [if_pos (by rw [show v = 1 by omega])])
          | (rw [if_neg (fun q => by injection q with q1; omega)])
        · refine g_iconst h dX12_holdsBy_295 ?_
          refine g_goto (tgt := 300) h dX12_holdsBy_296 (by decide) ?_
          refine g_zret h hQ (by first | decide | omega | (simp only [clS]; omega)) (by first | decide | omega | (simp only [clS]; omega)) (by omega) ?_ dX12_holdsBy_300
          refine ⟨?_, hF⟩
          rw [e1]
          first
          | (rw [if_pos (by rw [show v = 1 by omega])])
          | (rw [if_neg (fun q => by injection q with q1; omega)])
      · exfalso; omega
    | cons c rest ih =>
      intro i k tp ts st u x0 x1 x2 x3 hd hi2 htc2 hsv hk hsr htp hev hF
      obtain ⟨hil, hcg, hd2⟩ := dropC hd
      obtain ⟨ts2, htc3, htc4⟩ := tcL_c htc2
      have hsv2 := SV_step (nm := nmM w L np rn sn hi) (fun a _ => hnb a) htc3 hsv
      have hit := r8 i hil
      rw [hcg] at hit
      have hMu := MS_MP hF hR.1
      have hRu := MR_MP hF hR
      have hnu := nmM_MP hF hL hi hR
      have u1 : u.1 p = (110, 0) := by rw [hF.1]; exact r1
      have u4 : u.1 (p + 1) = (1, 300) := by rw [hF.1]; exact r4
      have u5 : u.1 (p + 2) = (1, 300) := by rw [hF.1]; exact r5
      have q2 : u.2.2 p 2 = some (p + 1) := by rw [hF.2.1]; exact r2
      have q3 : u.2.2 p 3 = some (p + 2) := by rw [hF.2.1]; exact r3
      have up : u.2.1 p = w.2.1 p := MP_e hF p (by omega)
      have up1 : u.2.1 (p + 1) = w.2.1 (p + 1) := MP_e hF (p + 1) (by omega)
      have up2 : u.2.1 (p + 2) = w.2.1 (p + 2) := MP_e hF (p + 2) (by omega)
      have e6 : u.2.1 p 1 = (cl.length : Int) := by rw [up]; exact r6
      have hsl := SV_len hsv
      have htm1 : tms (c :: rest) = (if c < 20000 then 1 else 0) + tms rest := rfl
      have hev2 : evL (nmM w L np rn sn hi) rest (evS (nmM w L np rn sn hi) c st) = evL (nmM w L np rn sn hi) cl [] := hev
      rw [htm1] at hk
      have nxt : ∀ (tp' : Nat) (u' : AW) (x0 x1 x2 x3 : Option AV), MP u u' → SR (u'.2.1 457) (evS (nmM w L np rn sn hi) c st) → tp' = (evS (nmM w L np rn sn hi) c st).length → GG Γ 6 [some (ar 400), some (ar p), some (ai (L : Int)), some (ai hi), some (ai (tp' : Int)), some (ai ((i : Int) + 1)), x0, x1, x2, x3] [] u' 0 0 := fun tp' u' x0 x1 x2 x3 g1 g2 g3 =>
        ih (i + 1) _ tp' ts2 _ u' x0 x1 x2 x3 hd2 (by omega) htc4 hsv2 (by omega) g2 g3 hev2 (MP_tr hF g1)
      rw [← up1, ← up2] at hit
      have ts400 : u.1 400 = (112, 0) := hMu.1 400 (by decide) (by decide)
      have ts457 : u.1 457 = (1, 300) := hMu.1 457 (by decide) (by decide)
      have tp57 : u.2.2 400 57 = some 457 := hMu.2 (400, 57, 457) (by decide)
      generalize hsg : u.2.1 (p + 1) i = s at hit
      rcases hit with ⟨rfl, hc, hv0, hv1⟩ | ⟨rfl, hc, hv0, hv1⟩ | ⟨rfl, rfl⟩ | ⟨rfl, rfl⟩ | ⟨rfl, rfl⟩ | ⟨rfl, rfl⟩ | ⟨rfl, rfl⟩ | ⟨rfl, rfl⟩ | ⟨rfl, rfl⟩ | ⟨rfl, rfl⟩
      · -- a whole number
        have hcS : evS (nmM w L np rn sn hi) c st = c :: st := by unfold evS; rw [if_pos (by omega)]
        rw [hcS] at nxt
        refine g_iload h dX12_holdsBy_6 rfl ?_
        refine g_aload_n h dX12_holdsBy_8 rfl ?_
        refine g_getIN h flX12_382 rfl (by assumption) dX12_holdsBy_9 ?_
        rw [e6]
        refine g_icmp_ge (tgt := 285) h dX12_holdsBy_12 (by decide) (by first | assumption | exact ⟨by omega, by omega⟩) (by first | assumption | exact ⟨by omega, by omega⟩) (fun c12 => ?_) (fun c12 => ?_)
        · exfalso; omega
        · refine g_aload_n h dX12_holdsBy_15 rfl ?_
          refine g_getQN h flX12_464 rfl (by assumption) (by assumption) dX12_holdsBy_16 ?_
          refine g_iload h dX12_holdsBy_19 rfl ?_
          refine g_iald h (i) (by assumption) (by first | omega | assumption) (by first | omega | assumption) (by first | decide | omega) dX12_holdsBy_21 ?_
          rw [hsg]
          refine g_istore h dX12_holdsBy_22 (Nat.le_of_ble_eq_true rfl) rfl rfl ?_
          refine g_iload h dX12_holdsBy_24 rfl ?_
          refine g_if_eq (tgt := 35) h dX12_holdsBy_26 (by decide) (by first | assumption | exact ⟨by omega, by omega⟩) (fun c26 => ?_) (fun c26 => ?_)
          · refine g_aload_n h dX12_holdsBy_35 rfl ?_
            refine g_getQ h flX12_134 rfl (by assumption) (by assumption) dX12_holdsBy_36 ?_
            refine g_iload h dX12_holdsBy_39 rfl ?_
            refine g_iload h dX12_holdsBy_41 rfl ?_
            refine g_if_ne (tgt := 56) h dX12_holdsBy_43 (by decide) (by first | assumption | exact ⟨by omega, by omega⟩) (fun c43 => ?_) (fun c43 => ?_)
            · exfalso; omega
            · refine g_aload_n h dX12_holdsBy_46 rfl ?_
              refine g_getQN h flX12_467 rfl (by assumption) (by assumption) dX12_holdsBy_47 ?_
              refine g_iload h dX12_holdsBy_50 rfl ?_
              refine g_iald h (i) (by assumption) (by first | omega | assumption) (by first | omega | assumption) (by first | decide | omega) dX12_holdsBy_52 ?_
              refine g_goto (tgt := 69) h dX12_holdsBy_53 (by decide) ?_
              refine g_iast h (tp) (by assumption) (by first | omega | assumption) (by first | omega | assumption) (by first | decide | omega) dX12_holdsBy_69 ?_
              refine g_iinc h dX12_holdsBy_70 rfl (Nat.le_of_ble_eq_true rfl) rfl rfl ?_
              refine g_goto (tgt := 279) h dX12_holdsBy_73 (by decide) ?_
              refine g_iinc h dX12_holdsBy_279 rfl (Nat.le_of_ble_eq_true rfl) rfl rfl ?_
              refine g_goto (tgt := 6) h dX12_holdsBy_282 (by decide) ?_
              have h4 := nxt (tp + 1) (upI u 457 tp c) (some (ai 0)) x1 x2 x3 (MP_457 u tp c) (by rw [htp, upI_sR, sR_at]; exact SR_push hsr) (by rw [htp]; rfl)
              rw [hc] at h4
              exact h4
          · exfalso; omega
      · -- a name
        obtain ⟨a, ha⟩ : ∃ a : Nat, u.2.1 (p + 2) i = (a : Int) := ⟨(u.2.1 (p + 2) i).toNat, by omega⟩
        have hcS : evS (nmM w L np rn sn hi) c st = nmM w L np rn sn hi a :: st := by
          unfold evS
          rw [if_neg (by omega), if_pos (by omega), show (c - 10000).toNat = a by omega]
        rw [hcS] at nxt
        refine g_iload h dX12_holdsBy_6 rfl ?_
        refine g_aload_n h dX12_holdsBy_8 rfl ?_
        refine g_getIN h flX12_382 rfl (by assumption) dX12_holdsBy_9 ?_
        rw [e6]
        refine g_icmp_ge (tgt := 285) h dX12_holdsBy_12 (by decide) (by first | assumption | exact ⟨by omega, by omega⟩) (by first | assumption | exact ⟨by omega, by omega⟩) (fun c12 => ?_) (fun c12 => ?_)
        · exfalso; omega
        · refine g_aload_n h dX12_holdsBy_15 rfl ?_
          refine g_getQN h flX12_464 rfl (by assumption) (by assumption) dX12_holdsBy_16 ?_
          refine g_iload h dX12_holdsBy_19 rfl ?_
          refine g_iald h (i) (by assumption) (by first | omega | assumption) (by first | omega | assumption) (by first | decide | omega) dX12_holdsBy_21 ?_
          rw [hsg]
          refine g_istore h dX12_holdsBy_22 (Nat.le_of_ble_eq_true rfl) rfl rfl ?_
          refine g_iload h dX12_holdsBy_24 rfl ?_
          refine g_if_eq (tgt := 35) h dX12_holdsBy_26 (by decide) (by first | assumption | exact ⟨by omega, by omega⟩) (fun c26 => ?_) (fun c26 => ?_)
          · refine g_aload_n h dX12_holdsBy_35 rfl ?_
            refine g_getQ h flX12_134 rfl (by assumption) (by assumption) dX12_holdsBy_36 ?_
            refine g_iload h dX12_holdsBy_39 rfl ?_
            refine g_iload h dX12_holdsBy_41 rfl ?_
            refine g_if_ne (tgt := 56) h dX12_holdsBy_43 (by decide) (by first | assumption | exact ⟨by omega, by omega⟩) (fun c43 => ?_) (fun c43 => ?_)
            · refine g_aload_n h dX12_holdsBy_56 rfl ?_
              refine g_aload_n h dX12_holdsBy_57 rfl ?_
              refine g_getQN h flX12_467 rfl (by assumption) (by assumption) dX12_holdsBy_58 ?_
              refine g_iload h dX12_holdsBy_61 rfl ?_
              refine g_iald h (i) (by assumption) (by first | omega | assumption) (by first | omega | assumption) (by first | decide | omega) dX12_holdsBy_63 ?_
              rw [ha]
              refine g_iload_n h dX12_holdsBy_64 rfl ?_
              refine g_iload_n h dX12_holdsBy_65 rfl ?_
              refine g_callV h rfl (ci := 12) [_, _, _] (by assumption) (c_X12_nameOf _ _ np rn sn L a hi hRu hL (by omega)) clX12_470 (by decide) rfl in_X12_nameOf se_X12_nameOf rfl rfl (by rw [hRm]; first | decide | (simp only [clS]; omega)) (by rw [hRm]; first | decide | (simp only [clS]; omega)) (fun _ => Nat.le_of_ble_eq_true rfl) (by rw [hRm]; first | decide | (simp only [clS]; omega)) (by rw [hRm]; first | decide | (simp only [clS]; omega)) dX12_holdsBy_66 (fun r66 w66 hp66 => ?_)
              obtain ⟨rfl, hP9, hq9⟩ := hp66
              have v457 : w66.1 457 = (1, 300) := by rw [hP9.1]; exact ts457
              rw [hnu]
              refine g_iast h (tp) (by assumption) (by first | omega | assumption) (by first | omega | assumption) (by first | decide | omega) dX12_holdsBy_69 ?_
              refine g_iinc h dX12_holdsBy_70 rfl (Nat.le_of_ble_eq_true rfl) rfl rfl ?_
              refine g_goto (tgt := 279) h dX12_holdsBy_73 (by decide) ?_
              refine g_iinc h dX12_holdsBy_279 rfl (Nat.le_of_ble_eq_true rfl) rfl rfl ?_
              refine g_goto (tgt := 6) h dX12_holdsBy_282 (by decide) ?_
              first
              | (exfalso; omega)
              | (exact nxt (tp + 1) _ (some (ai 1)) x1 x2 x3 (MP_tr hP9 (MP_457 _ tp _)) (by rw [htp, upI_sR, sR_at, hq9]; exact SR_push hsr) (by rw [htp]; rfl))
            · exfalso; omega
          · refine g_iload h dX12_holdsBy_29 rfl ?_
            refine g_iconst h dX12_holdsBy_31 ?_
            refine g_icmp_ne (tgt := 76) h dX12_holdsBy_32 (by decide) (by first | assumption | exact ⟨by omega, by omega⟩) (by first | assumption | exact ⟨by omega, by omega⟩) (fun c32 => ?_) (fun c32 => ?_)
            · exfalso; omega
            · refine g_aload_n h dX12_holdsBy_35 rfl ?_
              refine g_getQ h flX12_134 rfl (by assumption) (by assumption) dX12_holdsBy_36 ?_
              refine g_iload h dX12_holdsBy_39 rfl ?_
              refine g_iload h dX12_holdsBy_41 rfl ?_
              refine g_if_ne (tgt := 56) h dX12_holdsBy_43 (by decide) (by first | assumption | exact ⟨by omega, by omega⟩) (fun c43 => ?_) (fun c43 => ?_)
              · refine g_aload_n h dX12_holdsBy_56 rfl ?_
                refine g_aload_n h dX12_holdsBy_57 rfl ?_
                refine g_getQN h flX12_467 rfl (by assumption) (by assumption) dX12_holdsBy_58 ?_
                refine g_iload h dX12_holdsBy_61 rfl ?_
                refine g_iald h (i) (by assumption) (by first | omega | assumption) (by first | omega | assumption) (by first | decide | omega) dX12_holdsBy_63 ?_
                rw [ha]
                refine g_iload_n h dX12_holdsBy_64 rfl ?_
                refine g_iload_n h dX12_holdsBy_65 rfl ?_
                refine g_callV h rfl (ci := 12) [_, _, _] (by assumption) (c_X12_nameOf _ _ np rn sn L a hi hRu hL (by omega)) clX12_470 (by decide) rfl in_X12_nameOf se_X12_nameOf rfl rfl (by rw [hRm]; first | decide | (simp only [clS]; omega)) (by rw [hRm]; first | decide | (simp only [clS]; omega)) (fun _ => Nat.le_of_ble_eq_true rfl) (by rw [hRm]; first | decide | (simp only [clS]; omega)) (by rw [hRm]; first | decide | (simp only [clS]; omega)) dX12_holdsBy_66 (fun r66 w66 hp66 => ?_)
                obtain ⟨rfl, hP9, hq9⟩ := hp66
                have v457 : w66.1 457 = (1, 300) := by rw [hP9.1]; exact ts457
                rw [hnu]
                refine g_iast h (tp) (by assumption) (by first | omega | assumption) (by first | omega | assumption) (by first | decide | omega) dX12_holdsBy_69 ?_
                refine g_iinc h dX12_holdsBy_70 rfl (Nat.le_of_ble_eq_true rfl) rfl rfl ?_
                refine g_goto (tgt := 279) h dX12_holdsBy_73 (by decide) ?_
                refine g_iinc h dX12_holdsBy_279 rfl (Nat.le_of_ble_eq_true rfl) rfl rfl ?_
                refine g_goto (tgt := 6) h dX12_holdsBy_282 (by decide) ?_
                first
                | (exfalso; omega)
                | (exact nxt (tp + 1) _ (some (ai 1)) x1 x2 x3 (MP_tr hP9 (MP_457 _ tp _)) (by rw [htp, upI_sR, sR_at, hq9]; exact SR_push hsr) (by rw [htp]; rfl))
              · exfalso; omega
      · -- sign 20043
        obtain ⟨t, rfl⟩ := tc_ff htc3 (by decide)
        obtain ⟨b, t2, m, rfl, hb, m1, m2, m3⟩ := SV_f hsv
        obtain ⟨a, t3, m4, rfl, ha, m5, m6, m7⟩ := SV_f m3
        have hcS : evS (nmM w L np rn sn hi) 20043 (b :: a :: t3) = cJ (20043 - 20000) a b :: t3 := evS_2 (by decide) (by decide)
        rw [hcS] at nxt
        simp only [List.length_cons] at htp hsl
        have g1 : u.2.1 457 (t3.length + 1) = b := hsr.1
        have g2 : u.2.1 457 t3.length = a := hsr.2.1
        refine g_iload h dX12_holdsBy_6 rfl ?_
        refine g_aload_n h dX12_holdsBy_8 rfl ?_
        refine g_getIN h flX12_382 rfl (by assumption) dX12_holdsBy_9 ?_
        rw [e6]
        refine g_icmp_ge (tgt := 285) h dX12_holdsBy_12 (by decide) (by first | assumption | exact ⟨by omega, by omega⟩) (by first | assumption | exact ⟨by omega, by omega⟩) (fun c12 => ?_) (fun c12 => ?_)
        · exfalso; omega
        · refine g_aload_n h dX12_holdsBy_15 rfl ?_
          refine g_getQN h flX12_464 rfl (by assumption) (by assumption) dX12_holdsBy_16 ?_
          refine g_iload h dX12_holdsBy_19 rfl ?_
          refine g_iald h (i) (by assumption) (by first | omega | assumption) (by first | omega | assumption) (by first | decide | omega) dX12_holdsBy_21 ?_
          rw [hsg]
          refine g_istore h dX12_holdsBy_22 (Nat.le_of_ble_eq_true rfl) rfl rfl ?_
          refine g_iload h dX12_holdsBy_24 rfl ?_
          refine g_if_eq (tgt := 35) h dX12_holdsBy_26 (by decide) (by first | assumption | exact ⟨by omega, by omega⟩) (fun c26 => ?_) (fun c26 => ?_)
          · exfalso; omega
          · refine g_iload h dX12_holdsBy_29 rfl ?_
            refine g_iconst h dX12_holdsBy_31 ?_
            refine g_icmp_ne (tgt := 76) h dX12_holdsBy_32 (by decide) (by first | assumption | exact ⟨by omega, by omega⟩) (by first | assumption | exact ⟨by omega, by omega⟩) (fun c32 => ?_) (fun c32 => ?_)
            · refine g_iload h dX12_holdsBy_76 rfl ?_
              refine g_bipush h dX12_holdsBy_78 rfl ?_
              refine g_icmp_ne (tgt := 106) h dX12_holdsBy_80 (by decide) (by first | assumption | exact ⟨by omega, by omega⟩) (by first | assumption | exact ⟨by omega, by omega⟩) (fun c80 => ?_) (fun c80 => ?_)
              · refine g_iinc h dX12_holdsBy_106 rfl (Nat.le_of_ble_eq_true rfl) rfl rfl ?_
                refine g_aload_n h dX12_holdsBy_109 rfl ?_
                refine g_getQ h flX12_134 rfl (by assumption) (by assumption) dX12_holdsBy_110 ?_
                refine g_iload h dX12_holdsBy_113 rfl ?_
                refine g_iconst h dX12_holdsBy_115 ?_
                refine g_isub h dX12_holdsBy_116 ?_
                refine g_iald h (t3.length) (by assumption) (by first | omega | assumption) (by first | omega | assumption) (by first | decide | omega) dX12_holdsBy_117 ?_
                rw [g2]
                refine g_istore h dX12_holdsBy_118 (Nat.le_of_ble_eq_true rfl) rfl rfl ?_
                refine g_aload_n h dX12_holdsBy_120 rfl ?_
                refine g_getQ h flX12_134 rfl (by assumption) (by assumption) dX12_holdsBy_121 ?_
                refine g_iload h dX12_holdsBy_124 rfl ?_
                refine g_iald h (t3.length + 1) (by assumption) (by first | omega | assumption) (by first | omega | assumption) (by first | decide | omega) dX12_holdsBy_126 ?_
                rw [g1]
                refine g_istore h dX12_holdsBy_127 (Nat.le_of_ble_eq_true rfl) rfl rfl ?_
                refine g_iload h dX12_holdsBy_129 rfl ?_
                refine g_iconst h dX12_holdsBy_131 ?_
                refine g_icmp_ne (tgt := 150) h dX12_holdsBy_132 (by decide) (by first | assumption | exact ⟨by omega, by omega⟩) (by first | assumption | exact ⟨by omega, by omega⟩) (fun c132 => ?_) (fun c132 => ?_)
                · refine g_iload h dX12_holdsBy_150 rfl ?_
                  refine g_iconst h dX12_holdsBy_152 ?_
                  refine g_icmp_ne (tgt := 171) h dX12_holdsBy_153 (by decide) (by first | assumption | exact ⟨by omega, by omega⟩) (by first | assumption | exact ⟨by omega, by omega⟩) (fun c153 => ?_) (fun c153 => ?_)
                  · refine g_iload h dX12_holdsBy_171 rfl ?_
                    refine g_bipush h dX12_holdsBy_173 rfl ?_
                    refine g_icmp_ne (tgt := 193) h dX12_holdsBy_175 (by decide) (by first | assumption | exact ⟨by omega, by omega⟩) (by first | assumption | exact ⟨by omega, by omega⟩) (fun c175 => ?_) (fun c175 => ?_)
                    · refine g_iload h dX12_holdsBy_193 rfl ?_
                      refine g_bipush h dX12_holdsBy_195 rfl ?_
                      refine g_icmp_ne (tgt := 217) h dX12_holdsBy_197 (by decide) (by first | assumption | exact ⟨by omega, by omega⟩) (by first | assumption | exact ⟨by omega, by omega⟩) (fun c197 => ?_) (fun c197 => ?_)
                      · refine g_iload h dX12_holdsBy_217 rfl ?_
                        refine g_iload h dX12_holdsBy_219 rfl ?_
                        refine g_iadd h dX12_holdsBy_221 ?_
                        refine g_if_le (tgt := 229) h dX12_holdsBy_222 (by decide) (by first | assumption | exact ⟨by omega, by omega⟩) (fun c222 => ?_) (fun c222 => ?_)
                        · refine g_iconst h dX12_holdsBy_229 ?_
                          refine g_istore h dX12_holdsBy_230 (Nat.le_of_ble_eq_true rfl) rfl rfl ?_
                          refine g_aload_n h dX12_holdsBy_232 rfl ?_
                          refine g_getQ h flX12_134 rfl (by assumption) (by assumption) dX12_holdsBy_233 ?_
                          refine g_iload h dX12_holdsBy_236 rfl ?_
                          refine g_iconst h dX12_holdsBy_238 ?_
                          refine g_isub h dX12_holdsBy_239 ?_
                          refine g_iload h dX12_holdsBy_240 rfl ?_
                          refine g_iconst h dX12_holdsBy_242 ?_
                          refine g_icmp_ne (tgt := 254) h dX12_holdsBy_243 (by decide) (by first | assumption | exact ⟨by omega, by omega⟩) (by first | assumption | exact ⟨by omega, by omega⟩) (fun c243 => ?_) (fun c243 => ?_)
                          · exfalso; omega
                          · refine g_iload h dX12_holdsBy_246 rfl ?_
                            refine g_iload h dX12_holdsBy_248 rfl ?_
                            refine g_iadd h dX12_holdsBy_250 ?_
                            refine g_goto (tgt := 278) h dX12_holdsBy_251 (by decide) ?_
                            refine g_iast h (t3.length) (by assumption) (by first | omega | assumption) (by first | omega | assumption) (by first | decide | omega) dX12_holdsBy_278 ?_
                            refine g_iinc h dX12_holdsBy_279 rfl (Nat.le_of_ble_eq_true rfl) rfl rfl ?_
                            refine g_goto (tgt := 6) h dX12_holdsBy_282 (by decide) ?_
                            first
                            | (exfalso; omega)
                            | (have h4 := fun x0 x1 x2 x3 => nxt (t3.length + 1) _ x0 x1 x2 x3 (MP_457 u t3.length (cJ (20043 - 20000) a b)) (by rw [upI_sR, sR_at]; exact SR_push hsr.2.2) rfl
                               have hj : cJ (20043 - 20000) a b = a + b := by unfold cJ; (repeat first | rw [if_pos (by omega)] | rw [if_neg (by omega)])
                               rw [hj] at h4
                               subst htp
                               rw [show ((t3.length + 1 + 1 : Nat) : Int) + -1 = ((t3.length + 1 : Nat) : Int) by omega]
                               exact h4 _ _ _ _)
                        · refine g_iconst h dX12_holdsBy_225 ?_
                          refine g_goto (tgt := 230) h dX12_holdsBy_226 (by decide) ?_
                          refine g_istore h dX12_holdsBy_230 (Nat.le_of_ble_eq_true rfl) rfl rfl ?_
                          refine g_aload_n h dX12_holdsBy_232 rfl ?_
                          refine g_getQ h flX12_134 rfl (by assumption) (by assumption) dX12_holdsBy_233 ?_
                          refine g_iload h dX12_holdsBy_236 rfl ?_
                          refine g_iconst h dX12_holdsBy_238 ?_
                          refine g_isub h dX12_holdsBy_239 ?_
                          refine g_iload h dX12_holdsBy_240 rfl ?_
                          refine g_iconst h dX12_holdsBy_242 ?_
                          refine g_icmp_ne (tgt := 254) h dX12_holdsBy_243 (by decide) (by first | assumption | exact ⟨by omega, by omega⟩) (by first | assumption | exact ⟨by omega, by omega⟩) (fun c243 => ?_) (fun c243 => ?_)
                          · exfalso; omega
                          · refine g_iload h dX12_holdsBy_246 rfl ?_
                            refine g_iload h dX12_holdsBy_248 rfl ?_
                            refine g_iadd h dX12_holdsBy_250 ?_
                            refine g_goto (tgt := 278) h dX12_holdsBy_251 (by decide) ?_
                            refine g_iast h (t3.length) (by assumption) (by first | omega | assumption) (by first | omega | assumption) (by first | decide | omega) dX12_holdsBy_278 ?_
                            refine g_iinc h dX12_holdsBy_279 rfl (Nat.le_of_ble_eq_true rfl) rfl rfl ?_
                            refine g_goto (tgt := 6) h dX12_holdsBy_282 (by decide) ?_
                            first
                            | (exfalso; omega)
                            | (have h4 := fun x0 x1 x2 x3 => nxt (t3.length + 1) _ x0 x1 x2 x3 (MP_457 u t3.length (cJ (20043 - 20000) a b)) (by rw [upI_sR, sR_at]; exact SR_push hsr.2.2) rfl
                               have hj : cJ (20043 - 20000) a b = a + b := by unfold cJ; (repeat first | rw [if_pos (by omega)] | rw [if_neg (by omega)])
                               rw [hj] at h4
                               subst htp
                               rw [show ((t3.length + 1 + 1 : Nat) : Int) + -1 = ((t3.length + 1 : Nat) : Int) by omega]
                               exact h4 _ _ _ _)
                      · exfalso; omega
                    · exfalso; omega
                  · exfalso; omega
                · exfalso; omega
              · exfalso; omega
            · exfalso; omega
      · -- sign 20045
        obtain ⟨t, rfl⟩ := tc_ff htc3 (by decide)
        obtain ⟨b, t2, m, rfl, hb, m1, m2, m3⟩ := SV_f hsv
        obtain ⟨a, t3, m4, rfl, ha, m5, m6, m7⟩ := SV_f m3
        have hcS : evS (nmM w L np rn sn hi) 20045 (b :: a :: t3) = cJ (20045 - 20000) a b :: t3 := evS_2 (by decide) (by decide)
        rw [hcS] at nxt
        simp only [List.length_cons] at htp hsl
        have g1 : u.2.1 457 (t3.length + 1) = b := hsr.1
        have g2 : u.2.1 457 t3.length = a := hsr.2.1
        refine g_iload h dX12_holdsBy_6 rfl ?_
        refine g_aload_n h dX12_holdsBy_8 rfl ?_
        refine g_getIN h flX12_382 rfl (by assumption) dX12_holdsBy_9 ?_
        rw [e6]
        refine g_icmp_ge (tgt := 285) h dX12_holdsBy_12 (by decide) (by first | assumption | exact ⟨by omega, by omega⟩) (by first | assumption | exact ⟨by omega, by omega⟩) (fun c12 => ?_) (fun c12 => ?_)
        · exfalso; omega
        · refine g_aload_n h dX12_holdsBy_15 rfl ?_
          refine g_getQN h flX12_464 rfl (by assumption) (by assumption) dX12_holdsBy_16 ?_
          refine g_iload h dX12_holdsBy_19 rfl ?_
          refine g_iald h (i) (by assumption) (by first | omega | assumption) (by first | omega | assumption) (by first | decide | omega) dX12_holdsBy_21 ?_
          rw [hsg]
          refine g_istore h dX12_holdsBy_22 (Nat.le_of_ble_eq_true rfl) rfl rfl ?_
          refine g_iload h dX12_holdsBy_24 rfl ?_
          refine g_if_eq (tgt := 35) h dX12_holdsBy_26 (by decide) (by first | assumption | exact ⟨by omega, by omega⟩) (fun c26 => ?_) (fun c26 => ?_)
          · exfalso; omega
          · refine g_iload h dX12_holdsBy_29 rfl ?_
            refine g_iconst h dX12_holdsBy_31 ?_
            refine g_icmp_ne (tgt := 76) h dX12_holdsBy_32 (by decide) (by first | assumption | exact ⟨by omega, by omega⟩) (by first | assumption | exact ⟨by omega, by omega⟩) (fun c32 => ?_) (fun c32 => ?_)
            · refine g_iload h dX12_holdsBy_76 rfl ?_
              refine g_bipush h dX12_holdsBy_78 rfl ?_
              refine g_icmp_ne (tgt := 106) h dX12_holdsBy_80 (by decide) (by first | assumption | exact ⟨by omega, by omega⟩) (by first | assumption | exact ⟨by omega, by omega⟩) (fun c80 => ?_) (fun c80 => ?_)
              · refine g_iinc h dX12_holdsBy_106 rfl (Nat.le_of_ble_eq_true rfl) rfl rfl ?_
                refine g_aload_n h dX12_holdsBy_109 rfl ?_
                refine g_getQ h flX12_134 rfl (by assumption) (by assumption) dX12_holdsBy_110 ?_
                refine g_iload h dX12_holdsBy_113 rfl ?_
                refine g_iconst h dX12_holdsBy_115 ?_
                refine g_isub h dX12_holdsBy_116 ?_
                refine g_iald h (t3.length) (by assumption) (by first | omega | assumption) (by first | omega | assumption) (by first | decide | omega) dX12_holdsBy_117 ?_
                rw [g2]
                refine g_istore h dX12_holdsBy_118 (Nat.le_of_ble_eq_true rfl) rfl rfl ?_
                refine g_aload_n h dX12_holdsBy_120 rfl ?_
                refine g_getQ h flX12_134 rfl (by assumption) (by assumption) dX12_holdsBy_121 ?_
                refine g_iload h dX12_holdsBy_124 rfl ?_
                refine g_iald h (t3.length + 1) (by assumption) (by first | omega | assumption) (by first | omega | assumption) (by first | decide | omega) dX12_holdsBy_126 ?_
                rw [g1]
                refine g_istore h dX12_holdsBy_127 (Nat.le_of_ble_eq_true rfl) rfl rfl ?_
                refine g_iload h dX12_holdsBy_129 rfl ?_
                refine g_iconst h dX12_holdsBy_131 ?_
                refine g_icmp_ne (tgt := 150) h dX12_holdsBy_132 (by decide) (by first | assumption | exact ⟨by omega, by omega⟩) (by first | assumption | exact ⟨by omega, by omega⟩) (fun c132 => ?_) (fun c132 => ?_)
                · refine g_iload h dX12_holdsBy_150 rfl ?_
                  refine g_iconst h dX12_holdsBy_152 ?_
                  refine g_icmp_ne (tgt := 171) h dX12_holdsBy_153 (by decide) (by first | assumption | exact ⟨by omega, by omega⟩) (by first | assumption | exact ⟨by omega, by omega⟩) (fun c153 => ?_) (fun c153 => ?_)
                  · refine g_iload h dX12_holdsBy_171 rfl ?_
                    refine g_bipush h dX12_holdsBy_173 rfl ?_
                    refine g_icmp_ne (tgt := 193) h dX12_holdsBy_175 (by decide) (by first | assumption | exact ⟨by omega, by omega⟩) (by first | assumption | exact ⟨by omega, by omega⟩) (fun c175 => ?_) (fun c175 => ?_)
                    · refine g_iload h dX12_holdsBy_193 rfl ?_
                      refine g_bipush h dX12_holdsBy_195 rfl ?_
                      refine g_icmp_ne (tgt := 217) h dX12_holdsBy_197 (by decide) (by first | assumption | exact ⟨by omega, by omega⟩) (by first | assumption | exact ⟨by omega, by omega⟩) (fun c197 => ?_) (fun c197 => ?_)
                      · refine g_iload h dX12_holdsBy_217 rfl ?_
                        refine g_iload h dX12_holdsBy_219 rfl ?_
                        refine g_iadd h dX12_holdsBy_221 ?_
                        refine g_if_le (tgt := 229) h dX12_holdsBy_222 (by decide) (by first | assumption | exact ⟨by omega, by omega⟩) (fun c222 => ?_) (fun c222 => ?_)
                        · refine g_iconst h dX12_holdsBy_229 ?_
                          refine g_istore h dX12_holdsBy_230 (Nat.le_of_ble_eq_true rfl) rfl rfl ?_
                          refine g_aload_n h dX12_holdsBy_232 rfl ?_
                          refine g_getQ h flX12_134 rfl (by assumption) (by assumption) dX12_holdsBy_233 ?_
                          refine g_iload h dX12_holdsBy_236 rfl ?_
                          refine g_iconst h dX12_holdsBy_238 ?_
                          refine g_isub h dX12_holdsBy_239 ?_
                          refine g_iload h dX12_holdsBy_240 rfl ?_
                          refine g_iconst h dX12_holdsBy_242 ?_
                          refine g_icmp_ne (tgt := 254) h dX12_holdsBy_243 (by decide) (by first | assumption | exact ⟨by omega, by omega⟩) (by first | assumption | exact ⟨by omega, by omega⟩) (fun c243 => ?_) (fun c243 => ?_)
                          · refine g_iload h dX12_holdsBy_254 rfl ?_
                            refine g_iconst h dX12_holdsBy_256 ?_
                            refine g_icmp_ne (tgt := 268) h dX12_holdsBy_257 (by decide) (by first | assumption | exact ⟨by omega, by omega⟩) (by first | assumption | exact ⟨by omega, by omega⟩) (fun c257 => ?_) (fun c257 => ?_)
                            · exfalso; omega
                            · refine g_iload h dX12_holdsBy_260 rfl ?_
                              refine g_iload h dX12_holdsBy_262 rfl ?_
                              refine g_isub h dX12_holdsBy_264 ?_
                              refine g_goto (tgt := 278) h dX12_holdsBy_265 (by decide) ?_
                              refine g_iast h (t3.length) (by assumption) (by first | omega | assumption) (by first | omega | assumption) (by first | decide | omega) dX12_holdsBy_278 ?_
                              refine g_iinc h dX12_holdsBy_279 rfl (Nat.le_of_ble_eq_true rfl) rfl rfl ?_
                              refine g_goto (tgt := 6) h dX12_holdsBy_282 (by decide) ?_
                              first
                              | (exfalso; omega)
                              | (have h4 := fun x0 x1 x2 x3 => nxt (t3.length + 1) _ x0 x1 x2 x3 (MP_457 u t3.length (cJ (20045 - 20000) a b)) (by rw [upI_sR, sR_at]; exact SR_push hsr.2.2) rfl
                                 have hj : cJ (20045 - 20000) a b = a - b := by unfold cJ; (repeat first | rw [if_pos (by omega)] | rw [if_neg (by omega)])
                                 rw [hj] at h4
                                 subst htp
                                 rw [show ((t3.length + 1 + 1 : Nat) : Int) + -1 = ((t3.length + 1 : Nat) : Int) by omega]
                                 exact h4 _ _ _ _)
                          · exfalso; omega
                        · refine g_iconst h dX12_holdsBy_225 ?_
                          refine g_goto (tgt := 230) h dX12_holdsBy_226 (by decide) ?_
                          refine g_istore h dX12_holdsBy_230 (Nat.le_of_ble_eq_true rfl) rfl rfl ?_
                          refine g_aload_n h dX12_holdsBy_232 rfl ?_
                          refine g_getQ h flX12_134 rfl (by assumption) (by assumption) dX12_holdsBy_233 ?_
                          refine g_iload h dX12_holdsBy_236 rfl ?_
                          refine g_iconst h dX12_holdsBy_238 ?_
                          refine g_isub h dX12_holdsBy_239 ?_
                          refine g_iload h dX12_holdsBy_240 rfl ?_
                          refine g_iconst h dX12_holdsBy_242 ?_
                          refine g_icmp_ne (tgt := 254) h dX12_holdsBy_243 (by decide) (by first | assumption | exact ⟨by omega, by omega⟩) (by first | assumption | exact ⟨by omega, by omega⟩) (fun c243 => ?_) (fun c243 => ?_)
                          · refine g_iload h dX12_holdsBy_254 rfl ?_
                            refine g_iconst h dX12_holdsBy_256 ?_
                            refine g_icmp_ne (tgt := 268) h dX12_holdsBy_257 (by decide) (by first | assumption | exact ⟨by omega, by omega⟩) (by first | assumption | exact ⟨by omega, by omega⟩) (fun c257 => ?_) (fun c257 => ?_)
                            · exfalso; omega
                            · refine g_iload h dX12_holdsBy_260 rfl ?_
                              refine g_iload h dX12_holdsBy_262 rfl ?_
                              refine g_isub h dX12_holdsBy_264 ?_
                              refine g_goto (tgt := 278) h dX12_holdsBy_265 (by decide) ?_
                              refine g_iast h (t3.length) (by assumption) (by first | omega | assumption) (by first | omega | assumption) (by first | decide | omega) dX12_holdsBy_278 ?_
                              refine g_iinc h dX12_holdsBy_279 rfl (Nat.le_of_ble_eq_true rfl) rfl rfl ?_
                              refine g_goto (tgt := 6) h dX12_holdsBy_282 (by decide) ?_
                              first
                              | (exfalso; omega)
                              | (have h4 := fun x0 x1 x2 x3 => nxt (t3.length + 1) _ x0 x1 x2 x3 (MP_457 u t3.length (cJ (20045 - 20000) a b)) (by rw [upI_sR, sR_at]; exact SR_push hsr.2.2) rfl
                                 have hj : cJ (20045 - 20000) a b = a - b := by unfold cJ; (repeat first | rw [if_pos (by omega)] | rw [if_neg (by omega)])
                                 rw [hj] at h4
                                 subst htp
                                 rw [show ((t3.length + 1 + 1 : Nat) : Int) + -1 = ((t3.length + 1 : Nat) : Int) by omega]
                                 exact h4 _ _ _ _)
                          · exfalso; omega
                      · exfalso; omega
                    · exfalso; omega
                  · exfalso; omega
                · exfalso; omega
              · exfalso; omega
            · exfalso; omega
      · -- sign 20060
        obtain ⟨t, rfl⟩ := tc_ff htc3 (by decide)
        obtain ⟨b, t2, m, rfl, hb, m1, m2, m3⟩ := SV_f hsv
        obtain ⟨a, t3, m4, rfl, ha, m5, m6, m7⟩ := SV_f m3
        have hcS : evS (nmM w L np rn sn hi) 20060 (b :: a :: t3) = cJ (20060 - 20000) a b :: t3 := evS_2 (by decide) (by decide)
        rw [hcS] at nxt
        simp only [List.length_cons] at htp hsl
        have g1 : u.2.1 457 (t3.length + 1) = b := hsr.1
        have g2 : u.2.1 457 t3.length = a := hsr.2.1
        refine g_iload h dX12_holdsBy_6 rfl ?_
        refine g_aload_n h dX12_holdsBy_8 rfl ?_
        refine g_getIN h flX12_382 rfl (by assumption) dX12_holdsBy_9 ?_
        rw [e6]
        refine g_icmp_ge (tgt := 285) h dX12_holdsBy_12 (by decide) (by first | assumption | exact ⟨by omega, by omega⟩) (by first | assumption | exact ⟨by omega, by omega⟩) (fun c12 => ?_) (fun c12 => ?_)
        · exfalso; omega
        · refine g_aload_n h dX12_holdsBy_15 rfl ?_
          refine g_getQN h flX12_464 rfl (by assumption) (by assumption) dX12_holdsBy_16 ?_
          refine g_iload h dX12_holdsBy_19 rfl ?_
          refine g_iald h (i) (by assumption) (by first | omega | assumption) (by first | omega | assumption) (by first | decide | omega) dX12_holdsBy_21 ?_
          rw [hsg]
          refine g_istore h dX12_holdsBy_22 (Nat.le_of_ble_eq_true rfl) rfl rfl ?_
          refine g_iload h dX12_holdsBy_24 rfl ?_
          refine g_if_eq (tgt := 35) h dX12_holdsBy_26 (by decide) (by first | assumption | exact ⟨by omega, by omega⟩) (fun c26 => ?_) (fun c26 => ?_)
          · exfalso; omega
          · refine g_iload h dX12_holdsBy_29 rfl ?_
            refine g_iconst h dX12_holdsBy_31 ?_
            refine g_icmp_ne (tgt := 76) h dX12_holdsBy_32 (by decide) (by first | assumption | exact ⟨by omega, by omega⟩) (by first | assumption | exact ⟨by omega, by omega⟩) (fun c32 => ?_) (fun c32 => ?_)
            · refine g_iload h dX12_holdsBy_76 rfl ?_
              refine g_bipush h dX12_holdsBy_78 rfl ?_
              refine g_icmp_ne (tgt := 106) h dX12_holdsBy_80 (by decide) (by first | assumption | exact ⟨by omega, by omega⟩) (by first | assumption | exact ⟨by omega, by omega⟩) (fun c80 => ?_) (fun c80 => ?_)
              · refine g_iinc h dX12_holdsBy_106 rfl (Nat.le_of_ble_eq_true rfl) rfl rfl ?_
                refine g_aload_n h dX12_holdsBy_109 rfl ?_
                refine g_getQ h flX12_134 rfl (by assumption) (by assumption) dX12_holdsBy_110 ?_
                refine g_iload h dX12_holdsBy_113 rfl ?_
                refine g_iconst h dX12_holdsBy_115 ?_
                refine g_isub h dX12_holdsBy_116 ?_
                refine g_iald h (t3.length) (by assumption) (by first | omega | assumption) (by first | omega | assumption) (by first | decide | omega) dX12_holdsBy_117 ?_
                rw [g2]
                refine g_istore h dX12_holdsBy_118 (Nat.le_of_ble_eq_true rfl) rfl rfl ?_
                refine g_aload_n h dX12_holdsBy_120 rfl ?_
                refine g_getQ h flX12_134 rfl (by assumption) (by assumption) dX12_holdsBy_121 ?_
                refine g_iload h dX12_holdsBy_124 rfl ?_
                refine g_iald h (t3.length + 1) (by assumption) (by first | omega | assumption) (by first | omega | assumption) (by first | decide | omega) dX12_holdsBy_126 ?_
                rw [g1]
                refine g_istore h dX12_holdsBy_127 (Nat.le_of_ble_eq_true rfl) rfl rfl ?_
                refine g_iload h dX12_holdsBy_129 rfl ?_
                refine g_iconst h dX12_holdsBy_131 ?_
                refine g_icmp_ne (tgt := 150) h dX12_holdsBy_132 (by decide) (by first | assumption | exact ⟨by omega, by omega⟩) (by first | assumption | exact ⟨by omega, by omega⟩) (fun c132 => ?_) (fun c132 => ?_)
                · exfalso; omega
                · refine g_iload h dX12_holdsBy_135 rfl ?_
                  refine g_iload h dX12_holdsBy_137 rfl ?_
                  refine g_icmp_ge (tgt := 146) h dX12_holdsBy_139 (by decide) (by first | assumption | exact ⟨by omega, by omega⟩) (by first | assumption | exact ⟨by omega, by omega⟩) (fun c139 => ?_) (fun c139 => ?_)
                  · refine g_iconst h dX12_holdsBy_146 ?_
                    refine g_goto (tgt := 230) h dX12_holdsBy_147 (by decide) ?_
                    refine g_istore h dX12_holdsBy_230 (Nat.le_of_ble_eq_true rfl) rfl rfl ?_
                    refine g_aload_n h dX12_holdsBy_232 rfl ?_
                    refine g_getQ h flX12_134 rfl (by assumption) (by assumption) dX12_holdsBy_233 ?_
                    refine g_iload h dX12_holdsBy_236 rfl ?_
                    refine g_iconst h dX12_holdsBy_238 ?_
                    refine g_isub h dX12_holdsBy_239 ?_
                    refine g_iload h dX12_holdsBy_240 rfl ?_
                    refine g_iconst h dX12_holdsBy_242 ?_
                    refine g_icmp_ne (tgt := 254) h dX12_holdsBy_243 (by decide) (by first | assumption | exact ⟨by omega, by omega⟩) (by first | assumption | exact ⟨by omega, by omega⟩) (fun c243 => ?_) (fun c243 => ?_)
                    · refine g_iload h dX12_holdsBy_254 rfl ?_
                      refine g_iconst h dX12_holdsBy_256 ?_
                      refine g_icmp_ne (tgt := 268) h dX12_holdsBy_257 (by decide) (by first | assumption | exact ⟨by omega, by omega⟩) (by first | assumption | exact ⟨by omega, by omega⟩) (fun c257 => ?_) (fun c257 => ?_)
                      · refine g_iload h dX12_holdsBy_268 rfl ?_
                        refine g_if_eq (tgt := 277) h dX12_holdsBy_270 (by decide) (by first | assumption | exact ⟨by omega, by omega⟩) (fun c270 => ?_) (fun c270 => ?_)
                        · refine g_iconst h dX12_holdsBy_277 ?_
                          refine g_iast h (t3.length) (by assumption) (by first | omega | assumption) (by first | omega | assumption) (by first | decide | omega) dX12_holdsBy_278 ?_
                          refine g_iinc h dX12_holdsBy_279 rfl (Nat.le_of_ble_eq_true rfl) rfl rfl ?_
                          refine g_goto (tgt := 6) h dX12_holdsBy_282 (by decide) ?_
                          first
                          | (exfalso; omega)
                          | (have h4 := fun x0 x1 x2 x3 => nxt (t3.length + 1) _ x0 x1 x2 x3 (MP_457 u t3.length (cJ (20060 - 20000) a b)) (by rw [upI_sR, sR_at]; exact SR_push hsr.2.2) rfl
                             have hj : cJ (20060 - 20000) a b = 0 := by unfold cJ; (repeat first | rw [if_pos (by omega)] | rw [if_neg (by omega)])
                             rw [hj] at h4
                             subst htp
                             rw [show ((t3.length + 1 + 1 : Nat) : Int) + -1 = ((t3.length + 1 : Nat) : Int) by omega]
                             exact h4 _ _ _ _)
                        · refine g_iconst h dX12_holdsBy_273 ?_
                          refine g_goto (tgt := 278) h dX12_holdsBy_274 (by decide) ?_
                          refine g_iast h (t3.length) (by assumption) (by first | omega | assumption) (by first | omega | assumption) (by first | decide | omega) dX12_holdsBy_278 ?_
                          refine g_iinc h dX12_holdsBy_279 rfl (Nat.le_of_ble_eq_true rfl) rfl rfl ?_
                          refine g_goto (tgt := 6) h dX12_holdsBy_282 (by decide) ?_
                          first
                          | (exfalso; omega)
                          | (have h4 := fun x0 x1 x2 x3 => nxt (t3.length + 1) _ x0 x1 x2 x3 (MP_457 u t3.length (cJ (20060 - 20000) a b)) (by rw [upI_sR, sR_at]; exact SR_push hsr.2.2) rfl
                             have hj : cJ (20060 - 20000) a b = 1 := by unfold cJ; (repeat first | rw [if_pos (by omega)] | rw [if_neg (by omega)])
                             rw [hj] at h4
                             subst htp
                             rw [show ((t3.length + 1 + 1 : Nat) : Int) + -1 = ((t3.length + 1 : Nat) : Int) by omega]
                             exact h4 _ _ _ _)
                      · exfalso; omega
                    · exfalso; omega
                  · refine g_iconst h dX12_holdsBy_142 ?_
                    refine g_goto (tgt := 230) h dX12_holdsBy_143 (by decide) ?_
                    refine g_istore h dX12_holdsBy_230 (Nat.le_of_ble_eq_true rfl) rfl rfl ?_
                    refine g_aload_n h dX12_holdsBy_232 rfl ?_
                    refine g_getQ h flX12_134 rfl (by assumption) (by assumption) dX12_holdsBy_233 ?_
                    refine g_iload h dX12_holdsBy_236 rfl ?_
                    refine g_iconst h dX12_holdsBy_238 ?_
                    refine g_isub h dX12_holdsBy_239 ?_
                    refine g_iload h dX12_holdsBy_240 rfl ?_
                    refine g_iconst h dX12_holdsBy_242 ?_
                    refine g_icmp_ne (tgt := 254) h dX12_holdsBy_243 (by decide) (by first | assumption | exact ⟨by omega, by omega⟩) (by first | assumption | exact ⟨by omega, by omega⟩) (fun c243 => ?_) (fun c243 => ?_)
                    · refine g_iload h dX12_holdsBy_254 rfl ?_
                      refine g_iconst h dX12_holdsBy_256 ?_
                      refine g_icmp_ne (tgt := 268) h dX12_holdsBy_257 (by decide) (by first | assumption | exact ⟨by omega, by omega⟩) (by first | assumption | exact ⟨by omega, by omega⟩) (fun c257 => ?_) (fun c257 => ?_)
                      · refine g_iload h dX12_holdsBy_268 rfl ?_
                        refine g_if_eq (tgt := 277) h dX12_holdsBy_270 (by decide) (by first | assumption | exact ⟨by omega, by omega⟩) (fun c270 => ?_) (fun c270 => ?_)
                        · refine g_iconst h dX12_holdsBy_277 ?_
                          refine g_iast h (t3.length) (by assumption) (by first | omega | assumption) (by first | omega | assumption) (by first | decide | omega) dX12_holdsBy_278 ?_
                          refine g_iinc h dX12_holdsBy_279 rfl (Nat.le_of_ble_eq_true rfl) rfl rfl ?_
                          refine g_goto (tgt := 6) h dX12_holdsBy_282 (by decide) ?_
                          first
                          | (exfalso; omega)
                          | (have h4 := fun x0 x1 x2 x3 => nxt (t3.length + 1) _ x0 x1 x2 x3 (MP_457 u t3.length (cJ (20060 - 20000) a b)) (by rw [upI_sR, sR_at]; exact SR_push hsr.2.2) rfl
                             have hj : cJ (20060 - 20000) a b = 0 := by unfold cJ; (repeat first | rw [if_pos (by omega)] | rw [if_neg (by omega)])
                             rw [hj] at h4
                             subst htp
                             rw [show ((t3.length + 1 + 1 : Nat) : Int) + -1 = ((t3.length + 1 : Nat) : Int) by omega]
                             exact h4 _ _ _ _)
                        · refine g_iconst h dX12_holdsBy_273 ?_
                          refine g_goto (tgt := 278) h dX12_holdsBy_274 (by decide) ?_
                          refine g_iast h (t3.length) (by assumption) (by first | omega | assumption) (by first | omega | assumption) (by first | decide | omega) dX12_holdsBy_278 ?_
                          refine g_iinc h dX12_holdsBy_279 rfl (Nat.le_of_ble_eq_true rfl) rfl rfl ?_
                          refine g_goto (tgt := 6) h dX12_holdsBy_282 (by decide) ?_
                          first
                          | (exfalso; omega)
                          | (have h4 := fun x0 x1 x2 x3 => nxt (t3.length + 1) _ x0 x1 x2 x3 (MP_457 u t3.length (cJ (20060 - 20000) a b)) (by rw [upI_sR, sR_at]; exact SR_push hsr.2.2) rfl
                             have hj : cJ (20060 - 20000) a b = 1 := by unfold cJ; (repeat first | rw [if_pos (by omega)] | rw [if_neg (by omega)])
                             rw [hj] at h4
                             subst htp
                             rw [show ((t3.length + 1 + 1 : Nat) : Int) + -1 = ((t3.length + 1 : Nat) : Int) by omega]
                             exact h4 _ _ _ _)
                      · exfalso; omega
                    · exfalso; omega
              · exfalso; omega
            · exfalso; omega
      · -- sign 20062
        obtain ⟨t, rfl⟩ := tc_ff htc3 (by decide)
        obtain ⟨b, t2, m, rfl, hb, m1, m2, m3⟩ := SV_f hsv
        obtain ⟨a, t3, m4, rfl, ha, m5, m6, m7⟩ := SV_f m3
        have hcS : evS (nmM w L np rn sn hi) 20062 (b :: a :: t3) = cJ (20062 - 20000) a b :: t3 := evS_2 (by decide) (by decide)
        rw [hcS] at nxt
        simp only [List.length_cons] at htp hsl
        have g1 : u.2.1 457 (t3.length + 1) = b := hsr.1
        have g2 : u.2.1 457 t3.length = a := hsr.2.1
        refine g_iload h dX12_holdsBy_6 rfl ?_
        refine g_aload_n h dX12_holdsBy_8 rfl ?_
        refine g_getIN h flX12_382 rfl (by assumption) dX12_holdsBy_9 ?_
        rw [e6]
        refine g_icmp_ge (tgt := 285) h dX12_holdsBy_12 (by decide) (by first | assumption | exact ⟨by omega, by omega⟩) (by first | assumption | exact ⟨by omega, by omega⟩) (fun c12 => ?_) (fun c12 => ?_)
        · exfalso; omega
        · refine g_aload_n h dX12_holdsBy_15 rfl ?_
          refine g_getQN h flX12_464 rfl (by assumption) (by assumption) dX12_holdsBy_16 ?_
          refine g_iload h dX12_holdsBy_19 rfl ?_
          refine g_iald h (i) (by assumption) (by first | omega | assumption) (by first | omega | assumption) (by first | decide | omega) dX12_holdsBy_21 ?_
          rw [hsg]
          refine g_istore h dX12_holdsBy_22 (Nat.le_of_ble_eq_true rfl) rfl rfl ?_
          refine g_iload h dX12_holdsBy_24 rfl ?_
          refine g_if_eq (tgt := 35) h dX12_holdsBy_26 (by decide) (by first | assumption | exact ⟨by omega, by omega⟩) (fun c26 => ?_) (fun c26 => ?_)
          · exfalso; omega
          · refine g_iload h dX12_holdsBy_29 rfl ?_
            refine g_iconst h dX12_holdsBy_31 ?_
            refine g_icmp_ne (tgt := 76) h dX12_holdsBy_32 (by decide) (by first | assumption | exact ⟨by omega, by omega⟩) (by first | assumption | exact ⟨by omega, by omega⟩) (fun c32 => ?_) (fun c32 => ?_)
            · refine g_iload h dX12_holdsBy_76 rfl ?_
              refine g_bipush h dX12_holdsBy_78 rfl ?_
              refine g_icmp_ne (tgt := 106) h dX12_holdsBy_80 (by decide) (by first | assumption | exact ⟨by omega, by omega⟩) (by first | assumption | exact ⟨by omega, by omega⟩) (fun c80 => ?_) (fun c80 => ?_)
              · refine g_iinc h dX12_holdsBy_106 rfl (Nat.le_of_ble_eq_true rfl) rfl rfl ?_
                refine g_aload_n h dX12_holdsBy_109 rfl ?_
                refine g_getQ h flX12_134 rfl (by assumption) (by assumption) dX12_holdsBy_110 ?_
                refine g_iload h dX12_holdsBy_113 rfl ?_
                refine g_iconst h dX12_holdsBy_115 ?_
                refine g_isub h dX12_holdsBy_116 ?_
                refine g_iald h (t3.length) (by assumption) (by first | omega | assumption) (by first | omega | assumption) (by first | decide | omega) dX12_holdsBy_117 ?_
                rw [g2]
                refine g_istore h dX12_holdsBy_118 (Nat.le_of_ble_eq_true rfl) rfl rfl ?_
                refine g_aload_n h dX12_holdsBy_120 rfl ?_
                refine g_getQ h flX12_134 rfl (by assumption) (by assumption) dX12_holdsBy_121 ?_
                refine g_iload h dX12_holdsBy_124 rfl ?_
                refine g_iald h (t3.length + 1) (by assumption) (by first | omega | assumption) (by first | omega | assumption) (by first | decide | omega) dX12_holdsBy_126 ?_
                rw [g1]
                refine g_istore h dX12_holdsBy_127 (Nat.le_of_ble_eq_true rfl) rfl rfl ?_
                refine g_iload h dX12_holdsBy_129 rfl ?_
                refine g_iconst h dX12_holdsBy_131 ?_
                refine g_icmp_ne (tgt := 150) h dX12_holdsBy_132 (by decide) (by first | assumption | exact ⟨by omega, by omega⟩) (by first | assumption | exact ⟨by omega, by omega⟩) (fun c132 => ?_) (fun c132 => ?_)
                · refine g_iload h dX12_holdsBy_150 rfl ?_
                  refine g_iconst h dX12_holdsBy_152 ?_
                  refine g_icmp_ne (tgt := 171) h dX12_holdsBy_153 (by decide) (by first | assumption | exact ⟨by omega, by omega⟩) (by first | assumption | exact ⟨by omega, by omega⟩) (fun c153 => ?_) (fun c153 => ?_)
                  · exfalso; omega
                  · refine g_iload h dX12_holdsBy_156 rfl ?_
                    refine g_iload h dX12_holdsBy_158 rfl ?_
                    refine g_icmp_le (tgt := 167) h dX12_holdsBy_160 (by decide) (by first | assumption | exact ⟨by omega, by omega⟩) (by first | assumption | exact ⟨by omega, by omega⟩) (fun c160 => ?_) (fun c160 => ?_)
                    · refine g_iconst h dX12_holdsBy_167 ?_
                      refine g_goto (tgt := 230) h dX12_holdsBy_168 (by decide) ?_
                      refine g_istore h dX12_holdsBy_230 (Nat.le_of_ble_eq_true rfl) rfl rfl ?_
                      refine g_aload_n h dX12_holdsBy_232 rfl ?_
                      refine g_getQ h flX12_134 rfl (by assumption) (by assumption) dX12_holdsBy_233 ?_
                      refine g_iload h dX12_holdsBy_236 rfl ?_
                      refine g_iconst h dX12_holdsBy_238 ?_
                      refine g_isub h dX12_holdsBy_239 ?_
                      refine g_iload h dX12_holdsBy_240 rfl ?_
                      refine g_iconst h dX12_holdsBy_242 ?_
                      refine g_icmp_ne (tgt := 254) h dX12_holdsBy_243 (by decide) (by first | assumption | exact ⟨by omega, by omega⟩) (by first | assumption | exact ⟨by omega, by omega⟩) (fun c243 => ?_) (fun c243 => ?_)
                      · refine g_iload h dX12_holdsBy_254 rfl ?_
                        refine g_iconst h dX12_holdsBy_256 ?_
                        refine g_icmp_ne (tgt := 268) h dX12_holdsBy_257 (by decide) (by first | assumption | exact ⟨by omega, by omega⟩) (by first | assumption | exact ⟨by omega, by omega⟩) (fun c257 => ?_) (fun c257 => ?_)
                        · refine g_iload h dX12_holdsBy_268 rfl ?_
                          refine g_if_eq (tgt := 277) h dX12_holdsBy_270 (by decide) (by first | assumption | exact ⟨by omega, by omega⟩) (fun c270 => ?_) (fun c270 => ?_)
                          · refine g_iconst h dX12_holdsBy_277 ?_
                            refine g_iast h (t3.length) (by assumption) (by first | omega | assumption) (by first | omega | assumption) (by first | decide | omega) dX12_holdsBy_278 ?_
                            refine g_iinc h dX12_holdsBy_279 rfl (Nat.le_of_ble_eq_true rfl) rfl rfl ?_
                            refine g_goto (tgt := 6) h dX12_holdsBy_282 (by decide) ?_
                            first
                            | (exfalso; omega)
                            | (have h4 := fun x0 x1 x2 x3 => nxt (t3.length + 1) _ x0 x1 x2 x3 (MP_457 u t3.length (cJ (20062 - 20000) a b)) (by rw [upI_sR, sR_at]; exact SR_push hsr.2.2) rfl
                               have hj : cJ (20062 - 20000) a b = 0 := by unfold cJ; (repeat first | rw [if_pos (by omega)] | rw [if_neg (by omega)])
                               rw [hj] at h4
                               subst htp
                               rw [show ((t3.length + 1 + 1 : Nat) : Int) + -1 = ((t3.length + 1 : Nat) : Int) by omega]
                               exact h4 _ _ _ _)
                          · refine g_iconst h dX12_holdsBy_273 ?_
                            refine g_goto (tgt := 278) h dX12_holdsBy_274 (by decide) ?_
                            refine g_iast h (t3.length) (by assumption) (by first | omega | assumption) (by first | omega | assumption) (by first | decide | omega) dX12_holdsBy_278 ?_
                            refine g_iinc h dX12_holdsBy_279 rfl (Nat.le_of_ble_eq_true rfl) rfl rfl ?_
                            refine g_goto (tgt := 6) h dX12_holdsBy_282 (by decide) ?_
                            first
                            | (exfalso; omega)
                            | (have h4 := fun x0 x1 x2 x3 => nxt (t3.length + 1) _ x0 x1 x2 x3 (MP_457 u t3.length (cJ (20062 - 20000) a b)) (by rw [upI_sR, sR_at]; exact SR_push hsr.2.2) rfl
                               have hj : cJ (20062 - 20000) a b = 1 := by unfold cJ; (repeat first | rw [if_pos (by omega)] | rw [if_neg (by omega)])
                               rw [hj] at h4
                               subst htp
                               rw [show ((t3.length + 1 + 1 : Nat) : Int) + -1 = ((t3.length + 1 : Nat) : Int) by omega]
                               exact h4 _ _ _ _)
                        · exfalso; omega
                      · exfalso; omega
                    · refine g_iconst h dX12_holdsBy_163 ?_
                      refine g_goto (tgt := 230) h dX12_holdsBy_164 (by decide) ?_
                      refine g_istore h dX12_holdsBy_230 (Nat.le_of_ble_eq_true rfl) rfl rfl ?_
                      refine g_aload_n h dX12_holdsBy_232 rfl ?_
                      refine g_getQ h flX12_134 rfl (by assumption) (by assumption) dX12_holdsBy_233 ?_
                      refine g_iload h dX12_holdsBy_236 rfl ?_
                      refine g_iconst h dX12_holdsBy_238 ?_
                      refine g_isub h dX12_holdsBy_239 ?_
                      refine g_iload h dX12_holdsBy_240 rfl ?_
                      refine g_iconst h dX12_holdsBy_242 ?_
                      refine g_icmp_ne (tgt := 254) h dX12_holdsBy_243 (by decide) (by first | assumption | exact ⟨by omega, by omega⟩) (by first | assumption | exact ⟨by omega, by omega⟩) (fun c243 => ?_) (fun c243 => ?_)
                      · refine g_iload h dX12_holdsBy_254 rfl ?_
                        refine g_iconst h dX12_holdsBy_256 ?_
                        refine g_icmp_ne (tgt := 268) h dX12_holdsBy_257 (by decide) (by first | assumption | exact ⟨by omega, by omega⟩) (by first | assumption | exact ⟨by omega, by omega⟩) (fun c257 => ?_) (fun c257 => ?_)
                        · refine g_iload h dX12_holdsBy_268 rfl ?_
                          refine g_if_eq (tgt := 277) h dX12_holdsBy_270 (by decide) (by first | assumption | exact ⟨by omega, by omega⟩) (fun c270 => ?_) (fun c270 => ?_)
                          · refine g_iconst h dX12_holdsBy_277 ?_
                            refine g_iast h (t3.length) (by assumption) (by first | omega | assumption) (by first | omega | assumption) (by first | decide | omega) dX12_holdsBy_278 ?_
                            refine g_iinc h dX12_holdsBy_279 rfl (Nat.le_of_ble_eq_true rfl) rfl rfl ?_
                            refine g_goto (tgt := 6) h dX12_holdsBy_282 (by decide) ?_
                            first
                            | (exfalso; omega)
                            | (have h4 := fun x0 x1 x2 x3 => nxt (t3.length + 1) _ x0 x1 x2 x3 (MP_457 u t3.length (cJ (20062 - 20000) a b)) (by rw [upI_sR, sR_at]; exact SR_push hsr.2.2) rfl
                               have hj : cJ (20062 - 20000) a b = 0 := by unfold cJ; (repeat first | rw [if_pos (by omega)] | rw [if_neg (by omega)])
                               rw [hj] at h4
                               subst htp
                               rw [show ((t3.length + 1 + 1 : Nat) : Int) + -1 = ((t3.length + 1 : Nat) : Int) by omega]
                               exact h4 _ _ _ _)
                          · refine g_iconst h dX12_holdsBy_273 ?_
                            refine g_goto (tgt := 278) h dX12_holdsBy_274 (by decide) ?_
                            refine g_iast h (t3.length) (by assumption) (by first | omega | assumption) (by first | omega | assumption) (by first | decide | omega) dX12_holdsBy_278 ?_
                            refine g_iinc h dX12_holdsBy_279 rfl (Nat.le_of_ble_eq_true rfl) rfl rfl ?_
                            refine g_goto (tgt := 6) h dX12_holdsBy_282 (by decide) ?_
                            first
                            | (exfalso; omega)
                            | (have h4 := fun x0 x1 x2 x3 => nxt (t3.length + 1) _ x0 x1 x2 x3 (MP_457 u t3.length (cJ (20062 - 20000) a b)) (by rw [upI_sR, sR_at]; exact SR_push hsr.2.2) rfl
                               have hj : cJ (20062 - 20000) a b = 1 := by unfold cJ; (repeat first | rw [if_pos (by omega)] | rw [if_neg (by omega)])
                               rw [hj] at h4
                               subst htp
                               rw [show ((t3.length + 1 + 1 : Nat) : Int) + -1 = ((t3.length + 1 : Nat) : Int) by omega]
                               exact h4 _ _ _ _)
                        · exfalso; omega
                      · exfalso; omega
                · exfalso; omega
              · exfalso; omega
            · exfalso; omega
      · -- sign 20061
        obtain ⟨t, rfl⟩ := tc_ff htc3 (by decide)
        obtain ⟨b, t2, m, rfl, hb, m1, m2, m3⟩ := SV_f hsv
        obtain ⟨a, t3, m4, rfl, ha, m5, m6, m7⟩ := SV_f m3
        have hcS : evS (nmM w L np rn sn hi) 20061 (b :: a :: t3) = cJ (20061 - 20000) a b :: t3 := evS_2 (by decide) (by decide)
        rw [hcS] at nxt
        simp only [List.length_cons] at htp hsl
        have g1 : u.2.1 457 (t3.length + 1) = b := hsr.1
        have g2 : u.2.1 457 t3.length = a := hsr.2.1
        refine g_iload h dX12_holdsBy_6 rfl ?_
        refine g_aload_n h dX12_holdsBy_8 rfl ?_
        refine g_getIN h flX12_382 rfl (by assumption) dX12_holdsBy_9 ?_
        rw [e6]
        refine g_icmp_ge (tgt := 285) h dX12_holdsBy_12 (by decide) (by first | assumption | exact ⟨by omega, by omega⟩) (by first | assumption | exact ⟨by omega, by omega⟩) (fun c12 => ?_) (fun c12 => ?_)
        · exfalso; omega
        · refine g_aload_n h dX12_holdsBy_15 rfl ?_
          refine g_getQN h flX12_464 rfl (by assumption) (by assumption) dX12_holdsBy_16 ?_
          refine g_iload h dX12_holdsBy_19 rfl ?_
          refine g_iald h (i) (by assumption) (by first | omega | assumption) (by first | omega | assumption) (by first | decide | omega) dX12_holdsBy_21 ?_
          rw [hsg]
          refine g_istore h dX12_holdsBy_22 (Nat.le_of_ble_eq_true rfl) rfl rfl ?_
          refine g_iload h dX12_holdsBy_24 rfl ?_
          refine g_if_eq (tgt := 35) h dX12_holdsBy_26 (by decide) (by first | assumption | exact ⟨by omega, by omega⟩) (fun c26 => ?_) (fun c26 => ?_)
          · exfalso; omega
          · refine g_iload h dX12_holdsBy_29 rfl ?_
            refine g_iconst h dX12_holdsBy_31 ?_
            refine g_icmp_ne (tgt := 76) h dX12_holdsBy_32 (by decide) (by first | assumption | exact ⟨by omega, by omega⟩) (by first | assumption | exact ⟨by omega, by omega⟩) (fun c32 => ?_) (fun c32 => ?_)
            · refine g_iload h dX12_holdsBy_76 rfl ?_
              refine g_bipush h dX12_holdsBy_78 rfl ?_
              refine g_icmp_ne (tgt := 106) h dX12_holdsBy_80 (by decide) (by first | assumption | exact ⟨by omega, by omega⟩) (by first | assumption | exact ⟨by omega, by omega⟩) (fun c80 => ?_) (fun c80 => ?_)
              · refine g_iinc h dX12_holdsBy_106 rfl (Nat.le_of_ble_eq_true rfl) rfl rfl ?_
                refine g_aload_n h dX12_holdsBy_109 rfl ?_
                refine g_getQ h flX12_134 rfl (by assumption) (by assumption) dX12_holdsBy_110 ?_
                refine g_iload h dX12_holdsBy_113 rfl ?_
                refine g_iconst h dX12_holdsBy_115 ?_
                refine g_isub h dX12_holdsBy_116 ?_
                refine g_iald h (t3.length) (by assumption) (by first | omega | assumption) (by first | omega | assumption) (by first | decide | omega) dX12_holdsBy_117 ?_
                rw [g2]
                refine g_istore h dX12_holdsBy_118 (Nat.le_of_ble_eq_true rfl) rfl rfl ?_
                refine g_aload_n h dX12_holdsBy_120 rfl ?_
                refine g_getQ h flX12_134 rfl (by assumption) (by assumption) dX12_holdsBy_121 ?_
                refine g_iload h dX12_holdsBy_124 rfl ?_
                refine g_iald h (t3.length + 1) (by assumption) (by first | omega | assumption) (by first | omega | assumption) (by first | decide | omega) dX12_holdsBy_126 ?_
                rw [g1]
                refine g_istore h dX12_holdsBy_127 (Nat.le_of_ble_eq_true rfl) rfl rfl ?_
                refine g_iload h dX12_holdsBy_129 rfl ?_
                refine g_iconst h dX12_holdsBy_131 ?_
                refine g_icmp_ne (tgt := 150) h dX12_holdsBy_132 (by decide) (by first | assumption | exact ⟨by omega, by omega⟩) (by first | assumption | exact ⟨by omega, by omega⟩) (fun c132 => ?_) (fun c132 => ?_)
                · refine g_iload h dX12_holdsBy_150 rfl ?_
                  refine g_iconst h dX12_holdsBy_152 ?_
                  refine g_icmp_ne (tgt := 171) h dX12_holdsBy_153 (by decide) (by first | assumption | exact ⟨by omega, by omega⟩) (by first | assumption | exact ⟨by omega, by omega⟩) (fun c153 => ?_) (fun c153 => ?_)
                  · refine g_iload h dX12_holdsBy_171 rfl ?_
                    refine g_bipush h dX12_holdsBy_173 rfl ?_
                    refine g_icmp_ne (tgt := 193) h dX12_holdsBy_175 (by decide) (by first | assumption | exact ⟨by omega, by omega⟩) (by first | assumption | exact ⟨by omega, by omega⟩) (fun c175 => ?_) (fun c175 => ?_)
                    · exfalso; omega
                    · refine g_iload h dX12_holdsBy_178 rfl ?_
                      refine g_iload h dX12_holdsBy_180 rfl ?_
                      refine g_icmp_ne (tgt := 189) h dX12_holdsBy_182 (by decide) (by first | assumption | exact ⟨by omega, by omega⟩) (by first | assumption | exact ⟨by omega, by omega⟩) (fun c182 => ?_) (fun c182 => ?_)
                      · refine g_iconst h dX12_holdsBy_189 ?_
                        refine g_goto (tgt := 230) h dX12_holdsBy_190 (by decide) ?_
                        refine g_istore h dX12_holdsBy_230 (Nat.le_of_ble_eq_true rfl) rfl rfl ?_
                        refine g_aload_n h dX12_holdsBy_232 rfl ?_
                        refine g_getQ h flX12_134 rfl (by assumption) (by assumption) dX12_holdsBy_233 ?_
                        refine g_iload h dX12_holdsBy_236 rfl ?_
                        refine g_iconst h dX12_holdsBy_238 ?_
                        refine g_isub h dX12_holdsBy_239 ?_
                        refine g_iload h dX12_holdsBy_240 rfl ?_
                        refine g_iconst h dX12_holdsBy_242 ?_
                        refine g_icmp_ne (tgt := 254) h dX12_holdsBy_243 (by decide) (by first | assumption | exact ⟨by omega, by omega⟩) (by first | assumption | exact ⟨by omega, by omega⟩) (fun c243 => ?_) (fun c243 => ?_)
                        · refine g_iload h dX12_holdsBy_254 rfl ?_
                          refine g_iconst h dX12_holdsBy_256 ?_
                          refine g_icmp_ne (tgt := 268) h dX12_holdsBy_257 (by decide) (by first | assumption | exact ⟨by omega, by omega⟩) (by first | assumption | exact ⟨by omega, by omega⟩) (fun c257 => ?_) (fun c257 => ?_)
                          · refine g_iload h dX12_holdsBy_268 rfl ?_
                            refine g_if_eq (tgt := 277) h dX12_holdsBy_270 (by decide) (by first | assumption | exact ⟨by omega, by omega⟩) (fun c270 => ?_) (fun c270 => ?_)
                            · refine g_iconst h dX12_holdsBy_277 ?_
                              refine g_iast h (t3.length) (by assumption) (by first | omega | assumption) (by first | omega | assumption) (by first | decide | omega) dX12_holdsBy_278 ?_
                              refine g_iinc h dX12_holdsBy_279 rfl (Nat.le_of_ble_eq_true rfl) rfl rfl ?_
                              refine g_goto (tgt := 6) h dX12_holdsBy_282 (by decide) ?_
                              first
                              | (exfalso; omega)
                              | (have h4 := fun x0 x1 x2 x3 => nxt (t3.length + 1) _ x0 x1 x2 x3 (MP_457 u t3.length (cJ (20061 - 20000) a b)) (by rw [upI_sR, sR_at]; exact SR_push hsr.2.2) rfl
                                 have hj : cJ (20061 - 20000) a b = 0 := by unfold cJ; (repeat first | rw [if_pos (by omega)] | rw [if_neg (by omega)])
                                 rw [hj] at h4
                                 subst htp
                                 rw [show ((t3.length + 1 + 1 : Nat) : Int) + -1 = ((t3.length + 1 : Nat) : Int) by omega]
                                 exact h4 _ _ _ _)
                            · refine g_iconst h dX12_holdsBy_273 ?_
                              refine g_goto (tgt := 278) h dX12_holdsBy_274 (by decide) ?_
                              refine g_iast h (t3.length) (by assumption) (by first | omega | assumption) (by first | omega | assumption) (by first | decide | omega) dX12_holdsBy_278 ?_
                              refine g_iinc h dX12_holdsBy_279 rfl (Nat.le_of_ble_eq_true rfl) rfl rfl ?_
                              refine g_goto (tgt := 6) h dX12_holdsBy_282 (by decide) ?_
                              first
                              | (exfalso; omega)
                              | (have h4 := fun x0 x1 x2 x3 => nxt (t3.length + 1) _ x0 x1 x2 x3 (MP_457 u t3.length (cJ (20061 - 20000) a b)) (by rw [upI_sR, sR_at]; exact SR_push hsr.2.2) rfl
                                 have hj : cJ (20061 - 20000) a b = 1 := by unfold cJ; (repeat first | rw [if_pos (by omega)] | rw [if_neg (by omega)])
                                 rw [hj] at h4
                                 subst htp
                                 rw [show ((t3.length + 1 + 1 : Nat) : Int) + -1 = ((t3.length + 1 : Nat) : Int) by omega]
                                 exact h4 _ _ _ _)
                          · exfalso; omega
                        · exfalso; omega
                      · refine g_iconst h dX12_holdsBy_185 ?_
                        refine g_goto (tgt := 230) h dX12_holdsBy_186 (by decide) ?_
                        refine g_istore h dX12_holdsBy_230 (Nat.le_of_ble_eq_true rfl) rfl rfl ?_
                        refine g_aload_n h dX12_holdsBy_232 rfl ?_
                        refine g_getQ h flX12_134 rfl (by assumption) (by assumption) dX12_holdsBy_233 ?_
                        refine g_iload h dX12_holdsBy_236 rfl ?_
                        refine g_iconst h dX12_holdsBy_238 ?_
                        refine g_isub h dX12_holdsBy_239 ?_
                        refine g_iload h dX12_holdsBy_240 rfl ?_
                        refine g_iconst h dX12_holdsBy_242 ?_
                        refine g_icmp_ne (tgt := 254) h dX12_holdsBy_243 (by decide) (by first | assumption | exact ⟨by omega, by omega⟩) (by first | assumption | exact ⟨by omega, by omega⟩) (fun c243 => ?_) (fun c243 => ?_)
                        · refine g_iload h dX12_holdsBy_254 rfl ?_
                          refine g_iconst h dX12_holdsBy_256 ?_
                          refine g_icmp_ne (tgt := 268) h dX12_holdsBy_257 (by decide) (by first | assumption | exact ⟨by omega, by omega⟩) (by first | assumption | exact ⟨by omega, by omega⟩) (fun c257 => ?_) (fun c257 => ?_)
                          · refine g_iload h dX12_holdsBy_268 rfl ?_
                            refine g_if_eq (tgt := 277) h dX12_holdsBy_270 (by decide) (by first | assumption | exact ⟨by omega, by omega⟩) (fun c270 => ?_) (fun c270 => ?_)
                            · refine g_iconst h dX12_holdsBy_277 ?_
                              refine g_iast h (t3.length) (by assumption) (by first | omega | assumption) (by first | omega | assumption) (by first | decide | omega) dX12_holdsBy_278 ?_
                              refine g_iinc h dX12_holdsBy_279 rfl (Nat.le_of_ble_eq_true rfl) rfl rfl ?_
                              refine g_goto (tgt := 6) h dX12_holdsBy_282 (by decide) ?_
                              first
                              | (exfalso; omega)
                              | (have h4 := fun x0 x1 x2 x3 => nxt (t3.length + 1) _ x0 x1 x2 x3 (MP_457 u t3.length (cJ (20061 - 20000) a b)) (by rw [upI_sR, sR_at]; exact SR_push hsr.2.2) rfl
                                 have hj : cJ (20061 - 20000) a b = 0 := by unfold cJ; (repeat first | rw [if_pos (by omega)] | rw [if_neg (by omega)])
                                 rw [hj] at h4
                                 subst htp
                                 rw [show ((t3.length + 1 + 1 : Nat) : Int) + -1 = ((t3.length + 1 : Nat) : Int) by omega]
                                 exact h4 _ _ _ _)
                            · refine g_iconst h dX12_holdsBy_273 ?_
                              refine g_goto (tgt := 278) h dX12_holdsBy_274 (by decide) ?_
                              refine g_iast h (t3.length) (by assumption) (by first | omega | assumption) (by first | omega | assumption) (by first | decide | omega) dX12_holdsBy_278 ?_
                              refine g_iinc h dX12_holdsBy_279 rfl (Nat.le_of_ble_eq_true rfl) rfl rfl ?_
                              refine g_goto (tgt := 6) h dX12_holdsBy_282 (by decide) ?_
                              first
                              | (exfalso; omega)
                              | (have h4 := fun x0 x1 x2 x3 => nxt (t3.length + 1) _ x0 x1 x2 x3 (MP_457 u t3.length (cJ (20061 - 20000) a b)) (by rw [upI_sR, sR_at]; exact SR_push hsr.2.2) rfl
                                 have hj : cJ (20061 - 20000) a b = 1 := by unfold cJ; (repeat first | rw [if_pos (by omega)] | rw [if_neg (by omega)])
                                 rw [hj] at h4
                                 subst htp
                                 rw [show ((t3.length + 1 + 1 : Nat) : Int) + -1 = ((t3.length + 1 : Nat) : Int) by omega]
                                 exact h4 _ _ _ _)
                          · exfalso; omega
                        · exfalso; omega
                  · exfalso; omega
                · exfalso; omega
              · exfalso; omega
            · exfalso; omega
      · -- not
        obtain ⟨t, rfl⟩ := tc_t htc3
        obtain ⟨v, t2, m, rfl, hv, m1, m2, m3⟩ := SV_t hsv
        have hcS : evS (nmM w L np rn sn hi) 20033 (v :: t2) = (1 - v) :: t2 := evS_n
        rw [hcS] at nxt
        simp only [List.length_cons] at htp hsl
        have g1 : u.2.1 457 t2.length = v := hsr.1
        refine g_iload h dX12_holdsBy_6 rfl ?_
        refine g_aload_n h dX12_holdsBy_8 rfl ?_
        refine g_getIN h flX12_382 rfl (by assumption) dX12_holdsBy_9 ?_
        rw [e6]
        refine g_icmp_ge (tgt := 285) h dX12_holdsBy_12 (by decide) (by first | assumption | exact ⟨by omega, by omega⟩) (by first | assumption | exact ⟨by omega, by omega⟩) (fun c12 => ?_) (fun c12 => ?_)
        · exfalso; omega
        · refine g_aload_n h dX12_holdsBy_15 rfl ?_
          refine g_getQN h flX12_464 rfl (by assumption) (by assumption) dX12_holdsBy_16 ?_
          refine g_iload h dX12_holdsBy_19 rfl ?_
          refine g_iald h (i) (by assumption) (by first | omega | assumption) (by first | omega | assumption) (by first | decide | omega) dX12_holdsBy_21 ?_
          rw [hsg]
          refine g_istore h dX12_holdsBy_22 (Nat.le_of_ble_eq_true rfl) rfl rfl ?_
          refine g_iload h dX12_holdsBy_24 rfl ?_
          refine g_if_eq (tgt := 35) h dX12_holdsBy_26 (by decide) (by first | assumption | exact ⟨by omega, by omega⟩) (fun c26 => ?_) (fun c26 => ?_)
          · exfalso; omega
          · refine g_iload h dX12_holdsBy_29 rfl ?_
            refine g_iconst h dX12_holdsBy_31 ?_
            refine g_icmp_ne (tgt := 76) h dX12_holdsBy_32 (by decide) (by first | assumption | exact ⟨by omega, by omega⟩) (by first | assumption | exact ⟨by omega, by omega⟩) (fun c32 => ?_) (fun c32 => ?_)
            · refine g_iload h dX12_holdsBy_76 rfl ?_
              refine g_bipush h dX12_holdsBy_78 rfl ?_
              refine g_icmp_ne (tgt := 106) h dX12_holdsBy_80 (by decide) (by first | assumption | exact ⟨by omega, by omega⟩) (by first | assumption | exact ⟨by omega, by omega⟩) (fun c80 => ?_) (fun c80 => ?_)
              · exfalso; omega
              · refine g_aload_n h dX12_holdsBy_83 rfl ?_
                refine g_getQ h flX12_134 rfl (by assumption) (by assumption) dX12_holdsBy_84 ?_
                refine g_iload h dX12_holdsBy_87 rfl ?_
                refine g_iconst h dX12_holdsBy_89 ?_
                refine g_isub h dX12_holdsBy_90 ?_
                refine g_iconst h dX12_holdsBy_91 ?_
                refine g_aload_n h dX12_holdsBy_92 rfl ?_
                refine g_getQ h flX12_134 rfl (by assumption) (by assumption) dX12_holdsBy_93 ?_
                refine g_iload h dX12_holdsBy_96 rfl ?_
                refine g_iconst h dX12_holdsBy_98 ?_
                refine g_isub h dX12_holdsBy_99 ?_
                refine g_iald h (t2.length) (by assumption) (by first | omega | assumption) (by first | omega | assumption) (by first | decide | omega) dX12_holdsBy_100 ?_
                rw [g1]
                refine g_isub h dX12_holdsBy_101 ?_
                refine g_iast h (t2.length) (by assumption) (by first | omega | assumption) (by first | omega | assumption) (by first | decide | omega) dX12_holdsBy_102 ?_
                refine g_goto (tgt := 279) h dX12_holdsBy_103 (by decide) ?_
                refine g_iinc h dX12_holdsBy_279 rfl (Nat.le_of_ble_eq_true rfl) rfl rfl ?_
                refine g_goto (tgt := 6) h dX12_holdsBy_282 (by decide) ?_
                exact nxt tp _ _ x1 x2 x3 (MP_457 u _ _) (by rw [upI_sR, sR_at]; exact SR_push hsr.2) (by rw [htp]; rfl)
            · exfalso; omega
      · -- sign 20038
        obtain ⟨t, rfl⟩ := tc_tt htc3 (by decide)
        obtain ⟨b, t2, m, rfl, hb, m1, m2, m3⟩ := SV_t hsv
        obtain ⟨a, t3, m4, rfl, ha, m5, m6, m7⟩ := SV_t m3
        have hcS : evS (nmM w L np rn sn hi) 20038 (b :: a :: t3) = cJ (20038 - 20000) a b :: t3 := evS_2 (by decide) (by decide)
        rw [hcS] at nxt
        simp only [List.length_cons] at htp hsl
        have g1 : u.2.1 457 (t3.length + 1) = b := hsr.1
        have g2 : u.2.1 457 t3.length = a := hsr.2.1
        refine g_iload h dX12_holdsBy_6 rfl ?_
        refine g_aload_n h dX12_holdsBy_8 rfl ?_
        refine g_getIN h flX12_382 rfl (by assumption) dX12_holdsBy_9 ?_
        rw [e6]
        refine g_icmp_ge (tgt := 285) h dX12_holdsBy_12 (by decide) (by first | assumption | exact ⟨by omega, by omega⟩) (by first | assumption | exact ⟨by omega, by omega⟩) (fun c12 => ?_) (fun c12 => ?_)
        · exfalso; omega
        · refine g_aload_n h dX12_holdsBy_15 rfl ?_
          refine g_getQN h flX12_464 rfl (by assumption) (by assumption) dX12_holdsBy_16 ?_
          refine g_iload h dX12_holdsBy_19 rfl ?_
          refine g_iald h (i) (by assumption) (by first | omega | assumption) (by first | omega | assumption) (by first | decide | omega) dX12_holdsBy_21 ?_
          rw [hsg]
          refine g_istore h dX12_holdsBy_22 (Nat.le_of_ble_eq_true rfl) rfl rfl ?_
          refine g_iload h dX12_holdsBy_24 rfl ?_
          refine g_if_eq (tgt := 35) h dX12_holdsBy_26 (by decide) (by first | assumption | exact ⟨by omega, by omega⟩) (fun c26 => ?_) (fun c26 => ?_)
          · exfalso; omega
          · refine g_iload h dX12_holdsBy_29 rfl ?_
            refine g_iconst h dX12_holdsBy_31 ?_
            refine g_icmp_ne (tgt := 76) h dX12_holdsBy_32 (by decide) (by first | assumption | exact ⟨by omega, by omega⟩) (by first | assumption | exact ⟨by omega, by omega⟩) (fun c32 => ?_) (fun c32 => ?_)
            · refine g_iload h dX12_holdsBy_76 rfl ?_
              refine g_bipush h dX12_holdsBy_78 rfl ?_
              refine g_icmp_ne (tgt := 106) h dX12_holdsBy_80 (by decide) (by first | assumption | exact ⟨by omega, by omega⟩) (by first | assumption | exact ⟨by omega, by omega⟩) (fun c80 => ?_) (fun c80 => ?_)
              · refine g_iinc h dX12_holdsBy_106 rfl (Nat.le_of_ble_eq_true rfl) rfl rfl ?_
                refine g_aload_n h dX12_holdsBy_109 rfl ?_
                refine g_getQ h flX12_134 rfl (by assumption) (by assumption) dX12_holdsBy_110 ?_
                refine g_iload h dX12_holdsBy_113 rfl ?_
                refine g_iconst h dX12_holdsBy_115 ?_
                refine g_isub h dX12_holdsBy_116 ?_
                refine g_iald h (t3.length) (by assumption) (by first | omega | assumption) (by first | omega | assumption) (by first | decide | omega) dX12_holdsBy_117 ?_
                rw [g2]
                refine g_istore h dX12_holdsBy_118 (Nat.le_of_ble_eq_true rfl) rfl rfl ?_
                refine g_aload_n h dX12_holdsBy_120 rfl ?_
                refine g_getQ h flX12_134 rfl (by assumption) (by assumption) dX12_holdsBy_121 ?_
                refine g_iload h dX12_holdsBy_124 rfl ?_
                refine g_iald h (t3.length + 1) (by assumption) (by first | omega | assumption) (by first | omega | assumption) (by first | decide | omega) dX12_holdsBy_126 ?_
                rw [g1]
                refine g_istore h dX12_holdsBy_127 (Nat.le_of_ble_eq_true rfl) rfl rfl ?_
                refine g_iload h dX12_holdsBy_129 rfl ?_
                refine g_iconst h dX12_holdsBy_131 ?_
                refine g_icmp_ne (tgt := 150) h dX12_holdsBy_132 (by decide) (by first | assumption | exact ⟨by omega, by omega⟩) (by first | assumption | exact ⟨by omega, by omega⟩) (fun c132 => ?_) (fun c132 => ?_)
                · refine g_iload h dX12_holdsBy_150 rfl ?_
                  refine g_iconst h dX12_holdsBy_152 ?_
                  refine g_icmp_ne (tgt := 171) h dX12_holdsBy_153 (by decide) (by first | assumption | exact ⟨by omega, by omega⟩) (by first | assumption | exact ⟨by omega, by omega⟩) (fun c153 => ?_) (fun c153 => ?_)
                  · refine g_iload h dX12_holdsBy_171 rfl ?_
                    refine g_bipush h dX12_holdsBy_173 rfl ?_
                    refine g_icmp_ne (tgt := 193) h dX12_holdsBy_175 (by decide) (by first | assumption | exact ⟨by omega, by omega⟩) (by first | assumption | exact ⟨by omega, by omega⟩) (fun c175 => ?_) (fun c175 => ?_)
                    · refine g_iload h dX12_holdsBy_193 rfl ?_
                      refine g_bipush h dX12_holdsBy_195 rfl ?_
                      refine g_icmp_ne (tgt := 217) h dX12_holdsBy_197 (by decide) (by first | assumption | exact ⟨by omega, by omega⟩) (by first | assumption | exact ⟨by omega, by omega⟩) (fun c197 => ?_) (fun c197 => ?_)
                      · exfalso; omega
                      · refine g_iload h dX12_holdsBy_200 rfl ?_
                        refine g_iload h dX12_holdsBy_202 rfl ?_
                        refine g_iadd h dX12_holdsBy_204 ?_
                        refine g_iconst h dX12_holdsBy_205 ?_
                        refine g_icmp_ne (tgt := 213) h dX12_holdsBy_206 (by decide) (by first | assumption | exact ⟨by omega, by omega⟩) (by first | assumption | exact ⟨by omega, by omega⟩) (fun c206 => ?_) (fun c206 => ?_)
                        · refine g_iconst h dX12_holdsBy_213 ?_
                          refine g_goto (tgt := 230) h dX12_holdsBy_214 (by decide) ?_
                          refine g_istore h dX12_holdsBy_230 (Nat.le_of_ble_eq_true rfl) rfl rfl ?_
                          refine g_aload_n h dX12_holdsBy_232 rfl ?_
                          refine g_getQ h flX12_134 rfl (by assumption) (by assumption) dX12_holdsBy_233 ?_
                          refine g_iload h dX12_holdsBy_236 rfl ?_
                          refine g_iconst h dX12_holdsBy_238 ?_
                          refine g_isub h dX12_holdsBy_239 ?_
                          refine g_iload h dX12_holdsBy_240 rfl ?_
                          refine g_iconst h dX12_holdsBy_242 ?_
                          refine g_icmp_ne (tgt := 254) h dX12_holdsBy_243 (by decide) (by first | assumption | exact ⟨by omega, by omega⟩) (by first | assumption | exact ⟨by omega, by omega⟩) (fun c243 => ?_) (fun c243 => ?_)
                          · refine g_iload h dX12_holdsBy_254 rfl ?_
                            refine g_iconst h dX12_holdsBy_256 ?_
                            refine g_icmp_ne (tgt := 268) h dX12_holdsBy_257 (by decide) (by first | assumption | exact ⟨by omega, by omega⟩) (by first | assumption | exact ⟨by omega, by omega⟩) (fun c257 => ?_) (fun c257 => ?_)
                            · refine g_iload h dX12_holdsBy_268 rfl ?_
                              refine g_if_eq (tgt := 277) h dX12_holdsBy_270 (by decide) (by first | assumption | exact ⟨by omega, by omega⟩) (fun c270 => ?_) (fun c270 => ?_)
                              · refine g_iconst h dX12_holdsBy_277 ?_
                                refine g_iast h (t3.length) (by assumption) (by first | omega | assumption) (by first | omega | assumption) (by first | decide | omega) dX12_holdsBy_278 ?_
                                refine g_iinc h dX12_holdsBy_279 rfl (Nat.le_of_ble_eq_true rfl) rfl rfl ?_
                                refine g_goto (tgt := 6) h dX12_holdsBy_282 (by decide) ?_
                                first
                                | (exfalso; omega)
                                | (have h4 := fun x0 x1 x2 x3 => nxt (t3.length + 1) _ x0 x1 x2 x3 (MP_457 u t3.length (cJ (20038 - 20000) a b)) (by rw [upI_sR, sR_at]; exact SR_push hsr.2.2) rfl
                                   have hj : cJ (20038 - 20000) a b = 0 := by unfold cJ; (repeat first | rw [if_pos (by omega)] | rw [if_neg (by omega)])
                                   rw [hj] at h4
                                   subst htp
                                   rw [show ((t3.length + 1 + 1 : Nat) : Int) + -1 = ((t3.length + 1 : Nat) : Int) by omega]
                                   exact h4 _ _ _ _)
                              · refine g_iconst h dX12_holdsBy_273 ?_
                                refine g_goto (tgt := 278) h dX12_holdsBy_274 (by decide) ?_
                                refine g_iast h (t3.length) (by assumption) (by first | omega | assumption) (by first | omega | assumption) (by first | decide | omega) dX12_holdsBy_278 ?_
                                refine g_iinc h dX12_holdsBy_279 rfl (Nat.le_of_ble_eq_true rfl) rfl rfl ?_
                                refine g_goto (tgt := 6) h dX12_holdsBy_282 (by decide) ?_
                                first
                                | (exfalso; omega)
                                | (have h4 := fun x0 x1 x2 x3 => nxt (t3.length + 1) _ x0 x1 x2 x3 (MP_457 u t3.length (cJ (20038 - 20000) a b)) (by rw [upI_sR, sR_at]; exact SR_push hsr.2.2) rfl
                                   have hj : cJ (20038 - 20000) a b = 1 := by unfold cJ; (repeat first | rw [if_pos (by omega)] | rw [if_neg (by omega)])
                                   rw [hj] at h4
                                   subst htp
                                   rw [show ((t3.length + 1 + 1 : Nat) : Int) + -1 = ((t3.length + 1 : Nat) : Int) by omega]
                                   exact h4 _ _ _ _)
                            · exfalso; omega
                          · exfalso; omega
                        · refine g_iconst h dX12_holdsBy_209 ?_
                          refine g_goto (tgt := 230) h dX12_holdsBy_210 (by decide) ?_
                          refine g_istore h dX12_holdsBy_230 (Nat.le_of_ble_eq_true rfl) rfl rfl ?_
                          refine g_aload_n h dX12_holdsBy_232 rfl ?_
                          refine g_getQ h flX12_134 rfl (by assumption) (by assumption) dX12_holdsBy_233 ?_
                          refine g_iload h dX12_holdsBy_236 rfl ?_
                          refine g_iconst h dX12_holdsBy_238 ?_
                          refine g_isub h dX12_holdsBy_239 ?_
                          refine g_iload h dX12_holdsBy_240 rfl ?_
                          refine g_iconst h dX12_holdsBy_242 ?_
                          refine g_icmp_ne (tgt := 254) h dX12_holdsBy_243 (by decide) (by first | assumption | exact ⟨by omega, by omega⟩) (by first | assumption | exact ⟨by omega, by omega⟩) (fun c243 => ?_) (fun c243 => ?_)
                          · refine g_iload h dX12_holdsBy_254 rfl ?_
                            refine g_iconst h dX12_holdsBy_256 ?_
                            refine g_icmp_ne (tgt := 268) h dX12_holdsBy_257 (by decide) (by first | assumption | exact ⟨by omega, by omega⟩) (by first | assumption | exact ⟨by omega, by omega⟩) (fun c257 => ?_) (fun c257 => ?_)
                            · refine g_iload h dX12_holdsBy_268 rfl ?_
                              refine g_if_eq (tgt := 277) h dX12_holdsBy_270 (by decide) (by first | assumption | exact ⟨by omega, by omega⟩) (fun c270 => ?_) (fun c270 => ?_)
                              · refine g_iconst h dX12_holdsBy_277 ?_
                                refine g_iast h (t3.length) (by assumption) (by first | omega | assumption) (by first | omega | assumption) (by first | decide | omega) dX12_holdsBy_278 ?_
                                refine g_iinc h dX12_holdsBy_279 rfl (Nat.le_of_ble_eq_true rfl) rfl rfl ?_
                                refine g_goto (tgt := 6) h dX12_holdsBy_282 (by decide) ?_
                                first
                                | (exfalso; omega)
                                | (have h4 := fun x0 x1 x2 x3 => nxt (t3.length + 1) _ x0 x1 x2 x3 (MP_457 u t3.length (cJ (20038 - 20000) a b)) (by rw [upI_sR, sR_at]; exact SR_push hsr.2.2) rfl
                                   have hj : cJ (20038 - 20000) a b = 0 := by unfold cJ; (repeat first | rw [if_pos (by omega)] | rw [if_neg (by omega)])
                                   rw [hj] at h4
                                   subst htp
                                   rw [show ((t3.length + 1 + 1 : Nat) : Int) + -1 = ((t3.length + 1 : Nat) : Int) by omega]
                                   exact h4 _ _ _ _)
                              · refine g_iconst h dX12_holdsBy_273 ?_
                                refine g_goto (tgt := 278) h dX12_holdsBy_274 (by decide) ?_
                                refine g_iast h (t3.length) (by assumption) (by first | omega | assumption) (by first | omega | assumption) (by first | decide | omega) dX12_holdsBy_278 ?_
                                refine g_iinc h dX12_holdsBy_279 rfl (Nat.le_of_ble_eq_true rfl) rfl rfl ?_
                                refine g_goto (tgt := 6) h dX12_holdsBy_282 (by decide) ?_
                                first
                                | (exfalso; omega)
                                | (have h4 := fun x0 x1 x2 x3 => nxt (t3.length + 1) _ x0 x1 x2 x3 (MP_457 u t3.length (cJ (20038 - 20000) a b)) (by rw [upI_sR, sR_at]; exact SR_push hsr.2.2) rfl
                                   have hj : cJ (20038 - 20000) a b = 1 := by unfold cJ; (repeat first | rw [if_pos (by omega)] | rw [if_neg (by omega)])
                                   rw [hj] at h4
                                   subst htp
                                   rw [show ((t3.length + 1 + 1 : Nat) : Int) + -1 = ((t3.length + 1 : Nat) : Int) by omega]
                                   exact h4 _ _ _ _)
                            · exfalso; omega
                          · exfalso; omega
                    · exfalso; omega
                  · exfalso; omega
                · exfalso; omega
              · exfalso; omega
            · exfalso; omega
      · -- sign 20124
        obtain ⟨t, rfl⟩ := tc_tt htc3 (by decide)
        obtain ⟨b, t2, m, rfl, hb, m1, m2, m3⟩ := SV_t hsv
        obtain ⟨a, t3, m4, rfl, ha, m5, m6, m7⟩ := SV_t m3
        have hcS : evS (nmM w L np rn sn hi) 20124 (b :: a :: t3) = cJ (20124 - 20000) a b :: t3 := evS_2 (by decide) (by decide)
        rw [hcS] at nxt
        simp only [List.length_cons] at htp hsl
        have g1 : u.2.1 457 (t3.length + 1) = b := hsr.1
        have g2 : u.2.1 457 t3.length = a := hsr.2.1
        refine g_iload h dX12_holdsBy_6 rfl ?_
        refine g_aload_n h dX12_holdsBy_8 rfl ?_
        refine g_getIN h flX12_382 rfl (by assumption) dX12_holdsBy_9 ?_
        rw [e6]
        refine g_icmp_ge (tgt := 285) h dX12_holdsBy_12 (by decide) (by first | assumption | exact ⟨by omega, by omega⟩) (by first | assumption | exact ⟨by omega, by omega⟩) (fun c12 => ?_) (fun c12 => ?_)
        · exfalso; omega
        · refine g_aload_n h dX12_holdsBy_15 rfl ?_
          refine g_getQN h flX12_464 rfl (by assumption) (by assumption) dX12_holdsBy_16 ?_
          refine g_iload h dX12_holdsBy_19 rfl ?_
          refine g_iald h (i) (by assumption) (by first | omega | assumption) (by first | omega | assumption) (by first | decide | omega) dX12_holdsBy_21 ?_
          rw [hsg]
          refine g_istore h dX12_holdsBy_22 (Nat.le_of_ble_eq_true rfl) rfl rfl ?_
          refine g_iload h dX12_holdsBy_24 rfl ?_
          refine g_if_eq (tgt := 35) h dX12_holdsBy_26 (by decide) (by first | assumption | exact ⟨by omega, by omega⟩) (fun c26 => ?_) (fun c26 => ?_)
          · exfalso; omega
          · refine g_iload h dX12_holdsBy_29 rfl ?_
            refine g_iconst h dX12_holdsBy_31 ?_
            refine g_icmp_ne (tgt := 76) h dX12_holdsBy_32 (by decide) (by first | assumption | exact ⟨by omega, by omega⟩) (by first | assumption | exact ⟨by omega, by omega⟩) (fun c32 => ?_) (fun c32 => ?_)
            · refine g_iload h dX12_holdsBy_76 rfl ?_
              refine g_bipush h dX12_holdsBy_78 rfl ?_
              refine g_icmp_ne (tgt := 106) h dX12_holdsBy_80 (by decide) (by first | assumption | exact ⟨by omega, by omega⟩) (by first | assumption | exact ⟨by omega, by omega⟩) (fun c80 => ?_) (fun c80 => ?_)
              · refine g_iinc h dX12_holdsBy_106 rfl (Nat.le_of_ble_eq_true rfl) rfl rfl ?_
                refine g_aload_n h dX12_holdsBy_109 rfl ?_
                refine g_getQ h flX12_134 rfl (by assumption) (by assumption) dX12_holdsBy_110 ?_
                refine g_iload h dX12_holdsBy_113 rfl ?_
                refine g_iconst h dX12_holdsBy_115 ?_
                refine g_isub h dX12_holdsBy_116 ?_
                refine g_iald h (t3.length) (by assumption) (by first | omega | assumption) (by first | omega | assumption) (by first | decide | omega) dX12_holdsBy_117 ?_
                rw [g2]
                refine g_istore h dX12_holdsBy_118 (Nat.le_of_ble_eq_true rfl) rfl rfl ?_
                refine g_aload_n h dX12_holdsBy_120 rfl ?_
                refine g_getQ h flX12_134 rfl (by assumption) (by assumption) dX12_holdsBy_121 ?_
                refine g_iload h dX12_holdsBy_124 rfl ?_
                refine g_iald h (t3.length + 1) (by assumption) (by first | omega | assumption) (by first | omega | assumption) (by first | decide | omega) dX12_holdsBy_126 ?_
                rw [g1]
                refine g_istore h dX12_holdsBy_127 (Nat.le_of_ble_eq_true rfl) rfl rfl ?_
                refine g_iload h dX12_holdsBy_129 rfl ?_
                refine g_iconst h dX12_holdsBy_131 ?_
                refine g_icmp_ne (tgt := 150) h dX12_holdsBy_132 (by decide) (by first | assumption | exact ⟨by omega, by omega⟩) (by first | assumption | exact ⟨by omega, by omega⟩) (fun c132 => ?_) (fun c132 => ?_)
                · refine g_iload h dX12_holdsBy_150 rfl ?_
                  refine g_iconst h dX12_holdsBy_152 ?_
                  refine g_icmp_ne (tgt := 171) h dX12_holdsBy_153 (by decide) (by first | assumption | exact ⟨by omega, by omega⟩) (by first | assumption | exact ⟨by omega, by omega⟩) (fun c153 => ?_) (fun c153 => ?_)
                  · refine g_iload h dX12_holdsBy_171 rfl ?_
                    refine g_bipush h dX12_holdsBy_173 rfl ?_
                    refine g_icmp_ne (tgt := 193) h dX12_holdsBy_175 (by decide) (by first | assumption | exact ⟨by omega, by omega⟩) (by first | assumption | exact ⟨by omega, by omega⟩) (fun c175 => ?_) (fun c175 => ?_)
                    · refine g_iload h dX12_holdsBy_193 rfl ?_
                      refine g_bipush h dX12_holdsBy_195 rfl ?_
                      refine g_icmp_ne (tgt := 217) h dX12_holdsBy_197 (by decide) (by first | assumption | exact ⟨by omega, by omega⟩) (by first | assumption | exact ⟨by omega, by omega⟩) (fun c197 => ?_) (fun c197 => ?_)
                      · refine g_iload h dX12_holdsBy_217 rfl ?_
                        refine g_iload h dX12_holdsBy_219 rfl ?_
                        refine g_iadd h dX12_holdsBy_221 ?_
                        refine g_if_le (tgt := 229) h dX12_holdsBy_222 (by decide) (by first | assumption | exact ⟨by omega, by omega⟩) (fun c222 => ?_) (fun c222 => ?_)
                        · refine g_iconst h dX12_holdsBy_229 ?_
                          refine g_istore h dX12_holdsBy_230 (Nat.le_of_ble_eq_true rfl) rfl rfl ?_
                          refine g_aload_n h dX12_holdsBy_232 rfl ?_
                          refine g_getQ h flX12_134 rfl (by assumption) (by assumption) dX12_holdsBy_233 ?_
                          refine g_iload h dX12_holdsBy_236 rfl ?_
                          refine g_iconst h dX12_holdsBy_238 ?_
                          refine g_isub h dX12_holdsBy_239 ?_
                          refine g_iload h dX12_holdsBy_240 rfl ?_
                          refine g_iconst h dX12_holdsBy_242 ?_
                          refine g_icmp_ne (tgt := 254) h dX12_holdsBy_243 (by decide) (by first | assumption | exact ⟨by omega, by omega⟩) (by first | assumption | exact ⟨by omega, by omega⟩) (fun c243 => ?_) (fun c243 => ?_)
                          · refine g_iload h dX12_holdsBy_254 rfl ?_
                            refine g_iconst h dX12_holdsBy_256 ?_
                            refine g_icmp_ne (tgt := 268) h dX12_holdsBy_257 (by decide) (by first | assumption | exact ⟨by omega, by omega⟩) (by first | assumption | exact ⟨by omega, by omega⟩) (fun c257 => ?_) (fun c257 => ?_)
                            · refine g_iload h dX12_holdsBy_268 rfl ?_
                              refine g_if_eq (tgt := 277) h dX12_holdsBy_270 (by decide) (by first | assumption | exact ⟨by omega, by omega⟩) (fun c270 => ?_) (fun c270 => ?_)
                              · refine g_iconst h dX12_holdsBy_277 ?_
                                refine g_iast h (t3.length) (by assumption) (by first | omega | assumption) (by first | omega | assumption) (by first | decide | omega) dX12_holdsBy_278 ?_
                                refine g_iinc h dX12_holdsBy_279 rfl (Nat.le_of_ble_eq_true rfl) rfl rfl ?_
                                refine g_goto (tgt := 6) h dX12_holdsBy_282 (by decide) ?_
                                first
                                | (exfalso; omega)
                                | (have h4 := fun x0 x1 x2 x3 => nxt (t3.length + 1) _ x0 x1 x2 x3 (MP_457 u t3.length (cJ (20124 - 20000) a b)) (by rw [upI_sR, sR_at]; exact SR_push hsr.2.2) rfl
                                   have hj : cJ (20124 - 20000) a b = 0 := by unfold cJ; (repeat first | rw [if_pos (by omega)] | rw [if_neg (by omega)])
                                   rw [hj] at h4
                                   subst htp
                                   rw [show ((t3.length + 1 + 1 : Nat) : Int) + -1 = ((t3.length + 1 : Nat) : Int) by omega]
                                   exact h4 _ _ _ _)
                              · refine g_iconst h dX12_holdsBy_273 ?_
                                refine g_goto (tgt := 278) h dX12_holdsBy_274 (by decide) ?_
                                refine g_iast h (t3.length) (by assumption) (by first | omega | assumption) (by first | omega | assumption) (by first | decide | omega) dX12_holdsBy_278 ?_
                                refine g_iinc h dX12_holdsBy_279 rfl (Nat.le_of_ble_eq_true rfl) rfl rfl ?_
                                refine g_goto (tgt := 6) h dX12_holdsBy_282 (by decide) ?_
                                first
                                | (exfalso; omega)
                                | (have h4 := fun x0 x1 x2 x3 => nxt (t3.length + 1) _ x0 x1 x2 x3 (MP_457 u t3.length (cJ (20124 - 20000) a b)) (by rw [upI_sR, sR_at]; exact SR_push hsr.2.2) rfl
                                   have hj : cJ (20124 - 20000) a b = 1 := by unfold cJ; (repeat first | rw [if_pos (by omega)] | rw [if_neg (by omega)])
                                   rw [hj] at h4
                                   subst htp
                                   rw [show ((t3.length + 1 + 1 : Nat) : Int) + -1 = ((t3.length + 1 : Nat) : Int) by omega]
                                   exact h4 _ _ _ _)
                            · exfalso; omega
                          · exfalso; omega
                        · refine g_iconst h dX12_holdsBy_225 ?_
                          refine g_goto (tgt := 230) h dX12_holdsBy_226 (by decide) ?_
                          refine g_istore h dX12_holdsBy_230 (Nat.le_of_ble_eq_true rfl) rfl rfl ?_
                          refine g_aload_n h dX12_holdsBy_232 rfl ?_
                          refine g_getQ h flX12_134 rfl (by assumption) (by assumption) dX12_holdsBy_233 ?_
                          refine g_iload h dX12_holdsBy_236 rfl ?_
                          refine g_iconst h dX12_holdsBy_238 ?_
                          refine g_isub h dX12_holdsBy_239 ?_
                          refine g_iload h dX12_holdsBy_240 rfl ?_
                          refine g_iconst h dX12_holdsBy_242 ?_
                          refine g_icmp_ne (tgt := 254) h dX12_holdsBy_243 (by decide) (by first | assumption | exact ⟨by omega, by omega⟩) (by first | assumption | exact ⟨by omega, by omega⟩) (fun c243 => ?_) (fun c243 => ?_)
                          · refine g_iload h dX12_holdsBy_254 rfl ?_
                            refine g_iconst h dX12_holdsBy_256 ?_
                            refine g_icmp_ne (tgt := 268) h dX12_holdsBy_257 (by decide) (by first | assumption | exact ⟨by omega, by omega⟩) (by first | assumption | exact ⟨by omega, by omega⟩) (fun c257 => ?_) (fun c257 => ?_)
                            · refine g_iload h dX12_holdsBy_268 rfl ?_
                              refine g_if_eq (tgt := 277) h dX12_holdsBy_270 (by decide) (by first | assumption | exact ⟨by omega, by omega⟩) (fun c270 => ?_) (fun c270 => ?_)
                              · refine g_iconst h dX12_holdsBy_277 ?_
                                refine g_iast h (t3.length) (by assumption) (by first | omega | assumption) (by first | omega | assumption) (by first | decide | omega) dX12_holdsBy_278 ?_
                                refine g_iinc h dX12_holdsBy_279 rfl (Nat.le_of_ble_eq_true rfl) rfl rfl ?_
                                refine g_goto (tgt := 6) h dX12_holdsBy_282 (by decide) ?_
                                first
                                | (exfalso; omega)
                                | (have h4 := fun x0 x1 x2 x3 => nxt (t3.length + 1) _ x0 x1 x2 x3 (MP_457 u t3.length (cJ (20124 - 20000) a b)) (by rw [upI_sR, sR_at]; exact SR_push hsr.2.2) rfl
                                   have hj : cJ (20124 - 20000) a b = 0 := by unfold cJ; (repeat first | rw [if_pos (by omega)] | rw [if_neg (by omega)])
                                   rw [hj] at h4
                                   subst htp
                                   rw [show ((t3.length + 1 + 1 : Nat) : Int) + -1 = ((t3.length + 1 : Nat) : Int) by omega]
                                   exact h4 _ _ _ _)
                              · refine g_iconst h dX12_holdsBy_273 ?_
                                refine g_goto (tgt := 278) h dX12_holdsBy_274 (by decide) ?_
                                refine g_iast h (t3.length) (by assumption) (by first | omega | assumption) (by first | omega | assumption) (by first | decide | omega) dX12_holdsBy_278 ?_
                                refine g_iinc h dX12_holdsBy_279 rfl (Nat.le_of_ble_eq_true rfl) rfl rfl ?_
                                refine g_goto (tgt := 6) h dX12_holdsBy_282 (by decide) ?_
                                first
                                | (exfalso; omega)
                                | (have h4 := fun x0 x1 x2 x3 => nxt (t3.length + 1) _ x0 x1 x2 x3 (MP_457 u t3.length (cJ (20124 - 20000) a b)) (by rw [upI_sR, sR_at]; exact SR_push hsr.2.2) rfl
                                   have hj : cJ (20124 - 20000) a b = 1 := by unfold cJ; (repeat first | rw [if_pos (by omega)] | rw [if_neg (by omega)])
                                   rw [hj] at h4
                                   subst htp
                                   rw [show ((t3.length + 1 + 1 : Nat) : Int) + -1 = ((t3.length + 1 : Nat) : Int) by omega]
                                   exact h4 _ _ _ _)
                            · exfalso; omega
                          · exfalso; omega
                      · exfalso; omega
                    · exfalso; omega
                  · exfalso; omega
                · exfalso; omega
              · exfalso; omega
            · exfalso; omega
  have hMs := hR.1
  refine g_iconst h dX12_holdsBy_0 ?_
  refine g_istore h dX12_holdsBy_1 (Nat.le_of_ble_eq_true rfl) rfl rfl ?_
  refine g_iconst h dX12_holdsBy_3 ?_
  refine g_istore h dX12_holdsBy_4 (Nat.le_of_ble_eq_true rfl) rfl rfl ?_
  exact loop cl 0 0 0 [] [] w none none none none rfl (Nat.zero_le _) htc trivial (by omega) trivial rfl rfl (MP_rfl w)
