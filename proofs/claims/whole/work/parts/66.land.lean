/-! ===== the land: how gas runs ===== -/
theorem KB_sUp : ∀ (d : Nat) (row : Nat → Int) (a : Nat) (x : Int), KB row → 0 ≤ x ∧ x ≤ 1000000000 → a ≤ 1601 → KB (sUp d row a x)
  | 0, row, a, x, h, hx, _ => KB_uI h hx
  | d + 1, row, a, x, h, hx, ha => by
    unfold sUp
    split
    · exact KB_sUp d _ _ x (KB_uI h (h _ (by omega))) hx (by omega)
    · exact KB_uI h hx
theorem KB_sDn : ∀ (d : Nat) (row : Nat → Int) (sz a : Nat) (x : Int), KB row → 0 ≤ x ∧ x ≤ 1000000000 → KB (sDn d row sz a x)
  | 0, row, sz, a, x, h, hx => KB_uI h hx
  | d + 1, row, sz, a, x, h, hx => by
    unfold sDn
    cases hl : lcF row sz a with
    | none => exact KB_uI h hx
    | some c =>
      dsimp only
      split
      · exact KB_sDn d _ sz c x (KB_uI h (h c (lcF_some hl).2.1)) hx
      · exact KB_uI h hx
/-- the land's numbers, sz items on the heap -/
def CI (w : AW) (sz : Nat) : Prop := XS w ∧ w.2.1 40 1 = (sz : Int) ∧ sz ≤ 1601 ∧ KB (w.2.1 41) ∧ (∀ c, c < 400 → 0 ≤ w.2.1 37 c ∧ w.2.1 37 c ≤ 999) ∧ ∀ c, c < 400 → 0 ≤ w.2.1 39 c ∧ w.2.1 39 c ≤ 1000000
def szW (w : AW) : Nat := (w.2.1 40 1).toNat
theorem CI_sz {w : AW} {sz : Nat} (h : CI w sz) : szW w = sz := by unfold szW; rw [h.2.1]; rfl
theorem CI_add {w : AW} {sz : Nat} {x : Int} (h : CI w sz) (hx : 0 ≤ x ∧ x ≤ 1000000000) : ∃ s2, CI (addW w sz x) s2 := by
  obtain ⟨h1, h2, h3, h4, h5, h6⟩ := h
  unfold addW
  split
  · refine ⟨sz + 1, XS_of rfl rfl h1, ?_, by omega, ?_, ?_, ?_⟩
    · rw [sR_ne _ _ (by decide), upI_self]; omega
    · rw [sR_at]; exact KB_sUp 11 _ sz x h4 hx (by omega)
    · rw [sR_ne _ _ (by decide), upI_o _ _ _ (by decide)]; exact h5
    · rw [sR_ne _ _ (by decide), upI_o _ _ _ (by decide)]; exact h6
  · exact ⟨sz, h1, h2, h3, h4, h5, h6⟩
theorem CI_tak {w : AW} {sz : Nat} (h : CI w sz) (hs : 0 < sz) : CI (takW w sz) (sz - 1) := by
  obtain ⟨h1, h2, h3, h4, h5, h6⟩ := h
  unfold takW
  refine ⟨XS_of rfl rfl h1, ?_, by omega, ?_, ?_, ?_⟩
  · rw [sR_ne _ _ (by decide), upI_self]; omega
  · rw [sR_at]; exact KB_sDn 11 _ _ 0 _ h4 (h4 _ (by omega))
  · rw [sR_ne _ _ (by decide), upI_o _ _ _ (by decide)]; exact h5
  · rw [sR_ne _ _ (by decide), upI_o _ _ _ (by decide)]; exact h6
theorem CI_39 {w : AW} {sz c : Nat} {v : Int} (h : CI w sz) (hv : 0 ≤ v ∧ v ≤ 1000000) : CI (upI w 39 c v) sz := by
  obtain ⟨h1, h2, h3, h4, h5, h6⟩ := h
  refine ⟨XS_of rfl rfl h1, ?_, h3, ?_, ?_, fun j hj => ?_⟩
  · rw [upI_o _ _ _ (by decide)]; exact h2
  · rw [upI_o _ _ _ (by decide)]; exact h4
  · rw [upI_o _ _ _ (by decide)]; exact h5
  · rw [upI_at]
    show 0 ≤ (if j = c then v else w.2.1 39 j) ∧ (if j = c then v else w.2.1 39 j) ≤ 1000000
    split
    · exact hv
    · exact h6 j hj
theorem CI_38 {w : AW} {sz c : Nat} {v : Int} (h : CI w sz) : CI (upI w 38 c v) sz := by
  obtain ⟨h1, h2, h3, h4, h5, h6⟩ := h
  refine ⟨XS_of rfl rfl h1, ?_, h3, ?_, ?_, ?_⟩
  · rw [upI_o _ _ _ (by decide)]; exact h2
  · rw [upI_o _ _ _ (by decide)]; exact h4
  · rw [upI_o _ _ _ (by decide)]; exact h5
  · rw [upI_o _ _ _ (by decide)]; exact h6
/-- the cell beside a cell -/
def bsX (c s : Int) : Int := if s = 0 then c - 20 else if s = 1 then (if 0 < c % 20 then c - 1 else -1) else if s = 2 then (if c % 20 < 19 then c + 1 else -1) else c + 20
theorem bsX_bd {c s : Int} (h : 0 ≤ c ∧ c < 400) : -20 ≤ bsX c s ∧ bsX c s < 420 := by unfold bsX; repeat (first | omega | split)
/-- a cell is offered -/
def ofW (w : AW) (z hi : Int) : AW := if (0 ≤ z ∧ z < 400) ∧ w.2.1 39 z.toNat = 1000000 ∧ w.2.1 37 z.toNat ≤ hi then addW (upI w 39 z.toNat 0) (szW w) (w.2.1 37 z.toNat * 400 + z) else w
theorem CI_of {w : AW} {sz : Nat} {z hi : Int} (h : CI w sz) : ∃ s2, CI (ofW w z hi) s2 := by
  unfold ofW
  split
  · rename_i q
    have h5 := h.2.2.2.2.1 z.toNat (by omega)
    rw [CI_sz h]
    exact CI_add (CI_39 h ⟨by decide, by decide⟩) ⟨by omega, by omega⟩
  · exact ⟨sz, h⟩
def of4 (w : AW) (c hi : Int) : Nat → AW
  | 0 => w
  | s + 1 => ofW (of4 w c hi s) (bsX c (s : Int)) hi
theorem CI_of4 {w : AW} {sz : Nat} {c hi : Int} (h : CI w sz) : ∀ s, ∃ s2, CI (of4 w c hi s) s2
  | 0 => ⟨sz, h⟩
  | s + 1 => by
    obtain ⟨s1, h1⟩ := CI_of4 (c := c) (hi := hi) h s
    exact CI_of h1
/-- the run from a number of cells reached on -/
def rlF (hi spd most : Int) : Nat → Int → AW → Int × AW
  | 0, r, w => (r, w)
  | d + 1, r, w => if r < most ∧ 0 < w.2.1 40 1 then rlF hi spd most d (r + 1) (of4 (upI (takW w (szW w)) 38 (w.2.1 41 0 % 400).toNat (r / spd)) (w.2.1 41 0 % 400) hi 4) else (r, w)
def fillW (w : AW) (k m : Nat) (v : Int) : AW := sR w k (cpR (w.2.1 k) (fun _ => v) m)
/-- the land as a run begins -/
def lr0 (w : AW) (frm hi : Int) : AW := ofW (upI (fillW (fillW (upI w 36 5 1) 38 400 (-2)) 39 400 1000000) 40 1 0) frm hi
def mostF (amt th : Int) : Int := amt / th + (if 0 < amt % th then 1 else 0)
theorem addW_36 (w : AW) (sz : Nat) (x : Int) {j : Nat} (h1 : j ≠ 40) (h2 : j ≠ 41) : (addW w sz x).2.1 j = w.2.1 j := by
  unfold addW
  split
  · rw [sR_ne _ _ h2, upI_o _ _ _ h1]
  · rfl
theorem takW_36 (w : AW) (sz : Nat) : (takW w sz).2.1 36 = w.2.1 36 := by
  unfold takW
  rw [sR_ne _ _ (by decide), upI_o _ _ _ (by decide)]
theorem ofW_36 (w : AW) (z hi : Int) : (ofW w z hi).2.1 36 = w.2.1 36 := by
  unfold ofW
  split
  · rw [addW_36 _ _ _ (by decide) (by decide), upI_o _ _ _ (by decide)]
  · rfl
theorem of4_36 (w : AW) (c hi : Int) : ∀ s, (of4 w c hi s).2.1 36 = w.2.1 36
  | 0 => rfl
  | s + 1 => (ofW_36 _ _ _).trans (of4_36 w c hi s)
set_option maxRecDepth 100000 in
set_option maxHeartbeats 4000000 in
theorem c_J7_fill_53178 (l : Launch) (w : AW) (a m : Nat) (v : Int) (ha : w.1 a = (1, m)) (hm : m < 100000) : HT l yJ7_fill_53178 cJ7_fill_53178 4 none 1 0 0 w [ar a, ai v] (rV (fillW w a m v)) := by
  refine HT.ofF (by decide +kernel) (by intro v hv; simp only [List.mem_cons, List.not_mem_nil, or_false] at hv; rcases hv with rfl | rfl <;> rfl) (Nat.le_of_ble_eq_true rfl) ?_
  intro Γ h hQ hRm hnm hl hw0
  have loop : ∀ (d i : Nat), i + d = m → GG Γ 5 [some (ar a), some (ai v), some (ai (i : Int)), some (ai (m : Int))] [] (fillW w a i v) 0 0 := by
    intro d
    induction d with
    | zero =>
      intro i hi
      obtain rfl : i = m := by omega
      have t1 : (fillW w a i v).1 a = (1, i) := ha
      refine g_iload_n h dJ7_fill_53178_5 rfl ?_
      refine g_iload_n h dJ7_fill_53178_6 rfl ?_
      refine g_icmp_ge (tgt := 20) h dJ7_fill_53178_7 (by decide) (by first | assumption | exact ⟨by omega, by omega⟩) (by first | assumption | exact ⟨by omega, by omega⟩) (fun c7 => ?_) (fun c7 => ?_)
      · refine g_vret h hQ (by first | decide | omega | (simp only [clS]; omega)) (by first | decide | omega | (simp only [clS]; omega)) ?_ dJ7_fill_53178_20
        exact ⟨rfl, rfl⟩
      · exfalso; omega
    | succ d ih =>
      intro i hi
      have t1 : (fillW w a i v).1 a = (1, m) := ha
      have e1 : upI (fillW w a i v) a i v = fillW w a (i + 1) v := by
        unfold fillW
        rw [upI_s2, ← cpR_s (w.2.1 a) (fun _ => v) i]
      refine g_iload_n h dJ7_fill_53178_5 rfl ?_
      refine g_iload_n h dJ7_fill_53178_6 rfl ?_
      refine g_icmp_ge (tgt := 20) h dJ7_fill_53178_7 (by decide) (by first | assumption | exact ⟨by omega, by omega⟩) (by first | assumption | exact ⟨by omega, by omega⟩) (fun c7 => ?_) (fun c7 => ?_)
      · exfalso; omega
      · refine g_aload_n h dJ7_fill_53178_10 rfl ?_
        refine g_iload_n h dJ7_fill_53178_11 rfl ?_
        refine g_iload_n h dJ7_fill_53178_12 rfl ?_
        refine g_iast h (i) (by assumption) (by first | omega | assumption) (by first | omega | assumption) (by first | decide | omega) dJ7_fill_53178_13 ?_
        rw [e1]
        refine g_iinc h dJ7_fill_53178_14 rfl (Nat.le_of_ble_eq_true rfl) rfl rfl ?_
        refine g_goto (tgt := 5) h dJ7_fill_53178_17 (by decide) ?_
        exact ih (i + 1) (by omega)
  have e0 : fillW w a 0 v = w := by
    unfold fillW
    rw [cpR_0]
    exact sR_self _ _
  refine g_iconst h dJ7_fill_53178_0 ?_
  refine g_istore_n h dJ7_fill_53178_1 (Nat.le_of_ble_eq_true rfl) rfl rfl ?_
  refine g_aload_n h dJ7_fill_53178_2 rfl ?_
  refine g_alen h (by assumption) (by unfold arK; omega) dJ7_fill_53178_3 ?_
  refine g_istore_n h dJ7_fill_53178_4 (Nat.le_of_ble_eq_true rfl) rfl rfl ?_
  have := loop m 0 (by omega)
  rw [e0] at this
  exact this
set_option maxRecDepth 100000 in
set_option maxHeartbeats 4000000 in
theorem c_X0_beside (l : Launch) (w : AW) (c s : Int) (hc : 0 ≤ c ∧ c < 400) (hs : 0 ≤ s ∧ s < 4) : HT l yX0_beside cX0_beside 3 (some .int) 1 0 0 w [ai c, ai s] (rI (bsX c s) w) := by
  refine HT.of (by decide) (by intro v hv; simp only [List.mem_cons, List.not_mem_nil, or_false] at hv; rcases hv with rfl | rfl <;> rfl) (Nat.le_of_ble_eq_true rfl) ?_
  intro Γ h hQ hRm hnm hl hw0
  refine g_iload_n h dX0_beside_0 rfl ?_
  refine g_bipush h dX0_beside_1 rfl ?_
  refine g_irem h (by first | assumption | exact ⟨by omega, by omega⟩) (by first | assumption | exact ⟨by omega, by omega⟩) (by first | omega | assumption) (by first | omega | assumption) dX0_beside_3 ?_
  refine g_istore_n h dX0_beside_4 (Nat.le_of_ble_eq_true rfl) rfl rfl ?_
  refine g_iload_n h dX0_beside_5 rfl ?_
  rcases (show s = 0 ∨ s = 1 ∨ s = 2 ∨ (s < 0 ∨ 2 < s) by omega) with c6 | c6 | c6 | c6
  · refine g_tswI (tgt := 32) h 0 (by first | assumption | exact ⟨by omega, by omega⟩) (by first | omega | assumption) (by first | omega | assumption) rfl (by decide) dX0_beside_6 ?_
    refine g_iload_n h dX0_beside_32 rfl ?_
    refine g_bipush h dX0_beside_33 rfl ?_
    refine g_isub h dX0_beside_35 ?_
    refine g_iret h hQ (by first | decide | omega | (simp only [clS]; omega)) (by first | decide | omega | (simp only [clS]; omega)) ?_ dX0_beside_36
    first
    | (exfalso; omega)
    | (refine ⟨?_, rfl⟩
       unfold bsX
       repeat first | rw [if_pos (by omega)] | rw [if_neg (by omega)])
  · refine g_tswI (tgt := 37) h 1 (by first | assumption | exact ⟨by omega, by omega⟩) (by first | omega | assumption) (by first | omega | assumption) rfl (by decide) dX0_beside_6 ?_
    refine g_iload_n h dX0_beside_37 rfl ?_
    refine g_if_le (tgt := 47) h dX0_beside_38 (by decide) (by first | assumption | exact ⟨by omega, by omega⟩) (fun c38 => ?_) (fun c38 => ?_)
    · refine g_iconst h dX0_beside_47 ?_
      refine g_iret h hQ (by first | decide | omega | (simp only [clS]; omega)) (by first | decide | omega | (simp only [clS]; omega)) ?_ dX0_beside_48
      first
      | (exfalso; omega)
      | (refine ⟨?_, rfl⟩
         unfold bsX
         repeat first | rw [if_pos (by omega)] | rw [if_neg (by omega)])
    · refine g_iload_n h dX0_beside_41 rfl ?_
      refine g_iconst h dX0_beside_42 ?_
      refine g_isub h dX0_beside_43 ?_
      refine g_goto (tgt := 48) h dX0_beside_44 (by decide) ?_
      refine g_iret h hQ (by first | decide | omega | (simp only [clS]; omega)) (by first | decide | omega | (simp only [clS]; omega)) ?_ dX0_beside_48
      first
      | (exfalso; omega)
      | (refine ⟨?_, rfl⟩
         unfold bsX
         repeat first | rw [if_pos (by omega)] | rw [if_neg (by omega)])
  · refine g_tswI (tgt := 49) h 2 (by first | assumption | exact ⟨by omega, by omega⟩) (by first | omega | assumption) (by first | omega | assumption) rfl (by decide) dX0_beside_6 ?_
    refine g_iload_n h dX0_beside_49 rfl ?_
    refine g_bipush h dX0_beside_50 rfl ?_
    refine g_icmp_ge (tgt := 61) h dX0_beside_52 (by decide) (by first | assumption | exact ⟨by omega, by omega⟩) (by first | assumption | exact ⟨by omega, by omega⟩) (fun c52 => ?_) (fun c52 => ?_)
    · refine g_iconst h dX0_beside_61 ?_
      refine g_iret h hQ (by first | decide | omega | (simp only [clS]; omega)) (by first | decide | omega | (simp only [clS]; omega)) ?_ dX0_beside_62
      first
      | (exfalso; omega)
      | (refine ⟨?_, rfl⟩
         unfold bsX
         repeat first | rw [if_pos (by omega)] | rw [if_neg (by omega)])
    · refine g_iload_n h dX0_beside_55 rfl ?_
      refine g_iconst h dX0_beside_56 ?_
      refine g_iadd h dX0_beside_57 ?_
      refine g_goto (tgt := 62) h dX0_beside_58 (by decide) ?_
      refine g_iret h hQ (by first | decide | omega | (simp only [clS]; omega)) (by first | decide | omega | (simp only [clS]; omega)) ?_ dX0_beside_62
      first
      | (exfalso; omega)
      | (refine ⟨?_, rfl⟩
         unfold bsX
         repeat first | rw [if_pos (by omega)] | rw [if_neg (by omega)])
  · refine g_tswO (tgt := 63) h (by first | assumption | exact ⟨by omega, by omega⟩) c6 (by decide) dX0_beside_6 ?_
    refine g_iload_n h dX0_beside_63 rfl ?_
    refine g_bipush h dX0_beside_64 rfl ?_
    refine g_iadd h dX0_beside_66 ?_
    refine g_iret h hQ (by first | decide | omega | (simp only [clS]; omega)) (by first | decide | omega | (simp only [clS]; omega)) ?_ dX0_beside_67
    first
    | (exfalso; omega)
    | (refine ⟨?_, rfl⟩
       unfold bsX
       repeat first | rw [if_pos (by omega)] | rw [if_neg (by omega)])
set_option maxRecDepth 100000 in
set_option maxHeartbeats 4000000 in
theorem c_X0_offer (l : Launch) (w : AW) (sz : Nat) (z hi : Int) (hC : CI w sz) (hz : R32 z) (hhi : R32 hi) : HT l yX0_offer cX0_offer 3 none 2 0 0 w [ar 36, ai z, ai hi] (rV (ofW w z hi)) := by
  refine HT.of (by decide) (by intro v hv; simp only [List.mem_cons, List.not_mem_nil, or_false] at hv; rcases hv with rfl | rfl | rfl <;> rfl) (Nat.le_of_ble_eq_true rfl) ?_
  intro Γ h hQ hRm hnm hl hw0
  obtain ⟨hX, hs, hs2, hK, h37, h39⟩ := id hC
  have s36 : w.1 36 = (100, 0) := hX.1 36 (by decide)
  have s39 : w.1 39 = (1, 400) := hX.1 39 (by decide)
  have s37 : w.1 37 = (1, 400) := hX.1 37 (by decide)
  have s40 : w.1 40 = (101, 0) := hX.1 40 (by decide)
  have p36_6 : w.2.2 36 6 = some 39 := hX.2 (36, 6, 39) (by decide)
  have p36_0 : w.2.2 36 0 = some 37 := hX.2 (36, 0, 37) (by decide)
  have p36_7 : w.2.2 36 7 = some 40 := hX.2 (36, 7, 40) (by decide)
  have ez := CI_sz hC
  by_cases hz4 : 0 ≤ z ∧ z < 400
  · have h37z := h37 z.toNat (by omega)
    have h39z := h39 z.toNat (by omega)
    have t36 : (upI w 39 z.toNat 0).1 36 = (100, 0) := s36
    have t40 : (upI w 39 z.toNat 0).1 40 = (101, 0) := s40
    have t37 : (upI w 39 z.toNat 0).1 37 = (1, 400) := s37
    have tp : (upI w 39 z.toNat 0).2.2 36 7 = some 40 := p36_7
    have tq : (upI w 39 z.toNat 0).2.2 36 0 = some 37 := p36_0
    have hC2 : CI (upI w 39 z.toNat 0) sz := CI_39 hC ⟨by decide, by decide⟩
    refine g_iload_n h dX0_offer_0 rfl ?_
    refine g_callSN h rfl [_] (c_X9_isCell _ _ _ hz) clX0_40 st_X9_isCell rfl rfl (by rw [hRm]; first | decide | (simp only [clS]; omega)) (by rw [hRm]; first | decide | (simp only [clS]; omega)) (fun _ => Nat.le_of_ble_eq_true rfl) (by rw [hRm]; first | decide | (simp only [clS]; omega)) (by rw [hRm]; first | decide | (simp only [clS]; omega)) dX0_offer_1 (fun r1 w1 hp1 => ?_)
    obtain ⟨rfl, hw1⟩ := hp1
    rw [hw1]
    have hbw1 := ite01 (0 ≤ z ∧ z < 400)
    refine g_if_eq (tgt := 54) h dX0_offer_4 (by decide) (by first | assumption | exact ⟨by omega, by omega⟩) (fun c4 => ?_) (fun c4 => ?_)
    · refine g_vret h hQ (by first | decide | omega | (simp only [clS]; omega)) (by first | decide | omega | (simp only [clS]; omega)) ?_ dX0_offer_54
      first
      | (exfalso; omega)
      | (refine ⟨rfl, ?_⟩
         unfold ofW
         rw [ez]
         first | rw [if_pos ⟨hz4, by omega, by omega⟩] | rw [if_neg (by omega)])
    · refine g_aload_n h dX0_offer_7 rfl ?_
      refine g_getQ h flX0_28 rfl (by assumption) (by assumption) dX0_offer_8 ?_
      refine g_iload_n h dX0_offer_11 rfl ?_
      refine g_iald h (z.toNat) (by assumption) (by first | omega | assumption) (by first | omega | assumption) (by first | decide | omega) dX0_offer_12 ?_
      refine g_ldc h kcX0_54 dX0_offer_13 ?_
      refine g_icmp_ne (tgt := 54) h dX0_offer_15 (by decide) (by first | assumption | exact ⟨by omega, by omega⟩) (by first | assumption | exact ⟨by omega, by omega⟩) (fun c15 => ?_) (fun c15 => ?_)
      · refine g_vret h hQ (by first | decide | omega | (simp only [clS]; omega)) (by first | decide | omega | (simp only [clS]; omega)) ?_ dX0_offer_54
        first
        | (exfalso; omega)
        | (refine ⟨rfl, ?_⟩
           unfold ofW
           rw [ez]
           first | rw [if_pos ⟨hz4, by omega, by omega⟩] | rw [if_neg (by omega)])
      · refine g_aload_n h dX0_offer_18 rfl ?_
        refine g_getQ h flX0_9 rfl (by assumption) (by assumption) dX0_offer_19 ?_
        refine g_iload_n h dX0_offer_22 rfl ?_
        refine g_iald h (z.toNat) (by assumption) (by first | omega | assumption) (by first | omega | assumption) (by first | decide | omega) dX0_offer_23 ?_
        refine g_iload_n h dX0_offer_24 rfl ?_
        refine g_icmp_gt (tgt := 54) h dX0_offer_25 (by decide) (by first | assumption | exact ⟨by omega, by omega⟩) (by first | assumption | exact ⟨by omega, by omega⟩) (fun c25 => ?_) (fun c25 => ?_)
        · refine g_vret h hQ (by first | decide | omega | (simp only [clS]; omega)) (by first | decide | omega | (simp only [clS]; omega)) ?_ dX0_offer_54
          first
          | (exfalso; omega)
          | (refine ⟨rfl, ?_⟩
             unfold ofW
             rw [ez]
             first | rw [if_pos ⟨hz4, by omega, by omega⟩] | rw [if_neg (by omega)])
        · refine g_aload_n h dX0_offer_28 rfl ?_
          refine g_getQ h flX0_28 rfl (by assumption) (by assumption) dX0_offer_29 ?_
          refine g_iload_n h dX0_offer_32 rfl ?_
          refine g_iconst h dX0_offer_33 ?_
          refine g_iast h (z.toNat) (by assumption) (by first | omega | assumption) (by first | omega | assumption) (by first | decide | omega) dX0_offer_34 ?_
          refine g_aload_n h dX0_offer_35 rfl ?_
          refine g_getQ h flX0_36 rfl (by assumption) (by assumption) dX0_offer_36 ?_
          refine g_aload_n h dX0_offer_39 rfl ?_
          refine g_getQ h flX0_9 rfl (by assumption) (by assumption) dX0_offer_40 ?_
          refine g_iload_n h dX0_offer_43 rfl ?_
          refine g_iald h (z.toNat) (by assumption) (by first | omega | assumption) (by first | omega | assumption) (by first | decide | omega) dX0_offer_44 ?_
          rw [upI_o _ _ _ (show (37 : Nat) ≠ 39 by decide)]
          refine g_sipush h dX0_offer_45 rfl ?_
          refine g_imul h dX0_offer_48 ?_
          refine g_iload_n h dX0_offer_49 rfl ?_
          refine g_iadd h dX0_offer_50 ?_
          refine g_callV h rfl (ci := 1) [_] (by assumption) (c_X1_add _ _ sz (w.2.1 37 z.toNat * 400 + z) hC2.1 hC2.2.1 hs2 hC2.2.2.2.1 ⟨by omega, by omega⟩) clX0_73 (by decide) rfl in_X1_add se_X1_add rfl rfl (by rw [hRm]; first | decide | (simp only [clS]; omega)) (by rw [hRm]; first | decide | (simp only [clS]; omega)) (fun _ => Nat.le_of_ble_eq_true rfl) (by rw [hRm]; first | decide | (simp only [clS]; omega)) (by rw [hRm]; first | decide | (simp only [clS]; omega)) dX0_offer_51 (fun r51 w51 hp51 => ?_)
          obtain ⟨rfl, hw51⟩ := hp51
          rw [hw51]
          refine g_vret h hQ (by first | decide | omega | (simp only [clS]; omega)) (by first | decide | omega | (simp only [clS]; omega)) ?_ dX0_offer_54
          first
          | (exfalso; omega)
          | (refine ⟨rfl, ?_⟩
             unfold ofW
             rw [ez]
             first | rw [if_pos ⟨hz4, by omega, by omega⟩] | rw [if_neg (by omega)])
  · skip
    refine g_iload_n h dX0_offer_0 rfl ?_
    refine g_callSN h rfl [_] (c_X9_isCell _ _ _ hz) clX0_40 st_X9_isCell rfl rfl (by rw [hRm]; first | decide | (simp only [clS]; omega)) (by rw [hRm]; first | decide | (simp only [clS]; omega)) (fun _ => Nat.le_of_ble_eq_true rfl) (by rw [hRm]; first | decide | (simp only [clS]; omega)) (by rw [hRm]; first | decide | (simp only [clS]; omega)) dX0_offer_1 (fun r1 w1 hp1 => ?_)
    obtain ⟨rfl, hw1⟩ := hp1
    rw [hw1]
    have hbw1 := ite01 (0 ≤ z ∧ z < 400)
    refine g_if_eq (tgt := 54) h dX0_offer_4 (by decide) (by first | assumption | exact ⟨by omega, by omega⟩) (fun c4 => ?_) (fun c4 => ?_)
    · refine g_vret h hQ (by first | decide | omega | (simp only [clS]; omega)) (by first | decide | omega | (simp only [clS]; omega)) ?_ dX0_offer_54
      refine ⟨rfl, ?_⟩
      unfold ofW
      rw [if_neg (by omega)]
    · exfalso; omega
set_option maxRecDepth 100000 in
set_option maxHeartbeats 4000000 in
theorem c_X0_letRun (l : Launch) (w : AW) (sz : Nat) (frm : Nat) (amt : Int) (hC : CI w sz) (hf : frm < 400) (ha : 0 ≤ amt ∧ amt ≤ 1000000) (hri : 0 ≤ w.2.1 36 1 ∧ w.2.1 36 1 ≤ 200) (hth : 1 ≤ w.2.1 36 2 ∧ w.2.1 36 2 ≤ 10000) (hsp : 1 ≤ w.2.1 36 3 ∧ w.2.1 36 3 ≤ 50) : HT l yX0_letRun cX0_letRun 8 (some .int) 4 0 0 w [ar 36, ai (frm : Int), ai amt] (fun r w' => r = some (ai (rlF (w.2.1 37 frm + w.2.1 36 1) (w.2.1 36 3) (mostF amt (w.2.1 36 2)) 400 0 (lr0 w (frm : Int) (w.2.1 37 frm + w.2.1 36 1))).1) ∧ w' = (rlF (w.2.1 37 frm + w.2.1 36 1) (w.2.1 36 3) (mostF amt (w.2.1 36 2)) 400 0 (lr0 w (frm : Int) (w.2.1 37 frm + w.2.1 36 1))).2) := by
  refine HT.of (by decide) (by intro v hv; simp only [List.mem_cons, List.not_mem_nil, or_false] at hv; rcases hv with rfl | rfl | rfl <;> rfl) (Nat.le_of_ble_eq_true rfl) ?_
  intro Γ h hQ hRm hnm hl hw0
  obtain ⟨hX, hs, hs2, hK, h37, h39⟩ := id hC
  have s36 : w.1 36 = (100, 0) := hX.1 36 (by decide)
  have s37 : w.1 37 = (1, 400) := hX.1 37 (by decide)
  have s38 : w.1 38 = (1, 400) := hX.1 38 (by decide)
  have s39 : w.1 39 = (1, 400) := hX.1 39 (by decide)
  have s40 : w.1 40 = (101, 0) := hX.1 40 (by decide)
  have p36_0 : w.2.2 36 0 = some 37 := hX.2 (36, 0, 37) (by decide)
  have p36_4 : w.2.2 36 4 = some 38 := hX.2 (36, 4, 38) (by decide)
  have p36_6 : w.2.2 36 6 = some 39 := hX.2 (36, 6, 39) (by decide)
  have p36_7 : w.2.2 36 7 = some 40 := hX.2 (36, 7, 40) (by decide)
  have hfh := h37 frm hf
  have hmo : 0 ≤ mostF amt (w.2.1 36 2) ∧ mostF amt (w.2.1 36 2) ≤ 1000001 := by
    have hd := div_bd ha.1 (show 0 < w.2.1 36 2 by omega)
    unfold mostF
    split <;> omega
  generalize hhi : w.2.1 37 frm + w.2.1 36 1 = hi at hQ
  have hhib : 0 ≤ hi ∧ hi ≤ 1199 := by omega
  generalize hmost : mostF amt (w.2.1 36 2) = most at hQ hmo
  have loop : ∀ (d r s0 : Nat) (u : AW) (x y : Option AV), r + d = 400 → CI u s0 → u.2.1 36 3 = w.2.1 36 3 → rlF hi (w.2.1 36 3) most d (r : Int) u = rlF hi (w.2.1 36 3) most 400 0 (lr0 w (frm : Int) hi) →
      GG Γ 98 [some (ar 36), some (ai (frm : Int)), some (ai amt), some (ai most), some (ai hi), some (ai (r : Int)), x, y] [] u 0 0 := by
    intro d
    induction d with
    | zero =>
      intro r s0 u x y hr hCu hsu hrun
      obtain rfl : r = 400 := by omega
      have hrun2 : ((400 : Int), u) = rlF hi (w.2.1 36 3) most 400 0 (lr0 w (frm : Int) hi) := hrun
      refine g_iload h dX0_letRun_98 rfl ?_
      refine g_iload_n h dX0_letRun_100 rfl ?_
      refine g_icmp_ge (tgt := 191) h dX0_letRun_101 (by decide) (by first | assumption | exact ⟨by omega, by omega⟩) (by first | assumption | exact ⟨by omega, by omega⟩) (fun c101 => ?_) (fun c101 => ?_)
      · refine g_iload h dX0_letRun_191 rfl ?_
        refine g_iret h hQ (by first | decide | omega | (simp only [clS]; omega)) (by first | decide | omega | (simp only [clS]; omega)) ?_ dX0_letRun_193
        rw [← hrun2]
        exact ⟨rfl, rfl⟩
      · refine g_iload h dX0_letRun_104 rfl ?_
        refine g_sipush h dX0_letRun_106 rfl ?_
        refine g_icmp_ge (tgt := 191) h dX0_letRun_109 (by decide) (by first | assumption | exact ⟨by omega, by omega⟩) (by first | assumption | exact ⟨by omega, by omega⟩) (fun c109 => ?_) (fun c109 => ?_)
        · refine g_iload h dX0_letRun_191 rfl ?_
          refine g_iret h hQ (by first | decide | omega | (simp only [clS]; omega)) (by first | decide | omega | (simp only [clS]; omega)) ?_ dX0_letRun_193
          rw [← hrun2]
          exact ⟨rfl, rfl⟩
        · exfalso; omega
    | succ d ih =>
      intro r s0 u x y hr hCu hsu hrun
      obtain ⟨hXu, hsu2, hsu3, hKu, hu37, hu39⟩ := id hCu
      have t36 : u.1 36 = (100, 0) := hXu.1 36 (by decide)
      have t40 : u.1 40 = (101, 0) := hXu.1 40 (by decide)
      have t38 : u.1 38 = (1, 400) := hXu.1 38 (by decide)
      have tp7 : u.2.2 36 7 = some 40 := hXu.2 (36, 7, 40) (by decide)
      have tp4 : u.2.2 36 4 = some 38 := hXu.2 (36, 4, 38) (by decide)
      have ez := CI_sz hCu
      have hk0 := hKu 0 (by decide)
      have hrun2 : (if (r : Int) < most ∧ 0 < u.2.1 40 1 then rlF hi (w.2.1 36 3) most d ((r : Int) + 1) (of4 (upI (takW u (szW u)) 38 (u.2.1 41 0 % 400).toNat ((r : Int) / w.2.1 36 3)) (u.2.1 41 0 % 400) hi 4) else ((r : Int), u)) = rlF hi (w.2.1 36 3) most 400 0 (lr0 w (frm : Int) hi) := hrun
      have hc4 : 0 ≤ u.2.1 41 0 % 400 ∧ u.2.1 41 0 % 400 < 400 := ⟨by omega, by omega⟩
      refine g_iload h dX0_letRun_98 rfl ?_
      refine g_iload_n h dX0_letRun_100 rfl ?_
      refine g_icmp_ge (tgt := 191) h dX0_letRun_101 (by decide) (by first | assumption | exact ⟨by omega, by omega⟩) (by first | assumption | exact ⟨by omega, by omega⟩) (fun c101 => ?_) (fun c101 => ?_)
      · refine g_iload h dX0_letRun_191 rfl ?_
        refine g_iret h hQ (by first | decide | omega | (simp only [clS]; omega)) (by first | decide | omega | (simp only [clS]; omega)) ?_ dX0_letRun_193
        first
        | (exfalso; omega)
        | (rw [if_neg (by omega)] at hrun2
           rw [← hrun2]
           exact ⟨rfl, rfl⟩)
      · refine g_iload h dX0_letRun_104 rfl ?_
        refine g_sipush h dX0_letRun_106 rfl ?_
        refine g_icmp_ge (tgt := 191) h dX0_letRun_109 (by decide) (by first | assumption | exact ⟨by omega, by omega⟩) (by first | assumption | exact ⟨by omega, by omega⟩) (fun c109 => ?_) (fun c109 => ?_)
        · refine g_iload h dX0_letRun_191 rfl ?_
          refine g_iret h hQ (by first | decide | omega | (simp only [clS]; omega)) (by first | decide | omega | (simp only [clS]; omega)) ?_ dX0_letRun_193
          first
          | (exfalso; omega)
          | (rw [if_neg (by omega)] at hrun2
             rw [← hrun2]
             exact ⟨rfl, rfl⟩)
        · refine g_aload_n h dX0_letRun_112 rfl ?_
          refine g_getQ h flX0_36 rfl (by assumption) (by assumption) dX0_letRun_113 ?_
          refine g_getI h flX0_62 rfl (by assumption) dX0_letRun_116 ?_
          rw [hsu2]
          refine g_if_le (tgt := 191) h dX0_letRun_119 (by decide) (by first | assumption | exact ⟨by omega, by omega⟩) (fun c119 => ?_) (fun c119 => ?_)
          · refine g_iload h dX0_letRun_191 rfl ?_
            refine g_iret h hQ (by first | decide | omega | (simp only [clS]; omega)) (by first | decide | omega | (simp only [clS]; omega)) ?_ dX0_letRun_193
            first
            | (exfalso; omega)
            | (rw [if_neg (by omega)] at hrun2
               rw [← hrun2]
               exact ⟨rfl, rfl⟩)
          · refine g_aload_n h dX0_letRun_122 rfl ?_
            refine g_getQ h flX0_36 rfl (by assumption) (by assumption) dX0_letRun_123 ?_
            refine g_callV h rfl (ci := 1) [] (by assumption) (c_X1_takeLeast _ _ s0 hXu hsu2 hsu3 hKu (by omega)) clX0_65 (by decide) rfl in_X1_takeLeast se_X1_takeLeast rfl rfl (by rw [hRm]; first | decide | (simp only [clS]; omega)) (by rw [hRm]; first | decide | (simp only [clS]; omega)) (fun _ => Nat.le_of_ble_eq_true rfl) (by rw [hRm]; first | decide | (simp only [clS]; omega)) (by rw [hRm]; first | decide | (simp only [clS]; omega)) dX0_letRun_126 (fun r126 w126 hp126 => ?_)
            obtain ⟨rfl, hw126⟩ := hp126
            rw [hw126]
            refine g_sipush h dX0_letRun_129 rfl ?_
            have hXt := (CI_tak hCu (show 0 < s0 by omega)).1
            have q36 : (takW u s0).1 36 = (100, 0) := t36
            have q38 : (takW u s0).1 38 = (1, 400) := t38
            have qp : (takW u s0).2.2 36 4 = some 38 := tp4
            refine g_irem h (by first | assumption | exact ⟨by omega, by omega⟩) (by first | assumption | exact ⟨by omega, by omega⟩) (by first | omega | assumption) (by first | omega | assumption) dX0_letRun_132 ?_
            refine g_istore h dX0_letRun_133 (Nat.le_of_ble_eq_true rfl) rfl rfl ?_
            refine g_iload h dX0_letRun_135 rfl ?_
            refine g_callSN h rfl [_] (c_X9_isCell _ _ _ ⟨by omega, by omega⟩) clX0_40 st_X9_isCell rfl rfl (by rw [hRm]; first | decide | (simp only [clS]; omega)) (by rw [hRm]; first | decide | (simp only [clS]; omega)) (fun _ => Nat.le_of_ble_eq_true rfl) (by rw [hRm]; first | decide | (simp only [clS]; omega)) (by rw [hRm]; first | decide | (simp only [clS]; omega)) dX0_letRun_137 (fun r137 w137 hp137 => ?_)
            obtain ⟨rfl, hw137⟩ := hp137
            rw [hw137]
            have hbw137 := ite01 (0 ≤ u.2.1 41 0 % 400 ∧ u.2.1 41 0 % 400 < 400)
            rw [if_pos hc4]
            refine g_if_eq (tgt := 157) h dX0_letRun_140 (by decide) ⟨by decide, by decide⟩ (fun c => absurd c (by decide)) (fun _ => ?_)
            refine g_aload_n h dX0_letRun_143 rfl ?_
            refine g_getQ h flX0_25 rfl (by assumption) (by assumption) dX0_letRun_144 ?_
            refine g_iload h dX0_letRun_147 rfl ?_
            refine g_iload h dX0_letRun_149 rfl ?_
            refine g_aload_n h dX0_letRun_151 rfl ?_
            refine g_getI h flX0_22 rfl (by assumption) dX0_letRun_152 ?_
            rw [takW_36, hsu]
            refine g_idiv h (by first | assumption | exact ⟨by omega, by omega⟩) (by first | assumption | exact ⟨by omega, by omega⟩) (by first | omega | assumption) (by first | omega | assumption) dX0_letRun_155 ?_
            refine g_iast h ((u.2.1 41 0 % 400).toNat) (by assumption) (by first | omega | assumption) (by first | omega | assumption) (by first | decide | omega) dX0_letRun_156 ?_
            refine g_iinc h dX0_letRun_157 rfl (Nat.le_of_ble_eq_true rfl) rfl rfl ?_
            refine g_iconst h dX0_letRun_160 ?_
            refine g_istore h dX0_letRun_161 (Nat.le_of_ble_eq_true rfl) rfl rfl ?_
            have hpos : 0 < s0 := by omega
            have hCt := CI_tak hCu hpos
            have hC8 : CI (upI (takW u s0) 38 (u.2.1 41 0 % 400).toNat ((r : Int) / w.2.1 36 3)) (s0 - 1) := CI_38 hCt
            have es3 : ∀ s, (of4 (upI (takW u s0) 38 (u.2.1 41 0 % 400).toNat ((r : Int) / w.2.1 36 3)) (u.2.1 41 0 % 400) hi s).2.1 36 3 = w.2.1 36 3 := fun s => by
              rw [of4_36, upI_o _ _ _ (by decide), takW_36]
              exact hsu
            rw [if_pos ⟨by omega, by omega⟩, ez] at hrun2
            have side : ∀ (e s : Nat), s + e = 4 → GG Γ 163 [some (ar 36), some (ai (frm : Int)), some (ai amt), some (ai most), some (ai hi), some (ai ((r : Int) + 1)), some (ai (u.2.1 41 0 % 400)), some (ai (s : Int))] [] (of4 (upI (takW u s0) 38 (u.2.1 41 0 % 400).toNat ((r : Int) / w.2.1 36 3)) (u.2.1 41 0 % 400) hi s) 0 0 := by
              intro e
              induction e with
              | zero =>
                intro s hse
                obtain rfl : s = 4 := by omega
                refine g_iload h dX0_letRun_163 rfl ?_
                refine g_iconst h dX0_letRun_165 ?_
                refine g_icmp_ge (tgt := 188) h dX0_letRun_166 (by decide) (by first | assumption | exact ⟨by omega, by omega⟩) (by first | assumption | exact ⟨by omega, by omega⟩) (fun c166 => ?_) (fun c166 => ?_)
                · refine g_goto (tgt := 98) h dX0_letRun_188 (by decide) ?_
                  have hn := ih (r + 1) _ _ (some (ai (u.2.1 41 0 % 400))) (some (ai ((4 : Nat) : Int))) (by omega) (CI_of4 (c := u.2.1 41 0 % 400) (hi := hi) hC8 4).choose_spec (es3 4) hrun2
                  exact hn
                · exfalso; omega
              | succ e ih2 =>
                intro s hse
                obtain ⟨s2, hC4⟩ := CI_of4 (c := u.2.1 41 0 % 400) (hi := hi) hC8 s
                have v36 : (of4 (upI (takW u s0) 38 (u.2.1 41 0 % 400).toNat ((r : Int) / w.2.1 36 3)) (u.2.1 41 0 % 400) hi s).1 36 = (100, 0) := hC4.1.1 36 (by decide)
                have hbb := bsX_bd (s := (s : Int)) hc4
                refine g_iload h dX0_letRun_163 rfl ?_
                refine g_iconst h dX0_letRun_165 ?_
                refine g_icmp_ge (tgt := 188) h dX0_letRun_166 (by decide) (by first | assumption | exact ⟨by omega, by omega⟩) (by first | assumption | exact ⟨by omega, by omega⟩) (fun c166 => ?_) (fun c166 => ?_)
                · exfalso; omega
                · refine g_aload_n h dX0_letRun_169 rfl ?_
                  refine g_iload h dX0_letRun_170 rfl ?_
                  refine g_iload h dX0_letRun_172 rfl ?_
                  refine g_callS h rfl [_, _] (c_X0_beside _ _ _ (s : Int) hc4 ⟨by omega, by omega⟩) clX0_69 st_X0_beside rfl rfl (by rw [hRm]; first | decide | (simp only [clS]; omega)) (by rw [hRm]; first | decide | (simp only [clS]; omega)) (fun _ => Nat.le_of_ble_eq_true rfl) (by rw [hRm]; first | decide | (simp only [clS]; omega)) (by rw [hRm]; first | decide | (simp only [clS]; omega)) dX0_letRun_174 (fun r174 w174 hp174 => ?_)
                  obtain ⟨rfl, hw174⟩ := hp174
                  rw [hw174]
                  refine g_iload h dX0_letRun_177 rfl ?_
                  refine g_callV h rfl (ci := 0) [_, _] (by assumption) (c_X0_offer _ _ s2 _ hi hC4 ⟨by omega, by omega⟩ ⟨by omega, by omega⟩) clX0_58 (by decide) rfl in_X0_offer se_X0_offer rfl rfl (by rw [hRm]; first | decide | (simp only [clS]; omega)) (by rw [hRm]; first | decide | (simp only [clS]; omega)) (fun _ => Nat.le_of_ble_eq_true rfl) (by rw [hRm]; first | decide | (simp only [clS]; omega)) (by rw [hRm]; first | decide | (simp only [clS]; omega)) dX0_letRun_179 (fun r179 w179 hp179 => ?_)
                  obtain ⟨rfl, hw179⟩ := hp179
                  rw [hw179]
                  refine g_iinc h dX0_letRun_182 rfl (Nat.le_of_ble_eq_true rfl) rfl rfl ?_
                  refine g_goto (tgt := 163) h dX0_letRun_185 (by decide) ?_
                  exact ih2 (s + 1) (by omega)
            exact side 4 0 (by omega)
  have f38 : (fillW (upI w 36 5 1) 38 400 (-2)).1 39 = (1, 400) := s39
  have u36 : (upI w 36 5 1).1 36 = (100, 0) := s36
  have u37 : (upI w 36 5 1).1 37 = (1, 400) := s37
  have u38 : (upI w 36 5 1).1 38 = (1, 400) := s38
  have a36 : (fillW (upI w 36 5 1) 38 400 (-2)).1 36 = (100, 0) := s36
  have b36 : (fillW (fillW (upI w 36 5 1) 38 400 (-2)) 39 400 1000000).1 36 = (100, 0) := s36
  have b40 : (fillW (fillW (upI w 36 5 1) 38 400 (-2)) 39 400 1000000).1 40 = (101, 0) := s40
  have d36 : (upI (fillW (fillW (upI w 36 5 1) 38 400 (-2)) 39 400 1000000) 40 1 0).1 36 = (100, 0) := s36
  have hXb : XS (fillW (fillW (upI w 36 5 1) 38 400 (-2)) 39 400 1000000) := XS_of rfl rfl hX
  have hC0 : CI (upI (fillW (fillW (upI w 36 5 1) 38 400 (-2)) 39 400 1000000) 40 1 0) 0 := by
    refine ⟨XS_of rfl rfl hX, upI_self _ _ _ _, by decide, ?_, ?_, fun c hc => ?_⟩
    · exact hK
    · exact h37
    · show 0 ≤ (if c < 400 then (1000000 : Int) else _) ∧ (if c < 400 then (1000000 : Int) else _) ≤ 1000000
      rw [if_pos hc]
      exact ⟨by decide, by decide⟩
  obtain ⟨s1, hC1⟩ := CI_of (z := (frm : Int)) (hi := hi) hC0
  have e3 : (lr0 w (frm : Int) hi).2.1 36 3 = w.2.1 36 3 := by
    unfold lr0
    rw [ofW_36]
    rfl
  refine g_iload_n h dX0_letRun_0 rfl ?_
  refine g_callSN h rfl [_] (c_X9_isCell _ _ _ ⟨by omega, by omega⟩) clX0_40 st_X9_isCell rfl rfl (by rw [hRm]; first | decide | (simp only [clS]; omega)) (by rw [hRm]; first | decide | (simp only [clS]; omega)) (fun _ => Nat.le_of_ble_eq_true rfl) (by rw [hRm]; first | decide | (simp only [clS]; omega)) (by rw [hRm]; first | decide | (simp only [clS]; omega)) dX0_letRun_1 (fun r1 w1 hp1 => ?_)
  obtain ⟨rfl, hw1⟩ := hp1
  rw [hw1]
  rw [if_pos ⟨by omega, by omega⟩]
  refine g_if_eq (tgt := 21) h dX0_letRun_4 (by decide) ⟨by decide, by decide⟩ (fun c => absurd c (by decide)) (fun _ => ?_)
  refine g_aload_n h dX0_letRun_7 rfl ?_
  refine g_getI h flX0_19 rfl (by assumption) dX0_letRun_8 ?_
  refine g_if_le (tgt := 21) h dX0_letRun_11 (by decide) (by first | assumption | exact ⟨by omega, by omega⟩) (fun c11 => ?_) (fun c11 => ?_)
  · exfalso; omega
  · refine g_aload_n h dX0_letRun_14 rfl ?_
    refine g_getI h flX0_22 rfl (by assumption) dX0_letRun_15 ?_
    refine g_if_gt (tgt := 23) h dX0_letRun_18 (by decide) (by first | assumption | exact ⟨by omega, by omega⟩) (fun c18 => ?_) (fun c18 => ?_)
    · refine g_aload_n h dX0_letRun_23 rfl ?_
      refine g_iconst h dX0_letRun_24 ?_
      refine g_putZ h flX0_44 rfl rfl (by assumption) (by omega) dX0_letRun_25 ?_
      refine g_iload_n h dX0_letRun_28 rfl ?_
      refine g_aload_n h dX0_letRun_29 rfl ?_
      refine g_getI h flX0_19 rfl (by assumption) dX0_letRun_30 ?_
      rw [show (upI w 36 5 1).2.1 36 2 = w.2.1 36 2 from rfl]
      refine g_idiv h (by first | assumption | exact ⟨by omega, by omega⟩) (by first | assumption | exact ⟨by omega, by omega⟩) (by first | omega | assumption) (by first | omega | assumption) dX0_letRun_33 ?_
      refine g_iload_n h dX0_letRun_34 rfl ?_
      refine g_aload_n h dX0_letRun_35 rfl ?_
      refine g_getI h flX0_19 rfl (by assumption) dX0_letRun_36 ?_
      rw [show (upI w 36 5 1).2.1 36 2 = w.2.1 36 2 from rfl]
      refine g_irem h (by first | assumption | exact ⟨by omega, by omega⟩) (by first | assumption | exact ⟨by omega, by omega⟩) (by first | omega | assumption) (by first | omega | assumption) dX0_letRun_39 ?_
      have hrm : 0 ≤ amt % w.2.1 36 2 ∧ amt % w.2.1 36 2 < w.2.1 36 2 := ⟨Int.emod_nonneg _ (by omega), Int.emod_lt_of_pos _ (by omega)⟩
      refine g_if_le (tgt := 47) h dX0_letRun_40 (by decide) (by first | assumption | exact ⟨by omega, by omega⟩) (fun c40 => ?_) (fun c40 => ?_)
      · refine g_iconst h dX0_letRun_47 ?_
        refine g_iadd h dX0_letRun_48 ?_
        have em : amt / w.2.1 36 2 + 0 = most := by
          rw [← hmost]
          unfold mostF
          first | rw [if_pos (by omega)] | rw [if_neg (by omega)]
        rw [em]
        refine g_istore_n h dX0_letRun_49 (Nat.le_of_ble_eq_true rfl) rfl rfl ?_
        refine g_aload_n h dX0_letRun_50 rfl ?_
        refine g_getQ h flX0_9 rfl (by assumption) (by assumption) dX0_letRun_51 ?_
        refine g_iload_n h dX0_letRun_54 rfl ?_
        refine g_iald h (frm) (by assumption) (by first | omega | assumption) (by first | omega | assumption) (by first | decide | omega) dX0_letRun_55 ?_
        rw [show (upI w 36 5 1).2.1 37 frm = w.2.1 37 frm from rfl]
        refine g_aload_n h dX0_letRun_56 rfl ?_
        refine g_getI h flX0_15 rfl (by assumption) dX0_letRun_57 ?_
        rw [show (upI w 36 5 1).2.1 36 1 = w.2.1 36 1 from rfl]
        refine g_iadd h dX0_letRun_60 ?_
        rw [hhi]
        refine g_istore h dX0_letRun_61 (Nat.le_of_ble_eq_true rfl) rfl rfl ?_
        refine g_aload_n h dX0_letRun_63 rfl ?_
        refine g_getQ h flX0_25 rfl (by assumption) (by assumption) dX0_letRun_64 ?_
        refine g_bipush h dX0_letRun_67 rfl ?_
        refine g_callS h rfl [_, _] (c_J7_fill_53178 _ _ 38 400 (-2) u38 (by decide)) clX0_48 st_J7_fill_53178 rfl rfl (by rw [hRm]; first | decide | (simp only [clS]; omega)) (by rw [hRm]; first | decide | (simp only [clS]; omega)) (fun _ => Nat.le_of_ble_eq_true rfl) (by rw [hRm]; first | decide | (simp only [clS]; omega)) (by rw [hRm]; first | decide | (simp only [clS]; omega)) dX0_letRun_69 (fun r69 w69 hp69 => ?_)
        obtain ⟨rfl, hw69⟩ := hp69
        rw [hw69]
        refine g_aload_n h dX0_letRun_72 rfl ?_
        refine g_getQ h flX0_28 rfl (by assumption) (by assumption) dX0_letRun_73 ?_
        refine g_ldc h kcX0_54 dX0_letRun_76 ?_
        refine g_callS h rfl [_, _] (c_J7_fill_53178 _ _ 39 400 1000000 f38 (by decide)) clX0_48 st_J7_fill_53178 rfl rfl (by rw [hRm]; first | decide | (simp only [clS]; omega)) (by rw [hRm]; first | decide | (simp only [clS]; omega)) (fun _ => Nat.le_of_ble_eq_true rfl) (by rw [hRm]; first | decide | (simp only [clS]; omega)) (by rw [hRm]; first | decide | (simp only [clS]; omega)) dX0_letRun_78 (fun r78 w78 hp78 => ?_)
        obtain ⟨rfl, hw78⟩ := hp78
        rw [hw78]
        refine g_aload_n h dX0_letRun_81 rfl ?_
        refine g_getQ h flX0_36 rfl (by assumption) (by assumption) dX0_letRun_82 ?_
        refine g_callV h rfl (ci := 1) [] (by assumption) (c_X1_clear _ _ hXb) clX0_55 (by decide) rfl in_X1_clear se_X1_clear rfl rfl (by rw [hRm]; first | decide | (simp only [clS]; omega)) (by rw [hRm]; first | decide | (simp only [clS]; omega)) (fun _ => Nat.le_of_ble_eq_true rfl) (by rw [hRm]; first | decide | (simp only [clS]; omega)) (by rw [hRm]; first | decide | (simp only [clS]; omega)) dX0_letRun_85 (fun r85 w85 hp85 => ?_)
        obtain ⟨rfl, hw85⟩ := hp85
        rw [hw85]
        refine g_aload_n h dX0_letRun_88 rfl ?_
        refine g_iload_n h dX0_letRun_89 rfl ?_
        refine g_iload h dX0_letRun_90 rfl ?_
        refine g_callV h rfl (ci := 0) [_, _] (by assumption) (c_X0_offer _ _ 0 (frm : Int) hi hC0 ⟨by omega, by omega⟩ ⟨by omega, by omega⟩) clX0_58 (by decide) rfl in_X0_offer se_X0_offer rfl rfl (by rw [hRm]; first | decide | (simp only [clS]; omega)) (by rw [hRm]; first | decide | (simp only [clS]; omega)) (fun _ => Nat.le_of_ble_eq_true rfl) (by rw [hRm]; first | decide | (simp only [clS]; omega)) (by rw [hRm]; first | decide | (simp only [clS]; omega)) dX0_letRun_92 (fun r92 w92 hp92 => ?_)
        obtain ⟨rfl, hw92⟩ := hp92
        rw [hw92]
        refine g_iconst h dX0_letRun_95 ?_
        refine g_istore h dX0_letRun_96 (Nat.le_of_ble_eq_true rfl) rfl rfl ?_
        exact loop 400 0 s1 _ none none (by omega) hC1 e3 rfl
      · refine g_iconst h dX0_letRun_43 ?_
        refine g_goto (tgt := 48) h dX0_letRun_44 (by decide) ?_
        refine g_iadd h dX0_letRun_48 ?_
        have em : amt / w.2.1 36 2 + 1 = most := by
          rw [← hmost]
          unfold mostF
          first | rw [if_pos (by omega)] | rw [if_neg (by omega)]
        rw [em]
        refine g_istore_n h dX0_letRun_49 (Nat.le_of_ble_eq_true rfl) rfl rfl ?_
        refine g_aload_n h dX0_letRun_50 rfl ?_
        refine g_getQ h flX0_9 rfl (by assumption) (by assumption) dX0_letRun_51 ?_
        refine g_iload_n h dX0_letRun_54 rfl ?_
        refine g_iald h (frm) (by assumption) (by first | omega | assumption) (by first | omega | assumption) (by first | decide | omega) dX0_letRun_55 ?_
        rw [show (upI w 36 5 1).2.1 37 frm = w.2.1 37 frm from rfl]
        refine g_aload_n h dX0_letRun_56 rfl ?_
        refine g_getI h flX0_15 rfl (by assumption) dX0_letRun_57 ?_
        rw [show (upI w 36 5 1).2.1 36 1 = w.2.1 36 1 from rfl]
        refine g_iadd h dX0_letRun_60 ?_
        rw [hhi]
        refine g_istore h dX0_letRun_61 (Nat.le_of_ble_eq_true rfl) rfl rfl ?_
        refine g_aload_n h dX0_letRun_63 rfl ?_
        refine g_getQ h flX0_25 rfl (by assumption) (by assumption) dX0_letRun_64 ?_
        refine g_bipush h dX0_letRun_67 rfl ?_
        refine g_callS h rfl [_, _] (c_J7_fill_53178 _ _ 38 400 (-2) u38 (by decide)) clX0_48 st_J7_fill_53178 rfl rfl (by rw [hRm]; first | decide | (simp only [clS]; omega)) (by rw [hRm]; first | decide | (simp only [clS]; omega)) (fun _ => Nat.le_of_ble_eq_true rfl) (by rw [hRm]; first | decide | (simp only [clS]; omega)) (by rw [hRm]; first | decide | (simp only [clS]; omega)) dX0_letRun_69 (fun r69 w69 hp69 => ?_)
        obtain ⟨rfl, hw69⟩ := hp69
        rw [hw69]
        refine g_aload_n h dX0_letRun_72 rfl ?_
        refine g_getQ h flX0_28 rfl (by assumption) (by assumption) dX0_letRun_73 ?_
        refine g_ldc h kcX0_54 dX0_letRun_76 ?_
        refine g_callS h rfl [_, _] (c_J7_fill_53178 _ _ 39 400 1000000 f38 (by decide)) clX0_48 st_J7_fill_53178 rfl rfl (by rw [hRm]; first | decide | (simp only [clS]; omega)) (by rw [hRm]; first | decide | (simp only [clS]; omega)) (fun _ => Nat.le_of_ble_eq_true rfl) (by rw [hRm]; first | decide | (simp only [clS]; omega)) (by rw [hRm]; first | decide | (simp only [clS]; omega)) dX0_letRun_78 (fun r78 w78 hp78 => ?_)
        obtain ⟨rfl, hw78⟩ := hp78
        rw [hw78]
        refine g_aload_n h dX0_letRun_81 rfl ?_
        refine g_getQ h flX0_36 rfl (by assumption) (by assumption) dX0_letRun_82 ?_
        refine g_callV h rfl (ci := 1) [] (by assumption) (c_X1_clear _ _ hXb) clX0_55 (by decide) rfl in_X1_clear se_X1_clear rfl rfl (by rw [hRm]; first | decide | (simp only [clS]; omega)) (by rw [hRm]; first | decide | (simp only [clS]; omega)) (fun _ => Nat.le_of_ble_eq_true rfl) (by rw [hRm]; first | decide | (simp only [clS]; omega)) (by rw [hRm]; first | decide | (simp only [clS]; omega)) dX0_letRun_85 (fun r85 w85 hp85 => ?_)
        obtain ⟨rfl, hw85⟩ := hp85
        rw [hw85]
        refine g_aload_n h dX0_letRun_88 rfl ?_
        refine g_iload_n h dX0_letRun_89 rfl ?_
        refine g_iload h dX0_letRun_90 rfl ?_
        refine g_callV h rfl (ci := 0) [_, _] (by assumption) (c_X0_offer _ _ 0 (frm : Int) hi hC0 ⟨by omega, by omega⟩ ⟨by omega, by omega⟩) clX0_58 (by decide) rfl in_X0_offer se_X0_offer rfl rfl (by rw [hRm]; first | decide | (simp only [clS]; omega)) (by rw [hRm]; first | decide | (simp only [clS]; omega)) (fun _ => Nat.le_of_ble_eq_true rfl) (by rw [hRm]; first | decide | (simp only [clS]; omega)) (by rw [hRm]; first | decide | (simp only [clS]; omega)) dX0_letRun_92 (fun r92 w92 hp92 => ?_)
        obtain ⟨rfl, hw92⟩ := hp92
        rw [hw92]
        refine g_iconst h dX0_letRun_95 ?_
        refine g_istore h dX0_letRun_96 (Nat.le_of_ble_eq_true rfl) rfl rfl ?_
        exact loop 400 0 s1 _ none none (by omega) hC1 e3 rfl
    · exfalso; omega
