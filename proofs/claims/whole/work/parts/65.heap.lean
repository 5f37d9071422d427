/-! ===== the heap ===== -/
theorem upI_s2 (w : AW) (k f : Nat) (z : Int) (r : Nat → Int) : upI (sR w k r) k f z = sR w k (uI r f z) := by rw [upI_sR, sR_at, sR_sR]
def KB (row : Nat → Int) : Prop := ∀ j, j < 1601 → 0 ≤ row j ∧ row j ≤ 1000000000
theorem KB_uI {row : Nat → Int} {i : Nat} {x : Int} (h : KB row) (hx : 0 ≤ x ∧ x ≤ 1000000000) : KB (uI row i x) := by
  intro j hj
  unfold uI
  split
  · exact hx
  · exact h j hj
/-- up from a place -/
def sUp : Nat → (Nat → Int) → Nat → Int → (Nat → Int)
  | 0, row, a, x => uI row a x
  | d + 1, row, a, x => if 0 < a ∧ x < row ((a - 1) / 2) then sUp d (uI row a (row ((a - 1) / 2))) ((a - 1) / 2) x else uI row a x
def lcF (row : Nat → Int) (sz a : Nat) : Option Nat := if sz ≤ 2 * a + 1 ∨ 1601 < 2 * a + 2 then none else if 2 * a + 2 < sz ∧ 2 * a + 2 < 1601 ∧ row (2 * a + 2) < row (2 * a + 1) then some (2 * a + 2) else some (2 * a + 1)
/-- down from a place -/
def sDn : Nat → (Nat → Int) → Nat → Nat → Int → (Nat → Int)
  | 0, row, _, a, x => uI row a x
  | d + 1, row, sz, a, x => match lcF row sz a with
    | none => uI row a x
    | some c => if row c < x then sDn d (uI row a (row c)) sz c x else uI row a x
theorem lcF_some {row : Nat → Int} {sz a c : Nat} (h : lcF row sz a = some c) : c < sz ∧ c < 1601 ∧ 2 * a + 1 ≤ c := by
  unfold lcF at h
  split at h
  · cases h
  · split at h
    · cases h; omega
    · cases h; omega
def addW (w : AW) (sz : Nat) (x : Int) : AW := if sz < 1601 then sR (upI w 40 1 ((sz : Int) + 1)) 41 (sUp 11 (w.2.1 41) sz x) else w
def tlR (row : Nat → Int) (sz : Nat) : Nat → Int := sDn 11 row (sz - 1) 0 (row (sz - 1))
def takW (w : AW) (sz : Nat) : AW := sR (upI w 40 1 ((sz : Int) - 1)) 41 (tlR (w.2.1 41) sz)
set_option maxRecDepth 100000 in
set_option maxHeartbeats 4000000 in
theorem c_X1_clear (l : Launch) (w : AW)  (hX : XS w) : HT l yX1_clear cX1_clear 1 none 1 0 0 w [ar 40] (rV (upI w 40 1 0) ) := by
  refine HT.of (by decide) (by intro v hv; simp only [List.mem_cons, List.not_mem_nil, or_false] at hv; rcases hv with rfl <;> rfl) (Nat.le_of_ble_eq_true rfl) ?_
  intro Γ h hQ hRm hnm hl hw0
  have s40 : w.1 40 = (101, 0) := hX.1 40 (by decide)
  refine g_aload_n h dX1_clear_0 rfl ?_
  refine g_iconst h dX1_clear_1 ?_
  refine g_putI h flX1_21 rfl rfl (by assumption) dX1_clear_2 ?_
  refine g_vret h hQ (by first | decide | omega | (simp only [clS]; omega)) (by first | decide | omega | (simp only [clS]; omega)) ?_ dX1_clear_5
  (first | exact ⟨rfl, rfl⟩ | (exfalso; omega))
set_option maxRecDepth 100000 in
set_option maxHeartbeats 4000000 in
theorem c_X1_add (l : Launch) (w : AW) (sz : Nat) (x : Int) (hX : XS w) (hs : w.2.1 40 1 = (sz : Int)) (hs2 : sz ≤ 1601) (hK : KB (w.2.1 41)) (hx : 0 ≤ x ∧ x ≤ 1000000000) : HT l yX1_add cX1_add 4 none 1 0 0 w [ar 40, ai x] (rV (addW w sz x)) := by
  refine HT.of (by decide) (by intro v hv; simp only [List.mem_cons, List.not_mem_nil, or_false] at hv; rcases hv with rfl | rfl <;> rfl) (Nat.le_of_ble_eq_true rfl) ?_
  intro Γ h hQ hRm hnm hl hw0
  have s40 : w.1 40 = (101, 0) := hX.1 40 (by decide)
  have s41 : w.1 41 = (1, 1601) := hX.1 41 (by decide)
  have p40_0 : w.2.2 40 0 = some 41 := hX.2 (40, 0, 41) (by decide)
  have loop : ∀ (d a lev : Nat) (row : Nat → Int), a < 2 ^ d → lev + d ≤ 30 → a ≤ 1600 → KB row → sUp d row a x = sUp 11 (w.2.1 41) sz x → sz < 1601 → GG Γ 37 [some (ar 40), some (ai x), some (ai (a : Int)), some (ai (lev : Int))] [] (sR (upI w 40 1 ((sz : Int) + 1)) 41 row) 0 0 := by
    intro d
    induction d with
    | zero =>
      intro a lev row ha hl2 ha2 hk hup hsz
      have ha0 : a = 0 := by have : a < 1 := ha; omega
      subst ha0
      have t40 : (sR (upI w 40 1 ((sz : Int) + 1)) 41 row).1 40 = (101, 0) := s40
      have t41 : (sR (upI w 40 1 ((sz : Int) + 1)) 41 row).1 41 = (1, 1601) := s41
      have tp : (sR (upI w 40 1 ((sz : Int) + 1)) 41 row).2.2 40 0 = some 41 := p40_0
      refine g_iload_n h dX1_add_37 rfl ?_
      refine g_bipush h dX1_add_38 rfl ?_
      refine g_icmp_ge (tgt := 89) h dX1_add_40 (by decide) (by first | assumption | exact ⟨by omega, by omega⟩) (by first | assumption | exact ⟨by omega, by omega⟩) (fun c40 => ?_) (fun c40 => ?_)
      · refine g_aload_n h dX1_add_89 rfl ?_
        refine g_getQ h flX1_15 rfl (by assumption) (by assumption) dX1_add_90 ?_
        refine g_iload_n h dX1_add_93 rfl ?_
        refine g_iload_n h dX1_add_94 rfl ?_
        refine g_iast h (0) (by assumption) (by first | omega | assumption) (by first | omega | assumption) (by first | decide | omega) dX1_add_95 ?_
        refine g_vret h hQ (by first | decide | omega | (simp only [clS]; omega)) (by first | decide | omega | (simp only [clS]; omega)) ?_ dX1_add_96
        refine ⟨rfl, ?_⟩
        unfold addW
        rw [if_pos hsz, upI_s2, ← hup]
        rfl
      · refine g_iload_n h dX1_add_43 rfl ?_
        refine g_if_le (tgt := 89) h dX1_add_44 (by decide) (by first | assumption | exact ⟨by omega, by omega⟩) (fun c44 => ?_) (fun c44 => ?_)
        · refine g_aload_n h dX1_add_89 rfl ?_
          refine g_getQ h flX1_15 rfl (by assumption) (by assumption) dX1_add_90 ?_
          refine g_iload_n h dX1_add_93 rfl ?_
          refine g_iload_n h dX1_add_94 rfl ?_
          refine g_iast h (0) (by assumption) (by first | omega | assumption) (by first | omega | assumption) (by first | decide | omega) dX1_add_95 ?_
          refine g_vret h hQ (by first | decide | omega | (simp only [clS]; omega)) (by first | decide | omega | (simp only [clS]; omega)) ?_ dX1_add_96
          refine ⟨rfl, ?_⟩
          unfold addW
          rw [if_pos hsz, upI_s2, ← hup]
          rfl
        · exfalso; omega
    | succ d ih =>
      intro a lev row ha hl2 ha2 hk hup hsz
      rw [Nat.pow_succ] at ha
      have t40 : (sR (upI w 40 1 ((sz : Int) + 1)) 41 row).1 40 = (101, 0) := s40
      have t41 : (sR (upI w 40 1 ((sz : Int) + 1)) 41 row).1 41 = (1, 1601) := s41
      have tp : (sR (upI w 40 1 ((sz : Int) + 1)) 41 row).2.2 40 0 = some 41 := p40_0
      have hkp := hk ((a - 1) / 2) (by omega)
      have hup2 : (if 0 < a ∧ x < row ((a - 1) / 2) then sUp d (uI row a (row ((a - 1) / 2))) ((a - 1) / 2) x else uI row a x) = sUp 11 (w.2.1 41) sz x := hup
      refine g_iload_n h dX1_add_37 rfl ?_
      refine g_bipush h dX1_add_38 rfl ?_
      refine g_icmp_ge (tgt := 89) h dX1_add_40 (by decide) (by first | assumption | exact ⟨by omega, by omega⟩) (by first | assumption | exact ⟨by omega, by omega⟩) (fun c40 => ?_) (fun c40 => ?_)
      · refine g_aload_n h dX1_add_89 rfl ?_
        refine g_getQ h flX1_15 rfl (by assumption) (by assumption) dX1_add_90 ?_
        refine g_iload_n h dX1_add_93 rfl ?_
        refine g_iload_n h dX1_add_94 rfl ?_
        refine g_iast h (a) (by assumption) (by first | omega | assumption) (by first | omega | assumption) (by first | decide | omega) dX1_add_95 ?_
        refine g_vret h hQ (by first | decide | omega | (simp only [clS]; omega)) (by first | decide | omega | (simp only [clS]; omega)) ?_ dX1_add_96
        first
        | (exfalso; omega)
        | (refine ⟨rfl, ?_⟩
           unfold addW
           rw [if_neg (by omega)] at hup2
           rw [if_pos hsz, upI_s2, ← hup2])
      · refine g_iload_n h dX1_add_43 rfl ?_
        refine g_if_le (tgt := 89) h dX1_add_44 (by decide) (by first | assumption | exact ⟨by omega, by omega⟩) (fun c44 => ?_) (fun c44 => ?_)
        · refine g_aload_n h dX1_add_89 rfl ?_
          refine g_getQ h flX1_15 rfl (by assumption) (by assumption) dX1_add_90 ?_
          refine g_iload_n h dX1_add_93 rfl ?_
          refine g_iload_n h dX1_add_94 rfl ?_
          refine g_iast h (a) (by assumption) (by first | omega | assumption) (by first | omega | assumption) (by first | decide | omega) dX1_add_95 ?_
          refine g_vret h hQ (by first | decide | omega | (simp only [clS]; omega)) (by first | decide | omega | (simp only [clS]; omega)) ?_ dX1_add_96
          first
          | (exfalso; omega)
          | (refine ⟨rfl, ?_⟩
             unfold addW
             rw [if_neg (by omega)] at hup2
             rw [if_pos hsz, upI_s2, ← hup2])
        · refine g_aload_n h dX1_add_47 rfl ?_
          refine g_getQ h flX1_15 rfl (by assumption) (by assumption) dX1_add_48 ?_
          refine g_iload_n h dX1_add_51 rfl ?_
          refine g_iconst h dX1_add_52 ?_
          refine g_isub h dX1_add_53 ?_
          refine g_iconst h dX1_add_54 ?_
          refine g_idiv h (by first | assumption | exact ⟨by omega, by omega⟩) (by first | assumption | exact ⟨by omega, by omega⟩) (by first | omega | assumption) (by first | omega | assumption) dX1_add_55 ?_
          refine g_iald h ((a - 1) / 2) (by assumption) (by first | omega | assumption) (by first | omega | assumption) (by first | decide | omega) dX1_add_56 ?_
          rw [sR_at]
          refine g_iload_n h dX1_add_57 rfl ?_
          refine g_icmp_le (tgt := 89) h dX1_add_58 (by decide) (by first | assumption | exact ⟨by omega, by omega⟩) (by first | assumption | exact ⟨by omega, by omega⟩) (fun c58 => ?_) (fun c58 => ?_)
          · refine g_aload_n h dX1_add_89 rfl ?_
            refine g_getQ h flX1_15 rfl (by assumption) (by assumption) dX1_add_90 ?_
            refine g_iload_n h dX1_add_93 rfl ?_
            refine g_iload_n h dX1_add_94 rfl ?_
            refine g_iast h (a) (by assumption) (by first | omega | assumption) (by first | omega | assumption) (by first | decide | omega) dX1_add_95 ?_
            refine g_vret h hQ (by first | decide | omega | (simp only [clS]; omega)) (by first | decide | omega | (simp only [clS]; omega)) ?_ dX1_add_96
            first
            | (exfalso; omega)
            | (refine ⟨rfl, ?_⟩
               unfold addW
               rw [if_neg (by omega)] at hup2
               rw [if_pos hsz, upI_s2, ← hup2])
          · refine g_aload_n h dX1_add_61 rfl ?_
            refine g_getQ h flX1_15 rfl (by assumption) (by assumption) dX1_add_62 ?_
            refine g_iload_n h dX1_add_65 rfl ?_
            refine g_aload_n h dX1_add_66 rfl ?_
            refine g_getQ h flX1_15 rfl (by assumption) (by assumption) dX1_add_67 ?_
            refine g_iload_n h dX1_add_70 rfl ?_
            refine g_iconst h dX1_add_71 ?_
            refine g_isub h dX1_add_72 ?_
            refine g_iconst h dX1_add_73 ?_
            refine g_idiv h (by first | assumption | exact ⟨by omega, by omega⟩) (by first | assumption | exact ⟨by omega, by omega⟩) (by first | omega | assumption) (by first | omega | assumption) dX1_add_74 ?_
            refine g_iald h ((a - 1) / 2) (by assumption) (by first | omega | assumption) (by first | omega | assumption) (by first | decide | omega) dX1_add_75 ?_
            rw [sR_at]
            refine g_iast h (a) (by assumption) (by first | omega | assumption) (by first | omega | assumption) (by first | decide | omega) dX1_add_76 ?_
            rw [upI_s2]
            refine g_iload_n h dX1_add_77 rfl ?_
            refine g_iconst h dX1_add_78 ?_
            refine g_isub h dX1_add_79 ?_
            refine g_iconst h dX1_add_80 ?_
            refine g_idiv h (by first | assumption | exact ⟨by omega, by omega⟩) (by first | assumption | exact ⟨by omega, by omega⟩) (by first | omega | assumption) (by first | omega | assumption) dX1_add_81 ?_
            refine g_istore_n h dX1_add_82 (Nat.le_of_ble_eq_true rfl) rfl rfl ?_
            refine g_iinc h dX1_add_83 rfl (Nat.le_of_ble_eq_true rfl) rfl rfl ?_
            refine g_goto (tgt := 37) h dX1_add_86 (by decide) ?_
            have ep : ((a : Int) - 1) / 2 = (((a - 1) / 2 : Nat) : Int) := by omega
            rw [if_pos (by omega)] at hup2
            have := ih ((a - 1) / 2) (lev + 1) (uI row a (row ((a - 1) / 2))) (by omega) (by omega) (by omega) (KB_uI hk hkp) hup2 hsz
            rw [← ep] at this
            exact this
  have e41 : sR (upI w 40 1 ((sz : Int) + 1)) 41 (w.2.1 41) = upI w 40 1 ((sz : Int) + 1) := by
    have : w.2.1 41 = (upI w 40 1 ((sz : Int) + 1)).2.1 41 := (upI_o _ _ _ (by decide)).symm
    rw [this]
    exact sR_self _ _
  refine g_aload_n h dX1_add_0 rfl ?_
  refine g_getI h flX1_21 rfl (by assumption) dX1_add_1 ?_
  rw [hs]
  refine g_if_lt (tgt := 19) h dX1_add_4 (by decide) (by first | assumption | exact ⟨by omega, by omega⟩) (fun c4 => ?_) (fun c4 => ?_)
  · refine g_vret h hQ (by first | decide | omega | (simp only [clS]; omega)) (by first | decide | omega | (simp only [clS]; omega)) ?_ dX1_add_19
    first
    | (exfalso; omega)
    | (refine ⟨rfl, ?_⟩
       unfold addW
       rw [if_neg (by omega)])
  · refine g_aload_n h dX1_add_7 rfl ?_
    refine g_getI h flX1_21 rfl (by assumption) dX1_add_8 ?_
    rw [hs]
    refine g_aload_n h dX1_add_11 rfl ?_
    refine g_getQ h flX1_15 rfl (by assumption) (by assumption) dX1_add_12 ?_
    refine g_alen h (by assumption) (by unfold arK; omega) dX1_add_15 ?_
    refine g_icmp_lt (tgt := 20) h dX1_add_16 (by decide) (by first | assumption | exact ⟨by omega, by omega⟩) (by first | assumption | exact ⟨by omega, by omega⟩) (fun c16 => ?_) (fun c16 => ?_)
    · refine g_aload_n h dX1_add_20 rfl ?_
      refine g_getI h flX1_21 rfl (by assumption) dX1_add_21 ?_
      rw [hs]
      refine g_istore_n h dX1_add_24 (Nat.le_of_ble_eq_true rfl) rfl rfl ?_
      refine g_aload_n h dX1_add_25 rfl ?_
      refine g_dup h dX1_add_26 rfl ?_
      refine g_getI h flX1_21 rfl (by assumption) dX1_add_27 ?_
      rw [hs]
      refine g_iconst h dX1_add_30 ?_
      refine g_iadd h dX1_add_31 ?_
      refine g_putI h flX1_21 rfl rfl (by assumption) dX1_add_32 ?_
      refine g_iconst h dX1_add_35 ?_
      refine g_istore_n h dX1_add_36 (Nat.le_of_ble_eq_true rfl) rfl rfl ?_
      have := loop 11 sz 0 (w.2.1 41) (by show sz < 2048; omega) (by decide) (by omega) hK rfl (by omega)
      rw [e41] at this
      exact this
    · refine g_vret h hQ (by first | decide | omega | (simp only [clS]; omega)) (by first | decide | omega | (simp only [clS]; omega)) ?_ dX1_add_19
      first
      | (exfalso; omega)
      | (refine ⟨rfl, ?_⟩
         unfold addW
         rw [if_neg (by omega)])
set_option maxRecDepth 100000 in
set_option maxHeartbeats 4000000 in
theorem c_X1_lesserChild (l : Launch) (w : AW) (sz a : Nat) (hX : XS w) (hs : w.2.1 40 1 = (sz : Int)) (hs2 : sz ≤ 1601) (hK : KB (w.2.1 41)) (ha : a ≤ 1601) : HT l yX1_lesserChild cX1_lesserChild 3 (some .int) 1 0 0 w [ar 40, ai (a : Int)] (rI (flA (lcF (w.2.1 41) sz a)) w) := by
  refine HT.of (by decide) (by intro v hv; simp only [List.mem_cons, List.not_mem_nil, or_false] at hv; rcases hv with rfl | rfl <;> rfl) (Nat.le_of_ble_eq_true rfl) ?_
  intro Γ h hQ hRm hnm hl hw0
  have s40 : w.1 40 = (101, 0) := hX.1 40 (by decide)
  have s41 : w.1 41 = (1, 1601) := hX.1 41 (by decide)
  have p40_0 : w.2.2 40 0 = some 41 := hX.2 (40, 0, 41) (by decide)
  have h1 : 2 * a + 1 < 1601 → 0 ≤ w.2.1 41 (2 * a + 1) ∧ w.2.1 41 (2 * a + 1) ≤ 1000000000 := fun q => hK _ q
  have h2 : 2 * a + 2 < 1601 → 0 ≤ w.2.1 41 (2 * a + 2) ∧ w.2.1 41 (2 * a + 2) ≤ 1000000000 := fun q => hK _ q
  refine g_iconst h dX1_lesserChild_0 ?_
  refine g_iload_n h dX1_lesserChild_1 rfl ?_
  refine g_imul h dX1_lesserChild_2 ?_
  refine g_iconst h dX1_lesserChild_3 ?_
  refine g_iadd h dX1_lesserChild_4 ?_
  refine g_istore_n h dX1_lesserChild_5 (Nat.le_of_ble_eq_true rfl) rfl rfl ?_
  refine g_iload_n h dX1_lesserChild_6 rfl ?_
  refine g_aload_n h dX1_lesserChild_7 rfl ?_
  refine g_getI h flX1_21 rfl (by assumption) dX1_lesserChild_8 ?_
  rw [hs]
  refine g_icmp_ge (tgt := 25) h dX1_lesserChild_11 (by decide) (by first | assumption | exact ⟨by omega, by omega⟩) (by first | assumption | exact ⟨by omega, by omega⟩) (fun c11 => ?_) (fun c11 => ?_)
  · refine g_iconst h dX1_lesserChild_25 ?_
    refine g_iret h hQ (by first | decide | omega | (simp only [clS]; omega)) (by first | decide | omega | (simp only [clS]; omega)) ?_ dX1_lesserChild_26
    first
    | (exfalso; omega)
    | (refine ⟨?_, rfl⟩
       unfold lcF
       rw [if_pos (by omega)]
       rfl)
  · refine g_iload_n h dX1_lesserChild_14 rfl ?_
    refine g_iconst h dX1_lesserChild_15 ?_
    refine g_iadd h dX1_lesserChild_16 ?_
    refine g_aload_n h dX1_lesserChild_17 rfl ?_
    refine g_getQ h flX1_15 rfl (by assumption) (by assumption) dX1_lesserChild_18 ?_
    refine g_alen h (by assumption) (by unfold arK; omega) dX1_lesserChild_21 ?_
    refine g_icmp_le (tgt := 27) h dX1_lesserChild_22 (by decide) (by first | assumption | exact ⟨by omega, by omega⟩) (by first | assumption | exact ⟨by omega, by omega⟩) (fun c22 => ?_) (fun c22 => ?_)
    · refine g_iload_n h dX1_lesserChild_27 rfl ?_
      refine g_iconst h dX1_lesserChild_28 ?_
      refine g_iadd h dX1_lesserChild_29 ?_
      refine g_aload_n h dX1_lesserChild_30 rfl ?_
      refine g_getI h flX1_21 rfl (by assumption) dX1_lesserChild_31 ?_
      rw [hs]
      refine g_icmp_ge (tgt := 71) h dX1_lesserChild_34 (by decide) (by first | assumption | exact ⟨by omega, by omega⟩) (by first | assumption | exact ⟨by omega, by omega⟩) (fun c34 => ?_) (fun c34 => ?_)
      · refine g_iload_n h dX1_lesserChild_71 rfl ?_
        refine g_iret h hQ (by first | decide | omega | (simp only [clS]; omega)) (by first | decide | omega | (simp only [clS]; omega)) ?_ dX1_lesserChild_72
        first
        | (exfalso; omega)
        | (refine ⟨?_, rfl⟩
           unfold lcF
           rw [if_neg (by omega)]
           first
           | (rw [if_pos (by omega)]
              exact congrArg (fun z => some (ai z)) (by show _ = ((2 * a + 2 : Nat) : Int); omega))
           | (rw [if_neg (by omega)]
              exact congrArg (fun z => some (ai z)) (by show _ = ((2 * a + 1 : Nat) : Int); omega)))
      · refine g_iload_n h dX1_lesserChild_37 rfl ?_
        refine g_iconst h dX1_lesserChild_38 ?_
        refine g_iadd h dX1_lesserChild_39 ?_
        refine g_aload_n h dX1_lesserChild_40 rfl ?_
        refine g_getQ h flX1_15 rfl (by assumption) (by assumption) dX1_lesserChild_41 ?_
        refine g_alen h (by assumption) (by unfold arK; omega) dX1_lesserChild_44 ?_
        refine g_icmp_ge (tgt := 71) h dX1_lesserChild_45 (by decide) (by first | assumption | exact ⟨by omega, by omega⟩) (by first | assumption | exact ⟨by omega, by omega⟩) (fun c45 => ?_) (fun c45 => ?_)
        · refine g_iload_n h dX1_lesserChild_71 rfl ?_
          refine g_iret h hQ (by first | decide | omega | (simp only [clS]; omega)) (by first | decide | omega | (simp only [clS]; omega)) ?_ dX1_lesserChild_72
          first
          | (exfalso; omega)
          | (refine ⟨?_, rfl⟩
             unfold lcF
             rw [if_neg (by omega)]
             first
             | (rw [if_pos (by omega)]
                exact congrArg (fun z => some (ai z)) (by show _ = ((2 * a + 2 : Nat) : Int); omega))
             | (rw [if_neg (by omega)]
                exact congrArg (fun z => some (ai z)) (by show _ = ((2 * a + 1 : Nat) : Int); omega)))
        · refine g_aload_n h dX1_lesserChild_48 rfl ?_
          refine g_getQ h flX1_15 rfl (by assumption) (by assumption) dX1_lesserChild_49 ?_
          refine g_iload_n h dX1_lesserChild_52 rfl ?_
          refine g_iconst h dX1_lesserChild_53 ?_
          refine g_iadd h dX1_lesserChild_54 ?_
          refine g_iald h (2 * a + 2) (by assumption) (by first | omega | assumption) (by first | omega | assumption) (by first | decide | omega) dX1_lesserChild_55 ?_
          refine g_aload_n h dX1_lesserChild_56 rfl ?_
          refine g_getQ h flX1_15 rfl (by assumption) (by assumption) dX1_lesserChild_57 ?_
          refine g_iload_n h dX1_lesserChild_60 rfl ?_
          refine g_iald h (2 * a + 1) (by assumption) (by first | omega | assumption) (by first | omega | assumption) (by first | decide | omega) dX1_lesserChild_61 ?_
          have h1b := h1 (by omega)
          have h2b := h2 (by omega)
          refine g_icmp_ge (tgt := 71) h dX1_lesserChild_62 (by decide) (by first | assumption | exact ⟨by omega, by omega⟩) (by first | assumption | exact ⟨by omega, by omega⟩) (fun c62 => ?_) (fun c62 => ?_)
          · refine g_iload_n h dX1_lesserChild_71 rfl ?_
            refine g_iret h hQ (by first | decide | omega | (simp only [clS]; omega)) (by first | decide | omega | (simp only [clS]; omega)) ?_ dX1_lesserChild_72
            first
            | (exfalso; omega)
            | (refine ⟨?_, rfl⟩
               unfold lcF
               rw [if_neg (by omega)]
               first
               | (rw [if_pos (by omega)]
                  exact congrArg (fun z => some (ai z)) (by show _ = ((2 * a + 2 : Nat) : Int); omega))
               | (rw [if_neg (by omega)]
                  exact congrArg (fun z => some (ai z)) (by show _ = ((2 * a + 1 : Nat) : Int); omega)))
          · refine g_iload_n h dX1_lesserChild_65 rfl ?_
            refine g_iconst h dX1_lesserChild_66 ?_
            refine g_iadd h dX1_lesserChild_67 ?_
            refine g_goto (tgt := 72) h dX1_lesserChild_68 (by decide) ?_
            refine g_iret h hQ (by first | decide | omega | (simp only [clS]; omega)) (by first | decide | omega | (simp only [clS]; omega)) ?_ dX1_lesserChild_72
            first
            | (exfalso; omega)
            | (refine ⟨?_, rfl⟩
               unfold lcF
               rw [if_neg (by omega)]
               first
               | (rw [if_pos (by omega)]
                  exact congrArg (fun z => some (ai z)) (by show _ = ((2 * a + 2 : Nat) : Int); omega))
               | (rw [if_neg (by omega)]
                  exact congrArg (fun z => some (ai z)) (by show _ = ((2 * a + 1 : Nat) : Int); omega)))
    · refine g_iconst h dX1_lesserChild_25 ?_
      refine g_iret h hQ (by first | decide | omega | (simp only [clS]; omega)) (by first | decide | omega | (simp only [clS]; omega)) ?_ dX1_lesserChild_26
      first
      | (exfalso; omega)
      | (refine ⟨?_, rfl⟩
         unfold lcF
         rw [if_pos (by omega)]
         rfl)
set_option maxRecDepth 100000 in
set_option maxHeartbeats 4000000 in
theorem c_X1_sink (l : Launch) (w : AW) (sz : Nat) (x : Int) (hX : XS w) (hs : w.2.1 40 1 = (sz : Int)) (hs2 : sz ≤ 1601) (hK : KB (w.2.1 41)) (hsz : sz ≤ 1600) (hx : 0 ≤ x ∧ x ≤ 1000000000) : HT l yX1_sink cX1_sink 5 none 2 0 0 w [ar 40, ai x] (rV (sR w 41 (sDn 11 (w.2.1 41) sz 0 x))) := by
  refine HT.of (by decide) (by intro v hv; simp only [List.mem_cons, List.not_mem_nil, or_false] at hv; rcases hv with rfl | rfl <;> rfl) (Nat.le_of_ble_eq_true rfl) ?_
  intro Γ h hQ hRm hnm hl hw0
  have s40 : w.1 40 = (101, 0) := hX.1 40 (by decide)
  have s41 : w.1 41 = (1, 1601) := hX.1 41 (by decide)
  have p40_0 : w.2.2 40 0 = some 41 := hX.2 (40, 0, 41) (by decide)
  have loop : ∀ (d a lev : Nat) (row : Nat → Int), sz ≤ (a + 1) * 2 ^ d → lev + d ≤ 30 → a ≤ 1600 → KB row → sDn d row sz a x = sDn 11 (w.2.1 41) sz 0 x → GG Γ 11 [some (ar 40), some (ai x), some (ai (a : Int)), some (ai (flA (lcF row sz a))), some (ai (lev : Int))] [] (sR w 41 row) 0 0 := by
    intro d
    induction d with
    | zero =>
      intro a lev row ha hl2 ha2 hk hup
      have ha1 : sz ≤ a + 1 := by simpa using ha
      have hlc : lcF row sz a = none := if_pos (by omega)
      rw [hlc]
      have t40 : (sR w 41 row).1 40 = (101, 0) := s40
      have t41 : (sR w 41 row).1 41 = (1, 1601) := s41
      have tp : (sR w 41 row).2.2 40 0 = some 41 := p40_0
      show GG Γ 11 [some (ar 40), some (ai x), some (ai (a : Int)), some (ai (-1)), some (ai (lev : Int))] [] (sR w 41 row) 0 0
      refine g_iload h dX1_sink_11 rfl ?_
      refine g_bipush h dX1_sink_13 rfl ?_
      refine g_icmp_ge (tgt := 59) h dX1_sink_15 (by decide) (by first | assumption | exact ⟨by omega, by omega⟩) (by first | assumption | exact ⟨by omega, by omega⟩) (fun c15 => ?_) (fun c15 => ?_)
      · refine g_aload_n h dX1_sink_59 rfl ?_
        refine g_getQ h flX1_15 rfl (by assumption) (by assumption) dX1_sink_60 ?_
        refine g_iload_n h dX1_sink_63 rfl ?_
        refine g_iload_n h dX1_sink_64 rfl ?_
        refine g_iast h (a) (by assumption) (by first | omega | assumption) (by first | omega | assumption) (by first | decide | omega) dX1_sink_65 ?_
        refine g_vret h hQ (by first | decide | omega | (simp only [clS]; omega)) (by first | decide | omega | (simp only [clS]; omega)) ?_ dX1_sink_66
        refine ⟨rfl, ?_⟩
        rw [upI_s2, ← hup]
        rfl
      · refine g_iload_n h dX1_sink_18 rfl ?_
        refine g_iconst h dX1_sink_19 ?_
        refine g_icmp_eq (tgt := 59) h dX1_sink_20 (by decide) (by first | assumption | exact ⟨by omega, by omega⟩) (by first | assumption | exact ⟨by omega, by omega⟩) (fun c20 => ?_) (fun c20 => ?_)
        · refine g_aload_n h dX1_sink_59 rfl ?_
          refine g_getQ h flX1_15 rfl (by assumption) (by assumption) dX1_sink_60 ?_
          refine g_iload_n h dX1_sink_63 rfl ?_
          refine g_iload_n h dX1_sink_64 rfl ?_
          refine g_iast h (a) (by assumption) (by first | omega | assumption) (by first | omega | assumption) (by first | decide | omega) dX1_sink_65 ?_
          refine g_vret h hQ (by first | decide | omega | (simp only [clS]; omega)) (by first | decide | omega | (simp only [clS]; omega)) ?_ dX1_sink_66
          refine ⟨rfl, ?_⟩
          rw [upI_s2, ← hup]
          rfl
        · exfalso; omega
    | succ d ih =>
      intro a lev row ha hl2 ha2 hk hup
      have t40 : (sR w 41 row).1 40 = (101, 0) := s40
      have t41 : (sR w 41 row).1 41 = (1, 1601) := s41
      have tp : (sR w 41 row).2.2 40 0 = some 41 := p40_0
      cases hlc : lcF row sz a with
      | none =>
        show GG Γ 11 [some (ar 40), some (ai x), some (ai (a : Int)), some (ai (-1)), some (ai (lev : Int))] [] (sR w 41 row) 0 0
        have hup2 : uI row a x = sDn 11 (w.2.1 41) sz 0 x := by
          rw [← hup]
          unfold sDn
          rw [hlc]
        refine g_iload h dX1_sink_11 rfl ?_
        refine g_bipush h dX1_sink_13 rfl ?_
        refine g_icmp_ge (tgt := 59) h dX1_sink_15 (by decide) (by first | assumption | exact ⟨by omega, by omega⟩) (by first | assumption | exact ⟨by omega, by omega⟩) (fun c15 => ?_) (fun c15 => ?_)
        · refine g_aload_n h dX1_sink_59 rfl ?_
          refine g_getQ h flX1_15 rfl (by assumption) (by assumption) dX1_sink_60 ?_
          refine g_iload_n h dX1_sink_63 rfl ?_
          refine g_iload_n h dX1_sink_64 rfl ?_
          refine g_iast h (a) (by assumption) (by first | omega | assumption) (by first | omega | assumption) (by first | decide | omega) dX1_sink_65 ?_
          refine g_vret h hQ (by first | decide | omega | (simp only [clS]; omega)) (by first | decide | omega | (simp only [clS]; omega)) ?_ dX1_sink_66
          refine ⟨rfl, ?_⟩
          rw [upI_s2, ← hup2]
        · refine g_iload_n h dX1_sink_18 rfl ?_
          refine g_iconst h dX1_sink_19 ?_
          refine g_icmp_eq (tgt := 59) h dX1_sink_20 (by decide) (by first | assumption | exact ⟨by omega, by omega⟩) (by first | assumption | exact ⟨by omega, by omega⟩) (fun c20 => ?_) (fun c20 => ?_)
          · refine g_aload_n h dX1_sink_59 rfl ?_
            refine g_getQ h flX1_15 rfl (by assumption) (by assumption) dX1_sink_60 ?_
            refine g_iload_n h dX1_sink_63 rfl ?_
            refine g_iload_n h dX1_sink_64 rfl ?_
            refine g_iast h (a) (by assumption) (by first | omega | assumption) (by first | omega | assumption) (by first | decide | omega) dX1_sink_65 ?_
            refine g_vret h hQ (by first | decide | omega | (simp only [clS]; omega)) (by first | decide | omega | (simp only [clS]; omega)) ?_ dX1_sink_66
            refine ⟨rfl, ?_⟩
            rw [upI_s2, ← hup2]
          · exfalso; omega
      | some c =>
        obtain ⟨c1, c2, c3⟩ := lcF_some hlc
        show GG Γ 11 [some (ar 40), some (ai x), some (ai (a : Int)), some (ai (c : Int)), some (ai (lev : Int))] [] (sR w 41 row) 0 0
        have hkc := hk c c2
        have hup2 : (if row c < x then sDn d (uI row a (row c)) sz c x else uI row a x) = sDn 11 (w.2.1 41) sz 0 x := by
          rw [← hup]
          conv => rhs; unfold sDn
          rw [hlc]
        have hpw : sz ≤ (c + 1) * 2 ^ d := by
          rw [Nat.pow_succ, ← Nat.mul_assoc, Nat.mul_right_comm] at ha
          exact Nat.le_trans ha (Nat.mul_le_mul_right _ (by omega))
        refine g_iload h dX1_sink_11 rfl ?_
        refine g_bipush h dX1_sink_13 rfl ?_
        refine g_icmp_ge (tgt := 59) h dX1_sink_15 (by decide) (by first | assumption | exact ⟨by omega, by omega⟩) (by first | assumption | exact ⟨by omega, by omega⟩) (fun c15 => ?_) (fun c15 => ?_)
        · refine g_aload_n h dX1_sink_59 rfl ?_
          refine g_getQ h flX1_15 rfl (by assumption) (by assumption) dX1_sink_60 ?_
          refine g_iload_n h dX1_sink_63 rfl ?_
          refine g_iload_n h dX1_sink_64 rfl ?_
          refine g_iast h (a) (by assumption) (by first | omega | assumption) (by first | omega | assumption) (by first | decide | omega) dX1_sink_65 ?_
          refine g_vret h hQ (by first | decide | omega | (simp only [clS]; omega)) (by first | decide | omega | (simp only [clS]; omega)) ?_ dX1_sink_66
          first
          | (exfalso; omega)
          | (refine ⟨rfl, ?_⟩
             rw [if_neg (by omega)] at hup2
             rw [upI_s2, ← hup2])
        · refine g_iload_n h dX1_sink_18 rfl ?_
          refine g_iconst h dX1_sink_19 ?_
          refine g_icmp_eq (tgt := 59) h dX1_sink_20 (by decide) (by first | assumption | exact ⟨by omega, by omega⟩) (by first | assumption | exact ⟨by omega, by omega⟩) (fun c20 => ?_) (fun c20 => ?_)
          · refine g_aload_n h dX1_sink_59 rfl ?_
            refine g_getQ h flX1_15 rfl (by assumption) (by assumption) dX1_sink_60 ?_
            refine g_iload_n h dX1_sink_63 rfl ?_
            refine g_iload_n h dX1_sink_64 rfl ?_
            refine g_iast h (a) (by assumption) (by first | omega | assumption) (by first | omega | assumption) (by first | decide | omega) dX1_sink_65 ?_
            refine g_vret h hQ (by first | decide | omega | (simp only [clS]; omega)) (by first | decide | omega | (simp only [clS]; omega)) ?_ dX1_sink_66
            first
            | (exfalso; omega)
            | (refine ⟨rfl, ?_⟩
               rw [if_neg (by omega)] at hup2
               rw [upI_s2, ← hup2])
          · refine g_aload_n h dX1_sink_23 rfl ?_
            refine g_getQ h flX1_15 rfl (by assumption) (by assumption) dX1_sink_24 ?_
            refine g_iload_n h dX1_sink_27 rfl ?_
            refine g_iald h (c) (by assumption) (by first | omega | assumption) (by first | omega | assumption) (by first | decide | omega) dX1_sink_28 ?_
            rw [sR_at]
            refine g_iload_n h dX1_sink_29 rfl ?_
            refine g_icmp_ge (tgt := 59) h dX1_sink_30 (by decide) (by first | assumption | exact ⟨by omega, by omega⟩) (by first | assumption | exact ⟨by omega, by omega⟩) (fun c30 => ?_) (fun c30 => ?_)
            · refine g_aload_n h dX1_sink_59 rfl ?_
              refine g_getQ h flX1_15 rfl (by assumption) (by assumption) dX1_sink_60 ?_
              refine g_iload_n h dX1_sink_63 rfl ?_
              refine g_iload_n h dX1_sink_64 rfl ?_
              refine g_iast h (a) (by assumption) (by first | omega | assumption) (by first | omega | assumption) (by first | decide | omega) dX1_sink_65 ?_
              refine g_vret h hQ (by first | decide | omega | (simp only [clS]; omega)) (by first | decide | omega | (simp only [clS]; omega)) ?_ dX1_sink_66
              first
              | (exfalso; omega)
              | (refine ⟨rfl, ?_⟩
                 rw [if_neg (by omega)] at hup2
                 rw [upI_s2, ← hup2])
            · refine g_aload_n h dX1_sink_33 rfl ?_
              refine g_getQ h flX1_15 rfl (by assumption) (by assumption) dX1_sink_34 ?_
              refine g_iload_n h dX1_sink_37 rfl ?_
              refine g_aload_n h dX1_sink_38 rfl ?_
              refine g_getQ h flX1_15 rfl (by assumption) (by assumption) dX1_sink_39 ?_
              refine g_iload_n h dX1_sink_42 rfl ?_
              refine g_iald h (c) (by assumption) (by first | omega | assumption) (by first | omega | assumption) (by first | decide | omega) dX1_sink_43 ?_
              rw [sR_at]
              refine g_iast h (a) (by assumption) (by first | omega | assumption) (by first | omega | assumption) (by first | decide | omega) dX1_sink_44 ?_
              rw [upI_s2]
              refine g_iload_n h dX1_sink_45 rfl ?_
              refine g_istore_n h dX1_sink_46 (Nat.le_of_ble_eq_true rfl) rfl rfl ?_
              refine g_aload_n h dX1_sink_47 rfl ?_
              refine g_iload_n h dX1_sink_48 rfl ?_
              refine g_callV h rfl (ci := 1) [_] (by first | assumption | exact s40) (c_X1_lesserChild _ _ sz c (XS_of rfl rfl hX) hs hs2 (by rw [sR_at]; exact KB_uI hk hkc) (by omega)) clX1_29 (by decide) rfl in_X1_lesserChild se_X1_lesserChild rfl rfl (by rw [hRm]; first | decide | (simp only [clS]; omega)) (by rw [hRm]; first | decide | (simp only [clS]; omega)) (fun _ => Nat.le_of_ble_eq_true rfl) (by rw [hRm]; first | decide | (simp only [clS]; omega)) (by rw [hRm]; first | decide | (simp only [clS]; omega)) dX1_sink_49 (fun r49 w49 hp49 => ?_)
              obtain ⟨rfl, hw49⟩ := hp49
              rw [hw49]
              rw [sR_at]
              refine g_istore_n h dX1_sink_52 (Nat.le_of_ble_eq_true rfl) rfl rfl ?_
              refine g_iinc h dX1_sink_53 rfl (Nat.le_of_ble_eq_true rfl) rfl rfl ?_
              refine g_goto (tgt := 11) h dX1_sink_56 (by decide) ?_
              rw [if_pos (by omega)] at hup2
              exact ih c (lev + 1) (uI row a (row c)) hpw (by omega) (by omega) (KB_uI hk hkc) hup2
  have e41 : sR w 41 (w.2.1 41) = w := sR_self _ _
  refine g_iconst h dX1_sink_0 ?_
  refine g_istore_n h dX1_sink_1 (Nat.le_of_ble_eq_true rfl) rfl rfl ?_
  refine g_aload_n h dX1_sink_2 rfl ?_
  refine g_iconst h dX1_sink_3 ?_
  refine g_callV h rfl (ci := 1) [_] (by assumption) (c_X1_lesserChild _ _ sz 0 hX hs hs2 hK (by decide)) clX1_29 (by decide) rfl in_X1_lesserChild se_X1_lesserChild rfl rfl (by rw [hRm]; first | decide | (simp only [clS]; omega)) (by rw [hRm]; first | decide | (simp only [clS]; omega)) (fun _ => Nat.le_of_ble_eq_true rfl) (by rw [hRm]; first | decide | (simp only [clS]; omega)) (by rw [hRm]; first | decide | (simp only [clS]; omega)) dX1_sink_4 (fun r4 w4 hp4 => ?_)
  obtain ⟨rfl, hw4⟩ := hp4
  rw [hw4]
  refine g_istore_n h dX1_sink_7 (Nat.le_of_ble_eq_true rfl) rfl rfl ?_
  refine g_iconst h dX1_sink_8 ?_
  refine g_istore h dX1_sink_9 (Nat.le_of_ble_eq_true rfl) rfl rfl ?_
  have := loop 11 0 0 (w.2.1 41) (by show sz ≤ 1 * 2048; omega) (by decide) (by decide) hK rfl
  rw [e41] at this
  exact this
set_option maxRecDepth 100000 in
set_option maxHeartbeats 4000000 in
theorem c_X1_takeLeast (l : Launch) (w : AW) (sz : Nat) (hX : XS w) (hs : w.2.1 40 1 = (sz : Int)) (hs2 : sz ≤ 1601) (hK : KB (w.2.1 41)) (hsz : 0 < sz) : HT l yX1_takeLeast cX1_takeLeast 2 (some .int) 3 0 0 w [ar 40] (fun r w' => r = some (ai (w.2.1 41 0)) ∧ w' = takW w sz) := by
  refine HT.of (by decide) (by intro v hv; simp only [List.mem_cons, List.not_mem_nil, or_false] at hv; rcases hv with rfl <;> rfl) (Nat.le_of_ble_eq_true rfl) ?_
  intro Γ h hQ hRm hnm hl hw0
  have s40 : w.1 40 = (101, 0) := hX.1 40 (by decide)
  have s41 : w.1 41 = (1, 1601) := hX.1 41 (by decide)
  have p40_0 : w.2.2 40 0 = some 41 := hX.2 (40, 0, 41) (by decide)
  have hk0 := hK 0 (by decide)
  have t40 : (upI w 40 1 ((sz : Int) - 1)).1 40 = (101, 0) := s40
  have ts : (upI w 40 1 ((sz : Int) - 1)).2.1 40 1 = ((sz - 1 : Nat) : Int) := (upI_self _ _ _ _).trans (by omega)
  have e41 : (upI w 40 1 ((sz : Int) - 1)).2.1 41 = w.2.1 41 := upI_o _ _ _ (by decide)
  refine g_aload_n h dX1_takeLeast_0 rfl ?_
  refine g_getI h flX1_21 rfl (by assumption) dX1_takeLeast_1 ?_
  rw [hs]
  refine g_if_le (tgt := 19) h dX1_takeLeast_4 (by decide) (by first | assumption | exact ⟨by omega, by omega⟩) (fun c4 => ?_) (fun c4 => ?_)
  · exfalso; omega
  · refine g_aload_n h dX1_takeLeast_7 rfl ?_
    refine g_getI h flX1_21 rfl (by assumption) dX1_takeLeast_8 ?_
    rw [hs]
    refine g_aload_n h dX1_takeLeast_11 rfl ?_
    refine g_getQ h flX1_15 rfl (by assumption) (by assumption) dX1_takeLeast_12 ?_
    refine g_alen h (by assumption) (by unfold arK; omega) dX1_takeLeast_15 ?_
    refine g_icmp_le (tgt := 21) h dX1_takeLeast_16 (by decide) (by first | assumption | exact ⟨by omega, by omega⟩) (by first | assumption | exact ⟨by omega, by omega⟩) (fun c16 => ?_) (fun c16 => ?_)
    · refine g_aload_n h dX1_takeLeast_21 rfl ?_
      refine g_getQ h flX1_15 rfl (by assumption) (by assumption) dX1_takeLeast_22 ?_
      refine g_iconst h dX1_takeLeast_25 ?_
      refine g_iald h (0) (by assumption) (by first | omega | assumption) (by first | omega | assumption) (by first | decide | omega) dX1_takeLeast_26 ?_
      refine g_istore_n h dX1_takeLeast_27 (Nat.le_of_ble_eq_true rfl) rfl rfl ?_
      refine g_aload_n h dX1_takeLeast_28 rfl ?_
      refine g_dup h dX1_takeLeast_29 rfl ?_
      refine g_getI h flX1_21 rfl (by assumption) dX1_takeLeast_30 ?_
      rw [hs]
      refine g_iconst h dX1_takeLeast_33 ?_
      refine g_isub h dX1_takeLeast_34 ?_
      refine g_putI h flX1_21 rfl rfl (by assumption) dX1_takeLeast_35 ?_
      refine g_aload_n h dX1_takeLeast_38 rfl ?_
      refine g_aload_n h dX1_takeLeast_39 rfl ?_
      refine g_getQ h flX1_15 rfl (by assumption) (by assumption) dX1_takeLeast_40 ?_
      refine g_aload_n h dX1_takeLeast_43 rfl ?_
      refine g_getI h flX1_21 rfl (by assumption) dX1_takeLeast_44 ?_
      rw [ts]
      refine g_iald h (sz - 1) (by assumption) (by first | omega | assumption) (by first | omega | assumption) (by first | decide | omega) dX1_takeLeast_47 ?_
      rw [e41]
      refine g_callV h rfl (ci := 1) [_] (by assumption) (c_X1_sink _ _ (sz - 1) (w.2.1 41 (sz - 1)) (XS_of rfl rfl hX) ts (by omega) (by rw [e41]; exact hK) (by omega) (hK _ (by omega))) clX1_25 (by decide) rfl in_X1_sink se_X1_sink rfl rfl (by rw [hRm]; first | decide | (simp only [clS]; omega)) (by rw [hRm]; first | decide | (simp only [clS]; omega)) (fun _ => Nat.le_of_ble_eq_true rfl) (by rw [hRm]; first | decide | (simp only [clS]; omega)) (by rw [hRm]; first | decide | (simp only [clS]; omega)) dX1_takeLeast_48 (fun r48 w48 hp48 => ?_)
      obtain ⟨rfl, hw48⟩ := hp48
      rw [hw48]
      refine g_iload_n h dX1_takeLeast_51 rfl ?_
      refine g_iret h hQ (by first | decide | omega | (simp only [clS]; omega)) (by first | decide | omega | (simp only [clS]; omega)) ?_ dX1_takeLeast_52
      refine ⟨rfl, ?_⟩
      unfold takW tlR
      rfl
    · exfalso; omega
