/-! ===== the class: its cells ===== -/
def shX (k : Nat) : Nat × Nat := match k with
  | 0 => (109, 0)
  | 1 => (202, 2)
  | 2 => (102, 0)
  | 3 => (102, 0)
  | 4 => (102, 0)
  | 5 => (1, 10)
  | 6 => (1, 10)
  | 7 => (1, 10)
  | 8 => (1, 10)
  | 9 => (1, 10)
  | 10 => (1, 10)
  | 11 => (1, 10)
  | 12 => (1, 10)
  | 13 => (1, 10)
  | 14 => (203, 3)
  | 15 => (203, 3)
  | 16 => (203, 3)
  | 17 => (203, 6)
  | 18 => (1, 3)
  | 19 => (1, 3)
  | 20 => (105, 0)
  | 21 => (1, 300)
  | 22 => (204, 16)
  | 23 => (106, 0)
  | 24 => (1, 300)
  | 25 => (1, 300)
  | 26 => (1, 9)
  | 27 => (1, 31)
  | 28 => (107, 0)
  | 29 => (1, 300)
  | 30 => (1, 300)
  | 31 => (1, 300)
  | 32 => (1, 60)
  | 33 => (1, 60)
  | 34 => (1, 60)
  | 35 => (1, 60)
  | 36 => (100, 0)
  | 37 => (1, 400)
  | 38 => (1, 400)
  | 39 => (1, 400)
  | 40 => (101, 0)
  | 41 => (1, 1601)
  | 42 => (208, 20)
  | _ => (0, 0)
def ptX : List (Nat × Nat × Nat) := [(0, 0, 1), (0, 1, 4), (0, 2, 17), (0, 4, 18), (0, 5, 19), (0, 7, 20), (0, 9, 28), (0, 10, 36), (0, 11, 42), (1, 0, 2), (1, 1, 3), (2, 0, 5), (2, 1, 8), (2, 2, 11), (2, 3, 14), (3, 0, 6), (3, 1, 9), (3, 2, 12), (3, 3, 15), (4, 0, 7), (4, 1, 10), (4, 2, 13), (4, 3, 16), (20, 0, 21), (20, 2, 22), (20, 4, 23), (20, 7, 26), (20, 8, 27), (23, 0, 21), (23, 13, 24), (23, 15, 25), (28, 0, 29), (28, 1, 30), (28, 2, 31), (28, 4, 32), (28, 5, 33), (28, 6, 34), (28, 7, 35), (36, 0, 37), (36, 4, 38), (36, 6, 39), (36, 7, 40), (40, 0, 41)]
/-- the fixed cells of the class's object, at places 0 to 42 -/
def XS (w : AW) : Prop := (∀ k, k < 43 → w.1 k = shX k) ∧ ∀ q ∈ ptX, w.2.2 q.1 q.2.1 = some q.2.2
theorem XS_LK {w : AW} (h : XS w) : ∀ L, L < 3 → LK w L := by
  intro L hL
  rcases (show L = 0 ∨ L = 1 ∨ L = 2 by omega) with rfl | rfl | rfl
  · exact ⟨by decide, h.1 2 (by decide), h.1 5 (by decide), h.1 8 (by decide), h.1 11 (by decide), h.1 14 (by decide), h.2 (2, 0, 5) (by decide), h.2 (2, 1, 8) (by decide), h.2 (2, 2, 11) (by decide), h.2 (2, 3, 14) (by decide)⟩
  · exact ⟨by decide, h.1 3 (by decide), h.1 6 (by decide), h.1 9 (by decide), h.1 12 (by decide), h.1 15 (by decide), h.2 (3, 0, 6) (by decide), h.2 (3, 1, 9) (by decide), h.2 (3, 2, 12) (by decide), h.2 (3, 3, 15) (by decide)⟩
  · exact ⟨by decide, h.1 4 (by decide), h.1 7 (by decide), h.1 10 (by decide), h.1 13 (by decide), h.1 16 (by decide), h.2 (4, 0, 7) (by decide), h.2 (4, 1, 10) (by decide), h.2 (4, 2, 13) (by decide), h.2 (4, 3, 16) (by decide)⟩
theorem XS_of {w w' : AW} (h1 : w'.1 = w.1) (h2 : w'.2.2 = w.2.2) (h : XS w) : XS w' := by unfold XS at h ⊢; rw [h1, h2]; exact h
abbrev rZ (v : Int) (w2 : AW) : Option AV → AW → Prop := fun r w' => r = some (ai v) ∧ w' = w2
set_option maxRecDepth 100000 in
set_option maxHeartbeats 4000000 in
theorem c_X9_denied (l : Launch) (w : AW) (z : Int) (hX : XS w) : HT l yX9_denied cX9_denied 2 (some .boolean) 1 0 0 w [ar 0, ai z] (rZ 0 (upI w 0 16 z)) := by
  refine HT.of (by decide) (by intro v hv; simp only [List.mem_cons, List.not_mem_nil, or_false] at hv; rcases hv with rfl | rfl <;> rfl) (Nat.le_of_ble_eq_true rfl) ?_
  intro Γ h hQ hRm hnm hl hw0
  have s0 : w.1 0 = (109, 0) := hX.1 0 (by decide)
  refine g_aload_n h dX9_denied_0 rfl ?_
  refine g_iload_n h dX9_denied_1 rfl ?_
  refine g_putI h flX9_258 rfl rfl (by assumption) dX9_denied_2 ?_
  refine g_iconst h dX9_denied_5 ?_
  refine g_zret h hQ (by decide) (by decide) (by omega) ?_ dX9_denied_6
  exact ⟨rfl, rfl⟩
set_option maxRecDepth 100000 in
set_option maxHeartbeats 4000000 in
theorem c_X9_granted (l : Launch) (w : AW)  (hX : XS w) : HT l yX9_granted cX9_granted 1 (some .boolean) 1 0 0 w [ar 0] (rZ 1 (upI w 0 16 0)) := by
  refine HT.of (by decide) (by intro v hv; simp only [List.mem_cons, List.not_mem_nil, or_false] at hv; rcases hv with rfl <;> rfl) (Nat.le_of_ble_eq_true rfl) ?_
  intro Γ h hQ hRm hnm hl hw0
  have s0 : w.1 0 = (109, 0) := hX.1 0 (by decide)
  refine g_aload_n h dX9_granted_0 rfl ?_
  refine g_iconst h dX9_granted_1 ?_
  refine g_putI h flX9_258 rfl rfl (by assumption) dX9_granted_2 ?_
  refine g_iconst h dX9_granted_5 ?_
  refine g_zret h hQ (by decide) (by decide) (by omega) ?_ dX9_granted_6
  exact ⟨rfl, rfl⟩
set_option maxRecDepth 100000 in
set_option maxHeartbeats 4000000 in
theorem c_X9_refused (l : Launch) (w : AW) (z : Int) (hX : XS w) : HT l yX9_refused cX9_refused 2 (some .int) 1 0 0 w [ar 0, ai z] (rZ (-1) (upI w 0 16 z)) := by
  refine HT.of (by decide) (by intro v hv; simp only [List.mem_cons, List.not_mem_nil, or_false] at hv; rcases hv with rfl | rfl <;> rfl) (Nat.le_of_ble_eq_true rfl) ?_
  intro Γ h hQ hRm hnm hl hw0
  have s0 : w.1 0 = (109, 0) := hX.1 0 (by decide)
  refine g_aload_n h dX9_refused_0 rfl ?_
  refine g_iload_n h dX9_refused_1 rfl ?_
  refine g_putI h flX9_258 rfl rfl (by assumption) dX9_refused_2 ?_
  refine g_iconst h dX9_refused_5 ?_
  refine g_iret h hQ (by decide) (by decide) ?_ dX9_refused_6
  exact ⟨rfl, rfl⟩
set_option maxRecDepth 100000 in
set_option maxHeartbeats 4000000 in
theorem c_X9_answered (l : Launch) (w : AW) (z : Int) (hX : XS w) : HT l yX9_answered cX9_answered 2 (some .int) 1 0 0 w [ar 0, ai z] (rZ z (upI w 0 16 0)) := by
  refine HT.of (by decide) (by intro v hv; simp only [List.mem_cons, List.not_mem_nil, or_false] at hv; rcases hv with rfl | rfl <;> rfl) (Nat.le_of_ble_eq_true rfl) ?_
  intro Γ h hQ hRm hnm hl hw0
  have s0 : w.1 0 = (109, 0) := hX.1 0 (by decide)
  refine g_aload_n h dX9_answered_0 rfl ?_
  refine g_iconst h dX9_answered_1 ?_
  refine g_putI h flX9_258 rfl rfl (by assumption) dX9_answered_2 ?_
  refine g_iload_n h dX9_answered_5 rfl ?_
  refine g_iret h hQ (by decide) (by decide) ?_ dX9_answered_6
  exact ⟨rfl, rfl⟩
def lkA (z : Int) : Option Nat := if 0 ≤ z ∧ z < 2 then some (2 + z.toNat) else none
set_option maxRecDepth 100000 in
set_option maxHeartbeats 4000000 in
theorem c_X9_lakeAt (l : Launch) (w : AW) (z : Int) (hX : XS w) (hz : R32 z) : HT l yX9_lakeAt cX9_lakeAt 2 (some (.object "LakeBreath$Lake")) 1 0 0 w [ar 0, ai z] (fun r w' => r = some (aq (lkA z)) ∧ w' = w) := by
  refine HT.of (by decide) (by intro v hv; simp only [List.mem_cons, List.not_mem_nil, or_false] at hv; rcases hv with rfl | rfl <;> rfl) (Nat.le_of_ble_eq_true rfl) ?_
  intro Γ h hQ hRm hnm hl hw0
  have s0 : w.1 0 = (109, 0) := hX.1 0 (by decide)
  have s1 : w.1 1 = (202, 2) := hX.1 1 (by decide)
  have p0_0 : w.2.2 0 0 = some 1 := hX.2 (0, 0, 1) (by decide)
  refine g_iload_n h dX9_lakeAt_0 rfl ?_
  refine g_if_lt (tgt := 22) h dX9_lakeAt_1 (by decide) (by first | assumption | exact ⟨by omega, by omega⟩) (fun c1 => ?_) (fun c1 => ?_)
  · refine g_null h dX9_lakeAt_22 ?_
    refine g_aret h hQ (by decide) (by decide) ?_ dX9_lakeAt_23
    unfold lkA
    first
    | (rw [if_pos (by omega)]; exact ⟨rfl, rfl⟩)
    | (rw [if_neg (by omega)]; exact ⟨rfl, rfl⟩)
  · refine g_iload_n h dX9_lakeAt_4 rfl ?_
    refine g_aload_n h dX9_lakeAt_5 rfl ?_
    refine g_getQ h flX9_11 rfl (by assumption) (by assumption) dX9_lakeAt_6 ?_
    refine g_alen h (by assumption) (by unfold arK; omega) dX9_lakeAt_9 ?_
    refine g_icmp_ge (tgt := 22) h dX9_lakeAt_10 (by decide) (by first | assumption | exact ⟨by omega, by omega⟩) (by first | assumption | exact ⟨by omega, by omega⟩) (fun c10 => ?_) (fun c10 => ?_)
    · refine g_null h dX9_lakeAt_22 ?_
      refine g_aret h hQ (by decide) (by decide) ?_ dX9_lakeAt_23
      unfold lkA
      first
      | (rw [if_pos (by omega)]; exact ⟨rfl, rfl⟩)
      | (rw [if_neg (by omega)]; exact ⟨rfl, rfl⟩)
    · have hl : w.2.2 1 z.toNat = some (2 + z.toNat) := by
        rcases (show z = 0 ∨ z = 1 by omega) with rfl | rfl
        · exact hX.2 (1, 0, 2) (by decide)
        · exact hX.2 (1, 1, 3) (by decide)
      refine g_aload_n h dX9_lakeAt_13 rfl ?_
      refine g_getQ h flX9_11 rfl (by assumption) (by assumption) dX9_lakeAt_14 ?_
      refine g_iload_n h dX9_lakeAt_17 rfl ?_
      refine g_aald h (z.toNat) (by assumption) (by unfold arK; omega) (by omega) (by omega) (by omega) (by decide) (by assumption) dX9_lakeAt_18 ?_
      refine g_goto (tgt := 23) h dX9_lakeAt_19 (by decide) ?_
      refine g_aret h hQ (by decide) (by decide) ?_ dX9_lakeAt_23
      unfold lkA
      first
      | (rw [if_pos (by omega)]; exact ⟨rfl, rfl⟩)
      | (rw [if_neg (by omega)]; exact ⟨rfl, rfl⟩)
