/-! ===== Lake: pairs are mixed, the water turns over ===== -/
def uI (f : Nat → Int) (k : Nat) (z : Int) : Nat → Int := fun i => if i = k then z else f i
def sR (w : AW) (k : Nat) (g : Nat → Int) : AW := (w.1, fun j => if j = k then g else w.2.1 j, w.2.2)
theorem aw_ext {w w' : AW} (h1 : w.1 = w'.1) (h2 : ∀ j, w.2.1 j = w'.2.1 j) (h3 : w.2.2 = w'.2.2) : w = w' := Prod.ext h1 (Prod.ext (funext h2) h3)
theorem upI_sR (w : AW) (k f : Nat) (z : Int) : upI w k f z = sR w k (uI (w.2.1 k) f z) := rfl
theorem sR_at (w : AW) (k : Nat) (g : Nat → Int) : (sR w k g).2.1 k = g := if_pos rfl
theorem sR_ne (w : AW) {k j : Nat} (g : Nat → Int) (h : j ≠ k) : (sR w k g).2.1 j = w.2.1 j := if_neg h
theorem sR_sR (w : AW) (k : Nat) (g g' : Nat → Int) : sR (sR w k g) k g' = sR w k g' := by
  refine aw_ext rfl (fun j => ?_) rfl
  by_cases h : j = k
  · subst h; rw [sR_at, sR_at]
  · rw [sR_ne _ _ h, sR_ne _ _ h, sR_ne _ _ h]
theorem sR_comm (w : AW) {k j : Nat} (h : k ≠ j) (g g' : Nat → Int) : sR (sR w k g) j g' = sR (sR w j g') k g := by
  refine aw_ext rfl (fun i => ?_) rfl
  by_cases h1 : i = j
  · subst h1; rw [sR_at, sR_ne _ _ (Ne.symm h), sR_at]
  · rw [sR_ne _ _ h1]
    by_cases h2 : i = k
    · subst h2; rw [sR_at, sR_at]
    · rw [sR_ne _ _ h2, sR_ne _ _ h2, sR_ne _ _ h1]
theorem sR_self (w : AW) (k : Nat) : sR w k (w.2.1 k) = w := by
  refine aw_ext rfl (fun i => ?_) rfl
  by_cases h2 : i = k
  · subst h2; rw [sR_at]
  · rw [sR_ne _ _ h2]
def halfF (g : Nat → Int) (i : Nat) : Nat → Int := uI (uI g (i - 1) ((g (i - 1) + g i) / 2)) i ((g (i - 1) + g i) - (g (i - 1) + g i) / 2)
set_option maxRecDepth 100000 in
set_option maxHeartbeats 4000000 in
theorem c_X2_halve (l : Launch) (w : AW) (k i : Nat) (hk : w.1 k = (1, 10)) (h1 : 1 ≤ i) (h9 : i < 10) (hb : ∀ j, j < 10 → 0 ≤ w.2.1 k j ∧ w.2.1 k j ≤ 100000) : HT l yX2_halve cX2_halve 3 none 1 0 0 w [ar k, ai (i : Int)] (rV (sR w k (halfF (w.2.1 k) i))) := by
  refine HT.of (by decide) (by intro v hv; simp only [List.mem_cons, List.not_mem_nil, or_false] at hv; rcases hv with rfl | rfl <;> rfl) (Nat.le_of_ble_eq_true rfl) ?_
  intro Γ h hQ hRm hnm hl hw0
  have hb1 := hb i h9
  have hb2 := hb (i - 1) (by omega)
  refine g_iload_n h dX2_halve_0 rfl ?_
  refine g_iconst h dX2_halve_1 ?_
  refine g_icmp_lt (tgt := 11) h dX2_halve_2 (by decide) (by first | assumption | exact ⟨by omega, by omega⟩) (by first | assumption | exact ⟨by omega, by omega⟩) (fun c2 => ?_) (fun c2 => ?_)
  · refine g_vret h hQ (by decide) (by decide) ?_ dX2_halve_11
    first | exact ⟨rfl, rfl⟩ | (exfalso; omega)
  · refine g_iload_n h dX2_halve_5 rfl ?_
    refine g_aload_n h dX2_halve_6 rfl ?_
    refine g_alen h (by assumption) (by unfold arK; omega) dX2_halve_7 ?_
    refine g_icmp_lt (tgt := 12) h dX2_halve_8 (by decide) (by first | assumption | exact ⟨by omega, by omega⟩) (by first | assumption | exact ⟨by omega, by omega⟩) (fun c8 => ?_) (fun c8 => ?_)
    · refine g_aload_n h dX2_halve_12 rfl ?_
      refine g_iload_n h dX2_halve_13 rfl ?_
      refine g_iconst h dX2_halve_14 ?_
      refine g_isub h dX2_halve_15 ?_
      refine g_iald h (i - 1) (by assumption) (by omega) (by omega) (by decide) dX2_halve_16 ?_
      refine g_aload_n h dX2_halve_17 rfl ?_
      refine g_iload_n h dX2_halve_18 rfl ?_
      refine g_iald h _ (by assumption) rfl (by omega) (by decide) dX2_halve_19 ?_
      refine g_iadd h dX2_halve_20 ?_
      refine g_istore_n h dX2_halve_21 (Nat.le_of_ble_eq_true rfl) rfl rfl ?_
      refine g_aload_n h dX2_halve_22 rfl ?_
      refine g_iload_n h dX2_halve_23 rfl ?_
      refine g_iconst h dX2_halve_24 ?_
      refine g_isub h dX2_halve_25 ?_
      refine g_iload_n h dX2_halve_26 rfl ?_
      refine g_iconst h dX2_halve_27 ?_
      refine g_idiv h (by first | assumption | exact ⟨by omega, by omega⟩) (by first | assumption | exact ⟨by omega, by omega⟩) (by omega) (by omega) dX2_halve_28 ?_
      refine g_iast h (i - 1) (by assumption) (by omega) (by omega) (by decide) dX2_halve_29 ?_
      refine g_aload_n h dX2_halve_30 rfl ?_
      refine g_iload_n h dX2_halve_31 rfl ?_
      refine g_iload_n h dX2_halve_32 rfl ?_
      refine g_iload_n h dX2_halve_33 rfl ?_
      refine g_iconst h dX2_halve_34 ?_
      refine g_idiv h (by first | assumption | exact ⟨by omega, by omega⟩) (by first | assumption | exact ⟨by omega, by omega⟩) (by omega) (by omega) dX2_halve_35 ?_
      refine g_isub h dX2_halve_36 ?_
      refine g_iast h _ (by assumption) rfl (by omega) (by decide) dX2_halve_37 ?_
      refine g_vret h hQ (by decide) (by decide) ?_ dX2_halve_38
      exact ⟨rfl, by rw [upI_sR, upI_sR, sR_sR, sR_at]; rfl⟩
    · refine g_vret h hQ (by decide) (by decide) ?_ dX2_halve_11
      first | exact ⟨rfl, rfl⟩ | (exfalso; omega)
/-- three rows at once -/
def sR3 (w : AW) (L : Nat) (g t s : Nat → Int) : AW := sR (sR (sR w (5 + L) g) (8 + L) t) (11 + L) s
theorem LK_of {w w' : AW} {L : Nat} (h1 : w'.1 = w.1) (h2 : w'.2.2 = w.2.2) (h : LK w L) : LK w' L := by unfold LK at h ⊢; rw [h1, h2]; exact h
theorem sR3_g (w : AW) {L : Nat} (hL : L < 3) (g t s : Nat → Int) : (sR3 w L g t s).2.1 (5 + L) = g := by unfold sR3; rw [sR_ne _ _ (by omega), sR_ne _ _ (by omega), sR_at]
theorem sR3_t (w : AW) {L : Nat} (hL : L < 3) (g t s : Nat → Int) : (sR3 w L g t s).2.1 (8 + L) = t := by unfold sR3; rw [sR_ne _ _ (by omega), sR_at]
theorem sR3_s (w : AW) {L : Nat} (g t s : Nat → Int) : (sR3 w L g t s).2.1 (11 + L) = s := by unfold sR3; rw [sR_at]
theorem sR3_o (w : AW) {L j : Nat} (h1 : j ≠ 5 + L) (h2 : j ≠ 8 + L) (h3 : j ≠ 11 + L) (g t s : Nat → Int) : (sR3 w L g t s).2.1 j = w.2.1 j := by unfold sR3; rw [sR_ne _ _ h3, sR_ne _ _ h2, sR_ne _ _ h1]
theorem sR3_3 (w : AW) {L : Nat} (hL : L < 3) (g t s g' t' s' : Nat → Int) : sR3 (sR3 w L g t s) L g' t' s' = sR3 w L g' t' s' := by
  refine aw_ext rfl (fun j => ?_) rfl
  by_cases h1 : j = 5 + L
  · subst h1; rw [sR3_g _ hL, sR3_g _ hL]
  · by_cases h2 : j = 8 + L
    · subst h2; rw [sR3_t _ hL, sR3_t _ hL]
    · by_cases h3 : j = 11 + L
      · subst h3; rw [sR3_s, sR3_s]
      · rw [sR3_o _ h1 h2 h3, sR3_o _ h1 h2 h3, sR3_o _ h1 h2 h3]
theorem sR3_self (w : AW) (L : Nat) : sR3 w L (w.2.1 (5 + L)) (w.2.1 (8 + L)) (w.2.1 (11 + L)) = w := by
  unfold sR3
  rw [sR_self, sR_self, sR_self]
/-- rows of gas, warmth, salt keep to their bounds -/
def RB (g t s : Nat → Int) : Prop := ∀ i : Nat, i < 10 → 0 ≤ g i ∧ g i ≤ 100000 ∧ 0 ≤ t i ∧ t i ≤ 400 ∧ 0 ≤ s i ∧ s i ≤ 1000
theorem halfF_bd {g : Nat → Int} {i : Nat} {m : Int} (h1 : 1 ≤ i) (h9 : i < 10) (hb : ∀ j, j < 10 → 0 ≤ g j ∧ g j ≤ m) : ∀ j, j < 10 → 0 ≤ halfF g i j ∧ halfF g i j ≤ m := by
  intro j hj
  have a := hb i h9
  have b := hb (i - 1) (by omega)
  have c := hb j hj
  unfold halfF uI
  split
  · omega
  · split <;> omega
theorem RB_half {g t s : Nat → Int} {i : Nat} (h1 : 1 ≤ i) (h9 : i < 10) (h : RB g t s) : RB (halfF g i) (halfF t i) (halfF s i) := by
  intro j hj
  have a := halfF_bd (m := 100000) h1 h9 (fun k hk => ⟨(h k hk).1, (h k hk).2.1⟩) j hj
  have b := halfF_bd (m := 400) h1 h9 (fun k hk => ⟨(h k hk).2.2.1, (h k hk).2.2.2.1⟩) j hj
  have c := halfF_bd (m := 1000) h1 h9 (fun k hk => ⟨(h k hk).2.2.2.2.1, (h k hk).2.2.2.2.2⟩) j hj
  exact ⟨a.1, a.2, b.1, b.2, c.1, c.2⟩
theorem halfF_2 (g : Nat → Int) {i : Nat} (h1 : 1 ≤ i) (hb : 0 ≤ g (i - 1) ∧ 0 ≤ g i) : halfF (halfF g i) i = halfF g i := by
  have e1 : halfF g i (i - 1) = (g (i - 1) + g i) / 2 := by unfold halfF uI; rw [if_neg (by omega), if_pos rfl]
  have e2 : halfF g i i = (g (i - 1) + g i) - (g (i - 1) + g i) / 2 := by unfold halfF uI; rw [if_pos rfl]
  funext j
  show uI (uI (halfF g i) (i - 1) ((halfF g i (i - 1) + halfF g i i) / 2)) i ((halfF g i (i - 1) + halfF g i i) - (halfF g i (i - 1) + halfF g i i) / 2) j = halfF g i j
  rw [e1, e2]
  unfold uI
  by_cases a : j = i
  · rw [if_pos a, a, e2]; omega
  · rw [if_neg a]
    by_cases b : j = i - 1
    · rw [if_pos b, b, e1]; omega
    · rw [if_neg b]
set_option maxRecDepth 100000 in
set_option maxHeartbeats 4000000 in
theorem c_X2_mixPair (l : Launch) (w : AW) (L i : Nat) (hK : LK w L) (hR : RB (w.2.1 (5 + L)) (w.2.1 (8 + L)) (w.2.1 (11 + L))) (h1 : 1 ≤ i) (h9 : i < 10) : HT l yX2_mixPair cX2_mixPair 2 none 2 0 0 w [ar (2 + L), ai (i : Int)] (rV (sR3 w L (halfF (w.2.1 (5 + L)) i) (halfF (w.2.1 (8 + L)) i) (halfF (w.2.1 (11 + L)) i))) := by
  refine HT.of (by decide) (by intro v hv; simp only [List.mem_cons, List.not_mem_nil, or_false] at hv; rcases hv with rfl | rfl <;> rfl) (Nat.le_of_ble_eq_true rfl) ?_
  intro Γ h hQ hRm hnm hl hw0
  obtain ⟨hL3, k2, k5, k8, k11, k14, p0, p1, p2, p3⟩ := id hK
  refine g_aload_n h dX2_mixPair_0 rfl ?_
  refine g_getQ h flX2_9 rfl (by assumption) (by assumption) dX2_mixPair_1 ?_
  refine g_iload_n h dX2_mixPair_4 rfl ?_
  refine g_callS h rfl [_, _] (c_X2_halve _ _ (5 + L) i (by assumption) h1 h9 (fun j hj => ⟨(hR j hj).1, (hR j hj).2.1⟩)) clX2_124 st_X2_halve rfl rfl (by rw [hRm]; decide) (by rw [hRm]; decide) (fun _ => Nat.le_of_ble_eq_true rfl) (by rw [hRm]; decide) (by rw [hRm]; decide) dX2_mixPair_5 (fun r5 w5 hp5 => ?_)
  obtain ⟨rfl, rfl⟩ := hp5
  refine g_aload_n h dX2_mixPair_8 rfl ?_
  refine g_getQ h flX2_15 rfl (by assumption) (by assumption) dX2_mixPair_9 ?_
  refine g_iload_n h dX2_mixPair_12 rfl ?_
  refine g_callS h rfl [_, _] (c_X2_halve _ _ (8 + L) i (by assumption) h1 h9 (by intro j hj; rw [sR_ne _ _ (by omega)]; have := hR j hj; omega)) clX2_124 st_X2_halve rfl rfl (by rw [hRm]; decide) (by rw [hRm]; decide) (fun _ => Nat.le_of_ble_eq_true rfl) (by rw [hRm]; decide) (by rw [hRm]; decide) dX2_mixPair_13 (fun r13 w13 hp13 => ?_)
  obtain ⟨rfl, rfl⟩ := hp13
  refine g_aload_n h dX2_mixPair_16 rfl ?_
  refine g_getQ h flX2_18 rfl (by assumption) (by assumption) dX2_mixPair_17 ?_
  refine g_iload_n h dX2_mixPair_20 rfl ?_
  refine g_callS h rfl [_, _] (c_X2_halve _ _ (11 + L) i (by assumption) h1 h9 (by intro j hj; rw [sR_ne _ _ (by omega), sR_ne _ _ (by omega)]; have := hR j hj; omega)) clX2_124 st_X2_halve rfl rfl (by rw [hRm]; decide) (by rw [hRm]; decide) (fun _ => Nat.le_of_ble_eq_true rfl) (by rw [hRm]; decide) (by rw [hRm]; decide) dX2_mixPair_21 (fun r21 w21 hp21 => ?_)
  obtain ⟨rfl, rfl⟩ := hp21
  refine g_vret h hQ (by decide) (by decide) ?_ dX2_mixPair_24
  exact ⟨rfl, by unfold sR3; rw [sR_ne (j := 8 + L) _ _ (by omega), sR_ne (j := 11 + L) _ _ (by omega), sR_ne (j := 11 + L) _ _ (by omega)]⟩
def WF (g t s : Nat → Int) (i : Nat) : Int := weightF (g i) (t i) (s i)
/-- the first of n places from i on that is lighter than the one above it -/
def flF (W : Nat → Int) : Nat → Nat → Option Nat
  | 0, _ => none
  | n + 1, i => if W i < W (i - 1) then some i else flF W n (i + 1)
def flA (r : Option Nat) : Int := match r with
  | none => -1
  | some i => (i : Int)
theorem WF_bd {g t s : Nat → Int} (h : RB g t s) {i : Nat} (hi : i < 10) : -400 ≤ WF g t s i ∧ WF g t s i ≤ 6000 := by
  have := h i hi
  unfold WF weightF
  omega
theorem LN_RB {w : AW} {L : Nat} (h : LN w L) : RB (w.2.1 (5 + L)) (w.2.1 (8 + L)) (w.2.1 (11 + L)) := h.1
set_option maxRecDepth 100000 in
set_option maxHeartbeats 4000000 in
theorem c_X2_firstLighter (l : Launch) (w : AW) (L : Nat) (z : Int) (hK : LK w L) (hN : LN w L) (hz : R32 z) : HT l yX2_firstLighter cX2_firstLighter 3 (some .int) 2 0 0 w [ar (2 + L), ai z] (rI (flA (flF (WF (w.2.1 (5 + L)) (w.2.1 (8 + L)) (w.2.1 (11 + L))) (10 - (max 1 z).toNat) (max 1 z).toNat)) w) := by
  refine HT.of (by decide) (by intro v hv; simp only [List.mem_cons, List.not_mem_nil, or_false] at hv; rcases hv with rfl | rfl <;> rfl) (Nat.le_of_ble_eq_true rfl) ?_
  intro Γ h hQ hRm hnm hl hw0
  obtain ⟨hL3, k2, k5, k8, k11, k14, p0, p1, p2, p3⟩ := id hK
  have loop : ∀ (n i : Nat), i + n = 10 → 1 ≤ i → flF (WF (w.2.1 (5 + L)) (w.2.1 (8 + L)) (w.2.1 (11 + L))) n i = flF (WF (w.2.1 (5 + L)) (w.2.1 (8 + L)) (w.2.1 (11 + L))) (10 - (max 1 z).toNat) (max 1 z).toNat → GG Γ 6 [some (ar (2 + L)), some (ai z), some (ai (i : Int))] [] w 0 0 := by
    intro n
    induction n with
    | zero =>
      intro i hi h1 he
      refine g_iload_n h dX2_firstLighter_6 rfl ?_
      refine g_bipush h dX2_firstLighter_7 rfl ?_
      refine g_icmp_ge (tgt := 35) h dX2_firstLighter_9 (by decide) (by first | assumption | exact ⟨by omega, by omega⟩) (by first | assumption | exact ⟨by omega, by omega⟩) (fun c9 => ?_) (fun c9 => ?_)
      · refine g_iconst h dX2_firstLighter_35 ?_
        refine g_iret h hQ (by decide) (by decide) ?_ dX2_firstLighter_36
        exact ⟨by rw [← he]; rfl, rfl⟩
      · exfalso; omega
    | succ n ih =>
      intro i hi h1 he
      refine g_iload_n h dX2_firstLighter_6 rfl ?_
      refine g_bipush h dX2_firstLighter_7 rfl ?_
      refine g_icmp_ge (tgt := 35) h dX2_firstLighter_9 (by decide) (by first | assumption | exact ⟨by omega, by omega⟩) (by first | assumption | exact ⟨by omega, by omega⟩) (fun c9 => ?_) (fun c9 => ?_)
      · exfalso; omega
      · have hw1 := WF_bd (LN_RB hN) (i := i) (by omega)
        have hw2 := WF_bd (LN_RB hN) (i := i - 1) (by omega)
        unfold WF at hw1 hw2
        refine g_aload_n h dX2_firstLighter_12 rfl ?_
        refine g_iload_n h dX2_firstLighter_13 rfl ?_
        refine g_callV h rfl (ci := 2) [_] (by assumption) (c_X2_weightOf _ _ L i hK hN (by omega)) clX2_121 (by decide) rfl in_X2_weightOf se_X2_weightOf rfl rfl (by rw [hRm]; decide) (by rw [hRm]; decide) (fun _ => Nat.le_of_ble_eq_true rfl) (by rw [hRm]; decide) (by rw [hRm]; decide) dX2_firstLighter_14 (fun r14 w14 hp14 => ?_)
        obtain ⟨rfl, rfl⟩ := hp14
        refine g_aload_n h dX2_firstLighter_17 rfl ?_
        refine g_iload_n h dX2_firstLighter_18 rfl ?_
        refine g_iconst h dX2_firstLighter_19 ?_
        refine g_isub h dX2_firstLighter_20 ?_
        rw [show (i : Int) - 1 = ((i - 1 : Nat) : Int) by omega]
        refine g_callV h rfl (ci := 2) [_] (by assumption) (c_X2_weightOf _ _ L (i - 1) hK hN (by omega)) clX2_121 (by decide) rfl in_X2_weightOf se_X2_weightOf rfl rfl (by rw [hRm]; decide) (by rw [hRm]; decide) (fun _ => Nat.le_of_ble_eq_true rfl) (by rw [hRm]; decide) (by rw [hRm]; decide) dX2_firstLighter_21 (fun r21 w21 hp21 => ?_)
        obtain ⟨rfl, rfl⟩ := hp21
        refine g_icmp_ge (tgt := 29) h dX2_firstLighter_24 (by decide) (by first | assumption | exact ⟨by omega, by omega⟩) (by first | assumption | exact ⟨by omega, by omega⟩) (fun c24 => ?_) (fun c24 => ?_)
        · refine g_iinc h dX2_firstLighter_29 rfl (Nat.le_of_ble_eq_true rfl) rfl rfl ?_
          refine g_goto (tgt := 6) h dX2_firstLighter_32 (by decide) ?_
          exact ih (i + 1) (by omega) (by omega) (by rw [← he]; show _ = ite _ _ _; rw [if_neg (by unfold WF; omega)])
        · refine g_iload_n h dX2_firstLighter_27 rfl ?_
          refine g_iret h hQ (by decide) (by decide) ?_ dX2_firstLighter_28
          exact ⟨by rw [← he]; show _ = some (ai (flA (ite _ _ _))); rw [if_pos (by unfold WF; omega)]; rfl, rfl⟩
  by_cases hz10 : max 1 z < 10
  · refine g_iconst h dX2_firstLighter_0 ?_
    refine g_iload_n h dX2_firstLighter_1 rfl ?_
    refine g_max h rfl mmaxX2_50 (by first | assumption | exact ⟨by omega, by omega⟩) (by first | assumption | exact ⟨by omega, by omega⟩) (by rw [hRm]; decide) (by rw [hRm]; decide) (fun _ => Nat.le_of_ble_eq_true rfl) (by rw [hRm]; decide) (by rw [hRm]; decide) dX2_firstLighter_2 ?_
    refine g_istore_n h dX2_firstLighter_5 (Nat.le_of_ble_eq_true rfl) rfl rfl ?_
    rw [show max 1 z = (((max 1 z).toNat : Nat) : Int) by omega]
    exact loop (10 - (max 1 z).toNat) (max 1 z).toNat (by omega) (by omega) rfl
  · refine g_iconst h dX2_firstLighter_0 ?_
    refine g_iload_n h dX2_firstLighter_1 rfl ?_
    refine g_max h rfl mmaxX2_50 (by first | assumption | exact ⟨by omega, by omega⟩) (by first | assumption | exact ⟨by omega, by omega⟩) (by rw [hRm]; decide) (by rw [hRm]; decide) (fun _ => Nat.le_of_ble_eq_true rfl) (by rw [hRm]; decide) (by rw [hRm]; decide) dX2_firstLighter_2 ?_
    refine g_istore_n h dX2_firstLighter_5 (Nat.le_of_ble_eq_true rfl) rfl rfl ?_
    refine g_iload_n h dX2_firstLighter_6 rfl ?_
    refine g_bipush h dX2_firstLighter_7 rfl ?_
    refine g_icmp_ge (tgt := 35) h dX2_firstLighter_9 (by decide) (by first | assumption | exact ⟨by omega, by omega⟩) (by first | assumption | exact ⟨by omega, by omega⟩) (fun c9 => ?_) (fun c9 => ?_)
    · refine g_iconst h dX2_firstLighter_35 ?_
      refine g_iret h hQ (by decide) (by decide) ?_ dX2_firstLighter_36
      exact ⟨by rw [show 10 - (max 1 z).toNat = 0 by omega]; rfl, rfl⟩
    · exfalso; omega
