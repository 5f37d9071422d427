/-! ===== the reader of rules: what is done with a token ===== -/
/-- where the reader is: state, whether compared, nots; open, terms, act; the code, the waiting signs (the last set aside first) -/
abbrev XP : Type := (Int × Int × Int) × (Int × Int × Int) × (List Int × List Int)
def RDs (w : AW) (s : XP) : Prop := w.2.1 23 7 = s.1.1 ∧ w.2.1 23 8 = s.1.2.1 ∧ w.2.1 23 9 = s.1.2.2 ∧ w.2.1 23 10 = s.2.1.1 ∧ w.2.1 23 11 = s.2.1.2.1 ∧ w.2.1 23 12 = s.2.1.2.2 ∧ w.2.1 23 14 = (s.2.2.1.length : Int) ∧ w.2.1 23 16 = (s.2.2.2.length : Int) ∧ (∀ i, i < s.2.2.1.length → w.2.1 24 i = s.2.2.1.getD i 0) ∧ SR (w.2.1 25) s.2.2.2
def F345 (w w' : AW) : Prop := w'.1 = w.1 ∧ w'.2.2 = w.2.2 ∧ (∀ j, j ≠ 23 → j ≠ 24 → j ≠ 25 → w'.2.1 j = w.2.1 j) ∧ ∀ f, f < 6 → w'.2.1 23 f = w.2.1 23 f
theorem F345.refl (w : AW) : F345 w w := ⟨rfl, rfl, fun _ _ _ _ => rfl, fun _ _ => rfl⟩
theorem F345.trans {a b c : AW} (h : F345 a b) (g : F345 b c) : F345 a c := ⟨g.1.trans h.1, g.2.1.trans h.2.1, fun j h1 h2 h3 => (g.2.2.1 j h1 h2 h3).trans (h.2.2.1 j h1 h2 h3), fun f hf => (g.2.2.2 f hf).trans (h.2.2.2 f hf)⟩
theorem F345_23 (w : AW) {f : Nat} (z : Int) (hf : 6 ≤ f) : F345 w (upI w 23 f z) := ⟨rfl, rfl, fun j h1 _ _ => by rw [upI_sR, sR_ne _ _ h1], fun g hg => by rw [upI_at]; exact if_neg (by omega)⟩
theorem F345_24 (w : AW) (f : Nat) (z : Int) : F345 w (upI w 24 f z) := ⟨rfl, rfl, fun j _ h2 _ => by rw [upI_sR, sR_ne _ _ h2], fun g hg => by rw [upI_sR, sR_ne _ _ (by decide)]⟩
theorem F345_25 (w : AW) (f : Nat) (z : Int) : F345 w (upI w 25 f z) := ⟨rfl, rfl, fun j _ _ h3 => by rw [upI_sR, sR_ne _ _ h3], fun g hg => by rw [upI_sR, sR_ne _ _ (by decide)]⟩
/-- how closely a sign binds -/
def bnd (s : Int) : Int := if s = 40 then 0 else if s = 124 then 1 else if s = 38 then 2 else if s = 33 then 3 else if s = 60 ∨ s = 61 ∨ s = 62 then 4 else 5
theorem bnd_bd (s : Int) : 0 ≤ bnd s ∧ bnd s ≤ 5 := by unfold bnd; repeat (first | omega | split)
def pwF (b : Int) : List Int → List Int → List Int × List Int
  | cd, [] => (cd, [])
  | cd, x :: t => if b ≤ bnd x then pwF b (cd ++ [20000 + x]) t else (cd, x :: t)
theorem pwF_len (b : Int) : ∀ (wt cd : List Int), (pwF b cd wt).1.length + (pwF b cd wt).2.length = cd.length + wt.length
  | [], cd => rfl
  | x :: t, cd => by
    unfold pwF
    split
    · rw [pwF_len b t]
      simp only [List.length_append, List.length_cons, List.length_nil]
      omega
    · rfl
def SM (wt : List Int) : Prop := ∀ x ∈ wt, 0 ≤ x ∧ x ≤ 255
theorem pwF_SM (b : Int) : ∀ (wt cd : List Int), SM wt → SM (pwF b cd wt).2
  | [], cd, _ => fun x h => (by cases h)
  | x :: t, cd, h => by
    unfold pwF
    split
    · exact pwF_SM b t _ (fun y hy => h y (List.mem_cons_of_mem _ hy))
    · exact h
def isJ (v : Int) : Bool := decide (v = 43 ∨ v = 45)
def isC (v : Int) : Bool := decide (v = 60 ∨ v = 62 ∨ v = 61)
def xJoin (s : XP) (v ns : Int) : XP := ((ns, s.1.2.1, s.1.2.2), s.2.1, ((pwF (bnd v) s.2.2.1 s.2.2.2).1, v :: (pwF (bnd v) s.2.2.1 s.2.2.2).2))
def xTerm (s : XP) (k v : Int) : Int ⊕ XP :=
  if k = 4 ∨ k = 7 then .inl 2 else if k ≠ 2 ∧ k ≠ 5 then .inl 1 else if s.2.1.2.1 + 1 > 30 then .inl 3
  else .inr ((4, s.1.2.1, s.1.2.2), (s.2.1.1, s.2.1.2.1 + 1, s.2.1.2.2), (s.2.2.1 ++ [if k = 5 then 10000 + v else v], s.2.2.2))
def xOne (s : XP) (k v : Int) : Int ⊕ XP :=
  if k = 6 ∧ v = 33 then (if s.1.2.2 + 1 > 8 then .inl 3 else .inr ((s.1.1, 0, s.1.2.2 + 1), s.2.1, (s.2.2.1, 33 :: s.2.2.2)))
  else if k = 3 ∧ v = 40 then (if s.2.1.1 + 1 > 8 then .inl 3 else .inr ((s.1.1, 0, 0), (s.2.1.1 + 1, s.2.1.2), (s.2.2.1, 40 :: s.2.2.2)))
  else xTerm ((s.1.1, 0, 0), s.2) k v
def xBehind (s : XP) (k v : Int) : Int ⊕ XP :=
  if k = 6 ∧ (v = 38 ∨ v = 124) then .inr (xJoin s v 2)
  else if k = 3 ∧ v = 41 ∧ 0 < s.2.1.1 then .inr ((5, s.1.2.1, s.1.2.2), (s.2.1.1 - 1, s.2.1.2), ((pwF 1 s.2.2.1 s.2.2.2).1, (pwF 1 s.2.2.1 s.2.2.2).2.tail))
  else if k = 0 ∧ s.2.1.1 = 0 then .inr ((6, s.1.2.1, s.1.2.2), s.2.1, pwF 0 s.2.2.1 s.2.2.2)
  else .inl 1
def xCmp (s : XP) (v : Int) : XP := xJoin ((s.1.1, if isC v = true then 1 else s.1.2.1, s.1.2.2), s.2) v 3
def xAct (s : XP) (k v : Int) : Int ⊕ XP := if k = 4 then .inr ((1, s.1.2.1, s.1.2.2), (s.2.1.1, s.2.1.2.1, v), s.2.2) else .inl (if k = 5 ∨ k = 7 then 2 else 1)
def xIf (s : XP) (k v : Int) : Int ⊕ XP := if k = 6 ∧ v = 105 then .inr ((2, s.1.2.1, s.1.2.2), s.2) else .inl 1
def xGoes (s : XP) (k v : Int) : Bool := decide (k = 3) && (isJ v || (decide (s.1.2.1 = 0) && isC v))
def xT (s : XP) (k v : Int) : Int ⊕ XP :=
  if s.1.1 = 0 then xAct s k v else if s.1.1 = 1 then xIf s k v else if s.1.1 = 2 then xOne s k v else if s.1.1 = 3 then xTerm s k v
  else if s.1.1 = 4 then (if xGoes s k v = true then .inr (xCmp s v) else if s.1.2.1 ≠ 0 then xBehind s k v else .inl 1) else xBehind s k v
/-- what a step says -/
def Pt (w : AW) (res : Int ⊕ XP) : Option AV → AW → Prop := fun r w' => F345 w w' ∧ match res with
  | .inl f => r = some (ai 0) ∧ w'.2.1 23 6 = f
  | .inr s => r = some (ai 1) ∧ RDs w' s
/-- numbers in their bounds -/
def XB (s : XP) : Prop := (0 ≤ s.1.1 ∧ s.1.1 ≤ 6) ∧ (s.1.2.1 = 0 ∨ s.1.2.1 = 1) ∧ (0 ≤ s.1.2.2 ∧ s.1.2.2 ≤ 8) ∧ (0 ≤ s.2.1.1 ∧ s.2.1.1 ≤ 8) ∧ (0 ≤ s.2.1.2.1 ∧ s.2.1.2.1 ≤ 30) ∧ s.2.2.1.length + s.2.2.2.length ≤ 298 ∧ SM s.2.2.2
theorem getD_app (cd : List Int) (c : Int) (i : Nat) : i < (cd ++ [c]).length → (i < cd.length → (cd ++ [c]).getD i 0 = cd.getD i 0) ∧ (i = cd.length → (cd ++ [c]).getD i 0 = c) := by
  intro h
  refine ⟨fun q => ?_, fun q => ?_⟩
  · rw [List.getD_eq_getElem?_getD, List.getD_eq_getElem?_getD, List.getElem?_append_left q]
  · subst q
    rw [List.getD_eq_getElem?_getD, List.getElem?_append_right (Nat.le_refl _)]
    simp
set_option maxRecDepth 100000 in
set_option maxHeartbeats 4000000 in
theorem c_X6_bindingOf (l : Launch) (w : AW) (s : Int) (hs : R32 s) : HT l yX6_bindingOf cX6_bindingOf 1 (some .int) 1 0 0 w [ai s] (rI (bnd s) w) := by
  refine HT.of (by decide) (by intro v hv; simp only [List.mem_cons, List.not_mem_nil, or_false] at hv; rcases hv with rfl <;> rfl) (Nat.le_of_ble_eq_true rfl) ?_
  intro Γ h hQ hRm hnm hl hw0
  refine g_iload_n h dX6_bindingOf_0 rfl ?_
  rcases (show s = 33 ∨ s = 38 ∨ s = 40 ∨ s = 60 ∨ s = 61 ∨ s = 62 ∨ s = 124 ∨ (s ≠ 33 ∧ s ≠ 38 ∧ s ≠ 40 ∧ s ≠ 60 ∧ s ≠ 61 ∧ s ≠ 62 ∧ s ≠ 124) by omega) with c1 | c1 | c1 | c1 | c1 | c1 | c1 | c1
  · refine g_lookup (tgt := 74) (off := 73) h (by first | assumption | exact ⟨by omega, by omega⟩) (by decide) (by rw [c1]; decide) (by decide) dX6_bindingOf_1 ?_
    refine g_iconst h dX6_bindingOf_74 ?_
    refine g_iret h hQ (by first | decide | omega | (simp only [clS]; omega)) (by first | decide | omega | (simp only [clS]; omega)) ?_ dX6_bindingOf_75
    refine ⟨?_, rfl⟩
    unfold bnd
    repeat first | rw [if_pos (by omega)] | rw [if_neg (by omega)]
  · refine g_lookup (tgt := 72) (off := 71) h (by first | assumption | exact ⟨by omega, by omega⟩) (by decide) (by rw [c1]; decide) (by decide) dX6_bindingOf_1 ?_
    refine g_iconst h dX6_bindingOf_72 ?_
    refine g_iret h hQ (by first | decide | omega | (simp only [clS]; omega)) (by first | decide | omega | (simp only [clS]; omega)) ?_ dX6_bindingOf_73
    refine ⟨?_, rfl⟩
    unfold bnd
    repeat first | rw [if_pos (by omega)] | rw [if_neg (by omega)]
  · refine g_lookup (tgt := 68) (off := 67) h (by first | assumption | exact ⟨by omega, by omega⟩) (by decide) (by rw [c1]; decide) (by decide) dX6_bindingOf_1 ?_
    refine g_iconst h dX6_bindingOf_68 ?_
    refine g_iret h hQ (by first | decide | omega | (simp only [clS]; omega)) (by first | decide | omega | (simp only [clS]; omega)) ?_ dX6_bindingOf_69
    refine ⟨?_, rfl⟩
    unfold bnd
    repeat first | rw [if_pos (by omega)] | rw [if_neg (by omega)]
  · refine g_lookup (tgt := 76) (off := 75) h (by first | assumption | exact ⟨by omega, by omega⟩) (by decide) (by rw [c1]; decide) (by decide) dX6_bindingOf_1 ?_
    refine g_iconst h dX6_bindingOf_76 ?_
    refine g_iret h hQ (by first | decide | omega | (simp only [clS]; omega)) (by first | decide | omega | (simp only [clS]; omega)) ?_ dX6_bindingOf_77
    refine ⟨?_, rfl⟩
    unfold bnd
    repeat first | rw [if_pos (by omega)] | rw [if_neg (by omega)]
  · refine g_lookup (tgt := 76) (off := 75) h (by first | assumption | exact ⟨by omega, by omega⟩) (by decide) (by rw [c1]; decide) (by decide) dX6_bindingOf_1 ?_
    refine g_iconst h dX6_bindingOf_76 ?_
    refine g_iret h hQ (by first | decide | omega | (simp only [clS]; omega)) (by first | decide | omega | (simp only [clS]; omega)) ?_ dX6_bindingOf_77
    refine ⟨?_, rfl⟩
    unfold bnd
    repeat first | rw [if_pos (by omega)] | rw [if_neg (by omega)]
  · refine g_lookup (tgt := 76) (off := 75) h (by first | assumption | exact ⟨by omega, by omega⟩) (by decide) (by rw [c1]; decide) (by decide) dX6_bindingOf_1 ?_
    refine g_iconst h dX6_bindingOf_76 ?_
    refine g_iret h hQ (by first | decide | omega | (simp only [clS]; omega)) (by first | decide | omega | (simp only [clS]; omega)) ?_ dX6_bindingOf_77
    refine ⟨?_, rfl⟩
    unfold bnd
    repeat first | rw [if_pos (by omega)] | rw [if_neg (by omega)]
  · refine g_lookup (tgt := 70) (off := 69) h (by first | assumption | exact ⟨by omega, by omega⟩) (by decide) (by rw [c1]; decide) (by decide) dX6_bindingOf_1 ?_
    refine g_iconst h dX6_bindingOf_70 ?_
    refine g_iret h hQ (by first | decide | omega | (simp only [clS]; omega)) (by first | decide | omega | (simp only [clS]; omega)) ?_ dX6_bindingOf_71
    refine ⟨?_, rfl⟩
    unfold bnd
    repeat first | rw [if_pos (by omega)] | rw [if_neg (by omega)]
  · refine g_lookup (tgt := 78) (off := 77) h (by first | assumption | exact ⟨by omega, by omega⟩) (by decide) (by obtain ⟨k0, k1, k2, k3, k4, k5, k6⟩ := c1; simp [Op.lookupswitch.offset, Ne.symm k0, Ne.symm k1, Ne.symm k2, Ne.symm k3, Ne.symm k4, Ne.symm k5, Ne.symm k6]) (by decide) dX6_bindingOf_1 ?_
    refine g_iconst h dX6_bindingOf_78 ?_
    refine g_iret h hQ (by first | decide | omega | (simp only [clS]; omega)) (by first | decide | omega | (simp only [clS]; omega)) ?_ dX6_bindingOf_79
    refine ⟨?_, rfl⟩
    unfold bnd
    repeat first | rw [if_pos (by omega)] | rw [if_neg (by omega)]
set_option maxRecDepth 100000 in
set_option maxHeartbeats 4000000 in
theorem c_X6_put (l : Launch) (w : AW) (st cp nt op tm ac : Int) (cd wt : List Int) (c : Int) (hX : XS w) (hr : RDs w ((st, cp, nt), (op, tm, ac), (cd, wt))) (hcl : cd.length < 300) : HT l yX6_put cX6_put 2 none 1 0 0 w [ar 23, ai c] (fun r w' => r = none ∧ F345 w w' ∧ RDs w' ((st, cp, nt), (op, tm, ac), (cd ++ [c], wt))) := by
  refine HT.of (by decide) (by intro v hv; simp only [List.mem_cons, List.not_mem_nil, or_false] at hv; rcases hv with rfl | rfl <;> rfl) (Nat.le_of_ble_eq_true rfl) ?_
  intro Γ h hQ hRm hnm hl hw0
  obtain ⟨r7, r8, r9, r10, r11, r12, r14, r16, rc, rw1⟩ := id hr
  simp only at r7 r8 r9 r10 r11 r12 r14 r16 rc rw1
  have s23 : w.1 23 = (106, 0) := hX.1 23 (by decide)
  have s24 : w.1 24 = (1, 300) := hX.1 24 (by decide)
  have p23_13 : w.2.2 23 13 = some 24 := hX.2 (23, 13, 24) (by decide)
  have t23 : (upI w 24 cd.length c).1 23 = (106, 0) := s23
  have t14 : (upI w 24 cd.length c).2.1 23 14 = (cd.length : Int) := r14
  have putEnd : GG Γ 39 [some (ar 23), some (ai c)] [] (upI (upI w 24 cd.length c) 23 14 ((cd.length : Int) + 1)) 0 0 := by
    refine g_vret h hQ (by decide) (by decide) ?_ dX6_put_39
    refine ⟨rfl, (F345_24 w _ _).trans (F345_23 _ _ (by decide)), r7, r8, r9, r10, r11, r12, ?_, r16, fun i hi => ?_, rw1⟩
    · rw [upI_self]
      show _ = ((cd ++ [c]).length : Int)
      rw [List.length_append]
      rfl
    · obtain ⟨g1, g2⟩ := getD_app cd c i hi
      show (upI w 24 cd.length c).2.1 24 i = (cd ++ [c]).getD i 0
      rw [upI_at]
      show (if i = cd.length then c else w.2.1 24 i) = _
      split
      · rename_i e
        rw [g2 e]
      · rename_i e
        have h2 : i < cd.length := by
          have : i < (cd ++ [c]).length := hi
          rw [List.length_append] at this
          simp only [List.length_cons, List.length_nil] at this
          omega
        rw [g1 h2]
        exact rc i h2
  refine g_aload_n h dX6_put_0 rfl ?_
  refine g_getI h flX6_53 rfl (by assumption) dX6_put_1 ?_
  rw [r14]
  refine g_if_lt (tgt := 39) h dX6_put_4 (by decide) (by first | assumption | exact ⟨by omega, by omega⟩) (fun c4 => ?_) (fun c4 => ?_)
  · first | (exfalso; omega) | exact putEnd
  · refine g_aload_n h dX6_put_7 rfl ?_
    refine g_getI h flX6_53 rfl (by assumption) dX6_put_8 ?_
    rw [r14]
    refine g_aload_n h dX6_put_11 rfl ?_
    refine g_getQ h flX6_9 rfl (by assumption) (by assumption) dX6_put_12 ?_
    refine g_alen h (by assumption) (by unfold arK; omega) dX6_put_15 ?_
    refine g_icmp_ge (tgt := 39) h dX6_put_16 (by decide) (by first | assumption | exact ⟨by omega, by omega⟩) (by first | assumption | exact ⟨by omega, by omega⟩) (fun c16 => ?_) (fun c16 => ?_)
    · first | (exfalso; omega) | exact putEnd
    · refine g_aload_n h dX6_put_19 rfl ?_
      refine g_getQ h flX6_9 rfl (by assumption) (by assumption) dX6_put_20 ?_
      refine g_aload_n h dX6_put_23 rfl ?_
      refine g_getI h flX6_53 rfl (by assumption) dX6_put_24 ?_
      rw [r14]
      refine g_iload_n h dX6_put_27 rfl ?_
      refine g_iast h (cd.length) (by assumption) (by first | omega | assumption) (by first | omega | assumption) (by first | decide | omega) dX6_put_28 ?_
      refine g_aload_n h dX6_put_29 rfl ?_
      refine g_dup h dX6_put_30 rfl ?_
      refine g_getI h flX6_53 rfl (by assumption) dX6_put_31 ?_
      rw [t14]
      refine g_iconst h dX6_put_34 ?_
      refine g_iadd h dX6_put_35 ?_
      refine g_putI h flX6_53 rfl rfl (by assumption) dX6_put_36 ?_
      first | (exfalso; omega) | exact putEnd
set_option maxRecDepth 100000 in
set_option maxHeartbeats 4000000 in
theorem c_X6_setAside (l : Launch) (w : AW) (st cp nt op tm ac : Int) (cd wt : List Int) (c : Int) (hX : XS w) (hr : RDs w ((st, cp, nt), (op, tm, ac), (cd, wt))) (hcl : wt.length < 300) : HT l yX6_setAside cX6_setAside 2 none 1 0 0 w [ar 23, ai c] (fun r w' => r = none ∧ F345 w w' ∧ RDs w' ((st, cp, nt), (op, tm, ac), (cd, c :: wt))) := by
  refine HT.of (by decide) (by intro v hv; simp only [List.mem_cons, List.not_mem_nil, or_false] at hv; rcases hv with rfl | rfl <;> rfl) (Nat.le_of_ble_eq_true rfl) ?_
  intro Γ h hQ hRm hnm hl hw0
  obtain ⟨r7, r8, r9, r10, r11, r12, r14, r16, rc, rw1⟩ := id hr
  simp only at r7 r8 r9 r10 r11 r12 r14 r16 rc rw1
  have s23 : w.1 23 = (106, 0) := hX.1 23 (by decide)
  have s25 : w.1 25 = (1, 300) := hX.1 25 (by decide)
  have p23_15 : w.2.2 23 15 = some 25 := hX.2 (23, 15, 25) (by decide)
  have t23 : (upI w 25 wt.length c).1 23 = (106, 0) := s23
  have t16 : (upI w 25 wt.length c).2.1 23 16 = (wt.length : Int) := r16
  have putEnd : GG Γ 39 [some (ar 23), some (ai c)] [] (upI (upI w 25 wt.length c) 23 16 ((wt.length : Int) + 1)) 0 0 := by
    refine g_vret h hQ (by decide) (by decide) ?_ dX6_setAside_39
    refine ⟨rfl, (F345_25 w _ _).trans (F345_23 _ _ (by decide)), r7, r8, r9, r10, r11, r12, r14, ?_, rc, ?_⟩
    · rw [upI_self]
      rfl
    · show SR ((upI w 25 wt.length c).2.1 25) (c :: wt)
      rw [upI_at]
      exact SR_push rw1
  refine g_aload_n h dX6_setAside_0 rfl ?_
  refine g_getI h flX6_56 rfl (by assumption) dX6_setAside_1 ?_
  rw [r16]
  refine g_if_lt (tgt := 39) h dX6_setAside_4 (by decide) (by first | assumption | exact ⟨by omega, by omega⟩) (fun c4 => ?_) (fun c4 => ?_)
  · first | (exfalso; omega) | exact putEnd
  · refine g_aload_n h dX6_setAside_7 rfl ?_
    refine g_getI h flX6_56 rfl (by assumption) dX6_setAside_8 ?_
    rw [r16]
    refine g_aload_n h dX6_setAside_11 rfl ?_
    refine g_getQ h flX6_15 rfl (by assumption) (by assumption) dX6_setAside_12 ?_
    refine g_alen h (by assumption) (by unfold arK; omega) dX6_setAside_15 ?_
    refine g_icmp_ge (tgt := 39) h dX6_setAside_16 (by decide) (by first | assumption | exact ⟨by omega, by omega⟩) (by first | assumption | exact ⟨by omega, by omega⟩) (fun c16 => ?_) (fun c16 => ?_)
    · first | (exfalso; omega) | exact putEnd
    · refine g_aload_n h dX6_setAside_19 rfl ?_
      refine g_getQ h flX6_15 rfl (by assumption) (by assumption) dX6_setAside_20 ?_
      refine g_aload_n h dX6_setAside_23 rfl ?_
      refine g_getI h flX6_56 rfl (by assumption) dX6_setAside_24 ?_
      rw [r16]
      refine g_iload_n h dX6_setAside_27 rfl ?_
      refine g_iast h (wt.length) (by assumption) (by first | omega | assumption) (by first | omega | assumption) (by first | decide | omega) dX6_setAside_28 ?_
      refine g_aload_n h dX6_setAside_29 rfl ?_
      refine g_dup h dX6_setAside_30 rfl ?_
      refine g_getI h flX6_56 rfl (by assumption) dX6_setAside_31 ?_
      rw [t16]
      refine g_iconst h dX6_setAside_34 ?_
      refine g_iadd h dX6_setAside_35 ?_
      refine g_putI h flX6_56 rfl rfl (by assumption) dX6_setAside_36 ?_
      first | (exfalso; omega) | exact putEnd
set_option maxRecDepth 100000 in
set_option maxHeartbeats 4000000 in
theorem c_X6_dropWaiting (l : Launch) (w : AW) (st cp nt op tm ac : Int) (cd wt : List Int) (hX : XS w) (hr : RDs w ((st, cp, nt), (op, tm, ac), (cd, wt))) (hcl : wt.length ≤ 300) : HT l yX6_dropWaiting cX6_dropWaiting 1 none 1 0 0 w [ar 23] (fun r w' => r = none ∧ F345 w w' ∧ RDs w' ((st, cp, nt), (op, tm, ac), (cd, wt.tail))) := by
  refine HT.of (by decide) (by intro v hv; simp only [List.mem_cons, List.not_mem_nil, or_false] at hv; rcases hv with rfl <;> rfl) (Nat.le_of_ble_eq_true rfl) ?_
  intro Γ h hQ hRm hnm hl hw0
  obtain ⟨r7, r8, r9, r10, r11, r12, r14, r16, rc, rw1⟩ := id hr
  simp only at r7 r8 r9 r10 r11 r12 r14 r16 rc rw1
  have s23 : w.1 23 = (106, 0) := hX.1 23 (by decide)
  cases wt with
  | nil =>
    simp only [List.length_nil] at r16 hcl
    refine g_aload_n h dX6_dropWaiting_0 rfl ?_
    refine g_getI h flX6_56 rfl (by assumption) dX6_dropWaiting_1 ?_
    rw [r16]
    refine g_if_le (tgt := 17) h dX6_dropWaiting_4 (by decide) (by first | assumption | exact ⟨by omega, by omega⟩) (fun c4 => ?_) (fun c4 => ?_)
    · refine g_vret h hQ (by first | decide | omega | (simp only [clS]; omega)) (by first | decide | omega | (simp only [clS]; omega)) ?_ dX6_dropWaiting_17
      exact ⟨rfl, F345.refl w, hr⟩
    · exfalso; omega
  | cons x t =>
    simp only [List.length_cons] at r16 hcl
    have dropEnd : GG Γ 17 [some (ar 23)] [] (upI w 23 16 (((t.length + 1 : Nat) : Int) - 1)) 0 0 := by
      refine g_vret h hQ (by decide) (by decide) ?_ dX6_dropWaiting_17
      refine ⟨rfl, F345_23 _ _ (by decide), r7, r8, r9, r10, r11, r12, r14, ?_, rc, rw1.2⟩
      rw [upI_self]
      show ((t.length + 1 : Nat) : Int) - 1 = (t.length : Int)
      omega
    refine g_aload_n h dX6_dropWaiting_0 rfl ?_
    refine g_getI h flX6_56 rfl (by assumption) dX6_dropWaiting_1 ?_
    rw [r16]
    refine g_if_le (tgt := 17) h dX6_dropWaiting_4 (by decide) (by first | assumption | exact ⟨by omega, by omega⟩) (fun c4 => ?_) (fun c4 => ?_)
    · first | (exfalso; omega) | exact dropEnd
    · refine g_aload_n h dX6_dropWaiting_7 rfl ?_
      refine g_dup h dX6_dropWaiting_8 rfl ?_
      refine g_getI h flX6_56 rfl (by assumption) dX6_dropWaiting_9 ?_
      rw [r16]
      refine g_iconst h dX6_dropWaiting_12 ?_
      refine g_isub h dX6_dropWaiting_13 ?_
      refine g_putI h flX6_56 rfl rfl (by assumption) dX6_dropWaiting_14 ?_
      first | (exfalso; omega) | exact dropEnd
set_option maxRecDepth 100000 in
set_option maxHeartbeats 4000000 in
theorem c_X6_putWaiting (l : Launch) (w : AW) (st cp nt op tm ac : Int) (cd wt : List Int) (b : Int) (hX : XS w) (hr : RDs w ((st, cp, nt), (op, tm, ac), (cd, wt))) (hcl : cd.length + wt.length ≤ 300) (hb : R32 b) (hsm : SM wt) : HT l yX6_putWaiting cX6_putWaiting 2 none 2 0 0 w [ar 23, ai b] (fun r w' => r = none ∧ F345 w w' ∧ RDs w' ((st, cp, nt), (op, tm, ac), pwF b cd wt)) := by
  refine HT.of (by decide) (by intro v hv; simp only [List.mem_cons, List.not_mem_nil, or_false] at hv; rcases hv with rfl | rfl <;> rfl) (Nat.le_of_ble_eq_true rfl) ?_
  intro Γ h hQ hRm hnm hl hw0
  have loop : ∀ (t cd2 : List Int) (u : AW), cd2.length + t.length ≤ 300 → SM t → F345 w u → RDs u ((st, cp, nt), (op, tm, ac), (cd2, t)) → pwF b cd2 t = pwF b cd wt → GG Γ 0 [some (ar 23), some (ai b)] [] u 0 0 := by
    intro t
    induction t with
    | nil =>
      intro cd2 u hl2 hsm2 hF hru hpw
      obtain ⟨r7, r8, r9, r10, r11, r12, r14, r16, rc, rw1⟩ := id hru
      simp only at r7 r8 r9 r10 r11 r12 r14 r16 rc rw1
      have hX2 := XS_of hF.1 hF.2.1 hX
      have s23 : u.1 23 = (106, 0) := hX2.1 23 (by decide)
      simp only [List.length_nil] at r16
      refine g_aload_n h dX6_putWaiting_0 rfl ?_
      refine g_getI h flX6_56 rfl (by assumption) dX6_putWaiting_1 ?_
      rw [r16]
      refine g_if_le (tgt := 69) h dX6_putWaiting_4 (by decide) (by first | assumption | exact ⟨by omega, by omega⟩) (fun c4 => ?_) (fun c4 => ?_)
      · refine g_vret h hQ (by first | decide | omega | (simp only [clS]; omega)) (by first | decide | omega | (simp only [clS]; omega)) ?_ dX6_putWaiting_69
        first
        | (exfalso; omega)
        | (refine ⟨rfl, hF, ?_⟩
           rw [← hpw]
           exact hru)
      · exfalso; omega
    | cons x t ih =>
      intro cd2 u hl2 hsm2 hF hru hpw
      obtain ⟨r7, r8, r9, r10, r11, r12, r14, r16, rc, rw1⟩ := id hru
      simp only at r7 r8 r9 r10 r11 r12 r14 r16 rc rw1
      have hX2 := XS_of hF.1 hF.2.1 hX
      have s23 : u.1 23 = (106, 0) := hX2.1 23 (by decide)
      have s25 : u.1 25 = (1, 300) := hX2.1 25 (by decide)
      have p15 : u.2.2 23 15 = some 25 := hX2.2 (23, 15, 25) (by decide)
      have hx := hsm2 x List.mem_cons_self
      have hbx := bnd_bd x
      have hlt : ((x :: t).length : Int) - 1 = (t.length : Int) := by simp only [List.length_cons]; omega
      have hl3 : (x :: t).length = t.length + 1 := rfl
      have hx25 : u.2.1 25 t.length = x := rw1.1
      refine g_aload_n h dX6_putWaiting_0 rfl ?_
      refine g_getI h flX6_56 rfl (by assumption) dX6_putWaiting_1 ?_
      rw [r16]
      refine g_if_le (tgt := 69) h dX6_putWaiting_4 (by decide) (by first | assumption | exact ⟨by omega, by omega⟩) (fun c4 => ?_) (fun c4 => ?_)
      · refine g_vret h hQ (by first | decide | omega | (simp only [clS]; omega)) (by first | decide | omega | (simp only [clS]; omega)) ?_ dX6_putWaiting_69
        first
        | (exfalso; omega)
        | (refine ⟨rfl, hF, ?_⟩
           rw [← hpw]
           show RDs u ((st, cp, nt), (op, tm, ac), if b ≤ bnd x then _ else (cd2, x :: t))
           rw [if_neg (by omega)]
           exact hru)
      · refine g_aload_n h dX6_putWaiting_7 rfl ?_
        refine g_getI h flX6_56 rfl (by assumption) dX6_putWaiting_8 ?_
        rw [r16]
        refine g_aload_n h dX6_putWaiting_11 rfl ?_
        refine g_getQ h flX6_15 rfl (by assumption) (by assumption) dX6_putWaiting_12 ?_
        refine g_alen h (by assumption) (by unfold arK; omega) dX6_putWaiting_15 ?_
        refine g_icmp_gt (tgt := 69) h dX6_putWaiting_16 (by decide) (by first | assumption | exact ⟨by omega, by omega⟩) (by first | assumption | exact ⟨by omega, by omega⟩) (fun c16 => ?_) (fun c16 => ?_)
        · refine g_vret h hQ (by first | decide | omega | (simp only [clS]; omega)) (by first | decide | omega | (simp only [clS]; omega)) ?_ dX6_putWaiting_69
          first
          | (exfalso; omega)
          | (refine ⟨rfl, hF, ?_⟩
             rw [← hpw]
             show RDs u ((st, cp, nt), (op, tm, ac), if b ≤ bnd x then _ else (cd2, x :: t))
             rw [if_neg (by omega)]
             exact hru)
        · refine g_aload_n h dX6_putWaiting_19 rfl ?_
          refine g_getQ h flX6_15 rfl (by assumption) (by assumption) dX6_putWaiting_20 ?_
          refine g_aload_n h dX6_putWaiting_23 rfl ?_
          refine g_getI h flX6_56 rfl (by assumption) dX6_putWaiting_24 ?_
          rw [r16]
          refine g_iconst h dX6_putWaiting_27 ?_
          refine g_isub h dX6_putWaiting_28 ?_
          refine g_iald h (t.length) (by assumption) (by first | omega | assumption) (by first | omega | assumption) (by first | decide | omega) dX6_putWaiting_29 ?_
          rw [hx25]
          refine g_callS h rfl [_] (c_X6_bindingOf _ _ x ⟨by omega, by omega⟩) clX6_215 st_X6_bindingOf rfl rfl (by rw [hRm]; first | decide | (simp only [clS]; omega)) (by rw [hRm]; first | decide | (simp only [clS]; omega)) (fun _ => Nat.le_of_ble_eq_true rfl) (by rw [hRm]; first | decide | (simp only [clS]; omega)) (by rw [hRm]; first | decide | (simp only [clS]; omega)) dX6_putWaiting_30 (fun r30 w30 hp30 => ?_)
          obtain ⟨rfl, hw30⟩ := hp30
          rw [hw30]
          refine g_iload_n h dX6_putWaiting_33 rfl ?_
          refine g_icmp_lt (tgt := 69) h dX6_putWaiting_34 (by decide) (by first | assumption | exact ⟨by omega, by omega⟩) (by first | assumption | exact ⟨by omega, by omega⟩) (fun c34 => ?_) (fun c34 => ?_)
          · refine g_vret h hQ (by first | decide | omega | (simp only [clS]; omega)) (by first | decide | omega | (simp only [clS]; omega)) ?_ dX6_putWaiting_69
            first
            | (exfalso; omega)
            | (refine ⟨rfl, hF, ?_⟩
               rw [← hpw]
               show RDs u ((st, cp, nt), (op, tm, ac), if b ≤ bnd x then _ else (cd2, x :: t))
               rw [if_neg (by omega)]
               exact hru)
          · refine g_aload_n h dX6_putWaiting_37 rfl ?_
            refine g_sipush h dX6_putWaiting_38 rfl ?_
            refine g_aload_n h dX6_putWaiting_41 rfl ?_
            refine g_getQ h flX6_15 rfl (by assumption) (by assumption) dX6_putWaiting_42 ?_
            refine g_aload_n h dX6_putWaiting_45 rfl ?_
            refine g_getI h flX6_56 rfl (by assumption) dX6_putWaiting_46 ?_
            rw [r16]
            refine g_iconst h dX6_putWaiting_49 ?_
            refine g_isub h dX6_putWaiting_50 ?_
            refine g_iald h (t.length) (by assumption) (by first | omega | assumption) (by first | omega | assumption) (by first | decide | omega) dX6_putWaiting_51 ?_
            rw [hx25]
            refine g_iadd h dX6_putWaiting_52 ?_
            refine g_callV h rfl (ci := 6) [_] (by assumption) (c_X6_put _ u st cp nt op tm ac cd2 (x :: t) (20000 + x) hX2 hru (by omega)) clX6_203 (by decide) rfl in_X6_put se_X6_put rfl rfl (by rw [hRm]; first | decide | (simp only [clS]; omega)) (by rw [hRm]; first | decide | (simp only [clS]; omega)) (fun _ => Nat.le_of_ble_eq_true rfl) (by rw [hRm]; first | decide | (simp only [clS]; omega)) (by rw [hRm]; first | decide | (simp only [clS]; omega)) dX6_putWaiting_53 (fun r53 w53 hp53 => ?_)
            obtain ⟨rfl, hF2, hr2⟩ := hp53
            obtain ⟨q7, q8, q9, q10, q11, q12, q14, q16, qc, qw⟩ := id hr2
            simp only at q7 q8 q9 q10 q11 q12 q14 q16 qc qw
            have v23 : w53.1 23 = (106, 0) := by rw [hF2.1]; exact s23
            refine g_aload_n h dX6_putWaiting_56 rfl ?_
            refine g_dup h dX6_putWaiting_57 rfl ?_
            refine g_getI h flX6_56 rfl (by assumption) dX6_putWaiting_58 ?_
            rw [q16]
            refine g_iconst h dX6_putWaiting_61 ?_
            refine g_isub h dX6_putWaiting_62 ?_
            refine g_putI h flX6_56 rfl rfl (by assumption) dX6_putWaiting_63 ?_
            refine g_goto (tgt := 0) h dX6_putWaiting_66 (by decide) ?_
            have hF3 := (hF.trans hF2).trans (F345_23 w53 (((x :: t).length : Int) - 1) (show 6 ≤ 16 by decide))
            refine ih (cd2 ++ [20000 + x]) _ (by rw [List.length_append]; simp only [List.length_cons, List.length_nil]; omega) (fun y hy => hsm2 y (List.mem_cons_of_mem _ hy)) hF3 ⟨q7, q8, q9, q10, q11, q12, q14, by rw [upI_self, hlt], qc, qw.2⟩ ?_
            rw [← hpw]
            show _ = (if b ≤ bnd x then _ else _)
            rw [if_pos (by omega)]
  exact loop wt cd w hcl hsm (F345.refl w) hr rfl
set_option maxRecDepth 100000 in
set_option maxHeartbeats 4000000 in
theorem c_X6_is (l : Launch) (w : AW) (a b k v : Int) (hX : XS w) (h4 : w.2.1 23 4 = k) (h5 : w.2.1 23 5 = v) (hk : R32 k) (hv : R32 v) (ha : R32 a) (hb : R32 b) : HT l yX6_is cX6_is 3 (some .boolean) 1 0 0 w [ar 23, ai a, ai b] (rI (if k = a ∧ v = b then 1 else 0) w) := by
  refine HT.of (by decide) (by intro v hv; simp only [List.mem_cons, List.not_mem_nil, or_false] at hv; rcases hv with rfl | rfl | rfl <;> rfl) (Nat.le_of_ble_eq_true rfl) ?_
  intro Γ h hQ hRm hnm hl hw0
  have s23 : w.1 23 = (106, 0) := hX.1 23 (by decide)
  refine g_aload_n h dX6_is_0 rfl ?_
  refine g_getI h flX6_90 rfl (by assumption) dX6_is_1 ?_
  rw [h4]
  refine g_iload_n h dX6_is_4 rfl ?_
  refine g_icmp_ne (tgt := 20) h dX6_is_5 (by decide) (by first | assumption | exact ⟨by omega, by omega⟩) (by first | assumption | exact ⟨by omega, by omega⟩) (fun c5 => ?_) (fun c5 => ?_)
  · refine g_iconst h dX6_is_20 ?_
    refine g_zret h hQ (by first | decide | omega | (simp only [clS]; omega)) (by first | decide | omega | (simp only [clS]; omega)) (by omega) ?_ dX6_is_21
    first
    | (exfalso; omega)
    | (refine ⟨?_, ?_⟩ <;> (repeat first | rw [if_pos (by omega)] | rw [if_neg (by omega)]) <;> rfl)
  · refine g_aload_n h dX6_is_8 rfl ?_
    refine g_getI h flX6_87 rfl (by assumption) dX6_is_9 ?_
    rw [h5]
    refine g_iload_n h dX6_is_12 rfl ?_
    refine g_icmp_ne (tgt := 20) h dX6_is_13 (by decide) (by first | assumption | exact ⟨by omega, by omega⟩) (by first | assumption | exact ⟨by omega, by omega⟩) (fun c13 => ?_) (fun c13 => ?_)
    · refine g_iconst h dX6_is_20 ?_
      refine g_zret h hQ (by first | decide | omega | (simp only [clS]; omega)) (by first | decide | omega | (simp only [clS]; omega)) (by omega) ?_ dX6_is_21
      first
      | (exfalso; omega)
      | (refine ⟨?_, ?_⟩ <;> (repeat first | rw [if_pos (by omega)] | rw [if_neg (by omega)]) <;> rfl)
    · refine g_iconst h dX6_is_16 ?_
      refine g_goto (tgt := 21) h dX6_is_17 (by decide) ?_
      refine g_zret h hQ (by first | decide | omega | (simp only [clS]; omega)) (by first | decide | omega | (simp only [clS]; omega)) (by omega) ?_ dX6_is_21
      first
      | (exfalso; omega)
      | (refine ⟨?_, ?_⟩ <;> (repeat first | rw [if_pos (by omega)] | rw [if_neg (by omega)]) <;> rfl)
set_option maxRecDepth 100000 in
set_option maxHeartbeats 4000000 in
theorem c_X6_faulty (l : Launch) (w : AW) (f : Int) (hX : XS w) : HT l yX6_faulty cX6_faulty 2 (some .boolean) 1 0 0 w [ar 23, ai f] (fun r w' => r = some (ai 0) ∧ F345 w w' ∧ w'.2.1 23 6 = f) := by
  refine HT.of (by decide) (by intro v hv; simp only [List.mem_cons, List.not_mem_nil, or_false] at hv; rcases hv with rfl | rfl <;> rfl) (Nat.le_of_ble_eq_true rfl) ?_
  intro Γ h hQ hRm hnm hl hw0
  have s23 : w.1 23 = (106, 0) := hX.1 23 (by decide)
  refine g_aload_n h dX6_faulty_0 rfl ?_
  refine g_iload_n h dX6_faulty_1 rfl ?_
  refine g_putI h flX6_34 rfl rfl (by assumption) dX6_faulty_2 ?_
  refine g_iconst h dX6_faulty_5 ?_
  refine g_zret h hQ (by first | decide | omega | (simp only [clS]; omega)) (by first | decide | omega | (simp only [clS]; omega)) (by omega) ?_ dX6_faulty_6
  exact ⟨rfl, F345_23 _ _ (by decide), upI_self _ _ _ _⟩
