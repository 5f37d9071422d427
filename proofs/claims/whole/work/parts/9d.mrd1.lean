/-! ===== M: the reader's small methods ===== -/
section G9D
variable {Γ : Cx} {cc : ByteArray} {own : String} {nL pc k n : Nat} {lo : List (Option AV)} {st : List AV} {w : AW}
theorem g_ldsw (h : OKB Γ cc own nL) {i idx : Nat} {q : String × Nat × String × List Int32} (hq : strTb[i]? = some q) (hown : q.1 = own) (hidx : q.2.1 = idx) (hd : decode cc pc = .ok (.ldc_w idx, 3)) (kk : GG Γ (pc + 3) lo (ar (21000 + i) :: st) w k n) : GG Γ pc lo st w k n := by
  subst hown
  subst hidx
  intro ad ls H locs hR hl ho hs hL hX
  have hk := kk ad ls H locs hR hl ho ⟨Or.inr (by omega), hs⟩ hL hX
  rw [List.map_cons, fo_ad hR (show 20000 ≤ 21000 + i by omega)] at hk
  have hZ := (h.2.2.2.2.2.2.1 i q hq).1
  intro T hT X
  obtain ⟨t, a1, b1⟩ := hk T hT X
  exact ⟨t, X.ldcStringW h.1 h.2.2.2.1 (text := q.2.2.1) (a := (cxZ Γ).2.2.2.1 (21000 + i)) hZ.1 hZ.2 (g := F0 (cxM Γ) pc ls (st.map (cv ad))) rfl (by rw [h.2.1]; exact hd) t a1, b1⟩
end G9D
/-- M reads T, n bytes of it -/
def RT (w : AW) (T : Nat → Int) (n : Nat) : Prop := MS w ∧ w.2.1 400 48 = (n : Int) ∧ n ≤ 300 ∧ (∀ k, k < n → w.2.1 446 k = sg (T k)) ∧ ∀ k, k < 300 → 0 ≤ T k ∧ T k < 256
theorem and255 {x : Int} (h : 0 ≤ x ∧ x < 256) : Int32.ofInt (sg x) &&& Int32.ofInt 255 = Int32.ofInt x := by
  by_cases c : x < 128
  · have e : sg x = x := if_pos c
    rw [e, by_and (by omega) (by omega), show x % 256 = x by omega]
  · have e : sg x = x - 256 := if_neg c
    have e2 : Int32.ofInt (x - 256) = Int32.ofInt (x - 256 + 4294967296) := by
      rw [← Int32.toInt_inj, Int32.toInt_ofInt, Int32.toInt_ofInt]
      show (x - 256).bmod 4294967296 = (x - 256 + 4294967296).bmod 4294967296
      rw [Int.bmod_def, Int.bmod_def]
      split <;> split <;> omega
    rw [e, e2, by_and (by omega) (by omega), show (x - 256 + 4294967296) % 256 = x by omega]
def bM (T : Nat → Int) (n : Nat) (z : Int) : Int := if z < (n : Int) then T z.toNat else -1
theorem bM_bd {w : AW} {T : Nat → Int} {n : Nat} (h : RT w T n) {z : Int} (hz : 0 ≤ z) : -1 ≤ bM T n z ∧ bM T n z < 256 := by
  unfold bM
  split
  · have := h.2.2.2.2 z.toNat (by have := h.2.2.1; omega)
    omega
  · omega
theorem RT_of {u v : AW} {T : Nat → Int} {n : Nat} (h1 : v.1 = u.1) (h2 : v.2.2 = u.2.2) (h3 : v.2.1 400 48 = u.2.1 400 48) (h4 : v.2.1 446 = u.2.1 446) (h : RT u T n) : RT v T n := ⟨MS_of h1 h2 h.1, h3.trans h.2.1, h.2.2.1, by rw [h4]; exact h.2.2.2.1, h.2.2.2.2⟩
set_option maxRecDepth 100000 in
set_option maxHeartbeats 4000000 in
theorem c_X12_byteAt (l : Launch) (w : AW) (T : Nat → Int) (n : Nat) (z : Int) (hT : RT w T n) (hz : 0 ≤ z) (hz2 : z < 2147483648) : HT l yX12_byteAt cX12_byteAt 2 (some .int) 1 0 0 w [ar 400, ai z] (rI (bM T n z) w) := by
  refine HT.of (by decide) (by intro v hv; simp only [List.mem_cons, List.not_mem_nil, or_false] at hv; rcases hv with rfl | rfl <;> rfl) (Nat.le_of_ble_eq_true rfl) ?_
  intro Γ h hQ hRm hnm hl hw0
  obtain ⟨hM, h48, hn3, hTk, hTb⟩ := id hT
  have s400 : w.1 400 = (112, 0) := hM.1 400 (by decide) (by decide)
  have s446 : w.1 446 = (2, 300) := hM.1 446 (by decide) (by decide)
  have p46 : w.2.2 400 46 = some 446 := hM.2 (400, 46, 446) (by decide)
  have hk := fun (q : z < (n : Int)) => hTk z.toNat (by omega)
  have hb := fun (q : z < (n : Int)) => hTb z.toNat (by omega)
  refine g_iload_n h dX12_byteAt_0 rfl ?_
  refine g_aload_n h dX12_byteAt_1 rfl ?_
  refine g_getI h flX12_323 rfl (by assumption) dX12_byteAt_2 ?_
  rw [h48]
  refine g_icmp_ge (tgt := 21) h dX12_byteAt_5 (by decide) (by first | assumption | exact ⟨by omega, by omega⟩) (by first | assumption | exact ⟨by omega, by omega⟩) (fun c5 => ?_) (fun c5 => ?_)
  · refine g_iconst h dX12_byteAt_21 ?_
    refine g_iret h hQ (by first | decide | omega | (simp only [clS]; omega)) (by first | decide | omega | (simp only [clS]; omega)) ?_ dX12_byteAt_22
    first
    | (exfalso; omega)
    | (refine ⟨congrArg (fun z => some (ai z)) ?_, rfl⟩
       unfold bM
       first | rw [if_pos (by omega)] | rw [if_neg (by omega)])
  · refine g_aload_n h dX12_byteAt_8 rfl ?_
    refine g_getQ h flX12_130 rfl (by assumption) (by assumption) dX12_byteAt_9 ?_
    refine g_iload_n h dX12_byteAt_12 rfl ?_
    refine g_bald h (z.toNat) (by assumption) (by first | omega | assumption) (by first | omega | assumption) (by first | decide | omega) dX12_byteAt_13 ?_
    rw [hk (by omega)]
    refine g_sipush h dX12_byteAt_14 rfl ?_
    refine g_iand h (v := T z.toNat) (and255 (hb (by omega))) dX12_byteAt_17 ?_
    refine g_goto (tgt := 22) h dX12_byteAt_18 (by decide) ?_
    refine g_iret h hQ (by first | decide | omega | (simp only [clS]; omega)) (by first | decide | omega | (simp only [clS]; omega)) ?_ dX12_byteAt_22
    first
    | (exfalso; omega)
    | (refine ⟨congrArg (fun z => some (ai z)) ?_, rfl⟩
       unfold bM
       first | rw [if_pos (by omega)] | rw [if_neg (by omega)])
def wcF (i : Nat) : Nat → Int
  | 0 => 0
  | k + 1 => 32 * wcF i k + (sch i k - 97 + 1)
def wdF (T : Nat → Int) (p : Nat) : Nat → Int
  | 0 => 0
  | k + 1 => 32 * wdF T p k + (T (p + k) - 97 + 1)
theorem wcF_bd : ∀ i, i < 34 → 0 ≤ wcF i (slen i) ∧ wcF i (slen i) < 1099511627776 := by decide +kernel
theorem sch_az : ∀ i, i < 34 → ∀ k, k < slen i → 97 ≤ sch i k ∧ sch i k ≤ 122 := by decide +kernel
theorem slen_8 : ∀ i, i < 34 → slen i ≤ 8 := by decide +kernel
set_option maxRecDepth 100000 in
set_option maxHeartbeats 4000000 in
theorem c_X12_wordOf (l : Launch) (w : AW) (i : Nat) (hi : i < 34) : HT l yX12_wordOf cX12_wordOf 4 (some .long) 6 0 0 w [ar (21000 + i)] (fun r w' => r = some (aL (wcF i (slen i))) ∧ w' = w) := by
  refine HT.of (by decide) (by intro v hv; simp only [List.mem_cons, List.not_mem_nil, or_false] at hv; rcases hv with rfl <;> rfl) (Nat.le_of_ble_eq_true rfl) ?_
  intro Γ h hQ hRm hnm hl hw0
  have hq := str_at hi
  have hl8 := slen_8 i hi
  have loop : ∀ (d k : Nat), k + d = slen i → GG Γ 4 [some (ar (21000 + i)), some (aL (wcF i k)), none, some (ai (k : Int))] [] w 0 0 := by
    intro d
    induction d with
    | zero =>
      intro k hk
      obtain rfl : k = slen i := by omega
      refine g_iload_n h dX12_wordOf_4 rfl ?_
      refine g_aload_n h dX12_wordOf_5 rfl ?_
      refine g_callVX h rfl (i := i) [] hq (c_J0_length_8abf5 _ _ i hi) clX12_326 in_J0_length_8abf5 se_J0_length_8abf5 rfl rfl rfl (by rw [hRm]; first | decide | (simp only [clS]; omega)) (by rw [hRm]; first | decide | (simp only [clS]; omega)) (fun _ => Nat.le_of_ble_eq_true rfl) (by rw [hRm]; first | decide | (simp only [clS]; omega)) (by rw [hRm]; first | decide | (simp only [clS]; omega)) dX12_wordOf_6 (fun r6 w6 hp6 => ?_)
      obtain ⟨rfl, hw6⟩ := hp6
      rw [hw6]
      refine g_icmp_ge (tgt := 36) h dX12_wordOf_9 (by decide) (by first | assumption | exact ⟨by omega, by omega⟩) (by first | assumption | exact ⟨by omega, by omega⟩) (fun c9 => ?_) (fun c9 => ?_)
      · refine g_lload_n h dX12_wordOf_36 rfl ?_
        refine g_lret h hQ (by first | decide | omega | (simp only [clS]; omega)) (by first | decide | omega | (simp only [clS]; omega)) ?_ dX12_wordOf_37
        exact ⟨rfl, rfl⟩
      · exfalso; omega
    | succ d ih =>
      intro k hk
      have hc := sch_az i hi k (by omega)
      refine g_iload_n h dX12_wordOf_4 rfl ?_
      refine g_aload_n h dX12_wordOf_5 rfl ?_
      refine g_callVX h rfl (i := i) [] hq (c_J0_length_8abf5 _ _ i hi) clX12_326 in_J0_length_8abf5 se_J0_length_8abf5 rfl rfl rfl (by rw [hRm]; first | decide | (simp only [clS]; omega)) (by rw [hRm]; first | decide | (simp only [clS]; omega)) (fun _ => Nat.le_of_ble_eq_true rfl) (by rw [hRm]; first | decide | (simp only [clS]; omega)) (by rw [hRm]; first | decide | (simp only [clS]; omega)) dX12_wordOf_6 (fun r6 w6 hp6 => ?_)
      obtain ⟨rfl, hw6⟩ := hp6
      rw [hw6]
      refine g_icmp_ge (tgt := 36) h dX12_wordOf_9 (by decide) (by first | assumption | exact ⟨by omega, by omega⟩) (by first | assumption | exact ⟨by omega, by omega⟩) (fun c9 => ?_) (fun c9 => ?_)
      · exfalso; omega
      · refine g_ldc2 h klX12_331 dX12_wordOf_12 ?_
        refine g_lload_n h dX12_wordOf_15 rfl ?_
        refine g_lmul h dX12_wordOf_16 ?_
        refine g_aload_n h dX12_wordOf_17 rfl ?_
        refine g_iload_n h dX12_wordOf_18 rfl ?_
        refine g_callVX h rfl (i := i) [_] hq (c_J0_charAt_5068e _ _ i k hi (by omega)) clX12_333 in_J0_charAt_5068e se_J0_charAt_5068e rfl rfl rfl (by rw [hRm]; first | decide | (simp only [clS]; omega)) (by rw [hRm]; first | decide | (simp only [clS]; omega)) (fun _ => Nat.le_of_ble_eq_true rfl) (by rw [hRm]; first | decide | (simp only [clS]; omega)) (by rw [hRm]; first | decide | (simp only [clS]; omega)) dX12_wordOf_19 (fun r19 w19 hp19 => ?_)
        obtain ⟨rfl, hw19⟩ := hp19
        rw [hw19]
        refine g_bipush h dX12_wordOf_22 rfl ?_
        refine g_isub h dX12_wordOf_24 ?_
        refine g_iconst h dX12_wordOf_25 ?_
        refine g_iadd h dX12_wordOf_26 ?_
        refine g_i2l h (by first | assumption | exact ⟨by omega, by omega⟩) dX12_wordOf_27 ?_
        refine g_ladd h dX12_wordOf_28 ?_
        refine g_lstore_n h dX12_wordOf_29 (Nat.le_of_ble_eq_true rfl) rfl rfl ?_
        refine g_iinc h dX12_wordOf_30 rfl (Nat.le_of_ble_eq_true rfl) rfl rfl ?_
        refine g_goto (tgt := 4) h dX12_wordOf_33 (by decide) ?_
        exact ih (k + 1) (by omega)
  refine g_lconst h dX12_wordOf_0 ?_
  refine g_lstore_n h dX12_wordOf_1 (Nat.le_of_ble_eq_true rfl) rfl rfl ?_
  refine g_iconst h dX12_wordOf_2 ?_
  refine g_istore_n h dX12_wordOf_3 (Nat.le_of_ble_eq_true rfl) rfl rfl ?_
  exact loop (slen i) 0 (by omega)
set_option maxRecDepth 100000 in
set_option maxHeartbeats 4000000 in
theorem c_X12_isWord (l : Launch) (w : AW) (i : Nat) (hM : MS w) (hi : i < 34) (hw : R64 (w.2.1 400 56)) (hs : R32 (w.2.1 400 50)) : HT l yX12_isWord cX12_isWord 2 (some .boolean) 7 0 0 w [ar 400, ar (21000 + i)] (rI (if w.2.1 400 50 = 2 ∧ w.2.1 400 56 = wcF i (slen i) then 1 else 0) w) := by
  refine HT.of (by decide) (by intro v hv; simp only [List.mem_cons, List.not_mem_nil, or_false] at hv; rcases hv with rfl | rfl <;> rfl) (Nat.le_of_ble_eq_true rfl) ?_
  intro Γ h hQ hRm hnm hl hw0
  have s400 : w.1 400 = (112, 0) := hM.1 400 (by decide) (by decide)
  have hb := wcF_bd i hi
  have hcm : (if wcF i (slen i) < w.2.1 400 56 then (1 : Int) else if w.2.1 400 56 = wcF i (slen i) then 0 else -1) = 0 ∧ w.2.1 400 56 = wcF i (slen i) ∨ (if wcF i (slen i) < w.2.1 400 56 then (1 : Int) else if w.2.1 400 56 = wcF i (slen i) then 0 else -1) ≠ 0 ∧ w.2.1 400 56 ≠ wcF i (slen i) := by
    by_cases c1 : wcF i (slen i) < w.2.1 400 56
    · rw [if_pos c1]; exact Or.inr ⟨by decide, by omega⟩
    · rw [if_neg c1]
      by_cases c2 : w.2.1 400 56 = wcF i (slen i)
      · rw [if_pos c2]; exact Or.inl ⟨rfl, c2⟩
      · rw [if_neg c2]; exact Or.inr ⟨by decide, c2⟩
  have hcr : R32 (if wcF i (slen i) < w.2.1 400 56 then (1 : Int) else if w.2.1 400 56 = wcF i (slen i) then 0 else -1) := by
    split
    · exact ⟨by decide, by decide⟩
    · split
      · exact ⟨by decide, by decide⟩
      · exact ⟨by decide, by decide⟩
  refine g_aload_n h dX12_isWord_0 rfl ?_
  refine g_getI h flX12_343 rfl (by assumption) dX12_isWord_1 ?_
  refine g_iconst h dX12_isWord_4 ?_
  refine g_icmp_ne (tgt := 24) h dX12_isWord_5 (by decide) (by first | assumption | exact ⟨by omega, by omega⟩) (by first | assumption | exact ⟨by omega, by omega⟩) (fun c5 => ?_) (fun c5 => ?_)
  · refine g_iconst h dX12_isWord_24 ?_
    refine g_zret h hQ (by first | decide | omega | (simp only [clS]; omega)) (by first | decide | omega | (simp only [clS]; omega)) (by omega) ?_ dX12_isWord_25
    refine ⟨congrArg (fun z => some (ai z)) ?_, rfl⟩
    first | rw [if_pos (by omega)] | rw [if_neg (by omega)]
  · refine g_aload_n h dX12_isWord_8 rfl ?_
    refine g_getL h flX12_352 rfl (by assumption) dX12_isWord_9 ?_
    refine g_aload_n h dX12_isWord_12 rfl ?_
    refine g_callS h rfl [_] (c_X12_wordOf _ _ i hi) clX12_362 st_X12_wordOf rfl rfl (by rw [hRm]; first | decide | (simp only [clS]; omega)) (by rw [hRm]; first | decide | (simp only [clS]; omega)) (fun _ => Nat.le_of_ble_eq_true rfl) (by rw [hRm]; first | decide | (simp only [clS]; omega)) (by rw [hRm]; first | decide | (simp only [clS]; omega)) dX12_isWord_13 (fun r13 w13 hp13 => ?_)
    obtain ⟨rfl, hw13⟩ := hp13
    rw [hw13]
    refine g_lcmp h (by first | assumption | exact ⟨by omega, by omega⟩) (by first | assumption | exact ⟨by omega, by omega⟩) dX12_isWord_16 ?_
    refine g_if_ne (tgt := 24) h dX12_isWord_17 (by decide) (by first | assumption | exact ⟨by omega, by omega⟩) (fun c17 => ?_) (fun c17 => ?_)
    · refine g_iconst h dX12_isWord_24 ?_
      refine g_zret h hQ (by first | decide | omega | (simp only [clS]; omega)) (by first | decide | omega | (simp only [clS]; omega)) (by omega) ?_ dX12_isWord_25
      refine ⟨congrArg (fun z => some (ai z)) ?_, rfl⟩
      first | rw [if_pos (by omega)] | rw [if_neg (by omega)]
    · refine g_iconst h dX12_isWord_20 ?_
      refine g_goto (tgt := 25) h dX12_isWord_21 (by decide) ?_
      refine g_zret h hQ (by first | decide | omega | (simp only [clS]; omega)) (by first | decide | omega | (simp only [clS]; omega)) (by omega) ?_ dX12_isWord_25
      refine ⟨congrArg (fun z => some (ai z)) ?_, rfl⟩
      first | rw [if_pos (by omega)] | rw [if_neg (by omega)]
set_option maxRecDepth 100000 in
set_option maxHeartbeats 4000000 in
theorem c_X12_is (l : Launch) (w : AW) (z : Int) (hM : MS w) (hs : R32 (w.2.1 400 50)) (hm : R32 (w.2.1 400 52)) (hz : R32 z) : HT l yX12_is cX12_is 2 (some .boolean) 1 0 0 w [ar 400, ai z] (rI (if w.2.1 400 50 = 4 ∧ w.2.1 400 52 = z then 1 else 0) w) := by
  refine HT.of (by decide) (by intro v hv; simp only [List.mem_cons, List.not_mem_nil, or_false] at hv; rcases hv with rfl | rfl <;> rfl) (Nat.le_of_ble_eq_true rfl) ?_
  intro Γ h hQ hRm hnm hl hw0
  have s400 : w.1 400 = (112, 0) := hM.1 400 (by decide) (by decide)
  refine g_aload_n h dX12_is_0 rfl ?_
  refine g_getI h flX12_343 rfl (by assumption) dX12_is_1 ?_
  refine g_iconst h dX12_is_4 ?_
  refine g_icmp_ne (tgt := 20) h dX12_is_5 (by decide) (by first | assumption | exact ⟨by omega, by omega⟩) (by first | assumption | exact ⟨by omega, by omega⟩) (fun c5 => ?_) (fun c5 => ?_)
  · refine g_iconst h dX12_is_20 ?_
    refine g_zret h hQ (by first | decide | omega | (simp only [clS]; omega)) (by first | decide | omega | (simp only [clS]; omega)) (by omega) ?_ dX12_is_21
    refine ⟨congrArg (fun z => some (ai z)) ?_, rfl⟩
    first | rw [if_pos (by omega)] | rw [if_neg (by omega)]
  · refine g_aload_n h dX12_is_8 rfl ?_
    refine g_getI h flX12_346 rfl (by assumption) dX12_is_9 ?_
    refine g_iload_n h dX12_is_12 rfl ?_
    refine g_icmp_ne (tgt := 20) h dX12_is_13 (by decide) (by first | assumption | exact ⟨by omega, by omega⟩) (by first | assumption | exact ⟨by omega, by omega⟩) (fun c13 => ?_) (fun c13 => ?_)
    · refine g_iconst h dX12_is_20 ?_
      refine g_zret h hQ (by first | decide | omega | (simp only [clS]; omega)) (by first | decide | omega | (simp only [clS]; omega)) (by omega) ?_ dX12_is_21
      refine ⟨congrArg (fun z => some (ai z)) ?_, rfl⟩
      first | rw [if_pos (by omega)] | rw [if_neg (by omega)]
    · refine g_iconst h dX12_is_16 ?_
      refine g_goto (tgt := 21) h dX12_is_17 (by decide) ?_
      refine g_zret h hQ (by first | decide | omega | (simp only [clS]; omega)) (by first | decide | omega | (simp only [clS]; omega)) (by omega) ?_ dX12_is_21
      refine ⟨congrArg (fun z => some (ai z)) ?_, rfl⟩
      first | rw [if_pos (by omega)] | rw [if_neg (by omega)]
set_option maxRecDepth 100000 in
set_option maxHeartbeats 4000000 in
theorem c_X12_isKept (l : Launch) (w : AW)  (hM : MS w) (hw : R64 (w.2.1 400 56)) (hs : R32 (w.2.1 400 50)) : HT l yX12_isKept cX12_isKept 1 (some .boolean) 8 0 0 w [ar 400] (rI (if (w.2.1 400 50 = 2 ∧ w.2.1 400 56 = wcF 17 (slen 17)) ∨ (w.2.1 400 50 = 2 ∧ w.2.1 400 56 = wcF 18 (slen 18)) ∨ (w.2.1 400 50 = 2 ∧ w.2.1 400 56 = wcF 19 (slen 19)) ∨ (w.2.1 400 50 = 2 ∧ w.2.1 400 56 = wcF 20 (slen 20)) then 1 else 0) w) := by
  refine HT.of (by decide) (by intro v hv; simp only [List.mem_cons, List.not_mem_nil, or_false] at hv; rcases hv with rfl <;> rfl) (Nat.le_of_ble_eq_true rfl) ?_
  intro Γ h hQ hRm hnm hl hw0
  have s400 : w.1 400 = (112, 0) := hM.1 400 (by decide) (by decide)
  refine g_aload_n h dX12_isKept_0 rfl ?_
  refine g_ldsw h (i := 17) rfl rfl rfl dX12_isKept_1 ?_
  refine g_callV h rfl (ci := 12) [_] (by assumption) (c_X12_isWord _ _ 17 hM (by decide) hw hs) clX12_368 (by decide) rfl in_X12_isWord se_X12_isWord rfl rfl (by rw [hRm]; first | decide | (simp only [clS]; omega)) (by rw [hRm]; first | decide | (simp only [clS]; omega)) (fun _ => Nat.le_of_ble_eq_true rfl) (by rw [hRm]; first | decide | (simp only [clS]; omega)) (by rw [hRm]; first | decide | (simp only [clS]; omega)) dX12_isKept_4 (fun r4 w4 hp4 => ?_)
  obtain ⟨rfl, hw4⟩ := hp4
  rw [hw4]
  have hbw4 := ite01 (w.2.1 400 50 = 2 ∧ w.2.1 400 56 = wcF 17 (slen 17))
  refine g_if_ne (tgt := 40) h dX12_isKept_7 (by decide) (by first | assumption | exact ⟨by omega, by omega⟩) (fun c7 => ?_) (fun c7 => ?_)
  · refine g_iconst h dX12_isKept_40 ?_
    refine g_goto (tgt := 45) h dX12_isKept_41 (by decide) ?_
    refine g_zret h hQ (by first | decide | omega | (simp only [clS]; omega)) (by first | decide | omega | (simp only [clS]; omega)) (by omega) ?_ dX12_isKept_45
    refine ⟨congrArg (fun z => some (ai z)) ?_, rfl⟩
    first | rw [if_pos (by omega)] | rw [if_neg (by omega)]
  · refine g_aload_n h dX12_isKept_10 rfl ?_
    refine g_ldsw h (i := 18) rfl rfl rfl dX12_isKept_11 ?_
    refine g_callV h rfl (ci := 12) [_] (by assumption) (c_X12_isWord _ _ 18 hM (by decide) hw hs) clX12_368 (by decide) rfl in_X12_isWord se_X12_isWord rfl rfl (by rw [hRm]; first | decide | (simp only [clS]; omega)) (by rw [hRm]; first | decide | (simp only [clS]; omega)) (fun _ => Nat.le_of_ble_eq_true rfl) (by rw [hRm]; first | decide | (simp only [clS]; omega)) (by rw [hRm]; first | decide | (simp only [clS]; omega)) dX12_isKept_14 (fun r14 w14 hp14 => ?_)
    obtain ⟨rfl, hw14⟩ := hp14
    rw [hw14]
    have hbw14 := ite01 (w.2.1 400 50 = 2 ∧ w.2.1 400 56 = wcF 18 (slen 18))
    refine g_if_ne (tgt := 40) h dX12_isKept_17 (by decide) (by first | assumption | exact ⟨by omega, by omega⟩) (fun c17 => ?_) (fun c17 => ?_)
    · refine g_iconst h dX12_isKept_40 ?_
      refine g_goto (tgt := 45) h dX12_isKept_41 (by decide) ?_
      refine g_zret h hQ (by first | decide | omega | (simp only [clS]; omega)) (by first | decide | omega | (simp only [clS]; omega)) (by omega) ?_ dX12_isKept_45
      refine ⟨congrArg (fun z => some (ai z)) ?_, rfl⟩
      first | rw [if_pos (by omega)] | rw [if_neg (by omega)]
    · refine g_aload_n h dX12_isKept_20 rfl ?_
      refine g_ldsw h (i := 19) rfl rfl rfl dX12_isKept_21 ?_
      refine g_callV h rfl (ci := 12) [_] (by assumption) (c_X12_isWord _ _ 19 hM (by decide) hw hs) clX12_368 (by decide) rfl in_X12_isWord se_X12_isWord rfl rfl (by rw [hRm]; first | decide | (simp only [clS]; omega)) (by rw [hRm]; first | decide | (simp only [clS]; omega)) (fun _ => Nat.le_of_ble_eq_true rfl) (by rw [hRm]; first | decide | (simp only [clS]; omega)) (by rw [hRm]; first | decide | (simp only [clS]; omega)) dX12_isKept_24 (fun r24 w24 hp24 => ?_)
      obtain ⟨rfl, hw24⟩ := hp24
      rw [hw24]
      have hbw24 := ite01 (w.2.1 400 50 = 2 ∧ w.2.1 400 56 = wcF 19 (slen 19))
      refine g_if_ne (tgt := 40) h dX12_isKept_27 (by decide) (by first | assumption | exact ⟨by omega, by omega⟩) (fun c27 => ?_) (fun c27 => ?_)
      · refine g_iconst h dX12_isKept_40 ?_
        refine g_goto (tgt := 45) h dX12_isKept_41 (by decide) ?_
        refine g_zret h hQ (by first | decide | omega | (simp only [clS]; omega)) (by first | decide | omega | (simp only [clS]; omega)) (by omega) ?_ dX12_isKept_45
        refine ⟨congrArg (fun z => some (ai z)) ?_, rfl⟩
        first | rw [if_pos (by omega)] | rw [if_neg (by omega)]
      · refine g_aload_n h dX12_isKept_30 rfl ?_
        refine g_ldsw h (i := 20) rfl rfl rfl dX12_isKept_31 ?_
        refine g_callV h rfl (ci := 12) [_] (by assumption) (c_X12_isWord _ _ 20 hM (by decide) hw hs) clX12_368 (by decide) rfl in_X12_isWord se_X12_isWord rfl rfl (by rw [hRm]; first | decide | (simp only [clS]; omega)) (by rw [hRm]; first | decide | (simp only [clS]; omega)) (fun _ => Nat.le_of_ble_eq_true rfl) (by rw [hRm]; first | decide | (simp only [clS]; omega)) (by rw [hRm]; first | decide | (simp only [clS]; omega)) dX12_isKept_34 (fun r34 w34 hp34 => ?_)
        obtain ⟨rfl, hw34⟩ := hp34
        rw [hw34]
        have hbw34 := ite01 (w.2.1 400 50 = 2 ∧ w.2.1 400 56 = wcF 20 (slen 20))
        refine g_if_eq (tgt := 44) h dX12_isKept_37 (by decide) (by first | assumption | exact ⟨by omega, by omega⟩) (fun c37 => ?_) (fun c37 => ?_)
        · refine g_iconst h dX12_isKept_44 ?_
          refine g_zret h hQ (by first | decide | omega | (simp only [clS]; omega)) (by first | decide | omega | (simp only [clS]; omega)) (by omega) ?_ dX12_isKept_45
          refine ⟨congrArg (fun z => some (ai z)) ?_, rfl⟩
          first | rw [if_pos (by omega)] | rw [if_neg (by omega)]
        · refine g_iconst h dX12_isKept_40 ?_
          refine g_goto (tgt := 45) h dX12_isKept_41 (by decide) ?_
          refine g_zret h hQ (by first | decide | omega | (simp only [clS]; omega)) (by first | decide | omega | (simp only [clS]; omega)) (by omega) ?_ dX12_isKept_45
          refine ⟨congrArg (fun z => some (ai z)) ?_, rfl⟩
          first | rw [if_pos (by omega)] | rw [if_neg (by omega)]
def nhM (w : AW) : Int := if (w.2.1 400 50 = 2 ∧ w.2.1 400 56 = wcF 25 (slen 25)) then 0 else if (w.2.1 400 50 = 2 ∧ w.2.1 400 56 = wcF 26 (slen 26)) then 1 else if (w.2.1 400 50 = 2 ∧ w.2.1 400 56 = wcF 27 (slen 27)) then 2 else if (w.2.1 400 50 = 2 ∧ w.2.1 400 56 = wcF 28 (slen 28)) then 3 else if (w.2.1 400 50 = 2 ∧ w.2.1 400 56 = wcF 29 (slen 29)) then 4 else if (w.2.1 400 50 = 2 ∧ w.2.1 400 56 = wcF 30 (slen 30)) then 5 else if (w.2.1 400 50 = 2 ∧ w.2.1 400 56 = wcF 31 (slen 31)) then 6 else if (w.2.1 400 50 = 2 ∧ w.2.1 400 56 = wcF 32 (slen 32)) then 7 else if (w.2.1 400 50 = 2 ∧ w.2.1 400 56 = wcF 33 (slen 33)) then 8 else -1
set_option maxRecDepth 100000 in
set_option maxHeartbeats 4000000 in
theorem c_X12_nameHere (l : Launch) (w : AW)  (hM : MS w) (hw : R64 (w.2.1 400 56)) (hs : R32 (w.2.1 400 50)) : HT l yX12_nameHere cX12_nameHere 1 (some .int) 8 0 0 w [ar 400] (rI (nhM w) w) := by
  refine HT.of (by decide) (by intro v hv; simp only [List.mem_cons, List.not_mem_nil, or_false] at hv; rcases hv with rfl <;> rfl) (Nat.le_of_ble_eq_true rfl) ?_
  intro Γ h hQ hRm hnm hl hw0
  have s400 : w.1 400 = (112, 0) := hM.1 400 (by decide) (by decide)
  refine g_aload_n h dX12_nameHere_0 rfl ?_
  refine g_ldsw h (i := 25) rfl rfl rfl dX12_nameHere_1 ?_
  refine g_callV h rfl (ci := 12) [_] (by assumption) (c_X12_isWord _ _ 25 hM (by decide) hw hs) clX12_368 (by decide) rfl in_X12_isWord se_X12_isWord rfl rfl (by rw [hRm]; first | decide | (simp only [clS]; omega)) (by rw [hRm]; first | decide | (simp only [clS]; omega)) (fun _ => Nat.le_of_ble_eq_true rfl) (by rw [hRm]; first | decide | (simp only [clS]; omega)) (by rw [hRm]; first | decide | (simp only [clS]; omega)) dX12_nameHere_4 (fun r4 w4 hp4 => ?_)
  obtain ⟨rfl, hw4⟩ := hp4
  rw [hw4]
  have hbw4 := ite01 (w.2.1 400 50 = 2 ∧ w.2.1 400 56 = wcF 25 (slen 25))
  refine g_if_eq (tgt := 12) h dX12_nameHere_7 (by decide) (by first | assumption | exact ⟨by omega, by omega⟩) (fun c7 => ?_) (fun c7 => ?_)
  · refine g_aload_n h dX12_nameHere_12 rfl ?_
    refine g_ldsw h (i := 26) rfl rfl rfl dX12_nameHere_13 ?_
    refine g_callV h rfl (ci := 12) [_] (by assumption) (c_X12_isWord _ _ 26 hM (by decide) hw hs) clX12_368 (by decide) rfl in_X12_isWord se_X12_isWord rfl rfl (by rw [hRm]; first | decide | (simp only [clS]; omega)) (by rw [hRm]; first | decide | (simp only [clS]; omega)) (fun _ => Nat.le_of_ble_eq_true rfl) (by rw [hRm]; first | decide | (simp only [clS]; omega)) (by rw [hRm]; first | decide | (simp only [clS]; omega)) dX12_nameHere_16 (fun r16 w16 hp16 => ?_)
    obtain ⟨rfl, hw16⟩ := hp16
    rw [hw16]
    have hbw16 := ite01 (w.2.1 400 50 = 2 ∧ w.2.1 400 56 = wcF 26 (slen 26))
    refine g_if_eq (tgt := 24) h dX12_nameHere_19 (by decide) (by first | assumption | exact ⟨by omega, by omega⟩) (fun c19 => ?_) (fun c19 => ?_)
    · refine g_aload_n h dX12_nameHere_24 rfl ?_
      refine g_ldsw h (i := 27) rfl rfl rfl dX12_nameHere_25 ?_
      refine g_callV h rfl (ci := 12) [_] (by assumption) (c_X12_isWord _ _ 27 hM (by decide) hw hs) clX12_368 (by decide) rfl in_X12_isWord se_X12_isWord rfl rfl (by rw [hRm]; first | decide | (simp only [clS]; omega)) (by rw [hRm]; first | decide | (simp only [clS]; omega)) (fun _ => Nat.le_of_ble_eq_true rfl) (by rw [hRm]; first | decide | (simp only [clS]; omega)) (by rw [hRm]; first | decide | (simp only [clS]; omega)) dX12_nameHere_28 (fun r28 w28 hp28 => ?_)
      obtain ⟨rfl, hw28⟩ := hp28
      rw [hw28]
      have hbw28 := ite01 (w.2.1 400 50 = 2 ∧ w.2.1 400 56 = wcF 27 (slen 27))
      refine g_if_eq (tgt := 36) h dX12_nameHere_31 (by decide) (by first | assumption | exact ⟨by omega, by omega⟩) (fun c31 => ?_) (fun c31 => ?_)
      · refine g_aload_n h dX12_nameHere_36 rfl ?_
        refine g_ldsw h (i := 28) rfl rfl rfl dX12_nameHere_37 ?_
        refine g_callV h rfl (ci := 12) [_] (by assumption) (c_X12_isWord _ _ 28 hM (by decide) hw hs) clX12_368 (by decide) rfl in_X12_isWord se_X12_isWord rfl rfl (by rw [hRm]; first | decide | (simp only [clS]; omega)) (by rw [hRm]; first | decide | (simp only [clS]; omega)) (fun _ => Nat.le_of_ble_eq_true rfl) (by rw [hRm]; first | decide | (simp only [clS]; omega)) (by rw [hRm]; first | decide | (simp only [clS]; omega)) dX12_nameHere_40 (fun r40 w40 hp40 => ?_)
        obtain ⟨rfl, hw40⟩ := hp40
        rw [hw40]
        have hbw40 := ite01 (w.2.1 400 50 = 2 ∧ w.2.1 400 56 = wcF 28 (slen 28))
        refine g_if_eq (tgt := 48) h dX12_nameHere_43 (by decide) (by first | assumption | exact ⟨by omega, by omega⟩) (fun c43 => ?_) (fun c43 => ?_)
        · refine g_aload_n h dX12_nameHere_48 rfl ?_
          refine g_ldsw h (i := 29) rfl rfl rfl dX12_nameHere_49 ?_
          refine g_callV h rfl (ci := 12) [_] (by assumption) (c_X12_isWord _ _ 29 hM (by decide) hw hs) clX12_368 (by decide) rfl in_X12_isWord se_X12_isWord rfl rfl (by rw [hRm]; first | decide | (simp only [clS]; omega)) (by rw [hRm]; first | decide | (simp only [clS]; omega)) (fun _ => Nat.le_of_ble_eq_true rfl) (by rw [hRm]; first | decide | (simp only [clS]; omega)) (by rw [hRm]; first | decide | (simp only [clS]; omega)) dX12_nameHere_52 (fun r52 w52 hp52 => ?_)
          obtain ⟨rfl, hw52⟩ := hp52
          rw [hw52]
          have hbw52 := ite01 (w.2.1 400 50 = 2 ∧ w.2.1 400 56 = wcF 29 (slen 29))
          refine g_if_eq (tgt := 60) h dX12_nameHere_55 (by decide) (by first | assumption | exact ⟨by omega, by omega⟩) (fun c55 => ?_) (fun c55 => ?_)
          · refine g_aload_n h dX12_nameHere_60 rfl ?_
            refine g_ldsw h (i := 30) rfl rfl rfl dX12_nameHere_61 ?_
            refine g_callV h rfl (ci := 12) [_] (by assumption) (c_X12_isWord _ _ 30 hM (by decide) hw hs) clX12_368 (by decide) rfl in_X12_isWord se_X12_isWord rfl rfl (by rw [hRm]; first | decide | (simp only [clS]; omega)) (by rw [hRm]; first | decide | (simp only [clS]; omega)) (fun _ => Nat.le_of_ble_eq_true rfl) (by rw [hRm]; first | decide | (simp only [clS]; omega)) (by rw [hRm]; first | decide | (simp only [clS]; omega)) dX12_nameHere_64 (fun r64 w64 hp64 => ?_)
            obtain ⟨rfl, hw64⟩ := hp64
            rw [hw64]
            have hbw64 := ite01 (w.2.1 400 50 = 2 ∧ w.2.1 400 56 = wcF 30 (slen 30))
            refine g_if_eq (tgt := 72) h dX12_nameHere_67 (by decide) (by first | assumption | exact ⟨by omega, by omega⟩) (fun c67 => ?_) (fun c67 => ?_)
            · refine g_aload_n h dX12_nameHere_72 rfl ?_
              refine g_ldsw h (i := 31) rfl rfl rfl dX12_nameHere_73 ?_
              refine g_callV h rfl (ci := 12) [_] (by assumption) (c_X12_isWord _ _ 31 hM (by decide) hw hs) clX12_368 (by decide) rfl in_X12_isWord se_X12_isWord rfl rfl (by rw [hRm]; first | decide | (simp only [clS]; omega)) (by rw [hRm]; first | decide | (simp only [clS]; omega)) (fun _ => Nat.le_of_ble_eq_true rfl) (by rw [hRm]; first | decide | (simp only [clS]; omega)) (by rw [hRm]; first | decide | (simp only [clS]; omega)) dX12_nameHere_76 (fun r76 w76 hp76 => ?_)
              obtain ⟨rfl, hw76⟩ := hp76
              rw [hw76]
              have hbw76 := ite01 (w.2.1 400 50 = 2 ∧ w.2.1 400 56 = wcF 31 (slen 31))
              refine g_if_eq (tgt := 85) h dX12_nameHere_79 (by decide) (by first | assumption | exact ⟨by omega, by omega⟩) (fun c79 => ?_) (fun c79 => ?_)
              · refine g_aload_n h dX12_nameHere_85 rfl ?_
                refine g_ldsw h (i := 32) rfl rfl rfl dX12_nameHere_86 ?_
                refine g_callV h rfl (ci := 12) [_] (by assumption) (c_X12_isWord _ _ 32 hM (by decide) hw hs) clX12_368 (by decide) rfl in_X12_isWord se_X12_isWord rfl rfl (by rw [hRm]; first | decide | (simp only [clS]; omega)) (by rw [hRm]; first | decide | (simp only [clS]; omega)) (fun _ => Nat.le_of_ble_eq_true rfl) (by rw [hRm]; first | decide | (simp only [clS]; omega)) (by rw [hRm]; first | decide | (simp only [clS]; omega)) dX12_nameHere_89 (fun r89 w89 hp89 => ?_)
                obtain ⟨rfl, hw89⟩ := hp89
                rw [hw89]
                have hbw89 := ite01 (w.2.1 400 50 = 2 ∧ w.2.1 400 56 = wcF 32 (slen 32))
                refine g_if_eq (tgt := 98) h dX12_nameHere_92 (by decide) (by first | assumption | exact ⟨by omega, by omega⟩) (fun c92 => ?_) (fun c92 => ?_)
                · refine g_aload_n h dX12_nameHere_98 rfl ?_
                  refine g_ldsw h (i := 33) rfl rfl rfl dX12_nameHere_99 ?_
                  refine g_callV h rfl (ci := 12) [_] (by assumption) (c_X12_isWord _ _ 33 hM (by decide) hw hs) clX12_368 (by decide) rfl in_X12_isWord se_X12_isWord rfl rfl (by rw [hRm]; first | decide | (simp only [clS]; omega)) (by rw [hRm]; first | decide | (simp only [clS]; omega)) (fun _ => Nat.le_of_ble_eq_true rfl) (by rw [hRm]; first | decide | (simp only [clS]; omega)) (by rw [hRm]; first | decide | (simp only [clS]; omega)) dX12_nameHere_102 (fun r102 w102 hp102 => ?_)
                  obtain ⟨rfl, hw102⟩ := hp102
                  rw [hw102]
                  have hbw102 := ite01 (w.2.1 400 50 = 2 ∧ w.2.1 400 56 = wcF 33 (slen 33))
                  refine g_if_eq (tgt := 113) h dX12_nameHere_105 (by decide) (by first | assumption | exact ⟨by omega, by omega⟩) (fun c105 => ?_) (fun c105 => ?_)
                  · refine g_iconst h dX12_nameHere_113 ?_
                    refine g_iret h hQ (by first | decide | omega | (simp only [clS]; omega)) (by first | decide | omega | (simp only [clS]; omega)) ?_ dX12_nameHere_114
                    refine ⟨congrArg (fun z => some (ai z)) ?_, rfl⟩
                    unfold nhM
                    (repeat first | rw [if_pos (by omega)] | rw [if_neg (by omega)])
                  · refine g_bipush h dX12_nameHere_108 rfl ?_
                    refine g_goto (tgt := 114) h dX12_nameHere_110 (by decide) ?_
                    refine g_iret h hQ (by first | decide | omega | (simp only [clS]; omega)) (by first | decide | omega | (simp only [clS]; omega)) ?_ dX12_nameHere_114
                    refine ⟨congrArg (fun z => some (ai z)) ?_, rfl⟩
                    unfold nhM
                    (repeat first | rw [if_pos (by omega)] | rw [if_neg (by omega)])
                · refine g_bipush h dX12_nameHere_95 rfl ?_
                  refine g_iret h hQ (by first | decide | omega | (simp only [clS]; omega)) (by first | decide | omega | (simp only [clS]; omega)) ?_ dX12_nameHere_97
                  refine ⟨congrArg (fun z => some (ai z)) ?_, rfl⟩
                  unfold nhM
                  (repeat first | rw [if_pos (by omega)] | rw [if_neg (by omega)])
              · refine g_bipush h dX12_nameHere_82 rfl ?_
                refine g_iret h hQ (by first | decide | omega | (simp only [clS]; omega)) (by first | decide | omega | (simp only [clS]; omega)) ?_ dX12_nameHere_84
                refine ⟨congrArg (fun z => some (ai z)) ?_, rfl⟩
                unfold nhM
                (repeat first | rw [if_pos (by omega)] | rw [if_neg (by omega)])
            · refine g_iconst h dX12_nameHere_70 ?_
              refine g_iret h hQ (by first | decide | omega | (simp only [clS]; omega)) (by first | decide | omega | (simp only [clS]; omega)) ?_ dX12_nameHere_71
              refine ⟨congrArg (fun z => some (ai z)) ?_, rfl⟩
              unfold nhM
              (repeat first | rw [if_pos (by omega)] | rw [if_neg (by omega)])
          · refine g_iconst h dX12_nameHere_58 ?_
            refine g_iret h hQ (by first | decide | omega | (simp only [clS]; omega)) (by first | decide | omega | (simp only [clS]; omega)) ?_ dX12_nameHere_59
            refine ⟨congrArg (fun z => some (ai z)) ?_, rfl⟩
            unfold nhM
            (repeat first | rw [if_pos (by omega)] | rw [if_neg (by omega)])
        · refine g_iconst h dX12_nameHere_46 ?_
          refine g_iret h hQ (by first | decide | omega | (simp only [clS]; omega)) (by first | decide | omega | (simp only [clS]; omega)) ?_ dX12_nameHere_47
          refine ⟨congrArg (fun z => some (ai z)) ?_, rfl⟩
          unfold nhM
          (repeat first | rw [if_pos (by omega)] | rw [if_neg (by omega)])
      · refine g_iconst h dX12_nameHere_34 ?_
        refine g_iret h hQ (by first | decide | omega | (simp only [clS]; omega)) (by first | decide | omega | (simp only [clS]; omega)) ?_ dX12_nameHere_35
        refine ⟨congrArg (fun z => some (ai z)) ?_, rfl⟩
        unfold nhM
        (repeat first | rw [if_pos (by omega)] | rw [if_neg (by omega)])
    · refine g_iconst h dX12_nameHere_22 ?_
      refine g_iret h hQ (by first | decide | omega | (simp only [clS]; omega)) (by first | decide | omega | (simp only [clS]; omega)) ?_ dX12_nameHere_23
      refine ⟨congrArg (fun z => some (ai z)) ?_, rfl⟩
      unfold nhM
      (repeat first | rw [if_pos (by omega)] | rw [if_neg (by omega)])
  · refine g_iconst h dX12_nameHere_10 ?_
    refine g_iret h hQ (by first | decide | omega | (simp only [clS]; omega)) (by first | decide | omega | (simp only [clS]; omega)) ?_ dX12_nameHere_11
    refine ⟨congrArg (fun z => some (ai z)) ?_, rfl⟩
    unfold nhM
    (repeat first | rw [if_pos (by omega)] | rw [if_neg (by omega)])
set_option maxRecDepth 100000 in
set_option maxHeartbeats 4000000 in
theorem c_X12_stop (l : Launch) (w : AW) (z : Int) (hM : MS w) : HT l yX12_stop cX12_stop 2 (some (.object "LakeBreathModel$Stop")) 1 0 0 w [ar 400, ai z] (fun r w' => r = some (ar 445) ∧ w' = upI (upI w 445 6 z) 445 7 (w.2.1 400 51)) := by
  refine HT.of (by decide) (by intro v hv; simp only [List.mem_cons, List.not_mem_nil, or_false] at hv; rcases hv with rfl | rfl <;> rfl) (Nat.le_of_ble_eq_true rfl) ?_
  intro Γ h hQ hRm hnm hl hw0
  have s400 : w.1 400 = (112, 0) := hM.1 400 (by decide) (by decide)
  have s445 : w.1 445 = (111, 0) := hM.1 445 (by decide) (by decide)
  have p45 : w.2.2 400 45 = some 445 := hM.2 (400, 45, 445) (by decide)
  refine g_aload_n h dX12_stop_0 rfl ?_
  refine g_getQ h flX12_126 rfl (by assumption) (by assumption) dX12_stop_1 ?_
  refine g_iload_n h dX12_stop_4 rfl ?_
  refine g_putIN h flX12_316 rfl rfl (by assumption) dX12_stop_5 ?_
  refine g_aload_n h dX12_stop_8 rfl ?_
  refine g_getQ h flX12_126 rfl (by assumption) (by assumption) dX12_stop_9 ?_
  refine g_aload_n h dX12_stop_12 rfl ?_
  refine g_getI h flX12_319 rfl (by assumption) dX12_stop_13 ?_
  refine g_putIN h flX12_322 rfl rfl (by assumption) dX12_stop_16 ?_
  refine g_aload_n h dX12_stop_19 rfl ?_
  refine g_getQ h flX12_126 rfl (by assumption) (by assumption) dX12_stop_20 ?_
  refine g_aret h hQ (by first | decide | omega | (simp only [clS]; omega)) (by first | decide | omega | (simp only [clS]; omega)) ?_ dX12_stop_23
  exact ⟨rfl, rfl⟩
/-- an item is put -/
def puW (w : AW) (p m : Nat) (s v : Int) : AW := upI (upI (upI w (p + 1) m s) (p + 2) m v) p 1 ((m : Int) + 1)
set_option maxRecDepth 100000 in
set_option maxHeartbeats 4000000 in
theorem c_X10_put (l : Launch) (w : AW) (p m : Nat) (s v : Int) (h0 : w.1 p = (110, 0)) (h2 : w.2.2 p 2 = some (p + 1)) (h3 : w.2.2 p 3 = some (p + 2)) (h4 : w.1 (p + 1) = (1, 300)) (h5 : w.1 (p + 2) = (1, 300)) (hm : w.2.1 p 1 = (m : Int)) (hm3 : m < 300) : HT l yX10_put cX10_put 3 none 1 0 0 w [ar p, ai s, ai v] (rV (puW w p m s v)) := by
  refine HT.of (by decide) (by intro v hv; simp only [List.mem_cons, List.not_mem_nil, or_false] at hv; rcases hv with rfl | rfl | rfl <;> rfl) (Nat.le_of_ble_eq_true rfl) ?_
  intro Γ h hQ hRm hnm hl hw0
  have e1 : (upI w (p + 1) m s).2.1 p 1 = (m : Int) := by rw [upI_o _ _ _ (by omega)]; exact hm
  have e2 : (upI (upI w (p + 1) m s) (p + 2) m v).2.1 p 1 = (m : Int) := by rw [upI_o _ _ _ (by omega)]; exact e1
  refine g_aload_n h dX10_put_0 rfl ?_
  refine g_getQ h flX10_9 rfl (by assumption) (by assumption) dX10_put_1 ?_
  refine g_aload_n h dX10_put_4 rfl ?_
  refine g_getI h flX10_18 rfl (by assumption) dX10_put_5 ?_
  rw [hm]
  refine g_iload_n h dX10_put_8 rfl ?_
  refine g_iast h (m) (by assumption) (by first | omega | assumption) (by first | omega | assumption) (by first | decide | omega) dX10_put_9 ?_
  refine g_aload_n h dX10_put_10 rfl ?_
  refine g_getQ h flX10_15 rfl (by assumption) (by assumption) dX10_put_11 ?_
  refine g_aload_n h dX10_put_14 rfl ?_
  refine g_getI h flX10_18 rfl (by assumption) dX10_put_15 ?_
  rw [e1]
  refine g_iload_n h dX10_put_18 rfl ?_
  refine g_iast h (m) (by assumption) (by first | omega | assumption) (by first | omega | assumption) (by first | decide | omega) dX10_put_19 ?_
  refine g_aload_n h dX10_put_20 rfl ?_
  refine g_dup h dX10_put_21 rfl ?_
  refine g_getI h flX10_18 rfl (by assumption) dX10_put_22 ?_
  rw [e2]
  refine g_iconst h dX10_put_25 ?_
  refine g_iadd h dX10_put_26 ?_
  refine g_putI h flX10_18 rfl rfl (by assumption) dX10_put_27 ?_
  refine g_vret h hQ (by first | decide | omega | (simp only [clS]; omega)) (by first | decide | omega | (simp only [clS]; omega)) ?_ dX10_put_30
  exact ⟨rfl, rfl⟩
