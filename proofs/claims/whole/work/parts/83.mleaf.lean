/-! ===== rows: the rest of any sign, Math.min of longs; M's small methods ===== -/
theorem ofInt_tmod {a b : Int} (ha : R32 a) (hb : R32 b) (h1 : 0 < b) : Int32.ofInt a - Int32.ofInt a / Int32.ofInt b * Int32.ofInt b = Int32.ofInt (a.tmod b) := by
  rw [ofInt_tdiv ha hb h1, ← Int32.ofInt_mul, ← Int32.ofInt_sub]
  congr 1
  have := Int.tmod_add_tdiv_mul a b
  omega
theorem ofInt_minL {a b : Int} (ha : R64 a) (hb : R64 b) : (if Int64.ofInt b < Int64.ofInt a then Int64.ofInt b else Int64.ofInt a) = Int64.ofInt (min a b) := by
  rw [Int.min_def]
  by_cases h : b < a
  · rw [if_pos (by rw [Int64.lt_iff_toInt_lt, ha.toInt, hb.toInt]; exact h), if_neg (by omega)]
  · rw [if_neg (fun q => h (by rw [Int64.lt_iff_toInt_lt, ha.toInt, hb.toInt] at q; exact q)), if_pos (by omega)]
theorem st_minL : Cond.static Lib.MathLoose.min_long.x ∈ gw_tbl := gw_in (by decide +kernel) (by decide +kernel)
theorem co_minL : Cond.code Lib.MathLoose.min_long.x Lib.MathLoose.min_long.code 4 (some .long) ∈ gw_tbl := gw_in (by decide +kernel) (by decide +kernel)
theorem mlX12_199 : Cond.methodLink RX12 199 Lib.MathLoose.min_long.x ∈ gw_tbl := gw_in (by decide +kernel) (by decide +kernel)
section GM1
variable {Γ : Cx} {cc : ByteArray} {own : String} {nL pc k n : Nat} {lo : List (Option AV)} {st : List AV} {w : AW}
theorem g_iremT (h : OKB Γ cc own nL) {a b : Int} (ha : R32 a) (hb : R32 b) (h1 : 0 < b) (hd : decode cc pc = .ok (.irem, 1)) (kk : GG Γ (pc + 1) lo (ai (a.tmod b) :: st) w k n) : GG Γ pc lo (ai b :: ai a :: st) w k n := by
  intro ad ls H locs hR hl ho hs hL hX
  refine lv_irem h.1 h.2.1 hd (ne0_of hb h1) ?_
  rw [ofInt_tmod ha hb h1]
  exact kk ad ls H locs hR hl ho ⟨trivial, hs.2.2⟩ hL hX
theorem g_minL (h : OKB Γ cc own nL) (hnl : lo.length = nL) {a b : Int} {idx : Nat} (hw : Cond.methodLink own idx Lib.MathLoose.min_long.x ∈ gw_tbl) (ha : R64 a) (hb : R64 b) (hfr : 1 ≤ (cxR Γ).frames) (hlc : 23 ≤ (cxR Γ).locals) (hcat : ∀ ad, ((st.map (cv ad)).map fun v => v.category).sum ≤ 8) (hk : k ≤ (cxR Γ).cells) (hn : n ≤ (cxR Γ).slots) (hd : decode cc pc = .ok (.invokestatic idx, 3)) (kk : GG Γ (pc + 3) lo (aL (min a b) :: st) w k n) : GG Γ pc lo (aL b :: aL a :: st) w k n := by
  intro ad ls H locs hR hl ho hs hL hX
  have h4 := kk ad ls H locs hR hl ho ⟨trivial, hs.2.2⟩ hL hX
  rw [List.map_cons, show cv ad (aL (min a b)) = .long (Int64.ofInt (min a b)) from rfl, ← ofInt_minL ha hb] at h4
  exact va_mmin_long h.1 h.2.1 (by rw [h.2.2.1, ← hnl]; exact hl.1.symm) h.2.2.2.1 (h.2.2.2.2.1 _ hw) (h.2.2.2.2.1 _ st_minL) (h.2.2.2.2.1 _ ini_Math) (h.2.2.2.2.1 _ co_minL) hfr (by have := hcat ad; omega) hk hn hd h4
end GM1
/-- trouble z, no place -/
def tM (w : AW) (z : Int) : AW := upI (upI w 400 1 z) 400 2 (-1)
/-- bounds of M's lakes -/
def MG (w : AW) : Prop := ∀ k, k < 20 → 0 ≤ w.2.1 407 k ∧ w.2.1 407 k ≤ 100000 ∧ 0 ≤ w.2.1 408 k ∧ w.2.1 408 k ≤ 400 ∧ 0 ≤ w.2.1 409 k ∧ w.2.1 409 k ≤ 1000
def MN (w : AW) : Prop := ∀ L, L < 2 → 1 ≤ w.2.1 410 L ∧ w.2.1 410 L ≤ 10000 ∧ 0 ≤ w.2.1 411 L ∧ w.2.1 411 L ≤ 20000 ∧ 0 ≤ w.2.1 412 L ∧ w.2.1 412 L ≤ 10000 ∧ 2 ≤ w.2.1 413 L ∧ w.2.1 413 L ≤ 1000 ∧ 0 ≤ w.2.1 414 L ∧ w.2.1 414 L ≤ 399
def holdsM (w : AW) (L i : Nat) : Int := holdsF (w.2.1 410 L) (w.2.1 411 L) i
set_option maxRecDepth 100000 in
set_option maxHeartbeats 4000000 in
theorem c_X12_in (l : Launch) (w : AW) (v a b : Int) (hv : R32 v) (ha : R32 a) (hb : R32 b) : HT l yX12_in cX12_in 3 (some .boolean) 1 0 0 w [ai v, ai a, ai b] (rI (if a ≤ v ∧ v ≤ b then 1 else 0) w) := by
  refine HT.of (by decide) (by intro v hv; simp only [List.mem_cons, List.not_mem_nil, or_false] at hv; rcases hv with rfl | rfl | rfl <;> rfl) (Nat.le_of_ble_eq_true rfl) ?_
  intro Γ h hQ hRm hnm hl hw0
  refine g_iload_n h dX12_in_0 rfl ?_
  refine g_iload_n h dX12_in_1 rfl ?_
  refine g_icmp_lt (tgt := 14) h dX12_in_2 (by decide) (by first | assumption | exact ⟨by omega, by omega⟩) (by first | assumption | exact ⟨by omega, by omega⟩) (fun c2 => ?_) (fun c2 => ?_)
  · refine g_iconst h dX12_in_14 ?_
    refine g_zret h hQ (by first | decide | omega | (simp only [clS]; omega)) (by first | decide | omega | (simp only [clS]; omega)) (by omega) ?_ dX12_in_15
    exact ⟨by first | rw [if_pos (by omega)] | rw [if_neg (by omega)], rfl⟩
  · refine g_iload_n h dX12_in_5 rfl ?_
    refine g_iload_n h dX12_in_6 rfl ?_
    refine g_icmp_gt (tgt := 14) h dX12_in_7 (by decide) (by first | assumption | exact ⟨by omega, by omega⟩) (by first | assumption | exact ⟨by omega, by omega⟩) (fun c7 => ?_) (fun c7 => ?_)
    · refine g_iconst h dX12_in_14 ?_
      refine g_zret h hQ (by first | decide | omega | (simp only [clS]; omega)) (by first | decide | omega | (simp only [clS]; omega)) (by omega) ?_ dX12_in_15
      exact ⟨by first | rw [if_pos (by omega)] | rw [if_neg (by omega)], rfl⟩
    · refine g_iconst h dX12_in_10 ?_
      refine g_goto (tgt := 15) h dX12_in_11 (by decide) ?_
      refine g_zret h hQ (by first | decide | omega | (simp only [clS]; omega)) (by first | decide | omega | (simp only [clS]; omega)) (by omega) ?_ dX12_in_15
      exact ⟨by first | rw [if_pos (by omega)] | rw [if_neg (by omega)], rfl⟩
set_option maxRecDepth 100000 in
set_option maxHeartbeats 4000000 in
theorem c_X12_isLake (l : Launch) (w : AW) (z : Int) (hz : R32 z) : HT l yX12_isLake cX12_isLake 1 (some .boolean) 1 0 0 w [ai z] (rI (if 0 ≤ z ∧ z < 2 then 1 else 0) w) := by
  refine HT.of (by decide) (by intro v hv; simp only [List.mem_cons, List.not_mem_nil, or_false] at hv; rcases hv with rfl <;> rfl) (Nat.le_of_ble_eq_true rfl) ?_
  intro Γ h hQ hRm hnm hl hw0
  refine g_iload_n h dX12_isLake_0 rfl ?_
  refine g_if_lt (tgt := 13) h dX12_isLake_1 (by decide) (by first | assumption | exact ⟨by omega, by omega⟩) (fun c1 => ?_) (fun c1 => ?_)
  · refine g_iconst h dX12_isLake_13 ?_
    refine g_zret h hQ (by first | decide | omega | (simp only [clS]; omega)) (by first | decide | omega | (simp only [clS]; omega)) (by omega) ?_ dX12_isLake_14
    exact ⟨by first | rw [if_pos (by omega)] | rw [if_neg (by omega)], rfl⟩
  · refine g_iload_n h dX12_isLake_4 rfl ?_
    refine g_iconst h dX12_isLake_5 ?_
    refine g_icmp_ge (tgt := 13) h dX12_isLake_6 (by decide) (by first | assumption | exact ⟨by omega, by omega⟩) (by first | assumption | exact ⟨by omega, by omega⟩) (fun c6 => ?_) (fun c6 => ?_)
    · refine g_iconst h dX12_isLake_13 ?_
      refine g_zret h hQ (by first | decide | omega | (simp only [clS]; omega)) (by first | decide | omega | (simp only [clS]; omega)) (by omega) ?_ dX12_isLake_14
      exact ⟨by first | rw [if_pos (by omega)] | rw [if_neg (by omega)], rfl⟩
    · refine g_iconst h dX12_isLake_9 ?_
      refine g_goto (tgt := 14) h dX12_isLake_10 (by decide) ?_
      refine g_zret h hQ (by first | decide | omega | (simp only [clS]; omega)) (by first | decide | omega | (simp only [clS]; omega)) (by omega) ?_ dX12_isLake_14
      exact ⟨by first | rw [if_pos (by omega)] | rw [if_neg (by omega)], rfl⟩
set_option maxRecDepth 100000 in
set_option maxHeartbeats 4000000 in
theorem c_X12_isCell (l : Launch) (w : AW) (z : Int) (hz : R32 z) : HT l yX12_isCell cX12_isCell 1 (some .boolean) 1 0 0 w [ai z] (rI (if 0 ≤ z ∧ z < 400 then 1 else 0) w) := by
  refine HT.of (by decide) (by intro v hv; simp only [List.mem_cons, List.not_mem_nil, or_false] at hv; rcases hv with rfl <;> rfl) (Nat.le_of_ble_eq_true rfl) ?_
  intro Γ h hQ hRm hnm hl hw0
  refine g_iload_n h dX12_isCell_0 rfl ?_
  refine g_if_lt (tgt := 15) h dX12_isCell_1 (by decide) (by first | assumption | exact ⟨by omega, by omega⟩) (fun c1 => ?_) (fun c1 => ?_)
  · refine g_iconst h dX12_isCell_15 ?_
    refine g_zret h hQ (by first | decide | omega | (simp only [clS]; omega)) (by first | decide | omega | (simp only [clS]; omega)) (by omega) ?_ dX12_isCell_16
    exact ⟨by first | rw [if_pos (by omega)] | rw [if_neg (by omega)], rfl⟩
  · refine g_iload_n h dX12_isCell_4 rfl ?_
    refine g_sipush h dX12_isCell_5 rfl ?_
    refine g_icmp_ge (tgt := 15) h dX12_isCell_8 (by decide) (by first | assumption | exact ⟨by omega, by omega⟩) (by first | assumption | exact ⟨by omega, by omega⟩) (fun c8 => ?_) (fun c8 => ?_)
    · refine g_iconst h dX12_isCell_15 ?_
      refine g_zret h hQ (by first | decide | omega | (simp only [clS]; omega)) (by first | decide | omega | (simp only [clS]; omega)) (by omega) ?_ dX12_isCell_16
      exact ⟨by first | rw [if_pos (by omega)] | rw [if_neg (by omega)], rfl⟩
    · refine g_iconst h dX12_isCell_11 ?_
      refine g_goto (tgt := 16) h dX12_isCell_12 (by decide) ?_
      refine g_zret h hQ (by first | decide | omega | (simp only [clS]; omega)) (by first | decide | omega | (simp only [clS]; omega)) (by omega) ?_ dX12_isCell_16
      exact ⟨by first | rw [if_pos (by omega)] | rw [if_neg (by omega)], rfl⟩
set_option maxRecDepth 100000 in
set_option maxHeartbeats 4000000 in
theorem c_X12_isLayer (l : Launch) (w : AW) (z i : Int) (hz : R32 z) (hi : R32 i) : HT l yX12_isLayer cX12_isLayer 2 (some .boolean) 2 0 0 w [ai z, ai i] (rI (if (0 ≤ z ∧ z < 2) ∧ 0 ≤ i ∧ i < 10 then 1 else 0) w) := by
  refine HT.of (by decide) (by intro v hv; simp only [List.mem_cons, List.not_mem_nil, or_false] at hv; rcases hv with rfl | rfl <;> rfl) (Nat.le_of_ble_eq_true rfl) ?_
  intro Γ h hQ hRm hnm hl hw0
  refine g_iload_n h dX12_isLayer_0 rfl ?_
  refine g_callS h rfl [_] (c_X12_isLake _ _ _ hz) clX12_182 st_X12_isLake rfl rfl (by rw [hRm]; first | decide | (simp only [clS]; omega)) (by rw [hRm]; first | decide | (simp only [clS]; omega)) (fun _ => Nat.le_of_ble_eq_true rfl) (by rw [hRm]; first | decide | (simp only [clS]; omega)) (by rw [hRm]; first | decide | (simp only [clS]; omega)) dX12_isLayer_1 (fun r1 w1 hp1 => ?_)
  obtain ⟨rfl, hw1⟩ := hp1
  rw [hw1]
  have hbw1 := ite01 (0 ≤ z ∧ z < 2)
  refine g_if_eq (tgt := 21) h dX12_isLayer_4 (by decide) (by first | assumption | exact ⟨by omega, by omega⟩) (fun c4 => ?_) (fun c4 => ?_)
  · refine g_iconst h dX12_isLayer_21 ?_
    refine g_zret h hQ (by first | decide | omega | (simp only [clS]; omega)) (by first | decide | omega | (simp only [clS]; omega)) (by omega) ?_ dX12_isLayer_22
    first
    | (exfalso; omega)
    | (exact ⟨by first | rw [if_pos (by omega)] | rw [if_neg (by omega)], rfl⟩)
  · refine g_iload_n h dX12_isLayer_7 rfl ?_
    refine g_if_lt (tgt := 21) h dX12_isLayer_8 (by decide) (by first | assumption | exact ⟨by omega, by omega⟩) (fun c8 => ?_) (fun c8 => ?_)
    · refine g_iconst h dX12_isLayer_21 ?_
      refine g_zret h hQ (by first | decide | omega | (simp only [clS]; omega)) (by first | decide | omega | (simp only [clS]; omega)) (by omega) ?_ dX12_isLayer_22
      first
      | (exfalso; omega)
      | (exact ⟨by first | rw [if_pos (by omega)] | rw [if_neg (by omega)], rfl⟩)
    · refine g_iload_n h dX12_isLayer_11 rfl ?_
      refine g_bipush h dX12_isLayer_12 rfl ?_
      refine g_icmp_ge (tgt := 21) h dX12_isLayer_14 (by decide) (by first | assumption | exact ⟨by omega, by omega⟩) (by first | assumption | exact ⟨by omega, by omega⟩) (fun c14 => ?_) (fun c14 => ?_)
      · refine g_iconst h dX12_isLayer_21 ?_
        refine g_zret h hQ (by first | decide | omega | (simp only [clS]; omega)) (by first | decide | omega | (simp only [clS]; omega)) (by omega) ?_ dX12_isLayer_22
        first
        | (exfalso; omega)
        | (exact ⟨by first | rw [if_pos (by omega)] | rw [if_neg (by omega)], rfl⟩)
      · refine g_iconst h dX12_isLayer_17 ?_
        refine g_goto (tgt := 22) h dX12_isLayer_18 (by decide) ?_
        refine g_zret h hQ (by first | decide | omega | (simp only [clS]; omega)) (by first | decide | omega | (simp only [clS]; omega)) (by omega) ?_ dX12_isLayer_22
        first
        | (exfalso; omega)
        | (exact ⟨by first | rw [if_pos (by omega)] | rw [if_neg (by omega)], rfl⟩)
set_option maxRecDepth 100000 in
set_option maxHeartbeats 4000000 in
theorem c_X12_isLetter (l : Launch) (w : AW) (z : Int) (hz : R32 z) : HT l yX12_isLetter cX12_isLetter 1 (some .boolean) 1 0 0 w [ai z] (rI (if 97 ≤ z ∧ z ≤ 122 then 1 else 0) w) := by
  refine HT.of (by decide) (by intro v hv; simp only [List.mem_cons, List.not_mem_nil, or_false] at hv; rcases hv with rfl <;> rfl) (Nat.le_of_ble_eq_true rfl) ?_
  intro Γ h hQ hRm hnm hl hw0
  refine g_iload_n h dX12_isLetter_0 rfl ?_
  refine g_bipush h dX12_isLetter_1 rfl ?_
  refine g_icmp_lt (tgt := 16) h dX12_isLetter_3 (by decide) (by first | assumption | exact ⟨by omega, by omega⟩) (by first | assumption | exact ⟨by omega, by omega⟩) (fun c3 => ?_) (fun c3 => ?_)
  · refine g_iconst h dX12_isLetter_16 ?_
    refine g_zret h hQ (by first | decide | omega | (simp only [clS]; omega)) (by first | decide | omega | (simp only [clS]; omega)) (by omega) ?_ dX12_isLetter_17
    exact ⟨by first | rw [if_pos (by omega)] | rw [if_neg (by omega)], rfl⟩
  · refine g_iload_n h dX12_isLetter_6 rfl ?_
    refine g_bipush h dX12_isLetter_7 rfl ?_
    refine g_icmp_gt (tgt := 16) h dX12_isLetter_9 (by decide) (by first | assumption | exact ⟨by omega, by omega⟩) (by first | assumption | exact ⟨by omega, by omega⟩) (fun c9 => ?_) (fun c9 => ?_)
    · refine g_iconst h dX12_isLetter_16 ?_
      refine g_zret h hQ (by first | decide | omega | (simp only [clS]; omega)) (by first | decide | omega | (simp only [clS]; omega)) (by omega) ?_ dX12_isLetter_17
      exact ⟨by first | rw [if_pos (by omega)] | rw [if_neg (by omega)], rfl⟩
    · refine g_iconst h dX12_isLetter_12 ?_
      refine g_goto (tgt := 17) h dX12_isLetter_13 (by decide) ?_
      refine g_zret h hQ (by first | decide | omega | (simp only [clS]; omega)) (by first | decide | omega | (simp only [clS]; omega)) (by omega) ?_ dX12_isLetter_17
      exact ⟨by first | rw [if_pos (by omega)] | rw [if_neg (by omega)], rfl⟩
set_option maxRecDepth 100000 in
set_option maxHeartbeats 4000000 in
theorem c_X12_isDigit (l : Launch) (w : AW) (z : Int) (hz : R32 z) : HT l yX12_isDigit cX12_isDigit 1 (some .boolean) 1 0 0 w [ai z] (rI (if 48 ≤ z ∧ z ≤ 57 then 1 else 0) w) := by
  refine HT.of (by decide) (by intro v hv; simp only [List.mem_cons, List.not_mem_nil, or_false] at hv; rcases hv with rfl <;> rfl) (Nat.le_of_ble_eq_true rfl) ?_
  intro Γ h hQ hRm hnm hl hw0
  refine g_iload_n h dX12_isDigit_0 rfl ?_
  refine g_bipush h dX12_isDigit_1 rfl ?_
  refine g_icmp_lt (tgt := 16) h dX12_isDigit_3 (by decide) (by first | assumption | exact ⟨by omega, by omega⟩) (by first | assumption | exact ⟨by omega, by omega⟩) (fun c3 => ?_) (fun c3 => ?_)
  · refine g_iconst h dX12_isDigit_16 ?_
    refine g_zret h hQ (by first | decide | omega | (simp only [clS]; omega)) (by first | decide | omega | (simp only [clS]; omega)) (by omega) ?_ dX12_isDigit_17
    exact ⟨by first | rw [if_pos (by omega)] | rw [if_neg (by omega)], rfl⟩
  · refine g_iload_n h dX12_isDigit_6 rfl ?_
    refine g_bipush h dX12_isDigit_7 rfl ?_
    refine g_icmp_gt (tgt := 16) h dX12_isDigit_9 (by decide) (by first | assumption | exact ⟨by omega, by omega⟩) (by first | assumption | exact ⟨by omega, by omega⟩) (fun c9 => ?_) (fun c9 => ?_)
    · refine g_iconst h dX12_isDigit_16 ?_
      refine g_zret h hQ (by first | decide | omega | (simp only [clS]; omega)) (by first | decide | omega | (simp only [clS]; omega)) (by omega) ?_ dX12_isDigit_17
      exact ⟨by first | rw [if_pos (by omega)] | rw [if_neg (by omega)], rfl⟩
    · refine g_iconst h dX12_isDigit_12 ?_
      refine g_goto (tgt := 17) h dX12_isDigit_13 (by decide) ?_
      refine g_zret h hQ (by first | decide | omega | (simp only [clS]; omega)) (by first | decide | omega | (simp only [clS]; omega)) (by omega) ?_ dX12_isDigit_17
      exact ⟨by first | rw [if_pos (by omega)] | rw [if_neg (by omega)], rfl⟩
set_option maxRecDepth 100000 in
set_option maxHeartbeats 4000000 in
theorem c_X12_isPipe (l : Launch) (w : AW) (z : Int) (hM : MS w) (hz : R32 z) (hn : R32 (w.2.1 400 28)) : HT l yX12_isPipe cX12_isPipe 2 (some .boolean) 1 0 0 w [ar 400, ai z] (rI (if 0 ≤ z ∧ z < w.2.1 400 28 then 1 else 0) w) := by
  refine HT.of (by decide) (by intro v hv; simp only [List.mem_cons, List.not_mem_nil, or_false] at hv; rcases hv with rfl | rfl <;> rfl) (Nat.le_of_ble_eq_true rfl) ?_
  intro Γ h hQ hRm hnm hl hw0
  have s400 : w.1 400 = (112, 0) := hM.1 400 (by decide) (by decide)
  refine g_iload_n h dX12_isPipe_0 rfl ?_
  refine g_if_lt (tgt := 16) h dX12_isPipe_1 (by decide) (by first | assumption | exact ⟨by omega, by omega⟩) (fun c1 => ?_) (fun c1 => ?_)
  · refine g_iconst h dX12_isPipe_16 ?_
    refine g_zret h hQ (by first | decide | omega | (simp only [clS]; omega)) (by first | decide | omega | (simp only [clS]; omega)) (by omega) ?_ dX12_isPipe_17
    exact ⟨by first | rw [if_pos (by omega)] | rw [if_neg (by omega)], rfl⟩
  · refine g_iload_n h dX12_isPipe_4 rfl ?_
    refine g_aload_n h dX12_isPipe_5 rfl ?_
    refine g_getI h flX12_246 rfl (by assumption) dX12_isPipe_6 ?_
    refine g_icmp_ge (tgt := 16) h dX12_isPipe_9 (by decide) (by first | assumption | exact ⟨by omega, by omega⟩) (by first | assumption | exact ⟨by omega, by omega⟩) (fun c9 => ?_) (fun c9 => ?_)
    · refine g_iconst h dX12_isPipe_16 ?_
      refine g_zret h hQ (by first | decide | omega | (simp only [clS]; omega)) (by first | decide | omega | (simp only [clS]; omega)) (by omega) ?_ dX12_isPipe_17
      exact ⟨by first | rw [if_pos (by omega)] | rw [if_neg (by omega)], rfl⟩
    · refine g_iconst h dX12_isPipe_12 ?_
      refine g_goto (tgt := 17) h dX12_isPipe_13 (by decide) ?_
      refine g_zret h hQ (by first | decide | omega | (simp only [clS]; omega)) (by first | decide | omega | (simp only [clS]; omega)) (by omega) ?_ dX12_isPipe_17
      exact ⟨by first | rw [if_pos (by omega)] | rw [if_neg (by omega)], rfl⟩
set_option maxRecDepth 100000 in
set_option maxHeartbeats 4000000 in
theorem c_X12_denied (l : Launch) (w : AW) (z : Int) (hM : MS w) : HT l yX12_denied cX12_denied 2 (some .boolean) 1 0 0 w [ar 400, ai z] (rZ (0) (tM w z)) := by
  refine HT.of (by decide) (by intro v hv; simp only [List.mem_cons, List.not_mem_nil, or_false] at hv; rcases hv with rfl | rfl <;> rfl) (Nat.le_of_ble_eq_true rfl) ?_
  intro Γ h hQ hRm hnm hl hw0
  have s400 : w.1 400 = (112, 0) := hM.1 400 (by decide) (by decide)
  refine g_aload_n h dX12_denied_0 rfl ?_
  refine g_iload_n h dX12_denied_1 rfl ?_
  refine g_putI h flX12_7 rfl rfl (by assumption) dX12_denied_2 ?_
  refine g_aload_n h dX12_denied_5 rfl ?_
  refine g_iconst h dX12_denied_6 ?_
  refine g_putI h flX12_10 rfl rfl (by assumption) dX12_denied_7 ?_
  refine g_iconst h dX12_denied_10 ?_
  refine g_zret h hQ (by first | decide | omega | (simp only [clS]; omega)) (by first | decide | omega | (simp only [clS]; omega)) (by omega) ?_ dX12_denied_11
  exact ⟨rfl, rfl⟩
set_option maxRecDepth 100000 in
set_option maxHeartbeats 4000000 in
theorem c_X12_refused (l : Launch) (w : AW) (z : Int) (hM : MS w) : HT l yX12_refused cX12_refused 2 (some .int) 1 0 0 w [ar 400, ai z] (rZ (-1) (tM w z)) := by
  refine HT.of (by decide) (by intro v hv; simp only [List.mem_cons, List.not_mem_nil, or_false] at hv; rcases hv with rfl | rfl <;> rfl) (Nat.le_of_ble_eq_true rfl) ?_
  intro Γ h hQ hRm hnm hl hw0
  have s400 : w.1 400 = (112, 0) := hM.1 400 (by decide) (by decide)
  refine g_aload_n h dX12_refused_0 rfl ?_
  refine g_iload_n h dX12_refused_1 rfl ?_
  refine g_putI h flX12_7 rfl rfl (by assumption) dX12_refused_2 ?_
  refine g_aload_n h dX12_refused_5 rfl ?_
  refine g_iconst h dX12_refused_6 ?_
  refine g_putI h flX12_10 rfl rfl (by assumption) dX12_refused_7 ?_
  refine g_iconst h dX12_refused_10 ?_
  refine g_iret h hQ (by first | decide | omega | (simp only [clS]; omega)) (by first | decide | omega | (simp only [clS]; omega)) ?_ dX12_refused_11
  exact ⟨rfl, rfl⟩
set_option maxRecDepth 100000 in
set_option maxHeartbeats 4000000 in
theorem c_X12_nothing (l : Launch) (w : AW) (z : Int) (hM : MS w) : HT l yX12_nothing cX12_nothing 2 (some .int) 1 0 0 w [ar 400, ai z] (rZ (-2147483648) (tM w z)) := by
  refine HT.of (by decide) (by intro v hv; simp only [List.mem_cons, List.not_mem_nil, or_false] at hv; rcases hv with rfl | rfl <;> rfl) (Nat.le_of_ble_eq_true rfl) ?_
  intro Γ h hQ hRm hnm hl hw0
  have s400 : w.1 400 = (112, 0) := hM.1 400 (by decide) (by decide)
  refine g_aload_n h dX12_nothing_0 rfl ?_
  refine g_iload_n h dX12_nothing_1 rfl ?_
  refine g_putI h flX12_7 rfl rfl (by assumption) dX12_nothing_2 ?_
  refine g_aload_n h dX12_nothing_5 rfl ?_
  refine g_iconst h dX12_nothing_6 ?_
  refine g_putI h flX12_10 rfl rfl (by assumption) dX12_nothing_7 ?_
  refine g_ldc h kcX12_15 dX12_nothing_10 ?_
  refine g_iret h hQ (by first | decide | omega | (simp only [clS]; omega)) (by first | decide | omega | (simp only [clS]; omega)) ?_ dX12_nothing_12
  exact ⟨rfl, rfl⟩
set_option maxRecDepth 100000 in
set_option maxHeartbeats 4000000 in
theorem c_X12_done (l : Launch) (w : AW) (z : Int) (hM : MS w) : HT l yX12_done cX12_done 2 (some .int) 1 0 0 w [ar 400, ai z] (rZ z (tM w 0)) := by
  refine HT.of (by decide) (by intro v hv; simp only [List.mem_cons, List.not_mem_nil, or_false] at hv; rcases hv with rfl | rfl <;> rfl) (Nat.le_of_ble_eq_true rfl) ?_
  intro Γ h hQ hRm hnm hl hw0
  have s400 : w.1 400 = (112, 0) := hM.1 400 (by decide) (by decide)
  refine g_aload_n h dX12_done_0 rfl ?_
  refine g_iconst h dX12_done_1 ?_
  refine g_putI h flX12_7 rfl rfl (by assumption) dX12_done_2 ?_
  refine g_aload_n h dX12_done_5 rfl ?_
  refine g_iconst h dX12_done_6 ?_
  refine g_putI h flX12_10 rfl rfl (by assumption) dX12_done_7 ?_
  refine g_iload_n h dX12_done_10 rfl ?_
  refine g_iret h hQ (by first | decide | omega | (simp only [clS]; omega)) (by first | decide | omega | (simp only [clS]; omega)) ?_ dX12_done_11
  exact ⟨rfl, rfl⟩
set_option maxRecDepth 100000 in
set_option maxHeartbeats 4000000 in
theorem c_X12_granted (l : Launch) (w : AW)  (hM : MS w) : HT l yX12_granted cX12_granted 1 (some .boolean) 1 0 0 w [ar 400] (rZ 1 (tM w 0)) := by
  refine HT.of (by decide) (by intro v hv; simp only [List.mem_cons, List.not_mem_nil, or_false] at hv; rcases hv with rfl <;> rfl) (Nat.le_of_ble_eq_true rfl) ?_
  intro Γ h hQ hRm hnm hl hw0
  have s400 : w.1 400 = (112, 0) := hM.1 400 (by decide) (by decide)
  refine g_aload_n h dX12_granted_0 rfl ?_
  refine g_iconst h dX12_granted_1 ?_
  refine g_putI h flX12_7 rfl rfl (by assumption) dX12_granted_2 ?_
  refine g_aload_n h dX12_granted_5 rfl ?_
  refine g_iconst h dX12_granted_6 ?_
  refine g_putI h flX12_10 rfl rfl (by assumption) dX12_granted_7 ?_
  refine g_iconst h dX12_granted_10 ?_
  refine g_zret h hQ (by first | decide | omega | (simp only [clS]; omega)) (by first | decide | omega | (simp only [clS]; omega)) (by omega) ?_ dX12_granted_11
  exact ⟨rfl, rfl⟩
set_option maxRecDepth 100000 in
set_option maxHeartbeats 4000000 in
theorem c_X12_thrown (l : Launch) (w : AW)  (hM : MS w) : HT l yX12_thrown cX12_thrown 1 (some .int) 1 0 0 w [ar 400] (rI (w.2.1 400 0) w) := by
  refine HT.of (by decide) (by intro v hv; simp only [List.mem_cons, List.not_mem_nil, or_false] at hv; rcases hv with rfl <;> rfl) (Nat.le_of_ble_eq_true rfl) ?_
  intro Γ h hQ hRm hnm hl hw0
  have s400 : w.1 400 = (112, 0) := hM.1 400 (by decide) (by decide)
  refine g_aload_n h dX12_thrown_0 rfl ?_
  refine g_getI h flX12_1 rfl (by assumption) dX12_thrown_1 ?_
  refine g_iret h hQ (by first | decide | omega | (simp only [clS]; omega)) (by first | decide | omega | (simp only [clS]; omega)) ?_ dX12_thrown_4
  exact ⟨rfl, rfl⟩
set_option maxRecDepth 100000 in
set_option maxHeartbeats 4000000 in
theorem c_X12_fault (l : Launch) (w : AW)  (hM : MS w) : HT l yX12_fault cX12_fault 1 (some .int) 1 0 0 w [ar 400] (rZ (w.2.1 400 3) (upI w 400 0 0)) := by
  refine HT.of (by decide) (by intro v hv; simp only [List.mem_cons, List.not_mem_nil, or_false] at hv; rcases hv with rfl <;> rfl) (Nat.le_of_ble_eq_true rfl) ?_
  intro Γ h hQ hRm hnm hl hw0
  have s400 : w.1 400 = (112, 0) := hM.1 400 (by decide) (by decide)
  refine g_aload_n h dX12_fault_0 rfl ?_
  refine g_iconst h dX12_fault_1 ?_
  refine g_putI h flX12_1 rfl rfl (by assumption) dX12_fault_2 ?_
  refine g_aload_n h dX12_fault_5 rfl ?_
  refine g_getI h flX12_456 rfl (by assumption) dX12_fault_6 ?_
  refine g_iret h hQ (by first | decide | omega | (simp only [clS]; omega)) (by first | decide | omega | (simp only [clS]; omega)) ?_ dX12_fault_9
  exact ⟨rfl, rfl⟩
set_option maxRecDepth 100000 in
set_option maxHeartbeats 4000000 in
theorem c_X12_where (l : Launch) (w : AW)  (hM : MS w) : HT l yX12_where cX12_where 1 (some .int) 1 0 0 w [ar 400] (rZ (w.2.1 400 2) (upI w 400 0 0)) := by
  refine HT.of (by decide) (by intro v hv; simp only [List.mem_cons, List.not_mem_nil, or_false] at hv; rcases hv with rfl <;> rfl) (Nat.le_of_ble_eq_true rfl) ?_
  intro Γ h hQ hRm hnm hl hw0
  have s400 : w.1 400 = (112, 0) := hM.1 400 (by decide) (by decide)
  refine g_aload_n h dX12_where_0 rfl ?_
  refine g_iconst h dX12_where_1 ?_
  refine g_putI h flX12_1 rfl rfl (by assumption) dX12_where_2 ?_
  refine g_aload_n h dX12_where_5 rfl ?_
  refine g_getI h flX12_10 rfl (by assumption) dX12_where_6 ?_
  refine g_iret h hQ (by first | decide | omega | (simp only [clS]; omega)) (by first | decide | omega | (simp only [clS]; omega)) ?_ dX12_where_9
  exact ⟨rfl, rfl⟩
set_option maxRecDepth 100000 in
set_option maxHeartbeats 4000000 in
theorem c_X12_trouble (l : Launch) (w : AW)  (hM : MS w) : HT l yX12_trouble cX12_trouble 1 (some .int) 1 0 0 w [ar 400] (rZ (w.2.1 400 1) (upI w 400 0 0)) := by
  refine HT.of (by decide) (by intro v hv; simp only [List.mem_cons, List.not_mem_nil, or_false] at hv; rcases hv with rfl <;> rfl) (Nat.le_of_ble_eq_true rfl) ?_
  intro Γ h hQ hRm hnm hl hw0
  have s400 : w.1 400 = (112, 0) := hM.1 400 (by decide) (by decide)
  refine g_aload_n h dX12_trouble_0 rfl ?_
  refine g_iconst h dX12_trouble_1 ?_
  refine g_putI h flX12_1 rfl rfl (by assumption) dX12_trouble_2 ?_
  refine g_aload_n h dX12_trouble_5 rfl ?_
  refine g_getI h flX12_7 rfl (by assumption) dX12_trouble_6 ?_
  refine g_iret h hQ (by first | decide | omega | (simp only [clS]; omega)) (by first | decide | omega | (simp only [clS]; omega)) ?_ dX12_trouble_9
  exact ⟨rfl, rfl⟩
set_option maxRecDepth 100000 in
set_option maxHeartbeats 4000000 in
theorem c_X12_weight (l : Launch) (w : AW) (g t s : Int) (hg : 0 ≤ g ∧ g ≤ 100000) : HT l yX12_weight cX12_weight 3 (some .int) 1 0 0 w [ai g, ai t, ai s] (rI (weightF g t s) w) := by
  refine HT.of (by decide) (by intro v hv; simp only [List.mem_cons, List.not_mem_nil, or_false] at hv; rcases hv with rfl | rfl | rfl <;> rfl) (Nat.le_of_ble_eq_true rfl) ?_
  intro Γ h hQ hRm hnm hl hw0
  refine g_iconst h dX12_weight_0 ?_
  refine g_iload_n h dX12_weight_1 rfl ?_
  refine g_imul h dX12_weight_2 ?_
  refine g_iload_n h dX12_weight_3 rfl ?_
  refine g_isub h dX12_weight_4 ?_
  refine g_iload_n h dX12_weight_5 rfl ?_
  refine g_bipush h dX12_weight_6 rfl ?_
  refine g_idiv h (by first | assumption | exact ⟨by omega, by omega⟩) (by first | assumption | exact ⟨by omega, by omega⟩) (by first | omega | assumption) (by first | omega | assumption) dX12_weight_8 ?_
  refine g_iadd h dX12_weight_9 ?_
  refine g_iret h hQ (by first | decide | omega | (simp only [clS]; omega)) (by first | decide | omega | (simp only [clS]; omega)) ?_ dX12_weight_10
  (first | exact ⟨rfl, rfl⟩ | (exfalso; omega))
set_option maxRecDepth 100000 in
set_option maxHeartbeats 4000000 in
theorem c_X12_holds (l : Launch) (w : AW) (L i : Nat) (hM : MS w) (hN : MN w) (hL : L < 2) (hi : i < 10) : HT l yX12_holds cX12_holds 3 (some .int) 2 0 0 w [ar 400, ai (L : Int), ai (i : Int)] (rI (holdsM w L i) w) := by
  refine HT.of (by decide) (by intro v hv; simp only [List.mem_cons, List.not_mem_nil, or_false] at hv; rcases hv with rfl | rfl | rfl <;> rfl) (Nat.le_of_ble_eq_true rfl) ?_
  intro Γ h hQ hRm hnm hl hw0
  have s400 : w.1 400 = (112, 0) := hM.1 400 (by decide) (by decide)
  have s410 : w.1 410 = (1, 2) := hM.1 410 (by decide) (by decide)
  have s411 : w.1 411 = (1, 2) := hM.1 411 (by decide) (by decide)
  have p10 : w.2.2 400 10 = some 410 := hM.2 (400, 10, 410) (by decide)
  have p11 : w.2.2 400 11 = some 411 := hM.2 (400, 11, 411) (by decide)
  obtain ⟨n5, n5', n6, n6', -⟩ := hN L hL
  have hm := mul_bd (a := w.2.1 410 L) (b := (i : Int) + 1) (x := 10000) (y := 10) (by omega) (by omega) (by omega) (by omega)
  refine g_iconst h dX12_holds_0 ?_
  refine g_aload_n h dX12_holds_1 rfl ?_
  refine g_getQ h flX12_35 rfl (by assumption) (by assumption) dX12_holds_2 ?_
  refine g_iload_n h dX12_holds_5 rfl ?_
  refine g_iald h _ (by assumption) rfl (by first | omega | assumption) (by first | decide | omega) dX12_holds_6 ?_
  refine g_iload_n h dX12_holds_7 rfl ?_
  refine g_iconst h dX12_holds_8 ?_
  refine g_iadd h dX12_holds_9 ?_
  refine g_imul h dX12_holds_10 ?_
  refine g_aload_n h dX12_holds_11 rfl ?_
  refine g_getQ h flX12_38 rfl (by assumption) (by assumption) dX12_holds_12 ?_
  refine g_iload_n h dX12_holds_15 rfl ?_
  refine g_iald h _ (by assumption) rfl (by first | omega | assumption) (by first | decide | omega) dX12_holds_16 ?_
  refine g_isub h dX12_holds_17 ?_
  refine g_max h rfl mmaxX12_186 (by first | assumption | exact ⟨by omega, by omega⟩) (by first | assumption | exact ⟨by omega, by omega⟩) (by rw [hRm]; first | decide | (simp only [clS]; omega)) (by rw [hRm]; first | decide | (simp only [clS]; omega)) (fun _ => Nat.le_of_ble_eq_true rfl) (by rw [hRm]; first | decide | (simp only [clS]; omega)) (by rw [hRm]; first | decide | (simp only [clS]; omega)) dX12_holds_18 ?_
  refine g_iret h hQ (by first | decide | omega | (simp only [clS]; omega)) (by first | decide | omega | (simp only [clS]; omega)) ?_ dX12_holds_21
  (first | exact ⟨rfl, rfl⟩ | (exfalso; omega))
theorem holdsM_bd {w : AW} {L i : Nat} (hN : MN w) (hL : L < 2) (hi : i < 10) : 0 ≤ holdsM w L i ∧ holdsM w L i ≤ 100000 := by
  obtain ⟨n5, n5', n6, n6', -⟩ := hN L hL
  exact holdsF_bd n5 n5' n6 n6' hi
set_option maxRecDepth 100000 in
set_option maxHeartbeats 4000000 in
theorem c_X12_share (l : Launch) (w : AW) (L i : Nat) (g : Int) (hM : MS w) (hN : MN w) (hL : L < 2) (hi : i < 10) (hg : 0 ≤ g ∧ g ≤ 100000) : HT l yX12_share cX12_share 5 (some .int) 3 0 0 w [ar 400, ai (L : Int), ai (i : Int), ai g] (rI (fullF g (holdsM w L i)) w) := by
  refine HT.of (by decide) (by intro v hv; simp only [List.mem_cons, List.not_mem_nil, or_false] at hv; rcases hv with rfl | rfl | rfl | rfl <;> rfl) (Nat.le_of_ble_eq_true rfl) ?_
  intro Γ h hQ hRm hnm hl hw0
  have s400 : w.1 400 = (112, 0) := hM.1 400 (by decide) (by decide)
  have hh := holdsM_bd hN hL hi
  refine g_aload_n h dX12_share_0 rfl ?_
  refine g_iload_n h dX12_share_1 rfl ?_
  refine g_iload_n h dX12_share_2 rfl ?_
  refine g_callV h rfl (ci := 12) [_, _] (by assumption) (c_X12_holds _ _ L i hM hN hL hi) clX12_192 (by decide) rfl in_X12_holds se_X12_holds rfl rfl (by rw [hRm]; first | decide | (simp only [clS]; omega)) (by rw [hRm]; first | decide | (simp only [clS]; omega)) (fun _ => Nat.le_of_ble_eq_true rfl) (by rw [hRm]; first | decide | (simp only [clS]; omega)) (by rw [hRm]; first | decide | (simp only [clS]; omega)) dX12_share_3 (fun r3 w3 hp3 => ?_)
  obtain ⟨rfl, hw3⟩ := hp3
  rw [hw3]
  refine g_istore h dX12_share_6 (Nat.le_of_ble_eq_true rfl) rfl rfl ?_
  refine g_iload h dX12_share_8 rfl ?_
  refine g_if_ne (tgt := 27) h dX12_share_10 (by decide) (by first | assumption | exact ⟨by omega, by omega⟩) (fun c10 => ?_) (fun c10 => ?_)
  · refine g_ldc2 h klX12_195 dX12_share_27 ?_
    refine g_ldc2 h klX12_197 dX12_share_30 ?_
    refine g_iload_n h dX12_share_33 rfl ?_
    refine g_i2l h (by first | assumption | exact ⟨by omega, by omega⟩) dX12_share_34 ?_
    refine g_lmul h dX12_share_35 ?_
    have hdv := div_bd (a := 100 * g) (b := holdsM w L i) (by omega) (by omega)
    refine g_iload h dX12_share_36 rfl ?_
    refine g_i2l h (by first | assumption | exact ⟨by omega, by omega⟩) dX12_share_38 ?_
    refine g_ldiv h (by first | assumption | exact ⟨by omega, by omega⟩) (by first | assumption | exact ⟨by omega, by omega⟩) (by first | omega | assumption) (by first | omega | assumption) dX12_share_39 ?_
    refine g_minL h rfl mlX12_199 (by exact ⟨by omega, by omega⟩) (by exact ⟨by omega, by omega⟩) (by rw [hRm]; decide) (by rw [hRm]; decide) (fun _ => Nat.le_of_ble_eq_true rfl) (by rw [hRm]; decide) (by rw [hRm]; decide) dX12_share_40 ?_
    have hmn : 0 ≤ min 999 (100 * g / holdsM w L i) ∧ min 999 (100 * g / holdsM w L i) ≤ 999 := ⟨by omega, by omega⟩
    refine g_l2i h (by first | assumption | exact ⟨by omega, by omega⟩) dX12_share_43 ?_
    refine g_iret h hQ (by first | decide | omega | (simp only [clS]; omega)) (by first | decide | omega | (simp only [clS]; omega)) ?_ dX12_share_44
    refine ⟨congrArg (fun z => some (ai z)) ?_, rfl⟩
    unfold fullF
    first
    | (rw [if_pos (by omega)])
    | (rw [if_neg (by omega), if_pos (by omega)])
    | (rw [if_neg (by omega), Int.mul_comm g 100])
    | (by_cases g0 : g = 0
       · rw [if_pos (by omega), g0, Int.mul_zero, Int.zero_ediv]; rfl
       · rw [if_neg (by omega), if_neg (by omega), Int.mul_comm g 100])
  · refine g_iload_n h dX12_share_13 rfl ?_
    refine g_if_ne (tgt := 21) h dX12_share_14 (by decide) (by first | assumption | exact ⟨by omega, by omega⟩) (fun c14 => ?_) (fun c14 => ?_)
    · refine g_sipush h dX12_share_21 rfl ?_
      refine g_goto (tgt := 44) h dX12_share_24 (by decide) ?_
      refine g_iret h hQ (by first | decide | omega | (simp only [clS]; omega)) (by first | decide | omega | (simp only [clS]; omega)) ?_ dX12_share_44
      refine ⟨congrArg (fun z => some (ai z)) ?_, rfl⟩
      unfold fullF
      first
      | (rw [if_pos (by omega)])
      | (rw [if_neg (by omega), if_pos (by omega)])
      | (rw [if_neg (by omega), Int.mul_comm g 100])
      | (by_cases g0 : g = 0
         · rw [if_pos (by omega), g0, Int.mul_zero, Int.zero_ediv]; rfl
         · rw [if_neg (by omega), if_neg (by omega), Int.mul_comm g 100])
    · refine g_iconst h dX12_share_17 ?_
      refine g_goto (tgt := 44) h dX12_share_18 (by decide) ?_
      refine g_iret h hQ (by first | decide | omega | (simp only [clS]; omega)) (by first | decide | omega | (simp only [clS]; omega)) ?_ dX12_share_44
      refine ⟨congrArg (fun z => some (ai z)) ?_, rfl⟩
      unfold fullF
      first
      | (rw [if_pos (by omega)])
      | (rw [if_neg (by omega), if_pos (by omega)])
      | (rw [if_neg (by omega), Int.mul_comm g 100])
      | (by_cases g0 : g = 0
         · rw [if_pos (by omega), g0, Int.mul_zero, Int.zero_ediv]; rfl
         · rw [if_neg (by omega), if_neg (by omega), Int.mul_comm g 100])
set_option maxRecDepth 100000 in
set_option maxHeartbeats 4000000 in
theorem c_X12_halves (l : Launch) (w : AW) (k i : Nat) (hk : w.1 k = (1, 10)) (hi : i < 9) (hb : ∀ j, j < 10 → 0 ≤ w.2.1 k j ∧ w.2.1 k j ≤ 100000) : HT l yX12_halves cX12_halves 3 none 1 0 0 w [ar k, ai (i : Int)] (rV (sR w k (halfF (w.2.1 k) (i + 1)))) := by
  refine HT.of (by decide) (by intro v hv; simp only [List.mem_cons, List.not_mem_nil, or_false] at hv; rcases hv with rfl | rfl <;> rfl) (Nat.le_of_ble_eq_true rfl) ?_
  intro Γ h hQ hRm hnm hl hw0
  have hb1 := hb i (by omega)
  have hb2 := hb (i + 1) (by omega)
  refine g_aload_n h dX12_halves_0 rfl ?_
  refine g_iload_n h dX12_halves_1 rfl ?_
  refine g_iald h (i) (by assumption) (by first | omega | assumption) (by first | omega | assumption) (by first | decide | omega) dX12_halves_2 ?_
  refine g_aload_n h dX12_halves_3 rfl ?_
  refine g_iload_n h dX12_halves_4 rfl ?_
  refine g_iconst h dX12_halves_5 ?_
  refine g_iadd h dX12_halves_6 ?_
  refine g_iald h (i + 1) (by assumption) (by first | omega | assumption) (by first | omega | assumption) (by first | decide | omega) dX12_halves_7 ?_
  refine g_iadd h dX12_halves_8 ?_
  refine g_istore_n h dX12_halves_9 (Nat.le_of_ble_eq_true rfl) rfl rfl ?_
  refine g_aload_n h dX12_halves_10 rfl ?_
  refine g_iload_n h dX12_halves_11 rfl ?_
  refine g_iload_n h dX12_halves_12 rfl ?_
  refine g_iconst h dX12_halves_13 ?_
  refine g_idiv h (by first | assumption | exact ⟨by omega, by omega⟩) (by first | assumption | exact ⟨by omega, by omega⟩) (by first | omega | assumption) (by first | omega | assumption) dX12_halves_14 ?_
  refine g_iast h (i) (by assumption) (by first | omega | assumption) (by first | omega | assumption) (by first | decide | omega) dX12_halves_15 ?_
  refine g_aload_n h dX12_halves_16 rfl ?_
  refine g_iload_n h dX12_halves_17 rfl ?_
  refine g_iconst h dX12_halves_18 ?_
  refine g_iadd h dX12_halves_19 ?_
  refine g_iload_n h dX12_halves_20 rfl ?_
  refine g_iload_n h dX12_halves_21 rfl ?_
  refine g_iconst h dX12_halves_22 ?_
  refine g_idiv h (by first | assumption | exact ⟨by omega, by omega⟩) (by first | assumption | exact ⟨by omega, by omega⟩) (by first | omega | assumption) (by first | omega | assumption) dX12_halves_23 ?_
  refine g_isub h dX12_halves_24 ?_
  refine g_iast h (i + 1) (by assumption) (by first | omega | assumption) (by first | omega | assumption) (by first | decide | omega) dX12_halves_25 ?_
  refine g_vret h hQ (by first | decide | omega | (simp only [clS]; omega)) (by first | decide | omega | (simp only [clS]; omega)) ?_ dX12_halves_26
  exact ⟨rfl, by rw [upI_sR, upI_sR, sR_sR, sR_at]; rfl⟩
/-- the three rows at hand, told and read -/
def sH (w : AW) (r : R3) : AW := sR (sR (sR w 420 r.1) 421 r.2.1) 422 r.2.2
abbrev gH (w : AW) : R3 := (w.2.1 420, w.2.1 421, w.2.1 422)
theorem sH_sH (w : AW) (r r' : R3) : sH (sH w r) r' = sH w r' := by
  unfold sH
  refine aw_ext rfl (fun j => ?_) rfl
  by_cases h1 : j = 422
  · subst h1; rw [sR_at, sR_at]
  rw [sR_ne _ _ h1, sR_ne _ _ h1]
  by_cases h2 : j = 421
  · subst h2; rw [sR_at, sR_at]
  rw [sR_ne _ _ h2, sR_ne _ _ h2]
  by_cases h3 : j = 420
  · subst h3; rw [sR_at, sR_at]
  rw [sR_ne _ _ h3, sR_ne _ _ h3, sR_ne _ _ h1, sR_ne _ _ h2, sR_ne _ _ h3]
theorem sH_self (w : AW) : sH w (gH w) = w := by
  unfold sH
  refine aw_ext rfl (fun j => ?_) rfl
  by_cases h1 : j = 422
  · subst h1; rw [sR_at]
  rw [sR_ne _ _ h1]
  by_cases h2 : j = 421
  · subst h2; rw [sR_at]
  rw [sR_ne _ _ h2]
  by_cases h3 : j = 420
  · subst h3; rw [sR_at]
  rw [sR_ne _ _ h3]
set_option maxRecDepth 100000 in
set_option maxHeartbeats 4000000 in
theorem c_X12_mixes (l : Launch) (w : AW) (i : Nat) (hM : MS w) (hi : i < 9) (hb : RB3 (gH w)) : HT l yX12_mixes cX12_mixes 2 none 2 0 0 w [ar 400, ai (i : Int)] (rV (sH w (half3 (gH w) (i + 1)))) := by
  refine HT.of (by decide) (by intro v hv; simp only [List.mem_cons, List.not_mem_nil, or_false] at hv; rcases hv with rfl | rfl <;> rfl) (Nat.le_of_ble_eq_true rfl) ?_
  intro Γ h hQ hRm hnm hl hw0
  have s400 : w.1 400 = (112, 0) := hM.1 400 (by decide) (by decide)
  have s420 : w.1 420 = (1, 10) := hM.1 420 (by decide) (by decide)
  have s421 : w.1 421 = (1, 10) := hM.1 421 (by decide) (by decide)
  have s422 : w.1 422 = (1, 10) := hM.1 422 (by decide) (by decide)
  have p20 : w.2.2 400 20 = some 420 := hM.2 (400, 20, 420) (by decide)
  have p21 : w.2.2 400 21 = some 421 := hM.2 (400, 21, 421) (by decide)
  have p22 : w.2.2 400 22 = some 422 := hM.2 (400, 22, 422) (by decide)
  refine g_aload_n h dX12_mixes_0 rfl ?_
  refine g_getQ h flX12_65 rfl (by assumption) (by assumption) dX12_mixes_1 ?_
  refine g_iload_n h dX12_mixes_4 rfl ?_
  refine g_callS h rfl [_, _] (c_X12_halves _ _ 420 i s420 hi (fun j hj => ⟨(hb j hj).1, (hb j hj).2.1⟩)) clX12_249 st_X12_halves rfl rfl (by rw [hRm]; first | decide | (simp only [clS]; omega)) (by rw [hRm]; first | decide | (simp only [clS]; omega)) (fun _ => Nat.le_of_ble_eq_true rfl) (by rw [hRm]; first | decide | (simp only [clS]; omega)) (by rw [hRm]; first | decide | (simp only [clS]; omega)) dX12_mixes_5 (fun r5 w5 hp5 => ?_)
  obtain ⟨rfl, hw5⟩ := hp5
  rw [hw5]
  refine g_aload_n h dX12_mixes_8 rfl ?_
  refine g_getQ h flX12_68 rfl (by assumption) (by assumption) dX12_mixes_9 ?_
  refine g_iload_n h dX12_mixes_12 rfl ?_
  refine g_callS h rfl [_, _] (c_X12_halves _ _ 421 i s421 hi (fun j hj => ⟨(hb j hj).2.2.1, by have := (hb j hj).2.2.2.1; exact Int.le_trans this (by decide)⟩)) clX12_249 st_X12_halves rfl rfl (by rw [hRm]; first | decide | (simp only [clS]; omega)) (by rw [hRm]; first | decide | (simp only [clS]; omega)) (fun _ => Nat.le_of_ble_eq_true rfl) (by rw [hRm]; first | decide | (simp only [clS]; omega)) (by rw [hRm]; first | decide | (simp only [clS]; omega)) dX12_mixes_13 (fun r13 w13 hp13 => ?_)
  obtain ⟨rfl, hw13⟩ := hp13
  rw [hw13]
  refine g_aload_n h dX12_mixes_16 rfl ?_
  refine g_getQ h flX12_71 rfl (by assumption) (by assumption) dX12_mixes_17 ?_
  refine g_iload_n h dX12_mixes_20 rfl ?_
  refine g_callS h rfl [_, _] (c_X12_halves _ _ 422 i s422 hi (fun j hj => ⟨(hb j hj).2.2.2.2.1, by have := (hb j hj).2.2.2.2.2; exact Int.le_trans this (by decide)⟩)) clX12_249 st_X12_halves rfl rfl (by rw [hRm]; first | decide | (simp only [clS]; omega)) (by rw [hRm]; first | decide | (simp only [clS]; omega)) (fun _ => Nat.le_of_ble_eq_true rfl) (by rw [hRm]; first | decide | (simp only [clS]; omega)) (by rw [hRm]; first | decide | (simp only [clS]; omega)) dX12_mixes_21 (fun r21 w21 hp21 => ?_)
  obtain ⟨rfl, hw21⟩ := hp21
  rw [hw21]
  refine g_vret h hQ (by first | decide | omega | (simp only [clS]; omega)) (by first | decide | omega | (simp only [clS]; omega)) ?_ dX12_mixes_24
  exact ⟨rfl, rfl⟩
set_option maxRecDepth 100000 in
set_option maxHeartbeats 4000000 in
theorem c_X12_weightHere (l : Launch) (w : AW) (i : Nat) (hM : MS w) (hi : i < 10) (hb : RB3 (gH w)) : HT l yX12_weightHere cX12_weightHere 2 (some .int) 2 0 0 w [ar 400, ai (i : Int)] (rI (WR (gH w) i) w) := by
  refine HT.of (by decide) (by intro v hv; simp only [List.mem_cons, List.not_mem_nil, or_false] at hv; rcases hv with rfl | rfl <;> rfl) (Nat.le_of_ble_eq_true rfl) ?_
  intro Γ h hQ hRm hnm hl hw0
  have s400 : w.1 400 = (112, 0) := hM.1 400 (by decide) (by decide)
  have s420 : w.1 420 = (1, 10) := hM.1 420 (by decide) (by decide)
  have s421 : w.1 421 = (1, 10) := hM.1 421 (by decide) (by decide)
  have s422 : w.1 422 = (1, 10) := hM.1 422 (by decide) (by decide)
  have p20 : w.2.2 400 20 = some 420 := hM.2 (400, 20, 420) (by decide)
  have p21 : w.2.2 400 21 = some 421 := hM.2 (400, 21, 421) (by decide)
  have p22 : w.2.2 400 22 = some 422 := hM.2 (400, 22, 422) (by decide)
  have hbi : 0 ≤ w.2.1 420 i ∧ w.2.1 420 i ≤ 100000 ∧ _ := hb i hi
  refine g_aload_n h dX12_weightHere_0 rfl ?_
  refine g_getQ h flX12_65 rfl (by assumption) (by assumption) dX12_weightHere_1 ?_
  refine g_iload_n h dX12_weightHere_4 rfl ?_
  refine g_iald h _ (by assumption) rfl (by first | omega | assumption) (by first | decide | omega) dX12_weightHere_5 ?_
  refine g_aload_n h dX12_weightHere_6 rfl ?_
  refine g_getQ h flX12_68 rfl (by assumption) (by assumption) dX12_weightHere_7 ?_
  refine g_iload_n h dX12_weightHere_10 rfl ?_
  refine g_iald h _ (by assumption) rfl (by first | omega | assumption) (by first | decide | omega) dX12_weightHere_11 ?_
  refine g_aload_n h dX12_weightHere_12 rfl ?_
  refine g_getQ h flX12_71 rfl (by assumption) (by assumption) dX12_weightHere_13 ?_
  refine g_iload_n h dX12_weightHere_16 rfl ?_
  refine g_iald h _ (by assumption) rfl (by first | omega | assumption) (by first | decide | omega) dX12_weightHere_17 ?_
  refine g_callS h rfl [_, _, _] (c_X12_weight _ _ _ _ _ ⟨hbi.1, hbi.2.1⟩) clX12_219 st_X12_weight rfl rfl (by rw [hRm]; first | decide | (simp only [clS]; omega)) (by rw [hRm]; first | decide | (simp only [clS]; omega)) (fun _ => Nat.le_of_ble_eq_true rfl) (by rw [hRm]; first | decide | (simp only [clS]; omega)) (by rw [hRm]; first | decide | (simp only [clS]; omega)) dX12_weightHere_18 (fun r18 w18 hp18 => ?_)
  obtain ⟨rfl, hw18⟩ := hp18
  rw [hw18]
  refine g_iret h hQ (by first | decide | omega | (simp only [clS]; omega)) (by first | decide | omega | (simp only [clS]; omega)) ?_ dX12_weightHere_21
  exact ⟨rfl, rfl⟩
