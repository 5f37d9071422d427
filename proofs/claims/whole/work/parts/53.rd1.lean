/-! ===== the reader of rules: tokens ===== -/
theorem upI_2 (w : AW) (k f : Nat) (a b : Int) : upI (upI w k f a) k f b = upI w k f b := by
  rw [upI_sR, upI_sR, upI_sR, sR_at, sR_sR]
  congr 1
  funext i
  unfold uI
  split <;> rfl
theorem b01_nz {b : Bool} (h : b01 b ≠ 0) : b = true := by cases b with | true => rfl | false => exact absurd rfl h
theorem b01_ze {b : Bool} (h : b01 b = 0) : ¬ b = true := by cases b with | false => decide | true => exact absurd h (by decide)
/-- the reader reads T, n bytes of it -/
def RXc (w : AW) (T : Nat → Int) (n : Nat) : Prop := XS w ∧ w.2.1 21 = T ∧ w.2.1 23 1 = (n : Int) ∧ n ≤ 300 ∧ ∀ i, i < 300 → 0 ≤ T i ∧ T i < 256
theorem RXc_of {w u : AW} {T : Nat → Int} {n : Nat} (h1 : u.1 = w.1) (h2 : u.2.2 = w.2.2) (h3 : u.2.1 21 = w.2.1 21) (h4 : u.2.1 23 1 = w.2.1 23 1) (h : RXc w T n) : RXc u T n := ⟨XS_of h1 h2 h.1, h3.trans h.2.1, h4.trans h.2.2.1, h.2.2.2⟩
def bA (T : Nat → Int) (n : Nat) (z : Int) : Int := if 0 ≤ z ∧ z < (n : Int) then T z.toNat else 0
theorem bA_bd {T : Nat → Int} {n : Nat} (hn : n ≤ 300) (hT : ∀ i, i < 300 → 0 ≤ T i ∧ T i < 256) (z : Int) : 0 ≤ bA T n z ∧ bA T n z < 256 := by
  unfold bA
  split
  · exact hT _ (by omega)
  · omega
def runF (p : Int → Bool) (T : Nat → Int) : Nat → Nat → Nat
  | 0, a => a
  | d + 1, a => if p (T a) = true then runF p T d (a + 1) else a
theorem runF_bd (p : Int → Bool) (T : Nat → Int) : ∀ d a, a ≤ runF p T d a ∧ runF p T d a ≤ a + d
  | 0, a => ⟨Nat.le_refl _, Nat.le_refl _⟩
  | d + 1, a => by
    unfold runF
    split
    · have := runF_bd p T d (a + 1)
      omega
    · omega
def isLb (z : Int) : Bool := decide (97 ≤ z ∧ z ≤ 122)
def isDb (z : Int) : Bool := decide (48 ≤ z ∧ z ≤ 57)
def isBb (z : Int) : Bool := decide (z = 32)
def isSb (z : Int) : Bool := decide (z = 43 ∨ z = 45 ∨ z = 60 ∨ z = 62 ∨ z = 61 ∨ z = 40 ∨ z = 41)
/-- bytes p to q spell constant i -/
def spl (T : Nat → Int) (n p q i : Nat) : Bool := decide ((q : Int) - (p : Int) = (slen i : Int)) && allB (fun k => decide (bA T n ((p : Int) + (k : Int)) = sch i k)) (slen i)
def actV (f : Nat → Bool) : Int := if f 0 = true then 0 else if f 1 = true then 1 else if f 2 = true then 2 else if f 3 = true then 3 else -1
def namV (f : Nat → Bool) : Int := if f 4 = true then 0 else if f 5 = true then 1 else if f 6 = true then 2 else if f 7 = true then 3 else if f 8 = true then 4 else if f 9 = true then 5 else if f 10 = true then 6 else if f 11 = true then 7 else if f 12 = true then 8 else -1
def jntV (f : Nat → Bool) : Int := if f 13 = true then 105 else if f 14 = true then 38 else if f 15 = true then 124 else if f 16 = true then 33 else -1
theorem actV_bd (f : Nat → Bool) : -1 ≤ actV f ∧ actV f ≤ 3 := by unfold actV; repeat (first | omega | split)
theorem namV_bd (f : Nat → Bool) : -1 ≤ namV f ∧ namV f ≤ 8 := by unfold namV; repeat (first | omega | split)
theorem jntV_bd (f : Nat → Bool) : -1 ≤ jntV f ∧ jntV f ≤ 124 := by unfold jntV; repeat (first | omega | split)
def wordK (f : Nat → Bool) (q : Nat) : Int × Int × Nat := if actV f ≠ -1 then (4, actV f, q) else if namV f ≠ -1 then (5, namV f, q) else if jntV f ≠ -1 then (6, jntV f, q) else (7, -1, q)
def wordF (T : Nat → Int) (n p : Nat) (v0 : Int) : Int × Int × Nat := if p + 8 < runF isLb T (n - p) p then (1, v0, runF isLb T (n - p) p) else wordK (spl T n p (runF isLb T (n - p) p)) (runF isLb T (n - p) p)
def wvF (T : Nat → Int) (p : Nat) : Nat → Int
  | 0 => 0
  | k + 1 => if k < 4 then wvF T p k * 10 + T (p + k) - 48 else wvF T p k
def wholeF (T : Nat → Int) (n p : Nat) : Int × Int × Nat := (if p + 4 < runF isDb T (n - p) p then 1 else 2, wvF T p (runF isDb T (n - p) p - p), runF isDb T (n - p) p)
/-- the token at p: its kind, its worth, where it ends -/
def tokF (T : Nat → Int) (n p : Nat) : Int × Int × Nat :=
  if n ≤ p then (0, 0, p + 1) else if isLb (T p) = true then wordF T n p (T p) else if isDb (T p) = true then wholeF T n p else (if isSb (T p) = true then 3 else 1, T p, p + 1)
def skF (T : Nat → Int) (n a : Nat) : Nat := runF isBb T (n - a) a
/-- the reader's fields with a token told -/
def rowK (R : Nat → Int) (t : Int × Int × Nat) : Nat → Int := fun f => if f = 3 then (t.2.2 : Int) else if f = 4 then t.1 else if f = 5 then t.2.1 else R f
theorem rowK_eq {R g : Nat → Int} {k v : Int} {q : Nat} (h3 : g 3 = (q : Int)) (h4 : g 4 = k) (h5 : g 5 = v) (ho : ∀ f, f ≠ 3 → f ≠ 4 → f ≠ 5 → g f = R f) : g = rowK R (k, v, q) := by
  funext f
  unfold rowK
  by_cases e3 : f = 3
  · subst e3; rw [if_pos rfl]; exact h3
  · by_cases e4 : f = 4
    · subst e4; rw [if_neg (by decide), if_pos rfl]; exact h4
    · by_cases e5 : f = 5
      · subst e5; rw [if_neg (by decide), if_neg (by decide), if_pos rfl]; exact h5
      · rw [if_neg e3, if_neg e4, if_neg e5]; exact ho f e3 e4 e5
/-- the reader's fields alone are changed, to r -/
def F23 (w w' : AW) (r : Nat → Int) : Prop := w'.1 = w.1 ∧ w'.2.2 = w.2.2 ∧ (∀ j, j ≠ 23 → w'.2.1 j = w.2.1 j) ∧ w'.2.1 23 = r
set_option maxRecDepth 100000 in
set_option maxHeartbeats 4000000 in
theorem c_X6_byteAt (l : Launch) (w : AW) (T : Nat → Int) (n : Nat) (z : Int) (hc : RXc w T n) (hz : R32 z) : HT l yX6_byteAt cX6_byteAt 2 (some .int) 1 0 0 w [ar 23, ai z] (rI (bA T n z) w) := by
  refine HT.of (by decide) (by intro v hv; simp only [List.mem_cons, List.not_mem_nil, or_false] at hv; rcases hv with rfl | rfl <;> rfl) (Nat.le_of_ble_eq_true rfl) ?_
  intro Γ h hQ hRm hnm hl hw0
  obtain ⟨hX, hT, hn1, hn3, hTb⟩ := id hc
  have s23 : w.1 23 = (106, 0) := hX.1 23 (by decide)
  have s21 : w.1 21 = (1, 300) := hX.1 21 (by decide)
  have p23_0 : w.2.2 23 0 = some 21 := hX.2 (23, 0, 21) (by decide)
  refine g_iload_n h dX6_byteAt_0 rfl ?_
  refine g_if_lt (tgt := 30) h dX6_byteAt_1 (by decide) (by first | assumption | exact ⟨by omega, by omega⟩) (fun c1 => ?_) (fun c1 => ?_)
  · refine g_iconst h dX6_byteAt_30 ?_
    refine g_iret h hQ (by first | decide | omega | (simp only [clS]; omega)) (by first | decide | omega | (simp only [clS]; omega)) ?_ dX6_byteAt_31
    first
    | (exfalso; omega)
    | (refine ⟨?_, rfl⟩
       unfold bA
       first | rw [if_pos (by omega)] | rw [if_neg (by omega)])
  · refine g_iload_n h dX6_byteAt_4 rfl ?_
    refine g_aload_n h dX6_byteAt_5 rfl ?_
    refine g_getI h flX6_27 rfl (by assumption) dX6_byteAt_6 ?_
    refine g_icmp_ge (tgt := 30) h dX6_byteAt_9 (by decide) (by first | assumption | exact ⟨by omega, by omega⟩) (by first | assumption | exact ⟨by omega, by omega⟩) (fun c9 => ?_) (fun c9 => ?_)
    · refine g_iconst h dX6_byteAt_30 ?_
      refine g_iret h hQ (by first | decide | omega | (simp only [clS]; omega)) (by first | decide | omega | (simp only [clS]; omega)) ?_ dX6_byteAt_31
      first
      | (exfalso; omega)
      | (refine ⟨?_, rfl⟩
         unfold bA
         first | rw [if_pos (by omega)] | rw [if_neg (by omega)])
    · refine g_iload_n h dX6_byteAt_12 rfl ?_
      refine g_aload_n h dX6_byteAt_13 rfl ?_
      refine g_getQ h flX6_18 rfl (by assumption) (by assumption) dX6_byteAt_14 ?_
      refine g_alen h (by assumption) (by unfold arK; omega) dX6_byteAt_17 ?_
      refine g_icmp_ge (tgt := 30) h dX6_byteAt_18 (by decide) (by first | assumption | exact ⟨by omega, by omega⟩) (by first | assumption | exact ⟨by omega, by omega⟩) (fun c18 => ?_) (fun c18 => ?_)
      · refine g_iconst h dX6_byteAt_30 ?_
        refine g_iret h hQ (by first | decide | omega | (simp only [clS]; omega)) (by first | decide | omega | (simp only [clS]; omega)) ?_ dX6_byteAt_31
        first
        | (exfalso; omega)
        | (refine ⟨?_, rfl⟩
           unfold bA
           first | rw [if_pos (by omega)] | rw [if_neg (by omega)])
      · refine g_aload_n h dX6_byteAt_21 rfl ?_
        refine g_getQ h flX6_18 rfl (by assumption) (by assumption) dX6_byteAt_22 ?_
        refine g_iload_n h dX6_byteAt_25 rfl ?_
        refine g_iald h (z.toNat) (by assumption) (by first | omega | assumption) (by first | omega | assumption) (by first | decide | omega) dX6_byteAt_26 ?_
        rw [hT]
        refine g_goto (tgt := 31) h dX6_byteAt_27 (by decide) ?_
        refine g_iret h hQ (by first | decide | omega | (simp only [clS]; omega)) (by first | decide | omega | (simp only [clS]; omega)) ?_ dX6_byteAt_31
        first
        | (exfalso; omega)
        | (refine ⟨?_, rfl⟩
           unfold bA
           first | rw [if_pos (by omega)] | rw [if_neg (by omega)])
set_option maxRecDepth 100000 in
set_option maxHeartbeats 4000000 in
theorem c_X6_isLetter (l : Launch) (w : AW) (z : Int) (hz : R32 z) : HT l yX6_isLetter cX6_isLetter 1 (some .boolean) 1 0 0 w [ai z] (rI (if 97 ≤ z ∧ z ≤ 122 then 1 else 0) w) := by
  refine HT.of (by decide) (by intro v hv; simp only [List.mem_cons, List.not_mem_nil, or_false] at hv; rcases hv with rfl <;> rfl) (Nat.le_of_ble_eq_true rfl) ?_
  intro Γ h hQ hRm hnm hl hw0
  refine g_iload_n h dX6_isLetter_0 rfl ?_
  refine g_bipush h dX6_isLetter_1 rfl ?_
  refine g_icmp_lt (tgt := 16) h dX6_isLetter_3 (by decide) (by first | assumption | exact ⟨by omega, by omega⟩) (by first | assumption | exact ⟨by omega, by omega⟩) (fun c3 => ?_) (fun c3 => ?_)
  · refine g_iconst h dX6_isLetter_16 ?_
    refine g_zret h hQ (by first | decide | omega | (simp only [clS]; omega)) (by first | decide | omega | (simp only [clS]; omega)) (by omega) ?_ dX6_isLetter_17
    first | (exfalso; omega) | exact ⟨by rw [if_pos (by omega)], rfl⟩ | exact ⟨by rw [if_neg (by omega)], rfl⟩
  · refine g_iload_n h dX6_isLetter_6 rfl ?_
    refine g_bipush h dX6_isLetter_7 rfl ?_
    refine g_icmp_gt (tgt := 16) h dX6_isLetter_9 (by decide) (by first | assumption | exact ⟨by omega, by omega⟩) (by first | assumption | exact ⟨by omega, by omega⟩) (fun c9 => ?_) (fun c9 => ?_)
    · refine g_iconst h dX6_isLetter_16 ?_
      refine g_zret h hQ (by first | decide | omega | (simp only [clS]; omega)) (by first | decide | omega | (simp only [clS]; omega)) (by omega) ?_ dX6_isLetter_17
      first | (exfalso; omega) | exact ⟨by rw [if_pos (by omega)], rfl⟩ | exact ⟨by rw [if_neg (by omega)], rfl⟩
    · refine g_iconst h dX6_isLetter_12 ?_
      refine g_goto (tgt := 17) h dX6_isLetter_13 (by decide) ?_
      refine g_zret h hQ (by first | decide | omega | (simp only [clS]; omega)) (by first | decide | omega | (simp only [clS]; omega)) (by omega) ?_ dX6_isLetter_17
      first | (exfalso; omega) | exact ⟨by rw [if_pos (by omega)], rfl⟩ | exact ⟨by rw [if_neg (by omega)], rfl⟩
set_option maxRecDepth 100000 in
set_option maxHeartbeats 4000000 in
theorem c_X6_isDigit (l : Launch) (w : AW) (z : Int) (hz : R32 z) : HT l yX6_isDigit cX6_isDigit 1 (some .boolean) 1 0 0 w [ai z] (rI (if 48 ≤ z ∧ z ≤ 57 then 1 else 0) w) := by
  refine HT.of (by decide) (by intro v hv; simp only [List.mem_cons, List.not_mem_nil, or_false] at hv; rcases hv with rfl <;> rfl) (Nat.le_of_ble_eq_true rfl) ?_
  intro Γ h hQ hRm hnm hl hw0
  refine g_iload_n h dX6_isDigit_0 rfl ?_
  refine g_bipush h dX6_isDigit_1 rfl ?_
  refine g_icmp_lt (tgt := 16) h dX6_isDigit_3 (by decide) (by first | assumption | exact ⟨by omega, by omega⟩) (by first | assumption | exact ⟨by omega, by omega⟩) (fun c3 => ?_) (fun c3 => ?_)
  · refine g_iconst h dX6_isDigit_16 ?_
    refine g_zret h hQ (by first | decide | omega | (simp only [clS]; omega)) (by first | decide | omega | (simp only [clS]; omega)) (by omega) ?_ dX6_isDigit_17
    first | (exfalso; omega) | exact ⟨by rw [if_pos (by omega)], rfl⟩ | exact ⟨by rw [if_neg (by omega)], rfl⟩
  · refine g_iload_n h dX6_isDigit_6 rfl ?_
    refine g_bipush h dX6_isDigit_7 rfl ?_
    refine g_icmp_gt (tgt := 16) h dX6_isDigit_9 (by decide) (by first | assumption | exact ⟨by omega, by omega⟩) (by first | assumption | exact ⟨by omega, by omega⟩) (fun c9 => ?_) (fun c9 => ?_)
    · refine g_iconst h dX6_isDigit_16 ?_
      refine g_zret h hQ (by first | decide | omega | (simp only [clS]; omega)) (by first | decide | omega | (simp only [clS]; omega)) (by omega) ?_ dX6_isDigit_17
      first | (exfalso; omega) | exact ⟨by rw [if_pos (by omega)], rfl⟩ | exact ⟨by rw [if_neg (by omega)], rfl⟩
    · refine g_iconst h dX6_isDigit_12 ?_
      refine g_goto (tgt := 17) h dX6_isDigit_13 (by decide) ?_
      refine g_zret h hQ (by first | decide | omega | (simp only [clS]; omega)) (by first | decide | omega | (simp only [clS]; omega)) (by omega) ?_ dX6_isDigit_17
      first | (exfalso; omega) | exact ⟨by rw [if_pos (by omega)], rfl⟩ | exact ⟨by rw [if_neg (by omega)], rfl⟩
set_option maxRecDepth 100000 in
set_option maxHeartbeats 4000000 in
theorem c_X6_isSumSign (l : Launch) (w : AW) (z : Int) (hz : R32 z) : HT l yX6_isSumSign cX6_isSumSign 1 (some .boolean) 1 0 0 w [ai z] (rI (if z = 43 ∨ z = 45 then 1 else 0) w) := by
  refine HT.of (by decide) (by intro v hv; simp only [List.mem_cons, List.not_mem_nil, or_false] at hv; rcases hv with rfl <;> rfl) (Nat.le_of_ble_eq_true rfl) ?_
  intro Γ h hQ hRm hnm hl hw0
  refine g_iload_n h dX6_isSumSign_0 rfl ?_
  refine g_bipush h dX6_isSumSign_1 rfl ?_
  refine g_icmp_eq (tgt := 12) h dX6_isSumSign_3 (by decide) (by first | assumption | exact ⟨by omega, by omega⟩) (by first | assumption | exact ⟨by omega, by omega⟩) (fun c3 => ?_) (fun c3 => ?_)
  · refine g_iconst h dX6_isSumSign_12 ?_
    refine g_goto (tgt := 17) h dX6_isSumSign_13 (by decide) ?_
    refine g_zret h hQ (by first | decide | omega | (simp only [clS]; omega)) (by first | decide | omega | (simp only [clS]; omega)) (by omega) ?_ dX6_isSumSign_17
    first | (exfalso; omega) | exact ⟨by rw [if_pos (by omega)], rfl⟩ | exact ⟨by rw [if_neg (by omega)], rfl⟩
  · refine g_iload_n h dX6_isSumSign_6 rfl ?_
    refine g_bipush h dX6_isSumSign_7 rfl ?_
    refine g_icmp_ne (tgt := 16) h dX6_isSumSign_9 (by decide) (by first | assumption | exact ⟨by omega, by omega⟩) (by first | assumption | exact ⟨by omega, by omega⟩) (fun c9 => ?_) (fun c9 => ?_)
    · refine g_iconst h dX6_isSumSign_16 ?_
      refine g_zret h hQ (by first | decide | omega | (simp only [clS]; omega)) (by first | decide | omega | (simp only [clS]; omega)) (by omega) ?_ dX6_isSumSign_17
      first | (exfalso; omega) | exact ⟨by rw [if_pos (by omega)], rfl⟩ | exact ⟨by rw [if_neg (by omega)], rfl⟩
    · refine g_iconst h dX6_isSumSign_12 ?_
      refine g_goto (tgt := 17) h dX6_isSumSign_13 (by decide) ?_
      refine g_zret h hQ (by first | decide | omega | (simp only [clS]; omega)) (by first | decide | omega | (simp only [clS]; omega)) (by omega) ?_ dX6_isSumSign_17
      first | (exfalso; omega) | exact ⟨by rw [if_pos (by omega)], rfl⟩ | exact ⟨by rw [if_neg (by omega)], rfl⟩
set_option maxRecDepth 100000 in
set_option maxHeartbeats 4000000 in
theorem c_X6_isCompareSign (l : Launch) (w : AW) (z : Int) (hz : R32 z) : HT l yX6_isCompareSign cX6_isCompareSign 1 (some .boolean) 1 0 0 w [ai z] (rI (if z = 60 ∨ z = 62 ∨ z = 61 then 1 else 0) w) := by
  refine HT.of (by decide) (by intro v hv; simp only [List.mem_cons, List.not_mem_nil, or_false] at hv; rcases hv with rfl <;> rfl) (Nat.le_of_ble_eq_true rfl) ?_
  intro Γ h hQ hRm hnm hl hw0
  refine g_iload_n h dX6_isCompareSign_0 rfl ?_
  refine g_bipush h dX6_isCompareSign_1 rfl ?_
  refine g_icmp_eq (tgt := 18) h dX6_isCompareSign_3 (by decide) (by first | assumption | exact ⟨by omega, by omega⟩) (by first | assumption | exact ⟨by omega, by omega⟩) (fun c3 => ?_) (fun c3 => ?_)
  · refine g_iconst h dX6_isCompareSign_18 ?_
    refine g_goto (tgt := 23) h dX6_isCompareSign_19 (by decide) ?_
    refine g_zret h hQ (by first | decide | omega | (simp only [clS]; omega)) (by first | decide | omega | (simp only [clS]; omega)) (by omega) ?_ dX6_isCompareSign_23
    first | (exfalso; omega) | exact ⟨by rw [if_pos (by omega)], rfl⟩ | exact ⟨by rw [if_neg (by omega)], rfl⟩
  · refine g_iload_n h dX6_isCompareSign_6 rfl ?_
    refine g_bipush h dX6_isCompareSign_7 rfl ?_
    refine g_icmp_eq (tgt := 18) h dX6_isCompareSign_9 (by decide) (by first | assumption | exact ⟨by omega, by omega⟩) (by first | assumption | exact ⟨by omega, by omega⟩) (fun c9 => ?_) (fun c9 => ?_)
    · refine g_iconst h dX6_isCompareSign_18 ?_
      refine g_goto (tgt := 23) h dX6_isCompareSign_19 (by decide) ?_
      refine g_zret h hQ (by first | decide | omega | (simp only [clS]; omega)) (by first | decide | omega | (simp only [clS]; omega)) (by omega) ?_ dX6_isCompareSign_23
      first | (exfalso; omega) | exact ⟨by rw [if_pos (by omega)], rfl⟩ | exact ⟨by rw [if_neg (by omega)], rfl⟩
    · refine g_iload_n h dX6_isCompareSign_12 rfl ?_
      refine g_bipush h dX6_isCompareSign_13 rfl ?_
      refine g_icmp_ne (tgt := 22) h dX6_isCompareSign_15 (by decide) (by first | assumption | exact ⟨by omega, by omega⟩) (by first | assumption | exact ⟨by omega, by omega⟩) (fun c15 => ?_) (fun c15 => ?_)
      · refine g_iconst h dX6_isCompareSign_22 ?_
        refine g_zret h hQ (by first | decide | omega | (simp only [clS]; omega)) (by first | decide | omega | (simp only [clS]; omega)) (by omega) ?_ dX6_isCompareSign_23
        first | (exfalso; omega) | exact ⟨by rw [if_pos (by omega)], rfl⟩ | exact ⟨by rw [if_neg (by omega)], rfl⟩
      · refine g_iconst h dX6_isCompareSign_18 ?_
        refine g_goto (tgt := 23) h dX6_isCompareSign_19 (by decide) ?_
        refine g_zret h hQ (by first | decide | omega | (simp only [clS]; omega)) (by first | decide | omega | (simp only [clS]; omega)) (by omega) ?_ dX6_isCompareSign_23
        first | (exfalso; omega) | exact ⟨by rw [if_pos (by omega)], rfl⟩ | exact ⟨by rw [if_neg (by omega)], rfl⟩
set_option maxRecDepth 100000 in
set_option maxHeartbeats 4000000 in
theorem c_X6_isSign (l : Launch) (w : AW) (z : Int) (hz : R32 z) : HT l yX6_isSign cX6_isSign 1 (some .boolean) 2 0 0 w [ai z] (rI (if z = 43 ∨ z = 45 ∨ z = 60 ∨ z = 62 ∨ z = 61 ∨ z = 40 ∨ z = 41 then 1 else 0) w) := by
  refine HT.of (by decide) (by intro v hv; simp only [List.mem_cons, List.not_mem_nil, or_false] at hv; rcases hv with rfl <;> rfl) (Nat.le_of_ble_eq_true rfl) ?_
  intro Γ h hQ hRm hnm hl hw0
  refine g_iload_n h dX6_isSign_0 rfl ?_
  refine g_callS h rfl [_] (c_X6_isSumSign _ _ z hz) clX6_109 st_X6_isSumSign rfl rfl (by rw [hRm]; first | decide | (simp only [clS]; omega)) (by rw [hRm]; first | decide | (simp only [clS]; omega)) (fun _ => Nat.le_of_ble_eq_true rfl) (by rw [hRm]; first | decide | (simp only [clS]; omega)) (by rw [hRm]; first | decide | (simp only [clS]; omega)) dX6_isSign_1 (fun r1 w1 hp1 => ?_)
  obtain ⟨rfl, hw1⟩ := hp1
  rw [hw1]
  have hbw1 := ite01 (z = 43 ∨ z = 45)
  refine g_if_ne (tgt := 26) h dX6_isSign_4 (by decide) (by first | assumption | exact ⟨by omega, by omega⟩) (fun c4 => ?_) (fun c4 => ?_)
  · refine g_iconst h dX6_isSign_26 ?_
    refine g_goto (tgt := 31) h dX6_isSign_27 (by decide) ?_
    refine g_zret h hQ (by first | decide | omega | (simp only [clS]; omega)) (by first | decide | omega | (simp only [clS]; omega)) (by omega) ?_ dX6_isSign_31
    first | (exfalso; omega) | exact ⟨by rw [if_pos (by omega)], rfl⟩ | exact ⟨by rw [if_neg (by omega)], rfl⟩
  · refine g_iload_n h dX6_isSign_7 rfl ?_
    refine g_callS h rfl [_] (c_X6_isCompareSign _ _ z hz) clX6_112 st_X6_isCompareSign rfl rfl (by rw [hRm]; first | decide | (simp only [clS]; omega)) (by rw [hRm]; first | decide | (simp only [clS]; omega)) (fun _ => Nat.le_of_ble_eq_true rfl) (by rw [hRm]; first | decide | (simp only [clS]; omega)) (by rw [hRm]; first | decide | (simp only [clS]; omega)) dX6_isSign_8 (fun r8 w8 hp8 => ?_)
    obtain ⟨rfl, hw8⟩ := hp8
    rw [hw8]
    have hbw8 := ite01 (z = 60 ∨ z = 62 ∨ z = 61)
    refine g_if_ne (tgt := 26) h dX6_isSign_11 (by decide) (by first | assumption | exact ⟨by omega, by omega⟩) (fun c11 => ?_) (fun c11 => ?_)
    · refine g_iconst h dX6_isSign_26 ?_
      refine g_goto (tgt := 31) h dX6_isSign_27 (by decide) ?_
      refine g_zret h hQ (by first | decide | omega | (simp only [clS]; omega)) (by first | decide | omega | (simp only [clS]; omega)) (by omega) ?_ dX6_isSign_31
      first | (exfalso; omega) | exact ⟨by rw [if_pos (by omega)], rfl⟩ | exact ⟨by rw [if_neg (by omega)], rfl⟩
    · refine g_iload_n h dX6_isSign_14 rfl ?_
      refine g_bipush h dX6_isSign_15 rfl ?_
      refine g_icmp_eq (tgt := 26) h dX6_isSign_17 (by decide) (by first | assumption | exact ⟨by omega, by omega⟩) (by first | assumption | exact ⟨by omega, by omega⟩) (fun c17 => ?_) (fun c17 => ?_)
      · refine g_iconst h dX6_isSign_26 ?_
        refine g_goto (tgt := 31) h dX6_isSign_27 (by decide) ?_
        refine g_zret h hQ (by first | decide | omega | (simp only [clS]; omega)) (by first | decide | omega | (simp only [clS]; omega)) (by omega) ?_ dX6_isSign_31
        first | (exfalso; omega) | exact ⟨by rw [if_pos (by omega)], rfl⟩ | exact ⟨by rw [if_neg (by omega)], rfl⟩
      · refine g_iload_n h dX6_isSign_20 rfl ?_
        refine g_bipush h dX6_isSign_21 rfl ?_
        refine g_icmp_ne (tgt := 30) h dX6_isSign_23 (by decide) (by first | assumption | exact ⟨by omega, by omega⟩) (by first | assumption | exact ⟨by omega, by omega⟩) (fun c23 => ?_) (fun c23 => ?_)
        · refine g_iconst h dX6_isSign_30 ?_
          refine g_zret h hQ (by first | decide | omega | (simp only [clS]; omega)) (by first | decide | omega | (simp only [clS]; omega)) (by omega) ?_ dX6_isSign_31
          first | (exfalso; omega) | exact ⟨by rw [if_pos (by omega)], rfl⟩ | exact ⟨by rw [if_neg (by omega)], rfl⟩
        · refine g_iconst h dX6_isSign_26 ?_
          refine g_goto (tgt := 31) h dX6_isSign_27 (by decide) ?_
          refine g_zret h hQ (by first | decide | omega | (simp only [clS]; omega)) (by first | decide | omega | (simp only [clS]; omega)) (by omega) ?_ dX6_isSign_31
          first | (exfalso; omega) | exact ⟨by rw [if_pos (by omega)], rfl⟩ | exact ⟨by rw [if_neg (by omega)], rfl⟩
set_option maxRecDepth 100000 in
set_option maxHeartbeats 4000000 in
theorem c_X6_spells (l : Launch) (w : AW) (T : Nat → Int) (n : Nat) (p q : Nat) (i : Nat) (hc : RXc w T n) (h2 : w.2.1 23 2 = (p : Int)) (h3 : w.2.1 23 3 = (q : Int)) (hp3 : p ≤ 300) (hq3 : q ≤ 301) (hi : i < 34) : HT l yX6_spells cX6_spells 3 (some .boolean) 5 0 0 w [ar 23, ar (21000 + i)] (rI (b01 (spl T n p q i)) w) := by
  refine HT.of (by decide) (by intro v hv; simp only [List.mem_cons, List.not_mem_nil, or_false] at hv; rcases hv with rfl | rfl <;> rfl) (Nat.le_of_ble_eq_true rfl) ?_
  intro Γ h hQ hRm hnm hl hw0
  obtain ⟨hX, hT, hn1, hn3, hTb⟩ := id hc
  have s23 : w.1 23 = (106, 0) := hX.1 23 (by decide)
  have hq := str_at hi
  obtain ⟨hs9, hsc⟩ := sch_ok i hi
  by_cases hlen : (q : Int) - (p : Int) = (slen i : Int)
  · have loop : ∀ (d k : Nat), k + d = slen i → allB (fun k => decide (bA T n ((p : Int) + (k : Int)) = sch i k)) k = true → GG Γ 20 [some (ar 23), some (ar (21000 + i)), some (ai (k : Int))] [] w 0 0 := by
      intro d
      induction d with
      | zero =>
        intro k hk ha
        obtain rfl : k = slen i := by omega
        refine g_iload_n h dX6_spells_20 rfl ?_
        refine g_aload_n h dX6_spells_21 rfl ?_
        refine g_callVX h rfl (i := i) [] hq (c_J0_length_8abf5 _ _ i hi) clX6_163 in_J0_length_8abf5 se_J0_length_8abf5 rfl rfl rfl (by rw [hRm]; first | decide | (simp only [clS]; omega)) (by rw [hRm]; first | decide | (simp only [clS]; omega)) (fun _ => Nat.le_of_ble_eq_true rfl) (by rw [hRm]; first | decide | (simp only [clS]; omega)) (by rw [hRm]; first | decide | (simp only [clS]; omega)) dX6_spells_22 (fun r22 w22 hp22 => ?_)
        obtain ⟨rfl, hw22⟩ := hp22
        rw [hw22]
        refine g_icmp_ge (tgt := 54) h dX6_spells_25 (by decide) (by first | assumption | exact ⟨by omega, by omega⟩) (by first | assumption | exact ⟨by omega, by omega⟩) (fun c25 => ?_) (fun c25 => ?_)
        · refine g_iconst h dX6_spells_54 ?_
          refine g_zret h hQ (by first | decide | omega | (simp only [clS]; omega)) (by first | decide | omega | (simp only [clS]; omega)) (by omega) ?_ dX6_spells_55
          refine ⟨?_, rfl⟩
          unfold spl
          rw [decide_eq_true hlen, ha]
          rfl
        · exfalso; omega
      | succ d ih =>
        intro k hk ha
        have hba := bA_bd hn3 hTb ((p : Int) + (k : Int))
        have hck := hsc k (by omega)
        refine g_iload_n h dX6_spells_20 rfl ?_
        refine g_aload_n h dX6_spells_21 rfl ?_
        refine g_callVX h rfl (i := i) [] hq (c_J0_length_8abf5 _ _ i hi) clX6_163 in_J0_length_8abf5 se_J0_length_8abf5 rfl rfl rfl (by rw [hRm]; first | decide | (simp only [clS]; omega)) (by rw [hRm]; first | decide | (simp only [clS]; omega)) (fun _ => Nat.le_of_ble_eq_true rfl) (by rw [hRm]; first | decide | (simp only [clS]; omega)) (by rw [hRm]; first | decide | (simp only [clS]; omega)) dX6_spells_22 (fun r22 w22 hp22 => ?_)
        obtain ⟨rfl, hw22⟩ := hp22
        rw [hw22]
        refine g_icmp_ge (tgt := 54) h dX6_spells_25 (by decide) (by first | assumption | exact ⟨by omega, by omega⟩) (by first | assumption | exact ⟨by omega, by omega⟩) (fun c25 => ?_) (fun c25 => ?_)
        · exfalso; omega
        · refine g_aload_n h dX6_spells_28 rfl ?_
          refine g_aload_n h dX6_spells_29 rfl ?_
          refine g_getI h flX6_84 rfl (by assumption) dX6_spells_30 ?_
          rw [h2]
          refine g_iload_n h dX6_spells_33 rfl ?_
          refine g_iadd h dX6_spells_34 ?_
          refine g_callV h rfl (ci := 6) [_] (by assumption) (c_X6_byteAt _ _ T n _ hc ⟨by omega, by omega⟩) clX6_80 (by decide) rfl in_X6_byteAt se_X6_byteAt rfl rfl (by rw [hRm]; first | decide | (simp only [clS]; omega)) (by rw [hRm]; first | decide | (simp only [clS]; omega)) (fun _ => Nat.le_of_ble_eq_true rfl) (by rw [hRm]; first | decide | (simp only [clS]; omega)) (by rw [hRm]; first | decide | (simp only [clS]; omega)) dX6_spells_35 (fun r35 w35 hp35 => ?_)
          obtain ⟨rfl, hw35⟩ := hp35
          rw [hw35]
          refine g_aload_n h dX6_spells_38 rfl ?_
          refine g_iload_n h dX6_spells_39 rfl ?_
          refine g_callVX h rfl (i := i) [_] hq (c_J0_charAt_5068e _ _ i k hi (by omega)) clX6_167 in_J0_charAt_5068e se_J0_charAt_5068e rfl rfl rfl (by rw [hRm]; first | decide | (simp only [clS]; omega)) (by rw [hRm]; first | decide | (simp only [clS]; omega)) (fun _ => Nat.le_of_ble_eq_true rfl) (by rw [hRm]; first | decide | (simp only [clS]; omega)) (by rw [hRm]; first | decide | (simp only [clS]; omega)) dX6_spells_40 (fun r40 w40 hp40 => ?_)
          obtain ⟨rfl, hw40⟩ := hp40
          rw [hw40]
          refine g_icmp_eq (tgt := 48) h dX6_spells_43 (by decide) (by first | assumption | exact ⟨by omega, by omega⟩) (by first | assumption | exact ⟨by omega, by omega⟩) (fun c43 => ?_) (fun c43 => ?_)
          · refine g_iinc h dX6_spells_48 rfl (Nat.le_of_ble_eq_true rfl) rfl rfl ?_
            refine g_goto (tgt := 20) h dX6_spells_51 (by decide) ?_
            exact ih (k + 1) (by omega) (by show (_ && _) = true; rw [ha]; exact decide_eq_true (by assumption))
          · refine g_iconst h dX6_spells_46 ?_
            refine g_zret h hQ (by first | decide | omega | (simp only [clS]; omega)) (by first | decide | omega | (simp only [clS]; omega)) (by omega) ?_ dX6_spells_47
            have e1 : (fun k : Nat => decide (bA T n ((p : Int) + (k : Int)) = sch i k)) k = false := decide_eq_false (by assumption)
            refine ⟨?_, rfl⟩
            unfold spl
            rw [allB_up e1 (slen i) (by omega), Bool.and_false]
            rfl
    refine g_aload_n h dX6_spells_0 rfl ?_
    refine g_getI h flX6_31 rfl (by assumption) dX6_spells_1 ?_
    rw [h3]
    refine g_aload_n h dX6_spells_4 rfl ?_
    refine g_getI h flX6_84 rfl (by assumption) dX6_spells_5 ?_
    rw [h2]
    refine g_isub h dX6_spells_8 ?_
    refine g_aload_n h dX6_spells_9 rfl ?_
    refine g_callVX h rfl (i := i) [] hq (c_J0_length_8abf5 _ _ i hi) clX6_163 in_J0_length_8abf5 se_J0_length_8abf5 rfl rfl rfl (by rw [hRm]; first | decide | (simp only [clS]; omega)) (by rw [hRm]; first | decide | (simp only [clS]; omega)) (fun _ => Nat.le_of_ble_eq_true rfl) (by rw [hRm]; first | decide | (simp only [clS]; omega)) (by rw [hRm]; first | decide | (simp only [clS]; omega)) dX6_spells_10 (fun r10 w10 hp10 => ?_)
    obtain ⟨rfl, hw10⟩ := hp10
    rw [hw10]
    refine g_icmp_eq (tgt := 18) h dX6_spells_13 (by decide) (by first | assumption | exact ⟨by omega, by omega⟩) (by first | assumption | exact ⟨by omega, by omega⟩) (fun c13 => ?_) (fun c13 => ?_)
    · refine g_iconst h dX6_spells_18 ?_
      refine g_istore_n h dX6_spells_19 (Nat.le_of_ble_eq_true rfl) rfl rfl ?_
      exact loop (slen i) 0 (by omega) rfl
    · exfalso; omega
  · skip
    refine g_aload_n h dX6_spells_0 rfl ?_
    refine g_getI h flX6_31 rfl (by assumption) dX6_spells_1 ?_
    rw [h3]
    refine g_aload_n h dX6_spells_4 rfl ?_
    refine g_getI h flX6_84 rfl (by assumption) dX6_spells_5 ?_
    rw [h2]
    refine g_isub h dX6_spells_8 ?_
    refine g_aload_n h dX6_spells_9 rfl ?_
    refine g_callVX h rfl (i := i) [] hq (c_J0_length_8abf5 _ _ i hi) clX6_163 in_J0_length_8abf5 se_J0_length_8abf5 rfl rfl rfl (by rw [hRm]; first | decide | (simp only [clS]; omega)) (by rw [hRm]; first | decide | (simp only [clS]; omega)) (fun _ => Nat.le_of_ble_eq_true rfl) (by rw [hRm]; first | decide | (simp only [clS]; omega)) (by rw [hRm]; first | decide | (simp only [clS]; omega)) dX6_spells_10 (fun r10 w10 hp10 => ?_)
    obtain ⟨rfl, hw10⟩ := hp10
    rw [hw10]
    refine g_icmp_eq (tgt := 18) h dX6_spells_13 (by decide) (by first | assumption | exact ⟨by omega, by omega⟩) (by first | assumption | exact ⟨by omega, by omega⟩) (fun c13 => ?_) (fun c13 => ?_)
    · exfalso; omega
    · refine g_iconst h dX6_spells_16 ?_
      refine g_zret h hQ (by first | decide | omega | (simp only [clS]; omega)) (by first | decide | omega | (simp only [clS]; omega)) (by omega) ?_ dX6_spells_17
      refine ⟨?_, rfl⟩
      unfold spl
      rw [decide_eq_false hlen]
      rfl
set_option maxRecDepth 100000 in
set_option maxHeartbeats 4000000 in
theorem c_X6_actSpelled (l : Launch) (w : AW) (T : Nat → Int) (n : Nat) (p q : Nat) (hc : RXc w T n) (h2 : w.2.1 23 2 = (p : Int)) (h3 : w.2.1 23 3 = (q : Int)) (hp3 : p ≤ 300) (hq3 : q ≤ 301) : HT l yX6_actSpelled cX6_actSpelled 1 (some .int) 6 0 0 w [ar 23] (rI (actV (spl T n p q)) w) := by
  refine HT.of (by decide) (by intro v hv; simp only [List.mem_cons, List.not_mem_nil, or_false] at hv; rcases hv with rfl <;> rfl) (Nat.le_of_ble_eq_true rfl) ?_
  intro Γ h hQ hRm hnm hl hw0
  obtain ⟨hX, hT, hn1, hn3, hTb⟩ := id hc
  have s23 : w.1 23 = (106, 0) := hX.1 23 (by decide)
  refine g_aload_n h dX6_actSpelled_0 rfl ?_
  refine g_lds h (i := 0) rfl rfl rfl dX6_actSpelled_1 ?_
  refine g_callV h rfl (ci := 6) [_] (by assumption) (c_X6_spells _ _ T n p q 0 hc h2 h3 hp3 hq3 (by decide)) clX6_127 (by decide) rfl in_X6_spells se_X6_spells rfl rfl (by rw [hRm]; first | decide | (simp only [clS]; omega)) (by rw [hRm]; first | decide | (simp only [clS]; omega)) (fun _ => Nat.le_of_ble_eq_true rfl) (by rw [hRm]; first | decide | (simp only [clS]; omega)) (by rw [hRm]; first | decide | (simp only [clS]; omega)) dX6_actSpelled_3 (fun r3 w3 hp3 => ?_)
  obtain ⟨rfl, hw3⟩ := hp3
  rw [hw3]
  have hbw3 := b01_01 (spl T n p q 0)
  refine g_if_eq (tgt := 11) h dX6_actSpelled_6 (by decide) (by first | assumption | exact ⟨by omega, by omega⟩) (fun c6 => ?_) (fun c6 => ?_)
  · refine g_aload_n h dX6_actSpelled_11 rfl ?_
    refine g_lds h (i := 1) rfl rfl rfl dX6_actSpelled_12 ?_
    refine g_callV h rfl (ci := 6) [_] (by assumption) (c_X6_spells _ _ T n p q 1 hc h2 h3 hp3 hq3 (by decide)) clX6_127 (by decide) rfl in_X6_spells se_X6_spells rfl rfl (by rw [hRm]; first | decide | (simp only [clS]; omega)) (by rw [hRm]; first | decide | (simp only [clS]; omega)) (fun _ => Nat.le_of_ble_eq_true rfl) (by rw [hRm]; first | decide | (simp only [clS]; omega)) (by rw [hRm]; first | decide | (simp only [clS]; omega)) dX6_actSpelled_14 (fun r14 w14 hp14 => ?_)
    obtain ⟨rfl, hw14⟩ := hp14
    rw [hw14]
    have hbw14 := b01_01 (spl T n p q 1)
    refine g_if_eq (tgt := 22) h dX6_actSpelled_17 (by decide) (by first | assumption | exact ⟨by omega, by omega⟩) (fun c17 => ?_) (fun c17 => ?_)
    · refine g_aload_n h dX6_actSpelled_22 rfl ?_
      refine g_lds h (i := 2) rfl rfl rfl dX6_actSpelled_23 ?_
      refine g_callV h rfl (ci := 6) [_] (by assumption) (c_X6_spells _ _ T n p q 2 hc h2 h3 hp3 hq3 (by decide)) clX6_127 (by decide) rfl in_X6_spells se_X6_spells rfl rfl (by rw [hRm]; first | decide | (simp only [clS]; omega)) (by rw [hRm]; first | decide | (simp only [clS]; omega)) (fun _ => Nat.le_of_ble_eq_true rfl) (by rw [hRm]; first | decide | (simp only [clS]; omega)) (by rw [hRm]; first | decide | (simp only [clS]; omega)) dX6_actSpelled_25 (fun r25 w25 hp25 => ?_)
      obtain ⟨rfl, hw25⟩ := hp25
      rw [hw25]
      have hbw25 := b01_01 (spl T n p q 2)
      refine g_if_eq (tgt := 33) h dX6_actSpelled_28 (by decide) (by first | assumption | exact ⟨by omega, by omega⟩) (fun c28 => ?_) (fun c28 => ?_)
      · refine g_aload_n h dX6_actSpelled_33 rfl ?_
        refine g_lds h (i := 3) rfl rfl rfl dX6_actSpelled_34 ?_
        refine g_callV h rfl (ci := 6) [_] (by assumption) (c_X6_spells _ _ T n p q 3 hc h2 h3 hp3 hq3 (by decide)) clX6_127 (by decide) rfl in_X6_spells se_X6_spells rfl rfl (by rw [hRm]; first | decide | (simp only [clS]; omega)) (by rw [hRm]; first | decide | (simp only [clS]; omega)) (fun _ => Nat.le_of_ble_eq_true rfl) (by rw [hRm]; first | decide | (simp only [clS]; omega)) (by rw [hRm]; first | decide | (simp only [clS]; omega)) dX6_actSpelled_36 (fun r36 w36 hp36 => ?_)
        obtain ⟨rfl, hw36⟩ := hp36
        rw [hw36]
        have hbw36 := b01_01 (spl T n p q 3)
        refine g_if_eq (tgt := 46) h dX6_actSpelled_39 (by decide) (by first | assumption | exact ⟨by omega, by omega⟩) (fun c39 => ?_) (fun c39 => ?_)
        · refine g_iconst h dX6_actSpelled_46 ?_
          refine g_iret h hQ (by first | decide | omega | (simp only [clS]; omega)) (by first | decide | omega | (simp only [clS]; omega)) ?_ dX6_actSpelled_47
          refine ⟨?_, rfl⟩
          unfold actV
          (first | rw [if_pos (b01_nz c6)] | rw [if_neg (b01_ze c6)] | skip)
          (first | rw [if_pos (b01_nz c17)] | rw [if_neg (b01_ze c17)] | skip)
          (first | rw [if_pos (b01_nz c28)] | rw [if_neg (b01_ze c28)] | skip)
          (first | rw [if_pos (b01_nz c39)] | rw [if_neg (b01_ze c39)] | skip)
        · refine g_iconst h dX6_actSpelled_42 ?_
          refine g_goto (tgt := 47) h dX6_actSpelled_43 (by decide) ?_
          refine g_iret h hQ (by first | decide | omega | (simp only [clS]; omega)) (by first | decide | omega | (simp only [clS]; omega)) ?_ dX6_actSpelled_47
          refine ⟨?_, rfl⟩
          unfold actV
          (first | rw [if_pos (b01_nz c6)] | rw [if_neg (b01_ze c6)] | skip)
          (first | rw [if_pos (b01_nz c17)] | rw [if_neg (b01_ze c17)] | skip)
          (first | rw [if_pos (b01_nz c28)] | rw [if_neg (b01_ze c28)] | skip)
          (first | rw [if_pos (b01_nz c39)] | rw [if_neg (b01_ze c39)] | skip)
      · refine g_iconst h dX6_actSpelled_31 ?_
        refine g_iret h hQ (by first | decide | omega | (simp only [clS]; omega)) (by first | decide | omega | (simp only [clS]; omega)) ?_ dX6_actSpelled_32
        refine ⟨?_, rfl⟩
        unfold actV
        (first | rw [if_pos (b01_nz c6)] | rw [if_neg (b01_ze c6)] | skip)
        (first | rw [if_pos (b01_nz c17)] | rw [if_neg (b01_ze c17)] | skip)
        (first | rw [if_pos (b01_nz c28)] | rw [if_neg (b01_ze c28)] | skip)
        (first | rw [if_pos (b01_nz c39)] | rw [if_neg (b01_ze c39)] | skip)
    · refine g_iconst h dX6_actSpelled_20 ?_
      refine g_iret h hQ (by first | decide | omega | (simp only [clS]; omega)) (by first | decide | omega | (simp only [clS]; omega)) ?_ dX6_actSpelled_21
      refine ⟨?_, rfl⟩
      unfold actV
      (first | rw [if_pos (b01_nz c6)] | rw [if_neg (b01_ze c6)] | skip)
      (first | rw [if_pos (b01_nz c17)] | rw [if_neg (b01_ze c17)] | skip)
      (first | rw [if_pos (b01_nz c28)] | rw [if_neg (b01_ze c28)] | skip)
      (first | rw [if_pos (b01_nz c39)] | rw [if_neg (b01_ze c39)] | skip)
  · refine g_iconst h dX6_actSpelled_9 ?_
    refine g_iret h hQ (by first | decide | omega | (simp only [clS]; omega)) (by first | decide | omega | (simp only [clS]; omega)) ?_ dX6_actSpelled_10
    refine ⟨?_, rfl⟩
    unfold actV
    (first | rw [if_pos (b01_nz c6)] | rw [if_neg (b01_ze c6)] | skip)
    (first | rw [if_pos (b01_nz c17)] | rw [if_neg (b01_ze c17)] | skip)
    (first | rw [if_pos (b01_nz c28)] | rw [if_neg (b01_ze c28)] | skip)
    (first | rw [if_pos (b01_nz c39)] | rw [if_neg (b01_ze c39)] | skip)
set_option maxRecDepth 100000 in
set_option maxHeartbeats 4000000 in
theorem c_X6_nameSpelled (l : Launch) (w : AW) (T : Nat → Int) (n : Nat) (p q : Nat) (hc : RXc w T n) (h2 : w.2.1 23 2 = (p : Int)) (h3 : w.2.1 23 3 = (q : Int)) (hp3 : p ≤ 300) (hq3 : q ≤ 301) : HT l yX6_nameSpelled cX6_nameSpelled 1 (some .int) 6 0 0 w [ar 23] (rI (namV (spl T n p q)) w) := by
  refine HT.of (by decide) (by intro v hv; simp only [List.mem_cons, List.not_mem_nil, or_false] at hv; rcases hv with rfl <;> rfl) (Nat.le_of_ble_eq_true rfl) ?_
  intro Γ h hQ hRm hnm hl hw0
  obtain ⟨hX, hT, hn1, hn3, hTb⟩ := id hc
  have s23 : w.1 23 = (106, 0) := hX.1 23 (by decide)
  refine g_aload_n h dX6_nameSpelled_0 rfl ?_
  refine g_lds h (i := 4) rfl rfl rfl dX6_nameSpelled_1 ?_
  refine g_callV h rfl (ci := 6) [_] (by assumption) (c_X6_spells _ _ T n p q 4 hc h2 h3 hp3 hq3 (by decide)) clX6_127 (by decide) rfl in_X6_spells se_X6_spells rfl rfl (by rw [hRm]; first | decide | (simp only [clS]; omega)) (by rw [hRm]; first | decide | (simp only [clS]; omega)) (fun _ => Nat.le_of_ble_eq_true rfl) (by rw [hRm]; first | decide | (simp only [clS]; omega)) (by rw [hRm]; first | decide | (simp only [clS]; omega)) dX6_nameSpelled_3 (fun r3 w3 hp3 => ?_)
  obtain ⟨rfl, hw3⟩ := hp3
  rw [hw3]
  have hbw3 := b01_01 (spl T n p q 4)
  refine g_if_eq (tgt := 11) h dX6_nameSpelled_6 (by decide) (by first | assumption | exact ⟨by omega, by omega⟩) (fun c6 => ?_) (fun c6 => ?_)
  · refine g_aload_n h dX6_nameSpelled_11 rfl ?_
    refine g_lds h (i := 5) rfl rfl rfl dX6_nameSpelled_12 ?_
    refine g_callV h rfl (ci := 6) [_] (by assumption) (c_X6_spells _ _ T n p q 5 hc h2 h3 hp3 hq3 (by decide)) clX6_127 (by decide) rfl in_X6_spells se_X6_spells rfl rfl (by rw [hRm]; first | decide | (simp only [clS]; omega)) (by rw [hRm]; first | decide | (simp only [clS]; omega)) (fun _ => Nat.le_of_ble_eq_true rfl) (by rw [hRm]; first | decide | (simp only [clS]; omega)) (by rw [hRm]; first | decide | (simp only [clS]; omega)) dX6_nameSpelled_14 (fun r14 w14 hp14 => ?_)
    obtain ⟨rfl, hw14⟩ := hp14
    rw [hw14]
    have hbw14 := b01_01 (spl T n p q 5)
    refine g_if_eq (tgt := 22) h dX6_nameSpelled_17 (by decide) (by first | assumption | exact ⟨by omega, by omega⟩) (fun c17 => ?_) (fun c17 => ?_)
    · refine g_aload_n h dX6_nameSpelled_22 rfl ?_
      refine g_lds h (i := 6) rfl rfl rfl dX6_nameSpelled_23 ?_
      refine g_callV h rfl (ci := 6) [_] (by assumption) (c_X6_spells _ _ T n p q 6 hc h2 h3 hp3 hq3 (by decide)) clX6_127 (by decide) rfl in_X6_spells se_X6_spells rfl rfl (by rw [hRm]; first | decide | (simp only [clS]; omega)) (by rw [hRm]; first | decide | (simp only [clS]; omega)) (fun _ => Nat.le_of_ble_eq_true rfl) (by rw [hRm]; first | decide | (simp only [clS]; omega)) (by rw [hRm]; first | decide | (simp only [clS]; omega)) dX6_nameSpelled_25 (fun r25 w25 hp25 => ?_)
      obtain ⟨rfl, hw25⟩ := hp25
      rw [hw25]
      have hbw25 := b01_01 (spl T n p q 6)
      refine g_if_eq (tgt := 33) h dX6_nameSpelled_28 (by decide) (by first | assumption | exact ⟨by omega, by omega⟩) (fun c28 => ?_) (fun c28 => ?_)
      · refine g_aload_n h dX6_nameSpelled_33 rfl ?_
        refine g_lds h (i := 7) rfl rfl rfl dX6_nameSpelled_34 ?_
        refine g_callV h rfl (ci := 6) [_] (by assumption) (c_X6_spells _ _ T n p q 7 hc h2 h3 hp3 hq3 (by decide)) clX6_127 (by decide) rfl in_X6_spells se_X6_spells rfl rfl (by rw [hRm]; first | decide | (simp only [clS]; omega)) (by rw [hRm]; first | decide | (simp only [clS]; omega)) (fun _ => Nat.le_of_ble_eq_true rfl) (by rw [hRm]; first | decide | (simp only [clS]; omega)) (by rw [hRm]; first | decide | (simp only [clS]; omega)) dX6_nameSpelled_36 (fun r36 w36 hp36 => ?_)
        obtain ⟨rfl, hw36⟩ := hp36
        rw [hw36]
        have hbw36 := b01_01 (spl T n p q 7)
        refine g_if_eq (tgt := 44) h dX6_nameSpelled_39 (by decide) (by first | assumption | exact ⟨by omega, by omega⟩) (fun c39 => ?_) (fun c39 => ?_)
        · refine g_aload_n h dX6_nameSpelled_44 rfl ?_
          refine g_lds h (i := 8) rfl rfl rfl dX6_nameSpelled_45 ?_
          refine g_callV h rfl (ci := 6) [_] (by assumption) (c_X6_spells _ _ T n p q 8 hc h2 h3 hp3 hq3 (by decide)) clX6_127 (by decide) rfl in_X6_spells se_X6_spells rfl rfl (by rw [hRm]; first | decide | (simp only [clS]; omega)) (by rw [hRm]; first | decide | (simp only [clS]; omega)) (fun _ => Nat.le_of_ble_eq_true rfl) (by rw [hRm]; first | decide | (simp only [clS]; omega)) (by rw [hRm]; first | decide | (simp only [clS]; omega)) dX6_nameSpelled_47 (fun r47 w47 hp47 => ?_)
          obtain ⟨rfl, hw47⟩ := hp47
          rw [hw47]
          have hbw47 := b01_01 (spl T n p q 8)
          refine g_if_eq (tgt := 55) h dX6_nameSpelled_50 (by decide) (by first | assumption | exact ⟨by omega, by omega⟩) (fun c50 => ?_) (fun c50 => ?_)
          · refine g_aload_n h dX6_nameSpelled_55 rfl ?_
            refine g_lds h (i := 9) rfl rfl rfl dX6_nameSpelled_56 ?_
            refine g_callV h rfl (ci := 6) [_] (by assumption) (c_X6_spells _ _ T n p q 9 hc h2 h3 hp3 hq3 (by decide)) clX6_127 (by decide) rfl in_X6_spells se_X6_spells rfl rfl (by rw [hRm]; first | decide | (simp only [clS]; omega)) (by rw [hRm]; first | decide | (simp only [clS]; omega)) (fun _ => Nat.le_of_ble_eq_true rfl) (by rw [hRm]; first | decide | (simp only [clS]; omega)) (by rw [hRm]; first | decide | (simp only [clS]; omega)) dX6_nameSpelled_58 (fun r58 w58 hp58 => ?_)
            obtain ⟨rfl, hw58⟩ := hp58
            rw [hw58]
            have hbw58 := b01_01 (spl T n p q 9)
            refine g_if_eq (tgt := 66) h dX6_nameSpelled_61 (by decide) (by first | assumption | exact ⟨by omega, by omega⟩) (fun c61 => ?_) (fun c61 => ?_)
            · refine g_aload_n h dX6_nameSpelled_66 rfl ?_
              refine g_lds h (i := 10) rfl rfl rfl dX6_nameSpelled_67 ?_
              refine g_callV h rfl (ci := 6) [_] (by assumption) (c_X6_spells _ _ T n p q 10 hc h2 h3 hp3 hq3 (by decide)) clX6_127 (by decide) rfl in_X6_spells se_X6_spells rfl rfl (by rw [hRm]; first | decide | (simp only [clS]; omega)) (by rw [hRm]; first | decide | (simp only [clS]; omega)) (fun _ => Nat.le_of_ble_eq_true rfl) (by rw [hRm]; first | decide | (simp only [clS]; omega)) (by rw [hRm]; first | decide | (simp only [clS]; omega)) dX6_nameSpelled_69 (fun r69 w69 hp69 => ?_)
              obtain ⟨rfl, hw69⟩ := hp69
              rw [hw69]
              have hbw69 := b01_01 (spl T n p q 10)
              refine g_if_eq (tgt := 78) h dX6_nameSpelled_72 (by decide) (by first | assumption | exact ⟨by omega, by omega⟩) (fun c72 => ?_) (fun c72 => ?_)
              · refine g_aload_n h dX6_nameSpelled_78 rfl ?_
                refine g_lds h (i := 11) rfl rfl rfl dX6_nameSpelled_79 ?_
                refine g_callV h rfl (ci := 6) [_] (by assumption) (c_X6_spells _ _ T n p q 11 hc h2 h3 hp3 hq3 (by decide)) clX6_127 (by decide) rfl in_X6_spells se_X6_spells rfl rfl (by rw [hRm]; first | decide | (simp only [clS]; omega)) (by rw [hRm]; first | decide | (simp only [clS]; omega)) (fun _ => Nat.le_of_ble_eq_true rfl) (by rw [hRm]; first | decide | (simp only [clS]; omega)) (by rw [hRm]; first | decide | (simp only [clS]; omega)) dX6_nameSpelled_81 (fun r81 w81 hp81 => ?_)
                obtain ⟨rfl, hw81⟩ := hp81
                rw [hw81]
                have hbw81 := b01_01 (spl T n p q 11)
                refine g_if_eq (tgt := 90) h dX6_nameSpelled_84 (by decide) (by first | assumption | exact ⟨by omega, by omega⟩) (fun c84 => ?_) (fun c84 => ?_)
                · refine g_aload_n h dX6_nameSpelled_90 rfl ?_
                  refine g_lds h (i := 12) rfl rfl rfl dX6_nameSpelled_91 ?_
                  refine g_callV h rfl (ci := 6) [_] (by assumption) (c_X6_spells _ _ T n p q 12 hc h2 h3 hp3 hq3 (by decide)) clX6_127 (by decide) rfl in_X6_spells se_X6_spells rfl rfl (by rw [hRm]; first | decide | (simp only [clS]; omega)) (by rw [hRm]; first | decide | (simp only [clS]; omega)) (fun _ => Nat.le_of_ble_eq_true rfl) (by rw [hRm]; first | decide | (simp only [clS]; omega)) (by rw [hRm]; first | decide | (simp only [clS]; omega)) dX6_nameSpelled_93 (fun r93 w93 hp93 => ?_)
                  obtain ⟨rfl, hw93⟩ := hp93
                  rw [hw93]
                  have hbw93 := b01_01 (spl T n p q 12)
                  refine g_if_eq (tgt := 104) h dX6_nameSpelled_96 (by decide) (by first | assumption | exact ⟨by omega, by omega⟩) (fun c96 => ?_) (fun c96 => ?_)
                  · refine g_iconst h dX6_nameSpelled_104 ?_
                    refine g_iret h hQ (by first | decide | omega | (simp only [clS]; omega)) (by first | decide | omega | (simp only [clS]; omega)) ?_ dX6_nameSpelled_105
                    refine ⟨?_, rfl⟩
                    unfold namV
                    (first | rw [if_pos (b01_nz c6)] | rw [if_neg (b01_ze c6)] | skip)
                    (first | rw [if_pos (b01_nz c17)] | rw [if_neg (b01_ze c17)] | skip)
                    (first | rw [if_pos (b01_nz c28)] | rw [if_neg (b01_ze c28)] | skip)
                    (first | rw [if_pos (b01_nz c39)] | rw [if_neg (b01_ze c39)] | skip)
                    (first | rw [if_pos (b01_nz c50)] | rw [if_neg (b01_ze c50)] | skip)
                    (first | rw [if_pos (b01_nz c61)] | rw [if_neg (b01_ze c61)] | skip)
                    (first | rw [if_pos (b01_nz c72)] | rw [if_neg (b01_ze c72)] | skip)
                    (first | rw [if_pos (b01_nz c84)] | rw [if_neg (b01_ze c84)] | skip)
                    (first | rw [if_pos (b01_nz c96)] | rw [if_neg (b01_ze c96)] | skip)
                  · refine g_bipush h dX6_nameSpelled_99 rfl ?_
                    refine g_goto (tgt := 105) h dX6_nameSpelled_101 (by decide) ?_
                    refine g_iret h hQ (by first | decide | omega | (simp only [clS]; omega)) (by first | decide | omega | (simp only [clS]; omega)) ?_ dX6_nameSpelled_105
                    refine ⟨?_, rfl⟩
                    unfold namV
                    (first | rw [if_pos (b01_nz c6)] | rw [if_neg (b01_ze c6)] | skip)
                    (first | rw [if_pos (b01_nz c17)] | rw [if_neg (b01_ze c17)] | skip)
                    (first | rw [if_pos (b01_nz c28)] | rw [if_neg (b01_ze c28)] | skip)
                    (first | rw [if_pos (b01_nz c39)] | rw [if_neg (b01_ze c39)] | skip)
                    (first | rw [if_pos (b01_nz c50)] | rw [if_neg (b01_ze c50)] | skip)
                    (first | rw [if_pos (b01_nz c61)] | rw [if_neg (b01_ze c61)] | skip)
                    (first | rw [if_pos (b01_nz c72)] | rw [if_neg (b01_ze c72)] | skip)
                    (first | rw [if_pos (b01_nz c84)] | rw [if_neg (b01_ze c84)] | skip)
                    (first | rw [if_pos (b01_nz c96)] | rw [if_neg (b01_ze c96)] | skip)
                · refine g_bipush h dX6_nameSpelled_87 rfl ?_
                  refine g_iret h hQ (by first | decide | omega | (simp only [clS]; omega)) (by first | decide | omega | (simp only [clS]; omega)) ?_ dX6_nameSpelled_89
                  refine ⟨?_, rfl⟩
                  unfold namV
                  (first | rw [if_pos (b01_nz c6)] | rw [if_neg (b01_ze c6)] | skip)
                  (first | rw [if_pos (b01_nz c17)] | rw [if_neg (b01_ze c17)] | skip)
                  (first | rw [if_pos (b01_nz c28)] | rw [if_neg (b01_ze c28)] | skip)
                  (first | rw [if_pos (b01_nz c39)] | rw [if_neg (b01_ze c39)] | skip)
                  (first | rw [if_pos (b01_nz c50)] | rw [if_neg (b01_ze c50)] | skip)
                  (first | rw [if_pos (b01_nz c61)] | rw [if_neg (b01_ze c61)] | skip)
                  (first | rw [if_pos (b01_nz c72)] | rw [if_neg (b01_ze c72)] | skip)
                  (first | rw [if_pos (b01_nz c84)] | rw [if_neg (b01_ze c84)] | skip)
                  (first | rw [if_pos (b01_nz c96)] | rw [if_neg (b01_ze c96)] | skip)
              · refine g_bipush h dX6_nameSpelled_75 rfl ?_
                refine g_iret h hQ (by first | decide | omega | (simp only [clS]; omega)) (by first | decide | omega | (simp only [clS]; omega)) ?_ dX6_nameSpelled_77
                refine ⟨?_, rfl⟩
                unfold namV
                (first | rw [if_pos (b01_nz c6)] | rw [if_neg (b01_ze c6)] | skip)
                (first | rw [if_pos (b01_nz c17)] | rw [if_neg (b01_ze c17)] | skip)
                (first | rw [if_pos (b01_nz c28)] | rw [if_neg (b01_ze c28)] | skip)
                (first | rw [if_pos (b01_nz c39)] | rw [if_neg (b01_ze c39)] | skip)
                (first | rw [if_pos (b01_nz c50)] | rw [if_neg (b01_ze c50)] | skip)
                (first | rw [if_pos (b01_nz c61)] | rw [if_neg (b01_ze c61)] | skip)
                (first | rw [if_pos (b01_nz c72)] | rw [if_neg (b01_ze c72)] | skip)
                (first | rw [if_pos (b01_nz c84)] | rw [if_neg (b01_ze c84)] | skip)
                (first | rw [if_pos (b01_nz c96)] | rw [if_neg (b01_ze c96)] | skip)
            · refine g_iconst h dX6_nameSpelled_64 ?_
              refine g_iret h hQ (by first | decide | omega | (simp only [clS]; omega)) (by first | decide | omega | (simp only [clS]; omega)) ?_ dX6_nameSpelled_65
              refine ⟨?_, rfl⟩
              unfold namV
              (first | rw [if_pos (b01_nz c6)] | rw [if_neg (b01_ze c6)] | skip)
              (first | rw [if_pos (b01_nz c17)] | rw [if_neg (b01_ze c17)] | skip)
              (first | rw [if_pos (b01_nz c28)] | rw [if_neg (b01_ze c28)] | skip)
              (first | rw [if_pos (b01_nz c39)] | rw [if_neg (b01_ze c39)] | skip)
              (first | rw [if_pos (b01_nz c50)] | rw [if_neg (b01_ze c50)] | skip)
              (first | rw [if_pos (b01_nz c61)] | rw [if_neg (b01_ze c61)] | skip)
              (first | rw [if_pos (b01_nz c72)] | rw [if_neg (b01_ze c72)] | skip)
              (first | rw [if_pos (b01_nz c84)] | rw [if_neg (b01_ze c84)] | skip)
              (first | rw [if_pos (b01_nz c96)] | rw [if_neg (b01_ze c96)] | skip)
          · refine g_iconst h dX6_nameSpelled_53 ?_
            refine g_iret h hQ (by first | decide | omega | (simp only [clS]; omega)) (by first | decide | omega | (simp only [clS]; omega)) ?_ dX6_nameSpelled_54
            refine ⟨?_, rfl⟩
            unfold namV
            (first | rw [if_pos (b01_nz c6)] | rw [if_neg (b01_ze c6)] | skip)
            (first | rw [if_pos (b01_nz c17)] | rw [if_neg (b01_ze c17)] | skip)
            (first | rw [if_pos (b01_nz c28)] | rw [if_neg (b01_ze c28)] | skip)
            (first | rw [if_pos (b01_nz c39)] | rw [if_neg (b01_ze c39)] | skip)
            (first | rw [if_pos (b01_nz c50)] | rw [if_neg (b01_ze c50)] | skip)
            (first | rw [if_pos (b01_nz c61)] | rw [if_neg (b01_ze c61)] | skip)
            (first | rw [if_pos (b01_nz c72)] | rw [if_neg (b01_ze c72)] | skip)
            (first | rw [if_pos (b01_nz c84)] | rw [if_neg (b01_ze c84)] | skip)
            (first | rw [if_pos (b01_nz c96)] | rw [if_neg (b01_ze c96)] | skip)
        · refine g_iconst h dX6_nameSpelled_42 ?_
          refine g_iret h hQ (by first | decide | omega | (simp only [clS]; omega)) (by first | decide | omega | (simp only [clS]; omega)) ?_ dX6_nameSpelled_43
          refine ⟨?_, rfl⟩
          unfold namV
          (first | rw [if_pos (b01_nz c6)] | rw [if_neg (b01_ze c6)] | skip)
          (first | rw [if_pos (b01_nz c17)] | rw [if_neg (b01_ze c17)] | skip)
          (first | rw [if_pos (b01_nz c28)] | rw [if_neg (b01_ze c28)] | skip)
          (first | rw [if_pos (b01_nz c39)] | rw [if_neg (b01_ze c39)] | skip)
          (first | rw [if_pos (b01_nz c50)] | rw [if_neg (b01_ze c50)] | skip)
          (first | rw [if_pos (b01_nz c61)] | rw [if_neg (b01_ze c61)] | skip)
          (first | rw [if_pos (b01_nz c72)] | rw [if_neg (b01_ze c72)] | skip)
          (first | rw [if_pos (b01_nz c84)] | rw [if_neg (b01_ze c84)] | skip)
          (first | rw [if_pos (b01_nz c96)] | rw [if_neg (b01_ze c96)] | skip)
      · refine g_iconst h dX6_nameSpelled_31 ?_
        refine g_iret h hQ (by first | decide | omega | (simp only [clS]; omega)) (by first | decide | omega | (simp only [clS]; omega)) ?_ dX6_nameSpelled_32
        refine ⟨?_, rfl⟩
        unfold namV
        (first | rw [if_pos (b01_nz c6)] | rw [if_neg (b01_ze c6)] | skip)
        (first | rw [if_pos (b01_nz c17)] | rw [if_neg (b01_ze c17)] | skip)
        (first | rw [if_pos (b01_nz c28)] | rw [if_neg (b01_ze c28)] | skip)
        (first | rw [if_pos (b01_nz c39)] | rw [if_neg (b01_ze c39)] | skip)
        (first | rw [if_pos (b01_nz c50)] | rw [if_neg (b01_ze c50)] | skip)
        (first | rw [if_pos (b01_nz c61)] | rw [if_neg (b01_ze c61)] | skip)
        (first | rw [if_pos (b01_nz c72)] | rw [if_neg (b01_ze c72)] | skip)
        (first | rw [if_pos (b01_nz c84)] | rw [if_neg (b01_ze c84)] | skip)
        (first | rw [if_pos (b01_nz c96)] | rw [if_neg (b01_ze c96)] | skip)
    · refine g_iconst h dX6_nameSpelled_20 ?_
      refine g_iret h hQ (by first | decide | omega | (simp only [clS]; omega)) (by first | decide | omega | (simp only [clS]; omega)) ?_ dX6_nameSpelled_21
      refine ⟨?_, rfl⟩
      unfold namV
      (first | rw [if_pos (b01_nz c6)] | rw [if_neg (b01_ze c6)] | skip)
      (first | rw [if_pos (b01_nz c17)] | rw [if_neg (b01_ze c17)] | skip)
      (first | rw [if_pos (b01_nz c28)] | rw [if_neg (b01_ze c28)] | skip)
      (first | rw [if_pos (b01_nz c39)] | rw [if_neg (b01_ze c39)] | skip)
      (first | rw [if_pos (b01_nz c50)] | rw [if_neg (b01_ze c50)] | skip)
      (first | rw [if_pos (b01_nz c61)] | rw [if_neg (b01_ze c61)] | skip)
      (first | rw [if_pos (b01_nz c72)] | rw [if_neg (b01_ze c72)] | skip)
      (first | rw [if_pos (b01_nz c84)] | rw [if_neg (b01_ze c84)] | skip)
      (first | rw [if_pos (b01_nz c96)] | rw [if_neg (b01_ze c96)] | skip)
  · refine g_iconst h dX6_nameSpelled_9 ?_
    refine g_iret h hQ (by first | decide | omega | (simp only [clS]; omega)) (by first | decide | omega | (simp only [clS]; omega)) ?_ dX6_nameSpelled_10
    refine ⟨?_, rfl⟩
    unfold namV
    (first | rw [if_pos (b01_nz c6)] | rw [if_neg (b01_ze c6)] | skip)
    (first | rw [if_pos (b01_nz c17)] | rw [if_neg (b01_ze c17)] | skip)
    (first | rw [if_pos (b01_nz c28)] | rw [if_neg (b01_ze c28)] | skip)
    (first | rw [if_pos (b01_nz c39)] | rw [if_neg (b01_ze c39)] | skip)
    (first | rw [if_pos (b01_nz c50)] | rw [if_neg (b01_ze c50)] | skip)
    (first | rw [if_pos (b01_nz c61)] | rw [if_neg (b01_ze c61)] | skip)
    (first | rw [if_pos (b01_nz c72)] | rw [if_neg (b01_ze c72)] | skip)
    (first | rw [if_pos (b01_nz c84)] | rw [if_neg (b01_ze c84)] | skip)
    (first | rw [if_pos (b01_nz c96)] | rw [if_neg (b01_ze c96)] | skip)
set_option maxRecDepth 100000 in
set_option maxHeartbeats 4000000 in
theorem c_X6_jointSpelled (l : Launch) (w : AW) (T : Nat → Int) (n : Nat) (p q : Nat) (hc : RXc w T n) (h2 : w.2.1 23 2 = (p : Int)) (h3 : w.2.1 23 3 = (q : Int)) (hp3 : p ≤ 300) (hq3 : q ≤ 301) : HT l yX6_jointSpelled cX6_jointSpelled 1 (some .int) 6 0 0 w [ar 23] (rI (jntV (spl T n p q)) w) := by
  refine HT.of (by decide) (by intro v hv; simp only [List.mem_cons, List.not_mem_nil, or_false] at hv; rcases hv with rfl <;> rfl) (Nat.le_of_ble_eq_true rfl) ?_
  intro Γ h hQ hRm hnm hl hw0
  obtain ⟨hX, hT, hn1, hn3, hTb⟩ := id hc
  have s23 : w.1 23 = (106, 0) := hX.1 23 (by decide)
  refine g_aload_n h dX6_jointSpelled_0 rfl ?_
  refine g_lds h (i := 13) rfl rfl rfl dX6_jointSpelled_1 ?_
  refine g_callV h rfl (ci := 6) [_] (by assumption) (c_X6_spells _ _ T n p q 13 hc h2 h3 hp3 hq3 (by decide)) clX6_127 (by decide) rfl in_X6_spells se_X6_spells rfl rfl (by rw [hRm]; first | decide | (simp only [clS]; omega)) (by rw [hRm]; first | decide | (simp only [clS]; omega)) (fun _ => Nat.le_of_ble_eq_true rfl) (by rw [hRm]; first | decide | (simp only [clS]; omega)) (by rw [hRm]; first | decide | (simp only [clS]; omega)) dX6_jointSpelled_3 (fun r3 w3 hp3 => ?_)
  obtain ⟨rfl, hw3⟩ := hp3
  rw [hw3]
  have hbw3 := b01_01 (spl T n p q 13)
  refine g_if_eq (tgt := 12) h dX6_jointSpelled_6 (by decide) (by first | assumption | exact ⟨by omega, by omega⟩) (fun c6 => ?_) (fun c6 => ?_)
  · refine g_aload_n h dX6_jointSpelled_12 rfl ?_
    refine g_lds h (i := 14) rfl rfl rfl dX6_jointSpelled_13 ?_
    refine g_callV h rfl (ci := 6) [_] (by assumption) (c_X6_spells _ _ T n p q 14 hc h2 h3 hp3 hq3 (by decide)) clX6_127 (by decide) rfl in_X6_spells se_X6_spells rfl rfl (by rw [hRm]; first | decide | (simp only [clS]; omega)) (by rw [hRm]; first | decide | (simp only [clS]; omega)) (fun _ => Nat.le_of_ble_eq_true rfl) (by rw [hRm]; first | decide | (simp only [clS]; omega)) (by rw [hRm]; first | decide | (simp only [clS]; omega)) dX6_jointSpelled_15 (fun r15 w15 hp15 => ?_)
    obtain ⟨rfl, hw15⟩ := hp15
    rw [hw15]
    have hbw15 := b01_01 (spl T n p q 14)
    refine g_if_eq (tgt := 24) h dX6_jointSpelled_18 (by decide) (by first | assumption | exact ⟨by omega, by omega⟩) (fun c18 => ?_) (fun c18 => ?_)
    · refine g_aload_n h dX6_jointSpelled_24 rfl ?_
      refine g_lds h (i := 15) rfl rfl rfl dX6_jointSpelled_25 ?_
      refine g_callV h rfl (ci := 6) [_] (by assumption) (c_X6_spells _ _ T n p q 15 hc h2 h3 hp3 hq3 (by decide)) clX6_127 (by decide) rfl in_X6_spells se_X6_spells rfl rfl (by rw [hRm]; first | decide | (simp only [clS]; omega)) (by rw [hRm]; first | decide | (simp only [clS]; omega)) (fun _ => Nat.le_of_ble_eq_true rfl) (by rw [hRm]; first | decide | (simp only [clS]; omega)) (by rw [hRm]; first | decide | (simp only [clS]; omega)) dX6_jointSpelled_27 (fun r27 w27 hp27 => ?_)
      obtain ⟨rfl, hw27⟩ := hp27
      rw [hw27]
      have hbw27 := b01_01 (spl T n p q 15)
      refine g_if_eq (tgt := 36) h dX6_jointSpelled_30 (by decide) (by first | assumption | exact ⟨by omega, by omega⟩) (fun c30 => ?_) (fun c30 => ?_)
      · refine g_aload_n h dX6_jointSpelled_36 rfl ?_
        refine g_lds h (i := 16) rfl rfl rfl dX6_jointSpelled_37 ?_
        refine g_callV h rfl (ci := 6) [_] (by assumption) (c_X6_spells _ _ T n p q 16 hc h2 h3 hp3 hq3 (by decide)) clX6_127 (by decide) rfl in_X6_spells se_X6_spells rfl rfl (by rw [hRm]; first | decide | (simp only [clS]; omega)) (by rw [hRm]; first | decide | (simp only [clS]; omega)) (fun _ => Nat.le_of_ble_eq_true rfl) (by rw [hRm]; first | decide | (simp only [clS]; omega)) (by rw [hRm]; first | decide | (simp only [clS]; omega)) dX6_jointSpelled_39 (fun r39 w39 hp39 => ?_)
        obtain ⟨rfl, hw39⟩ := hp39
        rw [hw39]
        have hbw39 := b01_01 (spl T n p q 16)
        refine g_if_eq (tgt := 50) h dX6_jointSpelled_42 (by decide) (by first | assumption | exact ⟨by omega, by omega⟩) (fun c42 => ?_) (fun c42 => ?_)
        · refine g_iconst h dX6_jointSpelled_50 ?_
          refine g_iret h hQ (by first | decide | omega | (simp only [clS]; omega)) (by first | decide | omega | (simp only [clS]; omega)) ?_ dX6_jointSpelled_51
          refine ⟨?_, rfl⟩
          unfold jntV
          (first | rw [if_pos (b01_nz c6)] | rw [if_neg (b01_ze c6)] | skip)
          (first | rw [if_pos (b01_nz c18)] | rw [if_neg (b01_ze c18)] | skip)
          (first | rw [if_pos (b01_nz c30)] | rw [if_neg (b01_ze c30)] | skip)
          (first | rw [if_pos (b01_nz c42)] | rw [if_neg (b01_ze c42)] | skip)
        · refine g_bipush h dX6_jointSpelled_45 rfl ?_
          refine g_goto (tgt := 51) h dX6_jointSpelled_47 (by decide) ?_
          refine g_iret h hQ (by first | decide | omega | (simp only [clS]; omega)) (by first | decide | omega | (simp only [clS]; omega)) ?_ dX6_jointSpelled_51
          refine ⟨?_, rfl⟩
          unfold jntV
          (first | rw [if_pos (b01_nz c6)] | rw [if_neg (b01_ze c6)] | skip)
          (first | rw [if_pos (b01_nz c18)] | rw [if_neg (b01_ze c18)] | skip)
          (first | rw [if_pos (b01_nz c30)] | rw [if_neg (b01_ze c30)] | skip)
          (first | rw [if_pos (b01_nz c42)] | rw [if_neg (b01_ze c42)] | skip)
      · refine g_bipush h dX6_jointSpelled_33 rfl ?_
        refine g_iret h hQ (by first | decide | omega | (simp only [clS]; omega)) (by first | decide | omega | (simp only [clS]; omega)) ?_ dX6_jointSpelled_35
        refine ⟨?_, rfl⟩
        unfold jntV
        (first | rw [if_pos (b01_nz c6)] | rw [if_neg (b01_ze c6)] | skip)
        (first | rw [if_pos (b01_nz c18)] | rw [if_neg (b01_ze c18)] | skip)
        (first | rw [if_pos (b01_nz c30)] | rw [if_neg (b01_ze c30)] | skip)
        (first | rw [if_pos (b01_nz c42)] | rw [if_neg (b01_ze c42)] | skip)
    · refine g_bipush h dX6_jointSpelled_21 rfl ?_
      refine g_iret h hQ (by first | decide | omega | (simp only [clS]; omega)) (by first | decide | omega | (simp only [clS]; omega)) ?_ dX6_jointSpelled_23
      refine ⟨?_, rfl⟩
      unfold jntV
      (first | rw [if_pos (b01_nz c6)] | rw [if_neg (b01_ze c6)] | skip)
      (first | rw [if_pos (b01_nz c18)] | rw [if_neg (b01_ze c18)] | skip)
      (first | rw [if_pos (b01_nz c30)] | rw [if_neg (b01_ze c30)] | skip)
      (first | rw [if_pos (b01_nz c42)] | rw [if_neg (b01_ze c42)] | skip)
  · refine g_bipush h dX6_jointSpelled_9 rfl ?_
    refine g_iret h hQ (by first | decide | omega | (simp only [clS]; omega)) (by first | decide | omega | (simp only [clS]; omega)) ?_ dX6_jointSpelled_11
    refine ⟨?_, rfl⟩
    unfold jntV
    (first | rw [if_pos (b01_nz c6)] | rw [if_neg (b01_ze c6)] | skip)
    (first | rw [if_pos (b01_nz c18)] | rw [if_neg (b01_ze c18)] | skip)
    (first | rw [if_pos (b01_nz c30)] | rw [if_neg (b01_ze c30)] | skip)
    (first | rw [if_pos (b01_nz c42)] | rw [if_neg (b01_ze c42)] | skip)
set_option maxRecDepth 100000 in
set_option maxHeartbeats 4000000 in
theorem c_X6_readWhole (l : Launch) (w : AW) (T : Nat → Int) (n : Nat) (p : Nat) (hc : RXc w T n) (h2 : w.2.1 23 2 = (p : Int)) (hpn : p < n) : HT l yX6_readWhole cX6_readWhole 2 none 2 0 0 w [ar 23] (fun r w' => r = none ∧ F23 w w' (rowK (w.2.1 23) (wholeF T n p))) := by
  refine HT.of (by decide) (by intro v hv; simp only [List.mem_cons, List.not_mem_nil, or_false] at hv; rcases hv with rfl <;> rfl) (Nat.le_of_ble_eq_true rfl) ?_
  intro Γ h hQ hRm hnm hl hw0
  obtain ⟨hX, hT, hn1, hn3, hTb⟩ := id hc
  have s23 : w.1 23 = (106, 0) := hX.1 23 (by decide)
  have wb : ∀ k, 0 ≤ 0 ∧ (∀ j, j < k → isDb (T (p + j)) = true) → (k ≤ 4 → 0 ≤ wvF T p k ∧ wvF T p k < 10 ^ k) ∧ 0 ≤ wvF T p k ∧ wvF T p k < 10000 := by
    intro k
    induction k with
    | zero => intro _; exact ⟨fun _ => ⟨Int.le_refl _, by show (0 : Int) < 1; decide⟩, Int.le_refl _, by show (0 : Int) < 10000; decide⟩
    | succ k ih =>
      intro hk
      obtain ⟨i1, i2, i3⟩ := ih ⟨by omega, fun j hj => hk.2 j (by omega)⟩
      have hd : 48 ≤ T (p + k) ∧ T (p + k) ≤ 57 := of_decide_eq_true (hk.2 k (by omega))
      unfold wvF
      by_cases q : k < 4
      · rw [if_pos q]
        have h5 := i1 (by omega)
        rcases (show k = 0 ∨ k = 1 ∨ k = 2 ∨ k = 3 by omega) with rfl | rfl | rfl | rfl <;> simp only [Int.reducePow, Nat.reduceAdd] at h5 ⊢ <;> refine ⟨fun _ => ?_, ?_⟩ <;> omega
      · rw [if_neg q]
        exact ⟨fun q2 => by omega, i2, i3⟩
  have loop : ∀ (d k : Nat), p + k + d = n → (∀ j, j < k → isDb (T (p + j)) = true) → runF isDb T d (p + k) = runF isDb T (n - p) p → GG Γ 10 [some (ar 23), some (ai ((p + k : Nat) : Int))] [] (upI w 23 5 (wvF T p k)) 0 0 := by
    intro d
    induction d with
    | zero =>
      intro k hk hpre hrun
      have hend : runF isDb T (n - p) p = p + k := hrun.symm
      have hcu : RXc (upI w 23 5 (wvF T p k)) T n := RXc_of rfl rfl rfl rfl hc
      have t23 : (upI w 23 5 (wvF T p k)).1 23 = (106, 0) := s23
      have t1 : (upI w 23 5 (wvF T p k)).2.1 23 1 = (n : Int) := hn1
      have t2 : (upI w 23 5 (wvF T p k)).2.1 23 2 = (p : Int) := h2
      have t23b : (upI (upI w 23 5 (wvF T p k)) 23 3 ((p + k : Nat) : Int)).1 23 = (106, 0) := s23
      have t2b : (upI (upI w 23 5 (wvF T p k)) 23 3 ((p + k : Nat) : Int)).2.1 23 2 = (p : Int) := h2
      have hwb := wb k ⟨by omega, hpre⟩
      have hbb : p + k < n → bA T n ((p + k : Nat) : Int) = T (p + k) := fun q => (if_pos ⟨by omega, by omega⟩).trans (by rw [Int.toNat_natCast])
      have hbd := bA_bd hn3 hTb ((p + k : Nat) : Int)
      refine g_iload_n h dX6_readWhole_10 rfl ?_
      refine g_aload_n h dX6_readWhole_11 rfl ?_
      refine g_getI h flX6_27 rfl (by assumption) dX6_readWhole_12 ?_
      rw [t1]
      refine g_icmp_ge (tgt := 65) h dX6_readWhole_15 (by decide) (by first | assumption | exact ⟨by omega, by omega⟩) (by first | assumption | exact ⟨by omega, by omega⟩) (fun c15 => ?_) (fun c15 => ?_)
      · refine g_aload_n h dX6_readWhole_65 rfl ?_
        refine g_iload_n h dX6_readWhole_66 rfl ?_
        refine g_putI h flX6_31 rfl rfl (by assumption) dX6_readWhole_67 ?_
        refine g_aload_n h dX6_readWhole_70 rfl ?_
        refine g_iload_n h dX6_readWhole_71 rfl ?_
        refine g_aload_n h dX6_readWhole_72 rfl ?_
        refine g_getI h flX6_84 rfl (by assumption) dX6_readWhole_73 ?_
        rw [t2b]
        refine g_isub h dX6_readWhole_76 ?_
        refine g_iconst h dX6_readWhole_77 ?_
        refine g_icmp_le (tgt := 85) h dX6_readWhole_78 (by decide) (by first | assumption | exact ⟨by omega, by omega⟩) (by first | assumption | exact ⟨by omega, by omega⟩) (fun c78 => ?_) (fun c78 => ?_)
        · refine g_iconst h dX6_readWhole_85 ?_
          refine g_putI h flX6_90 rfl rfl (by assumption) dX6_readWhole_86 ?_
          refine g_vret h hQ (by first | decide | omega | (simp only [clS]; omega)) (by first | decide | omega | (simp only [clS]; omega)) ?_ dX6_readWhole_89
          first
          | (exfalso; omega)
          | (refine ⟨rfl, rfl, rfl, fun j hj => by simp only [upI_sR, sR_ne _ _ hj], ?_⟩
             simp only [upI_sR, sR_at]
             have e9 : wholeF T n p = (2, wvF T p k, p + k) := by
               unfold wholeF
               rw [hend]
               refine Prod.ext ?_ (Prod.ext ?_ rfl)
               · show (if p + 4 < p + k then (1 : Int) else 2) = 2
                 first | rw [if_pos (by omega)] | rw [if_neg (by omega)]
               · show wvF T p (p + k - p) = _
                 congr 1
                 omega
             rw [e9]
             exact rowK_eq (by simp [uI]) (by simp [uI]) (by simp [uI]) (fun f h3 h4 h5 => by simp [uI, h3, h4, h5]))
        · refine g_iconst h dX6_readWhole_81 ?_
          refine g_goto (tgt := 86) h dX6_readWhole_82 (by decide) ?_
          refine g_putI h flX6_90 rfl rfl (by assumption) dX6_readWhole_86 ?_
          refine g_vret h hQ (by first | decide | omega | (simp only [clS]; omega)) (by first | decide | omega | (simp only [clS]; omega)) ?_ dX6_readWhole_89
          first
          | (exfalso; omega)
          | (refine ⟨rfl, rfl, rfl, fun j hj => by simp only [upI_sR, sR_ne _ _ hj], ?_⟩
             simp only [upI_sR, sR_at]
             have e9 : wholeF T n p = (1, wvF T p k, p + k) := by
               unfold wholeF
               rw [hend]
               refine Prod.ext ?_ (Prod.ext ?_ rfl)
               · show (if p + 4 < p + k then (1 : Int) else 2) = 1
                 first | rw [if_pos (by omega)] | rw [if_neg (by omega)]
               · show wvF T p (p + k - p) = _
                 congr 1
                 omega
             rw [e9]
             exact rowK_eq (by simp [uI]) (by simp [uI]) (by simp [uI]) (fun f h3 h4 h5 => by simp [uI, h3, h4, h5]))
      · exfalso; omega
    | succ d ih =>
      intro k hk hpre hrun
      have hcu : RXc (upI w 23 5 (wvF T p k)) T n := RXc_of rfl rfl rfl rfl hc
      have t23 : (upI w 23 5 (wvF T p k)).1 23 = (106, 0) := s23
      have t1 : (upI w 23 5 (wvF T p k)).2.1 23 1 = (n : Int) := hn1
      have t2 : (upI w 23 5 (wvF T p k)).2.1 23 2 = (p : Int) := h2
      have t23b : (upI (upI w 23 5 (wvF T p k)) 23 3 ((p + k : Nat) : Int)).1 23 = (106, 0) := s23
      have t2b : (upI (upI w 23 5 (wvF T p k)) 23 3 ((p + k : Nat) : Int)).2.1 23 2 = (p : Int) := h2
      have hwb := wb k ⟨by omega, hpre⟩
      have hbb : p + k < n → bA T n ((p + k : Nat) : Int) = T (p + k) := fun q => (if_pos ⟨by omega, by omega⟩).trans (by rw [Int.toNat_natCast])
      have hbd := bA_bd hn3 hTb ((p + k : Nat) : Int)
      have hbk := hbb (by omega)
      rw [hbk] at hbd
      by_cases hdg : isDb (T (p + k)) = true
      · have hdg2 : 48 ≤ T (p + k) ∧ T (p + k) ≤ 57 := of_decide_eq_true hdg
        have hnext : GG Γ 10 [some (ar 23), some (ai ((p + (k + 1) : Nat) : Int))] [] (upI w 23 5 (wvF T p (k + 1))) 0 0 := by
          refine ih (k + 1) (by omega) (fun j hj => ?_) ?_
          · by_cases e : j = k
            · subst e; exact hdg
            · exact hpre j (by omega)
          · rw [← hrun]
            show runF isDb T d (p + k + 1) = (if isDb (T (p + k)) = true then runF isDb T d (p + k + 1) else p + k)
            rw [if_pos hdg]
        refine g_iload_n h dX6_readWhole_10 rfl ?_
        refine g_aload_n h dX6_readWhole_11 rfl ?_
        refine g_getI h flX6_27 rfl (by assumption) dX6_readWhole_12 ?_
        rw [t1]
        refine g_icmp_ge (tgt := 65) h dX6_readWhole_15 (by decide) (by first | assumption | exact ⟨by omega, by omega⟩) (by first | assumption | exact ⟨by omega, by omega⟩) (fun c15 => ?_) (fun c15 => ?_)
        · exfalso; omega
        · refine g_aload_n h dX6_readWhole_18 rfl ?_
          refine g_iload_n h dX6_readWhole_19 rfl ?_
          refine g_callV h rfl (ci := 6) [_] (by assumption) (c_X6_byteAt _ _ T n _ hcu ⟨by omega, by omega⟩) clX6_80 (by decide) rfl in_X6_byteAt se_X6_byteAt rfl rfl (by rw [hRm]; first | decide | (simp only [clS]; omega)) (by rw [hRm]; first | decide | (simp only [clS]; omega)) (fun _ => Nat.le_of_ble_eq_true rfl) (by rw [hRm]; first | decide | (simp only [clS]; omega)) (by rw [hRm]; first | decide | (simp only [clS]; omega)) dX6_readWhole_20 (fun r20 w20 hp20 => ?_)
          obtain ⟨rfl, hw20⟩ := hp20
          rw [hw20]
          rw [hbk]
          refine g_callS h rfl [_] (c_X6_isDigit _ _ _ ⟨by omega, by omega⟩) clX6_100 st_X6_isDigit rfl rfl (by rw [hRm]; first | decide | (simp only [clS]; omega)) (by rw [hRm]; first | decide | (simp only [clS]; omega)) (fun _ => Nat.le_of_ble_eq_true rfl) (by rw [hRm]; first | decide | (simp only [clS]; omega)) (by rw [hRm]; first | decide | (simp only [clS]; omega)) dX6_readWhole_23 (fun r23 w23 hp23 => ?_)
          obtain ⟨rfl, hw23⟩ := hp23
          rw [hw23]
          have hbw23 := ite01 (48 ≤ T (p + k) ∧ T (p + k) ≤ 57)
          refine g_if_eq (tgt := 65) h dX6_readWhole_26 (by decide) (by first | assumption | exact ⟨by omega, by omega⟩) (fun c26 => ?_) (fun c26 => ?_)
          · exfalso; omega
          · refine g_iload_n h dX6_readWhole_29 rfl ?_
            refine g_aload_n h dX6_readWhole_30 rfl ?_
            refine g_getI h flX6_84 rfl (by assumption) dX6_readWhole_31 ?_
            rw [t2]
            refine g_isub h dX6_readWhole_34 ?_
            refine g_iconst h dX6_readWhole_35 ?_
            refine g_icmp_ge (tgt := 59) h dX6_readWhole_36 (by decide) (by first | assumption | exact ⟨by omega, by omega⟩) (by first | assumption | exact ⟨by omega, by omega⟩) (fun c36 => ?_) (fun c36 => ?_)
            · refine g_iinc h dX6_readWhole_59 rfl (Nat.le_of_ble_eq_true rfl) rfl rfl ?_
              refine g_goto (tgt := 10) h dX6_readWhole_62 (by decide) ?_
              have e1 : wvF T p (k + 1) = wvF T p k := if_neg (by omega)
              rw [e1] at hnext
              exact hnext
            · refine g_aload_n h dX6_readWhole_39 rfl ?_
              refine g_aload_n h dX6_readWhole_40 rfl ?_
              refine g_getI h flX6_87 rfl (by assumption) dX6_readWhole_41 ?_
              rw [upI_self]
              refine g_bipush h dX6_readWhole_44 rfl ?_
              refine g_imul h dX6_readWhole_46 ?_
              refine g_aload_n h dX6_readWhole_47 rfl ?_
              refine g_iload_n h dX6_readWhole_48 rfl ?_
              refine g_callV h rfl (ci := 6) [_] (by assumption) (c_X6_byteAt _ _ T n _ hcu ⟨by omega, by omega⟩) clX6_80 (by decide) rfl in_X6_byteAt se_X6_byteAt rfl rfl (by rw [hRm]; first | decide | (simp only [clS]; omega)) (by rw [hRm]; first | decide | (simp only [clS]; omega)) (fun _ => Nat.le_of_ble_eq_true rfl) (by rw [hRm]; first | decide | (simp only [clS]; omega)) (by rw [hRm]; first | decide | (simp only [clS]; omega)) dX6_readWhole_49 (fun r49 w49 hp49 => ?_)
              obtain ⟨rfl, hw49⟩ := hp49
              rw [hw49]
              rw [hbk]
              refine g_iadd h dX6_readWhole_52 ?_
              refine g_bipush h dX6_readWhole_53 rfl ?_
              refine g_isub h dX6_readWhole_55 ?_
              refine g_putI h flX6_87 rfl rfl (by assumption) dX6_readWhole_56 ?_
              refine g_iinc h dX6_readWhole_59 rfl (Nat.le_of_ble_eq_true rfl) rfl rfl ?_
              refine g_goto (tgt := 10) h dX6_readWhole_62 (by decide) ?_
              rw [upI_2]
              have e1 : wvF T p (k + 1) = wvF T p k * 10 + T (p + k) - 48 := if_pos (by omega)
              rw [e1] at hnext
              exact hnext
      · have hdg2 : ¬ (48 ≤ T (p + k) ∧ T (p + k) ≤ 57) := fun q => hdg (decide_eq_true q)
        have hend : runF isDb T (n - p) p = p + k := by
          rw [← hrun]
          show (if isDb (T (p + k)) = true then runF isDb T d (p + k + 1) else p + k) = p + k
          rw [if_neg hdg]
        refine g_iload_n h dX6_readWhole_10 rfl ?_
        refine g_aload_n h dX6_readWhole_11 rfl ?_
        refine g_getI h flX6_27 rfl (by assumption) dX6_readWhole_12 ?_
        rw [t1]
        refine g_icmp_ge (tgt := 65) h dX6_readWhole_15 (by decide) (by first | assumption | exact ⟨by omega, by omega⟩) (by first | assumption | exact ⟨by omega, by omega⟩) (fun c15 => ?_) (fun c15 => ?_)
        · refine g_aload_n h dX6_readWhole_65 rfl ?_
          refine g_iload_n h dX6_readWhole_66 rfl ?_
          refine g_putI h flX6_31 rfl rfl (by assumption) dX6_readWhole_67 ?_
          refine g_aload_n h dX6_readWhole_70 rfl ?_
          refine g_iload_n h dX6_readWhole_71 rfl ?_
          refine g_aload_n h dX6_readWhole_72 rfl ?_
          refine g_getI h flX6_84 rfl (by assumption) dX6_readWhole_73 ?_
          rw [t2b]
          refine g_isub h dX6_readWhole_76 ?_
          refine g_iconst h dX6_readWhole_77 ?_
          refine g_icmp_le (tgt := 85) h dX6_readWhole_78 (by decide) (by first | assumption | exact ⟨by omega, by omega⟩) (by first | assumption | exact ⟨by omega, by omega⟩) (fun c78 => ?_) (fun c78 => ?_)
          · refine g_iconst h dX6_readWhole_85 ?_
            refine g_putI h flX6_90 rfl rfl (by assumption) dX6_readWhole_86 ?_
            refine g_vret h hQ (by first | decide | omega | (simp only [clS]; omega)) (by first | decide | omega | (simp only [clS]; omega)) ?_ dX6_readWhole_89
            first
            | (exfalso; omega)
            | (refine ⟨rfl, rfl, rfl, fun j hj => by simp only [upI_sR, sR_ne _ _ hj], ?_⟩
               simp only [upI_sR, sR_at]
               have e9 : wholeF T n p = (2, wvF T p k, p + k) := by
                 unfold wholeF
                 rw [hend]
                 refine Prod.ext ?_ (Prod.ext ?_ rfl)
                 · show (if p + 4 < p + k then (1 : Int) else 2) = 2
                   first | rw [if_pos (by omega)] | rw [if_neg (by omega)]
                 · show wvF T p (p + k - p) = _
                   congr 1
                   omega
               rw [e9]
               exact rowK_eq (by simp [uI]) (by simp [uI]) (by simp [uI]) (fun f h3 h4 h5 => by simp [uI, h3, h4, h5]))
          · refine g_iconst h dX6_readWhole_81 ?_
            refine g_goto (tgt := 86) h dX6_readWhole_82 (by decide) ?_
            refine g_putI h flX6_90 rfl rfl (by assumption) dX6_readWhole_86 ?_
            refine g_vret h hQ (by first | decide | omega | (simp only [clS]; omega)) (by first | decide | omega | (simp only [clS]; omega)) ?_ dX6_readWhole_89
            first
            | (exfalso; omega)
            | (refine ⟨rfl, rfl, rfl, fun j hj => by simp only [upI_sR, sR_ne _ _ hj], ?_⟩
               simp only [upI_sR, sR_at]
               have e9 : wholeF T n p = (1, wvF T p k, p + k) := by
                 unfold wholeF
                 rw [hend]
                 refine Prod.ext ?_ (Prod.ext ?_ rfl)
                 · show (if p + 4 < p + k then (1 : Int) else 2) = 1
                   first | rw [if_pos (by omega)] | rw [if_neg (by omega)]
                 · show wvF T p (p + k - p) = _
                   congr 1
                   omega
               rw [e9]
               exact rowK_eq (by simp [uI]) (by simp [uI]) (by simp [uI]) (fun f h3 h4 h5 => by simp [uI, h3, h4, h5]))
        · refine g_aload_n h dX6_readWhole_18 rfl ?_
          refine g_iload_n h dX6_readWhole_19 rfl ?_
          refine g_callV h rfl (ci := 6) [_] (by assumption) (c_X6_byteAt _ _ T n _ hcu ⟨by omega, by omega⟩) clX6_80 (by decide) rfl in_X6_byteAt se_X6_byteAt rfl rfl (by rw [hRm]; first | decide | (simp only [clS]; omega)) (by rw [hRm]; first | decide | (simp only [clS]; omega)) (fun _ => Nat.le_of_ble_eq_true rfl) (by rw [hRm]; first | decide | (simp only [clS]; omega)) (by rw [hRm]; first | decide | (simp only [clS]; omega)) dX6_readWhole_20 (fun r20 w20 hp20 => ?_)
          obtain ⟨rfl, hw20⟩ := hp20
          rw [hw20]
          rw [hbk]
          refine g_callS h rfl [_] (c_X6_isDigit _ _ _ ⟨by omega, by omega⟩) clX6_100 st_X6_isDigit rfl rfl (by rw [hRm]; first | decide | (simp only [clS]; omega)) (by rw [hRm]; first | decide | (simp only [clS]; omega)) (fun _ => Nat.le_of_ble_eq_true rfl) (by rw [hRm]; first | decide | (simp only [clS]; omega)) (by rw [hRm]; first | decide | (simp only [clS]; omega)) dX6_readWhole_23 (fun r23 w23 hp23 => ?_)
          obtain ⟨rfl, hw23⟩ := hp23
          rw [hw23]
          have hbw23 := ite01 (48 ≤ T (p + k) ∧ T (p + k) ≤ 57)
          refine g_if_eq (tgt := 65) h dX6_readWhole_26 (by decide) (by first | assumption | exact ⟨by omega, by omega⟩) (fun c26 => ?_) (fun c26 => ?_)
          · refine g_aload_n h dX6_readWhole_65 rfl ?_
            refine g_iload_n h dX6_readWhole_66 rfl ?_
            refine g_putI h flX6_31 rfl rfl (by assumption) dX6_readWhole_67 ?_
            refine g_aload_n h dX6_readWhole_70 rfl ?_
            refine g_iload_n h dX6_readWhole_71 rfl ?_
            refine g_aload_n h dX6_readWhole_72 rfl ?_
            refine g_getI h flX6_84 rfl (by assumption) dX6_readWhole_73 ?_
            rw [t2b]
            refine g_isub h dX6_readWhole_76 ?_
            refine g_iconst h dX6_readWhole_77 ?_
            refine g_icmp_le (tgt := 85) h dX6_readWhole_78 (by decide) (by first | assumption | exact ⟨by omega, by omega⟩) (by first | assumption | exact ⟨by omega, by omega⟩) (fun c78 => ?_) (fun c78 => ?_)
            · refine g_iconst h dX6_readWhole_85 ?_
              refine g_putI h flX6_90 rfl rfl (by assumption) dX6_readWhole_86 ?_
              refine g_vret h hQ (by first | decide | omega | (simp only [clS]; omega)) (by first | decide | omega | (simp only [clS]; omega)) ?_ dX6_readWhole_89
              first
              | (exfalso; omega)
              | (refine ⟨rfl, rfl, rfl, fun j hj => by simp only [upI_sR, sR_ne _ _ hj], ?_⟩
                 simp only [upI_sR, sR_at]
                 have e9 : wholeF T n p = (2, wvF T p k, p + k) := by
                   unfold wholeF
                   rw [hend]
                   refine Prod.ext ?_ (Prod.ext ?_ rfl)
                   · show (if p + 4 < p + k then (1 : Int) else 2) = 2
                     first | rw [if_pos (by omega)] | rw [if_neg (by omega)]
                   · show wvF T p (p + k - p) = _
                     congr 1
                     omega
                 rw [e9]
                 exact rowK_eq (by simp [uI]) (by simp [uI]) (by simp [uI]) (fun f h3 h4 h5 => by simp [uI, h3, h4, h5]))
            · refine g_iconst h dX6_readWhole_81 ?_
              refine g_goto (tgt := 86) h dX6_readWhole_82 (by decide) ?_
              refine g_putI h flX6_90 rfl rfl (by assumption) dX6_readWhole_86 ?_
              refine g_vret h hQ (by first | decide | omega | (simp only [clS]; omega)) (by first | decide | omega | (simp only [clS]; omega)) ?_ dX6_readWhole_89
              first
              | (exfalso; omega)
              | (refine ⟨rfl, rfl, rfl, fun j hj => by simp only [upI_sR, sR_ne _ _ hj], ?_⟩
                 simp only [upI_sR, sR_at]
                 have e9 : wholeF T n p = (1, wvF T p k, p + k) := by
                   unfold wholeF
                   rw [hend]
                   refine Prod.ext ?_ (Prod.ext ?_ rfl)
                   · show (if p + 4 < p + k then (1 : Int) else 2) = 1
                     first | rw [if_pos (by omega)] | rw [if_neg (by omega)]
                   · show wvF T p (p + k - p) = _
                     congr 1
                     omega
                 rw [e9]
                 exact rowK_eq (by simp [uI]) (by simp [uI]) (by simp [uI]) (fun f h3 h4 h5 => by simp [uI, h3, h4, h5]))
          · exfalso; omega
  refine g_aload_n h dX6_readWhole_0 rfl ?_
  refine g_iconst h dX6_readWhole_1 ?_
  refine g_putI h flX6_87 rfl rfl (by assumption) dX6_readWhole_2 ?_
  refine g_aload_n h dX6_readWhole_5 rfl ?_
  have t23 : (upI w 23 5 0).1 23 = (106, 0) := s23
  refine g_getI h flX6_84 rfl (by assumption) dX6_readWhole_6 ?_
  rw [show (upI w 23 5 0).2.1 23 2 = (p : Int) from h2]
  refine g_istore_n h dX6_readWhole_9 (Nat.le_of_ble_eq_true rfl) rfl rfl ?_
  exact loop (n - p) 0 (by omega) (fun j hj => by omega) rfl
