/-! ===== rules: what a code is worth ===== -/
def cJ (s a b : Int) : Int := if s = 43 then a + b else if s = 45 then a - b else if s = 60 then (if a < b then 1 else 0) else if s = 62 then (if b < a then 1 else 0) else if s = 61 then (if a = b then 1 else 0) else if s = 38 then (if a = 1 ∧ b = 1 then 1 else 0) else (if a = 1 ∨ b = 1 then 1 else 0)
def evS (nm : Nat → Int) (c : Int) (st : List Int) : List Int :=
  if c < 10000 then c :: st else if c < 20000 then nm (c - 10000).toNat :: st else if c = 20033 then (match st with | [] => [] | x :: t => (1 - x) :: t) else (match st with | b :: a :: t => cJ (c - 20000) a b :: t | u => u)
def evL (nm : Nat → Int) : List Int → List Int → List Int
  | [], st => st
  | c :: cs, st => evL nm cs (evS nm c st)
def tcS (c : Int) (ts : List Bool) : Option (List Bool) :=
  if 0 ≤ c ∧ c < 10009 then some (false :: ts)
  else if c = 20033 then (match ts with | true :: t => some (true :: t) | _ => none)
  else if c = 20043 ∨ c = 20045 then (match ts with | false :: false :: t => some (false :: t) | _ => none)
  else if c = 20060 ∨ c = 20061 ∨ c = 20062 then (match ts with | false :: false :: t => some (true :: t) | _ => none)
  else if c = 20038 ∨ c = 20124 then (match ts with | true :: true :: t => some (true :: t) | _ => none)
  else none
def tcL : List Int → List Bool → Option (List Bool)
  | [], ts => some ts
  | c :: cs, ts => match tcS c ts with | none => none | some u => tcL cs u
/-- how many terms -/
def tms : List Int → Nat
  | [] => 0
  | c :: cs => (if c < 20000 then 1 else 0) + tms cs
/-- a pile's values are of their types, no larger than their terms allow -/
def SV : List Bool → List Int → Nat → Prop
  | [], [], _ => True
  | t :: ts, v :: vs, k => ∃ m : Nat, 1 ≤ m ∧ m ≤ k ∧ (t = true → v = 0 ∨ v = 1) ∧ (t = false → -(100000 * (m : Int)) ≤ v ∧ v ≤ 100000 * (m : Int)) ∧ SV ts vs (k - m)
  | _, _, _ => False
theorem SV_mono : ∀ {ts : List Bool} {vs : List Int} {k k' : Nat}, SV ts vs k → k ≤ k' → SV ts vs k'
  | [], [], _, _, _, _ => trivial
  | t :: ts, v :: vs, k, k', ⟨m, h1, h2, h3, h4, h5⟩, h => ⟨m, h1, by omega, h3, h4, SV_mono h5 (by omega)⟩
  | [], _ :: _, _, _, h, _ => h.elim
  | _ :: _, [], _, _, h, _ => h.elim
theorem SV_len : ∀ {ts : List Bool} {vs : List Int} {k : Nat}, SV ts vs k → vs.length = ts.length ∧ ts.length ≤ k
  | [], [], _, _ => ⟨rfl, Nat.zero_le _⟩
  | t :: ts, v :: vs, k, ⟨m, h1, h2, h3, h4, h5⟩ => by
    have := SV_len h5
    simp only [List.length_cons]
    omega
  | [], _ :: _, _, h => h.elim
  | _ :: _, [], _, h => h.elim
theorem SV_t {ts : List Bool} {vs : List Int} {k : Nat} (h : SV (true :: ts) vs k) : ∃ (v : Int) (t : List Int) (m : Nat), vs = v :: t ∧ (v = 0 ∨ v = 1) ∧ 1 ≤ m ∧ m ≤ k ∧ SV ts t (k - m) := by
  cases vs with
  | nil => exact h.elim
  | cons v t =>
    obtain ⟨m, h1, h2, h3, h4, h5⟩ := h
    exact ⟨v, t, m, rfl, h3 rfl, h1, h2, h5⟩
theorem SV_f {ts : List Bool} {vs : List Int} {k : Nat} (h : SV (false :: ts) vs k) : ∃ (v : Int) (t : List Int) (m : Nat), vs = v :: t ∧ (-(100000 * (m : Int)) ≤ v ∧ v ≤ 100000 * (m : Int)) ∧ 1 ≤ m ∧ m ≤ k ∧ SV ts t (k - m) := by
  cases vs with
  | nil => exact h.elim
  | cons v t =>
    obtain ⟨m, h1, h2, h3, h4, h5⟩ := h
    exact ⟨v, t, m, rfl, h4 rfl, h1, h2, h5⟩
theorem tcS_inv {c : Int} {ts ts' : List Bool} (h : tcS c ts = some ts') : (0 ≤ c ∧ c < 10009 ∧ ts' = false :: ts) ∨ (c = 20033 ∧ ∃ t, ts = true :: t ∧ ts' = true :: t) ∨ ((c = 20043 ∨ c = 20045) ∧ ∃ t, ts = false :: false :: t ∧ ts' = false :: t) ∨
    ((c = 20060 ∨ c = 20061 ∨ c = 20062) ∧ ∃ t, ts = false :: false :: t ∧ ts' = true :: t) ∨ ((c = 20038 ∨ c = 20124) ∧ ∃ t, ts = true :: true :: t ∧ ts' = true :: t) := by
  unfold tcS at h
  split at h
  · rename_i q
    cases h
    exact Or.inl ⟨q.1, q.2, rfl⟩
  · split at h
    · rename_i q
      split at h
      · cases h
        exact Or.inr (Or.inl ⟨q, _, rfl, rfl⟩)
      · cases h
    · split at h
      · rename_i q
        split at h
        · cases h
          exact Or.inr (Or.inr (Or.inl ⟨q, _, rfl, rfl⟩))
        · cases h
      · split at h
        · rename_i q
          split at h
          · cases h
            exact Or.inr (Or.inr (Or.inr (Or.inl ⟨q, _, rfl, rfl⟩)))
          · cases h
        · split at h
          · rename_i q
            split at h
            · cases h
              exact Or.inr (Or.inr (Or.inr (Or.inr ⟨q, _, rfl, rfl⟩)))
            · cases h
          · cases h
theorem evS_2 {nm : Nat → Int} {c b a : Int} {t : List Int} (h : 20000 ≤ c) (h2 : c ≠ 20033) : evS nm c (b :: a :: t) = cJ (c - 20000) a b :: t := by
  unfold evS
  rw [if_neg (by omega), if_neg (by omega), if_neg h2]
theorem evS_n {nm : Nat → Int} {x : Int} {t : List Int} : evS nm 20033 (x :: t) = (1 - x) :: t := rfl
theorem cJ_01 {s a b : Int} (h : s ≠ 43) (h2 : s ≠ 45) : cJ s a b = 0 ∨ cJ s a b = 1 := by
  unfold cJ
  rw [if_neg h, if_neg h2]
  repeat (first | exact Or.inl rfl | exact Or.inr rfl | split)
theorem SV_step {nm : Nat → Int} (hnm : ∀ i, i < 9 → -100000 ≤ nm i ∧ nm i ≤ 100000) {c : Int} {ts ts' : List Bool} {vs : List Int} {k : Nat} (h : tcS c ts = some ts') (hs : SV ts vs k) : SV ts' (evS nm c vs) (k + if c < 20000 then 1 else 0) := by
  rcases tcS_inv h with ⟨h0, h1, rfl⟩ | ⟨rfl, t, rfl, rfl⟩ | ⟨hc, t, rfl, rfl⟩ | ⟨hc, t, rfl, rfl⟩ | ⟨hc, t, rfl, rfl⟩
  · rw [if_pos (by omega)]
    by_cases q : c < 10000
    · have e : evS nm c vs = c :: vs := by unfold evS; rw [if_pos q]
      rw [e]
      exact ⟨1, by omega, by omega, fun z => (by cases z), fun _ => ⟨by omega, by omega⟩, SV_mono hs (by omega)⟩
    · have e : evS nm c vs = nm (c - 10000).toNat :: vs := by unfold evS; rw [if_neg q, if_pos (by omega)]
      rw [e]
      have := hnm (c - 10000).toNat (by omega)
      exact ⟨1, by omega, by omega, fun z => (by cases z), fun _ => ⟨by omega, by omega⟩, SV_mono hs (by omega)⟩
  · obtain ⟨v, u, m, rfl, hv, h1, h2, h3⟩ := SV_t hs
    rw [if_neg (by omega)]
    exact ⟨m, h1, h2, fun _ => by omega, fun z => (by cases z), h3⟩
  · obtain ⟨b, u, m, rfl, hb, h1, h2, h3⟩ := SV_f hs
    obtain ⟨a, u2, m2, rfl, ha, h4, h5, h6⟩ := SV_f h3
    rw [if_neg (by omega), evS_2 (by omega) (by omega)]
    refine ⟨m + m2, by omega, by omega, fun z => (by cases z), fun _ => ?_, SV_mono h6 (by omega)⟩
    rcases hc with rfl | rfl
    · show -(100000 * ((m + m2 : Nat) : Int)) ≤ a + b ∧ a + b ≤ _
      omega
    · show -(100000 * ((m + m2 : Nat) : Int)) ≤ a - b ∧ a - b ≤ _
      omega
  · obtain ⟨b, u, m, rfl, hb, h1, h2, h3⟩ := SV_f hs
    obtain ⟨a, u2, m2, rfl, ha, h4, h5, h6⟩ := SV_f h3
    rw [if_neg (by omega), evS_2 (by omega) (by omega)]
    exact ⟨m + m2, by omega, by omega, fun _ => cJ_01 (by omega) (by omega), fun z => (by cases z), SV_mono h6 (by omega)⟩
  · obtain ⟨b, u, m, rfl, hb, h1, h2, h3⟩ := SV_t hs
    obtain ⟨a, u2, m2, rfl, ha, h4, h5, h6⟩ := SV_t h3
    rw [if_neg (by omega), evS_2 (by omega) (by omega)]
    exact ⟨m + m2, by omega, by omega, fun _ => cJ_01 (by omega) (by omega), fun z => (by cases z), SV_mono h6 (by omega)⟩
/-- a pile on a row: the last pushed is the highest -/
def SR (row : Nat → Int) : List Int → Prop
  | [] => True
  | v :: t => row t.length = v ∧ SR row t
theorem SR_up {row : Nat → Int} {k : Nat} {v : Int} : ∀ {t : List Int}, SR row t → t.length ≤ k → SR (uI row k v) t
  | [], _, _ => trivial
  | x :: t, ⟨h1, h2⟩, h => by
    simp only [List.length_cons] at h
    exact ⟨(if_neg (by omega)).trans h1, SR_up h2 (by omega)⟩
theorem SR_push {row : Nat → Int} {v : Int} {t : List Int} (h : SR row t) : SR (uI row t.length v) (v :: t) := ⟨if_pos rfl, SR_up h (Nat.le_refl _)⟩
theorem dropC {l : List Int} {i : Nat} {c : Int} {r : List Int} (h : l.drop i = c :: r) : i < l.length ∧ l.getD i 0 = c ∧ l.drop (i + 1) = r := by
  have hi : i < l.length := Nat.not_le.mp fun q => by rw [List.drop_eq_nil_of_le q] at h; cases h
  rw [List.drop_eq_getElem_cons hi] at h
  injection h with h1 h2
  refine ⟨hi, ?_, h2⟩
  rw [List.getD_eq_getElem?_getD, List.getElem?_eq_getElem hi]
  exact h1
/-- ints of one place alone may differ -/
def F1 (k : Nat) (w w' : AW) : Prop := w'.1 = w.1 ∧ w'.2.2 = w.2.2 ∧ ∀ j, j ≠ k → w'.2.1 j = w.2.1 j
/-- a rule's cells: its place p, its code's place cp, the code -/
def RU (w : AW) (p cp : Nat) (cl : List Int) : Prop := w.1 p = (104, 0) ∧ w.2.2 p 1 = some cp ∧ w.1 cp = (1, cl.length) ∧ cl.length ≤ 300 ∧ (∀ i, i < cl.length → w.2.1 cp i = cl.getD i 0 ∧ 0 ≤ cl.getD i 0 ∧ cl.getD i 0 < 30000) ∧ 0 ≤ w.2.1 p 0 ∧ w.2.1 p 0 < 4
def hnF (cl : List Int) (x : Int) : Nat → Bool
  | 0 => false
  | i + 1 => hnF cl x i || decide (cl.getD i 0 = x)
theorem hnF_mono {cl : List Int} {x : Int} {i : Nat} (h : hnF cl x i = true) : ∀ n, i ≤ n → hnF cl x n = true
  | 0, q => by obtain rfl : i = 0 := by omega
               exact h
  | n + 1, q => by
    by_cases e : i = n + 1
    · subst e; exact h
    · show (hnF cl x n || _) = true
      rw [hnF_mono h n (by omega)]
      rfl
set_option maxRecDepth 100000 in
set_option maxHeartbeats 4000000 in
theorem c_X4_worth (l : Launch) (w : AW) (c : Int) (hc : R32 c) (hn : w.1 26 = (1, 9)) : HT l yX4_worth cX4_worth 3 (some .int) 1 0 0 w [ai c, ar 26] (rI (if c < 10000 then c else if c - 10000 < 9 then w.2.1 26 (c - 10000).toNat else 0) w) := by
  refine HT.of (by decide) (by intro v hv; simp only [List.mem_cons, List.not_mem_nil, or_false] at hv; rcases hv with rfl | rfl <;> rfl) (Nat.le_of_ble_eq_true rfl) ?_
  intro Γ h hQ hRm hnm hl hw0
  refine g_iload_n h dX4_worth_0 rfl ?_
  refine g_sipush h dX4_worth_1 rfl ?_
  refine g_icmp_ge (tgt := 9) h dX4_worth_4 (by decide) (by first | assumption | exact ⟨by omega, by omega⟩) (by first | assumption | exact ⟨by omega, by omega⟩) (fun c4 => ?_) (fun c4 => ?_)
  · refine g_iload_n h dX4_worth_9 rfl ?_
    refine g_sipush h dX4_worth_10 rfl ?_
    refine g_isub h dX4_worth_13 ?_
    refine g_istore_n h dX4_worth_14 (Nat.le_of_ble_eq_true rfl) rfl rfl ?_
    refine g_iload_n h dX4_worth_15 rfl ?_
    refine g_aload_n h dX4_worth_16 rfl ?_
    refine g_alen h (by assumption) (by unfold arK; omega) dX4_worth_17 ?_
    refine g_icmp_ge (tgt := 27) h dX4_worth_18 (by decide) (by first | assumption | exact ⟨by omega, by omega⟩) (by first | assumption | exact ⟨by omega, by omega⟩) (fun c18 => ?_) (fun c18 => ?_)
    · refine g_iconst h dX4_worth_27 ?_
      refine g_iret h hQ (by first | decide | omega | (simp only [clS]; omega)) (by first | decide | omega | (simp only [clS]; omega)) ?_ dX4_worth_28
      exact ⟨by repeat first | rw [if_pos (by omega)] | rw [if_neg (by omega)], rfl⟩
    · refine g_aload_n h dX4_worth_21 rfl ?_
      refine g_iload_n h dX4_worth_22 rfl ?_
      refine g_iald h ((c - 10000).toNat) (by assumption) (by first | omega | assumption) (by first | omega | assumption) (by first | decide | omega) dX4_worth_23 ?_
      refine g_goto (tgt := 28) h dX4_worth_24 (by decide) ?_
      refine g_iret h hQ (by first | decide | omega | (simp only [clS]; omega)) (by first | decide | omega | (simp only [clS]; omega)) ?_ dX4_worth_28
      exact ⟨by repeat first | rw [if_pos (by omega)] | rw [if_neg (by omega)], rfl⟩
  · refine g_iload_n h dX4_worth_7 rfl ?_
    refine g_iret h hQ (by first | decide | omega | (simp only [clS]; omega)) (by first | decide | omega | (simp only [clS]; omega)) ?_ dX4_worth_8
    exact ⟨by repeat first | rw [if_pos (by omega)] | rw [if_neg (by omega)], rfl⟩
set_option maxRecDepth 100000 in
set_option maxHeartbeats 4000000 in
theorem c_X4_joined (l : Launch) (w : AW) (s a b : Int) (hs : s = 43 ∨ s = 45 ∨ s = 60 ∨ s = 61 ∨ s = 62 ∨ s = 38 ∨ s = 124) (ha : -10000000 ≤ a ∧ a ≤ 10000000) (hb : -10000000 ≤ b ∧ b ≤ 10000000) (h01 : s = 38 ∨ s = 124 → (a = 0 ∨ a = 1) ∧ (b = 0 ∨ b = 1)) : HT l yX4_joined cX4_joined 3 (some .int) 1 0 0 w [ai s, ai a, ai b] (rI (cJ s a b) w) := by
  refine HT.of (by decide) (by intro v hv; simp only [List.mem_cons, List.not_mem_nil, or_false] at hv; rcases hv with rfl | rfl | rfl <;> rfl) (Nat.le_of_ble_eq_true rfl) ?_
  intro Γ h hQ hRm hnm hl hw0
  refine g_iload_n h dX4_joined_0 rfl ?_
  rcases (show s = 38 ∨ s = 43 ∨ s = 45 ∨ s = 60 ∨ s = 61 ∨ s = 62 ∨ (s ≠ 38 ∧ s ≠ 43 ∧ s ≠ 45 ∧ s ≠ 60 ∧ s ≠ 61 ∧ s ≠ 62) by omega) with c1 | c1 | c1 | c1 | c1 | c1 | c1
  · refine g_lookup (tgt := 101) (off := 100) h (by first | assumption | exact ⟨by omega, by omega⟩) (by decide) (by rw [c1]; decide) (by decide) dX4_joined_1 ?_
    refine g_iload_n h dX4_joined_101 rfl ?_
    refine g_iload_n h dX4_joined_102 rfl ?_
    refine g_iand h (v := if a = 1 ∧ b = 1 then 1 else 0) ((by rcases h01 (Or.inl c1) with ⟨rfl | rfl, rfl | rfl⟩ <;> decide)) dX4_joined_103 ?_
    refine g_iret h hQ (by first | decide | omega | (simp only [clS]; omega)) (by first | decide | omega | (simp only [clS]; omega)) ?_ dX4_joined_104
    exact ⟨by subst c1; rfl, rfl⟩
  · refine g_lookup (tgt := 60) (off := 59) h (by first | assumption | exact ⟨by omega, by omega⟩) (by decide) (by rw [c1]; decide) (by decide) dX4_joined_1 ?_
    refine g_iload_n h dX4_joined_60 rfl ?_
    refine g_iload_n h dX4_joined_61 rfl ?_
    refine g_iadd h dX4_joined_62 ?_
    refine g_iret h hQ (by first | decide | omega | (simp only [clS]; omega)) (by first | decide | omega | (simp only [clS]; omega)) ?_ dX4_joined_63
    exact ⟨by subst c1; rfl, rfl⟩
  · refine g_lookup (tgt := 64) (off := 63) h (by first | assumption | exact ⟨by omega, by omega⟩) (by decide) (by rw [c1]; decide) (by decide) dX4_joined_1 ?_
    refine g_iload_n h dX4_joined_64 rfl ?_
    refine g_iload_n h dX4_joined_65 rfl ?_
    refine g_isub h dX4_joined_66 ?_
    refine g_iret h hQ (by first | decide | omega | (simp only [clS]; omega)) (by first | decide | omega | (simp only [clS]; omega)) ?_ dX4_joined_67
    exact ⟨by subst c1; rfl, rfl⟩
  · refine g_lookup (tgt := 68) (off := 67) h (by first | assumption | exact ⟨by omega, by omega⟩) (by decide) (by rw [c1]; decide) (by decide) dX4_joined_1 ?_
    refine g_iload_n h dX4_joined_68 rfl ?_
    refine g_iload_n h dX4_joined_69 rfl ?_
    refine g_icmp_ge (tgt := 77) h dX4_joined_70 (by decide) (by first | assumption | exact ⟨by omega, by omega⟩) (by first | assumption | exact ⟨by omega, by omega⟩) (fun c70 => ?_) (fun c70 => ?_)
    · refine g_iconst h dX4_joined_77 ?_
      refine g_iret h hQ (by first | decide | omega | (simp only [clS]; omega)) (by first | decide | omega | (simp only [clS]; omega)) ?_ dX4_joined_78
      refine ⟨?_, rfl⟩
      subst c1
      show _ = some (ai (if a < b then 1 else 0))
      first | rw [if_pos (by omega)] | rw [if_neg (by omega)]
    · refine g_iconst h dX4_joined_73 ?_
      refine g_goto (tgt := 78) h dX4_joined_74 (by decide) ?_
      refine g_iret h hQ (by first | decide | omega | (simp only [clS]; omega)) (by first | decide | omega | (simp only [clS]; omega)) ?_ dX4_joined_78
      refine ⟨?_, rfl⟩
      subst c1
      show _ = some (ai (if a < b then 1 else 0))
      first | rw [if_pos (by omega)] | rw [if_neg (by omega)]
  · refine g_lookup (tgt := 90) (off := 89) h (by first | assumption | exact ⟨by omega, by omega⟩) (by decide) (by rw [c1]; decide) (by decide) dX4_joined_1 ?_
    refine g_iload_n h dX4_joined_90 rfl ?_
    refine g_iload_n h dX4_joined_91 rfl ?_
    refine g_icmp_ne (tgt := 99) h dX4_joined_92 (by decide) (by first | assumption | exact ⟨by omega, by omega⟩) (by first | assumption | exact ⟨by omega, by omega⟩) (fun c92 => ?_) (fun c92 => ?_)
    · refine g_iconst h dX4_joined_99 ?_
      refine g_iret h hQ (by first | decide | omega | (simp only [clS]; omega)) (by first | decide | omega | (simp only [clS]; omega)) ?_ dX4_joined_100
      refine ⟨?_, rfl⟩
      subst c1
      show _ = some (ai (if a = b then 1 else 0))
      first | rw [if_pos (by omega)] | rw [if_neg (by omega)]
    · refine g_iconst h dX4_joined_95 ?_
      refine g_goto (tgt := 100) h dX4_joined_96 (by decide) ?_
      refine g_iret h hQ (by first | decide | omega | (simp only [clS]; omega)) (by first | decide | omega | (simp only [clS]; omega)) ?_ dX4_joined_100
      refine ⟨?_, rfl⟩
      subst c1
      show _ = some (ai (if a = b then 1 else 0))
      first | rw [if_pos (by omega)] | rw [if_neg (by omega)]
  · refine g_lookup (tgt := 79) (off := 78) h (by first | assumption | exact ⟨by omega, by omega⟩) (by decide) (by rw [c1]; decide) (by decide) dX4_joined_1 ?_
    refine g_iload_n h dX4_joined_79 rfl ?_
    refine g_iload_n h dX4_joined_80 rfl ?_
    refine g_icmp_le (tgt := 88) h dX4_joined_81 (by decide) (by first | assumption | exact ⟨by omega, by omega⟩) (by first | assumption | exact ⟨by omega, by omega⟩) (fun c81 => ?_) (fun c81 => ?_)
    · refine g_iconst h dX4_joined_88 ?_
      refine g_iret h hQ (by first | decide | omega | (simp only [clS]; omega)) (by first | decide | omega | (simp only [clS]; omega)) ?_ dX4_joined_89
      refine ⟨?_, rfl⟩
      subst c1
      show _ = some (ai (if b < a then 1 else 0))
      first | rw [if_pos (by omega)] | rw [if_neg (by omega)]
    · refine g_iconst h dX4_joined_84 ?_
      refine g_goto (tgt := 89) h dX4_joined_85 (by decide) ?_
      refine g_iret h hQ (by first | decide | omega | (simp only [clS]; omega)) (by first | decide | omega | (simp only [clS]; omega)) ?_ dX4_joined_89
      refine ⟨?_, rfl⟩
      subst c1
      show _ = some (ai (if b < a then 1 else 0))
      first | rw [if_pos (by omega)] | rw [if_neg (by omega)]
  · refine g_lookup (tgt := 105) (off := 104) h (by first | assumption | exact ⟨by omega, by omega⟩) (by decide) (by obtain ⟨k0, k1, k2, k3, k4, k5⟩ := c1; simp [Op.lookupswitch.offset, Ne.symm k0, Ne.symm k1, Ne.symm k2, Ne.symm k3, Ne.symm k4, Ne.symm k5]) (by decide) dX4_joined_1 ?_
    refine g_iload_n h dX4_joined_105 rfl ?_
    refine g_iload_n h dX4_joined_106 rfl ?_
    refine g_ior h (v := if a = 1 ∨ b = 1 then 1 else 0) ((by rcases h01 (Or.inr (by omega)) with ⟨rfl | rfl, rfl | rfl⟩ <;> decide)) dX4_joined_107 ?_
    refine g_iret h hQ (by first | decide | omega | (simp only [clS]; omega)) (by first | decide | omega | (simp only [clS]; omega)) ?_ dX4_joined_108
    refine ⟨?_, rfl⟩
    obtain rfl : s = 124 := by omega
    rfl
set_option maxRecDepth 100000 in
set_option maxHeartbeats 4000000 in
theorem c_X4_join (l : Launch) (w : AW) (nm : Nat → Int) (s : Int) (k tp : Nat) (ts ts2 : List Bool) (st : List Int) (hn : w.1 27 = (1, 31)) (hs0 : 0 ≤ s) (hsr : SR (w.2.1 27) st) (htc : tcS (20000 + s) ts = some ts2) (hsv : SV ts st k) (hk : k ≤ 31) (htp : tp = st.length) : HT l yX4_join cX4_join 3 (some .int) 2 0 0 w [ai s, ar 27, ai (tp : Int)] (fun r w' => r = some (ai ((evS nm (20000 + s) st).length : Int)) ∧ F1 27 w w' ∧ SR (w'.2.1 27) (evS nm (20000 + s) st)) := by
  refine HT.of (by decide) (by intro v hv; simp only [List.mem_cons, List.not_mem_nil, or_false] at hv; rcases hv with rfl | rfl | rfl <;> rfl) (Nat.le_of_ble_eq_true rfl) ?_
  intro Γ h hQ hRm hnm hl hw0
  have hln := SV_len hsv
  rcases tcS_inv htc with ⟨q0, q1, -⟩ | ⟨hc, t, rfl, rfl⟩ | hrest
  · omega
  · obtain rfl : s = 33 := by omega
    obtain ⟨v, u, m, rfl, hv, h1, h2, h3⟩ := SV_t hsv
    obtain ⟨hr1, hr2⟩ := hsr
    simp only [List.length_cons] at htp hln
    subst htp
    refine g_iload_n h dX4_join_0 rfl ?_
    refine g_aload_n h dX4_join_1 rfl ?_
    refine g_alen h (by assumption) (by unfold arK; omega) dX4_join_2 ?_
    refine g_icmp_gt (tgt := 11) h dX4_join_3 (by decide) (by first | assumption | exact ⟨by omega, by omega⟩) (by first | assumption | exact ⟨by omega, by omega⟩) (fun c3 => absurd c3 (by omega)) (fun _ => ?_)
    refine g_iload_n h dX4_join_6 rfl ?_
    refine g_iconst h dX4_join_7 ?_
    refine g_icmp_ge (tgt := 13) h dX4_join_8 (by decide) (by first | assumption | exact ⟨by omega, by omega⟩) (by first | assumption | exact ⟨by omega, by omega⟩) (fun c8 => ?_) (fun c8 => absurd c8 (by omega))
    refine g_iload_n h dX4_join_13 rfl ?_
    refine g_bipush h dX4_join_14 rfl ?_
    refine g_icmp_ne (tgt := 33) h dX4_join_16 (by decide) ⟨by decide, by decide⟩ ⟨by decide, by decide⟩ (fun c => absurd rfl c) (fun _ => ?_)
    refine g_aload_n h dX4_join_19 rfl ?_
    refine g_iload_n h dX4_join_20 rfl ?_
    refine g_iconst h dX4_join_21 ?_
    refine g_isub h dX4_join_22 ?_
    refine g_iconst h dX4_join_23 ?_
    refine g_aload_n h dX4_join_24 rfl ?_
    refine g_iload_n h dX4_join_25 rfl ?_
    refine g_iconst h dX4_join_26 ?_
    refine g_isub h dX4_join_27 ?_
    refine g_iald h (u.length) (by assumption) (by first | omega | assumption) (by first | omega | assumption) (by first | decide | omega) dX4_join_28 ?_
    rw [hr1]
    refine g_isub h dX4_join_29 ?_
    refine g_iast h (u.length) (by assumption) (by first | omega | assumption) (by first | omega | assumption) (by first | decide | omega) dX4_join_30 ?_
    refine g_iload_n h dX4_join_31 rfl ?_
    refine g_iret h hQ (by first | decide | omega | (simp only [clS]; omega)) (by first | decide | omega | (simp only [clS]; omega)) ?_ dX4_join_32
    exact ⟨rfl, ⟨rfl, rfl, fun j hj => if_neg hj⟩, by rw [upI_at]; exact SR_push hr2⟩
  · have hs7 : s = 43 ∨ s = 45 ∨ s = 60 ∨ s = 61 ∨ s = 62 ∨ s = 38 ∨ s = 124 := by
      rcases hrest with ⟨q, -⟩ | ⟨q, -⟩ | ⟨q, -⟩ <;> omega
    have hst : ∃ b a u, st = b :: a :: u ∧ (-10000000 ≤ a ∧ a ≤ 10000000) ∧ (-10000000 ≤ b ∧ b ≤ 10000000) ∧ (s = 38 ∨ s = 124 → (a = 0 ∨ a = 1) ∧ (b = 0 ∨ b = 1)) := by
      rcases hrest with ⟨hc, t, rfl, -⟩ | ⟨hc, t, rfl, -⟩ | ⟨hc, t, rfl, -⟩
      · obtain ⟨b, u, m, rfl, hb, h1, h2, h3⟩ := SV_f hsv
        obtain ⟨a, u2, m2, rfl, ha, h4, h5, h6⟩ := SV_f h3
        exact ⟨b, a, u2, rfl, by omega, by omega, fun q => by omega⟩
      · obtain ⟨b, u, m, rfl, hb, h1, h2, h3⟩ := SV_f hsv
        obtain ⟨a, u2, m2, rfl, ha, h4, h5, h6⟩ := SV_f h3
        exact ⟨b, a, u2, rfl, by omega, by omega, fun q => by omega⟩
      · obtain ⟨b, u, m, rfl, hb, h1, h2, h3⟩ := SV_t hsv
        obtain ⟨a, u2, m2, rfl, ha, h4, h5, h6⟩ := SV_t h3
        exact ⟨b, a, u2, rfl, by omega, by omega, fun q => ⟨ha, hb⟩⟩
    obtain ⟨b, a, u, rfl, ha, hb, h01⟩ := hst
    obtain ⟨hr1, hr2, hr3⟩ := hsr
    simp only [List.length_cons] at htp hln hr1
    have hr1' : w.2.1 27 (u.length + 1) = b := hr1
    subst htp
    rw [evS_2 (by omega) (by omega), show 20000 + s - 20000 = s by omega] at hQ
    refine g_iload_n h dX4_join_0 rfl ?_
    refine g_aload_n h dX4_join_1 rfl ?_
    refine g_alen h (by assumption) (by unfold arK; omega) dX4_join_2 ?_
    refine g_icmp_gt (tgt := 11) h dX4_join_3 (by decide) (by first | assumption | exact ⟨by omega, by omega⟩) (by first | assumption | exact ⟨by omega, by omega⟩) (fun c3 => absurd c3 (by omega)) (fun _ => ?_)
    refine g_iload_n h dX4_join_6 rfl ?_
    refine g_iconst h dX4_join_7 ?_
    refine g_icmp_ge (tgt := 13) h dX4_join_8 (by decide) (by first | assumption | exact ⟨by omega, by omega⟩) (by first | assumption | exact ⟨by omega, by omega⟩) (fun c8 => ?_) (fun c8 => absurd c8 (by omega))
    refine g_iload_n h dX4_join_13 rfl ?_
    refine g_bipush h dX4_join_14 rfl ?_
    refine g_icmp_ne (tgt := 33) h dX4_join_16 (by decide) ⟨by omega, by omega⟩ ⟨by decide, by decide⟩ (fun _ => ?_) (fun c => absurd c (by omega))
    refine g_iload_n h dX4_join_33 rfl ?_
    refine g_iconst h dX4_join_34 ?_
    refine g_icmp_ge (tgt := 40) h dX4_join_35 (by decide) (by first | assumption | exact ⟨by omega, by omega⟩) (by first | assumption | exact ⟨by omega, by omega⟩) (fun c8 => ?_) (fun c8 => absurd c8 (by omega))
    refine g_aload_n h dX4_join_40 rfl ?_
    refine g_iload_n h dX4_join_41 rfl ?_
    refine g_iconst h dX4_join_42 ?_
    refine g_isub h dX4_join_43 ?_
    refine g_iload_n h dX4_join_44 rfl ?_
    refine g_aload_n h dX4_join_45 rfl ?_
    refine g_iload_n h dX4_join_46 rfl ?_
    refine g_iconst h dX4_join_47 ?_
    refine g_isub h dX4_join_48 ?_
    refine g_iald h (u.length) (by assumption) (by first | omega | assumption) (by first | omega | assumption) (by first | decide | omega) dX4_join_49 ?_
    rw [hr2]
    refine g_aload_n h dX4_join_50 rfl ?_
    refine g_iload_n h dX4_join_51 rfl ?_
    refine g_iconst h dX4_join_52 ?_
    refine g_isub h dX4_join_53 ?_
    refine g_iald h (u.length + 1) (by assumption) (by first | omega | assumption) (by first | omega | assumption) (by first | decide | omega) dX4_join_54 ?_
    rw [hr1']
    refine g_callS h rfl [_, _, _] (c_X4_joined _ _ s a b hs7 ha hb h01) clX4_27 st_X4_joined rfl rfl (by rw [hRm]; first | decide | (simp only [clS]; omega)) (by rw [hRm]; first | decide | (simp only [clS]; omega)) (fun _ => Nat.le_of_ble_eq_true rfl) (by rw [hRm]; first | decide | (simp only [clS]; omega)) (by rw [hRm]; first | decide | (simp only [clS]; omega)) dX4_join_55 (fun r55 w55 hp55 => ?_)
    obtain ⟨rfl, hw55⟩ := hp55
    rw [hw55]
    refine g_iast h (u.length) (by assumption) (by first | omega | assumption) (by first | omega | assumption) (by first | decide | omega) dX4_join_58 ?_
    refine g_iload_n h dX4_join_59 rfl ?_
    refine g_iconst h dX4_join_60 ?_
    refine g_isub h dX4_join_61 ?_
    refine g_iret h hQ (by first | decide | omega | (simp only [clS]; omega)) (by first | decide | omega | (simp only [clS]; omega)) ?_ dX4_join_62
    exact ⟨by rw [List.length_cons]; congr 3; omega, ⟨rfl, rfl, fun j hj => if_neg hj⟩, by rw [upI_at]; exact SR_push hr3⟩
set_option maxRecDepth 100000 in
set_option maxHeartbeats 4000000 in
theorem c_X4_hasName (l : Launch) (w : AW) (p cp : Nat) (cl : List Int) (a : Int) (hR : RU w p cp cl) (ha : 0 ≤ a) (ha2 : a < 9) : HT l yX4_hasName cX4_hasName 3 (some .boolean) 1 0 0 w [ar p, ai a] (rI (if hnF cl (10000 + a) cl.length = true then 1 else 0) w) := by
  refine HT.of (by decide) (by intro v hv; simp only [List.mem_cons, List.not_mem_nil, or_false] at hv; rcases hv with rfl | rfl <;> rfl) (Nat.le_of_ble_eq_true rfl) ?_
  intro Γ h hQ hRm hnm hl hw0
  obtain ⟨r1, r2, r3, r4, r5, -⟩ := id hR
  have loop : ∀ (d i : Nat), i + d = cl.length → hnF cl (10000 + a) i = false → GG Γ 2 [some (ar p), some (ai a), some (ai (i : Int))] [] w 0 0 := by
    intro d
    induction d with
    | zero =>
      intro i hi hf
      obtain rfl : i = cl.length := by omega
      refine g_iload_n h dX4_hasName_2 rfl ?_
      refine g_aload_n h dX4_hasName_3 rfl ?_
      refine g_getQ h flX4_15 rfl (by assumption) (by assumption) dX4_hasName_4 ?_
      refine g_alen h (by assumption) (by unfold arK; omega) dX4_hasName_7 ?_
      refine g_icmp_ge (tgt := 33) h dX4_hasName_8 (by decide) (by first | assumption | exact ⟨by omega, by omega⟩) (by first | assumption | exact ⟨by omega, by omega⟩) (fun c8 => ?_) (fun c8 => ?_)
      · refine g_iconst h dX4_hasName_33 ?_
        refine g_zret h hQ (by first | decide | omega | (simp only [clS]; omega)) (by first | decide | omega | (simp only [clS]; omega)) (by omega) ?_ dX4_hasName_34
        exact ⟨by rw [hf]; rfl, rfl⟩
      · exfalso; omega
    | succ d ih =>
      intro i hi hf
      obtain ⟨q1, q2, q3⟩ := r5 i (by omega)
      refine g_iload_n h dX4_hasName_2 rfl ?_
      refine g_aload_n h dX4_hasName_3 rfl ?_
      refine g_getQ h flX4_15 rfl (by assumption) (by assumption) dX4_hasName_4 ?_
      refine g_alen h (by assumption) (by unfold arK; omega) dX4_hasName_7 ?_
      refine g_icmp_ge (tgt := 33) h dX4_hasName_8 (by decide) (by first | assumption | exact ⟨by omega, by omega⟩) (by first | assumption | exact ⟨by omega, by omega⟩) (fun c8 => ?_) (fun c8 => ?_)
      · exfalso; omega
      · refine g_aload_n h dX4_hasName_11 rfl ?_
        refine g_getQ h flX4_15 rfl (by assumption) (by assumption) dX4_hasName_12 ?_
        refine g_iload_n h dX4_hasName_15 rfl ?_
        refine g_iald h (i) (by assumption) (by first | omega | assumption) (by first | omega | assumption) (by first | decide | omega) dX4_hasName_16 ?_
        rw [q1]
        refine g_sipush h dX4_hasName_17 rfl ?_
        refine g_iload_n h dX4_hasName_20 rfl ?_
        refine g_iadd h dX4_hasName_21 ?_
        refine g_icmp_ne (tgt := 27) h dX4_hasName_22 (by decide) (by first | assumption | exact ⟨by omega, by omega⟩) (by first | assumption | exact ⟨by omega, by omega⟩) (fun c22 => ?_) (fun c22 => ?_)
        · refine g_iinc h dX4_hasName_27 rfl (Nat.le_of_ble_eq_true rfl) rfl rfl ?_
          refine g_goto (tgt := 2) h dX4_hasName_30 (by decide) ?_
          exact ih (i + 1) (by omega) (by show (hnF cl (10000 + a) i || _) = false; rw [hf, decide_eq_false (by omega)]; rfl)
        · refine g_iconst h dX4_hasName_25 ?_
          refine g_zret h hQ (by first | decide | omega | (simp only [clS]; omega)) (by first | decide | omega | (simp only [clS]; omega)) (by omega) ?_ dX4_hasName_26
          have e : hnF cl (10000 + a) cl.length = true := hnF_mono (i := i + 1) (by show (hnF cl (10000 + a) i || _) = true; rw [decide_eq_true (by omega)]; exact Bool.or_true _) _ (by omega)
          exact ⟨by rw [if_pos e], rfl⟩
  refine g_iconst h dX4_hasName_0 ?_
  refine g_istore_n h dX4_hasName_1 (Nat.le_of_ble_eq_true rfl) rfl rfl ?_
  exact loop cl.length 0 (by omega) rfl
set_option maxRecDepth 100000 in
set_option maxHeartbeats 4000000 in
theorem c_X4_holds (l : Launch) (w : AW) (p cp : Nat) (cl : List Int) (hR : RU w p cp cl) (hcp : cp ≠ 27) (hn : w.1 26 = (1, 9)) (hst : w.1 27 = (1, 31)) (hnb : ∀ i, i < 9 → -100000 ≤ w.2.1 26 i ∧ w.2.1 26 i ≤ 100000) (htc : tcL cl [] = some [true]) (htm : tms cl ≤ 30) : HT l yX4_holds cX4_holds 5 (some .boolean) 3 0 0 w [ar p, ar 26, ar 27] (fun r w' => r = some (ai (if evL (w.2.1 26) cl [] = [1] then 1 else 0)) ∧ F1 27 w w') := by
  refine HT.of (by decide) (by intro v hv; simp only [List.mem_cons, List.not_mem_nil, or_false] at hv; rcases hv with rfl | rfl | rfl <;> rfl) (Nat.le_of_ble_eq_true rfl) ?_
  intro Γ h hQ hRm hnm hl hw0
  obtain ⟨r1, r2, r3, r4, r5, -⟩ := id hR
  have loop : ∀ (rest : List Int) (i k tp : Nat) (ts : List Bool) (st : List Int) (u : AW), cl.drop i = rest → i ≤ cl.length → tcL rest ts = some [true] → SV ts st k → k + tms rest ≤ 30 → SR (u.2.1 27) st → tp = st.length → evL (w.2.1 26) rest st = evL (w.2.1 26) cl [] → F1 27 w u →
      GG Γ 5 [some (ar p), some (ar 26), some (ar 27), some (ai (tp : Int)), some (ai (i : Int))] [] u 0 0 := by
    intro rest
    induction rest with
    | nil =>
      intro i k tp ts st u hd hi htc2 hsv hk hsr htp hev hF
      obtain ⟨f1, f2, f3⟩ := hF
      have hil : i = cl.length := by
        have := List.drop_eq_nil_iff.mp hd
        omega
      subst hil
      obtain rfl : ts = [true] := Option.some.inj htc2
      obtain ⟨v, t, m, rfl, hv, h1, h2, h3⟩ := SV_t hsv
      have ht0 : t = [] := by cases t with | nil => rfl | cons _ _ => exact h3.elim
      subst ht0
      obtain ⟨hr1, -⟩ := hsr
      have hr1' : u.2.1 27 0 = v := hr1
      have e1 : evL (w.2.1 26) cl [] = [v] := hev.symm
      simp only [List.length_cons, List.length_nil] at htp
      subst htp
      have u1 : u.1 p = (104, 0) := by rw [f1]; exact r1
      have u2 : u.2.2 p 1 = some cp := by rw [f2]; exact r2
      have u3 : u.1 cp = (1, cl.length) := by rw [f1]; exact r3
      have u5 : u.1 27 = (1, 31) := by rw [f1]; exact hst
      refine g_iload h dX4_holds_5 rfl ?_
      refine g_aload_n h dX4_holds_7 rfl ?_
      refine g_getQ h flX4_15 rfl (by assumption) (by assumption) dX4_holds_8 ?_
      refine g_alen h (by assumption) (by unfold arK; omega) dX4_holds_11 ?_
      refine g_icmp_ge (tgt := 77) h dX4_holds_12 (by decide) (by first | assumption | exact ⟨by omega, by omega⟩) (by first | assumption | exact ⟨by omega, by omega⟩) (fun c12 => ?_) (fun c12 => ?_)
      · refine g_iload_n h dX4_holds_77 rfl ?_
        refine g_iconst h dX4_holds_78 ?_
        refine g_icmp_ne (tgt := 97) h dX4_holds_79 (by decide) (by first | assumption | exact ⟨by omega, by omega⟩) (by first | assumption | exact ⟨by omega, by omega⟩) (fun c79 => ?_) (fun c79 => ?_)
        · refine g_iconst h dX4_holds_97 ?_
          refine g_zret h hQ (by first | decide | omega | (simp only [clS]; omega)) (by first | decide | omega | (simp only [clS]; omega)) (by omega) ?_ dX4_holds_98
          refine ⟨?_, f1, f2, f3⟩
          rw [e1]
          rcases hv with rfl | rfl <;> first | rfl | (exfalso; omega)
        · refine g_aload_n h dX4_holds_82 rfl ?_
          refine g_alen h (by assumption) (by unfold arK; omega) dX4_holds_83 ?_
          refine g_if_le (tgt := 97) h dX4_holds_84 (by decide) (by first | assumption | exact ⟨by omega, by omega⟩) (fun c84 => ?_) (fun c84 => ?_)
          · refine g_iconst h dX4_holds_97 ?_
            refine g_zret h hQ (by first | decide | omega | (simp only [clS]; omega)) (by first | decide | omega | (simp only [clS]; omega)) (by omega) ?_ dX4_holds_98
            refine ⟨?_, f1, f2, f3⟩
            rw [e1]
            rcases hv with rfl | rfl <;> first | rfl | (exfalso; omega)
          · refine g_aload_n h dX4_holds_87 rfl ?_
            refine g_iconst h dX4_holds_88 ?_
            refine g_iald h (0) (by assumption) (by first | omega | assumption) (by first | omega | assumption) (by first | decide | omega) dX4_holds_89 ?_
            rw [hr1']
            refine g_if_eq (tgt := 97) h dX4_holds_90 (by decide) (by first | assumption | exact ⟨by omega, by omega⟩) (fun c90 => ?_) (fun c90 => ?_)
            · refine g_iconst h dX4_holds_97 ?_
              refine g_zret h hQ (by first | decide | omega | (simp only [clS]; omega)) (by first | decide | omega | (simp only [clS]; omega)) (by omega) ?_ dX4_holds_98
              refine ⟨?_, f1, f2, f3⟩
              rw [e1]
              rcases hv with rfl | rfl <;> first | rfl | (exfalso; omega)
            · refine g_iconst h dX4_holds_93 ?_
              refine g_goto (tgt := 98) h dX4_holds_94 (by decide) ?_
              refine g_zret h hQ (by first | decide | omega | (simp only [clS]; omega)) (by first | decide | omega | (simp only [clS]; omega)) (by omega) ?_ dX4_holds_98
              refine ⟨?_, f1, f2, f3⟩
              rw [e1]
              rcases hv with rfl | rfl <;> first | rfl | (exfalso; omega)
      · exfalso; omega
    | cons c rest ih =>
      intro i k tp ts st u hd hi htc2 hsv hk hsr htp hev hF
      obtain ⟨f1, f2, f3⟩ := id hF
      obtain ⟨hil, hgc, hd2⟩ := dropC hd
      obtain ⟨q1, q2, q3⟩ := r5 i hil
      rw [hgc] at q1 q2 q3
      have hln := SV_len hsv
      have u1 : u.1 p = (104, 0) := by rw [f1]; exact r1
      have u2 : u.2.2 p 1 = some cp := by rw [f2]; exact r2
      have u3 : u.1 cp = (1, cl.length) := by rw [f1]; exact r3
      have u4 : u.1 26 = (1, 9) := by rw [f1]; exact hn
      have u5 : u.1 27 = (1, 31) := by rw [f1]; exact hst
      have u6 : u.2.1 cp i = c := by rw [f3 cp hcp]; exact q1
      have u7 : u.2.1 26 = w.2.1 26 := f3 26 (by decide)
      have htS : ∃ ts2, tcS c ts = some ts2 ∧ tcL rest ts2 = some [true] := by
        unfold tcL at htc2
        cases e : tcS c ts with
        | none => rw [e] at htc2; cases htc2
        | some x => rw [e] at htc2; exact ⟨x, rfl, htc2⟩
      obtain ⟨ts2, htS, htL⟩ := htS
      have hsv2 := SV_step hnb htS hsv
      have htm2 : tms (c :: rest) = (if c < 20000 then 1 else 0) + tms rest := rfl
      rw [htm2] at hk
      have hc9 : c < 20000 → c < 10009 := fun q => by rcases tcS_inv htS with ⟨_, q, -⟩ | ⟨q, -⟩ | ⟨q, -⟩ | ⟨q, -⟩ | ⟨q, -⟩ <;> omega
      refine g_iload h dX4_holds_5 rfl ?_
      refine g_aload_n h dX4_holds_7 rfl ?_
      refine g_getQ h flX4_15 rfl (by assumption) (by assumption) dX4_holds_8 ?_
      refine g_alen h (by assumption) (by unfold arK; omega) dX4_holds_11 ?_
      refine g_icmp_ge (tgt := 77) h dX4_holds_12 (by decide) (by first | assumption | exact ⟨by omega, by omega⟩) (by first | assumption | exact ⟨by omega, by omega⟩) (fun c12 => ?_) (fun c12 => ?_)
      · exfalso; omega
      · refine g_aload_n h dX4_holds_15 rfl ?_
        refine g_getQ h flX4_15 rfl (by assumption) (by assumption) dX4_holds_16 ?_
        refine g_iload h dX4_holds_19 rfl ?_
        refine g_iald h (i) (by assumption) (by first | omega | assumption) (by first | omega | assumption) (by first | decide | omega) dX4_holds_21 ?_
        rw [u6]
        refine g_sipush h dX4_holds_22 rfl ?_
        refine g_icmp_lt (tgt := 48) h dX4_holds_25 (by decide) (by first | assumption | exact ⟨by omega, by omega⟩) (by first | assumption | exact ⟨by omega, by omega⟩) (fun c25 => ?_) (fun c25 => ?_)
        · refine g_iload_n h dX4_holds_48 rfl ?_
          refine g_aload_n h dX4_holds_49 rfl ?_
          refine g_alen h (by assumption) (by unfold arK; omega) dX4_holds_50 ?_
          refine g_icmp_ge (tgt := 71) h dX4_holds_51 (by decide) (by first | assumption | exact ⟨by omega, by omega⟩) (by first | assumption | exact ⟨by omega, by omega⟩) (fun c51 => absurd c51 (by rw [if_pos (by omega)] at hk; omega)) (fun c51 => ?_)
          refine g_aload_n h dX4_holds_54 rfl ?_
          refine g_iload_n h dX4_holds_55 rfl ?_
          refine g_aload_n h dX4_holds_56 rfl ?_
          refine g_getQ h flX4_15 rfl (by assumption) (by assumption) dX4_holds_57 ?_
          refine g_iload h dX4_holds_60 rfl ?_
          refine g_iald h (i) (by assumption) (by first | omega | assumption) (by first | omega | assumption) (by first | decide | omega) dX4_holds_62 ?_
          rw [u6]
          refine g_aload_n h dX4_holds_63 rfl ?_
          rw [if_pos (by omega)] at hsv2 hk
          have hw9 : (if c < 10000 then c else if c - 10000 < 9 then u.2.1 26 (c - 10000).toNat else 0) :: st = evS (w.2.1 26) c st := by
            unfold evS
            rw [u7]
            by_cases q : c < 10000
            · rw [if_pos q, if_pos q]
            · rw [if_neg q, if_neg q, if_pos (by omega), if_pos (by omega)]
          refine g_callS h rfl [_, _] (c_X4_worth _ _ c ⟨by omega, by omega⟩ u4) clX4_23 st_X4_worth rfl rfl (by rw [hRm]; first | decide | (simp only [clS]; omega)) (by rw [hRm]; first | decide | (simp only [clS]; omega)) (fun _ => Nat.le_of_ble_eq_true rfl) (by rw [hRm]; first | decide | (simp only [clS]; omega)) (by rw [hRm]; first | decide | (simp only [clS]; omega)) dX4_holds_64 (fun r64 w64 hp64 => ?_)
          obtain ⟨rfl, hw64⟩ := hp64
          rw [hw64]
          refine g_iast h (tp) (by assumption) (by first | omega | assumption) (by first | omega | assumption) (by first | decide | omega) dX4_holds_67 ?_
          refine g_iinc h dX4_holds_68 rfl (Nat.le_of_ble_eq_true rfl) rfl rfl ?_
          refine g_iinc h dX4_holds_71 rfl (Nat.le_of_ble_eq_true rfl) rfl rfl ?_
          refine g_goto (tgt := 5) h dX4_holds_74 (by decide) ?_
          exact ih (i + 1) _ (tp + 1) ts2 _ _ hd2 (by omega) htL hsv2 (by omega) (by rw [← hw9, upI_at, htp]; exact SR_push hsr) (by rw [← hw9, List.length_cons, htp]) hev ⟨f1, f2, fun j hj => (if_neg hj).trans (f3 j hj)⟩
        · refine g_aload_n h dX4_holds_28 rfl ?_
          refine g_getQ h flX4_15 rfl (by assumption) (by assumption) dX4_holds_29 ?_
          refine g_iload h dX4_holds_32 rfl ?_
          refine g_iald h (i) (by assumption) (by first | omega | assumption) (by first | omega | assumption) (by first | decide | omega) dX4_holds_34 ?_
          rw [u6]
          refine g_sipush h dX4_holds_35 rfl ?_
          refine g_isub h dX4_holds_38 ?_
          refine g_aload_n h dX4_holds_39 rfl ?_
          refine g_iload_n h dX4_holds_40 rfl ?_
          rw [if_neg (by omega)] at hsv2 hk
          have e20 : 20000 + (c - 20000) = c := by omega
          refine g_callS h rfl [_, _, _] (c_X4_join _ _ (w.2.1 26) (c - 20000) k tp ts ts2 st u5 (by omega) hsr (by rw [e20]; exact htS) hsv (by omega) htp) clX4_19 st_X4_join rfl rfl (by rw [hRm]; first | decide | (simp only [clS]; omega)) (by rw [hRm]; first | decide | (simp only [clS]; omega)) (fun _ => Nat.le_of_ble_eq_true rfl) (by rw [hRm]; first | decide | (simp only [clS]; omega)) (by rw [hRm]; first | decide | (simp only [clS]; omega)) dX4_holds_41 (fun r41 w41 hp41 => ?_)
          obtain ⟨rfl, hw41, hsw⟩ := hp41
          rw [e20] at hsw ⊢
          refine g_istore_n h dX4_holds_44 (Nat.le_of_ble_eq_true rfl) rfl rfl ?_
          refine g_goto (tgt := 71) h dX4_holds_45 (by decide) ?_
          refine g_iinc h dX4_holds_71 rfl (Nat.le_of_ble_eq_true rfl) rfl rfl ?_
          refine g_goto (tgt := 5) h dX4_holds_74 (by decide) ?_
          exact ih (i + 1) _ _ ts2 _ _ hd2 (by omega) htL hsv2 (by omega) hsw rfl hev ⟨hw41.1.trans f1, hw41.2.1.trans f2, fun j hj => (hw41.2.2 j hj).trans (f3 j hj)⟩
  refine g_iconst h dX4_holds_0 ?_
  refine g_istore_n h dX4_holds_1 (Nat.le_of_ble_eq_true rfl) rfl rfl ?_
  refine g_iconst h dX4_holds_2 ?_
  refine g_istore h dX4_holds_3 (Nat.le_of_ble_eq_true rfl) rfl rfl ?_
  exact loop cl 0 0 0 [] [] w rfl (Nat.zero_le _) htc trivial (by omega) trivial rfl rfl ⟨rfl, rfl, fun _ _ => rfl⟩
