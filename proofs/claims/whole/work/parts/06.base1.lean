def fk (t : FieldType) : Nat := match t with
  | .object _ => 1
  | .array _ => 1
  | .long => 2
  | _ => 0
def obV (ad : Nat → Nat) (ci : Nat) (I : Nat → Int) (P : Nat → Option Nat) (f : Nat) : Value := match fk (tyOf ci f) with
  | 0 => cv ad (ai (I f))
  | 1 => cv ad (aq (P f))
  | _ => cv ad (aL (I f))
def elV (ad : Nat → Nat) (kd : Nat) (z : Int) (r : Option Nat) : Value := if kd < 4 then cv ad (ai z) else if kd = 4 then cv ad (aL z) else cv ad (aq r)
def okC (Z : ZT) (ad : Nat → Nat) (a : Nat) (kd : Nat × Nat) (I : Nat → Int) (P : Nat → Option Nat) (H : Heap) : Prop :=
  if 100 ≤ kd.1 ∧ kd.1 < 200 then t_OB a (Z.1 (kd.1 - 100)) (clS (kd.1 - 100)) (Z.2.1 (kd.1 - 100)) H (obV ad (kd.1 - 100) I P)
  else H[a]? = some (arrV (Z.2.2.1 kd.1) kd.2 (fun j => elV ad kd.1 (I j) (P j)))
def arT (k : Nat) : FieldType := match k with
  | 1 => .int
  | 2 => .byte
  | 3 => .boolean
  | 4 => .long
  | k => .object (clN (k - 200))
/-- the kinds of arrays that this system makes -/
def arK (k : Nat) : Prop := k = 1 ∨ k = 2 ∨ k = 3 ∨ k = 4 ∨ k = 202 ∨ k = 203 ∨ k = 204 ∨ k = 208 ∨ k = 210
def KK (Z : ZT) (U : State) : Prop := (∀ c : Nat, c < 13 → u_Kn U (clN c) (clF c) (clS c) (Z.1 c) (Z.2.1 c)) ∧ ∀ k : Nat, arK k → ArrOfT U (Z.2.2.1 k) (arT k) ∧ va_RA U (Z.2.2.1 k) (arT k)
theorem KK.moved {Z : ZT} {u U : State} (hvm : u.vm.Alike U.vm) (h : KK Z u) : KK Z U := ⟨fun c hc => u_Kn_moved hvm (h.1 c hc), fun k hk => ⟨arrOfT_moved hvm (h.2 k hk).1, va_RA.moved hvm (h.2 k hk).2⟩⟩
/-- the String constants: class, place in its pool, text, bytes -/
def strTb : List (String × Nat × String × List Int32) := [
  ("LakeBreath$RuleReader", 125, "siren", [115, 105, 114, 101, 110]),
  ("LakeBreath$RuleReader", 131, "work", [119, 111, 114, 107]),
  ("LakeBreath$RuleReader", 133, "shut", [115, 104, 117, 116]),
  ("LakeBreath$RuleReader", 135, "live", [108, 105, 118, 101]),
  ("LakeBreath$RuleReader", 137, "full", [102, 117, 108, 108]),
  ("LakeBreath$RuleReader", 139, "burst", [98, 117, 114, 115, 116]),
  ("LakeBreath$RuleReader", 141, "run", [114, 117, 110]),
  ("LakeBreath$RuleReader", 143, "drop", [100, 114, 111, 112]),
  ("LakeBreath$RuleReader", 145, "dead", [100, 101, 97, 100]),
  ("LakeBreath$RuleReader", 147, "wind", [119, 105, 110, 100]),
  ("LakeBreath$RuleReader", 149, "lake", [108, 97, 107, 101]),
  ("LakeBreath$RuleReader", 151, "day", [100, 97, 121]),
  ("LakeBreath$RuleReader", 153, "height", [104, 101, 105, 103, 104, 116]),
  ("LakeBreath$RuleReader", 155, "if", [105, 102]),
  ("LakeBreath$RuleReader", 157, "and", [97, 110, 100]),
  ("LakeBreath$RuleReader", 159, "or", [111, 114]),
  ("LakeBreath$RuleReader", 161, "not", [110, 111, 116]),
  ("LakeBreathModel", 366, "if", [105, 102]),
  ("LakeBreathModel", 372, "and", [97, 110, 100]),
  ("LakeBreathModel", 374, "or", [111, 114]),
  ("LakeBreathModel", 376, "not", [110, 111, 116]),
  ("LakeBreathModel", 400, "siren", [115, 105, 114, 101, 110]),
  ("LakeBreathModel", 402, "work", [119, 111, 114, 107]),
  ("LakeBreathModel", 404, "shut", [115, 104, 117, 116]),
  ("LakeBreathModel", 406, "live", [108, 105, 118, 101]),
  ("LakeBreathModel", 433, "full", [102, 117, 108, 108]),
  ("LakeBreathModel", 435, "burst", [98, 117, 114, 115, 116]),
  ("LakeBreathModel", 437, "run", [114, 117, 110]),
  ("LakeBreathModel", 439, "drop", [100, 114, 111, 112]),
  ("LakeBreathModel", 440, "dead", [100, 101, 97, 100]),
  ("LakeBreathModel", 442, "wind", [119, 105, 110, 100]),
  ("LakeBreathModel", 444, "lake", [108, 97, 107, 101]),
  ("LakeBreathModel", 446, "day", [100, 97, 121]),
  ("LakeBreathModel", 448, "height", [104, 101, 105, 103, 104, 116])]
/-- the static int arrays of the class -/
def staTb : List (String × List Int32) := [("LAKE_LEAST", [1, 0, 0, 2, 0]), ("LAKE_MOST", [10000, 20000, 10000, 1000, 399]), ("LAND_LEAST", [0, 1, 1]), ("LAND_MOST", [200, 10000, 50])]
/-- words of the tables, not good ones, that hold in every later state all the same -/
def exW : Cond → Bool
  | .arrayOver (.object _) => true
  | .castable .. => true
  | .declares _ => true
  | _ => false
theorem exW_ex {w : Cond} (hx : exW w = true) : (∃ C, w = .arrayOver (.object C)) ∨ (∃ a b, w = .castable a b) ∨ ∃ x, w = .declares x := by
  unfold exW at hx
  split at hx
  · exact Or.inl ⟨_, rfl⟩
  · exact Or.inr (Or.inl ⟨_, _, rfl⟩)
  · exact Or.inr (Or.inr ⟨_, rfl⟩)
  · cases hx
theorem exW_warm {w : Cond} {s U : State} (hW : s.WarmedH U.vm) (hx : exW w = true) (h : va_Nw w s) : va_Nw w U := by
  rcases exW_ex hx with ⟨C, rfl⟩ | ⟨a, b, rfl⟩ | ⟨x, rfl⟩
  · exact va_AO.moved hW.alike h
  · exact va_Nw.warmC hW h
  · exact va_Nw.warmD hW h
/-- what stands outside the system's own cells: string constants, static arrays, statics of the JDK's -/
def XF (Z : ZT) (U : State) : Prop :=
  (∀ (i : Nat) (q : String × Nat × String × List Int32), strTb[i]? = some q → vk_R q.1 q.2.1 q.2.2.1 (Z.2.2.2.1 (21000 + i)) U ∧
    va_O "java/lang/String" (Z.2.2.2.1 (21000 + i)) (zA Z) U (zH Z) ∧ va_OF "java/lang/String" "coder" "B" (.int 0) (Z.2.2.2.1 (21000 + i)) (zA Z) U (zH Z) ∧
    va_OF "java/lang/String" "value" "[B" (.ref (Z.2.2.2.1 (22000 + i))) (Z.2.2.2.1 (21000 + i)) (zA Z) U (zH Z) ∧ va_T .byte (Z.2.2.2.1 (22000 + i)) q.2.2.2.length (fun j => .int (q.2.2.2.getD j 0)) (zA Z) U (zH Z)) ∧
  (∀ (i : Nat) (q : String × List Int32), staTb[i]? = some q → va_Z "LakeBreath" q.1 "[I" (.ref (Z.2.2.2.1 (20001 + i))) (zA Z) U (zH Z) ∧ va_T .int (Z.2.2.2.1 (20001 + i)) q.2.length (fun j => .int (q.2.getD j 0)) (zA Z) U (zH Z)) ∧
  va_Z "java/lang/String" "COMPACT_STRINGS" "Z" (.int 1) (zA Z) U (zH Z) ∧ va_Zq "jdk/internal/util/Preconditions" "SIOOBE_FORMATTER" "Ljava/util/function/BiFunction;" (zA Z) U (zH Z) ∧
  vx_Zq "java/lang/Throwable" "UNASSIGNED_STACK" "[Ljava/lang/StackTraceElement;" (zA Z) U (zH Z) ∧ vx_Zq "java/lang/Throwable" "SUPPRESSED_SENTINEL" "Ljava/util/List;" (zA Z) U (zH Z) ∧
  (∀ q ∈ nestM, va_Nw (.methodLinkNest q.1 q.2.1 q.2.2.1 q.2.2.2) U) ∧ (∀ q ∈ nestF, va_Nw (.fieldLinkNest q.1 q.2.1 q.2.2.1 q.2.2.2.1 q.2.2.2.2.1 q.2.2.2.2.2) U) ∧ (∀ w ∈ lw_tbl, exW w = true → va_Nw w U) ∧
  (∃ r : Option Nat, (r = none ∨ r = some 20100) ∧ va_Z "java/lang/Throwable" "UNASSIGNED_STACK" "[Ljava/lang/StackTraceElement;" (cv Z.2.2.2.1 (aq r)) (zA Z) U (zH Z)) ∧ ∃ r : Option Nat, (r = none ∨ r = some 20101) ∧ va_Z "java/lang/Throwable" "SUPPRESSED_SENTINEL" "Ljava/util/List;" (cv Z.2.2.2.1 (aq r)) (zA Z) U (zH Z)
theorem XF.warm {Z : ZT} {s U : State} (hW : s.WarmedH U.vm) (h : XF Z s) : XF Z U := by
  obtain ⟨h1, h2, h3, h4, h5, h6, h7, h8, h9, ⟨ra, hra, hza⟩, ⟨rb, hrb, hzb⟩⟩ := h
  have hvm := hW.alike
  refine ⟨fun i q hq => ?_, fun i q hq => ⟨va_Z.moved hvm (h2 i q hq).1, va_T.moved hvm (h2 i q hq).2⟩, va_Z.moved hvm h3, va_Zq.moved hvm h4, vx_Zq.moved hvm h5, vx_Zq.moved hvm h6, fun q hq => va_Nw.warmM hW (h7 q hq), fun q hq => va_Nw.warmF hW (h8 q hq), fun w hw hx => exW_warm hW hx (h9 w hw hx), ⟨ra, hra, va_Z.moved hvm hza⟩, ⟨rb, hrb, va_Z.moved hvm hzb⟩⟩
  obtain ⟨g1, g2, g3, g4, g5⟩ := h1 i q hq
  exact ⟨vk_R.warm hW g1, va_O.moved hvm g2, va_OF.moved hvm g3, va_OF.moved hvm g4, va_T.moved hvm g5⟩
def okr (w : AW) (j : Nat) : Prop := (w.1 j).1 ≠ 0 ∨ 20000 ≤ j
def okv (w : AW) : AV → Prop
  | .inr (.inl (some k)) => okr w k
  | _ => True
def RP (Z : ZT) (ad : Nat → Nat) (w : AW) (H : Heap) : Prop :=
  (zB Z ≤ H.size ∧ ∀ q : Nat, q < zB Z → H[q]? = (zH Z)[q]?) ∧
  (∀ k : Nat, 20000 ≤ k → ad k = Z.2.2.2.1 k ∧ (w.1 k).1 = 0) ∧
  (∀ k : Nat, (w.1 k).1 ≠ 0 → zB Z ≤ ad k ∧ okC Z ad (ad k) (w.1 k) (w.2.1 k) (w.2.2 k) H) ∧
  (∀ j k : Nat, (w.1 j).1 ≠ 0 → (w.1 k).1 ≠ 0 → ad j = ad k → j = k) ∧
  ∀ k i : Nat, (w.1 k).1 ≠ 0 → okv w (aq (w.2.2 k i))
/-- locals -/
def lp (ad : Nat → Nat) : List (Option AV) → Nat → List (Nat × Value)
  | [], _ => []
  | none :: t, i => lp ad t (i + 1)
  | some v :: t, i => (i, cv ad v) :: lp ad t (i + 1)
theorem lp_get {ad : Nat → Nat} : ∀ (lo : List (Option AV)) (n i : Nat) (v : AV), lo[i]? = some (some v) → (n + i, cv ad v) ∈ lp ad lo n
  | [], n, i, v, h => by simp at h
  | none :: t, n, 0, v, h => by simp at h
  | some u :: t, n, 0, v, h => by
    simp only [List.getElem?_cons_zero, Option.some.injEq] at h
    subst h
    exact List.mem_cons_self
  | none :: t, n, i + 1, v, h => by
    rw [List.getElem?_cons_succ] at h
    have := lp_get (ad := ad) t (n + 1) i v h
    rw [show n + 1 + i = n + (i + 1) by omega] at this
    exact this
  | some u :: t, n, i + 1, v, h => by
    rw [List.getElem?_cons_succ] at h
    have := lp_get (ad := ad) t (n + 1) i v h
    rw [show n + 1 + i = n + (i + 1) by omega] at this
    exact List.mem_cons_of_mem _ this
theorem lp_of {ad : Nat → Nat} : ∀ (lo : List (Option AV)) (n : Nat) (q : Nat × Value), q ∈ lp ad lo n → ∃ (i : Nat) (v : AV), lo[i]? = some (some v) ∧ q = (n + i, cv ad v)
  | [], n, q, h => by simp [lp] at h
  | none :: t, n, q, h => by
    obtain ⟨i, v, h1, h2⟩ := lp_of t (n + 1) q h
    exact ⟨i + 1, v, by rw [List.getElem?_cons_succ]; exact h1, by rw [h2, show n + 1 + i = n + (i + 1) by omega]⟩
  | some u :: t, n, q, h => by
    rcases List.mem_cons.mp h with h | h
    · exact ⟨0, u, by simp, by rw [h]; simp⟩
    · obtain ⟨i, v, h1, h2⟩ := lp_of t (n + 1) q h
      exact ⟨i + 1, v, by rw [List.getElem?_cons_succ]; exact h1, by rw [h2, show n + 1 + i = n + (i + 1) by omega]⟩
theorem lp_at {ad : Nat → Nat} {ls : Array Slot} {nL : Nat} {lo : List (Option AV)} (h : lv_has ls nL (lp ad lo 0)) {i : Nat} {v : AV} (hi : lo[i]? = some (some v)) : ls[i]? = some (.val (cv ad v)) := by
  have h1 := lp_get (ad := ad) lo 0 i v hi
  rw [Nat.zero_add] at h1
  exact h.2.2 _ h1
theorem lp_le {ad : Nat → Nat} {ls : Array Slot} {nL : Nat} {lo : List (Option AV)} {l : List (Nat × Value)} (h : lv_has ls nL l) (hs : ∀ q ∈ lp ad lo 0, q ∈ l) : lv_has ls nL (lp ad lo 0) := ⟨h.1, h.2.1, fun q hq => h.2.2 q (hs q hq)⟩
def is2 : Option AV → Bool
  | some (.inr (.inr _)) => true
  | _ => false
theorem cv_cat (ad : Nat → Nat) (v : AV) : (cv ad v).category = 2 ↔ is2 (some v) = true := by
  rcases v with z | r | z
  · simp [cv, Value.category, is2]
  · cases r <;> simp [cv, Value.category, is2]
  · simp [cv, Value.category, is2]
/-- a value of one slot is stored at i; the value ahead of it is no long -/
def stk (lo : List (Option AV)) (i : Nat) : Bool := match i with
  | 0 => true
  | j + 1 => !(is2 (lo.getD j none))
theorem lp_store {ad : Nat → Nat} {lo : List (Option AV)} {i : Nat} {v : AV} (hi : i < lo.length) (hk : stk lo i = true) : ∀ q ∈ lp ad (lo.set i (some v)) 0, q ∈ (i, cv ad v) :: (lp ad lo 0).filter (fun q => !(q.1 == i) && !(q.1 + 1 == i && q.2.category == 2)) := by
  intro q hq
  obtain ⟨j, u, h1, h2⟩ := lp_of _ _ _ hq
  rw [Nat.zero_add] at h2
  subst h2
  by_cases hj : j = i
  · subst hj
    rw [List.getElem?_set_self hi] at h1
    cases h1
    exact List.mem_cons_self
  · rw [List.getElem?_set_ne (Ne.symm hj)] at h1
    refine List.mem_cons_of_mem _ (List.mem_filter.mpr ⟨?_, ?_⟩)
    · have := lp_get (ad := ad) lo 0 j u h1
      rwa [Nat.zero_add] at this
    · simp only [Bool.and_eq_true, Bool.not_eq_true', beq_eq_false_iff_ne, ne_eq, Bool.and_eq_false_iff]
      refine ⟨hj, ?_⟩
      by_cases hji : j + 1 = i
      · subst hji
        refine Or.inr fun hc => ?_
        have h3 := (cv_cat ad u).mp hc
        simp only [stk, List.getD_eq_getElem?_getD, h1, Option.getD_some, h3] at hk
        cases hk
      · exact Or.inl hji
