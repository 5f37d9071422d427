/-! ===== drift by X and by M ===== -/
def DBI (a d : Nat → Int) (key day b : Int) (n : Nat) : Prop :=
  ((dB a d key day b n).1 = none → (dfB a d key day b n).1 = -1) ∧
  (∀ i, (dB a d key day b n).1 = some i → i < n ∧ (dfB a d key day b n).1 = d i ∧ d i ≤ day ∧ d i ≤ b ∧ lrF a d key (d i) (d i) n = some i) ∧
  (∀ j, (dB a d key day b n).2 = some j → j < n ∧ day < d j ∧ d j ≤ b ∧ lrF a d key (d j) (d j) n = some j) ∧
  ((dfB a d key day b n).2 = if (dfB a d key day b n).1 = day then day else match (dB a d key day b n).2 with | none => 1000000 | some j => d j)
theorem lr_no {a d : Nat → Int} {key b z : Int} {n : Nat} (h : ¬ (a n = key ∧ d n ≤ b)) (hz : z ≤ b) : lrF a d key z z (n + 1) = lrF a d key z z n := if_neg (fun q => h ⟨q.1, by omega⟩)
theorem lr_df {a d : Nat → Int} {key z : Int} {n : Nat} (h : d n ≠ z) : lrF a d key z z (n + 1) = lrF a d key z z n := if_neg (fun q => h (by omega))
theorem dB_df {a d : Nat → Int} {key day b : Int} (hd : 0 ≤ day) : ∀ n : Nat, (∀ i j, i ≤ j → j < n → d i ≤ d j) → (∀ i, i < n → 0 ≤ d i ∧ d i ≤ 2999) → DBI a d key day b n
  | 0, _, _ => ⟨fun _ => rfl, (fun i h => by cases h), (fun j h => by cases h), by
    show (1000000 : Int) = if (-1 : Int) = day then day else 1000000
    rw [if_neg (by omega)]⟩
  | n + 1, hs, h0 => by
    obtain ⟨i1, i2, i3, i4⟩ := dB_df (a := a) (key := key) (b := b) hd n (fun i j x y => hs i j x (by omega)) (fun i hi => h0 i (by omega))
    have hn := h0 n (by omega)
    by_cases c : a n = key ∧ d n ≤ b
    · have eM : dfB a d key day b (n + 1) = (if d n ≤ day then max (dfB a d key day b n).1 (d n) else (dfB a d key day b n).1, if day ≤ d n then min (dfB a d key day b n).2 (d n) else (dfB a d key day b n).2) := if_neg (by omega)
      have hle : (dfB a d key day b n).1 ≤ d n := by
        cases h : (dB a d key day b n).1 with
        | none => rw [i1 h]; omega
        | some i => obtain ⟨x1, x2, -⟩ := i2 i h; rw [x2]; exact hs i n (by omega) (by omega)
      by_cases e : d n ≤ day
      · have eX : dB a d key day b (n + 1) = (some n, (dB a d key day b n).2) := by
          show (if a n = key ∧ d n ≤ b then (if d n ≤ day then _ else _) else _) = _
          rw [if_pos c, if_pos e]
        have hno : (dB a d key day b n).2 = none := by
          cases h : (dB a d key day b n).2 with
          | none => rfl
          | some j => obtain ⟨x1, x2, -⟩ := i3 j h; have := hs j n (by omega) (by omega); omega
        unfold DBI
        rw [eX, eM, if_pos e]
        refine ⟨(fun h => by cases h), (fun i h => ?_), (fun j h => ?_), ?_⟩
        · cases h
          refine ⟨by omega, by show max _ _ = d n; omega, e, c.2, ?_⟩
          show (if a n = key ∧ d n ≤ d n ∧ d n ≤ d n then some n else _) = _
          rw [if_pos ⟨c.1, Int.le_refl _, Int.le_refl _⟩]
        · rw [hno] at h; cases h
        · rw [hno] at i4 ⊢
          show (if day ≤ d n then min (dfB a d key day b n).2 (d n) else (dfB a d key day b n).2) = if max (dfB a d key day b n).1 (d n) = day then day else 1000000
          change (dfB a d key day b n).2 = if (dfB a d key day b n).1 = day then day else 1000000 at i4
          by_cases f : d n = day
          · rw [if_pos (by omega), if_pos (by omega)]
            by_cases g : (dfB a d key day b n).1 = day
            · rw [if_pos g] at i4; omega
            · rw [if_neg g] at i4; omega
          · rw [if_neg (by omega), if_neg (by omega), i4, if_neg (by omega)]
      · have hne : (dfB a d key day b n).1 ≤ day ∨ True := Or.inr trivial
        have eM2 : dfB a d key day b (n + 1) = ((dfB a d key day b n).1, min (dfB a d key day b n).2 (d n)) := by rw [eM, if_neg e, if_pos (by omega)]
        have old : ∀ i, (dB a d key day b n).1 = some i → i < n + 1 ∧ (dfB a d key day b n).1 = d i ∧ d i ≤ day ∧ d i ≤ b ∧ lrF a d key (d i) (d i) (n + 1) = some i := by
          intro i h
          obtain ⟨x1, x2, x3, x4, x5⟩ := i2 i h
          exact ⟨by omega, x2, x3, x4, by rw [lr_df (by omega)]; exact x5⟩
        have new : lrF a d key (d n) (d n) (n + 1) = some n := by
          show (if a n = key ∧ d n ≤ d n ∧ d n ≤ d n then some n else _) = _
          rw [if_pos ⟨c.1, Int.le_refl _, Int.le_refl _⟩]
        cases h2 : (dB a d key day b n).2 with
        | none =>
          have eX : dB a d key day b (n + 1) = ((dB a d key day b n).1, some n) := by
            show (if a n = key ∧ d n ≤ b then (if d n ≤ day then _ else match (dB a d key day b n).2 with | none => _ | some b => _) else _) = _
            rw [if_pos c, if_neg e, h2]
          unfold DBI
          rw [eX, eM2]
          rw [h2] at i4
          refine ⟨i1, old, (fun j h => ?_), ?_⟩
          · cases h; exact ⟨by omega, by omega, c.2, new⟩
          · show min (dfB a d key day b n).2 (d n) = if (dfB a d key day b n).1 = day then day else d n
            change (dfB a d key day b n).2 = if (dfB a d key day b n).1 = day then day else 1000000 at i4
            by_cases g : (dfB a d key day b n).1 = day
            · rw [if_pos g] at i4 ⊢; omega
            · rw [if_neg g] at i4 ⊢; omega
        | some j =>
          obtain ⟨x1, x2, x3, x4⟩ := i3 j h2
          have hjn := hs j n (by omega) (by omega)
          rw [h2] at i4
          change (dfB a d key day b n).2 = if (dfB a d key day b n).1 = day then day else d j at i4
          by_cases f : d n = d j
          · have eX : dB a d key day b (n + 1) = ((dB a d key day b n).1, some n) := by
              show (if a n = key ∧ d n ≤ b then (if d n ≤ day then _ else match (dB a d key day b n).2 with | none => _ | some b => (if d n = d b then _ else _)) else _) = _
              rw [if_pos c, if_neg e, h2]
              exact if_pos f
            unfold DBI
            rw [eX, eM2]
            refine ⟨i1, old, (fun j h => ?_), ?_⟩
            · cases h; exact ⟨by omega, by omega, c.2, new⟩
            · show min (dfB a d key day b n).2 (d n) = if (dfB a d key day b n).1 = day then day else d n
              by_cases g : (dfB a d key day b n).1 = day
              · rw [if_pos g] at i4 ⊢; omega
              · rw [if_neg g] at i4 ⊢; omega
          · have eX : dB a d key day b (n + 1) = dB a d key day b n := by
              show (if a n = key ∧ d n ≤ b then (if d n ≤ day then _ else match (dB a d key day b n).2 with | none => _ | some b => (if d n = d b then _ else _)) else _) = _
              rw [if_pos c, if_neg e, h2]
              exact if_neg f
            unfold DBI
            rw [eX, eM2]
            refine ⟨i1, old, (fun j' h => ?_), ?_⟩
            · rw [h2] at h
              cases h
              exact ⟨by omega, x2, x3, by rw [lr_df f]; exact x4⟩
            · rw [h2]
              show min (dfB a d key day b n).2 (d n) = if (dfB a d key day b n).1 = day then day else d j
              by_cases g : (dfB a d key day b n).1 = day
              · rw [if_pos g] at i4 ⊢; omega
              · rw [if_neg g] at i4 ⊢; omega
    · have eX : dB a d key day b (n + 1) = dB a d key day b n := if_neg c
      have eM : dfB a d key day b (n + 1) = dfB a d key day b n := if_pos (by omega)
      unfold DBI
      rw [eX, eM]
      refine ⟨i1, (fun i h => ?_), (fun j h => ?_), i4⟩
      · obtain ⟨x1, x2, x3, x4, x5⟩ := i2 i h
        exact ⟨by omega, x2, x3, x4, by rw [lr_no c x4]; exact x5⟩
      · obtain ⟨x1, x2, x3, x4⟩ := i3 j h
        exact ⟨by omega, x2, x3, by rw [lr_no c x3]; exact x4⟩
