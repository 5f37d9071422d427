/-! ===== strings by X and by M ===== -/
theorem ld_le {a d : Nat → Int} {key b z : Int} (hz : -1 ≤ z) : ∀ n : Nat, (∀ i, i < n → d i ≤ z) → ldF a d key b n ≤ z
  | 0, _ => hz
  | n + 1, h => by
    have h1 := ld_le (a := a) (key := key) (b := b) hz n (fun i hi => h i (by omega))
    have h2 := h n (by omega)
    unfold ldF
    split
    · omega
    · exact h1
theorem lr_ld {a d : Nat → Int} {key f b : Int} : ∀ n : Nat, (∀ i j, i ≤ j → j < n → d i ≤ d j) → (∀ i, i < n → 0 ≤ d i) →
    (lrF a d key f b n = none → ldF a d key b n = -1 ∨ ldF a d key b n < f) ∧ ∀ m, lrF a d key f b n = some m → ldF a d key b n = d m ∧ lrF a d key (d m) (d m) n = some m
  | 0, _, _ => ⟨fun _ => Or.inl rfl, (fun m h => by cases h)⟩
  | n + 1, hs, h0 => by
    obtain ⟨i1, i2⟩ := lr_ld (a := a) (key := key) (f := f) (b := b) n (fun i j x y => hs i j x (by omega)) (fun i hi => h0 i (by omega))
    have hn0 := h0 n (by omega)
    have hle : ldF a d key b n ≤ d n := ld_le (by omega) n (fun i hi => hs i n (by omega) (by omega))
    have eL : lrF a d key f b (n + 1) = if a n = key ∧ f ≤ d n ∧ d n ≤ b then some n else lrF a d key f b n := rfl
    have eM : ldF a d key b (n + 1) = if a n = key ∧ d n ≤ b then max (ldF a d key b n) (d n) else ldF a d key b n := rfl
    rw [eL, eM]
    by_cases c : a n = key ∧ f ≤ d n ∧ d n ≤ b
    · rw [if_pos c, if_pos ⟨c.1, c.2.2⟩]
      refine ⟨(fun h => by cases h), fun m h => ?_⟩
      cases h
      refine ⟨by omega, ?_⟩
      show (if a n = key ∧ d n ≤ d n ∧ d n ≤ d n then some n else _) = _
      rw [if_pos ⟨c.1, Int.le_refl _, Int.le_refl _⟩]
    · rw [if_neg c]
      by_cases e : a n = key ∧ d n ≤ b
      · rw [if_pos e]
        have hf : d n < f := by
          rcases Int.lt_or_le (d n) f with x | x
          · exact x
          · exact absurd ⟨e.1, x, e.2⟩ c
        refine ⟨fun h => by omega, fun m h => ?_⟩
        have h3 := lrF_lt n m h
        have h4 := hs m n (by omega) (by omega)
        omega
      · rw [if_neg e]
        refine ⟨i1, fun m h => ?_⟩
        obtain ⟨j1, j2⟩ := i2 m h
        have h3 := lrF_lt n m h
        refine ⟨j1, ?_⟩
        show (if a n = key ∧ d m ≤ d n ∧ d n ≤ d m then some n else _) = _
        rw [if_neg (fun z => e ⟨z.1, by omega⟩)]
        exact j2
