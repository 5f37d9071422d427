/-! ===== the heap is one ===== -/
/-- how often v stands in the first n -/
def cntR (f : Nat → Int) (v : Int) : Nat → Nat
  | 0 => 0
  | n + 1 => cntR f v n + if f n = v then 1 else 0
theorem cntR_ge {f : Nat → Int} {v x : Int} {k : Nat} : ∀ n, n ≤ k → cntR (uI f k x) v n = cntR f v n
  | 0, _ => rfl
  | n + 1, h => by
    unfold cntR
    rw [cntR_ge n (by omega), uI_ne _ _ (by omega)]
theorem cntR_up {f : Nat → Int} {v x : Int} {k : Nat} : ∀ n, k < n → cntR (uI f k x) v n + (if f k = v then 1 else 0) = cntR f v n + (if x = v then 1 else 0)
  | 0, h => absurd h (Nat.not_lt_zero _)
  | n + 1, h => by
    unfold cntR
    by_cases e : k = n
    · subst e
      rw [cntR_ge k (Nat.le_refl _), uI_at]
      omega
    · have := cntR_up (f := f) (v := v) (x := x) n (show k < n by omega)
      rw [uI_ne _ _ (show n ≠ k by omega)]
      omega
theorem cntR_at {f : Nat → Int} {v : Int} {k : Nat} (e : f k = v) : ∀ n, k < n → 0 < cntR f v n
  | 0, h => absurd h (Nat.not_lt_zero _)
  | n + 1, h => by
    unfold cntR
    by_cases c : k = n
    · subst c; rw [if_pos e]; omega
    · have := cntR_at e n (by omega); omega
theorem cntR_has {f : Nat → Int} {v : Int} : ∀ n, 0 < cntR f v n → ∃ k, k < n ∧ f k = v
  | 0, h => absurd h (Nat.lt_irrefl _)
  | n + 1, h => by
    by_cases e : f n = v
    · exact ⟨n, by omega, e⟩
    · unfold cntR at h
      rw [if_neg e] at h
      obtain ⟨k, h1, h2⟩ := cntR_has n h
      exact ⟨k, by omega, h2⟩
/-- the order of a heap -/
def HPr (f : Nat → Int) (n : Nat) : Prop := ∀ i, 0 < i → i < n → f ((i - 1) / 2) ≤ f i
theorem HPr_min {f : Nat → Int} {n : Nat} (h : HPr f n) : ∀ i, i < n → f 0 ≤ f i := by
  intro i
  induction i using Nat.strongRecOn with
  | _ i ih =>
    intro hi
    by_cases e : i = 0
    · subst e; exact Int.le_refl _
    · have h1 := h i (by omega) hi
      have h2 := ih ((i - 1) / 2) (by omega) (by omega)
      omega
theorem HPr_le {f : Nat → Int} {n : Nat} {v : Int} (h : HPr f n) (hv : 0 < cntR f v n) : f 0 ≤ v := by
  obtain ⟨k, h1, h2⟩ := cntR_has n hv
  have := HPr_min h k h1
  omega
/-- a swap counts the same -/
theorem cntR_swap {f : Nat → Int} {v x : Int} {a p n : Nat} (ha : a < n) (hp : p < n) (hne : p ≠ a) : cntR (uI (uI f a (f p)) p x) v n = cntR (uI f a x) v n := by
  have h1 := cntR_up (f := uI f a (f p)) (v := v) (x := x) n hp
  have h2 := cntR_up (f := f) (v := v) (x := f p) n ha
  have h3 := cntR_up (f := f) (v := v) (x := x) n ha
  rw [uI_ne _ _ hne] at h1
  omega
theorem sUp_heap {n : Nat} {x : Int} : ∀ (d : Nat) (row : Nat → Int) (a : Nat), a < 2 ^ d → a < n → (∀ i, 0 < i → i < n → i ≠ a → (i - 1) / 2 ≠ a → row ((i - 1) / 2) ≤ row i) → (∀ i, 0 < i → i < n → (i - 1) / 2 = a → x ≤ row i) → (0 < a → ∀ i, 0 < i → i < n → (i - 1) / 2 = a → row ((a - 1) / 2) ≤ row i) →
    HPr (sUp d row a x) n ∧ ∀ v, cntR (sUp d row a x) v n = cntR (uI row a x) v n
  | 0, row, a, hd, ha, h1, h2, h3 => by
    have e : a = 0 := by have : a < 1 := hd; omega
    subst e
    refine ⟨fun i hi hin => ?_, fun _ => rfl⟩
    show uI row 0 x _ ≤ uI row 0 x i
    rw [uI_ne _ _ (show i ≠ 0 by omega)]
    by_cases c : (i - 1) / 2 = 0
    · rw [c, uI_at]; exact h2 i hi hin c
    · rw [uI_ne _ _ c]; exact h1 i hi hin (by omega) c
  | d + 1, row, a, hd, ha, h1, h2, h3 => by
    rw [Nat.pow_succ] at hd
    unfold sUp
    by_cases c : 0 < a ∧ x < row ((a - 1) / 2)
    · rw [if_pos c]
      obtain ⟨c1, c2⟩ := c
      have hp : (a - 1) / 2 < a := by omega
      have hne : (a - 1) / 2 ≠ a := by omega
      generalize hP : (a - 1) / 2 = p at *
      have H1 : ∀ i, 0 < i → i < n → i ≠ p → (i - 1) / 2 ≠ p → uI row a (row p) ((i - 1) / 2) ≤ uI row a (row p) i := by
        intro i hi hin e1 e2
        have e3 : i ≠ a := by intro c; subst c; exact e2 hP
        rw [uI_ne _ _ e3]
        by_cases e4 : (i - 1) / 2 = a
        · rw [e4, uI_at]; exact h3 c1 i hi hin e4
        · rw [uI_ne _ _ e4]; exact h1 i hi hin e3 e4
      have H2 : ∀ i, 0 < i → i < n → (i - 1) / 2 = p → x ≤ uI row a (row p) i := by
        intro i hi hin e
        by_cases e3 : i = a
        · subst e3; rw [uI_at]; omega
        · rw [uI_ne _ _ e3]
          have := h1 i hi hin e3 (by omega)
          rw [e] at this; omega
      have H3 : 0 < p → ∀ i, 0 < i → i < n → (i - 1) / 2 = p → uI row a (row p) ((p - 1) / 2) ≤ uI row a (row p) i := by
        intro hp0 i hi hin e
        rw [uI_ne _ _ (show (p - 1) / 2 ≠ a by omega)]
        have hg := h1 p hp0 (by omega) hne (by omega)
        by_cases e3 : i = a
        · subst e3; rw [uI_at]; exact hg
        · rw [uI_ne _ _ e3]
          have := h1 i hi hin e3 (by omega)
          rw [e] at this; omega
      obtain ⟨g1, g2⟩ := sUp_heap d (uI row a (row p)) p (by omega) (by omega) H1 H2 H3
      refine ⟨g1, fun v => ?_⟩
      rw [g2 v]
      exact cntR_swap ha (by omega) hne
    · rw [if_neg c]
      refine ⟨fun i hi hin => ?_, fun _ => rfl⟩
      by_cases e3 : i = a
      · subst e3
        rw [uI_at, uI_ne _ _ (show (i - 1) / 2 ≠ i by omega)]
        omega
      · rw [uI_ne _ _ e3]
        by_cases e4 : (i - 1) / 2 = a
        · rw [e4, uI_at]; exact h2 i hi hin e4
        · rw [uI_ne _ _ e4]; exact h1 i hi hin e3 e4
theorem add_heap {row : Nat → Int} {n : Nat} {x : Int} (hn : n ≤ 1600) (h : HPr row n) : HPr (sUp 11 row n x) (n + 1) ∧ ∀ v, cntR (sUp 11 row n x) v (n + 1) = cntR row v n + if x = v then 1 else 0 := by
  obtain ⟨g1, g2⟩ := sUp_heap (n := n + 1) (x := x) 11 row n (show n < 2048 by omega) (by omega) (fun i hi hin e1 e2 => h i hi (by omega)) (fun i hi hin e => by omega) (fun _ i hi hin e => by omega)
  refine ⟨g1, fun v => ?_⟩
  rw [g2 v]
  show cntR (uI row n x) v n + (if uI row n x n = v then 1 else 0) = _
  rw [cntR_ge n (Nat.le_refl _), uI_at]
theorem lcF_none {row : Nat → Int} {n a : Nat} (hn : n ≤ 1600) (h : lcF row n a = none) : n ≤ 2 * a + 1 := by
  unfold lcF at h
  split at h
  · rename_i q; omega
  · split at h <;> cases h
theorem lcF_sm {row : Nat → Int} {n a c : Nat} (hn : n ≤ 1600) (h : lcF row n a = some c) : (c = 2 * a + 1 ∨ c = 2 * a + 2) ∧ c < n ∧ (2 * a + 1 < n → row c ≤ row (2 * a + 1)) ∧ (2 * a + 2 < n → row c ≤ row (2 * a + 2)) := by
  unfold lcF at h
  split at h
  · cases h
  · split at h
    · rename_i q1 q2
      cases h
      exact ⟨Or.inr rfl, by omega, fun _ => by omega, fun _ => Int.le_refl _⟩
    · rename_i q1 q2
      cases h
      refine ⟨Or.inl rfl, by omega, fun _ => Int.le_refl _, fun k => ?_⟩
      rcases Int.lt_or_le (row (2 * a + 2)) (row (2 * a + 1)) with t | t
      · exact absurd ⟨k, by omega, t⟩ q2
      · exact t
theorem sDn_heap {n : Nat} {x : Int} (hn : n ≤ 1600) : ∀ (d : Nat) (row : Nat → Int) (a : Nat), 2048 ≤ (a + 1) * 2 ^ d → a < n → (∀ i, 0 < i → i < n → i ≠ a → (i - 1) / 2 ≠ a → row ((i - 1) / 2) ≤ row i) → (0 < a → row ((a - 1) / 2) ≤ x) → (0 < a → ∀ i, 0 < i → i < n → (i - 1) / 2 = a → row ((a - 1) / 2) ≤ row i) →
    HPr (sDn d row n a x) n ∧ ∀ v, cntR (sDn d row n a x) v n = cntR (uI row a x) v n
  | 0, row, a, hd, ha, h1, h2, h3 => by
    rw [Nat.pow_zero, Nat.mul_one] at hd
    omega
  | d + 1, row, a, hd, ha, h1, h2, h3 => by
    have fin : (∀ i, 0 < i → i < n → (i - 1) / 2 = a → x ≤ row i) → HPr (uI row a x) n := by
      intro hx i hi hin
      by_cases e3 : i = a
      · subst e3
        rw [uI_at, uI_ne _ _ (show (i - 1) / 2 ≠ i by omega)]
        exact h2 hi
      · rw [uI_ne _ _ e3]
        by_cases e4 : (i - 1) / 2 = a
        · rw [e4, uI_at]; exact hx i hi hin e4
        · rw [uI_ne _ _ e4]; exact h1 i hi hin e3 e4
    have hdef : sDn (d + 1) row n a x = (match lcF row n a with
      | none => uI row a x
      | some c => if row c < x then sDn d (uI row a (row c)) n c x else uI row a x) := rfl
    cases hc : lcF row n a with
    | none =>
      rw [hdef, hc]
      have := lcF_none hn hc
      exact ⟨fin (fun i hi hin e => by omega), fun _ => rfl⟩
    | some c =>
      rw [hdef, hc]
      obtain ⟨k1, k2, k3, k4⟩ := lcF_sm hn hc
      have hca : (c - 1) / 2 = a := by omega
      have hmin : ∀ i, 0 < i → i < n → (i - 1) / 2 = a → row c ≤ row i := by
        intro i hi hin e
        have : i = 2 * a + 1 ∨ i = 2 * a + 2 := by omega
        rcases this with rfl | rfl
        · exact k3 hin
        · exact k4 hin
      show HPr (if row c < x then sDn d (uI row a (row c)) n c x else uI row a x) n ∧ ∀ v, cntR (if row c < x then sDn d (uI row a (row c)) n c x else uI row a x) v n = _
      by_cases q : row c < x
      · rw [if_pos q]
        have hpd : 2048 ≤ (c + 1) * 2 ^ d := by
          rw [Nat.pow_succ] at hd
          have : (a + 1) * (2 ^ d * 2) ≤ (c + 1) * 2 ^ d := by
            rw [Nat.mul_comm (2 ^ d) 2, ← Nat.mul_assoc]
            exact Nat.mul_le_mul_right _ (by omega)
          omega
        have H1 : ∀ i, 0 < i → i < n → i ≠ c → (i - 1) / 2 ≠ c → uI row a (row c) ((i - 1) / 2) ≤ uI row a (row c) i := by
          intro i hi hin e1 e2
          by_cases e3 : i = a
          · subst e3
            rw [uI_at, uI_ne _ _ (show (i - 1) / 2 ≠ i by omega)]
            exact h3 hi c (by omega) k2 hca
          · rw [uI_ne _ _ e3]
            by_cases e4 : (i - 1) / 2 = a
            · rw [e4, uI_at]; exact hmin i hi hin e4
            · rw [uI_ne _ _ e4]; exact h1 i hi hin e3 e4
        have H2 : 0 < c → uI row a (row c) ((c - 1) / 2) ≤ x := by
          intro _
          rw [hca, uI_at]; omega
        have H3 : 0 < c → ∀ i, 0 < i → i < n → (i - 1) / 2 = c → uI row a (row c) ((c - 1) / 2) ≤ uI row a (row c) i := by
          intro _ i hi hin e
          rw [hca, uI_at, uI_ne _ _ (show i ≠ a by omega)]
          have := h1 i hi hin (by omega) (by omega)
          rw [e] at this
          exact this
        obtain ⟨g1, g2⟩ := sDn_heap hn d (uI row a (row c)) c hpd k2 H1 H2 H3
        refine ⟨g1, fun v => ?_⟩
        rw [g2 v]
        exact cntR_swap ha k2 (by omega)
      · rw [if_neg q]
        exact ⟨fin (fun i hi hin e => by have := hmin i hi hin e; omega), fun _ => rfl⟩
theorem tak_heap {row : Nat → Int} {n : Nat} (hn : n ≤ 1601) (h0 : 0 < n) (h : HPr row n) : HPr (tlR row n) (n - 1) ∧ ∀ v, cntR (tlR row n) v (n - 1) + (if row 0 = v then 1 else 0) = cntR row v n := by
  unfold tlR
  obtain ⟨m, rfl⟩ : ∃ m, n = m + 1 := ⟨n - 1, by omega⟩
  rw [Nat.add_sub_cancel]
  by_cases e : m = 0
  · subst e
    refine ⟨fun i hi hin => absurd hin (Nat.not_lt_zero _), fun v => ?_⟩
    show 0 + _ = 0 + _
    rfl
  · obtain ⟨g1, g2⟩ := sDn_heap (n := m) (x := row m) (by omega) 11 row 0 (by decide) (by omega) (fun i hi hin e1 e2 => h i hi (by omega)) (fun c => absurd c (Nat.lt_irrefl _)) (fun c => absurd c (Nat.lt_irrefl _))
    refine ⟨g1, fun v => ?_⟩
    rw [g2 v]
    have := cntR_up (f := row) (v := v) (x := row m) m (show 0 < m by omega)
    show _ = cntR row v m + _
    omega
