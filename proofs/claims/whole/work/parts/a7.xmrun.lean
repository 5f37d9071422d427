/-! ===== a run-out by both ===== -/
def ADJ (c b : Int) : Prop := (0 ≤ b ∧ b < 400) ∧ (b = c - 20 ∨ b = c + 20 ∨ (b = c - 1 ∧ 0 < c % 20) ∨ (b = c + 1 ∧ c % 20 < 19))
theorem ADJ_sym {c b : Int} (hc : 0 ≤ c ∧ c < 400) (h : ADJ c b) : ADJ b c := by
  unfold ADJ at h ⊢
  omega
theorem ADJ_X {c b : Int} (hc : 0 ≤ c ∧ c < 400) : ADJ c b ↔ ∃ s : Nat, s < 4 ∧ bsX c (s : Int) = b ∧ 0 ≤ b ∧ b < 400 := by
  constructor
  · rintro ⟨hb, h | h | ⟨h1, h2⟩ | ⟨h1, h2⟩⟩
    · exact ⟨0, by decide, by show bsX c 0 = b; unfold bsX; rw [if_pos rfl, h], hb⟩
    · exact ⟨3, by decide, by show bsX c 3 = b; unfold bsX; rw [if_neg (by decide), if_neg (by decide), if_neg (by decide), h], hb⟩
    · exact ⟨1, by decide, by show bsX c 1 = b; unfold bsX; rw [if_neg (by decide), if_pos rfl, if_pos h2, h1], hb⟩
    · exact ⟨2, by decide, by show bsX c 2 = b; unfold bsX; rw [if_neg (by decide), if_neg (by decide), if_pos rfl, if_pos h2, h1], hb⟩
  · rintro ⟨s, hs, h, hb⟩
    unfold bsX at h
    unfold ADJ
    repeat (first | omega | split at h)
theorem ADJ_M {c b : Int} (hc : 0 ≤ c ∧ c < 400) : ADJ c b ↔ ∃ s : Nat, s < 4 ∧ bsM c (s : Int) = b ∧ 0 ≤ b := by
  constructor
  · rintro ⟨hb, h | h | ⟨h1, h2⟩ | ⟨h1, h2⟩⟩
    · exact ⟨0, by decide, by show bsM c 0 = b; unfold bsM; rw [if_pos rfl, h], hb.1⟩
    · exact ⟨2, by decide, by show bsM c 2 = b; unfold bsM; rw [if_neg (by decide), if_neg (by decide), if_pos rfl, if_pos (by omega), h], hb.1⟩
    · exact ⟨3, by decide, by show bsM c 3 = b; unfold bsM; rw [if_neg (by decide), if_neg (by decide), if_neg (by decide), if_neg (by omega), h1], hb.1⟩
    · exact ⟨1, by decide, by show bsM c 1 = b; unfold bsM; rw [if_neg (by decide), if_pos rfl, if_neg (by omega), h1], hb.1⟩
  · rintro ⟨s, hs, h, hb⟩
    unfold bsM at h
    unfold ADJ
    repeat (first | omega | split at h)
theorem adjM_n {o : Nat → Int} {c : Int} : ∀ n, adjM o c n ≠ 0 ↔ ∃ s : Nat, s < n ∧ 0 ≤ bsM c (s : Int) ∧ o (bsM c (s : Int)).toNat ≠ -1
  | 0 => ⟨fun h => absurd rfl h, fun ⟨s, h, _⟩ => absurd h (Nat.not_lt_zero _)⟩
  | n + 1 => by
    have ih := adjM_n (o := o) (c := c) n
    unfold adjM
    by_cases h1 : adjM o c n ≠ 0
    · rw [if_pos h1]
      obtain ⟨s, a, b⟩ := ih.mp h1
      exact ⟨fun _ => ⟨s, by omega, b⟩, fun _ => by decide⟩
    · rw [if_neg h1]
      by_cases h2 : 0 ≤ bsM c (n : Int) ∧ o (bsM c (n : Int)).toNat ≠ -1
      · rw [if_pos h2]
        exact ⟨fun _ => ⟨n, by omega, h2⟩, fun _ => by decide⟩
      · rw [if_neg h2]
        refine ⟨fun q => absurd rfl q, fun ⟨s, a, b⟩ => ?_⟩
        exfalso
        by_cases e : s = n
        · subst e; exact h2 b
        · exact h1 (ih.mpr ⟨s, by omega, b⟩)
theorem adjM_iff {o : Nat → Int} {c : Int} (hc : 0 ≤ c ∧ c < 400) : adjM o c 4 ≠ 0 ↔ ∃ b : Nat, b < 400 ∧ ADJ c (b : Int) ∧ o b ≠ -1 := by
  rw [adjM_n]
  constructor
  · rintro ⟨s, h1, h2, h3⟩
    have ha : ADJ c (bsM c (s : Int)) := (ADJ_M hc).mpr ⟨s, h1, rfl, h2⟩
    refine ⟨(bsM c (s : Int)).toNat, ?_, ?_, h3⟩
    · have := ha.1; omega
    · rw [Int.toNat_of_nonneg h2]; exact ha
  · rintro ⟨b, h1, h2, h3⟩
    obtain ⟨s, k1, k2, k3⟩ := (ADJ_M hc).mp h2
    refine ⟨s, k1, by omega, ?_⟩
    rw [k2]
    exact h3
/-- the lowest beside, told -/
theorem lbF_spec {o h : Nat → Int} {most : Int} : ∀ n, n ≤ 400 → (lbF o h most n = -1 → ∀ c, c < n → ¬ (o c = -1 ∧ h c ≤ most ∧ adjM o (c : Int) 4 ≠ 0)) ∧
    (lbF o h most n ≠ -1 → (0 ≤ lbF o h most n ∧ lbF o h most n < (n : Int)) ∧ (o (lbF o h most n).toNat = -1 ∧ h (lbF o h most n).toNat ≤ most ∧ adjM o (lbF o h most n) 4 ≠ 0) ∧
      ∀ c : Nat, c < n → (o c = -1 ∧ h c ≤ most ∧ adjM o (c : Int) 4 ≠ 0) → h (lbF o h most n).toNat < h c ∨ (h (lbF o h most n).toNat = h c ∧ lbF o h most n ≤ (c : Int)))
  | 0, _ => ⟨fun _ c hc => absurd hc (Nat.not_lt_zero _), fun k => absurd rfl k⟩
  | n + 1, hn => by
    obtain ⟨i1, i2⟩ := lbF_spec (o := o) (h := h) (most := most) n (by omega)
    unfold lbF
    by_cases h1 : o n ≠ -1 ∨ most < h n ∨ (lbF o h most n ≠ -1 ∧ h (lbF o h most n).toNat ≤ h n)
    · rw [if_pos h1]
      refine ⟨fun k c hc q => ?_, fun k => ?_⟩
      · by_cases e : c = n
        · subst e
          rcases h1 with h1 | h1 | h1
          · exact h1 q.1
          · have := q.2.1; omega
          · exact h1.1 k
        · exact i1 k c (by omega) q
      · obtain ⟨j1, j2, j3⟩ := i2 k
        refine ⟨by omega, j2, fun c hc q => ?_⟩
        by_cases e : c = n
        · subst e
          rcases h1 with h1 | h1 | h1
          · exact absurd q.1 h1
          · have := q.2.1; omega
          · have := h1.2; omega
        · exact j3 c (by omega) q
    · rw [if_neg h1]
      by_cases h2 : adjM o (n : Int) 4 = 0
      · rw [if_pos h2]
        refine ⟨fun k c hc q => ?_, fun k => ?_⟩
        · by_cases e : c = n
          · subst e; exact q.2.2 h2
          · exact i1 k c (by omega) q
        · obtain ⟨j1, j2, j3⟩ := i2 k
          refine ⟨by omega, j2, fun c hc q => ?_⟩
          by_cases e : c = n
          · subst e; exact absurd h2 q.2.2
          · exact j3 c (by omega) q
      · rw [if_neg h2]
        refine ⟨fun k => by omega, fun _ => ⟨by omega, ⟨?_, ?_, h2⟩, fun c hc q => ?_⟩⟩
        · exact Classical.byContradiction fun k => h1 (Or.inl k)
        · exact Int.not_lt.mp fun k => h1 (Or.inr (Or.inl k))
        · show h n < h c ∨ (h n = h c ∧ (n : Int) ≤ (c : Int))
          by_cases e : c = n
          · subst e; exact Or.inr ⟨rfl, Int.le_refl _⟩
          · by_cases k : lbF o h most n = -1
            · exact absurd q (i1 k c (by omega))
            · obtain ⟨j1, j2, j3⟩ := i2 k
              have k2 : h n < h (lbF o h most n).toNat := Int.not_le.mp fun t => h1 (Or.inr (Or.inr ⟨k, t⟩))
              have := j3 c (by omega) q
              omega
/-- the heap holds the cells that are offered and not taken -/
def HV (h o : Nat → Int) (w : AW) (n : Nat) : Prop := ∃ sz, CI w sz ∧ HPr (w.2.1 41) sz ∧ sz + n + cntR (w.2.1 39) 1000000 400 = 400 ∧ (∀ c : Nat, c < 400 → cntR (w.2.1 41) (h c * 400 + (c : Int)) sz = if w.2.1 39 c ≠ 1000000 ∧ o c = -1 then 1 else 0) ∧
  (∀ v, 0 < cntR (w.2.1 41) v sz → ∃ c : Nat, c < 400 ∧ v = h c * 400 + (c : Int)) ∧ (∀ c, c < 400 → w.2.1 39 c = 1000000 → o c = -1) ∧ w.2.1 37 = h
theorem addW_at {w : AW} {sz : Nat} {x : Int} (h : sz < 1601) : (addW w sz x).2.1 41 = sUp 11 (w.2.1 41) sz x ∧ (addW w sz x).2.1 40 1 = (sz : Int) + 1 := by
  unfold addW
  rw [if_pos h]
  refine ⟨sR_at _ _ _, ?_⟩
  rw [sR_ne _ _ (by decide), upI_at]
  exact if_pos rfl
theorem takW_at (w : AW) (sz : Nat) : (takW w sz).2.1 41 = tlR (w.2.1 41) sz ∧ (takW w sz).2.1 40 1 = (sz : Int) - 1 := by
  unfold takW
  refine ⟨sR_at _ _ _, ?_⟩
  rw [sR_ne _ _ (by decide), upI_at]
  exact if_pos rfl
theorem upI_row (w : AW) (k f : Nat) (z : Int) : (upI w k f z).2.1 k = uI (w.2.1 k) f z := upI_at w k f z
theorem HV_of {h o : Nat → Int} {w : AW} {n : Nat} (z hi : Int) (hV : HV h o w n) : HV h o (ofW w z hi) n ∧ (ofW w z hi).2.1 38 = w.2.1 38 ∧ ∀ c : Nat, c < 400 → ((ofW w z hi).2.1 39 c ≠ 1000000 ↔ (w.2.1 39 c ≠ 1000000 ∨ ((c : Int) = z ∧ h c ≤ hi))) := by
  obtain ⟨sz, a1, a2, a3, a4, a5, a6, a7⟩ := id hV
  unfold ofW
  by_cases q : (0 ≤ z ∧ z < 400) ∧ w.2.1 39 z.toNat = 1000000 ∧ w.2.1 37 z.toNat ≤ hi
  · rw [if_pos q, CI_sz a1, a7]
    obtain ⟨q1, q2, q3⟩ := q
    rw [a7] at q3
    obtain ⟨zn, rfl⟩ : ∃ zn : Nat, z = (zn : Int) := ⟨z.toNat, by omega⟩
    rw [Int.toNat_natCast] at q2 q3 ⊢
    have hz : zn < 400 := by omega
    have hu := cntR_up (f := w.2.1 39) (v := 1000000) (x := 0) 400 hz
    rw [if_pos q2, if_neg (by decide)] at hu
    have hsz : sz ≤ 400 := by omega
    have hh : 0 ≤ h zn ∧ h zn ≤ 999 := by rw [← a7]; exact a1.2.2.2.2.1 zn hz
    obtain ⟨s2, g⟩ := CI_add (CI_39 (c := zn) (v := 0) a1 ⟨by decide, by decide⟩) (x := h zn * 400 + (zn : Int)) ⟨by omega, by omega⟩
    obtain ⟨r1, r2⟩ := addW_at (w := upI w 39 zn 0) (sz := sz) (x := h zn * 400 + (zn : Int)) (by omega)
    have e2 : s2 = sz + 1 := by have := g.2.1; rw [r2] at this; omega
    subst e2
    have t39 : (addW (upI w 39 zn 0) sz (h zn * 400 + (zn : Int))).2.1 39 = uI (w.2.1 39) zn 0 := by rw [addW_36 _ _ _ (by decide) (by decide), upI_row]
    have t37 : (addW (upI w 39 zn 0) sz (h zn * 400 + (zn : Int))).2.1 37 = w.2.1 37 := by rw [addW_36 _ _ _ (by decide) (by decide), upI_o _ _ _ (by decide)]
    have t38 : (addW (upI w 39 zn 0) sz (h zn * 400 + (zn : Int))).2.1 38 = w.2.1 38 := by rw [addW_36 _ _ _ (by decide) (by decide), upI_o _ _ _ (by decide)]
    have r1' : (addW (upI w 39 zn 0) sz (h zn * 400 + (zn : Int))).2.1 41 = sUp 11 (w.2.1 41) sz (h zn * 400 + (zn : Int)) := r1.trans (by rw [upI_o _ _ _ (by decide)])
    obtain ⟨p1, p2⟩ := add_heap (row := w.2.1 41) (n := sz) (x := h zn * 400 + (zn : Int)) (by omega) a2
    refine ⟨⟨sz + 1, g, ?_, ?_, fun c hc => ?_, fun v hv => ?_, fun c hc hcc => ?_, t37.trans a7⟩, t38, fun c hc => ?_⟩
    · rw [r1']; exact p1
    · rw [t39]; omega
    · rw [r1', t39, p2, a4 c hc]
      by_cases e : c = zn
      · subst e
        rw [uI_at, if_pos rfl, if_neg (fun t => t.1 q2), if_pos ⟨by decide, a6 c hc q2⟩]
      · rw [uI_ne _ _ e, if_neg (show ¬ (h zn * 400 + (zn : Int) = h c * 400 + (c : Int)) by omega), Nat.add_zero]
    · rw [r1', p2] at hv
      by_cases e : h zn * 400 + (zn : Int) = v
      · exact ⟨zn, hz, e.symm⟩
      · rw [if_neg e] at hv
        exact a5 v hv
    · rw [t39] at hcc
      by_cases e : c = zn
      · subst e; exact a6 c hc q2
      · rw [uI_ne _ _ e] at hcc; exact a6 c hc hcc
    · rw [t39]
      by_cases e : c = zn
      · subst e
        rw [uI_at]
        exact ⟨fun _ => Or.inr ⟨rfl, q3⟩, fun _ => by decide⟩
      · rw [uI_ne _ _ e]
        exact ⟨Or.inl, fun t => t.resolve_right (fun t => e (by omega))⟩
  · rw [if_neg q]
    refine ⟨hV, rfl, fun c hc => ⟨Or.inl, fun t => ?_⟩⟩
    rcases t with t | ⟨rfl, t⟩
    · exact t
    · intro k
      exact q ⟨by omega, by rw [Int.toNat_natCast]; exact k, by rw [Int.toNat_natCast, a7]; exact t⟩
theorem HV_of4 {h o : Nat → Int} {w : AW} {n : Nat} (c hi : Int) (hV : HV h o w n) : ∀ s, HV h o (of4 w c hi s) n ∧ (of4 w c hi s).2.1 38 = w.2.1 38 ∧ ∀ b : Nat, b < 400 → ((of4 w c hi s).2.1 39 b ≠ 1000000 ↔ (w.2.1 39 b ≠ 1000000 ∨ (h b ≤ hi ∧ ∃ s' : Nat, s' < s ∧ bsX c (s' : Int) = (b : Int))))
  | 0 => ⟨hV, rfl, fun b _ => ⟨Or.inl, fun t => t.resolve_right (fun ⟨_, s', k, _⟩ => absurd k (Nat.not_lt_zero _))⟩⟩
  | s + 1 => by
    obtain ⟨i1, i2, i3⟩ := HV_of4 c hi hV s
    obtain ⟨j1, j2, j3⟩ := HV_of (bsX c (s : Int)) hi i1
    refine ⟨j1, j2.trans i2, fun b hb => (j3 b hb).trans ?_⟩
    rw [i3 b hb]
    constructor
    · rintro ((t | ⟨t1, s', t2, t3⟩) | ⟨t1, t2⟩)
      · exact Or.inl t
      · exact Or.inr ⟨t1, s', by omega, t3⟩
      · exact Or.inr ⟨t2, s, by omega, t1.symm⟩
    · rintro (t | ⟨t1, s', t2, t3⟩)
      · exact Or.inl (Or.inl t)
      · by_cases e : s' = s
        · subst e; exact Or.inr ⟨t3.symm, t1⟩
        · exact Or.inl (Or.inr ⟨t1, s', by omega, t3⟩)
theorem HV_tak {h o : Nat → Int} {w : AW} {n : Nat} (x : Int) (hV : HV h o w n) (hp : 0 < w.2.1 40 1) : ∃ c : Nat, c < 400 ∧ w.2.1 41 0 = h c * 400 + (c : Int) ∧ (w.2.1 39 c ≠ 1000000 ∧ o c = -1) ∧ (∀ b : Nat, b < 400 → w.2.1 39 b ≠ 1000000 → o b = -1 → h c * 400 + (c : Int) ≤ h b * 400 + (b : Int)) ∧
    HV h (uI o c (n : Int)) (upI (takW w (szW w)) 38 c x) (n + 1) ∧ (upI (takW w (szW w)) 38 c x).2.1 38 = uI (w.2.1 38) c x ∧ (upI (takW w (szW w)) 38 c x).2.1 39 = w.2.1 39 := by
  obtain ⟨sz, a1, a2, a3, a4, a5, a6, a7⟩ := id hV
  have hsz : 0 < sz := by have := a1.2.1; omega
  obtain ⟨c, hc, ev⟩ := a5 (w.2.1 41 0) (cntR_at rfl sz hsz)
  have hn : w.2.1 39 c ≠ 1000000 ∧ o c = -1 := by
    have k := a4 c hc
    have k2 := cntR_at (f := w.2.1 41) (v := h c * 400 + (c : Int)) ev sz hsz
    by_cases q : w.2.1 39 c ≠ 1000000 ∧ o c = -1
    · exact q
    · rw [if_neg q] at k; omega
  rw [CI_sz a1]
  obtain ⟨p1, p2⟩ := tak_heap a1.2.2.1 hsz a2
  obtain ⟨r1, r2⟩ := takW_at w sz
  have t41 : (upI (takW w sz) 38 c x).2.1 41 = tlR (w.2.1 41) sz := (upI_o _ _ _ (by decide)).trans r1
  have t39 : (upI (takW w sz) 38 c x).2.1 39 = w.2.1 39 := (upI_o _ _ _ (by decide)).trans (takW_o _ _ (by decide) (by decide))
  refine ⟨c, hc, ev, hn, fun b hb b1 b2 => ?_, ⟨sz - 1, CI_38 (CI_tak a1 hsz), ?_, ?_, fun b hb => ?_, fun v hv => ?_, fun b hb hbb => ?_, ?_⟩, ?_, t39⟩
  · rw [← ev]
    refine HPr_le a2 ?_
    rw [a4 b hb, if_pos ⟨b1, b2⟩]; decide
  · rw [t41]; exact p1
  · rw [t39]; omega
  · rw [t41, t39]
    have k := p2 (h b * 400 + (b : Int))
    rw [a4 b hb, ev] at k
    by_cases e : b = c
    · subst e
      rw [if_pos rfl, if_pos hn] at k
      rw [uI_at, if_neg (fun t => by have := t.2; omega)]
      omega
    · rw [if_neg (show ¬ (h c * 400 + (c : Int) = h b * 400 + (b : Int)) by omega)] at k
      rw [uI_ne _ _ e]
      exact k
  · rw [t41] at hv
    exact a5 v (by have := p2 v; omega)
  · rw [t39] at hbb
    by_cases e : b = c
    · subst e; exact absurd hbb hn.1
    · rw [uI_ne _ _ e]; exact a6 b hb hbb
  · exact ((upI_o _ _ _ (by decide)).trans (takW_o _ _ (by decide) (by decide))).trans a7
  · rw [upI_row, takW_o _ _ (by decide) (by decide)]
def RD (h : Nat → Int) (hi spd : Int) (s0 : Nat) (w : AW) (n : Nat) (o : Nat → Int) : Prop := (∀ c, c < 400 → (o c = -1 → w.2.1 38 c = -2) ∧ (o c ≠ -1 → 0 ≤ o c ∧ o c < (n : Int) ∧ w.2.1 38 c = o c / spd)) ∧
  (∀ c : Nat, c < 400 → (w.2.1 39 c ≠ 1000000 ↔ (c = s0 ∨ (h c ≤ hi ∧ ∃ b : Nat, b < 400 ∧ ADJ (c : Int) (b : Int) ∧ o b ≠ -1)))) ∧ cntU o 400 + n = 400
def NXs (h : Nat → Int) (w : AW) (nx : Int) (o : Nat → Int) : Prop := (nx = -1 → ∀ c, c < 400 → ¬ (w.2.1 39 c ≠ 1000000 ∧ o c = -1)) ∧ (nx ≠ -1 → (0 ≤ nx ∧ nx < 400) ∧ w.2.1 39 nx.toNat ≠ 1000000 ∧ o nx.toNat = -1 ∧ ∀ c : Nat, c < 400 → w.2.1 39 c ≠ 1000000 → o c = -1 → h nx.toNat * 400 + nx ≤ h c * 400 + (c : Int))
theorem run_both {h : Nat → Int} {hi spd most : Int} {s0 : Nat} (hs0 : s0 < 400) : ∀ (d n : Nat) (nx : Int) (o : Nat → Int) (w : AW), n + d = 400 → HV h o w n → RD h hi spd s0 w n o → NXs h w nx o → (0 < n → o s0 ≠ -1) →
    (rlF hi spd most d (n : Int) w).1 = ((ruF h hi most (d + 1) n nx o).1 : Int) ∧ (∀ c, c < 400 → ((ruF h hi most (d + 1) n nx o).2 c = -1 → (rlF hi spd most d (n : Int) w).2.2.1 38 c = -2) ∧ ((ruF h hi most (d + 1) n nx o).2 c ≠ -1 → 0 ≤ (ruF h hi most (d + 1) n nx o).2 c ∧ (ruF h hi most (d + 1) n nx o).2 c ≤ 399 ∧ (rlF hi spd most d (n : Int) w).2.2.1 38 c = (ruF h hi most (d + 1) n nx o).2 c / spd)) ∧
      ∃ sz, CI (rlF hi spd most d (n : Int) w).2 sz := by
  intro d
  induction d with
  | zero =>
    intro n nx o w hn hV hR hX h0
    have hn4 : n = 400 := by omega
    have hnx : nx = -1 := Classical.byContradiction fun k => by
      obtain ⟨k1, k2, k3, -⟩ := hX.2 k
      have := cntU_pos k3 400 (by omega)
      have := hR.2.2
      omega
    have eu : ruF h hi most (0 + 1) n nx o = (n, o) := by
      unfold ruF
      exact if_neg (fun t => t.2 hnx)
    rw [eu]
    obtain ⟨sz, a1, -⟩ := hV
    exact ⟨rfl, fun c hc => ⟨(hR.1 c hc).1, fun k => by
      obtain ⟨j1, j2, j3⟩ := (hR.1 c hc).2 k
      exact ⟨j1, by show o c ≤ 399; omega, j3⟩⟩, sz, a1⟩
  | succ d ih =>
    intro n nx o w hn hV hR hX h0
    have stop : (rlF hi spd most (d + 1) (n : Int) w) = ((n : Int), w) → ruF h hi most (d + 1 + 1) n nx o = (n, o) → (rlF hi spd most (d + 1) (n : Int) w).1 = ((ruF h hi most (d + 1 + 1) n nx o).1 : Int) ∧ (∀ c, c < 400 → ((ruF h hi most (d + 1 + 1) n nx o).2 c = -1 → (rlF hi spd most (d + 1) (n : Int) w).2.2.1 38 c = -2) ∧ ((ruF h hi most (d + 1 + 1) n nx o).2 c ≠ -1 → 0 ≤ (ruF h hi most (d + 1 + 1) n nx o).2 c ∧ (ruF h hi most (d + 1 + 1) n nx o).2 c ≤ 399 ∧ (rlF hi spd most (d + 1) (n : Int) w).2.2.1 38 c = (ruF h hi most (d + 1 + 1) n nx o).2 c / spd)) ∧ ∃ sz, CI (rlF hi spd most (d + 1) (n : Int) w).2 sz := by
      intro e1 e2
      rw [e1, e2]
      obtain ⟨sz, a1, -⟩ := hV
      exact ⟨rfl, fun c hc => ⟨(hR.1 c hc).1, fun k => by
        obtain ⟨j1, j2, j3⟩ := (hR.1 c hc).2 k
        exact ⟨j1, by show o c ≤ 399; omega, j3⟩⟩, sz, a1⟩
    by_cases q1 : (n : Int) < most
    · by_cases q2 : nx = -1
      · refine stop (if_neg (fun t => ?_)) (if_neg (fun t => t.2 q2))
        obtain ⟨c, hc, -, hcc, -⟩ := HV_tak 0 hV t.2
        exact hX.1 q2 c hc hcc
      · obtain ⟨x1, x2, x3, x4⟩ := hX.2 q2
        obtain ⟨xn, rfl⟩ : ∃ xn : Nat, nx = (xn : Int) := ⟨nx.toNat, by omega⟩
        rw [Int.toNat_natCast] at x2 x3 x4
        have hxn : xn < 400 := by omega
        have hp : 0 < w.2.1 40 1 := by
          obtain ⟨sz, a1, a2, a3, a4, -⟩ := id hV
          have k := a4 xn hxn
          rw [if_pos ⟨x2, x3⟩] at k
          have e := a1.2.1
          cases sz with
          | zero => exact absurd (show (0 : Nat) = 1 from k) (by decide)
          | succ m => omega
        obtain ⟨c, hc, ev, hcc, hmin, hV2, t38, t39⟩ := HV_tak ((n : Int) / spd) hV hp
        have hce : c = xn := by
          have k1 := hmin xn hxn x2 x3
          have k2 := x4 c hc hcc.1 hcc.2
          omega
        subst hce
        have em : (w.2.1 41 0 % 400) = (c : Int) := by rw [ev]; omega
        have eX : rlF hi spd most (d + 1) (n : Int) w = rlF hi spd most d ((n + 1 : Nat) : Int) (of4 (upI (takW w (szW w)) 38 c ((n : Int) / spd)) (c : Int) hi 4) := by
          show (if (n : Int) < most ∧ 0 < w.2.1 40 1 then _ else _) = _
          rw [if_pos ⟨q1, hp⟩, em, Int.toNat_natCast]
          rfl
        have eM : ruF h hi most (d + 1 + 1) n (c : Int) o = ruF h hi most (d + 1) (n + 1) (lbF (uI o c (n : Int)) h hi 400) (uI o c (n : Int)) := by
          show (if (n : Int) < most ∧ (c : Int) ≠ -1 then _ else _) = _
          rw [if_pos ⟨q1, q2⟩, Int.toNat_natCast]
        rw [eX, eM]
        obtain ⟨g1, g2, g3⟩ := HV_of4 (c : Int) hi hV2 4
        have hs0c : uI o c (n : Int) s0 ≠ -1 := by
          by_cases e : s0 = c
          · subst e; rw [uI_at]; omega
          · rw [uI_ne _ _ e]
            by_cases hn0 : 0 < n
            · exact h0 hn0
            · exfalso
              rcases (hR.2.1 c hc).mp x2 with k | ⟨-, b, hb, -, k⟩
              · exact e k.symm
              · have := (hR.1 b hb).2 k; omega
        have hoff : ∀ b : Nat, b < 400 → ((of4 (upI (takW w (szW w)) 38 c ((n : Int) / spd)) (c : Int) hi 4).2.1 39 b ≠ 1000000 ↔ (b = s0 ∨ (h b ≤ hi ∧ ∃ b' : Nat, b' < 400 ∧ ADJ (b : Int) (b' : Int) ∧ uI o c (n : Int) b' ≠ -1))) := by
          intro b hb
          rw [g3 b hb, t39, hR.2.1 b hb]
          constructor
          · rintro ((k | ⟨k1, b', k2, k3, k4⟩) | ⟨k1, s', k2, k3⟩)
            · exact Or.inl k
            · refine Or.inr ⟨k1, b', k2, k3, ?_⟩
              by_cases e : b' = c
              · subst e; rw [uI_at]; omega
              · rw [uI_ne _ _ e]; exact k4
            · refine Or.inr ⟨k1, c, hc, ADJ_sym ⟨by omega, by omega⟩ ((ADJ_X ⟨by omega, by omega⟩).mpr ⟨s', k2, k3, by omega, by omega⟩), ?_⟩
              rw [uI_at]; omega
          · rintro (k | ⟨k1, b', k2, k3, k4⟩)
            · exact Or.inl (Or.inl k)
            · by_cases e : b' = c
              · subst e
                obtain ⟨s', j1, j2, -⟩ := (ADJ_X ⟨by omega, by omega⟩).mp (ADJ_sym ⟨by omega, by omega⟩ k3)
                exact Or.inr ⟨k1, s', j1, j2⟩
              · rw [uI_ne _ _ e] at k4
                exact Or.inl (Or.inr ⟨k1, b', k2, k3, k4⟩)
        refine ih (n + 1) _ (uI o c (n : Int)) _ (by omega) g1 ⟨fun b hb => ?_, hoff, ?_⟩ ?_ (fun _ => hs0c)
        · rw [g2, t38]
          by_cases e : b = c
          · subst e
            rw [uI_at, uI_at]
            exact ⟨fun k => by omega, fun _ => ⟨by omega, by omega, rfl⟩⟩
          · rw [uI_ne _ _ e, uI_ne _ _ e]
            obtain ⟨j1, j2⟩ := hR.1 b hb
            exact ⟨j1, fun k => by obtain ⟨l1, l2, l3⟩ := j2 k; exact ⟨l1, by omega, l3⟩⟩
        · have := cntU_up (v := (n : Int)) x3 (by omega) 400 hc
          have := hR.2.2
          omega
        · obtain ⟨l1, l2⟩ := lbF_spec (o := uI o c (n : Int)) (h := h) (most := hi) 400 (Nat.le_refl _)
          refine ⟨fun k b hb kk => ?_, fun k => ?_⟩
          · rcases (hoff b hb).mp kk.1 with t | ⟨t1, t2⟩
            · subst t; exact hs0c kk.2
            · exact l1 k b hb ⟨kk.2, t1, (adjM_iff ⟨by omega, by omega⟩).mpr t2⟩
          · obtain ⟨m1, ⟨m2, m3, m4⟩, m5⟩ := l2 k
            generalize lbF (uI o c (n : Int)) h hi 400 = y at *
            obtain ⟨yn, rfl⟩ : ∃ yn : Nat, y = (yn : Int) := ⟨y.toNat, by omega⟩
            rw [Int.toNat_natCast] at m2 m3 m5 ⊢
            have hy : yn < 400 := by omega
            refine ⟨by omega, (hoff yn hy).mpr (Or.inr ⟨m3, (adjM_iff ⟨by omega, by omega⟩).mp m4⟩), m2, fun b hb b1 b2 => ?_⟩
            rcases (hoff b hb).mp b1 with t | ⟨t1, t2⟩
            · subst t; exact absurd b2 hs0c
            · have := m5 b hb ⟨b2, t1, (adjM_iff ⟨by omega, by omega⟩).mpr t2⟩
              omega
    · exact stop (if_neg (fun t => q1 t.1)) (if_neg (fun t => q1 t.1))
