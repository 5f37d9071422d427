/-! ===== a day by X and by M ===== -/
theorem rk_le (pl : Nat → Int) (L : Nat) {a : Nat} : ∀ {b : Nat}, a ≤ b → rkF pl L a ≤ rkF pl L b
  | 0, h => by
    obtain rfl : a = 0 := by omega
    exact Nat.le_refl _
  | b + 1, h => by
    by_cases e : a = b + 1
    · rw [e]; exact Nat.le_refl _
    · have := rk_le pl L (a := a) (b := b) (by omega)
      show _ ≤ rkF pl L b + _
      omega
theorem rk_s {pl : Nat → Int} {L p : Nat} (h : pl p = (L : Int)) : rkF pl L (p + 1) = rkF pl L p + 1 := by
  show rkF pl L p + (if pl p = (L : Int) then 1 else 0) = _
  rw [if_pos h]
theorem rk_n {pl : Nat → Int} {L p : Nat} (h : pl p ≠ (L : Int)) : rkF pl L (p + 1) = rkF pl L p := by
  show rkF pl L p + (if pl p = (L : Int) then 1 else 0) = _
  rw [if_neg h, Nat.add_zero]
theorem rk_lt {pl : Nat → Int} {L a b : Nat} (h : pl a = (L : Int)) (hab : a < b) : rkF pl L a < rkF pl L b := by
  have h1 := rk_s h
  have h2 := rk_le pl L (show a + 1 ≤ b from hab)
  omega
theorem rk_inj {pl : Nat → Int} {L a b : Nat} (ha : pl a = (L : Int)) (hb : pl b = (L : Int)) (h : rkF pl L a = rkF pl L b) : a = b := by
  rcases Nat.lt_trichotomy a b with c | c | c
  · have := rk_lt ha c; omega
  · exact c
  · have := rk_lt hb c; omega
/-- what X's lake lx and M's lake L at hand have in common -/
def DV (w u : AW) (lx L n np : Nat) (q : Nat → Nat) : Prop := A3 (gT w lx) (gH u) ∧ (w.2.1 (2 + lx) 5 = u.2.1 410 L ∧ w.2.1 (2 + lx) 6 = u.2.1 411 L ∧ w.2.1 (2 + lx) 7 = u.2.1 412 L ∧ w.2.1 (2 + lx) 8 = u.2.1 413 L) ∧ n = rkF (u.2.1 429) L np ∧
  ∀ p, p < np → u.2.1 429 p = (L : Int) → w.2.1 (q (rkF (u.2.1 429) L p)) 1 = u.2.1 423 p ∧ w.2.1 (q (rkF (u.2.1 429) L p)) 2 = u.2.1 431 p ∧ w.2.1 (q (rkF (u.2.1 429) L p)) 3 = u.2.1 432 p ∧ w.2.1 (q (rkF (u.2.1 429) L p)) 4 = u.2.1 425 p
/-- what lake L's pipes let off, of off -/
def ofS (pl : Nat → Int) (L : Nat) (off : Nat → Int) : Nat → Int
  | 0 => 0
  | p + 1 => if pl p = (L : Int) then ofS pl L off p + off p else ofS pl L off p
theorem ofS_c {pl : Nat → Int} {L : Nat} {off off' : Nat → Int} : ∀ p, (∀ j, j < p → off j = off' j) → ofS pl L off p = ofS pl L off' p
  | 0, _ => rfl
  | p + 1, h => by
    unfold ofS
    rw [ofS_c p (fun j hj => h j (by omega)), h p (by omega)]
theorem day_pipes {w : AW} {lx L n np : Nat} {q : Nat → Nat} {pl lay fl li : Nat → Int} {x : M3} (hlx : lx < 3) (hP : PQ w lx n q) (hg : A10 (w.2.1 (5 + lx)) x.1) (hn : n = rkF pl L np) (hl : ∀ p, p < np → 0 ≤ lay p ∧ lay p < 10)
    (hr : ∀ p, p < np → pl p = (L : Int) → w.2.1 (q (rkF pl L p)) 1 = lay p ∧ w.2.1 (q (rkF pl L p)) 2 = fl p ∧ w.2.1 (q (rkF pl L p)) 3 = li p ∧ w.2.1 (q (rkF pl L p)) 4 = x.2.1 p) : ∀ p, p ≤ np →
    A10 ((pAll w (5 + lx) q (rkF pl L p)).2.1 (5 + lx)) (mpF L pl lay fl li x p).1 ∧ (∀ j, j < np → pl j = (L : Int) → (j < p → (pAll w (5 + lx) q (rkF pl L p)).2.1 (q (rkF pl L j)) 4 = (mpF L pl lay fl li x p).2.1 j ∧ (pAll w (5 + lx) q (rkF pl L p)).2.1 (q (rkF pl L j)) 5 = w.2.1 (q (rkF pl L j)) 5 + (mpF L pl lay fl li x p).2.2 j) ∧
      (p ≤ j → (pAll w (5 + lx) q (rkF pl L p)).2.1 (q (rkF pl L j)) = w.2.1 (q (rkF pl L j)) ∧ (mpF L pl lay fl li x p).2.1 j = x.2.1 j)) ∧ pSum w (5 + lx) q (rkF pl L p) = ofS pl L (mpF L pl lay fl li x p).2.2 p
  | 0, _ => ⟨hg, fun j _ _ => ⟨fun h => absurd h (Nat.not_lt_zero _), fun _ => ⟨rfl, rfl⟩⟩, rfl⟩
  | p + 1, hp => by
    obtain ⟨i1, i2, i3⟩ := day_pipes (fl := fl) (li := li) hlx hP hg hn hl hr p (by omega)
    have hms : mpF L pl lay fl li x (p + 1) = mpS L pl lay fl li p (mpF L pl lay fl li x p) := rfl
    by_cases hpl : pl p = (L : Int)
    · rw [rk_s hpl, hms]
      have hkn : rkF pl L p < n := by rw [hn]; exact rk_lt hpl (by omega)
      have hq5 := (hP.2.2.1 _ hkn).2.1
      have hne : 5 + lx ≠ q (rkF pl L p) := by omega
      obtain ⟨j1, j2⟩ := (i2 p (by omega) hpl).2 (Nat.le_refl _)
      obtain ⟨r1, r2, r3, r4⟩ := hr p (by omega) hpl
      have hlp := hl p (by omega)
      have hgl := i1 (lay p).toNat (by omega)
      have hrun := (hP.2.2.1 _ hkn).2.2.2.2.2.2.2.2.2.2
      generalize hV : pAll w (5 + lx) q (rkF pl L p) = V at *
      generalize hX : mpF L pl lay fl li x p = X at *
      have eS : pAll w (5 + lx) q (rkF pl L p + 1) = pStep V (5 + lx) (q (rkF pl L p)) := by rw [← hV]; rfl
      have eO : pOffW V (5 + lx) (q (rkF pl L p)) = pOff (x.2.1 p) (X.1 (lay p).toNat) (fl p) (li p) := by
        unfold pOffW
        rw [j1, r1, r2, r3, r4, hgl]
      have eR : pRunW V (5 + lx) (q (rkF pl L p)) = pRun (x.2.1 p) (X.1 (lay p).toNat) (li p) := by
        unfold pRunW
        rw [j1, r1, r3, r4, hgl]
      have hM : mpS L pl lay fl li p X = (uI X.1 (lay p).toNat (X.1 (lay p).toNat - pOff (x.2.1 p) (X.1 (lay p).toNat) (fl p) (li p)), uI X.2.1 p (pRun (x.2.1 p) (X.1 (lay p).toNat) (li p)), uI X.2.2 p (pOff (x.2.1 p) (X.1 (lay p).toNat) (fl p) (li p))) := by
        unfold mpS pOff pRun
        rw [← r4] at j2 ⊢
        rw [j2]
        by_cases c0 : w.2.1 (q (rkF pl L p)) 4 = 0
        · rw [if_pos (Or.inr c0), if_pos c0, if_pos c0, Int.sub_zero, uI_self]
          rw [show uI X.2.1 p 0 = X.2.1 from by rw [show (0 : Int) = X.2.1 p by rw [j2]; exact c0.symm]; exact uI_self _ _]
        · rw [if_neg (by rintro (a | a); exact a hpl; exact c0 a), if_neg c0, if_neg c0]
          by_cases c1 : X.1 (lay p).toNat < li p
          · rw [if_pos c1, if_pos c1, if_pos c1, Int.sub_zero, uI_self]
          · rw [if_neg c1, if_neg c1, if_neg c1]
            rw [show w.2.1 (q (rkF pl L p)) 4 = 1 by omega]
      rw [eS, hM]
      refine ⟨?_, fun j hj hjl => ⟨fun hjp => ?_, fun hjp => ?_⟩, ?_⟩
      · rw [pStep_a _ hne, eO, j1, r1, hgl]
        exact A10_uI i1 rfl
      · by_cases e : j = p
        · subst e
          rw [pStep_q]
          refine ⟨?_, ?_⟩
          · show pRunW V (5 + lx) (q (rkF pl L j)) = uI X.2.1 j _ j
            rw [eR]
            exact (if_pos rfl).symm
          · show V.2.1 (q (rkF pl L j)) 5 + pOffW V (5 + lx) (q (rkF pl L j)) = _ + uI X.2.2 j _ j
            rw [eO, j1]
            show _ = _ + (if j = j then _ else _)
            rw [if_pos rfl]
        · have hjk : q (rkF pl L j) ≠ q (rkF pl L p) := fun c => e (rk_inj hjl hpl (hP.2.2.2 _ _ (by rw [hn]; exact rk_lt hjl hj) hkn c))
          have hj5 : q (rkF pl L j) ≠ 5 + lx := by have := (hP.2.2.1 _ (show rkF pl L j < n by rw [hn]; exact rk_lt hjl hj)).2.1; omega
          rw [pStep_o _ hj5 hjk]
          obtain ⟨a, b⟩ := (i2 j hj hjl).1 (by omega)
          refine ⟨?_, ?_⟩
          · rw [a]; exact (if_neg e).symm
          · rw [b]
            show _ + X.2.2 j = _ + (if j = p then _ else X.2.2 j)
            rw [if_neg e]
      · have e : j ≠ p := by omega
        have hjk : q (rkF pl L j) ≠ q (rkF pl L p) := fun c => e (rk_inj hjl hpl (hP.2.2.2 _ _ (by rw [hn]; exact rk_lt hjl hj) hkn c))
        have hj5 : q (rkF pl L j) ≠ 5 + lx := by have := (hP.2.2.1 _ (show rkF pl L j < n by rw [hn]; exact rk_lt hjl hj)).2.1; omega
        rw [pStep_o _ hj5 hjk]
        obtain ⟨a, b⟩ := (i2 j hj hjl).2 (by omega)
        exact ⟨a, (if_neg e).trans b⟩
      · show pSum w (5 + lx) q (rkF pl L p) + pOffW (pAll w (5 + lx) q (rkF pl L p)) (5 + lx) (q (rkF pl L p)) = ofS pl L (uI X.2.2 p _) (p + 1)
        rw [hV, eO, i3]
        show _ = (if pl p = (L : Int) then ofS pl L (uI X.2.2 p _) p + uI X.2.2 p _ p else _)
        rw [if_pos hpl, ofS_c (off := uI X.2.2 p _) (off' := X.2.2) p (fun j hj => if_neg (by omega))]
        exact congrArg _ (if_pos rfl).symm
    · rw [rk_n hpl, hms]
      have hM : mpS L pl lay fl li p (mpF L pl lay fl li x p) = ((mpF L pl lay fl li x p).1, (mpF L pl lay fl li x p).2.1, uI (mpF L pl lay fl li x p).2.2 p 0) := by
        unfold mpS
        rw [if_pos (Or.inl hpl)]
      rw [hM]
      refine ⟨i1, fun j hj hjl => ⟨fun hjp => ?_, fun hjp => (i2 j hj hjl).2 (by omega)⟩, ?_⟩
      · have e : j ≠ p := fun c => hpl (c ▸ hjl)
        obtain ⟨a, b⟩ := (i2 j hj hjl).1 (by omega)
        refine ⟨a, ?_⟩
        rw [b]
        show _ + _ = _ + (if j = p then 0 else _)
        rw [if_neg e]
      · rw [i3]
        show _ = (if pl p = (L : Int) then _ else ofS pl L (uI _ p 0) p)
        rw [if_neg hpl]
        exact ofS_c p (fun j hj => (if_neg (by omega)).symm)
