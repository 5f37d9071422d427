/-! ===== a whole day by X and by M ===== -/
theorem tsW_o (w : AW) {lx j : Nat} (h1 : j ≠ 5 + lx) (h2 : j ≠ 2 + lx) : (tsW w lx).2.1 j = w.2.1 j := by
  unfold tsW
  rw [sR_ne _ _ h2, sR_ne _ _ h1]
theorem tsW_5 (w : AW) (lx : Nat) : (tsW w lx).2.1 (5 + lx) = srcF (w.2.1 (5 + lx)) (w.2.1 (2 + lx) 7) := by
  unfold tsW
  rw [sR_ne _ _ (by omega), sR_at]
theorem tsW_2 (w : AW) (lx : Nat) : (tsW w lx).2.1 (2 + lx) = uI (uI (w.2.1 (2 + lx)) 10 (w.2.1 (2 + lx) 10 + w.2.1 (2 + lx) 7)) 12 (w.2.1 (2 + lx) 12 + srcA (w.2.1 (5 + lx)) (w.2.1 (2 + lx) 7)) := by
  unfold tsW
  rw [sR_at]
theorem rpW_2 (w : AW) (lx n : Nat) (q : Nat → Nat) : (rpW w lx n q).2.1 (2 + lx) = uI (w.2.1 (2 + lx)) 11 (w.2.1 (2 + lx) 11 + pSum w (5 + lx) q n) := by
  unfold rpW
  rw [sR_at]
theorem rpW_o (w : AW) {lx n j : Nat} {q : Nat → Nat} (h : j ≠ 2 + lx) : (rpW w lx n q).2.1 j = (pAll w (5 + lx) q n).2.1 j := by
  unfold rpW
  rw [sR_ne _ _ h]
theorem riW_2 (w : AW) (lx : Nat) : (riW w lx).2.1 (2 + lx) = uI (w.2.1 (2 + lx)) 12 (w.2.1 (2 + lx) 12 + riseA (w.2.1 (2 + lx) 8) (w.2.1 (5 + lx))) := by
  unfold riW
  rw [sR_at]
theorem riW_5 (w : AW) (lx : Nat) : (riW w lx).2.1 (5 + lx) = riseG (w.2.1 (2 + lx) 8) (w.2.1 (5 + lx)) := by
  unfold riW
  rw [sR_ne _ _ (by omega), sR_at]
theorem riW_o (w : AW) {lx j : Nat} (h1 : j ≠ 5 + lx) (h2 : j ≠ 2 + lx) : (riW w lx).2.1 j = w.2.1 j := by
  unfold riW
  rw [sR_ne _ _ h2, sR_ne _ _ h1]
theorem toW_o (w : AW) {lx j : Nat} (h1 : j ≠ 5 + lx) (h2 : j ≠ 8 + lx) (h3 : j ≠ 11 + lx) : (toW w lx).2.1 j = w.2.1 j := sR3_o w h1 h2 h3 _ _ _
/-- what one day of M's lake comes to -/
def mX (u : AW) (L np : Nat) : M3 := mpF L (u.2.1 429) (u.2.1 423) (u.2.1 431) (u.2.1 432) (g3 (adA u L)) np
theorem gH_D (v : AW) : gH (adD v) = turnF 200 (gH v) := by
  unfold adD sH
  generalize turnF 200 (gH v) = r
  rfl
theorem am_420 (u : AW) (L np : Nat) : gH (amW u L np) = turnF 200 (riseG (u.2.1 413 L) (mX u L np).1, u.2.1 421, u.2.1 422) := by
  show gH (adD (adC (adB (adA u L) L np) L)) = _
  rw [gH_D]
  rfl
theorem md_424 (u : AW) (L np : Nat) : (mdW u L np).2.1 424 = (mX u L np).2.2 := by
  show (adE (adD (adC (adB (adA u L) L np) L)) L).2.1 424 = _
  rw [adE_o _ _ (by decide) (by decide), adD_o _ (by decide) (by decide) (by decide), adC_o _ _ (by decide) (by decide)]
  rfl
theorem md_425 (u : AW) (L np : Nat) : (mdW u L np).2.1 425 = (mX u L np).2.1 := by
  show (adE (adD (adC (adB (adA u L) L np) L)) L).2.1 425 = _
  rw [adE_o _ _ (by decide) (by decide), adD_o _ (by decide) (by decide) (by decide), adC_o _ _ (by decide) (by decide)]
  rfl
theorem md_26 (u : AW) (L np : Nat) : (mdW u L np).2.1 400 26 = srcA (u.2.1 420) (u.2.1 412 L) + riseA (u.2.1 413 L) (mX u L np).1 := by
  show (adE (amW u L np) L).2.1 400 26 = _
  rw [adE_28 _ _ _ (by decide)]
  rfl
theorem md_o (u : AW) (L np : Nat) {j : Nat} (h : noH j ∨ j = 423) : (mdW u L np).2.1 j = u.2.1 j := by
  rcases h with h | rfl
  · exact (MF_md u L np).2.2.1 j h
  · show (adE (adD (adC (adB (adA u L) L np) L)) L).2.1 423 = _
    rw [adE_o _ _ (by decide) (by decide), adD_o _ (by decide) (by decide) (by decide), adC_o _ _ (by decide) (by decide), adB_o _ _ _ (by decide) (by decide) (by decide), adA_o _ _ (by decide) (by decide)]
theorem day_both {w u : AW} {lx L n np : Nat} {q : Nat → Nat} (hlx : lx < 3) (hP : PQ w lx n q) (hD : DV w u lx L n np q) (hl : ∀ p, p < np → 0 ≤ u.2.1 423 p ∧ u.2.1 423 p < 10) :
    goB w lx n q = mdB u L np ∧ DV (goW w lx n q) (mdW u L np) lx L n np q ∧
    ((goW w lx n q).2.1 (2 + lx) 10 = w.2.1 (2 + lx) 10 + w.2.1 (2 + lx) 7 ∧ (goW w lx n q).2.1 (2 + lx) 11 = w.2.1 (2 + lx) 11 + ofS (u.2.1 429) L ((mdW u L np).2.1 424) np ∧ (goW w lx n q).2.1 (2 + lx) 12 = w.2.1 (2 + lx) 12 + (mdW u L np).2.1 400 26 ∧
      (goW w lx n q).2.1 (2 + lx) 13 = (if mdB u L np = 1 then w.2.1 (2 + lx) 13 + (mdW u L np).2.1 400 27 else w.2.1 (2 + lx) 13) ∧ (goW w lx n q).2.1 (2 + lx) 14 = (if mdB u L np = 1 then (mdW u L np).2.1 400 27 else w.2.1 (2 + lx) 14)) ∧
    (∀ p, p < np → u.2.1 429 p = (L : Int) → (goW w lx n q).2.1 (q (rkF (u.2.1 429) L p)) 5 = w.2.1 (q (rkF (u.2.1 429) L p)) 5 + (mdW u L np).2.1 424 p) ∧
    (∀ j, j ≠ 2 + lx → j ≠ 5 + lx → j ≠ 8 + lx → j ≠ 11 + lx → (∀ i, i < n → j ≠ q i) → (goW w lx n q).2.1 j = w.2.1 j) ∧ (∀ i, i < n → ∀ f, f ≠ 4 → f ≠ 5 → (goW w lx n q).2.1 (q i) f = w.2.1 (q i) f) ∧ (∀ f, f < 10 → (goW w lx n q).2.1 (2 + lx) f = w.2.1 (2 + lx) f) := by
  obtain ⟨⟨a5, a8, a11⟩, ⟨n5, n6, n7, n8⟩, hn, hr⟩ := hD
  have hq5 : ∀ i, i < n → 50 ≤ q i := fun i hi => (hP.2.2.1 i hi).2.1
  have hP0 : PQ (tsW w lx) lx n q := PQ_same hP rfl rfl (by rw [tsW_2]; rfl) (fun i hi => tsW_o w (by have := hq5 i hi; omega) (by have := hq5 i hi; omega))
  have hg0 : A10 ((tsW w lx).2.1 (5 + lx)) (g3 (adA u L)).1 := by
    rw [tsW_5]
    exact (srcF_A a5 n7).1
  have hr0 : ∀ p, p < np → u.2.1 429 p = (L : Int) → (tsW w lx).2.1 (q (rkF (u.2.1 429) L p)) 1 = u.2.1 423 p ∧ (tsW w lx).2.1 (q (rkF (u.2.1 429) L p)) 2 = u.2.1 431 p ∧ (tsW w lx).2.1 (q (rkF (u.2.1 429) L p)) 3 = u.2.1 432 p ∧ (tsW w lx).2.1 (q (rkF (u.2.1 429) L p)) 4 = (g3 (adA u L)).2.1 p := by
    intro p hp hpl
    have h5 := hq5 _ (show rkF (u.2.1 429) L p < n by rw [hn]; exact rk_lt hpl hp)
    rw [tsW_o w (by omega) (by omega)]
    exact hr p hp hpl
  obtain ⟨i1, i2, i3⟩ := day_pipes (w := tsW w lx) (x := g3 (adA u L)) hlx hP0 hg0 hn hl hr0 np (Nat.le_refl _)
  change A10 _ (mX u L np).1 at i1
  change pSum _ _ _ _ = ofS (u.2.1 429) L (mX u L np).2.2 np at i3
  rw [← hn] at i1 i2 i3
  -- X's rows
  have x1 : (rpW (tsW w lx) lx n q).2.1 (5 + lx) = (pAll (tsW w lx) (5 + lx) q n).2.1 (5 + lx) := rpW_o _ (by omega)
  have x8 : ∀ f, f < 10 → (rpW (tsW w lx) lx n q).2.1 (2 + lx) f = w.2.1 (2 + lx) f := by
    intro f hf
    rw [rpW_2, tsW_2]
    unfold uI
    rw [if_neg (by omega), if_neg (by omega), if_neg (by omega)]
  have xo : ∀ j, j ≠ 2 + lx → j ≠ 5 + lx → (∀ i, i < n → j ≠ q i) → (rpW (tsW w lx) lx n q).2.1 j = w.2.1 j := by
    intro j h2 h5 hq
    rw [rpW_o _ h2, pAll_o _ h5 n hq, tsW_o w h5 h2]
  have y3 : A3 (gT (riW (rpW (tsW w lx) lx n q) lx) lx) (riseG (u.2.1 413 L) (mX u L np).1, u.2.1 421, u.2.1 422) := by
    refine ⟨?_, ?_, ?_⟩
    · show A10 ((riW (rpW (tsW w lx) lx n q) lx).2.1 (5 + lx)) _
      rw [riW_5, x1]
      exact (riseG_A i1 (by rw [x8 8 (by decide)]; exact n8)).1
    · show A10 ((riW (rpW (tsW w lx) lx n q) lx).2.1 (8 + lx)) _
      rw [riW_o _ (by omega) (by omega), xo (8 + lx) (by omega) (by omega) (fun i hi => by have := hq5 i hi; omega)]
      exact a8
    · show A10 ((riW (rpW (tsW w lx) lx n q) lx).2.1 (11 + lx)) _
      rw [riW_o _ (by omega) (by omega), xo (11 + lx) (by omega) (by omega) (fun i hi => by have := hq5 i hi; omega)]
      exact a11
  have yA : riseA (w.2.1 (2 + lx) 8) ((pAll (tsW w lx) (5 + lx) q n).2.1 (5 + lx)) = riseA (u.2.1 413 L) (mX u L np).1 := (riseG_A i1 n8).2
  have yS : srcA (w.2.1 (5 + lx)) (w.2.1 (2 + lx) 7) = srcA (u.2.1 420) (u.2.1 412 L) := (srcF_A a5 n7).2
  have z3 : A3 (gT (dayW w lx n q) lx) (gH (amW u L np)) := by
    rw [am_420]
    show A3 (gT (sT (riW (rpW (tsW w lx) lx n q) lx) lx (turnF 200 (gT (riW (rpW (tsW w lx) lx n q) lx) lx))) lx) _
    rw [gT_sT hlx]
    exact turnF_A 200 y3
  have d2 : (dayW w lx n q).2.1 (2 + lx) = uI (uI (uI (uI (w.2.1 (2 + lx)) 10 (w.2.1 (2 + lx) 10 + w.2.1 (2 + lx) 7)) 12 (w.2.1 (2 + lx) 12 + srcA (u.2.1 420) (u.2.1 412 L))) 11 (w.2.1 (2 + lx) 11 + ofS (u.2.1 429) L (mX u L np).2.2 np)) 12 (w.2.1 (2 + lx) 12 + srcA (u.2.1 420) (u.2.1 412 L) + riseA (u.2.1 413 L) (mX u L np).1) := by
    show (toW (riW (rpW (tsW w lx) lx n q) lx) lx).2.1 (2 + lx) = _
    rw [toW_o _ (by omega) (by omega) (by omega), riW_2, x8 8 (by decide), x1, yA, rpW_2, i3, tsW_2, yS]
    rfl
  have d2f : ∀ f, f < 10 → (dayW w lx n q).2.1 (2 + lx) f = w.2.1 (2 + lx) f := by
    intro f hf
    rw [d2]
    unfold uI
    rw [if_neg (by omega), if_neg (by omega), if_neg (by omega), if_neg (by omega)]
  have dq : ∀ i, i < n → (dayW w lx n q).2.1 (q i) = (pAll (tsW w lx) (5 + lx) q n).2.1 (q i) := by
    intro i hi
    have h5 := hq5 i hi
    show (toW (riW (rpW (tsW w lx) lx n q) lx) lx).2.1 (q i) = _
    rw [toW_o _ (by omega) (by omega) (by omega), riW_o _ (by omega) (by omega), rpW_o _ (by omega)]
  have dqf : ∀ i, i < n → ∀ f, f ≠ 4 → f ≠ 5 → (dayW w lx n q).2.1 (q i) f = w.2.1 (q i) f := by
    intro i hi f h4 h5
    have h9 := hq5 i hi
    rw [dq i hi, (pAll_q hlx hP0 n (Nat.le_refl _) i hi).1 f h4 h5, tsW_o w (by omega) (by omega)]
  have dn : ∀ j, j ≠ 2 + lx → j ≠ 5 + lx → j ≠ 8 + lx → j ≠ 11 + lx → (∀ i, i < n → j ≠ q i) → (dayW w lx n q).2.1 j = w.2.1 j := by
    intro j h2 h5 h8 h11 hq
    show (toW (riW (rpW (tsW w lx) lx n q) lx) lx).2.1 j = _
    rw [toW_o _ h5 h8 h11, riW_o _ h5 h2, xo j h2 h5 hq]
  have el : brk (dayW w lx n q) lx = adL (amW u L np) L := lowF_A (by rw [d2f 5 (by decide)]; exact n5) (by rw [d2f 6 (by decide)]; exact n6) 10 (Nat.le_refl _) z3.1
  -- the burst
  have G2 : ∀ f, f < 13 → (goW w lx n q).2.1 (2 + lx) f = (dayW w lx n q).2.1 (2 + lx) f := by
    intro f hf
    unfold goW
    split
    · rfl
    · show (burW _ _ _).2.1 (2 + lx) f = _
      unfold burW
      rw [sR_at]
      unfold uI
      rw [if_neg (by omega), if_neg (by omega)]
  have Go : ∀ j, j ≠ 2 + lx → j ≠ 5 + lx → (goW w lx n q).2.1 j = (dayW w lx n q).2.1 j := by
    intro j h2 h5
    unfold goW
    split
    · rfl
    · unfold burW
      rw [sR_ne _ _ h2, sR_ne _ _ h5]
  have G5 : A10 ((goW w lx n q).2.1 (5 + lx)) ((mdW u L np).2.1 420) := by
    show A10 _ ((adE (amW u L np) L).2.1 420)
    unfold goW adE
    rw [el]
    cases adL (amW u L np) L with
    | none => exact z3.1
    | some m =>
      show A10 ((burW (dayW w lx n q) lx m).2.1 (5 + lx)) _
      unfold burW
      rw [sR_ne _ _ (by omega), sR_at]
      exact zeroF_A _ z3.1
  have hB : goB w lx n q = mdB u L np := by
    unfold goB mdB adR
    rw [el]
    cases adL (amW u L np) L <;> rfl
  have G13 : (goW w lx n q).2.1 (2 + lx) 13 = (if mdB u L np = 1 then w.2.1 (2 + lx) 13 + (mdW u L np).2.1 400 27 else w.2.1 (2 + lx) 13) ∧ (goW w lx n q).2.1 (2 + lx) 14 = (if mdB u L np = 1 then (mdW u L np).2.1 400 27 else w.2.1 (2 + lx) 14) := by
    have e13 : (dayW w lx n q).2.1 (2 + lx) 13 = w.2.1 (2 + lx) 13 := by rw [d2]; rfl
    have e14 : (dayW w lx n q).2.1 (2 + lx) 14 = w.2.1 (2 + lx) 14 := by rw [d2]; rfl
    show _ = (if _ then _ + (adE (amW u L np) L).2.1 400 27 else _) ∧ _ = (if _ then (adE (amW u L np) L).2.1 400 27 else _)
    unfold goW mdB adR adE
    rw [el]
    cases hh : adL (amW u L np) L with
    | none =>
      show (dayW w lx n q).2.1 (2 + lx) 13 = (if (0 : Int) = 1 then _ else _) ∧ (dayW w lx n q).2.1 (2 + lx) 14 = (if (0 : Int) = 1 then _ else _)
      rw [if_neg (by decide), if_neg (by decide)]
      exact ⟨e13, e14⟩
    | some m =>
      have es := sumF_A (m + 1) (by
        have := lowF_lt 10 m hh
        omega) z3.1
      show (burW (dayW w lx n q) lx m).2.1 (2 + lx) 13 = (if (1 : Int) = 1 then _ + sumF ((amW u L np).2.1 420) (m + 1) else _) ∧ (burW (dayW w lx n q) lx m).2.1 (2 + lx) 14 = (if (1 : Int) = 1 then sumF ((amW u L np).2.1 420) (m + 1) else _)
      rw [if_pos rfl, if_pos rfl, ← es]
      unfold burW
      rw [sR_at]
      exact ⟨by show (dayW w lx n q).2.1 (2 + lx) 13 + _ = _; rw [e13], rfl⟩
  refine ⟨hB, ⟨⟨G5, ?_, ?_⟩, ⟨?_, ?_, ?_, ?_⟩, ?_, ?_⟩, ⟨?_, ?_, ?_, G13.1, G13.2⟩, ?_, ?_, ?_, ?_⟩
  · show A10 ((goW w lx n q).2.1 (8 + lx)) ((adE (amW u L np) L).2.1 421)
    rw [Go _ (by omega) (by omega), adE_o _ _ (by decide) (by decide)]
    exact z3.2.1
  · show A10 ((goW w lx n q).2.1 (11 + lx)) ((adE (amW u L np) L).2.1 422)
    rw [Go _ (by omega) (by omega), adE_o _ _ (by decide) (by decide)]
    exact z3.2.2
  · rw [G2 5 (by decide), d2f 5 (by decide), md_o u L np (j := 410) (Or.inl ⟨by decide, by decide, by decide, by decide, by decide, by decide, by decide⟩)]; exact n5
  · rw [G2 6 (by decide), d2f 6 (by decide), md_o u L np (j := 411) (Or.inl ⟨by decide, by decide, by decide, by decide, by decide, by decide, by decide⟩)]; exact n6
  · rw [G2 7 (by decide), d2f 7 (by decide), md_o u L np (j := 412) (Or.inl ⟨by decide, by decide, by decide, by decide, by decide, by decide, by decide⟩)]; exact n7
  · rw [G2 8 (by decide), d2f 8 (by decide), md_o u L np (j := 413) (Or.inl ⟨by decide, by decide, by decide, by decide, by decide, by decide, by decide⟩)]; exact n8
  · rw [md_o u L np (j := 429) (Or.inl ⟨by decide, by decide, by decide, by decide, by decide, by decide, by decide⟩)]; exact hn
  · intro p hp hpl
    rw [md_o u L np (j := 429) (Or.inl ⟨by decide, by decide, by decide, by decide, by decide, by decide, by decide⟩)] at hpl ⊢
    have hk : rkF (u.2.1 429) L p < n := by rw [hn]; exact rk_lt hpl hp
    have h5 := hq5 _ hk
    rw [Go _ (by omega) (by omega), dqf _ hk 1 (by decide) (by decide), dqf _ hk 2 (by decide) (by decide), dqf _ hk 3 (by decide) (by decide), dq _ hk, md_425, md_o u L np (j := 423) (Or.inr rfl), md_o u L np (j := 431) (Or.inl ⟨by decide, by decide, by decide, by decide, by decide, by decide, by decide⟩), md_o u L np (j := 432) (Or.inl ⟨by decide, by decide, by decide, by decide, by decide, by decide, by decide⟩)]
    obtain ⟨c1, c2, c3, -⟩ := hr p hp hpl
    exact ⟨c1, c2, c3, ((i2 p hp hpl).1 hp).1⟩
  · rw [G2 10 (by decide), d2]; rfl
  · rw [G2 11 (by decide), d2, md_424]; rfl
  · rw [G2 12 (by decide), d2, md_26]
    show w.2.1 (2 + lx) 12 + srcA _ _ + riseA _ _ = _
    rw [Int.add_assoc]
  · intro p hp hpl
    have hk : rkF (u.2.1 429) L p < n := by rw [hn]; exact rk_lt hpl hp
    have h5 := hq5 _ hk
    rw [Go _ (by omega) (by omega), dq _ hk, md_424, ((i2 p hp hpl).1 hp).2, tsW_o w (by omega) (by omega)]
    rfl
  · intro j h2 h5 h8 h11 hq
    rw [Go j h2 h5, dn j h2 h5 h8 h11 hq]
  · intro i hi f h4 h5
    have h9 := hq5 i hi
    rw [Go _ (by omega) (by omega), dqf i hi f h4 h5]
  · intro f hf
    rw [G2 f (by omega), d2f f hf]
