/-! ===== days ahead by X and by M ===== -/
theorem fh_both {w u : AW} {lx L n np : Nat} {q : Nat → Nat} (hD : DV w u lx L n np q) : fullestF (w.2.1 (5 + lx)) (w.2.1 (2 + lx) 5) (w.2.1 (2 + lx) 6) 10 = fhM u L := fullestF_A hD.2.1.1 hD.2.1.2.1 10 (Nat.le_refl _) hD.1.1
theorem hl_md {u : AW} {L np : Nat} (hl : ∀ p, p < np → 0 ≤ u.2.1 423 p ∧ u.2.1 423 p < 10) : ∀ p, p < np → 0 ≤ (mdW u L np).2.1 423 p ∧ (mdW u L np).2.1 423 p < 10 := by
  rw [md_o u L np (j := 423) (Or.inr rfl)]
  exact hl
theorem db_both {L n np : Nat} : ∀ (d : Nat) (day : Int) (w u : AW), LN w 2 → PQ w 2 n sq → DV w u 2 L n np sq → (∀ p, p < np → 0 ≤ u.2.1 423 p ∧ u.2.1 423 p < 10) → (dbF n d day w).1 = (dbM L np d day u).1
  | 0, _, _, _, _, _, _, _ => rfl
  | d + 1, day, w, u, hN, hP, hD, hl => by
    obtain ⟨hB, hD2, -⟩ := day_both (by decide) hP hD hl
    obtain ⟨hN2, hP2⟩ := goW_ok (by decide) hN hP
    unfold dbF dbM
    rw [hB]
    split
    · rfl
    · exact db_both d _ _ _ hN2 hP2 hD2 (hl_md hl)
theorem df_both {L n np : Nat} {f : Int} : ∀ (d : Nat) (day : Int) (w u : AW), LN w 2 → PQ w 2 n sq → DV w u 2 L n np sq → (∀ p, p < np → 0 ≤ u.2.1 423 p ∧ u.2.1 423 p < 10) → (dfF n f (d + 1) day w).1 = (duM L np f d day u).1
  | 0, day, w, u, hN, hP, hD, hl => by
    have hf := fh_both hD
    unfold dfF duM
    rw [hf]
    split
    · rfl
    · split
      · rfl
      · rfl
  | d + 1, day, w, u, hN, hP, hD, hl => by
    obtain ⟨hB, hD2, -⟩ := day_both (by decide) hP hD hl
    obtain ⟨hN2, hP2⟩ := goW_ok (by decide) hN hP
    have hf := fh_both hD
    have ih := df_both (f := f) d (day + 1) _ _ hN2 hP2 hD2 (hl_md hl)
    rw [show dfF n f (d + 1 + 1) day w = if f ≤ fullestF (w.2.1 (5 + 2)) (w.2.1 (2 + 2) 5) (w.2.1 (2 + 2) 6) 10 then (day, w) else if goB w 2 n sq = 1 then (-2, goW w 2 n sq) else dfF n f (d + 1) (day + 1) (goW w 2 n sq) from rfl,
      show duM L np f (d + 1) day u = if f ≤ fhM u L then (day, u) else if mdB u L np = 1 then (-2, mdW u L np) else duM L np f d (day + 1) (mdW u L np) from rfl, hf, hB]
    split
    · rfl
    · split
      · rfl
      · exact ih
theorem dt_both {L n np : Nat} {share : Int} : ∀ (d : Nat) (day : Int) (w u : AW), LN w 2 → PQ w 2 n sq → DV w u 2 L n np sq → (∀ p, p < np → 0 ≤ u.2.1 423 p ∧ u.2.1 423 p < 10) → (dtb 2 n sq share d day w).1 = (dtM L np share d day u).1
  | 0, _, _, _, _, _, _, _ => rfl
  | d + 1, day, w, u, hN, hP, hD, hl => by
    obtain ⟨hB, hD2, -⟩ := day_both (by decide) hP hD hl
    obtain ⟨hN2, hP2⟩ := goW_ok (by decide) hN hP
    have hf := fh_both hD2
    unfold dtb dtM
    rw [hB, hf]
    split
    · rfl
    · split
      · rfl
      · exact dt_both d _ _ _ hN2 hP2 hD2 (hl_md hl)
/-- X's lakes (w) and M's (u) are the same -/
def LkE (w u : AW) (n : Nat → Nat) (q : Nat → Nat → Nat) (np : Nat) : Prop := ∀ L, L < 2 → (∀ i, i < 10 → w.2.1 (5 + L) i = u.2.1 407 (10 * L + i) ∧ w.2.1 (8 + L) i = u.2.1 408 (10 * L + i) ∧ w.2.1 (11 + L) i = u.2.1 409 (10 * L + i)) ∧
  (w.2.1 (2 + L) 5 = u.2.1 410 L ∧ w.2.1 (2 + L) 6 = u.2.1 411 L ∧ w.2.1 (2 + L) 7 = u.2.1 412 L ∧ w.2.1 (2 + L) 8 = u.2.1 413 L ∧ w.2.1 (2 + L) 9 = u.2.1 414 L) ∧
  (w.2.1 (2 + L) 10 = u.2.1 415 L ∧ w.2.1 (2 + L) 11 = u.2.1 416 L ∧ w.2.1 (2 + L) 12 = u.2.1 417 L ∧ w.2.1 (2 + L) 13 = u.2.1 418 L ∧ w.2.1 (2 + L) 14 = u.2.1 419 L) ∧
  n L = rkF (u.2.1 429) L np ∧ ∀ p, p < np → u.2.1 429 p = (L : Int) → q L (rkF (u.2.1 429) L p) = 50 + p
/-- and their pipes -/
def PpE (w u : AW) (np : Nat) : Prop := (∀ p, p < np → w.2.1 (50 + p) 0 = u.2.1 429 p ∧ w.2.1 (50 + p) 1 = u.2.1 430 p ∧ w.2.1 (50 + p) 2 = u.2.1 431 p ∧ w.2.1 (50 + p) 3 = u.2.1 432 p ∧ w.2.1 (50 + p) 4 = u.2.1 435 p ∧ w.2.1 (50 + p) 5 = u.2.1 433 p ∧ w.2.1 (50 + p) 6 = u.2.1 434 p) ∧
  ∀ p, np ≤ p → p < 6 → u.2.1 433 p = 0 ∧ u.2.1 434 p = 0 ∧ u.2.1 435 p = 0
theorem tkW_423 (u : AW) (L np : Nat) {p : Nat} (hp : p < np) : (tkW u L np).2.1 423 p = u.2.1 430 p ∧ (tkW u L np).2.1 425 p = u.2.1 435 p := by
  refine ⟨?_, ?_⟩
  · show cpR (u.2.1 423) (u.2.1 430) np p = _
    exact if_pos hp
  · show cpR (u.2.1 425) (u.2.1 435) np p = _
    exact if_pos hp
theorem tkW_H (u : AW) (L np : Nat) : gH (tkW u L np) = tkR u L 10 := rfl
theorem DV_tk {w u : AW} {n : Nat → Nat} {q : Nat → Nat → Nat} {np S L : Nat} (hX : XS w) (hL : L < 2) (hN : LN w L) (hP : PQ w L (n L) (q L)) (hq5 : ∀ i, i < n L → q L i < 56) (hS : SPI w S) (hR : LkE w u n q np) (hp : PpE w u np) (hPI : MPI u np) :
    LN (spW w n q S L) 2 ∧ PQ (spW w n q S L) 2 (n L) sq ∧ DV (spW w n q S L) (tkW u L np) 2 L (n L) np sq ∧ ∀ p, p < np → 0 ≤ (tkW u L np).2.1 423 p ∧ (tkW u L np).2.1 423 p < 10 := by
  obtain ⟨-, h1, h2⟩ := bcP_ok hX hL hN hP hq5 hS
  obtain ⟨r1, ⟨r5, r6, r7, r8, -⟩, -, r9, r10⟩ := hR L hL
  have lo := bcP_lo (bcB w L) S (q L) (n L)
  have b4 : (spW w n q S L).2.1 4 = bcF (w.2.1 4) (w.2.1 (2 + L)) := by unfold spW; rw [(lo 4 (by omega)).2.1]; unfold bcB; rw [sR_at]
  have b7 : (spW w n q S L).2.1 7 = cpR (w.2.1 7) (w.2.1 (5 + L)) 10 := by
    unfold spW; rw [(lo 7 (by omega)).2.1]; unfold bcB; rw [sR_ne _ _ (by omega), sR_ne _ _ (by omega), sR_ne _ _ (by omega), sR_at]
  have b10 : (spW w n q S L).2.1 10 = cpR (w.2.1 10) (w.2.1 (8 + L)) 10 := by
    unfold spW; rw [(lo 10 (by omega)).2.1]; unfold bcB; rw [sR_ne _ _ (by omega), sR_ne _ _ (by omega), sR_at]
  have b13 : (spW w n q S L).2.1 13 = cpR (w.2.1 13) (w.2.1 (11 + L)) 10 := by
    unfold spW; rw [(lo 13 (by omega)).2.1]; unfold bcB; rw [sR_ne _ _ (by omega), sR_at]
  have t := fun (j : Nat) (h : noH j) => tkW_o u L np (j := j) h.2.1 h.2.2.1 h.2.2.2.1 h.2.2.2.2.1 h.2.2.2.2.2.2
  have t429 : (tkW u L np).2.1 429 = u.2.1 429 := t 429 ⟨by decide, by decide, by decide, by decide, by decide, by decide, by decide⟩
  refine ⟨h1, h2, ⟨⟨?_, ?_, ?_⟩, ⟨?_, ?_, ?_, ?_⟩, ?_, ?_⟩, fun p hp2 => ?_⟩
  · intro i hi
    show (spW w n q S L).2.1 7 i = _
    rw [b7, tkW_H]
    show (if i < 10 then _ else _) = (if i < 10 then _ else _)
    rw [if_pos hi, if_pos hi]
    exact (r1 i hi).1
  · intro i hi
    show (spW w n q S L).2.1 10 i = _
    rw [b10, tkW_H]
    show (if i < 10 then _ else _) = (if i < 10 then _ else _)
    rw [if_pos hi, if_pos hi]
    exact (r1 i hi).2.1
  · intro i hi
    show (spW w n q S L).2.1 13 i = _
    rw [b13, tkW_H]
    show (if i < 10 then _ else _) = (if i < 10 then _ else _)
    rw [if_pos hi, if_pos hi]
    exact (r1 i hi).2.2
  · show (spW w n q S L).2.1 4 5 = _
    rw [b4, t 410 ⟨by decide, by decide, by decide, by decide, by decide, by decide, by decide⟩]; exact r5
  · show (spW w n q S L).2.1 4 6 = _
    rw [b4, t 411 ⟨by decide, by decide, by decide, by decide, by decide, by decide, by decide⟩]; exact r6
  · show (spW w n q S L).2.1 4 7 = _
    rw [b4, t 412 ⟨by decide, by decide, by decide, by decide, by decide, by decide, by decide⟩]; exact r7
  · show (spW w n q S L).2.1 4 8 = _
    rw [b4, t 413 ⟨by decide, by decide, by decide, by decide, by decide, by decide, by decide⟩]; exact r8
  · rw [t429]; exact r9
  · intro p hp2 hpl
    rw [t429] at hpl ⊢
    have hk : rkF (u.2.1 429) L p < n L := by rw [r9]; exact rk_lt hpl hp2
    obtain ⟨-, -, a3⟩ := bcP_hi (bcB w L) S (n L) (q L) hq5 hS.2.1 (n L) _ (Nat.le_refl _) hk
    have hqk := r10 p hp2 hpl
    obtain ⟨p0, p1, p2, p3, p4, -, -⟩ := hp.1 p hp2
    obtain ⟨k1, k2⟩ := tkW_423 u L np hp2
    have hh := fun (f : Nat) (hf : f < 5) => (show (spW w n q S L).2.1 (sq (rkF (u.2.1 429) L p)) f = w.2.1 (50 + p) f by
      rw [← hqk]
      exact (a3 f hf).trans (congrFun (bcB_o (by omega) (by omega) (by omega) (by omega)) f))
    rw [hh 1 (by decide), hh 2 (by decide), hh 3 (by decide), hh 4 (by decide), k1, k2, t 431 ⟨by decide, by decide, by decide, by decide, by decide, by decide, by decide⟩, t 432 ⟨by decide, by decide, by decide, by decide, by decide, by decide, by decide⟩]
    exact ⟨p1, p2, p3, p4⟩
  · rw [(tkW_423 u L np hp2).1]
    obtain ⟨-, -, c, d, -⟩ := hPI.2.2 p hp2
    exact ⟨c, d⟩
