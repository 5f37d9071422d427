/-! ===== a try by both ===== -/
theorem spR_c : ∀ (k : Nat) (r : Int) (f f' : Nat → Int) (j : Nat), j < k → spR k r f j = spR k r f' j
  | 0, _, _, _, _, h => absurd h (Nat.not_lt_zero _)
  | k + 1, r, f, f', j, h => by
    show spR k (r / 10) (uI f k (r % 10)) j = spR k (r / 10) (uI f' k (r % 10)) j
    by_cases e : j < k
    · exact spR_c k _ _ _ j e
    · obtain rfl : j = k := by omega
      rw [spR_hi j _ _ j (Nat.le_refl _), spR_hi j _ _ j (Nat.le_refl _), uI_at, uI_at]
/-- the k-th own pipe is o k -/
def OO (pl : Nat → Int) (L np m : Nat) (o : Nat → Nat) : Prop := ∀ k, k < m → o k < np ∧ pl (o k) = (L : Int) ∧ rkF pl L (o k) = k
theorem OO_at {pl : Nat → Int} {L np m p : Nat} {o : Nat → Nat} (h : OO pl L np m o) (hm : m = rkF pl L np) (hp : p < np) (hpl : pl p = (L : Int)) : rkF pl L p < m ∧ o (rkF pl L p) = p := by
  have hk : rkF pl L p < m := by rw [hm]; exact rk_lt hpl hp
  obtain ⟨h1, h2, h3⟩ := h _ hk
  exact ⟨hk, rk_inj h2 hpl h3⟩
theorem try_DV {x v : AW} {n : Nat → Nat} {q : Nat → Nat → Nat} {np S L : Nat} {f : Nat → Int} {o : Nat → Nat} (hX : XS x) (hL : L < 2) (hN : LN x L) (hP : PQ x L (n L) (q L)) (hq5 : ∀ i, i < n L → q L i < 56) (hS : SPI x S) (hR : LkE x v n q np) (hp : PpE x v np) (hPI : MPI v np) (hO : OO (v.2.1 429) L np (n L) o) (hf : ∀ k, k < n L → v.2.1 437 k = f k ∧ 0 ≤ f k ∧ f k < 10) :
    ∀ k, k ≤ n L → DV (tyA (spW x n q S L) (n L) f k) (dyF (tkW v L np) o k) 2 L (n L) np sq ∧ (∀ p, p < np → 0 ≤ (dyF (tkW v L np) o k).2.1 423 p ∧ (dyF (tkW v L np) o k).2.1 423 p < 10) ∧ ∀ j, k ≤ j → j < n L → (dyF (tkW v L np) o k).2.1 423 (o j) = v.2.1 430 (o j)
  | 0, _ => by
    obtain ⟨-, -, h3, h4⟩ := DV_tk hX hL hN hP hq5 hS hR hp hPI
    exact ⟨h3, h4, fun j _ hj => (tkW_423 v L np (hO j hj).1).1⟩
  | k + 1, hk => by
    obtain ⟨⟨i1, i2, i3, i4⟩, i5, i6⟩ := try_DV hX hL hN hP hq5 hS hR hp hPI hO hf k (by omega)
    obtain ⟨f1, f2⟩ := hf k (by omega)
    obtain ⟨o1, o2, o3⟩ := hO k (by omega)
    have e429 : (dyF (tkW v L np) o k).2.1 429 = v.2.1 429 := (dyF_o _ _ (by decide) (by decide) k).trans (tkW_o v L np (by decide) (by decide) (by decide) (by decide) (by decide))
    have e437 : (tkW v L np).2.1 437 = v.2.1 437 := tkW_o v L np (by decide) (by decide) (by decide) (by decide) (by decide)
    have e430 : (tkW v L np).2.1 430 = v.2.1 430 := tkW_o v L np (by decide) (by decide) (by decide) (by decide) (by decide)
    have hk1 := (i4 (o k) o1 (by rw [e429]; exact o2)).1
    rw [e429, o3, i6 k (Nat.le_refl _) (by omega)] at hk1
    have hm : n L = rkF (v.2.1 429) L np := by rw [i3, e429]
    show DV (tryW (tyA (spW x n q S L) (n L) f k) sq (n L) k (f k)) _ 2 L (n L) np sq ∧ _
    unfold tryW dyF
    rw [e437, e430, f1, hk1]
    by_cases e : f k = v.2.1 430 (o k)
    · rw [if_neg (fun t => t.2 e.symm), if_pos e]
      exact ⟨⟨i1, i2, i3, i4⟩, i5, fun j h1 h2 => i6 j (by omega) h2⟩
    · rw [if_pos ⟨by omega, fun t => e t.symm⟩, if_neg e]
      have x0 : ∀ j, j < 56 → (sR (tyA (spW x n q S L) (n L) f k) (sq k) (uI (uI ((tyA (spW x n q S L) (n L) f k).2.1 (sq k)) 1 (f k)) 4 1)).2.1 j = (tyA (spW x n q S L) (n L) f k).2.1 j := fun j hj => sR_ne _ _ (by unfold sq; omega)
      have m0 : ∀ j, j ≠ 423 → j ≠ 425 → (upI (upI (dyF (tkW v L np) o k) 423 (o k) (f k)) 425 (o k) 1).2.1 j = (dyF (tkW v L np) o k).2.1 j := fun j h1 h2 => (upI_o _ _ _ h2).trans (upI_o _ _ _ h1)
      have m23 : (upI (upI (dyF (tkW v L np) o k) 423 (o k) (f k)) 425 (o k) 1).2.1 423 = uI ((dyF (tkW v L np) o k).2.1 423) (o k) (f k) := (upI_o _ _ _ (by decide)).trans (upI_row _ _ _ _)
      have m25 : (upI (upI (dyF (tkW v L np) o k) 423 (o k) (f k)) 425 (o k) 1).2.1 425 = uI ((dyF (tkW v L np) o k).2.1 425) (o k) 1 := (upI_row _ _ _ _).trans (by rw [upI_o _ _ _ (by decide)])
      refine ⟨⟨?_, ?_, ?_, fun p hp2 hpl => ?_⟩, fun p hp2 => ?_, fun j h1 h2 => ?_⟩
      · show A3 ((sR _ _ _).2.1 (5 + 2), (sR _ _ _).2.1 (8 + 2), (sR _ _ _).2.1 (11 + 2)) ((upI _ _ _ _).2.1 420, (upI _ _ _ _).2.1 421, (upI _ _ _ _).2.1 422)
        rw [x0 _ (by decide), x0 _ (by decide), x0 _ (by decide), m0 420 (by decide) (by decide), m0 421 (by decide) (by decide), m0 422 (by decide) (by decide)]
        exact i1
      · rw [x0 _ (by decide), m0 410 (by decide) (by decide), m0 411 (by decide) (by decide), m0 412 (by decide) (by decide), m0 413 (by decide) (by decide)]
        exact i2
      · rw [m0 429 (by decide) (by decide)]
        exact i3
      · rw [m0 429 (by decide) (by decide)] at hpl ⊢
        rw [m0 431 (by decide) (by decide), m0 432 (by decide) (by decide), m23, m25]
        obtain ⟨j1, j2, j3, j4⟩ := i4 p hp2 hpl
        rw [e429] at hpl j1 j2 j3 j4 ⊢
        by_cases c : p = o k
        · subst c
          rw [o3] at j1 j2 j3 j4 ⊢
          rw [sR_at, uI_at, uI_at]
          refine ⟨?_, ?_, ?_, (uI_at _ _ _).symm⟩
          · rw [uI_ne _ _ (by decide), uI_at]
          · rw [uI_ne _ _ (by decide), uI_ne _ _ (by decide)]; exact j2
          · rw [uI_ne _ _ (by decide), uI_ne _ _ (by decide)]; exact j3
        · have hne : rkF (v.2.1 429) L p ≠ k := fun t => c (by rw [← (OO_at hO hm hp2 hpl).2, t])
          rw [sR_ne _ _ (show sq (rkF (v.2.1 429) L p) ≠ sq k by unfold sq; omega), uI_ne _ _ c, uI_ne _ _ c]
          exact ⟨j1, j2, j3, j4⟩
      · rw [m23]
        by_cases c : p = o k
        · subst c; rw [uI_at]; exact f2
        · rw [uI_ne _ _ c]; exact i5 p hp2
      · rw [m23]
        have c : o j ≠ o k := fun t => by
          have := (hO j h2).2.2
          rw [t, o3] at this
          omega
        rw [uI_ne _ _ c]
        exact i6 j (by omega) h2
theorem try_both {x v : AW} {n : Nat → Nat} {q : Nat → Nat → Nat} {np S L : Nat} {f : Nat → Int} {o : Nat → Nat} {share : Int} (hX : XS x) (hL : L < 2) (hN : LN x L) (hP : PQ x L (n L) (q L)) (hq5 : ∀ i, i < n L → q L i < 56) (hS : SPI x S) (hR : LkE x v n q np) (hp : PpE x v np) (hPI : MPI v np) (hO : OO (v.2.1 429) L np (n L) o) (hf : ∀ k, k < n L → v.2.1 437 k = f k ∧ 0 ≤ f k ∧ f k < 10) (d : Nat) :
    (dtb 2 (n L) sq share d 1 (tyA (spW x n q S L) (n L) f (n L))).1 = (dtM L np share d 1 (dyF (tkW v L np) o (n L))).1 := by
  obtain ⟨h1, h2, h3, h4⟩ := DV_tk hX hL hN hP hq5 hS hR hp hPI
  obtain ⟨g1, g2, -⟩ := try_DV hX hL hN hP hq5 hS hR hp hPI hO hf (n L) (Nat.le_refl _)
  have hXs : XS (spW x n q S L) := (bcP_ok hX hL hN hP hq5 hS).1
  obtain ⟨-, k2, k3⟩ := tyA_ok hXs h1 h2 (fun j hj => (hf j hj).2) (n L)
  exact dt_both d 1 _ _ k2 k3 g1 g2
theorem mov_both {x v : AW} {n : Nat → Nat} {q : Nat → Nat → Nat} {np L : Nat} {f : Nat → Int} {o : Nat → Nat} (hL : L < 2) (hR : LkE x v n q np) (hp : PpE x v np) (hO : OO (v.2.1 429) L np (n L) o) : ∀ k, k ≤ n L → (∀ j, j < k → v.2.1 437 j = f j) → movS x (q L) f k = mvF v o k
  | 0, _, _ => rfl
  | k + 1, hk, hf => by
    obtain ⟨o1, o2, o3⟩ := hO k (by omega)
    have e := (hR L hL).2.2.2.2 (o k) o1 o2
    rw [o3] at e
    have e1 := (hp.1 (o k) o1).2.1
    unfold movS mvF
    rw [mov_both hL hR hp hO k (by omega) (fun j hj => hf j (by omega)), e, e1, hf k (by omega)]
    by_cases c : v.2.1 430 (o k) = f k
    · rw [if_pos c, if_pos c.symm]
    · rw [if_neg c, if_neg (fun t => c t.symm)]
theorem OO_of {u : AW} {L np m : Nat} (hm : m = rkF (u.2.1 429) L np) : OO (u.2.1 429) L np m (ooM u L np) := by
  intro k hk
  rw [hm] at hk
  obtain ⟨p, p1, p2, p3, p4⟩ := loF_of (old := u.2.1 436) hk
  have e2 : ooM u L np k = p := by unfold ooM; rw [p4]; rfl
  rw [e2]
  exact ⟨p1, p2, p3⟩
