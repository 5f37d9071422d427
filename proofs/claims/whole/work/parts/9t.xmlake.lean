/-! ===== a lake's day gone by, by X and by M ===== -/
theorem rk_has {pl : Nat → Int} {L i : Nat} : ∀ {np : Nat}, i < rkF pl L np → ∃ p, p < np ∧ pl p = (L : Int) ∧ rkF pl L p = i
  | 0, h => absurd h (Nat.not_lt_zero _)
  | np + 1, h => by
    by_cases c : i < rkF pl L np
    · obtain ⟨p, a, b, d⟩ := rk_has c
      exact ⟨p, by omega, b, d⟩
    · by_cases e : pl np = (L : Int)
      · rw [rk_s e] at h
        exact ⟨np, by omega, e, by omega⟩
      · rw [rk_n e] at h
        exact absurd h c
theorem q_of {w u : AW} {n : Nat → Nat} {q : Nat → Nat → Nat} {np L i : Nat} (hR : LkE w u n q np) (hL : L < 2) (hi : i < n L) : ∃ p, p < np ∧ u.2.1 429 p = (L : Int) ∧ rkF (u.2.1 429) L p = i ∧ q L i = 50 + p := by
  obtain ⟨-, -, -, r9, r10⟩ := hR L hL
  rw [r9] at hi
  obtain ⟨p, a, b, c⟩ := rk_has hi
  exact ⟨p, a, b, c, by rw [← c]; exact r10 p a b⟩
theorem QD_of {w u : AW} {n : Nat → Nat} {q : Nat → Nat → Nat} {np : Nat} (hR : LkE w u n q np) : QD n q := by
  intro i j hi hj e
  obtain ⟨p, -, b, -, d⟩ := q_of hR (L := 0) (by decide) hi
  obtain ⟨p', -, b', -, d'⟩ := q_of hR (L := 1) (by decide) hj
  obtain rfl : p = p' := by omega
  rw [b] at b'
  exact absurd b' (by decide)
theorem DV_pz {w u : AW} {n : Nat → Nat} {q : Nat → Nat → Nat} {np L : Nat} (hL : L < 2) (hR : LkE w u n q np) (hp : PpE w u np) : DV w (pz1 u L np) L L (n L) np (q L) := by
  obtain ⟨r1, ⟨r5, r6, r7, r8, -⟩, -, r9, r10⟩ := hR L hL
  have t := fun (j : Nat) (h : noH j) (h5 : j ≠ 415) => (show (pz1 u L np).2.1 j = u.2.1 j by unfold pz1; rw [upI_o _ _ _ h5, (MF_tk u L np).2.2.1 j h])
  have t429 : (pz1 u L np).2.1 429 = u.2.1 429 := t 429 ⟨by decide, by decide, by decide, by decide, by decide, by decide, by decide⟩ (by decide)
  have h0 : (pz1 u L np).2.1 420 = (tkW u L np).2.1 420 := upI_o _ _ _ (by decide)
  have h1 : (pz1 u L np).2.1 421 = (tkW u L np).2.1 421 := upI_o _ _ _ (by decide)
  have h2 : (pz1 u L np).2.1 422 = (tkW u L np).2.1 422 := upI_o _ _ _ (by decide)
  have h3 : (pz1 u L np).2.1 423 = (tkW u L np).2.1 423 := upI_o _ _ _ (by decide)
  have h5 : (pz1 u L np).2.1 425 = (tkW u L np).2.1 425 := upI_o _ _ _ (by decide)
  refine ⟨⟨?_, ?_, ?_⟩, ⟨?_, ?_, ?_, ?_⟩, ?_, ?_⟩
  · intro i hi
    show w.2.1 (5 + L) i = (pz1 u L np).2.1 420 i
    rw [h0]
    exact (r1 i hi).1.trans (if_pos hi).symm
  · intro i hi
    show w.2.1 (8 + L) i = (pz1 u L np).2.1 421 i
    rw [h1]
    exact (r1 i hi).2.1.trans (if_pos hi).symm
  · intro i hi
    show w.2.1 (11 + L) i = (pz1 u L np).2.1 422 i
    rw [h2]
    exact (r1 i hi).2.2.trans (if_pos hi).symm
  · rw [t 410 ⟨by decide, by decide, by decide, by decide, by decide, by decide, by decide⟩ (by decide)]; exact r5
  · rw [t 411 ⟨by decide, by decide, by decide, by decide, by decide, by decide, by decide⟩ (by decide)]; exact r6
  · rw [t 412 ⟨by decide, by decide, by decide, by decide, by decide, by decide, by decide⟩ (by decide)]; exact r7
  · rw [t 413 ⟨by decide, by decide, by decide, by decide, by decide, by decide, by decide⟩ (by decide)]; exact r8
  · rw [t429]; exact r9
  · intro p hp2 hpl
    rw [t429] at hpl ⊢
    obtain ⟨k1, k2⟩ := tkW_423 u L np hp2
    obtain ⟨p0, p1, p2, p3, p4, -, -⟩ := hp.1 p hp2
    rw [r10 p hp2 hpl, h3, h5, k1, k2, t 431 ⟨by decide, by decide, by decide, by decide, by decide, by decide, by decide⟩ (by decide), t 432 ⟨by decide, by decide, by decide, by decide, by decide, by decide, by decide⟩ (by decide)]
    exact ⟨p1, p2, p3, p4⟩
theorem pz_both {w u : AW} {n : Nat → Nat} {q : Nat → Nat → Nat} {np L : Nat} (hL : L < 2) (hP : PQ w L (n L) (q L)) (hR : LkE w u n q np) (hp : PpE w u np) (hPI : MPI u np) :
    goB w L (n L) (q L) = mdB (pz1 u L np) L np ∧ LkE (goW w L (n L) (q L)) (pzW u L np) n q np ∧ PpE (goW w L (n L) (q L)) (pzW u L np) np := by
  have hD := DV_pz hL hR hp
  have t := fun (j : Nat) (h : noH j) (h5 : j ≠ 415) => (show (pz1 u L np).2.1 j = u.2.1 j by unfold pz1; rw [upI_o _ _ _ h5, (MF_tk u L np).2.2.1 j h])
  have t429 : (pz1 u L np).2.1 429 = u.2.1 429 := t 429 ⟨by decide, by decide, by decide, by decide, by decide, by decide, by decide⟩ (by decide)
  have h3 : (pz1 u L np).2.1 423 = (tkW u L np).2.1 423 := upI_o _ _ _ (by decide)
  have hl : ∀ p, p < np → 0 ≤ (pz1 u L np).2.1 423 p ∧ (pz1 u L np).2.1 423 p < 10 := by
    intro p hp2
    rw [h3, (tkW_423 u L np hp2).1]
    obtain ⟨-, -, c, d, -⟩ := hPI.2.2 p hp2
    exact ⟨c, d⟩
  obtain ⟨hB, hD2, ⟨s0, s1, s2, s3, s4⟩, hof, hfr, hqf, h2f⟩ := day_both (by omega) hP hD hl
  change DV (goW w L (n L) (q L)) (mU u L np) L L (n L) np (q L) at hD2
  change _ = _ + ofS _ L ((mU u L np).2.1 424) np at s1
  change _ = _ + (mU u L np).2.1 400 26 at s2
  change _ = (if _ then _ + (mU u L np).2.1 400 27 else _) at s3
  change _ = (if _ then (mU u L np).2.1 400 27 else _) at s4
  change ∀ p, p < np → (pz1 u L np).2.1 429 p = (L : Int) → (goW w L (n L) (q L)).2.1 (q L (rkF ((pz1 u L np).2.1 429) L p)) 5 = w.2.1 (q L (rkF ((pz1 u L np).2.1 429) L p)) 5 + (mU u L np).2.1 424 p at hof
  rw [t429] at s1 hof
  have hU429 : (mU u L np).2.1 429 = u.2.1 429 := by rw [mU_o u L np ⟨by decide, by decide, by decide, by decide, by decide, by decide, by decide⟩, upI_o _ _ _ (by decide)]
  have hU := fun (j : Nat) (h : pzO j) => pzW_o u L np h
  have e429 : (pzW u L np).2.1 429 = u.2.1 429 := hU 429 (pzO_d 429 (by decide))
  have hq5 : ∀ i, i < n L → 50 ≤ q L i := fun i hi => (hP.2.2.1 i hi).2.1
  obtain ⟨c7, c8, c9⟩ := pzW_c u L np
  obtain ⟨b8, b9, -⟩ := pzW_b u L np
  refine ⟨hB, fun L' hL' => ?_, fun p hp2 => ?_, fun p h1 h2 => ?_⟩
  · obtain ⟨r1, ⟨r5, r6, r7, r8, r9⟩, ⟨x0, x1, x2, x3, x4⟩, rn, rq⟩ := hR L' hL'
    have eN : (pzW u L np).2.1 410 = u.2.1 410 ∧ (pzW u L np).2.1 411 = u.2.1 411 ∧ (pzW u L np).2.1 412 = u.2.1 412 ∧ (pzW u L np).2.1 413 = u.2.1 413 ∧ (pzW u L np).2.1 414 = u.2.1 414 :=
      ⟨hU 410 (pzO_d 410 (by decide)), hU 411 (pzO_d 411 (by decide)), hU 412 (pzO_d 412 (by decide)), hU 413 (pzO_d 413 (by decide)), hU 414 (pzO_d 414 (by decide))⟩
    rw [eN.1, eN.2.1, eN.2.2.1, eN.2.2.2.1, eN.2.2.2.2, e429]
    by_cases e : L' = L
    · subst e
      refine ⟨fun i hi => ?_, ?_, ⟨?_, ?_, ?_, ?_, ?_⟩, rn, rq⟩
      · rw [c7, c8, c9, lyF_at, lyF_at, lyF_at, if_pos ⟨by omega, by omega⟩, if_pos ⟨by omega, by omega⟩, if_pos ⟨by omega, by omega⟩, show 10 * L' + i - 10 * L' = i by omega]
        exact ⟨hD2.1.1 i hi, hD2.1.2.1 i hi, hD2.1.2.2 i hi⟩
      · rw [h2f 5 (by decide), h2f 6 (by decide), h2f 7 (by decide), h2f 8 (by decide), h2f 9 (by decide)]
        exact ⟨r5, r6, r7, r8, r9⟩
      · rw [s0, pzW_15, if_pos rfl, x0, r7]
      · rw [s1, pzW_16, if_pos rfl, x1]
      · rw [s2, pzW_17, if_pos rfl, x2]
      · rw [s3, b8, x3]
        by_cases c : mdB (pz1 u L' np) L' np = 1
        · rw [if_pos c, if_pos ⟨rfl, c⟩]
        · rw [if_neg c, if_neg (fun z => c z.2)]
      · rw [s4, b9, x4]
        by_cases c : mdB (pz1 u L' np) L' np = 1
        · rw [if_pos c, if_pos ⟨rfl, c⟩]
        · rw [if_neg c, if_neg (fun z => c z.2)]
    · have fr := fun (j : Nat) (a : j < 50) (b : j ≠ 2 + L ∧ j ≠ 5 + L ∧ j ≠ 8 + L ∧ j ≠ 11 + L) => hfr j b.1 b.2.1 b.2.2.1 b.2.2.2 (fun i hi => by have := hq5 i hi; omega)
      rw [fr (5 + L') (by omega) ⟨by omega, by omega, by omega, by omega⟩, fr (8 + L') (by omega) ⟨by omega, by omega, by omega, by omega⟩, fr (11 + L') (by omega) ⟨by omega, by omega, by omega, by omega⟩, fr (2 + L') (by omega) ⟨by omega, by omega, by omega, by omega⟩]
      refine ⟨fun i hi => ?_, ⟨r5, r6, r7, r8, r9⟩, ⟨?_, ?_, ?_, ?_, ?_⟩, rn, rq⟩
      · rw [c7, c8, c9, lyF_at, lyF_at, lyF_at, if_neg (by omega), if_neg (by omega), if_neg (by omega)]
        exact r1 i hi
      · rw [pzW_15, if_neg e]; exact x0
      · rw [pzW_16, if_neg e]; exact x1
      · rw [pzW_17, if_neg e]; exact x2
      · rw [b8, if_neg (fun z => e z.1)]; exact x3
      · rw [b9, if_neg (fun z => e z.1)]; exact x4
  · obtain ⟨p0, p1, p2, p3, p4, p5, p6⟩ := hp.1 p hp2
    obtain ⟨w35, w33⟩ := pzW_35 u L np p
    rw [e429, hU 430 (pzO_d 430 (by decide)), hU 431 (pzO_d 431 (by decide)), hU 432 (pzO_d 432 (by decide)), hU 434 (pzO_d 434 (by decide)), w35, w33]
    by_cases c : u.2.1 429 p = (L : Int)
    · rw [if_pos ⟨hp2, c⟩, if_pos ⟨hp2, c⟩]
      obtain ⟨-, -, -, rn, rq⟩ := hR L hL
      have hk : rkF (u.2.1 429) L p < n L := by rw [rn]; exact rk_lt c hp2
      have hqk := rq p hp2 c
      have f5 := hof p hp2 c
      obtain ⟨-, -, -, f4⟩ := hD2.2.2.2 p hp2 (by rw [hU429]; exact c)
      rw [hU429] at f4
      have ff := hqf _ hk
      rw [hqk] at f5 f4 ff
      rw [ff 0 (by decide) (by decide), ff 1 (by decide) (by decide), ff 2 (by decide) (by decide), ff 3 (by decide) (by decide), ff 6 (by decide) (by decide), f4, f5]
      exact ⟨p0, p1, p2, p3, rfl, by rw [p5], p6⟩
    · rw [if_neg (fun z => c z.2), if_neg (fun z => c z.2)]
      have hno : ∀ i, i < n L → 50 + p ≠ q L i := by
        intro i hi e
        obtain ⟨p', -, b, -, d⟩ := q_of hR hL hi
        obtain rfl : p = p' := by omega
        exact c b
      rw [hfr (50 + p) (by omega) (by omega) (by omega) (by omega) hno]
      exact ⟨p0, p1, p2, p3, p4, p5, p6⟩
  · obtain ⟨w35, w33⟩ := pzW_35 u L np p
    obtain ⟨a, b, c⟩ := hp.2 p h1 h2
    rw [w35, w33, if_neg (by omega), if_neg (by omega), hU 434 (pzO_d 434 (by decide))]
    exact ⟨a, b, c⟩
