/-! ===== a pipe laid, by both ===== -/
theorem rkF_c {pl pl' : Nat → Int} {L : Nat} : ∀ p, (∀ j, j < p → pl j = pl' j) → rkF pl L p = rkF pl' L p
  | 0, _ => rfl
  | p + 1, h => by
    show rkF pl L p + (if pl p = (L : Int) then 1 else 0) = rkF pl' L p + (if pl' p = (L : Int) then 1 else 0)
    rw [rkF_c p (fun j hj => h j (by omega)), h p (by omega)]
theorem rk_sum2 {pl : Nat → Int} : ∀ p, (∀ j, j < p → 0 ≤ pl j ∧ pl j < 2) → rkF pl 0 p + rkF pl 1 p = p
  | 0, _ => rfl
  | p + 1, h => by
    have ih := rk_sum2 p (fun j hj => h j (by omega))
    have hp := h p (by omega)
    show (rkF pl 0 p + (if pl p = ((0 : Nat) : Int) then 1 else 0)) + (rkF pl 1 p + (if pl p = ((1 : Nat) : Int) then 1 else 0)) = p + 1
    by_cases e : pl p = 0
    · rw [if_pos (by omega), if_neg (by omega)]; omega
    · rw [if_neg (by omega), if_pos (by omega)]; omega
section LAY
variable {l : Launch} {ix : Nat} {w u w' u' : AW} {n n' : Nat → Nat} {q q' : Nat → Nat → Nat} {np np' S rn sn nv nr mk tl sz : Nat} {rp rc kf : Nat → Nat} {cl : Nat → List Int}
/-- a pipe laid, trouble not told yet -/
def piY (w : AW) (L n np : Nat) (z i f li : Int) : AW :=
  upI (upP (upI (upP (sR (alc w (50 + np) (103, 0)) (50 + np) (uI (uI (uI (uI ((alc w (50 + np) (103, 0)).2.1 (50 + np)) 0 z) 1 i) 2 f) 3 li)) (14 + L) n (some (50 + np))) (2 + L) 4 ((n : Int) + 1)) 17 np (some (50 + np))) 0 3 ((np : Int) + 1)
theorem piY_o (w : AW) (L n np : Nat) (z i f li : Int) {j : Nat} (h0 : j ≠ 0) (h2 : j ≠ 2 + L) (h : j ≠ 50 + np) : (piY w L n np z i f li).2.1 j = w.2.1 j := by
  unfold piY
  rw [upI_o _ _ _ h0]
  show (upI _ _ _ _).2.1 j = _
  rw [upI_o _ _ _ h2]
  show (sR _ _ _).2.1 j = _
  rw [sR_ne _ _ h]
  exact if_neg h
theorem piY_0 (w : AW) {L : Nat} (n : Nat) {np : Nat} (z i f li : Int) {g : Nat} (h : g ≠ 3) : (piY w L n np z i f li).2.1 0 g = w.2.1 0 g := by
  unfold piY
  rw [fne _ _ h]
  show (upI _ _ _ _).2.1 0 g = _
  rw [upI_o _ _ _ (by omega)]
  show (sR _ _ _).2.1 0 g = _
  rw [sR_ne _ _ (by omega)]
  exact congrFun (if_neg (by omega)) g
theorem piY_2 (w : AW) {L : Nat} (hL : L < 2) (n : Nat) {np : Nat} (z i f li : Int) : (piY w L n np z i f li).2.1 (2 + L) = uI (w.2.1 (2 + L)) 4 ((n : Int) + 1) := by
  unfold piY
  rw [upI_o _ _ _ (by omega)]
  show (upI _ _ _ _).2.1 (2 + L) = _
  rw [upI_row]
  show uI ((sR _ _ _).2.1 (2 + L)) 4 _ = _
  rw [sR_ne _ _ (by omega)]
  exact congrArg (fun x => uI x 4 ((n : Int) + 1)) (if_neg (by omega))
theorem piY_p (w : AW) {L : Nat} (hL : L < 2) (n np : Nat) (z i f li : Int) : (piY w L n np z i f li).2.1 (50 + np) = uI (uI (uI (uI (fun _ => 0) 0 z) 1 i) 2 f) 3 li := by
  unfold piY
  rw [upI_o _ _ _ (by omega)]
  show (upI _ _ _ _).2.1 (50 + np) = _
  rw [upI_o _ _ _ (by omega)]
  show (sR _ _ _).2.1 (50 + np) = _
  rw [sR_at]
  show uI (uI (uI (uI (if 50 + np = 50 + np then _ else _) 0 z) 1 i) 2 f) 3 li = _
  rw [if_pos rfl]
theorem piY_s (w : AW) (L n np : Nat) (z i f li : Int) {j : Nat} (h : j ≠ 50 + np) : (piY w L n np z i f li).1 j = w.1 j := if_neg h
theorem piY_q (w : AW) (L n np : Nat) (z i f li : Int) {j : Nat} (h17 : j ≠ 17) (h14 : j ≠ 14 + L) (h : j ≠ 50 + np) : (piY w L n np z i f li).2.2 j = w.2.2 j := by
  show (if j = 17 then _ else (if j = 14 + L then _ else (if j = 50 + np then _ else w.2.2 j))) = _
  rw [if_neg h17, if_neg h14, if_neg h]
theorem piY_14 (w : AW) {L : Nat} (hL : L < 2) (n np : Nat) (z i f li : Int) (k : Nat) : (piY w L n np z i f li).2.2 (14 + L) k = if k = n then some (50 + np) else w.2.2 (14 + L) k := by
  show (if 14 + L = 17 then (fun i => if i = np then some (50 + np) else (if (17 : Nat) = 14 + L then (fun i => if i = n then some (50 + np) else (if 14 + L = 50 + np then (fun _ => none) else w.2.2 (14 + L)) i) else (if (17 : Nat) = 50 + np then (fun _ => none) else w.2.2 17)) i) else (if 14 + L = 14 + L then (fun i => if i = n then some (50 + np) else (if 14 + L = 50 + np then (fun _ => none) else w.2.2 (14 + L)) i) else (if 14 + L = 50 + np then (fun _ => none) else w.2.2 (14 + L)))) k = _
  rw [if_neg (show ¬ 14 + L = 17 by omega), if_pos rfl, if_neg (show ¬ 14 + L = 50 + np by omega)]
theorem piY_17 (w : AW) {L : Nat} (hL : L < 2) (n np : Nat) (z i f li : Int) (k : Nat) : (piY w L n np z i f li).2.2 17 k = if k = np then some (50 + np) else w.2.2 17 k := by
  show (if (17 : Nat) = 17 then (fun i => if i = np then some (50 + np) else (if (17 : Nat) = 14 + L then (fun i => if i = n then some (50 + np) else (if 14 + L = 50 + np then (fun _ => none) else w.2.2 (14 + L)) i) else (if (17 : Nat) = 50 + np then (fun _ => none) else w.2.2 17)) i) else (if (17 : Nat) = 14 + L then (fun i => if i = n then some (50 + np) else (if 14 + L = 50 + np then (fun _ => none) else w.2.2 (14 + L)) i) else (if (17 : Nat) = 50 + np then (fun _ => none) else w.2.2 17))) k = _
  rw [if_pos rfl, if_neg (show ¬ (17 : Nat) = 14 + L by omega), if_neg (show ¬ (17 : Nat) = 50 + np by omega)]
theorem ppW_r (u : AW) (np : Nat) (z i f li : Int) : (ppW u np z i f li).2.1 429 = uI (u.2.1 429) np z ∧ (ppW u np z i f li).2.1 430 = uI (u.2.1 430) np i ∧ (ppW u np z i f li).2.1 431 = uI (u.2.1 431) np f ∧ (ppW u np z i f li).2.1 432 = uI (u.2.1 432) np li ∧ (ppW u np z i f li).2.1 400 28 = (np : Int) + 1 := ⟨rfl, rfl, rfl, rfl, rfl⟩
theorem ppW_o (u : AW) (np : Nat) (z i f li : Int) {j : Nat} (h : j ≠ 400 ∧ j ≠ 429 ∧ j ≠ 430 ∧ j ≠ 431 ∧ j ≠ 432) : (ppW u np z i f li).2.1 j = u.2.1 j := by
  unfold ppW
  rw [upI_o _ _ _ h.1, upI_o _ _ _ h.2.2.2.2, upI_o _ _ _ h.2.2.2.1, upI_o _ _ _ h.2.2.1, upI_o _ _ _ h.2.1]
theorem ppW_f (u : AW) (np : Nat) (z i f li : Int) {g : Nat} (h : g ≠ 28) : (ppW u np z i f li).2.1 400 g = u.2.1 400 g := by
  unfold ppW
  rw [fne _ _ h, upI_o _ _ _ (by decide), upI_o _ _ _ (by decide), upI_o _ _ _ (by decide), upI_o _ _ _ (by decide)]
theorem GB_pipe {L : Nat} {i f li : Int} (hL : L < 2) (hi : 0 ≤ i ∧ i < 10) (hf : 1 ≤ f ∧ f ≤ 500) (hli : 0 ≤ li ∧ li ≤ 100000) (hnp : np < 6) (hn : n L < 3) (g : GB ix w u n q np S rn sn nv nr mk tl sz rp rc kf cl) :
    GB ix (piY w L (n L) np (L : Int) i f li) (ppW u np (L : Int) i f li) (fun K => if K = L then n L + 1 else n K) (fun K k => if K = L ∧ k = n L then 50 + np else q K k) (np + 1) S rn sn nv nr mk tl sz rp rc kf cl := by
  have A := g.1
  obtain ⟨⟨a1, a2, a3, a4, a5, a6, a7⟩, B, C, D⟩ := A
  have hfree := B.2.2.2 np (Nat.le_refl _) hnp
  have hne : ∀ K, K < 2 → ∀ k, k < n K → q K k ≠ 50 + np := fun K hK k hk t => by
    have := ((a1.2.2.1 K hK).2.1.2.2.1 k hk).2.2.2.1
    rw [t] at this
    rw [this] at hfree
    exact absurd hfree (by decide)
  have o : ∀ j, j ≠ 0 → j ≠ 2 + L → j ≠ 50 + np → (piY w L (n L) np (L : Int) i f li).2.1 j = w.2.1 j := fun j x y t => piY_o w L (n L) np _ i f li x y t
  have f0 : ∀ g, g ≠ 3 → (piY w L (n L) np (L : Int) i f li).2.1 0 g = w.2.1 0 g := fun g hg => piY_0 w (n L) _ i f li hg
  have r2 := piY_2 w hL (n L) (np := np) (L : Int) i f li
  have rp' := piY_p w hL (n L) np (L : Int) i f li
  obtain ⟨m29, m30, m31, m32, m28⟩ := ppW_r u np (L : Int) i f li
  have o' : ∀ j, j ≠ 400 → j < 429 ∨ 432 < j → (ppW u np (L : Int) i f li).2.1 j = u.2.1 j := fun j x y => ppW_o u np _ i f li (by omega)
  have f' : ∀ g, g ≠ 28 → (ppW u np (L : Int) i f li).2.1 400 g = u.2.1 400 g := fun g hg => ppW_f u np _ i f li hg
  have hX : XS (piY w L (n L) np (L : Int) i f li) := by
    refine ⟨fun j hj => (piY_s w L (n L) np _ i f li (by omega)).trans (a1.1.1 j hj), fun p hp => ?_⟩
    have hb : ∀ p ∈ ptX, p.1 ≠ 17 ∧ p.1 ≠ 14 ∧ p.1 ≠ 15 ∧ p.1 < 43 := by decide
    have := hb p hp
    rw [piY_q w L (n L) np _ i f li (by omega) (by omega) (by omega)]
    exact a1.1.2 p hp
  have hS : SPI (piY w L (n L) np (L : Int) i f li) S := by
    obtain ⟨s1, s2, s3⟩ := a1.2.1
    refine ⟨s1, fun j hj => ?_, fun j x y => ?_⟩
    · rw [piY_q w L (n L) np _ i f li (by omega) (by omega) (by omega), piY_s w L (n L) np _ i f li (by omega)]; exact s2 j hj
    · rw [piY_q w L (n L) np _ i f li (by omega) (by omega) (by omega), piY_s w L (n L) np _ i f li (by omega)]; exact s3 j x y
  have hpOK : pOK (piY w L (n L) np (L : Int) i f li) (50 + np) := by
    unfold pOK
    rw [rp']
    refine ⟨by omega, by omega, if_pos rfl, ?_⟩
    exact ⟨hi.1, hi.2, hf.1, hf.2, hli.1, hli.2, Or.inl rfl⟩
  have hpo : ∀ j, j ≠ 50 + np → 50 ≤ j → pOK w j → pOK (piY w L (n L) np (L : Int) i f li) j := fun j h1 h2 h3 => by
    unfold pOK at h3 ⊢
    rw [o j (by omega) (by omega) h1, piY_s w L (n L) np _ i f li h1]
    exact h3
  have hW : WI (piY w L (n L) np (L : Int) i f li) (fun K => if K = L then n L + 1 else n K) (fun K k => if K = L ∧ k = n L then 50 + np else q K k) S rn sn := by
    obtain ⟨-, -, hLk, hSI, t0, t1⟩ := a1
    refine ⟨hX, hS, fun K hK => ?_, ?_, by rw [f0 13 (by decide)]; exact t0, by rw [f0 13 (by decide)]; exact t1⟩
    · obtain ⟨hN, ⟨b1, b2, b3, b4⟩, h56⟩ := hLk K hK
      by_cases e : K = L
      · subst e
        have en : (fun K' => if K' = K then n K + 1 else n K') K = n K + 1 := if_pos rfl
        rw [en]
        have eq1 : ∀ k, k < n K → (fun K' k => if K' = K ∧ k = n K then 50 + np else q K' k) K k = q K k := fun k hk => if_neg (fun t => by omega)
        have eq2 : (fun K' k => if K' = K ∧ k = n K then 50 + np else q K' k) K (n K) = 50 + np := if_pos ⟨rfl, rfl⟩
        refine ⟨?_, ⟨by omega, ?_, fun k hk => ?_, fun x y hx hy t => ?_⟩, fun k hk => ?_⟩
        · unfold LN at hN ⊢
          rw [r2, o (5 + K) (by omega) (by omega) (by omega), o (8 + K) (by omega) (by omega) (by omega), o (11 + K) (by omega) (by omega) (by omega), uI_ne _ _ (by decide), uI_ne _ _ (by decide), uI_ne _ _ (by decide), uI_ne _ _ (by decide), uI_at]
          refine ⟨hN.1, ?_⟩
          have := hN.2
          omega
        · rw [r2, uI_at]; omega
        · rw [piY_14 w hL (n K) np _ i f li]
          by_cases ek : k = n K
          · subst ek
            rw [if_pos rfl, eq2]
            exact ⟨rfl, hpOK⟩
          · rw [if_neg ek, eq1 k (by omega)]
            exact ⟨(b3 k (by omega)).1, hpo _ (hne K hK k (by omega)) (b3 k (by omega)).2.1 (b3 k (by omega)).2⟩
        · by_cases ex : x = n K
          · by_cases ey : y = n K
            · rw [ex, ey]
            · rw [ex, eq2, eq1 y (by omega)] at t
              exact absurd t.symm (hne K hK y (by omega))
          · by_cases ey : y = n K
            · rw [ey, eq2, eq1 x (by omega)] at t
              exact absurd t (hne K hK x (by omega))
            · rw [eq1 x (by omega), eq1 y (by omega)] at t
              exact b4 x y (by omega) (by omega) t
        · by_cases ek : k = n K
          · subst ek; rw [eq2]; omega
          · rw [eq1 k (by omega)]; exact h56 k (by omega)
      · have en : (fun K' => if K' = L then n L + 1 else n K') K = n K := if_neg e
        rw [en]
        have eq1 : ∀ k, (fun K' k => if K' = L ∧ k = n L then 50 + np else q K' k) K k = q K k := fun k => if_neg (fun t => e t.1)
        refine ⟨LN_o hN (o _ (by omega) (by omega) (by omega)) (o _ (by omega) (by omega) (by omega)) (o _ (by omega) (by omega) (by omega)) (o _ (by omega) (by omega) (by omega)), ⟨b1, by rw [o _ (by omega) (by omega) (by omega)]; exact b2, fun k hk => ?_, fun x y hx hy t => ?_⟩, fun k hk => ?_⟩
        · rw [eq1, piY_q w L (n L) np _ i f li (by omega) (by omega) (by omega)]
          exact ⟨(b3 k hk).1, hpo _ (hne K hK k hk) (b3 k hk).2.1 (b3 k hk).2⟩
        · rw [eq1, eq1] at t
          exact b4 x y hx hy t
        · rw [eq1]; exact h56 k hk
    · unfold SI
      rw [o 28 (by decide) (by omega) (by omega), o 29 (by decide) (by omega) (by omega), o 30 (by decide) (by omega) (by omega), o 31 (by decide) (by omega) (by omega), o 32 (by decide) (by omega) (by omega), o 33 (by decide) (by omega) (by omega), o 34 (by decide) (by omega) (by omega), o 35 (by decide) (by omega) (by omega)]
      exact hSI
  have hM : MR (ppW u np (L : Int) i f li) (np + 1) rn sn := by
    obtain ⟨m1, m2, m3, m4, m5, m6, m7⟩ := C
    refine ⟨MS_of rfl rfl m1, ?_, MN_of (fun j _ _ => o' j (by omega) (by omega)) m3, ⟨by rw [m28]; omega, by omega, fun k hk => ?_⟩, ?_, by rw [f' 4 (by decide)]; exact m6, by rw [f' 43 (by decide)]; exact m7⟩
    · unfold MG; rw [o' 407 (by decide) (by decide), o' 408 (by decide) (by decide), o' 409 (by decide) (by decide)]; exact m2
    · rw [m29, m30, m31, m32, o' 435 (by decide) (by decide)]
      by_cases e : k = np
      · subst e
        rw [uI_at, uI_at, uI_at, uI_at]
        exact ⟨by omega, by omega, hi.1, hi.2, hf.1, hf.2, hli.1, hli.2, Or.inl (a3.2 k (Nat.le_refl _) hnp).2.2⟩
      · rw [uI_ne _ _ e, uI_ne _ _ e, uI_ne _ _ e, uI_ne _ _ e]
        exact m4.2.2 k (by omega)
    · unfold MSI; rw [f' 58 (by decide), f' 59 (by decide), o' 460 (by decide) (by decide), o' 461 (by decide) (by decide), o' 462 (by decide) (by decide), o' 463 (by decide) (by decide), o' 464 (by decide) (by decide), o' 465 (by decide) (by decide)]; exact m5
  have erk : ∀ K p, p ≤ np → rkF (uI (u.2.1 429) np (L : Int)) K p = rkF (u.2.1 429) K p := fun K p hp => rkF_c p (fun j hj => uI_ne _ _ (by omega))
  refine GB_pip (w' := piY w L (n L) np (L : Int) i f li) (u' := ppW u np (L : Int) i f li) g (fun j hj => piY_s w L (n L) np _ i f li (by omega)) (fun j hj => piY_q w L (n L) np _ i f li (by omega) (by omega) (by omega)) (fun j x y => o j (by omega) (by omega) (by omega)) (fun g hg => f0 g (by omega)) rfl rfl (fun j hj => o' j (by omega) (by omega)) (fun g hg => f' g (by omega)) ⟨⟨hW, fun K hK => ?_, ⟨fun k hk => ?_, fun k hk hk2 => ?_⟩, hM.2.2.2.1, StE_u (fun j _ _ => o' j (by omega) (by omega)) (StE_w (fun j _ _ => o j (by omega) (by omega) (by omega)) a5), by rw [f0 13 (by decide), f' 4 (by decide)]; exact a6, by rw [f0 8 (by decide), f' 43 (by decide)]; exact a7⟩, ?_, hM, fun K => ?_, by rw [o 30 (by decide) (by omega) (by omega), f0 13 (by decide)]; exact D.2.1, by rw [o 33 (by decide) (by omega) (by omega), f0 13 (by decide)]; exact D.2.2⟩ ?_
  · obtain ⟨r1, r2', r3, r4, r5⟩ := a2 K hK
    rw [o (5 + K) (by omega) (by omega) (by omega), o (8 + K) (by omega) (by omega) (by omega), o (11 + K) (by omega) (by omega) (by omega), o' 407 (by decide) (by decide), o' 408 (by decide) (by decide), o' 409 (by decide) (by decide), o' 410 (by decide) (by decide), o' 411 (by decide) (by decide), o' 412 (by decide) (by decide), o' 413 (by decide) (by decide), o' 414 (by decide) (by decide), o' 415 (by decide) (by decide), o' 416 (by decide) (by decide), o' 417 (by decide) (by decide), o' 418 (by decide) (by decide), o' 419 (by decide) (by decide), m29]
    have e2 : ∀ f', f' ≠ 4 → (piY w L (n L) np (L : Int) i f li).2.1 (2 + K) f' = w.2.1 (2 + K) f' := fun f' hf' => by
      by_cases e : K = L
      · subst e; rw [r2, uI_ne _ _ hf']
      · rw [o (2 + K) (by omega) (by omega) (by omega)]
    rw [e2 5 (by decide), e2 6 (by decide), e2 7 (by decide), e2 8 (by decide), e2 9 (by decide), e2 10 (by decide), e2 11 (by decide), e2 12 (by decide), e2 13 (by decide), e2 14 (by decide)]
    refine ⟨r1, r2', r3, ?_, fun p hp hpl => ?_⟩
    · by_cases e : K = L
      · subst e
        rw [rk_s (uI_at _ _ _), erk K np (Nat.le_refl _), ← r4]
        exact if_pos rfl
      · rw [rk_n (by rw [uI_at]; omega), erk K np (Nat.le_refl _), ← r4]
        exact if_neg e
    · rw [erk K p (by omega)]
      by_cases e : p = np
      · subst e
        rw [uI_at] at hpl
        have : K = L := by omega
        subst this
        rw [← r4]
        exact if_pos ⟨rfl, rfl⟩
      · rw [uI_ne _ _ e] at hpl
        have hk : rkF (u.2.1 429) K p < n K := by rw [r4]; exact rk_lt hpl (by omega)
        have := r5 p (by omega) hpl
        refine Eq.trans (if_neg (fun t => ?_)) this
        obtain ⟨t1, t2⟩ := t
        subst t1
        omega
  · rw [m29, m30, m31, m32, o' 433 (by decide) (by decide), o' 434 (by decide) (by decide), o' 435 (by decide) (by decide)]
    by_cases e : k = np
    · subst e
      obtain ⟨z1, z2, z3⟩ := a3.2 k (Nat.le_refl _) hnp
      rw [rp', uI_at (u.2.1 429), uI_at (u.2.1 430), uI_at (u.2.1 431), uI_at (u.2.1 432), z1, z2, z3]
      exact ⟨rfl, rfl, rfl, rfl, rfl, rfl, rfl⟩
    · rw [o _ (by omega) (by omega) (by omega), uI_ne _ _ e, uI_ne _ _ e, uI_ne _ _ e, uI_ne _ _ e]
      exact a3.1 k (by omega)
  · rw [o' 433 (by decide) (by decide), o' 434 (by decide) (by decide), o' 435 (by decide) (by decide)]
    exact a3.2 k (by omega) hk2
  · obtain ⟨b1, b2, b3, b4⟩ := B
    refine ⟨feq _ _ _ _, by omega, fun k hk => ?_, fun k hk hk2 => ?_⟩
    · rw [piY_17 w hL (n L) np _ i f li]
      by_cases e : k = np
      · subst e
        rw [if_pos rfl, rp']
        exact ⟨rfl, if_pos rfl, by show 0 ≤ (L : Int); omega, by show (L : Int) < 2; omega, hi.1, hi.2, Or.inl rfl⟩
      · rw [if_neg e, o _ (by omega) (by omega) (by omega), piY_s w L (n L) np _ i f li (by omega)]
        exact b3 k (by omega)
    · rw [piY_s w L (n L) np _ i f li (by omega)]
      exact b4 k (by omega) hk2
  · show (if K = L then n L + 1 else n K) ≤ 3
    split
    · omega
    · exact D.1 K
  · exact CRW_u (CRW_x g.2.2.1 (f0 14 (by decide)) (f0 15 (by decide))) (f' 6 (by decide)) (f' 5 (by decide))
theorem K_pipe {z i f li : Int} (hR : REL ix w w) (hz : R32 z) (hi : R32 i) (hf : R32 f) (hli : R32 li) : CALL l ix w yX9_pipe cX9_pipe 7 3 yX12_pipe cX12_pipe 5 3 .int [ai z, ai i, ai f, ai li] := by
  obtain ⟨n, q, np, S, rn, sn, nv, nr, mk, tl, sz, rp, rc, kf, cl, A, b, c, d, e⟩ := hR
  have gb : GB ix w w n q np S rn sn nv nr mk tl sz rp rc kf cl := ⟨A, b, c, d⟩
  refine CALL_of (by decide) (by decide) (c_X9_pipe l w n q S rn sn np z i f li A.1.1 A.2.1 hz hi hf hli) fun r w1 hp => ?_
  obtain ⟨p1, p2, p3, p4⟩ := hp
  have mm : ∀ {w1 : AW}, SMm w w1 → HT l yX12_pipe cX12_pipe 5 (some .int) 3 0 0 w1 [ar 400, ai z, ai i, ai f, ai li] _ := fun {w1} hm => c_X12_pipe l w1 np z i f li (LG_m A hm).2.2.1.1 (LG_m A hm).2.2.1.2.2.2.1 (rk3 (LG_m A hm)) hz hi hf hli
  by_cases hr : 0 ≤ z ∧ z < 2 ∧ 0 ≤ i ∧ i < 10
  · have hr' : (0 ≤ z ∧ z < 2) ∧ 0 ≤ i ∧ i < 10 := ⟨⟨hr.1, hr.2.1⟩, hr.2.2⟩
    have hL : z.toNat < 2 := by omega
    by_cases hk : 1 ≤ f ∧ f ≤ 500 ∧ 0 ≤ li ∧ li ≤ 100000
    · have hk' : (1 ≤ f ∧ f ≤ 500) ∧ 0 ≤ li ∧ li ≤ 100000 := ⟨⟨hk.1, hk.2.1⟩, hk.2.2⟩
      have hrk : ∀ {w1 : AW}, SMm w w1 → n z.toNat = rkF (w1.2.1 429) z.toNat np := fun {w1} hm => ((LG_m A hm).1.2.1 _ hL).2.2.2.1
      have hsum : rkF (w.2.1 429) 0 np + rkF (w.2.1 429) 1 np = np := rk_sum2 np (fun j hj => ⟨(A.2.2.1.2.2.2.1.2.2 j hj).1, (A.2.2.1.2.2.2.1.2.2 j hj).2.1⟩)
      have h0 := (A.1.2.1 0 (by decide)).2.2.2.1
      have h1 := (A.1.2.1 1 (by decide)).2.2.2.1
      have hn0 := A.2.2.2.1 0
      have hn1 := A.2.2.2.1 1
      by_cases hn : np < 6 ∧ n z.toNat < 3
      · obtain ⟨hr1, hw1⟩ := p4 hr hk hn
        have hw2 : w1 = upI (piY w z.toNat (n z.toNat) np z i f li) 0 16 0 := hw1
        have hm : SMm w w1 := by
          rw [hw2]
          exact SM_tr (u := piY w z.toNat (n z.toNat) np z i f li) (SM_of (fun j _ _ => piY_s _ _ _ _ _ _ _ _ (by omega)) (fun j _ _ => piY_o _ _ _ _ _ _ _ _ (by omega) (by omega) (by omega)) (fun j _ _ => piY_q _ _ _ _ _ _ _ _ (by omega) (by omega) (by omega))) (SM_i (Or.inl (by decide)))
        have hne : ¬ rkF (w1.2.1 429) z.toNat np = 3 := by rw [← hrk hm]; omega
        refine ⟨M400 (LG_m A hm), _, hr1, 0, 0, _, by decide, by decide, mm hm, fun r' u hp' => ⟨?_, ?_⟩⟩
        · rw [hp'.1, if_pos hr', if_pos hk', if_neg hne]
        · rw [hp'.2, if_pos hr', if_pos hk', if_neg hne]
          have g2 := GB_pipe (L := z.toNat) hL hr'.2 hk'.1 hk'.2 hn.1 hn.2 (GB_mth gb hm)
          rw [show ((z.toNat : Nat) : Int) = z by omega] at g2
          refine fin_w e hm g2 hw2 (SX_tr (SX_i (by decide)) (fun j hj => ⟨rfl, ppW_o _ _ _ _ _ _ (by omega), rfl⟩)) (by rw [piY_o _ _ _ _ _ _ _ _ (by decide) (by omega) (by omega)]) (by rw [ppW_f _ _ _ _ _ _ (by decide)]; rfl) (by decide) (by decide)
      · obtain ⟨hr1, hw1⟩ := p3 hr hk hn
        have hm : SMm w w1 := by rw [hw1]; exact SM_i (Or.inl (by decide))
        have heq : rkF (w1.2.1 429) z.toNat np = 3 := by
          rw [← hrk hm]
          have := A.2.2.2.1 z.toNat
          rcases (show z.toNat = 0 ∨ z.toNat = 1 by omega) with e0 | e0 <;> rw [e0] at hn ⊢ <;> omega
        refine ⟨M400 (LG_m A hm), _, hr1, 0, 0, _, by decide, by decide, mm hm, fun r' u hp' => ⟨?_, ?_⟩⟩
        · rw [hp'.1, if_pos hr', if_pos hk', if_pos heq]
        · rw [hp'.2, if_pos hr', if_pos hk', if_pos heq, hw1]
          exact fin_trb gb e (by decide) (by decide)
    · have hk' : ¬ ((1 ≤ f ∧ f ≤ 500) ∧ 0 ≤ li ∧ li ≤ 100000) := fun k => hk ⟨k.1.1, k.1.2, k.2⟩
      obtain ⟨hr1, hw1⟩ := p2 hr hk
      have hm : SMm w w1 := by rw [hw1]; exact SM_i (Or.inl (by decide))
      refine ⟨M400 (LG_m A hm), _, hr1, 0, 0, _, by decide, by decide, mm hm, fun r' u hp' => ⟨?_, ?_⟩⟩
      · rw [hp'.1, if_pos hr', if_neg hk']
      · rw [hp'.2, if_pos hr', if_neg hk', hw1]
        exact fin_trb gb e (by decide) (by decide)
  · have hr' : ¬ ((0 ≤ z ∧ z < 2) ∧ 0 ≤ i ∧ i < 10) := fun k => hr ⟨k.1.1, k.1.2, k.2⟩
    obtain ⟨hr1, hw1⟩ := p1 hr
    have hm : SMm w w1 := by rw [hw1]; exact SM_i (Or.inl (by decide))
    refine ⟨M400 (LG_m A hm), _, hr1, 0, 0, _, by decide, by decide, mm hm, fun r' u hp' => ⟨?_, ?_⟩⟩
    · rw [hp'.1, if_neg hr']
    · rw [hp'.2, if_neg hr', hw1]
      exact fin_trb gb e (by decide) (by decide)
end LAY
