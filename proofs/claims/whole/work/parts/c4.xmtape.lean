/-! ===== the tape fed, rules repealed, by both ===== -/
section TAPE
variable {l : Launch} {ix : Nat} {w u w' u' : AW} {n : Nat → Nat} {q : Nat → Nat → Nat} {np S rn sn nv nr mk tl sz nr' mk' tl' : Nat} {rp rc kf rp' rc' kf' : Nat → Nat} {cl cl' : Nat → List Int}
/-- the tape and the rules alone change -/
theorem GB_rt (g : GB ix w u n q np S rn sn nv nr mk tl sz rp rc kf cl) (h1 : ∀ j, j < 2000 → w'.1 j = w.1 j) (h2 : ∀ j, j < 2000 → j ≠ 22 → w'.2.2 j = w.2.2 j) (ho : ∀ j, j < 2000 → j ≠ 20 → j ≠ 21 → j ≠ 23 → j ≠ 24 → j ≠ 25 → w'.2.1 j = w.2.1 j) (hF : FRE ix w') (k1 : ∀ j, j < 478 → u'.1 j = u.1 j) (k2 : ∀ j, j < 478 → j ≠ 444 → u'.2.2 j = u.2.2 j) (ko : ∀ j, j < 478 → j ≠ 400 → j ≠ 445 → j ≠ 446 → u'.2.1 j = u.2.1 j) (kg : ∀ f, (3 < f ∧ f < 42) ∨ f = 43 ∨ 57 ≤ f → u'.2.1 400 f = u.2.1 400 f) (hR : RUG w' u' nr' mk' rp' rc' kf' cl') (hT : TAG w' u' tl') : GB ix w' u' n q np S rn sn nv nr' mk' tl' sz rp' rc' kf' cl' := by
  obtain ⟨A, ⟨-, b2, b3, -, b5, -⟩, R, P⟩ := g
  have o := fun (j : Nat) (a : j < 20 ∨ (26 ≤ j ∧ j < 2000)) => ho j (by omega) (by omega) (by omega) (by omega) (by omega) (by omega)
  have e0 := o 0 (by decide)
  have hX : XS w' := by
    refine ⟨fun j hj => (h1 j (by omega)).trans (A.1.1.1.1 j hj), fun p hp => ?_⟩
    have hb : ∀ p ∈ ptX, p.1 ≠ 22 ∧ p.1 < 43 := by decide
    have := hb p hp
    rw [h2 p.1 (by omega) this.1]
    exact A.1.1.1.2 p hp
  have hS : SPI w' S := by
    obtain ⟨s1, s2, s3⟩ := A.1.1.2.1
    refine ⟨s1, fun j hj => ?_, fun j x y => ?_⟩
    · rw [h2 16 (by decide) (by decide), h1 (56 + j) (by omega)]; exact s2 j hj
    · rw [h2 16 (by decide) (by decide), h1 (56 + j) (by omega)]; exact s3 j x y
  have A1 : LG w' u n q np S rn sn := LG_x A hX hS (fun j _ _ _ => o j (by omega)) (fun j _ _ => ⟨o j (by omega), h1 j (by omega)⟩) ⟨h2 14 (by decide) (by decide), h2 15 (by decide) (by decide), h2 17 (by decide) (by decide)⟩ (fun j _ _ => o j (by omega)) ⟨by rw [e0], by rw [e0], by rw [e0]⟩
  refine ⟨LG_u A1 (MS_of2 (fun j _ _ => k1 j (by omega)) (k2 400 (by decide) (by decide)) A.2.2.1.1) (fun j hj => ko j (by omega) (by omega) (by omega) (by omega)) (fun f hf => kg f (by omega)), ⟨hR, ?_, ?_, hT, ⟨?_, ?_⟩, hF⟩, CRW_u (CRW_x R (by rw [e0]) (by rw [e0])) (kg 6 (by decide)) (kg 5 (by decide)), PLN_u (PLN_x P (by rw [e0]) (o 19 (by decide))) (kg 40 (by decide)) (ko 441 (by decide) (by decide) (by decide) (by decide))⟩
  · exact VIG_u (VIG_x b2 (by rw [e0]) (h2 42 (by decide) (by decide)) (fun j x y => ⟨o j (by omega), h1 j (by omega)⟩)) (kg 69 (by decide)) ⟨ko 475 (by decide) (by decide) (by decide) (by decide), ko 476 (by decide) (by decide) (by decide) (by decide), ko 477 (by decide) (by decide) (by decide) (by decide)⟩
  · exact LAG_u (LAG_x b3 (CI_o b3.1 hX (o 40 (by decide)) (o 41 (by decide)) (o 37 (by decide)) (o 39 (by decide))) (o 36 (by decide)) (o 37 (by decide)) (o 38 (by decide))) ⟨ko 472 (by decide) (by decide) (by decide) (by decide), ko 473 (by decide) (by decide) (by decide) (by decide)⟩ (fun f x y => kg f (by omega))
  · exact HB_e b5.1 (o 26 (by decide)) e0
  · rw [o 18 (by decide)]; exact b5.2
theorem tpF_at (row : Nat → Int) (tl : Nat) (z : Int) (j : Nat) : tpF row tl z j = if tl ≤ j ∧ j < tl + 4 then byF z (24 - 8 * (j - tl)) else row j := by
  unfold tpF
  by_cases h3 : j = tl + 3
  · subst h3
    rw [uI_at, if_pos (by omega), show tl + 3 - tl = 3 by omega]
  · rw [uI_ne _ _ h3]
    by_cases h2 : j = tl + 2
    · subst h2
      rw [uI_at, if_pos (by omega), show tl + 2 - tl = 2 by omega]
    · rw [uI_ne _ _ h2]
      by_cases h1 : j = tl + 1
      · subst h1
        rw [uI_at, if_pos (by omega), show tl + 1 - tl = 1 by omega]
      · rw [uI_ne _ _ h1]
        by_cases h0 : j = tl
        · subst h0
          rw [uI_at, if_pos (by omega), show j - j = 0 by omega]
        · rw [uI_ne _ _ h0, if_neg (by omega)]
theorem abW_r (w : AW) (tl : Nat) (z : Int) : (abW w tl z).2.1 21 = tpF (w.2.1 21) tl z ∧ (abW w tl z).2.1 20 = uI (w.2.1 20) 1 ((tl : Int) + 4) := by
  unfold abW
  exact ⟨by rw [sR_ne _ _ (by decide), sR_at], by rw [sR_at]⟩
theorem abW_o (w : AW) (tl : Nat) (z : Int) {j : Nat} (h0 : j ≠ 20) (h1 : j ≠ 21) : (abW w tl z).2.1 j = w.2.1 j := by
  unfold abW
  rw [sR_ne _ _ h0, sR_ne _ _ h1]
def ab5 (w : AW) (tl : Nat) (a b c d e : Int) : AW := abW (abW (abW (abW (abW w tl a) (tl + 4) b) (tl + 8) c) (tl + 12) d) (tl + 16) e
theorem ab5_21 (w : AW) (tl : Nat) (a b c d e : Int) (j : Nat) : (ab5 w tl a b c d e).2.1 21 j = if tl ≤ j ∧ j < tl + 20 then byF (fvF a b c d e (j - tl)) (24 - 8 * ((j - tl) % 4)) else w.2.1 21 j := by
  unfold ab5
  rw [(abW_r _ _ _).1, (abW_r _ _ _).1, (abW_r _ _ _).1, (abW_r _ _ _).1, (abW_r _ _ _).1, tpF_at, tpF_at, tpF_at, tpF_at, tpF_at]
  unfold fvF
  by_cases h : tl ≤ j ∧ j < tl + 20
  · rw [if_pos h]
    obtain ⟨k, rfl⟩ : ∃ k, j = tl + k := ⟨j - tl, by omega⟩
    rw [show tl + k - tl = k by omega]
    by_cases c5 : 16 ≤ k
    · rw [if_pos (by omega), if_neg (by omega), if_neg (by omega), if_neg (by omega), if_neg (by omega), show 24 - 8 * (tl + k - (tl + 16)) = 24 - 8 * (k % 4) by omega]
    · rw [if_neg (by omega)]
      by_cases c4 : 12 ≤ k
      · rw [if_pos (by omega), if_neg (by omega), if_neg (by omega), if_neg (by omega), if_pos (by omega), show 24 - 8 * (tl + k - (tl + 12)) = 24 - 8 * (k % 4) by omega]
      · rw [if_neg (by omega)]
        by_cases c3 : 8 ≤ k
        · rw [if_pos (by omega), if_neg (by omega), if_neg (by omega), if_pos (by omega), show 24 - 8 * (tl + k - (tl + 8)) = 24 - 8 * (k % 4) by omega]
        · rw [if_neg (by omega)]
          by_cases c2 : 4 ≤ k
          · rw [if_pos (by omega), if_neg (by omega), if_pos (by omega), show 24 - 8 * (tl + k - (tl + 4)) = 24 - 8 * (k % 4) by omega]
          · rw [if_neg (by omega), if_pos (by omega), if_pos (by omega), show 24 - 8 * k = 24 - 8 * (k % 4) by omega]
  · rw [if_neg h, if_neg (by omega), if_neg (by omega), if_neg (by omega), if_neg (by omega), if_neg (by omega)]
theorem ab5_20 (w : AW) (tl : Nat) (a b c d e : Int) : (ab5 w tl a b c d e).2.1 20 1 = (tl : Int) + 20 ∧ ∀ f, f ≠ 1 → (ab5 w tl a b c d e).2.1 20 f = w.2.1 20 f := by
  unfold ab5
  rw [(abW_r _ _ _).2, (abW_r _ _ _).2, (abW_r _ _ _).2, (abW_r _ _ _).2, (abW_r _ _ _).2]
  refine ⟨by rw [uI_at]; omega, fun f hf => ?_⟩
  rw [uI_ne _ _ hf, uI_ne _ _ hf, uI_ne _ _ hf, uI_ne _ _ hf, uI_ne _ _ hf]
theorem ab5_o (w : AW) (tl : Nat) (a b c d e : Int) {j : Nat} (h0 : j ≠ 20) (h1 : j ≠ 21) : (ab5 w tl a b c d e).2.1 j = w.2.1 j := by
  unfold ab5
  rw [abW_o _ _ _ h0 h1, abW_o _ _ _ h0 h1, abW_o _ _ _ h0 h1, abW_o _ _ _ h0 h1, abW_o _ _ _ h0 h1]
theorem byF_bd (z : Int) (s : Nat) : 0 ≤ byF z s ∧ byF z s < 256 := by unfold byF; omega
theorem GB_feed {a b c d e : Int} (h : tl + 20 ≤ 300) (g : GB ix w u n q np S rn sn nv nr mk tl sz rp rc kf cl) : GB ix (ab5 w tl a b c d e) (fdW u tl (fvF a b c d e) 20) n q np S rn sn nv nr mk (tl + 20) sz rp rc kf cl := by
  have m : ∀ j, j ≠ 400 → j ≠ 446 → (fdW u tl (fvF a b c d e) 20).2.1 j = u.2.1 j := fun j x y => by
    unfold fdW
    rw [upI_o _ _ _ x, sR_ne _ _ y]
  have mf : ∀ f, f ≠ 47 → (fdW u tl (fvF a b c d e) 20).2.1 400 f = u.2.1 400 f := fun f hf => by
    unfold fdW
    rw [fne _ _ hf, sR_ne _ _ (by decide)]
  have m47 : (fdW u tl (fvF a b c d e) 20).2.1 400 47 = (tl : Int) + 20 := by
    unfold fdW
    rw [feq]
    rfl
  have m446 : (fdW u tl (fvF a b c d e) 20).2.1 446 = fdF (u.2.1 446) tl (fvF a b c d e) 20 := by
    unfold fdW
    rw [upI_o _ _ _ (by decide), sR_at]
  obtain ⟨x1, x2⟩ := ab5_20 w tl a b c d e
  obtain ⟨t1, t2, t3, t4, t5, t6⟩ := g.2.1.2.2.2.1
  refine GB_rt (w' := ab5 w tl a b c d e) (u' := fdW u tl (fvF a b c d e) 20) g (fun _ _ => rfl) (fun _ _ _ => rfl) (fun j _ y z _ _ _ => ab5_o w tl a b c d e y z) (FRE_o g.2.1.2.2.2.2.2 (fun _ _ => rfl)) (fun _ _ => rfl) (fun _ _ _ => rfl) (fun j _ y _ z => m j y z) (fun f hf => mf f (by omega)) (RUG_u (RUG_x g.2.1.1 (x2 3 (by decide)) rfl (fun j x _ => ⟨ab5_o w tl a b c d e (by omega) (by omega), rfl, rfl⟩)) (mf 42 (by decide)) rfl (fun j x y => ⟨m j (by omega) (by omega), rfl, rfl⟩)) ⟨by rw [x1]; omega, h, by rw [m47]; omega, fun k hk => ?_, fun k hk => ?_, by rw [mf 56 (by decide)]; exact t6⟩
  · rw [ab5_21]
    split
    · exact byF_bd _ _
    · exact t4 k hk
  · rw [ab5_21, m446]
    unfold fdF
    by_cases c : tl ≤ k ∧ k < tl + 20
    · rw [if_pos c, if_pos c]
    · rw [if_neg c, if_neg c]
      exact t5 k (by omega)
theorem K_feed {a b c d e : Int} (hR : REL ix w w) (ha : R32 a) (hb : R32 b) (hc : R32 c) (hd : R32 d) (he : R32 e) : CALL l ix w yX9_feed cX9_feed 6 2 yX12_feed cX12_feed 8 1 .int [ai a, ai b, ai c, ai d, ai e] := by
  obtain ⟨n, q, np, S, rn, sn, nv, nr, mk, tl, sz, rp, rc, kf, cl, A, B, C, D, E⟩ := hR
  have gb : GB ix w w n q np S rn sn nv nr mk tl sz rp rc kf cl := ⟨A, B, C, D⟩
  obtain ⟨t1, t2, t3, t4, t5, t6⟩ := B.2.2.2.1
  refine CALL_of (by decide) (by decide) (c_X9_feed l w tl a b c d e A.1.1.1 t1 t2) fun r w1 hp => ?_
  obtain ⟨p1, p2⟩ := hp
  by_cases h : tl + 20 ≤ 300
  · rw [if_pos h] at p1 p2
    have p3 : w1 = ab5 w tl a b c d e := p2
    have hm : SMm w w1 := by rw [p3]; exact SM_of (fun _ _ _ => rfl) (fun j _ _ => ab5_o _ _ _ _ _ _ _ (by omega) (by omega)) (fun _ _ _ => rfl)
    have t3' := (GR_m B hm).2.2.2.1.2.2.1
    refine ⟨M400 (LG_m A hm), _, p1, 0, 0, _, by decide, by decide, c_X12_feed l w1 tl a b c d e (LG_m A hm).2.2.1.1 t3' t2 ha hb hc hd he, fun r' u hp' => ⟨?_, ?_⟩⟩
    · rw [hp'.1, if_pos h]
    · rw [hp'.2, if_pos h]
      have g2 := GB_feed (a := a) (b := b) (c := c) (d := d) (e := e) h (GB_mth gb hm)
      rw [← p3] at g2
      obtain ⟨x1, x2⟩ := ab5_20 w tl a b c d e
      rw [← p3] at x1 x2
      have fo : ∀ f, f ≠ 47 → (fdW (th w1) tl (fvF a b c d e) 20).2.1 400 f = (th w1).2.1 400 f := fun f hf => by
        unfold fdW
        rw [fne _ _ hf, sR_ne _ _ (by decide)]
      have e0 : w1.2.1 0 = w.2.1 0 := by rw [p3]; exact ab5_o _ _ _ _ _ _ _ (by decide) (by decide)
      have hsx : SX w1 (fdW (th w1) tl (fvF a b c d e) 20) := SX_tr (SX_q (QM_th w1)) (fun j hj => ⟨rfl, by
        unfold fdW
        rw [upI_o _ _ _ (by omega), sR_ne _ _ (by omega)], rfl⟩)
      refine REL_of (GB_sx g2 hsx) (TRB_sx (TRB_q (TRB_m E hm) (by rw [e0]) ⟨x2 5 (by decide), x2 6 (by decide)⟩ ⟨fo 1 (by decide), fo 2 (by decide), fo 3 (by decide)⟩) hsx)
  · rw [if_neg h] at p1 p2
    subst p2
    refine ⟨M400 A, _, p1, 0, 0, _, by decide, by decide, c_X12_feed l w1 tl a b c d e A.2.2.1.1 t3 t2 ha hb hc hd he, fun r' u hp' => ⟨?_, ?_⟩⟩
    · rw [hp'.1, if_neg h]
    · rw [hp'.2, if_neg h]
      exact fin_th gb E
/-- numbers of rules behind a repeal -/
def rfA {α : Type} (f : Nat → α) (r n : Nat) : Nat → α := fun i => if r ≤ i ∧ i < n then f (i + 1) else f i
def rfK (f : Nat → Nat) (r n : Nat) : Nat → Nat := fun i => if i = n then f r else if r ≤ i ∧ i < n then f (i + 1) else f i
theorem rfK_has {f : Nat → Nat} {r n m : Nat} (hr : r ≤ n) (hn : n < m) {i : Nat} (hi : i < m) : ∃ j, j < m ∧ rfK f r n i = f j ∧ (i = n → j = r) ∧ (i ≠ n → r ≤ i ∧ i < n → j = i + 1) ∧ (i ≠ n → ¬ (r ≤ i ∧ i < n) → j = i) := by
  unfold rfK
  by_cases h1 : i = n
  · rw [if_pos h1]; exact ⟨r, by omega, rfl, fun _ => rfl, fun t => absurd h1 t, fun t => absurd h1 t⟩
  · rw [if_neg h1]
    by_cases h2 : r ≤ i ∧ i < n
    · rw [if_pos h2]; exact ⟨i + 1, by omega, rfl, fun t => absurd t h1, fun _ _ => rfl, fun _ t => absurd h2 t⟩
    · rw [if_neg h2]; exact ⟨i, hi, rfl, fun t => absurd t h1, fun _ t => absurd t h2, fun _ _ => rfl⟩
theorem rpP_K {row : Nat → Option Nat} {f : Nat → Nat} {r n m : Nat} (hr : r < n) (hn : n ≤ m) (h : ∀ i, i < m → row i = some (mqF f i)) {i : Nat} (hi : i < m) : rpP row r n i = some (mqF (rfK f r (n - 1)) i) := by
  unfold rpP updP rmP mqF rfK
  by_cases h1 : i = n - 1
  · rw [if_pos h1, if_pos h1]
    exact h r (by omega)
  · rw [if_neg h1, if_neg h1]
    by_cases h2 : r ≤ i ∧ i < n - 1
    · rw [if_pos h2, if_pos h2]; exact h (i + 1) (by omega)
    · rw [if_neg h2, if_neg h2]; exact h i hi
theorem mqF_rf {f : Nat → Nat} {r n i : Nat} (hi : i < n) : mqF (rfK f r n) i = mqF f (if r ≤ i ∧ i < n then i + 1 else i) := by
  unfold mqF rfK
  rw [if_neg (by omega)]
  by_cases h2 : r ≤ i ∧ i < n
  · rw [if_pos h2, if_pos h2]
  · rw [if_neg h2, if_neg h2]
theorem rfA_eq {α : Type} {f : Nat → α} {r n i : Nat} : rfA f r n i = f (if r ≤ i ∧ i < n then i + 1 else i) := by
  unfold rfA
  by_cases h2 : r ≤ i ∧ i < n
  · rw [if_pos h2, if_pos h2]
  · rw [if_neg h2, if_neg h2]
theorem rmW_o (w : AW) (nr r : Nat) {j : Nat} (h : j ≠ 20) : (rmW w nr r).2.1 j = w.2.1 j := by
  show (upI (sP w 22 (rmP (w.2.2 22) r (nr - 1))) 20 3 ((nr : Int) - 1)).2.1 j = _
  rw [upI_o _ _ _ h]
  rfl
theorem rmW_20 (w : AW) (nr r : Nat) : (rmW w nr r).2.1 20 3 = (nr : Int) - 1 ∧ ∀ f, f ≠ 3 → (rmW w nr r).2.1 20 f = w.2.1 20 f := ⟨by
  show (upI (sP w 22 (rmP (w.2.2 22) r (nr - 1))) 20 3 ((nr : Int) - 1)).2.1 20 3 = _
  rw [feq], fun f hf => by
  show (upI (sP w 22 (rmP (w.2.2 22) r (nr - 1))) 20 3 ((nr : Int) - 1)).2.1 20 f = _
  rw [fne _ _ hf]
  rfl⟩
theorem rmW_22 (w : AW) (nr r i : Nat) : (rmW w nr r).2.2 22 i = if i = nr - 1 then none else rmP (w.2.2 22) r (nr - 1) i := rfl
theorem rmW_q (w : AW) (nr r : Nat) {j : Nat} (h : j ≠ 22) : (rmW w nr r).2.2 j = w.2.2 j := by
  show (if j = 22 then _ else (if j = 22 then _ else w.2.2 j)) = _
  rw [if_neg h, if_neg h]
theorem rpM_o (u : AW) (nr r : Nat) {j : Nat} (h : j ≠ 400) : (rpM u nr r).2.1 j = u.2.1 j := upI_o _ _ _ h
theorem rpM_f (u : AW) (nr r : Nat) : (rpM u nr r).2.1 400 42 = (nr : Int) - 1 ∧ ∀ f, f ≠ 42 → (rpM u nr r).2.1 400 f = u.2.1 400 f := ⟨feq u 400 42 ((nr : Int) - 1), fun f hf => fne u (k := 400) (f := 42) ((nr : Int) - 1) hf⟩
theorem rpM_444 (u : AW) (nr r : Nat) : (rpM u nr r).2.2 444 = rpP (u.2.2 444) r nr := sP_at _ _ _
theorem GB_repeal {r : Nat} (hr : r < nr) (g : GB ix w u n q np S rn sn nv nr mk tl sz rp rc kf cl) : GB ix (rmW w nr r) (rpM u nr r) n q np S rn sn nv (nr - 1) mk tl sz (rfA rp r (nr - 1)) (rfA rc r (nr - 1)) (rfK kf r (nr - 1)) (rfA cl r (nr - 1)) := by
  obtain ⟨⟨b1, b2, b3⟩, ⟨m1, m2, m3⟩, ac, s1, s2, s3, s4, s5, s6⟩ := g.2.1.1
  obtain ⟨x1, x2⟩ := rmW_20 w nr r
  obtain ⟨y1, y2⟩ := rpM_f u nr r
  have hix : ∀ i, i < nr - 1 → (if r ≤ i ∧ i < nr - 1 then i + 1 else i) < nr := fun i hi => by split <;> omega
  refine GB_rt (w' := rmW w nr r) (u' := rpM u nr r) g (fun _ _ => rfl) (fun j _ h => rmW_q w nr r h) (fun j _ h _ _ _ _ => rmW_o w nr r h) (FRE_o g.2.1.2.2.2.2.2 (fun _ _ => rfl)) (fun _ _ => rfl) (fun j _ h => sP_ne _ _ h) (fun j _ h _ _ => rpM_o u nr r h) (fun f hf => y2 f (by omega)) ⟨⟨by rw [x1]; omega, by omega, fun i hi => ?_⟩, ⟨by rw [y1]; omega, by omega, fun i hi => ?_⟩, fun i hi => ?_, by omega, s2, fun i hi => ?_, fun i j hi hj e => ?_, fun i h1 h2 => ?_, fun j h1 h2 => s6 j h1 h2⟩ (TAG_u (TAG_x g.2.1.2.2.2.1 (x2 1 (by decide)) (rmW_o w nr r (by decide))) (rpM_o u nr r (by decide)) (y2 47 (by decide)) (y2 56 (by decide)))
  · rw [rfA_eq, rfA_eq, rfA_eq]
    obtain ⟨c1, c2, c3, c4, c5, c6⟩ := b3 _ (hix i hi)
    refine ⟨?_, ?_, c3, c4, c5, c6⟩
    · rw [rmW_22, if_neg (by omega)]
      unfold rmP
      by_cases h2 : r ≤ i ∧ i < nr - 1
      · rw [if_pos h2] at c1 ⊢
        rw [if_pos h2]
        exact c1
      · rw [if_neg h2] at c1 ⊢
        rw [if_neg h2]
        exact c1
    · unfold RU at c2 ⊢
      rw [rmW_q w nr r (j := rp (if r ≤ i ∧ i < nr - 1 then i + 1 else i)) (by omega), rmW_o w nr r (j := rp (if r ≤ i ∧ i < nr - 1 then i + 1 else i)) (by omega), rmW_o w nr r (j := rc (if r ≤ i ∧ i < nr - 1 then i + 1 else i)) (by omega)]
      exact c2
  · obtain ⟨e1, e2, e3, e4⟩ := m3 _ (hix i hi)
    rw [rpM_444, rpP_K (m := mk) hr s1 (fun i hi => (s3 i hi).1) (by omega), mqF_rf hi, rfA_eq]
    refine ⟨rfl, e2, ?_, e4⟩
    unfold RM at e3 ⊢
    have hq : ∀ j, 478 ≤ j → (rpM u nr r).2.2 j = u.2.2 j := fun j hj => sP_ne _ _ (by omega)
    rw [hq _ e2, rpM_o u nr r (j := mqF kf (if r ≤ i ∧ i < nr - 1 then i + 1 else i)) (by omega), rpM_o u nr r (j := mqF kf (if r ≤ i ∧ i < nr - 1 then i + 1 else i) + 1) (by omega), rpM_o u nr r (j := mqF kf (if r ≤ i ∧ i < nr - 1 then i + 1 else i) + 2) (by omega)]
    exact e3
  · rw [rfA_eq, mqF_rf hi, rmW_o w nr r (by have := (b3 _ (hix i hi)).2.2.1; omega), rpM_o u nr r (by unfold mqF; omega)]
    exact ac _ (hix i hi)
  · obtain ⟨j, j1, j2, -⟩ := rfK_has (f := kf) (r := r) (n := nr - 1) (m := mk) (by omega) (by omega) hi
    obtain ⟨z1, z2, z3⟩ := s3 j j1
    have em : mqF (rfK kf r (nr - 1)) i = mqF kf j := by unfold mqF; rw [j2]
    refine ⟨?_, by rw [j2]; exact z2, ?_⟩
    · rw [rpM_444, rpP_K (m := mk) hr s1 (fun i hi => (s3 i hi).1) hi]
    · rw [em]
      exact RO_o z3 ⟨rfl, rfl, rfl⟩ (sP_ne _ _ (by unfold mqF; omega)) (by rw [rpM_o u nr r (by unfold mqF; omega)])
  · obtain ⟨a, a1, a2, a3, a4, a5⟩ := rfK_has (f := kf) (r := r) (n := nr - 1) (m := mk) (by omega) (by omega) hi
    obtain ⟨b, c1, c2, c3, c4, c5⟩ := rfK_has (f := kf) (r := r) (n := nr - 1) (m := mk) (by omega) (by omega) hj
    rw [a2, c2] at e
    have := s4 a b a1 c1 e
    omega
  · rw [rpM_444]
    unfold rpP updP rmP
    rw [if_neg (by omega), if_neg (by omega)]
    exact s5 i h1 h2
theorem K_repeal {a : Int} (hR : REL ix w w) (ha : R32 a) : CALL l ix w yX9_repeal cX9_repeal 2 2 yX12_repeal cX12_repeal 4 2 .boolean [ai a] := by
  obtain ⟨n, q, np, S, rn, sn, nv, nr, mk, tl, sz, rp, rc, kf, cl, A, b, c, d, e⟩ := hR
  have gb : GB ix w w n q np S rn sn nv nr mk tl sz rp rc kf cl := ⟨A, b, c, d⟩
  refine CALL_of (by decide) (by decide) (c_X9_repeal l w nr rp rc cl a A.1.1.1 b.1.1 ha) fun r w1 hp => ?_
  obtain ⟨p1, p2⟩ := hp
  have mm : ∀ {w1 : AW}, SMm w w1 → HT l yX12_repeal cX12_repeal 4 (some .boolean) 2 0 0 w1 [ar 400, ai a] _ := fun {w1} hm => by
    have h := (GR_m b hm).1
    exact c_X12_repeal l w1 nr (mqF kf) a (LG_m A hm).2.2.1.1 h.2.1.1 h.2.1.2.1 (fun r hr => ⟨(h.2.1.2.2 r hr).1, (h.2.1.2.2 r hr).2.2.1.1⟩) ha
  by_cases hr : 0 ≤ a ∧ a < (nr : Int)
  · rw [if_pos hr] at p1 p2
    have hm : SMm w w1 := by
      rw [p2]
      exact SM_tr (u := rmW w nr a.toNat) (SM_of (fun _ _ _ => rfl) (fun j _ _ => rmW_o _ _ _ (by omega)) (fun j _ _ => rmW_q _ _ _ (by omega))) (SM_i (Or.inl (by decide)))
    refine ⟨M400 (LG_m A hm), _, p1, 0, 0, _, by decide, by decide, mm hm, fun r' u hp' => ⟨?_, ?_⟩⟩
    · rw [hp'.1, if_pos hr]
    · rw [hp'.2, if_pos hr]
      exact fin_w e hm (GB_repeal (r := a.toNat) (by omega) (GB_mth gb hm)) p2 (SX_tr (SX_q (QM_th w1)) (fun j hj => ⟨rfl, rpM_o _ _ _ (by omega), sP_ne _ _ (by omega)⟩)) ((rmW_20 _ _ _).2 5 (by decide)) ((rpM_f _ _ _).2 3 (by decide)) (by decide) (by decide)
  · rw [if_neg hr] at p1 p2
    have hm : SMm w w1 := by rw [p2]; exact SM_i (Or.inl (by decide))
    refine ⟨M400 (LG_m A hm), _, p1, 0, 0, _, by decide, by decide, mm hm, fun r' u hp' => ⟨?_, ?_⟩⟩
    · rw [hp'.1, if_neg hr]
    · rw [hp'.2, if_neg hr, p2]
      exact fin_trb gb e (by decide) (by decide)
end TAPE
