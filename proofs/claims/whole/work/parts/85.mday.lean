/-! ===== M: a day ===== -/
theorem MN_of {w w' : AW} (h : ∀ j, 410 ≤ j → j ≤ 414 → w'.2.1 j = w.2.1 j) (hN : MN w) : MN w' := by
  unfold MN at hN ⊢
  rw [h 410 (by decide) (by decide), h 411 (by decide) (by decide), h 412 (by decide) (by decide), h 413 (by decide) (by decide), h 414 (by decide) (by decide)]
  exact hN
abbrev M3 : Type := (Nat → Int) × (Nat → Int) × (Nat → Int)
/-- pipe p's turn: gas, which run, what each let off -/
def mpS (L : Nat) (pl lay fl li : Nat → Int) (p : Nat) (x : M3) : M3 :=
  if pl p ≠ (L : Int) ∨ x.2.1 p = 0 then (x.1, x.2.1, uI x.2.2 p 0)
  else if x.1 (lay p).toNat < li p then (x.1, uI x.2.1 p 0, uI x.2.2 p 0)
  else (uI x.1 (lay p).toNat (x.1 (lay p).toNat - x.1 (lay p).toNat * fl p / 1000), uI x.2.1 p 1, uI x.2.2 p (x.1 (lay p).toNat * fl p / 1000))
def mpF (L : Nat) (pl lay fl li : Nat → Int) (x : M3) : Nat → M3
  | 0 => x
  | p + 1 => mpS L pl lay fl li p (mpF L pl lay fl li x p)
/-- what M's pipes at hand keep to -/
def MQ2 (w : AW) (np : Nat) : Prop := w.2.1 400 28 = (np : Int) ∧ np ≤ 6 ∧ ∀ p, p < np → 0 ≤ w.2.1 429 p ∧ w.2.1 429 p < 2 ∧ 0 ≤ w.2.1 423 p ∧ w.2.1 423 p < 10 ∧ 1 ≤ w.2.1 431 p ∧ w.2.1 431 p ≤ 500 ∧ 0 ≤ w.2.1 432 p ∧ w.2.1 432 p ≤ 100000 ∧ (w.2.1 425 p = 0 ∨ w.2.1 425 p = 1)
def s3 (u : AW) (x : M3) : AW := sR (sR (sR u 420 x.1) 425 x.2.1) 424 x.2.2
abbrev g3 (w : AW) : M3 := (w.2.1 420, w.2.1 425, w.2.1 424)
theorem s3_self (u : AW) : s3 u (g3 u) = u := by
  unfold s3
  rw [sR_self u 420, sR_self u 425]
  exact sR_self u 424
theorem s3_ext {u : AW} {x : M3} {v : AW} (h1 : v.1 = u.1) (h2 : v.2.2 = u.2.2) (a : v.2.1 420 = x.1) (b : v.2.1 425 = x.2.1) (c : v.2.1 424 = x.2.2) (o : ∀ j, j ≠ 420 → j ≠ 425 → j ≠ 424 → v.2.1 j = u.2.1 j) : v = s3 u x := by
  unfold s3
  refine aw_ext h1 (fun j => ?_) h2
  by_cases q1 : j = 424
  · subst q1; exact c
  by_cases q2 : j = 425
  · subst q2; exact b
  by_cases q3 : j = 420
  · subst q3; exact a
  rw [sR_ne _ _ q1, sR_ne _ _ q2, sR_ne _ _ q3]
  exact o j q3 q2 q1
/-- the source comes in -/
def adA (w : AW) (L : Nat) : AW := upI (sR w 420 (srcF (w.2.1 420) (w.2.1 412 L))) 400 26 (srcA (w.2.1 420) (w.2.1 412 L))
/-- the pipes run -/
def adB (u : AW) (L p : Nat) : AW := s3 u (mpF L (u.2.1 429) (u.2.1 423) (u.2.1 431) (u.2.1 432) (g3 u) p)
/-- gas rises -/
def adC (u : AW) (L : Nat) : AW := upI (sR u 420 (riseG (u.2.1 413 L) (u.2.1 420))) 400 26 (u.2.1 400 26 + riseA (u.2.1 413 L) (u.2.1 420))
def adD (u : AW) : AW := sH u (turnF 200 (gH u))
def adL (u : AW) (L : Nat) : Option Nat := lowF (u.2.1 420) (u.2.1 410 L) (u.2.1 411 L) 10
def adE (u : AW) (L : Nat) : AW := match adL u L with
  | none => upI u 400 27 0
  | some m => upI (sR u 420 (zeroF (u.2.1 420) (m + 1))) 400 27 (sumF (u.2.1 420) (m + 1))
def adR (u : AW) (L : Nat) : Int := match adL u L with
  | none => 0
  | some _ => 1
/-- the day before the burst -/
def amW (w : AW) (L np : Nat) : AW := adD (adC (adB (adA w L) L np) L)
theorem mpF_bd {L : Nat} {pl lay fl li : Nat → Int} {x : M3} {np : Nat} (hp : ∀ p, p < np → 0 ≤ lay p ∧ lay p < 10 ∧ 1 ≤ fl p ∧ fl p ≤ 500) (hr : ∀ p, p < np → x.2.1 p = 0 ∨ x.2.1 p = 1) (hb : ∀ j, j < 10 → 0 ≤ x.1 j ∧ x.1 j ≤ 100000) : ∀ p, p ≤ np → (∀ j, j < 10 → 0 ≤ (mpF L pl lay fl li x p).1 j ∧ (mpF L pl lay fl li x p).1 j ≤ 100000) ∧ (∀ j, j < np → (mpF L pl lay fl li x p).2.1 j = 0 ∨ (mpF L pl lay fl li x p).2.1 j = 1) ∧ ∀ j, p ≤ j → (mpF L pl lay fl li x p).2.1 j = x.2.1 j
  | 0, _ => ⟨hb, hr, fun _ _ => rfl⟩
  | p + 1, h => by
    obtain ⟨a, b, c⟩ := mpF_bd (L := L) (pl := pl) (li := li) hp hr hb p (by omega)
    obtain ⟨l0, l9, f1, f5⟩ := hp p (by omega)
    show (∀ j, j < 10 → 0 ≤ (mpS L pl lay fl li p (mpF L pl lay fl li x p)).1 j ∧ (mpS L pl lay fl li p (mpF L pl lay fl li x p)).1 j ≤ 100000) ∧ (∀ j, j < np → (mpS L pl lay fl li p (mpF L pl lay fl li x p)).2.1 j = 0 ∨ (mpS L pl lay fl li p (mpF L pl lay fl li x p)).2.1 j = 1) ∧ ∀ j, p + 1 ≤ j → (mpS L pl lay fl li p (mpF L pl lay fl li x p)).2.1 j = x.2.1 j
    generalize mpF L pl lay fl li x p = y at a b c
    have ha := a (lay p).toNat (by omega)
    unfold mpS
    split
    · exact ⟨a, b, fun j hj => c j (by omega)⟩
    · split
      · refine ⟨a, fun j hj => ?_, fun j hj => ?_⟩
        · show uI y.2.1 p 0 j = 0 ∨ uI y.2.1 p 0 j = 1
          by_cases e : j = p
          · subst e; rw [uI_at]; exact Or.inl rfl
          · rw [uI_ne _ _ e]; exact b j hj
        · show uI y.2.1 p 0 j = _
          rw [uI_ne _ _ (by omega)]
          exact c j (by omega)
      · have hm := mul_bd (a := y.1 (lay p).toNat) (b := fl p) (x := 100000) (y := 500) ha.1 ha.2 (by omega) f5
        have ho : 0 ≤ y.1 (lay p).toNat * fl p / 1000 ∧ y.1 (lay p).toNat * fl p / 1000 ≤ y.1 (lay p).toNat := by
          have h5 : y.1 (lay p).toNat * fl p ≤ y.1 (lay p).toNat * 500 := Int.mul_le_mul_of_nonneg_left f5 ha.1
          omega
        refine ⟨fun j hj => ?_, fun j hj => ?_, fun j hj => ?_⟩
        · show 0 ≤ uI y.1 (lay p).toNat _ j ∧ uI y.1 (lay p).toNat _ j ≤ 100000
          by_cases e : j = (lay p).toNat
          · rw [e, uI_at]; omega
          · rw [uI_ne _ _ e]; exact a j hj
        · show uI y.2.1 p 1 j = 0 ∨ uI y.2.1 p 1 j = 1
          by_cases e : j = p
          · subst e; rw [uI_at]; exact Or.inr rfl
          · rw [uI_ne _ _ e]; exact b j hj
        · show uI y.2.1 p 1 j = _
          rw [uI_ne _ _ (by omega)]
          exact c j (by omega)
theorem adA_o (w : AW) (L : Nat) {j : Nat} (h1 : j ≠ 420) (h2 : j ≠ 400) : (adA w L).2.1 j = w.2.1 j := by unfold adA; rw [upI_o _ _ _ h2, sR_ne _ _ h1]
theorem adB_o (u : AW) (L p : Nat) {j : Nat} (h1 : j ≠ 420) (h2 : j ≠ 425) (h3 : j ≠ 424) : (adB u L p).2.1 j = u.2.1 j := by unfold adB s3; rw [sR_ne _ _ h3, sR_ne _ _ h2, sR_ne _ _ h1]
theorem adC_o (u : AW) (L : Nat) {j : Nat} (h1 : j ≠ 420) (h2 : j ≠ 400) : (adC u L).2.1 j = u.2.1 j := by unfold adC; rw [upI_o _ _ _ h2, sR_ne _ _ h1]
theorem adD_o (u : AW) {j : Nat} (h1 : j ≠ 420) (h2 : j ≠ 421) (h3 : j ≠ 422) : (adD u).2.1 j = u.2.1 j := by unfold adD sH; rw [sR_ne _ _ h3, sR_ne _ _ h2, sR_ne _ _ h1]
theorem adA_28 (w : AW) (L f : Nat) (h : f ≠ 26) : (adA w L).2.1 400 f = w.2.1 400 f := if_neg h
theorem adC_28 (w : AW) (L f : Nat) (h : f ≠ 26) : (adC w L).2.1 400 f = w.2.1 400 f := if_neg h
/-- what the four steps of a day keep -/
theorem adA_ok {w : AW} {L np : Nat} (hN : MN w) (hL : L < 2) (hQ2 : MQ2 w np) (hb : RB3 (gH w)) : MN (adA w L) ∧ MQ2 (adA w L) np ∧ RB3 (gH (adA w L)) := by
  refine ⟨MN_of (fun j a b => adA_o w L (by omega) (by omega)) hN, ?_, ?_⟩
  · unfold MQ2
    rw [adA_28 w L 28 (by decide), adA_o w L (by decide) (by decide), adA_o w L (by decide) (by decide), adA_o w L (by decide) (by decide), adA_o w L (by decide) (by decide), adA_o w L (by decide) (by decide)]
    exact hQ2
  · have h1 := srcF_bd (g := w.2.1 420) (s := w.2.1 412 L) (hN L hL).2.2.2.2.1 (fun j hj => ⟨(hb j hj).1, (hb j hj).2.1⟩)
    exact fun i hi => ⟨(h1 i hi).1, (h1 i hi).2, (hb i hi).2.2⟩
theorem adB_ok {w : AW} {L np : Nat} (hN : MN w) (hQ2 : MQ2 w np) (hb : RB3 (gH w)) : ∀ p, p ≤ np → MN (adB w L p) ∧ MQ2 (adB w L p) np ∧ RB3 (gH (adB w L p)) := by
  intro p hp
  obtain ⟨h1, h2, -⟩ := mpF_bd (L := L) (pl := w.2.1 429) (lay := w.2.1 423) (fl := w.2.1 431) (li := w.2.1 432) (x := g3 w) (np := np) (fun p hp => ⟨(hQ2.2.2 p hp).2.2.1, (hQ2.2.2 p hp).2.2.2.1, (hQ2.2.2 p hp).2.2.2.2.1, (hQ2.2.2 p hp).2.2.2.2.2.1⟩) (fun p hp => (hQ2.2.2 p hp).2.2.2.2.2.2.2.2) (fun j hj => ⟨(hb j hj).1, (hb j hj).2.1⟩) p hp
  refine ⟨MN_of (fun j a b => adB_o w L p (by omega) (by omega) (by omega)) hN, ?_, fun i hi => ⟨(h1 i hi).1, (h1 i hi).2, (hb i hi).2.2⟩⟩
  refine ⟨hQ2.1, hQ2.2.1, fun j hj => ?_⟩
  obtain ⟨a1, a2, a3, a4, a5, a6, a7, a8, a9⟩ := hQ2.2.2 j hj
  exact ⟨a1, a2, a3, a4, a5, a6, a7, a8, h2 j hj⟩
theorem adC_ok {w : AW} {L np : Nat} (hN : MN w) (hL : L < 2) (hQ2 : MQ2 w np) (hb : RB3 (gH w)) : MN (adC w L) ∧ MQ2 (adC w L) np ∧ RB3 (gH (adC w L)) := by
  refine ⟨MN_of (fun j a b => adC_o w L (by omega) (by omega)) hN, ?_, ?_⟩
  · unfold MQ2
    rw [adC_28 w L 28 (by decide), adC_o w L (by decide) (by decide), adC_o w L (by decide) (by decide), adC_o w L (by decide) (by decide), adC_o w L (by decide) (by decide), adC_o w L (by decide) (by decide)]
    exact hQ2
  · have h1 := riseG_bd (m := w.2.1 413 L) (hN L hL).2.2.2.2.2.2.1 (g := w.2.1 420) (fun j hj => ⟨(hb j hj).1, (hb j hj).2.1⟩)
    exact fun i hi => ⟨(h1 i hi).1, (h1 i hi).2, (hb i hi).2.2⟩
theorem adD_ok {w : AW} {np : Nat} (hN : MN w) (hQ2 : MQ2 w np) (hb : RB3 (gH w)) : MN (adD w) ∧ MQ2 (adD w) np ∧ RB3 (gH (adD w)) :=
  ⟨MN_of (fun j a b => adD_o w (by omega) (by omega) (by omega)) hN, hQ2, turnF_bd 200 (gH w) hb⟩
theorem adB_0 (u : AW) (L : Nat) : adB u L 0 = u := s3_self u
theorem adB_s (u : AW) (L p : Nat) : adB u L (p + 1) = s3 (adB u L p) (mpS L ((adB u L p).2.1 429) ((adB u L p).2.1 423) ((adB u L p).2.1 431) ((adB u L p).2.1 432) p (g3 (adB u L p))) := by
  refine s3_ext rfl rfl rfl rfl rfl (fun j h1 h2 h3 => ?_)
  rw [adB_o _ _ _ h1 h2 h3, adB_o _ _ _ h1 h2 h3]
theorem mpS_1 (v : AW) {L p : Nat} {pl lay fl li : Nat → Int} (h : pl p ≠ (L : Int) ∨ v.2.1 425 p = 0) : s3 v (mpS L pl lay fl li p (g3 v)) = upI v 424 p 0 := by
  unfold mpS
  rw [if_pos h]
  refine (s3_ext (u := v) (x := (v.2.1 420, v.2.1 425, uI (v.2.1 424) p 0)) (v := upI v 424 p 0) rfl rfl rfl rfl rfl (fun j h1 h2 h3 => ?_)).symm
  rw [upI_o _ _ _ h3]
theorem mpS_2 (v : AW) {L p : Nat} {pl lay fl li : Nat → Int} (h : ¬ (pl p ≠ (L : Int) ∨ v.2.1 425 p = 0)) (h2 : v.2.1 420 (lay p).toNat < li p) : s3 v (mpS L pl lay fl li p (g3 v)) = upI (upI v 424 p 0) 425 p 0 := by
  unfold mpS
  rw [if_neg h, if_pos h2]
  refine (s3_ext (u := v) (x := (v.2.1 420, uI (v.2.1 425) p 0, uI (v.2.1 424) p 0)) (v := upI (upI v 424 p 0) 425 p 0) rfl rfl rfl rfl rfl (fun j h1 h2 h3 => ?_)).symm
  rw [upI_o _ _ _ h2, upI_o _ _ _ h3]
theorem mpS_3 (v : AW) {L p : Nat} {pl lay fl li : Nat → Int} (h : ¬ (pl p ≠ (L : Int) ∨ v.2.1 425 p = 0)) (h2 : ¬ v.2.1 420 (lay p).toNat < li p) : s3 v (mpS L pl lay fl li p (g3 v)) = upI (upI (upI (upI v 424 p 0) 425 p 1) 424 p (v.2.1 420 (lay p).toNat * fl p / 1000)) 420 (lay p).toNat (v.2.1 420 (lay p).toNat - v.2.1 420 (lay p).toNat * fl p / 1000) := by
  unfold mpS
  rw [if_neg h, if_neg h2]
  refine (s3_ext (u := v) (x := (uI (v.2.1 420) (lay p).toNat (v.2.1 420 (lay p).toNat - v.2.1 420 (lay p).toNat * fl p / 1000), uI (v.2.1 425) p 1, uI (v.2.1 424) p (v.2.1 420 (lay p).toNat * fl p / 1000))) (v := upI (upI (upI (upI v 424 p 0) 425 p 1) 424 p (v.2.1 420 (lay p).toNat * fl p / 1000)) 420 (lay p).toNat (v.2.1 420 (lay p).toNat - v.2.1 420 (lay p).toNat * fl p / 1000)) rfl rfl rfl rfl ?_ (fun j h1 h2 h3 => ?_)).symm
  · show uI (uI (v.2.1 424) p 0) p _ = _
    rw [uI_uI]
  · rw [upI_o _ _ _ h1, upI_o _ _ _ h3, upI_o _ _ _ h2, upI_o _ _ _ h3]
set_option maxRecDepth 100000 in
set_option maxHeartbeats 4000000 in
theorem c_X12_aDay (l : Launch) (w : AW) (L np : Nat) (hM : MS w) (hN : MN w) (hL : L < 2) (hQ2 : MQ2 w np) (hb : RB3 (gH w)) : HT l yX12_aDay cX12_aDay 5 (some .boolean) 4 0 0 w [ar 400, ai (L : Int)] (fun r w' => r = some (ai (adR (amW w L np) L)) ∧ w' = adE (amW w L np) L) := by
  refine HT.of (by decide) (by intro v hv; simp only [List.mem_cons, List.not_mem_nil, or_false] at hv; rcases hv with rfl | rfl <;> rfl) (Nat.le_of_ble_eq_true rfl) ?_
  intro Γ h hQ hRm hnm hl hw0
  obtain ⟨hN1, hQ21, hb1⟩ := adA_ok (L := L) hN hL hQ2 hb
  obtain ⟨hN2, hQ22, hb2⟩ := adB_ok (L := L) hN1 hQ21 hb1 np (Nat.le_refl _)
  obtain ⟨hN3, hQ23, hb3⟩ := adC_ok (L := L) hN2 hL hQ22 hb2
  obtain ⟨hN4, hQ24, hb4⟩ := adD_ok hN3 hQ23 hb3
  have hM1 : MS (adA w L) := MS_of rfl rfl hM
  have hM2 : MS (adB (adA w L) L np) := MS_of rfl rfl hM
  have hM3 : MS (adC (adB (adA w L) L np) L) := MS_of rfl rfl hM
  have hMu4 : MS (amW w L np) := MS_of rfl rfl hM
  have stE : ∀ (x : Int) (y0 z0 : Option AV), GG Γ 276 [some (ar 400), some (ai (L : Int)), some (ai x), y0, z0] [] (amW w L np) 0 0 := by
    intro x y0 z0
    change MN (amW w L np) at hN4
    change RB3 (gH (amW w L np)) at hb4
    revert hQ hN4 hb4 hMu4
    generalize amW w L np = u4
    intro hQ hMu4 hN4 hb4
    have us400 : u4.1 400 = (112, 0) := hMu4.1 400 (by decide) (by decide)
    have us420 : u4.1 420 = (1, 10) := hMu4.1 420 (by decide) (by decide)
    have us412 : u4.1 412 = (1, 2) := hMu4.1 412 (by decide) (by decide)
    have us424 : u4.1 424 = (1, 6) := hMu4.1 424 (by decide) (by decide)
    have us429 : u4.1 429 = (1, 6) := hMu4.1 429 (by decide) (by decide)
    have us425 : u4.1 425 = (3, 6) := hMu4.1 425 (by decide) (by decide)
    have us423 : u4.1 423 = (1, 6) := hMu4.1 423 (by decide) (by decide)
    have us432 : u4.1 432 = (1, 6) := hMu4.1 432 (by decide) (by decide)
    have us431 : u4.1 431 = (1, 6) := hMu4.1 431 (by decide) (by decide)
    have us413 : u4.1 413 = (1, 2) := hMu4.1 413 (by decide) (by decide)
    have up20 : u4.2.2 400 20 = some 420 := hMu4.2 (400, 20, 420) (by decide)
    have up12 : u4.2.2 400 12 = some 412 := hMu4.2 (400, 12, 412) (by decide)
    have up24 : u4.2.2 400 24 = some 424 := hMu4.2 (400, 24, 424) (by decide)
    have up29 : u4.2.2 400 29 = some 429 := hMu4.2 (400, 29, 429) (by decide)
    have up25 : u4.2.2 400 25 = some 425 := hMu4.2 (400, 25, 425) (by decide)
    have up23 : u4.2.2 400 23 = some 423 := hMu4.2 (400, 23, 423) (by decide)
    have up32 : u4.2.2 400 32 = some 432 := hMu4.2 (400, 32, 432) (by decide)
    have up31 : u4.2.2 400 31 = some 431 := hMu4.2 (400, 31, 431) (by decide)
    have up13 : u4.2.2 400 13 = some 413 := hMu4.2 (400, 13, 413) (by decide)
    have sumL : ∀ (m : Nat), m < 10 → adL u4 L = some m → ∀ (d i : Nat), i + d = m + 1 → GG Γ 312 [some (ar 400), some (ai (L : Int)), some (ai x), some (ai (m : Int)), some (ai (i : Int))] [] (upI (sR u4 420 (zeroF (u4.2.1 420) i)) 400 27 (sumF (u4.2.1 420) i)) 0 0 := by
      intro m hm9 hm d
      induction d with
      | zero =>
        intro i hi
        obtain rfl : i = m + 1 := by omega
        refine g_iload h dX12_aDay_312 rfl ?_
        refine g_iload_n h dX12_aDay_314 rfl ?_
        refine g_icmp_gt (tgt := 348) h dX12_aDay_315 (by decide) (by first | assumption | exact ⟨by omega, by omega⟩) (by first | assumption | exact ⟨by omega, by omega⟩) (fun c315 => ?_) (fun c315 => ?_)
        · refine g_iload_n h dX12_aDay_348 rfl ?_
          refine g_if_lt (tgt := 356) h dX12_aDay_349 (by decide) (by first | assumption | exact ⟨by omega, by omega⟩) (fun c349 => ?_) (fun c349 => ?_)
          · exfalso; omega
          · refine g_iconst h dX12_aDay_352 ?_
            refine g_goto (tgt := 357) h dX12_aDay_353 (by decide) ?_
            refine g_zret h hQ (by first | decide | omega | (simp only [clS]; omega)) (by first | decide | omega | (simp only [clS]; omega)) (by omega) ?_ dX12_aDay_357
            refine ⟨?_, ?_⟩
            · unfold adR; rw [hm]
            · unfold adE; rw [hm]
        · exfalso; omega
      | succ d ih =>
        intro i hi
        have hz : (upI (sR u4 420 (zeroF (u4.2.1 420) i)) 400 27 (sumF (u4.2.1 420) i)).2.1 420 i = u4.2.1 420 i := by
          show zeroF (u4.2.1 420) i i = _
          unfold zeroF; rw [if_neg (by omega)]
        have hs27 : (upI (sR u4 420 (zeroF (u4.2.1 420) i)) 400 27 (sumF (u4.2.1 420) i)).2.1 400 27 = sumF (u4.2.1 420) i := rfl
        refine g_iload h dX12_aDay_312 rfl ?_
        refine g_iload_n h dX12_aDay_314 rfl ?_
        refine g_icmp_gt (tgt := 348) h dX12_aDay_315 (by decide) (by first | assumption | exact ⟨by omega, by omega⟩) (by first | assumption | exact ⟨by omega, by omega⟩) (fun c315 => ?_) (fun c315 => ?_)
        · exfalso; omega
        · refine g_aload_n h dX12_aDay_318 rfl ?_
          refine g_dup h dX12_aDay_319 rfl ?_
          refine g_getI h flX12_265 rfl (by assumption) dX12_aDay_320 ?_
          refine g_aload_n h dX12_aDay_323 rfl ?_
          refine g_getQ h flX12_65 rfl (by assumption) (by assumption) dX12_aDay_324 ?_
          refine g_iload h dX12_aDay_327 rfl ?_
          refine g_iald h (i) (by assumption) (by first | omega | assumption) (by first | omega | assumption) (by first | decide | omega) dX12_aDay_329 ?_
          rw [hz, hs27]
          refine g_iadd h dX12_aDay_330 ?_
          refine g_putI h flX12_265 rfl rfl (by assumption) dX12_aDay_331 ?_
          refine g_aload_n h dX12_aDay_334 rfl ?_
          refine g_getQ h flX12_65 rfl (by assumption) (by assumption) dX12_aDay_335 ?_
          refine g_iload h dX12_aDay_338 rfl ?_
          refine g_iconst h dX12_aDay_340 ?_
          refine g_iast h (i) (by assumption) (by first | omega | assumption) (by first | omega | assumption) (by first | decide | omega) dX12_aDay_341 ?_
          refine g_iinc h dX12_aDay_342 rfl (Nat.le_of_ble_eq_true rfl) rfl rfl ?_
          refine g_goto (tgt := 312) h dX12_aDay_345 (by decide) ?_
          have h4 := ih (i + 1) (by omega)
          refine g_eq rfl rfl ?_ h4
          refine aw_ext rfl (fun j => ?_) rfl
          by_cases q1 : j = 400
          · subst q1
            rw [upI_o _ _ _ (by decide)]
            show uI (uI (u4.2.1 400) 27 _) 27 _ = uI (u4.2.1 400) 27 _
            rw [uI_uI]
            rfl
          by_cases q2 : j = 420
          · subst q2
            show uI (zeroF (u4.2.1 420) i) i 0 = zeroF (u4.2.1 420) (i + 1)
            funext k
            unfold uI zeroF
            by_cases hk : k = i
            · rw [if_pos hk, if_pos (by omega)]
            · rw [if_neg hk]
              by_cases hk2 : k < i
              · rw [if_pos hk2, if_pos (by omega)]
              · rw [if_neg hk2, if_neg (by omega)]
          rw [upI_o _ _ _ q2, upI_o _ _ _ q1, upI_o _ _ _ q1, sR_ne _ _ q2, upI_o _ _ _ q1, sR_ne _ _ q2]
    have lowL : ∀ (k : Nat) (z : Int), z + 1 = (k : Int) → k ≤ 10 → adL u4 L = lowF (u4.2.1 420) (u4.2.1 410 L) (u4.2.1 411 L) k → GG Γ 279 [some (ar 400), some (ai (L : Int)), some (ai x), some (ai z), z0] [] u4 0 0 := by
      intro k
      induction k with
      | zero =>
        intro z hz _ hk
        obtain rfl : z = -1 := by omega
        have hnone : adL u4 L = none := hk
        refine g_iload_n h dX12_aDay_279 rfl ?_
        refine g_if_lt (tgt := 304) h dX12_aDay_280 (by decide) (by first | assumption | exact ⟨by omega, by omega⟩) (fun c280 => ?_) (fun c280 => ?_)
        · refine g_aload_n h dX12_aDay_304 rfl ?_
          refine g_iconst h dX12_aDay_305 ?_
          refine g_putI h flX12_265 rfl rfl (by assumption) dX12_aDay_306 ?_
          refine g_iconst h dX12_aDay_309 ?_
          refine g_istore h dX12_aDay_310 (Nat.le_of_ble_eq_true rfl) rfl rfl ?_
          refine g_iload h dX12_aDay_312 rfl ?_
          refine g_iload_n h dX12_aDay_314 rfl ?_
          refine g_icmp_gt (tgt := 348) h dX12_aDay_315 (by decide) (by first | assumption | exact ⟨by omega, by omega⟩) (by first | assumption | exact ⟨by omega, by omega⟩) (fun c315 => ?_) (fun c315 => ?_)
          · refine g_iload_n h dX12_aDay_348 rfl ?_
            refine g_if_lt (tgt := 356) h dX12_aDay_349 (by decide) (by first | assumption | exact ⟨by omega, by omega⟩) (fun c349 => ?_) (fun c349 => ?_)
            · refine g_iconst h dX12_aDay_356 ?_
              refine g_zret h hQ (by first | decide | omega | (simp only [clS]; omega)) (by first | decide | omega | (simp only [clS]; omega)) (by omega) ?_ dX12_aDay_357
              refine ⟨?_, ?_⟩
              · unfold adR; rw [hnone]
              · unfold adE; rw [hnone]
            · exfalso; omega
          · exfalso; omega
        · exfalso; omega
      | succ k ih =>
        intro z hz hk10 hk
        obtain rfl : z = (k : Int) := by omega
        have hgk : 0 ≤ u4.2.1 420 k ∧ u4.2.1 420 k ≤ 100000 := ⟨(hb4 k (by omega)).1, (hb4 k (by omega)).2.1⟩
        have hhk := holdsM_bd hN4 hL (show k < 10 by omega)
        refine g_iload_n h dX12_aDay_279 rfl ?_
        refine g_if_lt (tgt := 304) h dX12_aDay_280 (by decide) (by first | assumption | exact ⟨by omega, by omega⟩) (fun c280 => ?_) (fun c280 => ?_)
        · first
          | (exfalso; omega)
          | (refine g_aload_n h dX12_aDay_304 rfl ?_
             refine g_iconst h dX12_aDay_305 ?_
             refine g_putI h flX12_265 rfl rfl (by assumption) dX12_aDay_306 ?_
             refine g_iconst h dX12_aDay_309 ?_
             refine g_istore h dX12_aDay_310 (Nat.le_of_ble_eq_true rfl) rfl rfl ?_
             have h4 := sumL k (by omega) (by rw [hk]; show (if holdsM u4 L k < u4.2.1 420 k then some k else _) = _; rw [if_pos (by omega)]) (k + 1) 0 (by omega)
             rw [show zeroF (u4.2.1 420) 0 = u4.2.1 420 from funext (fun j => if_neg (by omega)), sR_self] at h4
             exact h4)
        · refine g_aload_n h dX12_aDay_283 rfl ?_
          refine g_getQ h flX12_65 rfl (by assumption) (by assumption) dX12_aDay_284 ?_
          refine g_iload_n h dX12_aDay_287 rfl ?_
          refine g_iald h (k) (by assumption) (by first | omega | assumption) (by first | omega | assumption) (by first | decide | omega) dX12_aDay_288 ?_
          refine g_aload_n h dX12_aDay_289 rfl ?_
          refine g_iload_n h dX12_aDay_290 rfl ?_
          refine g_iload_n h dX12_aDay_291 rfl ?_
          refine g_callV h rfl (ci := 12) [_, _] (by assumption) (c_X12_holds _ _ L k hMu4 hN4 hL (by omega)) clX12_192 (by decide) rfl in_X12_holds se_X12_holds rfl rfl (by rw [hRm]; first | decide | (simp only [clS]; omega)) (by rw [hRm]; first | decide | (simp only [clS]; omega)) (fun _ => Nat.le_of_ble_eq_true rfl) (by rw [hRm]; first | decide | (simp only [clS]; omega)) (by rw [hRm]; first | decide | (simp only [clS]; omega)) dX12_aDay_292 (fun r292 w292 hp292 => ?_)
          obtain ⟨rfl, hw292⟩ := hp292
          rw [hw292]
          refine g_icmp_gt (tgt := 304) h dX12_aDay_295 (by decide) (by first | assumption | exact ⟨by omega, by omega⟩) (by first | assumption | exact ⟨by omega, by omega⟩) (fun c295 => ?_) (fun c295 => ?_)
          · first
            | (exfalso; omega)
            | (refine g_aload_n h dX12_aDay_304 rfl ?_
               refine g_iconst h dX12_aDay_305 ?_
               refine g_putI h flX12_265 rfl rfl (by assumption) dX12_aDay_306 ?_
               refine g_iconst h dX12_aDay_309 ?_
               refine g_istore h dX12_aDay_310 (Nat.le_of_ble_eq_true rfl) rfl rfl ?_
               have h4 := sumL k (by omega) (by rw [hk]; show (if holdsM u4 L k < u4.2.1 420 k then some k else _) = _; rw [if_pos (by omega)]) (k + 1) 0 (by omega)
               rw [show zeroF (u4.2.1 420) 0 = u4.2.1 420 from funext (fun j => if_neg (by omega)), sR_self] at h4
               exact h4)
          · refine g_iinc h dX12_aDay_298 rfl (Nat.le_of_ble_eq_true rfl) rfl rfl ?_
            refine g_goto (tgt := 279) h dX12_aDay_301 (by decide) ?_
            exact ih ((k : Int) + -1) (by omega) (by omega) (by rw [hk]; show (if holdsM u4 L k < u4.2.1 420 k then some k else _) = _; rw [if_neg (by omega)])
    refine g_bipush h dX12_aDay_276 rfl ?_
    refine g_istore_n h dX12_aDay_278 (Nat.le_of_ble_eq_true rfl) rfl rfl ?_
    exact lowL 10 9 (by omega) (by omega) rfl
  have stC : ∀ (z0 : Option AV), ∀ (i : Nat) (g : Nat → Int) (x : Option AV), i ≤ 9 → (∀ j, j < 10 → 0 ≤ g j ∧ g j ≤ 100000) → riseF ((adB (adA w L) L np).2.1 413 L) i g = riseF ((adB (adA w L) L np).2.1 413 L) 9 ((adB (adA w L) L np).2.1 420) → GG Γ 179 [some (ar 400), some (ai (L : Int)), some (ai (i : Int)), x, z0] [] (sR (adB (adA w L) L np) 420 g) 0 0 := by
    intro z0 i
    change ∀ (x : Int) (y0 z0 : Option AV), GG Γ 276 [some (ar 400), some (ai (L : Int)), some (ai x), y0, z0] [] (adD (adC (adB (adA w L) L np) L)) 0 0 at stE
    revert hN2 hb2 hb3 hM2 hM3 stE
    generalize adB (adA w L) L np = u2
    intro hN2 hb2 hb3 hM2 hM3 stE
    obtain ⟨-, -, -, -, -, -, n8, n8', -⟩ := hN2 L hL
    have us400 : u2.1 400 = (112, 0) := hM2.1 400 (by decide) (by decide)
    have us420 : u2.1 420 = (1, 10) := hM2.1 420 (by decide) (by decide)
    have us412 : u2.1 412 = (1, 2) := hM2.1 412 (by decide) (by decide)
    have us424 : u2.1 424 = (1, 6) := hM2.1 424 (by decide) (by decide)
    have us429 : u2.1 429 = (1, 6) := hM2.1 429 (by decide) (by decide)
    have us425 : u2.1 425 = (3, 6) := hM2.1 425 (by decide) (by decide)
    have us423 : u2.1 423 = (1, 6) := hM2.1 423 (by decide) (by decide)
    have us432 : u2.1 432 = (1, 6) := hM2.1 432 (by decide) (by decide)
    have us431 : u2.1 431 = (1, 6) := hM2.1 431 (by decide) (by decide)
    have us413 : u2.1 413 = (1, 2) := hM2.1 413 (by decide) (by decide)
    have up20 : u2.2.2 400 20 = some 420 := hM2.2 (400, 20, 420) (by decide)
    have up12 : u2.2.2 400 12 = some 412 := hM2.2 (400, 12, 412) (by decide)
    have up24 : u2.2.2 400 24 = some 424 := hM2.2 (400, 24, 424) (by decide)
    have up29 : u2.2.2 400 29 = some 429 := hM2.2 (400, 29, 429) (by decide)
    have up25 : u2.2.2 400 25 = some 425 := hM2.2 (400, 25, 425) (by decide)
    have up23 : u2.2.2 400 23 = some 423 := hM2.2 (400, 23, 423) (by decide)
    have up32 : u2.2.2 400 32 = some 432 := hM2.2 (400, 32, 432) (by decide)
    have up31 : u2.2.2 400 31 = some 431 := hM2.2 (400, 31, 431) (by decide)
    have up13 : u2.2.2 400 13 = some 413 := hM2.2 (400, 13, 413) (by decide)
    induction i with
    | zero =>
      intro g x hi hbg hf
      have hb0 := hbg 0 (by omega)
      have q0 : (sR u2 420 g).2.1 420 0 = g 0 := rfl
      have q413 : (sR u2 420 g).2.1 413 L = u2.2.1 413 L := rfl
      have hg2 : g = riseF (u2.2.1 413 L) 9 (u2.2.1 420) := hf
      refine g_iload_n h dX12_aDay_179 rfl ?_
      refine g_if_le (tgt := 238) h dX12_aDay_180 (by decide) (by first | assumption | exact ⟨by omega, by omega⟩) (fun c180 => ?_) (fun c180 => ?_)
      · refine g_aload_n h dX12_aDay_238 rfl ?_
        refine g_getQ h flX12_65 rfl (by assumption) (by assumption) dX12_aDay_239 ?_
        refine g_iconst h dX12_aDay_242 ?_
        refine g_iald h (0) (by assumption) (by first | omega | assumption) (by first | omega | assumption) (by first | decide | omega) dX12_aDay_243 ?_
        rw [q0]
        refine g_aload_n h dX12_aDay_244 rfl ?_
        refine g_getQ h flX12_44 rfl (by assumption) (by assumption) dX12_aDay_245 ?_
        refine g_iload_n h dX12_aDay_248 rfl ?_
        refine g_iald h _ (by assumption) rfl (by first | omega | assumption) (by first | decide | omega) dX12_aDay_249 ?_
        rw [q413]
        refine g_idiv h (by first | assumption | exact ⟨by omega, by omega⟩) (by first | assumption | exact ⟨by omega, by omega⟩) (by first | omega | assumption) (by first | omega | assumption) dX12_aDay_250 ?_
        refine g_istore_n h dX12_aDay_251 (Nat.le_of_ble_eq_true rfl) rfl rfl ?_
        refine g_aload_n h dX12_aDay_252 rfl ?_
        refine g_getQ h flX12_65 rfl (by assumption) (by assumption) dX12_aDay_253 ?_
        refine g_iconst h dX12_aDay_256 ?_
        refine g_dup2 h dX12_aDay_257 rfl rfl ?_
        refine g_iald h (0) (by assumption) (by first | omega | assumption) (by first | omega | assumption) (by first | decide | omega) dX12_aDay_258 ?_
        refine g_iload_n h dX12_aDay_259 rfl ?_
        refine g_isub h dX12_aDay_260 ?_
        refine g_iast h (0) (by assumption) (by first | omega | assumption) (by first | omega | assumption) (by first | decide | omega) dX12_aDay_261 ?_
        refine g_aload_n h dX12_aDay_262 rfl ?_
        refine g_dup h dX12_aDay_263 rfl ?_
        refine g_getI h flX12_259 rfl (by assumption) dX12_aDay_264 ?_
        refine g_iload_n h dX12_aDay_267 rfl ?_
        refine g_iadd h dX12_aDay_268 ?_
        refine g_putI h flX12_259 rfl rfl (by assumption) dX12_aDay_269 ?_
        refine g_eq (w' := adC u2 L) rfl rfl ?_ ?_
        · unfold adC riseG riseA
          rw [← hg2]
          refine aw_ext rfl (fun j => ?_) rfl
          by_cases q1 : j = 400
          · subst q1; rfl
          by_cases q2 : j = 420
          · subst q2; rfl
          rw [upI_o _ _ _ q1, upI_o _ _ _ q2, sR_ne _ _ q2, upI_o _ _ _ q1, sR_ne _ _ q2]
        have t400 : (adC u2 L).1 400 = (112, 0) := us400
        refine g_aload_n h dX12_aDay_272 rfl ?_
        refine g_callV h rfl (ci := 12) [] (by assumption) (c_X12_turnsOver _ _ hM3 hb3) clX12_262 (by decide) rfl in_X12_turnsOver se_X12_turnsOver rfl rfl (by rw [hRm]; first | decide | (simp only [clS]; omega)) (by rw [hRm]; first | decide | (simp only [clS]; omega)) (fun _ => Nat.le_of_ble_eq_true rfl) (by rw [hRm]; first | decide | (simp only [clS]; omega)) (by rw [hRm]; first | decide | (simp only [clS]; omega)) dX12_aDay_273 (fun r273 w273 hp273 => ?_)
        obtain ⟨rfl, hw273⟩ := hp273
        rw [hw273]
        exact stE _ _ _
      · exfalso; omega
    | succ i ih =>
      intro g x hi hbg hf
      have hb0 := hbg i (by omega)
      have hb1 := hbg (i + 1) (by omega)
      have hmx : R32 (max 0 (g (i + 1) - g i)) := ⟨by omega, by omega⟩
      have q413 : (sR u2 420 g).2.1 413 L = u2.2.1 413 L := rfl
      have hs1 : (upI (sR u2 420 g) 420 (i + 1) (g (i + 1) - max 0 (g (i + 1) - g i) / u2.2.1 413 L)).2.1 420 i = g i := by
        rw [upI_at]
        exact if_neg (by omega)
      refine g_iload_n h dX12_aDay_179 rfl ?_
      refine g_if_le (tgt := 238) h dX12_aDay_180 (by decide) (by first | assumption | exact ⟨by omega, by omega⟩) (fun c180 => ?_) (fun c180 => ?_)
      · exfalso; omega
      · refine g_iconst h dX12_aDay_183 ?_
        refine g_aload_n h dX12_aDay_184 rfl ?_
        refine g_getQ h flX12_65 rfl (by assumption) (by assumption) dX12_aDay_185 ?_
        refine g_iload_n h dX12_aDay_188 rfl ?_
        refine g_iald h (i + 1) (by assumption) (by first | omega | assumption) (by first | omega | assumption) (by first | decide | omega) dX12_aDay_189 ?_
        rw [sR_at]
        refine g_aload_n h dX12_aDay_190 rfl ?_
        refine g_getQ h flX12_65 rfl (by assumption) (by assumption) dX12_aDay_191 ?_
        refine g_iload_n h dX12_aDay_194 rfl ?_
        refine g_iconst h dX12_aDay_195 ?_
        refine g_isub h dX12_aDay_196 ?_
        refine g_iald h (i) (by assumption) (by first | omega | assumption) (by first | omega | assumption) (by first | decide | omega) dX12_aDay_197 ?_
        rw [sR_at]
        refine g_isub h dX12_aDay_198 ?_
        refine g_max h rfl mmaxX12_186 (by first | assumption | exact ⟨by omega, by omega⟩) (by first | assumption | exact ⟨by omega, by omega⟩) (by rw [hRm]; first | decide | (simp only [clS]; omega)) (by rw [hRm]; first | decide | (simp only [clS]; omega)) (fun _ => Nat.le_of_ble_eq_true rfl) (by rw [hRm]; first | decide | (simp only [clS]; omega)) (by rw [hRm]; first | decide | (simp only [clS]; omega)) dX12_aDay_199 ?_
        refine g_aload_n h dX12_aDay_202 rfl ?_
        refine g_getQ h flX12_44 rfl (by assumption) (by assumption) dX12_aDay_203 ?_
        refine g_iload_n h dX12_aDay_206 rfl ?_
        refine g_iald h _ (by assumption) rfl (by first | omega | assumption) (by first | decide | omega) dX12_aDay_207 ?_
        rw [q413]
        refine g_idiv h (by first | assumption | exact ⟨by omega, by omega⟩) (by first | assumption | exact ⟨by omega, by omega⟩) (by first | omega | assumption) (by first | omega | assumption) dX12_aDay_208 ?_
        refine g_istore_n h dX12_aDay_209 (Nat.le_of_ble_eq_true rfl) rfl rfl ?_
        refine g_aload_n h dX12_aDay_210 rfl ?_
        refine g_getQ h flX12_65 rfl (by assumption) (by assumption) dX12_aDay_211 ?_
        refine g_iload_n h dX12_aDay_214 rfl ?_
        refine g_dup2 h dX12_aDay_215 rfl rfl ?_
        refine g_iald h (i + 1) (by assumption) (by first | omega | assumption) (by first | omega | assumption) (by first | decide | omega) dX12_aDay_216 ?_
        rw [sR_at]
        refine g_iload_n h dX12_aDay_217 rfl ?_
        refine g_isub h dX12_aDay_218 ?_
        refine g_iast h (i + 1) (by assumption) (by first | omega | assumption) (by first | omega | assumption) (by first | decide | omega) dX12_aDay_219 ?_
        refine g_aload_n h dX12_aDay_220 rfl ?_
        refine g_getQ h flX12_65 rfl (by assumption) (by assumption) dX12_aDay_221 ?_
        refine g_iload_n h dX12_aDay_224 rfl ?_
        refine g_iconst h dX12_aDay_225 ?_
        refine g_isub h dX12_aDay_226 ?_
        refine g_dup2 h dX12_aDay_227 rfl rfl ?_
        refine g_iald h (i) (by assumption) (by first | omega | assumption) (by first | omega | assumption) (by first | decide | omega) dX12_aDay_228 ?_
        rw [hs1]
        refine g_iload_n h dX12_aDay_229 rfl ?_
        refine g_iadd h dX12_aDay_230 ?_
        refine g_iast h (i) (by assumption) (by first | omega | assumption) (by first | omega | assumption) (by first | decide | omega) dX12_aDay_231 ?_
        refine g_iinc h dX12_aDay_232 rfl (Nat.le_of_ble_eq_true rfl) rfl rfl ?_
        refine g_goto (tgt := 179) h dX12_aDay_235 (by decide) ?_
        rw [show ((i + 1 : Nat) : Int) + -1 = (i : Int) by omega]
        refine g_eq rfl rfl ?_ (ih (rsF (u2.2.1 413 L) g (i + 1)) _ (by omega) (rsF_bd n8 (by omega) (by omega) hbg) hf)
        refine aw_ext rfl (fun j => ?_) rfl
        by_cases q2 : j = 420
        · subst q2
          rfl
        rw [upI_o _ _ _ q2, upI_o _ _ _ q2, sR_ne _ _ q2, sR_ne _ _ q2]
  have stP : ∀ (v : AW) (p : Nat) (x z0 : Option AV), MS v → MQ2 v np → RB3 (gH v) → p < np → (∀ x', GG Γ 50 [some (ar 400), some (ai (L : Int)), some (ai ((p : Int) + 1)), x', z0] [] (s3 v (mpS L (v.2.1 429) (v.2.1 423) (v.2.1 431) (v.2.1 432) p (g3 v))) 0 0) → GG Γ 50 [some (ar 400), some (ai (L : Int)), some (ai (p : Int)), x, z0] [] v 0 0 := by
    intro v p x z0 hMv hQv hbv hp kk
    obtain ⟨hnpv, hn6v, hppv⟩ := id hQv
    obtain ⟨a1, a2, a3, a4, a5, a6, a7, a8, hrp⟩ := hppv p hp
    have hgp : 0 ≤ v.2.1 420 (v.2.1 423 p).toNat ∧ v.2.1 420 (v.2.1 423 p).toNat ≤ 100000 ∧ True := ⟨(hbv (v.2.1 423 p).toNat (by omega)).1, (hbv (v.2.1 423 p).toNat (by omega)).2.1, trivial⟩
    have hmb := mul_bd (a := v.2.1 420 (v.2.1 423 p).toNat) (b := v.2.1 431 p) (x := 100000) (y := 500) hgp.1 hgp.2.1 (by omega) a6
    have hup : (upI v 424 p 0).2.1 425 p = v.2.1 425 p := rfl
    have hu429 : (upI v 424 p 0).2.1 429 p = v.2.1 429 p := rfl
    have hu423 : (upI v 424 p 0).2.1 423 p = v.2.1 423 p := rfl
    have hu420 : (upI v 424 p 0).2.1 420 (v.2.1 423 p).toNat = v.2.1 420 (v.2.1 423 p).toNat := rfl
    have hu432 : (upI v 424 p 0).2.1 432 p = v.2.1 432 p := rfl
    have hw420 : (upI (upI v 424 p 0) 425 p 1).2.1 420 (v.2.1 423 p).toNat = v.2.1 420 (v.2.1 423 p).toNat := rfl
    have hw431 : (upI (upI v 424 p 0) 425 p 1).2.1 431 p = v.2.1 431 p := rfl
    have s400 : v.1 400 = (112, 0) := hMv.1 400 (by decide) (by decide)
    have s420 : v.1 420 = (1, 10) := hMv.1 420 (by decide) (by decide)
    have s412 : v.1 412 = (1, 2) := hMv.1 412 (by decide) (by decide)
    have s424 : v.1 424 = (1, 6) := hMv.1 424 (by decide) (by decide)
    have s429 : v.1 429 = (1, 6) := hMv.1 429 (by decide) (by decide)
    have s425 : v.1 425 = (3, 6) := hMv.1 425 (by decide) (by decide)
    have s423 : v.1 423 = (1, 6) := hMv.1 423 (by decide) (by decide)
    have s432 : v.1 432 = (1, 6) := hMv.1 432 (by decide) (by decide)
    have s431 : v.1 431 = (1, 6) := hMv.1 431 (by decide) (by decide)
    have s413 : v.1 413 = (1, 2) := hMv.1 413 (by decide) (by decide)
    have p20 : v.2.2 400 20 = some 420 := hMv.2 (400, 20, 420) (by decide)
    have p12 : v.2.2 400 12 = some 412 := hMv.2 (400, 12, 412) (by decide)
    have p24 : v.2.2 400 24 = some 424 := hMv.2 (400, 24, 424) (by decide)
    have p29 : v.2.2 400 29 = some 429 := hMv.2 (400, 29, 429) (by decide)
    have p25 : v.2.2 400 25 = some 425 := hMv.2 (400, 25, 425) (by decide)
    have p23 : v.2.2 400 23 = some 423 := hMv.2 (400, 23, 423) (by decide)
    have p32 : v.2.2 400 32 = some 432 := hMv.2 (400, 32, 432) (by decide)
    have p31 : v.2.2 400 31 = some 431 := hMv.2 (400, 31, 431) (by decide)
    have p13 : v.2.2 400 13 = some 413 := hMv.2 (400, 13, 413) (by decide)
    refine g_iload_n h dX12_aDay_50 rfl ?_
    refine g_aload_n h dX12_aDay_51 rfl ?_
    refine g_getI h flX12_246 rfl (by assumption) dX12_aDay_52 ?_
    refine g_icmp_ge (tgt := 176) h dX12_aDay_55 (by decide) (by first | assumption | exact ⟨by omega, by omega⟩) (by first | assumption | exact ⟨by omega, by omega⟩) (fun c55 => ?_) (fun c55 => ?_)
    · exfalso; omega
    · refine g_aload_n h dX12_aDay_58 rfl ?_
      refine g_getQ h flX12_77 rfl (by assumption) (by assumption) dX12_aDay_59 ?_
      refine g_iload_n h dX12_aDay_62 rfl ?_
      refine g_iconst h dX12_aDay_63 ?_
      refine g_iast h _ (by assumption) rfl (by first | omega | assumption) (by first | decide | omega) dX12_aDay_64 ?_
      refine g_aload_n h dX12_aDay_65 rfl ?_
      refine g_getQ h flX12_84 rfl (by assumption) (by assumption) dX12_aDay_66 ?_
      refine g_iload_n h dX12_aDay_69 rfl ?_
      refine g_iald h _ (by assumption) rfl (by first | omega | assumption) (by first | decide | omega) dX12_aDay_70 ?_
      refine g_iload_n h dX12_aDay_71 rfl ?_
      refine g_icmp_ne (tgt := 170) h dX12_aDay_72 (by decide) (by first | assumption | exact ⟨by omega, by omega⟩) (by first | assumption | exact ⟨by omega, by omega⟩) (fun c72 => ?_) (fun c72 => ?_)
      · refine g_iinc h dX12_aDay_170 rfl (Nat.le_of_ble_eq_true rfl) rfl rfl ?_
        refine g_goto (tgt := 50) h dX12_aDay_173 (by decide) ?_
        first
        | (exfalso; omega)
        | (have h4 := kk x
           rw [mpS_1 v (by omega)] at h4
           exact h4)
        | (have h4 := kk (some (ai (v.2.1 423 p)))
           rw [mpS_2 v (by omega) (by omega)] at h4
           exact h4)
        | (have h4 := kk (some (ai (v.2.1 423 p)))
           rw [mpS_3 v (by omega) (by omega)] at h4
           exact h4)
      · refine g_aload_n h dX12_aDay_75 rfl ?_
        refine g_getQ h flX12_80 rfl (by assumption) (by assumption) dX12_aDay_76 ?_
        refine g_iload_n h dX12_aDay_79 rfl ?_
        refine g_zald h _ (by assumption) rfl (by first | omega | assumption) (by first | decide | omega) dX12_aDay_80 ?_
        rw [hup]
        refine g_if_ne (tgt := 87) h dX12_aDay_81 (by decide) (by first | assumption | exact ⟨by omega, by omega⟩) (fun c81 => ?_) (fun c81 => ?_)
        · refine g_aload_n h dX12_aDay_87 rfl ?_
          refine g_getQ h flX12_74 rfl (by assumption) (by assumption) dX12_aDay_88 ?_
          refine g_iload_n h dX12_aDay_91 rfl ?_
          refine g_iald h _ (by assumption) rfl (by first | omega | assumption) (by first | decide | omega) dX12_aDay_92 ?_
          refine g_istore_n h dX12_aDay_93 (Nat.le_of_ble_eq_true rfl) rfl rfl ?_
          refine g_aload_n h dX12_aDay_94 rfl ?_
          refine g_getQ h flX12_80 rfl (by assumption) (by assumption) dX12_aDay_95 ?_
          refine g_iload_n h dX12_aDay_98 rfl ?_
          refine g_aload_n h dX12_aDay_99 rfl ?_
          refine g_getQ h flX12_65 rfl (by assumption) (by assumption) dX12_aDay_100 ?_
          refine g_iload_n h dX12_aDay_103 rfl ?_
          refine g_iald h ((v.2.1 423 p).toNat) (by assumption) (by first | omega | assumption) (by first | omega | assumption) (by first | decide | omega) dX12_aDay_104 ?_
          refine g_aload_n h dX12_aDay_105 rfl ?_
          refine g_getQ h flX12_93 rfl (by assumption) (by assumption) dX12_aDay_106 ?_
          refine g_iload_n h dX12_aDay_109 rfl ?_
          refine g_iald h _ (by assumption) rfl (by first | omega | assumption) (by first | decide | omega) dX12_aDay_110 ?_
          refine g_icmp_lt (tgt := 118) h dX12_aDay_111 (by decide) (by first | assumption | exact ⟨by omega, by omega⟩) (by first | assumption | exact ⟨by omega, by omega⟩) (fun c111 => ?_) (fun c111 => ?_)
          · refine g_iconst h dX12_aDay_118 ?_
            refine g_zast h _ (by assumption) rfl (by first | omega | assumption) (by first | decide | omega) (by omega) dX12_aDay_119 ?_
            refine g_aload_n h dX12_aDay_120 rfl ?_
            refine g_getQ h flX12_80 rfl (by assumption) (by assumption) dX12_aDay_121 ?_
            refine g_iload_n h dX12_aDay_124 rfl ?_
            refine g_zald h _ (by assumption) rfl (by first | omega | assumption) (by first | decide | omega) dX12_aDay_125 ?_
            rw [upI_self]
            refine g_if_ne (tgt := 132) h dX12_aDay_126 (by decide) (by first | assumption | exact ⟨by omega, by omega⟩) (fun c126 => ?_) (fun c126 => ?_)
            · refine g_aload_n h dX12_aDay_132 rfl ?_
              refine g_getQ h flX12_77 rfl (by assumption) (by assumption) dX12_aDay_133 ?_
              refine g_iload_n h dX12_aDay_136 rfl ?_
              refine g_aload_n h dX12_aDay_137 rfl ?_
              refine g_getQ h flX12_65 rfl (by assumption) (by assumption) dX12_aDay_138 ?_
              refine g_iload_n h dX12_aDay_141 rfl ?_
              refine g_iald h ((v.2.1 423 p).toNat) (by assumption) (by first | omega | assumption) (by first | omega | assumption) (by first | decide | omega) dX12_aDay_142 ?_
              refine g_aload_n h dX12_aDay_143 rfl ?_
              refine g_getQ h flX12_90 rfl (by assumption) (by assumption) dX12_aDay_144 ?_
              refine g_iload_n h dX12_aDay_147 rfl ?_
              refine g_iald h _ (by assumption) rfl (by first | omega | assumption) (by first | decide | omega) dX12_aDay_148 ?_
              (try rw [hw420, hw431])
              refine g_imul h dX12_aDay_149 ?_
              refine g_sipush h dX12_aDay_150 rfl ?_
              refine g_idiv h (by first | assumption | exact ⟨by omega, by omega⟩) (by first | assumption | exact ⟨by omega, by omega⟩) (by first | omega | assumption) (by first | omega | assumption) dX12_aDay_153 ?_
              refine g_iast h _ (by assumption) rfl (by first | omega | assumption) (by first | decide | omega) dX12_aDay_154 ?_
              refine g_aload_n h dX12_aDay_155 rfl ?_
              refine g_getQ h flX12_65 rfl (by assumption) (by assumption) dX12_aDay_156 ?_
              refine g_iload_n h dX12_aDay_159 rfl ?_
              refine g_dup2 h dX12_aDay_160 rfl rfl ?_
              refine g_iald h ((v.2.1 423 p).toNat) (by assumption) (by first | omega | assumption) (by first | omega | assumption) (by first | decide | omega) dX12_aDay_161 ?_
              refine g_aload_n h dX12_aDay_162 rfl ?_
              refine g_getQ h flX12_77 rfl (by assumption) (by assumption) dX12_aDay_163 ?_
              refine g_iload_n h dX12_aDay_166 rfl ?_
              refine g_iald h _ (by assumption) rfl (by first | omega | assumption) (by first | decide | omega) dX12_aDay_167 ?_
              (try rw [upI_self])
              refine g_isub h dX12_aDay_168 ?_
              refine g_iast h ((v.2.1 423 p).toNat) (by assumption) (by first | omega | assumption) (by first | omega | assumption) (by first | decide | omega) dX12_aDay_169 ?_
              refine g_iinc h dX12_aDay_170 rfl (Nat.le_of_ble_eq_true rfl) rfl rfl ?_
              refine g_goto (tgt := 50) h dX12_aDay_173 (by decide) ?_
              first
              | (exfalso; omega)
              | (have h4 := kk x
                 rw [mpS_1 v (by omega)] at h4
                 exact h4)
              | (have h4 := kk (some (ai (v.2.1 423 p)))
                 rw [mpS_2 v (by omega) (by omega)] at h4
                 exact h4)
              | (have h4 := kk (some (ai (v.2.1 423 p)))
                 rw [mpS_3 v (by omega) (by omega)] at h4
                 exact h4)
            · refine g_goto (tgt := 170) h dX12_aDay_129 (by decide) ?_
              refine g_iinc h dX12_aDay_170 rfl (Nat.le_of_ble_eq_true rfl) rfl rfl ?_
              refine g_goto (tgt := 50) h dX12_aDay_173 (by decide) ?_
              first
              | (exfalso; omega)
              | (have h4 := kk x
                 rw [mpS_1 v (by omega)] at h4
                 exact h4)
              | (have h4 := kk (some (ai (v.2.1 423 p)))
                 rw [mpS_2 v (by omega) (by omega)] at h4
                 exact h4)
              | (have h4 := kk (some (ai (v.2.1 423 p)))
                 rw [mpS_3 v (by omega) (by omega)] at h4
                 exact h4)
          · refine g_iconst h dX12_aDay_114 ?_
            refine g_goto (tgt := 119) h dX12_aDay_115 (by decide) ?_
            refine g_zast h _ (by assumption) rfl (by first | omega | assumption) (by first | decide | omega) (by omega) dX12_aDay_119 ?_
            refine g_aload_n h dX12_aDay_120 rfl ?_
            refine g_getQ h flX12_80 rfl (by assumption) (by assumption) dX12_aDay_121 ?_
            refine g_iload_n h dX12_aDay_124 rfl ?_
            refine g_zald h _ (by assumption) rfl (by first | omega | assumption) (by first | decide | omega) dX12_aDay_125 ?_
            rw [upI_self]
            refine g_if_ne (tgt := 132) h dX12_aDay_126 (by decide) (by first | assumption | exact ⟨by omega, by omega⟩) (fun c126 => ?_) (fun c126 => ?_)
            · refine g_aload_n h dX12_aDay_132 rfl ?_
              refine g_getQ h flX12_77 rfl (by assumption) (by assumption) dX12_aDay_133 ?_
              refine g_iload_n h dX12_aDay_136 rfl ?_
              refine g_aload_n h dX12_aDay_137 rfl ?_
              refine g_getQ h flX12_65 rfl (by assumption) (by assumption) dX12_aDay_138 ?_
              refine g_iload_n h dX12_aDay_141 rfl ?_
              refine g_iald h ((v.2.1 423 p).toNat) (by assumption) (by first | omega | assumption) (by first | omega | assumption) (by first | decide | omega) dX12_aDay_142 ?_
              refine g_aload_n h dX12_aDay_143 rfl ?_
              refine g_getQ h flX12_90 rfl (by assumption) (by assumption) dX12_aDay_144 ?_
              refine g_iload_n h dX12_aDay_147 rfl ?_
              refine g_iald h _ (by assumption) rfl (by first | omega | assumption) (by first | decide | omega) dX12_aDay_148 ?_
              (try rw [hw420, hw431])
              refine g_imul h dX12_aDay_149 ?_
              refine g_sipush h dX12_aDay_150 rfl ?_
              refine g_idiv h (by first | assumption | exact ⟨by omega, by omega⟩) (by first | assumption | exact ⟨by omega, by omega⟩) (by first | omega | assumption) (by first | omega | assumption) dX12_aDay_153 ?_
              refine g_iast h _ (by assumption) rfl (by first | omega | assumption) (by first | decide | omega) dX12_aDay_154 ?_
              refine g_aload_n h dX12_aDay_155 rfl ?_
              refine g_getQ h flX12_65 rfl (by assumption) (by assumption) dX12_aDay_156 ?_
              refine g_iload_n h dX12_aDay_159 rfl ?_
              refine g_dup2 h dX12_aDay_160 rfl rfl ?_
              refine g_iald h ((v.2.1 423 p).toNat) (by assumption) (by first | omega | assumption) (by first | omega | assumption) (by first | decide | omega) dX12_aDay_161 ?_
              refine g_aload_n h dX12_aDay_162 rfl ?_
              refine g_getQ h flX12_77 rfl (by assumption) (by assumption) dX12_aDay_163 ?_
              refine g_iload_n h dX12_aDay_166 rfl ?_
              refine g_iald h _ (by assumption) rfl (by first | omega | assumption) (by first | decide | omega) dX12_aDay_167 ?_
              (try rw [upI_self])
              refine g_isub h dX12_aDay_168 ?_
              refine g_iast h ((v.2.1 423 p).toNat) (by assumption) (by first | omega | assumption) (by first | omega | assumption) (by first | decide | omega) dX12_aDay_169 ?_
              refine g_iinc h dX12_aDay_170 rfl (Nat.le_of_ble_eq_true rfl) rfl rfl ?_
              refine g_goto (tgt := 50) h dX12_aDay_173 (by decide) ?_
              first
              | (exfalso; omega)
              | (have h4 := kk x
                 rw [mpS_1 v (by omega)] at h4
                 exact h4)
              | (have h4 := kk (some (ai (v.2.1 423 p)))
                 rw [mpS_2 v (by omega) (by omega)] at h4
                 exact h4)
              | (have h4 := kk (some (ai (v.2.1 423 p)))
                 rw [mpS_3 v (by omega) (by omega)] at h4
                 exact h4)
            · refine g_goto (tgt := 170) h dX12_aDay_129 (by decide) ?_
              refine g_iinc h dX12_aDay_170 rfl (Nat.le_of_ble_eq_true rfl) rfl rfl ?_
              refine g_goto (tgt := 50) h dX12_aDay_173 (by decide) ?_
              first
              | (exfalso; omega)
              | (have h4 := kk x
                 rw [mpS_1 v (by omega)] at h4
                 exact h4)
              | (have h4 := kk (some (ai (v.2.1 423 p)))
                 rw [mpS_2 v (by omega) (by omega)] at h4
                 exact h4)
              | (have h4 := kk (some (ai (v.2.1 423 p)))
                 rw [mpS_3 v (by omega) (by omega)] at h4
                 exact h4)
        · refine g_goto (tgt := 170) h dX12_aDay_84 (by decide) ?_
          refine g_iinc h dX12_aDay_170 rfl (Nat.le_of_ble_eq_true rfl) rfl rfl ?_
          refine g_goto (tgt := 50) h dX12_aDay_173 (by decide) ?_
          first
          | (exfalso; omega)
          | (have h4 := kk x
             rw [mpS_1 v (by omega)] at h4
             exact h4)
          | (have h4 := kk (some (ai (v.2.1 423 p)))
             rw [mpS_2 v (by omega) (by omega)] at h4
             exact h4)
          | (have h4 := kk (some (ai (v.2.1 423 p)))
             rw [mpS_3 v (by omega) (by omega)] at h4
             exact h4)
  have stB : ∀ (d p : Nat) (x z0 : Option AV), p + d = np → GG Γ 50 [some (ar 400), some (ai (L : Int)), some (ai (p : Int)), x, z0] [] (adB (adA w L) L p) 0 0 := by
    intro d
    induction d with
    | zero =>
      intro p x z0 hp
      obtain rfl : p = np := by omega
      have hnp2 : (adB (adA w L) L p).2.1 400 28 = (p : Int) := hQ22.1
      have hn6 := hQ22.2.1
      have bs400 : (adB (adA w L) L p).1 400 = (112, 0) := hM2.1 400 (by decide) (by decide)
      have bs420 : (adB (adA w L) L p).1 420 = (1, 10) := hM2.1 420 (by decide) (by decide)
      have bs412 : (adB (adA w L) L p).1 412 = (1, 2) := hM2.1 412 (by decide) (by decide)
      have bs424 : (adB (adA w L) L p).1 424 = (1, 6) := hM2.1 424 (by decide) (by decide)
      have bs429 : (adB (adA w L) L p).1 429 = (1, 6) := hM2.1 429 (by decide) (by decide)
      have bs425 : (adB (adA w L) L p).1 425 = (3, 6) := hM2.1 425 (by decide) (by decide)
      have bs423 : (adB (adA w L) L p).1 423 = (1, 6) := hM2.1 423 (by decide) (by decide)
      have bs432 : (adB (adA w L) L p).1 432 = (1, 6) := hM2.1 432 (by decide) (by decide)
      have bs431 : (adB (adA w L) L p).1 431 = (1, 6) := hM2.1 431 (by decide) (by decide)
      have bs413 : (adB (adA w L) L p).1 413 = (1, 2) := hM2.1 413 (by decide) (by decide)
      have bp20 : (adB (adA w L) L p).2.2 400 20 = some 420 := hM2.2 (400, 20, 420) (by decide)
      have bp12 : (adB (adA w L) L p).2.2 400 12 = some 412 := hM2.2 (400, 12, 412) (by decide)
      have bp24 : (adB (adA w L) L p).2.2 400 24 = some 424 := hM2.2 (400, 24, 424) (by decide)
      have bp29 : (adB (adA w L) L p).2.2 400 29 = some 429 := hM2.2 (400, 29, 429) (by decide)
      have bp25 : (adB (adA w L) L p).2.2 400 25 = some 425 := hM2.2 (400, 25, 425) (by decide)
      have bp23 : (adB (adA w L) L p).2.2 400 23 = some 423 := hM2.2 (400, 23, 423) (by decide)
      have bp32 : (adB (adA w L) L p).2.2 400 32 = some 432 := hM2.2 (400, 32, 432) (by decide)
      have bp31 : (adB (adA w L) L p).2.2 400 31 = some 431 := hM2.2 (400, 31, 431) (by decide)
      have bp13 : (adB (adA w L) L p).2.2 400 13 = some 413 := hM2.2 (400, 13, 413) (by decide)
      refine g_iload_n h dX12_aDay_50 rfl ?_
      refine g_aload_n h dX12_aDay_51 rfl ?_
      refine g_getI h flX12_246 rfl (by assumption) dX12_aDay_52 ?_
      refine g_icmp_ge (tgt := 176) h dX12_aDay_55 (by decide) (by first | assumption | exact ⟨by omega, by omega⟩) (by first | assumption | exact ⟨by omega, by omega⟩) (fun c55 => ?_) (fun c55 => ?_)
      · refine g_bipush h dX12_aDay_176 rfl ?_
        refine g_istore_n h dX12_aDay_178 (Nat.le_of_ble_eq_true rfl) rfl rfl ?_
        have h4 := stC z0 9 ((adB (adA w L) L p).2.1 420) x (by omega) (fun j hj => ⟨(hb2 j hj).1, (hb2 j hj).2.1⟩) rfl
        rw [sR_self] at h4
        exact h4
      · exfalso; omega
    | succ d ih =>
      intro p x z0 hp
      obtain ⟨-, hQp, hbp⟩ := adB_ok (L := L) hN1 hQ21 hb1 p (by omega)
      refine stP (adB (adA w L) L p) p x z0 (MS_of rfl rfl hM) hQp hbp (by omega) (fun x' => ?_)
      have h4 := ih (p + 1) x' z0 (by omega)
      rw [adB_s] at h4
      exact h4
  have s400 : w.1 400 = (112, 0) := hM.1 400 (by decide) (by decide)
  have s420 : w.1 420 = (1, 10) := hM.1 420 (by decide) (by decide)
  have s412 : w.1 412 = (1, 2) := hM.1 412 (by decide) (by decide)
  have s424 : w.1 424 = (1, 6) := hM.1 424 (by decide) (by decide)
  have s429 : w.1 429 = (1, 6) := hM.1 429 (by decide) (by decide)
  have s425 : w.1 425 = (3, 6) := hM.1 425 (by decide) (by decide)
  have s423 : w.1 423 = (1, 6) := hM.1 423 (by decide) (by decide)
  have s432 : w.1 432 = (1, 6) := hM.1 432 (by decide) (by decide)
  have s431 : w.1 431 = (1, 6) := hM.1 431 (by decide) (by decide)
  have s413 : w.1 413 = (1, 2) := hM.1 413 (by decide) (by decide)
  have p20 : w.2.2 400 20 = some 420 := hM.2 (400, 20, 420) (by decide)
  have p12 : w.2.2 400 12 = some 412 := hM.2 (400, 12, 412) (by decide)
  have p24 : w.2.2 400 24 = some 424 := hM.2 (400, 24, 424) (by decide)
  have p29 : w.2.2 400 29 = some 429 := hM.2 (400, 29, 429) (by decide)
  have p25 : w.2.2 400 25 = some 425 := hM.2 (400, 25, 425) (by decide)
  have p23 : w.2.2 400 23 = some 423 := hM.2 (400, 23, 423) (by decide)
  have p32 : w.2.2 400 32 = some 432 := hM.2 (400, 32, 432) (by decide)
  have p31 : w.2.2 400 31 = some 431 := hM.2 (400, 31, 431) (by decide)
  have p13 : w.2.2 400 13 = some 413 := hM.2 (400, 13, 413) (by decide)
  have h9 : 0 ≤ w.2.1 420 9 ∧ w.2.1 420 9 ≤ 100000 := ⟨(hb 9 (by omega)).1, (hb 9 (by omega)).2.1⟩
  obtain ⟨-, -, -, -, n7, n7', -⟩ := hN L hL
  refine g_aload_n h dX12_aDay_0 rfl ?_
  refine g_getQ h flX12_65 rfl (by assumption) (by assumption) dX12_aDay_1 ?_
  refine g_bipush h dX12_aDay_4 rfl ?_
  refine g_dup2 h dX12_aDay_6 rfl rfl ?_
  refine g_iald h (9) (by assumption) (by first | omega | assumption) (by first | omega | assumption) (by first | decide | omega) dX12_aDay_7 ?_
  refine g_aload_n h dX12_aDay_8 rfl ?_
  refine g_getQ h flX12_41 rfl (by assumption) (by assumption) dX12_aDay_9 ?_
  refine g_iload_n h dX12_aDay_12 rfl ?_
  refine g_iald h _ (by assumption) rfl (by first | omega | assumption) (by first | decide | omega) dX12_aDay_13 ?_
  refine g_iadd h dX12_aDay_14 ?_
  refine g_iast h (9) (by assumption) (by first | omega | assumption) (by first | omega | assumption) (by first | decide | omega) dX12_aDay_15 ?_
  refine g_aload_n h dX12_aDay_16 rfl ?_
  refine g_iconst h dX12_aDay_17 ?_
  refine g_aload_n h dX12_aDay_18 rfl ?_
  refine g_getQ h flX12_65 rfl (by assumption) (by assumption) dX12_aDay_19 ?_
  refine g_bipush h dX12_aDay_22 rfl ?_
  refine g_iald h (9) (by assumption) (by first | omega | assumption) (by first | omega | assumption) (by first | decide | omega) dX12_aDay_24 ?_
  rw [upI_self]
  refine g_ldc h kcX12_210 dX12_aDay_25 ?_
  refine g_isub h dX12_aDay_27 ?_
  refine g_max h rfl mmaxX12_186 (by first | assumption | exact ⟨by omega, by omega⟩) (by first | assumption | exact ⟨by omega, by omega⟩) (by rw [hRm]; first | decide | (simp only [clS]; omega)) (by rw [hRm]; first | decide | (simp only [clS]; omega)) (fun _ => Nat.le_of_ble_eq_true rfl) (by rw [hRm]; first | decide | (simp only [clS]; omega)) (by rw [hRm]; first | decide | (simp only [clS]; omega)) dX12_aDay_28 ?_
  refine g_putI h flX12_259 rfl rfl (by assumption) dX12_aDay_31 ?_
  refine g_aload_n h dX12_aDay_34 rfl ?_
  refine g_getQ h flX12_65 rfl (by assumption) (by assumption) dX12_aDay_35 ?_
  refine g_bipush h dX12_aDay_38 rfl ?_
  refine g_dup2 h dX12_aDay_40 rfl rfl ?_
  refine g_iald h (9) (by assumption) (by first | omega | assumption) (by first | omega | assumption) (by first | decide | omega) dX12_aDay_41 ?_
  refine g_aload_n h dX12_aDay_42 rfl ?_
  refine g_getI h flX12_259 rfl (by assumption) dX12_aDay_43 ?_
  refine g_isub h dX12_aDay_46 ?_
  refine g_iast h (9) (by assumption) (by first | omega | assumption) (by first | omega | assumption) (by first | decide | omega) dX12_aDay_47 ?_
  refine g_eq (w' := adB (adA w L) L 0) rfl rfl ?_ ?_
  · rw [adB_0]
    unfold adA
    refine aw_ext rfl (fun j => ?_) rfl
    by_cases q1 : j = 400
    · subst q1; rfl
    by_cases q2 : j = 420
    · subst q2
      show uI (uI (w.2.1 420) 9 _) 9 _ = _
      rw [uI_uI]
      rfl
    rw [upI_o _ _ _ q2, upI_o _ _ _ q1, upI_o _ _ _ q2, upI_o _ _ _ q1, sR_ne _ _ q2]
  refine g_iconst h dX12_aDay_48 ?_
  refine g_istore_n h dX12_aDay_49 (Nat.le_of_ble_eq_true rfl) rfl rfl ?_
  exact stB np 0 none none (by omega)
