/-! ===== a day by M asks no more than ten layers and the pipes that there are ===== -/
def A10 (g g' : Nat → Int) : Prop := ∀ i, i < 10 → g i = g' i
abbrev A3 (r r' : R3) : Prop := A10 r.1 r'.1 ∧ A10 r.2.1 r'.2.1 ∧ A10 r.2.2 r'.2.2
theorem A10_uI {g g' : Nat → Int} {k : Nat} {z z' : Int} (h : A10 g g') (hz : z = z') : A10 (uI g k z) (uI g' k z') := by
  intro i hi
  unfold uI
  rw [hz, h i hi]
theorem srcF_A {g g' : Nat → Int} {s s' : Int} (h : A10 g g') (hs : s = s') : A10 (srcF g s) (srcF g' s') ∧ srcA g s = srcA g' s' := by
  subst hs
  unfold srcF srcA
  rw [h 9 (by decide)]
  exact ⟨A10_uI h rfl, rfl⟩
theorem rsF_A {g g' : Nat → Int} {m : Int} {i : Nat} (h : A10 g g') (hi : i < 10) : A10 (rsF m g i) (rsF m g' i) := by
  unfold rsF
  rw [h i hi, h (i - 1) (by omega)]
  exact A10_uI (A10_uI h rfl) rfl
theorem riseF_A {m : Int} : ∀ (n : Nat) {g g' : Nat → Int}, n ≤ 9 → A10 g g' → A10 (riseF m n g) (riseF m n g')
  | 0, _, _, _, h => h
  | n + 1, _, _, hn, h => riseF_A n (by omega) (rsF_A h (by omega))
theorem riseG_A {g g' : Nat → Int} {m m' : Int} (h : A10 g g') (hm : m = m') : A10 (riseG m g) (riseG m' g') ∧ riseA m g = riseA m' g' := by
  subst hm
  have h1 := riseF_A (m := m) 9 (Nat.le_refl _) h
  unfold riseG riseA
  rw [h1 0 (by decide)]
  exact ⟨A10_uI h1 rfl, rfl⟩
theorem halfF_A {g g' : Nat → Int} {i : Nat} (h : A10 g g') (h9 : i < 10) : A10 (halfF g i) (halfF g' i) := by
  unfold halfF
  rw [h i h9, h (i - 1) (by omega)]
  exact A10_uI (A10_uI h rfl) rfl
theorem half3_A {r r' : R3} {i : Nat} (h : A3 r r') (h9 : i < 10) : A3 (half3 r i) (half3 r' i) := ⟨halfF_A h.1 h9, halfF_A h.2.1 h9, halfF_A h.2.2 h9⟩
theorem WR_A {r r' : R3} (h : A3 r r') {i : Nat} (hi : i < 10) : WR r i = WR r' i := by
  show weightF _ _ _ = weightF _ _ _
  rw [h.1 i hi, h.2.1 i hi, h.2.2 i hi]
theorem flF_A {W W' : Nat → Int} : ∀ (n i : Nat), i + n ≤ 10 → (∀ j, j < 10 → W j = W' j) → flF W n i = flF W' n i
  | 0, _, _, _ => rfl
  | n + 1, i, hn, h => by
    unfold flF
    rw [h i (by omega), h (i - 1) (by omega), flF_A n (i + 1) (by omega) h]
theorem turnF_A : ∀ (n : Nat) {r r' : R3}, A3 r r' → A3 (turnF n r) (turnF n r')
  | 0, _, _, h => h
  | n + 1, r, r', h => by
    have e := flF_A (W := WR r) (W' := WR r') 9 1 (by decide) (fun j hj => WR_A h hj)
    unfold turnF
    rw [e]
    cases q : flF (WR r') 9 1 with
    | none => exact h
    | some i =>
      obtain ⟨a, b, -, -⟩ := flF_some _ _ _ q
      exact turnF_A n (half3_A h (by omega))
theorem lowF_A {g g' : Nat → Int} {s s' d d' : Int} (hs : s = s') (hd : d = d') : ∀ n, n ≤ 10 → A10 g g' → lowF g s d n = lowF g' s' d' n
  | 0, _, _ => rfl
  | n + 1, hn, h => by
    subst hs
    subst hd
    unfold lowF
    rw [h n (by omega), lowF_A rfl rfl n (by omega) h]
theorem sumF_A {g g' : Nat → Int} : ∀ n, n ≤ 10 → A10 g g' → sumF g n = sumF g' n
  | 0, _, _ => rfl
  | n + 1, hn, h => by
    unfold sumF
    rw [sumF_A n (by omega) h, h n (by omega)]
theorem zeroF_A {g g' : Nat → Int} (n : Nat) (h : A10 g g') : A10 (zeroF g n) (zeroF g' n) := by
  intro i hi
  unfold zeroF
  rw [h i hi]
theorem fullestF_A {g g' : Nat → Int} {s s' d d' : Int} (hs : s = s') (hd : d = d') : ∀ n, n ≤ 10 → A10 g g' → fullestF g s d n = fullestF g' s' d' n
  | 0, _, _ => rfl
  | n + 1, hn, h => by
    subst hs
    subst hd
    unfold fullestF
    rw [fullestF_A rfl rfl n (by omega) h, h n (by omega)]
/-- pipes' turns, asked of agreeing rows -/
def AM (np : Nat) (x y : M3) : Prop := A10 x.1 y.1 ∧ ∀ p, p < np → x.2.1 p = y.2.1 p
theorem mpS_A {L np p : Nat} {pl pl' lay lay' fl fl' li li' : Nat → Int} {x y : M3} (hp : p < np) (h1 : pl p = pl' p) (h2 : lay p = lay' p) (h3 : fl p = fl' p) (h4 : li p = li' p) (hl : 0 ≤ lay p ∧ lay p < 10) (h : AM np x y) : AM np (mpS L pl lay fl li p x) (mpS L pl' lay' fl' li' p y) := by
  have e := h.1 (lay' p).toNat (by omega)
  unfold mpS
  rw [← h1, h2, h3, h4, h.2 p hp, e]
  split
  · exact h
  · split
    · refine ⟨h.1, fun q hq => ?_⟩
      show uI x.2.1 p 0 q = uI y.2.1 p 0 q
      unfold uI
      rw [h.2 q hq]
    · refine ⟨A10_uI h.1 rfl, fun q hq => ?_⟩
      show uI x.2.1 p 1 q = uI y.2.1 p 1 q
      unfold uI
      rw [h.2 q hq]
theorem mpF_A {L np : Nat} {pl pl' lay lay' fl fl' li li' : Nat → Int} {x y : M3} (h1 : ∀ p, p < np → pl p = pl' p) (h2 : ∀ p, p < np → lay p = lay' p) (h3 : ∀ p, p < np → fl p = fl' p) (h4 : ∀ p, p < np → li p = li' p) (hl : ∀ p, p < np → 0 ≤ lay p ∧ lay p < 10) (h : AM np x y) : ∀ p, p ≤ np → AM np (mpF L pl lay fl li x p) (mpF L pl' lay' fl' li' y p)
  | 0, _ => h
  | p + 1, hp => mpS_A (by omega) (h1 p (by omega)) (h2 p (by omega)) (h3 p (by omega)) (h4 p (by omega)) (hl p (by omega)) (mpF_A h1 h2 h3 h4 hl h p (by omega))
/-- two worlds of M that a day of lake L can't tell apart -/
def HE (u v : AW) (L np : Nat) : Prop := A3 (gH u) (gH v) ∧ (∀ p, p < np → u.2.1 425 p = v.2.1 425 p ∧ u.2.1 423 p = v.2.1 423 p ∧ u.2.1 429 p = v.2.1 429 p ∧ u.2.1 431 p = v.2.1 431 p ∧ u.2.1 432 p = v.2.1 432 p) ∧ u.2.1 410 L = v.2.1 410 L ∧ u.2.1 411 L = v.2.1 411 L ∧ u.2.1 412 L = v.2.1 412 L ∧ u.2.1 413 L = v.2.1 413 L
theorem HE_day {u v : AW} {L np : Nat} (h : HE u v L np) (hl : ∀ p, p < np → 0 ≤ u.2.1 423 p ∧ u.2.1 423 p < 10) : mdB u L np = mdB v L np ∧ HE (mdW u L np) (mdW v L np) L np := by
  obtain ⟨hr, hp, h0, h1, h2, h3⟩ := h
  -- the source
  obtain ⟨a1, -⟩ := srcF_A hr.1 h2
  have b1 : A10 ((adA u L).2.1 420) ((adA v L).2.1 420) := a1
  -- the pipes
  have b2 : AM np (mpF L (u.2.1 429) (u.2.1 423) (u.2.1 431) (u.2.1 432) (g3 (adA u L)) np) (mpF L (v.2.1 429) (v.2.1 423) (v.2.1 431) (v.2.1 432) (g3 (adA v L)) np) :=
    mpF_A (fun p q => (hp p q).2.2.1) (fun p q => (hp p q).2.1) (fun p q => (hp p q).2.2.2.1) (fun p q => (hp p q).2.2.2.2) hl ⟨b1, fun p q => (hp p q).1⟩ np (Nat.le_refl _)
  have c1 : A10 ((adB (adA u L) L np).2.1 420) ((adB (adA v L) L np).2.1 420) := b2.1
  have c2 : ∀ p, p < np → (adB (adA u L) L np).2.1 425 p = (adB (adA v L) L np).2.1 425 p := b2.2
  -- gas rises
  obtain ⟨d1, -⟩ := riseG_A (m := u.2.1 413 L) (m' := v.2.1 413 L) c1 h3
  have d2 : A10 ((adC (adB (adA u L) L np) L).2.1 420) ((adC (adB (adA v L) L np) L).2.1 420) := d1
  have e1 : A3 (gH (amW u L np)) (gH (amW v L np)) := turnF_A 200 (r := gH (adC (adB (adA u L) L np) L)) (r' := gH (adC (adB (adA v L) L np) L)) ⟨d2, hr.2.1, hr.2.2⟩
  have el : adL (amW u L np) L = adL (amW v L np) L := lowF_A (show (amW u L np).2.1 410 L = (amW v L np).2.1 410 L from h0) (show (amW u L np).2.1 411 L = (amW v L np).2.1 411 L from h1) 10 (Nat.le_refl _) e1.1
  have eb : mdB u L np = mdB v L np := by
    unfold mdB adR
    rw [el]
  refine ⟨eb, ?_⟩
  have o := fun (x : AW) (j : Nat) (a : noH j) => (MF_md x L np).2.2.1 j a
  refine ⟨⟨?_, ?_, ?_⟩, fun p q => ?_, ?_, ?_, ?_, ?_⟩
  · show A10 ((adE (amW u L np) L).2.1 420) ((adE (amW v L np) L).2.1 420)
    unfold adE
    rw [el]
    split
    · exact e1.1
    · exact zeroF_A _ e1.1
  · show A10 ((adE (amW u L np) L).2.1 421) ((adE (amW v L np) L).2.1 421)
    rw [adE_o _ _ (by decide) (by decide), adE_o _ _ (by decide) (by decide)]
    exact e1.2.1
  · show A10 ((adE (amW u L np) L).2.1 422) ((adE (amW v L np) L).2.1 422)
    rw [adE_o _ _ (by decide) (by decide), adE_o _ _ (by decide) (by decide)]
    exact e1.2.2
  · have f := fun (x : AW) (j : Nat) (a : j ≠ 420) (b : j ≠ 400) (c : j ≠ 425) (d : j ≠ 424) (e : j ≠ 421) (f : j ≠ 422) => (show (mdW x L np).2.1 j = x.2.1 j by
      show (adE (adD (adC (adB (adA x L) L np) L)) L).2.1 j = _
      rw [adE_o _ _ a b, adD_o _ a e f, adC_o _ _ a b, adB_o _ _ _ a c d, adA_o _ _ a b])
    have g := fun (x : AW) => (show (mdW x L np).2.1 425 = (adB (adA x L) L np).2.1 425 by
      show (adE (adD (adC (adB (adA x L) L np) L)) L).2.1 425 = _
      rw [adE_o _ _ (by decide) (by decide), adD_o _ (by decide) (by decide) (by decide), adC_o _ _ (by decide) (by decide)])
    rw [g u, g v, f u 423 (by decide) (by decide) (by decide) (by decide) (by decide) (by decide), f v 423 (by decide) (by decide) (by decide) (by decide) (by decide) (by decide), f u 429 (by decide) (by decide) (by decide) (by decide) (by decide) (by decide), f v 429 (by decide) (by decide) (by decide) (by decide) (by decide) (by decide),
      f u 431 (by decide) (by decide) (by decide) (by decide) (by decide) (by decide), f v 431 (by decide) (by decide) (by decide) (by decide) (by decide) (by decide), f u 432 (by decide) (by decide) (by decide) (by decide) (by decide) (by decide), f v 432 (by decide) (by decide) (by decide) (by decide) (by decide) (by decide)]
    exact ⟨c2 p q, (hp p q).2⟩
  · rw [o u 410 ⟨by decide, by decide, by decide, by decide, by decide, by decide, by decide⟩, o v 410 ⟨by decide, by decide, by decide, by decide, by decide, by decide, by decide⟩]; exact h0
  · rw [o u 411 ⟨by decide, by decide, by decide, by decide, by decide, by decide, by decide⟩, o v 411 ⟨by decide, by decide, by decide, by decide, by decide, by decide, by decide⟩]; exact h1
  · rw [o u 412 ⟨by decide, by decide, by decide, by decide, by decide, by decide, by decide⟩, o v 412 ⟨by decide, by decide, by decide, by decide, by decide, by decide, by decide⟩]; exact h2
  · rw [o u 413 ⟨by decide, by decide, by decide, by decide, by decide, by decide, by decide⟩, o v 413 ⟨by decide, by decide, by decide, by decide, by decide, by decide, by decide⟩]; exact h3
theorem HE_db {L np : Nat} : ∀ (d : Nat) (day : Int) (u v : AW), HE u v L np → MN u → L < 2 → MQ2 u np → RB3 (gH u) → (dbM L np d day u).1 = (dbM L np d day v).1
  | 0, _, _, _, _, _, _, _, _ => rfl
  | d + 1, day, u, v, h, hN, hL, hQ, hb => by
    obtain ⟨e1, e2⟩ := HE_day h (fun p q => ⟨(hQ.2.2 p q).2.2.1, (hQ.2.2 p q).2.2.2.1⟩)
    obtain ⟨hN2, hQ2, hb2⟩ := mdW_ok (L := L) hN hL hQ hb
    unfold dbM
    rw [e1]
    split
    · rfl
    · exact HE_db d (day + 1) _ _ e2 hN2 hL hQ2 hb2
/-- what a look ahead starts from is told by the lakes' rows and the pipes -/
theorem HE_tk {u v : AW} {L np : Nat} (ho : ∀ j, j = 407 ∨ j = 408 ∨ j = 409 ∨ j = 410 ∨ j = 411 ∨ j = 412 ∨ j = 413 ∨ j = 429 ∨ j = 430 ∨ j = 431 ∨ j = 432 ∨ j = 435 → u.2.1 j = v.2.1 j) : HE (tkW u L np) (tkW v L np) L np := by
  have t := fun (x : AW) (j : Nat) a b c d e => tkW_o x L np (j := j) a b c d e
  refine ⟨⟨fun i hi => ?_, fun i hi => ?_, fun i hi => ?_⟩, fun p hp => ?_, ?_, ?_, ?_, ?_⟩
  · have e1 : (tkW u L np).2.1 420 i = u.2.1 407 (10 * L + i) := if_pos hi
    have e2 : (tkW v L np).2.1 420 i = v.2.1 407 (10 * L + i) := if_pos hi
    exact e1.trans ((congrFun (ho 407 (by omega)) _).trans e2.symm)
  · have e1 : (tkW u L np).2.1 421 i = u.2.1 408 (10 * L + i) := if_pos hi
    have e2 : (tkW v L np).2.1 421 i = v.2.1 408 (10 * L + i) := if_pos hi
    exact e1.trans ((congrFun (ho 408 (by omega)) _).trans e2.symm)
  · have e1 : (tkW u L np).2.1 422 i = u.2.1 409 (10 * L + i) := if_pos hi
    have e2 : (tkW v L np).2.1 422 i = v.2.1 409 (10 * L + i) := if_pos hi
    exact e1.trans ((congrFun (ho 409 (by omega)) _).trans e2.symm)
  · have e1 : (tkW u L np).2.1 423 p = u.2.1 430 p := if_pos hp
    have e2 : (tkW v L np).2.1 423 p = v.2.1 430 p := if_pos hp
    have e3 : (tkW u L np).2.1 425 p = u.2.1 435 p := if_pos hp
    have e4 : (tkW v L np).2.1 425 p = v.2.1 435 p := if_pos hp
    rw [e1, e2, e3, e4, t u 429 (by decide) (by decide) (by decide) (by decide) (by decide), t v 429 (by decide) (by decide) (by decide) (by decide) (by decide), t u 431 (by decide) (by decide) (by decide) (by decide) (by decide), t v 431 (by decide) (by decide) (by decide) (by decide) (by decide), t u 432 (by decide) (by decide) (by decide) (by decide) (by decide), t v 432 (by decide) (by decide) (by decide) (by decide) (by decide)]
    exact ⟨congrFun (ho 435 (by omega)) p, congrFun (ho 430 (by omega)) p, congrFun (ho 429 (by omega)) p, congrFun (ho 431 (by omega)) p, congrFun (ho 432 (by omega)) p⟩
  · rw [t u 410 (by decide) (by decide) (by decide) (by decide) (by decide), t v 410 (by decide) (by decide) (by decide) (by decide) (by decide)]; exact congrFun (ho 410 (by omega)) L
  · rw [t u 411 (by decide) (by decide) (by decide) (by decide) (by decide), t v 411 (by decide) (by decide) (by decide) (by decide) (by decide)]; exact congrFun (ho 411 (by omega)) L
  · rw [t u 412 (by decide) (by decide) (by decide) (by decide) (by decide), t v 412 (by decide) (by decide) (by decide) (by decide) (by decide)]; exact congrFun (ho 412 (by omega)) L
  · rw [t u 413 (by decide) (by decide) (by decide) (by decide) (by decide), t v 413 (by decide) (by decide) (by decide) (by decide) (by decide)]; exact congrFun (ho 413 (by omega)) L
theorem baM_HE {u v : AW} {L np : Nat} (hL : L < 2) (hG : MG u) (hN : MN u) (hP : MPI u np) (ho : ∀ j, j = 407 ∨ j = 408 ∨ j = 409 ∨ j = 410 ∨ j = 411 ∨ j = 412 ∨ j = 413 ∨ j = 429 ∨ j = 430 ∨ j = 431 ∨ j = 432 ∨ j = 435 → u.2.1 j = v.2.1 j) : (baM u L np).1 = (baM v L np).1 := by
  obtain ⟨a, b, c⟩ := tk_ok (L := L) hL hG hN hP
  exact HE_db 365 1 _ _ (HE_tk ho) a hL b c
