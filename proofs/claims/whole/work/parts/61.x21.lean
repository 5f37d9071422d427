/-! ===== what a look ahead leaves alone ===== -/
theorem upI_o (w : AW) {k j : Nat} (f : Nat) (z : Int) (h : j ≠ k) : (upI w k f z).2.1 j = w.2.1 j := if_neg h
theorem WI_of2 {w w' : AW} {n : Nat → Nat} {q : Nat → Nat → Nat} {S S' rn sn : Nat} (hW : WI w n q S rn sn) (hX : XS w') (hS : SPI w' S') (ho : ∀ j, noS j → j ≠ 26 → j ≠ 27 → w'.2.1 j = w.2.1 j ∧ w'.1 j = w.1 j) (hp : ∀ j, j < 16 → w'.2.2 j = w.2.2 j) : WI w' n q S' rn sn := by
  obtain ⟨-, -, hLk, hSI, t0, t1⟩ := hW
  have o : ∀ j, j < 56 → j ≠ 4 → j ≠ 7 → j ≠ 10 → j ≠ 13 → j ≠ 26 → j ≠ 27 → w'.2.1 j = w.2.1 j ∧ w'.1 j = w.1 j := fun j h h4 h7 h10 h13 => ho j ⟨h4, h7, h10, h13, Or.inl h⟩
  refine ⟨hX, hS, fun L hL => ?_, ?_, ?_⟩
  · obtain ⟨hN, ⟨a1, a2, a3, a4⟩, h56⟩ := hLk L hL
    refine ⟨?_, ⟨a1, ?_, fun i hi => ?_, a4⟩, h56⟩
    · unfold LN
      rw [(o (5 + L) (by omega) (by omega) (by omega) (by omega) (by omega) (by omega) (by omega)).1, (o (8 + L) (by omega) (by omega) (by omega) (by omega) (by omega) (by omega) (by omega)).1, (o (11 + L) (by omega) (by omega) (by omega) (by omega) (by omega) (by omega) (by omega)).1, (o (2 + L) (by omega) (by omega) (by omega) (by omega) (by omega) (by omega) (by omega)).1]
      exact hN
    · rw [(o (2 + L) (by omega) (by omega) (by omega) (by omega) (by omega) (by omega) (by omega)).1]
      exact a2
    · obtain ⟨b1, b2⟩ := a3 i hi
      have h50 := b2.1
      have h5 := h56 i hi
      refine ⟨by rw [hp (14 + L) (by omega)]; exact b1, ?_⟩
      unfold pOK
      rw [(o (q L i) (by omega) (by omega) (by omega) (by omega) (by omega) (by omega) (by omega)).1, (o (q L i) (by omega) (by omega) (by omega) (by omega) (by omega) (by omega) (by omega)).2]
      exact b2
  · unfold SI
    rw [(o 28 (by omega) (by omega) (by omega) (by omega) (by omega) (by omega) (by omega)).1, (o 29 (by omega) (by omega) (by omega) (by omega) (by omega) (by omega) (by omega)).1, (o 30 (by omega) (by omega) (by omega) (by omega) (by omega) (by omega) (by omega)).1, (o 31 (by omega) (by omega) (by omega) (by omega) (by omega) (by omega) (by omega)).1,
      (o 32 (by omega) (by omega) (by omega) (by omega) (by omega) (by omega) (by omega)).1, (o 33 (by omega) (by omega) (by omega) (by omega) (by omega) (by omega) (by omega)).1, (o 34 (by omega) (by omega) (by omega) (by omega) (by omega) (by omega) (by omega)).1, (o 35 (by omega) (by omega) (by omega) (by omega) (by omega) (by omega) (by omega)).1]
    exact hSI
  · rw [(o 0 (by omega) (by omega) (by omega) (by omega) (by omega) (by omega) (by omega)).1]
    exact ⟨t0, t1⟩
/-- the spare, the names and the pile alone may differ; the spare's pipes made: S before, S' now -/
def FSc (w w' : AW) (S S' : Nat) : Prop := XS w' ∧ SPI w' S' ∧ S ≤ S' ∧ (∀ j, noS j → j ≠ 26 → j ≠ 27 → w'.2.1 j = w.2.1 j) ∧ (∀ j, j < 56 ∨ 59 ≤ j → w'.1 j = w.1 j) ∧ (∀ j, j < 56 ∨ 59 ≤ j → j ≠ 16 → w'.2.2 j = w.2.2 j)
theorem FSc.refl {w : AW} {S : Nat} (hX : XS w) (hS : SPI w S) : FSc w w S S := ⟨hX, hS, Nat.le_refl _, fun _ _ _ _ => rfl, fun _ _ => rfl, fun _ _ _ => rfl⟩
theorem FSc.trans {a b c : AW} {S S' S'' : Nat} (h : FSc a b S S') (g : FSc b c S' S'') : FSc a c S S'' :=
  ⟨g.1, g.2.1, Nat.le_trans h.2.2.1 g.2.2.1, fun j h1 h2 h3 => (g.2.2.2.1 j h1 h2 h3).trans (h.2.2.2.1 j h1 h2 h3), fun j h1 => (g.2.2.2.2.1 j h1).trans (h.2.2.2.2.1 j h1), fun j h1 h2 => (g.2.2.2.2.2 j h1 h2).trans (h.2.2.2.2.2 j h1 h2)⟩
theorem FSc_F1 {w u : AW} {S k : Nat} (hX : XS w) (hS : SPI w S) (hk : k = 26 ∨ k = 27) (h : F1 k w u) : FSc w u S S :=
  ⟨XS_of h.1 h.2.1 hX, SPI_of h.1 h.2.1 hS, Nat.le_refl _, fun j _ h2 h3 => h.2.2 j (by omega), fun j _ => by rw [h.1], fun j _ _ => by rw [h.2.1]⟩
theorem F1_upI (w : AW) (k f : Nat) (z : Int) : F1 k w (upI w k f z) := ⟨rfl, rfl, fun j hj => if_neg hj⟩
theorem FSc_26 {w u : AW} {S S' : Nat} (f : Nat) (z : Int) (h : FSc w u S S') : FSc w (upI u 26 f z) S S' := h.trans (FSc_F1 h.1 h.2.1 (Or.inl rfl) (F1_upI u 26 f z))
theorem WI_fs {w u : AW} {n : Nat → Nat} {q : Nat → Nat → Nat} {S S' rn sn : Nat} (hW : WI w n q S rn sn) (h : FSc w u S S') : WI u n q S' rn sn :=
  WI_of2 hW h.1 h.2.1 (fun j h1 h2 h3 => ⟨h.2.2.2.1 j h1 h2 h3, h.2.2.2.2.1 j h1.2.2.2.2⟩) (fun j hj => h.2.2.2.2.2 j (by omega) (by omega))
theorem RBK_fs {w u : AW} {S S' nr : Nat} {rp rc : Nat → Nat} {cl : Nat → List Int} (h : RBK w nr rp rc cl) (g : FSc w u S S') : RBK u nr rp rc cl := by
  have e20 : u.2.1 20 = w.2.1 20 := g.2.2.2.1 20 ⟨by decide, by decide, by decide, by decide, by decide⟩ (by decide) (by decide)
  have eh : ∀ j, 2000 ≤ j → u.2.1 j = w.2.1 j := fun j hj => g.2.2.2.1 j ⟨by omega, by omega, by omega, by omega, by omega⟩ (by omega) (by omega)
  refine ⟨by rw [e20]; exact h.1, h.2.1, fun i hi => ?_⟩
  obtain ⟨a, b, c, d, e⟩ := h.2.2 i hi
  refine ⟨by rw [g.2.2.2.2.2 22 (by decide) (by decide)]; exact a, ?_, c, d, e⟩
  unfold RU at b ⊢
  rw [g.2.2.2.2.1 (rp i) (by omega), g.2.2.2.2.2 (rp i) (by omega) (by omega), g.2.2.2.2.1 (rc i) (by omega), eh _ c, eh _ d]
  exact b
/-- a look ahead -/
theorem FSc_spW {w : AW} {n : Nat → Nat} {q : Nat → Nat → Nat} {S rn sn L : Nat} (hW : WI w n q S rn sn) (hL : L < 2) : FSc w (spW w n q S L) S (max S (n L)) := by
  obtain ⟨hX, hS, hLk, -⟩ := hW
  obtain ⟨hN, hP, h56⟩ := hLk L hL
  refine ⟨(bcP_ok hX hL hN hP h56 hS).1, bcP_SPI hP.1 h56 hS, Nat.le_max_left _ _, fun j h _ _ => (bcP_s hP.1 h).1, fun j h => ?_, fun j h h16 => ?_⟩
  · exact (bcP_lo (bcB w L) S (q L) (n L) j (by have := hP.1; omega)).1
  · exact (bcP_lo (bcB w L) S (q L) (n L) j (by have := hP.1; omega)).2.2 h16
theorem FSc_db {v : AW} {n S' : Nat} (hn : n ≤ 3) (hX : XS v) (hS : SPI v S') (d : Nat) (day : Int) : FSc v (dbF n d day v).2 S' S' := by
  have g := fun j (hj : noS j) => dbF_s hn hj d day v
  have g0 := g 0 ⟨by decide, by decide, by decide, by decide, by decide⟩
  exact ⟨XS_of g0.2.1 g0.2.2 hX, SPI_of g0.2.1 g0.2.2 hS, Nat.le_refl _, fun j h _ _ => (g j h).1, fun j _ => by rw [g0.2.1], fun j _ _ => by rw [g0.2.2]⟩
theorem dbF_bd {n : Nat} : ∀ (d : Nat) (day : Int) (w : AW), 1 ≤ day → (dbF n d day w).1 = -2 ∨ (1 ≤ (dbF n d day w).1 ∧ (dbF n d day w).1 < day + d)
  | 0, _, _, _ => Or.inl rfl
  | d + 1, day, w, h => by
    unfold dbF
    split
    · exact Or.inr ⟨h, by show day < _; omega⟩
    · rcases dbF_bd d (day + 1) (goW w 2 n sq) (by omega) with e | ⟨e1, e2⟩
      · exact Or.inl e
      · exact Or.inr ⟨e1, by omega⟩
theorem dsF_bd (w : AW) (L rn : Nat) : ∀ i : Nat, 0 ≤ dsF w L rn i ∧ dsF w L rn i ≤ i
  | 0 => ⟨Int.le_refl _, Int.le_refl _⟩
  | i + 1 => by
    have := dsF_bd w L rn i
    show 0 ≤ dsF w L rn i + (if _ then (1 : Int) else 0) ∧ dsF w L rn i + (if _ then (1 : Int) else 0) ≤ ((i + 1 : Nat) : Int)
    split <;> omega
theorem runS_bd {w : AW} {q : Nat → Nat} : ∀ i : Nat, (∀ j, j < i → w.2.1 (q j) 4 = 0 ∨ w.2.1 (q j) 4 = 1) → 0 ≤ runS w q i ∧ runS w q i ≤ i
  | 0, _ => ⟨Int.le_refl _, Int.le_refl _⟩
  | i + 1, h => by
    have := runS_bd (w := w) i (fun j hj => h j (by omega))
    have h2 := h i (by omega)
    show 0 ≤ runS w q i + w.2.1 (q i) 4 ∧ runS w q i + w.2.1 (q i) 4 ≤ ((i + 1 : Nat) : Int)
    omega
theorem runS_congr {w u : AW} {q : Nat → Nat} : ∀ i : Nat, (∀ j, j < i → u.2.1 (q j) = w.2.1 (q j)) → runS u q i = runS w q i
  | 0, _ => rfl
  | i + 1, h => by
    show runS u q i + u.2.1 (q i) 4 = runS w q i + w.2.1 (q i) 4
    rw [runS_congr i (fun j hj => h j (by omega)), h i (by omega)]
theorem dsF_congr {w u : AW} {L rn : Nat} (h29 : u.2.1 29 = w.2.1 29) (h30 : u.2.1 30 = w.2.1 30) (h0 : u.2.1 0 13 = w.2.1 0 13) : ∀ i : Nat, dsF u L rn i = dsF w L rn i
  | 0 => rfl
  | i + 1 => by
    show dsF u L rn i + _ = dsF w L rn i + _
    rw [dsF_congr h29 h30 h0 i]
    unfold laF
    rw [h29, h30, h0]
theorem ftF_bd {w : AW} {L rn sn : Nat} (hN : LN w L) : ∀ i : Nat, i ≤ 10 → 0 ≤ ftF w L rn sn i ∧ ftF w L rn sn i ≤ 999
  | 0, _ => ⟨Int.le_refl _, by show (0 : Int) ≤ 999; omega⟩
  | i + 1, hi => by
    obtain ⟨hrow, n5, n5', n6, n6', -⟩ := id hN
    have := ftF_bd (rn := rn) (sn := sn) hN i (by omega)
    have hh := holdsF_bd n5 n5' n6 n6' (show i < 10 by omega)
    have ht := tgW_bd (w := w) (rn := rn) (sn := sn) (st := (L : Int) * 10 + (i : Int)) (day := w.2.1 0 13) hh.1 hh.2
    have hf := fullF_bd (tgW w ((L : Int) * 10 + (i : Int)) (w.2.1 0 13) (holdsW w L i) rn sn) (holdsW w L i) ht.2
    show 0 ≤ max _ _ ∧ max _ _ ≤ 999
    omega
/-- what the names are worth, but burst -/
def nmF (w : AW) (L : Nat) (n : Nat → Nat) (q : Nat → Nat → Nat) (rn sn : Nat) (hi : Int) : Nat → Int := fun a => if a = 0 then ftF w L rn sn 10 else if a = 2 then runS w (q L) (n L) else if a = 3 then w.2.1 (2 + L) 6 else if a = 4 then dsF w L rn 10 else if a = 5 then w.2.1 0 8 else if a = 6 then (L : Int) else if a = 7 then w.2.1 0 13 else hi
/-- burst as it is told -/
def bvF (w : AW) (L : Nat) (n : Nat → Nat) (q : Nat → Nat → Nat) (S : Nat) : Int := if (dbF (n L) 365 1 (spW w n q S L)).1 = -2 then 999 else (dbF (n L) 365 1 (spW w n q S L)).1
/-- numbers of the names and the wind are bounded -/
def HB (w : AW) : Prop := (∀ a, a < 9 → -100000 ≤ w.2.1 26 a ∧ w.2.1 26 a ≤ 100000) ∧ 0 ≤ w.2.1 0 8 ∧ w.2.1 0 8 ≤ 99
def nbs (cl : Nat → List Int) (nr : Nat) : Bool := anyB (fun i => hnF (cl i) (10000 + 1) (cl i).length) nr
/-- the names are told: of lake L, at a height -/
def TN (w w' : AW) (L : Nat) (n : Nat → Nat) (q : Nat → Nat → Nat) (S S' rn sn nr : Nat) (cl : Nat → List Int) (hi : Int) : Prop :=
  FSc w w' S S' ∧ S' ≤ max S (n L) ∧ (∀ a, a < 9 → a ≠ 1 → w'.2.1 26 a = nmF w L n q rn sn hi a) ∧ (nbs cl nr = true → ∃ u, FSc w u S S ∧ w'.2.1 26 1 = bvF u L n q S) ∧ ∀ a, a < 9 → -100000 ≤ w'.2.1 26 a ∧ w'.2.1 26 a ≤ 100000
