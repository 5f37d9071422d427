/-! ===== the world as the law's loop begins ===== -/
def w00 : AW := (fun _ => (0, 0), fun _ _ => 0, fun _ _ => none)
def wL9 : AW := iX9_init (alc w00 0 (109, 0))
def wL12 : AW := iX12_init (alc wL9 400 (112, 0))
def wL : AW := alc wL12 1900 (4, 1)
set_option maxRecDepth 100000 in
theorem wL_XS : XS wL := by
  unfold XS
  decide +kernel
set_option maxRecDepth 100000 in
theorem wL_MS : MS wL := by
  unfold MS
  have h : ∀ k, k < 478 → 400 ≤ k → wL.1 k = shM k := by decide +kernel
  exact ⟨fun k a b => h k b a, by decide +kernel⟩
set_option maxRecDepth 100000 in
theorem wL_SPI : SPI wL 0 := by
  unfold SPI
  refine ⟨by decide, fun i hi => absurd hi (Nat.not_lt_zero i), ?_⟩
  have h : ∀ i, i < 3 → wL.2.2 16 i = none ∧ (wL.1 (56 + i)).1 = 0 := by decide +kernel
  exact fun i _ h3 => h i h3
set_option maxRecDepth 100000 in
theorem wL_LN : ∀ L, L < 2 → LN wL L := by
  unfold LN
  decide +kernel
set_option maxRecDepth 100000 in
theorem wL_04 : ∀ L, L < 2 → wL.2.1 (2 + L) 4 = 0 := by decide +kernel
set_option maxRecDepth 100000 in
theorem wL_WI : WI wL (fun _ => 0) (fun _ _ => 0) 0 0 0 := by
  refine ⟨wL_XS, wL_SPI, fun L hL => ⟨wL_LN L hL, ⟨(show 0 ≤ 3 by decide), wL_04 L hL, fun i hi => absurd hi (Nat.not_lt_zero i), fun i j hi => absurd hi (Nat.not_lt_zero i)⟩, fun i hi => absurd hi (Nat.not_lt_zero i)⟩, ⟨by decide +kernel, by decide, by decide +kernel, by decide, fun i hi => absurd hi (Nat.not_lt_zero i), fun i hi => absurd hi (Nat.not_lt_zero i)⟩, by decide +kernel, by decide +kernel⟩
set_option maxRecDepth 100000 in
theorem wL_LkE : LkE wL wL (fun _ => 0) (fun _ _ => 0) 0 := by
  unfold LkE
  have h : ∀ L, L < 2 → (∀ i, i < 10 → wL.2.1 (5 + L) i = wL.2.1 407 (10 * L + i) ∧ wL.2.1 (8 + L) i = wL.2.1 408 (10 * L + i) ∧ wL.2.1 (11 + L) i = wL.2.1 409 (10 * L + i)) ∧
    (wL.2.1 (2 + L) 5 = wL.2.1 410 L ∧ wL.2.1 (2 + L) 6 = wL.2.1 411 L ∧ wL.2.1 (2 + L) 7 = wL.2.1 412 L ∧ wL.2.1 (2 + L) 8 = wL.2.1 413 L ∧ wL.2.1 (2 + L) 9 = wL.2.1 414 L) ∧
    (wL.2.1 (2 + L) 10 = wL.2.1 415 L ∧ wL.2.1 (2 + L) 11 = wL.2.1 416 L ∧ wL.2.1 (2 + L) 12 = wL.2.1 417 L ∧ wL.2.1 (2 + L) 13 = wL.2.1 418 L ∧ wL.2.1 (2 + L) 14 = wL.2.1 419 L) := by decide +kernel
  intro L hL
  obtain ⟨a, b, c⟩ := h L hL
  exact ⟨a, b, c, rfl, fun p hp => absurd hp (Nat.not_lt_zero p)⟩
set_option maxRecDepth 100000 in
theorem wL_PpE : PpE wL wL 0 := by
  have h : ∀ p, p < 6 → wL.2.1 433 p = 0 ∧ wL.2.1 434 p = 0 ∧ wL.2.1 435 p = 0 := by decide +kernel
  exact ⟨fun p hp => absurd hp (Nat.not_lt_zero p), fun p _ h6 => h p h6⟩
set_option maxRecDepth 100000 in
theorem wL_MPI : MPI wL 0 := ⟨by decide +kernel, by decide, fun p hp => absurd hp (Nat.not_lt_zero p)⟩
set_option maxRecDepth 100000 in
theorem wL_StE : StE wL wL 0 0 := ⟨fun i hi => absurd hi (Nat.not_lt_zero i), fun i hi => absurd hi (Nat.not_lt_zero i), fun i j _ hj => absurd hj (Nat.not_lt_zero j), fun i j _ hj => absurd hj (Nat.not_lt_zero j), fun i hi => absurd hi (Nat.not_lt_zero i)⟩
set_option maxRecDepth 100000 in
theorem wL_PI : PI wL 0 := by
  have h : ∀ p, p < 6 → (wL.1 (50 + p)).1 = 0 := by decide +kernel
  exact ⟨by decide +kernel, by decide, fun p hp => absurd hp (Nat.not_lt_zero p), fun p _ h6 => h p h6⟩
set_option maxRecDepth 100000 in
theorem wL_MR : MR wL 0 0 0 := by
  refine ⟨wL_MS, ?_, ?_, wL_MPI, ⟨by decide +kernel, by decide, by decide +kernel, by decide, fun i hi => absurd hi (Nat.not_lt_zero i), fun i hi => absurd hi (Nat.not_lt_zero i)⟩, by decide +kernel, by decide +kernel⟩
  · unfold MG
    decide +kernel
  · unfold MN
    decide +kernel
set_option maxRecDepth 100000 in
theorem wL_LG : LG wL wL (fun _ => 0) (fun _ _ => 0) 0 0 0 0 := ⟨⟨wL_WI, wL_LkE, wL_PpE, wL_MPI, wL_StE, by decide +kernel, by decide +kernel⟩, wL_PI, wL_MR, fun _ => (show 0 ≤ 3 by decide), fun i hi => absurd hi (Nat.not_lt_zero i), fun i hi => absurd hi (Nat.not_lt_zero i)⟩
set_option maxRecDepth 100000 in
theorem wL_444 : ∀ r, r < 17 → wL.2.2 444 r = none := by decide +kernel
set_option maxRecDepth 100000 in
theorem wL_500 : ∀ j, j < 551 → 500 ≤ j → (wL.1 j).1 = 0 := by decide +kernel
set_option maxRecDepth 100000 in
theorem wL_RUG : RUG wL wL 0 0 (fun _ => 0) (fun _ => 0) (fun _ => 0) (fun _ => []) :=
  ⟨⟨by decide +kernel, by decide, fun i hi => absurd hi (Nat.not_lt_zero i)⟩, ⟨by decide +kernel, by decide, fun i hi => absurd hi (Nat.not_lt_zero i)⟩, fun i hi => absurd hi (Nat.not_lt_zero i), Nat.le_refl _, by decide, fun i hi => absurd hi (Nat.not_lt_zero i), fun i j hi => absurd hi (Nat.not_lt_zero i), fun r _ h => wL_444 r h, fun j a b => wL_500 j b (by omega)⟩
set_option maxRecDepth 100000 in
theorem wL_VIG : VIG wL wL 0 := by
  have h : ∀ v, v < 20 → (wL.1 (60 + v)).1 = 0 ∧ wL.2.1 477 v = 0 := by decide +kernel
  exact ⟨⟨by decide +kernel, by decide, fun i hi => absurd hi (Nat.not_lt_zero i), fun v _ h2 => (h v h2).1⟩, ⟨by decide +kernel, by decide, fun i hi => absurd hi (Nat.not_lt_zero i)⟩, fun i hi => absurd hi (Nat.not_lt_zero i), fun v _ h2 => (h v h2).2⟩
set_option maxRecDepth 100000 in
theorem wL_37 : wL.2.1 37 = fun _ => 0 := rfl
set_option maxRecDepth 100000 in
theorem wL_38 : wL.2.1 38 = fun _ => 0 := rfl
set_option maxRecDepth 100000 in
theorem wL_39 : wL.2.1 39 = fun _ => 0 := rfl
set_option maxRecDepth 100000 in
theorem wL_41 : wL.2.1 41 = fun _ => 0 := rfl
set_option maxRecDepth 100000 in
theorem wL_472 : wL.2.1 472 = fun _ => 0 := rfl
set_option maxRecDepth 100000 in
theorem wL_LAG : LAG wL wL 0 := by
  have h5 : wL.2.1 36 5 = 0 := by decide +kernel
  have h71 : wL.2.1 400 71 = 0 := by decide +kernel
  refine ⟨⟨wL_XS, by decide +kernel, by decide, ?_, ?_, ?_⟩, ⟨by decide +kernel, by decide +kernel, by decide +kernel, by decide +kernel, ?_⟩, ⟨?_, by decide +kernel, by decide +kernel, by decide +kernel, by decide +kernel⟩, fun t => ?_, fun c _ => by rw [wL_37, wL_472], by decide +kernel, fun t => ?_⟩
  · rw [wL_41]; exact fun j _ => ⟨Int.le_refl _, (show (0 : Int) ≤ 1000000000 by decide)⟩
  · rw [wL_37]; exact fun j _ => ⟨Int.le_refl _, (show (0 : Int) ≤ 999 by decide)⟩
  · rw [wL_39]; exact fun j _ => ⟨Int.le_refl _, (show (0 : Int) ≤ 1000000 by decide)⟩
  · rw [wL_38]; exact fun j _ => ⟨(show (-2 : Int) ≤ 0 by decide), (show (0 : Int) ≤ 1000 by decide)⟩
  · rw [wL_472]; exact fun j _ => ⟨Int.le_refl _, (show (0 : Int) ≤ 999 by decide)⟩
  · rw [h71] at t; cases t
  · rw [h5] at t; cases t
set_option maxRecDepth 100000 in
theorem wL_21 : wL.2.1 21 = fun _ => 0 := rfl
set_option maxRecDepth 100000 in
theorem wL_TAG : TAG wL wL 0 := ⟨by decide +kernel, by decide, by decide +kernel, by rw [wL_21]; exact fun j _ => ⟨Int.le_refl _, (show (0 : Int) < 256 by decide)⟩, fun i hi => absurd hi (Nat.not_lt_zero i), by decide +kernel⟩
set_option maxRecDepth 100000 in
theorem wL_XHD : XHD wL := ⟨⟨by decide +kernel, by decide +kernel⟩, by decide +kernel⟩
set_option maxRecDepth 100000 in
theorem upP_1 (w : AW) (k f : Nat) (r : Option Nat) : (upP w k f r).1 = w.1 := rfl
set_option maxRecDepth 100000 in
theorem upI_1 (w : AW) (k f : Nat) (z : Int) : (upI w k f z).1 = w.1 := rfl
set_option maxRecDepth 100000 in
theorem wL9_far {k : Nat} (h : 43 ≤ k) : wL9.1 k = (0, 0) := by
  simp (disch := omega) only [wL9, iX9_init, iX9b, iX9a, iX0_init, iX1_init, iX2_init0, iX2_init1, iX2_init2, iX5_init, iX6_init, iX7_init, upP_1, upI_1, alc_ne]
  rfl
set_option maxRecDepth 100000 in
theorem wL_far {k : Nat} (h : 2000 ≤ k) : wL.1 k = (0, 0) := by
  have h9 := wL9_far (k := k) (by omega)
  simp (disch := omega) only [wL, wL12, iX12_init, iX12b, iX12a, thrW, iX10_init, upP_1, upI_1, alc_ne]
  exact h9
set_option maxRecDepth 100000 in
theorem wL_FRE : FRE 0 wL := ⟨fun k a _ => by rw [wL_far (by omega)], by decide +kernel⟩
set_option maxRecDepth 100000 in
theorem wL_CRW : CRW wL wL := by
  unfold CRW
  decide +kernel
set_option maxRecDepth 100000 in
theorem wL_PLN : PLN wL wL := by
  have h6 : wL.2.1 0 6 = 0 := by decide +kernel
  refine ⟨by decide +kernel, by decide +kernel, fun j hj => by rw [h6] at hj; omega, by decide +kernel⟩
set_option maxRecDepth 100000 in
theorem wL_TRB : TRB wL wL := by
  unfold TRB
  decide +kernel
set_option maxRecDepth 100000 in
theorem wL_REL : REL 0 wL wL := ⟨fun _ => 0, fun _ _ => 0, 0, 0, 0, 0, 0, 0, 0, 0, 0, fun _ => 0, fun _ => 0, fun _ => 0, fun _ => [], wL_LG, ⟨wL_RUG, wL_VIG, wL_LAG, wL_TAG, wL_XHD, wL_FRE⟩, wL_CRW, wL_PLN, wL_TRB⟩
