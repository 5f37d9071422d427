/-! ===== what holds of both between calls ===== -/
/-- no day of a reading or a sounding is to come; three pipes a lake -/
def DYB (w : AW) (n : Nat → Nat) (rn sn : Nat) : Prop := (∀ L, n L ≤ 3) ∧ (∀ i, i < rn → w.2.1 30 i ≤ w.2.1 0 13) ∧ ∀ i, i < sn → w.2.1 33 i ≤ w.2.1 0 13
/-- lakes, pipes, strings -/
def LG (w u : AW) (n : Nat → Nat) (q : Nat → Nat → Nat) (np S rn sn : Nat) : Prop := RLX w u n q np S rn sn ∧ PI w np ∧ MR u np rn sn ∧ DYB w n rn sn
/-- where M's rules lie -/
def mqF (kf : Nat → Nat) (r : Nat) : Nat := 500 + 3 * kf r
def MSL (u : AW) (nr mk : Nat) (kf : Nat → Nat) : Prop := nr ≤ mk ∧ mk ≤ 17 ∧ (∀ r, r < mk → u.2.2 444 r = some (mqF kf r) ∧ kf r < mk ∧ RO u (mqF kf r)) ∧ (∀ r s, r < mk → s < mk → kf r = kf s → r = s) ∧ (∀ r, mk ≤ r → r < 17 → u.2.2 444 r = none) ∧ ∀ j, 500 + 3 * mk ≤ j → j < 551 → (u.1 j).1 = 0
/-- rules -/
def RUG (w u : AW) (nr mk : Nat) (rp rc kf : Nat → Nat) (cl : Nat → List Int) : Prop := RBK w nr rp rc cl ∧ RMB u nr (mqF kf) cl ∧ (∀ i, i < nr → w.2.1 (rp i) 0 = u.2.1 (mqF kf i) 0) ∧ MSL u nr mk kf
/-- villages -/
def VIG (w u : AW) (nv : Nat) : Prop := VI w nv ∧ MVI u nv ∧ (∀ v, v < nv → w.2.1 (60 + v) 0 = u.2.1 475 v ∧ w.2.1 (60 + v) 1 = u.2.1 476 v ∧ w.2.1 (60 + v) 2 = u.2.1 477 v) ∧ ∀ v, nv ≤ v → v < 20 → u.2.1 477 v = 0
/-- arrivals -/
def ARV (w u : AW) : Prop := w.2.1 36 5 = 1 → ∀ c, c < 400 → (u.2.1 473 c = -1 → w.2.1 38 c = -2) ∧ (u.2.1 473 c ≠ -1 → 0 ≤ u.2.1 473 c ∧ w.2.1 38 c = u.2.1 473 c / u.2.1 400 70)
/-- the land -/
def LAG (w u : AW) (sz : Nat) : Prop := CI w sz ∧ LDN w ∧ ML u ∧ MO2 u ∧ (∀ c, c < 400 → w.2.1 37 c = u.2.1 472 c) ∧ (w.2.1 36 1 = u.2.1 400 66 ∧ w.2.1 36 2 = u.2.1 400 67 ∧ w.2.1 36 3 = u.2.1 400 68 ∧ w.2.1 36 5 = u.2.1 400 71) ∧ ARV w u
/-- the tape -/
def TAG (w u : AW) (tl : Nat) : Prop := w.2.1 20 1 = (tl : Int) ∧ tl ≤ 300 ∧ u.2.1 400 47 = (tl : Int) ∧ (∀ k, k < 300 → 0 ≤ w.2.1 21 k ∧ w.2.1 21 k < 256) ∧ (∀ k, k < tl → u.2.1 446 k = sg (w.2.1 21 k)) ∧ R64 (u.2.1 400 56)
/-- what X keeps at hand -/
def XHD (w : AW) : Prop := HB w ∧ ∀ j, j < 3 → 0 ≤ w.2.1 18 j ∧ w.2.1 18 j ≤ 9
/-- free places -/
def FRE (i : Nat) (w : AW) : Prop := (∀ k, 2000 + 2 * i ≤ k → k < 20000 → (w.1 k).1 = 0) ∧ w.1 1900 = (4, 1)
def GR (i : Nat) (w u : AW) (nv nr mk tl sz : Nat) (rp rc kf : Nat → Nat) (cl : Nat → List Int) : Prop := RUG w u nr mk rp rc kf cl ∧ VIG w u nv ∧ LAG w u sz ∧ TAG w u tl ∧ XHD w ∧ FRE i w
/-- crew and bursts -/
def CRW (w u : AW) : Prop := w.2.1 0 14 = u.2.1 400 6 ∧ (-2 ≤ w.2.1 0 14 ∧ w.2.1 0 14 ≤ 2) ∧ w.2.1 0 15 = u.2.1 400 5
/-- layers planned -/
def PLN (w u : AW) : Prop := w.2.1 0 6 = u.2.1 400 40 ∧ (0 ≤ w.2.1 0 6 ∧ w.2.1 0 6 ≤ 3) ∧ (∀ j : Nat, (j : Int) < w.2.1 0 6 → w.2.1 19 j = u.2.1 441 j) ∧ ∀ j, j < 3 → 0 ≤ w.2.1 19 j ∧ w.2.1 19 j ≤ 9
/-- trouble, fault, where -/
def TRB (w u : AW) : Prop := w.2.1 0 16 = u.2.1 400 1 ∧ (0 ≤ w.2.1 0 16 ∧ w.2.1 0 16 ≤ 6) ∧ (w.2.1 0 16 = 4 → w.2.1 20 6 = u.2.1 400 2) ∧ (w.2.1 0 16 ≠ 4 → u.2.1 400 2 = -1) ∧ w.2.1 20 5 = u.2.1 400 3
def REL (i : Nat) (w u : AW) : Prop := ∃ (n : Nat → Nat) (q : Nat → Nat → Nat) (np S rn sn nv nr mk tl sz : Nat) (rp rc kf : Nat → Nat) (cl : Nat → List Int), LG w u n q np S rn sn ∧ GR i w u nv nr mk tl sz rp rc kf cl ∧ CRW w u ∧ PLN w u ∧ TRB w u
/-! ===== what is kept when X's rows change ===== -/
theorem WI_o {w v : AW} {n : Nat → Nat} {q : Nat → Nat → Nat} {S S' rn sn : Nat} (hW : WI w n q S rn sn) (hX : XS v) (hS : SPI v S') (h1 : ∀ j, 2 ≤ j → j ≤ 12 → noS j → v.2.1 j = w.2.1 j) (hp : ∀ j, 50 ≤ j → j < 56 → v.2.1 j = w.2.1 j ∧ v.1 j = w.1 j) (hr : v.2.2 14 = w.2.2 14 ∧ v.2.2 15 = w.2.2 15) (hs : ∀ j, 28 ≤ j → j ≤ 35 → v.2.1 j = w.2.1 j) (h13 : v.2.1 0 13 = w.2.1 0 13) : WI v n q S' rn sn := by
  obtain ⟨-, -, hLk, hSI, t0, t1⟩ := hW
  refine ⟨hX, hS, fun L hL => ?_, ?_, by rw [h13]; exact t0, by rw [h13]; exact t1⟩
  · obtain ⟨hN, ⟨a1, a2, a3, a4⟩, h56⟩ := hLk L hL
    have e2 := h1 (2 + L) (by omega) (by omega) ⟨by omega, by omega, by omega, by omega, by omega⟩
    refine ⟨?_, ⟨a1, by rw [e2]; exact a2, fun i hi => ?_, a4⟩, h56⟩
    · unfold LN
      rw [e2, h1 (5 + L) (by omega) (by omega) ⟨by omega, by omega, by omega, by omega, by omega⟩, h1 (8 + L) (by omega) (by omega) ⟨by omega, by omega, by omega, by omega, by omega⟩, h1 (11 + L) (by omega) (by omega) ⟨by omega, by omega, by omega, by omega, by omega⟩]
      exact hN
    · obtain ⟨b1, b2⟩ := a3 i hi
      obtain ⟨c1, c2⟩ := hp (q L i) b2.1 (h56 i hi)
      refine ⟨?_, ?_⟩
      · rcases (show L = 0 ∨ L = 1 by omega) with rfl | rfl
        · show v.2.2 14 i = _; rw [hr.1]; exact b1
        · show v.2.2 15 i = _; rw [hr.2]; exact b1
      · unfold pOK
        rw [c1, c2]
        exact b2
  · unfold SI
    rw [hs 28 (by decide) (by decide), hs 29 (by decide) (by decide), hs 30 (by decide) (by decide), hs 31 (by decide) (by decide), hs 32 (by decide) (by decide), hs 33 (by decide) (by decide), hs 34 (by decide) (by decide), hs 35 (by decide) (by decide)]
    exact hSI
theorem PI_o {w v : AW} {np : Nat} (h : PI w np) (hp : ∀ j, 50 ≤ j → j < 56 → v.2.1 j = w.2.1 j ∧ v.1 j = w.1 j) (hr : v.2.2 17 = w.2.2 17) (h3 : v.2.1 0 3 = w.2.1 0 3) : PI v np := by
  obtain ⟨a, b, c, d⟩ := h
  refine ⟨by rw [h3]; exact a, b, fun p hp2 => ?_, fun p hp2 hp6 => ?_⟩
  · rw [hr, (hp (50 + p) (by omega) (by omega)).1, (hp (50 + p) (by omega) (by omega)).2]
    exact c p hp2
  · rw [(hp (50 + p) (by omega) (by omega)).2]
    exact d p hp2 hp6
theorem LG_x {w v u : AW} {n : Nat → Nat} {q : Nat → Nat → Nat} {np S S' rn sn : Nat} (h : LG w u n q np S rn sn) (hX : XS v) (hS : SPI v S') (h1 : ∀ j, 2 ≤ j → j ≤ 12 → noS j → v.2.1 j = w.2.1 j) (hp : ∀ j, 50 ≤ j → j < 56 → v.2.1 j = w.2.1 j ∧ v.1 j = w.1 j) (hr : v.2.2 14 = w.2.2 14 ∧ v.2.2 15 = w.2.2 15 ∧ v.2.2 17 = w.2.2 17) (hs : ∀ j, 28 ≤ j → j ≤ 35 → v.2.1 j = w.2.1 j) (h0 : v.2.1 0 13 = w.2.1 0 13 ∧ v.2.1 0 8 = w.2.1 0 8 ∧ v.2.1 0 3 = w.2.1 0 3) : LG v u n q np S' rn sn := by
  obtain ⟨⟨a1, a2, a3, a4, a5, a6, a7⟩, b, c, nb⟩ := h
  exact ⟨⟨WI_o a1 hX hS h1 hp ⟨hr.1, hr.2.1⟩ hs h0.1, LkE_w (fun j hj hn => h1 j hj.1 hj.2 hn) a2, PpE_w a4.2.1 (fun j x y => (hp j x y).1) a3, a4, StE_w (fun j x y => hs j (by omega) y) a5, by rw [h0.1]; exact a6, by rw [h0.2.1]; exact a7⟩, PI_o b hp hr.2.2 h0.2.2, c, nb.1, by rw [hs 30 (by decide) (by decide), h0.1]; exact nb.2.1, by rw [hs 33 (by decide) (by decide), h0.1]; exact nb.2.2⟩
theorem RBK_o {w v : AW} {nr : Nat} {rp rc : Nat → Nat} {cl : Nat → List Int} (h : RBK w nr rp rc cl) (h20 : v.2.1 20 3 = w.2.1 20 3) (h22 : v.2.2 22 = w.2.2 22) (hb : ∀ j, 2000 ≤ j → (w.1 j).1 ≠ 0 → v.2.1 j = w.2.1 j ∧ v.1 j = w.1 j ∧ v.2.2 j = w.2.2 j) : RBK v nr rp rc cl := by
  obtain ⟨a, b, c⟩ := h
  refine ⟨by rw [h20]; exact a, b, fun i hi => ?_⟩
  obtain ⟨c1, c2, c3, c4, c5, c6⟩ := c i hi
  obtain ⟨d1, d2, d3⟩ := hb (rp i) c3 (by rw [c2.1]; decide)
  obtain ⟨e1, e2, e3⟩ := hb (rc i) c4 (by rw [c2.2.2.1]; exact Nat.one_ne_zero)
  refine ⟨by rw [h22]; exact c1, ?_, c3, c4, c5, c6⟩
  unfold RU
  rw [d1, d2, d3, e1, e2]
  exact c2
theorem VI_o {w v : AW} {nv : Nat} (h : VI w nv) (h0 : v.2.1 0 12 = w.2.1 0 12) (h42 : v.2.2 42 = w.2.2 42) (hb : ∀ j, 60 ≤ j → j < 80 → v.2.1 j = w.2.1 j ∧ v.1 j = w.1 j) : VI v nv := by
  obtain ⟨a, b, c, d⟩ := h
  refine ⟨by rw [h0]; exact a, b, fun i hi => ?_, fun i hi h2 => ?_⟩
  · rw [h42, (hb (60 + i) (by omega) (by omega)).1, (hb (60 + i) (by omega) (by omega)).2]
    exact c i hi
  · rw [(hb (60 + i) (by omega) (by omega)).2]
    exact d i hi h2
theorem VIG_x {w v u : AW} {nv : Nat} (h : VIG w u nv) (h0 : v.2.1 0 12 = w.2.1 0 12) (h42 : v.2.2 42 = w.2.2 42) (hb : ∀ j, 60 ≤ j → j < 80 → v.2.1 j = w.2.1 j ∧ v.1 j = w.1 j) : VIG v u nv := by
  obtain ⟨a, b, c⟩ := h
  refine ⟨VI_o a h0 h42 hb, b, fun i hi => ?_, c.2⟩
  have := a.2.1
  rw [(hb (60 + i) (by omega) (by omega)).1]
  exact c.1 i hi
theorem LAG_x {w v u : AW} {sz sz' : Nat} (h : LAG w u sz) (hC : CI v sz') (h36 : v.2.1 36 = w.2.1 36) (h37 : v.2.1 37 = w.2.1 37) (h38 : v.2.1 38 = w.2.1 38) : LAG v u sz' := by
  obtain ⟨-, b, c, d, e, f, g⟩ := h
  unfold LAG LDN ARV
  rw [h36, h37, h38]
  exact ⟨hC, b, c, d, e, f, g⟩
theorem TAG_x {w v u : AW} {tl : Nat} (h : TAG w u tl) (h20 : v.2.1 20 1 = w.2.1 20 1) (h21 : v.2.1 21 = w.2.1 21) : TAG v u tl := by
  unfold TAG
  rw [h20, h21]
  exact h
theorem FRE_o {i : Nat} {w v : AW} (h : FRE i w) (hs : ∀ j, 80 ≤ j → v.1 j = w.1 j) : FRE i v := ⟨fun k a b => by rw [hs k (by omega)]; exact h.1 k a b, by rw [hs 1900 (by decide)]; exact h.2⟩
theorem RUG_x {w v u : AW} {nr mk : Nat} {rp rc kf : Nat → Nat} {cl : Nat → List Int} (h : RUG w u nr mk rp rc kf cl) (h20 : v.2.1 20 3 = w.2.1 20 3) (h22 : v.2.2 22 = w.2.2 22) (hb : ∀ j, 2000 ≤ j → (w.1 j).1 ≠ 0 → v.2.1 j = w.2.1 j ∧ v.1 j = w.1 j ∧ v.2.2 j = w.2.2 j) : RUG v u nr mk rp rc kf cl := by
  obtain ⟨a, b, c, d⟩ := h
  refine ⟨RBK_o a h20 h22 hb, b, fun i hi => ?_, d⟩
  obtain ⟨-, c2, c3, -⟩ := a.2.2 i hi
  rw [(hb (rp i) c3 (by rw [c2.1]; decide)).1]
  exact c i hi
/-- the rest is kept, whatever becomes of lakes, pipes and strings -/
theorem GR_x {i : Nat} {w v u : AW} {nv nr mk tl sz sz' : Nat} {rp rc kf : Nat → Nat} {cl : Nat → List Int} (h : GR i w u nv nr mk tl sz rp rc kf cl) (hC : CI v sz') (hH : XHD v) (h20 : v.2.1 20 = w.2.1 20) (hd : ∀ j, (j = 21 ∨ j = 36 ∨ j = 37 ∨ j = 38 ∨ (60 ≤ j ∧ j < 80) ∨ 2000 ≤ j) → v.2.1 j = w.2.1 j) (h12 : v.2.1 0 12 = w.2.1 0 12) (hs : ∀ j, 59 ≤ j → v.1 j = w.1 j) (hr : ∀ j, (j = 22 ∨ j = 42 ∨ 2000 ≤ j) → v.2.2 j = w.2.2 j) : GR i v u nv nr mk tl sz' rp rc kf cl := by
  obtain ⟨a, b, c, d, -, f⟩ := h
  refine ⟨RUG_x a (by rw [h20]) (hr 22 (Or.inl rfl)) (fun j x _ => ⟨hd j (by omega), hs j (by omega), hr j (by omega)⟩), VIG_x b h12 (hr 42 (by omega)) (fun j x y => ⟨hd j (by omega), hs j (by omega)⟩), LAG_x c hC (hd 36 (by omega)) (hd 37 (by omega)) (hd 38 (by omega)), TAG_x d (by rw [h20]) (hd 21 (by omega)), hH, FRE_o f (fun j x => hs j (by omega))⟩
theorem CRW_x {w v u : AW} (h : CRW w u) (h14 : v.2.1 0 14 = w.2.1 0 14) (h15 : v.2.1 0 15 = w.2.1 0 15) : CRW v u := by unfold CRW; rw [h14, h15]; exact h
theorem PLN_x {w v u : AW} (h : PLN w u) (h6 : v.2.1 0 6 = w.2.1 0 6) (h19 : v.2.1 19 = w.2.1 19) : PLN v u := by unfold PLN; rw [h6, h19]; exact h
theorem CI_o {w v : AW} {sz : Nat} (h : CI w sz) (hX : XS v) (h40 : v.2.1 40 = w.2.1 40) (h41 : v.2.1 41 = w.2.1 41) (h37 : v.2.1 37 = w.2.1 37) (h39 : v.2.1 39 = w.2.1 39) : CI v sz := by
  obtain ⟨-, b, c, d, e, f⟩ := h
  exact ⟨hX, by rw [h40]; exact b, c, by rw [h41]; exact d, by rw [h37]; exact e, by rw [h39]; exact f⟩
/-! ===== what is kept when M's rows change ===== -/
/-- the calls that ask leave this in M -/
def QM (u v : AW) : Prop := v.1 = u.1 ∧ v.2.2 = u.2.2 ∧ (∀ j, noH j → j ≠ 436 → j ≠ 437 → j ≠ 438 → j ≠ 441 → j ≠ 457 → j ≠ 474 → v.2.1 j = u.2.1 j) ∧ ∀ f, f ≠ 0 → f ≠ 1 → f ≠ 2 → f ≠ 26 → f ≠ 27 → f ≠ 39 → f ≠ 40 → v.2.1 400 f = u.2.1 400 f
theorem QM_rfl (u : AW) : QM u u := ⟨rfl, rfl, fun _ _ _ _ _ _ _ _ => rfl, fun _ _ _ _ _ _ _ _ => rfl⟩
theorem QM_tr {u v x : AW} (h : QM u v) (k : QM v x) : QM u x := ⟨k.1.trans h.1, k.2.1.trans h.2.1, fun j a b c d e f g => (k.2.2.1 j a b c d e f g).trans (h.2.2.1 j a b c d e f g), fun f a b c d e g i => (k.2.2.2 f a b c d e g i).trans (h.2.2.2 f a b c d e g i)⟩
theorem QM_MP {u v : AW} (h : MP u v) : QM u v := ⟨h.1, h.2.1, fun j a _ _ _ _ e _ => h.2.2.1 j a e, fun f _ _ _ d e _ _ => h.2.2.2 f d e⟩
theorem QM_f {u : AW} {f : Nat} {z : Int} (h : f = 0 ∨ f = 1 ∨ f = 2 ∨ f = 39 ∨ f = 40) : QM u (upI u 400 f z) := ⟨rfl, rfl, fun j a _ _ _ _ _ _ => upI_o _ _ _ a.1, fun g a b c _ _ d e => by rw [upI_at]; exact if_neg (by omega)⟩
theorem QM_th (u : AW) : QM u (th u) := QM_f (Or.inl rfl)
theorem QM_tM (u : AW) (z : Int) : QM u (tM u z) := QM_tr (QM_f (f := 1) (by omega)) (QM_f (f := 2) (by omega))
theorem QM_sR {u : AW} {k : Nat} {g : Nat → Int} (h : k = 436 ∨ k = 437 ∨ k = 438 ∨ k = 441 ∨ k = 457 ∨ k = 474) : QM u (sR u k g) := ⟨rfl, rfl, fun j _ b c d e f i => sR_ne _ _ (by omega), fun g _ _ _ _ _ _ _ => by rw [sR_ne _ _ (by omega)]⟩
theorem QM_e {u v : AW} (h : QM u v) {j : Nat} (hj : (407 ≤ j ∧ j ≤ 419) ∨ (429 ≤ j ∧ j ≤ 435) ∨ j = 446 ∨ (460 ≤ j ∧ j ≤ 473) ∨ 475 ≤ j) : v.2.1 j = u.2.1 j := h.2.2.1 j ⟨by omega, by omega, by omega, by omega, by omega, by omega, by omega⟩ (by omega) (by omega) (by omega) (by omega) (by omega) (by omega)
theorem QM_g {u v : AW} (h : QM u v) {f : Nat} (hf : (3 ≤ f ∧ f ≤ 25) ∨ (28 ≤ f ∧ f ≤ 38) ∨ 41 ≤ f) : v.2.1 400 f = u.2.1 400 f := h.2.2.2 f (by omega) (by omega) (by omega) (by omega) (by omega) (by omega) (by omega)
theorem MR_o {u v : AW} {np rn sn : Nat} (h : MR u np rn sn) (hM : MS v) (h1 : ∀ j, (407 ≤ j ∧ j ≤ 414) ∨ (429 ≤ j ∧ j ≤ 435) ∨ (460 ≤ j ∧ j ≤ 465) → v.2.1 j = u.2.1 j) (hf : ∀ f, f = 4 ∨ f = 28 ∨ f = 43 ∨ f = 58 ∨ f = 59 → v.2.1 400 f = u.2.1 400 f) : MR v np rn sn := by
  obtain ⟨-, b, c, d, e, f, g⟩ := h
  unfold MR MG MPI MSI
  rw [h1 407 (by decide), h1 408 (by decide), h1 409 (by decide), hf 28 (by decide), hf 4 (by decide), hf 43 (by decide), hf 58 (by decide), hf 59 (by decide), h1 429 (by decide), h1 430 (by decide), h1 431 (by decide), h1 432 (by decide), h1 435 (by decide), h1 460 (by decide), h1 461 (by decide), h1 462 (by decide), h1 463 (by decide), h1 464 (by decide), h1 465 (by decide)]
  exact ⟨hM, b, MN_of (fun j x y => h1 j (by omega)) c, d, e, f, g⟩
theorem StE_u {w u v : AW} {rn sn : Nat} (h : ∀ j, 460 ≤ j → j ≤ 465 → v.2.1 j = u.2.1 j) (k : StE w u rn sn) : StE w v rn sn := by
  unfold StE
  rw [h 460 (by decide) (by decide), h 461 (by decide) (by decide), h 462 (by decide) (by decide), h 463 (by decide) (by decide), h 464 (by decide) (by decide), h 465 (by decide) (by decide)]
  exact k
theorem LG_u {w u v : AW} {n : Nat → Nat} {q : Nat → Nat → Nat} {np S rn sn : Nat} (h : LG w u n q np S rn sn) (hM : MS v) (h1 : ∀ j, (407 ≤ j ∧ j ≤ 419) ∨ (429 ≤ j ∧ j ≤ 435) ∨ (460 ≤ j ∧ j ≤ 465) → v.2.1 j = u.2.1 j) (hf : ∀ f, f = 4 ∨ f = 28 ∨ f = 43 ∨ f = 58 ∨ f = 59 → v.2.1 400 f = u.2.1 400 f) : LG w v n q np S rn sn := by
  obtain ⟨⟨a1, a2, a3, a4, a5, a6, a7⟩, b, c, nb⟩ := h
  have c2 := MR_o c hM (fun j hj => h1 j (by omega)) hf
  exact ⟨⟨a1, LkE_u (fun j hj => h1 j (by omega)) a2, PpE_u (fun j hj => h1 j (by omega)) a3, c2.2.2.2.1, StE_u (fun j x y => h1 j (by omega)) a5, by rw [hf 4 (by decide)]; exact a6, by rw [hf 43 (by decide)]; exact a7⟩, b, c2, nb⟩
theorem RO_o {u v : AW} {P : Nat} (h : RO u P) (h1 : v.1 P = u.1 P ∧ v.1 (P + 1) = u.1 (P + 1) ∧ v.1 (P + 2) = u.1 (P + 2)) (h2 : v.2.2 P = u.2.2 P) (h3 : v.2.1 P 0 = u.2.1 P 0) : RO v P := by
  unfold RO
  rw [h1.1, h1.2.1, h1.2.2, h2, h3]
  exact h
theorem RUG_u {w u v : AW} {nr mk : Nat} {rp rc kf : Nat → Nat} {cl : Nat → List Int} (h : RUG w u nr mk rp rc kf cl) (h42 : v.2.1 400 42 = u.2.1 400 42) (h444 : v.2.2 444 = u.2.2 444) (hb : ∀ j, 478 ≤ j → j < 600 → v.2.1 j = u.2.1 j ∧ v.1 j = u.1 j ∧ v.2.2 j = u.2.2 j) : RUG w v nr mk rp rc kf cl := by
  obtain ⟨a, ⟨b1, b2, b3⟩, c, d1, d2, d3, d4, d5, d6⟩ := h
  have hq : ∀ r, r < mk → 478 ≤ mqF kf r ∧ mqF kf r + 2 < 600 := fun r hr => by
    have := (d3 r hr).2.1
    unfold mqF
    omega
  refine ⟨a, ⟨by rw [h42]; exact b1, b2, fun r hr => ?_⟩, fun i hi => ?_, d1, d2, fun r hr => ?_, d4, fun r x y => by rw [h444]; exact d5 r x y, fun j x y => by rw [(hb j (by omega) (by omega)).2.1]; exact d6 j x y⟩
  · obtain ⟨e1, e2, e3, e4⟩ := b3 r hr
    obtain ⟨m1, m2⟩ := hq r (by omega)
    refine ⟨by rw [h444]; exact e1, e2, ?_, e4⟩
    unfold RM
    rw [(hb (mqF kf r) m1 (by omega)).1, (hb (mqF kf r) m1 (by omega)).2.1, (hb (mqF kf r) m1 (by omega)).2.2, (hb (mqF kf r + 1) (by omega) (by omega)).1, (hb (mqF kf r + 1) (by omega) (by omega)).2.1, (hb (mqF kf r + 2) (by omega) (by omega)).1, (hb (mqF kf r + 2) (by omega) (by omega)).2.1]
    exact e3
  · obtain ⟨m1, m2⟩ := hq i (by omega)
    rw [(hb (mqF kf i) m1 (by omega)).1]
    exact c i hi
  · obtain ⟨e1, e2, e3⟩ := d3 r hr
    obtain ⟨m1, m2⟩ := hq r hr
    exact ⟨by rw [h444]; exact e1, e2, RO_o e3 ⟨(hb _ m1 (by omega)).2.1, (hb _ (by omega) (by omega)).2.1, (hb _ (by omega) (by omega)).2.1⟩ (hb _ m1 (by omega)).2.2 (by rw [(hb _ m1 (by omega)).1])⟩
theorem VIG_u {w u v : AW} {nv : Nat} (h : VIG w u nv) (h69 : v.2.1 400 69 = u.2.1 400 69) (hb : v.2.1 475 = u.2.1 475 ∧ v.2.1 476 = u.2.1 476 ∧ v.2.1 477 = u.2.1 477) : VIG w v nv := by
  unfold VIG MVI
  rw [h69, hb.1, hb.2.1, hb.2.2]
  exact h
theorem LAG_u {w u v : AW} {sz : Nat} (h : LAG w u sz) (hb : v.2.1 472 = u.2.1 472 ∧ v.2.1 473 = u.2.1 473) (hf : ∀ f, 66 ≤ f → f ≤ 71 → v.2.1 400 f = u.2.1 400 f) : LAG w v sz := by
  unfold LAG ML MO2 ARV
  rw [hb.1, hb.2, hf 66 (by decide) (by decide), hf 67 (by decide) (by decide), hf 68 (by decide) (by decide), hf 70 (by decide) (by decide), hf 71 (by decide) (by decide)]
  exact h
theorem TAG_u {w u v : AW} {tl : Nat} (h : TAG w u tl) (h446 : v.2.1 446 = u.2.1 446) (h47 : v.2.1 400 47 = u.2.1 400 47) (h56 : v.2.1 400 56 = u.2.1 400 56) : TAG w v tl := by
  unfold TAG
  rw [h446, h47, h56]
  exact h
theorem GR_u {i : Nat} {w u v : AW} {nv nr mk tl sz : Nat} {rp rc kf : Nat → Nat} {cl : Nat → List Int} (h : GR i w u nv nr mk tl sz rp rc kf cl) (hf : ∀ f, f = 42 ∨ f = 47 ∨ f = 56 ∨ (66 ≤ f ∧ f ≤ 71) → v.2.1 400 f = u.2.1 400 f) (h444 : v.2.2 444 = u.2.2 444) (hd : ∀ j, j = 446 ∨ j = 472 ∨ j = 473 ∨ (475 ≤ j ∧ j < 600) → v.2.1 j = u.2.1 j) (hb : ∀ j, 478 ≤ j → j < 600 → v.1 j = u.1 j ∧ v.2.2 j = u.2.2 j) : GR i w v nv nr mk tl sz rp rc kf cl := by
  obtain ⟨a, b, c, d, e, f⟩ := h
  exact ⟨RUG_u a (hf 42 (by decide)) h444 (fun j x y => ⟨hd j (by omega), hb j x y⟩), VIG_u b (hf 69 (by decide)) ⟨hd 475 (by decide), hd 476 (by decide), hd 477 (by decide)⟩, LAG_u c ⟨hd 472 (by decide), hd 473 (by decide)⟩ (fun f x y => hf f (by omega)), TAG_u d (hd 446 (by decide)) (hf 47 (by decide)) (hf 56 (by decide)), e, f⟩
theorem CRW_u {w u v : AW} (h : CRW w u) (h6 : v.2.1 400 6 = u.2.1 400 6) (h5 : v.2.1 400 5 = u.2.1 400 5) : CRW w v := by unfold CRW; rw [h6, h5]; exact h
theorem PLN_u {w u v : AW} (h : PLN w u) (h40 : v.2.1 400 40 = u.2.1 400 40) (h441 : v.2.1 441 = u.2.1 441) : PLN w v := by unfold PLN; rw [h40, h441]; exact h
theorem LG_q {w u v : AW} {n : Nat → Nat} {q : Nat → Nat → Nat} {np S rn sn : Nat} (h : LG w u n q np S rn sn) (k : QM u v) : LG w v n q np S rn sn :=
  LG_u h (MS_of k.1 k.2.1 h.2.2.1.1) (fun j hj => QM_e k (by omega)) (fun f hf => QM_g k (by omega))
theorem GR_q {i : Nat} {w u v : AW} {nv nr mk tl sz : Nat} {rp rc kf : Nat → Nat} {cl : Nat → List Int} (h : GR i w u nv nr mk tl sz rp rc kf cl) (k : QM u v) : GR i w v nv nr mk tl sz rp rc kf cl :=
  GR_u h (fun f hf => QM_g k (by omega)) (by rw [k.2.1]) (fun j hj => QM_e k (by omega)) (fun j _ _ => ⟨by rw [k.1], by rw [k.2.1]⟩)
theorem CRW_q {w u v : AW} (h : CRW w u) (k : QM u v) : CRW w v := CRW_u h (QM_g k (by omega)) (QM_g k (by omega))
/-! ===== X's quiet changes ===== -/
theorem LG_fs {w v u : AW} {n : Nat → Nat} {q : Nat → Nat → Nat} {np S S' rn sn : Nat} (h : LG w u n q np S rn sn) (k : FSc w v S S') : LG v u n q np S' rn sn := by
  have e0 : v.2.1 0 = w.2.1 0 := fsI k ⟨by decide, by decide, by decide, by decide, by decide⟩ (by decide) (by decide)
  refine LG_x h k.1 k.2.1 (fun j a b c => fsI k c (by omega) (by omega)) (fun j a b => ⟨fsI k ⟨by omega, by omega, by omega, by omega, by omega⟩ (by omega) (by omega), k.2.2.2.2.1 j (by omega)⟩) ⟨k.2.2.2.2.2 14 (by decide) (by decide), k.2.2.2.2.2 15 (by decide) (by decide), k.2.2.2.2.2 17 (by decide) (by decide)⟩ (fun j a b => fsI k ⟨by omega, by omega, by omega, by omega, by omega⟩ (by omega) (by omega)) ⟨by rw [e0], by rw [e0], by rw [e0]⟩
theorem GR_fs {i : Nat} {w v u : AW} {nv nr mk tl sz S S' : Nat} {rp rc kf : Nat → Nat} {cl : Nat → List Int} (h : GR i w u nv nr mk tl sz rp rc kf cl) (k : FSc w v S S') (hH : HB v) : GR i v u nv nr mk tl sz rp rc kf cl := by
  have e := fun (j : Nat) (a : 14 ≤ j) (b : j < 56 ∨ 59 ≤ j) (h6 : j ≠ 26) (h7 : j ≠ 27) => fsI k (j := j) ⟨by omega, by omega, by omega, by omega, b⟩ h6 h7
  have e0 : v.2.1 0 = w.2.1 0 := fsI k ⟨by decide, by decide, by decide, by decide, by decide⟩ (by decide) (by decide)
  refine GR_x h (CI_o h.2.2.1.1 k.1 (e 40 (by decide) (by decide) (by decide) (by decide)) (e 41 (by decide) (by decide) (by decide) (by decide)) (e 37 (by decide) (by decide) (by decide) (by decide)) (e 39 (by decide) (by decide) (by decide) (by decide))) ⟨hH, ?_⟩ (e 20 (by decide) (by decide) (by decide) (by decide)) (fun j hj => e j (by omega) (by omega) (by omega) (by omega)) (by rw [e0]) (fun j hj => k.2.2.2.2.1 j (by omega)) (fun j hj => k.2.2.2.2.2 j (by omega) (by omega))
  rw [e 18 (by decide) (by decide) (by decide) (by decide)]
  exact h.2.2.2.2.1.2
theorem CRW_fs {w v u : AW} {S S' : Nat} (h : CRW w u) (k : FSc w v S S') : CRW v u := by
  have e0 : v.2.1 0 = w.2.1 0 := fsI k ⟨by decide, by decide, by decide, by decide, by decide⟩ (by decide) (by decide)
  exact CRW_x h (by rw [e0]) (by rw [e0])
theorem PLN_fs {w v u : AW} {S S' : Nat} (h : PLN w u) (k : FSc w v S S') : PLN v u := by
  have e0 : v.2.1 0 = w.2.1 0 := fsI k ⟨by decide, by decide, by decide, by decide, by decide⟩ (by decide) (by decide)
  exact PLN_x h (by rw [e0]) (fsI k ⟨by decide, by decide, by decide, by decide, by decide⟩ (by decide) (by decide))
theorem f16 (w : AW) (z : Int) {f : Nat} (h : f ≠ 16) : (upI w 0 16 z).2.1 0 f = w.2.1 0 f := by rw [upI_at]; exact if_neg h
theorem LG_16 {w u : AW} {n : Nat → Nat} {q : Nat → Nat → Nat} {np S rn sn : Nat} (z : Int) (h : LG w u n q np S rn sn) : LG (upI w 0 16 z) u n q np S rn sn :=
  LG_x h (XS_of rfl rfl h.1.1.1) (SPI_of rfl rfl h.1.1.2.1) (fun j a _ _ => upI_o _ _ _ (by omega)) (fun j a _ => ⟨upI_o _ _ _ (by omega), rfl⟩) ⟨rfl, rfl, rfl⟩ (fun j a _ => upI_o _ _ _ (by omega)) ⟨f16 _ _ (by decide), f16 _ _ (by decide), f16 _ _ (by decide)⟩
theorem HB_16 {w : AW} (z : Int) (h : HB w) : HB (upI w 0 16 z) := by
  unfold HB
  rw [upI_o _ _ _ (by decide), f16 _ _ (by decide)]
  exact h
theorem GR_16 {i : Nat} {w u : AW} {nv nr mk tl sz : Nat} {rp rc kf : Nat → Nat} {cl : Nat → List Int} (z : Int) (h : GR i w u nv nr mk tl sz rp rc kf cl) : GR i (upI w 0 16 z) u nv nr mk tl sz rp rc kf cl := by
  refine GR_x h (CI_o h.2.2.1.1 (XS_of rfl rfl h.2.2.1.1.1) (upI_o _ _ _ (by decide)) (upI_o _ _ _ (by decide)) (upI_o _ _ _ (by decide)) (upI_o _ _ _ (by decide))) ⟨HB_16 z h.2.2.2.2.1.1, ?_⟩ (upI_o _ _ _ (by decide)) (fun j _ => upI_o _ _ _ (by omega)) (f16 _ _ (by decide)) (fun _ _ => rfl) (fun _ _ => rfl)
  rw [upI_o _ _ _ (by decide)]
  exact h.2.2.2.2.1.2
theorem CRW_16 {w u : AW} (z : Int) (h : CRW w u) : CRW (upI w 0 16 z) u := CRW_x h (f16 _ _ (by decide)) (f16 _ _ (by decide))
theorem PLN_16 {w u : AW} (z : Int) (h : PLN w u) : PLN (upI w 0 16 z) u := PLN_x h (f16 _ _ (by decide)) (upI_o _ _ _ (by decide))
theorem TRB_t {w u : AW} {z : Int} (h : w.2.1 20 5 = u.2.1 400 3) (hz : 0 ≤ z ∧ z ≤ 6) (h4 : z ≠ 4) : TRB (upI w 0 16 z) (tM u z) := by
  have e16 : (upI w 0 16 z).2.1 0 16 = z := by rw [upI_at]; exact if_pos rfl
  have e1 : (tM u z).2.1 400 1 = z := rfl
  have e2 : (tM u z).2.1 400 2 = -1 := rfl
  have e3 : (tM u z).2.1 400 3 = u.2.1 400 3 := rfl
  unfold TRB
  rw [e16, e1, e2, e3, upI_o _ _ _ (by decide)]
  exact ⟨rfl, hz, fun k => absurd k h4, fun _ => rfl, h⟩
theorem TRB_q {w v u x : AW} (h : TRB w u) (e0 : v.2.1 0 16 = w.2.1 0 16) (e20 : v.2.1 20 5 = w.2.1 20 5 ∧ v.2.1 20 6 = w.2.1 20 6) (hf : x.2.1 400 1 = u.2.1 400 1 ∧ x.2.1 400 2 = u.2.1 400 2 ∧ x.2.1 400 3 = u.2.1 400 3) : TRB v x := by
  unfold TRB
  rw [e0, e20.1, e20.2, hf.1, hf.2.1, hf.2.2]
  exact h
