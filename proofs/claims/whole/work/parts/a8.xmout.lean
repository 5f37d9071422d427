/-! ===== runOut by both ===== -/
theorem mostF_eq {a t : Int} (ht : 1 ≤ t) (ha : 0 ≤ a) : mostF a t = (a + t - 1) / t := by
  unfold mostF
  have e := Int.mul_ediv_add_emod a t
  have r1 := Int.emod_nonneg a (show t ≠ 0 by omega)
  have r2 := Int.emod_lt_of_pos a (show 0 < t by omega)
  generalize hq : a / t = q at *
  generalize hr : a % t = r at *
  have e2 : a + t - 1 = (r + t - 1) + t * q := by omega
  rw [e2, Int.add_mul_ediv_left _ _ (show t ≠ 0 by omega)]
  by_cases c : 0 < r
  · rw [if_pos c]
    have : (r + t - 1) / t = 1 := by
      rw [show r + t - 1 = (r - 1) + t * 1 by omega, Int.add_mul_ediv_left _ _ (show t ≠ 0 by omega), Int.ediv_eq_zero_of_lt (by omega) (by omega)]
      rfl
    omega
  · rw [if_neg c]
    have : (r + t - 1) / t = 0 := Int.ediv_eq_zero_of_lt (by omega) (by omega)
    omega
theorem bsM_r {c : Nat} {s : Nat} (hc : c < 400) : bsM (c : Int) (s : Int) < 400 := (bsM_bd ⟨by omega, by omega⟩).2
theorem lbF_c {o h h' : Nat → Int} {most : Int} : ∀ n, n ≤ 400 → (∀ c, c < 400 → h c = h' c) → lbF o h most n = lbF o h' most n
  | 0, _, _ => rfl
  | n + 1, hn, k => by
    have ih := lbF_c (o := o) (most := most) n (by omega) k
    have b := lbF_bd o h most n
    unfold lbF
    rw [← ih, ← k n (by omega)]
    by_cases e : lbF o h most n = -1
    · rw [e]
      have z : ∀ x : Int, (o n ≠ -1 ∨ most < h n ∨ ((-1 : Int) ≠ -1 ∧ x ≤ h n)) ↔ (o n ≠ -1 ∨ most < h n) := fun x => ⟨fun t => t.elim Or.inl (fun t => t.elim Or.inr (fun t => absurd rfl t.1)), fun t => t.elim Or.inl (fun t => Or.inr (Or.inl t))⟩
      by_cases c : o n ≠ -1 ∨ most < h n
      · rw [if_pos ((z _).mpr c), if_pos ((z _).mpr c)]
      · rw [if_neg (fun t => c ((z _).mp t)), if_neg (fun t => c ((z _).mp t))]
    · rw [← k (lbF o h most n).toNat (by omega)]
theorem ruF_c {h h' : Nat → Int} {most wants : Int} (k : ∀ c, c < 400 → h c = h' c) : ∀ d n nx o, ruF h most wants d n nx o = ruF h' most wants d n nx o
  | 0, _, _, _ => rfl
  | d + 1, n, nx, o => by
    unfold ruF
    rw [lbF_c 400 (Nat.le_refl _) k, ruF_c k d]
theorem cntR_all {f : Nat → Int} {v : Int} : ∀ n, (∀ c, c < n → f c = v) → cntR f v n = n
  | 0, _ => rfl
  | n + 1, h => by
    unfold cntR
    rw [cntR_all n (fun c hc => h c (by omega)), if_pos (h n (by omega))]
theorem fillW_at (w : AW) (k m : Nat) (v : Int) : (fillW w k m v).2.1 k = cpR (w.2.1 k) (fun _ => v) m := sR_at _ _ _
theorem fillW_o (w : AW) {k j : Nat} (m : Nat) (v : Int) (h : j ≠ k) : (fillW w k m v).2.1 j = w.2.1 j := sR_ne _ _ h
/-- the land as a run begins, ahead of the first offer -/
def lro1 (w : AW) : AW := upI (fillW (fillW (upI w 36 5 1) 38 400 (-2)) 39 400 1000000) 40 1 0
theorem lro1_37 (w : AW) : (lro1 w).2.1 37 = w.2.1 37 := by
  unfold lro1
  rw [upI_o _ _ _ (by decide), fillW_o _ _ _ (by decide), fillW_o _ _ _ (by decide), upI_o _ _ _ (by decide)]
theorem lro1_38 (w : AW) : (lro1 w).2.1 38 = cpR (w.2.1 38) (fun _ => -2) 400 := by
  unfold lro1
  rw [upI_o _ _ _ (by decide), fillW_o _ _ _ (by decide), fillW_at, upI_o _ _ _ (by decide)]
theorem lro1_39 (w : AW) : (lro1 w).2.1 39 = cpR (w.2.1 39) (fun _ => 1000000) 400 := by
  unfold lro1
  rw [upI_o _ _ _ (by decide), fillW_at, fillW_o _ _ _ (by decide), upI_o _ _ _ (by decide)]
theorem lro1_41 (w : AW) : (lro1 w).2.1 41 = w.2.1 41 := by
  unfold lro1
  rw [upI_o _ _ _ (by decide), fillW_o _ _ _ (by decide), fillW_o _ _ _ (by decide), upI_o _ _ _ (by decide)]
theorem lro1_40 (w : AW) : (lro1 w).2.1 40 1 = 0 := by
  unfold lro1
  rw [upI_at]
  exact if_pos rfl
theorem lro1_sh (w : AW) : (lro1 w).1 = w.1 ∧ (lro1 w).2.2 = w.2.2 := ⟨rfl, rfl⟩
theorem CI_lro1 {w : AW} {sz : Nat} (h : CI w sz) : CI (lro1 w) 0 := by
  obtain ⟨h1, h2, h3, h4, h5, h6⟩ := h
  refine ⟨⟨h1.1, h1.2⟩, lro1_40 w, by decide, by rw [lro1_41]; exact h4, by rw [lro1_37]; exact h5, fun c hc => ?_⟩
  rw [lro1_39]
  unfold cpR
  rw [if_pos hc]
  show (0 : Int) ≤ 1000000 ∧ (1000000 : Int) ≤ 1000000
  exact ⟨by decide, by decide⟩
theorem HV_lro1 {w : AW} {sz : Nat} {o : Nat → Int} (h : CI w sz) (ho : ∀ c, c < 400 → o c = -1) : HV (w.2.1 37) o (lro1 w) 0 := by
  have e : ∀ c, c < 400 → (lro1 w).2.1 39 c = 1000000 := fun c hc => by rw [lro1_39]; exact if_pos hc
  refine ⟨0, CI_lro1 h, fun i _ hi => absurd hi (Nat.not_lt_zero _), ?_, fun c hc => ?_, fun v hv => absurd hv (Nat.lt_irrefl _), fun c hc _ => ho c hc, lro1_37 w⟩
  · rw [cntR_all 400 e]
  · rw [if_neg (fun t => t.1 (e c hc))]; rfl
/-- a RUN-OUT by X and by M -/
theorem ro_both {w u : AW} {sz frm L : Nat} {amt : Int} (hC : CI w sz) (hD : LDN w) (hf : frm < 400) (ha : 0 ≤ amt) (hfr : u.2.1 414 L = (frm : Int)) (hh : ∀ c, c < 400 → w.2.1 37 c = u.2.1 472 c) (h1 : w.2.1 36 1 = u.2.1 400 66) (h2 : w.2.1 36 2 = u.2.1 400 67) :
    (rlF (w.2.1 37 frm + w.2.1 36 1) (w.2.1 36 3) (mostF amt (w.2.1 36 2)) 400 0 (lr0 w (frm : Int) (w.2.1 37 frm + w.2.1 36 1))).1 = ((roM u L amt).1 : Int) ∧
    (∀ c, c < 400 → ((roM u L amt).2 c = -1 → (rlF (w.2.1 37 frm + w.2.1 36 1) (w.2.1 36 3) (mostF amt (w.2.1 36 2)) 400 0 (lr0 w (frm : Int) (w.2.1 37 frm + w.2.1 36 1))).2.2.1 38 c = -2) ∧
      ((roM u L amt).2 c ≠ -1 → 0 ≤ (roM u L amt).2 c ∧ (roM u L amt).2 c ≤ 399 ∧ (rlF (w.2.1 37 frm + w.2.1 36 1) (w.2.1 36 3) (mostF amt (w.2.1 36 2)) 400 0 (lr0 w (frm : Int) (w.2.1 37 frm + w.2.1 36 1))).2.2.1 38 c = (roM u L amt).2 c / w.2.1 36 3)) ∧
    ∃ s2, CI (rlF (w.2.1 37 frm + w.2.1 36 1) (w.2.1 36 3) (mostF amt (w.2.1 36 2)) 400 0 (lr0 w (frm : Int) (w.2.1 37 frm + w.2.1 36 1))).2 s2 := by
  have er : roM u L amt = ruF (w.2.1 37) (w.2.1 37 frm + w.2.1 36 1) (mostF amt (w.2.1 36 2)) 401 0 (frm : Int) (cpR (u.2.1 473) (fun _ => -1) 400) := by
    unfold roM
    rw [hfr, Int.toNat_natCast, ← hh frm hf, ← h1, ← h2, ← mostF_eq hD.2.1.1 ha]
    exact (ruF_c hh _ _ _ _).symm
  rw [er]
  have ho : ∀ c, c < 400 → cpR (u.2.1 473) (fun _ => -1) 400 c = -1 := fun c hc => if_pos hc
  generalize cpR (u.2.1 473) (fun _ => -1) 400 = o at *
  have hr := hD.1.1
  generalize hhi : w.2.1 37 frm + w.2.1 36 1 = hi at *
  obtain ⟨g1, g2, g3⟩ := HV_of (frm : Int) hi (HV_lro1 hC ho)
  have e39 : ∀ c, c < 400 → (lro1 w).2.1 39 c = 1000000 := fun c hc => by rw [lro1_39]; exact if_pos hc
  have e0 : lr0 w (frm : Int) hi = ofW (lro1 w) (frm : Int) hi := rfl
  rw [e0]
  have hoff : ∀ c : Nat, c < 400 → ((ofW (lro1 w) (frm : Int) hi).2.1 39 c ≠ 1000000 ↔ c = frm) := by
    intro c hc
    rw [g3 c hc]
    constructor
    · rintro (t | ⟨t, -⟩)
      · exact absurd (e39 c hc) t
      · omega
    · intro t
      subst t
      exact Or.inr ⟨rfl, by omega⟩
  refine run_both (s0 := frm) (o := o) hf 400 0 (frm : Int) (w := ofW (lro1 w) (frm : Int) hi) rfl g1 ⟨fun c hc => ⟨fun _ => ?_, fun k => absurd (ho c hc) k⟩, fun c hc => ?_, ?_⟩ ⟨fun k => by omega, fun _ => ⟨by omega, ?_, ?_, fun c hc c1 _ => ?_⟩⟩ (fun k => absurd k (Nat.lt_irrefl _))
  · rw [g2, lro1_38]
    exact if_pos hc
  · rw [hoff c hc]
    exact ⟨Or.inl, fun t => t.resolve_right (fun ⟨_, b, hb, _, k⟩ => k (ho b hb))⟩
  · rw [cntU_all 400 ho]
  · rw [Int.toNat_natCast]; exact (hoff frm hf).mpr rfl
  · rw [Int.toNat_natCast]; exact ho frm hf
  · have := (hoff c hc).mp c1
    subst this
    rw [Int.toNat_natCast]
    exact Int.le_refl _
/-- what a run leaves alone -/
theorem ofW_o (w : AW) (z hi : Int) {j : Nat} (h1 : j ≠ 39) (h2 : j ≠ 40) (h3 : j ≠ 41) : (ofW w z hi).2.1 j = w.2.1 j ∧ (ofW w z hi).1 = w.1 ∧ (ofW w z hi).2.2 = w.2.2 := by
  unfold ofW
  split
  · exact ⟨(addW_36 _ _ _ h2 h3).trans (upI_o _ _ _ h1), (addW_1 _ _ _).1, (addW_1 _ _ _).2⟩
  · exact ⟨rfl, rfl, rfl⟩
theorem of4_o (w : AW) (c hi : Int) {j : Nat} (h1 : j ≠ 39) (h2 : j ≠ 40) (h3 : j ≠ 41) : ∀ s, (of4 w c hi s).2.1 j = w.2.1 j ∧ (of4 w c hi s).1 = w.1 ∧ (of4 w c hi s).2.2 = w.2.2
  | 0 => ⟨rfl, rfl, rfl⟩
  | s + 1 => by
    obtain ⟨a, b, c'⟩ := of4_o w c hi h1 h2 h3 s
    obtain ⟨a2, b2, c2⟩ := ofW_o (of4 w c hi s) (bsX c (s : Int)) hi h1 h2 h3
    exact ⟨a2.trans a, b2.trans b, c2.trans c'⟩
theorem rlF_o {hi spd most : Int} {j : Nat} (h0 : j ≠ 38) (h1 : j ≠ 39) (h2 : j ≠ 40) (h3 : j ≠ 41) : ∀ (d : Nat) (r : Int) (w : AW), (rlF hi spd most d r w).2.2.1 j = w.2.1 j ∧ (rlF hi spd most d r w).2.1 = w.1 ∧ (rlF hi spd most d r w).2.2.2 = w.2.2
  | 0, _, _ => ⟨rfl, rfl, rfl⟩
  | d + 1, r, w => by
    unfold rlF
    split
    · obtain ⟨a, b, c⟩ := rlF_o (hi := hi) (spd := spd) (most := most) h0 h1 h2 h3 d (r + 1) (of4 (upI (takW w (szW w)) 38 (w.2.1 41 0 % 400).toNat (r / spd)) (w.2.1 41 0 % 400) hi 4)
      obtain ⟨a2, b2, c2⟩ := of4_o (upI (takW w (szW w)) 38 (w.2.1 41 0 % 400).toNat (r / spd)) (w.2.1 41 0 % 400) hi h1 h2 h3 4
      exact ⟨a.trans (a2.trans ((upI_o _ _ _ h0).trans (takW_o _ _ h2 h3))), b.trans b2, c.trans c2⟩
    · exact ⟨rfl, rfl, rfl⟩
theorem lr0_o (w : AW) (frm hi : Int) {j : Nat} (h36 : j ≠ 36) (h0 : j ≠ 38) (h1 : j ≠ 39) (h2 : j ≠ 40) (h3 : j ≠ 41) : (lr0 w frm hi).2.1 j = w.2.1 j := by
  have e : lr0 w frm hi = ofW (lro1 w) frm hi := rfl
  rw [e, (ofW_o (lro1 w) frm hi h1 h2 h3).1]
  unfold lro1
  rw [upI_o _ _ _ h2, fillW_o _ _ _ h1, fillW_o _ _ _ h0, upI_o _ _ _ h36]
theorem lr0_36 (w : AW) (frm hi : Int) : (lr0 w frm hi).2.1 36 = uI (w.2.1 36) 5 1 ∧ (lr0 w frm hi).1 = w.1 ∧ (lr0 w frm hi).2.2 = w.2.2 := by
  have e : lr0 w frm hi = ofW (lro1 w) frm hi := rfl
  obtain ⟨a, b, c⟩ := ofW_o (lro1 w) frm hi (j := 36) (by decide) (by decide) (by decide)
  rw [e]
  refine ⟨a.trans ?_, b, c⟩
  unfold lro1
  rw [upI_o _ _ _ (by decide), fillW_o _ _ _ (by decide), fillW_o _ _ _ (by decide), upI_row]
