/-! ===== who climbs away, by both ===== -/
theorem RC_bd {o h : Nat → Int} {sp : Int} {frm : Nat} {st : Int} (hf : frm < 400) (hst : 0 ≤ st ∧ st ≤ 500) (ho : ∀ c, c < 400 → o c ≤ 399) (hsp : 1 ≤ sp) (hh : ∀ c, c < 400 → 0 ≤ h c ∧ h c ≤ 999) : ∀ k c t, RC o h sp frm st k c t → c < 400 ∧ 0 ≤ t ∧ t ≤ 1000
  | 0, c, t, hR => by
    obtain ⟨rfl, rfl⟩ := hR
    exact ⟨hf, hst.1, by omega⟩
  | k + 1, c, t, hR => by
    obtain ⟨b, s, tb, hb, hs, h1, h2, h3, h4, h5⟩ := hR
    obtain ⟨-, i2, i3⟩ := RC_bd hf hst ho hsp hh k b tb h1
    have hc : c < 400 := by have := bsM_r (c := b) (s := s) hb; omega
    have e1 := hh c hc
    have e2 := hh b hb
    have e3 : o b / sp ≤ 399 := by
      have := ho b hb
      rcases Int.lt_or_le (o b) 0 with q | q
      · have h0 : o b / sp ≤ 0 := by
          have := Int.ediv_le_ediv (show 0 < sp by omega) (show o b ≤ 0 by omega)
          rw [Int.zero_ediv] at this
          exact this
        omega
      · have := Int.ediv_le_self sp q
        omega
    exact ⟨hc, by omega, by omega⟩
/-- the least way out, told by ways -/
def XPv (o h : Nat → Int) (sp : Int) (frm : Nat) (st v : Int) : Prop := (v = -2 ∧ ∀ k c t, RC o h sp frm st k c t → o c ≠ -1) ∨ ((∃ k c, RC o h sp frm st k c (v + st) ∧ o c = -1) ∧ ∀ k c t, RC o h sp frm st k c t → o c = -1 → v + st ≤ t)
theorem XPv_one {o h : Nat → Int} {sp : Int} {frm : Nat} {st v v' : Int} (a : XPv o h sp frm st v) (b : XPv o h sp frm st v') : v = v' := by
  rcases a with ⟨a1, a2⟩ | ⟨⟨k, c, a1, a2⟩, a3⟩
  · rcases b with ⟨b1, b2⟩ | ⟨⟨k', c', b1, b2⟩, b3⟩
    · omega
    · exact absurd b2 (a2 k' c' _ b1)
  · rcases b with ⟨b1, b2⟩ | ⟨⟨k', c', b1, b2⟩, b3⟩
    · exact absurd a2 (b2 k c _ a1)
    · have := a3 k' c' _ b1 b2
      have := b3 k c _ a1 a2
      omega
theorem clB_spec {o m : Nat → Int} : ∀ n, (∀ c, c < n → o c = -1 → clB o m n ≤ m c) ∧ (clB o m n = 1000000 ∨ ∃ c, c < n ∧ o c = -1 ∧ m c = clB o m n)
  | 0 => ⟨fun c hc => absurd hc (Nat.not_lt_zero _), Or.inl rfl⟩
  | n + 1 => by
    obtain ⟨i1, i2⟩ := clB_spec (o := o) (m := m) n
    unfold clB
    by_cases e : o n = -1
    · rw [if_pos e]
      refine ⟨fun c hc hcc => ?_, ?_⟩
      · by_cases q : c = n
        · subst q; omega
        · have := i1 c (by omega) hcc; omega
      · rcases Int.lt_or_le (m n) (clB o m n) with q | q
        · exact Or.inr ⟨n, by omega, e, by omega⟩
        · rw [show min (clB o m n) (m n) = clB o m n by omega]
          exact i2.imp id (fun ⟨c, a, b⟩ => ⟨c, by omega, b⟩)
    · rw [if_neg e]
      refine ⟨fun c hc hcc => ?_, i2.imp id (fun ⟨c, a, b⟩ => ⟨c, by omega, b⟩)⟩
      by_cases q : c = n
      · subst q; exact absurd hcc e
      · exact i1 c (by omega) hcc
theorem CC_min {o h m : Nat → Int} {sp : Int} {frm : Nat} {st : Int} (hf : frm < 400) (hst : 0 ≤ st ∧ st ≤ 500) (ho : ∀ c, c < 400 → o c ≤ 399) (hsp : 1 ≤ sp) (hh : ∀ c, c < 400 → 0 ≤ h c ∧ h c ≤ 999) (hm : m frm ≤ st) (hC : CC o h sp m 400) : ∀ k c t, RC o h sp frm st k c t → m c ≤ t
  | 0, c, t, hR => by
    obtain ⟨rfl, rfl⟩ := hR
    exact hm
  | k + 1, c, t, hR => by
    obtain ⟨b, s, tb, hb, hs, h1, h2, h3, h4, h5⟩ := hR
    have ih := CC_min hf hst ho hsp hh hm hC k b tb h1
    have hbd := RC_bd hf hst ho hsp hh k b tb h1
    have k1 := hC b s hb hs (by omega) h2 (by omega) (by omega)
    rw [h4, Int.toNat_natCast] at k1
    omega
theorem CPv_X {o h : Nat → Int} {sp : Int} {frm : Nat} {st v : Int} (hf : frm < 400) (hst : 0 ≤ st ∧ st ≤ 500) (ho : ∀ c, c < 400 → o c ≤ 399) (hsp : 1 ≤ sp) (hh : ∀ c, c < 400 → 0 ≤ h c ∧ h c ≤ 999) (hfr : o frm ≠ -1) (hV : CPv o h sp frm st v) : XPv o h sp frm st v := by
  obtain ⟨m, ⟨g1, g2⟩, g3, rfl⟩ := hV.2 hfr
  obtain ⟨c1, c2⟩ := clB_spec (o := o) (m := m) 400
  have low := CC_min hf hst ho hsp hh g1 g3
  by_cases e : clB o m 400 = 1000000
  · rw [if_pos e]
    refine Or.inl ⟨rfl, fun k c t hR hc => ?_⟩
    obtain ⟨b1, b2, b3⟩ := RC_bd hf hst ho hsp hh k c t hR
    have := low k c t hR
    have := c1 c b1 hc
    omega
  · rw [if_neg e]
    obtain ⟨c, hc, hoc, hmc⟩ := c2.resolve_left e
    refine Or.inr ⟨?_, fun k c t hR hc => ?_⟩
    · rcases (g2 c hc).2 with q | ⟨-, k, hk⟩
      · exact absurd (hmc ▸ q) e
      · exact ⟨k, c, by rw [show clB o m 400 - st + st = m c by omega]; exact hk, hoc⟩
    · have := low k c t hR
      have := c1 c (RC_bd hf hst ho hsp hh k c t hR).1 hc
      omega
/-- the state of the search: cells taken are told by pr, none comes ahead of cur -/
def DQ (o h : Nat → Int) (sp : Int) (frm : Nat) (st : Int) (pr : Nat → Int) (cur : Int) (w : AW) (sz : Nat) : Prop := CI w sz ∧ HPr (w.2.1 41) sz ∧ w.2.1 37 = h ∧
  (∀ v, 0 < cntR (w.2.1 41) v sz → ∃ (c k : Nat) (t : Int), c < 400 ∧ v = t * 400 + (c : Int) ∧ RC o h sp frm st k c t ∧ cur ≤ t ∧ w.2.1 39 c ≤ t) ∧
  (∀ c : Nat, c < 400 → w.2.1 39 c ≠ 1000000 → 0 < cntR (w.2.1 41) (w.2.1 39 c * 400 + (c : Int)) sz ∨ (o c ≠ -1 ∧ (w.2.1 39 c < o c / sp → pr c = 1))) ∧
  (∀ c : Nat, c < 400 → cntR (w.2.1 41) (w.2.1 39 c * 400 + (c : Int)) sz ≤ 1) ∧
  (∀ c : Nat, c < 400 → pr c = 1 → cntR (w.2.1 41) (w.2.1 39 c * 400 + (c : Int)) sz = 0 ∧ w.2.1 39 c ≤ cur)
theorem DQ_cm {o h : Nat → Int} {sp : Int} {frm : Nat} {st : Int} {pr : Nat → Int} {cur : Int} {w : AW} {sz zn : Nat} {m : Int} (hD : DQ o h sp frm st pr cur w sz) (hz : zn < 400) (hm : cur < m) (hm0 : 0 ≤ m) (hR : ∃ k, RC o h sp frm st k zn m) (hsz : sz ≤ 1600) :
    ∃ s2, s2 ≤ sz + 1 ∧ DQ o h sp frm st pr cur (cmW w (zn : Int) m) s2 ∧ (∀ c, c < 400 → (cmW w (zn : Int) m).2.1 39 c ≤ w.2.1 39 c) ∧ (∀ c, c < 400 → pr c = 1 → (cmW w (zn : Int) m).2.1 39 c = w.2.1 39 c) ∧ (cmW w (zn : Int) m).2.1 39 zn ≤ m := by
  obtain ⟨a1, a2, a3, a4, a5, a6, a7⟩ := id hD
  unfold cmW
  by_cases q : (0 ≤ (zn : Int) ∧ (zn : Int) < 400) ∧ m < w.2.1 39 (zn : Int).toNat
  · rw [if_pos q, CI_sz a1]
    have q2 := q.2
    rw [Int.toNat_natCast] at q2 ⊢
    have h39 := a1.2.2.2.2.2 zn hz
    obtain ⟨s2, g⟩ := CI_add (CI_39 (c := zn) (v := m) a1 ⟨by omega, by omega⟩) (x := m * 400 + (zn : Int)) ⟨by omega, by omega⟩
    obtain ⟨r1, r2⟩ := addW_at (w := upI w 39 zn m) (sz := sz) (x := m * 400 + (zn : Int)) (by omega)
    have e2 : s2 = sz + 1 := by have := g.2.1; rw [r2] at this; omega
    subst e2
    have t39 : (addW (upI w 39 zn m) sz (m * 400 + (zn : Int))).2.1 39 = uI (w.2.1 39) zn m := by rw [addW_36 _ _ _ (by decide) (by decide), upI_row]
    have t37 : (addW (upI w 39 zn m) sz (m * 400 + (zn : Int))).2.1 37 = w.2.1 37 := by rw [addW_36 _ _ _ (by decide) (by decide), upI_o _ _ _ (by decide)]
    have r1' : (addW (upI w 39 zn m) sz (m * 400 + (zn : Int))).2.1 41 = sUp 11 (w.2.1 41) sz (m * 400 + (zn : Int)) := r1.trans (by rw [upI_o _ _ _ (by decide)])
    obtain ⟨p1, p2⟩ := add_heap (row := w.2.1 41) (n := sz) (x := m * 400 + (zn : Int)) hsz a2
    have hno : cntR (w.2.1 41) (m * 400 + (zn : Int)) sz = 0 := by
      rcases Nat.eq_zero_or_pos (cntR (w.2.1 41) (m * 400 + (zn : Int)) sz) with k | k
      · exact k
      · obtain ⟨c, k', t, hc, e, -, -, ht⟩ := a4 _ k
        have : c = zn := by omega
        subst this
        omega
    have hpz : pr zn ≠ 1 := fun k => by have := (a7 zn hz k).2; omega
    refine ⟨sz + 1, Nat.le_refl _, ⟨g, by rw [r1']; exact p1, t37.trans a3, fun v hv => ?_, fun c hc hcc => ?_, fun c hc => ?_, fun c hc hcc => ?_⟩, fun c hc => ?_, fun c hc hcc => ?_, ?_⟩
    · rw [r1', p2] at hv
      rw [t39]
      by_cases e : m * 400 + (zn : Int) = v
      · obtain ⟨k, hk⟩ := hR
        exact ⟨zn, k, m, hz, e.symm, hk, by omega, by rw [uI_at]; omega⟩
      · rw [if_neg e] at hv
        obtain ⟨c, k', t, hc, e, h1, h2, ht⟩ := a4 v hv
        refine ⟨c, k', t, hc, e, h1, h2, ?_⟩
        by_cases e3 : c = zn
        · subst e3; rw [uI_at]; omega
        · rw [uI_ne _ _ e3]; exact ht
    · rw [t39] at hcc
      rw [r1', t39, p2]
      by_cases e3 : c = zn
      · subst e3
        rw [uI_at, if_pos rfl]
        exact Or.inl (by omega)
      · rw [uI_ne _ _ e3] at hcc ⊢
        exact (a5 c hc hcc).imp (fun k => by omega) id
    · rw [r1', t39, p2]
      by_cases e3 : c = zn
      · subst e3
        rw [uI_at, if_pos rfl, hno]
        decide
      · rw [uI_ne _ _ e3, if_neg (by omega)]
        exact a6 c hc
    · have e3 : c ≠ zn := fun e => hpz (e ▸ hcc)
      rw [r1', t39, p2, uI_ne _ _ e3, if_neg (by omega)]
      exact a7 c hc hcc
    · rw [t39]
      by_cases e3 : c = zn
      · subst e3; rw [uI_at]; omega
      · rw [uI_ne _ _ e3]; exact Int.le_refl _
    · have e3 : c ≠ zn := fun e => hpz (e ▸ hcc)
      rw [t39, uI_ne _ _ e3]
    · rw [t39, uI_at]; exact Int.le_refl _
  · rw [if_neg q]
    refine ⟨sz, by omega, hD, fun _ _ => Int.le_refl _, fun _ _ _ => rfl, ?_⟩
    rw [Int.toNat_natCast] at q
    exact Int.not_lt.mp fun k => q ⟨⟨by omega, by omega⟩, k⟩
theorem DQ_lv {o h : Nat → Int} {sp : Int} {frm : Nat} {st : Int} {pr : Nat → Int} {cur : Int} {w : AW} {sz c k : Nat} (hh : ∀ c, c < 400 → 0 ≤ h c ∧ h c ≤ 999) (hD : DQ o h sp frm st pr cur w sz) (hc : c < 400) (h0 : 0 ≤ cur) (hR : RC o h sp frm st k c cur) (ho : o c ≠ -1) (hlt : cur < o c / sp) : ∀ s, s ≤ 4 → sz + s ≤ 1601 →
    ∃ s2, s2 ≤ sz + s ∧ DQ o h sp frm st pr cur (lvW w (c : Int) cur s) s2 ∧ (∀ b, b < 400 → (lvW w (c : Int) cur s).2.1 39 b ≤ w.2.1 39 b) ∧ (∀ b, b < 400 → pr b = 1 → (lvW w (c : Int) cur s).2.1 39 b = w.2.1 39 b) ∧
      ∀ (s' b : Nat), s' < s → b < 400 → bsX (c : Int) (s' : Int) = (b : Int) → (lvW w (c : Int) cur s).2.1 39 b ≤ cur + 2 + max 0 (h b - h c) / 10
  | 0, _, _ => ⟨sz, Nat.le_refl _, hD, fun _ _ => Int.le_refl _, fun _ _ _ => rfl, fun s' b k => absurd k (Nat.not_lt_zero _)⟩
  | s + 1, hs, hsz => by
    obtain ⟨s2, i1, i2, i3, i4, i5⟩ := DQ_lv hh hD hc h0 hR ho hlt s (by omega) (by omega)
    unfold lvW
    by_cases q : 0 ≤ bsX (c : Int) (s : Int) ∧ bsX (c : Int) (s : Int) < 400
    · rw [if_pos q, hD.2.2.1, Int.toNat_natCast]
      obtain ⟨z, hz⟩ : ∃ z : Nat, bsX (c : Int) (s : Int) = (z : Int) := ⟨(bsX (c : Int) (s : Int)).toNat, by omega⟩
      rw [hz] at q ⊢
      rw [Int.toNat_natCast]
      have hzz : z < 400 := by omega
      have e1 := hh z hzz
      have e2 := hh c hc
      have hadj : ADJ (c : Int) (z : Int) := (ADJ_X ⟨by omega, by omega⟩).mpr ⟨s, by omega, hz, by omega, by omega⟩
      obtain ⟨s', k1, k2, -⟩ := (ADJ_M ⟨by omega, by omega⟩).mp hadj
      obtain ⟨s3, j1, j2, j3, j4, j5⟩ := DQ_cm (zn := z) (m := cur + 2 + max 0 (h z - h c) / 10) i2 hzz (by omega) (by omega) ⟨k + 1, c, s', cur, hc, k1, hR, ho, hlt, k2, rfl⟩ (by omega)
      refine ⟨s3, by omega, j2, fun b hb => by have := i3 b hb; have := j3 b hb; omega, fun b hb hp => (j4 b hb hp).trans (i4 b hb hp), fun s'' b hs'' hb e => ?_⟩
      by_cases e3 : s'' = s
      · subst e3
        have : b = z := by omega
        subst this
        exact j5
      · have := i5 s'' b (by omega) hb e
        have := j3 b hb
        omega
    · rw [if_neg q]
      refine ⟨s2, by omega, i2, i3, i4, fun s'' b hs'' hb e => ?_⟩
      by_cases e3 : s'' = s
      · subst e3; exact absurd ⟨by omega, by omega⟩ q
      · exact i5 s'' b (by omega) hb e
/-- the least is taken off -/
theorem DQ_tak {o h : Nat → Int} {sp : Int} {frm : Nat} {st : Int} {pr : Nat → Int} {cur : Int} {w : AW} {sz c : Nat} {t : Int} (hD : DQ o h sp frm st pr cur w sz) (hsz : 0 < sz) (hc : c < 400) (hv : w.2.1 41 0 = t * 400 + (c : Int)) {pr' : Nat → Int} (hp : (pr' = pr ∧ o c ≠ -1 ∧ ¬ (w.2.1 39 c = t ∧ t < o c / sp)) ∨ (pr' = uI pr c 1 ∧ w.2.1 39 c = t ∧ o c ≠ -1)) (hct : cur ≤ t) :
    DQ o h sp frm st pr' t (takW w sz) (sz - 1) := by
  obtain ⟨a1, a2, a3, a4, a5, a6, a7⟩ := id hD
  obtain ⟨p1, p2⟩ := tak_heap a1.2.2.1 hsz a2
  obtain ⟨r1, r2⟩ := takW_at w sz
  have t39 : (takW w sz).2.1 39 = w.2.1 39 := takW_o _ _ (by decide) (by decide)
  have hpo : ∀ b, b ≠ c → pr' b = pr b := by
    intro b hb
    rcases hp with ⟨e, -⟩ | ⟨e, -⟩
    · rw [e]
    · rw [e, uI_ne _ _ hb]
  have hmono : ∀ v, cntR (tlR (w.2.1 41) sz) v (sz - 1) ≤ cntR (w.2.1 41) v sz := fun v => by have := p2 v; omega
  refine ⟨CI_tak a1 hsz, by rw [r1]; exact p1, (takW_o _ _ (by decide) (by decide)).trans a3, fun v hv' => ?_, fun b hb hbb => ?_, fun b hb => ?_, fun b hb hbb => ?_⟩
  · rw [r1] at hv'
    have hvo : 0 < cntR (w.2.1 41) v sz := by have := hmono v; omega
    obtain ⟨b, k, t', hb, e, h1, h2, h3⟩ := a4 v hvo
    have := HPr_le a2 hvo
    exact ⟨b, k, t', hb, e, h1, by omega, by rw [t39]; exact h3⟩
  · rw [t39] at hbb
    rw [r1, t39]
    have k := p2 (w.2.1 39 b * 400 + (b : Int))
    by_cases e : b = c
    · subst e
      rcases hp with ⟨e1, e2, e3⟩ | ⟨e1, e2, e3⟩
      · by_cases e4 : w.2.1 39 b = t
        · exact Or.inr ⟨e2, fun q => absurd ⟨e4, by omega⟩ e3⟩
        · rw [hv, if_neg (by omega)] at k
          rw [e1]
          exact (a5 b hb hbb).imp (fun q => by omega) id
      · refine Or.inr ⟨e3, fun _ => ?_⟩
        rw [e1, uI_at]
    · rw [hv, if_neg (by omega)] at k
      rw [hpo b e]
      exact (a5 b hb hbb).imp (fun q => by omega) id
  · rw [r1, t39]
    have := hmono (w.2.1 39 b * 400 + (b : Int))
    have := a6 b hb
    omega
  · rw [r1, t39]
    by_cases e : b = c
    · subst e
      rcases hp with ⟨e1, e2, e3⟩ | ⟨e1, e2, e3⟩
      · rw [e1] at hbb
        have := hmono (w.2.1 39 b * 400 + (b : Int))
        obtain ⟨x1, x2⟩ := a7 b hb hbb
        omega
      · have k := p2 (w.2.1 39 b * 400 + (b : Int))
        rw [hv, e2, if_pos rfl] at k
        have := a6 b hb
        rw [e2] at this ⊢
        omega
    · rw [hpo b e] at hbb
      have := hmono (w.2.1 39 b * 400 + (b : Int))
      obtain ⟨x1, x2⟩ := a7 b hb hbb
      omega
/-- steps from cells taken are made -/
def DR (h : Nat → Int) (pr : Nat → Int) (w : AW) : Prop := ∀ c b : Nat, c < 400 → b < 400 → pr c = 1 → ADJ (c : Int) (b : Int) → w.2.1 39 b ≤ w.2.1 39 c + 2 + max 0 (h b - h c) / 10
/-- what stands in the heap is no later than any way -/
theorem DQ_front {o h : Nat → Int} {sp : Int} {frm : Nat} {st : Int} {pr : Nat → Int} {cur : Int} {w : AW} {sz : Nat} (hf : frm < 400) (hst : 0 ≤ st ∧ st ≤ 500) (ho : ∀ c, c < 400 → o c ≤ 399) (hsp : 1 ≤ sp) (hh : ∀ c, c < 400 → 0 ≤ h c ∧ h c ≤ 999)
    (hD : DQ o h sp frm st pr cur w sz) (hR : DR h pr w) (h6 : w.2.1 39 frm ≤ st) : ∀ k c t, RC o h sp frm st k c t → w.2.1 39 c ≤ t ∨ ∃ v, 0 < cntR (w.2.1 41) v sz ∧ v < (t + 1) * 400
  | 0, c, t, q => by
    obtain ⟨rfl, rfl⟩ := q
    exact Or.inl h6
  | k + 1, c, t, q => by
    obtain ⟨b, s, tb, hb, hs, h1, h2, h3, h4, h5⟩ := q
    have hbd := RC_bd hf hst ho hsp hh k b tb h1
    have hc : c < 400 := by have := bsM_r (c := b) (s := s) hb; omega
    rcases DQ_front hf hst ho hsp hh hD hR h6 k b tb h1 with i | ⟨v, i1, i2⟩
    · rcases hD.2.2.2.2.1 b hb (by omega) with j | ⟨j1, j2⟩
      · exact Or.inr ⟨_, j, by omega⟩
      · have := hR b c hb hc (j2 (by omega)) ((ADJ_M ⟨by omega, by omega⟩).mpr ⟨s, hs, h4, by omega⟩)
        exact Or.inl (by omega)
    · exact Or.inr ⟨v, i1, by omega⟩
theorem DQ_out {o h : Nat → Int} {sp : Int} {frm : Nat} {st : Int} {pr : Nat → Int} {cur : Int} {w : AW} {sz : Nat} (hf : frm < 400) (hst : 0 ≤ st ∧ st ≤ 500) (ho : ∀ c, c < 400 → o c ≤ 399) (hsp : 1 ≤ sp) (hh : ∀ c, c < 400 → 0 ≤ h c ∧ h c ≤ 999)
    (hD : DQ o h sp frm st pr cur w sz) (hR : DR h pr w) (h6 : w.2.1 39 frm ≤ st) {k c : Nat} {t : Int} (hq : RC o h sp frm st k c t) (hoc : o c = -1) : ∃ v, 0 < cntR (w.2.1 41) v sz ∧ v < (t + 1) * 400 := by
  have hbd := RC_bd hf hst ho hsp hh k c t hq
  rcases DQ_front hf hst ho hsp hh hD hR h6 k c t hq with i | i
  · rcases hD.2.2.2.2.1 c hbd.1 (by omega) with j | ⟨j1, j2⟩
    · exact ⟨_, j, by omega⟩
    · exact absurd hoc j1
  · exact i
theorem ms_run {o h A : Nat → Int} {sp : Int} {frm : Nat} {st : Int} (hf : frm < 400) (hst : 0 ≤ st ∧ st ≤ 500) (ho : ∀ c, c < 400 → o c ≤ 399) (hsp : 1 ≤ sp) (hh : ∀ c, c < 400 → 0 ≤ h c ∧ h c ≤ 999) (hA : ∀ c, c < 400 → (o c = -1 → A c = -2) ∧ (o c ≠ -1 → 0 ≤ o c ∧ A c = o c / sp)) :
    ∀ (d : Nat) (pr : Nat → Int) (cur : Int) (w : AW) (sz : Nat), w.2.1 38 = A → DQ o h sp frm st pr cur w sz → DR h pr w → w.2.1 39 frm ≤ st → sz + 1600 ≤ 4 * cntR pr 1 400 + d → d ≤ 1601 → XPv o h sp frm st (msF st d w).1 := by
  intro d
  induction d with
  | zero =>
    intro pr cur w sz hw hD hR h6 h7 _
    have hp : cntR pr 1 400 ≤ 400 := by
      have : ∀ n, cntR pr 1 n ≤ n := by
        intro n
        induction n with
        | zero => exact Nat.le_refl _
        | succ n ih => show cntR pr 1 n + (if pr n = 1 then 1 else 0) ≤ n + 1; split <;> omega
      exact this 400
    have hs : sz = 0 := by omega
    subst hs
    refine Or.inl ⟨rfl, fun k c t hq hoc => ?_⟩
    obtain ⟨v, a, -⟩ := DQ_out hf hst ho hsp hh hD hR h6 hq hoc
    exact Nat.lt_irrefl _ a
  | succ d ih =>
    intro pr cur w sz hw hD hR h6 h7 hd
    unfold msF
    have e40 := hD.1.2.1
    by_cases q0 : w.2.1 40 1 ≤ 0
    · rw [if_pos q0]
      have hs : sz = 0 := by omega
      subst hs
      refine Or.inl ⟨rfl, fun k c t hq hoc => ?_⟩
      obtain ⟨v, a, -⟩ := DQ_out hf hst ho hsp hh hD hR h6 hq hoc
      exact Nat.lt_irrefl _ a
    · rw [if_neg q0]
      have hsz : 0 < sz := by omega
      obtain ⟨c, k, t, hc, ev, hRC, hct, h39⟩ := hD.2.2.2.1 (w.2.1 41 0) (cntR_at rfl sz hsz)
      have hbd := RC_bd hf hst ho hsp hh k c t hRC
      have em : w.2.1 41 0 % 400 = (c : Int) := by rw [ev]; omega
      have ed : w.2.1 41 0 / 400 = t := by rw [ev]; omega
      rw [em, ed, Int.toNat_natCast, hw, CI_sz hD.1]
      obtain ⟨A1, A2⟩ := hA c hc
      by_cases q1 : A c = -2
      · rw [if_pos q1]
        have hoc : o c = -1 := Classical.byContradiction fun q => by
          obtain ⟨x1, x2⟩ := A2 q
          have := Int.ediv_nonneg x1 (show 0 ≤ sp by omega)
          omega
        refine Or.inr ⟨⟨k, c, by rw [show t - st + st = t by omega]; exact hRC, hoc⟩, fun k' c' t' hq' hoc' => ?_⟩
        obtain ⟨v, a, b⟩ := DQ_out hf hst ho hsp hh hD hR h6 hq' hoc'
        have := HPr_le hD.2.1 a
        omega
      · rw [if_neg q1]
        have hoc : o c ≠ -1 := fun q => q1 (A1 q)
        have hAc := (A2 hoc).2
        rw [hAc]
        by_cases q2 : t = w.2.1 39 c ∧ t < o c / sp
        · rw [if_pos q2]
          obtain ⟨q3, q4⟩ := q2
          have hprc : pr c ≠ 1 := by
            intro q
            have h5 := (hD.2.2.2.2.2.2 c hc q).1
            have := cntR_at (f := w.2.1 41) (v := w.2.1 39 c * 400 + (c : Int)) (k := 0) (by rw [ev, q3]) sz hsz
            omega
          have hcnt := cntR_up (f := pr) (v := 1) (x := 1) 400 hc
          rw [if_neg hprc, if_pos rfl] at hcnt
          have hp4 : cntR (uI pr c 1) 1 400 ≤ 400 := by
            have : ∀ n, cntR (uI pr c 1) 1 n ≤ n := by
              intro n
              induction n with
              | zero => exact Nat.le_refl _
              | succ n ih => show cntR (uI pr c 1) 1 n + (if uI pr c 1 n = 1 then 1 else 0) ≤ n + 1; split <;> omega
            exact this 400
          have hD2 := DQ_tak (pr' := uI pr c 1) hD hsz hc ev (Or.inr ⟨rfl, q3.symm, hoc⟩) hct
          have t39 : (takW w sz).2.1 39 = w.2.1 39 := takW_o _ _ (by decide) (by decide)
          obtain ⟨s2, j1, j2, j3, j4, j5⟩ := DQ_lv hh hD2 hc (by omega) hRC hoc q4 4 (Nat.le_refl _) (by omega)
          rw [t39] at j3 j4
          refine ih (uI pr c 1) t _ s2 ?_ j2 ?_ (by have := j3 frm hf; omega) (by omega) (by omega)
          · rw [lvW_o _ _ _ (by decide) (by decide) (by decide), takW_o _ _ (by decide) (by decide)]
            exact hw
          · intro x b hx hb hpx hadj
            by_cases e : x = c
            · subst e
              obtain ⟨s', l1, l2, -⟩ := (ADJ_X ⟨by omega, by omega⟩).mp hadj
              have := j5 s' b l1 hb l2
              have := j4 x hx (uI_at _ _ _)
              omega
            · have hpx' := hpx
              rw [uI_ne _ _ e] at hpx'
              have := hR x b hx hb hpx' hadj
              have := j4 x hx hpx
              have := j3 b hb
              omega
        · rw [if_neg q2]
          have hD2 := DQ_tak (pr' := pr) hD hsz hc ev (Or.inl ⟨rfl, hoc, fun ⟨x1, x2⟩ => q2 ⟨x1.symm, x2⟩⟩) hct
          have t39 : (takW w sz).2.1 39 = w.2.1 39 := takW_o _ _ (by decide) (by decide)
          refine ih pr t _ (sz - 1) ?_ hD2 ?_ (by rw [t39]; exact h6) (by omega) (by omega)
          · rw [takW_o _ _ (by decide) (by decide)]
            exact hw
          · intro x b hx hb hpx hadj
            rw [t39]
            exact hR x b hx hb hpx hadj
/-- a CLIMB by X is that by M -/
theorem mt_both {w : AW} {o : Nat → Int} {sp : Int} {sz frm : Nat} {st v : Int} (hC : CI w sz) (hf : frm < 400) (hst : 0 ≤ st ∧ st ≤ 500) (hsp : 1 ≤ sp) (ho : ∀ c, c < 400 → o c ≤ 399) (hA : ∀ c, c < 400 → (o c = -1 → w.2.1 38 c = -2) ∧ (o c ≠ -1 → 0 ≤ o c ∧ w.2.1 38 c = o c / sp)) (hV : CPv o (w.2.1 37) sp frm st v) : (mtV w frm st).1 = v := by
  unfold mtV
  by_cases e : o frm = -1
  · rw [if_pos ((hA frm hf).1 e)]
    exact (hV.1 e).symm
  · rw [if_neg (fun q => by
      obtain ⟨x1, x2⟩ := (hA frm hf).2 e
      have := Int.ediv_nonneg x1 (show 0 ≤ sp by omega)
      omega)]
    have hh := hC.2.2.2.2.1
    refine XPv_one ?_ (CPv_X hf hst ho hsp hh e hV)
    obtain ⟨h1, h2, h3, h4, h5, h6⟩ := id hC
    have e39 : (upI (fillW w 39 400 1000000) 40 1 0).2.1 39 = cpR (w.2.1 39) (fun _ => 1000000) 400 := by rw [upI_o _ _ _ (by decide), fillW_at]
    have e37 : (upI (fillW w 39 400 1000000) 40 1 0).2.1 37 = w.2.1 37 := by rw [upI_o _ _ _ (by decide), fillW_o _ _ _ (by decide)]
    have e41 : (upI (fillW w 39 400 1000000) 40 1 0).2.1 41 = w.2.1 41 := by rw [upI_o _ _ _ (by decide), fillW_o _ _ _ (by decide)]
    have e40 : (upI (fillW w 39 400 1000000) 40 1 0).2.1 40 1 = 0 := by rw [upI_at]; exact if_pos rfl
    have c39 : ∀ c, c < 400 → (upI (fillW w 39 400 1000000) 40 1 0).2.1 39 c = 1000000 := fun c hc => by rw [e39]; exact if_pos hc
    have hD0 : DQ o (w.2.1 37) sp frm st (fun _ => 0) (st - 1) (upI (fillW w 39 400 1000000) 40 1 0) 0 := by
      refine ⟨⟨⟨h1.1, h1.2⟩, e40, by decide, by rw [e41]; exact h4, by rw [e37]; exact h5, fun c hc => by rw [c39 c hc]; exact ⟨by decide, by decide⟩⟩, fun i _ hi => absurd hi (Nat.not_lt_zero _), e37, fun v hv => absurd hv (Nat.lt_irrefl _), fun c hc hcc => absurd (c39 c hc) hcc, fun c _ => Nat.zero_le _, fun c _ q => absurd (show (0 : Int) = 1 from q) (by decide)⟩
    obtain ⟨s2, j1, j2, j3, j4, j5⟩ := DQ_cm (zn := frm) (m := st) hD0 hf (by omega) hst.1 ⟨0, rfl, rfl⟩ (by decide)
    have e0 : ms0 w (frm : Int) st = cmW (upI (fillW w 39 400 1000000) 40 1 0) (frm : Int) st := rfl
    rw [e0]
    refine ms_run (A := w.2.1 38) hf hst ho hsp hh hA 1601 (fun _ => 0) (st - 1) _ s2 ?_ j2 (fun c b _ _ q => absurd (show (0 : Int) = 1 from q) (by decide)) j5 (by omega) (Nat.le_refl _)
    rw [cmW_o _ _ _ (by decide) (by decide) (by decide), upI_o _ _ _ (by decide), fillW_o _ _ _ (by decide)]
/-- the folk lost, by both -/
theorem ls_both {w u : AW} {o : Nat → Int} {sp : Int} {sz : Nat} {st : Int} {f : Nat → Int} (hC : CI w sz) (hst : 0 ≤ st ∧ st ≤ 500) (hsp : 1 ≤ sp) (ho : ∀ c, c < 400 → o c ≤ 399) (hA : ∀ c, c < 400 → (o c = -1 → w.2.1 38 c = -2) ∧ (o c ≠ -1 → 0 ≤ o c ∧ w.2.1 38 c = o c / sp)) : ∀ nv, (∀ i, i < nv → w.2.1 (60 + i) 0 = u.2.1 475 i ∧ w.2.1 (60 + i) 1 = u.2.1 476 i ∧ w.2.1 (60 + i) 2 = u.2.1 477 i ∧ 0 ≤ u.2.1 475 i ∧ u.2.1 475 i < 400) →
    (∀ i, i < nv → u.2.1 477 i = 0 → CPv o (w.2.1 37) sp (u.2.1 475 i).toNat st (f i)) → (lsF w st nv).1 = lsM u f nv ∧ (∃ s2, CI (lsF w st nv).2 s2) ∧ (∀ j, j ≠ 39 → j ≠ 40 → j ≠ 41 → (lsF w st nv).2.2.1 j = w.2.1 j) ∧ (lsF w st nv).2.1 = w.1 ∧ (lsF w st nv).2.2.2 = w.2.2
  | 0, _, _ => ⟨rfl, ⟨sz, hC⟩, fun _ _ _ _ => rfl, rfl, rfl⟩
  | i + 1, hv, hf => by
    obtain ⟨i1, ⟨s2, i2⟩, i3, i4, i5⟩ := ls_both hC hst hsp ho hA i (fun j hj => hv j (by omega)) (fun j hj => hf j (by omega))
    obtain ⟨v1, v2, v3, v4, v5⟩ := hv i (by omega)
    unfold lsF lsM
    rw [v1, v2, v3]
    by_cases e : u.2.1 477 i = 0
    · rw [if_pos e]
      have hA' : ∀ c, c < 400 → (o c = -1 → (lsF w st i).2.2.1 38 c = -2) ∧ (o c ≠ -1 → 0 ≤ o c ∧ (lsF w st i).2.2.1 38 c = o c / sp) := by
        rw [i3 38 (by decide) (by decide) (by decide)]
        exact hA
      have hm := mt_both (frm := (u.2.1 475 i).toNat) i2 (by omega) hst hsp ho hA' (by rw [i3 37 (by decide) (by decide) (by decide)]; exact hf i (by omega) e)
      have hc2 : ∃ s3, CI (mtV (lsF w st i).2 (u.2.1 475 i).toNat st).2 s3 := CI_mt i2 hst.1
      refine ⟨?_, hc2, fun j a b c => ?_, ?_, ?_⟩
      · show (lsF w st i).1 + (if (mtV (lsF w st i).2 (u.2.1 475 i).toNat st).1 = -2 then u.2.1 476 i else 0) = _
        rw [hm, i1]
        by_cases e2 : f i = -2
        · rw [if_pos e2, if_pos ⟨e, e2⟩]
        · rw [if_neg e2, if_neg (fun t => e2 t.2)]
      · exact (mtV_o b c a).1.trans (i3 j a b c)
      · exact (mtV_o (j := 0) (by decide) (by decide) (by decide)).2.1.trans i4
      · exact (mtV_o (j := 0) (by decide) (by decide) (by decide)).2.2.trans i5
    · rw [if_neg e, if_neg (fun t => e t.1), i1, Int.add_zero]
      exact ⟨rfl, ⟨s2, i2⟩, i3, i4, i5⟩
