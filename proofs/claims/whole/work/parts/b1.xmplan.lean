/-! ===== a plan by both ===== -/
/-- the days that a try tells, if they are at most d -/
def cutF (r d : Int) : Int := if r ≠ -2 ∧ r ≤ d then r else -2
theorem dtM_more {L np : Nat} {share : Int} (e : Nat) : ∀ (d : Nat) (day : Int) (w : AW), 1 ≤ day → ((dtM L np share d day w).1 ≠ -2 → (dtM L np share (d + e) day w).1 = (dtM L np share d day w).1) ∧ ((dtM L np share d day w).1 = -2 → (dtM L np share (d + e) day w).1 = -2 ∨ day + d ≤ (dtM L np share (d + e) day w).1)
  | 0, day, w, h => by
    refine ⟨fun q => absurd rfl q, fun _ => ?_⟩
    have := dtM_bd (L := L) (np := np) (share := share) (0 + e) day w
    omega
  | d + 1, day, w, h => by
    rw [Nat.add_right_comm d 1 e]
    unfold dtM
    by_cases h1 : mdB w L np = 1
    · rw [if_pos h1, if_pos h1]
      exact ⟨fun q => absurd rfl q, fun _ => Or.inl rfl⟩
    · rw [if_neg h1, if_neg h1]
      by_cases h2 : fhM (mdW w L np) L < share
      · rw [if_pos h2, if_pos h2]
        exact ⟨fun _ => rfl, fun q => by have : day = -2 := q; omega⟩
      · rw [if_neg h2, if_neg h2]
        obtain ⟨a, b⟩ := dtM_more e d (day + 1) (mdW w L np) (by omega)
        refine ⟨a, fun q => (b q).imp id (fun t => by omega)⟩
theorem dtM_cut {L np : Nat} {share : Int} {d : Nat} (w : AW) (hd : d ≤ 60) : (dtM L np share d 1 w).1 = cutF (dtM L np share 60 1 w).1 (d : Int) := by
  obtain ⟨a, b⟩ := dtM_more (L := L) (np := np) (share := share) (60 - d) d 1 w (by decide)
  rw [show d + (60 - d) = 60 by omega] at a b
  have c := dtM_bd (L := L) (np := np) (share := share) d 1 w
  unfold cutF
  by_cases e : (dtM L np share d 1 w).1 = -2
  · have := b e
    rw [e, if_neg (by omega)]
  · have := a e
    rw [if_pos (by omega), this]
/-- the digits of a try -/
def dgF (m : Nat) (t : Int) : Nat → Int := spR m t (fun _ => 0)
theorem dgF_bd {m : Nat} {t : Int} {k : Nat} (h : k < m) : 0 ≤ dgF m t k ∧ dgF m t k < 10 := spR_bd m t _ k h
/-- what both sides have at hand as a plan begins -/
def PB (x u : AW) (n : Nat → Nat) (q : Nat → Nat → Nat) (np S L : Nat) : Prop := BI x L (n L) (q L) S ∧ LkE x u n q np ∧ PpE x u np ∧ MPI u np
/-- the days of try t -/
def RtF (u : AW) (L np m : Nat) (o : Nat → Nat) (share t : Int) : Int := (dtM L np share 60 1 (dyF (tkW (sR u 437 (dgF m t)) L np) o m)).1
/-- the pipes that try t moves -/
def MtF (u : AW) (m : Nat) (o : Nat → Nat) (t : Int) : Int := mvF (sR u 437 (dgF m t)) o m
theorem RtF_bd (u : AW) (L np m : Nat) (o : Nat → Nat) (share t : Int) : RtF u L np m o share t = -2 ∨ (1 ≤ RtF u L np m o share t ∧ RtF u L np m o share t ≤ 60) := by
  have := dtM_bd (L := L) (np := np) (share := share) 60 1 (dyF (tkW (sR u 437 (dgF m t)) L np) o m)
  unfold RtF
  omega
theorem PB_v {x u v : AW} {n : Nat → Nat} {q : Nat → Nat → Nat} {np S L : Nat} (h : PB x u n q np S L) (h1 : ∀ j, (407 ≤ j ∧ j ≤ 419) ∨ (429 ≤ j ∧ j ≤ 435) → v.2.1 j = u.2.1 j) (h2 : v.2.1 400 28 = u.2.1 400 28) : PB x v n q np S L := by
  obtain ⟨a, b, c, d⟩ := h
  refine ⟨a, LkE_u (fun j hj => h1 j (by omega)) b, PpE_u (fun j hj => h1 j (Or.inr hj)) c, ?_⟩
  unfold MPI
  rw [h2, h1 429 (by omega), h1 430 (by omega), h1 431 (by omega), h1 432 (by omega), h1 435 (by omega)]
  exact d
theorem PB_x {x y u : AW} {n : Nat → Nat} {q : Nat → Nat → Nat} {np S S' L : Nat} (h : PB x u n q np S L) (hB : BI y L (n L) (q L) S') (hF : BF x y) : PB y u n q np S' L :=
  ⟨hB, LkE_w (fun j hj hs => hF.1 j hs (by omega) (by omega) (by omega)) h.2.1, PpE_w h.2.2.2.2.1 (fun j h1 h2 => hF.1 j ⟨by omega, by omega, by omega, by omega, by omega⟩ (by omega) (by omega) (by omega)) h.2.2.1, h.2.2.2⟩
/-- X's days and M's, whatever the worlds -/
theorem PB_try {x v : AW} {n : Nat → Nat} {q : Nat → Nat → Nat} {np S L : Nat} {f : Nat → Int} {o : Nat → Nat} {share : Int} (h : PB x v n q np S L) (hL : L < 2) (hq5 : ∀ i, i < n L → q L i < 56) (hO : OO (v.2.1 429) L np (n L) o) (hf : ∀ k, k < n L → v.2.1 437 k = f k ∧ 0 ≤ f k ∧ f k < 10) (d : Nat) :
    (dtb 2 (n L) sq share d 1 (tyA (spW x n q S L) (n L) f (n L))).1 = (dtM L np share d 1 (dyF (tkW v L np) o (n L))).1 :=
  try_both h.1.1 hL h.1.2.1 h.1.2.2.1 hq5 h.1.2.2.2.1 h.2.1 h.2.2.1 h.2.2.2 hO hf d
theorem PB_X {x u : AW} {n : Nat → Nat} {q : Nat → Nat → Nat} {np S L : Nat} {f : Nat → Int} {o : Nat → Nat} {share t : Int} (h : PB x u n q np S L) (hL : L < 2) (hq5 : ∀ i, i < n L → q L i < 56) (hO : OO (u.2.1 429) L np (n L) o) (hf : ∀ k, k < n L → f k = dgF (n L) t k) {d : Nat} (hd : d ≤ 60) :
    (dtb 2 (n L) sq share d 1 (tyA (spW x n q S L) (n L) f (n L))).1 = cutF (RtF u L np (n L) o share t) (d : Int) := by
  have h2 : PB x (sR u 437 (dgF (n L) t)) n q np S L := PB_v h (fun j hj => sR_ne _ _ (by omega)) (by rw [sR_ne _ _ (by decide)])
  rw [PB_try (o := o) h2 hL hq5 (by rw [sR_ne _ _ (by decide)]; exact hO) (fun k hk => ⟨by rw [sR_at, hf k hk], by rw [hf k hk]; exact dgF_bd hk⟩) d]
  exact dtM_cut _ hd
theorem PB_M {x u v : AW} {n : Nat → Nat} {q : Nat → Nat → Nat} {np S L : Nat} {o : Nat → Nat} {share t : Int} (h : PB x u n q np S L) (hv : PB x v n q np S L) (hL : L < 2) (hq5 : ∀ i, i < n L → q L i < 56) (hO : OO (u.2.1 429) L np (n L) o) (hOv : OO (v.2.1 429) L np (n L) o) (hf : ∀ k, k < n L → v.2.1 437 k = dgF (n L) t k) {d : Nat} (hd : d ≤ 60) :
    (dtM L np share d 1 (dyF (tkW v L np) o (n L))).1 = cutF (RtF u L np (n L) o share t) (d : Int) := by
  rw [← PB_try (f := dgF (n L) t) hv hL hq5 hOv (fun k hk => ⟨hf k hk, dgF_bd hk⟩) d]
  exact PB_X h hL hq5 hO (fun _ _ => rfl) hd
/-- b is the best of those of which P holds -/
def BST (R mv : Int → Int) (N : Int) (P : Int → Prop) (b : Int) : Prop := (0 ≤ b ∧ b < N) ∧ P b ∧ R b ≠ -2 ∧ ∀ c, 0 ≤ c → c < N → P c → R c ≠ -2 → R b < R c ∨ (R b = R c ∧ (mv b < mv c ∨ (mv b = mv c ∧ b ≤ c)))
theorem BST_one {R mv : Int → Int} {N b c : Int} (h : BST R mv N (fun _ => True) b) (k : BST R mv N (fun _ => True) c) : b = c := by
  have h1 := h.2.2.2 c k.1.1 k.1.2 trivial k.2.2.1
  have h2 := k.2.2.2 b h.1.1 h.1.2 trivial h.2.2.1
  omega
theorem BST_c {R mv : Int → Int} {N b : Int} {P P' : Int → Prop} (h : BST R mv N P b) (e : ∀ c, 0 ≤ c → c < N → (P c ↔ P' c)) : BST R mv N P' b :=
  ⟨h.1, (e b h.1.1 h.1.2).mp h.2.1, h.2.2.1, fun c h0 h1 hc => h.2.2.2 c h0 h1 ((e c h0 h1).mpr hc)⟩
/-- where X's search stands -/
def XSt (R mv : Int → Int) (N : Int) (n : Nat) (P : Int → Prop) (w0 : AW) (least : Int) (x : AW) : Prop :=
  (least = 61 ∧ (∀ c, 0 ≤ c → c < N → P c → R c = -2) ∧ x.2.1 19 = w0.2.1 19 ∧ x.2.1 0 6 = w0.2.1 0 6) ∨ (∃ b, BST R mv N P b ∧ least = R b ∧ (∀ j, j < n → x.2.1 19 j = dgF n b j) ∧ x.2.1 0 6 = (n : Int))
theorem XSt_c {R mv : Int → Int} {N : Int} {n : Nat} {P P' : Int → Prop} {w0 : AW} {least : Int} {x : AW} (h : XSt R mv N n P w0 least x) (e : ∀ c, 0 ≤ c → c < N → (P c ↔ P' c)) : XSt R mv N n P' w0 least x :=
  h.imp (fun ⟨a, b, c⟩ => ⟨a, fun d h0 h1 hd => b d h0 h1 ((e d h0 h1).mpr hd), c⟩) (fun ⟨b, h1, h2⟩ => ⟨b, BST_c h1 e, h2⟩)
/-- the search with so many moves -/
theorem bm_run {w0 u : AW} {n : Nat → Nat} {q : Nat → Nat → Nat} {np S0 L : Nat} {o : Nat → Nat} {share m N : Int} (hB0 : PB w0 u n q np S0 L) (hL : L < 2) (hq5 : ∀ i, i < n L → q L i < 56) (hO : OO (u.2.1 429) L np (n L) o) :
    ∀ (d : Nat) (t least : Int) (S : Nat) (x : AW), t + d = N → 0 ≤ t → BI x L (n L) (q L) S → BF w0 x → XSt (RtF u L np (n L) o share) (MtF u (n L) o) N (n L) (fun c => MtF u (n L) o c < m ∨ (MtF u (n L) o c = m ∧ c < t)) w0 least x →
      XSt (RtF u L np (n L) o share) (MtF u (n L) o) N (n L) (fun c => MtF u (n L) o c < m + 1) w0 (bmF L (n L) (q L) share m d t least S x).1 (bmF L (n L) (q L) share m d t least S x).2.1
  | 0, t, least, S, x, ht, h0, hI, hF, hX => XSt_c hX (fun c h1 h2 => ⟨fun k => by omega, fun k => by omega⟩)
  | d + 1, t, least, S, x, ht, h0, hI, hF, hX => by
    unfold bmF
    by_cases hl : least ≤ 1
    · rw [if_pos hl]
      rcases hX with ⟨a, -⟩ | ⟨b, h1, h2, h3⟩
      · omega
      · refine Or.inr ⟨b, ⟨h1.1, ?_, h1.2.2.1, fun c c0 c1 hc hcR => ?_⟩, h2, h3⟩
        · have := h1.2.1; omega
        · have hb := h1.2.1
          by_cases k : MtF u (n L) o c < m ∨ (MtF u (n L) o c = m ∧ c < t)
          · exact h1.2.2.2 c c0 c1 k hcR
          · have := RtF_bd u L np (n L) o share c
            omega
    · rw [if_neg hl]
      have hI1 := BI_bmT (t := t) hI hL hq5
      have hF1 := BF_tr hF (BF_bmT x (n L) t)
      have hB1 := PB_x hB0 hI1 hF1
      have h18 : ∀ j, j < n L → (bmT x (n L) t).2.1 18 j = dgF (n L) t j := fun j hj => by
        show (sR x 18 (spR (n L) t (x.2.1 18))).2.1 18 j = _
        rw [sR_at]
        exact spR_c _ _ _ _ _ hj
      have hmv : movS (bmT x (n L) t) (q L) ((bmT x (n L) t).2.1 18) (n L) = MtF u (n L) o t := by
        have h2 : PB (bmT x (n L) t) (sR u 437 (dgF (n L) t)) n q np S L := PB_v hB1 (fun j hj => sR_ne _ _ (by omega)) (by rw [sR_ne _ _ (by decide)])
        exact mov_both hL h2.2.1 h2.2.2.1 (by rw [sR_ne _ _ (by decide)]; exact hO) (n L) (Nat.le_refl _) (fun j hj => by rw [sR_at, h18 j hj])
      rw [hmv]
      have hskip : ∀ y S', BI y L (n L) (q L) S' → BF w0 y → y.2.1 19 = x.2.1 19 → y.2.1 0 = x.2.1 0 → (MtF u (n L) o t = m → RtF u L np (n L) o share t = -2 ∨ least ≤ RtF u L np (n L) o share t) →
          XSt (RtF u L np (n L) o share) (MtF u (n L) o) N (n L) (fun c => MtF u (n L) o c < m ∨ (MtF u (n L) o c = m ∧ c < t + 1)) w0 least y := by
        intro y S' _ _ e19 e0 hsk
        rcases hX with ⟨a1, a2, a3, a4⟩ | ⟨b, h1, h2, h3, h4⟩
        · refine Or.inl ⟨a1, fun c c0 c1 hc => ?_, e19.trans a3, by rw [e0]; exact a4⟩
          by_cases k : MtF u (n L) o c < m ∨ (MtF u (n L) o c = m ∧ c < t)
          · exact a2 c c0 c1 k
          · have : c = t := by omega
            subst this
            have := RtF_bd u L np (n L) o share c
            have := hsk (by omega)
            omega
        · refine Or.inr ⟨b, ⟨h1.1, ?_, h1.2.2.1, fun c c0 c1 hc hcR => ?_⟩, h2, fun j hj => by rw [e19]; exact h3 j hj, by rw [e0]; exact h4⟩
          · have := h1.2.1; omega
          · have hb := h1.2.1
            by_cases k : MtF u (n L) o c < m ∨ (MtF u (n L) o c = m ∧ c < t)
            · exact h1.2.2.2 c c0 c1 k hcR
            · have : c = t := by omega
              subst this
              have := hsk (by omega)
              omega
      by_cases hmm : MtF u (n L) o t = m
      · rw [if_pos hmm]
        obtain ⟨g1, g2, g3, g4⟩ := BI_bmD (t := t) (share := share) (least := least) hI hL hq5
        have gF := BF_tr hF (BF_bmD (t := t) (share := share) (least := least) hI hL hq5)
        have hl61 : least ≤ 61 := by
          rcases hX with ⟨a, -⟩ | ⟨b, -, h2, -⟩
          · omega
          · have := RtF_bd u L np (n L) o share b; omega
        have hdays : (bmD x L S (n L) (q L) share t least).1 = cutF (RtF u L np (n L) o share t) (least - 1) := by
          have k := PB_X (share := share) (t := t) (f := (bmT x (n L) t).2.1 18) hB1 hL hq5 hO h18 (d := (least - 1).toNat) (by omega)
          rw [show ((least - 1).toNat : Int) = least - 1 by omega] at k
          exact k
        rw [hdays]
        by_cases hc : cutF (RtF u L np (n L) o share t) (least - 1) = -2
        · rw [if_pos hc]
          refine bm_run hB0 hL hq5 hO d (t + 1) least (max S (n L)) _ (by omega) (by omega) g1 gF (hskip _ _ g1 gF g4 g3 (fun _ => ?_))
          unfold cutF at hc
          by_cases k : RtF u L np (n L) o share t ≠ -2 ∧ RtF u L np (n L) o share t ≤ least - 1
          · rw [if_pos k] at hc; exact absurd hc k.1
          · omega
        · rw [if_neg hc]
          have k : RtF u L np (n L) o share t ≠ -2 ∧ RtF u L np (n L) o share t ≤ least - 1 := Classical.byContradiction fun k => hc (if_neg k)
          rw [show cutF (RtF u L np (n L) o share t) (least - 1) = RtF u L np (n L) o share t from if_pos k]
          refine bm_run hB0 hL hq5 hO d (t + 1) _ (max S (n L)) _ (by omega) (by omega) (BI_kp (m := n L) g1 hL hq5) (BF_tr gF (BF_kp _ (n L))) (Or.inr ⟨t, ⟨⟨h0, by omega⟩, Or.inr ⟨hmm, by omega⟩, k.1, fun c c0 c1 hcc hcR => ?_⟩, rfl, fun j hj => ?_, ?_⟩)
          · rcases hX with ⟨a1, a2, -⟩ | ⟨b, h1, h2, -⟩
            · by_cases k2 : MtF u (n L) o c < m ∨ (MtF u (n L) o c = m ∧ c < t)
              · exact absurd (a2 c c0 c1 k2) hcR
              · have : c = t := by omega
                subst this
                omega
            · by_cases k2 : MtF u (n L) o c < m ∨ (MtF u (n L) o c = m ∧ c < t)
              · have := h1.2.2.2 c c0 c1 k2 hcR
                omega
              · have : c = t := by omega
                subst this
                omega
          · show (upI (sR _ 19 (cpR _ _ 3)) 0 6 _).2.1 19 j = _
            rw [upI_o _ _ _ (by decide), sR_at]
            have := hI.2.2.1.1
            unfold cpR
            rw [if_pos (by omega), g2]
            exact h18 j hj
          · show (upI (sR _ 19 (cpR _ _ 3)) 0 6 _).2.1 0 6 = _
            rw [upI_at]
            exact if_pos rfl
      · rw [if_neg hmm]
        exact bm_run hB0 hL hq5 hO d (t + 1) least S _ (by omega) (by omega) hI1 hF1 (hskip _ S hI1 hF1 (sR_ne _ _ (by decide)) (sR_ne _ _ (by decide)) (fun k => absurd k hmm))
theorem pl_run {w0 u : AW} {n : Nat → Nat} {q : Nat → Nat → Nat} {np S0 L : Nat} {o : Nat → Nat} {share : Int} (hB0 : PB w0 u n q np S0 L) (hL : L < 2) (hq5 : ∀ i, i < n L → q L i < 56) (hO : OO (u.2.1 429) L np (n L) o) :
    ∀ (d : Nat) (m best : Int) (S : Nat) (x : AW), m + d = 4 → 1 ≤ best → BI x L (n L) (q L) S → BF w0 x → XSt (RtF u L np (n L) o share) (MtF u (n L) o) ((10 ^ n L : Nat) : Int) (n L) (fun c => MtF u (n L) o c < m) w0 best x →
      XSt (RtF u L np (n L) o share) (MtF u (n L) o) ((10 ^ n L : Nat) : Int) (n L) (fun _ => True) w0 (plB L (n L) (q L) share d m best S x).1 (plB L (n L) (q L) share d m best S x).2.1
  | 0, m, best, S, x, hm, hb, hI, hF, hX => XSt_c hX (fun c _ _ => ⟨fun _ => trivial, fun _ => by
      have h1 := mvF_bd (sR u 437 (dgF (n L) c)) o (n L)
      have h2 : n L ≤ 3 := hI.2.2.1.1
      show mvF (sR u 437 (dgF (n L) c)) o (n L) < m
      omega⟩)
  | d + 1, m, best, S, x, hm, hb, hI, hF, hX => by
    unfold plB
    by_cases hl : best ≤ 1
    · rw [if_pos hl]
      rcases hX with ⟨a, -⟩ | ⟨b, h1, h2, h3⟩
      · omega
      · refine Or.inr ⟨b, ⟨h1.1, trivial, h1.2.2.1, fun c c0 c1 _ hcR => ?_⟩, h2, h3⟩
        by_cases k : MtF u (n L) o c < m
        · exact h1.2.2.2 c c0 c1 k hcR
        · have := RtF_bd u L np (n L) o share c
          have hbm : MtF u (n L) o b < m := h1.2.1
          omega
    · rw [if_neg hl]
      obtain ⟨a, b, c, e⟩ := bmF_ok (share := share) (m := m) hL hq5 (10 ^ n L) 0 best S x hI hb
      exact pl_run hB0 hL hq5 hO d (m + 1) _ _ _ (by omega) a.1 b (BF_tr hF e) (bm_run hB0 hL hq5 hO (10 ^ n L) 0 best S x (by omega) (Int.le_refl _) hI hF (XSt_c hX (fun c c0 _ => ⟨Or.inl, fun t => t.elim id (fun t => by omega)⟩)))
/-- where M's search stands -/
def MSt (R mv : Int → Int) (N : Int) (m : Nat) (c0 : Nat) (s : PS) : Prop :=
  (s.2.1 = 0 ∧ s.2.2.1 = 60 ∧ ∀ c, 0 ≤ c → c < (c0 : Int) → R c = -2) ∨ (s.2.1 = 1 ∧ ∃ b, BST R mv N (fun c => c < (c0 : Int)) b ∧ s.2.2.1 = R b ∧ s.2.2.2 = mv b ∧ ∀ j, j < m → s.1.2.1 438 j = dgF m b j)
/-- what M's search leaves alone -/
def MPl (u v : AW) : Prop := v.1 = u.1 ∧ v.2.2 = u.2.2 ∧ (∀ j, noH j → j ≠ 437 → j ≠ 438 → v.2.1 j = u.2.1 j) ∧ ∀ f, f ≠ 26 → f ≠ 27 → v.2.1 400 f = u.2.1 400 f
theorem MPl_PB {x u v : AW} {n : Nat → Nat} {q : Nat → Nat → Nat} {np S L : Nat} (h : PB x u n q np S L) (g : MPl u v) : PB x v n q np S L :=
  PB_v h (fun j hj => g.2.2.1 j ⟨by omega, by omega, by omega, by omega, by omega, by omega, by omega⟩ (by omega) (by omega)) (g.2.2.2 28 (by decide) (by decide))
theorem mvF_c {a b : AW} {o : Nat → Nat} : ∀ k, (∀ j, j < k → a.2.1 437 j = b.2.1 437 j) → a.2.1 430 = b.2.1 430 → mvF a o k = mvF b o k
  | 0, _, _ => rfl
  | k + 1, h, e => by
    unfold mvF
    rw [mvF_c k (fun j hj => h j (by omega)) e, h k (by omega), e]
theorem ms_step {x u : AW} {n : Nat → Nat} {q : Nat → Nat → Nat} {np S L : Nat} {o : Nat → Nat} {share N : Int} (hB : PB x u n q np S L) (hL : L < 2) (hq5 : ∀ i, i < n L → q L i < 56) (hO : OO (u.2.1 429) L np (n L) o) {c : Nat} {s : PS} (hc : (c : Int) < N) (hM : MPl u s.1) (h : MSt (RtF u L np (n L) o share) (MtF u (n L) o) N (n L) c s) :
    MPl u (plS L np (n L) o share s c).1 ∧ MSt (RtF u L np (n L) o share) (MtF u (n L) o) N (n L) (c + 1) (plS L np (n L) o share s c) := by
  have g := MF_ds (sR s.1 437 (spR (n L) (c : Int) (s.1.2.1 437))) L np (n L) o share s.2.2.1
  have hM1 : MPl u (sR s.1 437 (spR (n L) (c : Int) (s.1.2.1 437))) := ⟨hM.1, hM.2.1, fun j a b d => (sR_ne _ _ b).trans (hM.2.2.1 j a b d), fun f a b => by rw [sR_ne _ _ (by decide)]; exact hM.2.2.2 f a b⟩
  have hM2 : MPl u (dsM (sR s.1 437 (spR (n L) (c : Int) (s.1.2.1 437))) L np (n L) o share s.2.2.1).2 := ⟨g.1.trans hM1.1, g.2.1.trans hM1.2.1, fun j a b d => (g.2.2.1 j a).trans (hM1.2.2.1 j a b d), fun f a b => (g.2.2.2 f a b).trans (hM1.2.2.2 f a b)⟩
  have e429 : s.1.2.1 429 = u.2.1 429 := hM.2.2.1 429 ⟨by decide, by decide, by decide, by decide, by decide, by decide, by decide⟩ (by decide) (by decide)
  have hdig : ∀ k, k < n L → (sR s.1 437 (spR (n L) (c : Int) (s.1.2.1 437))).2.1 437 k = dgF (n L) (c : Int) k := fun k hk => by rw [sR_at]; exact spR_c _ _ _ _ _ hk
  have hl60 : 0 ≤ s.2.2.1 ∧ s.2.2.1 ≤ 60 := by
    rcases h with ⟨-, e, -⟩ | ⟨-, b, hb, e, -⟩
    · omega
    · have k := RtF_bd u L np (n L) o share b
      have k2 := hb.2.2.1
      omega
  have hdays : (dsM (sR s.1 437 (spR (n L) (c : Int) (s.1.2.1 437))) L np (n L) o share s.2.2.1).1 = cutF (RtF u L np (n L) o share (c : Int)) s.2.2.1 := by
    have k := PB_M (share := share) (t := (c : Int)) hB (MPl_PB hB hM1) hL hq5 hO (by rw [sR_ne _ _ (by decide), e429]; exact hO) hdig (d := s.2.2.1.toNat) (by omega)
    rw [show (s.2.2.1.toNat : Int) = s.2.2.1 by omega] at k
    exact k
  have hmv : mvF (dsM (sR s.1 437 (spR (n L) (c : Int) (s.1.2.1 437))) L np (n L) o share s.2.2.1).2 o (n L) = MtF u (n L) o (c : Int) := by
    refine mvF_c (n L) (fun j hj => ?_) ?_
    · rw [g.2.2.1 437 ⟨by decide, by decide, by decide, by decide, by decide, by decide, by decide⟩, hdig j hj, sR_at]
    · rw [hM2.2.2.1 430 ⟨by decide, by decide, by decide, by decide, by decide, by decide, by decide⟩ (by decide) (by decide), sR_ne _ _ (by decide)]
  have e438 : (dsM (sR s.1 437 (spR (n L) (c : Int) (s.1.2.1 437))) L np (n L) o share s.2.2.1).2.2.1 438 = s.1.2.1 438 := (g.2.2.1 438 ⟨by decide, by decide, by decide, by decide, by decide, by decide, by decide⟩).trans (sR_ne _ _ (by decide))
  have e437 : ∀ j, j < n L → (dsM (sR s.1 437 (spR (n L) (c : Int) (s.1.2.1 437))) L np (n L) o share s.2.2.1).2.2.1 437 j = dgF (n L) (c : Int) j := fun j hj => by
    rw [g.2.2.1 437 ⟨by decide, by decide, by decide, by decide, by decide, by decide, by decide⟩]; exact hdig j hj
  unfold plS
  rw [hdays, hmv]
  generalize (dsM (sR s.1 437 (spR (n L) (c : Int) (s.1.2.1 437))) L np (n L) o share s.2.2.1).2 = D at *
  have hRb := RtF_bd u L np (n L) o share (c : Int)
  by_cases q1 : cutF (RtF u L np (n L) o share (c : Int)) s.2.2.1 = -2 ∨ (s.2.1 = 1 ∧ cutF (RtF u L np (n L) o share (c : Int)) s.2.2.1 = s.2.2.1 ∧ s.2.2.2 ≤ MtF u (n L) o (c : Int))
  · rw [if_pos q1]
    refine ⟨hM2, ?_⟩
    unfold cutF at q1
    rcases h with ⟨a1, a2, a3⟩ | ⟨a1, b, a2, a3, a4, a5⟩
    · refine Or.inl ⟨a1, a2, fun d d0 d1 => ?_⟩
      by_cases k : d = (c : Int)
      · subst k
        by_cases k2 : RtF u L np (n L) o share (c : Int) ≠ -2 ∧ RtF u L np (n L) o share (c : Int) ≤ s.2.2.1
        · rw [if_pos k2] at q1; omega
        · omega
      · exact a3 d d0 (by omega)
    · refine Or.inr ⟨a1, b, ⟨a2.1, by have : b < (c : Int) := a2.2.1; show b < ((c + 1 : Nat) : Int); omega, a2.2.2.1, fun d d0 d1 hd hdR => ?_⟩, a3, a4, fun j hj => by rw [e438]; exact a5 j hj⟩
      have hd' : d < ((c + 1 : Nat) : Int) := hd
      have hb : b < (c : Int) := a2.2.1
      by_cases k : d = (c : Int)
      · subst k
        by_cases k2 : RtF u L np (n L) o share (c : Int) ≠ -2 ∧ RtF u L np (n L) o share (c : Int) ≤ s.2.2.1
        · rw [if_pos k2] at q1; omega
        · omega
      · exact a2.2.2.2 d d0 d1 (show d < (c : Int) by omega) hdR
  · rw [if_neg q1]
    have k2 : RtF u L np (n L) o share (c : Int) ≠ -2 ∧ RtF u L np (n L) o share (c : Int) ≤ s.2.2.1 := Classical.byContradiction fun k => q1 (Or.inl (if_neg k))
    have ec : cutF (RtF u L np (n L) o share (c : Int)) s.2.2.1 = RtF u L np (n L) o share (c : Int) := if_pos k2
    rw [ec] at q1 ⊢
    refine ⟨⟨hM2.1, hM2.2.1, fun j a b d => (sR_ne _ _ d).trans (hM2.2.2.1 j a b d), fun f a b => by
      show (sR D 438 _).2.1 400 f = _
      rw [sR_ne _ _ (by decide)]; exact hM2.2.2.2 f a b⟩, Or.inr ⟨rfl, (c : Int), ⟨⟨by omega, hc⟩, by show (c : Int) < ((c + 1 : Nat) : Int); omega, k2.1, fun d d0 d1 hd hdR => ?_⟩, rfl, rfl, fun j hj => ?_⟩⟩
    · have hd' : d < ((c + 1 : Nat) : Int) := hd
      by_cases k : d = (c : Int)
      · subst k; omega
      · rcases h with ⟨a1, a2, a3⟩ | ⟨a1, b, a2, a3, a4, a5⟩
        · exact absurd (a3 d d0 (by omega)) hdR
        · have := a2.2.2.2 d d0 d1 (show d < (c : Int) by omega) hdR
          omega
    · show (sR D 438 (cpR (D.2.1 438) (D.2.1 437) (n L))).2.1 438 j = _
      rw [sR_at]
      unfold cpR
      rw [if_pos hj]
      exact e437 j hj
theorem ms_all {x u : AW} {n : Nat → Nat} {q : Nat → Nat → Nat} {np S L : Nat} {o : Nat → Nat} {share N : Int} (hB : PB x u n q np S L) (hL : L < 2) (hq5 : ∀ i, i < n L → q L i < 56) (hO : OO (u.2.1 429) L np (n L) o) : ∀ c : Nat, (c : Int) ≤ N →
    MPl u (plF L np (n L) o share (u, 0, 60, 1000000) c).1 ∧ MSt (RtF u L np (n L) o share) (MtF u (n L) o) N (n L) c (plF L np (n L) o share (u, 0, 60, 1000000) c)
  | 0, _ => ⟨⟨rfl, rfl, fun _ _ _ _ => rfl, fun _ _ _ => rfl⟩, Or.inl ⟨rfl, rfl, fun c c0 c1 => by omega⟩⟩
  | c + 1, hc => by
    obtain ⟨a, b⟩ := ms_all hB hL hq5 hO (share := share) (N := N) c (by omega)
    exact ms_step hB hL hq5 hO (by omega) a b
theorem allF_10 {m : Nat} (h : m ≤ 3) : allF m = 10 ^ m := by
  rcases (show m = 0 ∨ m = 1 ∨ m = 2 ∨ m = 3 by omega) with rfl | rfl | rfl | rfl <;> rfl
/-- a PLAN by X and by M -/
theorem plan_both {w u : AW} {n : Nat → Nat} {q : Nat → Nat → Nat} {np S L : Nat} {share : Int} (hB : PB w u n q np S L) (hL : L < 2) (hq5 : ∀ i, i < n L → q L i < 56) :
    ((plR u L np share).2.1 = 0 ∧ 60 < (plB L (n L) (q L) share 4 0 61 S w).1 ∧ (plB L (n L) (q L) share 4 0 61 S w).2.1.2.1 19 = w.2.1 19 ∧ (plB L (n L) (q L) share 4 0 61 S w).2.1.2.1 0 6 = w.2.1 0 6 ∧ MPl (loW (th u) L np) (plR u L np share).1) ∨
    ((plR u L np share).2.1 = 1 ∧ (plR u L np share).2.2.1 = (plB L (n L) (q L) share 4 0 61 S w).1 ∧ (plB L (n L) (q L) share 4 0 61 S w).1 ≤ 60 ∧ (plB L (n L) (q L) share 4 0 61 S w).2.1.2.1 0 6 = (n L : Int) ∧ (∀ j, j < n L → (plB L (n L) (q L) share 4 0 61 S w).2.1.2.1 19 j = (plR u L np share).1.2.1 438 j) ∧ MPl (loW (th u) L np) (plR u L np share).1) := by
  have hm : n L = rkF (u.2.1 429) L np := (hB.2.1 L hL).2.2.2.1
  have hO := OO_of (u := u) hm
  have e429 : (loW (th u) L np).2.1 429 = u.2.1 429 := by
    unfold loW
    rw [upI_o _ _ _ (by decide), sR_ne _ _ (by decide)]
    exact upI_o _ _ _ (by decide)
  have hl : ∀ j, j ≠ 400 → j ≠ 436 → (loW (th u) L np).2.1 j = u.2.1 j := fun j a b => by
    unfold loW
    rw [upI_o _ _ _ a, sR_ne _ _ b]
    exact upI_o _ _ _ a
  have hB1 : PB w (loW (th u) L np) n q np S L := PB_v hB (fun j hj => hl j (by omega) (by omega)) (by
    unfold loW
    rw [upI_at]
    show (if (28 : Nat) = 39 then _ else (sR (th u) 436 _).2.1 400 28) = _
    rw [if_neg (by decide), sR_ne _ _ (by decide)]
    rfl)
  have hO1 : OO ((loW (th u) L np).2.1 429) L np (n L) (ooM u L np) := by rw [e429]; exact hO
  have hX := pl_run (share := share) hB1 hL hq5 hO1 4 0 61 S w rfl (by decide) hB.1 (BF_rfl w) (Or.inl ⟨rfl, fun c _ _ k => by
    have := mvF_bd (sR (loW (th u) L np) 437 (dgF (n L) c)) (ooM u L np) (n L)
    have k' : mvF (sR (loW (th u) L np) 437 (dgF (n L) c)) (ooM u L np) (n L) < 0 := k
    omega, rfl, rfl⟩)
  obtain ⟨hM1, hM2⟩ := ms_all (share := share) (N := ((10 ^ n L : Nat) : Int)) hB1 hL hq5 hO1 (10 ^ n L) (Int.le_refl _)
  have er : plR u L np share = plF L np (n L) (ooM u L np) share (loW (th u) L np, 0, 60, 1000000) (10 ^ n L) := by
    unfold plR
    rw [← hm, allF_10 hB.1.2.2.1.1]
  rw [← er] at hM1 hM2
  generalize plR u L np share = s at *
  generalize plB L (n L) (q L) share 4 0 61 S w = y at *
  rcases hM2 with ⟨a1, a2, a3⟩ | ⟨a1, b, a2, a3, a4, a5⟩
  · rcases hX with ⟨b1, b2, b3, b4⟩ | ⟨b, h1, -⟩
    · exact Or.inl ⟨a1, by omega, b3, b4, hM1⟩
    · exact absurd (a3 b h1.1.1 h1.1.2) h1.2.2.1
  · have a2' : BST (RtF (loW (th u) L np) L np (n L) (ooM u L np) share) (MtF (loW (th u) L np) (n L) (ooM u L np)) ((10 ^ n L : Nat) : Int) (fun _ => True) b := BST_c a2 (fun c _ h => ⟨fun _ => trivial, fun _ => h⟩)
    rcases hX with ⟨b1, b2, -⟩ | ⟨d, h1, h2, h3, h4⟩
    · exact absurd (b2 b a2.1.1 a2.1.2 trivial) a2.2.2.1
    · have e := BST_one h1 a2'
      subst e
      have k := RtF_bd (loW (th u) L np) L np (n L) (ooM u L np) share d
      have k2 := h1.2.2.1
      exact Or.inr ⟨a1, by rw [a3, h2], by omega, h4, fun j hj => (h3 j hj).trans (a5 j hj).symm, hM1⟩
/-- a CHECK by X and by M -/
theorem check_both {w u : AW} {n : Nat → Nat} {q : Nat → Nat → Nat} {np S L : Nat} {share a b c : Int} (hB : PB w u n q np S L) (hL : L < 2) (hq5 : ∀ i, i < n L → q L i < 56) (hf : ∀ k, k < n L → 0 ≤ trF a b c k ∧ trF a b c k < 10) :
    (dtb 2 (n L) sq share 60 1 (chW (spW w n q S L) (n L) a b c)).1 = (ckR u L np share a b c).1 := by
  have hm : n L = rkF (u.2.1 429) L np := (hB.2.1 L hL).2.2.2.1
  have hO := OO_of (u := u) hm
  have hl : ∀ j, j ≠ 400 → j ≠ 436 → j ≠ 437 → (ckU u L np a b c).2.1 j = u.2.1 j := fun j h1 h2 h3 => by
    unfold ckU ckW loW
    rw [upI_o _ _ _ h3, upI_o _ _ _ h3, upI_o _ _ _ h3, upI_o _ _ _ h1, sR_ne _ _ h2]
    exact upI_o _ _ _ h1
  have hB1 : PB w (ckU u L np a b c) n q np S L := PB_v hB (fun j hj => hl j (by omega) (by omega) (by omega)) rfl
  have k := PB_try (share := share) (f := trF a b c) hB1 hL hq5 (by rw [hl 429 (by decide) (by decide) (by decide)]; exact hO) (fun k hk => ⟨by
    have := hB.1.2.2.1.1
    rcases (show k = 0 ∨ k = 1 ∨ k = 2 by omega) with rfl | rfl | rfl <;> rfl, hf k hk⟩) 60
  have e1 : chW (spW w n q S L) (n L) a b c = tyA (spW w n q S L) (n L) (trF a b c) 3 := rfl
  have e2 : ∀ i, n L ≤ i → tyA (spW w n q S L) (n L) (trF a b c) i = tyA (spW w n q S L) (n L) (trF a b c) (n L) := by
    intro i
    induction i with
    | zero => intro h; rw [show n L = 0 by omega]
    | succ i ih =>
      intro h
      by_cases e : n L = i + 1
      · rw [e]
      · rw [← ih (by omega)]
        show tryW _ sq (n L) i _ = _
        unfold tryW
        exact if_neg (fun t => by omega)
  rw [e1, e2 3 hB.1.2.2.1.1, k]
  unfold ckR dsM
  rw [← hm]
  rfl
