/-! ===== Lake: the water turns over ===== -/
abbrev R3 : Type := (Nat → Int) × (Nat → Int) × (Nat → Int)
abbrev WR (r : R3) : Nat → Int := WF r.1 r.2.1 r.2.2
def half3 (r : R3) (i : Nat) : R3 := (halfF r.1 i, halfF r.2.1 i, halfF r.2.2 i)
abbrev RB3 (r : R3) : Prop := RB r.1 r.2.1 r.2.2
abbrev sT (w : AW) (L : Nat) (r : R3) : AW := sR3 w L r.1 r.2.1 r.2.2
abbrev gT (w : AW) (L : Nat) : R3 := (w.2.1 (5 + L), w.2.1 (8 + L), w.2.1 (11 + L))
def turnF : Nat → R3 → R3
  | 0, r => r
  | n + 1, r => match flF (WR r) 9 1 with
    | none => r
    | some i => turnF n (half3 r i)
theorem turnF_some {r : R3} {m : Nat} (n : Nat) (h : flF (WR r) 9 1 = some m) : turnF (n + 1) r = turnF n (half3 r m) := by
  show (match flF (WR r) 9 1 with | none => r | some i => turnF n (half3 r i)) = _
  rw [h]
theorem flF_some {W : Nat → Int} : ∀ (n i m : Nat), flF W n i = some m → i ≤ m ∧ m < i + n ∧ W m < W (m - 1) ∧ ∀ j, i ≤ j → j < m → ¬ W j < W (j - 1)
  | 0, i, m, h => by cases h
  | n + 1, i, m, h => by
    unfold flF at h
    split at h
    · cases h
      exact ⟨Nat.le_refl _, by omega, by assumption, fun j h1 h2 => by omega⟩
    · obtain ⟨a, b, c, d⟩ := flF_some n (i + 1) m h
      refine ⟨by omega, by omega, c, fun j h1 h2 => ?_⟩
      by_cases hj : j = i
      · subst hj; assumption
      · exact d j (by omega) h2
theorem flF_skip {W : Nat → Int} : ∀ (n i d : Nat), d ≤ n → (∀ j, i ≤ j → j < i + d → ¬ W j < W (j - 1)) → flF W n i = flF W (n - d) (i + d)
  | n, i, 0, _, _ => by simp
  | 0, i, d + 1, h, _ => by omega
  | n + 1, i, d + 1, h, hj => by
    have := flF_skip n (i + 1) d (by omega) (fun j h1 h2 => hj j (by omega) (by omega))
    show ite _ _ _ = _
    rw [if_neg (hj i (by omega) (by omega)), this, show n + 1 - (d + 1) = n - d by omega, show i + 1 + d = i + (d + 1) by omega]
theorem turnF_fix {r : R3} {m : Nat} (h : flF (WR r) 9 1 = some m) (hf : half3 r m = r) : ∀ n, turnF n r = r
  | 0 => rfl
  | n + 1 => by
    unfold turnF
    rw [h]
    show turnF n (half3 r m) = r
    rw [hf]
    exact turnF_fix h hf n
theorem half3_2 {r : R3} {i : Nat} (h1 : 1 ≤ i) (h9 : i < 10) (h : RB3 r) : half3 (half3 r i) i = half3 r i := by
  have a := h i h9
  have b := h (i - 1) (by omega)
  unfold half3
  simp only
  rw [halfF_2 _ h1 ⟨by omega, by omega⟩, halfF_2 _ h1 ⟨by omega, by omega⟩, halfF_2 _ h1 ⟨by omega, by omega⟩]
theorem halfF_o (g : Nat → Int) {i j : Nat} (h1 : j ≠ i) (h2 : j ≠ i - 1) : halfF g i j = g j := by unfold halfF uI; rw [if_neg h1, if_neg h2]
theorem WR_o (r : R3) {i j : Nat} (h1 : j ≠ i) (h2 : j ≠ i - 1) : WR (half3 r i) j = WR r j := by
  unfold WR WF half3
  simp only [halfF_o _ h1 h2]
theorem turnF_bd : ∀ (n : Nat) (r : R3), RB3 r → RB3 (turnF n r)
  | 0, r, h => h
  | n + 1, r, h => by
    unfold turnF
    split
    · exact h
    · rename_i i hi
      obtain ⟨a, b, -, -⟩ := flF_some _ _ _ hi
      exact turnF_bd n _ (RB_half a (by omega) h)
theorem LN_sT {w : AW} {L : Nat} (hL : L < 3) {r : R3} (hN : LN w L) (hr : RB3 r) : LN (sT w L r) L := by
  obtain ⟨-, h⟩ := hN
  unfold LN sT
  rw [sR3_g _ hL, sR3_t _ hL, sR3_s, sR3_o _ (by omega) (by omega) (by omega)]
  exact ⟨hr, h⟩
theorem gT_sT {w : AW} {L : Nat} (hL : L < 3) (r : R3) : gT (sT w L r) L = r := by
  unfold gT sT
  rw [sR3_g _ hL, sR3_t _ hL, sR3_s]
set_option maxRecDepth 100000 in
set_option maxHeartbeats 4000000 in
theorem c_X2_turnOver (l : Launch) (w : AW) (L : Nat) (hK : LK w L) (hN : LN w L) : HT l yX2_turnOver cX2_turnOver 5 none 3 0 0 w [ar (2 + L)] (rV (sT w L (turnF 200 (gT w L)))) := by
  refine HT.of (by decide) (by intro v hv; simp only [List.mem_cons, List.not_mem_nil, or_false] at hv; rcases hv with rfl <;> rfl) (Nat.le_of_ble_eq_true rfl) ?_
  intro Γ h hQ hRm hnm hl hw0
  obtain ⟨hL3, k2, k5, k8, k11, k14, p0, p1, p2, p3⟩ := id hK
  have loop : ∀ (n k f : Nat) (mx : Option Nat) (x : Option AV) (r : R3), k + n = 200 → 1 ≤ f → f ≤ 9 → RB3 r → turnF n r = turnF 200 (gT w L) → (∀ j, 1 ≤ j → j < f → ¬ WR r j < WR r (j - 1)) → (∀ m, mx = some m → half3 r m = r ∧ m < 10) → GG Γ 6 [some (ar (2 + L)), some (ai (f : Int)), some (ai (flA mx)), some (ai (k : Int)), x] [] (sT w L r) 0 0 := by
    intro n
    induction n with
    | zero =>
      intro k f mx x r hk hf hf9 hr ht hj hm
      refine g_iload_n h dX2_turnOver_6 rfl ?_
      refine g_sipush h dX2_turnOver_7 rfl ?_
      refine g_icmp_ge (tgt := 57) h dX2_turnOver_10 (by decide) (by first | assumption | exact ⟨by omega, by omega⟩) (by first | assumption | exact ⟨by omega, by omega⟩) (fun c10 => ?_) (fun c10 => ?_)
      · refine g_vret h hQ (by decide) (by decide) ?_ dX2_turnOver_57
        exact ⟨rfl, by rw [← ht]; rfl⟩
      · exfalso; omega
    | succ n ih =>
      intro k f mx x r hk hf hf9 hr ht hj hm
      have hKr : LK (sT w L r) L := LK_of rfl rfl hK
      have hNr := LN_sT hL3 hN hr
      have hg := gT_sT (w := w) hL3 r
      have hfl : flF (WR r) (10 - (max 1 (f : Int)).toNat) (max 1 (f : Int)).toNat = flF (WR r) 9 1 := by
        rw [show (max 1 (f : Int)).toNat = f by omega]
        have := flF_skip (W := WR r) 9 1 (f - 1) (by omega) (fun j h1 h2 => hj j h1 (by omega))
        rw [this, show 9 - (f - 1) = 10 - f by omega, show 1 + (f - 1) = f by omega]
      refine g_iload_n h dX2_turnOver_6 rfl ?_
      refine g_sipush h dX2_turnOver_7 rfl ?_
      refine g_icmp_ge (tgt := 57) h dX2_turnOver_10 (by decide) (by first | assumption | exact ⟨by omega, by omega⟩) (by first | assumption | exact ⟨by omega, by omega⟩) (fun c10 => ?_) (fun c10 => ?_)
      · exfalso; omega
      · refine g_aload_n h dX2_turnOver_13 rfl ?_
        refine g_iload_n h dX2_turnOver_14 rfl ?_
        refine g_callV h rfl (ci := 2) [_] (by assumption) (c_X2_firstLighter _ _ L (f : Int) hKr hNr ⟨by omega, by omega⟩) clX2_114 (by decide) rfl in_X2_firstLighter se_X2_firstLighter rfl rfl (by rw [hRm]; decide) (by rw [hRm]; decide) (fun _ => Nat.le_of_ble_eq_true rfl) (by rw [hRm]; decide) (by rw [hRm]; decide) dX2_turnOver_15 (fun r15 w15 hp15 => ?_)
        obtain ⟨rfl, rfl⟩ := hp15
        rw [show (sT w L r).2.1 (5 + L) = r.1 from sR3_g _ hL3 _ _ _, show (sT w L r).2.1 (8 + L) = r.2.1 from sR3_t _ hL3 _ _ _, show (sT w L r).2.1 (11 + L) = r.2.2 from sR3_s _ _ _ _, hfl]
        cases ho : flF (WR r) 9 1 with
        | none =>
          show GG Γ 18 _ [ai (-1)] _ _ _
          refine g_istore h dX2_turnOver_18 (Nat.le_of_ble_eq_true rfl) rfl rfl ?_
          refine g_iload h dX2_turnOver_20 rfl ?_
          refine g_iconst h dX2_turnOver_22 ?_
          refine g_icmp_eq (tgt := 32) h dX2_turnOver_23 (by decide) (by first | assumption | exact ⟨by omega, by omega⟩) (by first | assumption | exact ⟨by omega, by omega⟩) (fun c23 => ?_) (fun c23 => ?_)
          · refine g_vret h hQ (by decide) (by decide) ?_ dX2_turnOver_32
            exact ⟨rfl, by rw [← ht]; unfold turnF; rw [ho]⟩
          · exfalso; omega
        | some m =>
          obtain ⟨ho1, ho2, ho3, ho4⟩ := flF_some _ _ _ ho
          have hmxb : flA mx = -1 ∨ ∃ m2 : Nat, mx = some m2 ∧ flA mx = (m2 : Int) := by cases mx; exact Or.inl rfl; exact Or.inr ⟨_, rfl, rfl⟩
          have hfix : (m : Int) = flA mx → half3 r m = r := by intro q; rcases hmxb with a | ⟨m2, a, b⟩; omega; exact (hm m (by rw [a]; congr 1; omega)).1
          have hmR : R32 (flA mx) := by rcases hmxb with a | ⟨m2, a, b⟩; omega; have := (hm m2 a).2; omega
          show GG Γ 18 _ [ai (m : Int)] _ _ _
          refine g_istore h dX2_turnOver_18 (Nat.le_of_ble_eq_true rfl) rfl rfl ?_
          refine g_iload h dX2_turnOver_20 rfl ?_
          refine g_iconst h dX2_turnOver_22 ?_
          refine g_icmp_eq (tgt := 32) h dX2_turnOver_23 (by decide) (by first | assumption | exact ⟨by omega, by omega⟩) (by first | assumption | exact ⟨by omega, by omega⟩) (fun c23 => ?_) (fun c23 => ?_)
          · refine g_vret h hQ (by decide) (by decide) ?_ dX2_turnOver_32
            (first | (exfalso; omega) | exact ⟨rfl, by rw [← ht]; exact (congrArg (sT w L) (turnF_fix ho (hfix (by omega)) _)).symm⟩)
          · refine g_iload h dX2_turnOver_26 rfl ?_
            refine g_iload_n h dX2_turnOver_28 rfl ?_
            refine g_icmp_ne (tgt := 33) h dX2_turnOver_29 (by decide) (by first | assumption | exact ⟨by omega, by omega⟩) (by first | assumption | exact ⟨by omega, by omega⟩) (fun c29 => ?_) (fun c29 => ?_)
            · refine g_aload_n h dX2_turnOver_33 rfl ?_
              refine g_iload h dX2_turnOver_34 rfl ?_
              refine g_callV h rfl (ci := 2) [_] (by assumption) (c_X2_mixPair _ _ L m hKr (by rw [show (sT w L r).2.1 (5 + L) = r.1 from sR3_g _ hL3 _ _ _, show (sT w L r).2.1 (8 + L) = r.2.1 from sR3_t _ hL3 _ _ _, show (sT w L r).2.1 (11 + L) = r.2.2 from sR3_s _ _ _ _]; exact hr) ho1 (by omega)) clX2_117 (by decide) rfl in_X2_mixPair se_X2_mixPair rfl rfl (by rw [hRm]; decide) (by rw [hRm]; decide) (fun _ => Nat.le_of_ble_eq_true rfl) (by rw [hRm]; decide) (by rw [hRm]; decide) dX2_turnOver_36 (fun r36 w36 hp36 => ?_)
              obtain ⟨rfl, rfl⟩ := hp36
              rw [show (sT w L r).2.1 (5 + L) = r.1 from sR3_g _ hL3 _ _ _, show (sT w L r).2.1 (8 + L) = r.2.1 from sR3_t _ hL3 _ _ _, show (sT w L r).2.1 (11 + L) = r.2.2 from sR3_s _ _ _ _, sR3_3 _ hL3]
              refine g_iload h dX2_turnOver_39 rfl ?_
              refine g_istore_n h dX2_turnOver_41 (Nat.le_of_ble_eq_true rfl) rfl rfl ?_
              refine g_iconst h dX2_turnOver_42 ?_
              refine g_iload h dX2_turnOver_43 rfl ?_
              refine g_iconst h dX2_turnOver_45 ?_
              refine g_isub h dX2_turnOver_46 ?_
              refine g_max h rfl mmaxX2_50 (by first | assumption | exact ⟨by omega, by omega⟩) (by first | assumption | exact ⟨by omega, by omega⟩) (by rw [hRm]; decide) (by rw [hRm]; decide) (fun _ => Nat.le_of_ble_eq_true rfl) (by rw [hRm]; decide) (by rw [hRm]; decide) dX2_turnOver_47 ?_
              refine g_istore_n h dX2_turnOver_50 (Nat.le_of_ble_eq_true rfl) rfl rfl ?_
              refine g_iinc h dX2_turnOver_51 rfl (Nat.le_of_ble_eq_true rfl) rfl rfl ?_
              refine g_goto (tgt := 6) h dX2_turnOver_54 (by decide) ?_
              rw [show max 1 ((m : Int) - 1) = ((max 1 (m - 1) : Nat) : Int) by omega]
              refine ih (k + 1) (max 1 (m - 1)) (some m) _ (half3 r m) (by omega) (by omega) (by omega) (RB_half ho1 (by omega) hr) ?_ ?_ ?_
              · rw [← ht]; exact (turnF_some n ho).symm
              · intro j h1 h2
                rw [WR_o r (by omega) (by omega), WR_o r (by omega) (by omega)]
                exact ho4 j h1 (by omega)
              · intro m2 hm2; cases hm2; exact ⟨half3_2 ho1 (by omega) hr, by omega⟩
            · refine g_vret h hQ (by decide) (by decide) ?_ dX2_turnOver_32
              (first | (exfalso; omega) | exact ⟨rfl, by rw [← ht]; exact (congrArg (sT w L) (turnF_fix ho (hfix (by omega)) _)).symm⟩)
  refine g_iconst h dX2_turnOver_0 ?_
  refine g_istore_n h dX2_turnOver_1 (Nat.le_of_ble_eq_true rfl) rfl rfl ?_
  refine g_iconst h dX2_turnOver_2 ?_
  refine g_istore_n h dX2_turnOver_3 (Nat.le_of_ble_eq_true rfl) rfl rfl ?_
  refine g_iconst h dX2_turnOver_4 ?_
  refine g_istore_n h dX2_turnOver_5 (Nat.le_of_ble_eq_true rfl) rfl rfl ?_
  have h9 := loop 200 0 1 none none (gT w L) (by omega) (by omega) (by omega) (LN_RB hN) rfl (fun j h1 h2 => by omega) (fun m q => by cases q)
  rw [show sT w L (gT w L) = w from sR3_self w L] at h9
  exact h9
