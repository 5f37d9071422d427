/-! ===== M's reader: a rule read ===== -/
theorem RQ_a {u : AW} {T : Nat → Int} {n P nr a : Nat} {cm : List Int} {op tm : Int} (h : RQ u T n P nr a cm op tm) : 0 ≤ u.2.1 P 0 ∧ u.2.1 P 0 < 4 := h.2.2.2.1.2.2.2.2.2.2.2.2
theorem lr1 {k : Int} (h : 0 ≤ k) (a : ¬ srt k = 2) : k ≠ 4 ∧ ¬ (k = 5 ∨ k = 7) := by
  rw [srt2 h] at a
  omega
theorem lr2 {k : Int} (a : ¬ (if k = 6 then (1 : Int) else 0) = 0) : k ≠ 4 ∧ ¬ (k = 5 ∨ k = 7) := by
  have := (lf2 a)
  by_cases c : k = 6
  · omega
  · rw [if_neg c] at a
    exact absurd rfl a
theorem lr3 {k : Int} (h : 0 ≤ k ∧ k ≤ 7) (a : (if k = 6 then (1 : Int) else 0) = 0) (b : srt k = 2) : k = 4 ∨ k = 5 ∨ k = 7 := by
  rw [srt2 h.1] at b
  by_cases c6 : k = 6
  · rw [if_pos c6] at a
    exact absurd a (by decide)
  · omega
def MYr (P : Nat) (w u : AW) : Prop := u.1 = w.1 ∧ u.2.2 = w.2.2 ∧ (∀ j, j ≠ 400 → j ≠ 445 → j ≠ P → j ≠ P + 1 → j ≠ P + 2 → u.2.1 j = w.2.1 j) ∧ (∀ f, ¬ (49 ≤ f ∧ f ≤ 56) → u.2.1 400 f = w.2.1 400 f)
theorem MYr_of {P : Nat} {w u : AW} (h : MY P w u) : MYr P w u := ⟨h.1, h.2.1, h.2.2.1, h.2.2.2.1⟩
theorem MYr_tr {P : Nat} {u v x : AW} (h : MYr P u v) (k : MYr P v x) : MYr P u x := ⟨k.1.trans h.1, k.2.1.trans h.2.1, fun j a b c d e => (k.2.2.1 j a b c d e).trans (h.2.2.1 j a b c d e), fun f a => (k.2.2.2 f a).trans (h.2.2.2 f a)⟩
theorem MYr_P {P : Nat} (u : AW) (f : Nat) (z : Int) (hP : 478 ≤ P) : MYr P u (upI u P f z) := ⟨rfl, rfl, fun j _ _ a _ _ => upI_o _ _ _ a, fun g _ => by rw [upI_o _ _ _ (by omega)]⟩
/-- a rule's object -/
def RO (u : AW) (P : Nat) : Prop := u.1 P = (110, 0) ∧ u.2.2 P 2 = some (P + 1) ∧ u.2.2 P 3 = some (P + 2) ∧ u.1 (P + 1) = (1, 300) ∧ u.1 (P + 2) = (1, 300) ∧ 0 ≤ u.2.1 P 0 ∧ u.2.1 P 0 < 4
theorem RO_RM {u : AW} {P : Nat} (h : RO u P) (h1 : u.2.1 P 1 = 0) : RM u P [] := ⟨h.1, h.2.1, h.2.2.1, h.2.2.2.1, h.2.2.2.2.1, h1, by decide, fun i hi => absurd hi (Nat.not_lt_zero _), h.2.2.2.2.2.1, h.2.2.2.2.2.2⟩
theorem fsW_s (w : AW) {P nr j : Nat} (hP : 478 ≤ P) (hj : j < 478) : (fsW w P nr).1 j = w.1 j := by
  show (alc (alc (alc w P (110, 0)) (P + 1) (1, 300)) (P + 2) (1, 300)).1 j = _
  rw [alc_ne _ _ (by omega), alc_ne _ _ (by omega), alc_ne _ _ (by omega)]
theorem fsW_i (w : AW) {P nr j : Nat} (hP : 478 ≤ P) (hj : j < 478) : (fsW w P nr).2.1 j = w.2.1 j := by
  show (alc (alc (alc w P (110, 0)) (P + 1) (1, 300)) (P + 2) (1, 300)).2.1 j = _
  rw [alc_i _ _ (by omega), alc_i _ _ (by omega), alc_i _ _ (by omega)]
theorem fsW_r (w : AW) {P nr j : Nat} (hP : 478 ≤ P) (hj : j < 478) (h4 : j ≠ 444) : (fsW w P nr).2.2 j = w.2.2 j := by
  show (upP (upP (alc (upP (alc (alc w P (110, 0)) (P + 1) (1, 300)) P 2 (some (P + 1))) (P + 2) (1, 300)) P 3 (some (P + 2))) 444 nr (some P)).2.2 j = _
  rw [upP_o _ _ _ h4, upP_o _ _ _ (by omega), alc_r _ _ (by omega), upP_o _ _ _ (by omega), alc_r _ _ (by omega), alc_r _ _ (by omega)]
theorem fsW_MS {w : AW} {P nr : Nat} (hP : 478 ≤ P) (hM : MS w) : MS (fsW w P nr) := MS_of2 (fun k _ hk => fsW_s w hP hk) (fsW_r w hP (by decide) (by decide)) hM
theorem fsW_RO (w : AW) {P nr : Nat} (hP : 478 ≤ P) : RO (fsW w P nr) P := by
  have a0 : (alc (alc (alc w P (110, 0)) (P + 1) (1, 300)) (P + 2) (1, 300)).1 P = (110, 0) := by rw [alc_ne _ _ (by omega), alc_ne _ _ (by omega)]; exact alc_at _ _ _
  have a1 : (alc (alc (alc w P (110, 0)) (P + 1) (1, 300)) (P + 2) (1, 300)).1 (P + 1) = (1, 300) := by rw [alc_ne _ _ (by omega)]; exact alc_at _ _ _
  have a2 : (alc (alc (alc w P (110, 0)) (P + 1) (1, 300)) (P + 2) (1, 300)).1 (P + 2) = (1, 300) := alc_at _ _ _
  have ai0 : (fsW w P nr).2.1 P 0 = 0 := by
    show (alc (alc (alc w P (110, 0)) (P + 1) (1, 300)) (P + 2) (1, 300)).2.1 P 0 = _
    rw [alc_i _ _ (by omega), alc_i _ _ (by omega)]
    show (if P = P then (fun _ => 0) else w.2.1 P) 0 = (0 : Int)
    rw [if_pos rfl]
  refine ⟨a0, ?_, ?_, a1, a2, by omega, by omega⟩
  · show (upP (upP (alc (upP (alc (alc w P (110, 0)) (P + 1) (1, 300)) P 2 (some (P + 1))) (P + 2) (1, 300)) P 3 (some (P + 2))) 444 nr (some P)).2.2 P 2 = _
    rw [upP_o _ _ _ (by omega), upP_at]
    show (if 2 = 3 then _ else (alc (upP (alc (alc w P (110, 0)) (P + 1) (1, 300)) P 2 (some (P + 1))) (P + 2) (1, 300)).2.2 P 2) = _
    rw [if_neg (by decide), alc_r _ _ (by omega), upP_self]
  · show (upP (upP (alc (upP (alc (alc w P (110, 0)) (P + 1) (1, 300)) P 2 (some (P + 1))) (P + 2) (1, 300)) P 3 (some (P + 2))) 444 nr (some P)).2.2 P 3 = _
    rw [upP_o _ _ _ (by omega), upP_self]
theorem fsW_444 (w : AW) (P nr : Nat) : (fsW w P nr).2.2 444 nr = some P := upP_self _ _ _ _
theorem fsW_RT {w : AW} {T : Nat → Int} {n P nr : Nat} (hP : 478 ≤ P) (h : RT w T n) : RT (fsW w P nr) T n := ⟨fsW_MS hP h.1, by rw [fsW_i w hP (by decide)]; exact h.2.1, h.2.2.1, by rw [fsW_i w hP (by decide)]; exact h.2.2.2.1, h.2.2.2.2⟩
/-- the world with the slot filled -/
def FX (P nr mc : Nat) (w w1 : AW) : Prop := (mc = 0 ∧ w1 = w) ∨ (mc = 3 ∧ w1 = fsW w P nr)
def FH (P nr mc ms : Nat) (w : AW) : Prop := (mc = 0 ∧ ms = 0 ∧ w.2.2 444 nr = some P ∧ RO w P) ∨ (mc = 3 ∧ ms = 604 ∧ w.2.2 444 nr = none ∧ (w.1 P).1 = 0 ∧ (w.1 (P + 1)).1 = 0 ∧ (w.1 (P + 2)).1 = 0)
def PXr (P nr mc : Nat) (w : AW) (R : (Int × Nat) ⊕ XP) : String → Option Nat → AW → Prop := fun E x w' => E = clN 11 ∧ x = some 445 ∧ ∃ w1, FX P nr mc w w1 ∧ MYr P w1 w' ∧ R64 (w'.2.1 400 56) ∧ (0 ≤ w'.2.1 P 0 ∧ w'.2.1 P 0 < 4) ∧ ∃ q : Nat, w'.2.1 445 7 = (q : Int) ∧ R = .inl (w'.2.1 445 6, q)
theorem xA_1 {A k v : Int} (h : k ≠ 4) (h2 : ¬ (k = 5 ∨ k = 7)) : xT (xs0 A) k v = .inl 1 := by
  show xAct (xs0 A) k v = _
  unfold xAct
  rw [if_neg h, if_neg h2]
theorem xA_2 {A k v : Int} (h2 : k = 5 ∨ k = 7) : xT (xs0 A) k v = .inl 2 := by
  show xAct (xs0 A) k v = _
  unfold xAct
  rw [if_neg (by omega), if_pos h2]
theorem xA_4 {A v : Int} : xT (xs0 A) 4 v = .inr ((1, 0, 0), (0, 0, v), ([], [])) := rfl
theorem xI_if {v : Int} : xT ((1, 0, 0), (0, 0, v), ([], [])) 6 105 = .inr ((2, 0, 0), (0, 0, v), ([], [])) := rfl
theorem xI_no {k z v : Int} (h : ¬ (k = 6 ∧ z = 105)) : xT ((1, 0, 0), (0, 0, v), ([], [])) k z = .inl 1 := by
  show xIf _ k z = _
  unfold xIf
  rw [if_neg h]
theorem xB_end {s : XP} {v : Int} (h0 : s.2.1.1 = 0) : xBehind s 0 v = .inr ((6, s.1.2.1, s.1.2.2), s.2.1, pwF 0 s.2.2.1 s.2.2.2) := by
  unfold xBehind
  rw [if_neg (by omega), if_neg (by omega), if_pos ⟨rfl, h0⟩]
theorem xB_bad0 {s : XP} {k v : Int} (h1 : ¬ (k = 6 ∧ v = 38)) (h2 : ¬ (k = 6 ∧ v = 124)) (h3 : k ≠ 0) (h0 : s.2.1.1 = 0) : xBehind s k v = .inl 1 := by
  unfold xBehind
  rw [if_neg (by omega), if_neg (by omega), if_neg (by omega)]
theorem RQ_act {u : AW} {T : Nat → Int} {n P nr a : Nat} {cm : List Int} {op tm z : Int} (hz : 0 ≤ z ∧ z < 4) (h : RQ u T n P nr a cm op tm) : RQ (upI u P 0 z) T n P nr a cm op tm := by
  obtain ⟨h1, h2, ⟨h3, h4, h5, h6⟩, h7, h8, h9⟩ := h
  have e : ∀ j, j < 478 → (upI u P 0 z).2.1 j = u.2.1 j := fun j hj => upI_o _ _ _ (by omega)
  obtain ⟨r1, r2, r3, r4, r5, r6, r7, r8, r9, r10⟩ := h7
  refine ⟨RT_of (u := u) rfl rfl (by rw [e 400 (by decide)]) (e 446 (by decide)) h1, TKs_f (u := u) (fun f hf => by rw [e 400 (by decide)]) h2, ⟨by rw [e 400 (by decide)]; exact h3, h4, h5, h6⟩, ⟨r1, r2, r3, r4, r5, ?_, r7, fun i hi => ?_, ?_, ?_⟩, by rw [e 400 (by decide)]; exact h8, by rw [e 400 (by decide)]; exact h9⟩
  · rw [upI_at]
    show (if 1 = 0 then z else u.2.1 P 1) = _
    rw [if_neg (by decide)]
    exact r6
  · rw [upI_o _ _ _ (by omega), upI_o _ _ _ (by omega)]
    exact r8 i hi
  · rw [upI_self]; exact hz.1
  · rw [upI_self]; exact hz.2
section
variable {u : AW} {T : Nat → Int} {n P nr a : Nat} {cm : List Int} {op tm : Int} {k v : Int} (l : Launch)
theorem t_if (ha : a ≤ n) (h : RQ u T n P nr a cm op tm) (hk : (tokF T n (skF T n a)).1 = k) (hv : (tokF T n (skF T n a)).2.1 = v) : HT l yX12_isWord cX12_isWord 2 (some .boolean) 7 0 0 u [ar 400, ar (21000 + 17)] (rI (if k = 6 ∧ v = 105 then 1 else 0) u) := t_isWord l ha h hk hv 17 (by decide) (by decide)
theorem t_act0 (ha : a ≤ n) (h : RQ u T n P nr a cm op tm) (hk : (tokF T n (skF T n a)).1 = k) (hv : (tokF T n (skF T n a)).2.1 = v) : HT l yX12_isWord cX12_isWord 2 (some .boolean) 7 0 0 u [ar 400, ar (21000 + 21)] (rI (if k = 4 ∧ v = 0 then 1 else 0) u) := t_isWord l ha h hk hv 21 (by decide) (by decide)
theorem t_act1 (ha : a ≤ n) (h : RQ u T n P nr a cm op tm) (hk : (tokF T n (skF T n a)).1 = k) (hv : (tokF T n (skF T n a)).2.1 = v) : HT l yX12_isWord cX12_isWord 2 (some .boolean) 7 0 0 u [ar 400, ar (21000 + 22)] (rI (if k = 4 ∧ v = 1 then 1 else 0) u) := t_isWord l ha h hk hv 22 (by decide) (by decide)
theorem t_act2 (ha : a ≤ n) (h : RQ u T n P nr a cm op tm) (hk : (tokF T n (skF T n a)).1 = k) (hv : (tokF T n (skF T n a)).2.1 = v) : HT l yX12_isWord cX12_isWord 2 (some .boolean) 7 0 0 u [ar 400, ar (21000 + 23)] (rI (if k = 4 ∧ v = 2 then 1 else 0) u) := t_isWord l ha h hk hv 23 (by decide) (by decide)
theorem t_act3 (ha : a ≤ n) (h : RQ u T n P nr a cm op tm) (hk : (tokF T n (skF T n a)).1 = k) (hv : (tokF T n (skF T n a)).2.1 = v) : HT l yX12_isWord cX12_isWord 2 (some .boolean) 7 0 0 u [ar 400, ar (21000 + 24)] (rI (if k = 4 ∧ v = 3 then 1 else 0) u) := t_isWord l ha h hk hv 24 (by decide) (by decide)
theorem tk4 (ha : a ≤ n) (h : RQ u T n P nr a cm op tm) (hk : (tokF T n (skF T n a)).1 = 4) : 0 ≤ (tokF T n (skF T n a)).2.1 ∧ (tokF T n (skF T n a)).2.1 ≤ 3 := by
  have hp : skF T n a ≤ n := by
    have := runF_bd isBb T (n - a) a
    unfold skF
    omega
  exact (tokF_bd (T := T) h.1.2.2.2.2 h.1.2.2.1 hp).1.2.2.1 hk
end
set_option maxRecDepth 100000 in
set_option maxHeartbeats 4000000 in
theorem c_X12_reads (l : Launch) (w : AW) (T : Nat → Int) (n P nr mc ms : Nat) (A : Int) (hT : RT w T n) (h42 : w.2.1 400 42 = (nr : Int)) (hn17 : nr < 17) (hP4 : 478 ≤ P) (hP2 : P + 2 < 20000) (hw56 : R64 (w.2.1 400 56)) (hF : FH P nr mc ms w) : HTX l yX12_reads cX12_reads 2 none 38 mc ms w [ar 400] (fun r w' => r = none ∧ ∃ w1, FX P nr mc w w1 ∧ MYr P w1 w' ∧ R64 (w'.2.1 400 56) ∧ ∃ s6 : XP, xRun T n 301 0 (xs0 A) = .inr s6 ∧ RM w' P s6.2.2.1 ∧ w'.2.1 P 0 = s6.2.1.2.2) (PXr P nr mc w (xRun T n 301 0 (xs0 A))) := by
  refine HTX.of (by decide) (by intro v hv; simp only [List.mem_cons, List.not_mem_nil, or_false] at hv; rcases hv with rfl <;> rfl) (Nat.le_of_ble_eq_true rfl) ?_
  intro Γ h hQ hRm hnm hl hw0
  have hM := hT.1
  have s400x : w.1 400 = (112, 0) := hM.1 400 (by decide) (by decide)
  obtain ⟨R, hR⟩ : ∃ R, xRun T n 301 0 (xs0 A) = R := ⟨_, rfl⟩
  rw [hR] at hQ
  have rest : ∀ (w1 : AW) (k0 n0 : Nat), k0 ≤ mc → n0 ≤ ms → FX P nr mc w w1 → RT w1 T n → w1.2.1 400 42 = (nr : Int) → w1.2.2 444 nr = some P → RO w1 P → R64 (w1.2.1 400 56) → GG Γ 4 [some (ar 400), none] [ar P] w1 k0 n0 := by
    intro w1 k0 n0 hk0 hn0 hfx hT1 h421 hs1 hO h561
    have hM1 := hT1.1
    have s400 : w1.1 400 = (112, 0) := hM1.1 400 (by decide) (by decide)
    have s445 : w1.1 445 = (111, 0) := hM1.1 445 (by decide) (by decide)
    have sP : w1.1 P = (110, 0) := hO.1
    have px : ∀ u, MYr P w1 u → (0 ≤ u.2.1 P 0 ∧ u.2.1 P 0 < 4) → ∀ E x w', TH P u R E x w' → PXr P nr mc w R E x w' := by
      intro u hu ha E x w' ht
      exact ⟨ht.1, ht.2.1, w1, hfx, MYr_tr hu (MYr_of ht.2.2.1), ht.2.2.2.1, by rw [ht.2.2.1.2.2.2.2]; exact ha, ht.2.2.2.2⟩
    have hM4 : MYr P w1 (upI (upI (upI (upI w1 P 1 0) 400 54 0) 400 55 0) 400 49 0) := MYr_tr (MYr_P _ _ _ hP4) (MYr_tr (MYr_of (MY_f _ _ hP4 (by decide))) (MYr_tr (MYr_of (MY_f _ _ hP4 (by decide))) (MYr_of (MY_f _ _ hP4 (by decide)))))
    have e4 : ∀ j, j ≠ 400 → j ≠ P → (upI (upI (upI (upI w1 P 1 0) 400 54 0) 400 55 0) 400 49 0).2.1 j = w1.2.1 j := fun j a b => by rw [upI_o _ _ _ a, upI_o _ _ _ a, upI_o _ _ _ a, upI_o _ _ _ b]
    have f4 : ∀ f, f ≠ 54 → f ≠ 55 → f ≠ 49 → (upI (upI (upI (upI w1 P 1 0) 400 54 0) 400 55 0) 400 49 0).2.1 400 f = w1.2.1 400 f := fun f a b c => by
      rw [upI_at]
      show (if f = 49 then 0 else (upI (upI (upI w1 P 1 0) 400 54 0) 400 55 0).2.1 400 f) = _
      rw [if_neg c, upI_at]
      show (if f = 55 then 0 else (upI (upI w1 P 1 0) 400 54 0).2.1 400 f) = _
      rw [if_neg b, upI_at]
      show (if f = 54 then 0 else (upI w1 P 1 0).2.1 400 f) = _
      rw [if_neg a, upI_o _ _ _ (by omega)]
    have g4 : (upI (upI (upI (upI w1 P 1 0) 400 54 0) 400 55 0) 400 49 0).2.1 P = (upI w1 P 1 0).2.1 P := by rw [upI_o _ _ _ (by omega), upI_o _ _ _ (by omega), upI_o _ _ _ (by omega)]
    have hT4 : RT (upI (upI (upI (upI w1 P 1 0) 400 54 0) 400 55 0) 400 49 0) T n := RT_of (u := w1) rfl rfl (f4 48 (by decide) (by decide) (by decide)) (e4 446 (by decide) (by omega)) hT1
    have h564 : R64 ((upI (upI (upI (upI w1 P 1 0) 400 54 0) 400 55 0) 400 49 0).2.1 400 56) := by rw [f4 56 (by decide) (by decide) (by decide)]; exact h561
    have t4 : (upI (upI (upI (upI w1 P 1 0) 400 54 0) 400 55 0) 400 49 0).1 400 = (112, 0) := s400
    have a49 : (upI (upI (upI (upI w1 P 1 0) 400 54 0) 400 55 0) 400 49 0).2.1 400 49 = ((0 : Nat) : Int) := upI_self _ _ _ _
    have a54 : (upI (upI (upI (upI w1 P 1 0) 400 54 0) 400 55 0) 400 49 0).2.1 400 54 = 0 := rfl
    have a55 : (upI (upI (upI (upI w1 P 1 0) 400 54 0) 400 55 0) 400 49 0).2.1 400 55 = 0 := rfl
    have a42 : (upI (upI (upI (upI w1 P 1 0) 400 54 0) 400 55 0) 400 49 0).2.1 400 42 = (nr : Int) := by rw [f4 42 (by decide) (by decide) (by decide)]; exact h421
    have hRM4 : RM (upI (upI (upI (upI w1 P 1 0) 400 54 0) 400 55 0) 400 49 0) P [] := by
      refine RO_RM ⟨hO.1, hO.2.1, hO.2.2.1, hO.2.2.2.1, hO.2.2.2.2.1, ?_, ?_⟩ ?_
      · rw [g4, upI_at]; exact hO.2.2.2.2.2.1
      · rw [g4, upI_at]; exact hO.2.2.2.2.2.2
      · rw [g4]; exact upI_self _ _ _ _
    have s4 : (upI (upI (upI (upI w1 P 1 0) 400 54 0) 400 55 0) 400 49 0).2.2 444 nr = some P := hs1
    have sh4 : (upI (upI (upI (upI w1 P 1 0) 400 54 0) 400 55 0) 400 49 0).1 = w1.1 := rfl
    refine g_iconst h dX12_reads_4 ?_
    refine g_putIN h flX12_382 rfl rfl (by assumption) dX12_reads_5 ?_
    refine g_aload_n h dX12_reads_8 rfl ?_
    refine g_iconst h dX12_reads_9 ?_
    refine g_putI h flX12_385 rfl rfl (by assumption) dX12_reads_10 ?_
    refine g_aload_n h dX12_reads_13 rfl ?_
    refine g_iconst h dX12_reads_14 ?_
    refine g_putI h flX12_388 rfl rfl (by assumption) dX12_reads_15 ?_
    refine g_aload_n h dX12_reads_18 rfl ?_
    refine g_iconst h dX12_reads_19 ?_
    refine g_putI h flX12_337 rfl rfl (by assumption) dX12_reads_20 ?_
    generalize (upI (upI (upI (upI w1 P 1 0) 400 54 0) 400 55 0) 400 49 0) = u4 at *
    clear e4 f4 g4
    refine g_aload_n h dX12_reads_23 rfl ?_
    refine g_callV h rfl (ci := 12) [] (by assumption) (c_X12_next _ _ T n 0 (by assumption) (Nat.zero_le _) (by assumption) (by assumption)) clX12_391 (by decide) rfl in_X12_next se_X12_next rfl rfl (by rw [hRm]; first | decide | (simp only [clS]; omega)) (by rw [hRm]; first | decide | (simp only [clS]; omega)) (fun _ => Nat.le_of_ble_eq_true rfl) (by rw [hRm]; first | decide | (simp only [clS]; omega)) (by rw [hRm]; first | decide | (simp only [clS]; omega)) dX12_reads_24 (fun r24 w24 hp24 => ?_)
    obtain ⟨rfl, hx, ht⟩ := hp24
    have hM5 : MYr P w1 w24 := MYr_tr hM4 (MYr_of (MY_X hP4 hx))
    have q5 : RQ w24 T n P nr 0 [] 0 0 := ⟨RT_MX hx hT4, ht, ⟨(hx.2.2.2 42 (by unfold fN; omega)).trans a42, hn17, by rw [hx.2.1]; exact s4, hP4⟩, RM_of (u := u4) hx.1 hx.2.1 (hx.2.2.1 P (by omega)) (hx.2.2.1 (P + 1) (by omega)) (hx.2.2.1 (P + 2) (by omega)) hRM4, (hx.2.2.2 54 (by unfold fN; omega)).trans a54, (hx.2.2.2 55 (by unfold fN; omega)).trans a55⟩
    have hZ5 : RZ w24 T n P nr R [] 6 301 0 (xs0 A) [] := ⟨hR.symm, q5, rfl, Nat.le_add_right _ _, Nat.zero_le _, (show (0 : Int) ≤ 0 ∧ (0 : Int) ≤ 8 by decide), (show (0 : Int) ≤ 0 ∧ (0 : Int) ≤ 30 by decide), Nat.zero_le _⟩
    clear hM4 hRM4 hT4 h564 a49 a54 a55 a42 s4
    obtain ⟨k, hk⟩ : ∃ k, (tokF T n (skF T n 0)).1 = k := ⟨_, rfl⟩
    obtain ⟨v, hv⟩ : ∃ v, (tokF T n (skF T n 0)).2.1 = v := ⟨_, rfl⟩
    obtain ⟨hS5, bk, -, g51, -, -, -, r56, -, -, -⟩ := RQ_TF (Nat.zero_le _) q5 hk hv
    have rS := srt_R k
    have s5 : w24.1 400 = (112, 0) := by rw [hM5.1]; exact s400
    have s5b : w24.1 445 = (111, 0) := by rw [hM5.1]; exact s445
    have s5P : w24.1 P = (110, 0) := by rw [hM5.1]; exact sP
    have hMM5 := q5.1.1
    have go : ∀ v' : Int, 0 ≤ v' ∧ v' ≤ 3 → k = 4 → v = v' → GG Γ 105 [some (ar 400), none] [ai v'] w24 k0 n0 := by
      intro v' hv' hk4 hvv
      subst hvv
      have rv' : R32 v := ⟨by omega, by omega⟩
      have q6 := RQ_act (z := v) ⟨hv'.1, by omega⟩ q5
      have s6 : (upI w24 P 0 v).1 400 = (112, 0) := s5
      refine g_istore_n h dX12_reads_105 (Nat.le_of_ble_eq_true rfl) rfl rfl ?_
      refine g_iload_n h dX12_reads_106 rfl ?_
      refine g_iconst h dX12_reads_107 ?_
      refine g_icmp_ne (tgt := 117) h dX12_reads_108 (by decide) (by first | assumption | exact ⟨by omega, by omega⟩) (by first | assumption | exact ⟨by omega, by omega⟩) (fun c108 => ?_) (fun c108 => ?_)
      · refine g_aload_n h dX12_reads_117 rfl ?_
        refine g_callV h rfl (ci := 12) [] (by assumption) (t_fresh _ q5) clX12_378 (by decide) rfl in_X12_fresh se_X12_fresh rfl rfl (by rw [hRm]; first | decide | (simp only [clS]; omega)) (by rw [hRm]; first | decide | (simp only [clS]; omega)) (fun _ => Nat.le_of_ble_eq_true rfl) (by rw [hRm]; first | decide | (simp only [clS]; omega)) (by rw [hRm]; first | decide | (simp only [clS]; omega)) dX12_reads_118 (fun r118 w118 hp118 => ?_)
        obtain ⟨rfl, hw118⟩ := hp118
        rw [hw118]
        refine g_iload_n h dX12_reads_121 rfl ?_
        refine g_putIN h flX12_408 rfl rfl (by assumption) dX12_reads_122 ?_
        refine g_aload_n h dX12_reads_125 rfl ?_
        refine g_callV h rfl (ci := 12) [] (by assumption) (t_next _ (Nat.zero_le _) q6 (by rw [hk, hk4]; decide)) clX12_391 (by decide) rfl in_X12_next se_X12_next rfl rfl (by rw [hRm]; first | decide | (simp only [clS]; omega)) (by rw [hRm]; first | decide | (simp only [clS]; omega)) (fun _ => Nat.le_of_ble_eq_true rfl) (by rw [hRm]; first | decide | (simp only [clS]; omega)) (by rw [hRm]; first | decide | (simp only [clS]; omega)) dX12_reads_126 (fun r126 w126 hp126 => ?_)
        obtain ⟨rfl, hx7, ht7⟩ := hp126
        have hM7 : MYr P w1 w126 := MYr_tr hM5 (MYr_tr (MYr_P _ _ _ hP4) (MYr_of (MY_X hP4 hx7)))
        have ex : xT (xs0 A) 4 v = .inr ((1, 0, 0), (0, 0, v), ([], [])) := xA_4
        have e2 : xT (xs0 A) (tokF T n (skF T n 0)).1 (tokF T n (skF T n 0)).2.1 = xT (xs0 A) 4 v := by rw [hk, hv, hk4]
        have zt := RZ_to (b' := 6) (W' := []) hZ5 (show (0 : Int) ≠ 6 by decide) (by rw [hk, hk4]; decide) (e2.trans ex) (RQ_next q6 hx7 ht7) rfl rfl rfl (Nat.zero_le _) (show (0 : Int) ≤ 0 ∧ (0 : Int) ≤ 8 by decide) (show (0 : Int) ≤ 0 ∧ (0 : Int) ≤ 30 by decide)
        have p7 : w126.2.1 P 0 = v := by rw [hx7.2.2.1 P (by omega)]; exact upI_self _ _ _ _
        have s7 : w126.1 400 = (112, 0) := by rw [hM7.1]; exact s400
        have s7b : w126.1 445 = (111, 0) := by rw [hM7.1]; exact s445
        have q7 := zt.1.2.1
        have za7 := zt.1.2.2.2.2.2.2.2
        have hMM7 := q7.1.1
        clear hZ5 q6
        generalize (tokF T n (skF T n 0)).2.2 = a7 at *
        obtain ⟨k7, hk7⟩ : ∃ k, (tokF T n (skF T n a7)).1 = k := ⟨_, rfl⟩
        obtain ⟨v7, hv7⟩ : ∃ v, (tokF T n (skF T n a7)).2.1 = v := ⟨_, rfl⟩
        obtain ⟨-, -, -, g517, -, -, -, r567, -, -, -⟩ := RQ_TF za7 q7 hk7 hv7
        by_cases hif : k7 = 6 ∧ v7 = 105
        · refine g_aload_n h dX12_reads_129 rfl ?_
          refine g_ldsw h (i := 17) rfl rfl rfl dX12_reads_130 ?_
          refine g_callV h rfl (ci := 12) [_] (by assumption) (t_if _ za7 q7 hk7 hv7) clX12_368 (by decide) rfl in_X12_isWord se_X12_isWord rfl rfl (by rw [hRm]; first | decide | (simp only [clS]; omega)) (by rw [hRm]; first | decide | (simp only [clS]; omega)) (fun _ => Nat.le_of_ble_eq_true rfl) (by rw [hRm]; first | decide | (simp only [clS]; omega)) (by rw [hRm]; first | decide | (simp only [clS]; omega)) dX12_reads_133 (fun r133 w133 hp133 => ?_)
          obtain ⟨rfl, hw133⟩ := hp133
          rw [hw133]
          rw [if_pos hif]
          refine g_if_ne (tgt := 145) h dX12_reads_136 (by decide) (by first | assumption | exact ⟨by omega, by omega⟩) (fun c136 => ?_) (fun c136 => ?_)
          · refine g_aload_n h dX12_reads_145 rfl ?_
            refine g_callV h rfl (ci := 12) [] (by assumption) (t_next _ za7 q7 (by rw [hk7, hif.1]; decide)) clX12_391 (by decide) rfl in_X12_next se_X12_next rfl rfl (by rw [hRm]; first | decide | (simp only [clS]; omega)) (by rw [hRm]; first | decide | (simp only [clS]; omega)) (fun _ => Nat.le_of_ble_eq_true rfl) (by rw [hRm]; first | decide | (simp only [clS]; omega)) (by rw [hRm]; first | decide | (simp only [clS]; omega)) dX12_reads_146 (fun r146 w146 hp146 => ?_)
            obtain ⟨rfl, hx8, ht8⟩ := hp146
            have hM8 : MYr P w1 w146 := MYr_tr hM7 (MYr_of (MY_X hP4 hx8))
            have ex8 : xT ((1, 0, 0), (0, 0, v), ([], [])) 6 105 = .inr ((2, 0, 0), (0, 0, v), ([], [])) := xI_if
            have e8 : xT ((1, 0, 0), (0, 0, v), ([], [])) (tokF T n (skF T n a7)).1 (tokF T n (skF T n a7)).2.1 = xT ((1, 0, 0), (0, 0, v), ([], [])) 6 105 := by rw [hk7, hv7, hif.1, hif.2]
            have z8 := RZ_to (b' := 6) (W' := []) zt.1 (show (1 : Int) ≠ 6 by decide) (by rw [hk7, hif.1]; decide) (e8.trans ex8) (RQ_next q7 hx8 ht8) rfl rfl rfl (Nat.zero_le _) (show (0 : Int) ≤ 0 ∧ (0 : Int) ≤ 8 by decide) (show (0 : Int) ≤ 0 ∧ (0 : Int) ≤ 30 by decide)
            have p8 : w146.2.1 P 0 = v := by rw [hx8.2.2.1 P (by omega)]; exact p7
            have s8 : w146.1 400 = (112, 0) := by rw [hM8.1]; exact s400
            refine g_aload_n h dX12_reads_149 rfl ?_
            refine g_callVq h rfl (ci := 12) [] (by assumption) (k_all3 _ 8 _ T n P nr R [] _ _ _ _ z8.1 rfl rfl (fun _ _ e => by cases e) rfl) clX12_411 (by decide) rfl in_X12_readAny se_X12_readAny rfl rfl (by rw [hRm]; first | decide | omega | (simp only [clS]; omega)) (by rw [hRm]; first | decide | omega | (simp only [clS]; omega)) (fun _ => Nat.le_of_ble_eq_true rfl) (by rw [hRm]; first | decide | omega | (simp only [clS]; omega)) (by rw [hRm]; first | decide | omega | (simp only [clS]; omega)) dX12_reads_150 (fun r9 w9 hp9 => ?_) (fun E9 x9 w9 hx9 => g_xout hQ (by omega) (by omega) (px w146 hM8 (by rw [p8]; omega) _ _ _ hx9))
            obtain ⟨rfl, hMYb, D3, a3, s3, cm3, hZ3, hD3, hB3, ho3, ha3, hn38, hn124⟩ := hp9
            have hM9 : MYr P w1 w9 := MYr_tr hM8 (MYr_of hMYb)
            have p9 : w9.2.1 P 0 = v := hMYb.2.2.2.2.trans p8
            have s9 : w9.1 400 = (112, 0) := by rw [hM9.1]; exact s400
            have s9b : w9.1 445 = (111, 0) := by rw [hM9.1]; exact s445
            have yQ := hZ3.2.1
            have ya := hZ3.2.2.2.2.2.2.2
            have hMM9 := yQ.1.1
            obtain ⟨k9, yk⟩ : ∃ k, (tokF T n (skF T n a3)).1 = k := ⟨_, rfl⟩
            obtain ⟨v9, yv⟩ : ∃ v, (tokF T n (skF T n a3)).2.1 = v := ⟨_, rfl⟩
            obtain ⟨hS9, bk9, -, y51, -, -, -, y56, -, -, -⟩ := RQ_TF ya yQ yk yv
            have rS9 := srt_R k9
            have hxb := xT_behind yk yv hB3
            have hs36 : s3.1.1 ≠ 6 := by rcases hB3.2 with e | ⟨e, -⟩ <;> omega
            unfold noW at hn38 hn124
            rw [yk, yv] at hn38 hn124
            have ho30 : s3.2.1.1 = 0 := ho3
            have ha30 : s3.2.1.2.2 = v := ha3
            refine g_aload_n h dX12_reads_153 rfl ?_
            refine g_getI h flX12_343 rfl (by assumption) dX12_reads_154 ?_
            rw [hS9]
            refine g_iconst h dX12_reads_157 ?_
            refine g_icmp_eq (tgt := 167) h dX12_reads_158 (by decide) (by first | assumption | exact ⟨by omega, by omega⟩) (by first | assumption | exact ⟨by omega, by omega⟩) (fun c158 => ?_) (fun c158 => ?_)
            · refine g_xret hQ h hRm fun Γ h hQ hRm => ?_
              refine g_vret h hQ (by first | decide | omega | (simp only [clS]; omega)) (by first | decide | omega | (simp only [clS]; omega)) ?_ dX12_reads_167
              have hk90 : k9 = 0 := srt1.1 (by assumption)
              have hD3 : 301 ≤ D3 + skF T n a3 := hZ3.2.2.2.1
              have hpl := RZ_p hZ3
              have hn3 := yQ.1.2.2.1
              obtain ⟨D', rfl⟩ : ∃ D', D3 = D' + 1 := ⟨D3 - 1, by omega⟩
              have hpw : pwF 0 s3.2.2.1 s3.2.2.2 = (cm3, []) := by rw [pw_dn hZ3.2.2.1 (by decide : (0 : Int) ≤ 1)]; rfl
              have hRe : R = .inr ((6, s3.1.2.1, s3.1.2.2), s3.2.1, (cm3, [])) := by
                rw [hZ3.1, xRun_r hs36 (by rw [yk, yv, hxb, hk90]; exact xB_end ho30), hpw]
                exact xRun_6 rfl _
              exact ⟨rfl, w1, hfx, hM9, y56, _, hRe, yQ.2.2.2.1, by rw [p9]; exact ha30.symm⟩
            · refine g_aload_n h dX12_reads_161 rfl ?_
              refine g_iconst h dX12_reads_162 ?_
              refine g_callV h rfl (ci := 12) [_] (by assumption) (c_X12_stop _ _ _ hMM9) clX12_397 (by decide) rfl in_X12_stop se_X12_stop rfl rfl (by rw [hRm]; first | decide | (simp only [clS]; omega)) (by rw [hRm]; first | decide | (simp only [clS]; omega)) (fun _ => Nat.le_of_ble_eq_true rfl) (by rw [hRm]; first | decide | (simp only [clS]; omega)) (by rw [hRm]; first | decide | (simp only [clS]; omega)) dX12_reads_163 (fun r163 w163 hp163 => ?_)
              obtain ⟨rfl, hw163⟩ := hp163
              rw [hw163]
              refine g_athrow h (ci := 11) s9b (by decide) dX12_reads_166 ?_
              refine g_xout hQ (by omega) (by omega) (px w9 hM9 (RQ_a yQ) _ _ _ (TH_stop hP4 (MY_rfl _ _) y51 y56 (RZ_bad hZ3 hs36 (by rw [yk, yv, hxb]; exact xB_bad0 hn38 hn124 (fun e => by have := srt1.2 e; contradiction) ho30))))
          · exact absurd c136 (by decide)
        refine g_aload_n h dX12_reads_129 rfl ?_
        refine g_ldsw h (i := 17) rfl rfl rfl dX12_reads_130 ?_
        refine g_callV h rfl (ci := 12) [_] (by assumption) (t_if _ za7 q7 hk7 hv7) clX12_368 (by decide) rfl in_X12_isWord se_X12_isWord rfl rfl (by rw [hRm]; first | decide | (simp only [clS]; omega)) (by rw [hRm]; first | decide | (simp only [clS]; omega)) (fun _ => Nat.le_of_ble_eq_true rfl) (by rw [hRm]; first | decide | (simp only [clS]; omega)) (by rw [hRm]; first | decide | (simp only [clS]; omega)) dX12_reads_133 (fun r133 w133 hp133 => ?_)
        obtain ⟨rfl, hw133⟩ := hp133
        rw [hw133]
        rw [if_neg hif]
        refine g_if_ne (tgt := 145) h dX12_reads_136 (by decide) (by first | assumption | exact ⟨by omega, by omega⟩) (fun c136 => ?_) (fun c136 => ?_)
        · exact absurd c136 (by decide)
        · refine g_aload_n h dX12_reads_139 rfl ?_
          refine g_iconst h dX12_reads_140 ?_
          refine g_callV h rfl (ci := 12) [_] (by assumption) (c_X12_stop _ _ _ hMM7) clX12_397 (by decide) rfl in_X12_stop se_X12_stop rfl rfl (by rw [hRm]; first | decide | (simp only [clS]; omega)) (by rw [hRm]; first | decide | (simp only [clS]; omega)) (fun _ => Nat.le_of_ble_eq_true rfl) (by rw [hRm]; first | decide | (simp only [clS]; omega)) (by rw [hRm]; first | decide | (simp only [clS]; omega)) dX12_reads_141 (fun r141 w141 hp141 => ?_)
          obtain ⟨rfl, hw141⟩ := hp141
          rw [hw141]
          refine g_athrow h (ci := 11) s7b (by decide) dX12_reads_144 ?_
          refine g_xout hQ (by omega) (by omega) (px w126 hM7 (RQ_a q7) _ _ _ (TH_stop hP4 (MY_rfl _ _) g517 r567 (RZ_bad zt.1 (show (1 : Int) ≠ 6 by decide) (by rw [hk7, hv7]; exact xI_no hif))))
      · exact absurd c108 (by omega)
    refine g_aload_n h dX12_reads_27 rfl ?_
    refine g_getI h flX12_343 rfl (by assumption) dX12_reads_28 ?_
    rw [hS5]
    refine g_iconst h dX12_reads_31 ?_
    refine g_icmp_ne (tgt := 42) h dX12_reads_32 (by decide) (by first | assumption | exact ⟨by omega, by omega⟩) (by first | assumption | exact ⟨by omega, by omega⟩) (fun c32 => ?_) (fun c32 => ?_)
    · refine g_aload_n h dX12_reads_42 rfl ?_
      refine g_iconst h dX12_reads_43 ?_
      refine g_callV h rfl (ci := 12) [_] (by assumption) (c_X12_stop _ _ _ hMM5) clX12_397 (by decide) rfl in_X12_stop se_X12_stop rfl rfl (by rw [hRm]; first | decide | (simp only [clS]; omega)) (by rw [hRm]; first | decide | (simp only [clS]; omega)) (fun _ => Nat.le_of_ble_eq_true rfl) (by rw [hRm]; first | decide | (simp only [clS]; omega)) (by rw [hRm]; first | decide | (simp only [clS]; omega)) dX12_reads_44 (fun r44 w44 hp44 => ?_)
      obtain ⟨rfl, hw44⟩ := hp44
      rw [hw44]
      have hf : k ≠ 4 ∧ ¬ (k = 5 ∨ k = 7) := by
        first
        | exact lr1 bk.1 (by assumption)
        | exact lr2 (by assumption)
      refine g_athrow h (ci := 11) s5b (by decide) dX12_reads_47 ?_
      refine g_xout hQ (by omega) (by omega) (px w24 hM5 (RQ_a q5) _ _ _ (TH_stop hP4 (MY_rfl _ _) g51 r56 (RZ_bad hZ5 (show (0 : Int) ≠ 6 by decide) (by rw [hk, hv]; exact xA_1 hf.1 hf.2))))
    · refine g_aload_n h dX12_reads_35 rfl ?_
      refine g_callV h rfl (ci := 12) [] (by assumption) (t_isKept _ (Nat.zero_le _) q5 hk hv) clX12_394 (by decide) rfl in_X12_isKept se_X12_isKept rfl rfl (by rw [hRm]; first | decide | (simp only [clS]; omega)) (by rw [hRm]; first | decide | (simp only [clS]; omega)) (fun _ => Nat.le_of_ble_eq_true rfl) (by rw [hRm]; first | decide | (simp only [clS]; omega)) (by rw [hRm]; first | decide | (simp only [clS]; omega)) dX12_reads_36 (fun r36 w36 hp36 => ?_)
      obtain ⟨rfl, hw36⟩ := hp36
      rw [hw36]
      refine g_if_eq (tgt := 48) h dX12_reads_39 (by decide) (by first | assumption | exact ⟨by omega, by omega⟩) (fun c39 => ?_) (fun c39 => ?_)
      · have hkk : k = 4 ∨ k = 5 ∨ k = 7 := lr3 bk (by assumption) (by assumption)
        by_cases hk4 : k = 4
        · have hv4 : 0 ≤ v ∧ v ≤ 3 := by
            have := tk4 (Nat.zero_le _) q5 (by rw [hk]; exact hk4)
            rw [hv] at this
            exact this
          by_cases hv50 : v = 0
          · refine g_aload_n h dX12_reads_48 rfl ?_
            refine g_ldsw h (i := 21) rfl rfl rfl dX12_reads_49 ?_
            refine g_callV h rfl (ci := 12) [_] (by assumption) (t_act0 _ (Nat.zero_le _) q5 hk hv) clX12_368 (by decide) rfl in_X12_isWord se_X12_isWord rfl rfl (by rw [hRm]; first | decide | (simp only [clS]; omega)) (by rw [hRm]; first | decide | (simp only [clS]; omega)) (fun _ => Nat.le_of_ble_eq_true rfl) (by rw [hRm]; first | decide | (simp only [clS]; omega)) (by rw [hRm]; first | decide | (simp only [clS]; omega)) dX12_reads_52 (fun r52 w52 hp52 => ?_)
            obtain ⟨rfl, hw52⟩ := hp52
            rw [hw52]
            rw [if_pos (by omega)]
            refine g_if_eq (tgt := 62) h dX12_reads_55 (by decide) (by first | assumption | exact ⟨by omega, by omega⟩) (fun c55 => ?_) (fun c55 => ?_)
            · exact absurd c55 (by decide)
            · refine g_iconst h dX12_reads_58 ?_
              refine g_goto (tgt := 105) h dX12_reads_59 (by decide) ?_
              exact go 0 (by decide) hk4 hv50
          by_cases hv51 : v = 1
          · refine g_aload_n h dX12_reads_48 rfl ?_
            refine g_ldsw h (i := 21) rfl rfl rfl dX12_reads_49 ?_
            refine g_callV h rfl (ci := 12) [_] (by assumption) (t_act0 _ (Nat.zero_le _) q5 hk hv) clX12_368 (by decide) rfl in_X12_isWord se_X12_isWord rfl rfl (by rw [hRm]; first | decide | (simp only [clS]; omega)) (by rw [hRm]; first | decide | (simp only [clS]; omega)) (fun _ => Nat.le_of_ble_eq_true rfl) (by rw [hRm]; first | decide | (simp only [clS]; omega)) (by rw [hRm]; first | decide | (simp only [clS]; omega)) dX12_reads_52 (fun r52 w52 hp52 => ?_)
            obtain ⟨rfl, hw52⟩ := hp52
            rw [hw52]
            rw [if_neg (by omega)]
            refine g_if_eq (tgt := 62) h dX12_reads_55 (by decide) (by first | assumption | exact ⟨by omega, by omega⟩) (fun c55 => ?_) (fun c55 => ?_)
            · refine g_aload_n h dX12_reads_62 rfl ?_
              refine g_ldsw h (i := 22) rfl rfl rfl dX12_reads_63 ?_
              refine g_callV h rfl (ci := 12) [_] (by assumption) (t_act1 _ (Nat.zero_le _) q5 hk hv) clX12_368 (by decide) rfl in_X12_isWord se_X12_isWord rfl rfl (by rw [hRm]; first | decide | (simp only [clS]; omega)) (by rw [hRm]; first | decide | (simp only [clS]; omega)) (fun _ => Nat.le_of_ble_eq_true rfl) (by rw [hRm]; first | decide | (simp only [clS]; omega)) (by rw [hRm]; first | decide | (simp only [clS]; omega)) dX12_reads_66 (fun r66 w66 hp66 => ?_)
              obtain ⟨rfl, hw66⟩ := hp66
              rw [hw66]
              rw [if_pos (by omega)]
              refine g_if_eq (tgt := 76) h dX12_reads_69 (by decide) (by first | assumption | exact ⟨by omega, by omega⟩) (fun c69 => ?_) (fun c69 => ?_)
              · exact absurd c69 (by decide)
              · refine g_iconst h dX12_reads_72 ?_
                refine g_goto (tgt := 105) h dX12_reads_73 (by decide) ?_
                exact go 1 (by decide) hk4 hv51
            · exact absurd c55 (by decide)
          by_cases hv52 : v = 2
          · refine g_aload_n h dX12_reads_48 rfl ?_
            refine g_ldsw h (i := 21) rfl rfl rfl dX12_reads_49 ?_
            refine g_callV h rfl (ci := 12) [_] (by assumption) (t_act0 _ (Nat.zero_le _) q5 hk hv) clX12_368 (by decide) rfl in_X12_isWord se_X12_isWord rfl rfl (by rw [hRm]; first | decide | (simp only [clS]; omega)) (by rw [hRm]; first | decide | (simp only [clS]; omega)) (fun _ => Nat.le_of_ble_eq_true rfl) (by rw [hRm]; first | decide | (simp only [clS]; omega)) (by rw [hRm]; first | decide | (simp only [clS]; omega)) dX12_reads_52 (fun r52 w52 hp52 => ?_)
            obtain ⟨rfl, hw52⟩ := hp52
            rw [hw52]
            rw [if_neg (by omega)]
            refine g_if_eq (tgt := 62) h dX12_reads_55 (by decide) (by first | assumption | exact ⟨by omega, by omega⟩) (fun c55 => ?_) (fun c55 => ?_)
            · refine g_aload_n h dX12_reads_62 rfl ?_
              refine g_ldsw h (i := 22) rfl rfl rfl dX12_reads_63 ?_
              refine g_callV h rfl (ci := 12) [_] (by assumption) (t_act1 _ (Nat.zero_le _) q5 hk hv) clX12_368 (by decide) rfl in_X12_isWord se_X12_isWord rfl rfl (by rw [hRm]; first | decide | (simp only [clS]; omega)) (by rw [hRm]; first | decide | (simp only [clS]; omega)) (fun _ => Nat.le_of_ble_eq_true rfl) (by rw [hRm]; first | decide | (simp only [clS]; omega)) (by rw [hRm]; first | decide | (simp only [clS]; omega)) dX12_reads_66 (fun r66 w66 hp66 => ?_)
              obtain ⟨rfl, hw66⟩ := hp66
              rw [hw66]
              rw [if_neg (by omega)]
              refine g_if_eq (tgt := 76) h dX12_reads_69 (by decide) (by first | assumption | exact ⟨by omega, by omega⟩) (fun c69 => ?_) (fun c69 => ?_)
              · refine g_aload_n h dX12_reads_76 rfl ?_
                refine g_ldsw h (i := 23) rfl rfl rfl dX12_reads_77 ?_
                refine g_callV h rfl (ci := 12) [_] (by assumption) (t_act2 _ (Nat.zero_le _) q5 hk hv) clX12_368 (by decide) rfl in_X12_isWord se_X12_isWord rfl rfl (by rw [hRm]; first | decide | (simp only [clS]; omega)) (by rw [hRm]; first | decide | (simp only [clS]; omega)) (fun _ => Nat.le_of_ble_eq_true rfl) (by rw [hRm]; first | decide | (simp only [clS]; omega)) (by rw [hRm]; first | decide | (simp only [clS]; omega)) dX12_reads_80 (fun r80 w80 hp80 => ?_)
                obtain ⟨rfl, hw80⟩ := hp80
                rw [hw80]
                rw [if_pos (by omega)]
                refine g_if_eq (tgt := 90) h dX12_reads_83 (by decide) (by first | assumption | exact ⟨by omega, by omega⟩) (fun c83 => ?_) (fun c83 => ?_)
                · exact absurd c83 (by decide)
                · refine g_iconst h dX12_reads_86 ?_
                  refine g_goto (tgt := 105) h dX12_reads_87 (by decide) ?_
                  exact go 2 (by decide) hk4 hv52
              · exact absurd c69 (by decide)
            · exact absurd c55 (by decide)
          by_cases hv53 : v = 3
          · refine g_aload_n h dX12_reads_48 rfl ?_
            refine g_ldsw h (i := 21) rfl rfl rfl dX12_reads_49 ?_
            refine g_callV h rfl (ci := 12) [_] (by assumption) (t_act0 _ (Nat.zero_le _) q5 hk hv) clX12_368 (by decide) rfl in_X12_isWord se_X12_isWord rfl rfl (by rw [hRm]; first | decide | (simp only [clS]; omega)) (by rw [hRm]; first | decide | (simp only [clS]; omega)) (fun _ => Nat.le_of_ble_eq_true rfl) (by rw [hRm]; first | decide | (simp only [clS]; omega)) (by rw [hRm]; first | decide | (simp only [clS]; omega)) dX12_reads_52 (fun r52 w52 hp52 => ?_)
            obtain ⟨rfl, hw52⟩ := hp52
            rw [hw52]
            rw [if_neg (by omega)]
            refine g_if_eq (tgt := 62) h dX12_reads_55 (by decide) (by first | assumption | exact ⟨by omega, by omega⟩) (fun c55 => ?_) (fun c55 => ?_)
            · refine g_aload_n h dX12_reads_62 rfl ?_
              refine g_ldsw h (i := 22) rfl rfl rfl dX12_reads_63 ?_
              refine g_callV h rfl (ci := 12) [_] (by assumption) (t_act1 _ (Nat.zero_le _) q5 hk hv) clX12_368 (by decide) rfl in_X12_isWord se_X12_isWord rfl rfl (by rw [hRm]; first | decide | (simp only [clS]; omega)) (by rw [hRm]; first | decide | (simp only [clS]; omega)) (fun _ => Nat.le_of_ble_eq_true rfl) (by rw [hRm]; first | decide | (simp only [clS]; omega)) (by rw [hRm]; first | decide | (simp only [clS]; omega)) dX12_reads_66 (fun r66 w66 hp66 => ?_)
              obtain ⟨rfl, hw66⟩ := hp66
              rw [hw66]
              rw [if_neg (by omega)]
              refine g_if_eq (tgt := 76) h dX12_reads_69 (by decide) (by first | assumption | exact ⟨by omega, by omega⟩) (fun c69 => ?_) (fun c69 => ?_)
              · refine g_aload_n h dX12_reads_76 rfl ?_
                refine g_ldsw h (i := 23) rfl rfl rfl dX12_reads_77 ?_
                refine g_callV h rfl (ci := 12) [_] (by assumption) (t_act2 _ (Nat.zero_le _) q5 hk hv) clX12_368 (by decide) rfl in_X12_isWord se_X12_isWord rfl rfl (by rw [hRm]; first | decide | (simp only [clS]; omega)) (by rw [hRm]; first | decide | (simp only [clS]; omega)) (fun _ => Nat.le_of_ble_eq_true rfl) (by rw [hRm]; first | decide | (simp only [clS]; omega)) (by rw [hRm]; first | decide | (simp only [clS]; omega)) dX12_reads_80 (fun r80 w80 hp80 => ?_)
                obtain ⟨rfl, hw80⟩ := hp80
                rw [hw80]
                rw [if_neg (by omega)]
                refine g_if_eq (tgt := 90) h dX12_reads_83 (by decide) (by first | assumption | exact ⟨by omega, by omega⟩) (fun c83 => ?_) (fun c83 => ?_)
                · refine g_aload_n h dX12_reads_90 rfl ?_
                  refine g_ldsw h (i := 24) rfl rfl rfl dX12_reads_91 ?_
                  refine g_callV h rfl (ci := 12) [_] (by assumption) (t_act3 _ (Nat.zero_le _) q5 hk hv) clX12_368 (by decide) rfl in_X12_isWord se_X12_isWord rfl rfl (by rw [hRm]; first | decide | (simp only [clS]; omega)) (by rw [hRm]; first | decide | (simp only [clS]; omega)) (fun _ => Nat.le_of_ble_eq_true rfl) (by rw [hRm]; first | decide | (simp only [clS]; omega)) (by rw [hRm]; first | decide | (simp only [clS]; omega)) dX12_reads_94 (fun r94 w94 hp94 => ?_)
                  obtain ⟨rfl, hw94⟩ := hp94
                  rw [hw94]
                  rw [if_pos (by omega)]
                  refine g_if_eq (tgt := 104) h dX12_reads_97 (by decide) (by first | assumption | exact ⟨by omega, by omega⟩) (fun c97 => ?_) (fun c97 => ?_)
                  · exact absurd c97 (by decide)
                  · refine g_iconst h dX12_reads_100 ?_
                    refine g_goto (tgt := 105) h dX12_reads_101 (by decide) ?_
                    exact go 3 (by decide) hk4 hv53
                · exact absurd c83 (by decide)
              · exact absurd c69 (by decide)
            · exact absurd c55 (by decide)
          exfalso; omega
        refine g_aload_n h dX12_reads_48 rfl ?_
        refine g_ldsw h (i := 21) rfl rfl rfl dX12_reads_49 ?_
        refine g_callV h rfl (ci := 12) [_] (by assumption) (t_act0 _ (Nat.zero_le _) q5 hk hv) clX12_368 (by decide) rfl in_X12_isWord se_X12_isWord rfl rfl (by rw [hRm]; first | decide | (simp only [clS]; omega)) (by rw [hRm]; first | decide | (simp only [clS]; omega)) (fun _ => Nat.le_of_ble_eq_true rfl) (by rw [hRm]; first | decide | (simp only [clS]; omega)) (by rw [hRm]; first | decide | (simp only [clS]; omega)) dX12_reads_52 (fun r52 w52 hp52 => ?_)
        obtain ⟨rfl, hw52⟩ := hp52
        rw [hw52]
        rw [if_neg (by omega)]
        refine g_if_eq (tgt := 62) h dX12_reads_55 (by decide) (by first | assumption | exact ⟨by omega, by omega⟩) (fun c55 => ?_) (fun c55 => ?_)
        · refine g_aload_n h dX12_reads_62 rfl ?_
          refine g_ldsw h (i := 22) rfl rfl rfl dX12_reads_63 ?_
          refine g_callV h rfl (ci := 12) [_] (by assumption) (t_act1 _ (Nat.zero_le _) q5 hk hv) clX12_368 (by decide) rfl in_X12_isWord se_X12_isWord rfl rfl (by rw [hRm]; first | decide | (simp only [clS]; omega)) (by rw [hRm]; first | decide | (simp only [clS]; omega)) (fun _ => Nat.le_of_ble_eq_true rfl) (by rw [hRm]; first | decide | (simp only [clS]; omega)) (by rw [hRm]; first | decide | (simp only [clS]; omega)) dX12_reads_66 (fun r66 w66 hp66 => ?_)
          obtain ⟨rfl, hw66⟩ := hp66
          rw [hw66]
          rw [if_neg (by omega)]
          refine g_if_eq (tgt := 76) h dX12_reads_69 (by decide) (by first | assumption | exact ⟨by omega, by omega⟩) (fun c69 => ?_) (fun c69 => ?_)
          · refine g_aload_n h dX12_reads_76 rfl ?_
            refine g_ldsw h (i := 23) rfl rfl rfl dX12_reads_77 ?_
            refine g_callV h rfl (ci := 12) [_] (by assumption) (t_act2 _ (Nat.zero_le _) q5 hk hv) clX12_368 (by decide) rfl in_X12_isWord se_X12_isWord rfl rfl (by rw [hRm]; first | decide | (simp only [clS]; omega)) (by rw [hRm]; first | decide | (simp only [clS]; omega)) (fun _ => Nat.le_of_ble_eq_true rfl) (by rw [hRm]; first | decide | (simp only [clS]; omega)) (by rw [hRm]; first | decide | (simp only [clS]; omega)) dX12_reads_80 (fun r80 w80 hp80 => ?_)
            obtain ⟨rfl, hw80⟩ := hp80
            rw [hw80]
            rw [if_neg (by omega)]
            refine g_if_eq (tgt := 90) h dX12_reads_83 (by decide) (by first | assumption | exact ⟨by omega, by omega⟩) (fun c83 => ?_) (fun c83 => ?_)
            · refine g_aload_n h dX12_reads_90 rfl ?_
              refine g_ldsw h (i := 24) rfl rfl rfl dX12_reads_91 ?_
              refine g_callV h rfl (ci := 12) [_] (by assumption) (t_act3 _ (Nat.zero_le _) q5 hk hv) clX12_368 (by decide) rfl in_X12_isWord se_X12_isWord rfl rfl (by rw [hRm]; first | decide | (simp only [clS]; omega)) (by rw [hRm]; first | decide | (simp only [clS]; omega)) (fun _ => Nat.le_of_ble_eq_true rfl) (by rw [hRm]; first | decide | (simp only [clS]; omega)) (by rw [hRm]; first | decide | (simp only [clS]; omega)) dX12_reads_94 (fun r94 w94 hp94 => ?_)
              obtain ⟨rfl, hw94⟩ := hp94
              rw [hw94]
              rw [if_neg (by omega)]
              refine g_if_eq (tgt := 104) h dX12_reads_97 (by decide) (by first | assumption | exact ⟨by omega, by omega⟩) (fun c97 => ?_) (fun c97 => ?_)
              · refine g_iconst h dX12_reads_104 ?_
                refine g_istore_n h dX12_reads_105 (Nat.le_of_ble_eq_true rfl) rfl rfl ?_
                refine g_iload_n h dX12_reads_106 rfl ?_
                refine g_iconst h dX12_reads_107 ?_
                refine g_icmp_ne (tgt := 117) h dX12_reads_108 (by decide) (by first | assumption | exact ⟨by omega, by omega⟩) (by first | assumption | exact ⟨by omega, by omega⟩) (fun c108 => ?_) (fun c108 => ?_)
                · exact absurd c108 (by decide)
                · refine g_aload_n h dX12_reads_111 rfl ?_
                  refine g_iconst h dX12_reads_112 ?_
                  refine g_callV h rfl (ci := 12) [_] (by assumption) (c_X12_stop _ _ _ hMM5) clX12_397 (by decide) rfl in_X12_stop se_X12_stop rfl rfl (by rw [hRm]; first | decide | (simp only [clS]; omega)) (by rw [hRm]; first | decide | (simp only [clS]; omega)) (fun _ => Nat.le_of_ble_eq_true rfl) (by rw [hRm]; first | decide | (simp only [clS]; omega)) (by rw [hRm]; first | decide | (simp only [clS]; omega)) dX12_reads_113 (fun r113 w113 hp113 => ?_)
                  obtain ⟨rfl, hw113⟩ := hp113
                  rw [hw113]
                  refine g_athrow h (ci := 11) s5b (by decide) dX12_reads_116 ?_
                  refine g_xout hQ (by omega) (by omega) (px w24 hM5 (RQ_a q5) _ _ _ (TH_stop hP4 (MY_rfl _ _) g51 r56 (RZ_bad hZ5 (show (0 : Int) ≠ 6 by decide) (by rw [hk, hv]; exact xA_2 (by omega)))))
              · exact absurd c97 (by decide)
            · exact absurd c83 (by decide)
          · exact absurd c69 (by decide)
        · exact absurd c55 (by decide)
      · refine g_aload_n h dX12_reads_42 rfl ?_
        refine g_iconst h dX12_reads_43 ?_
        refine g_callV h rfl (ci := 12) [_] (by assumption) (c_X12_stop _ _ _ hMM5) clX12_397 (by decide) rfl in_X12_stop se_X12_stop rfl rfl (by rw [hRm]; first | decide | (simp only [clS]; omega)) (by rw [hRm]; first | decide | (simp only [clS]; omega)) (fun _ => Nat.le_of_ble_eq_true rfl) (by rw [hRm]; first | decide | (simp only [clS]; omega)) (by rw [hRm]; first | decide | (simp only [clS]; omega)) dX12_reads_44 (fun r44 w44 hp44 => ?_)
        obtain ⟨rfl, hw44⟩ := hp44
        rw [hw44]
        have hf : k ≠ 4 ∧ ¬ (k = 5 ∨ k = 7) := by
          first
          | exact lr1 bk.1 (by assumption)
          | exact lr2 (by assumption)
        refine g_athrow h (ci := 11) s5b (by decide) dX12_reads_47 ?_
        refine g_xout hQ (by omega) (by omega) (px w24 hM5 (RQ_a q5) _ _ _ (TH_stop hP4 (MY_rfl _ _) g51 r56 (RZ_bad hZ5 (show (0 : Int) ≠ 6 by decide) (by rw [hk, hv]; exact xA_1 hf.1 hf.2))))
  rcases hF with ⟨rfl, rfl, hs, hO⟩ | ⟨rfl, rfl, hs, hp0, hp1, hp2⟩
  · refine g_aload_n h dX12_reads_0 rfl ?_
    refine g_callV h rfl (ci := 12) [] (by assumption) (c_X12_fresh _ _ nr P hM h42 hn17 hs) clX12_378 (by decide) rfl in_X12_fresh se_X12_fresh rfl rfl (by rw [hRm]; first | decide | (simp only [clS]; omega)) (by rw [hRm]; first | decide | (simp only [clS]; omega)) (fun _ => Nat.le_of_ble_eq_true rfl) (by rw [hRm]; first | decide | (simp only [clS]; omega)) (by rw [hRm]; first | decide | (simp only [clS]; omega)) dX12_reads_1 (fun r1 w1 hp1 => ?_)
    obtain ⟨rfl, hw1⟩ := hp1
    rw [hw1]
    exact rest w _ _ (by omega) (by omega) (Or.inl ⟨rfl, rfl⟩) hT h42 hs hO hw56
  · refine g_aload_n h dX12_reads_0 rfl ?_
    refine g_callV h rfl (ci := 12) [] (by assumption) (c_X12_fresh1 _ _ nr P hM h42 hn17 hs hp0 hp1 hp2 hP2 hP4) clX12_378 (by decide) rfl in_X12_fresh se_X12_fresh rfl rfl (by rw [hRm]; first | decide | (simp only [clS]; omega)) (by rw [hRm]; first | decide | (simp only [clS]; omega)) (fun _ => Nat.le_of_ble_eq_true rfl) (by rw [hRm]; first | decide | (simp only [clS]; omega)) (by rw [hRm]; first | decide | (simp only [clS]; omega)) dX12_reads_1 (fun r1 w1 hp1 => ?_)
    obtain ⟨rfl, hw1⟩ := hp1
    rw [hw1]
    exact rest _ _ _ (by omega) (by omega) (Or.inr ⟨rfl, rfl⟩) (fsW_RT hP4 hT) (by rw [fsW_i w hP4 (by decide)]; exact h42) (fsW_444 _ _ _) (fsW_RO w hP4) (by rw [fsW_i w hP4 (by decide)]; exact hw56)
