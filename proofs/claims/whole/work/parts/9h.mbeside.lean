/-! ===== M's reader: where it stands beside X's run ===== -/
/-- what M's reader changes, its rule's object at P -/
def MY (P : Nat) (w u : AW) : Prop := u.1 = w.1 ∧ u.2.2 = w.2.2 ∧ (∀ j, j ≠ 400 → j ≠ 445 → j ≠ P → j ≠ P + 1 → j ≠ P + 2 → u.2.1 j = w.2.1 j) ∧ (∀ f, ¬ (49 ≤ f ∧ f ≤ 56) → u.2.1 400 f = w.2.1 400 f) ∧ u.2.1 P 0 = w.2.1 P 0
theorem MY_rfl (P : Nat) (w : AW) : MY P w w := ⟨rfl, rfl, fun _ _ _ _ _ _ => rfl, fun _ _ => rfl, rfl⟩
theorem MY_tr {P : Nat} {u v x : AW} (h : MY P u v) (k : MY P v x) : MY P u x := ⟨k.1.trans h.1, k.2.1.trans h.2.1, fun j a b c d e => (k.2.2.1 j a b c d e).trans (h.2.2.1 j a b c d e), fun f a => (k.2.2.2.1 f a).trans (h.2.2.2.1 f a), k.2.2.2.2.trans h.2.2.2.2⟩
theorem MY_X {P : Nat} {u v : AW} (hP : 478 ≤ P) (h : MX u v) : MY P u v := ⟨h.1, h.2.1, fun j a _ _ _ _ => h.2.2.1 j a, fun f a => h.2.2.2 f (by unfold fN; omega), by rw [h.2.2.1 P (by omega)]⟩
theorem MY_f {P : Nat} (u : AW) {f : Nat} (z : Int) (hP : 478 ≤ P) (hf : 49 ≤ f ∧ f ≤ 56) : MY P u (upI u 400 f z) := ⟨rfl, rfl, fun j a _ _ _ _ => upI_o _ _ _ a, fun g a => by
  rw [upI_at]
  exact if_neg (by omega), by rw [upI_o _ _ _ (by omega)]⟩
theorem MY_445 {P : Nat} (u : AW) (f : Nat) (z : Int) (hP : 478 ≤ P) : MY P u (upI u 445 f z) := ⟨rfl, rfl, fun j _ a _ _ _ => upI_o _ _ _ a, fun g _ => by rw [upI_o _ _ _ (by decide)], by rw [upI_o _ _ _ (by omega)]⟩
theorem puW_o (u : AW) (P m : Nat) (s v : Int) {j : Nat} (h0 : j ≠ P) (h1 : j ≠ P + 1) (h2 : j ≠ P + 2) : (puW u P m s v).2.1 j = u.2.1 j := by
  unfold puW
  rw [upI_o _ _ _ h0, upI_o _ _ _ h2, upI_o _ _ _ h1]
theorem puW_P (u : AW) (P m : Nat) (s v : Int) : (puW u P m s v).2.1 P = fun f => if f = 1 then (m : Int) + 1 else u.2.1 P f := by
  unfold puW
  rw [upI_at, upI_o _ _ _ (by omega), upI_o _ _ _ (by omega)]
theorem puW_1 (u : AW) (P m : Nat) (s v : Int) : (puW u P m s v).2.1 (P + 1) = fun f => if f = m then s else u.2.1 (P + 1) f := by
  unfold puW
  rw [upI_o _ _ _ (by omega), upI_o _ _ _ (by omega), upI_at]
theorem puW_2 (u : AW) (P m : Nat) (s v : Int) : (puW u P m s v).2.1 (P + 2) = fun f => if f = m then v else u.2.1 (P + 2) f := by
  unfold puW
  rw [upI_o _ _ _ (by omega), upI_at, upI_o _ _ _ (by omega)]
theorem MY_pu {P : Nat} (u : AW) (m : Nat) (s v : Int) (hP : 478 ≤ P) : MY P u (puW u P m s v) := ⟨rfl, rfl, fun j _ _ a b c => puW_o _ _ _ _ _ a b c, fun g _ => by rw [puW_o _ _ _ _ _ (by omega) (by omega) (by omega)], by
  rw [puW_P]
  exact if_neg (by decide)⟩
theorem RM_pu {w : AW} {P : Nat} {cm : List Int} {s v c : Int} (h : RM w P cm) (hl : cm.length < 300) (hc : okIt s v c) : RM (puW w P cm.length s v) P (cm ++ [c]) := by
  obtain ⟨h1, h2, h3, h4, h5, h6, h7, h8, h9, h10⟩ := h
  have hlen : (cm ++ [c]).length = cm.length + 1 := by rw [List.length_append]; rfl
  refine ⟨h1, h2, h3, h4, h5, ?_, by omega, fun i hi => ?_, ?_, ?_⟩
  · rw [puW_P, hlen]
    show (if 1 = 1 then (cm.length : Int) + 1 else _) = _
    rw [if_pos rfl]
    omega
  · rw [puW_1, puW_2]
    show okIt (if i = cm.length then s else w.2.1 (P + 1) i) (if i = cm.length then v else w.2.1 (P + 2) i) _
    obtain ⟨g1, g2⟩ := getD_app cm c i hi
    by_cases e : i = cm.length
    · rw [if_pos e, if_pos e, g2 e]
      exact hc
    · rw [if_neg e, if_neg e, g1 (by omega)]
      exact h8 i (by omega)
  · rw [puW_P]
    show 0 ≤ (if (0 : Nat) = 1 then _ else w.2.1 P 0)
    rw [if_neg (by decide)]
    exact h9
  · rw [puW_P]
    show (if (0 : Nat) = 1 then _ else w.2.1 P 0) < 4
    rw [if_neg (by decide)]
    exact h10
/-- M's reader: the next token told is at a; its rule's object at P of slot nr, items cm; op deep, tm terms -/
def RQ (u : AW) (T : Nat → Int) (n P nr a : Nat) (cm : List Int) (op tm : Int) : Prop :=
  RT u T n ∧ TKs u T n (skF T n a) ∧ (u.2.1 400 42 = (nr : Int) ∧ nr < 17 ∧ u.2.2 444 nr = some P ∧ 478 ≤ P) ∧ RM u P cm ∧ u.2.1 400 54 = op ∧ u.2.1 400 55 = tm
theorem TKs_f {u v : AW} {T : Nat → Int} {n p : Nat} (h : ∀ f, fN f → v.2.1 400 f = u.2.1 400 f) (k : TKs u T n p) : TKs v T n p := by
  unfold TKs at k ⊢
  rw [h 49 (Or.inl rfl), h 50 (Or.inr (Or.inl rfl)), h 51 (Or.inr (Or.inr (Or.inl rfl))), h 52 (Or.inr (Or.inr (Or.inr (Or.inl rfl)))), h 53 (Or.inr (Or.inr (Or.inr (Or.inr (Or.inl rfl))))), h 56 (Or.inr (Or.inr (Or.inr (Or.inr (Or.inr rfl)))))]
  exact k
theorem RQ_next {u v : AW} {T : Nat → Int} {n P nr a e : Nat} {cm : List Int} {op tm : Int} (h : RQ u T n P nr a cm op tm) (hx : MX u v) (ht : TKs v T n (skF T n e)) : RQ v T n P nr e cm op tm := by
  obtain ⟨h1, h2, ⟨h3, h4, h5, h6⟩, h7, h8, h9⟩ := h
  refine ⟨RT_MX hx h1, ht, ⟨(hx.2.2.2 42 (by unfold fN; omega)).trans h3, h4, by rw [hx.2.1]; exact h5, h6⟩, RM_of hx.1 hx.2.1 (hx.2.2.1 P (by omega)) (hx.2.2.1 (P + 1) (by omega)) (hx.2.2.1 (P + 2) (by omega)) h7, (hx.2.2.2 54 (by unfold fN; omega)).trans h8, (hx.2.2.2 55 (by unfold fN; omega)).trans h9⟩
theorem RQ_54 {u : AW} {T : Nat → Int} {n P nr a : Nat} {cm : List Int} {op tm : Int} (z : Int) (h : RQ u T n P nr a cm op tm) : RQ (upI u 400 54 z) T n P nr a cm z tm := by
  obtain ⟨h1, h2, ⟨h3, h4, h5, h6⟩, h7, h8, h9⟩ := h
  refine ⟨RT_of (u := u) rfl rfl rfl (upI_o _ _ _ (by decide)) h1, TKs_f (u := u) (fun f hf => ?_) h2, ⟨h3, h4, h5, h6⟩, RM_of (u := u) rfl rfl (upI_o _ _ _ (by omega)) (upI_o _ _ _ (by omega)) (upI_o _ _ _ (by omega)) h7, upI_self _ _ _ _, h9⟩
  rw [upI_at]
  exact if_neg (by unfold fN at hf; omega)
theorem RQ_55 {u : AW} {T : Nat → Int} {n P nr a : Nat} {cm : List Int} {op tm : Int} (z : Int) (h : RQ u T n P nr a cm op tm) : RQ (upI u 400 55 z) T n P nr a cm op z := by
  obtain ⟨h1, h2, ⟨h3, h4, h5, h6⟩, h7, h8, h9⟩ := h
  refine ⟨RT_of (u := u) rfl rfl rfl (upI_o _ _ _ (by decide)) h1, TKs_f (u := u) (fun f hf => ?_) h2, ⟨h3, h4, h5, h6⟩, RM_of (u := u) rfl rfl (upI_o _ _ _ (by omega)) (upI_o _ _ _ (by omega)) (upI_o _ _ _ (by omega)) h7, h8, upI_self _ _ _ _⟩
  rw [upI_at]
  exact if_neg (by unfold fN at hf; omega)
theorem RQ_pu {u : AW} {T : Nat → Int} {n P nr a : Nat} {cm : List Int} {op tm s v c : Int} (h : RQ u T n P nr a cm op tm) (hl : cm.length < 300) (hc : okIt s v c) : RQ (puW u P cm.length s v) T n P nr a (cm ++ [c]) op tm := by
  obtain ⟨h1, h2, ⟨h3, h4, h5, h6⟩, h7, h8, h9⟩ := h
  have e := fun (j : Nat) (hj : j < 478) => puW_o u P cm.length s v (j := j) (by omega) (by omega) (by omega)
  refine ⟨RT_of (u := u) rfl rfl (by rw [e 400 (by decide)]) (e 446 (by decide)) h1, TKs_f (u := u) (fun f hf => by rw [e 400 (by decide)]) h2, ⟨by rw [e 400 (by decide)]; exact h3, h4, h5, h6⟩, RM_pu h7 hl hc, by rw [e 400 (by decide)]; exact h8, by rw [e 400 (by decide)]; exact h9⟩
/-- all of the tests of the token at hand -/
theorem RQ_tk {u : AW} {T : Nat → Int} {n P nr a : Nat} {cm : List Int} {op tm : Int} (ha : a ≤ n) (h : RQ u T n P nr a cm op tm) {k v : Int} (hk : (tokF T n (skF T n a)).1 = k) (hv : (tokF T n (skF T n a)).2.1 = v) :
    ((u.2.1 400 50 = 2 ∧ u.2.1 400 56 = wcF 17 (slen 17)) ↔ (k = 6 ∧ v = 105)) ∧ ((u.2.1 400 50 = 2 ∧ u.2.1 400 56 = wcF 18 (slen 18)) ↔ (k = 6 ∧ v = 38)) ∧ ((u.2.1 400 50 = 2 ∧ u.2.1 400 56 = wcF 19 (slen 19)) ↔ (k = 6 ∧ v = 124)) ∧ ((u.2.1 400 50 = 2 ∧ u.2.1 400 56 = wcF 20 (slen 20)) ↔ (k = 6 ∧ v = 33)) ∧
    (∀ c, (u.2.1 400 50 = 4 ∧ u.2.1 400 52 = c) ↔ (k = 3 ∧ v = c)) ∧ nhM u = (if k = 5 then v else -1) ∧ (u.2.1 400 50 = 2 ↔ 4 ≤ k) ∧ (u.2.1 400 50 = 3 ↔ k = 2) ∧ (u.2.1 400 50 = 1 ↔ k = 0) ∧ (k = 2 → u.2.1 400 53 = v) ∧ u.2.1 400 51 = (skF T n a : Int) ∧ (2 ≤ k → u.2.1 400 49 = ((tokF T n (skF T n a)).2.2 : Int)) ∧ (k = 6 → v = 105 ∨ v = 38 ∨ v = 124 ∨ v = 33) ∧ (k = 5 → 0 ≤ v ∧ v ≤ 8) ∧ (k = 2 → 0 ≤ v ∧ v ≤ 9999) ∧ (0 ≤ k ∧ k ≤ 7) ∧
    R64 (u.2.1 400 56) ∧ R32 (u.2.1 400 50) ∧ R32 (u.2.1 400 52) ∧ skF T n a ≤ n ∧ (k ≠ 0 → skF T n a < (tokF T n (skF T n a)).2.2 ∧ (tokF T n (skF T n a)).2.2 ≤ n) := by
  obtain ⟨h1, h2, -, -, -, -⟩ := h
  have hp : skF T n a ≤ n := by
    have := runF_bd isBb T (n - a) a
    unfold skF
    omega
  have hb := tokF_bd (T := T) h1.2.2.2.2 h1.2.2.1 hp
  have e1 : _ ↔ ((tokF T n (skF T n a)).1 = 6 ∧ (tokF T n (skF T n a)).2.1 = 105) := tkw h1 h2 hp 17 (by decide) (by decide)
  have e2 : _ ↔ ((tokF T n (skF T n a)).1 = 6 ∧ (tokF T n (skF T n a)).2.1 = 38) := tkw h1 h2 hp 18 (by decide) (by decide)
  have e3 : _ ↔ ((tokF T n (skF T n a)).1 = 6 ∧ (tokF T n (skF T n a)).2.1 = 124) := tkw h1 h2 hp 19 (by decide) (by decide)
  have e4 : _ ↔ ((tokF T n (skF T n a)).1 = 6 ∧ (tokF T n (skF T n a)).2.1 = 33) := tkw h1 h2 hp 20 (by decide) (by decide)
  have e5 := tkm h1 h2 hp
  have e6 := nh_tk h1 h2 hp
  have h6 : (tokF T n (skF T n a)).1 = 6 → (tokF T n (skF T n a)).2.1 = 105 ∨ (tokF T n (skF T n a)).2.1 = 38 ∨ (tokF T n (skF T n a)).2.1 = 124 ∨ (tokF T n (skF T n a)).2.1 = 33 := by
    intro q
    have t1 := (tok4 (by omega : 4 ≤ (tokF T n (skF T n a)).1)).1
    rw [t1] at q ⊢
    revert q
    generalize spl T n (skF T n a) (tokF T n (skF T n a)).2.2 = f
    unfold wordK
    split
    · intro q; exact absurd (show (4 : Int) = 6 from q) (by decide)
    · split
      · intro q; exact absurd (show (5 : Int) = 6 from q) (by decide)
      · split
        · rename_i c
          intro _
          revert c
          show jntV f ≠ -1 → jntV f = 105 ∨ jntV f = 38 ∨ jntV f = 124 ∨ jntV f = 33
          unfold jntV
          repeat (first | omega | split)
        · intro q; exact absurd (show (7 : Int) = 6 from q) (by decide)
  obtain ⟨g1, g2, g3, g4, g5, g6, g7⟩ := h2
  obtain ⟨⟨b1, b2, b3, b4, b5, b6, b7⟩, b8, b9⟩ := hb
  rw [hk, hv] at *
  have hs : u.2.1 400 50 = 0 ∨ u.2.1 400 50 = 1 ∨ u.2.1 400 50 = 2 ∨ u.2.1 400 50 = 3 ∨ u.2.1 400 50 = 4 := by
    rw [g2]
    unfold srt
    repeat (first | omega | split)
  have q2 : u.2.1 400 50 = 2 ↔ 4 ≤ k := by
    rw [g2, srt_2]
    omega
  have q3 : u.2.1 400 50 = 3 ↔ k = 2 := by
    rw [g2]
    unfold srt
    repeat (first | omega | split)
  have q1 : u.2.1 400 50 = 1 ↔ k = 0 := by
    rw [g2]
    unfold srt
    repeat (first | omega | split)
  refine ⟨e1, e2, e3, e4, e5, e6, q2, q3, q1, g3, g1, g6, h6, b4, b6, b1, g7, ⟨by omega, by omega⟩, ?_, hp, fun q => ?_⟩
  · rw [g4]
    split
    · have := b5 (by assumption)
      exact ⟨by omega, by omega⟩
    · exact ⟨by decide, by decide⟩
  · by_cases c : skF T n a < n
    · exact ⟨(b8 c).2.1, (b8 c).2.2⟩
    · exact absurd (b9 (by omega)).1 q
/-- M beside X: R is what X's run comes to; flushed to b, X's code is M's items, W waits -/
def RZ (u : AW) (T : Nat → Int) (n P nr : Nat) (R : (Int × Nat) ⊕ XP) (W : List Int) (b : Int) (D a : Nat) (s : XP) (cm : List Int) : Prop :=
  R = xRun T n D a s ∧ RQ u T n P nr a cm s.2.1.1 s.2.1.2.1 ∧ pwF b s.2.2.1 s.2.2.2 = (cm, W) ∧ 301 ≤ D + skF T n a ∧ cm.length + W.length ≤ skF T n a ∧ (0 ≤ s.2.1.1 ∧ s.2.1.1 ≤ 8) ∧ (0 ≤ s.2.1.2.1 ∧ s.2.1.2.1 ≤ 30) ∧ a ≤ n
theorem RZ_to {u v : AW} {T : Nat → Int} {n P nr D a : Nat} {R : (Int × Nat) ⊕ XP} {W W' : List Int} {b b' op tm : Int} {s s' : XP} {cm cm' : List Int} (h : RZ u T n P nr R W b D a s cm) (h6 : s.1.1 ≠ 6) (hK : (tokF T n (skF T n a)).1 ≠ 0) (e : xT s (tokF T n (skF T n a)).1 (tokF T n (skF T n a)).2.1 = .inr s')
    (hQ : RQ v T n P nr (tokF T n (skF T n a)).2.2 cm' op tm) (ho : s'.2.1.1 = op) (ht : s'.2.1.2.1 = tm) (hpw : pwF b' s'.2.2.1 s'.2.2.2 = (cm', W')) (hlen : cm'.length + W'.length ≤ cm.length + W.length + 1) (ho2 : 0 ≤ op ∧ op ≤ 8) (ht2 : 0 ≤ tm ∧ tm ≤ 30) : RZ v T n P nr R W' b' (D - 1) (tokF T n (skF T n a)).2.2 s' cm' ∧ D - 1 < D := by
  obtain ⟨r1, r2, r3, r4, r5, r6, r7, r8⟩ := h
  have hT := r2.1
  have hp : skF T n a ≤ n := by
    have := runF_bd isBb T (n - a) a
    unfold skF
    omega
  have hb := tokF_bd (T := T) hT.2.2.2.2 hT.2.2.1 hp
  have hn := hT.2.2.1
  have hlt : skF T n a < n := by
    by_cases c : skF T n a < n
    · exact c
    · exact absurd (hb.2.2 (by omega)).1 hK
  have hE := (hb.2.1 hlt).2
  have hs : (tokF T n (skF T n a)).2.2 ≤ skF T n (tokF T n (skF T n a)).2.2 := (runF_bd isBb T _ _).1
  obtain ⟨D', rfl⟩ : ∃ D', D = D' + 1 := ⟨D - 1, by omega⟩
  rw [xRun_r h6 e] at r1
  subst ho
  subst ht
  exact ⟨⟨r1, hQ, hpw, by rw [Nat.add_sub_cancel]; omega, by omega, ho2, ht2, hE.2⟩, by omega⟩
theorem RZ_bad {u : AW} {T : Nat → Int} {n P nr D a : Nat} {R : (Int × Nat) ⊕ XP} {W : List Int} {b f : Int} {s : XP} {cm : List Int} (h : RZ u T n P nr R W b D a s cm) (h6 : s.1.1 ≠ 6) (e : xT s (tokF T n (skF T n a)).1 (tokF T n (skF T n a)).2.1 = .inl f) : R = .inl (f, skF T n a) := by
  obtain ⟨r1, r2, r3, r4, r5, r6, r7, r8⟩ := h
  have hn := r2.1.2.2.1
  have hp : skF T n a ≤ n := by
    have := runF_bd isBb T (n - a) a
    unfold skF
    omega
  obtain ⟨D', rfl⟩ : ∃ D', D = D' + 1 := ⟨D - 1, by omega⟩
  rw [r1, xRun_l h6 e]
/-- thrown: the fault and its place are told -/
def TH (P : Nat) (w : AW) (R : (Int × Nat) ⊕ XP) : String → Option Nat → AW → Prop := fun E x w' => E = clN 11 ∧ x = some 445 ∧ MY P w w' ∧ R64 (w'.2.1 400 56) ∧ ∃ q : Nat, w'.2.1 445 7 = (q : Int) ∧ R = .inl (w'.2.1 445 6, q)
theorem TH_of {P : Nat} {w u : AW} {R : (Int × Nat) ⊕ XP} (h : MY P w u) {E : String} {x : Option Nat} {w' : AW} (k : TH P u R E x w') : TH P w R E x w' := ⟨k.1, k.2.1, MY_tr h k.2.2.1, k.2.2.2⟩
theorem TH_stop {P : Nat} {w u : AW} {R : (Int × Nat) ⊕ XP} {f : Int} {q : Nat} (hP : 478 ≤ P) (h : MY P w u) (hq : u.2.1 400 51 = (q : Int)) (h56 : R64 (u.2.1 400 56)) (hR : R = .inl (f, q)) : TH P w R (clN 11) (some 445) (upI (upI u 445 6 f) 445 7 (u.2.1 400 51)) :=
  ⟨rfl, rfl, MY_tr h (MY_tr (MY_445 _ _ _ hP) (MY_445 _ _ _ hP)), h56, q, by rw [upI_self]; exact hq, by
    rw [hR]
    show _ = Sum.inl ((upI u 445 6 f).2.1 445 6, q)
    rw [upI_self]⟩
/-- the sign that waits last binds less than b -/
def TB (W : List Int) (b : Int) : Prop := ∀ x t, W = x :: t → bnd x < b
theorem TB_pw {W : List Int} {b : Int} (h : TB W b) (cd : List Int) : pwF b cd W = (cd, W) := by
  cases W with
  | nil => rfl
  | cons x t =>
    have := h x t rfl
    unfold pwF
    rw [if_neg (by omega)]
theorem TB_6 (W : List Int) : TB W 6 := fun x _ _ => by have := bnd_bd x; omega
theorem TB_c {x : Int} {t : List Int} {b : Int} (h : bnd x < b) : TB (x :: t) b := fun y u e => by cases e; exact h
theorem TB_le {W : List Int} {b c : Int} (h : TB W b) (hc : b ≤ c) : TB W c := fun x t e => by have := h x t e; omega
theorem pw_pw {b c : Int} (h : c ≤ b) : ∀ (W cd : List Int), pwF c (pwF b cd W).1 (pwF b cd W).2 = pwF c cd W
  | [], cd => rfl
  | x :: t, cd => by
    by_cases q : b ≤ bnd x
    · rw [show pwF b cd (x :: t) = pwF b (cd ++ [20000 + x]) t from if_pos q, show pwF c cd (x :: t) = pwF c (cd ++ [20000 + x]) t from if_pos (by omega)]
      exact pw_pw h t _
    · rw [show pwF b cd (x :: t) = (cd, x :: t) from if_neg q]
theorem pw_dn {b c : Int} {cd W cm V : List Int} (h : pwF b cd W = (cm, V)) (hc : c ≤ b) : pwF c cd W = pwF c cm V := by
  rw [← pw_pw hc, h]
theorem pw_c {c x : Int} (h : c ≤ bnd x) (cm V : List Int) : pwF c cm (x :: V) = pwF c (cm ++ [20000 + x]) V := if_pos h
