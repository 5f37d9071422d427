/-! ===== what is read as a rule is one ===== -/
theorem tcL_app : ∀ (a b : List Int) (ts : List Bool), tcL (a ++ b) ts = (match tcL a ts with | none => none | some u => tcL b u)
  | [], b, ts => rfl
  | c :: cs, b, ts => by
    show (match tcS c ts with | none => none | some u => tcL (cs ++ b) u) = (match (match tcS c ts with | none => none | some u => tcL cs u) with | none => none | some u => tcL b u)
    cases tcS c ts with
    | none => rfl
    | some u => exact tcL_app cs b u
theorem tcL_end {cd : List Int} {c : Int} {ts u : List Bool} (h : tcL cd [] = some ts) (k : tcS c ts = some u) : tcL (cd ++ [c]) [] = some u := by
  rw [tcL_app, h]
  show (match tcS c ts with | none => none | some u => tcL [] u) = some u
  rw [k]
  rfl
theorem tms_app : ∀ (a b : List Int), tms (a ++ b) = tms a + tms b
  | [], b => by show tms b = 0 + tms b; omega
  | c :: cs, b => by
    show (if c < 20000 then 1 else 0) + tms (cs ++ b) = (if c < 20000 then 1 else 0) + tms cs + tms b
    rw [tms_app cs b]
    omega
theorem tms_end (cd : List Int) (c : Int) : tms (cd ++ [c]) = tms cd + (if c < 20000 then 1 else 0) := by
  rw [tms_app]
  rfl
theorem tcS_33 (t : List Bool) : tcS (20000 + 33) (true :: t) = some (true :: t) := by
  unfold tcS
  rw [if_neg (by decide), if_pos (by decide)]
theorem tcS_J {x : Int} (h : x = 43 ∨ x = 45) (t : List Bool) : tcS (20000 + x) (false :: false :: t) = some (false :: t) := by
  unfold tcS
  rw [if_neg (by omega), if_neg (by omega), if_pos (by omega)]
theorem tcS_C {x : Int} (h : x = 60 ∨ x = 61 ∨ x = 62) (t : List Bool) : tcS (20000 + x) (false :: false :: t) = some (true :: t) := by
  unfold tcS
  rw [if_neg (by omega), if_neg (by omega), if_neg (by omega), if_pos (by omega)]
theorem tcS_B {x : Int} (h : x = 38 ∨ x = 124) (t : List Bool) : tcS (20000 + x) (true :: true :: t) = some (true :: t) := by
  unfold tcS
  rw [if_neg (by omega), if_neg (by omega), if_neg (by omega), if_neg (by omega), if_pos (by omega)]
/-- what waits, where a ONE is wanted: with the worths that stand below -/
def BO : List Int → List Bool → Prop
  | [], ts => ts = []
  | x :: W, ts => ((x = 40 ∨ x = 33) ∧ BO W ts) ∨ ((x = 38 ∨ x = 124) ∧ ∃ t, ts = true :: t ∧ BO W t)
def opn : List Int → Nat
  | [] => 0
  | x :: W => (if x = 40 then 1 else 0) + opn W
theorem BO_top {x : Int} {W : List Int} {ts : List Bool} (h : BO (x :: W) ts) : bnd x ≤ 3 := by
  have hx : x = 40 ∨ x = 33 ∨ x = 38 ∨ x = 124 := by
    rcases h with ⟨h | h, -⟩ | ⟨h | h, -⟩ <;> omega
  rcases hx with rfl | rfl | rfl | rfl <;> decide
/-- a ONE is there: signs that bind as closely are put -/
theorem pw_BO {b : Int} (hb : 0 ≤ b) : ∀ (W : List Int) (cd : List Int) (ts : List Bool), BO W ts → tcL cd [] = some (true :: ts) → (b = 0 → opn W = 0) →
    ∃ ts', BO (pwF b cd W).2 ts' ∧ tcL (pwF b cd W).1 [] = some (true :: ts') ∧ opn (pwF b cd W).2 = opn W ∧ tms (pwF b cd W).1 = tms cd ∧ (∀ x t, (pwF b cd W).2 = x :: t → bnd x < b)
  | [], cd, ts, h, hc, _ => ⟨ts, h, hc, rfl, rfl, fun x t e => by cases e⟩
  | x :: W, cd, ts, h, hc, h0 => by
    unfold pwF
    by_cases q : b ≤ bnd x
    · rw [if_pos q]
      have hx40 : x ≠ 40 := fun e => by
        subst e
        have : bnd 40 = 0 := rfl
        have hb0 : b = 0 := by omega
        have := h0 hb0
        unfold opn at this
        rw [if_pos rfl] at this
        omega
      have ho : opn (x :: W) = opn W := by
        show (if x = 40 then 1 else 0) + opn W = opn W
        rw [if_neg hx40]
        omega
      have hx0 : 0 ≤ x := by rcases h with ⟨h | h, -⟩ | ⟨h | h, -⟩ <;> omega
      have ht : tms (cd ++ [20000 + x]) = tms cd := by rw [tms_end, if_neg (by omega)]; rfl
      rw [ho, ← ht]
      rcases h with ⟨h1, h2⟩ | ⟨h1, t, h2, h3⟩
      · have h33 : x = 33 := by omega
        subst h33
        exact pw_BO hb W _ ts h2 (tcL_end hc (tcS_33 ts)) (fun e => by rw [← ho]; exact h0 e)
      · subst h2
        exact pw_BO hb W _ t h3 (tcL_end hc (tcS_B h1 t)) (fun e => by rw [← ho]; exact h0 e)
    · rw [if_neg q]
      exact ⟨ts, h, hc, rfl, rfl, fun y t e => by cases e; omega⟩
/-- what waits, where a number is wanted -/
def SNw (cmp : Int) (W : List Int) (ts : List Bool) : Prop :=
  (cmp = 0 ∧ BO W ts) ∨ (cmp = 0 ∧ ∃ s W0 t, W = s :: W0 ∧ ts = false :: t ∧ (s = 43 ∨ s = 45) ∧ BO W0 t) ∨
  (cmp = 1 ∧ ∃ c W0 t, W = c :: W0 ∧ ts = false :: t ∧ (c = 60 ∨ c = 61 ∨ c = 62) ∧ BO W0 t) ∨ (cmp = 1 ∧ ∃ s c W0 t, W = s :: c :: W0 ∧ ts = false :: false :: t ∧ (s = 43 ∨ s = 45) ∧ (c = 60 ∨ c = 61 ∨ c = 62) ∧ BO W0 t)
theorem bnd_J {s : Int} (h : s = 43 ∨ s = 45) : bnd s = 5 := by rcases h with rfl | rfl <;> rfl
theorem bnd_C {s : Int} (h : s = 60 ∨ s = 61 ∨ s = 62) : bnd s = 4 := by rcases h with rfl | rfl | rfl <;> rfl
theorem pwF_stop {b : Int} {W cd : List Int} (h : ∀ x t, W = x :: t → bnd x < b) : pwF b cd W = (cd, W) := TB_pw h cd
theorem BO_stop {W cd : List Int} {ts : List Bool} {b : Int} (h : BO W ts) (hb : 4 ≤ b) : pwF b cd W = (cd, W) := pwF_stop (fun x t e => by
  subst e
  have := BO_top h
  omega)
/-- a number is there and + or - comes -/
theorem sn_sum {cmp : Int} {W cd : List Int} {ts : List Bool} {v : Int} (hv : v = 43 ∨ v = 45) (h : SNw cmp W ts) (hc : tcL cd [] = some (false :: ts)) :
    ∃ ts', SNw cmp (v :: (pwF (bnd v) cd W).2) ts' ∧ tcL (pwF (bnd v) cd W).1 [] = some ts' ∧ opn (v :: (pwF (bnd v) cd W).2) = opn W ∧ tms (pwF (bnd v) cd W).1 = tms cd := by
  rw [bnd_J hv]
  have hv40 : v ≠ 40 := by omega
  rcases h with ⟨h1, h2⟩ | ⟨h1, s, W0, t, rfl, rfl, h4, h5⟩ | ⟨h1, c, W0, t, rfl, rfl, h4, h5⟩ | ⟨h1, s, c, W0, t, rfl, rfl, h4, h5, h6⟩
  · rw [BO_stop h2 (by decide)]
    exact ⟨false :: ts, Or.inr (Or.inl ⟨h1, v, W, ts, rfl, rfl, hv, h2⟩), hc, by show (if v = 40 then 1 else 0) + opn W = _; rw [if_neg hv40, Nat.zero_add], rfl⟩
  · unfold pwF
    rw [if_pos (by rw [bnd_J h4]; decide), BO_stop h5 (by decide)]
    exact ⟨false :: t, Or.inr (Or.inl ⟨h1, v, W0, t, rfl, rfl, hv, h5⟩), tcL_end hc (tcS_J h4 t), by show (if v = 40 then 1 else 0) + opn W0 = (if s = 40 then 1 else 0) + opn W0; rw [if_neg hv40, if_neg (by omega)], by rw [tms_end, if_neg (by omega)]; rfl⟩
  · rw [pwF_stop (fun x y e => by cases e; rw [bnd_C h4]; decide)]
    exact ⟨false :: false :: t, Or.inr (Or.inr (Or.inr ⟨h1, v, c, W0, t, rfl, rfl, hv, h4, h5⟩)), hc, by show (if v = 40 then 1 else 0) + opn (c :: W0) = _; rw [if_neg hv40, Nat.zero_add], rfl⟩
  · unfold pwF
    rw [if_pos (by rw [bnd_J h4]; decide), pwF_stop (fun x y e => by cases e; rw [bnd_C h5]; decide)]
    exact ⟨false :: false :: t, Or.inr (Or.inr (Or.inr ⟨h1, v, c, W0, t, rfl, rfl, hv, h5, h6⟩)), tcL_end hc (tcS_J h4 _), by show (if v = 40 then 1 else 0) + opn (c :: W0) = (if s = 40 then 1 else 0) + opn (c :: W0); rw [if_neg hv40, if_neg (by omega)], by rw [tms_end, if_neg (by omega)]; rfl⟩
/-- a number is there and a comparison comes -/
theorem sn_cmp {W cd : List Int} {ts : List Bool} {v : Int} (hv : v = 60 ∨ v = 61 ∨ v = 62) (h : SNw 0 W ts) (hc : tcL cd [] = some (false :: ts)) :
    ∃ ts', SNw 1 (v :: (pwF (bnd v) cd W).2) ts' ∧ tcL (pwF (bnd v) cd W).1 [] = some ts' ∧ opn (v :: (pwF (bnd v) cd W).2) = opn W ∧ tms (pwF (bnd v) cd W).1 = tms cd := by
  rw [bnd_C hv]
  have hv40 : v ≠ 40 := by omega
  rcases h with ⟨h1, h2⟩ | ⟨h1, s, W0, t, rfl, rfl, h4, h5⟩ | ⟨h1, -⟩ | ⟨h1, -⟩
  · rw [BO_stop h2 (by decide)]
    exact ⟨false :: ts, Or.inr (Or.inr (Or.inl ⟨rfl, v, W, ts, rfl, rfl, hv, h2⟩)), hc, by show (if v = 40 then 1 else 0) + opn W = _; rw [if_neg hv40, Nat.zero_add], rfl⟩
  · unfold pwF
    rw [if_pos (by rw [bnd_J h4]; decide), BO_stop h5 (by decide)]
    exact ⟨false :: t, Or.inr (Or.inr (Or.inl ⟨rfl, v, W0, t, rfl, rfl, hv, h5⟩)), tcL_end hc (tcS_J h4 t), by show (if v = 40 then 1 else 0) + opn W0 = (if s = 40 then 1 else 0) + opn W0; rw [if_neg hv40, if_neg (by omega)], by rw [tms_end, if_neg (by omega)]; rfl⟩
  · cases h1
  · cases h1
/-- a number is there behind a comparison: it is a ONE -/
theorem sn_one {W cd : List Int} {ts : List Bool} (h : SNw 1 W ts) (hc : tcL cd [] = some (false :: ts)) :
    ∃ cd2 W0 t, (∀ b, b ≤ 4 → pwF b cd W = pwF b cd2 W0) ∧ BO W0 t ∧ tcL cd2 [] = some (true :: t) ∧ opn W0 = opn W ∧ tms cd2 = tms cd := by
  rcases h with ⟨h1, -⟩ | ⟨h1, -⟩ | ⟨h1, c, W0, t, rfl, rfl, h4, h5⟩ | ⟨h1, s, c, W0, t, rfl, rfl, h4, h5, h6⟩
  · cases h1
  · cases h1
  · refine ⟨cd ++ [20000 + c], W0, t, fun b hb => ?_, h5, tcL_end hc (tcS_C h4 t), ?_, by rw [tms_end, if_neg (by omega)]; rfl⟩
    · show (if b ≤ bnd c then pwF b (cd ++ [20000 + c]) W0 else _) = _
      rw [if_pos (by rw [bnd_C h4]; exact hb)]
    · show _ = (if c = 40 then 1 else 0) + opn W0
      rw [if_neg (by omega), Nat.zero_add]
  · refine ⟨cd ++ [20000 + s] ++ [20000 + c], W0, t, fun b hb => ?_, h6, tcL_end (tcL_end hc (tcS_J h4 _)) (tcS_C h5 t), ?_, by rw [tms_end, tms_end, if_neg (by omega), if_neg (by omega)]; rfl⟩
    · show (if b ≤ bnd s then (if b ≤ bnd c then pwF b (cd ++ [20000 + s] ++ [20000 + c]) W0 else _) else _) = _
      rw [if_pos (by rw [bnd_J h4]; omega), if_pos (by rw [bnd_C h5]; exact hb)]
    · show _ = (if s = 40 then 1 else 0) + ((if c = 40 then 1 else 0) + opn W0)
      rw [if_neg (by omega), if_neg (by omega), Nat.zero_add, Nat.zero_add]
/-- what is read so far is well formed -/
def TI (s : XP) : Prop := (s.1.1 ≤ 1 → s.2.2.1 = [] ∧ s.2.2.2 = [] ∧ s.2.1.1 = 0 ∧ s.2.1.2.1 = 0) ∧ (s.2.1.1 = (opn s.2.2.2 : Int) ∨ s.1.1 = 6) ∧ (tms s.2.2.1 : Int) = s.2.1.2.1 ∧ s.2.1.2.1 ≤ 30 ∧
  (s.1.1 = 2 → ∃ ts, BO s.2.2.2 ts ∧ tcL s.2.2.1 [] = some ts) ∧ (s.1.1 = 3 → ∃ ts, SNw s.1.2.1 s.2.2.2 ts ∧ tcL s.2.2.1 [] = some ts) ∧ (s.1.1 = 4 → ∃ ts, SNw s.1.2.1 s.2.2.2 ts ∧ tcL s.2.2.1 [] = some (false :: ts)) ∧ (s.1.1 = 5 → ∃ ts, BO s.2.2.2 ts ∧ tcL s.2.2.1 [] = some (true :: ts)) ∧ (s.1.1 = 6 → tcL s.2.2.1 [] = some [true])
theorem TI_term {s s' : XP} {k v : Int} (hb : (k = 5 → 0 ≤ v ∧ v ≤ 8) ∧ (k = 2 → 0 ≤ v ∧ v ≤ 9999)) (ho : s.2.1.1 = (opn s.2.2.2 : Int)) (ht : (tms s.2.2.1 : Int) = s.2.1.2.1) (h : ∃ ts, SNw s.1.2.1 s.2.2.2 ts ∧ tcL s.2.2.1 [] = some ts) (e : xTerm s k v = .inr s') : TI s' := by
  unfold xTerm at e
  split at e
  · cases e
  · split at e
    · cases e
    · split at e
      · cases e
      · rename_i q1 q2 q3
        cases e
        obtain ⟨ts, h1, h2⟩ := h
        have hk : k = 2 ∨ k = 5 := by omega
        have hw : 0 ≤ (if k = 5 then 10000 + v else v) ∧ (if k = 5 then 10000 + v else v) < 10009 := by
          rcases hk with rfl | rfl
          · rw [if_neg (by decide)]; have := hb.2 rfl; omega
          · rw [if_pos rfl]; have := hb.1 rfl; omega
        refine ⟨fun t => ?_, Or.inl ho, ?_, ?_, fun t => ?_, fun t => ?_, fun _ => ⟨ts, h1, tcL_end h2 ?_⟩, fun t => ?_, fun t => ?_⟩
        · have : (4 : Int) ≤ 1 := t; omega
        · show ((tms (s.2.2.1 ++ [if k = 5 then 10000 + v else v]) : Nat) : Int) = s.2.1.2.1 + 1
          rw [tms_end, if_pos (by omega)]
          omega
        · show s.2.1.2.1 + 1 ≤ 30
          omega
        · have : (4 : Int) = 2 := t; omega
        · have : (4 : Int) = 3 := t; omega
        · unfold tcS
          rw [if_pos hw]
        · have : (4 : Int) = 5 := t; omega
        · have : (4 : Int) = 6 := t; omega
/-- behind a ONE -/
theorem TI_behind {s s' : XP} {k v : Int} (ho : s.2.1.1 = (opn s.2.2.2 : Int)) (ht : (tms s.2.2.1 : Int) = s.2.1.2.1) (ht2 : s.2.1.2.1 ≤ 30) (h : ∃ cd2 W0 t, (∀ b, b ≤ 4 → pwF b s.2.2.1 s.2.2.2 = pwF b cd2 W0) ∧ BO W0 t ∧ tcL cd2 [] = some (true :: t) ∧ opn W0 = opn s.2.2.2 ∧ tms cd2 = tms s.2.2.1) (e : xBehind s k v = .inr s') : TI s' := by
  obtain ⟨cd2, W0, t, h1, h2, h3, h4, h5⟩ := h
  unfold xBehind at e
  split at e
  · rename_i q
    cases e
    have hbv : bnd v = 1 ∨ bnd v = 2 := by rcases q.2 with rfl | rfl; exact Or.inr rfl; exact Or.inl rfl
    obtain ⟨ts', p1, p2, p3, p4, -⟩ := pw_BO (b := bnd v) (by omega) W0 cd2 t h2 h3 (fun t => by omega)
    rw [← h1 (bnd v) (by omega)] at p1 p2 p3 p4
    refine ⟨fun t => ?_, Or.inl ?_, ?_, ht2, fun _ => ⟨true :: ts', Or.inr ⟨q.2, ts', rfl, p1⟩, p2⟩, fun t => ?_, fun t => ?_, fun t => ?_, fun t => ?_⟩
    · have : (2 : Int) ≤ 1 := t; omega
    · show s.2.1.1 = ((opn (v :: (pwF (bnd v) s.2.2.1 s.2.2.2).2) : Nat) : Int)
      show s.2.1.1 = (((if v = 40 then 1 else 0) + opn (pwF (bnd v) s.2.2.1 s.2.2.2).2 : Nat) : Int)
      rw [if_neg (by omega), p3, h4, Nat.zero_add]
      exact ho
    · show ((tms (pwF (bnd v) s.2.2.1 s.2.2.2).1 : Nat) : Int) = s.2.1.2.1
      rw [p4, h5]; exact ht
    · have : (2 : Int) = 3 := t; omega
    · have : (2 : Int) = 4 := t; omega
    · have : (2 : Int) = 5 := t; omega
    · have : (2 : Int) = 6 := t; omega
  · split at e
    · rename_i q1 q
      cases e
      obtain ⟨ts', p1, p2, p3, p4, p5⟩ := pw_BO (b := 1) (by decide) W0 cd2 t h2 h3 (fun t => by omega)
      rw [← h1 1 (by decide)] at p1 p2 p3 p4 p5
      generalize pwF 1 s.2.2.1 s.2.2.2 = R at *
      cases hR : R.2 with
      | nil =>
        rw [hR] at p3
        have : opn ([] : List Int) = 0 := rfl
        omega
      | cons x W' =>
        rw [hR] at p1 p3
        have hx := p5 x W' hR
        have hx40 : x = 40 := by
          rcases p1 with ⟨a | a, -⟩ | ⟨a | a, -⟩
          · exact a
          · subst a; exact absurd hx (by decide)
          · subst a; exact absurd hx (by decide)
          · subst a; exact absurd hx (by decide)
        subst hx40
        have hBO : BO W' ts' := by
          rcases p1 with ⟨-, a⟩ | ⟨a | a, -⟩
          · exact a
          · cases a
          · cases a
        have ho2 : opn (40 :: W') = 1 + opn W' := by show (if (40 : Int) = 40 then 1 else 0) + opn W' = _; rw [if_pos rfl]
        refine ⟨fun t => ?_, Or.inl ?_, ?_, ht2, fun t => ?_, fun t => ?_, fun t => ?_, fun _ => ⟨ts', ?_, p2⟩, fun t => ?_⟩
        · have : (5 : Int) ≤ 1 := t; omega
        · show s.2.1.1 - 1 = ((opn W' : Nat) : Int)
          omega
        · show ((tms R.1 : Nat) : Int) = s.2.1.2.1
          rw [p4, h5]; exact ht
        · have : (5 : Int) = 2 := t; omega
        · have : (5 : Int) = 3 := t; omega
        · have : (5 : Int) = 4 := t; omega
        · exact hBO
        · have : (5 : Int) = 6 := t; omega
    · split at e
      · rename_i q1 q2 q
        cases e
        have ho0 : opn W0 = 0 := by omega
        obtain ⟨ts', p1, p2, p3, p4, p5⟩ := pw_BO (b := 0) (by decide) W0 cd2 t h2 h3 (fun _ => ho0)
        rw [← h1 0 (by decide)] at p1 p2 p3 p4 p5
        generalize pwF 0 s.2.2.1 s.2.2.2 = R at *
        have hnil : R.2 = [] := by
          cases hR : R.2 with
          | nil => rfl
          | cons x W' =>
            have := p5 x W' hR
            have := bnd_bd x
            omega
        rw [hnil] at p1
        have hts : ts' = [] := p1
        subst hts
        refine ⟨fun t => ?_, Or.inr rfl, ?_, ht2, fun t => ?_, fun t => ?_, fun t => ?_, fun t => ?_, fun _ => p2⟩
        · have : (6 : Int) ≤ 1 := t; omega
        · show ((tms R.1 : Nat) : Int) = s.2.1.2.1
          rw [p4, h5]; exact ht
        · have : (6 : Int) = 2 := t; omega
        · have : (6 : Int) = 3 := t; omega
        · have : (6 : Int) = 4 := t; omega
        · have : (6 : Int) = 5 := t; omega
      · cases e
theorem TI_step {s s' : XP} {i : Nat} {t : Int × Int × Nat} (hJ : XJ s i) (h : TI s) (h6 : s.1.1 ≠ 6) (hb : tkB t) (e : xT s t.1 t.2.1 = .inr s') : TI s' := by
  obtain ⟨g1, g2, g3, g4, g5, -⟩ := hJ
  obtain ⟨i0, i1, i2, i3, i4, i5, i6, i7, i8⟩ := h
  have ho := i1.resolve_right h6
  obtain ⟨b1, b2, b3, b4, b5, b6, b7⟩ := hb
  unfold xT at e
  split at e
  · rename_i q
    obtain ⟨j1, j2, j3, j4⟩ := i0 (by omega)
    unfold xAct at e
    split at e
    · cases e
      refine ⟨fun _ => ⟨j1, j2, j3, j4⟩, Or.inl ho, i2, i3, fun t => ?_, fun t => ?_, fun t => ?_, fun t => ?_, fun t => ?_⟩
      · have : (1 : Int) = 2 := t; omega
      · have : (1 : Int) = 3 := t; omega
      · have : (1 : Int) = 4 := t; omega
      · have : (1 : Int) = 5 := t; omega
      · have : (1 : Int) = 6 := t; omega
    · cases e
  · split at e
    · rename_i q0 q
      obtain ⟨j1, j2, j3, j4⟩ := i0 (by omega)
      unfold xIf at e
      split at e
      · cases e
        refine ⟨fun t => ?_, Or.inl ho, i2, i3, fun _ => ⟨[], ?_, ?_⟩, fun t => ?_, fun t => ?_, fun t => ?_, fun t => ?_⟩
        · have : (2 : Int) ≤ 1 := t; omega
        · show BO s.2.2.2 []
          rw [j2]; rfl
        · show tcL s.2.2.1 [] = _
          rw [j1]; rfl
        · have : (2 : Int) = 3 := t; omega
        · have : (2 : Int) = 4 := t; omega
        · have : (2 : Int) = 5 := t; omega
        · have : (2 : Int) = 6 := t; omega
      · cases e
    · split at e
      · rename_i q0 q1 q
        obtain ⟨ts, c1, c2⟩ := i4 q
        unfold xOne at e
        split at e
        · rename_i qn
          split at e
          · cases e
          · cases e
            refine ⟨fun t => ?_, Or.inl ?_, i2, i3, fun _ => ⟨ts, Or.inl ⟨Or.inr rfl, c1⟩, c2⟩, fun t => ?_, fun t => ?_, fun t => ?_, fun t => ?_⟩
            · have : s.1.1 ≤ 1 := t; omega
            · show s.2.1.1 = (((if (33 : Int) = 40 then 1 else 0) + opn s.2.2.2 : Nat) : Int)
              rw [if_neg (by decide), Nat.zero_add]; exact ho
            · have : s.1.1 = 3 := t; omega
            · have : s.1.1 = 4 := t; omega
            · have : s.1.1 = 5 := t; omega
            · have : s.1.1 = 6 := t; omega
        · split at e
          · split at e
            · cases e
            · cases e
              refine ⟨fun t => ?_, Or.inl ?_, i2, i3, fun _ => ⟨ts, Or.inl ⟨Or.inl rfl, c1⟩, c2⟩, fun t => ?_, fun t => ?_, fun t => ?_, fun t => ?_⟩
              · have : s.1.1 ≤ 1 := t; omega
              · show s.2.1.1 + 1 = (((if (40 : Int) = 40 then 1 else 0) + opn s.2.2.2 : Nat) : Int)
                rw [if_pos rfl]; omega
              · have : s.1.1 = 3 := t; omega
              · have : s.1.1 = 4 := t; omega
              · have : s.1.1 = 5 := t; omega
              · have : s.1.1 = 6 := t; omega
          · exact TI_term (s := ((s.1.1, 0, 0), s.2)) ⟨b4, b6⟩ ho i2 ⟨ts, Or.inl ⟨rfl, c1⟩, c2⟩ e
      · split at e
        · rename_i q0 q1 q2 q
          exact TI_term ⟨b4, b6⟩ ho i2 (i5 q) e
        · split at e
          · rename_i q0 q1 q2 q3 q
            obtain ⟨ts, c1, c2⟩ := i6 q
            split at e
            · rename_i qg
              cases e
              unfold xGoes at qg
              rw [Bool.and_eq_true, Bool.or_eq_true, Bool.and_eq_true] at qg
              rcases qg.2 with hj | ⟨hc0, hc⟩
              · have hv : t.2.1 = 43 ∨ t.2.1 = 45 := of_decide_eq_true hj
                have hnc : isC t.2.1 = false := decide_eq_false (by omega)
                obtain ⟨ts', d1, d2, d3, d4⟩ := sn_sum hv c1 c2
                refine ⟨fun t => ?_, Or.inl ?_, ?_, i3, fun t => ?_, fun _ => ⟨ts', ?_, d2⟩, fun t => ?_, fun t => ?_, fun t => ?_⟩
                · have : (3 : Int) ≤ 1 := t; omega
                · show s.2.1.1 = ((opn (t.2.1 :: (pwF (bnd t.2.1) s.2.2.1 s.2.2.2).2) : Nat) : Int)
                  rw [d3]; exact ho
                · show ((tms (pwF (bnd t.2.1) s.2.2.1 s.2.2.2).1 : Nat) : Int) = s.2.1.2.1
                  rw [d4]; exact i2
                · have : (3 : Int) = 2 := t; omega
                · show SNw (if isC t.2.1 = true then 1 else s.1.2.1) (t.2.1 :: (pwF (bnd t.2.1) s.2.2.1 s.2.2.2).2) ts'
                  rw [hnc, if_neg (by decide)]
                  exact d1
                · have : (3 : Int) = 4 := t; omega
                · have : (3 : Int) = 5 := t; omega
                · have : (3 : Int) = 6 := t; omega
              · have hv : t.2.1 = 60 ∨ t.2.1 = 61 ∨ t.2.1 = 62 := by have := of_decide_eq_true hc; omega
                have h0 : s.1.2.1 = 0 := of_decide_eq_true hc0
                rw [h0] at c1
                obtain ⟨ts', d1, d2, d3, d4⟩ := sn_cmp hv c1 c2
                refine ⟨fun t => ?_, Or.inl ?_, ?_, i3, fun t => ?_, fun _ => ⟨ts', ?_, d2⟩, fun t => ?_, fun t => ?_, fun t => ?_⟩
                · have : (3 : Int) ≤ 1 := t; omega
                · show s.2.1.1 = ((opn (t.2.1 :: (pwF (bnd t.2.1) s.2.2.1 s.2.2.2).2) : Nat) : Int)
                  rw [d3]; exact ho
                · show ((tms (pwF (bnd t.2.1) s.2.2.1 s.2.2.2).1 : Nat) : Int) = s.2.1.2.1
                  rw [d4]; exact i2
                · have : (3 : Int) = 2 := t; omega
                · show SNw (if isC t.2.1 = true then 1 else s.1.2.1) (t.2.1 :: (pwF (bnd t.2.1) s.2.2.1 s.2.2.2).2) ts'
                  rw [if_pos hc]
                  exact d1
                · have : (3 : Int) = 4 := t; omega
                · have : (3 : Int) = 5 := t; omega
                · have : (3 : Int) = 6 := t; omega
            · split at e
              · rename_i qg qc
                have h1 : s.1.2.1 = 1 := by omega
                rw [h1] at c1
                exact TI_behind ho i2 i3 (sn_one c1 c2) e
              · cases e
          · rename_i q0 q1 q2 q3 q4
            obtain ⟨ts, c1, c2⟩ := i7 (by omega)
            exact TI_behind ho i2 i3 ⟨s.2.2.1, s.2.2.2, ts, fun _ _ => rfl, c1, c2, rfl, rfl⟩ e
theorem xRun_TI {T : Nat → Int} {n : Nat} (hT : ∀ i, i < 300 → 0 ≤ T i ∧ T i < 256) (hn : n ≤ 300) : ∀ (d a i : Nat) (s s' : XP), XJ s i → TI s → (a ≤ n ∨ s.1.1 = 6) → (n + 1 ≤ a + d ∨ s.1.1 = 6) → xRun T n d a s = .inr s' → TI s' ∧ s'.1.1 = 6
  | 0, a, i, s, s', hJ, hTI, ha, hd, e => by
    have e' : s = s' := by cases e; rfl
    subst e'
    refine ⟨hTI, ?_⟩
    rcases ha with ha | ha
    · rcases hd with hd | hd
      · omega
      · exact hd
    · exact ha
  | d + 1, a, i, s, s', hJ, hTI, ha, hd, e => by
    by_cases h6 : s.1.1 = 6
    · rw [xRun_6 h6] at e
      cases e
      exact ⟨hTI, h6⟩
    · have ha' := ha.resolve_right h6
      have hd' := hd.resolve_right h6
      obtain ⟨r1, r2⟩ := runF_bd isBb T (n - a) a
      have hp : a ≤ skF T n a ∧ skF T n a ≤ n := ⟨r1, by unfold skF; omega⟩
      obtain ⟨k1, k2, k3⟩ := tokF_bd hT hn hp.2
      unfold xRun at e
      rw [if_neg h6] at e
      cases hx : xT s (tokF T n (skF T n a)).1 (tokF T n (skF T n a)).2.1 with
      | inl f => rw [hx] at e; cases e
      | inr s1 =>
        rw [hx] at e
        obtain ⟨j1, j2⟩ := xT_J hJ k1 hx
        have hTI1 := TI_step hJ hTI h6 k1 hx
        rcases Nat.lt_or_ge (skF T n a) n with c | c
        · obtain ⟨c1, c2, c3⟩ := k2 c
          exact xRun_TI hT hn d _ (i + 1) s1 s' j1 hTI1 (Or.inl c3) (Or.inl (by omega)) e
        · have h66 := j2 (k3 c).1
          exact xRun_TI hT hn d _ (i + 1) s1 s' j1 hTI1 (Or.inr h66) (Or.inr h66) e
theorem TI_0 (A : Int) : TI (xs0 A) := by
  refine ⟨fun _ => ⟨rfl, rfl, rfl, rfl⟩, Or.inl rfl, rfl, (show (0 : Int) ≤ 30 by decide), fun t => ?_, fun t => ?_, fun t => ?_, fun t => ?_, fun t => ?_⟩
  · have : (0 : Int) = 2 := t; omega
  · have : (0 : Int) = 3 := t; omega
  · have : (0 : Int) = 4 := t; omega
  · have : (0 : Int) = 5 := t; omega
  · have : (0 : Int) = 6 := t; omega
/-- a rule that is read is one -/
theorem rule_ok {T : Nat → Int} {n : Nat} {A : Int} {s : XP} (hT : ∀ i, i < 300 → 0 ≤ T i ∧ T i < 256) (hn : n ≤ 300) (hJ0 : XJ (xs0 A) 0) (e : xRun T n 301 0 (xs0 A) = .inr s) : tcL s.2.2.1 [] = some [true] ∧ tms s.2.2.1 ≤ 30 := by
  obtain ⟨h, h6⟩ := xRun_TI hT hn 301 0 0 (xs0 A) s hJ0 (TI_0 A) (Or.inl (Nat.zero_le _)) (Or.inl (by omega)) e
  refine ⟨h.2.2.2.2.2.2.2.2 h6, ?_⟩
  have h1 := h.2.2.1
  have h2 := h.2.2.2.1
  omega
