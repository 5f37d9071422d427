/-! ===== the reader of rules: a rule read ===== -/
theorem runF_all {p : Int → Bool} {T : Nat → Int} : ∀ (d a j : Nat), a ≤ j → j < runF p T d a → p (T j) = true
  | 0, a, j, h1, h2 => by
    have h3 : j < a := h2
    omega
  | d + 1, a, j, h1, h2 => by
    unfold runF at h2
    split at h2
    · rename_i q
      by_cases e : j = a
      · subst e; exact q
      · exact runF_all d (a + 1) j (by omega) h2
    · omega
theorem wv_bd {T : Nat → Int} {p : Nat} : ∀ k : Nat, (∀ j, j < k → isDb (T (p + j)) = true) → (k ≤ 4 → 0 ≤ wvF T p k ∧ wvF T p k < 10 ^ k) ∧ 0 ≤ wvF T p k ∧ wvF T p k < 10000
  | 0, _ => ⟨fun _ => ⟨Int.le_refl _, by show (0 : Int) < 1; decide⟩, Int.le_refl _, by show (0 : Int) < 10000; decide⟩
  | k + 1, hk => by
    obtain ⟨i1, i2, i3⟩ := wv_bd k (fun j hj => hk j (by omega))
    have hd : 48 ≤ T (p + k) ∧ T (p + k) ≤ 57 := of_decide_eq_true (hk k (by omega))
    unfold wvF
    by_cases q : k < 4
    · rw [if_pos q]
      have h5 := i1 (by omega)
      rcases (show k = 0 ∨ k = 1 ∨ k = 2 ∨ k = 3 by omega) with rfl | rfl | rfl | rfl <;> simp only [Int.reducePow, Nat.reduceAdd] at h5 ⊢ <;> refine ⟨fun _ => ?_, ?_⟩ <;> omega
    · rw [if_neg q]
      exact ⟨fun q2 => by omega, i2, i3⟩
/-- a token's kind and worth are bounded; it ends within the text, behind where it begins -/
def tkB (t : Int × Int × Nat) : Prop := (0 ≤ t.1 ∧ t.1 ≤ 7) ∧ (-1 ≤ t.2.1 ∧ t.2.1 ≤ 9999) ∧ (t.1 = 4 → 0 ≤ t.2.1 ∧ t.2.1 ≤ 3) ∧ (t.1 = 5 → 0 ≤ t.2.1 ∧ t.2.1 ≤ 8) ∧ (t.1 = 3 → 0 ≤ t.2.1 ∧ t.2.1 ≤ 255) ∧ (t.1 = 2 → 0 ≤ t.2.1 ∧ t.2.1 ≤ 9999) ∧ (t.1 = 6 → 0 ≤ t.2.1 ∧ t.2.1 ≤ 255)
theorem wordK_bd (f : Nat → Bool) (q : Nat) : tkB (wordK f q) ∧ (wordK f q).1 ≠ 0 ∧ (wordK f q).2.2 = q := by
  have h1 := actV_bd f
  have h2 := namV_bd f
  have h3 := jntV_bd f
  unfold wordK tkB
  split
  · exact ⟨⟨by (try dsimp only); omega, by dsimp only; omega, fun _ => by dsimp only; omega, fun z => (by cases z), fun z => (by cases z), fun z => (by cases z), fun z => (by cases z)⟩, by (try dsimp only); omega, rfl⟩
  · split
    · exact ⟨⟨by (try dsimp only); omega, by dsimp only; omega, fun z => (by cases z), fun _ => by dsimp only; omega, fun z => (by cases z), fun z => (by cases z), fun z => (by cases z)⟩, by (try dsimp only); omega, rfl⟩
    · split
      · exact ⟨⟨by (try dsimp only); omega, by dsimp only; omega, fun z => (by cases z), fun z => (by cases z), fun z => (by cases z), fun z => (by cases z), fun _ => by dsimp only; omega⟩, by (try dsimp only); omega, rfl⟩
      · exact ⟨⟨by (try dsimp only); omega, by (try dsimp only); omega, fun z => (by cases z), fun z => (by cases z), fun z => (by cases z), fun z => (by cases z), fun z => (by cases z)⟩, by (try dsimp only); omega, rfl⟩
theorem tokF_bd {T : Nat → Int} {n p : Nat} (hT : ∀ i, i < 300 → 0 ≤ T i ∧ T i < 256) (hn : n ≤ 300) (hp : p ≤ n) : tkB (tokF T n p) ∧ (p < n → (tokF T n p).1 ≠ 0 ∧ p < (tokF T n p).2.2 ∧ (tokF T n p).2.2 ≤ n) ∧ (n ≤ p → (tokF T n p).1 = 0 ∧ (tokF T n p).2.1 = 0) := by
  unfold tokF
  by_cases h : n ≤ p
  · rw [if_pos h]
    exact ⟨⟨by (try dsimp only); omega, by (try dsimp only); omega, fun z => (by cases z), fun z => (by cases z), fun z => (by cases z), fun z => (by cases z), fun z => (by cases z)⟩, fun q => by omega, fun _ => ⟨rfl, rfl⟩⟩
  · rw [if_neg h]
    have hTp := hT p (by omega)
    split
    · rename_i hl
      have hr := runF_bd isLb T (n - p) p
      have hgt : p < runF isLb T (n - p) p := by
        obtain ⟨d, hd⟩ : ∃ d, n - p = d + 1 := ⟨n - p - 1, by omega⟩
        rw [hd]
        show p < (if isLb (T p) = true then runF isLb T d (p + 1) else p)
        rw [if_pos hl]
        have := runF_bd isLb T d (p + 1)
        omega
      unfold wordF
      split
      · refine ⟨⟨by (try dsimp only); omega, by dsimp only; omega, fun z => (by cases z), fun z => (by cases z), fun z => (by cases z), fun z => (by cases z), fun z => (by cases z)⟩, fun _ => ⟨by (try dsimp only); omega, by dsimp only; omega, by dsimp only; omega⟩, fun q => by omega⟩
      · obtain ⟨g1, g2, g3⟩ := wordK_bd (spl T n p (runF isLb T (n - p) p)) (runF isLb T (n - p) p)
        exact ⟨g1, fun _ => ⟨g2, by rw [g3]; omega, by rw [g3]; omega⟩, fun q => by omega⟩
    · split
      · rename_i hl
        have hr := runF_bd isDb T (n - p) p
        have hgt : p < runF isDb T (n - p) p := by
          obtain ⟨d, hd⟩ : ∃ d, n - p = d + 1 := ⟨n - p - 1, by omega⟩
          rw [hd]
          show p < (if isDb (T p) = true then runF isDb T d (p + 1) else p)
          rw [if_pos hl]
          have := runF_bd isDb T d (p + 1)
          omega
        have hw := (wv_bd (T := T) (p := p) (runF isDb T (n - p) p - p) (fun j hj => runF_all (n - p) p (p + j) (by omega) (by omega))).2
        unfold wholeF
        refine ⟨⟨by dsimp only; split <;> decide, by dsimp only; omega, fun z => ?_, fun z => ?_, fun z => ?_, fun _ => by dsimp only; omega, fun z => ?_⟩, fun _ => ⟨by dsimp only; split <;> decide, by dsimp only; omega, by dsimp only; omega⟩, fun q => by omega⟩
        · dsimp only at z; split at z <;> cases z
        · dsimp only at z; split at z <;> cases z
        · dsimp only at z; split at z <;> cases z
        · dsimp only at z; split at z <;> cases z
      · refine ⟨⟨by dsimp only; split <;> decide, by dsimp only; omega, fun z => ?_, fun z => ?_, fun z => by dsimp only; omega, fun z => ?_, fun z => ?_⟩, fun _ => ⟨by dsimp only; split <;> decide, by dsimp only; omega, by dsimp only; omega⟩, fun q => by omega⟩
        · dsimp only at z; split at z <;> cases z
        · dsimp only at z; split at z <;> cases z
        · dsimp only at z; split at z <;> cases z
        · dsimp only at z; split at z <;> cases z
/-- what holds behind i tokens -/
def XJ (s : XP) (i : Nat) : Prop := (0 ≤ s.1.1 ∧ s.1.1 ≤ 6) ∧ (s.1.2.1 = 0 ∨ s.1.2.1 = 1) ∧ (0 ≤ s.1.2.2 ∧ s.1.2.2 ≤ 8) ∧ (0 ≤ s.2.1.1 ∧ s.2.1.1 ≤ 8) ∧ (0 ≤ s.2.1.2.1 ∧ s.2.1.2.1 ≤ 30) ∧ SM s.2.2.2 ∧ (s.1.1 ≤ 1 → s.2.2.1.length + s.2.2.2.length = 0) ∧ (2 ≤ s.1.1 → s.2.2.1.length + s.2.2.2.length + 2 ≤ i) ∧ (s.1.1 = 1 → 1 ≤ i) ∧ (1 ≤ s.1.1 → 0 ≤ s.2.1.2.2 ∧ s.2.1.2.2 ≤ 3)
theorem XJ_XB {s : XP} {i : Nat} (h : XJ s i) (hi : i ≤ 300) : XB s := by
  obtain ⟨h1, h2, h3, h4, h5, h6, h7, h8, h9, h10⟩ := h
  exact ⟨h1, h2, h3, h4, h5, by omega, h6⟩
theorem SM_cons {x : Int} {l : List Int} (hx : 0 ≤ x ∧ x ≤ 255) (h : SM l) : SM (x :: l) := fun y hy => (List.mem_cons.mp hy).elim (fun e => e ▸ hx) (h y)
theorem XJ_join {s : XP} {i : Nat} {v ns : Int} (h : XJ s i) (h2 : 2 ≤ s.1.1) (hv : 0 ≤ v ∧ v ≤ 255) (hns : 2 ≤ ns ∧ ns ≤ 6) : XJ (xJoin s v ns) (i + 1) := by
  obtain ⟨g1, g2, g3, g4, g5, g6, g7, g8, g9, g10⟩ := h
  have hl := pwF_len (bnd v) s.2.2.2 s.2.2.1
  have hs := pwF_SM (bnd v) s.2.2.2 s.2.2.1 g6
  have := g8 h2
  refine ⟨⟨by show 0 ≤ ns; omega, hns.2⟩, g2, g3, g4, g5, SM_cons hv hs, fun q => ?_, fun _ => ?_, fun q => ?_, fun _ => g10 (by omega)⟩
  · exact absurd (show ns ≤ 1 from q) (by omega)
  · show (pwF (bnd v) s.2.2.1 s.2.2.2).1.length + ((pwF (bnd v) s.2.2.1 s.2.2.2).2.length + 1) + 2 ≤ i + 1
    omega
  · exact absurd (show ns = 1 from q) (by omega)
theorem XJ_term {s s' : XP} {i : Nat} {k v : Int} (h : XJ s i) (h2 : 2 ≤ s.1.1) (e : xTerm s k v = .inr s') : XJ s' (i + 1) ∧ k ≠ 0 := by
  obtain ⟨g1, g2, g3, g4, g5, g6, g7, g8, g9, g10⟩ := h
  have := g8 h2
  unfold xTerm at e
  split at e
  · cases e
  · split at e
    · cases e
    · split at e
      · cases e
      · cases e
        refine ⟨⟨by (try dsimp only); omega, g2, g3, g4, by dsimp only; omega, g6, fun q => absurd (show (4 : Int) ≤ 1 from q) (by (try dsimp only); omega), fun _ => ?_, fun q => absurd (show (4 : Int) = 1 from q) (by (try dsimp only); omega), fun _ => g10 (by omega)⟩, by omega⟩
        show (s.2.2.1 ++ [_]).length + s.2.2.2.length + 2 ≤ i + 1
        rw [List.length_append]
        simp only [List.length_cons, List.length_nil]
        omega
theorem XJ_behind {s s' : XP} {i : Nat} {k v : Int} (h : XJ s i) (h2 : 2 ≤ s.1.1) (hk : k = 6 → 0 ≤ v ∧ v ≤ 255) (e : xBehind s k v = .inr s') : XJ s' (i + 1) ∧ (k = 0 → s'.1.1 = 6) := by
  have h' := h
  obtain ⟨g1, g2, g3, g4, g5, g6, g7, g8, g9, g10⟩ := h
  have := g8 h2
  unfold xBehind at e
  split at e
  · rename_i q
    cases e
    exact ⟨XJ_join h' h2 (hk q.1) ⟨by (try dsimp only); omega, by (try dsimp only); omega⟩, fun z => by omega⟩
  · split at e
    · rename_i q
      cases e
      have hl := pwF_len 1 s.2.2.2 s.2.2.1
      have hs := pwF_SM 1 s.2.2.2 s.2.2.1 g6
      refine ⟨⟨⟨by (try dsimp only); omega, by (try dsimp only); omega⟩, g2, g3, ⟨by dsimp only; omega, by dsimp only; omega⟩, g5, fun x hx => hs x (List.mem_of_mem_tail hx), fun q => absurd (show (5 : Int) ≤ 1 from q) (by (try dsimp only); omega), fun _ => ?_, fun q => absurd (show (5 : Int) = 1 from q) (by (try dsimp only); omega), fun _ => g10 (by omega)⟩, fun z => by omega⟩
      show (pwF 1 s.2.2.1 s.2.2.2).1.length + (pwF 1 s.2.2.1 s.2.2.2).2.tail.length + 2 ≤ i + 1
      rw [List.length_tail]
      omega
    · split at e
      · cases e
        have hl := pwF_len 0 s.2.2.2 s.2.2.1
        have hs := pwF_SM 0 s.2.2.2 s.2.2.1 g6
        refine ⟨⟨⟨by (try dsimp only); omega, by (try dsimp only); omega⟩, g2, g3, g4, g5, hs, fun q => absurd (show (6 : Int) ≤ 1 from q) (by (try dsimp only); omega), fun _ => ?_, fun q => absurd (show (6 : Int) = 1 from q) (by (try dsimp only); omega), fun _ => g10 (by omega)⟩, fun _ => rfl⟩
        show (pwF 0 s.2.2.1 s.2.2.2).1.length + (pwF 0 s.2.2.1 s.2.2.2).2.length + 2 ≤ i + 1
        omega
      · cases e
/-- a step keeps what holds; the end leads to the end -/
theorem xT_J {s s' : XP} {i : Nat} {t : Int × Int × Nat} (h : XJ s i) (hb : tkB t) (e : xT s t.1 t.2.1 = .inr s') : XJ s' (i + 1) ∧ (t.1 = 0 → s'.1.1 = 6) := by
  have h' := h
  obtain ⟨t1, t2, t3, t4, t5, t6, t7⟩ := hb
  obtain ⟨g1, g2, g3, g4, g5, g6, g7, g8, g9, g10⟩ := h
  unfold xT at e
  split at e
  · rename_i q
    unfold xAct at e
    split at e
    · rename_i q4
      cases e
      have := t3 q4
      exact ⟨⟨⟨by (try dsimp only); omega, by (try dsimp only); omega⟩, g2, g3, g4, g5, g6, fun _ => g7 (by omega), fun q => absurd (show (2 : Int) ≤ 1 from q) (by (try dsimp only); omega), fun _ => by omega, fun _ => this⟩, fun z => by omega⟩
    · cases e
  · split at e
    · rename_i q0 q1
      unfold xIf at e
      split at e
      · rename_i q4
        cases e
        have e0 := g7 (by omega)
        have e1 := g9 q1
        exact ⟨⟨⟨by (try dsimp only); omega, by (try dsimp only); omega⟩, g2, g3, g4, g5, g6, fun q => absurd (show (2 : Int) ≤ 1 from q) (by (try dsimp only); omega), fun _ => by dsimp only; omega, fun q => absurd (show (2 : Int) = 1 from q) (by (try dsimp only); omega), fun _ => g10 (by omega)⟩, fun z => by omega⟩
      · cases e
    · split at e
      · rename_i q0 q1 q2
        have g8' := g8 (by omega)
        have g10' := g10 (by omega)
        unfold xOne at e
        split at e
        · rename_i q4
          split at e
          · cases e
          · cases e
            refine ⟨⟨g1, Or.inl rfl, ⟨by dsimp only; omega, by dsimp only; omega⟩, g4, g5, SM_cons ⟨by (try dsimp only); omega, by (try dsimp only); omega⟩ g6, fun q => absurd (show s.1.1 ≤ 1 from q) (by omega), fun _ => ?_, fun q => absurd (show s.1.1 = 1 from q) (by omega), fun _ => g10'⟩, fun z => by omega⟩
            show s.2.2.1.length + (s.2.2.2.length + 1) + 2 ≤ i + 1
            omega
        · split at e
          · rename_i q4 q5
            split at e
            · cases e
            · cases e
              refine ⟨⟨g1, Or.inl rfl, ⟨by (try dsimp only); omega, by (try dsimp only); omega⟩, ⟨by dsimp only; omega, by dsimp only; omega⟩, g5, SM_cons ⟨by (try dsimp only); omega, by (try dsimp only); omega⟩ g6, fun q => absurd (show s.1.1 ≤ 1 from q) (by omega), fun _ => ?_, fun q => absurd (show s.1.1 = 1 from q) (by omega), fun _ => g10'⟩, fun z => by omega⟩
              show s.2.2.1.length + (s.2.2.2.length + 1) + 2 ≤ i + 1
              omega
          · have hj : XJ ((s.1.1, 0, 0), s.2) i := ⟨g1, Or.inl rfl, ⟨by (try dsimp only); omega, by (try dsimp only); omega⟩, g4, g5, g6, g7, g8, g9, g10⟩
            obtain ⟨a, b⟩ := XJ_term hj (show 2 ≤ s.1.1 by omega) e
            exact ⟨a, fun z => absurd z b⟩
      · split at e
        · obtain ⟨a, b⟩ := XJ_term h' (by omega) e
          exact ⟨a, fun z => absurd z b⟩
        · split at e
          · split at e
            · rename_i q0 q1 q2 q3 q4 qg
              cases e
              have hk3 : t.1 = 3 := by
                unfold xGoes at qg
                rw [Bool.and_eq_true] at qg
                exact of_decide_eq_true qg.1
              have hj : XJ ((s.1.1, if isC t.2.1 = true then 1 else s.1.2.1, s.1.2.2), s.2) i := ⟨g1, by dsimp only; split <;> omega, g3, g4, g5, g6, g7, g8, g9, g10⟩
              exact ⟨XJ_join hj (show 2 ≤ s.1.1 by omega) (t5 hk3) ⟨by (try dsimp only); omega, by (try dsimp only); omega⟩, fun z => by omega⟩
            · split at e
              · exact XJ_behind h' (by omega) t7 e
              · cases e
          · exact XJ_behind h' (by omega) t7 e
/-- the reader's run from a place on: a fault and its place, or where it comes to -/
def xRun (T : Nat → Int) (n : Nat) : Nat → Nat → XP → (Int × Nat) ⊕ XP
  | 0, _, s => .inr s
  | d + 1, a, s => if s.1.1 = 6 then .inr s else
    match xT s (tokF T n (skF T n a)).1 (tokF T n (skF T n a)).2.1 with
    | .inl f => .inl (f, skF T n a)
    | .inr s' => xRun T n d (tokF T n (skF T n a)).2.2 s'
theorem xRun_6 {T : Nat → Int} {n : Nat} {a : Nat} {s : XP} (h : s.1.1 = 6) : ∀ d, xRun T n d a s = .inr s
  | 0 => rfl
  | d + 1 => if_pos h
theorem xRun_l {T : Nat → Int} {n d a : Nat} {s : XP} {f : Int} (h : s.1.1 ≠ 6) (e : xT s (tokF T n (skF T n a)).1 (tokF T n (skF T n a)).2.1 = .inl f) : xRun T n (d + 1) a s = .inl (f, skF T n a) := by
  unfold xRun
  rw [if_neg h, e]
theorem xRun_r {T : Nat → Int} {n d a : Nat} {s s' : XP} (h : s.1.1 ≠ 6) (e : xT s (tokF T n (skF T n a)).1 (tokF T n (skF T n a)).2.1 = .inr s') : xRun T n (d + 1) a s = xRun T n d (tokF T n (skF T n a)).2.2 s' := by
  conv => lhs; unfold xRun
  rw [if_neg h, e]
def xs0 (A : Int) : XP := ((0, 0, 0), (0, 0, A), ([], []))
def F3 (w w' : AW) : Prop := w'.1 = w.1 ∧ w'.2.2 = w.2.2 ∧ ∀ j, j ≠ 23 → j ≠ 24 → j ≠ 25 → w'.2.1 j = w.2.1 j
/-- rule made at place p, its code at p + 1 -/
def mkR (u : AW) (p L : Nat) (act : Int) : AW := upP (upI (coW (alc u p (104, 0)) 24 (p + 1) L) p 0 act) p 1 (some (p + 1))
set_option maxRecDepth 100000 in
set_option maxHeartbeats 4000000 in
theorem c_X4_init (l : Launch) (w : AW) (q c n1 : Nat) (a : Int) (hq : w.1 q = (104, n1)) : HT l yX4_init cX4_init 3 none 1 0 0 w [ar q, ai a, ar c] (rV (upP (upI w q 0 a) q 1 (some c))) := by
  refine HT.of (by decide) (by intro v hv; simp only [List.mem_cons, List.not_mem_nil, or_false] at hv; rcases hv with rfl | rfl | rfl <;> rfl) (Nat.le_of_ble_eq_true rfl) ?_
  intro Γ h hQ hRm hnm hl hw0
  have t1 : (upI w q 0 a).1 q = (104, n1) := hq
  refine g_aload_n h dX4_init_0 rfl ?_
  refine g_objinit h obX4_3 in_obj co_obj rfl (by rw [hRm]; first | decide | (simp only [clS]; omega)) (by rw [hRm]; first | decide | (simp only [clS]; omega)) (fun _ => Nat.le_of_ble_eq_true rfl) dX4_init_1 ?_
  refine g_aload_n h dX4_init_4 rfl ?_
  refine g_iload_n h dX4_init_5 rfl ?_
  refine g_putFI h flX4_9 rfl hnm rfl rfl (by assumption) dX4_init_6 ?_
  refine g_aload_n h dX4_init_9 rfl ?_
  refine g_aload_n h dX4_init_10 rfl ?_
  refine g_putFQ h flX4_15 rfl hnm rfl (Or.inr ⟨_, rfl⟩) (by assumption) dX4_init_11 ?_
  refine g_vret h hQ (by first | decide | omega | (simp only [clS]; omega)) (by first | decide | omega | (simp only [clS]; omega)) ?_ dX4_init_14
  (first | exact ⟨rfl, rfl⟩ | (exfalso; omega))
