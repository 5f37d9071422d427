/-! ===== M: what its tests of a token say ===== -/
theorem alB_all {f : Nat → Bool} : ∀ n, allB f n = true → ∀ i, i < n → f i = true
  | 0, _, i, hi => absurd hi (Nat.not_lt_zero _)
  | n + 1, h, i, hi => by
    cases e : f i with
    | true => rfl
    | false => exact absurd h (by rw [allB_up e (n + 1) hi]; decide)
theorem alB_of {f : Nat → Bool} (n : Nat) (h : ∀ i, i < n → f i = true) : allB f n = true := by
  have e : allB f n = allB (fun _ => true) n := allB_congr n h
  rw [e]
  clear e h
  induction n with
  | zero => rfl
  | succ n ih =>
    unfold allB
    rw [ih]
    rfl
theorem wd_wc {T : Nat → Int} {p i : Nat} (hi : i < 34) : ∀ m n : Nat, n ≤ slen i → (∀ j, j < m → 97 ≤ T (p + j) ∧ T (p + j) ≤ 122) → (wdF T p m = wcF i n ↔ m = n ∧ ∀ j, j < m → T (p + j) = sch i j)
  | 0, 0, _, _ => ⟨fun _ => ⟨rfl, fun _ h => absurd h (Nat.not_lt_zero _)⟩, fun _ => rfl⟩
  | m + 1, 0, _, h => by
    have h1 := wdF_bd (T := T) (p := p) m (fun j hj => h j (by omega))
    have h2 := h m (by omega)
    refine ⟨fun q => ?_, fun q => by omega⟩
    have q2 : 32 * wdF T p m + (T (p + m) - 97 + 1) = 0 := q
    omega
  | 0, n + 1, hn, _ => by
    have h2 := sch_az i hi n (by omega)
    refine ⟨fun q => ?_, fun q => by omega⟩
    have q2 : (0 : Int) = 32 * wcF i n + (sch i n - 97 + 1) := q
    have h1 : ∀ k, k ≤ slen i → 0 ≤ wcF i k := by
      intro k
      induction k with
      | zero => intro _; exact Int.le_refl _
      | succ k ih =>
        intro hk
        have := ih (by omega)
        have := sch_az i hi k (by omega)
        show 0 ≤ 32 * wcF i k + (sch i k - 97 + 1)
        omega
    have := h1 n (by omega)
    omega
  | m + 1, n + 1, hn, h => by
    have ih := wd_wc hi m n (by omega) (fun j hj => h j (by omega))
    have h2 := sch_az i hi n (by omega)
    have h3 := h m (by omega)
    show (32 * wdF T p m + (T (p + m) - 97 + 1) = 32 * wcF i n + (sch i n - 97 + 1)) ↔ _
    constructor
    · intro q
      obtain ⟨a, b⟩ := ih.1 (by omega)
      refine ⟨by omega, fun j hj => ?_⟩
      by_cases c : j < m
      · exact b j c
      · obtain rfl : j = m := by omega
        rw [← a] at q h2
        have q2 := ih.2 ⟨a, b⟩
        rw [← a] at q2
        omega
    · rintro ⟨a, b⟩
      have e : m = n := by omega
      have q2 := ih.2 ⟨e, fun j hj => b j (by omega)⟩
      have q3 := b m (by omega)
      rw [e] at q2 q3 ⊢
      rw [q2, q3]
/-- M's constant of the reader as X's -/
def xi (i : Nat) : Nat := if i = 17 then 13 else if i = 18 then 14 else if i = 19 then 15 else if i = 20 then 16 else i - 21
theorem xi_str : ∀ i, i < 34 → 17 ≤ i → slen (xi i) = slen i ∧ xi i < 17 ∧ ∀ k, k < slen i → sch (xi i) k = sch i k := by decide +kernel
theorem tok4 {T : Nat → Int} {n p : Nat} (h : 4 ≤ (tokF T n p).1) : tokF T n p = wordK (spl T n p (tokF T n p).2.2) (tokF T n p).2.2 ∧ p < n ∧ p ≤ (tokF T n p).2.2 ∧ (tokF T n p).2.2 ≤ n ∧ ∀ j, p ≤ j → j < (tokF T n p).2.2 → 97 ≤ T j ∧ T j ≤ 122 := by
  have hb := runF_bd isLb T (n - p) p
  have hall := fun j => runF_all (p := isLb) (T := T) (n - p) p j
  revert h
  unfold tokF
  split
  · intro h; exact absurd (show (4 : Int) ≤ 0 from h) (by decide)
  · split
    · unfold wordF
      split
      · intro h; exact absurd (show (4 : Int) ≤ 1 from h) (by decide)
      · intro _
        rw [wordK_e]
        exact ⟨rfl, by omega, hb.1, by omega, fun j a b => of_decide_eq_true (hall j a b)⟩
    · split
      · unfold wholeF
        intro h
        exfalso
        revert h
        show 4 ≤ (if _ then (1 : Int) else 2) → False
        split
        · decide
        · decide
      · intro h
        exfalso
        revert h
        show 4 ≤ (if _ then (3 : Int) else 1) → False
        split
        · decide
        · decide
theorem spl_iff {T : Nat → Int} {n p q i : Nat} (hpq : p ≤ q) (hq : q ≤ n) : spl T n p q i = true ↔ q - p = slen i ∧ ∀ j, j < slen i → T (p + j) = sch i j := by
  unfold spl
  rw [Bool.and_eq_true]
  have hb : q - p = slen i → ∀ j, j < slen i → bA T n ((p : Int) + (j : Int)) = T (p + j) := by
    intro e j hj
    unfold bA
    rw [if_pos ⟨by omega, by omega⟩, show ((p : Int) + (j : Int)).toNat = p + j by omega]
  constructor
  · rintro ⟨a, b⟩
    have a2 : (q : Int) - (p : Int) = (slen i : Int) := of_decide_eq_true a
    have a3 : q - p = slen i := by omega
    refine ⟨a3, fun j hj => ?_⟩
    rw [← hb a3 j hj]
    exact of_decide_eq_true (alB_all _ b j hj)
  · rintro ⟨a, b⟩
    refine ⟨decide_eq_true (by omega), alB_of _ (fun j hj => decide_eq_true ?_)⟩
    rw [hb a j hj]
    exact b j hj
theorem str_inj : ∀ i, i < 17 → ∀ j, j < 17 → slen i = slen j → (∀ k, k < slen i → sch i k = sch j k) → i = j := by decide +kernel
theorem spl_inj {T : Nat → Int} {n p q : Nat} (hpq : p ≤ q) (hq : q ≤ n) : ∀ i j, i < 17 → j < 17 → spl T n p q i = true → spl T n p q j = true → i = j := by
  intro i j hi hj h1 h2
  rw [spl_iff hpq hq] at h1 h2
  refine str_inj i hi j hj (by omega) (fun k hk => ?_)
  rw [← h1.2 k hk, ← h2.2 k (by omega)]
/-- the kind and worth of X's constant -/
def kc (i : Nat) : Int × Int := (if i < 4 then 4 else if i < 13 then 5 else 6, if i < 4 then (i : Int) else if i < 13 then (i : Int) - 4 else if i = 13 then 105 else if i = 14 then 38 else if i = 15 then 124 else 33)
theorem kc_inj : ∀ i, i < 17 → ∀ j, j < 17 → kc i = kc j → i = j := by decide +kernel
theorem kc_7 : ∀ i, i < 17 → (kc i).1 ≠ 7 := by decide +kernel
theorem wk_of {f : Nat → Bool} {q : Nat} : ∀ i, i < 17 → f i = true → (∀ j, j < 17 → j ≠ i → f j = false) → wordK f q = ((kc i).1, (kc i).2, q) := by
  intro i hi hf hn
  have e : ∀ j, j < 17 → f j = decide (j = i) := by
    intro j hj
    by_cases c : j = i
    · rw [c, hf]; exact (decide_eq_true rfl).symm
    · rw [hn j hj c]; exact (decide_eq_false c).symm
  unfold wordK actV namV jntV
  rw [e 0 (by decide), e 1 (by decide), e 2 (by decide), e 3 (by decide), e 4 (by decide), e 5 (by decide), e 6 (by decide), e 7 (by decide), e 8 (by decide), e 9 (by decide), e 10 (by decide), e 11 (by decide), e 12 (by decide), e 13 (by decide), e 14 (by decide), e 15 (by decide), e 16 (by decide)]
  clear e hn hf
  rcases (show i = 0 ∨ i = 1 ∨ i = 2 ∨ i = 3 ∨ i = 4 ∨ i = 5 ∨ i = 6 ∨ i = 7 ∨ i = 8 ∨ i = 9 ∨ i = 10 ∨ i = 11 ∨ i = 12 ∨ i = 13 ∨ i = 14 ∨ i = 15 ∨ i = 16 by omega) with rfl | rfl | rfl | rfl | rfl | rfl | rfl | rfl | rfl | rfl | rfl | rfl | rfl | rfl | rfl | rfl | rfl <;> rfl
theorem wk_no {f : Nat → Bool} {q : Nat} (hn : ∀ j, j < 17 → f j = false) : wordK f q = (7, -1, q) := by
  unfold wordK actV namV jntV
  rw [hn 0 (by decide), hn 1 (by decide), hn 2 (by decide), hn 3 (by decide), hn 4 (by decide), hn 5 (by decide), hn 6 (by decide), hn 7 (by decide), hn 8 (by decide), hn 9 (by decide), hn 10 (by decide), hn 11 (by decide), hn 12 (by decide), hn 13 (by decide), hn 14 (by decide), hn 15 (by decide), hn 16 (by decide)]
  rfl
theorem wk_iff {f : Nat → Bool} {q : Nat} (hx : ∀ i j, i < 17 → j < 17 → f i = true → f j = true → i = j) {i : Nat} (hi : i < 17) : f i = true ↔ ((wordK f q).1 = (kc i).1 ∧ (wordK f q).2.1 = (kc i).2) := by
  have hne : ∀ i, i < 17 → f i = true → ∀ j, j < 17 → j ≠ i → f j = false := by
    intro i hi h j hj c
    cases e : f j with
    | false => rfl
    | true => exact absurd (hx j i hj hi e h) c
  constructor
  · intro h
    rw [wk_of i hi h (hne i hi h)]
    exact ⟨rfl, rfl⟩
  · intro h
    by_cases c : ∃ j, j < 17 ∧ f j = true
    · obtain ⟨j, hj, hf⟩ := c
      rw [wk_of j hj hf (hne j hj hf)] at h
      have e : kc j = kc i := Prod.ext h.1 h.2
      rw [← kc_inj j hj i hi e]
      exact hf
    · have hn : ∀ j, j < 17 → f j = false := by
        intro j hj
        cases e : f j with
        | false => rfl
        | true => exact absurd ⟨j, hj, e⟩ c
      rw [wk_no hn] at h
      exact absurd h.1.symm (kc_7 i hi)
theorem srt_2 (k : Int) : srt k = 2 ↔ ¬ (k = 0 ∨ k = 1 ∨ k = 2 ∨ k = 3) := by
  unfold srt
  repeat (first | omega | split)
theorem tkw {w : AW} {T : Nat → Int} {n p : Nat} (hT : RT w T n) (hk : TKs w T n p) (hp : p ≤ n) (i : Nat) (hi : i < 34) (hi2 : 17 ≤ i) : (w.2.1 400 50 = 2 ∧ w.2.1 400 56 = wcF i (slen i)) ↔ ((tokF T n p).1 = (kc (xi i)).1 ∧ (tokF T n p).2.1 = (kc (xi i)).2) := by
  obtain ⟨h1, h2, h3, h4, h5, h6, h7⟩ := hk
  obtain ⟨x1, x2, x3⟩ := xi_str i hi hi2
  have hb := (tokF_bd (T := T) hT.2.2.2.2 hT.2.2.1 hp).1.1
  rw [h2, srt_2]
  by_cases c : 4 ≤ (tokF T n p).1
  · obtain ⟨t1, t2, t3, t4, t5⟩ := tok4 c
    have h8 := (h5 c).1
    have hx := spl_inj (T := T) t3 t4
    have hw := wd_wc (T := T) (p := p) hi ((tokF T n p).2.2 - p) (slen i) (Nat.le_refl _) (fun j hj => t5 (p + j) (by omega) (by omega))
    have hz := wk_iff (q := (tokF T n p).2.2) hx x2
    rw [← t1, spl_iff t3 t4, x1] at hz
    rw [h8, hw, ← hz]
    constructor
    · rintro ⟨-, a, b⟩
      exact ⟨a, fun j hj => by rw [x3 j hj]; exact b j (by omega)⟩
    · rintro ⟨a, b⟩
      exact ⟨by omega, a, fun j hj => by rw [← x3 j (by omega)]; exact b j (by omega)⟩
  · have h9 : ∀ j, j < 17 → 4 ≤ (kc j).1 := by decide +kernel
    have h10 := h9 (xi i) x2
    constructor
    · rintro ⟨a, -⟩; omega
    · rintro ⟨a, -⟩; omega
theorem tkm {w : AW} {T : Nat → Int} {n p : Nat} (hT : RT w T n) (hk : TKs w T n p) (hp : p ≤ n) (c : Int) : (w.2.1 400 50 = 4 ∧ w.2.1 400 52 = c) ↔ ((tokF T n p).1 = 3 ∧ (tokF T n p).2.1 = c) := by
  obtain ⟨h1, h2, h3, h4, h5, h6, h7⟩ := hk
  have hb := (tokF_bd (T := T) hT.2.2.2.2 hT.2.2.1 hp).1.1
  rw [h2, h4]
  by_cases e : (tokF T n p).1 = 3
  · rw [if_pos e, e]
    exact ⟨fun q => ⟨rfl, q.2⟩, fun q => ⟨rfl, q.2⟩⟩
  · refine ⟨fun q => absurd q.1 ?_, fun q => absurd q.1 e⟩
    unfold srt
    repeat (first | omega | split)
theorem nh_tk {w : AW} {T : Nat → Int} {n p : Nat} (hT : RT w T n) (hk : TKs w T n p) (hp : p ≤ n) : nhM w = if (tokF T n p).1 = 5 then (tokF T n p).2.1 else -1 := by
  have hb := (tokF_bd (T := T) hT.2.2.2.2 hT.2.2.1 hp).1
  have h5 := hb.2.2.2.1
  have e0 : _ ↔ ((tokF T n p).1 = 5 ∧ (tokF T n p).2.1 = 0) := tkw hT hk hp 25 (by decide) (by decide)
  have e1 : _ ↔ ((tokF T n p).1 = 5 ∧ (tokF T n p).2.1 = 1) := tkw hT hk hp 26 (by decide) (by decide)
  have e2 : _ ↔ ((tokF T n p).1 = 5 ∧ (tokF T n p).2.1 = 2) := tkw hT hk hp 27 (by decide) (by decide)
  have e3 : _ ↔ ((tokF T n p).1 = 5 ∧ (tokF T n p).2.1 = 3) := tkw hT hk hp 28 (by decide) (by decide)
  have e4 : _ ↔ ((tokF T n p).1 = 5 ∧ (tokF T n p).2.1 = 4) := tkw hT hk hp 29 (by decide) (by decide)
  have e5 : _ ↔ ((tokF T n p).1 = 5 ∧ (tokF T n p).2.1 = 5) := tkw hT hk hp 30 (by decide) (by decide)
  have e6 : _ ↔ ((tokF T n p).1 = 5 ∧ (tokF T n p).2.1 = 6) := tkw hT hk hp 31 (by decide) (by decide)
  have e7 : _ ↔ ((tokF T n p).1 = 5 ∧ (tokF T n p).2.1 = 7) := tkw hT hk hp 32 (by decide) (by decide)
  have e8 : _ ↔ ((tokF T n p).1 = 5 ∧ (tokF T n p).2.1 = 8) := tkw hT hk hp 33 (by decide) (by decide)
  unfold nhM
  simp only [e0, e1, e2, e3, e4, e5, e6, e7, e8]
  generalize (tokF T n p).1 = k at *
  generalize (tokF T n p).2.1 = v at *
  by_cases c : k = 5
  · have := h5 c
    rw [if_pos c]
    repeat (first | omega | split)
  · rw [if_neg c]
    repeat (first | omega | split)
