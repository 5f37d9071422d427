/-! ===== the class: the best by so many moves: its worlds ===== -/
theorem spR_hi : ∀ (k : Nat) (r : Int) (f : Nat → Int) (j : Nat), k ≤ j → spR k r f j = f j
  | 0, _, _, _, _ => rfl
  | k + 1, r, f, j, h => (spR_hi k (r / 10) (uI f k (r % 10)) j (by omega)).trans (if_neg (by omega))
theorem spR_bd : ∀ (k : Nat) (r : Int) (f : Nat → Int) (j : Nat), j < k → 0 ≤ spR k r f j ∧ spR k r f j < 10
  | 0, _, _, _, h => by omega
  | k + 1, r, f, j, h => by
    by_cases hj : j < k
    · exact spR_bd k (r / 10) (uI f k (r % 10)) j hj
    · obtain rfl : j = k := by omega
      have e : spR (j + 1) r f j = r % 10 := (spR_hi j (r / 10) (uI f j (r % 10)) j (Nat.le_refl _)).trans (if_pos rfl)
      rw [e]
      omega
/-- the spare with the first i layers tried -/
def tyA (w : AW) (n : Nat) (f : Nat → Int) : Nat → AW
  | 0 => w
  | i + 1 => tryW (tyA w n f i) sq n i (f i)
theorem tryW_lo {w : AW} {n i j : Nat} {z : Int} (hj : j < 56) : (tryW w sq n i z).2.1 j = w.2.1 j := by
  unfold tryW
  split
  · exact sR_ne _ _ (by unfold sq; omega)
  · rfl
theorem tryW_1 (w : AW) (q : Nat → Nat) (n i : Nat) (z : Int) : (tryW w q n i z).1 = w.1 ∧ (tryW w q n i z).2.2 = w.2.2 := by
  unfold tryW
  split
  · exact ⟨rfl, rfl⟩
  · exact ⟨rfl, rfl⟩
theorem tyA_lo (w : AW) (n : Nat) (f : Nat → Int) : ∀ (i j : Nat), j < 56 → (tyA w n f i).2.1 j = w.2.1 j
  | 0, _, _ => rfl
  | i + 1, j, h => (tryW_lo h).trans (tyA_lo w n f i j h)
theorem tyA_1 (w : AW) (n : Nat) (f : Nat → Int) : ∀ (i : Nat), (tyA w n f i).1 = w.1 ∧ (tyA w n f i).2.2 = w.2.2
  | 0 => ⟨rfl, rfl⟩
  | i + 1 => ⟨(tryW_1 _ _ _ _ _).1.trans (tyA_1 w n f i).1, (tryW_1 _ _ _ _ _).2.trans (tyA_1 w n f i).2⟩
theorem tyA_ok {w : AW} {n : Nat} {f : Nat → Int} (hX : XS w) (hN : LN w 2) (hP : PQ w 2 n sq) (hf : ∀ j, j < n → 0 ≤ f j ∧ f j < 10) : ∀ i, XS (tyA w n f i) ∧ LN (tyA w n f i) 2 ∧ PQ (tyA w n f i) 2 n sq
  | 0 => ⟨hX, hN, hP⟩
  | i + 1 => by
    obtain ⟨a, b, c⟩ := tyA_ok hX hN hP hf i
    exact tryW_ok (show 2 < 3 by omega) a b c (hf i)
/-- the days to below: never, or a day that is tried -/
theorem dtb_bd {L n : Nat} {q : Nat → Nat} {share : Int} : ∀ (d : Nat) (day : Int) (w : AW), 1 ≤ day → (dtb L n q share d day w).1 = -2 ∨ (1 ≤ (dtb L n q share d day w).1 ∧ (dtb L n q share d day w).1 < day + d)
  | 0, _, _, _ => Or.inl rfl
  | d + 1, day, w, h => by
    unfold dtb
    split
    · exact Or.inl rfl
    · split
      · exact Or.inr ⟨h, by show day < _; omega⟩
      · rcases dtb_bd d (day + 1) (goW w L n q) (by omega) with e | ⟨e1, e2⟩
        · exact Or.inl e
        · exact Or.inr ⟨e1, by omega⟩
/-- one try -/
def bmT (w : AW) (n : Nat) (t : Int) : AW := sR w 18 (spR n t (w.2.1 18))
def bmD (w : AW) (L S n : Nat) (q : Nat → Nat) (share t least : Int) : Int × AW :=
  dtb 2 n sq share (least - 1).toNat 1 (tyA (bcP (bcB (bmT w n t) L) S q n) n ((bmT w n t).2.1 18) n)
def kpW (w : AW) (n : Nat) : AW := upI (sR w 19 (cpR (w.2.1 19) (w.2.1 18) 3)) 0 6 (n : Int)
/-- the best of so many tries from a try on: the days, the world, the spare's pipes made -/
def bmF (L n : Nat) (q : Nat → Nat) (share m : Int) : Nat → Int → Int → Nat → AW → Int × AW × Nat
  | 0, _, least, S, w => (least, w, S)
  | d + 1, t, least, S, w => if least ≤ 1 then (least, w, S) else
    if movS (bmT w n t) q ((bmT w n t).2.1 18) n = m then
      if (bmD w L S n q share t least).1 = -2 then bmF L n q share m d (t + 1) least (max S n) (bmD w L S n q share t least).2
      else bmF L n q share m d (t + 1) (bmD w L S n q share t least).1 (max S n) (kpW (bmD w L S n q share t least).2 n)
    else bmF L n q share m d (t + 1) least S (bmT w n t)
