/-! ===== a day goes by, by X and by M ===== -/
theorem psP_433 (u : AW) (L : Nat) : ∀ p j, (psP u L p).2.1 433 j = if j < p ∧ u.2.1 429 j = (L : Int) then u.2.1 433 j + u.2.1 424 j else u.2.1 433 j
  | 0, j => (if_neg (by omega)).symm
  | p + 1, j => by
    have h := psP_433 u L p
    by_cases q : u.2.1 429 p = (L : Int)
    · rw [show psP u L (p + 1) = upI (upI (upI (psP u L p) 435 p (u.2.1 425 p)) 433 p ((psP u L p).2.1 433 p + u.2.1 424 p)) 416 L ((psP u L p).2.1 416 L + u.2.1 424 p) from if_pos q]
      rw [upI_o _ _ _ (by decide)]
      show uI ((psP u L p).2.1 433) p ((psP u L p).2.1 433 p + u.2.1 424 p) j = _
      by_cases e : j = p
      · subst e
        rw [uI_at, h j, if_neg (by omega), if_pos ⟨by omega, q⟩]
      · rw [uI_ne _ _ e, h j]
        by_cases e2 : j < p ∧ u.2.1 429 j = (L : Int)
        · rw [if_pos e2, if_pos ⟨by omega, e2.2⟩]
        · rw [if_neg e2, if_neg (fun q2 => e2 ⟨by omega, q2.2⟩)]
    · rw [show psP u L (p + 1) = psP u L p from if_neg q, h j]
      by_cases e2 : j < p ∧ u.2.1 429 j = (L : Int)
      · rw [if_pos e2, if_pos ⟨by omega, e2.2⟩]
      · rw [if_neg e2, if_neg (fun q2 => e2 ⟨by
          rcases Nat.lt_or_ge j p with a | a
          · exact a
          · obtain rfl : j = p := by omega
            exact absurd q2.2 q, q2.2⟩)]
theorem psP_416 (u : AW) (L : Nat) : ∀ p j, (psP u L p).2.1 416 j = if j = L then u.2.1 416 L + ofS (u.2.1 429) L (u.2.1 424) p else u.2.1 416 j
  | 0, j => by
    show u.2.1 416 j = if j = L then u.2.1 416 L + 0 else u.2.1 416 j
    split
    · rename_i e; rw [e, Int.add_zero]
    · rfl
  | p + 1, j => by
    have h := psP_416 u L p
    by_cases q : u.2.1 429 p = (L : Int)
    · rw [show psP u L (p + 1) = upI (upI (upI (psP u L p) 435 p (u.2.1 425 p)) 433 p ((psP u L p).2.1 433 p + u.2.1 424 p)) 416 L ((psP u L p).2.1 416 L + u.2.1 424 p) from if_pos q]
      show uI ((psP u L p).2.1 416) L ((psP u L p).2.1 416 L + u.2.1 424 p) j = _
      rw [show ofS (u.2.1 429) L (u.2.1 424) (p + 1) = ofS (u.2.1 429) L (u.2.1 424) p + u.2.1 424 p from if_pos q]
      by_cases e : j = L
      · rw [e, uI_at, h L, if_pos rfl, if_pos rfl, Int.add_assoc]
      · rw [uI_ne _ _ e, h j, if_neg e, if_neg e]
    · rw [show psP u L (p + 1) = psP u L p from if_neg q, show ofS (u.2.1 429) L (u.2.1 424) (p + 1) = ofS (u.2.1 429) L (u.2.1 424) p from if_neg q]
      exact h j
/-- M's lake at a day's end -/
def mU (u : AW) (L np : Nat) : AW := mdW (pz1 u L np) L np
theorem mU_o (u : AW) (L np : Nat) {j : Nat} (h : noH j) : (mU u L np).2.1 j = (upI u 415 L (u.2.1 415 L + u.2.1 412 L)).2.1 j := by
  unfold mU
  rw [md_o _ _ _ (Or.inl h)]
  unfold pz1
  by_cases e : j = 415
  · subst e
    rw [upI_at, upI_at, (MF_tk u L np).2.2.1 415 h]
  · rw [upI_o _ _ _ e, upI_o _ _ _ e, (MF_tk u L np).2.2.1 j h]
theorem pz3_r (u : AW) (L np : Nat) {j : Nat} (h7 : j ≠ 407) (h8 : j ≠ 408) (h9 : j ≠ 409) (h17 : j ≠ 417) : (pz3 u L np).2.1 j = (mU u L np).2.1 j := by
  unfold pz3 pz2
  rw [upI_o _ _ _ h17, lyW_o _ _ _ h7 h8 h9]
  rfl
theorem pzW_c (u : AW) (L np : Nat) : (pzW u L np).2.1 407 = lyF (u.2.1 407) ((mU u L np).2.1 420) L 10 ∧ (pzW u L np).2.1 408 = lyF (u.2.1 408) ((mU u L np).2.1 421) L 10 ∧ (pzW u L np).2.1 409 = lyF (u.2.1 409) ((mU u L np).2.1 422) L 10 := by
  have e7 : (mU u L np).2.1 407 = u.2.1 407 := mU_o u L np ⟨by decide, by decide, by decide, by decide, by decide, by decide, by decide⟩
  have e8 : (mU u L np).2.1 408 = u.2.1 408 := mU_o u L np ⟨by decide, by decide, by decide, by decide, by decide, by decide, by decide⟩
  have e9 : (mU u L np).2.1 409 = u.2.1 409 := mU_o u L np ⟨by decide, by decide, by decide, by decide, by decide, by decide, by decide⟩
  unfold pzW
  rw [pz4_o _ _ _ (by decide) (by decide) (by decide), pz4_o _ _ _ (by decide) (by decide) (by decide), pz4_o _ _ _ (by decide) (by decide) (by decide), psP_o _ _ (by decide) (by decide) (by decide), psP_o _ _ (by decide) (by decide) (by decide), psP_o _ _ (by decide) (by decide) (by decide)]
  rw [← e7, ← e8, ← e9]
  exact ⟨rfl, rfl, rfl⟩
theorem pzW_15 (u : AW) (L np j : Nat) : (pzW u L np).2.1 415 j = if j = L then u.2.1 415 L + u.2.1 412 L else u.2.1 415 j := by
  unfold pzW
  rw [pz4_o _ _ _ (by decide) (by decide) (by decide), psP_o _ _ (by decide) (by decide) (by decide), pz3_r _ _ _ (by decide) (by decide) (by decide) (by decide), mU_o u L np ⟨by decide, by decide, by decide, by decide, by decide, by decide, by decide⟩, upI_at]
theorem pzW_17 (u : AW) (L np j : Nat) : (pzW u L np).2.1 417 j = if j = L then u.2.1 417 L + (mU u L np).2.1 400 26 else u.2.1 417 j := by
  have e : (pz2 u L np).2.1 417 = u.2.1 417 := by
    unfold pz2
    rw [lyW_o _ _ _ (by decide) (by decide) (by decide)]
    exact mU_o u L np ⟨by decide, by decide, by decide, by decide, by decide, by decide, by decide⟩
  have e2 : (pz2 u L np).2.1 400 = (mU u L np).2.1 400 := lyW_o _ _ _ (by decide) (by decide) (by decide)
  unfold pzW
  rw [pz4_o _ _ _ (by decide) (by decide) (by decide), psP_o _ _ (by decide) (by decide) (by decide)]
  unfold pz3
  rw [upI_at, e, e2]
theorem pzW_16 (u : AW) (L np j : Nat) : (pzW u L np).2.1 416 j = if j = L then u.2.1 416 L + ofS (u.2.1 429) L ((mU u L np).2.1 424) np else u.2.1 416 j := by
  have e : (pz3 u L np).2.1 416 = u.2.1 416 := by rw [pz3_r _ _ _ (by decide) (by decide) (by decide) (by decide)]; exact mU_o u L np ⟨by decide, by decide, by decide, by decide, by decide, by decide, by decide⟩
  have e2 : (pz3 u L np).2.1 429 = u.2.1 429 := by rw [pz3_r _ _ _ (by decide) (by decide) (by decide) (by decide)]; exact mU_o u L np ⟨by decide, by decide, by decide, by decide, by decide, by decide, by decide⟩
  unfold pzW
  rw [pz4_o _ _ _ (by decide) (by decide) (by decide), psP_416, e, e2, pz3_r _ _ _ (by decide) (by decide) (by decide) (by decide) (j := 424)]
theorem pzW_35 (u : AW) (L np j : Nat) : (pzW u L np).2.1 435 j = (if j < np ∧ u.2.1 429 j = (L : Int) then (mU u L np).2.1 425 j else u.2.1 435 j) ∧ (pzW u L np).2.1 433 j = (if j < np ∧ u.2.1 429 j = (L : Int) then u.2.1 433 j + (mU u L np).2.1 424 j else u.2.1 433 j) := by
  have r := fun (j : Nat) (h : noH j) (h5 : j ≠ 415) => (show (mU u L np).2.1 j = u.2.1 j by rw [mU_o u L np h, upI_o _ _ _ h5])
  have e2 : (pz3 u L np).2.1 429 = u.2.1 429 := by rw [pz3_r _ _ _ (by decide) (by decide) (by decide) (by decide)]; exact r 429 ⟨by decide, by decide, by decide, by decide, by decide, by decide, by decide⟩ (by decide)
  have e3 : (pz3 u L np).2.1 433 = u.2.1 433 := by rw [pz3_r _ _ _ (by decide) (by decide) (by decide) (by decide)]; exact r 433 ⟨by decide, by decide, by decide, by decide, by decide, by decide, by decide⟩ (by decide)
  have e5 : (pz3 u L np).2.1 435 = u.2.1 435 := by rw [pz3_r _ _ _ (by decide) (by decide) (by decide) (by decide)]; exact r 435 ⟨by decide, by decide, by decide, by decide, by decide, by decide, by decide⟩ (by decide)
  unfold pzW
  rw [pz4_o _ _ _ (by decide) (by decide) (by decide), pz4_o _ _ _ (by decide) (by decide) (by decide), psP_r, psP_433, e2, e3, e5, pz3_r _ _ _ (by decide) (by decide) (by decide) (by decide) (j := 424), pz3_r _ _ _ (by decide) (by decide) (by decide) (by decide) (j := 425)]
  exact ⟨rfl, rfl⟩
theorem pzW_b (u : AW) (L np : Nat) : (∀ j, (pzW u L np).2.1 418 j = if j = L ∧ mdB (pz1 u L np) L np = 1 then u.2.1 418 L + (mU u L np).2.1 400 27 else u.2.1 418 j) ∧ (∀ j, (pzW u L np).2.1 419 j = if j = L ∧ mdB (pz1 u L np) L np = 1 then (mU u L np).2.1 400 27 else u.2.1 419 j) ∧ (pzW u L np).2.1 400 5 = u.2.1 400 5 + mdB (pz1 u L np) L np := by
  have r := fun (j : Nat) (h : noH j) (h5 : j ≠ 415) => (show (mU u L np).2.1 j = u.2.1 j by rw [mU_o u L np h, upI_o _ _ _ h5])
  have e18 : (psP (pz3 u L np) L np).2.1 418 = u.2.1 418 := by rw [psP_o _ _ (by decide) (by decide) (by decide), pz3_r _ _ _ (by decide) (by decide) (by decide) (by decide)]; exact r 418 ⟨by decide, by decide, by decide, by decide, by decide, by decide, by decide⟩ (by decide)
  have e19 : (psP (pz3 u L np) L np).2.1 419 = u.2.1 419 := by rw [psP_o _ _ (by decide) (by decide) (by decide), pz3_r _ _ _ (by decide) (by decide) (by decide) (by decide)]; exact r 419 ⟨by decide, by decide, by decide, by decide, by decide, by decide, by decide⟩ (by decide)
  have e27 : (psP (pz3 u L np) L np).2.1 400 27 = (mU u L np).2.1 400 27 := by rw [psP_o _ _ (by decide) (by decide) (by decide), pz3_r _ _ _ (by decide) (by decide) (by decide) (by decide)]
  have e5 : (psP (pz3 u L np) L np).2.1 400 5 = u.2.1 400 5 := by rw [psP_o _ _ (by decide) (by decide) (by decide)]; exact pz3_28 _ _ _ _ (by decide) (by decide)
  unfold pzW
  generalize psP (pz3 u L np) L np = V at *
  generalize mU u L np = U at *
  rcases mdB_01 (pz1 u L np) L np with hb | hb
  · rw [hb]
    unfold pz4
    rw [if_neg (by decide)]
    refine ⟨fun j => ?_, fun j => ?_, ?_⟩
    · rw [e18, if_neg (by omega)]
    · rw [e19, if_neg (by omega)]
    · rw [e5, Int.add_zero]
  · rw [hb]
    unfold pz4
    rw [if_pos rfl]
    refine ⟨fun j => ?_, fun j => ?_, ?_⟩
    · show uI (V.2.1 418) L (V.2.1 418 L + V.2.1 400 27) j = _
      rw [e18, e27]
      by_cases e : j = L
      · rw [e, uI_at, if_pos ⟨rfl, rfl⟩]
      · rw [uI_ne _ _ e, if_neg (fun q => e q.1)]
    · show uI (V.2.1 419) L (V.2.1 400 27) j = _
      rw [e19, e27]
      by_cases e : j = L
      · rw [e, uI_at, if_pos ⟨rfl, rfl⟩]
      · rw [uI_ne _ _ e, if_neg (fun q => e q.1)]
    · show uI (V.2.1 400) 5 (V.2.1 400 5 + 1) 5 = _
      rw [uI_at, e5]
