/-! ===== M: a token is read ===== -/
def fN (f : Nat) : Prop := f = 49 ∨ f = 50 ∨ f = 51 ∨ f = 52 ∨ f = 53 ∨ f = 56
def MX (w u : AW) : Prop := u.1 = w.1 ∧ u.2.2 = w.2.2 ∧ (∀ j, j ≠ 400 → u.2.1 j = w.2.1 j) ∧ ∀ f, ¬ fN f → u.2.1 400 f = w.2.1 400 f
theorem MX_rfl (w : AW) : MX w w := ⟨rfl, rfl, fun _ _ => rfl, fun _ _ => rfl⟩
theorem MX_tr {u v x : AW} (h : MX u v) (k : MX v x) : MX u x := ⟨k.1.trans h.1, k.2.1.trans h.2.1, fun j a => (k.2.2.1 j a).trans (h.2.2.1 j a), fun f a => (k.2.2.2 f a).trans (h.2.2.2 f a)⟩
theorem MX_up {w u : AW} {f : Nat} (hf : fN f) (z : Int) (h : MX w u) : MX w (upI u 400 f z) := ⟨h.1, h.2.1, fun j a => (upI_o _ _ _ a).trans (h.2.2.1 j a), fun g a => by
  rw [upI_at]
  show (if g = f then z else u.2.1 400 g) = _
  rw [if_neg (fun e => a (by rw [e]; exact hf))]
  exact h.2.2.2 g a⟩
theorem RT_MX {w u : AW} {T : Nat → Int} {n : Nat} (h : MX w u) (k : RT w T n) : RT u T n := RT_of h.1 h.2.1 (h.2.2.2 48 (by unfold fN; omega)) (h.2.2.1 446 (by decide)) k
def srt (k : Int) : Int := if k = 0 then 1 else if k = 1 then 0 else if k = 2 then 3 else if k = 3 then 4 else 2
/-- the token at p is told -/
def TKs (w : AW) (T : Nat → Int) (n p : Nat) : Prop := w.2.1 400 51 = (p : Int) ∧ w.2.1 400 50 = srt (tokF T n p).1 ∧ ((tokF T n p).1 = 2 → w.2.1 400 53 = (tokF T n p).2.1) ∧ w.2.1 400 52 = (if (tokF T n p).1 = 3 then (tokF T n p).2.1 else 0) ∧
  (4 ≤ (tokF T n p).1 → w.2.1 400 56 = wdF T p ((tokF T n p).2.2 - p) ∧ (tokF T n p).2.2 ≤ p + 8) ∧ (2 ≤ (tokF T n p).1 → w.2.1 400 49 = ((tokF T n p).2.2 : Int)) ∧ R64 (w.2.1 400 56)
theorem wordK_4 (f : Nat → Bool) (q : Nat) : 4 ≤ (wordK f q).1 := by
  unfold wordK
  split
  · exact Int.le_refl _
  · split
    · show (4 : Int) ≤ 5; decide
    · split
      · show (4 : Int) ≤ 6; decide
      · show (4 : Int) ≤ 7; decide
theorem wordK_e (f : Nat → Bool) (q : Nat) : (wordK f q).2.2 = q := (wordK_bd f q).2.2
theorem TKs_0 {w : AW} {T : Nat → Int} {n p : Nat} {x : Int} {e : Nat} (ht : tokF T n p = (0, x, e)) (h51 : w.2.1 400 51 = (p : Int)) (h50 : w.2.1 400 50 = 1) (h52 : w.2.1 400 52 = 0) (h56 : R64 (w.2.1 400 56)) : TKs w T n p := by
  unfold TKs
  rw [ht]
  exact ⟨h51, h50, fun q => absurd (show (0 : Int) = 2 from q) (by decide), h52.trans (if_neg (show ¬ (0 : Int) = 3 by decide)).symm, fun q => absurd (show (4 : Int) ≤ 0 from q) (by decide), fun q => absurd (show (2 : Int) ≤ 0 from q) (by decide), h56⟩
theorem TKs_1 {w : AW} {T : Nat → Int} {n p : Nat} {x : Int} {e : Nat} (ht : tokF T n p = (1, x, e)) (h51 : w.2.1 400 51 = (p : Int)) (h50 : w.2.1 400 50 = 0) (h52 : w.2.1 400 52 = 0) (h56 : R64 (w.2.1 400 56)) : TKs w T n p := by
  unfold TKs
  rw [ht]
  exact ⟨h51, h50, fun q => absurd (show (1 : Int) = 2 from q) (by decide), h52.trans (if_neg (show ¬ (1 : Int) = 3 by decide)).symm, fun q => absurd (show (4 : Int) ≤ 1 from q) (by decide), fun q => absurd (show (2 : Int) ≤ 1 from q) (by decide), h56⟩
theorem TKs_2 {w : AW} {T : Nat → Int} {n p : Nat} {x : Int} {e : Nat} (ht : tokF T n p = (2, x, e)) (h51 : w.2.1 400 51 = (p : Int)) (h50 : w.2.1 400 50 = 3) (h53 : w.2.1 400 53 = x) (h52 : w.2.1 400 52 = 0) (h49 : w.2.1 400 49 = (e : Int)) (h56 : R64 (w.2.1 400 56)) : TKs w T n p := by
  unfold TKs
  rw [ht]
  exact ⟨h51, h50, fun _ => h53, h52.trans (if_neg (show ¬ (2 : Int) = 3 by decide)).symm, fun q => absurd (show (4 : Int) ≤ 2 from q) (by decide), fun _ => h49, h56⟩
theorem TKs_3 {w : AW} {T : Nat → Int} {n p : Nat} {x : Int} {e : Nat} (ht : tokF T n p = (3, x, e)) (h51 : w.2.1 400 51 = (p : Int)) (h50 : w.2.1 400 50 = 4) (h52 : w.2.1 400 52 = x) (h49 : w.2.1 400 49 = (e : Int)) (h56 : R64 (w.2.1 400 56)) : TKs w T n p := by
  unfold TKs
  rw [ht]
  exact ⟨h51, h50, fun q => absurd (show (3 : Int) = 2 from q) (by decide), h52.trans (if_pos (show (3 : Int) = 3 from rfl)).symm, fun q => absurd (show (4 : Int) ≤ 3 from q) (by decide), fun _ => h49, h56⟩
theorem TKs_4 {w : AW} {T : Nat → Int} {n p : Nat} (hk : 4 ≤ (tokF T n p).1) (h51 : w.2.1 400 51 = (p : Int)) (h50 : w.2.1 400 50 = 2) (h52 : w.2.1 400 52 = 0) (h49 : w.2.1 400 49 = ((tokF T n p).2.2 : Int)) (hw : w.2.1 400 56 = wdF T p ((tokF T n p).2.2 - p)) (h8 : (tokF T n p).2.2 ≤ p + 8) (h56 : R64 (w.2.1 400 56)) : TKs w T n p := by
  refine ⟨h51, ?_, fun q => by omega, ?_, fun _ => ⟨hw, h8⟩, fun _ => h49, h56⟩
  · rw [h50]
    unfold srt
    rw [if_neg (by omega), if_neg (by omega), if_neg (by omega), if_neg (by omega)]
  · rw [if_neg (by omega)]; exact h52
theorem wdF_bd {T : Nat → Int} {p : Nat} : ∀ k : Nat, (∀ j, j < k → 97 ≤ T (p + j) ∧ T (p + j) ≤ 122) → 0 ≤ wdF T p k ∧ wdF T p k < 32 ^ k
  | 0, _ => by show 0 ≤ (0 : Int) ∧ (0 : Int) < 1; omega
  | k + 1, h => by
    have h1 := wdF_bd k (fun j hj => h j (by omega))
    have h2 := h k (by omega)
    show 0 ≤ 32 * wdF T p k + (T (p + k) - 97 + 1) ∧ 32 * wdF T p k + (T (p + k) - 97 + 1) < 32 ^ (k + 1)
    rw [Int.pow_succ]
    omega
theorem wdF_R64 {T : Nat → Int} {p k : Nat} (hk : k ≤ 8) (h : ∀ j, j < k → 97 ≤ T (p + j) ∧ T (p + j) ≤ 122) : R64 (wdF T p k) := by
  have h1 := wdF_bd k h
  have h2 : (32 : Int) ^ k ≤ 1099511627776 := by
    rcases (show k = 0 ∨ k = 1 ∨ k = 2 ∨ k = 3 ∨ k = 4 ∨ k = 5 ∨ k = 6 ∨ k = 7 ∨ k = 8 by omega) with rfl | rfl | rfl | rfl | rfl | rfl | rfl | rfl | rfl <;> decide
  exact ⟨by omega, by omega⟩
theorem runF_s {q : Int → Bool} {T : Nat → Int} {n a : Nat} (h : a < n) (hq : q (T a) = true) : runF q T (n - a) a = runF q T (n - (a + 1)) (a + 1) := by
  rw [show n - a = (n - (a + 1)) + 1 by omega]
  show (if q (T a) = true then _ else _) = _
  rw [if_pos hq]
theorem runF_e {q : Int → Bool} {T : Nat → Int} {n a : Nat} (h : a < n → q (T a) = false) : runF q T (n - a) a = a := by
  by_cases ha : a < n
  · rw [show n - a = (n - (a + 1)) + 1 by omega]
    show (if q (T a) = true then _ else _) = _
    rw [if_neg (by rw [h ha]; decide)]
  · rw [show n - a = 0 by omega]
    rfl
theorem runF_stop {q : Int → Bool} {T : Nat → Int} {n : Nat} : ∀ {a : Nat}, a ≤ n → runF q T (n - a) a < n → q (T (runF q T (n - a) a)) = false := by
  intro a
  generalize hd : n - a = d
  induction d generalizing a with
  | zero =>
    intro h1 h2
    have h3 : runF q T 0 a = a := rfl
    rw [h3] at h2
    omega
  | succ d ih =>
    intro h1 h2
    have hs : runF q T (d + 1) a = if q (T a) = true then runF q T d (a + 1) else a := rfl
    rw [hs] at h2 ⊢
    by_cases c : q (T a) = true
    · rw [if_pos c] at h2 ⊢
      exact ih (a := a + 1) (by omega) (by omega) h2
    · rw [if_neg c]
      cases e : q (T a) with
      | true => exact absurd e c
      | false => rfl
set_option maxRecDepth 100000 in
set_option maxHeartbeats 4000000 in
theorem c_X12_next (l : Launch) (w : AW) (T : Nat → Int) (n a : Nat) (hT : RT w T n) (ha : a ≤ n) (hat : w.2.1 400 49 = (a : Int)) (hw : R64 (w.2.1 400 56)) : HT l yX12_next cX12_next 3 none 2 0 0 w [ar 400] (fun r w' => r = none ∧ MX w w' ∧ TKs w' T n (skF T n a)) := by
  refine HT.of (by decide) (by intro v hv; simp only [List.mem_cons, List.not_mem_nil, or_false] at hv; rcases hv with rfl <;> rfl) (Nat.le_of_ble_eq_true rfl) ?_
  intro Γ h hQ hRm hnm hl hw0
  obtain ⟨hM, h48, hn3, hTk, hTb⟩ := id hT
  obtain ⟨P, hP⟩ : ∃ P, skF T n a = P := ⟨_, rfl⟩
  rw [hP] at hQ
  have hPb := runF_bd isBb T (n - a) a
  have hPn : P ≤ n := by rw [← hP]; unfold skF; omega
  -- behind a word
  have letters : ∀ (Q : Nat), runF isLb T (n - P) P = Q → isLb (T P) = true → P < n → ∀ (d k : Nat) (u : AW), k + d = Q - P → k ≤ Q - P → MX w u → u.2.1 400 49 = ((P + k : Nat) : Int) → u.2.1 400 50 = 0 → u.2.1 400 51 = (P : Int) → u.2.1 400 52 = 0 → u.2.1 400 56 = wdF T P (min k 8) → GG Γ 80 [some (ar 400), some (ai (T P)), some (ai (k : Int))] [] u 0 0 := by
    intro Q hQ9 hl0 hPlt
    have hall := fun j h1 h2 => runF_all (p := isLb) (T := T) (n - P) P j h1 (by rw [hQ9]; exact h2)
    have hQb := runF_bd isLb T (n - P) P
    have hQ1 : P < Q := by
      rw [runF_s hPlt hl0] at hQ9
      have := runF_bd isLb T (n - (P + 1)) (P + 1)
      omega
    have hlet : ∀ j, j < Q - P → 97 ≤ T (P + j) ∧ T (P + j) ≤ 122 := fun j hj => of_decide_eq_true (hall (P + j) (by omega) (by omega))
    have htok : tokF T n P = wordF T n P (T P) := by unfold tokF; rw [if_neg (by omega), if_pos hl0]
    intro d
    induction d with
    | zero =>
      intro k u hk hkq hu h49 h50 h51 h52 h56
      obtain rfl : k = Q - P := by omega
      have e9 : P + (Q - P) = Q := by omega
      rw [e9] at h49
      have hbq : bM T n (Q : Int) = -1 ∨ ¬ (97 ≤ bM T n (Q : Int) ∧ bM T n (Q : Int) ≤ 122) := by
        unfold bM
        split
        · right
          intro q
          rw [Int.toNat_natCast] at q
          have hr := runF_stop (q := isLb) (T := T) (n := n) (a := P) (by omega) (by rw [hQ9]; omega)
          rw [hQ9] at hr
          exact absurd (decide_eq_true q) (by rw [show decide (97 ≤ T Q ∧ T Q ≤ 122) = isLb (T Q) from rfl, hr]; decide)
        · exact Or.inl rfl
      have hTu := RT_MX hu hT
      have hMu := hTu.1

      have ts400 : u.1 400 = (112, 0) := hMu.1 400 (by decide) (by decide)
      refine g_aload_n h dX12_next_80 rfl ?_
      refine g_aload_n h dX12_next_81 rfl ?_
      refine g_getI h flX12_337 rfl (by assumption) dX12_next_82 ?_
      rw [h49]
      refine g_callV h rfl (ci := 12) [_] (by assumption) (c_X12_byteAt _ _ T n _ hTu (by omega) (by omega)) clX12_340 (by decide) rfl in_X12_byteAt se_X12_byteAt rfl rfl (by rw [hRm]; first | decide | (simp only [clS]; omega)) (by rw [hRm]; first | decide | (simp only [clS]; omega)) (fun _ => Nat.le_of_ble_eq_true rfl) (by rw [hRm]; first | decide | (simp only [clS]; omega)) (by rw [hRm]; first | decide | (simp only [clS]; omega)) dX12_next_85 (fun r85 w85 hp85 => ?_)
      obtain ⟨rfl, hw85⟩ := hp85
      rw [hw85]
      have hbb := bM_bd hTu (show (0 : Int) ≤ (Q : Int) by omega)
      refine g_callS h rfl [_] (c_X12_isLetter _ _ _ ⟨by omega, by omega⟩) clX12_349 st_X12_isLetter rfl rfl (by rw [hRm]; first | decide | (simp only [clS]; omega)) (by rw [hRm]; first | decide | (simp only [clS]; omega)) (fun _ => Nat.le_of_ble_eq_true rfl) (by rw [hRm]; first | decide | (simp only [clS]; omega)) (by rw [hRm]; first | decide | (simp only [clS]; omega)) dX12_next_88 (fun r88 w88 hp88 => ?_)
      obtain ⟨rfl, hw88⟩ := hp88
      rw [hw88]
      have hbw88 := ite01 (97 ≤ bM T n (Q : Int) ∧ bM T n (Q : Int) ≤ 122)
      refine g_if_eq (tgt := 143) h dX12_next_91 (by decide) (by first | assumption | exact ⟨by omega, by omega⟩) (fun c91 => ?_) (fun c91 => ?_)
      · refine g_iload_n h dX12_next_143 rfl ?_
        refine g_bipush h dX12_next_144 rfl ?_
        refine g_icmp_gt (tgt := 302) h dX12_next_146 (by decide) (by first | assumption | exact ⟨by omega, by omega⟩) (by first | assumption | exact ⟨by omega, by omega⟩) (fun c146 => ?_) (fun c146 => ?_)
        · refine g_vret h hQ (by first | decide | omega | (simp only [clS]; omega)) (by first | decide | omega | (simp only [clS]; omega)) ?_ dX12_next_302
          first
          | (exfalso; omega)
          | (have hle : ¬ P + 8 < Q := by omega
             refine ⟨rfl, MX_up (by unfold fN; omega) _ hu, ?_⟩
             have ht2 : tokF T n P = wordK (spl T n P Q) Q := by rw [htok]; unfold wordF; rw [hQ9, if_neg hle]
             have hkb := wordK_bd (spl T n P Q) Q
             have hk4 : 4 ≤ (tokF T n P).1 := by rw [ht2]; exact wordK_4 _ _
             have hend : (tokF T n P).2.2 = Q := by rw [ht2]; exact wordK_e _ _
             refine TKs_4 hk4 h51 (upI_self _ _ _ _) h52 (by rw [hend]; exact h49) (by rw [hend]; exact h56.trans (by rw [show min (Q - P) 8 = Q - P by omega])) (by omega) ?_
             show R64 (u.2.1 400 56)
             rw [h56]
             exact wdF_R64 (by omega) (fun j hj => hlet j (by omega)))
          | (have hle : P + 8 < Q := by omega
             refine ⟨rfl, hu, ?_⟩
             have ht2 : tokF T n P = (1, T P, Q) := by rw [htok]; unfold wordF; rw [hQ9, if_pos hle]
             refine TKs_1 ht2 h51 h50 h52 ?_
             rw [h56]
             exact wdF_R64 (by omega) (fun j hj => hlet j (by omega)))
        · refine g_aload_n h dX12_next_149 rfl ?_
          refine g_iconst h dX12_next_150 ?_
          refine g_putI h flX12_343 rfl rfl (by assumption) dX12_next_151 ?_
          refine g_goto (tgt := 302) h dX12_next_154 (by decide) ?_
          refine g_vret h hQ (by first | decide | omega | (simp only [clS]; omega)) (by first | decide | omega | (simp only [clS]; omega)) ?_ dX12_next_302
          first
          | (exfalso; omega)
          | (have hle : ¬ P + 8 < Q := by omega
             refine ⟨rfl, MX_up (by unfold fN; omega) _ hu, ?_⟩
             have ht2 : tokF T n P = wordK (spl T n P Q) Q := by rw [htok]; unfold wordF; rw [hQ9, if_neg hle]
             have hkb := wordK_bd (spl T n P Q) Q
             have hk4 : 4 ≤ (tokF T n P).1 := by rw [ht2]; exact wordK_4 _ _
             have hend : (tokF T n P).2.2 = Q := by rw [ht2]; exact wordK_e _ _
             refine TKs_4 hk4 h51 (upI_self _ _ _ _) h52 (by rw [hend]; exact h49) (by rw [hend]; exact h56.trans (by rw [show min (Q - P) 8 = Q - P by omega])) (by omega) ?_
             show R64 (u.2.1 400 56)
             rw [h56]
             exact wdF_R64 (by omega) (fun j hj => hlet j (by omega)))
          | (have hle : P + 8 < Q := by omega
             refine ⟨rfl, hu, ?_⟩
             have ht2 : tokF T n P = (1, T P, Q) := by rw [htok]; unfold wordF; rw [hQ9, if_pos hle]
             refine TKs_1 ht2 h51 h50 h52 ?_
             rw [h56]
             exact wdF_R64 (by omega) (fun j hj => hlet j (by omega)))
      · exfalso; omega
    | succ d ih =>
      intro k u hk hkq hu h49 h50 h51 h52 h56
      have hk2 : P + k < n := by omega
      have hbk : bM T n ((P + k : Nat) : Int) = T (P + k) := by
        unfold bM
        rw [if_pos (by omega), Int.toNat_natCast]
      have hle := hlet k (by omega)
      have hTu := RT_MX hu hT
      have hMu := hTu.1

      have ts400 : u.1 400 = (112, 0) := hMu.1 400 (by decide) (by decide)
      have g49 : ∀ z, (upI u 400 56 z).2.1 400 49 = ((P + k : Nat) : Int) := fun _ => h49
      refine g_aload_n h dX12_next_80 rfl ?_
      refine g_aload_n h dX12_next_81 rfl ?_
      refine g_getI h flX12_337 rfl (by assumption) dX12_next_82 ?_
      rw [h49]
      refine g_callV h rfl (ci := 12) [_] (by assumption) (c_X12_byteAt _ _ T n _ hTu (by omega) (by omega)) clX12_340 (by decide) rfl in_X12_byteAt se_X12_byteAt rfl rfl (by rw [hRm]; first | decide | (simp only [clS]; omega)) (by rw [hRm]; first | decide | (simp only [clS]; omega)) (fun _ => Nat.le_of_ble_eq_true rfl) (by rw [hRm]; first | decide | (simp only [clS]; omega)) (by rw [hRm]; first | decide | (simp only [clS]; omega)) dX12_next_85 (fun r85 w85 hp85 => ?_)
      obtain ⟨rfl, hw85⟩ := hp85
      rw [hw85]
      rw [hbk]
      refine g_callS h rfl [_] (c_X12_isLetter _ _ _ ⟨by omega, by omega⟩) clX12_349 st_X12_isLetter rfl rfl (by rw [hRm]; first | decide | (simp only [clS]; omega)) (by rw [hRm]; first | decide | (simp only [clS]; omega)) (fun _ => Nat.le_of_ble_eq_true rfl) (by rw [hRm]; first | decide | (simp only [clS]; omega)) (by rw [hRm]; first | decide | (simp only [clS]; omega)) dX12_next_88 (fun r88 w88 hp88 => ?_)
      obtain ⟨rfl, hw88⟩ := hp88
      rw [hw88]
      rw [if_pos hle]
      refine g_if_eq (tgt := 143) h dX12_next_91 (by decide) ⟨by decide, by decide⟩ (fun c => absurd c (by decide)) (fun _ => ?_)
      refine g_iload_n h dX12_next_94 rfl ?_
      refine g_bipush h dX12_next_95 rfl ?_
      refine g_icmp_ge (tgt := 127) h dX12_next_97 (by decide) (by first | assumption | exact ⟨by omega, by omega⟩) (by first | assumption | exact ⟨by omega, by omega⟩) (fun c97 => ?_) (fun c97 => ?_)
      · refine g_iinc h dX12_next_127 rfl (Nat.le_of_ble_eq_true rfl) rfl rfl ?_
        refine g_aload_n h dX12_next_130 rfl ?_
        refine g_dup h dX12_next_131 rfl ?_
        refine g_getI h flX12_337 rfl (by assumption) dX12_next_132 ?_
        first | rw [g49] | rw [h49]
        refine g_iconst h dX12_next_135 ?_
        refine g_iadd h dX12_next_136 ?_
        refine g_putI h flX12_337 rfl rfl (by assumption) dX12_next_137 ?_
        refine g_goto (tgt := 80) h dX12_next_140 (by decide) ?_
        first
        | (refine ih (k + 1) _ (by omega) (by omega) (MX_up (by unfold fN; omega) _ (MX_up (by unfold fN; omega) _ hu)) ?_ h50 h51 h52 ?_
           · rw [upI_self]; omega
           · show (upI u 400 56 _).2.1 400 56 = _
             rw [upI_self, show min (k + 1) 8 = k + 1 by omega, show min k 8 = k by omega]
             rfl)
        | (refine ih (k + 1) _ (by omega) (by omega) (MX_up (by unfold fN; omega) _ hu) ?_ h50 h51 h52 ?_
           · rw [upI_self]; omega
           · show u.2.1 400 56 = _
             rw [h56, show min (k + 1) 8 = 8 by omega, show min k 8 = 8 by omega])
      · refine g_aload_n h dX12_next_100 rfl ?_
        refine g_ldc2 h klX12_331 dX12_next_101 ?_
        refine g_aload_n h dX12_next_104 rfl ?_
        refine g_getL h flX12_352 rfl (by assumption) dX12_next_105 ?_
        rw [h56]
        refine g_lmul h dX12_next_108 ?_
        refine g_aload_n h dX12_next_109 rfl ?_
        refine g_aload_n h dX12_next_110 rfl ?_
        refine g_getI h flX12_337 rfl (by assumption) dX12_next_111 ?_
        rw [h49]
        refine g_callV h rfl (ci := 12) [_] (by assumption) (c_X12_byteAt _ _ T n _ hTu (by omega) (by omega)) clX12_340 (by decide) rfl in_X12_byteAt se_X12_byteAt rfl rfl (by rw [hRm]; first | decide | (simp only [clS]; omega)) (by rw [hRm]; first | decide | (simp only [clS]; omega)) (fun _ => Nat.le_of_ble_eq_true rfl) (by rw [hRm]; first | decide | (simp only [clS]; omega)) (by rw [hRm]; first | decide | (simp only [clS]; omega)) dX12_next_114 (fun r114 w114 hp114 => ?_)
        obtain ⟨rfl, hw114⟩ := hp114
        rw [hw114]
        rw [hbk]
        refine g_bipush h dX12_next_117 rfl ?_
        refine g_isub h dX12_next_119 ?_
        refine g_iconst h dX12_next_120 ?_
        refine g_iadd h dX12_next_121 ?_
        refine g_i2l h (by first | assumption | exact ⟨by omega, by omega⟩) dX12_next_122 ?_
        refine g_ladd h dX12_next_123 ?_
        refine g_putL h flX12_352 rfl rfl (by assumption) dX12_next_124 ?_
        refine g_iinc h dX12_next_127 rfl (Nat.le_of_ble_eq_true rfl) rfl rfl ?_
        refine g_aload_n h dX12_next_130 rfl ?_
        refine g_dup h dX12_next_131 rfl ?_
        refine g_getI h flX12_337 rfl (by assumption) dX12_next_132 ?_
        first | rw [g49] | rw [h49]
        refine g_iconst h dX12_next_135 ?_
        refine g_iadd h dX12_next_136 ?_
        refine g_putI h flX12_337 rfl rfl (by assumption) dX12_next_137 ?_
        refine g_goto (tgt := 80) h dX12_next_140 (by decide) ?_
        first
        | (refine ih (k + 1) _ (by omega) (by omega) (MX_up (by unfold fN; omega) _ (MX_up (by unfold fN; omega) _ hu)) ?_ h50 h51 h52 ?_
           · rw [upI_self]; omega
           · show (upI u 400 56 _).2.1 400 56 = _
             rw [upI_self, show min (k + 1) 8 = k + 1 by omega, show min k 8 = k by omega]
             rfl)
        | (refine ih (k + 1) _ (by omega) (by omega) (MX_up (by unfold fN; omega) _ hu) ?_ h50 h51 h52 ?_
           · rw [upI_self]; omega
           · show u.2.1 400 56 = _
             rw [h56, show min (k + 1) 8 = 8 by omega, show min k 8 = 8 by omega])
  have digits : ∀ (Q : Nat), runF isDb T (n - P) P = Q → isDb (T P) = true → isLb (T P) = false → P < n → ∀ (d k : Nat) (u : AW), k + d = Q - P → k ≤ Q - P → MX w u → u.2.1 400 49 = ((P + k : Nat) : Int) → u.2.1 400 50 = 0 → u.2.1 400 51 = (P : Int) → u.2.1 400 52 = 0 → u.2.1 400 56 = w.2.1 400 56 → u.2.1 400 53 = wvF T P k → GG Γ 169 [some (ar 400), some (ai (T P)), some (ai (k : Int))] [] u 0 0 := by
    intro Q hQ9 hd0 hl0 hPlt
    have hall := fun j h1 h2 => runF_all (p := isDb) (T := T) (n - P) P j h1 (by rw [hQ9]; exact h2)
    have hQb := runF_bd isDb T (n - P) P
    have hQ1 : P < Q := by
      rw [runF_s hPlt hd0] at hQ9
      have := runF_bd isDb T (n - (P + 1)) (P + 1)
      omega
    have hdig : ∀ j, j < Q - P → 48 ≤ T (P + j) ∧ T (P + j) ≤ 57 := fun j hj => of_decide_eq_true (hall (P + j) (by omega) (by omega))
    have htok : tokF T n P = (if P + 4 < Q then 1 else 2, wvF T P (Q - P), Q) := by
      unfold tokF
      rw [if_neg (by omega), if_neg (by rw [hl0]; decide), if_pos hd0]
      unfold wholeF
      rw [hQ9]
    intro d
    induction d with
    | zero =>
      intro k u hk hkq hu h49 h50 h51 h52 h56 h53
      obtain rfl : k = Q - P := by omega
      have e9 : P + (Q - P) = Q := by omega
      rw [e9] at h49
      have hbq : bM T n (Q : Int) = -1 ∨ ¬ (48 ≤ bM T n (Q : Int) ∧ bM T n (Q : Int) ≤ 57) := by
        unfold bM
        split
        · right
          intro q
          rw [Int.toNat_natCast] at q
          have hr := runF_stop (q := isDb) (T := T) (n := n) (a := P) (by omega) (by rw [hQ9]; omega)
          rw [hQ9] at hr
          exact absurd (decide_eq_true q) (by rw [show decide (48 ≤ T Q ∧ T Q ≤ 57) = isDb (T Q) from rfl, hr]; decide)
        · exact Or.inl rfl
      have hTu := RT_MX hu hT
      have hMu := hTu.1

      have ts400 : u.1 400 = (112, 0) := hMu.1 400 (by decide) (by decide)
      refine g_aload_n h dX12_next_169 rfl ?_
      refine g_aload_n h dX12_next_170 rfl ?_
      refine g_getI h flX12_337 rfl (by assumption) dX12_next_171 ?_
      rw [h49]
      refine g_callV h rfl (ci := 12) [_] (by assumption) (c_X12_byteAt _ _ T n _ hTu (by omega) (by omega)) clX12_340 (by decide) rfl in_X12_byteAt se_X12_byteAt rfl rfl (by rw [hRm]; first | decide | (simp only [clS]; omega)) (by rw [hRm]; first | decide | (simp only [clS]; omega)) (fun _ => Nat.le_of_ble_eq_true rfl) (by rw [hRm]; first | decide | (simp only [clS]; omega)) (by rw [hRm]; first | decide | (simp only [clS]; omega)) dX12_next_174 (fun r174 w174 hp174 => ?_)
      obtain ⟨rfl, hw174⟩ := hp174
      rw [hw174]
      have hbb := bM_bd hTu (show (0 : Int) ≤ (Q : Int) by omega)
      refine g_callS h rfl [_] (c_X12_isDigit _ _ _ ⟨by omega, by omega⟩) clX12_356 st_X12_isDigit rfl rfl (by rw [hRm]; first | decide | (simp only [clS]; omega)) (by rw [hRm]; first | decide | (simp only [clS]; omega)) (fun _ => Nat.le_of_ble_eq_true rfl) (by rw [hRm]; first | decide | (simp only [clS]; omega)) (by rw [hRm]; first | decide | (simp only [clS]; omega)) dX12_next_177 (fun r177 w177 hp177 => ?_)
      obtain ⟨rfl, hw177⟩ := hp177
      rw [hw177]
      have hbw177 := ite01 (48 ≤ bM T n (Q : Int) ∧ bM T n (Q : Int) ≤ 57)
      refine g_if_eq (tgt := 227) h dX12_next_180 (by decide) (by first | assumption | exact ⟨by omega, by omega⟩) (fun c180 => ?_) (fun c180 => ?_)
      · refine g_iload_n h dX12_next_227 rfl ?_
        refine g_iconst h dX12_next_228 ?_
        refine g_icmp_ge (tgt := 302) h dX12_next_229 (by decide) (by first | assumption | exact ⟨by omega, by omega⟩) (by first | assumption | exact ⟨by omega, by omega⟩) (fun c229 => ?_) (fun c229 => ?_)
        · refine g_vret h hQ (by first | decide | omega | (simp only [clS]; omega)) (by first | decide | omega | (simp only [clS]; omega)) ?_ dX12_next_302
          first
          | (exfalso; omega)
          | (have hle : ¬ P + 4 < Q := by omega
             rw [if_neg hle] at htok
             refine ⟨rfl, MX_up (by unfold fN; omega) _ hu, ?_⟩
             refine TKs_2 htok h51 (upI_self _ _ _ _) h53 h52 h49 ?_
             show R64 (u.2.1 400 56)
             rw [h56]; exact hw)
          | (have hle : P + 4 < Q := by omega
             rw [if_pos hle] at htok
             refine ⟨rfl, hu, ?_⟩
             refine TKs_1 htok h51 h50 h52 ?_
             rw [h56]; exact hw)
        · refine g_aload_n h dX12_next_232 rfl ?_
          refine g_iconst h dX12_next_233 ?_
          refine g_putI h flX12_343 rfl rfl (by assumption) dX12_next_234 ?_
          refine g_goto (tgt := 302) h dX12_next_237 (by decide) ?_
          refine g_vret h hQ (by first | decide | omega | (simp only [clS]; omega)) (by first | decide | omega | (simp only [clS]; omega)) ?_ dX12_next_302
          first
          | (exfalso; omega)
          | (have hle : ¬ P + 4 < Q := by omega
             rw [if_neg hle] at htok
             refine ⟨rfl, MX_up (by unfold fN; omega) _ hu, ?_⟩
             refine TKs_2 htok h51 (upI_self _ _ _ _) h53 h52 h49 ?_
             show R64 (u.2.1 400 56)
             rw [h56]; exact hw)
          | (have hle : P + 4 < Q := by omega
             rw [if_pos hle] at htok
             refine ⟨rfl, hu, ?_⟩
             refine TKs_1 htok h51 h50 h52 ?_
             rw [h56]; exact hw)
      · exfalso; omega
    | succ d ih =>
      intro k u hk hkq hu h49 h50 h51 h52 h56 h53
      have hk2 : P + k < n := by omega
      have hbk : bM T n ((P + k : Nat) : Int) = T (P + k) := by
        unfold bM
        rw [if_pos (by omega), Int.toNat_natCast]
      have hle := hdig k (by omega)
      have hTu := RT_MX hu hT
      have hMu := hTu.1

      have ts400 : u.1 400 = (112, 0) := hMu.1 400 (by decide) (by decide)
      have g49 : ∀ z, (upI u 400 53 z).2.1 400 49 = ((P + k : Nat) : Int) := fun _ => h49
      refine g_aload_n h dX12_next_169 rfl ?_
      refine g_aload_n h dX12_next_170 rfl ?_
      refine g_getI h flX12_337 rfl (by assumption) dX12_next_171 ?_
      rw [h49]
      refine g_callV h rfl (ci := 12) [_] (by assumption) (c_X12_byteAt _ _ T n _ hTu (by omega) (by omega)) clX12_340 (by decide) rfl in_X12_byteAt se_X12_byteAt rfl rfl (by rw [hRm]; first | decide | (simp only [clS]; omega)) (by rw [hRm]; first | decide | (simp only [clS]; omega)) (fun _ => Nat.le_of_ble_eq_true rfl) (by rw [hRm]; first | decide | (simp only [clS]; omega)) (by rw [hRm]; first | decide | (simp only [clS]; omega)) dX12_next_174 (fun r174 w174 hp174 => ?_)
      obtain ⟨rfl, hw174⟩ := hp174
      rw [hw174]
      rw [hbk]
      refine g_callS h rfl [_] (c_X12_isDigit _ _ _ ⟨by omega, by omega⟩) clX12_356 st_X12_isDigit rfl rfl (by rw [hRm]; first | decide | (simp only [clS]; omega)) (by rw [hRm]; first | decide | (simp only [clS]; omega)) (fun _ => Nat.le_of_ble_eq_true rfl) (by rw [hRm]; first | decide | (simp only [clS]; omega)) (by rw [hRm]; first | decide | (simp only [clS]; omega)) dX12_next_177 (fun r177 w177 hp177 => ?_)
      obtain ⟨rfl, hw177⟩ := hp177
      rw [hw177]
      rw [if_pos hle]
      refine g_if_eq (tgt := 227) h dX12_next_180 (by decide) ⟨by decide, by decide⟩ (fun c => absurd c (by decide)) (fun _ => ?_)
      refine g_iload_n h dX12_next_183 rfl ?_
      refine g_iconst h dX12_next_184 ?_
      refine g_icmp_ge (tgt := 211) h dX12_next_185 (by decide) (by first | assumption | exact ⟨by omega, by omega⟩) (by first | assumption | exact ⟨by omega, by omega⟩) (fun c185 => ?_) (fun c185 => ?_)
      · refine g_iinc h dX12_next_211 rfl (Nat.le_of_ble_eq_true rfl) rfl rfl ?_
        refine g_aload_n h dX12_next_214 rfl ?_
        refine g_dup h dX12_next_215 rfl ?_
        refine g_getI h flX12_337 rfl (by assumption) dX12_next_216 ?_
        first | rw [g49] | rw [h49]
        refine g_iconst h dX12_next_219 ?_
        refine g_iadd h dX12_next_220 ?_
        refine g_putI h flX12_337 rfl rfl (by assumption) dX12_next_221 ?_
        refine g_goto (tgt := 169) h dX12_next_224 (by decide) ?_
        first
        | (have hk4 : ¬ k < 4 := by omega
           refine ih (k + 1) _ (by omega) (by omega) (MX_up (by unfold fN; omega) _ hu) ?_ h50 h51 h52 h56 ?_
           · rw [upI_self]; omega
           · show u.2.1 400 53 = (if k < 4 then wvF T P k * 10 + T (P + k) - 48 else wvF T P k)
             rw [h53, if_neg (by omega)])
        | (have hk4 : k < 4 := by omega
           refine ih (k + 1) _ (by omega) (by omega) (MX_up (by unfold fN; omega) _ (MX_up (by unfold fN; omega) _ hu)) (by rw [upI_self]; omega) h50 h51 h52 h56 ?_
           show (upI u 400 53 (10 * wvF T P k + T (P + k) - 48)).2.1 400 53 = _
           rw [upI_self]
           show _ = (if k < 4 then wvF T P k * 10 + T (P + k) - 48 else wvF T P k)
           rw [if_pos hk4]
           omega)
      · refine g_aload_n h dX12_next_188 rfl ?_
        refine g_bipush h dX12_next_189 rfl ?_
        refine g_aload_n h dX12_next_191 rfl ?_
        refine g_getI h flX12_359 rfl (by assumption) dX12_next_192 ?_
        rw [h53]
        refine g_imul h dX12_next_195 ?_
        refine g_aload_n h dX12_next_196 rfl ?_
        refine g_aload_n h dX12_next_197 rfl ?_
        refine g_getI h flX12_337 rfl (by assumption) dX12_next_198 ?_
        rw [h49]
        refine g_callV h rfl (ci := 12) [_] (by assumption) (c_X12_byteAt _ _ T n _ hTu (by omega) (by omega)) clX12_340 (by decide) rfl in_X12_byteAt se_X12_byteAt rfl rfl (by rw [hRm]; first | decide | (simp only [clS]; omega)) (by rw [hRm]; first | decide | (simp only [clS]; omega)) (fun _ => Nat.le_of_ble_eq_true rfl) (by rw [hRm]; first | decide | (simp only [clS]; omega)) (by rw [hRm]; first | decide | (simp only [clS]; omega)) dX12_next_201 (fun r201 w201 hp201 => ?_)
        obtain ⟨rfl, hw201⟩ := hp201
        rw [hw201]
        rw [hbk]
        refine g_iadd h dX12_next_204 ?_
        refine g_bipush h dX12_next_205 rfl ?_
        refine g_isub h dX12_next_207 ?_
        refine g_putI h flX12_359 rfl rfl (by assumption) dX12_next_208 ?_
        refine g_iinc h dX12_next_211 rfl (Nat.le_of_ble_eq_true rfl) rfl rfl ?_
        refine g_aload_n h dX12_next_214 rfl ?_
        refine g_dup h dX12_next_215 rfl ?_
        refine g_getI h flX12_337 rfl (by assumption) dX12_next_216 ?_
        first | rw [g49] | rw [h49]
        refine g_iconst h dX12_next_219 ?_
        refine g_iadd h dX12_next_220 ?_
        refine g_putI h flX12_337 rfl rfl (by assumption) dX12_next_221 ?_
        refine g_goto (tgt := 169) h dX12_next_224 (by decide) ?_
        first
        | (have hk4 : ¬ k < 4 := by omega
           refine ih (k + 1) _ (by omega) (by omega) (MX_up (by unfold fN; omega) _ hu) ?_ h50 h51 h52 h56 ?_
           · rw [upI_self]; omega
           · show u.2.1 400 53 = (if k < 4 then wvF T P k * 10 + T (P + k) - 48 else wvF T P k)
             rw [h53, if_neg (by omega)])
        | (have hk4 : k < 4 := by omega
           refine ih (k + 1) _ (by omega) (by omega) (MX_up (by unfold fN; omega) _ (MX_up (by unfold fN; omega) _ hu)) (by rw [upI_self]; omega) h50 h51 h52 h56 ?_
           show (upI u 400 53 (10 * wvF T P k + T (P + k) - 48)).2.1 400 53 = _
           rw [upI_self]
           show _ = (if k < 4 then wvF T P k * 10 + T (P + k) - 48 else wvF T P k)
           rw [if_pos hk4]
           omega)
  have first : ∀ (u : AW), MX w u → u.2.1 400 49 = (P : Int) → u.2.1 400 56 = w.2.1 400 56 → GG Γ 26 [some (ar 400), none, none] [] u 0 0 := by
    intro u0 hu0 h49 h56
    have hTu0 := RT_MX hu0 hT
    have hMu0 := hTu0.1
    have hbP : bM T n (P : Int) = if P < n then T P else -1 := by
      unfold bM
      by_cases q : P < n
      · rw [if_pos (by omega), if_pos q, Int.toNat_natCast]
      · rw [if_neg (by omega), if_neg q]
    have hTP := fun (q : P < n) => hTb P (by omega)
    have ts400 : u0.1 400 = (112, 0) := hMu0.1 400 (by decide) (by decide)
    have hu : MX w (upI (upI (upI u0 400 51 (P : Int)) 400 50 0) 400 52 0) := MX_up (by unfold fN; omega) _ (MX_up (by unfold fN; omega) _ (MX_up (by unfold fN; omega) _ hu0))
    have g49 : (upI (upI (upI u0 400 51 (P : Int)) 400 50 0) 400 52 0).2.1 400 49 = (P : Int) := h49
    have hTu := RT_MX hu hT
    have h5 : (upI (upI (upI u0 400 51 (P : Int)) 400 50 0) 400 52 0).2.1 400 56 = w.2.1 400 56 := h56
    have h51 : (upI (upI (upI u0 400 51 (P : Int)) 400 50 0) 400 52 0).2.1 400 51 = (P : Int) := rfl
    refine g_aload_n h dX12_next_26 rfl ?_
    refine g_aload_n h dX12_next_27 rfl ?_
    refine g_getI h flX12_337 rfl (by assumption) dX12_next_28 ?_
    rw [h49]
    refine g_putI h flX12_319 rfl rfl (by assumption) dX12_next_31 ?_
    refine g_aload_n h dX12_next_34 rfl ?_
    refine g_iconst h dX12_next_35 ?_
    refine g_putI h flX12_343 rfl rfl (by assumption) dX12_next_36 ?_
    refine g_aload_n h dX12_next_39 rfl ?_
    refine g_iconst h dX12_next_40 ?_
    refine g_putI h flX12_346 rfl rfl (by assumption) dX12_next_41 ?_
    refine g_aload_n h dX12_next_44 rfl ?_
    refine g_aload_n h dX12_next_45 rfl ?_
    refine g_getI h flX12_337 rfl (by assumption) dX12_next_46 ?_
    rw [g49]
    refine g_callV h rfl (ci := 12) [_] (by assumption) (c_X12_byteAt _ _ T n _ hTu (by omega) (by omega)) clX12_340 (by decide) rfl in_X12_byteAt se_X12_byteAt rfl rfl (by rw [hRm]; first | decide | (simp only [clS]; omega)) (by rw [hRm]; first | decide | (simp only [clS]; omega)) (fun _ => Nat.le_of_ble_eq_true rfl) (by rw [hRm]; first | decide | (simp only [clS]; omega)) (by rw [hRm]; first | decide | (simp only [clS]; omega)) dX12_next_49 (fun r49 w49 hp49 => ?_)
    obtain ⟨rfl, hw49⟩ := hp49
    rw [hw49]
    rw [hbP]
    by_cases hPn2 : P < n
    · rw [if_pos hPn2]
      have hTP2 := hTP hPn2
      refine g_istore_n h dX12_next_52 (Nat.le_of_ble_eq_true rfl) rfl rfl ?_
      refine g_iconst h dX12_next_53 ?_
      refine g_istore_n h dX12_next_54 (Nat.le_of_ble_eq_true rfl) rfl rfl ?_
      refine g_iload_n h dX12_next_55 rfl ?_
      refine g_iconst h dX12_next_56 ?_
      refine g_icmp_ne (tgt := 68) h dX12_next_57 (by decide) (by first | assumption | exact ⟨by omega, by omega⟩) (by first | assumption | exact ⟨by omega, by omega⟩) (fun c57 => ?_) (fun c57 => ?_)
      · refine g_iload_n h dX12_next_68 rfl ?_
        refine g_callS h rfl [_] (c_X12_isLetter _ _ _ ⟨by omega, by omega⟩) clX12_349 st_X12_isLetter rfl rfl (by rw [hRm]; first | decide | (simp only [clS]; omega)) (by rw [hRm]; first | decide | (simp only [clS]; omega)) (fun _ => Nat.le_of_ble_eq_true rfl) (by rw [hRm]; first | decide | (simp only [clS]; omega)) (by rw [hRm]; first | decide | (simp only [clS]; omega)) dX12_next_69 (fun r69 w69 hp69 => ?_)
        obtain ⟨rfl, hw69⟩ := hp69
        rw [hw69]
        have hbw69 := ite01 (97 ≤ T P ∧ T P ≤ 122)
        refine g_if_eq (tgt := 157) h dX12_next_72 (by decide) (by first | assumption | exact ⟨by omega, by omega⟩) (fun c72 => ?_) (fun c72 => ?_)
        · refine g_iload_n h dX12_next_157 rfl ?_
          refine g_callS h rfl [_] (c_X12_isDigit _ _ _ ⟨by omega, by omega⟩) clX12_356 st_X12_isDigit rfl rfl (by rw [hRm]; first | decide | (simp only [clS]; omega)) (by rw [hRm]; first | decide | (simp only [clS]; omega)) (fun _ => Nat.le_of_ble_eq_true rfl) (by rw [hRm]; first | decide | (simp only [clS]; omega)) (by rw [hRm]; first | decide | (simp only [clS]; omega)) dX12_next_158 (fun r158 w158 hp158 => ?_)
          obtain ⟨rfl, hw158⟩ := hp158
          rw [hw158]
          have hbw158 := ite01 (48 ≤ T P ∧ T P ≤ 57)
          refine g_if_eq (tgt := 240) h dX12_next_161 (by decide) (by first | assumption | exact ⟨by omega, by omega⟩) (fun c161 => ?_) (fun c161 => ?_)
          · refine g_iload_n h dX12_next_240 rfl ?_
            refine g_bipush h dX12_next_241 rfl ?_
            refine g_icmp_eq (tgt := 282) h dX12_next_243 (by decide) (by first | assumption | exact ⟨by omega, by omega⟩) (by first | assumption | exact ⟨by omega, by omega⟩) (fun c243 => ?_) (fun c243 => ?_)
            · refine g_aload_n h dX12_next_282 rfl ?_
              refine g_iconst h dX12_next_283 ?_
              refine g_putI h flX12_343 rfl rfl (by assumption) dX12_next_284 ?_
              refine g_aload_n h dX12_next_287 rfl ?_
              refine g_iload_n h dX12_next_288 rfl ?_
              refine g_putI h flX12_346 rfl rfl (by assumption) dX12_next_289 ?_
              refine g_aload_n h dX12_next_292 rfl ?_
              refine g_dup h dX12_next_293 rfl ?_
              refine g_getI h flX12_337 rfl (by assumption) dX12_next_294 ?_
              change GG Γ 297 _ [ai (u0.2.1 400 49), ar 400] _ _ _
              rw [h49]
              refine g_iconst h dX12_next_297 ?_
              refine g_iadd h dX12_next_298 ?_
              refine g_putI h flX12_337 rfl rfl (by assumption) dX12_next_299 ?_
              refine g_vret h hQ (by first | decide | omega | (simp only [clS]; omega)) (by first | decide | omega | (simp only [clS]; omega)) ?_ dX12_next_302
              first
              | (exfalso; omega)
              | (have hPe : n ≤ P := by omega
                 refine ⟨rfl, MX_up (by unfold fN; omega) _ hu, ?_⟩
                 have ht : tokF T n P = (0, 0, P + 1) := by unfold tokF; rw [if_pos hPe]
                 exact TKs_0 ht rfl rfl rfl (by show R64 (u0.2.1 400 56); rw [h56]; exact hw))
              | (have hS0 : ¬ (T P = 60 ∨ T P = 62 ∨ T P = 61 ∨ T P = 43 ∨ T P = 45 ∨ T P = 40 ∨ T P = 41) := by omega
                 have hPlt : P < n := by omega
                 have hL : isLb (T P) = false := decide_eq_false (by omega)
                 have hD : isDb (T P) = false := decide_eq_false (by omega)
                 have hS : isSb (T P) = false := decide_eq_false (by omega)
                 have ht : tokF T n P = (1, T P, P + 1) := by unfold tokF; rw [if_neg (by omega), if_neg (by rw [hL]; decide), if_neg (by rw [hD]; decide), if_neg (by rw [hS]; decide)]
                 refine ⟨rfl, hu, ?_⟩
                 exact TKs_1 ht rfl rfl rfl (by show R64 (u0.2.1 400 56); rw [h56]; exact hw))
              | (have hPlt : P < n := by omega
                 have hL : isLb (T P) = false := decide_eq_false (by omega)
                 have hD : isDb (T P) = false := decide_eq_false (by omega)
                 have hS : isSb (T P) = true := decide_eq_true (by omega)
                 have ht : tokF T n P = (3, T P, P + 1) := by unfold tokF; rw [if_neg (by omega), if_neg (by rw [hL]; decide), if_neg (by rw [hD]; decide), if_pos hS]
                 refine ⟨rfl, MX_up (by unfold fN; omega) _ (MX_up (by unfold fN; omega) _ (MX_up (by unfold fN; omega) _ hu)), ?_⟩
                 exact TKs_3 ht rfl rfl rfl (upI_self _ _ _ _) (by show R64 (u0.2.1 400 56); rw [h56]; exact hw))
            · refine g_iload_n h dX12_next_246 rfl ?_
              refine g_bipush h dX12_next_247 rfl ?_
              refine g_icmp_eq (tgt := 282) h dX12_next_249 (by decide) (by first | assumption | exact ⟨by omega, by omega⟩) (by first | assumption | exact ⟨by omega, by omega⟩) (fun c249 => ?_) (fun c249 => ?_)
              · refine g_aload_n h dX12_next_282 rfl ?_
                refine g_iconst h dX12_next_283 ?_
                refine g_putI h flX12_343 rfl rfl (by assumption) dX12_next_284 ?_
                refine g_aload_n h dX12_next_287 rfl ?_
                refine g_iload_n h dX12_next_288 rfl ?_
                refine g_putI h flX12_346 rfl rfl (by assumption) dX12_next_289 ?_
                refine g_aload_n h dX12_next_292 rfl ?_
                refine g_dup h dX12_next_293 rfl ?_
                refine g_getI h flX12_337 rfl (by assumption) dX12_next_294 ?_
                change GG Γ 297 _ [ai (u0.2.1 400 49), ar 400] _ _ _
                rw [h49]
                refine g_iconst h dX12_next_297 ?_
                refine g_iadd h dX12_next_298 ?_
                refine g_putI h flX12_337 rfl rfl (by assumption) dX12_next_299 ?_
                refine g_vret h hQ (by first | decide | omega | (simp only [clS]; omega)) (by first | decide | omega | (simp only [clS]; omega)) ?_ dX12_next_302
                first
                | (exfalso; omega)
                | (have hPe : n ≤ P := by omega
                   refine ⟨rfl, MX_up (by unfold fN; omega) _ hu, ?_⟩
                   have ht : tokF T n P = (0, 0, P + 1) := by unfold tokF; rw [if_pos hPe]
                   exact TKs_0 ht rfl rfl rfl (by show R64 (u0.2.1 400 56); rw [h56]; exact hw))
                | (have hS0 : ¬ (T P = 60 ∨ T P = 62 ∨ T P = 61 ∨ T P = 43 ∨ T P = 45 ∨ T P = 40 ∨ T P = 41) := by omega
                   have hPlt : P < n := by omega
                   have hL : isLb (T P) = false := decide_eq_false (by omega)
                   have hD : isDb (T P) = false := decide_eq_false (by omega)
                   have hS : isSb (T P) = false := decide_eq_false (by omega)
                   have ht : tokF T n P = (1, T P, P + 1) := by unfold tokF; rw [if_neg (by omega), if_neg (by rw [hL]; decide), if_neg (by rw [hD]; decide), if_neg (by rw [hS]; decide)]
                   refine ⟨rfl, hu, ?_⟩
                   exact TKs_1 ht rfl rfl rfl (by show R64 (u0.2.1 400 56); rw [h56]; exact hw))
                | (have hPlt : P < n := by omega
                   have hL : isLb (T P) = false := decide_eq_false (by omega)
                   have hD : isDb (T P) = false := decide_eq_false (by omega)
                   have hS : isSb (T P) = true := decide_eq_true (by omega)
                   have ht : tokF T n P = (3, T P, P + 1) := by unfold tokF; rw [if_neg (by omega), if_neg (by rw [hL]; decide), if_neg (by rw [hD]; decide), if_pos hS]
                   refine ⟨rfl, MX_up (by unfold fN; omega) _ (MX_up (by unfold fN; omega) _ (MX_up (by unfold fN; omega) _ hu)), ?_⟩
                   exact TKs_3 ht rfl rfl rfl (upI_self _ _ _ _) (by show R64 (u0.2.1 400 56); rw [h56]; exact hw))
              · refine g_iload_n h dX12_next_252 rfl ?_
                refine g_bipush h dX12_next_253 rfl ?_
                refine g_icmp_eq (tgt := 282) h dX12_next_255 (by decide) (by first | assumption | exact ⟨by omega, by omega⟩) (by first | assumption | exact ⟨by omega, by omega⟩) (fun c255 => ?_) (fun c255 => ?_)
                · refine g_aload_n h dX12_next_282 rfl ?_
                  refine g_iconst h dX12_next_283 ?_
                  refine g_putI h flX12_343 rfl rfl (by assumption) dX12_next_284 ?_
                  refine g_aload_n h dX12_next_287 rfl ?_
                  refine g_iload_n h dX12_next_288 rfl ?_
                  refine g_putI h flX12_346 rfl rfl (by assumption) dX12_next_289 ?_
                  refine g_aload_n h dX12_next_292 rfl ?_
                  refine g_dup h dX12_next_293 rfl ?_
                  refine g_getI h flX12_337 rfl (by assumption) dX12_next_294 ?_
                  change GG Γ 297 _ [ai (u0.2.1 400 49), ar 400] _ _ _
                  rw [h49]
                  refine g_iconst h dX12_next_297 ?_
                  refine g_iadd h dX12_next_298 ?_
                  refine g_putI h flX12_337 rfl rfl (by assumption) dX12_next_299 ?_
                  refine g_vret h hQ (by first | decide | omega | (simp only [clS]; omega)) (by first | decide | omega | (simp only [clS]; omega)) ?_ dX12_next_302
                  first
                  | (exfalso; omega)
                  | (have hPe : n ≤ P := by omega
                     refine ⟨rfl, MX_up (by unfold fN; omega) _ hu, ?_⟩
                     have ht : tokF T n P = (0, 0, P + 1) := by unfold tokF; rw [if_pos hPe]
                     exact TKs_0 ht rfl rfl rfl (by show R64 (u0.2.1 400 56); rw [h56]; exact hw))
                  | (have hS0 : ¬ (T P = 60 ∨ T P = 62 ∨ T P = 61 ∨ T P = 43 ∨ T P = 45 ∨ T P = 40 ∨ T P = 41) := by omega
                     have hPlt : P < n := by omega
                     have hL : isLb (T P) = false := decide_eq_false (by omega)
                     have hD : isDb (T P) = false := decide_eq_false (by omega)
                     have hS : isSb (T P) = false := decide_eq_false (by omega)
                     have ht : tokF T n P = (1, T P, P + 1) := by unfold tokF; rw [if_neg (by omega), if_neg (by rw [hL]; decide), if_neg (by rw [hD]; decide), if_neg (by rw [hS]; decide)]
                     refine ⟨rfl, hu, ?_⟩
                     exact TKs_1 ht rfl rfl rfl (by show R64 (u0.2.1 400 56); rw [h56]; exact hw))
                  | (have hPlt : P < n := by omega
                     have hL : isLb (T P) = false := decide_eq_false (by omega)
                     have hD : isDb (T P) = false := decide_eq_false (by omega)
                     have hS : isSb (T P) = true := decide_eq_true (by omega)
                     have ht : tokF T n P = (3, T P, P + 1) := by unfold tokF; rw [if_neg (by omega), if_neg (by rw [hL]; decide), if_neg (by rw [hD]; decide), if_pos hS]
                     refine ⟨rfl, MX_up (by unfold fN; omega) _ (MX_up (by unfold fN; omega) _ (MX_up (by unfold fN; omega) _ hu)), ?_⟩
                     exact TKs_3 ht rfl rfl rfl (upI_self _ _ _ _) (by show R64 (u0.2.1 400 56); rw [h56]; exact hw))
                · refine g_iload_n h dX12_next_258 rfl ?_
                  refine g_bipush h dX12_next_259 rfl ?_
                  refine g_icmp_eq (tgt := 282) h dX12_next_261 (by decide) (by first | assumption | exact ⟨by omega, by omega⟩) (by first | assumption | exact ⟨by omega, by omega⟩) (fun c261 => ?_) (fun c261 => ?_)
                  · refine g_aload_n h dX12_next_282 rfl ?_
                    refine g_iconst h dX12_next_283 ?_
                    refine g_putI h flX12_343 rfl rfl (by assumption) dX12_next_284 ?_
                    refine g_aload_n h dX12_next_287 rfl ?_
                    refine g_iload_n h dX12_next_288 rfl ?_
                    refine g_putI h flX12_346 rfl rfl (by assumption) dX12_next_289 ?_
                    refine g_aload_n h dX12_next_292 rfl ?_
                    refine g_dup h dX12_next_293 rfl ?_
                    refine g_getI h flX12_337 rfl (by assumption) dX12_next_294 ?_
                    change GG Γ 297 _ [ai (u0.2.1 400 49), ar 400] _ _ _
                    rw [h49]
                    refine g_iconst h dX12_next_297 ?_
                    refine g_iadd h dX12_next_298 ?_
                    refine g_putI h flX12_337 rfl rfl (by assumption) dX12_next_299 ?_
                    refine g_vret h hQ (by first | decide | omega | (simp only [clS]; omega)) (by first | decide | omega | (simp only [clS]; omega)) ?_ dX12_next_302
                    first
                    | (exfalso; omega)
                    | (have hPe : n ≤ P := by omega
                       refine ⟨rfl, MX_up (by unfold fN; omega) _ hu, ?_⟩
                       have ht : tokF T n P = (0, 0, P + 1) := by unfold tokF; rw [if_pos hPe]
                       exact TKs_0 ht rfl rfl rfl (by show R64 (u0.2.1 400 56); rw [h56]; exact hw))
                    | (have hS0 : ¬ (T P = 60 ∨ T P = 62 ∨ T P = 61 ∨ T P = 43 ∨ T P = 45 ∨ T P = 40 ∨ T P = 41) := by omega
                       have hPlt : P < n := by omega
                       have hL : isLb (T P) = false := decide_eq_false (by omega)
                       have hD : isDb (T P) = false := decide_eq_false (by omega)
                       have hS : isSb (T P) = false := decide_eq_false (by omega)
                       have ht : tokF T n P = (1, T P, P + 1) := by unfold tokF; rw [if_neg (by omega), if_neg (by rw [hL]; decide), if_neg (by rw [hD]; decide), if_neg (by rw [hS]; decide)]
                       refine ⟨rfl, hu, ?_⟩
                       exact TKs_1 ht rfl rfl rfl (by show R64 (u0.2.1 400 56); rw [h56]; exact hw))
                    | (have hPlt : P < n := by omega
                       have hL : isLb (T P) = false := decide_eq_false (by omega)
                       have hD : isDb (T P) = false := decide_eq_false (by omega)
                       have hS : isSb (T P) = true := decide_eq_true (by omega)
                       have ht : tokF T n P = (3, T P, P + 1) := by unfold tokF; rw [if_neg (by omega), if_neg (by rw [hL]; decide), if_neg (by rw [hD]; decide), if_pos hS]
                       refine ⟨rfl, MX_up (by unfold fN; omega) _ (MX_up (by unfold fN; omega) _ (MX_up (by unfold fN; omega) _ hu)), ?_⟩
                       exact TKs_3 ht rfl rfl rfl (upI_self _ _ _ _) (by show R64 (u0.2.1 400 56); rw [h56]; exact hw))
                  · refine g_iload_n h dX12_next_264 rfl ?_
                    refine g_bipush h dX12_next_265 rfl ?_
                    refine g_icmp_eq (tgt := 282) h dX12_next_267 (by decide) (by first | assumption | exact ⟨by omega, by omega⟩) (by first | assumption | exact ⟨by omega, by omega⟩) (fun c267 => ?_) (fun c267 => ?_)
                    · refine g_aload_n h dX12_next_282 rfl ?_
                      refine g_iconst h dX12_next_283 ?_
                      refine g_putI h flX12_343 rfl rfl (by assumption) dX12_next_284 ?_
                      refine g_aload_n h dX12_next_287 rfl ?_
                      refine g_iload_n h dX12_next_288 rfl ?_
                      refine g_putI h flX12_346 rfl rfl (by assumption) dX12_next_289 ?_
                      refine g_aload_n h dX12_next_292 rfl ?_
                      refine g_dup h dX12_next_293 rfl ?_
                      refine g_getI h flX12_337 rfl (by assumption) dX12_next_294 ?_
                      change GG Γ 297 _ [ai (u0.2.1 400 49), ar 400] _ _ _
                      rw [h49]
                      refine g_iconst h dX12_next_297 ?_
                      refine g_iadd h dX12_next_298 ?_
                      refine g_putI h flX12_337 rfl rfl (by assumption) dX12_next_299 ?_
                      refine g_vret h hQ (by first | decide | omega | (simp only [clS]; omega)) (by first | decide | omega | (simp only [clS]; omega)) ?_ dX12_next_302
                      first
                      | (exfalso; omega)
                      | (have hPe : n ≤ P := by omega
                         refine ⟨rfl, MX_up (by unfold fN; omega) _ hu, ?_⟩
                         have ht : tokF T n P = (0, 0, P + 1) := by unfold tokF; rw [if_pos hPe]
                         exact TKs_0 ht rfl rfl rfl (by show R64 (u0.2.1 400 56); rw [h56]; exact hw))
                      | (have hS0 : ¬ (T P = 60 ∨ T P = 62 ∨ T P = 61 ∨ T P = 43 ∨ T P = 45 ∨ T P = 40 ∨ T P = 41) := by omega
                         have hPlt : P < n := by omega
                         have hL : isLb (T P) = false := decide_eq_false (by omega)
                         have hD : isDb (T P) = false := decide_eq_false (by omega)
                         have hS : isSb (T P) = false := decide_eq_false (by omega)
                         have ht : tokF T n P = (1, T P, P + 1) := by unfold tokF; rw [if_neg (by omega), if_neg (by rw [hL]; decide), if_neg (by rw [hD]; decide), if_neg (by rw [hS]; decide)]
                         refine ⟨rfl, hu, ?_⟩
                         exact TKs_1 ht rfl rfl rfl (by show R64 (u0.2.1 400 56); rw [h56]; exact hw))
                      | (have hPlt : P < n := by omega
                         have hL : isLb (T P) = false := decide_eq_false (by omega)
                         have hD : isDb (T P) = false := decide_eq_false (by omega)
                         have hS : isSb (T P) = true := decide_eq_true (by omega)
                         have ht : tokF T n P = (3, T P, P + 1) := by unfold tokF; rw [if_neg (by omega), if_neg (by rw [hL]; decide), if_neg (by rw [hD]; decide), if_pos hS]
                         refine ⟨rfl, MX_up (by unfold fN; omega) _ (MX_up (by unfold fN; omega) _ (MX_up (by unfold fN; omega) _ hu)), ?_⟩
                         exact TKs_3 ht rfl rfl rfl (upI_self _ _ _ _) (by show R64 (u0.2.1 400 56); rw [h56]; exact hw))
                    · refine g_iload_n h dX12_next_270 rfl ?_
                      refine g_bipush h dX12_next_271 rfl ?_
                      refine g_icmp_eq (tgt := 282) h dX12_next_273 (by decide) (by first | assumption | exact ⟨by omega, by omega⟩) (by first | assumption | exact ⟨by omega, by omega⟩) (fun c273 => ?_) (fun c273 => ?_)
                      · refine g_aload_n h dX12_next_282 rfl ?_
                        refine g_iconst h dX12_next_283 ?_
                        refine g_putI h flX12_343 rfl rfl (by assumption) dX12_next_284 ?_
                        refine g_aload_n h dX12_next_287 rfl ?_
                        refine g_iload_n h dX12_next_288 rfl ?_
                        refine g_putI h flX12_346 rfl rfl (by assumption) dX12_next_289 ?_
                        refine g_aload_n h dX12_next_292 rfl ?_
                        refine g_dup h dX12_next_293 rfl ?_
                        refine g_getI h flX12_337 rfl (by assumption) dX12_next_294 ?_
                        change GG Γ 297 _ [ai (u0.2.1 400 49), ar 400] _ _ _
                        rw [h49]
                        refine g_iconst h dX12_next_297 ?_
                        refine g_iadd h dX12_next_298 ?_
                        refine g_putI h flX12_337 rfl rfl (by assumption) dX12_next_299 ?_
                        refine g_vret h hQ (by first | decide | omega | (simp only [clS]; omega)) (by first | decide | omega | (simp only [clS]; omega)) ?_ dX12_next_302
                        first
                        | (exfalso; omega)
                        | (have hPe : n ≤ P := by omega
                           refine ⟨rfl, MX_up (by unfold fN; omega) _ hu, ?_⟩
                           have ht : tokF T n P = (0, 0, P + 1) := by unfold tokF; rw [if_pos hPe]
                           exact TKs_0 ht rfl rfl rfl (by show R64 (u0.2.1 400 56); rw [h56]; exact hw))
                        | (have hS0 : ¬ (T P = 60 ∨ T P = 62 ∨ T P = 61 ∨ T P = 43 ∨ T P = 45 ∨ T P = 40 ∨ T P = 41) := by omega
                           have hPlt : P < n := by omega
                           have hL : isLb (T P) = false := decide_eq_false (by omega)
                           have hD : isDb (T P) = false := decide_eq_false (by omega)
                           have hS : isSb (T P) = false := decide_eq_false (by omega)
                           have ht : tokF T n P = (1, T P, P + 1) := by unfold tokF; rw [if_neg (by omega), if_neg (by rw [hL]; decide), if_neg (by rw [hD]; decide), if_neg (by rw [hS]; decide)]
                           refine ⟨rfl, hu, ?_⟩
                           exact TKs_1 ht rfl rfl rfl (by show R64 (u0.2.1 400 56); rw [h56]; exact hw))
                        | (have hPlt : P < n := by omega
                           have hL : isLb (T P) = false := decide_eq_false (by omega)
                           have hD : isDb (T P) = false := decide_eq_false (by omega)
                           have hS : isSb (T P) = true := decide_eq_true (by omega)
                           have ht : tokF T n P = (3, T P, P + 1) := by unfold tokF; rw [if_neg (by omega), if_neg (by rw [hL]; decide), if_neg (by rw [hD]; decide), if_pos hS]
                           refine ⟨rfl, MX_up (by unfold fN; omega) _ (MX_up (by unfold fN; omega) _ (MX_up (by unfold fN; omega) _ hu)), ?_⟩
                           exact TKs_3 ht rfl rfl rfl (upI_self _ _ _ _) (by show R64 (u0.2.1 400 56); rw [h56]; exact hw))
                      · refine g_iload_n h dX12_next_276 rfl ?_
                        refine g_bipush h dX12_next_277 rfl ?_
                        refine g_icmp_ne (tgt := 302) h dX12_next_279 (by decide) (by first | assumption | exact ⟨by omega, by omega⟩) (by first | assumption | exact ⟨by omega, by omega⟩) (fun c279 => ?_) (fun c279 => ?_)
                        · refine g_vret h hQ (by first | decide | omega | (simp only [clS]; omega)) (by first | decide | omega | (simp only [clS]; omega)) ?_ dX12_next_302
                          first
                          | (exfalso; omega)
                          | (have hPe : n ≤ P := by omega
                             refine ⟨rfl, MX_up (by unfold fN; omega) _ hu, ?_⟩
                             have ht : tokF T n P = (0, 0, P + 1) := by unfold tokF; rw [if_pos hPe]
                             exact TKs_0 ht rfl rfl rfl (by show R64 (u0.2.1 400 56); rw [h56]; exact hw))
                          | (have hS0 : ¬ (T P = 60 ∨ T P = 62 ∨ T P = 61 ∨ T P = 43 ∨ T P = 45 ∨ T P = 40 ∨ T P = 41) := by omega
                             have hPlt : P < n := by omega
                             have hL : isLb (T P) = false := decide_eq_false (by omega)
                             have hD : isDb (T P) = false := decide_eq_false (by omega)
                             have hS : isSb (T P) = false := decide_eq_false (by omega)
                             have ht : tokF T n P = (1, T P, P + 1) := by unfold tokF; rw [if_neg (by omega), if_neg (by rw [hL]; decide), if_neg (by rw [hD]; decide), if_neg (by rw [hS]; decide)]
                             refine ⟨rfl, hu, ?_⟩
                             exact TKs_1 ht rfl rfl rfl (by show R64 (u0.2.1 400 56); rw [h56]; exact hw))
                          | (have hPlt : P < n := by omega
                             have hL : isLb (T P) = false := decide_eq_false (by omega)
                             have hD : isDb (T P) = false := decide_eq_false (by omega)
                             have hS : isSb (T P) = true := decide_eq_true (by omega)
                             have ht : tokF T n P = (3, T P, P + 1) := by unfold tokF; rw [if_neg (by omega), if_neg (by rw [hL]; decide), if_neg (by rw [hD]; decide), if_pos hS]
                             refine ⟨rfl, MX_up (by unfold fN; omega) _ (MX_up (by unfold fN; omega) _ (MX_up (by unfold fN; omega) _ hu)), ?_⟩
                             exact TKs_3 ht rfl rfl rfl (upI_self _ _ _ _) (by show R64 (u0.2.1 400 56); rw [h56]; exact hw))
                        · refine g_aload_n h dX12_next_282 rfl ?_
                          refine g_iconst h dX12_next_283 ?_
                          refine g_putI h flX12_343 rfl rfl (by assumption) dX12_next_284 ?_
                          refine g_aload_n h dX12_next_287 rfl ?_
                          refine g_iload_n h dX12_next_288 rfl ?_
                          refine g_putI h flX12_346 rfl rfl (by assumption) dX12_next_289 ?_
                          refine g_aload_n h dX12_next_292 rfl ?_
                          refine g_dup h dX12_next_293 rfl ?_
                          refine g_getI h flX12_337 rfl (by assumption) dX12_next_294 ?_
                          change GG Γ 297 _ [ai (u0.2.1 400 49), ar 400] _ _ _
                          rw [h49]
                          refine g_iconst h dX12_next_297 ?_
                          refine g_iadd h dX12_next_298 ?_
                          refine g_putI h flX12_337 rfl rfl (by assumption) dX12_next_299 ?_
                          refine g_vret h hQ (by first | decide | omega | (simp only [clS]; omega)) (by first | decide | omega | (simp only [clS]; omega)) ?_ dX12_next_302
                          first
                          | (exfalso; omega)
                          | (have hPe : n ≤ P := by omega
                             refine ⟨rfl, MX_up (by unfold fN; omega) _ hu, ?_⟩
                             have ht : tokF T n P = (0, 0, P + 1) := by unfold tokF; rw [if_pos hPe]
                             exact TKs_0 ht rfl rfl rfl (by show R64 (u0.2.1 400 56); rw [h56]; exact hw))
                          | (have hS0 : ¬ (T P = 60 ∨ T P = 62 ∨ T P = 61 ∨ T P = 43 ∨ T P = 45 ∨ T P = 40 ∨ T P = 41) := by omega
                             have hPlt : P < n := by omega
                             have hL : isLb (T P) = false := decide_eq_false (by omega)
                             have hD : isDb (T P) = false := decide_eq_false (by omega)
                             have hS : isSb (T P) = false := decide_eq_false (by omega)
                             have ht : tokF T n P = (1, T P, P + 1) := by unfold tokF; rw [if_neg (by omega), if_neg (by rw [hL]; decide), if_neg (by rw [hD]; decide), if_neg (by rw [hS]; decide)]
                             refine ⟨rfl, hu, ?_⟩
                             exact TKs_1 ht rfl rfl rfl (by show R64 (u0.2.1 400 56); rw [h56]; exact hw))
                          | (have hPlt : P < n := by omega
                             have hL : isLb (T P) = false := decide_eq_false (by omega)
                             have hD : isDb (T P) = false := decide_eq_false (by omega)
                             have hS : isSb (T P) = true := decide_eq_true (by omega)
                             have ht : tokF T n P = (3, T P, P + 1) := by unfold tokF; rw [if_neg (by omega), if_neg (by rw [hL]; decide), if_neg (by rw [hD]; decide), if_pos hS]
                             refine ⟨rfl, MX_up (by unfold fN; omega) _ (MX_up (by unfold fN; omega) _ (MX_up (by unfold fN; omega) _ hu)), ?_⟩
                             exact TKs_3 ht rfl rfl rfl (upI_self _ _ _ _) (by show R64 (u0.2.1 400 56); rw [h56]; exact hw))
          · refine g_aload_n h dX12_next_164 rfl ?_
            refine g_iconst h dX12_next_165 ?_
            refine g_putI h flX12_359 rfl rfl (by assumption) dX12_next_166 ?_
            have hl0 : isLb (T P) = false := decide_eq_false (by omega)
            have hd0 : isDb (T P) = true := decide_eq_true (by omega)
            exact digits _ rfl hd0 hl0 hPn2 _ 0 _ (Nat.zero_add _) (Nat.zero_le _) (MX_up (by unfold fN; omega) _ hu) (by rw [Nat.add_zero]; exact h49) rfl rfl rfl h56 rfl
        · refine g_aload_n h dX12_next_75 rfl ?_
          refine g_lconst h dX12_next_76 ?_
          refine g_putL h flX12_352 rfl rfl (by assumption) dX12_next_77 ?_
          have hl0 : isLb (T P) = true := decide_eq_true (by omega)
          exact letters _ rfl hl0 hPn2 _ 0 _ (Nat.zero_add _) (Nat.zero_le _) (MX_up (by unfold fN; omega) _ hu) (by rw [Nat.add_zero]; exact h49) rfl rfl rfl rfl
      · exfalso; omega
    · rw [if_neg hPn2]
      refine g_istore_n h dX12_next_52 (Nat.le_of_ble_eq_true rfl) rfl rfl ?_
      refine g_iconst h dX12_next_53 ?_
      refine g_istore_n h dX12_next_54 (Nat.le_of_ble_eq_true rfl) rfl rfl ?_
      refine g_iload_n h dX12_next_55 rfl ?_
      refine g_iconst h dX12_next_56 ?_
      refine g_icmp_ne (tgt := 68) h dX12_next_57 (by decide) (by first | assumption | exact ⟨by omega, by omega⟩) (by first | assumption | exact ⟨by omega, by omega⟩) (fun c57 => ?_) (fun c57 => ?_)
      · exfalso; omega
      · refine g_aload_n h dX12_next_60 rfl ?_
        refine g_iconst h dX12_next_61 ?_
        refine g_putI h flX12_343 rfl rfl (by assumption) dX12_next_62 ?_
        refine g_goto (tgt := 302) h dX12_next_65 (by decide) ?_
        refine g_vret h hQ (by first | decide | omega | (simp only [clS]; omega)) (by first | decide | omega | (simp only [clS]; omega)) ?_ dX12_next_302
        first
        | (exfalso; omega)
        | (have hPe : n ≤ P := by omega
           refine ⟨rfl, MX_up (by unfold fN; omega) _ hu, ?_⟩
           have ht : tokF T n P = (0, 0, P + 1) := by unfold tokF; rw [if_pos hPe]
           exact TKs_0 ht rfl rfl rfl (by show R64 (u0.2.1 400 56); rw [h56]; exact hw))
        | (have hS0 : ¬ (T P = 60 ∨ T P = 62 ∨ T P = 61 ∨ T P = 43 ∨ T P = 45 ∨ T P = 40 ∨ T P = 41) := by omega
           have hPlt : P < n := by omega
           have hL : isLb (T P) = false := decide_eq_false (by omega)
           have hD : isDb (T P) = false := decide_eq_false (by omega)
           have hS : isSb (T P) = false := decide_eq_false (by omega)
           have ht : tokF T n P = (1, T P, P + 1) := by unfold tokF; rw [if_neg (by omega), if_neg (by rw [hL]; decide), if_neg (by rw [hD]; decide), if_neg (by rw [hS]; decide)]
           refine ⟨rfl, hu, ?_⟩
           exact TKs_1 ht rfl rfl rfl (by show R64 (u0.2.1 400 56); rw [h56]; exact hw))
        | (have hPlt : P < n := by omega
           have hL : isLb (T P) = false := decide_eq_false (by omega)
           have hD : isDb (T P) = false := decide_eq_false (by omega)
           have hS : isSb (T P) = true := decide_eq_true (by omega)
           have ht : tokF T n P = (3, T P, P + 1) := by unfold tokF; rw [if_neg (by omega), if_neg (by rw [hL]; decide), if_neg (by rw [hD]; decide), if_pos hS]
           refine ⟨rfl, MX_up (by unfold fN; omega) _ (MX_up (by unfold fN; omega) _ (MX_up (by unfold fN; omega) _ hu)), ?_⟩
           exact TKs_3 ht rfl rfl rfl (upI_self _ _ _ _) (by show R64 (u0.2.1 400 56); rw [h56]; exact hw))
  have blanks : ∀ (d k : Nat) (u : AW), k + d = P → a ≤ k → MX w u → u.2.1 400 49 = (k : Int) → u.2.1 400 56 = w.2.1 400 56 → GG Γ 0 [some (ar 400), none, none] [] u 0 0 := by
    intro d
    have hall := fun j h1 h2 => runF_all (p := isBb) (T := T) (n - a) a j h1 (by rw [show runF isBb T (n - a) a = P from hP]; exact h2)
    induction d with
    | zero =>
      intro k u hk hak hu h49 h56
      obtain rfl : k = P := by omega
      have hb : bM T n (k : Int) ≠ 32 := by
        unfold bM
        split
        · intro q
          rw [Int.toNat_natCast] at q
          have hr := runF_stop (q := isBb) (T := T) (n := n) (a := a) ha (by rw [show runF isBb T (n - a) a = k from hP]; omega)
          rw [show runF isBb T (n - a) a = k from hP] at hr
          exact absurd (decide_eq_true q) (by rw [show decide (T k = 32) = isBb (T k) from rfl, hr]; decide)
        · decide
      have hTu := RT_MX hu hT
      have hMu := hTu.1

      have ts400 : u.1 400 = (112, 0) := hMu.1 400 (by decide) (by decide)
      refine g_aload_n h dX12_next_0 rfl ?_
      refine g_aload_n h dX12_next_1 rfl ?_
      refine g_getI h flX12_337 rfl (by assumption) dX12_next_2 ?_
      rw [h49]
      refine g_callV h rfl (ci := 12) [_] (by assumption) (c_X12_byteAt _ _ T n _ hTu (by omega) (by omega)) clX12_340 (by decide) rfl in_X12_byteAt se_X12_byteAt rfl rfl (by rw [hRm]; first | decide | (simp only [clS]; omega)) (by rw [hRm]; first | decide | (simp only [clS]; omega)) (fun _ => Nat.le_of_ble_eq_true rfl) (by rw [hRm]; first | decide | (simp only [clS]; omega)) (by rw [hRm]; first | decide | (simp only [clS]; omega)) dX12_next_5 (fun r5 w5 hp5 => ?_)
      obtain ⟨rfl, hw5⟩ := hp5
      rw [hw5]
      have hbb := bM_bd hTu (show (0 : Int) ≤ (k : Int) by omega)
      refine g_bipush h dX12_next_8 rfl ?_
      refine g_icmp_ne (tgt := 26) h dX12_next_10 (by decide) (by first | assumption | exact ⟨by omega, by omega⟩) (by first | assumption | exact ⟨by omega, by omega⟩) (fun c10 => ?_) (fun c10 => ?_)
      · exact first u hu h49 h56
      · exfalso; omega
    | succ d ih =>
      intro k u hk hak hu h49 h56
      have hb : bM T n (k : Int) = 32 := by
        unfold bM
        rw [if_pos (by omega), Int.toNat_natCast]
        exact of_decide_eq_true (hall k hak (by omega))
      have hTu := RT_MX hu hT
      have hMu := hTu.1

      have ts400 : u.1 400 = (112, 0) := hMu.1 400 (by decide) (by decide)
      refine g_aload_n h dX12_next_0 rfl ?_
      refine g_aload_n h dX12_next_1 rfl ?_
      refine g_getI h flX12_337 rfl (by assumption) dX12_next_2 ?_
      rw [h49]
      refine g_callV h rfl (ci := 12) [_] (by assumption) (c_X12_byteAt _ _ T n _ hTu (by omega) (by omega)) clX12_340 (by decide) rfl in_X12_byteAt se_X12_byteAt rfl rfl (by rw [hRm]; first | decide | (simp only [clS]; omega)) (by rw [hRm]; first | decide | (simp only [clS]; omega)) (fun _ => Nat.le_of_ble_eq_true rfl) (by rw [hRm]; first | decide | (simp only [clS]; omega)) (by rw [hRm]; first | decide | (simp only [clS]; omega)) dX12_next_5 (fun r5 w5 hp5 => ?_)
      obtain ⟨rfl, hw5⟩ := hp5
      rw [hw5]
      rw [hb]
      refine g_bipush h dX12_next_8 rfl ?_
      refine g_icmp_ne (tgt := 26) h dX12_next_10 (by decide) (by first | assumption | exact ⟨by omega, by omega⟩) (by first | assumption | exact ⟨by omega, by omega⟩) (fun c10 => ?_) (fun c10 => ?_)
      · exfalso; omega
      · refine g_aload_n h dX12_next_13 rfl ?_
        refine g_dup h dX12_next_14 rfl ?_
        refine g_getI h flX12_337 rfl (by assumption) dX12_next_15 ?_
        rw [h49]
        refine g_iconst h dX12_next_18 ?_
        refine g_iadd h dX12_next_19 ?_
        refine g_putI h flX12_337 rfl rfl (by assumption) dX12_next_20 ?_
        refine g_goto (tgt := 0) h dX12_next_23 (by decide) ?_
        exact ih (k + 1) _ (by omega) (by omega) (MX_up (by unfold fN; omega) _ hu) (by rw [upI_self]; omega) h56
  exact blanks (P - a) a w (by have : a ≤ P := by rw [← hP]; exact hPb.1
                               omega) (Nat.le_refl _) (MX_rfl w) hat rfl
