/-! ===== M's reader: one condition ===== -/
/-- behind a condition: nothing is open but what joins -/
def BH (T : Nat → Int) (n a : Nat) (s : XP) : Prop := s.1.2.2 = 0 ∧ (s.1.1 = 5 ∨ (s.1.1 = 4 ∧ s.1.2.1 ≠ 0 ∧ noJ T n a))
/-- the next token isn't the joining word z -/
def noW (T : Nat → Int) (n a : Nat) (z : Int) : Prop := ¬ ((tokF T n (skF T n a)).1 = 6 ∧ (tokF T n (skF T n a)).2.1 = z)
def PBH (w : AW) (T : Nat → Int) (n P nr : Nat) (R : (Int × Nat) ⊕ XP) (W : List Int) (D : Nat) (s : XP) (b : Int) (X : Nat → Prop) : Option AV → AW → Prop := fun r w' => r = none ∧ MY P w w' ∧ ∃ (D' a' : Nat) (s' : XP) (cm' : List Int), RZ w' T n P nr R W b D' a' s' cm' ∧ D' < D ∧ BH T n a' s' ∧ s'.2.1.1 = s.2.1.1 ∧ s'.2.1.2.2 = s.2.1.2.2 ∧ X a'
def KAny (l : Launch) (m : Nat) : Prop := ∀ (w : AW) (T : Nat → Int) (n P nr : Nat) (R : (Int × Nat) ⊕ XP) (W : List Int) (D a : Nat) (s : XP) (cm : List Int), RZ w T n P nr R W 6 D a s cm → s.1.1 = 2 → s.1.2.2 = 0 → TB W 1 → s.2.1.1 + (m : Int) = 8 → HTX l yX12_readAny cX12_readAny 1 none (13 + 3 * m) 0 0 w [ar 400] (PBH w T n P nr R W D s 1 (fun a' => noW T n a' 38 ∧ noW T n a' 124)) (TH P w R)
def KOne (l : Launch) (m : Nat) : Prop := ∀ (w : AW) (T : Nat → Int) (n P nr : Nat) (R : (Int × Nat) ⊕ XP) (W : List Int) (D a : Nat) (s : XP) (cm : List Int), RZ w T n P nr R W 6 D a s cm → s.1.1 = 2 → s.1.2.2 = 0 → TB W 3 → s.2.1.1 + (m : Int) = 8 → HTX l yX12_readOne cX12_readOne 3 none (11 + 3 * m) 0 0 w [ar 400] (PBH w T n P nr R W D s 3 (fun _ => True)) (TH P w R)
theorem xT_behind {T : Nat → Int} {n a : Nat} {s : XP} {k v : Int} (hk : (tokF T n (skF T n a)).1 = k) (hv : (tokF T n (skF T n a)).2.1 = v) (h : BH T n a s) : xT s k v = xBehind s k v := by
  unfold xT
  rcases h.2 with h5 | ⟨h4, hc, hj⟩
  · rw [if_neg (by omega), if_neg (by omega), if_neg (by omega), if_neg (by omega), if_neg (by omega)]
  · have hg : xGoes s k v = false := by
      unfold noJ at hj
      rw [hk, hv] at hj
      unfold xGoes isJ
      by_cases q : k = 3
      · rw [decide_eq_true q, decide_eq_false (by omega : ¬ (v = 43 ∨ v = 45)), decide_eq_false hc]
        rfl
      · rw [decide_eq_false q]
        rfl
    rw [if_neg (by omega), if_neg (by omega), if_neg (by omega), if_neg (by omega), if_pos h4, hg, if_neg (by decide), if_pos hc]
theorem xT_not {s : XP} (h : s.1.1 = 2) (h8 : s.1.2.2 < 8) : xT s 6 33 = .inr ((2, 0, s.1.2.2 + 1), s.2.1, (s.2.2.1, 33 :: s.2.2.2)) := by
  unfold xT
  rw [if_neg (by omega), if_neg (by omega), if_pos h]
  unfold xOne
  rw [if_pos ⟨rfl, rfl⟩, if_neg (by omega), h]
theorem xT_not8 {s : XP} (h : s.1.1 = 2) (h8 : s.1.2.2 = 8) : xT s 6 33 = .inl 3 := by
  unfold xT
  rw [if_neg (by omega), if_neg (by omega), if_pos h]
  unfold xOne
  rw [if_pos ⟨rfl, rfl⟩, if_pos (by omega)]
theorem xT_par {s : XP} (h : s.1.1 = 2) (h8 : s.2.1.1 < 8) : xT s 3 40 = .inr ((2, 0, 0), (s.2.1.1 + 1, s.2.1.2), (s.2.2.1, 40 :: s.2.2.2)) := by
  unfold xT
  rw [if_neg (by omega), if_neg (by omega), if_pos h]
  unfold xOne
  rw [if_neg (by decide), if_pos ⟨rfl, rfl⟩, if_neg (by omega), h]
theorem xT_par8 {s : XP} (h : s.1.1 = 2) (h8 : s.2.1.1 = 8) : xT s 3 40 = .inl 3 := by
  unfold xT
  rw [if_neg (by omega), if_neg (by omega), if_pos h]
  unfold xOne
  rw [if_neg (by decide), if_pos ⟨rfl, rfl⟩, if_pos (by omega)]
theorem xT_cmp {s : XP} {v : Int} (h4 : s.1.1 = 4) (hc : s.1.2.1 = 0) (hj : v = 60 ∨ v = 62 ∨ v = 61) : xT s 3 v = .inr ((3, 1, s.1.2.2), s.2.1, ((pwF 4 s.2.2.1 s.2.2.2).1, v :: (pwF 4 s.2.2.1 s.2.2.2).2)) := by
  have hb : bnd v = 4 := by unfold bnd; rw [if_neg (by omega), if_neg (by omega), if_neg (by omega), if_neg (by omega), if_pos (by omega)]
  have hC : isC v = true := decide_eq_true hj
  have hg : xGoes s 3 v = true := by
    unfold xGoes
    rw [Bool.and_eq_true, Bool.or_eq_true, Bool.and_eq_true]
    exact ⟨rfl, Or.inr ⟨decide_eq_true hc, hC⟩⟩
  unfold xT
  rw [if_neg (by omega), if_neg (by omega), if_neg (by omega), if_neg (by omega), if_pos h4, if_pos hg]
  unfold xCmp xJoin
  rw [hC, hb]
  rfl
theorem xT_noc {s : XP} {k v : Int} (h4 : s.1.1 = 4) (hc : s.1.2.1 = 0) (h1 : ¬ (k = 3 ∧ v = 43)) (h2 : ¬ (k = 3 ∧ v = 45)) (h3 : ¬ (k = 3 ∧ v = 60)) (h5 : ¬ (k = 3 ∧ v = 62)) (h6 : ¬ (k = 3 ∧ v = 61)) : xT s k v = .inl 1 := by
  have hg : xGoes s k v = false := by
    unfold xGoes isJ isC
    by_cases q : k = 3
    · rw [decide_eq_true q, decide_eq_false (by omega : ¬ (v = 43 ∨ v = 45)), decide_eq_false (by omega : ¬ (v = 60 ∨ v = 62 ∨ v = 61)), Bool.and_false]
      rfl
    · rw [decide_eq_false q]
      rfl
  unfold xT
  rw [if_neg (by omega), if_neg (by omega), if_neg (by omega), if_neg (by omega), if_pos h4, hg, if_neg (by decide), if_neg (by omega)]
theorem xB_par {s : XP} (h0 : 0 < s.2.1.1) : xBehind s 3 41 = .inr ((5, s.1.2.1, s.1.2.2), (s.2.1.1 - 1, s.2.1.2), ((pwF 1 s.2.2.1 s.2.2.2).1, (pwF 1 s.2.2.1 s.2.2.2).2.tail)) := by
  unfold xBehind
  rw [if_neg (by omega), if_pos ⟨rfl, rfl, h0⟩]
theorem xB_bad {s : XP} {k v : Int} (h1 : ¬ (k = 6 ∧ v = 38)) (h2 : ¬ (k = 6 ∧ v = 124)) (h3 : ¬ (k = 3 ∧ v = 41)) (h0 : 0 < s.2.1.1) : xBehind s k v = .inl 1 := by
  unfold xBehind
  rw [if_neg (by omega), if_neg (by omega), if_neg (by omega)]
theorem pw_rep (W : List Int) : ∀ (j : Nat) (cm : List Int), pwF 3 cm (List.replicate j 33 ++ W) = pwF 3 (cm ++ List.replicate j 20033) W
  | 0, cm => by rw [List.replicate_zero, List.replicate_zero, List.append_nil]; rfl
  | j + 1, cm => by
    rw [List.replicate_succ, List.cons_append, pw_c (by decide), pw_rep W j, List.append_assoc]
    rfl
theorem TB_rep {W : List Int} {b : Int} (hb : 3 < b) (h : TB W 3) : ∀ j : Nat, TB (List.replicate j 33 ++ W) b
  | 0 => by rw [List.replicate_zero, List.nil_append]; exact TB_le h (by omega)
  | j + 1 => by rw [List.replicate_succ, List.cons_append]; exact TB_c (show (3 : Int) < b from hb)
section
variable {u : AW} {T : Nat → Int} {n P nr a : Nat} {cm : List Int} {op tm : Int} {k v : Int} (l : Launch)
theorem t_and (ha : a ≤ n) (h : RQ u T n P nr a cm op tm) (hk : (tokF T n (skF T n a)).1 = k) (hv : (tokF T n (skF T n a)).2.1 = v) : HT l yX12_isWord cX12_isWord 2 (some .boolean) 7 0 0 u [ar 400, ar (21000 + 18)] (rI (if k = 6 ∧ v = 38 then 1 else 0) u) := t_isWord l ha h hk hv 18 (by decide) (by decide)
theorem t_or (ha : a ≤ n) (h : RQ u T n P nr a cm op tm) (hk : (tokF T n (skF T n a)).1 = k) (hv : (tokF T n (skF T n a)).2.1 = v) : HT l yX12_isWord cX12_isWord 2 (some .boolean) 7 0 0 u [ar 400, ar (21000 + 19)] (rI (if k = 6 ∧ v = 124 then 1 else 0) u) := t_isWord l ha h hk hv 19 (by decide) (by decide)
theorem t_not (ha : a ≤ n) (h : RQ u T n P nr a cm op tm) (hk : (tokF T n (skF T n a)).1 = k) (hv : (tokF T n (skF T n a)).2.1 = v) : HT l yX12_isWord cX12_isWord 2 (some .boolean) 7 0 0 u [ar 400, ar (21000 + 20)] (rI (if k = 6 ∧ v = 33 then 1 else 0) u) := t_isWord l ha h hk hv 20 (by decide) (by decide)
theorem RZ_p {R : (Int × Nat) ⊕ XP} {W : List Int} {b : Int} {D : Nat} {s : XP} (h : RZ u T n P nr R W b D a s cm) : skF T n a ≤ n ∧ cm.length + W.length ≤ 300 := by
  have := runF_bd isBb T (n - a) a
  have h1 := h.2.2.2.2.1
  have h2 := h.2.2.2.2.2.2.2
  have h3 := h.2.1.1.2.2.1
  have hp : skF T n a ≤ n := by
    unfold skF
    omega
  exact ⟨hp, by omega⟩
end
set_option maxRecDepth 100000 in
set_option maxHeartbeats 4000000 in
theorem k_one (l : Launch) (w : AW) (m : Nat) (T : Nat → Int) (n P nr : Nat) (R : (Int × Nat) ⊕ XP) (W : List Int) (D a : Nat) (s : XP) (cm : List Int) (hZ : RZ w T n P nr R W 6 D a s cm) (h2 : s.1.1 = 2) (h0 : s.1.2.2 = 0) (hW : TB W 3) (hm : s.2.1.1 + (m : Int) = 8) (hA : ∀ m' : Nat, m = m' + 1 → KAny l m') : HTX l yX12_readOne cX12_readOne 3 none (11 + 3 * m) 0 0 w [ar 400] (PBH w T n P nr R W D s 3 (fun _ => True)) (TH P w R) := by
  refine HTX.of (by decide) (by intro v hv; simp only [List.mem_cons, List.not_mem_nil, or_false] at hv; rcases hv with rfl <;> rfl) (Nat.le_of_ble_eq_true rfl) ?_
  intro Γ h hQ hRm hnm hl hw0
  have hA' : ∀ m' : Nat, m = m' + 1 → KAny Γ.1.2.1 m' := by rw [hl]; exact hA
  have hP4 := hZ.2.1.2.2.1.2.2.2
  have hM := hZ.2.1.1.1
  have s400 : w.1 400 = (112, 0) := hM.1 400 (by decide) (by decide)
  have s445x : w.1 445 = (111, 0) := hM.1 445 (by decide) (by decide)
  have sPx : w.1 P = (110, 0) := hZ.2.1.2.2.2.1.1
  -- the nots put
  have tail : ∀ (j D1 a1 : Nat) (s1 : XP) (cm1 : List Int) (u : AW) (x : Option AV), MY P w u → RZ u T n P nr R (List.replicate j 33 ++ W) 4 D1 a1 s1 cm1 → D1 < D → BH T n a1 s1 → s1.2.1.1 = s.2.1.1 → s1.2.1.2.2 = s.2.1.2.2 → GG Γ 182 [some (ar 400), some (ai (j : Int)), x] [] u 0 0 := by
    intro j D1 a1 s1 cm1 u0 x hMY0 hZ1 hlt hB hso hsa
    have hpl := (RZ_p hZ1).2
    rw [List.length_append, List.length_replicate] at hpl
    have loop : ∀ (d i : Nat) (u : AW), i + d = j → MY P w u → RQ u T n P nr a1 (cm1 ++ List.replicate i 20033) s1.2.1.1 s1.2.1.2.1 → GG Γ 184 [some (ar 400), some (ai (j : Int)), some (ai (i : Int))] [] u 0 0 := by
      intro d
      induction d with
      | zero =>
        intro i u hi hMY hq
        obtain rfl : i = j := by omega
        refine g_iload_n h dX12_readOne_184 rfl ?_
        refine g_iload_n h dX12_readOne_185 rfl ?_
        refine g_icmp_ge (tgt := 205) h dX12_readOne_186 (by decide) (by first | assumption | exact ⟨by omega, by omega⟩) (by first | assumption | exact ⟨by omega, by omega⟩) (fun c186 => ?_) (fun c186 => ?_)
        · refine g_xret hQ h hRm fun Γ h hQ hRm => ?_
          refine g_vret h hQ (by first | decide | omega | (simp only [clS]; omega)) (by first | decide | omega | (simp only [clS]; omega)) ?_ dX12_readOne_205
          refine ⟨rfl, hMY, D1, a1, s1, cm1 ++ List.replicate i 20033, ⟨hZ1.1, hq, ?_, hZ1.2.2.2.1, ?_, hZ1.2.2.2.2.2⟩, hlt, hB, hso, hsa, trivial⟩
          · rw [pw_dn hZ1.2.2.1 (by decide : (3 : Int) ≤ 4), pw_rep]
            exact TB_pw hW _
          · have := hZ1.2.2.2.2.1
            rw [List.length_append, List.length_replicate] at this ⊢
            omega
        · exact absurd c186 (by omega)
      | succ d ih =>
        intro i u hi hMY hq
        have t400 : u.1 400 = (112, 0) := by rw [hMY.1]; exact s400
        have tP : u.1 P = (110, 0) := by rw [hMY.1]; exact sPx
        have hlen : (cm1 ++ List.replicate i (20033 : Int)).length < 300 := by rw [List.length_append, List.length_replicate]; omega
        refine g_iload_n h dX12_readOne_184 rfl ?_
        refine g_iload_n h dX12_readOne_185 rfl ?_
        refine g_icmp_ge (tgt := 205) h dX12_readOne_186 (by decide) (by first | assumption | exact ⟨by omega, by omega⟩) (by first | assumption | exact ⟨by omega, by omega⟩) (fun c186 => ?_) (fun c186 => ?_)
        · exact absurd c186 (by omega)
        · refine g_aload_n h dX12_readOne_189 rfl ?_
          refine g_callV h rfl (ci := 12) [] (by assumption) (t_fresh _ hq) clX12_378 (by decide) rfl in_X12_fresh se_X12_fresh rfl rfl (by rw [hRm]; first | decide | (simp only [clS]; omega)) (by rw [hRm]; first | decide | (simp only [clS]; omega)) (fun _ => Nat.le_of_ble_eq_true rfl) (by rw [hRm]; first | decide | (simp only [clS]; omega)) (by rw [hRm]; first | decide | (simp only [clS]; omega)) dX12_readOne_190 (fun r190 w190 hp190 => ?_)
          obtain ⟨rfl, hw190⟩ := hp190
          rw [hw190]
          refine g_bipush h dX12_readOne_193 rfl ?_
          refine g_iconst h dX12_readOne_195 ?_
          refine g_callV h rfl (ci := 10) [_, _] (by assumption) (t_put _ hq _ _ hlen) clX12_417 (by decide) rfl in_X10_put se_X10_put rfl rfl (by rw [hRm]; first | decide | (simp only [clS]; omega)) (by rw [hRm]; first | decide | (simp only [clS]; omega)) (fun _ => Nat.le_of_ble_eq_true rfl) (by rw [hRm]; first | decide | (simp only [clS]; omega)) (by rw [hRm]; first | decide | (simp only [clS]; omega)) dX12_readOne_196 (fun r196 w196 hp196 => ?_)
          obtain ⟨rfl, hw196⟩ := hp196
          rw [hw196]
          refine g_iinc h dX12_readOne_199 rfl (Nat.le_of_ble_eq_true rfl) rfl rfl ?_
          refine g_goto (tgt := 184) h dX12_readOne_202 (by decide) ?_
          refine ih (i + 1) _ (by omega) (MY_tr hMY (MY_pu _ _ _ _ hP4)) ?_
          have hq2 := RQ_pu hq (s := 7) (v := 0) (c := 20033) hlen (by unfold okIt; decide)
          rw [List.append_assoc, show List.replicate i (20033 : Int) ++ [20033] = List.replicate (i + 1) 20033 from List.replicate_succ'.symm] at hq2
          exact hq2
    refine g_iconst h dX12_readOne_182 ?_
    refine g_istore_n h dX12_readOne_183 (Nat.le_of_ble_eq_true rfl) rfl rfl ?_
    exact loop j 0 u0 (by omega) hMY0 (by rw [List.replicate_zero, List.append_nil]; exact hZ1.2.1)
  -- a comparison
  have comp : ∀ (j D1 a1 : Nat) (s1 : XP) (cm1 : List Int) (u : AW) (x : Option AV), MY P w u → RZ u T n P nr R (List.replicate j 33 ++ W) 6 D1 a1 s1 cm1 → D1 ≤ D → s1.1.1 = 2 → ¬ ((tokF T n (skF T n a1)).1 = 6 ∧ (tokF T n (skF T n a1)).2.1 = 33) → ¬ ((tokF T n (skF T n a1)).1 = 3 ∧ (tokF T n (skF T n a1)).2.1 = 40) → s1.2.1.1 = s.2.1.1 → s1.2.1.2.2 = s.2.1.2.2 → GG Γ 108 [some (ar 400), some (ai (j : Int)), x] [] u 0 0 := by
    intro j D1 a1 s1 cm1 u0 x hMY0 hZ1 hlt hs1 hn1 hn2 hso hsa
    have t0 : u0.1 400 = (112, 0) := by rw [hMY0.1]; exact s400
    refine g_aload_n h dX12_readOne_108 rfl ?_
    refine g_callVq h rfl (ci := 12) [] (by assumption) (c_X12_readSum _ _ T n P nr R _ _ _ _ _ hZ1 (Or.inr ⟨hs1, hn1, hn2⟩) (TB_rep (by decide) hW j)) clX12_427 (by decide) rfl in_X12_readSum se_X12_readSum rfl rfl (by rw [hRm]; first | decide | omega | (simp only [clS]; omega)) (by rw [hRm]; first | decide | omega | (simp only [clS]; omega)) (fun _ => Nat.le_of_ble_eq_true rfl) (by rw [hRm]; first | decide | omega | (simp only [clS]; omega)) (by rw [hRm]; first | decide | omega | (simp only [clS]; omega)) dX12_readOne_109 (fun r9 w9 hp9 => ?_) (fun E9 x9 w9 hx9 => g_xout hQ (by decide) (by decide) (TH_of hMY0 hx9))
    obtain ⟨rfl, hMYa, D2, a2, s2, cm2, hZ2, hD2, hs2, ho2, ha2, hj2⟩ := hp9
    have hMY2 := MY_tr hMY0 hMYa
    have zQ := hZ2.2.1
    have za := hZ2.2.2.2.2.2.2.2
    have t400 : w9.1 400 = (112, 0) := by rw [hMY2.1]; exact s400
    have s445 : w9.1 445 = (111, 0) := by rw [hMY2.1]; exact s445x
    have hM2 := zQ.1.1
    have hsn : sN s1 = ((2, 0, 0), s1.2) := by unfold sN; rw [if_neg (by omega), hs1]
    rw [hsn] at hs2
    have hs2' : s2.1 = (4, 0, 0) := hs2
    obtain ⟨k, hk⟩ : ∃ k, (tokF T n (skF T n a2)).1 = k := ⟨_, rfl⟩
    obtain ⟨v, hv⟩ : ∃ v, (tokF T n (skF T n a2)).2.1 = v := ⟨_, rfl⟩
    have hj3 := hj2
    unfold noJ at hj3
    rw [hk, hv] at hj3
    obtain ⟨-, -, -, g51, -, -, -, r56, -⟩ := RQ_TF za zQ hk hv
    have go : ∀ (g v : Int), (g = 4 ∧ v = 60 ∨ g = 5 ∧ v = 62 ∨ g = 6 ∧ v = 61) → (tokF T n (skF T n a2)).1 = 3 → (tokF T n (skF T n a2)).2.1 = v → GG Γ 153 [some (ar 400), some (ai (j : Int)), x] [ai g] w9 0 0 := by
      intro g v hgv hk hv
      have hb4 : bnd v = 4 := by rcases hgv with ⟨-, e⟩ | ⟨-, e⟩ | ⟨-, e⟩ <;> rw [e] <;> decide
      have hg4 : g = 4 ∨ g = 5 ∨ g = 6 := by rcases hgv with ⟨e, -⟩ | ⟨e, -⟩ | ⟨e, -⟩ <;> rw [e] <;> decide
      have hvv : v = 60 ∨ v = 62 ∨ v = 61 := by rcases hgv with ⟨-, e⟩ | ⟨-, e⟩ | ⟨-, e⟩ <;> rw [e] <;> decide
      have rg : R32 g := ⟨by omega, by omega⟩
      have hok : okIt g 0 (20000 + v) := by unfold okIt; rcases hgv with ⟨e1, e2⟩ | ⟨e1, e2⟩ | ⟨e1, e2⟩ <;> rw [e1, e2] <;> decide
      refine g_istore_n h dX12_readOne_153 (Nat.le_of_ble_eq_true rfl) rfl rfl ?_
      refine g_iload_n h dX12_readOne_154 rfl ?_
      refine g_iconst h dX12_readOne_155 ?_
      refine g_icmp_ne (tgt := 165) h dX12_readOne_156 (by decide) (by first | assumption | exact ⟨by omega, by omega⟩) (by first | assumption | exact ⟨by omega, by omega⟩) (fun c156 => ?_) (fun c156 => ?_)
      · refine g_aload_n h dX12_readOne_165 rfl ?_
        refine g_callV h rfl (ci := 12) [] (by assumption) (t_next _ za zQ (by rw [hk]; decide)) clX12_391 (by decide) rfl in_X12_next se_X12_next rfl rfl (by rw [hRm]; first | decide | (simp only [clS]; omega)) (by rw [hRm]; first | decide | (simp only [clS]; omega)) (fun _ => Nat.le_of_ble_eq_true rfl) (by rw [hRm]; first | decide | (simp only [clS]; omega)) (by rw [hRm]; first | decide | (simp only [clS]; omega)) dX12_readOne_166 (fun r166 w166 hp166 => ?_)
        obtain ⟨rfl, hx, ht⟩ := hp166
        have hMY3 := MY_tr hMY2 (MY_X hP4 hx)
        have ex := xT_cmp (s := s2) (v := v) (by rw [hs2']) (by rw [hs2']) hvv
        have e2 : xT s2 (tokF T n (skF T n a2)).1 (tokF T n (skF T n a2)).2.1 = xT s2 3 v := by rw [hk, hv]
        have hp166w : pwF 4 s2.2.2.1 s2.2.2.2 = (cm2, List.replicate j 33 ++ W) := by rw [pw_dn hZ2.2.2.1 (by decide : (4 : Int) ≤ 5)]; exact TB_pw (TB_rep (by decide) hW j) _
        have zt := RZ_to (b' := 6) (W' := v :: (List.replicate j 33 ++ W)) hZ2 (by rw [hs2']; show (4 : Int) ≠ 6; decide) (by rw [hk]; decide) (e2.trans ex) (RQ_next zQ hx ht) rfl rfl (by rw [hp166w]; exact TB_pw (TB_6 _) _) (Nat.le_refl _) hZ2.2.2.2.2.2.1 hZ2.2.2.2.2.2.2.1
        have tw : w166.1 400 = (112, 0) := by rw [hMY3.1]; exact s400
        refine g_aload_n h dX12_readOne_169 rfl ?_
        refine g_callVq h rfl (ci := 12) [] (by assumption) (c_X12_readSum _ _ T n P nr R _ _ _ _ _ zt.1 (Or.inl rfl) (TB_c (by rw [hb4]; decide))) clX12_427 (by decide) rfl in_X12_readSum se_X12_readSum rfl rfl (by rw [hRm]; first | decide | omega | (simp only [clS]; omega)) (by rw [hRm]; first | decide | omega | (simp only [clS]; omega)) (fun _ => Nat.le_of_ble_eq_true rfl) (by rw [hRm]; first | decide | omega | (simp only [clS]; omega)) (by rw [hRm]; first | decide | omega | (simp only [clS]; omega)) dX12_readOne_170 (fun r9 w9 hp9 => ?_) (fun E9 x9 w9 hx9 => g_xout hQ (by decide) (by decide) (TH_of hMY3 hx9))
        obtain ⟨rfl, hMYb, D3, a3, s3, cm3, hZ3, hD3, hs3, ho3, ha3, hj3⟩ := hp9
        have hMY4 := MY_tr hMY3 hMYb
        have t4 : w9.1 400 = (112, 0) := by rw [hMY4.1]; exact s400
        have t5 : w9.1 P = (110, 0) := by rw [hMY4.1]; exact sPx
        refine g_aload_n h dX12_readOne_173 rfl ?_
        refine g_callV h rfl (ci := 12) [] (by assumption) (t_fresh _ hZ3.2.1) clX12_378 (by decide) rfl in_X12_fresh se_X12_fresh rfl rfl (by rw [hRm]; first | decide | (simp only [clS]; omega)) (by rw [hRm]; first | decide | (simp only [clS]; omega)) (fun _ => Nat.le_of_ble_eq_true rfl) (by rw [hRm]; first | decide | (simp only [clS]; omega)) (by rw [hRm]; first | decide | (simp only [clS]; omega)) dX12_readOne_174 (fun r174 w174 hp174 => ?_)
        obtain ⟨rfl, hw174⟩ := hp174
        rw [hw174]
        refine g_iload_n h dX12_readOne_177 rfl ?_
        refine g_iconst h dX12_readOne_178 ?_
        refine g_callV h rfl (ci := 10) [_, _] (by assumption) (t_put _ hZ3.2.1 _ _ (RZ_lt hZ3)) clX12_417 (by decide) rfl in_X10_put se_X10_put rfl rfl (by rw [hRm]; first | decide | (simp only [clS]; omega)) (by rw [hRm]; first | decide | (simp only [clS]; omega)) (fun _ => Nat.le_of_ble_eq_true rfl) (by rw [hRm]; first | decide | (simp only [clS]; omega)) (by rw [hRm]; first | decide | (simp only [clS]; omega)) dX12_readOne_179 (fun r179 w179 hp179 => ?_)
        obtain ⟨rfl, hw179⟩ := hp179
        rw [hw179]
        exact tail j D3 a3 s3 _ _ _ (MY_tr hMY4 (MY_pu _ _ _ _ hP4)) (RZ_pu hZ3 hok (by omega) (by decide) (TB_rep (by decide) hW j)) (by omega) ⟨by rw [hs3]; show s2.1.2.2 = 0; rw [hs2'], Or.inr ⟨by rw [hs3], by rw [hs3]; show (1 : Int) ≠ 0; decide, hj3⟩⟩ (by rw [ho3]; show s2.2.1.1 = _; rw [ho2]; exact hso) (by rw [ha3]; show s2.2.1.2.2 = _; rw [ha2]; exact hsa)
      · exact absurd c156 (by omega)
    by_cases ha1 : k = 3 ∧ v = 60
    · refine g_aload_n h dX12_readOne_112 rfl ?_
      refine g_bipush h dX12_readOne_113 rfl ?_
      refine g_callV h rfl (ci := 12) [_] (by assumption) (t_is _ za zQ hk hv 60 ⟨by decide, by decide⟩) clX12_424 (by decide) rfl in_X12_is se_X12_is rfl rfl (by rw [hRm]; first | decide | (simp only [clS]; omega)) (by rw [hRm]; first | decide | (simp only [clS]; omega)) (fun _ => Nat.le_of_ble_eq_true rfl) (by rw [hRm]; first | decide | (simp only [clS]; omega)) (by rw [hRm]; first | decide | (simp only [clS]; omega)) dX12_readOne_115 (fun r115 w115 hp115 => ?_)
      obtain ⟨rfl, hw115⟩ := hp115
      rw [hw115]
      rw [if_pos ha1]
      refine g_if_eq (tgt := 125) h dX12_readOne_118 (by decide) (by first | assumption | exact ⟨by omega, by omega⟩) (fun c118 => ?_) (fun c118 => ?_)
      · exact absurd c118 (by decide)
      · refine g_iconst h dX12_readOne_121 ?_
        refine g_goto (tgt := 153) h dX12_readOne_122 (by decide) ?_
        exact go 4 60 (Or.inl ⟨rfl, rfl⟩) (by rw [hk]; exact ha1.1) (by rw [hv]; exact ha1.2)
    by_cases hb1 : k = 3 ∧ v = 62
    · refine g_aload_n h dX12_readOne_112 rfl ?_
      refine g_bipush h dX12_readOne_113 rfl ?_
      refine g_callV h rfl (ci := 12) [_] (by assumption) (t_is _ za zQ hk hv 60 ⟨by decide, by decide⟩) clX12_424 (by decide) rfl in_X12_is se_X12_is rfl rfl (by rw [hRm]; first | decide | (simp only [clS]; omega)) (by rw [hRm]; first | decide | (simp only [clS]; omega)) (fun _ => Nat.le_of_ble_eq_true rfl) (by rw [hRm]; first | decide | (simp only [clS]; omega)) (by rw [hRm]; first | decide | (simp only [clS]; omega)) dX12_readOne_115 (fun r115 w115 hp115 => ?_)
      obtain ⟨rfl, hw115⟩ := hp115
      rw [hw115]
      rw [if_neg ha1]
      refine g_if_eq (tgt := 125) h dX12_readOne_118 (by decide) (by first | assumption | exact ⟨by omega, by omega⟩) (fun c118 => ?_) (fun c118 => ?_)
      · refine g_aload_n h dX12_readOne_125 rfl ?_
        refine g_bipush h dX12_readOne_126 rfl ?_
        refine g_callV h rfl (ci := 12) [_] (by assumption) (t_is _ za zQ hk hv 62 ⟨by decide, by decide⟩) clX12_424 (by decide) rfl in_X12_is se_X12_is rfl rfl (by rw [hRm]; first | decide | (simp only [clS]; omega)) (by rw [hRm]; first | decide | (simp only [clS]; omega)) (fun _ => Nat.le_of_ble_eq_true rfl) (by rw [hRm]; first | decide | (simp only [clS]; omega)) (by rw [hRm]; first | decide | (simp only [clS]; omega)) dX12_readOne_128 (fun r128 w128 hp128 => ?_)
        obtain ⟨rfl, hw128⟩ := hp128
        rw [hw128]
        rw [if_pos hb1]
        refine g_if_eq (tgt := 138) h dX12_readOne_131 (by decide) (by first | assumption | exact ⟨by omega, by omega⟩) (fun c131 => ?_) (fun c131 => ?_)
        · exact absurd c131 (by decide)
        · refine g_iconst h dX12_readOne_134 ?_
          refine g_goto (tgt := 153) h dX12_readOne_135 (by decide) ?_
          exact go 5 62 (Or.inr (Or.inl ⟨rfl, rfl⟩)) (by rw [hk]; exact hb1.1) (by rw [hv]; exact hb1.2)
      · exact absurd c118 (by decide)
    by_cases hc1 : k = 3 ∧ v = 61
    · refine g_aload_n h dX12_readOne_112 rfl ?_
      refine g_bipush h dX12_readOne_113 rfl ?_
      refine g_callV h rfl (ci := 12) [_] (by assumption) (t_is _ za zQ hk hv 60 ⟨by decide, by decide⟩) clX12_424 (by decide) rfl in_X12_is se_X12_is rfl rfl (by rw [hRm]; first | decide | (simp only [clS]; omega)) (by rw [hRm]; first | decide | (simp only [clS]; omega)) (fun _ => Nat.le_of_ble_eq_true rfl) (by rw [hRm]; first | decide | (simp only [clS]; omega)) (by rw [hRm]; first | decide | (simp only [clS]; omega)) dX12_readOne_115 (fun r115 w115 hp115 => ?_)
      obtain ⟨rfl, hw115⟩ := hp115
      rw [hw115]
      rw [if_neg ha1]
      refine g_if_eq (tgt := 125) h dX12_readOne_118 (by decide) (by first | assumption | exact ⟨by omega, by omega⟩) (fun c118 => ?_) (fun c118 => ?_)
      · refine g_aload_n h dX12_readOne_125 rfl ?_
        refine g_bipush h dX12_readOne_126 rfl ?_
        refine g_callV h rfl (ci := 12) [_] (by assumption) (t_is _ za zQ hk hv 62 ⟨by decide, by decide⟩) clX12_424 (by decide) rfl in_X12_is se_X12_is rfl rfl (by rw [hRm]; first | decide | (simp only [clS]; omega)) (by rw [hRm]; first | decide | (simp only [clS]; omega)) (fun _ => Nat.le_of_ble_eq_true rfl) (by rw [hRm]; first | decide | (simp only [clS]; omega)) (by rw [hRm]; first | decide | (simp only [clS]; omega)) dX12_readOne_128 (fun r128 w128 hp128 => ?_)
        obtain ⟨rfl, hw128⟩ := hp128
        rw [hw128]
        rw [if_neg hb1]
        refine g_if_eq (tgt := 138) h dX12_readOne_131 (by decide) (by first | assumption | exact ⟨by omega, by omega⟩) (fun c131 => ?_) (fun c131 => ?_)
        · refine g_aload_n h dX12_readOne_138 rfl ?_
          refine g_bipush h dX12_readOne_139 rfl ?_
          refine g_callV h rfl (ci := 12) [_] (by assumption) (t_is _ za zQ hk hv 61 ⟨by decide, by decide⟩) clX12_424 (by decide) rfl in_X12_is se_X12_is rfl rfl (by rw [hRm]; first | decide | (simp only [clS]; omega)) (by rw [hRm]; first | decide | (simp only [clS]; omega)) (fun _ => Nat.le_of_ble_eq_true rfl) (by rw [hRm]; first | decide | (simp only [clS]; omega)) (by rw [hRm]; first | decide | (simp only [clS]; omega)) dX12_readOne_141 (fun r141 w141 hp141 => ?_)
          obtain ⟨rfl, hw141⟩ := hp141
          rw [hw141]
          rw [if_pos hc1]
          refine g_if_eq (tgt := 152) h dX12_readOne_144 (by decide) (by first | assumption | exact ⟨by omega, by omega⟩) (fun c144 => ?_) (fun c144 => ?_)
          · exact absurd c144 (by decide)
          · refine g_bipush h dX12_readOne_147 rfl ?_
            refine g_goto (tgt := 153) h dX12_readOne_149 (by decide) ?_
            exact go 6 61 (Or.inr (Or.inr ⟨rfl, rfl⟩)) (by rw [hk]; exact hc1.1) (by rw [hv]; exact hc1.2)
        · exact absurd c131 (by decide)
      · exact absurd c118 (by decide)
    refine g_aload_n h dX12_readOne_112 rfl ?_
    refine g_bipush h dX12_readOne_113 rfl ?_
    refine g_callV h rfl (ci := 12) [_] (by assumption) (t_is _ za zQ hk hv 60 ⟨by decide, by decide⟩) clX12_424 (by decide) rfl in_X12_is se_X12_is rfl rfl (by rw [hRm]; first | decide | (simp only [clS]; omega)) (by rw [hRm]; first | decide | (simp only [clS]; omega)) (fun _ => Nat.le_of_ble_eq_true rfl) (by rw [hRm]; first | decide | (simp only [clS]; omega)) (by rw [hRm]; first | decide | (simp only [clS]; omega)) dX12_readOne_115 (fun r115 w115 hp115 => ?_)
    obtain ⟨rfl, hw115⟩ := hp115
    rw [hw115]
    rw [if_neg ha1]
    refine g_if_eq (tgt := 125) h dX12_readOne_118 (by decide) (by first | assumption | exact ⟨by omega, by omega⟩) (fun c118 => ?_) (fun c118 => ?_)
    · refine g_aload_n h dX12_readOne_125 rfl ?_
      refine g_bipush h dX12_readOne_126 rfl ?_
      refine g_callV h rfl (ci := 12) [_] (by assumption) (t_is _ za zQ hk hv 62 ⟨by decide, by decide⟩) clX12_424 (by decide) rfl in_X12_is se_X12_is rfl rfl (by rw [hRm]; first | decide | (simp only [clS]; omega)) (by rw [hRm]; first | decide | (simp only [clS]; omega)) (fun _ => Nat.le_of_ble_eq_true rfl) (by rw [hRm]; first | decide | (simp only [clS]; omega)) (by rw [hRm]; first | decide | (simp only [clS]; omega)) dX12_readOne_128 (fun r128 w128 hp128 => ?_)
      obtain ⟨rfl, hw128⟩ := hp128
      rw [hw128]
      rw [if_neg hb1]
      refine g_if_eq (tgt := 138) h dX12_readOne_131 (by decide) (by first | assumption | exact ⟨by omega, by omega⟩) (fun c131 => ?_) (fun c131 => ?_)
      · refine g_aload_n h dX12_readOne_138 rfl ?_
        refine g_bipush h dX12_readOne_139 rfl ?_
        refine g_callV h rfl (ci := 12) [_] (by assumption) (t_is _ za zQ hk hv 61 ⟨by decide, by decide⟩) clX12_424 (by decide) rfl in_X12_is se_X12_is rfl rfl (by rw [hRm]; first | decide | (simp only [clS]; omega)) (by rw [hRm]; first | decide | (simp only [clS]; omega)) (fun _ => Nat.le_of_ble_eq_true rfl) (by rw [hRm]; first | decide | (simp only [clS]; omega)) (by rw [hRm]; first | decide | (simp only [clS]; omega)) dX12_readOne_141 (fun r141 w141 hp141 => ?_)
        obtain ⟨rfl, hw141⟩ := hp141
        rw [hw141]
        rw [if_neg hc1]
        refine g_if_eq (tgt := 152) h dX12_readOne_144 (by decide) (by first | assumption | exact ⟨by omega, by omega⟩) (fun c144 => ?_) (fun c144 => ?_)
        · refine g_iconst h dX12_readOne_152 ?_
          refine g_istore_n h dX12_readOne_153 (Nat.le_of_ble_eq_true rfl) rfl rfl ?_
          refine g_iload_n h dX12_readOne_154 rfl ?_
          refine g_iconst h dX12_readOne_155 ?_
          refine g_icmp_ne (tgt := 165) h dX12_readOne_156 (by decide) (by first | assumption | exact ⟨by omega, by omega⟩) (by first | assumption | exact ⟨by omega, by omega⟩) (fun c156 => ?_) (fun c156 => ?_)
          · exact absurd c156 (by decide)
          · refine g_aload_n h dX12_readOne_159 rfl ?_
            refine g_iconst h dX12_readOne_160 ?_
            refine g_callV h rfl (ci := 12) [_] (by assumption) (c_X12_stop _ _ _ hM2) clX12_397 (by decide) rfl in_X12_stop se_X12_stop rfl rfl (by rw [hRm]; first | decide | (simp only [clS]; omega)) (by rw [hRm]; first | decide | (simp only [clS]; omega)) (fun _ => Nat.le_of_ble_eq_true rfl) (by rw [hRm]; first | decide | (simp only [clS]; omega)) (by rw [hRm]; first | decide | (simp only [clS]; omega)) dX12_readOne_161 (fun r161 w161 hp161 => ?_)
            obtain ⟨rfl, hw161⟩ := hp161
            rw [hw161]
            refine g_athrow h (ci := 11) s445 (by decide) dX12_readOne_164 ?_
            refine g_xout hQ (by decide) (by decide) (TH_stop hP4 hMY2 g51 r56 (RZ_bad hZ2 (by rw [hs2']; show (4 : Int) ≠ 6; decide) (by rw [hk, hv]; exact xT_noc (by rw [hs2']) (by rw [hs2']) hj3.1 hj3.2 ha1 hb1 hc1)))
        · exact absurd c144 (by decide)
      · exact absurd c131 (by decide)
    · exact absurd c118 (by decide)
  have brk : ∀ (j D1 a1 : Nat) (s1 : XP) (cm1 : List Int) (u : AW) (x : Option AV), MY P w u → RZ u T n P nr R (List.replicate j 33 ++ W) 6 D1 a1 s1 cm1 → D1 ≤ D → s1.1.1 = 2 → (tokF T n (skF T n a1)).1 = 3 → (tokF T n (skF T n a1)).2.1 = 40 → s1.2.1.1 = s.2.1.1 → s1.2.1.2.2 = s.2.1.2.2 → GG Γ 43 [some (ar 400), some (ai (j : Int)), x] [] u 0 0 := by
    intro j D1 a1 s1 cm1 u x hMY hZ1 hlt hs1 hk hv hso hsa
    have zQ := hZ1.2.1
    have za := hZ1.2.2.2.2.2.2.2
    have hop := hZ1.2.2.2.2.2.1
    have h54 : u.2.1 400 54 = s1.2.1.1 := zQ.2.2.2.2.1
    have s445 : u.1 445 = (111, 0) := by rw [hMY.1]; exact s445x
    have t400 : u.1 400 = (112, 0) := by rw [hMY.1]; exact s400
    have hM2 := zQ.1.1
    obtain ⟨-, -, -, g51, -, -, -, r56, -⟩ := RQ_TF za zQ hk hv
    have rop : R32 (s1.2.1.1) := ⟨by omega, by omega⟩
    refine g_aload_n h dX12_readOne_43 rfl ?_
    refine g_getI h flX12_385 rfl (by assumption) dX12_readOne_44 ?_
    rw [h54]
    refine g_bipush h dX12_readOne_47 rfl ?_
    refine g_icmp_ne (tgt := 58) h dX12_readOne_49 (by decide) (by first | assumption | exact ⟨by omega, by omega⟩) (by first | assumption | exact ⟨by omega, by omega⟩) (fun c49 => ?_) (fun c49 => ?_)
    · have hq1 := RQ_54 (s1.2.1.1 + 1) zQ
      have hMY1 : MY P w (upI u 400 54 (s1.2.1.1 + 1)) := MY_tr hMY (MY_f _ _ hP4 (by decide))
      have t401 : (upI u 400 54 (s1.2.1.1 + 1)).1 400 = (112, 0) := t400
      have hop8 : s1.2.1.1 < 8 := by omega
      refine g_aload_n h dX12_readOne_58 rfl ?_
      refine g_dup h dX12_readOne_59 rfl ?_
      refine g_getI h flX12_385 rfl (by assumption) dX12_readOne_60 ?_
      rw [h54]
      refine g_iconst h dX12_readOne_63 ?_
      refine g_iadd h dX12_readOne_64 ?_
      refine g_putI h flX12_385 rfl rfl (by assumption) dX12_readOne_65 ?_
      refine g_aload_n h dX12_readOne_68 rfl ?_
      refine g_callV h rfl (ci := 12) [] (by assumption) (t_next _ za hq1 (by rw [hk]; decide)) clX12_391 (by decide) rfl in_X12_next se_X12_next rfl rfl (by rw [hRm]; first | decide | (simp only [clS]; omega)) (by rw [hRm]; first | decide | (simp only [clS]; omega)) (fun _ => Nat.le_of_ble_eq_true rfl) (by rw [hRm]; first | decide | (simp only [clS]; omega)) (by rw [hRm]; first | decide | (simp only [clS]; omega)) dX12_readOne_69 (fun r69 w69 hp69 => ?_)
      obtain ⟨rfl, hx, ht⟩ := hp69
      have hMY3 := MY_tr hMY1 (MY_X hP4 hx)
      have ex := xT_par (s := s1) hs1 hop8
      have e2 : xT s1 (tokF T n (skF T n a1)).1 (tokF T n (skF T n a1)).2.1 = xT s1 3 40 := by rw [hk, hv]
      obtain ⟨c1, c2⟩ := pw6 hZ1.2.2.1
      have zt := RZ_to (b' := 6) (W' := 40 :: (List.replicate j 33 ++ W)) hZ1 (by omega) (by rw [hk]; decide) (e2.trans ex) (RQ_next hq1 hx ht) rfl rfl (by show pwF 6 s1.2.2.1 (40 :: s1.2.2.2) = _; rw [c1, c2]; exact TB_pw (TB_6 _) _) (Nat.le_refl _) ⟨by omega, by omega⟩ hZ1.2.2.2.2.2.2.1
      have tw : w69.1 400 = (112, 0) := by rw [hMY3.1]; exact s400
      obtain ⟨m', rfl⟩ : ∃ m', m = m' + 1 := ⟨m - 1, by omega⟩
      refine g_aload_n h dX12_readOne_72 rfl ?_
      refine g_callVq h rfl (ci := 12) [] (by assumption) (hA' m' rfl _ T n P nr R _ _ _ _ _ zt.1 rfl rfl (TB_c (by decide)) (by show s1.2.1.1 + 1 + (m' : Int) = 8; omega)) clX12_411 (by decide) rfl in_X12_readAny se_X12_readAny rfl rfl (by rw [hRm]; first | decide | omega | (simp only [clS]; omega)) (by rw [hRm]; first | decide | omega | (simp only [clS]; omega)) (fun _ => Nat.le_of_ble_eq_true rfl) (by rw [hRm]; first | decide | omega | (simp only [clS]; omega)) (by rw [hRm]; first | decide | omega | (simp only [clS]; omega)) dX12_readOne_73 (fun r9 w9 hp9 => ?_) (fun E9 x9 w9 hx9 => g_xout hQ (by decide) (by decide) (TH_of hMY3 hx9))
      obtain ⟨rfl, hMYb, D3, a3, s3, cm3, hZ3, hD3, hB3, ho3, ha3, hn38, hn124⟩ := hp9
      have hMY4 := MY_tr hMY3 hMYb
      have t4 : w9.1 400 = (112, 0) := by rw [hMY4.1]; exact s400
      have s445b : w9.1 445 = (111, 0) := by rw [hMY4.1]; exact s445x
      have yQ := hZ3.2.1
      have ya := hZ3.2.2.2.2.2.2.2
      have hM4 := yQ.1.1
      have ho3' : s3.2.1.1 = s1.2.1.1 + 1 := ho3
      have h54b : w9.2.1 400 54 = s3.2.1.1 := yQ.2.2.2.2.1
      obtain ⟨k, yk⟩ : ∃ k, (tokF T n (skF T n a3)).1 = k := ⟨_, rfl⟩
      obtain ⟨v, yv⟩ : ∃ v, (tokF T n (skF T n a3)).2.1 = v := ⟨_, rfl⟩
      obtain ⟨-, -, -, y51, -, -, -, y56, -⟩ := RQ_TF ya yQ yk yv
      have hxb := xT_behind yk yv hB3
      have hs36 : s3.1.1 ≠ 6 := by rcases hB3.2 with e | ⟨e, -⟩ <;> omega
      unfold noW at hn38 hn124
      rw [yk, yv] at hn38 hn124
      by_cases hcl : k = 3 ∧ v = 41
      · refine g_aload_n h dX12_readOne_76 rfl ?_
        refine g_bipush h dX12_readOne_77 rfl ?_
        refine g_callV h rfl (ci := 12) [_] (by assumption) (t_is _ ya yQ yk yv 41 ⟨by decide, by decide⟩) clX12_424 (by decide) rfl in_X12_is se_X12_is rfl rfl (by rw [hRm]; first | decide | (simp only [clS]; omega)) (by rw [hRm]; first | decide | (simp only [clS]; omega)) (fun _ => Nat.le_of_ble_eq_true rfl) (by rw [hRm]; first | decide | (simp only [clS]; omega)) (by rw [hRm]; first | decide | (simp only [clS]; omega)) dX12_readOne_79 (fun r79 w79 hp79 => ?_)
        obtain ⟨rfl, hw79⟩ := hp79
        rw [hw79]
        rw [if_pos hcl]
        refine g_if_ne (tgt := 91) h dX12_readOne_82 (by decide) (by first | assumption | exact ⟨by omega, by omega⟩) (fun c82 => ?_) (fun c82 => ?_)
        · refine g_aload_n h dX12_readOne_91 rfl ?_
          refine g_callV h rfl (ci := 12) [] (by assumption) (t_next _ ya yQ (by rw [yk, hcl.1]; decide)) clX12_391 (by decide) rfl in_X12_next se_X12_next rfl rfl (by rw [hRm]; first | decide | (simp only [clS]; omega)) (by rw [hRm]; first | decide | (simp only [clS]; omega)) (fun _ => Nat.le_of_ble_eq_true rfl) (by rw [hRm]; first | decide | (simp only [clS]; omega)) (by rw [hRm]; first | decide | (simp only [clS]; omega)) dX12_readOne_92 (fun r92 w92 hp92 => ?_)
          obtain ⟨rfl, hx5, ht5⟩ := hp92
          have hMY5 := MY_tr hMY4 (MY_X hP4 hx5)
          have t5 : w92.1 400 = (112, 0) := by rw [hMY5.1]; exact s400
          have hq5 := RQ_next yQ hx5 ht5
          have h54c : w92.2.1 400 54 = s3.2.1.1 := hq5.2.2.2.2.1
          refine g_aload_n h dX12_readOne_95 rfl ?_
          refine g_dup h dX12_readOne_96 rfl ?_
          refine g_getI h flX12_385 rfl (by assumption) dX12_readOne_97 ?_
          rw [h54c]
          refine g_iconst h dX12_readOne_100 ?_
          refine g_isub h dX12_readOne_101 ?_
          refine g_putI h flX12_385 rfl rfl (by assumption) dX12_readOne_102 ?_
          have ex5 := xB_par (s := s3) (by omega)
          have e5 : xT s3 (tokF T n (skF T n a3)).1 (tokF T n (skF T n a3)).2.1 = xBehind s3 3 41 := by rw [yk, yv, hxb, hcl.1, hcl.2]
          have hlen5 : cm3.length + (List.replicate j (33 : Int) ++ W).length ≤ cm3.length + (40 :: (List.replicate j (33 : Int) ++ W)).length + 1 := by rw [List.length_cons]; omega
          have zt5 := RZ_to (b' := 4) (W' := List.replicate j 33 ++ W) hZ3 hs36 (by rw [yk, hcl.1]; decide) (e5.trans ex5) (RQ_54 (s3.2.1.1 - 1) hq5) rfl rfl (by rw [hZ3.2.2.1]; exact TB_pw (TB_rep (by decide) hW j) _) hlen5 ⟨by omega, by omega⟩ hZ3.2.2.2.2.2.2.1
          refine g_goto (tgt := 182) h dX12_readOne_105 (by decide) ?_
          exact tail j _ _ _ _ _ _ (MY_tr hMY5 (MY_f _ _ hP4 (by decide))) zt5.1 (by omega) ⟨hB3.1, Or.inl rfl⟩ (by show s3.2.1.1 - 1 = _; omega) (by show s3.2.1.2.2 = _; rw [ha3]; exact hsa)
        · exact absurd c82 (by decide)
      refine g_aload_n h dX12_readOne_76 rfl ?_
      refine g_bipush h dX12_readOne_77 rfl ?_
      refine g_callV h rfl (ci := 12) [_] (by assumption) (t_is _ ya yQ yk yv 41 ⟨by decide, by decide⟩) clX12_424 (by decide) rfl in_X12_is se_X12_is rfl rfl (by rw [hRm]; first | decide | (simp only [clS]; omega)) (by rw [hRm]; first | decide | (simp only [clS]; omega)) (fun _ => Nat.le_of_ble_eq_true rfl) (by rw [hRm]; first | decide | (simp only [clS]; omega)) (by rw [hRm]; first | decide | (simp only [clS]; omega)) dX12_readOne_79 (fun r79 w79 hp79 => ?_)
      obtain ⟨rfl, hw79⟩ := hp79
      rw [hw79]
      rw [if_neg hcl]
      refine g_if_ne (tgt := 91) h dX12_readOne_82 (by decide) (by first | assumption | exact ⟨by omega, by omega⟩) (fun c82 => ?_) (fun c82 => ?_)
      · exact absurd c82 (by decide)
      · refine g_aload_n h dX12_readOne_85 rfl ?_
        refine g_iconst h dX12_readOne_86 ?_
        refine g_callV h rfl (ci := 12) [_] (by assumption) (c_X12_stop _ _ _ hM4) clX12_397 (by decide) rfl in_X12_stop se_X12_stop rfl rfl (by rw [hRm]; first | decide | (simp only [clS]; omega)) (by rw [hRm]; first | decide | (simp only [clS]; omega)) (fun _ => Nat.le_of_ble_eq_true rfl) (by rw [hRm]; first | decide | (simp only [clS]; omega)) (by rw [hRm]; first | decide | (simp only [clS]; omega)) dX12_readOne_87 (fun r87 w87 hp87 => ?_)
        obtain ⟨rfl, hw87⟩ := hp87
        rw [hw87]
        refine g_athrow h (ci := 11) s445b (by decide) dX12_readOne_90 ?_
        refine g_xout hQ (by decide) (by decide) (TH_stop hP4 hMY4 y51 y56 (RZ_bad hZ3 hs36 (by rw [yk, yv, hxb]; exact xB_bad hn38 hn124 hcl (by omega))))
    · refine g_aload_n h dX12_readOne_52 rfl ?_
      refine g_iconst h dX12_readOne_53 ?_
      refine g_callV h rfl (ci := 12) [_] (by assumption) (c_X12_stop _ _ _ hM2) clX12_397 (by decide) rfl in_X12_stop se_X12_stop rfl rfl (by rw [hRm]; first | decide | (simp only [clS]; omega)) (by rw [hRm]; first | decide | (simp only [clS]; omega)) (fun _ => Nat.le_of_ble_eq_true rfl) (by rw [hRm]; first | decide | (simp only [clS]; omega)) (by rw [hRm]; first | decide | (simp only [clS]; omega)) dX12_readOne_54 (fun r54 w54 hp54 => ?_)
      obtain ⟨rfl, hw54⟩ := hp54
      rw [hw54]
      refine g_athrow h (ci := 11) s445 (by decide) dX12_readOne_57 ?_
      refine g_xout hQ (by decide) (by decide) (TH_stop hP4 hMY g51 r56 (RZ_bad hZ1 (by omega) (by rw [hk, hv]; exact xT_par8 hs1 (by assumption))))
  have nots : ∀ (d D1 : Nat) (j a1 : Nat) (s1 : XP) (cm1 : List Int) (u : AW), D1 = d → MY P w u → RZ u T n P nr R (List.replicate j 33 ++ W) 6 D1 a1 s1 cm1 → D1 ≤ D → j ≤ 8 → s1.1.1 = 2 → s1.1.2.2 = (j : Int) → s1.2.1.1 = s.2.1.1 → s1.2.1.2.2 = s.2.1.2.2 → GG Γ 2 [some (ar 400), some (ai (j : Int)), none] [] u 0 0 := by
    intro d
    induction d using Nat.strongRecOn with
    | _ d ih =>
      intro D1 j a1 s1 cm1 u hd hMY hZ1 hlt hj8 hs1 hsj hso hsa
      have zQ := hZ1.2.1
      have za := hZ1.2.2.2.2.2.2.2
      have t400 : u.1 400 = (112, 0) := by rw [hMY.1]; exact s400
      have s445 : u.1 445 = (111, 0) := by rw [hMY.1]; exact s445x
      have hM2 := zQ.1.1
      obtain ⟨k, hk⟩ : ∃ k, (tokF T n (skF T n a1)).1 = k := ⟨_, rfl⟩
      obtain ⟨v, hv⟩ : ∃ v, (tokF T n (skF T n a1)).2.1 = v := ⟨_, rfl⟩
      obtain ⟨-, -, -, g51, -, -, -, r56, -⟩ := RQ_TF za zQ hk hv
      by_cases hn : k = 6 ∧ v = 33
      · refine g_aload_n h dX12_readOne_2 rfl ?_
        refine g_ldsw h (i := 20) rfl rfl rfl dX12_readOne_3 ?_
        refine g_callV h rfl (ci := 12) [_] (by assumption) (t_not _ za zQ hk hv) clX12_368 (by decide) rfl in_X12_isWord se_X12_isWord rfl rfl (by rw [hRm]; first | decide | (simp only [clS]; omega)) (by rw [hRm]; first | decide | (simp only [clS]; omega)) (fun _ => Nat.le_of_ble_eq_true rfl) (by rw [hRm]; first | decide | (simp only [clS]; omega)) (by rw [hRm]; first | decide | (simp only [clS]; omega)) dX12_readOne_6 (fun r6 w6 hp6 => ?_)
        obtain ⟨rfl, hw6⟩ := hp6
        rw [hw6]
        rw [if_pos hn]
        refine g_if_eq (tgt := 34) h dX12_readOne_9 (by decide) (by first | assumption | exact ⟨by omega, by omega⟩) (fun c9 => ?_) (fun c9 => ?_)
        · exact absurd c9 (by decide)
        · refine g_iload_n h dX12_readOne_12 rfl ?_
          refine g_bipush h dX12_readOne_13 rfl ?_
          refine g_icmp_ne (tgt := 24) h dX12_readOne_15 (by decide) (by first | assumption | exact ⟨by omega, by omega⟩) (by first | assumption | exact ⟨by omega, by omega⟩) (fun c15 => ?_) (fun c15 => ?_)
          · refine g_iinc h dX12_readOne_24 rfl (Nat.le_of_ble_eq_true rfl) rfl rfl ?_
            refine g_aload_n h dX12_readOne_27 rfl ?_
            refine g_callV h rfl (ci := 12) [] (by assumption) (t_next _ za zQ (by rw [hk, hn.1]; decide)) clX12_391 (by decide) rfl in_X12_next se_X12_next rfl rfl (by rw [hRm]; first | decide | (simp only [clS]; omega)) (by rw [hRm]; first | decide | (simp only [clS]; omega)) (fun _ => Nat.le_of_ble_eq_true rfl) (by rw [hRm]; first | decide | (simp only [clS]; omega)) (by rw [hRm]; first | decide | (simp only [clS]; omega)) dX12_readOne_28 (fun r28 w28 hp28 => ?_)
            obtain ⟨rfl, hx, ht⟩ := hp28
            have hMY1 := MY_tr hMY (MY_X hP4 hx)
            have ex := xT_not (s := s1) hs1 (by omega)
            have e2 : xT s1 (tokF T n (skF T n a1)).1 (tokF T n (skF T n a1)).2.1 = xT s1 6 33 := by rw [hk, hv, hn.1, hn.2]
            obtain ⟨c1, c2⟩ := pw6 hZ1.2.2.1
            have zt := RZ_to (b' := 6) (W' := List.replicate (j + 1) 33 ++ W) hZ1 (by omega) (by rw [hk, hn.1]; decide) (e2.trans ex) (RQ_next zQ hx ht) rfl rfl (by show pwF 6 s1.2.2.1 (33 :: s1.2.2.2) = _; rw [c1, c2, List.replicate_succ, List.cons_append]; exact TB_pw (TB_6 _) _) (by rw [List.replicate_succ, List.cons_append, List.length_cons]; omega) hZ1.2.2.2.2.2.1 hZ1.2.2.2.2.2.2.1
            refine g_goto (tgt := 2) h dX12_readOne_31 (by decide) ?_
            exact ih _ (by omega) _ (j + 1) _ _ _ _ rfl hMY1 zt.1 (by omega) (by omega) rfl (by show s1.1.2.2 + 1 = _; omega) hso hsa
          · refine g_aload_n h dX12_readOne_18 rfl ?_
            refine g_iconst h dX12_readOne_19 ?_
            refine g_callV h rfl (ci := 12) [_] (by assumption) (c_X12_stop _ _ _ hM2) clX12_397 (by decide) rfl in_X12_stop se_X12_stop rfl rfl (by rw [hRm]; first | decide | (simp only [clS]; omega)) (by rw [hRm]; first | decide | (simp only [clS]; omega)) (fun _ => Nat.le_of_ble_eq_true rfl) (by rw [hRm]; first | decide | (simp only [clS]; omega)) (by rw [hRm]; first | decide | (simp only [clS]; omega)) dX12_readOne_20 (fun r20 w20 hp20 => ?_)
            obtain ⟨rfl, hw20⟩ := hp20
            rw [hw20]
            refine g_athrow h (ci := 11) s445 (by decide) dX12_readOne_23 ?_
            refine g_xout hQ (by decide) (by decide) (TH_stop hP4 hMY g51 r56 (RZ_bad hZ1 (by omega) (by rw [hk, hv, hn.1, hn.2]; exact xT_not8 hs1 (by omega))))
      refine g_aload_n h dX12_readOne_2 rfl ?_
      refine g_ldsw h (i := 20) rfl rfl rfl dX12_readOne_3 ?_
      refine g_callV h rfl (ci := 12) [_] (by assumption) (t_not _ za zQ hk hv) clX12_368 (by decide) rfl in_X12_isWord se_X12_isWord rfl rfl (by rw [hRm]; first | decide | (simp only [clS]; omega)) (by rw [hRm]; first | decide | (simp only [clS]; omega)) (fun _ => Nat.le_of_ble_eq_true rfl) (by rw [hRm]; first | decide | (simp only [clS]; omega)) (by rw [hRm]; first | decide | (simp only [clS]; omega)) dX12_readOne_6 (fun r6 w6 hp6 => ?_)
      obtain ⟨rfl, hw6⟩ := hp6
      rw [hw6]
      rw [if_neg hn]
      refine g_if_eq (tgt := 34) h dX12_readOne_9 (by decide) (by first | assumption | exact ⟨by omega, by omega⟩) (fun c9 => ?_) (fun c9 => ?_)
      · by_cases hbr : k = 3 ∧ v = 40
        · refine g_aload_n h dX12_readOne_34 rfl ?_
          refine g_bipush h dX12_readOne_35 rfl ?_
          refine g_callV h rfl (ci := 12) [_] (by assumption) (t_is _ za zQ hk hv 40 ⟨by decide, by decide⟩) clX12_424 (by decide) rfl in_X12_is se_X12_is rfl rfl (by rw [hRm]; first | decide | (simp only [clS]; omega)) (by rw [hRm]; first | decide | (simp only [clS]; omega)) (fun _ => Nat.le_of_ble_eq_true rfl) (by rw [hRm]; first | decide | (simp only [clS]; omega)) (by rw [hRm]; first | decide | (simp only [clS]; omega)) dX12_readOne_37 (fun r37 w37 hp37 => ?_)
          obtain ⟨rfl, hw37⟩ := hp37
          rw [hw37]
          rw [if_pos hbr]
          refine g_if_eq (tgt := 108) h dX12_readOne_40 (by decide) (by first | assumption | exact ⟨by omega, by omega⟩) (fun c40 => ?_) (fun c40 => ?_)
          · exact absurd c40 (by decide)
          · exact brk j D1 a1 s1 cm1 u _ hMY hZ1 hlt hs1 (by rw [hk]; exact hbr.1) (by rw [hv]; exact hbr.2) hso hsa
        refine g_aload_n h dX12_readOne_34 rfl ?_
        refine g_bipush h dX12_readOne_35 rfl ?_
        refine g_callV h rfl (ci := 12) [_] (by assumption) (t_is _ za zQ hk hv 40 ⟨by decide, by decide⟩) clX12_424 (by decide) rfl in_X12_is se_X12_is rfl rfl (by rw [hRm]; first | decide | (simp only [clS]; omega)) (by rw [hRm]; first | decide | (simp only [clS]; omega)) (fun _ => Nat.le_of_ble_eq_true rfl) (by rw [hRm]; first | decide | (simp only [clS]; omega)) (by rw [hRm]; first | decide | (simp only [clS]; omega)) dX12_readOne_37 (fun r37 w37 hp37 => ?_)
        obtain ⟨rfl, hw37⟩ := hp37
        rw [hw37]
        rw [if_neg hbr]
        refine g_if_eq (tgt := 108) h dX12_readOne_40 (by decide) (by first | assumption | exact ⟨by omega, by omega⟩) (fun c40 => ?_) (fun c40 => ?_)
        · exact comp j D1 a1 s1 cm1 u _ hMY hZ1 hlt hs1 (by rw [hk, hv]; exact hn) (by rw [hk, hv]; exact hbr) hso hsa
        · exact absurd c40 (by decide)
      · exact absurd c9 (by decide)
  refine g_iconst h dX12_readOne_0 ?_
  refine g_istore_n h dX12_readOne_1 (Nat.le_of_ble_eq_true rfl) rfl rfl ?_
  exact nots D D 0 a s cm w rfl (MY_rfl _ _) (by rw [List.replicate_zero]; exact hZ) (Nat.le_refl _) (by decide) h2 h0 rfl rfl
