/-! ===== the book of rules ===== -/
/-- nr rules, at places rp, their codes at rc, which are cl -/
def RBK (w : AW) (nr : Nat) (rp rc : Nat → Nat) (cl : Nat → List Int) : Prop := w.2.1 20 3 = (nr : Int) ∧ nr ≤ 16 ∧ ∀ i, i < nr → w.2.2 22 i = some (rp i) ∧ RU w (rp i) (rc i) (cl i) ∧ 2000 ≤ rp i ∧ 2000 ≤ rc i ∧ tcL (cl i) [] = some [true] ∧ tms (cl i) ≤ 30
theorem RU_F {w u : AW} {p cp : Nat} {cl : List Int} (h1 : u.1 = w.1) (h2 : u.2.2 = w.2.2) (h3 : u.2.1 p = w.2.1 p) (h4 : u.2.1 cp = w.2.1 cp) (h : RU w p cp cl) : RU u p cp cl := by unfold RU at h ⊢; rw [h1, h2, h3, h4]; exact h
theorem RBK_of {w u : AW} {nr : Nat} {rp rc : Nat → Nat} {cl : Nat → List Int} (h1 : u.1 = w.1) (h2 : u.2.2 = w.2.2) (h3 : u.2.1 20 3 = w.2.1 20 3) (h4 : ∀ j, 2000 ≤ j → u.2.1 j = w.2.1 j) (h : RBK w nr rp rc cl) : RBK u nr rp rc cl :=
  ⟨h3.trans h.1, h.2.1, fun i hi => by
    obtain ⟨a, b, c, d, e⟩ := h.2.2 i hi
    exact ⟨by rw [h2]; exact a, RU_F h1 h2 (h4 _ c) (h4 _ d) b, c, d, e⟩⟩
/-- whether rule i is of an act and holds -/
def rlT (w : AW) (rp : Nat → Nat) (cl : Nat → List Int) (act : Int) (i : Nat) : Bool := decide (w.2.1 (rp i) 0 = act) && decide (evL (w.2.1 26) (cl i) [] = [1])
def rlN (w : AW) (rp : Nat → Nat) (cl : Nat → List Int) (act : Int) (i : Nat) : Bool := !decide (w.2.1 (rp i) 0 = act) || decide (evL (w.2.1 26) (cl i) [] = [1])
def anyB (f : Nat → Bool) : Nat → Bool
  | 0 => false
  | i + 1 => anyB f i || f i
def allB (f : Nat → Bool) : Nat → Bool
  | 0 => true
  | i + 1 => allB f i && f i
theorem anyB_up {f : Nat → Bool} {i : Nat} (h : f i = true) : ∀ n, i < n → anyB f n = true
  | 0, q => by omega
  | n + 1, q => by
    show (anyB f n || f n) = true
    by_cases e : i = n
    · subst e; rw [h]; exact Bool.or_true _
    · rw [anyB_up h n (by omega)]; rfl
theorem allB_up {f : Nat → Bool} {i : Nat} (h : f i = false) : ∀ n, i < n → allB f n = false
  | 0, q => by omega
  | n + 1, q => by
    show (allB f n && f n) = false
    by_cases e : i = n
    · subst e; rw [h]; exact Bool.and_false _
    · rw [allB_up h n (by omega)]; rfl
theorem anyB_congr {f g : Nat → Bool} : ∀ n, (∀ i, i < n → f i = g i) → anyB f n = anyB g n
  | 0, _ => rfl
  | n + 1, h => by show (_ || _) = (_ || _); rw [anyB_congr n (fun i hi => h i (by omega)), h n (by omega)]
theorem allB_congr {f g : Nat → Bool} : ∀ n, (∀ i, i < n → f i = g i) → allB f n = allB g n
  | 0, _ => rfl
  | n + 1, h => by show (_ && _) = (_ && _); rw [allB_congr n (fun i hi => h i (by omega)), h n (by omega)]
def b01 (b : Bool) : Int := if b = true then 1 else 0
theorem b01_01 (b : Bool) : b01 b = 0 ∨ b01 b = 1 := by cases b <;> simp [b01]
/-- byte k of an int, the highest first -/
def byF (z : Int) (s : Nat) : Int := (z / 2 ^ s) % 256
theorem by_shr {z : Int} {s : Nat} (hs : s = 24 ∨ s = 16 ∨ s = 8 ∨ s = 0) : ((Int32.ofInt z).toUInt32 >>> ((Int32.ofInt (s : Int)).toUInt32 &&& Int32.toUInt32 31)).toInt32 = Int32.ofInt (z % 4294967296 / 2 ^ s) := by
  have hm : 0 ≤ z % 4294967296 ∧ z % 4294967296 < 4294967296 := ⟨Int.emod_nonneg _ (by decide), Int.emod_lt_of_pos _ (by decide)⟩
  obtain ⟨m, hm2⟩ : ∃ m : Nat, z % 4294967296 = (m : Int) := ⟨(z % 4294967296).toNat, by omega⟩
  have e1 : Int32.ofInt z = Int32.ofInt (m : Int) := by
    rw [← hm2, ← Int32.toInt_inj, Int32.toInt_ofInt, Int32.toInt_ofInt]
    show z.bmod 4294967296 = (z % 4294967296).bmod 4294967296
    rw [Int.emod_bmod]
  rw [e1, hm2]
  have h2 : m < 4294967296 := by omega
  have e3 : ((m : Int) / 2 ^ s) = ((m / 2 ^ s : Nat) : Int) := by rw [Int.natCast_ediv]; rfl
  rw [e3, Int32.ofInt_eq_ofNat, Int32.ofInt_eq_ofNat]
  apply Int32.toBitVec_inj.mp
  apply BitVec.eq_of_toNat_eq
  have h3 : m / 2 ^ s ≤ m := Nat.div_le_self _ _
  rcases hs with rfl | rfl | rfl | rfl <;> simp [Int32.toBitVec_ofNat, Nat.shiftRight_eq_div_pow, Nat.mod_eq_of_lt h2] <;> omega
theorem by_and {m : Int} (h0 : 0 ≤ m) (h1 : m < 4294967296) : Int32.ofInt m &&& Int32.ofInt 255 = Int32.ofInt (m % 256) := by
  obtain ⟨n, rfl⟩ : ∃ n : Nat, m = (n : Int) := ⟨m.toNat, by omega⟩
  have e : ((n : Int) % 256) = ((n % 256 : Nat) : Int) := by omega
  rw [e, Int32.ofInt_eq_ofNat, Int32.ofInt_eq_ofNat]
  apply Int32.toBitVec_inj.mp
  apply BitVec.eq_of_toNat_eq
  have h2 : n < 4294967296 := by omega
  show ((BitVec.ofNat 32 n) &&& (BitVec.ofNat 32 255)).toNat = (BitVec.ofNat 32 (n % 256)).toNat
  rw [BitVec.toNat_and, BitVec.toNat_ofNat, BitVec.toNat_ofNat, BitVec.toNat_ofNat, Nat.mod_eq_of_lt h2]
  rw [show (255 % 2 ^ 32 : Nat) = 2 ^ 8 - 1 by decide, Nat.and_two_pow_sub_one_eq_mod]
  have : n % 256 < 4294967296 := by omega
  rw [Nat.mod_eq_of_lt (by omega)]
theorem byF_eq (z : Int) {s : Nat} (hs : s = 24 ∨ s = 16 ∨ s = 8 ∨ s = 0) : (z % 4294967296 / 2 ^ s) % 256 = byF z s := by
  unfold byF
  rcases hs with rfl | rfl | rfl | rfl <;> omega
/-- four bytes come behind the tape -/
def tpF (row : Nat → Int) (tl : Nat) (z : Int) : Nat → Int := uI (uI (uI (uI row tl (byF z 24)) (tl + 1) (byF z 16)) (tl + 2) (byF z 8)) (tl + 3) (byF z 0)
def abW (w : AW) (tl : Nat) (z : Int) : AW := sR (sR w 21 (tpF (w.2.1 21) tl z)) 20 (uI (w.2.1 20) 1 ((tl : Int) + 4))
set_option maxRecDepth 100000 in
set_option maxHeartbeats 4000000 in
theorem c_X5_hasRoomOnTape (l : Launch) (w : AW) (tl : Nat) (hX : XS w) (ht : w.2.1 20 1 = (tl : Int)) (h3 : tl ≤ 300) : HT l yX5_hasRoomOnTape cX5_hasRoomOnTape 1 (some .boolean) 1 0 0 w [ar 20] (rI (if tl + 20 ≤ 300 then 1 else 0) w) := by
  refine HT.of (by decide) (by intro v hv; simp only [List.mem_cons, List.not_mem_nil, or_false] at hv; rcases hv with rfl <;> rfl) (Nat.le_of_ble_eq_true rfl) ?_
  intro Γ h hQ hRm hnm hl hw0
  have s20 : w.1 20 = (105, 0) := hX.1 20 (by decide)
  have s21 : w.1 21 = (1, 300) := hX.1 21 (by decide)
  have p20_0 : w.2.2 20 0 = some 21 := hX.2 (20, 0, 21) (by decide)
  refine g_aload_n h dX5_hasRoomOnTape_0 rfl ?_
  refine g_getI h flX5_36 rfl (by assumption) dX5_hasRoomOnTape_1 ?_
  rw [ht]
  refine g_bipush h dX5_hasRoomOnTape_4 rfl ?_
  refine g_iadd h dX5_hasRoomOnTape_6 ?_
  refine g_aload_n h dX5_hasRoomOnTape_7 rfl ?_
  refine g_getQ h flX5_9 rfl (by assumption) (by assumption) dX5_hasRoomOnTape_8 ?_
  refine g_alen h (by assumption) (by unfold arK; omega) dX5_hasRoomOnTape_11 ?_
  refine g_icmp_gt (tgt := 19) h dX5_hasRoomOnTape_12 (by decide) (by first | assumption | exact ⟨by omega, by omega⟩) (by first | assumption | exact ⟨by omega, by omega⟩) (fun c12 => ?_) (fun c12 => ?_)
  · refine g_iconst h dX5_hasRoomOnTape_19 ?_
    refine g_zret h hQ (by first | decide | omega | (simp only [clS]; omega)) (by first | decide | omega | (simp only [clS]; omega)) (by omega) ?_ dX5_hasRoomOnTape_20
    refine ⟨?_, ?_⟩
    all_goals (repeat first | rw [if_pos (by omega)] | rw [if_neg (by omega)])
    all_goals rfl
  · refine g_iconst h dX5_hasRoomOnTape_15 ?_
    refine g_goto (tgt := 20) h dX5_hasRoomOnTape_16 (by decide) ?_
    refine g_zret h hQ (by first | decide | omega | (simp only [clS]; omega)) (by first | decide | omega | (simp only [clS]; omega)) (by omega) ?_ dX5_hasRoomOnTape_20
    refine ⟨?_, ?_⟩
    all_goals (repeat first | rw [if_pos (by omega)] | rw [if_neg (by omega)])
    all_goals rfl
theorem abW_eq (w : AW) (tl : Nat) (z : Int) : upI (upI (upI (upI (upI (upI (upI (upI w 21 tl (byF z 24)) 20 1 ((tl : Int) + 1)) 21 (tl + 1) (byF z 16)) 20 1 (((tl + 1 : Nat) : Int) + 1)) 21 (tl + 2) (byF z 8)) 20 1 (((tl + 2 : Nat) : Int) + 1)) 21 (tl + 3) (byF z 0)) 20 1 (((tl + 3 : Nat) : Int) + 1) = abW w tl z := by
  refine aw_ext rfl (fun j => ?_) rfl
  by_cases h1 : j = 20
  · subst h1
    funext f
    by_cases hf : f = 1
    · subst hf
      simp [upI, abW, sR, uI]
      omega
    · simp [upI, abW, sR, uI, hf]
  · by_cases h2 : j = 21
    · subst h2
      funext f
      simp [upI, abW, sR, uI, tpF]
    · simp [upI, abW, sR, h1, h2]
set_option maxRecDepth 100000 in
set_option maxHeartbeats 4000000 in
theorem c_X5_addBytes (l : Launch) (w : AW) (tl : Nat) (z : Int) (hX : XS w) (ht : w.2.1 20 1 = (tl : Int)) (h3 : tl + 4 ≤ 300) : HT l yX5_addBytes cX5_addBytes 3 none 1 0 0 w [ar 20, ai z] (rV (abW w tl z)) := by
  refine HT.of (by decide) (by intro v hv; simp only [List.mem_cons, List.not_mem_nil, or_false] at hv; rcases hv with rfl | rfl <;> rfl) (Nat.le_of_ble_eq_true rfl) ?_
  intro Γ h hQ hRm hnm hl hw0
  have s20 : w.1 20 = (105, 0) := hX.1 20 (by decide)
  have s21 : w.1 21 = (1, 300) := hX.1 21 (by decide)
  have p20_0 : w.2.2 20 0 = some 21 := hX.2 (20, 0, 21) (by decide)
  have step : ∀ (s i : Nat) (u : AW) (G : AW → Prop), (s = 24 ∨ s = 16 ∨ s = 8 ∨ s = 0) → i < 300 → u.1 = w.1 → u.2.2 = w.2.2 → u.2.1 20 1 = (i : Int) → GG Γ 3 [some (ar 20), some (ai z), some (ai ((s : Int) + -8))] [] (upI (upI u 21 i (byF z s)) 20 1 ((i : Int) + 1)) 0 0 → GG Γ 3 [some (ar 20), some (ai z), some (ai (s : Int))] [] u 0 0 := by
    intro s i u G hs hi h1 h2 ht2 kk
    have u20 : u.1 20 = (105, 0) := by rw [h1]; exact s20
    have u21 : u.1 21 = (1, 300) := by rw [h1]; exact s21
    have v20 : (upI u 21 i (byF z s)).1 20 = (105, 0) := u20
    have v1 : (upI u 21 i (byF z s)).2.1 20 1 = (i : Int) := (congrFun (if_neg (by decide)) 1).trans ht2
    have q0 : u.2.2 20 0 = some 21 := by rw [h2]; exact p20_0
    have hm : 0 ≤ z % 4294967296 / 2 ^ s ∧ z % 4294967296 / 2 ^ s < 4294967296 := by rcases hs with rfl | rfl | rfl | rfl <;> omega
    refine g_iload_n h dX5_addBytes_3 rfl ?_
    refine g_if_lt (tgt := 58) h dX5_addBytes_4 (by decide) (by first | assumption | exact ⟨by omega, by omega⟩) (fun c4 => ?_) (fun c4 => ?_)
    · exfalso; omega
    · refine g_aload_n h dX5_addBytes_7 rfl ?_
      refine g_getI h flX5_36 rfl (by assumption) dX5_addBytes_8 ?_
      rw [ht2]
      refine g_if_lt (tgt := 52) h dX5_addBytes_11 (by decide) (by first | assumption | exact ⟨by omega, by omega⟩) (fun c11 => ?_) (fun c11 => ?_)
      · refine g_iinc h dX5_addBytes_52 rfl (Nat.le_of_ble_eq_true rfl) rfl rfl ?_
        refine g_goto (tgt := 3) h dX5_addBytes_55 (by decide) ?_
        exact kk
      · refine g_aload_n h dX5_addBytes_14 rfl ?_
        refine g_getI h flX5_36 rfl (by assumption) dX5_addBytes_15 ?_
        rw [ht2]
        refine g_aload_n h dX5_addBytes_18 rfl ?_
        refine g_getQ h flX5_9 rfl (by assumption) (by assumption) dX5_addBytes_19 ?_
        refine g_alen h (by assumption) (by unfold arK; omega) dX5_addBytes_22 ?_
        refine g_icmp_ge (tgt := 52) h dX5_addBytes_23 (by decide) (by first | assumption | exact ⟨by omega, by omega⟩) (by first | assumption | exact ⟨by omega, by omega⟩) (fun c23 => ?_) (fun c23 => ?_)
        · refine g_iinc h dX5_addBytes_52 rfl (Nat.le_of_ble_eq_true rfl) rfl rfl ?_
          refine g_goto (tgt := 3) h dX5_addBytes_55 (by decide) ?_
          exact kk
        · refine g_aload_n h dX5_addBytes_26 rfl ?_
          refine g_getQ h flX5_9 rfl (by assumption) (by assumption) dX5_addBytes_27 ?_
          refine g_aload_n h dX5_addBytes_30 rfl ?_
          refine g_getI h flX5_36 rfl (by assumption) dX5_addBytes_31 ?_
          rw [ht2]
          refine g_iload_n h dX5_addBytes_34 rfl ?_
          refine g_iload_n h dX5_addBytes_35 rfl ?_
          refine g_iushr h (v := z % 4294967296 / 2 ^ s) (by_shr hs) dX5_addBytes_36 ?_
          refine g_sipush h dX5_addBytes_37 rfl ?_
          refine g_iand h (v := byF z s) (by rw [by_and hm.1 hm.2, byF_eq z hs]) dX5_addBytes_40 ?_
          refine g_iast h (i) (by assumption) (by first | omega | assumption) (by first | omega | assumption) (by decide) dX5_addBytes_41 ?_
          refine g_aload_n h dX5_addBytes_42 rfl ?_
          refine g_dup h dX5_addBytes_43 rfl ?_
          refine g_getI h flX5_36 rfl (by assumption) dX5_addBytes_44 ?_
          rw [v1]
          refine g_iconst h dX5_addBytes_47 ?_
          refine g_iadd h dX5_addBytes_48 ?_
          refine g_putI h flX5_36 rfl rfl (by assumption) dX5_addBytes_49 ?_
          refine g_iinc h dX5_addBytes_52 rfl (Nat.le_of_ble_eq_true rfl) rfl rfl ?_
          refine g_goto (tgt := 3) h dX5_addBytes_55 (by decide) ?_
          exact kk
  have fin : ∀ u : AW, u = abW w tl z → GG Γ 3 [some (ar 20), some (ai z), some (ai (-8))] [] u 0 0 := by
    intro u hu
    refine g_iload_n h dX5_addBytes_3 rfl ?_
    refine g_if_lt (tgt := 58) h dX5_addBytes_4 (by decide) (by first | assumption | exact ⟨by omega, by omega⟩) (fun c4 => ?_) (fun c4 => ?_)
    · refine g_vret h hQ (by first | decide | omega | (simp only [clS]; omega)) (by first | decide | omega | (simp only [clS]; omega)) ?_ dX5_addBytes_58
      exact ⟨rfl, hu⟩
    · exfalso; omega
  refine g_bipush h dX5_addBytes_0 rfl ?_
  refine g_istore_n h dX5_addBytes_2 (Nat.le_of_ble_eq_true rfl) rfl rfl ?_
  refine step 24 tl w (fun _ => True) (Or.inl rfl) (by omega) rfl rfl ht ?_
  refine step 16 (tl + 1) _ (fun _ => True) (by omega) (by omega) rfl rfl (if_pos rfl) ?_
  refine step 8 (tl + 2) _ (fun _ => True) (by omega) (by omega) rfl rfl ((congrFun (if_pos rfl) 1).trans (if_pos rfl)) ?_
  refine step 0 (tl + 3) _ (fun _ => True) (by omega) (by omega) rfl rfl ((congrFun (if_pos rfl) 1).trans (if_pos rfl)) ?_
  refine fin _ ?_
  exact abW_eq w tl z
set_option maxRecDepth 100000 in
set_option maxHeartbeats 4000000 in
theorem c_X5_addRule (l : Launch) (w : AW) (nr q0 nn : Nat) (hX : XS w) (hn : w.2.1 20 3 = (nr : Int)) (h3 : nr ≤ 16) (hq : w.1 q0 = (104, nn)) : HT l yX5_addRule cX5_addRule 2 (some .boolean) 1 0 0 w [ar 20, ar q0] (fun r w' => r = some (ai (if nr < 16 then 1 else 0)) ∧ w' = (if nr < 16 then upI (upP w 22 nr (some q0)) 20 3 ((nr : Int) + 1) else w)) := by
  refine HT.of (by decide) (by intro v hv; simp only [List.mem_cons, List.not_mem_nil, or_false] at hv; rcases hv with rfl | rfl <;> rfl) (Nat.le_of_ble_eq_true rfl) ?_
  intro Γ h hQ hRm hnm hl hw0
  have s20 : w.1 20 = (105, 0) := hX.1 20 (by decide)
  have s22 : w.1 22 = (204, 16) := hX.1 22 (by decide)
  have p20_2 : w.2.2 20 2 = some 22 := hX.2 (20, 2, 22) (by decide)
  have t20 : (upP w 22 nr (some q0)).1 20 = (105, 0) := s20
  have e3 : (upP w 22 nr (some q0)).2.1 20 3 = (nr : Int) := hn
  refine g_aload_n h dX5_addRule_0 rfl ?_
  refine g_getI h flX5_54 rfl (by assumption) dX5_addRule_1 ?_
  rw [hn]
  refine g_if_lt (tgt := 19) h dX5_addRule_4 (by decide) (by first | assumption | exact ⟨by omega, by omega⟩) (fun c4 => ?_) (fun c4 => ?_)
  · refine g_iconst h dX5_addRule_19 ?_
    refine g_zret h hQ (by first | decide | omega | (simp only [clS]; omega)) (by first | decide | omega | (simp only [clS]; omega)) (by omega) ?_ dX5_addRule_20
    refine ⟨?_, ?_⟩
    all_goals (repeat first | rw [if_pos (by omega)] | rw [if_neg (by omega)])
    all_goals rfl
  · refine g_aload_n h dX5_addRule_7 rfl ?_
    refine g_getI h flX5_54 rfl (by assumption) dX5_addRule_8 ?_
    rw [hn]
    refine g_aload_n h dX5_addRule_11 rfl ?_
    refine g_getQ h flX5_17 rfl (by assumption) (by assumption) dX5_addRule_12 ?_
    refine g_alen h (by assumption) (by unfold arK; omega) dX5_addRule_15 ?_
    refine g_icmp_lt (tgt := 21) h dX5_addRule_16 (by decide) (by first | assumption | exact ⟨by omega, by omega⟩) (by first | assumption | exact ⟨by omega, by omega⟩) (fun c16 => ?_) (fun c16 => ?_)
    · refine g_aload_n h dX5_addRule_21 rfl ?_
      refine g_getQ h flX5_17 rfl (by assumption) (by assumption) dX5_addRule_22 ?_
      refine g_aload_n h dX5_addRule_25 rfl ?_
      refine g_getI h flX5_54 rfl (by assumption) dX5_addRule_26 ?_
      rw [hn]
      refine g_aload_n h dX5_addRule_29 rfl ?_
      refine g_aast h (ci := 4) (nr) (by assumption) (by unfold arK; omega) (by decide) (by assumption) (by first | omega | assumption) (by first | omega | assumption) (by decide) dX5_addRule_30 ?_
      refine g_aload_n h dX5_addRule_31 rfl ?_
      refine g_dup h dX5_addRule_32 rfl ?_
      refine g_getI h flX5_54 rfl (by assumption) dX5_addRule_33 ?_
      rw [e3]
      refine g_iconst h dX5_addRule_36 ?_
      refine g_iadd h dX5_addRule_37 ?_
      refine g_putI h flX5_54 rfl rfl (by assumption) dX5_addRule_38 ?_
      refine g_iconst h dX5_addRule_41 ?_
      refine g_zret h hQ (by first | decide | omega | (simp only [clS]; omega)) (by first | decide | omega | (simp only [clS]; omega)) (by omega) ?_ dX5_addRule_42
      refine ⟨?_, ?_⟩
      all_goals (repeat first | rw [if_pos (by omega)] | rw [if_neg (by omega)])
      all_goals rfl
    · refine g_iconst h dX5_addRule_19 ?_
      refine g_zret h hQ (by first | decide | omega | (simp only [clS]; omega)) (by first | decide | omega | (simp only [clS]; omega)) (by omega) ?_ dX5_addRule_20
      refine ⟨?_, ?_⟩
      all_goals (repeat first | rw [if_pos (by omega)] | rw [if_neg (by omega)])
      all_goals rfl
/-- rule r is gone -/
def rmP (row : Nat → Option Nat) (r n : Nat) : Nat → Option Nat := fun j => if r ≤ j ∧ j < n then row (j + 1) else row j
def sP (w : AW) (k : Nat) (g : Nat → Option Nat) : AW := (w.1, w.2.1, fun j => if j = k then g else w.2.2 j)
theorem sP_at (w : AW) (k : Nat) (g : Nat → Option Nat) : (sP w k g).2.2 k = g := if_pos rfl
theorem sP_ne (w : AW) {k j : Nat} (g : Nat → Option Nat) (h : j ≠ k) : (sP w k g).2.2 j = w.2.2 j := if_neg h
theorem sP_self (w : AW) (k : Nat) : sP w k (w.2.2 k) = w := by
  refine Prod.ext rfl (Prod.ext rfl (funext fun j => ?_))
  show (if j = k then _ else _) = _
  split
  · rename_i h; rw [h]
  · rfl
def upd (row : Nat → Option Nat) (f : Nat) (r : Option Nat) : Nat → Option Nat := fun j => if j = f then r else row j
theorem upP_sP (w : AW) (k f : Nat) (g : Nat → Option Nat) (r : Option Nat) : upP (sP w k g) k f r = sP w k (upd g f r) := by
  refine Prod.ext rfl (Prod.ext rfl (funext fun j => ?_))
  show (if j = k then (fun i => if i = f then r else (if j = k then g else w.2.2 j) i) else (if j = k then g else w.2.2 j)) = (if j = k then upd g f r else w.2.2 j)
  by_cases h : j = k
  · subst h; simp only [if_pos]; rfl
  · simp only [if_neg h]
theorem rmP_s (row : Nat → Option Nat) {r i : Nat} (h : r ≤ i) : upd (rmP row r i) i (row (i + 1)) = rmP row r (i + 1) := by
  funext j
  unfold upd rmP
  by_cases e : j = i
  · subst e
    rw [if_pos rfl, if_pos (by omega)]
  · rw [if_neg e]
    by_cases q : r ≤ j ∧ j < i
    · rw [if_pos q, if_pos (by omega)]
    · rw [if_neg q, if_neg (by omega)]
def rmW (w : AW) (nr r : Nat) : AW := upP (upI (sP w 22 (rmP (w.2.2 22) r (nr - 1))) 20 3 ((nr : Int) - 1)) 22 (nr - 1) none
set_option maxRecDepth 100000 in
set_option maxHeartbeats 4000000 in
theorem c_X5_removeRule (l : Launch) (w : AW) (nr : Nat) (rp rc : Nat → Nat) (cl : Nat → List Int) (a : Int) (hX : XS w) (hB : RBK w nr rp rc cl) (ha : R32 a) : HT l yX5_removeRule cX5_removeRule 3 (some .boolean) 1 0 0 w [ar 20, ai a] (fun r w' => r = some (ai (if 0 ≤ a ∧ a < (nr : Int) then 1 else 0)) ∧ w' = (if 0 ≤ a ∧ a < (nr : Int) then rmW w nr a.toNat else w)) := by
  refine HT.of (by decide) (by intro v hv; simp only [List.mem_cons, List.not_mem_nil, or_false] at hv; rcases hv with rfl | rfl <;> rfl) (Nat.le_of_ble_eq_true rfl) ?_
  intro Γ h hQ hRm hnm hl hw0
  have s20 : w.1 20 = (105, 0) := hX.1 20 (by decide)
  have s22 : w.1 22 = (204, 16) := hX.1 22 (by decide)
  have p20_2 : w.2.2 20 2 = some 22 := hX.2 (20, 2, 22) (by decide)
  obtain ⟨b1, b2, b3⟩ := id hB
  by_cases hin : 0 ≤ a ∧ a < (nr : Int)
  · obtain ⟨r, rfl⟩ : ∃ m : Nat, a = (m : Int) := ⟨a.toNat, by omega⟩
    have loop : ∀ (d i : Nat), i + d + 1 = nr → r ≤ i → GG Γ 28 [some (ar 20), some (ai (r : Int)), some (ai (i : Int))] [] (sP w 22 (rmP (w.2.2 22) r i)) 0 0 := by
      intro d
      induction d with
      | zero =>
        intro i hi hr
        have t20 : (sP w 22 (rmP (w.2.2 22) r i)).1 20 = (105, 0) := s20
        have t22 : (sP w 22 (rmP (w.2.2 22) r i)).1 22 = (204, 16) := s22
        have t3 : (sP w 22 (rmP (w.2.2 22) r i)).2.1 20 3 = (nr : Int) := b1
        have tp : (sP w 22 (rmP (w.2.2 22) r i)).2.2 20 2 = some 22 := p20_2
        have u20 : (upI (sP w 22 (rmP (w.2.2 22) r i)) 20 3 ((nr : Int) - 1)).1 20 = (105, 0) := s20
        have u22 : (upI (sP w 22 (rmP (w.2.2 22) r i)) 20 3 ((nr : Int) - 1)).1 22 = (204, 16) := s22
        have up : (upI (sP w 22 (rmP (w.2.2 22) r i)) 20 3 ((nr : Int) - 1)).2.2 20 2 = some 22 := p20_2
        have u3 : (upI (sP w 22 (rmP (w.2.2 22) r i)) 20 3 ((nr : Int) - 1)).2.1 20 3 = (nr : Int) - 1 := if_pos rfl
        obtain rfl : i = nr - 1 := by omega
        refine g_iload_n h dX5_removeRule_28 rfl ?_
        refine g_iconst h dX5_removeRule_29 ?_
        refine g_iadd h dX5_removeRule_30 ?_
        refine g_aload_n h dX5_removeRule_31 rfl ?_
        refine g_getI h flX5_54 rfl (by assumption) dX5_removeRule_32 ?_
        rw [t3]
        refine g_icmp_ge (tgt := 58) h dX5_removeRule_35 (by decide) (by first | assumption | exact ⟨by omega, by omega⟩) (by first | assumption | exact ⟨by omega, by omega⟩) (fun c35 => ?_) (fun c35 => ?_)
        · refine g_aload_n h dX5_removeRule_58 rfl ?_
          refine g_dup h dX5_removeRule_59 rfl ?_
          refine g_getI h flX5_54 rfl (by assumption) dX5_removeRule_60 ?_
          rw [t3]
          refine g_iconst h dX5_removeRule_63 ?_
          refine g_isub h dX5_removeRule_64 ?_
          refine g_putI h flX5_54 rfl rfl (by assumption) dX5_removeRule_65 ?_
          refine g_aload_n h dX5_removeRule_68 rfl ?_
          refine g_getQ h flX5_17 rfl (by assumption) (by assumption) dX5_removeRule_69 ?_
          refine g_aload_n h dX5_removeRule_72 rfl ?_
          refine g_getI h flX5_54 rfl (by assumption) dX5_removeRule_73 ?_
          rw [u3]
          refine g_null h dX5_removeRule_76 ?_
          refine g_aastN h (nr - 1) (by assumption) (by unfold arK; omega) (by decide) (by omega) (by omega) (by decide) dX5_removeRule_77 ?_
          refine g_iconst h dX5_removeRule_78 ?_
          refine g_zret h hQ (by first | decide | omega | (simp only [clS]; omega)) (by first | decide | omega | (simp only [clS]; omega)) (by omega) ?_ dX5_removeRule_79
          refine ⟨?_, ?_⟩
          · rw [if_pos hin]
          · rw [if_pos hin]
            rfl
        · exfalso; omega
      | succ d ih =>
        intro i hi hr
        have t20 : (sP w 22 (rmP (w.2.2 22) r i)).1 20 = (105, 0) := s20
        have t22 : (sP w 22 (rmP (w.2.2 22) r i)).1 22 = (204, 16) := s22
        have t3 : (sP w 22 (rmP (w.2.2 22) r i)).2.1 20 3 = (nr : Int) := b1
        have tp : (sP w 22 (rmP (w.2.2 22) r i)).2.2 20 2 = some 22 := p20_2
        have tn : (sP w 22 (rmP (w.2.2 22) r i)).2.2 22 (i + 1) = some (rp (i + 1)) := by
          rw [sP_at]
          unfold rmP
          rw [if_neg (by omega)]
          exact (b3 (i + 1) (by omega)).1
        have tk : (sP w 22 (rmP (w.2.2 22) r i)).1 (rp (i + 1)) = (104, 0) := (b3 (i + 1) (by omega)).2.1.1
        refine g_iload_n h dX5_removeRule_28 rfl ?_
        refine g_iconst h dX5_removeRule_29 ?_
        refine g_iadd h dX5_removeRule_30 ?_
        refine g_aload_n h dX5_removeRule_31 rfl ?_
        refine g_getI h flX5_54 rfl (by assumption) dX5_removeRule_32 ?_
        rw [t3]
        refine g_icmp_ge (tgt := 58) h dX5_removeRule_35 (by decide) (by first | assumption | exact ⟨by omega, by omega⟩) (by first | assumption | exact ⟨by omega, by omega⟩) (fun c35 => ?_) (fun c35 => ?_)
        · exfalso; omega
        · refine g_aload_n h dX5_removeRule_38 rfl ?_
          refine g_getQ h flX5_17 rfl (by assumption) (by assumption) dX5_removeRule_39 ?_
          refine g_iload_n h dX5_removeRule_42 rfl ?_
          refine g_aload_n h dX5_removeRule_43 rfl ?_
          refine g_getQ h flX5_17 rfl (by assumption) (by assumption) dX5_removeRule_44 ?_
          refine g_iload_n h dX5_removeRule_47 rfl ?_
          refine g_iconst h dX5_removeRule_48 ?_
          refine g_iadd h dX5_removeRule_49 ?_
          refine g_aald h (i + 1) (by assumption) (by unfold arK; omega) (by first | omega | assumption) (by first | omega | assumption) (by first | omega | assumption) (by decide) (by assumption) dX5_removeRule_50 ?_
          refine g_aast h (ci := 4) (i) (by assumption) (by unfold arK; omega) (by decide) (by assumption) (by first | omega | assumption) (by first | omega | assumption) (by decide) dX5_removeRule_51 ?_
          refine g_iinc h dX5_removeRule_52 rfl (Nat.le_of_ble_eq_true rfl) rfl rfl ?_
          refine g_goto (tgt := 28) h dX5_removeRule_55 (by decide) ?_
          rw [upP_sP, ← (b3 (i + 1) (by omega)).1, rmP_s _ hr]
          exact ih (i + 1) (by omega) (by omega)
    have e0 : sP w 22 (rmP (w.2.2 22) r r) = w := by
      have : rmP (w.2.2 22) r r = w.2.2 22 := funext fun j => if_neg (by omega)
      rw [this, sP_self]
    refine g_iload_n h dX5_removeRule_0 rfl ?_
    refine g_if_lt (tgt := 24) h dX5_removeRule_1 (by decide) (by first | assumption | exact ⟨by omega, by omega⟩) (fun c1 => ?_) (fun c1 => ?_)
    · exfalso; omega
    · refine g_iload_n h dX5_removeRule_4 rfl ?_
      refine g_aload_n h dX5_removeRule_5 rfl ?_
      refine g_getI h flX5_54 rfl (by assumption) dX5_removeRule_6 ?_
      rw [b1]
      refine g_icmp_ge (tgt := 24) h dX5_removeRule_9 (by decide) (by first | assumption | exact ⟨by omega, by omega⟩) (by first | assumption | exact ⟨by omega, by omega⟩) (fun c9 => ?_) (fun c9 => ?_)
      · exfalso; omega
      · refine g_aload_n h dX5_removeRule_12 rfl ?_
        refine g_getI h flX5_54 rfl (by assumption) dX5_removeRule_13 ?_
        refine g_aload_n h dX5_removeRule_16 rfl ?_
        refine g_getQ h flX5_17 rfl (by assumption) (by assumption) dX5_removeRule_17 ?_
        rw [b1]
        refine g_alen h (by assumption) (by unfold arK; omega) dX5_removeRule_20 ?_
        refine g_icmp_le (tgt := 26) h dX5_removeRule_21 (by decide) (by first | assumption | exact ⟨by omega, by omega⟩) (by first | assumption | exact ⟨by omega, by omega⟩) (fun c21 => ?_) (fun c21 => ?_)
        · refine g_iload_n h dX5_removeRule_26 rfl ?_
          refine g_istore_n h dX5_removeRule_27 (Nat.le_of_ble_eq_true rfl) rfl rfl ?_
          have hl2 := loop (nr - 1 - r) r (by omega) (Nat.le_refl _)
          rw [e0] at hl2
          exact hl2
        · exfalso; omega
  · refine g_iload_n h dX5_removeRule_0 rfl ?_
    refine g_if_lt (tgt := 24) h dX5_removeRule_1 (by decide) (by first | assumption | exact ⟨by omega, by omega⟩) (fun c1 => ?_) (fun c1 => ?_)
    · refine g_iconst h dX5_removeRule_24 ?_
      refine g_zret h hQ (by first | decide | omega | (simp only [clS]; omega)) (by first | decide | omega | (simp only [clS]; omega)) (by omega) ?_ dX5_removeRule_25
      refine ⟨?_, ?_⟩
      all_goals (repeat first | rw [if_pos (by omega)] | rw [if_neg (by omega)])
      all_goals rfl
    · refine g_iload_n h dX5_removeRule_4 rfl ?_
      refine g_aload_n h dX5_removeRule_5 rfl ?_
      refine g_getI h flX5_54 rfl (by assumption) dX5_removeRule_6 ?_
      rw [b1]
      refine g_icmp_ge (tgt := 24) h dX5_removeRule_9 (by decide) (by first | assumption | exact ⟨by omega, by omega⟩) (by first | assumption | exact ⟨by omega, by omega⟩) (fun c9 => ?_) (fun c9 => ?_)
      · refine g_iconst h dX5_removeRule_24 ?_
        refine g_zret h hQ (by first | decide | omega | (simp only [clS]; omega)) (by first | decide | omega | (simp only [clS]; omega)) (by omega) ?_ dX5_removeRule_25
        refine ⟨?_, ?_⟩
        all_goals (repeat first | rw [if_pos (by omega)] | rw [if_neg (by omega)])
        all_goals rfl
      · refine g_aload_n h dX5_removeRule_12 rfl ?_
        refine g_getI h flX5_54 rfl (by assumption) dX5_removeRule_13 ?_
        refine g_aload_n h dX5_removeRule_16 rfl ?_
        refine g_getQ h flX5_17 rfl (by assumption) (by assumption) dX5_removeRule_17 ?_
        rw [b1]
        refine g_alen h (by assumption) (by unfold arK; omega) dX5_removeRule_20 ?_
        refine g_icmp_le (tgt := 26) h dX5_removeRule_21 (by decide) (by first | assumption | exact ⟨by omega, by omega⟩) (by first | assumption | exact ⟨by omega, by omega⟩) (fun c21 => ?_) (fun c21 => ?_)
        · exfalso; omega
        · refine g_iconst h dX5_removeRule_24 ?_
          refine g_zret h hQ (by first | decide | omega | (simp only [clS]; omega)) (by first | decide | omega | (simp only [clS]; omega)) (by omega) ?_ dX5_removeRule_25
          refine ⟨?_, ?_⟩
          all_goals (repeat first | rw [if_pos (by omega)] | rw [if_neg (by omega)])
          all_goals rfl
set_option maxRecDepth 100000 in
set_option maxHeartbeats 4000000 in
theorem c_X5_tellName (l : Launch) (w : AW) (a : Nat) (v : Int) (hX : XS w) (ha : a < 9) : HT l yX5_tellName cX5_tellName 3 none 1 0 0 w [ar 20, ai (a : Int), ai v] (rV (upI w 26 a v)) := by
  refine HT.of (by decide) (by intro v hv; simp only [List.mem_cons, List.not_mem_nil, or_false] at hv; rcases hv with rfl | rfl | rfl <;> rfl) (Nat.le_of_ble_eq_true rfl) ?_
  intro Γ h hQ hRm hnm hl hw0
  have s20 : w.1 20 = (105, 0) := hX.1 20 (by decide)
  have s26 : w.1 26 = (1, 9) := hX.1 26 (by decide)
  have p20_7 : w.2.2 20 7 = some 26 := hX.2 (20, 7, 26) (by decide)
  refine g_iload_n h dX5_tellName_0 rfl ?_
  refine g_if_lt (tgt := 20) h dX5_tellName_1 (by decide) (by first | assumption | exact ⟨by omega, by omega⟩) (fun c1 => ?_) (fun c1 => ?_)
  · refine g_vret h hQ (by first | decide | omega | (simp only [clS]; omega)) (by first | decide | omega | (simp only [clS]; omega)) ?_ dX5_tellName_20
    (first | exact ⟨rfl, rfl⟩ | (exfalso; omega))
  · refine g_iload_n h dX5_tellName_4 rfl ?_
    refine g_aload_n h dX5_tellName_5 rfl ?_
    refine g_getQ h flX5_30 rfl (by assumption) (by assumption) dX5_tellName_6 ?_
    refine g_alen h (by assumption) (by unfold arK; omega) dX5_tellName_9 ?_
    refine g_icmp_ge (tgt := 20) h dX5_tellName_10 (by decide) (by first | assumption | exact ⟨by omega, by omega⟩) (by first | assumption | exact ⟨by omega, by omega⟩) (fun c10 => ?_) (fun c10 => ?_)
    · refine g_vret h hQ (by first | decide | omega | (simp only [clS]; omega)) (by first | decide | omega | (simp only [clS]; omega)) ?_ dX5_tellName_20
      (first | exact ⟨rfl, rfl⟩ | (exfalso; omega))
    · refine g_aload_n h dX5_tellName_13 rfl ?_
      refine g_getQ h flX5_30 rfl (by assumption) (by assumption) dX5_tellName_14 ?_
      refine g_iload_n h dX5_tellName_17 rfl ?_
      refine g_iload_n h dX5_tellName_18 rfl ?_
      refine g_iast h (a) (by assumption) (by first | omega | assumption) (by first | omega | assumption) (by decide) dX5_tellName_19 ?_
      refine g_vret h hQ (by first | decide | omega | (simp only [clS]; omega)) (by first | decide | omega | (simp only [clS]; omega)) ?_ dX5_tellName_20
      (first | exact ⟨rfl, rfl⟩ | (exfalso; omega))
set_option maxRecDepth 100000 in
set_option maxHeartbeats 4000000 in
theorem c_X5_names (l : Launch) (w : AW) (nr : Nat) (rp rc : Nat → Nat) (cl : Nat → List Int) (a : Int) (hX : XS w) (hB : RBK w nr rp rc cl) (ha : 0 ≤ a ∧ a < 9) : HT l yX5_names cX5_names 4 (some .boolean) 2 0 0 w [ar 20, ai a] (fun r w' => r = some (ai (b01 (anyB (fun i => hnF (cl i) (10000 + a) (cl i).length) nr))) ∧ F1 27 w w') := by
  refine HT.of (by decide) (by intro v hv; simp only [List.mem_cons, List.not_mem_nil, or_false] at hv; rcases hv with rfl | rfl <;> rfl) (Nat.le_of_ble_eq_true rfl) ?_
  intro Γ h hQ hRm hnm hl hw0
  have s20 : w.1 20 = (105, 0) := hX.1 20 (by decide)
  have s22 : w.1 22 = (204, 16) := hX.1 22 (by decide)
  have p20_2 : w.2.2 20 2 = some 22 := hX.2 (20, 2, 22) (by decide)
  obtain ⟨b1, b2, b3⟩ := id hB
  have loop : ∀ (d i : Nat) (x : Option AV) (u : AW), i + d = nr → F1 27 w u → anyB (fun i => hnF (cl i) (10000 + a) (cl i).length) i = false → GG Γ 2 [some (ar 20), some (ai a), some (ai (i : Int)), x] [] u 0 0 := by
    intro d
    induction d with
    | zero =>
      intro i x u hi hF hinv
      obtain ⟨f1, f2, f3⟩ := id hF
      obtain rfl : i = nr := by omega
      have t20 : u.1 20 = (105, 0) := by rw [f1]; exact s20
      have t22 : u.1 22 = (204, 16) := by rw [f1]; exact s22
      have t3 : u.2.1 20 3 = (i : Int) := by rw [f3 20 (by decide)]; exact b1
      have tp : u.2.2 20 2 = some 22 := by rw [f2]; exact p20_2
      refine g_iload_n h dX5_names_2 rfl ?_
      refine g_aload_n h dX5_names_3 rfl ?_
      refine g_getI h flX5_54 rfl (by assumption) dX5_names_4 ?_
      rw [t3]
      refine g_icmp_ge (tgt := 46) h dX5_names_7 (by decide) (by first | assumption | exact ⟨by omega, by omega⟩) (by first | assumption | exact ⟨by omega, by omega⟩) (fun c7 => ?_) (fun c7 => ?_)
      · refine g_iconst h dX5_names_46 ?_
        refine g_zret h hQ (by first | decide | omega | (simp only [clS]; omega)) (by first | decide | omega | (simp only [clS]; omega)) (by omega) ?_ dX5_names_47
        refine ⟨?_, hF⟩
        rw [hinv]
        rfl
      · exfalso; omega
    | succ d ih =>
      intro i x u hi hF hinv
      obtain ⟨f1, f2, f3⟩ := id hF
      obtain ⟨g1, g2, g3, g4, g5, g6⟩ := b3 i (by omega)
      have hX2 := XS_of f1 f2 hX
      have t20 : u.1 20 = (105, 0) := by rw [f1]; exact s20
      have t22 : u.1 22 = (204, 16) := by rw [f1]; exact s22
      have t26 : u.1 26 = (1, 9) := hX2.1 26 (by decide)
      have t27 : u.1 27 = (1, 31) := hX2.1 27 (by decide)
      have t3 : u.2.1 20 3 = (nr : Int) := by rw [f3 20 (by decide)]; exact b1
      have tp : u.2.2 20 2 = some 22 := by rw [f2]; exact p20_2
      have tp7 : u.2.2 20 7 = some 26 := hX2.2 (20, 7, 26) (by decide)
      have tp8 : u.2.2 20 8 = some 27 := hX2.2 (20, 8, 27) (by decide)
      have tr : u.2.2 22 i = some (rp i) := by rw [f2]; exact g1
      have hRU := RU_F f1 f2 (f3 (rp i) (by omega)) (f3 (rc i) (by omega)) g2
      have tk : u.1 (rp i) = (104, 0) := hRU.1
      have e26 : u.2.1 26 = w.2.1 26 := f3 26 (by decide)
      have ea : u.2.1 (rp i) 0 = w.2.1 (rp i) 0 := by rw [f3 (rp i) (by omega)]
      have eab : 0 ≤ w.2.1 (rp i) 0 ∧ w.2.1 (rp i) 0 < 4 := ⟨g2.2.2.2.2.2.1, g2.2.2.2.2.2.2⟩
      refine g_iload_n h dX5_names_2 rfl ?_
      refine g_aload_n h dX5_names_3 rfl ?_
      refine g_getI h flX5_54 rfl (by assumption) dX5_names_4 ?_
      rw [t3]
      refine g_icmp_ge (tgt := 46) h dX5_names_7 (by decide) (by first | assumption | exact ⟨by omega, by omega⟩) (by first | assumption | exact ⟨by omega, by omega⟩) (fun c7 => ?_) (fun c7 => ?_)
      · exfalso; omega
      · refine g_iload_n h dX5_names_10 rfl ?_
        refine g_aload_n h dX5_names_11 rfl ?_
        refine g_getQ h flX5_17 rfl (by assumption) (by assumption) dX5_names_12 ?_
        refine g_alen h (by assumption) (by unfold arK; omega) dX5_names_15 ?_
        refine g_icmp_ge (tgt := 46) h dX5_names_16 (by decide) (by first | assumption | exact ⟨by omega, by omega⟩) (by first | assumption | exact ⟨by omega, by omega⟩) (fun c16 => ?_) (fun c16 => ?_)
        · exfalso; omega
        · refine g_aload_n h dX5_names_19 rfl ?_
          refine g_getQ h flX5_17 rfl (by assumption) (by assumption) dX5_names_20 ?_
          refine g_iload_n h dX5_names_23 rfl ?_
          refine g_aald h (i) (by assumption) (by unfold arK; omega) (by first | omega | assumption) (by first | omega | assumption) (by first | omega | assumption) (by decide) (by assumption) dX5_names_24 ?_
          refine g_astore_n h dX5_names_25 (Nat.le_of_ble_eq_true rfl) rfl rfl ?_
          refine g_aload_n h dX5_names_26 rfl ?_
          refine g_ifnull (tgt := 40) h dX5_names_27 (by decide) (fun cnn => by cases cnn) (fun _ cnn => ?_)
          refine g_aload_n h dX5_names_30 rfl ?_
          refine g_iload_n h dX5_names_31 rfl ?_
          refine g_callV h rfl (ci := 4) [_] (by assumption) (c_X4_hasName _ _ (rp i) (rc i) (cl i) a hRU ha.1 ha.2) clX5_57 (by decide) rfl in_X4_hasName se_X4_hasName rfl rfl (by rw [hRm]; first | decide | (simp only [clS]; omega)) (by rw [hRm]; first | decide | (simp only [clS]; omega)) (fun _ => Nat.le_of_ble_eq_true rfl) (by rw [hRm]; first | decide | (simp only [clS]; omega)) (by rw [hRm]; first | decide | (simp only [clS]; omega)) dX5_names_32 (fun r32 w32 hp32 => ?_)
          obtain ⟨rfl, hw32⟩ := hp32
          rw [hw32]
          have hbw32 := ite01 (hnF (cl i) (10000 + a) (cl i).length = true)
          refine g_if_eq (tgt := 40) h dX5_names_35 (by decide) (by first | assumption | exact ⟨by omega, by omega⟩) (fun c35 => ?_) (fun c35 => ?_)
          · refine g_iinc h dX5_names_40 rfl (Nat.le_of_ble_eq_true rfl) rfl rfl ?_
            refine g_goto (tgt := 2) h dX5_names_43 (by decide) ?_
            exact ih (i + 1) _ _ (by omega) hF (by show (_ || _) = false; rw [hinv, Bool.eq_false_iff.mpr (by omega)]; rfl)
          · refine g_iconst h dX5_names_38 ?_
            refine g_zret h hQ (by first | decide | omega | (simp only [clS]; omega)) (by first | decide | omega | (simp only [clS]; omega)) (by omega) ?_ dX5_names_39
            refine ⟨?_, hF⟩
            rw [anyB_up (i := i) (by omega) nr (by omega)]
            rfl
  refine g_iconst h dX5_names_0 ?_
  refine g_istore_n h dX5_names_1 (Nat.le_of_ble_eq_true rfl) rfl rfl ?_
  exact loop nr 0 none w (by omega) ⟨rfl, rfl, fun _ _ => rfl⟩ rfl
set_option maxRecDepth 100000 in
set_option maxHeartbeats 4000000 in
theorem c_X5_someHolds (l : Launch) (w : AW) (nr : Nat) (rp rc : Nat → Nat) (cl : Nat → List Int) (a : Int) (hX : XS w) (hB : RBK w nr rp rc cl) (ha : R32 a) (hnm : ∀ i, i < 9 → -100000 ≤ w.2.1 26 i ∧ w.2.1 26 i ≤ 100000) : HT l yX5_someHolds cX5_someHolds 4 (some .boolean) 4 0 0 w [ar 20, ai a] (fun r w' => r = some (ai (b01 (anyB (rlT w rp cl a) nr))) ∧ F1 27 w w') := by
  refine HT.of (by decide) (by intro v hv; simp only [List.mem_cons, List.not_mem_nil, or_false] at hv; rcases hv with rfl | rfl <;> rfl) (Nat.le_of_ble_eq_true rfl) ?_
  intro Γ h hQ hRm hnm hl hw0
  have s20 : w.1 20 = (105, 0) := hX.1 20 (by decide)
  have s22 : w.1 22 = (204, 16) := hX.1 22 (by decide)
  have s26 : w.1 26 = (1, 9) := hX.1 26 (by decide)
  have s27 : w.1 27 = (1, 31) := hX.1 27 (by decide)
  have p20_2 : w.2.2 20 2 = some 22 := hX.2 (20, 2, 22) (by decide)
  have p20_7 : w.2.2 20 7 = some 26 := hX.2 (20, 7, 26) (by decide)
  have p20_8 : w.2.2 20 8 = some 27 := hX.2 (20, 8, 27) (by decide)
  obtain ⟨b1, b2, b3⟩ := id hB
  have loop : ∀ (d i : Nat) (x : Option AV) (u : AW), i + d = nr → F1 27 w u → anyB (rlT w rp cl a) i = false → GG Γ 2 [some (ar 20), some (ai a), some (ai (i : Int)), x] [] u 0 0 := by
    intro d
    induction d with
    | zero =>
      intro i x u hi hF hinv
      obtain ⟨f1, f2, f3⟩ := id hF
      obtain rfl : i = nr := by omega
      have t20 : u.1 20 = (105, 0) := by rw [f1]; exact s20
      have t22 : u.1 22 = (204, 16) := by rw [f1]; exact s22
      have t3 : u.2.1 20 3 = (i : Int) := by rw [f3 20 (by decide)]; exact b1
      have tp : u.2.2 20 2 = some 22 := by rw [f2]; exact p20_2
      refine g_iload_n h dX5_someHolds_2 rfl ?_
      refine g_aload_n h dX5_someHolds_3 rfl ?_
      refine g_getI h flX5_54 rfl (by assumption) dX5_someHolds_4 ?_
      rw [t3]
      refine g_icmp_ge (tgt := 61) h dX5_someHolds_7 (by decide) (by first | assumption | exact ⟨by omega, by omega⟩) (by first | assumption | exact ⟨by omega, by omega⟩) (fun c7 => ?_) (fun c7 => ?_)
      · refine g_iconst h dX5_someHolds_61 ?_
        refine g_zret h hQ (by first | decide | omega | (simp only [clS]; omega)) (by first | decide | omega | (simp only [clS]; omega)) (by omega) ?_ dX5_someHolds_62
        refine ⟨?_, hF⟩
        rw [hinv]
        rfl
      · exfalso; omega
    | succ d ih =>
      intro i x u hi hF hinv
      obtain ⟨f1, f2, f3⟩ := id hF
      obtain ⟨g1, g2, g3, g4, g5, g6⟩ := b3 i (by omega)
      have hX2 := XS_of f1 f2 hX
      have t20 : u.1 20 = (105, 0) := by rw [f1]; exact s20
      have t22 : u.1 22 = (204, 16) := by rw [f1]; exact s22
      have t26 : u.1 26 = (1, 9) := hX2.1 26 (by decide)
      have t27 : u.1 27 = (1, 31) := hX2.1 27 (by decide)
      have t3 : u.2.1 20 3 = (nr : Int) := by rw [f3 20 (by decide)]; exact b1
      have tp : u.2.2 20 2 = some 22 := by rw [f2]; exact p20_2
      have tp7 : u.2.2 20 7 = some 26 := hX2.2 (20, 7, 26) (by decide)
      have tp8 : u.2.2 20 8 = some 27 := hX2.2 (20, 8, 27) (by decide)
      have tr : u.2.2 22 i = some (rp i) := by rw [f2]; exact g1
      have hRU := RU_F f1 f2 (f3 (rp i) (by omega)) (f3 (rc i) (by omega)) g2
      have tk : u.1 (rp i) = (104, 0) := hRU.1
      have e26 : u.2.1 26 = w.2.1 26 := f3 26 (by decide)
      have ea : u.2.1 (rp i) 0 = w.2.1 (rp i) 0 := by rw [f3 (rp i) (by omega)]
      have eab : 0 ≤ w.2.1 (rp i) 0 ∧ w.2.1 (rp i) 0 < 4 := ⟨g2.2.2.2.2.2.1, g2.2.2.2.2.2.2⟩
      refine g_iload_n h dX5_someHolds_2 rfl ?_
      refine g_aload_n h dX5_someHolds_3 rfl ?_
      refine g_getI h flX5_54 rfl (by assumption) dX5_someHolds_4 ?_
      rw [t3]
      refine g_icmp_ge (tgt := 61) h dX5_someHolds_7 (by decide) (by first | assumption | exact ⟨by omega, by omega⟩) (by first | assumption | exact ⟨by omega, by omega⟩) (fun c7 => ?_) (fun c7 => ?_)
      · exfalso; omega
      · refine g_iload_n h dX5_someHolds_10 rfl ?_
        refine g_aload_n h dX5_someHolds_11 rfl ?_
        refine g_getQ h flX5_17 rfl (by assumption) (by assumption) dX5_someHolds_12 ?_
        refine g_alen h (by assumption) (by unfold arK; omega) dX5_someHolds_15 ?_
        refine g_icmp_ge (tgt := 61) h dX5_someHolds_16 (by decide) (by first | assumption | exact ⟨by omega, by omega⟩) (by first | assumption | exact ⟨by omega, by omega⟩) (fun c16 => ?_) (fun c16 => ?_)
        · exfalso; omega
        · refine g_aload_n h dX5_someHolds_19 rfl ?_
          refine g_getQ h flX5_17 rfl (by assumption) (by assumption) dX5_someHolds_20 ?_
          refine g_iload_n h dX5_someHolds_23 rfl ?_
          refine g_aald h (i) (by assumption) (by unfold arK; omega) (by first | omega | assumption) (by first | omega | assumption) (by first | omega | assumption) (by decide) (by assumption) dX5_someHolds_24 ?_
          refine g_astore_n h dX5_someHolds_25 (Nat.le_of_ble_eq_true rfl) rfl rfl ?_
          refine g_aload_n h dX5_someHolds_26 rfl ?_
          refine g_ifnull (tgt := 55) h dX5_someHolds_27 (by decide) (fun cnn => by cases cnn) (fun _ cnn => ?_)
          refine g_aload_n h dX5_someHolds_30 rfl ?_
          refine g_getI h flX5_61 rfl (by assumption) dX5_someHolds_31 ?_
          rw [ea]
          refine g_iload_n h dX5_someHolds_34 rfl ?_
          refine g_icmp_ne (tgt := 55) h dX5_someHolds_35 (by decide) (by first | assumption | exact ⟨by omega, by omega⟩) (by first | assumption | exact ⟨by omega, by omega⟩) (fun c35 => ?_) (fun c35 => ?_)
          · refine g_iinc h dX5_someHolds_55 rfl (Nat.le_of_ble_eq_true rfl) rfl rfl ?_
            refine g_goto (tgt := 2) h dX5_someHolds_58 (by decide) ?_
            exact ih (i + 1) _ _ (by omega) hF (by show (_ || _) = false; rw [hinv, show rlT w rp cl a i = false by unfold rlT; rw [decide_eq_false (show ¬ w.2.1 (rp i) 0 = a by omega)]; rfl]; rfl)
          · refine g_aload_n h dX5_someHolds_38 rfl ?_
            refine g_aload_n h dX5_someHolds_39 rfl ?_
            refine g_getQ h flX5_30 rfl (by assumption) (by assumption) dX5_someHolds_40 ?_
            refine g_aload_n h dX5_someHolds_43 rfl ?_
            refine g_getQ h flX5_33 rfl (by assumption) (by assumption) dX5_someHolds_44 ?_
            refine g_callV h rfl (ci := 4) [_, _] (by assumption) (c_X4_holds _ _ (rp i) (rc i) (cl i) hRU (by omega) t26 t27 (by rw [e26]; exact hnm) g5 g6) clX5_64 (by decide) rfl in_X4_holds se_X4_holds rfl rfl (by rw [hRm]; first | decide | (simp only [clS]; omega)) (by rw [hRm]; first | decide | (simp only [clS]; omega)) (fun _ => Nat.le_of_ble_eq_true rfl) (by rw [hRm]; first | decide | (simp only [clS]; omega)) (by rw [hRm]; first | decide | (simp only [clS]; omega)) dX5_someHolds_47 (fun r47 w47 hp47 => ?_)
            obtain ⟨rfl, hw47⟩ := hp47
            rw [e26]
            have hFF : F1 27 w w47 := ⟨hw47.1.trans f1, hw47.2.1.trans f2, fun j hj => (hw47.2.2 j hj).trans (f3 j hj)⟩
            have hbw47 := ite01 (evL (w.2.1 26) (cl i) [] = [1])
            refine g_if_eq (tgt := 55) h dX5_someHolds_50 (by decide) (by first | assumption | exact ⟨by omega, by omega⟩) (fun c50 => ?_) (fun c50 => ?_)
            · refine g_iinc h dX5_someHolds_55 rfl (Nat.le_of_ble_eq_true rfl) rfl rfl ?_
              refine g_goto (tgt := 2) h dX5_someHolds_58 (by decide) ?_
              exact ih (i + 1) _ _ (by omega) (by assumption) (by show (_ || _) = false; rw [hinv, show rlT w rp cl a i = false by unfold rlT; rw [decide_eq_false (show ¬ evL (w.2.1 26) (cl i) [] = [1] by omega)]; exact Bool.and_false _]; rfl)
            · refine g_iconst h dX5_someHolds_53 ?_
              refine g_zret h hQ (by first | decide | omega | (simp only [clS]; omega)) (by first | decide | omega | (simp only [clS]; omega)) (by omega) ?_ dX5_someHolds_54
              refine ⟨?_, (by assumption)⟩
              have e1 : rlT w rp cl a i = true := by
                unfold rlT
                rw [decide_eq_true (show w.2.1 (rp i) 0 = a by omega), decide_eq_true (show evL (w.2.1 26) (cl i) [] = [1] by omega)]
                rfl
              rw [anyB_up (i := i) e1 nr (by omega)]
              rfl
  refine g_iconst h dX5_someHolds_0 ?_
  refine g_istore_n h dX5_someHolds_1 (Nat.le_of_ble_eq_true rfl) rfl rfl ?_
  exact loop nr 0 none w (by omega) ⟨rfl, rfl, fun _ _ => rfl⟩ rfl
set_option maxRecDepth 100000 in
set_option maxHeartbeats 4000000 in
theorem c_X5_allHold (l : Launch) (w : AW) (nr : Nat) (rp rc : Nat → Nat) (cl : Nat → List Int) (a : Int) (hX : XS w) (hB : RBK w nr rp rc cl) (ha : R32 a) (hnm : ∀ i, i < 9 → -100000 ≤ w.2.1 26 i ∧ w.2.1 26 i ≤ 100000) : HT l yX5_allHold cX5_allHold 4 (some .boolean) 4 0 0 w [ar 20, ai a] (fun r w' => r = some (ai (b01 (allB (rlN w rp cl a) nr))) ∧ F1 27 w w') := by
  refine HT.of (by decide) (by intro v hv; simp only [List.mem_cons, List.not_mem_nil, or_false] at hv; rcases hv with rfl | rfl <;> rfl) (Nat.le_of_ble_eq_true rfl) ?_
  intro Γ h hQ hRm hnm hl hw0
  have s20 : w.1 20 = (105, 0) := hX.1 20 (by decide)
  have s22 : w.1 22 = (204, 16) := hX.1 22 (by decide)
  have s26 : w.1 26 = (1, 9) := hX.1 26 (by decide)
  have s27 : w.1 27 = (1, 31) := hX.1 27 (by decide)
  have p20_2 : w.2.2 20 2 = some 22 := hX.2 (20, 2, 22) (by decide)
  have p20_7 : w.2.2 20 7 = some 26 := hX.2 (20, 7, 26) (by decide)
  have p20_8 : w.2.2 20 8 = some 27 := hX.2 (20, 8, 27) (by decide)
  obtain ⟨b1, b2, b3⟩ := id hB
  have loop : ∀ (d i : Nat) (x : Option AV) (u : AW), i + d = nr → F1 27 w u → allB (rlN w rp cl a) i = true → GG Γ 2 [some (ar 20), some (ai a), some (ai (i : Int)), x] [] u 0 0 := by
    intro d
    induction d with
    | zero =>
      intro i x u hi hF hinv
      obtain ⟨f1, f2, f3⟩ := id hF
      obtain rfl : i = nr := by omega
      have t20 : u.1 20 = (105, 0) := by rw [f1]; exact s20
      have t22 : u.1 22 = (204, 16) := by rw [f1]; exact s22
      have t3 : u.2.1 20 3 = (i : Int) := by rw [f3 20 (by decide)]; exact b1
      have tp : u.2.2 20 2 = some 22 := by rw [f2]; exact p20_2
      refine g_iload_n h dX5_allHold_2 rfl ?_
      refine g_aload_n h dX5_allHold_3 rfl ?_
      refine g_getI h flX5_54 rfl (by assumption) dX5_allHold_4 ?_
      rw [t3]
      refine g_icmp_ge (tgt := 61) h dX5_allHold_7 (by decide) (by first | assumption | exact ⟨by omega, by omega⟩) (by first | assumption | exact ⟨by omega, by omega⟩) (fun c7 => ?_) (fun c7 => ?_)
      · refine g_iconst h dX5_allHold_61 ?_
        refine g_zret h hQ (by first | decide | omega | (simp only [clS]; omega)) (by first | decide | omega | (simp only [clS]; omega)) (by omega) ?_ dX5_allHold_62
        refine ⟨?_, hF⟩
        rw [hinv]
        rfl
      · exfalso; omega
    | succ d ih =>
      intro i x u hi hF hinv
      obtain ⟨f1, f2, f3⟩ := id hF
      obtain ⟨g1, g2, g3, g4, g5, g6⟩ := b3 i (by omega)
      have hX2 := XS_of f1 f2 hX
      have t20 : u.1 20 = (105, 0) := by rw [f1]; exact s20
      have t22 : u.1 22 = (204, 16) := by rw [f1]; exact s22
      have t26 : u.1 26 = (1, 9) := hX2.1 26 (by decide)
      have t27 : u.1 27 = (1, 31) := hX2.1 27 (by decide)
      have t3 : u.2.1 20 3 = (nr : Int) := by rw [f3 20 (by decide)]; exact b1
      have tp : u.2.2 20 2 = some 22 := by rw [f2]; exact p20_2
      have tp7 : u.2.2 20 7 = some 26 := hX2.2 (20, 7, 26) (by decide)
      have tp8 : u.2.2 20 8 = some 27 := hX2.2 (20, 8, 27) (by decide)
      have tr : u.2.2 22 i = some (rp i) := by rw [f2]; exact g1
      have hRU := RU_F f1 f2 (f3 (rp i) (by omega)) (f3 (rc i) (by omega)) g2
      have tk : u.1 (rp i) = (104, 0) := hRU.1
      have e26 : u.2.1 26 = w.2.1 26 := f3 26 (by decide)
      have ea : u.2.1 (rp i) 0 = w.2.1 (rp i) 0 := by rw [f3 (rp i) (by omega)]
      have eab : 0 ≤ w.2.1 (rp i) 0 ∧ w.2.1 (rp i) 0 < 4 := ⟨g2.2.2.2.2.2.1, g2.2.2.2.2.2.2⟩
      refine g_iload_n h dX5_allHold_2 rfl ?_
      refine g_aload_n h dX5_allHold_3 rfl ?_
      refine g_getI h flX5_54 rfl (by assumption) dX5_allHold_4 ?_
      rw [t3]
      refine g_icmp_ge (tgt := 61) h dX5_allHold_7 (by decide) (by first | assumption | exact ⟨by omega, by omega⟩) (by first | assumption | exact ⟨by omega, by omega⟩) (fun c7 => ?_) (fun c7 => ?_)
      · exfalso; omega
      · refine g_iload_n h dX5_allHold_10 rfl ?_
        refine g_aload_n h dX5_allHold_11 rfl ?_
        refine g_getQ h flX5_17 rfl (by assumption) (by assumption) dX5_allHold_12 ?_
        refine g_alen h (by assumption) (by unfold arK; omega) dX5_allHold_15 ?_
        refine g_icmp_ge (tgt := 61) h dX5_allHold_16 (by decide) (by first | assumption | exact ⟨by omega, by omega⟩) (by first | assumption | exact ⟨by omega, by omega⟩) (fun c16 => ?_) (fun c16 => ?_)
        · exfalso; omega
        · refine g_aload_n h dX5_allHold_19 rfl ?_
          refine g_getQ h flX5_17 rfl (by assumption) (by assumption) dX5_allHold_20 ?_
          refine g_iload_n h dX5_allHold_23 rfl ?_
          refine g_aald h (i) (by assumption) (by unfold arK; omega) (by first | omega | assumption) (by first | omega | assumption) (by first | omega | assumption) (by decide) (by assumption) dX5_allHold_24 ?_
          refine g_astore_n h dX5_allHold_25 (Nat.le_of_ble_eq_true rfl) rfl rfl ?_
          refine g_aload_n h dX5_allHold_26 rfl ?_
          refine g_ifnull (tgt := 55) h dX5_allHold_27 (by decide) (fun cnn => by cases cnn) (fun _ cnn => ?_)
          refine g_aload_n h dX5_allHold_30 rfl ?_
          refine g_getI h flX5_61 rfl (by assumption) dX5_allHold_31 ?_
          rw [ea]
          refine g_iload_n h dX5_allHold_34 rfl ?_
          refine g_icmp_ne (tgt := 55) h dX5_allHold_35 (by decide) (by first | assumption | exact ⟨by omega, by omega⟩) (by first | assumption | exact ⟨by omega, by omega⟩) (fun c35 => ?_) (fun c35 => ?_)
          · refine g_iinc h dX5_allHold_55 rfl (Nat.le_of_ble_eq_true rfl) rfl rfl ?_
            refine g_goto (tgt := 2) h dX5_allHold_58 (by decide) ?_
            exact ih (i + 1) _ _ (by omega) hF (by show (_ && _) = true; rw [hinv, show rlN w rp cl a i = true by unfold rlN; rw [decide_eq_false (show ¬ w.2.1 (rp i) 0 = a by omega)]; rfl]; rfl)
          · refine g_aload_n h dX5_allHold_38 rfl ?_
            refine g_aload_n h dX5_allHold_39 rfl ?_
            refine g_getQ h flX5_30 rfl (by assumption) (by assumption) dX5_allHold_40 ?_
            refine g_aload_n h dX5_allHold_43 rfl ?_
            refine g_getQ h flX5_33 rfl (by assumption) (by assumption) dX5_allHold_44 ?_
            refine g_callV h rfl (ci := 4) [_, _] (by assumption) (c_X4_holds _ _ (rp i) (rc i) (cl i) hRU (by omega) t26 t27 (by rw [e26]; exact hnm) g5 g6) clX5_64 (by decide) rfl in_X4_holds se_X4_holds rfl rfl (by rw [hRm]; first | decide | (simp only [clS]; omega)) (by rw [hRm]; first | decide | (simp only [clS]; omega)) (fun _ => Nat.le_of_ble_eq_true rfl) (by rw [hRm]; first | decide | (simp only [clS]; omega)) (by rw [hRm]; first | decide | (simp only [clS]; omega)) dX5_allHold_47 (fun r47 w47 hp47 => ?_)
            obtain ⟨rfl, hw47⟩ := hp47
            rw [e26]
            have hFF : F1 27 w w47 := ⟨hw47.1.trans f1, hw47.2.1.trans f2, fun j hj => (hw47.2.2 j hj).trans (f3 j hj)⟩
            have hbw47 := ite01 (evL (w.2.1 26) (cl i) [] = [1])
            refine g_if_ne (tgt := 55) h dX5_allHold_50 (by decide) (by first | assumption | exact ⟨by omega, by omega⟩) (fun c50 => ?_) (fun c50 => ?_)
            · refine g_iinc h dX5_allHold_55 rfl (Nat.le_of_ble_eq_true rfl) rfl rfl ?_
              refine g_goto (tgt := 2) h dX5_allHold_58 (by decide) ?_
              exact ih (i + 1) _ _ (by omega) (by assumption) (by show (_ && _) = true; rw [hinv, show rlN w rp cl a i = true by unfold rlN; rw [decide_eq_true (show evL (w.2.1 26) (cl i) [] = [1] by omega)]; exact Bool.or_true _]; rfl)
            · refine g_iconst h dX5_allHold_53 ?_
              refine g_zret h hQ (by first | decide | omega | (simp only [clS]; omega)) (by first | decide | omega | (simp only [clS]; omega)) (by omega) ?_ dX5_allHold_54
              refine ⟨?_, (by assumption)⟩
              have e1 : rlN w rp cl a i = false := by
                unfold rlN
                rw [decide_eq_true (show w.2.1 (rp i) 0 = a by omega), decide_eq_false (show ¬ evL (w.2.1 26) (cl i) [] = [1] by omega)]
                rfl
              rw [allB_up (i := i) e1 nr (by omega)]
              rfl
  refine g_iconst h dX5_allHold_0 ?_
  refine g_istore_n h dX5_allHold_1 (Nat.le_of_ble_eq_true rfl) rfl rfl ?_
  exact loop nr 0 none w (by omega) ⟨rfl, rfl, fun _ _ => rfl⟩ rfl
set_option maxRecDepth 100000 in
set_option maxHeartbeats 4000000 in
theorem c_X5_letsWork (l : Launch) (w : AW) (nr : Nat) (rp rc : Nat → Nat) (cl : Nat → List Int) (hX : XS w) (hB : RBK w nr rp rc cl) (hnm : ∀ i, i < 9 → -100000 ≤ w.2.1 26 i ∧ w.2.1 26 i ≤ 100000) : HT l yX5_letsWork cX5_letsWork 1 (some .boolean) 5 0 0 w [ar 20] (fun r w' => r = some (ai (b01 (allB (rlN w rp cl 1) nr && !anyB (rlT w rp cl 2) nr))) ∧ F1 27 w w') := by
  refine HT.of (by decide) (by intro v hv; simp only [List.mem_cons, List.not_mem_nil, or_false] at hv; rcases hv with rfl <;> rfl) (Nat.le_of_ble_eq_true rfl) ?_
  intro Γ h hQ hRm hnm hl hw0
  have s20 : w.1 20 = (105, 0) := hX.1 20 (by decide)
  refine g_aload_n h dX5_letsWork_0 rfl ?_
  refine g_iconst h dX5_letsWork_1 ?_
  refine g_callV h rfl (ci := 5) [_] (by assumption) (c_X5_allHold _ _ nr rp rc cl 1 hX hB ⟨by decide, by decide⟩ hnm) clX5_68 (by decide) rfl in_X5_allHold se_X5_allHold rfl rfl (by rw [hRm]; first | decide | (simp only [clS]; omega)) (by rw [hRm]; first | decide | (simp only [clS]; omega)) (fun _ => Nat.le_of_ble_eq_true rfl) (by rw [hRm]; first | decide | (simp only [clS]; omega)) (by rw [hRm]; first | decide | (simp only [clS]; omega)) dX5_letsWork_2 (fun r2 w2 hp2 => ?_)
  obtain ⟨rfl, hw2⟩ := hp2
  have h1 := b01_01 (allB (rlN w rp cl 1) nr)
  have t20 : w2.1 20 = (105, 0) := by rw [hw2.1]; exact s20
  have hB2 : RBK w2 nr rp rc cl := RBK_of hw2.1 hw2.2.1 (by rw [hw2.2.2 20 (by decide)]) (fun j hj => hw2.2.2 j (by omega)) hB
  have e26 : w2.2.1 26 = w.2.1 26 := hw2.2.2 26 (by decide)
  have eT : ∀ i, i < nr → rlT w2 rp cl 2 i = rlT w rp cl 2 i := fun i hi => by
    have h3 := (hB.2.2 i hi).2.2.1
    unfold rlT
    rw [hw2.2.2 (rp i) (by omega), e26]
  refine g_if_eq (tgt := 20) h dX5_letsWork_5 (by decide) (by first | assumption | exact ⟨by omega, by omega⟩) (fun c5 => ?_) (fun c5 => ?_)
  · refine g_iconst h dX5_letsWork_20 ?_
    refine g_zret h hQ (by first | decide | omega | (simp only [clS]; omega)) (by first | decide | omega | (simp only [clS]; omega)) (by omega) ?_ dX5_letsWork_21
    refine ⟨?_, by assumption⟩
    cases e1 : allB (rlN w rp cl 1) nr <;> rw [e1] at * <;> (try cases e2 : anyB (rlT w rp cl 2) nr <;> rw [e2] at *) <;> first | rfl | (exfalso; simp only [b01] at *; revert c5; decide) | (exfalso; simp only [b01] at *; revert c13; decide)
  · refine g_aload_n h dX5_letsWork_8 rfl ?_
    refine g_iconst h dX5_letsWork_9 ?_
    refine g_callV h rfl (ci := 5) [_] (by assumption) (c_X5_someHolds _ _ nr rp rc cl 2 (XS_of hw2.1 hw2.2.1 hX) hB2 ⟨by decide, by decide⟩ (by rw [e26]; exact hnm)) clX5_71 (by decide) rfl in_X5_someHolds se_X5_someHolds rfl rfl (by rw [hRm]; first | decide | (simp only [clS]; omega)) (by rw [hRm]; first | decide | (simp only [clS]; omega)) (fun _ => Nat.le_of_ble_eq_true rfl) (by rw [hRm]; first | decide | (simp only [clS]; omega)) (by rw [hRm]; first | decide | (simp only [clS]; omega)) dX5_letsWork_10 (fun r10 w10 hp10 => ?_)
    obtain ⟨rfl, hw10⟩ := hp10
    rw [anyB_congr nr eT]
    have h2 := b01_01 (anyB (rlT w rp cl 2) nr)
    have hFF : F1 27 w w10 := ⟨hw10.1.trans hw2.1, hw10.2.1.trans hw2.2.1, fun j hj => (hw10.2.2 j hj).trans (hw2.2.2 j hj)⟩
    refine g_if_ne (tgt := 20) h dX5_letsWork_13 (by decide) (by first | assumption | exact ⟨by omega, by omega⟩) (fun c13 => ?_) (fun c13 => ?_)
    · refine g_iconst h dX5_letsWork_20 ?_
      refine g_zret h hQ (by first | decide | omega | (simp only [clS]; omega)) (by first | decide | omega | (simp only [clS]; omega)) (by omega) ?_ dX5_letsWork_21
      refine ⟨?_, by assumption⟩
      cases e1 : allB (rlN w rp cl 1) nr <;> rw [e1] at * <;> (try cases e2 : anyB (rlT w rp cl 2) nr <;> rw [e2] at *) <;> first | rfl | (exfalso; simp only [b01] at *; revert c5; decide) | (exfalso; simp only [b01] at *; revert c13; decide)
    · refine g_iconst h dX5_letsWork_16 ?_
      refine g_goto (tgt := 21) h dX5_letsWork_17 (by decide) ?_
      refine g_zret h hQ (by first | decide | omega | (simp only [clS]; omega)) (by first | decide | omega | (simp only [clS]; omega)) (by omega) ?_ dX5_letsWork_21
      refine ⟨?_, by assumption⟩
      cases e1 : allB (rlN w rp cl 1) nr <;> rw [e1] at * <;> (try cases e2 : anyB (rlT w rp cl 2) nr <;> rw [e2] at *) <;> first | rfl | (exfalso; simp only [b01] at *; revert c5; decide) | (exfalso; simp only [b01] at *; revert c13; decide)
