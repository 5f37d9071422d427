/-! ===== the book of rules ===== -/
theorem upI_self (w : AW) (k f : Nat) (z : Int) : (upI w k f z).2.1 k f = z := by rw [upI_at]; exact if_pos rfl
/-- nr rules, at places rp, their codes at rc, which are cl -/
def RBK (w : AW) (nr : Nat) (rp rc : Nat → Nat) (cl : Nat → List Int) : Prop := w.2.1 20 3 = (nr : Int) ∧ nr ≤ 16 ∧ ∀ i, i < nr → w.2.2 22 i = some (rp i) ∧ RU w (rp i) (rc i) (cl i) ∧ 2000 ≤ rp i ∧ 2000 ≤ rc i ∧ tcL (cl i) [] = some [true] ∧ tms (cl i) ≤ 30
theorem RU_F {w u : AW} {p cp : Nat} {cl : List Int} (h1 : u.1 = w.1) (h2 : u.2.2 = w.2.2) (h3 : u.2.1 p = w.2.1 p) (h4 : u.2.1 cp = w.2.1 cp) (h : RU w p cp cl) : RU u p cp cl := by unfold RU at h ⊢; rw [h1, h2, h3, h4]; exact h
theorem RBK_of {w u : AW} {nr : Nat} {rp rc : Nat → Nat} {cl : Nat → List Int} (h1 : u.1 = w.1) (h2 : u.2.2 = w.2.2) (h3 : u.2.1 20 3 = w.2.1 20 3) (h4 : ∀ j, 2000 ≤ j → u.2.1 j = w.2.1 j) (h : RBK w nr rp rc cl) : RBK u nr rp rc cl :=
  ⟨h3.trans h.1, h.2.1, fun i hi => by
    obtain ⟨a, b, c, d, e⟩ := h.2.2 i hi
    exact ⟨by rw [h2]; exact a, RU_F h1 h2 (h4 _ c) (h4 _ d) b, c, d, e⟩⟩
/-- whether rule i is of an act and holds -/
def rlT (w : AW) (rp : Nat → Nat) (cl : Nat → List Int) (act : Int) (i : Nat) : Bool := decide (w.2.1 (rp i) 0 = act) && decide (evL (w.2.1 26) (cl i) [] = [1])
def rlN (w : AW) (rp : Nat → Nat) (cl : Nat → List Int) (act : Int) (i : Nat) : Bool := !decide (w.2.1 (rp i) 0 = act) || decide (evL (w.2.1 26) (cl i) [] = [1])
def anyB (f : Nat → Bool) : Nat → Bool
  | 0 => false
  | i + 1 => anyB f i || f i
def allB (f : Nat → Bool) : Nat → Bool
  | 0 => true
  | i + 1 => allB f i && f i
theorem anyB_up {f : Nat → Bool} {i : Nat} (h : f i = true) : ∀ n, i < n → anyB f n = true
  | 0, q => by omega
  | n + 1, q => by
    show (anyB f n || f n) = true
    by_cases e : i = n
    · subst e; rw [h]; exact Bool.or_true _
    · rw [anyB_up h n (by omega)]; rfl
theorem allB_up {f : Nat → Bool} {i : Nat} (h : f i = false) : ∀ n, i < n → allB f n = false
  | 0, q => by omega
  | n + 1, q => by
    show (allB f n && f n) = false
    by_cases e : i = n
    · subst e; rw [h]; exact Bool.and_false _
    · rw [allB_up h n (by omega)]; rfl
theorem anyB_congr {f g : Nat → Bool} : ∀ n, (∀ i, i < n → f i = g i) → anyB f n = anyB g n
  | 0, _ => rfl
  | n + 1, h => by show (_ || _) = (_ || _); rw [anyB_congr n (fun i hi => h i (by omega)), h n (by omega)]
theorem allB_congr {f g : Nat → Bool} : ∀ n, (∀ i, i < n → f i = g i) → allB f n = allB g n
  | 0, _ => rfl
  | n + 1, h => by show (_ && _) = (_ && _); rw [allB_congr n (fun i hi => h i (by omega)), h n (by omega)]
def b01 (b : Bool) : Int := if b = true then 1 else 0
theorem b01_z (b : Bool) : (b01 b = 0) = (b = false) := by cases b <;> simp [b01]
theorem b01_01 (b : Bool) : b01 b = 0 ∨ b01 b = 1 := by cases b <;> simp [b01]
/-- byte k of an int, the highest first -/
def byF (z : Int) (s : Nat) : Int := (z / 2 ^ s) % 256
theorem by_shr {z : Int} {s : Nat} (hs : s = 24 ∨ s = 16 ∨ s = 8 ∨ s = 0) : ((Int32.ofInt z).toUInt32 >>> ((Int32.ofInt (s : Int)).toUInt32 &&& Int32.toUInt32 31)).toInt32 = Int32.ofInt (z % 4294967296 / 2 ^ s) := by
  have hm : 0 ≤ z % 4294967296 ∧ z % 4294967296 < 4294967296 := ⟨Int.emod_nonneg _ (by decide), Int.emod_lt_of_pos _ (by decide)⟩
  obtain ⟨m, hm2⟩ : ∃ m : Nat, z % 4294967296 = (m : Int) := ⟨(z % 4294967296).toNat, by omega⟩
  have e1 : Int32.ofInt z = Int32.ofInt (m : Int) := by
    rw [← hm2, ← Int32.toInt_inj, Int32.toInt_ofInt, Int32.toInt_ofInt]
    show z.bmod 4294967296 = (z % 4294967296).bmod 4294967296
    exact (Int.emod_bmod z 4294967296).symm
  rw [e1, hm2]
  have h2 : m < 4294967296 := by omega
  have e3 : ((m : Int) / 2 ^ s) = ((m / 2 ^ s : Nat) : Int) := by rw [Int.natCast_ediv]; rfl
  rw [e3, Int32.ofInt_eq_ofNat, Int32.ofInt_eq_ofNat]
  apply Int32.toBitVec_inj.mp
  apply BitVec.eq_of_toNat_eq
  have h3 : m / 2 ^ s ≤ m := Nat.div_le_self _ _
  rcases hs with rfl | rfl | rfl | rfl <;> simp [Int32.toBitVec_ofNat, Nat.shiftRight_eq_div_pow, Nat.mod_eq_of_lt h2] <;> omega
theorem by_and {m : Int} (h0 : 0 ≤ m) (h1 : m < 4294967296) : Int32.ofInt m &&& Int32.ofInt 255 = Int32.ofInt (m % 256) := by
  obtain ⟨n, rfl⟩ : ∃ n : Nat, m = (n : Int) := ⟨m.toNat, by omega⟩
  have e : ((n : Int) % 256) = ((n % 256 : Nat) : Int) := by omega
  rw [e, Int32.ofInt_eq_ofNat, Int32.ofInt_eq_ofNat]
  apply Int32.toBitVec_inj.mp
  apply BitVec.eq_of_toNat_eq
  have h2 : n < 4294967296 := by omega
  show ((BitVec.ofNat 32 n) &&& (BitVec.ofNat 32 255)).toNat = (BitVec.ofNat 32 (n % 256)).toNat
  rw [BitVec.toNat_and, BitVec.toNat_ofNat, BitVec.toNat_ofNat, BitVec.toNat_ofNat, Nat.mod_eq_of_lt h2]
  rw [show (255 % 2 ^ 32 : Nat) = 2 ^ 8 - 1 by decide, Nat.and_two_pow_sub_one_eq_mod]
  show n % 256 = n % 256 % 4294967296
  omega
theorem byF_eq (z : Int) {s : Nat} (hs : s = 24 ∨ s = 16 ∨ s = 8 ∨ s = 0) : (z % 4294967296 / 2 ^ s) % 256 = byF z s := by
  unfold byF
  rcases hs with rfl | rfl | rfl | rfl <;> omega
/-- four bytes come behind the tape -/
def tpF (row : Nat → Int) (tl : Nat) (z : Int) : Nat → Int := uI (uI (uI (uI row tl (byF z 24)) (tl + 1) (byF z 16)) (tl + 2) (byF z 8)) (tl + 3) (byF z 0)
def abW (w : AW) (tl : Nat) (z : Int) : AW := sR (sR w 21 (tpF (w.2.1 21) tl z)) 20 (uI (w.2.1 20) 1 ((tl : Int) + 4))
set_option maxRecDepth 100000 in
set_option maxHeartbeats 4000000 in
theorem c_X5_hasRoomOnTape (l : Launch) (w : AW) (tl : Nat) (hX : XS w) (ht : w.2.1 20 1 = (tl : Int)) (h3 : tl ≤ 300) : HT l yX5_hasRoomOnTape cX5_hasRoomOnTape 1 (some .boolean) 1 0 0 w [ar 20] (rI (if tl + 20 ≤ 300 then 1 else 0) w) := by
  refine HT.of (by decide) (by intro v hv; simp only [List.mem_cons, List.not_mem_nil, or_false] at hv; rcases hv with rfl <;> rfl) (Nat.le_of_ble_eq_true rfl) ?_
  intro Γ h hQ hRm hnm hl hw0
  have s20 : w.1 20 = (105, 0) := hX.1 20 (by decide)
  have s21 : w.1 21 = (1, 300) := hX.1 21 (by decide)
  have p20_0 : w.2.2 20 0 = some 21 := hX.2 (20, 0, 21) (by decide)
  refine g_aload_n h dX5_hasRoomOnTape_0 rfl ?_
  refine g_getI h flX5_36 rfl (by assumption) dX5_hasRoomOnTape_1 ?_
  rw [ht]
  refine g_bipush h dX5_hasRoomOnTape_4 rfl ?_
  refine g_iadd h dX5_hasRoomOnTape_6 ?_
  refine g_aload_n h dX5_hasRoomOnTape_7 rfl ?_
  refine g_getQ h flX5_9 rfl (by assumption) (by assumption) dX5_hasRoomOnTape_8 ?_
  refine g_alen h (by assumption) (by unfold arK; omega) dX5_hasRoomOnTape_11 ?_
  refine g_icmp_gt (tgt := 19) h dX5_hasRoomOnTape_12 (by decide) (by first | assumption | exact ⟨by omega, by omega⟩) (by first | assumption | exact ⟨by omega, by omega⟩) (fun c12 => ?_) (fun c12 => ?_)
  · refine g_iconst h dX5_hasRoomOnTape_19 ?_
    refine g_zret h hQ (by first | decide | omega | (simp only [clS]; omega)) (by first | decide | omega | (simp only [clS]; omega)) (by omega) ?_ dX5_hasRoomOnTape_20
    first
    | (exfalso; omega)
    | (refine ⟨?_, ?_⟩ <;> (repeat first | rw [if_pos (by omega)] | rw [if_neg (by omega)]) <;> rfl)
  · refine g_iconst h dX5_hasRoomOnTape_15 ?_
    refine g_goto (tgt := 20) h dX5_hasRoomOnTape_16 (by decide) ?_
    refine g_zret h hQ (by first | decide | omega | (simp only [clS]; omega)) (by first | decide | omega | (simp only [clS]; omega)) (by omega) ?_ dX5_hasRoomOnTape_20
    first
    | (exfalso; omega)
    | (refine ⟨?_, ?_⟩ <;> (repeat first | rw [if_pos (by omega)] | rw [if_neg (by omega)]) <;> rfl)
theorem abW_eq (w : AW) (tl : Nat) (z : Int) : upI (upI (upI (upI (upI (upI (upI (upI w 21 tl (byF z 24)) 20 1 ((tl : Int) + 1)) 21 (tl + 1) (byF z 16)) 20 1 (((tl + 1 : Nat) : Int) + 1)) 21 (tl + 2) (byF z 8)) 20 1 (((tl + 2 : Nat) : Int) + 1)) 21 (tl + 3) (byF z 0)) 20 1 (((tl + 3 : Nat) : Int) + 1) = abW w tl z := by
  refine aw_ext rfl (fun j => ?_) rfl
  by_cases h1 : j = 20
  · subst h1
    funext f
    by_cases hf : f = 1
    · subst hf
      simp [upI, abW, sR, uI]
      omega
    · simp [upI, abW, sR, uI, hf]
  · by_cases h2 : j = 21
    · subst h2
      funext f
      simp [upI, abW, sR, uI, tpF]
    · simp [upI, abW, sR, h1, h2]
set_option maxRecDepth 100000 in
set_option maxHeartbeats 4000000 in
theorem c_X5_addBytes (l : Launch) (w : AW) (tl : Nat) (z : Int) (hX : XS w) (ht : w.2.1 20 1 = (tl : Int)) (h3 : tl + 4 ≤ 300) : HT l yX5_addBytes cX5_addBytes 3 none 1 0 0 w [ar 20, ai z] (rV (abW w tl z)) := by
  refine HT.of (by decide) (by intro v hv; simp only [List.mem_cons, List.not_mem_nil, or_false] at hv; rcases hv with rfl | rfl <;> rfl) (Nat.le_of_ble_eq_true rfl) ?_
  intro Γ h hQ hRm hnm hl hw0
  have s20 : w.1 20 = (105, 0) := hX.1 20 (by decide)
  have s21 : w.1 21 = (1, 300) := hX.1 21 (by decide)
  have p20_0 : w.2.2 20 0 = some 21 := hX.2 (20, 0, 21) (by decide)
  have step : ∀ (s i : Nat) (u : AW) (G : AW → Prop), (s = 24 ∨ s = 16 ∨ s = 8 ∨ s = 0) → i < 300 → u.1 = w.1 → u.2.2 = w.2.2 → u.2.1 20 1 = (i : Int) → GG Γ 3 [some (ar 20), some (ai z), some (ai ((s : Int) + -8))] [] (upI (upI u 21 i (byF z s)) 20 1 ((i : Int) + 1)) 0 0 → GG Γ 3 [some (ar 20), some (ai z), some (ai (s : Int))] [] u 0 0 := by
    intro s i u G hs hi h1 h2 ht2 kk
    have u20 : u.1 20 = (105, 0) := by rw [h1]; exact s20
    have u21 : u.1 21 = (1, 300) := by rw [h1]; exact s21
    have v20 : (upI u 21 i (byF z s)).1 20 = (105, 0) := u20
    have v1 : (upI u 21 i (byF z s)).2.1 20 1 = (i : Int) := ht2
    have q0 : u.2.2 20 0 = some 21 := by rw [h2]; exact p20_0
    have hm : 0 ≤ z % 4294967296 / 2 ^ s ∧ z % 4294967296 / 2 ^ s < 4294967296 := by rcases hs with rfl | rfl | rfl | rfl <;> omega
    refine g_iload_n h dX5_addBytes_3 rfl ?_
    refine g_if_lt (tgt := 58) h dX5_addBytes_4 (by decide) (by first | assumption | exact ⟨by omega, by omega⟩) (fun c4 => ?_) (fun c4 => ?_)
    · exfalso; omega
    · refine g_aload_n h dX5_addBytes_7 rfl ?_
      refine g_getI h flX5_36 rfl (by assumption) dX5_addBytes_8 ?_
      rw [ht2]
      refine g_if_lt (tgt := 52) h dX5_addBytes_11 (by decide) (by first | assumption | exact ⟨by omega, by omega⟩) (fun c11 => ?_) (fun c11 => ?_)
      · refine g_iinc h dX5_addBytes_52 rfl (Nat.le_of_ble_eq_true rfl) rfl rfl ?_
        refine g_goto (tgt := 3) h dX5_addBytes_55 (by decide) ?_
        first | (exfalso; omega) | exact kk
      · refine g_aload_n h dX5_addBytes_14 rfl ?_
        refine g_getI h flX5_36 rfl (by assumption) dX5_addBytes_15 ?_
        rw [ht2]
        refine g_aload_n h dX5_addBytes_18 rfl ?_
        refine g_getQ h flX5_9 rfl (by assumption) (by assumption) dX5_addBytes_19 ?_
        refine g_alen h (by assumption) (by unfold arK; omega) dX5_addBytes_22 ?_
        refine g_icmp_ge (tgt := 52) h dX5_addBytes_23 (by decide) (by first | assumption | exact ⟨by omega, by omega⟩) (by first | assumption | exact ⟨by omega, by omega⟩) (fun c23 => ?_) (fun c23 => ?_)
        · refine g_iinc h dX5_addBytes_52 rfl (Nat.le_of_ble_eq_true rfl) rfl rfl ?_
          refine g_goto (tgt := 3) h dX5_addBytes_55 (by decide) ?_
          first | (exfalso; omega) | exact kk
        · refine g_aload_n h dX5_addBytes_26 rfl ?_
          refine g_getQ h flX5_9 rfl (by assumption) (by assumption) dX5_addBytes_27 ?_
          refine g_aload_n h dX5_addBytes_30 rfl ?_
          refine g_getI h flX5_36 rfl (by assumption) dX5_addBytes_31 ?_
          rw [ht2]
          refine g_iload_n h dX5_addBytes_34 rfl ?_
          refine g_iload_n h dX5_addBytes_35 rfl ?_
          refine g_iushr h (v := z % 4294967296 / 2 ^ s) (by_shr hs) dX5_addBytes_36 ?_
          refine g_sipush h dX5_addBytes_37 rfl ?_
          refine g_iand h (v := byF z s) (by rw [by_and hm.1 hm.2, byF_eq z hs]) dX5_addBytes_40 ?_
          refine g_iast h (i) (by assumption) (by first | omega | assumption) (by first | omega | assumption) (by first | decide | omega) dX5_addBytes_41 ?_
          refine g_aload_n h dX5_addBytes_42 rfl ?_
          refine g_dup h dX5_addBytes_43 rfl ?_
          refine g_getI h flX5_36 rfl (by assumption) dX5_addBytes_44 ?_
          rw [v1]
          refine g_iconst h dX5_addBytes_47 ?_
          refine g_iadd h dX5_addBytes_48 ?_
          refine g_putI h flX5_36 rfl rfl (by assumption) dX5_addBytes_49 ?_
          refine g_iinc h dX5_addBytes_52 rfl (Nat.le_of_ble_eq_true rfl) rfl rfl ?_
          refine g_goto (tgt := 3) h dX5_addBytes_55 (by decide) ?_
          first | (exfalso; omega) | exact kk
  have fin : ∀ u : AW, u = abW w tl z → GG Γ 3 [some (ar 20), some (ai z), some (ai (-8))] [] u 0 0 := by
    intro u hu
    refine g_iload_n h dX5_addBytes_3 rfl ?_
    refine g_if_lt (tgt := 58) h dX5_addBytes_4 (by decide) (by first | assumption | exact ⟨by omega, by omega⟩) (fun c4 => ?_) (fun c4 => ?_)
    · refine g_vret h hQ (by first | decide | omega | (simp only [clS]; omega)) (by first | decide | omega | (simp only [clS]; omega)) ?_ dX5_addBytes_58
      exact ⟨rfl, hu⟩
    · exfalso; omega
  refine g_bipush h dX5_addBytes_0 rfl ?_
  refine g_istore_n h dX5_addBytes_2 (Nat.le_of_ble_eq_true rfl) rfl rfl ?_
  refine step 24 tl w (fun _ => True) (Or.inl rfl) (by omega) rfl rfl ht ?_
  refine step 16 (tl + 1) _ (fun _ => True) (by omega) (by omega) rfl rfl ((upI_self _ _ _ _).trans (by omega)) ?_
  refine step 8 (tl + 2) _ (fun _ => True) (by omega) (by omega) rfl rfl ((upI_self _ _ _ _).trans (by omega)) ?_
  refine step 0 (tl + 3) _ (fun _ => True) (by omega) (by omega) rfl rfl ((upI_self _ _ _ _).trans (by omega)) ?_
  refine fin _ ?_
  exact abW_eq w tl z
set_option maxRecDepth 100000 in
set_option maxHeartbeats 4000000 in
theorem c_X5_addRule (l : Launch) (w : AW) (nr q0 nn : Nat) (hX : XS w) (hn : w.2.1 20 3 = (nr : Int)) (h3 : nr ≤ 16) (hq : w.1 q0 = (104, nn)) : HT l yX5_addRule cX5_addRule 2 (some .boolean) 1 0 0 w [ar 20, ar q0] (fun r w' => r = some (ai (if nr < 16 then 1 else 0)) ∧ w' = (if nr < 16 then upI (upP w 22 nr (some q0)) 20 3 ((nr : Int) + 1) else w)) := by
  refine HT.of (by decide) (by intro v hv; simp only [List.mem_cons, List.not_mem_nil, or_false] at hv; rcases hv with rfl | rfl <;> rfl) (Nat.le_of_ble_eq_true rfl) ?_
  intro Γ h hQ hRm hnm hl hw0
  have s20 : w.1 20 = (105, 0) := hX.1 20 (by decide)
  have s22 : w.1 22 = (204, 16) := hX.1 22 (by decide)
  have p20_2 : w.2.2 20 2 = some 22 := hX.2 (20, 2, 22) (by decide)
  have t20 : (upP w 22 nr (some q0)).1 20 = (105, 0) := s20
  have e3 : (upP w 22 nr (some q0)).2.1 20 3 = (nr : Int) := hn
  refine g_aload_n h dX5_addRule_0 rfl ?_
  refine g_getI h flX5_54 rfl (by assumption) dX5_addRule_1 ?_
  rw [hn]
  refine g_if_lt (tgt := 19) h dX5_addRule_4 (by decide) (by first | assumption | exact ⟨by omega, by omega⟩) (fun c4 => ?_) (fun c4 => ?_)
  · refine g_iconst h dX5_addRule_19 ?_
    refine g_zret h hQ (by first | decide | omega | (simp only [clS]; omega)) (by first | decide | omega | (simp only [clS]; omega)) (by omega) ?_ dX5_addRule_20
    first
    | (exfalso; omega)
    | (refine ⟨?_, ?_⟩ <;> (repeat first | rw [if_pos (by omega)] | rw [if_neg (by omega)]) <;> rfl)
  · refine g_aload_n h dX5_addRule_7 rfl ?_
    refine g_getI h flX5_54 rfl (by assumption) dX5_addRule_8 ?_
    rw [hn]
    refine g_aload_n h dX5_addRule_11 rfl ?_
    refine g_getQ h flX5_17 rfl (by assumption) (by assumption) dX5_addRule_12 ?_
    refine g_alen h (by assumption) (by unfold arK; omega) dX5_addRule_15 ?_
    refine g_icmp_lt (tgt := 21) h dX5_addRule_16 (by decide) (by first | assumption | exact ⟨by omega, by omega⟩) (by first | assumption | exact ⟨by omega, by omega⟩) (fun c16 => ?_) (fun c16 => ?_)
    · refine g_aload_n h dX5_addRule_21 rfl ?_
      refine g_getQ h flX5_17 rfl (by assumption) (by assumption) dX5_addRule_22 ?_
      refine g_aload_n h dX5_addRule_25 rfl ?_
      refine g_getI h flX5_54 rfl (by assumption) dX5_addRule_26 ?_
      rw [hn]
      refine g_aload_n h dX5_addRule_29 rfl ?_
      refine g_aast h (ci := 4) (nr) (by assumption) (by unfold arK; omega) (by decide) (by assumption) (by first | omega | assumption) (by first | omega | assumption) (by first | decide | omega) dX5_addRule_30 ?_
      refine g_aload_n h dX5_addRule_31 rfl ?_
      refine g_dup h dX5_addRule_32 rfl ?_
      refine g_getI h flX5_54 rfl (by assumption) dX5_addRule_33 ?_
      rw [e3]
      refine g_iconst h dX5_addRule_36 ?_
      refine g_iadd h dX5_addRule_37 ?_
      refine g_putI h flX5_54 rfl rfl (by assumption) dX5_addRule_38 ?_
      refine g_iconst h dX5_addRule_41 ?_
      refine g_zret h hQ (by first | decide | omega | (simp only [clS]; omega)) (by first | decide | omega | (simp only [clS]; omega)) (by omega) ?_ dX5_addRule_42
      first
      | (exfalso; omega)
      | (refine ⟨?_, ?_⟩ <;> (repeat first | rw [if_pos (by omega)] | rw [if_neg (by omega)]) <;> rfl)
    · refine g_iconst h dX5_addRule_19 ?_
      refine g_zret h hQ (by first | decide | omega | (simp only [clS]; omega)) (by first | decide | omega | (simp only [clS]; omega)) (by omega) ?_ dX5_addRule_20
      first
      | (exfalso; omega)
      | (refine ⟨?_, ?_⟩ <;> (repeat first | rw [if_pos (by omega)] | rw [if_neg (by omega)]) <;> rfl)
/-- rule r is gone -/
def rmP (row : Nat → Option Nat) (r n : Nat) : Nat → Option Nat := fun j => if r ≤ j ∧ j < n then row (j + 1) else row j
def sP (w : AW) (k : Nat) (g : Nat → Option Nat) : AW := (w.1, w.2.1, fun j => if j = k then g else w.2.2 j)
theorem sP_at (w : AW) (k : Nat) (g : Nat → Option Nat) : (sP w k g).2.2 k = g := if_pos rfl
theorem sP_ne (w : AW) {k j : Nat} (g : Nat → Option Nat) (h : j ≠ k) : (sP w k g).2.2 j = w.2.2 j := if_neg h
theorem sP_self (w : AW) (k : Nat) : sP w k (w.2.2 k) = w := by
  refine Prod.ext rfl (Prod.ext rfl (funext fun j => ?_))
  show (if j = k then _ else _) = _
  split
  · rename_i h; rw [h]
  · rfl
def updP (row : Nat → Option Nat) (f : Nat) (r : Option Nat) : Nat → Option Nat := fun j => if j = f then r else row j
theorem upP_sP (w : AW) (k f : Nat) (g : Nat → Option Nat) (r : Option Nat) : upP (sP w k g) k f r = sP w k (updP g f r) := by
  refine Prod.ext rfl (Prod.ext rfl (funext fun j => ?_))
  by_cases h : j = k
  · subst h
    rw [upP_at, sP_at, sP_at]
    rfl
  · rw [sP_ne _ _ h]
    exact (if_neg h).trans (if_neg h)
theorem rmP_s (row : Nat → Option Nat) {r i : Nat} (h : r ≤ i) : updP (rmP row r i) i (row (i + 1)) = rmP row r (i + 1) := by
  funext j
  unfold updP rmP
  by_cases e : j = i
  · subst e
    rw [if_pos rfl, if_pos (by omega)]
  · rw [if_neg e]
    by_cases q : r ≤ j ∧ j < i
    · rw [if_pos q, if_pos (by omega)]
    · rw [if_neg q, if_neg (by omega)]
def rmW (w : AW) (nr r : Nat) : AW := upP (upI (sP w 22 (rmP (w.2.2 22) r (nr - 1))) 20 3 ((nr : Int) - 1)) 22 (nr - 1) none
set_option maxRecDepth 100000 in
set_option maxHeartbeats 4000000 in
theorem c_X5_removeRule (l : Launch) (w : AW) (nr : Nat) (rp rc : Nat → Nat) (cl : Nat → List Int) (a : Int) (hX : XS w) (hB : RBK w nr rp rc cl) (ha : R32 a) : HT l yX5_removeRule cX5_removeRule 3 (some .boolean) 1 0 0 w [ar 20, ai a] (fun r w' => r = some (ai (if 0 ≤ a ∧ a < (nr : Int) then 1 else 0)) ∧ w' = (if 0 ≤ a ∧ a < (nr : Int) then rmW w nr a.toNat else w)) := by
  refine HT.of (by decide) (by intro v hv; simp only [List.mem_cons, List.not_mem_nil, or_false] at hv; rcases hv with rfl | rfl <;> rfl) (Nat.le_of_ble_eq_true rfl) ?_
  intro Γ h hQ hRm hnm hl hw0
  have s20 : w.1 20 = (105, 0) := hX.1 20 (by decide)
  have s22 : w.1 22 = (204, 16) := hX.1 22 (by decide)
  have p20_2 : w.2.2 20 2 = some 22 := hX.2 (20, 2, 22) (by decide)
  obtain ⟨b1, b2, b3⟩ := id hB
  by_cases hin : 0 ≤ a ∧ a < (nr : Int)
  · obtain ⟨r, rfl⟩ : ∃ m : Nat, a = (m : Int) := ⟨a.toNat, by omega⟩
    have loop : ∀ (d i : Nat), i + d + 1 = nr → r ≤ i → GG Γ 28 [some (ar 20), some (ai (r : Int)), some (ai (i : Int))] [] (sP w 22 (rmP (w.2.2 22) r i)) 0 0 := by
      intro d
      induction d with
      | zero =>
        intro i hi hr
        have t20 : (sP w 22 (rmP (w.2.2 22) r i)).1 20 = (105, 0) := s20
        have t22 : (sP w 22 (rmP (w.2.2 22) r i)).1 22 = (204, 16) := s22
        have t3 : (sP w 22 (rmP (w.2.2 22) r i)).2.1 20 3 = (nr : Int) := b1
        have tp : (sP w 22 (rmP (w.2.2 22) r i)).2.2 20 2 = some 22 := p20_2
        have u20 : (upI (sP w 22 (rmP (w.2.2 22) r i)) 20 3 ((nr : Int) - 1)).1 20 = (105, 0) := s20
        have u22 : (upI (sP w 22 (rmP (w.2.2 22) r i)) 20 3 ((nr : Int) - 1)).1 22 = (204, 16) := s22
        have up : (upI (sP w 22 (rmP (w.2.2 22) r i)) 20 3 ((nr : Int) - 1)).2.2 20 2 = some 22 := p20_2
        have u3 : (upI (sP w 22 (rmP (w.2.2 22) r i)) 20 3 ((nr : Int) - 1)).2.1 20 3 = (nr : Int) - 1 := upI_self _ _ _ _
        obtain rfl : i = nr - 1 := by omega
        refine g_iload_n h dX5_removeRule_28 rfl ?_
        refine g_iconst h dX5_removeRule_29 ?_
        refine g_iadd h dX5_removeRule_30 ?_
        refine g_aload_n h dX5_removeRule_31 rfl ?_
        refine g_getI h flX5_54 rfl (by assumption) dX5_removeRule_32 ?_
        rw [t3]
        refine g_icmp_ge (tgt := 58) h dX5_removeRule_35 (by decide) (by first | assumption | exact ⟨by omega, by omega⟩) (by first | assumption | exact ⟨by omega, by omega⟩) (fun c35 => ?_) (fun c35 => ?_)
        · refine g_aload_n h dX5_removeRule_58 rfl ?_
          refine g_dup h dX5_removeRule_59 rfl ?_
          refine g_getI h flX5_54 rfl (by assumption) dX5_removeRule_60 ?_
          rw [t3]
          refine g_iconst h dX5_removeRule_63 ?_
          refine g_isub h dX5_removeRule_64 ?_
          refine g_putI h flX5_54 rfl rfl (by assumption) dX5_removeRule_65 ?_
          refine g_aload_n h dX5_removeRule_68 rfl ?_
          refine g_getQ h flX5_17 rfl (by assumption) (by assumption) dX5_removeRule_69 ?_
          refine g_aload_n h dX5_removeRule_72 rfl ?_
          refine g_getI h flX5_54 rfl (by assumption) dX5_removeRule_73 ?_
          rw [u3]
          refine g_null h dX5_removeRule_76 ?_
          refine g_aastN h (nr - 1) (by assumption) (by unfold arK; omega) (by decide) (by omega) (by omega) (by decide) dX5_removeRule_77 ?_
          refine g_iconst h dX5_removeRule_78 ?_
          refine g_zret h hQ (by first | decide | omega | (simp only [clS]; omega)) (by first | decide | omega | (simp only [clS]; omega)) (by omega) ?_ dX5_removeRule_79
          refine ⟨?_, ?_⟩
          · rw [if_pos hin]
          · rw [if_pos hin]
            rfl
        · exfalso; omega
      | succ d ih =>
        intro i hi hr
        have t20 : (sP w 22 (rmP (w.2.2 22) r i)).1 20 = (105, 0) := s20
        have t22 : (sP w 22 (rmP (w.2.2 22) r i)).1 22 = (204, 16) := s22
        have t3 : (sP w 22 (rmP (w.2.2 22) r i)).2.1 20 3 = (nr : Int) := b1
        have tp : (sP w 22 (rmP (w.2.2 22) r i)).2.2 20 2 = some 22 := p20_2
        have tn : (sP w 22 (rmP (w.2.2 22) r i)).2.2 22 (i + 1) = some (rp (i + 1)) := by
          rw [sP_at]
          unfold rmP
          rw [if_neg (by omega)]
          exact (b3 (i + 1) (by omega)).1
        have tk : (sP w 22 (rmP (w.2.2 22) r i)).1 (rp (i + 1)) = (104, 0) := (b3 (i + 1) (by omega)).2.1.1
        refine g_iload_n h dX5_removeRule_28 rfl ?_
        refine g_iconst h dX5_removeRule_29 ?_
        refine g_iadd h dX5_removeRule_30 ?_
        refine g_aload_n h dX5_removeRule_31 rfl ?_
        refine g_getI h flX5_54 rfl (by assumption) dX5_removeRule_32 ?_
        rw [t3]
        refine g_icmp_ge (tgt := 58) h dX5_removeRule_35 (by decide) (by first | assumption | exact ⟨by omega, by omega⟩) (by first | assumption | exact ⟨by omega, by omega⟩) (fun c35 => ?_) (fun c35 => ?_)
        · exfalso; omega
        · refine g_aload_n h dX5_removeRule_38 rfl ?_
          refine g_getQ h flX5_17 rfl (by assumption) (by assumption) dX5_removeRule_39 ?_
          refine g_iload_n h dX5_removeRule_42 rfl ?_
          refine g_aload_n h dX5_removeRule_43 rfl ?_
          refine g_getQ h flX5_17 rfl (by assumption) (by assumption) dX5_removeRule_44 ?_
          refine g_iload_n h dX5_removeRule_47 rfl ?_
          refine g_iconst h dX5_removeRule_48 ?_
          refine g_iadd h dX5_removeRule_49 ?_
          refine g_aald h (i + 1) (by assumption) (by unfold arK; omega) (by first | omega | assumption) (by first | omega | assumption) (by first | omega | assumption) (by first | decide | omega) (by assumption) dX5_removeRule_50 ?_
          refine g_aast h (ci := 4) (i) (by assumption) (by unfold arK; omega) (by decide) (by assumption) (by first | omega | assumption) (by first | omega | assumption) (by first | decide | omega) dX5_removeRule_51 ?_
          refine g_iinc h dX5_removeRule_52 rfl (Nat.le_of_ble_eq_true rfl) rfl rfl ?_
          refine g_goto (tgt := 28) h dX5_removeRule_55 (by decide) ?_
          rw [upP_sP, ← (b3 (i + 1) (by omega)).1, rmP_s _ hr]
          exact ih (i + 1) (by omega) (by omega)
    have e0 : sP w 22 (rmP (w.2.2 22) r r) = w := by
      have : rmP (w.2.2 22) r r = w.2.2 22 := funext fun j => if_neg (by omega)
      rw [this, sP_self]
    refine g_iload_n h dX5_removeRule_0 rfl ?_
    refine g_if_lt (tgt := 24) h dX5_removeRule_1 (by decide) (by first | assumption | exact ⟨by omega, by omega⟩) (fun c1 => ?_) (fun c1 => ?_)
    · exfalso; omega
    · refine g_iload_n h dX5_removeRule_4 rfl ?_
      refine g_aload_n h dX5_removeRule_5 rfl ?_
      refine g_getI h flX5_54 rfl (by assumption) dX5_removeRule_6 ?_
      rw [b1]
      refine g_icmp_ge (tgt := 24) h dX5_removeRule_9 (by decide) (by first | assumption | exact ⟨by omega, by omega⟩) (by first | assumption | exact ⟨by omega, by omega⟩) (fun c9 => ?_) (fun c9 => ?_)
      · exfalso; omega
      · refine g_aload_n h dX5_removeRule_12 rfl ?_
        refine g_getI h flX5_54 rfl (by assumption) dX5_removeRule_13 ?_
        refine g_aload_n h dX5_removeRule_16 rfl ?_
        refine g_getQ h flX5_17 rfl (by assumption) (by assumption) dX5_removeRule_17 ?_
        rw [b1]
        refine g_alen h (by assumption) (by unfold arK; omega) dX5_removeRule_20 ?_
        refine g_icmp_le (tgt := 26) h dX5_removeRule_21 (by decide) (by first | assumption | exact ⟨by omega, by omega⟩) (by first | assumption | exact ⟨by omega, by omega⟩) (fun c21 => ?_) (fun c21 => ?_)
        · refine g_iload_n h dX5_removeRule_26 rfl ?_
          refine g_istore_n h dX5_removeRule_27 (Nat.le_of_ble_eq_true rfl) rfl rfl ?_
          have hl2 := loop (nr - 1 - r) r (by omega) (Nat.le_refl _)
          rw [e0] at hl2
          exact hl2
        · exfalso; omega
  · refine g_iload_n h dX5_removeRule_0 rfl ?_
    refine g_if_lt (tgt := 24) h dX5_removeRule_1 (by decide) (by first | assumption | exact ⟨by omega, by omega⟩) (fun c1 => ?_) (fun c1 => ?_)
    · refine g_iconst h dX5_removeRule_24 ?_
      refine g_zret h hQ (by first | decide | omega | (simp only [clS]; omega)) (by first | decide | omega | (simp only [clS]; omega)) (by omega) ?_ dX5_removeRule_25
      first
      | (exfalso; omega)
      | (refine ⟨?_, ?_⟩ <;> (repeat first | rw [if_pos (by omega)] | rw [if_neg (by omega)]) <;> rfl)
    · refine g_iload_n h dX5_removeRule_4 rfl ?_
      refine g_aload_n h dX5_removeRule_5 rfl ?_
      refine g_getI h flX5_54 rfl (by assumption) dX5_removeRule_6 ?_
      rw [b1]
      refine g_icmp_ge (tgt := 24) h dX5_removeRule_9 (by decide) (by first | assumption | exact ⟨by omega, by omega⟩) (by first | assumption | exact ⟨by omega, by omega⟩) (fun c9 => ?_) (fun c9 => ?_)
      · refine g_iconst h dX5_removeRule_24 ?_
        refine g_zret h hQ (by first | decide | omega | (simp only [clS]; omega)) (by first | decide | omega | (simp only [clS]; omega)) (by omega) ?_ dX5_removeRule_25
        first
        | (exfalso; omega)
        | (refine ⟨?_, ?_⟩ <;> (repeat first | rw [if_pos (by omega)] | rw [if_neg (by omega)]) <;> rfl)
      · refine g_aload_n h dX5_removeRule_12 rfl ?_
        refine g_getI h flX5_54 rfl (by assumption) dX5_removeRule_13 ?_
        refine g_aload_n h dX5_removeRule_16 rfl ?_
        refine g_getQ h flX5_17 rfl (by assumption) (by assumption) dX5_removeRule_17 ?_
        rw [b1]
        refine g_alen h (by assumption) (by unfold arK; omega) dX5_removeRule_20 ?_
        refine g_icmp_le (tgt := 26) h dX5_removeRule_21 (by decide) (by first | assumption | exact ⟨by omega, by omega⟩) (by first | assumption | exact ⟨by omega, by omega⟩) (fun c21 => ?_) (fun c21 => ?_)
        · exfalso; omega
        · refine g_iconst h dX5_removeRule_24 ?_
          refine g_zret h hQ (by first | decide | omega | (simp only [clS]; omega)) (by first | decide | omega | (simp only [clS]; omega)) (by omega) ?_ dX5_removeRule_25
          first
          | (exfalso; omega)
          | (refine ⟨?_, ?_⟩ <;> (repeat first | rw [if_pos (by omega)] | rw [if_neg (by omega)]) <;> rfl)
set_option maxRecDepth 100000 in
set_option maxHeartbeats 4000000 in
theorem c_X5_tellName (l : Launch) (w : AW) (a : Nat) (v : Int) (hX : XS w) (ha : a < 9) : HT l yX5_tellName cX5_tellName 3 none 1 0 0 w [ar 20, ai (a : Int), ai v] (rV (upI w 26 a v)) := by
  refine HT.of (by decide) (by intro v hv; simp only [List.mem_cons, List.not_mem_nil, or_false] at hv; rcases hv with rfl | rfl | rfl <;> rfl) (Nat.le_of_ble_eq_true rfl) ?_
  intro Γ h hQ hRm hnm hl hw0
  have s20 : w.1 20 = (105, 0) := hX.1 20 (by decide)
  have s26 : w.1 26 = (1, 9) := hX.1 26 (by decide)
  have p20_7 : w.2.2 20 7 = some 26 := hX.2 (20, 7, 26) (by decide)
  refine g_iload_n h dX5_tellName_0 rfl ?_
  refine g_if_lt (tgt := 20) h dX5_tellName_1 (by decide) (by first | assumption | exact ⟨by omega, by omega⟩) (fun c1 => ?_) (fun c1 => ?_)
  · refine g_vret h hQ (by first | decide | omega | (simp only [clS]; omega)) (by first | decide | omega | (simp only [clS]; omega)) ?_ dX5_tellName_20
    (first | exact ⟨rfl, rfl⟩ | (exfalso; omega))
  · refine g_iload_n h dX5_tellName_4 rfl ?_
    refine g_aload_n h dX5_tellName_5 rfl ?_
    refine g_getQ h flX5_30 rfl (by assumption) (by assumption) dX5_tellName_6 ?_
    refine g_alen h (by assumption) (by unfold arK; omega) dX5_tellName_9 ?_
    refine g_icmp_ge (tgt := 20) h dX5_tellName_10 (by decide) (by first | assumption | exact ⟨by omega, by omega⟩) (by first | assumption | exact ⟨by omega, by omega⟩) (fun c10 => ?_) (fun c10 => ?_)
    · refine g_vret h hQ (by first | decide | omega | (simp only [clS]; omega)) (by first | decide | omega | (simp only [clS]; omega)) ?_ dX5_tellName_20
      (first | exact ⟨rfl, rfl⟩ | (exfalso; omega))
    · refine g_aload_n h dX5_tellName_13 rfl ?_
      refine g_getQ h flX5_30 rfl (by assumption) (by assumption) dX5_tellName_14 ?_
      refine g_iload_n h dX5_tellName_17 rfl ?_
      refine g_iload_n h dX5_tellName_18 rfl ?_
      refine g_iast h (a) (by assumption) (by first | omega | assumption) (by first | omega | assumption) (by first | decide | omega) dX5_tellName_19 ?_
      refine g_vret h hQ (by first | decide | omega | (simp only [clS]; omega)) (by first | decide | omega | (simp only [clS]; omega)) ?_ dX5_tellName_20
      (first | exact ⟨rfl, rfl⟩ | (exfalso; omega))
