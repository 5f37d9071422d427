/-! ===== the JDK's strings: constants of the system ===== -/
section GB10
variable {Γ : Cx} {cc : ByteArray} {own : String} {nL pc k n mc ms : Nat} {lo : List (Option AV)} {w : AW} {Po : Option AV → AW → Prop}
theorem g_cret (h : OKB Γ cc own nL) (hQ : OKR Γ (some .char) Po mc ms) (hk : k ≤ mc) (hn : n ≤ ms) {z : Int} (hz : narrow .char (.int (Int32.ofInt z)) = .int (Int32.ofInt z)) (hp : Po (some (ai z)) w) (hd : decode cc pc = .ok (.ireturn, 1)) : GG Γ pc lo [ai z] w k n := by
  intro ad ls H locs hR hl ho hs hL hX
  refine W.widen hk hn ?_
  rw [hQ.2.2]
  exact W.zret h.1 h.2.1 hQ.1 hz (end_q (r := some (ai z)) hR hX trivial hp) hL hd hQ.2.1
theorem g_bret (h : OKB Γ cc own nL) (hQ : OKR Γ (some .byte) Po mc ms) (hk : k ≤ mc) (hn : n ≤ ms) {z : Int} (hz : narrow .byte (.int (Int32.ofInt z)) = .int (Int32.ofInt z)) (hp : Po (some (ai z)) w) (hd : decode cc pc = .ok (.ireturn, 1)) : GG Γ pc lo [ai z] w k n := by
  intro ad ls H locs hR hl ho hs hL hX
  refine W.widen hk hn ?_
  rw [hQ.2.2]
  exact W.zret h.1 h.2.1 hQ.1 hz (end_q (r := some (ai z)) hR hX trivial hp) hL hd hQ.2.1
end GB10
/-- the text of constant i: its length, its letters -/
def slen (i : Nat) : Nat := (strTb.getD i ("", 0, "", [])).2.2.2.length
def sch (i k : Nat) : Int := ((strTb.getD i ("", 0, "", [])).2.2.2.getD k 0).toInt
theorem sch_ok : ∀ i, i < 34 → slen i < 9 ∧ ∀ k, k < slen i → 97 ≤ sch i k ∧ sch i k ≤ 122 := by decide +kernel
theorem str_at {i : Nat} (hi : i < 34) : strTb[i]? = some (strTb.getD i ("", 0, "", [])) := by
  rw [List.getD_eq_getElem?_getD]
  have : i < strTb.length := hi
  rw [List.getElem?_eq_getElem this]
  rfl
theorem chand {z : Int} (h1 : 97 ≤ z) (h2 : z ≤ 122) : Int32.ofInt z &&& Int32.ofInt 255 = Int32.ofInt z ∧ ((Int32.ofInt z).toUInt32 % 65536).toInt32 = Int32.ofInt z ∧ narrow .char (.int (Int32.ofInt z)) = .int (Int32.ofInt z) := by
  have hz : ∃ m : Nat, m < 26 ∧ z = ((97 + m : Nat) : Int) := ⟨(z - 97).toNat, by omega, by omega⟩
  obtain ⟨m, hm, rfl⟩ := hz
  have : ∀ m, m < 26 → (Int32.ofInt ((97 + m : Nat) : Int) &&& Int32.ofInt 255 = Int32.ofInt ((97 + m : Nat) : Int) ∧ ((Int32.ofInt ((97 + m : Nat) : Int)).toUInt32 % 65536).toInt32 = Int32.ofInt ((97 + m : Nat) : Int) ∧ narrow .char (.int (Int32.ofInt ((97 + m : Nat) : Int))) = .int (Int32.ofInt ((97 + m : Nat) : Int))) := by decide +kernel
  exact this m hm
theorem shr0 {z : Int} : Int32.ofInt z >>> (Int32.ofInt 0 &&& 31) = Int32.ofInt z := by
  show Int32.ofInt z >>> ((0 : Int32) &&& 31) = Int32.ofInt z
  simp
set_option maxRecDepth 100000 in
set_option maxHeartbeats 4000000 in
theorem c_J0_coder_7d493 (l : Launch) (w : AW) (i : Nat) (hi : i < 34) : HT l yJ0_coder_7d493 cJ0_coder_7d493 1 (some .byte) 1 0 0 w [ar (21000 + i)] (rI 0 w) := by
  refine HT.ofF (by decide +kernel) (by intro v hv; simp only [List.mem_cons, List.not_mem_nil, or_false] at hv; rcases hv with rfl <;> rfl) (Nat.le_of_ble_eq_true rfl) ?_
  intro Γ h hQ hRm hnm hl hw0
  have hq := str_at hi
  obtain ⟨hs9, hsc⟩ := sch_ok i hi
  refine g_getcs h gsJ0_38 dJ0_coder_7d493_0 ?_
  refine g_if_eq (tgt := 13) h dJ0_coder_7d493_3 (by decide) ⟨by decide, by decide⟩ (fun c => absurd c (by decide)) (fun _ => ?_)
  refine g_aload_n h dJ0_coder_7d493_6 rfl ?_
  refine g_getSc h hq gsJ0_15 dJ0_coder_7d493_7 ?_
  refine g_goto (tgt := 14) h dJ0_coder_7d493_10 (by decide) ?_
  refine g_bret h hQ (by first | decide | omega | (simp only [clS]; omega)) (by first | decide | omega | (simp only [clS]; omega)) (by first | rfl | assumption) ?_ dJ0_coder_7d493_14
  (first | exact ⟨rfl, rfl⟩ | (exfalso; omega))
set_option maxRecDepth 100000 in
set_option maxHeartbeats 4000000 in
theorem c_J0_isLatin1_aae02 (l : Launch) (w : AW) (i : Nat) (hi : i < 34) : HT l yJ0_isLatin1_aae02 cJ0_isLatin1_aae02 1 (some .boolean) 1 0 0 w [ar (21000 + i)] (rI 1 w) := by
  refine HT.ofF (by decide +kernel) (by intro v hv; simp only [List.mem_cons, List.not_mem_nil, or_false] at hv; rcases hv with rfl <;> rfl) (Nat.le_of_ble_eq_true rfl) ?_
  intro Γ h hQ hRm hnm hl hw0
  have hq := str_at hi
  obtain ⟨hs9, hsc⟩ := sch_ok i hi
  refine g_getcs h gsJ0_38 dJ0_isLatin1_aae02_0 ?_
  refine g_if_eq (tgt := 17) h dJ0_isLatin1_aae02_3 (by decide) ⟨by decide, by decide⟩ (fun c => absurd c (by decide)) (fun _ => ?_)
  refine g_aload_n h dJ0_isLatin1_aae02_6 rfl ?_
  refine g_getSc h hq gsJ0_15 dJ0_isLatin1_aae02_7 ?_
  refine g_if_ne (tgt := 17) h dJ0_isLatin1_aae02_10 (by decide) ⟨by decide, by decide⟩ (fun c => absurd rfl c) (fun _ => ?_)
  refine g_iconst h dJ0_isLatin1_aae02_13 ?_
  refine g_goto (tgt := 18) h dJ0_isLatin1_aae02_14 (by decide) ?_
  refine g_zret h hQ (by first | decide | omega | (simp only [clS]; omega)) (by first | decide | omega | (simp only [clS]; omega)) (by omega) ?_ dJ0_isLatin1_aae02_18
  (first | exact ⟨rfl, rfl⟩ | (exfalso; omega))
set_option maxRecDepth 100000 in
set_option maxHeartbeats 4000000 in
theorem c_J0_length_8abf5 (l : Launch) (w : AW) (i : Nat) (hi : i < 34) : HT l yJ0_length_8abf5 cJ0_length_8abf5 1 (some .int) 2 0 0 w [ar (21000 + i)] (rI (slen i : Int) w) := by
  refine HT.ofF (by decide +kernel) (by intro v hv; simp only [List.mem_cons, List.not_mem_nil, or_false] at hv; rcases hv with rfl <;> rfl) (Nat.le_of_ble_eq_true rfl) ?_
  intro Γ h hQ hRm hnm hl hw0
  have hq := str_at hi
  obtain ⟨hs9, hsc⟩ := sch_ok i hi
  refine g_aload_n h dJ0_length_8abf5_0 rfl ?_
  refine g_getSv h hq gsJ0_9 dJ0_length_8abf5_1 ?_
  refine g_alenB h hq (N := slen i) rfl dJ0_length_8abf5_4 ?_
  refine g_aload_n h dJ0_length_8abf5_5 rfl ?_
  refine g_callVX h rfl (i := i) [] hq (c_J0_coder_7d493 _ _ i hi) clJ0_335 in_J0_coder_7d493 se_J0_coder_7d493 rfl rfl rfl (by rw [hRm]; first | decide | (simp only [clS]; omega)) (by rw [hRm]; first | decide | (simp only [clS]; omega)) (fun _ => Nat.le_of_ble_eq_true rfl) (by rw [hRm]; first | decide | (simp only [clS]; omega)) (by rw [hRm]; first | decide | (simp only [clS]; omega)) dJ0_length_8abf5_6 (fun r6 w6 hp6 => ?_)
  obtain ⟨rfl, hw6⟩ := hp6
  rw [hw6]
  refine g_ishr h (v := (slen i : Int)) (shr0) dJ0_length_8abf5_9 ?_
  refine g_iret h hQ (by first | decide | omega | (simp only [clS]; omega)) (by first | decide | omega | (simp only [clS]; omega)) ?_ dJ0_length_8abf5_10
  (first | exact ⟨rfl, rfl⟩ | (exfalso; omega))
/-- the JDK's check of an index, whatever comes as its third -/
def HT3 (l : Launch) (w : AW) (z m : Int) (lev : Nat) : Prop := ∀ (Z : ZT) (ad : Nat → Nat) (v : Value), v.category = 1 → Met l yJ3_checkIndex_8e157 (.code yJ3_checkIndex_8e157 cJ3_checkIndex_8e157 3 (some .int) :: gw_tbl) ({ frames := lev, cells := 0, slots := 0, locals := 64 * lev }) (fun a U => a = #[cv ad (ai z), cv ad (ai m), v] ∧ RP Z ad w U.heap ∧ KK Z U ∧ XF Z U) (QcA Z ad w (rI z w)) 0 0 (zA Z)
set_option maxRecDepth 100000 in
set_option maxHeartbeats 4000000 in
theorem c_J3_checkIndex (l : Launch) (w : AW) (z m : Int) (h0 : 0 ≤ z) (h1 : z < m) (hm : R32 m) : HT3 l w z m 1 := by
  intro Z ad v hv1
  refine va_MetF (cc := cJ3_checkIndex_8e157) (maxL := 3) (ret := some .int) (by decide +kernel) rfl ?_
  intro p e s m' args below meth c s₁ B hml hv
  obtain ⟨rfl, hR, hK, hXF⟩ := hv
  have hts := atoms_spec (ws := .code yJ3_checkIndex_8e157 cJ3_checkIndex_8e157 3 (some .int) :: gw_tbl) B.pre
  have hown : s.vm.findClass RJ3 = some m'.cls := findClass_of_methodNamed B.named
  have body : ∀ Γ : Cx, OKB Γ cJ3_checkIndex_8e157 RJ3 3 → OKR Γ (some .int) (rI z w) 0 0 → GG Γ 0 [some (ai z), some (ai m), none] [] w 0 0 := by
    intro Γ h hQ
    refine g_iload_n h dJ3_checkIndex_8e157_0 rfl ?_
    refine g_if_lt (tgt := 9) h dJ3_checkIndex_8e157_1 (by decide) (by first | assumption | exact ⟨by omega, by omega⟩) (fun c => absurd c (by omega)) (fun _ => ?_)
    refine g_iload_n h dJ3_checkIndex_8e157_4 rfl ?_
    refine g_iload_n h dJ3_checkIndex_8e157_5 rfl ?_
    refine g_icmp_lt (tgt := 16) h dJ3_checkIndex_8e157_6 (by decide) (by first | assumption | exact ⟨by omega, by omega⟩) hm (fun _ => ?_) (fun c => absurd c (by omega))
    refine g_iload_n h dJ3_checkIndex_8e157_16 rfl ?_
    refine g_iret h hQ (Nat.le_refl _) (Nat.le_refl _) ⟨rfl, rfl⟩ dJ3_checkIndex_8e157_17
  have hw := body ((p, l, e, ({ frames := 1, cells := 0, slots := 0, locals := 64 * 1 } : Room), s, m', #[cv ad (ai z), cv ad (ai m), v], below, meth, c), MQ below (QcA Z ad w (rI z w)) #[cv ad (ai z), cv ad (ai m), v] s 0 0 (zA Z), Z, ad, w)
    ⟨B.exec, B.bytes, hml, hown, fun x hx => hts x (List.mem_cons_of_mem _ hx), hK, hXF⟩ ⟨B.returns, B.notSynchronized, rfl⟩
  have hl := lv_entry [cv ad (ai z), cv ad (ai m), v] (n := 3) (by unfold lg_sl; cases v <;> first | (simp [Value.category] at hv1; done) | simp [cv, Value.category])
  rw [lg_entry_eq]
  refine hw ad _ s.heap [] hR ?_ (fun i u hu => by
    rcases i with _ | _ | _ | i
    · cases hu; trivial
    · cases hu; trivial
    · cases hu
    · cases hu) trivial (fun _ q => by cases q) (fun j hj => ⟨rfl, hj⟩)
  exact lp_le hl (fun q hq => by
    have e : lp ad [some (ai z), some (ai m), none] 0 = [(0, cv ad (ai z)), (1, cv ad (ai m))] := rfl
    rw [e] at hq
    show q ∈ lv_args 0 [cv ad (ai z), cv ad (ai m), v]
    simp [lv_args, cv, Value.category] at hq ⊢
    rcases hq with h | h
    · exact Or.inl h
    · exact Or.inr (Or.inl h))
set_option maxRecDepth 100000 in
set_option maxHeartbeats 4000000 in
theorem c_J0_checkIndex_df160 (l : Launch) (w : AW) (z m : Int) (h0 : 0 ≤ z) (h1 : z < m) (hm : R32 m) : HT l yJ0_checkIndex_df160 cJ0_checkIndex_df160 2 none 2 0 0 w [ai z, ai m] (rV w) := by
  refine HT.ofF (by decide +kernel) (by intro v hv; simp only [List.mem_cons, List.not_mem_nil, or_false] at hv; rcases hv with rfl | rfl <;> rfl) (Nat.le_of_ble_eq_true rfl) ?_
  intro Γ h hQ hRm hnm hl hw0
  refine g_iload_n h dJ0_checkIndex_df160_0 rfl ?_
  refine g_iload_n h dJ0_checkIndex_df160_1 rfl ?_
  have hk : GG Γ 8 [some (ai z), some (ai m)] [ai z] w 0 0 := by
    refine g_pop h dJ0_checkIndex_df160_8 rfl ?_
    exact g_vret h hQ (Nat.le_refl _) (Nat.le_refl _) ⟨rfl, rfl⟩ dJ0_checkIndex_df160_9
  intro ad ls H locs hR hl ho hs hL hX
  have key : ∀ v : Value, v.category = 1 → WW Γ H locs 0 0 (F0 (cxM Γ) 5 ls (v :: [ai m, ai z].map (cv ad))) := by
    intro v hv1
    refine g_after (lev2 := 1) (as := []) (st := []) (Pq := rI z w) (va_runS (As := [cv ad (ai z), cv ad (ai m), v]) (rest := []) ⟨h.1, h.2.1, h.2.2.1, h.2.2.2.1, h.2.2.2.2.1⟩ (c_J3_checkIndex Γ.1.2.1 w z m h0 h1 hm (cxZ Γ) ad v hv1) ⟨callB_of 3 h.2.2.2.2.1 (ws_good clJ0_1059.2.2.1) rfl rfl rfl (h.2.2.2.2.1 _ clJ0_1059.2.1) (h.2.2.2.2.1 _ clJ0_1059.1) clJ0_1059.2.2.2 ⟨by rw [hRm]; decide, by rw [hRm]; decide⟩, h.2.2.2.2.1 _ st_J3_checkIndex_8e157⟩
      ⟨fun a U g mk q => ⟨q.1, q.2.1, KK.moved (u := U) (U := U.calling g mk a) (Vm.Alike.refl U.vm) q.2.2.1, XF.warm (s := U) (U := U.calling g mk a) (State.WarmedH.refl U) q.2.2.2⟩, fun U hU hW => ⟨rfl, by rw [hU]; exact hR, KK.moved hW.alike h.2.2.2.2.2.1, XF.warm hW h.2.2.2.2.2.2⟩⟩ rfl rfl hl.1 rfl (lv_room (by decide)) dJ0_checkIndex_df160_5 ⟨by rw [hRm]; decide, by rw [hRm]; decide⟩) hR hl ho trivial hL hX ?_
    rintro r w' ⟨rfl, rfl⟩
    exact hk
  have hZq := h.2.2.2.2.2.2.2.2.2.1
  rcases hZq with hz | ⟨t, hz⟩
  · obtain ⟨cf, kf, fi, f, a, cell, h1, h2, h3, h4, h5, h6, h7, h8⟩ := hz
    exact W.gets h.1 h.2.1 h.2.2.2.1 (h.2.2.2.2.1 _ gsJ0_1053) h1 h2 h3 h4 (by rw [fo_eq hR h8]; exact h5) (fun e => by rw [e] at h6; cases h6) h7 rfl dJ0_checkIndex_df160_2 (key _ rfl)
  · obtain ⟨cf, kf, fi, f, a, cell, h1, h2, h3, h4, h5, h6, h7, h8⟩ := hz
    exact W.gets h.1 h.2.1 h.2.2.2.1 (h.2.2.2.2.1 _ gsJ0_1053) h1 h2 h3 h4 (by rw [fo_eq hR h8]; exact h5) (fun e => by rw [e] at h6; cases h6) h7 rfl dJ0_checkIndex_df160_2 (key _ rfl)
set_option maxRecDepth 100000 in
set_option maxHeartbeats 4000000 in
theorem c_J1_charAt_3b067 (l : Launch) (w : AW) (i k : Nat) (hi : i < 34) (hk : k < slen i) : HT l yJ1_charAt_3b067 cJ1_charAt_3b067 2 (some .char) 3 0 0 w [ar (22000 + i), ai (k : Int)] (rI (sch i k) w) := by
  refine HT.ofF (by decide +kernel) (by intro v hv; simp only [List.mem_cons, List.not_mem_nil, or_false] at hv; rcases hv with rfl | rfl <;> rfl) (Nat.le_of_ble_eq_true rfl) ?_
  intro Γ h hQ hRm hnm hl hw0
  have hq := str_at hi
  obtain ⟨hs9, hsc⟩ := sch_ok i hi
  obtain ⟨b1, b2⟩ := hsc k hk
  obtain ⟨e1, e2, e3⟩ := chand b1 b2
  refine g_iload_n h dJ1_charAt_3b067_0 rfl ?_
  refine g_aload_n h dJ1_charAt_3b067_1 rfl ?_
  refine g_alenB h hq (N := slen i) rfl dJ1_charAt_3b067_2 ?_
  refine g_callS h rfl [_, _] (c_J0_checkIndex_df160 _ _ _ _ (by omega) (by omega) ⟨by omega, by omega⟩) clJ1_9 st_J0_checkIndex_df160 rfl rfl (by rw [hRm]; first | decide | (simp only [clS]; omega)) (by rw [hRm]; first | decide | (simp only [clS]; omega)) (fun _ => Nat.le_of_ble_eq_true rfl) (by rw [hRm]; first | decide | (simp only [clS]; omega)) (by rw [hRm]; first | decide | (simp only [clS]; omega)) dJ1_charAt_3b067_3 (fun r3 w3 hp3 => ?_)
  obtain ⟨rfl, hw3⟩ := hp3
  rw [hw3]
  refine g_aload_n h dJ1_charAt_3b067_6 rfl ?_
  refine g_iload_n h dJ1_charAt_3b067_7 rfl ?_
  refine g_baldX h hq (v := sch i k) (by omega) (show (k : Int) < (slen i : Int) by omega) (show slen i < 2147483648 by omega) (show _ = Int32.ofInt (Int32.toInt _) by rw [Int32.ofInt_toInt]; rfl) dJ1_charAt_3b067_8 ?_
  refine g_sipush h dJ1_charAt_3b067_9 rfl ?_
  refine g_iand h (v := sch i k) (e1) dJ1_charAt_3b067_12 ?_
  refine g_i2c h (v := sch i k) (e2) dJ1_charAt_3b067_13 ?_
  refine g_cret h hQ (by first | decide | omega | (simp only [clS]; omega)) (by first | decide | omega | (simp only [clS]; omega)) (by first | rfl | assumption) ?_ dJ1_charAt_3b067_14
  (first | exact ⟨rfl, rfl⟩ | (exfalso; omega))
set_option maxRecDepth 100000 in
set_option maxHeartbeats 4000000 in
theorem c_J0_charAt_5068e (l : Launch) (w : AW) (i k : Nat) (hi : i < 34) (hk : k < slen i) : HT l yJ0_charAt_5068e cJ0_charAt_5068e 2 (some .char) 4 0 0 w [ar (21000 + i), ai (k : Int)] (rI (sch i k) w) := by
  refine HT.ofF (by decide +kernel) (by intro v hv; simp only [List.mem_cons, List.not_mem_nil, or_false] at hv; rcases hv with rfl | rfl <;> rfl) (Nat.le_of_ble_eq_true rfl) ?_
  intro Γ h hQ hRm hnm hl hw0
  have hq := str_at hi
  obtain ⟨hs9, hsc⟩ := sch_ok i hi
  obtain ⟨b1, b2⟩ := hsc k hk
  obtain ⟨e1, e2, e3⟩ := chand b1 b2
  refine g_aload_n h dJ0_charAt_5068e_0 rfl ?_
  refine g_callVX h rfl (i := i) [] hq (c_J0_isLatin1_aae02 _ _ i hi) clJ0_492 in_J0_isLatin1_aae02 se_J0_isLatin1_aae02 rfl rfl rfl (by rw [hRm]; first | decide | (simp only [clS]; omega)) (by rw [hRm]; first | decide | (simp only [clS]; omega)) (fun _ => Nat.le_of_ble_eq_true rfl) (by rw [hRm]; first | decide | (simp only [clS]; omega)) (by rw [hRm]; first | decide | (simp only [clS]; omega)) dJ0_charAt_5068e_1 (fun r1 w1 hp1 => ?_)
  obtain ⟨rfl, hw1⟩ := hp1
  rw [hw1]
  refine g_if_eq (tgt := 16) h dJ0_charAt_5068e_4 (by decide) ⟨by decide, by decide⟩ (fun c => absurd c (by decide)) (fun _ => ?_)
  refine g_aload_n h dJ0_charAt_5068e_7 rfl ?_
  refine g_getSv h hq gsJ0_9 dJ0_charAt_5068e_8 ?_
  refine g_iload_n h dJ0_charAt_5068e_11 rfl ?_
  refine g_callS h rfl [_, _] (c_J1_charAt_3b067 _ _ i k hi hk) clJ0_495 st_J1_charAt_3b067 rfl rfl (by rw [hRm]; first | decide | (simp only [clS]; omega)) (by rw [hRm]; first | decide | (simp only [clS]; omega)) (fun _ => Nat.le_of_ble_eq_true rfl) (by rw [hRm]; first | decide | (simp only [clS]; omega)) (by rw [hRm]; first | decide | (simp only [clS]; omega)) dJ0_charAt_5068e_12 (fun r12 w12 hp12 => ?_)
  obtain ⟨rfl, hw12⟩ := hp12
  rw [hw12]
  refine g_cret h hQ (by first | decide | omega | (simp only [clS]; omega)) (by first | decide | omega | (simp only [clS]; omega)) (by first | rfl | assumption) ?_ dJ0_charAt_5068e_15
  (first | exact ⟨rfl, rfl⟩ | (exfalso; omega))
