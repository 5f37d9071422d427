/-! ===== rows: statics, foreign arrays and strings, bits, longs, switches ===== -/
theorem fo_eq {Z : ZT} {ad : Nat → Nat} {w : AW} {H : Heap} (hR : RP Z ad w H) {t : Nat} (ht : ¬ zA Z t) : H[t]? = (zH Z)[t]? := hR.1.2 t (Nat.not_le.mp ht)
theorem fo_ad {Z : ZT} {ad : Nat → Nat} {w : AW} {H : Heap} (hR : RP Z ad w H) {j : Nat} (hj : 20000 ≤ j) : cv ad (ar j) = .ref (Z.2.2.2.1 j) := by
  show Value.ref (ad j) = _
  rw [(hR.2.1 j hj).1]
theorem fo_in {z : Int} {N : Nat} {cell : Cell} (h0 : 0 ≤ z) (hi : z < (N : Int)) (hb : N < 2147483648) (h4 : N ≤ cell.slots.size) : ¬ (Int32.ofInt z < 0 ∨ cell.slots.size ≤ (Int32.ofInt z).toNatClampNeg) ∧ (Int32.ofInt z).toNatClampNeg = z.toNat := by
  obtain ⟨i, rfl⟩ : ∃ i : Nat, z = (i : Int) := ⟨z.toNat, by omega⟩
  have e := ix_nat (i := i) (nn := N) (by omega) hb
  rw [e.1]
  refine ⟨?_, rfl⟩
  rintro (q | q)
  · exact e.2 q
  · omega
section GB9
variable {Γ : Cx} {cc : ByteArray} {own : String} {nL pc k n : Nat} {lo : List (Option AV)} {st : List AV} {w : AW}
theorem g_gets (h : OKB Γ cc own nL) {i idx : Nat} {q : String × List Int32} (hq : staTb[i]? = some q) (hlk : Cond.fieldLink own idx "LakeBreath" q.1 "[I" ∈ gw_tbl) (hd : decode cc pc = .ok (.getstatic idx, 3)) (kk : GG Γ (pc + 3) lo (ar (20001 + i) :: st) w k n) : GG Γ pc lo st w k n := by
  intro ad ls H locs hR hl ho hs hL hX
  have hk := kk ad ls H locs hR hl ho ⟨Or.inr (by omega), hs⟩ hL hX
  obtain ⟨cf, kf, fi, f, a, cell, h1, h2, h3, h4, h5, h6, h7, h8⟩ := (h.2.2.2.2.2.2.2.1 i q hq).1
  rw [List.map_cons, fo_ad hR (show 20000 ≤ 20001 + i by omega)] at hk
  exact W.gets h.1 h.2.1 h.2.2.2.1 (h.2.2.2.2.1 _ hlk) h1 h2 h3 h4 (by rw [fo_eq hR h8]; exact h5) (fun e => by rw [e] at h6; cases h6) h7 rfl hd hk
theorem g_getcs (h : OKB Γ cc own nL) {idx : Nat} (hlk : Cond.fieldLink own idx "java/lang/String" "COMPACT_STRINGS" "Z" ∈ gw_tbl) (hd : decode cc pc = .ok (.getstatic idx, 3)) (kk : GG Γ (pc + 3) lo (ai 1 :: st) w k n) : GG Γ pc lo st w k n := by
  intro ad ls H locs hR hl ho hs hL hX
  have hk := kk ad ls H locs hR hl ho ⟨trivial, hs⟩ hL hX
  obtain ⟨cf, kf, fi, f, a, cell, h1, h2, h3, h4, h5, h6, h7, h8⟩ := h.2.2.2.2.2.2.2.2.1
  exact W.gets h.1 h.2.1 h.2.2.2.1 (h.2.2.2.2.1 _ hlk) h1 h2 h3 h4 (by rw [fo_eq hR h8]; exact h5) (fun e => by rw [e] at h6; cases h6) h7 rfl hd hk
theorem g_ialdX (h : OKB Γ cc own nL) (i : Nat) {q : String × List Int32} (hq : staTb[i]? = some q) {z v : Int} (h0 : 0 ≤ z) (hi : z < (q.2.length : Int)) (hb : q.2.length < 2147483648) (hv : q.2.getD z.toNat 0 = Int32.ofInt v) (hd : decode cc pc = .ok (.iaload, 1)) (kk : GG Γ (pc + 1) lo (ai v :: st) w k n) : GG Γ pc lo (ai z :: ar (20001 + i) :: st) w k n := by
  intro ad ls H locs hR hl ho hs hL hX
  have hk := kk ad ls H locs hR hl ho ⟨trivial, hs.2.2⟩ hL hX
  obtain ⟨cell, h1, h2, h3, h4, h5, h6, h7⟩ := (h.2.2.2.2.2.2.2.1 i q hq).2
  obtain ⟨e1, e2⟩ := fo_in (cell := cell) h0 hi hb h4
  rw [List.map_cons, List.map_cons, fo_ad hR (show 20000 ≤ 20001 + i by omega)]
  refine W.iald (v := .int (Int32.ofInt v)) h.1 h.2.1 (by rw [fo_eq hR h7]; exact h1) h2 h3 e1 ?_ rfl rfl hd hk
  rw [e2, h6 _ (by omega)]
  show some (Value.int (q.2.getD z.toNat 0)) = _
  rw [hv]
theorem g_alenX (h : OKB Γ cc own nL) (i : Nat) {q : String × List Int32} (hq : staTb[i]? = some q) {N : Nat} (hN : q.2.length = N) (hd : decode cc pc = .ok (.arraylength, 1)) (kk : GG Γ (pc + 1) lo (ai (N : Int) :: st) w k n) : GG Γ pc lo (ar (20001 + i) :: st) w k n := by
  subst hN
  intro ad ls H locs hR hl ho hs hL hX
  have hk := kk ad ls H locs hR hl ho ⟨trivial, hs.2⟩ hL hX
  obtain ⟨cell, h1, h2, h3, h4, h5, h6, h7⟩ := (h.2.2.2.2.2.2.2.1 i q hq).2
  rw [List.map_cons, fo_ad hR (show 20000 ≤ 20001 + i by omega)]
  exact W.alen (n := Int32.ofNat q.2.length) h.1 h.2.1 (by rw [fo_eq hR h7]; exact h1) h2 h5 rfl rfl hd hk
/-- a string constant is pushed -/
theorem g_lds (h : OKB Γ cc own nL) {i idx : Nat} {q : String × Nat × String × List Int32} (hq : strTb[i]? = some q) (hown : q.1 = own) (hidx : q.2.1 = idx) (hd : decode cc pc = .ok (.ldc idx, 2)) (kk : GG Γ (pc + 2) lo (ar (21000 + i) :: st) w k n) : GG Γ pc lo st w k n := by
  subst hown
  subst hidx
  intro ad ls H locs hR hl ho hs hL hX
  have hk := kk ad ls H locs hR hl ho ⟨Or.inr (by omega), hs⟩ hL hX
  rw [List.map_cons, fo_ad hR (show 20000 ≤ 21000 + i by omega)] at hk
  exact va_ldcS h.1 h.2.1 h.2.2.2.1 (h.2.2.2.2.2.2.1 i q hq).1 hd hk
theorem g_getSv (h : OKB Γ cc own nL) {i idx : Nat} {q : String × Nat × String × List Int32} (hq : strTb[i]? = some q) (hlk : Cond.fieldLink own idx "java/lang/String" "value" "[B" ∈ gw_tbl) (hd : decode cc pc = .ok (.getfield idx, 3)) (kk : GG Γ (pc + 3) lo (ar (22000 + i) :: st) w k n) : GG Γ pc lo (ar (21000 + i) :: st) w k n := by
  intro ad ls H locs hR hl ho hs hL hX
  have hk := kk ad ls H locs hR hl ho ⟨Or.inr (by omega), hs.2⟩ hL hX
  rw [List.map_cons, fo_ad hR (show 20000 ≤ 22000 + i by omega)] at hk
  rw [List.map_cons, fo_ad hR (show 20000 ≤ 21000 + i by omega)]
  obtain ⟨cf, kc, fi, f, cell, h1, h2, h3, h4, h5, h6⟩ := (h.2.2.2.2.2.2.1 i q hq).2.2.2.1
  exact W.getf h.1 h.2.1 h.2.2.2.1 (h.2.2.2.2.1 _ hlk) h1 h2 (by rw [fo_eq hR h6]; exact h3) h4 h5 rfl rfl hd hk
theorem g_getSc (h : OKB Γ cc own nL) {i idx : Nat} {q : String × Nat × String × List Int32} (hq : strTb[i]? = some q) (hlk : Cond.fieldLink own idx "java/lang/String" "coder" "B" ∈ gw_tbl) (hd : decode cc pc = .ok (.getfield idx, 3)) (kk : GG Γ (pc + 3) lo (ai 0 :: st) w k n) : GG Γ pc lo (ar (21000 + i) :: st) w k n := by
  intro ad ls H locs hR hl ho hs hL hX
  have hk := kk ad ls H locs hR hl ho ⟨trivial, hs.2⟩ hL hX
  rw [List.map_cons, fo_ad hR (show 20000 ≤ 21000 + i by omega)]
  obtain ⟨cf, kc, fi, f, cell, h1, h2, h3, h4, h5, h6⟩ := (h.2.2.2.2.2.2.1 i q hq).2.2.1
  exact W.getf h.1 h.2.1 h.2.2.2.1 (h.2.2.2.2.1 _ hlk) h1 h2 (by rw [fo_eq hR h6]; exact h3) h4 h5 rfl rfl hd hk
theorem g_alenB (h : OKB Γ cc own nL) {i : Nat} {q : String × Nat × String × List Int32} (hq : strTb[i]? = some q) {N : Nat} (hN : q.2.2.2.length = N) (hd : decode cc pc = .ok (.arraylength, 1)) (kk : GG Γ (pc + 1) lo (ai (N : Int) :: st) w k n) : GG Γ pc lo (ar (22000 + i) :: st) w k n := by
  subst hN
  intro ad ls H locs hR hl ho hs hL hX
  have hk := kk ad ls H locs hR hl ho ⟨trivial, hs.2⟩ hL hX
  obtain ⟨cell, h1, h2, h3, h4, h5, h6, h7⟩ := (h.2.2.2.2.2.2.1 i q hq).2.2.2.2
  rw [List.map_cons, fo_ad hR (show 20000 ≤ 22000 + i by omega)]
  exact W.alen (n := Int32.ofNat q.2.2.2.length) h.1 h.2.1 (by rw [fo_eq hR h7]; exact h1) h2 h5 rfl rfl hd hk
theorem g_baldX (h : OKB Γ cc own nL) {i : Nat} {q : String × Nat × String × List Int32} (hq : strTb[i]? = some q) {z v : Int} (h0 : 0 ≤ z) (hi : z < (q.2.2.2.length : Int)) (hb : q.2.2.2.length < 2147483648) (hv : q.2.2.2.getD z.toNat 0 = Int32.ofInt v) (hd : decode cc pc = .ok (.baload, 1)) (kk : GG Γ (pc + 1) lo (ai v :: st) w k n) : GG Γ pc lo (ai z :: ar (22000 + i) :: st) w k n := by
  intro ad ls H locs hR hl ho hs hL hX
  have hk := kk ad ls H locs hR hl ho ⟨trivial, hs.2.2⟩ hL hX
  obtain ⟨cell, h1, h2, h3, h4, h5, h6, h7⟩ := (h.2.2.2.2.2.2.1 i q hq).2.2.2.2
  obtain ⟨e1, e2⟩ := fo_in (cell := cell) h0 hi hb h4
  rw [List.map_cons, List.map_cons, fo_ad hR (show 20000 ≤ 22000 + i by omega)]
  refine W.bald (v := .int (Int32.ofInt v)) h.1 h.2.1 (by rw [fo_eq hR h7]; exact h1) h2 h3 e1 ?_ rfl rfl hd hk
  rw [e2, h6 _ (by omega)]
  show some (Value.int (q.2.2.2.getD z.toNat 0)) = _
  rw [hv]
/-- a method of a string constant is called -/
theorem g_callVX (h : OKB Γ cc own nL) (hnl : lo.length = nL) {y : MethodName} {c2 : ByteArray} {maxL lev2 mc2 ms2 na idx i : Nat} {q : String × Nat × String × List Int32} {ret : Option FieldType} (as : List AV) {Pq : Option AV → AW → Prop} {st st0 : List AV} (hq : strTb[i]? = some q) (hM : HT Γ.1.2.1 y c2 maxL ret lev2 mc2 ms2 w (ar (21000 + i) :: as) Pq) (hC : CL own idx y c2 maxL ret na) (hin : Cond.instanceMethod y ∈ gw_tbl) (hse : Cond.selects "java/lang/String" y y ∈ gw_tbl) (hcls : y.cls = "java/lang/String") (hna : as.length = na) (e0 : st0 = as.reverse ++ ar (21000 + i) :: st)
    (hfr : lev2 + 1 ≤ (cxR Γ).frames) (hlc : 8 + (maxL + 11) + 64 * lev2 ≤ (cxR Γ).locals) (hcat : ∀ ad, ((st.map (cv ad)).map fun v => v.category).sum ≤ 8) (hk : k + mc2 ≤ (cxR Γ).cells) (hn : n + ms2 ≤ (cxR Γ).slots) (hd : decode cc pc = .ok (.invokevirtual idx, 3))
    (kk : ∀ r w', Pq r w' → GG Γ (pc + 3) lo (r.toList ++ st) w' (k + mc2) (n + ms2)) : GG Γ pc lo st0 w k n := by
  subst e0
  intro ad ls H locs hR hl ho hs hL hX
  rw [okvs_app] at hs
  obtain ⟨cell, q1, q2, q3, q4⟩ := (h.2.2.2.2.2.2.1 i q hq).2.1
  have hrcv : ∃ cell : Cell, H[ad (21000 + i)]? = some cell ∧ cell.vm.isStatics = false ∧ (cxS Γ).vm.findClass "java/lang/String" = some cell.cls := ⟨cell, by rw [(hR.2.1 _ (by omega)).1, fo_eq hR q4]; exact q1, q2, q3⟩
  refine g_after (lev2 := lev2) (as := as) (va_runV (C := "java/lang/String") (b := ad (21000 + i)) (As := as.map (cv ad)) (rest := st.map (cv ad)) ⟨h.1, h.2.1, h.2.2.1, h.2.2.2.1, h.2.2.2.2.1⟩ (hM (cxZ Γ) ad ⟨hs.2.1, okvs_rev _ hs.1⟩) ⟨callB_of na h.2.2.2.2.1 (ws_good hC.2.2.1) rfl rfl rfl (h.2.2.2.2.1 _ hC.2.1) (h.2.2.2.2.1 _ hC.1) hC.2.2.2 ⟨hfr, hlc⟩, h.2.2.2.2.1 _ hin, h.2.2.2.2.1 _ hse⟩
    ⟨PcA.blind, hrcv, fun U hU hW => ⟨rfl, by rw [hU]; exact hR, KK.moved hW.alike h.2.2.2.2.2.1, XF.warm hW h.2.2.2.2.2.2⟩⟩ rfl (by rw [List.length_map]; exact hna) (by rw [← hnl]; exact hl.1) (by show (as.reverse ++ ar (21000 + i) :: st).map (cv ad) = _; rw [rev_map]; rfl) (lv_room (hcat ad)) hd ⟨hk, hn⟩) hR hl ho hs.2.2 hL hX kk
theorem g_lookup (h : OKB Γ cc own nL) {z dflt off : Int} {ps : Array (Int × Int)} {len tgt : Nat} (hz : R32 z) (hp : (ps.toList.zip (ps.toList.drop 1)).all (fun (a, next) => a.1 < next.1) = true) (ho1 : Op.lookupswitch.offset ps.toList dflt z = off) (ht : (pc : Int) + off = (tgt : Int)) (hd : decode cc pc = .ok (.lookupswitch dflt ps, len)) (kk : GG Γ tgt lo st w k n) : GG Γ pc lo (ai z :: st) w k n :=
  fun ad ls H locs hR hl ho hs hL hX => lv_lookup (x := Int32.ofInt z) h.1 h.2.1 hd hp (by rw [hz.toInt]; exact ho1) ht (kk ad ls H locs hR hl ho hs.2 hL hX)
/-- an operation of two ints -/
theorem g_iand (h : OKB Γ cc own nL) {a b v : Int} (hv : Int32.ofInt a &&& Int32.ofInt b = Int32.ofInt v) (hd : decode cc pc = .ok (.iand, 1)) (kk : GG Γ (pc + 1) lo (ai v :: st) w k n) : GG Γ pc lo (ai b :: ai a :: st) w k n := by
  intro ad ls H locs hR hl ho hs hL hX
  refine lv_iand h.1 h.2.1 hd ?_
  rw [hv]
  exact kk ad ls H locs hR hl ho ⟨trivial, hs.2.2⟩ hL hX
theorem g_ior (h : OKB Γ cc own nL) {a b v : Int} (hv : Int32.ofInt a ||| Int32.ofInt b = Int32.ofInt v) (hd : decode cc pc = .ok (.ior, 1)) (kk : GG Γ (pc + 1) lo (ai v :: st) w k n) : GG Γ pc lo (ai b :: ai a :: st) w k n := by
  intro ad ls H locs hR hl ho hs hL hX
  refine lv_ior h.1 h.2.1 hd ?_
  rw [hv]
  exact kk ad ls H locs hR hl ho ⟨trivial, hs.2.2⟩ hL hX
theorem g_ishr (h : OKB Γ cc own nL) {a b v : Int} (hv : Int32.ofInt a >>> (Int32.ofInt b &&& 31) = Int32.ofInt v) (hd : decode cc pc = .ok (.ishr, 1)) (kk : GG Γ (pc + 1) lo (ai v :: st) w k n) : GG Γ pc lo (ai b :: ai a :: st) w k n := by
  intro ad ls H locs hR hl ho hs hL hX
  refine lv_ishr h.1 h.2.1 hd ?_
  rw [hv]
  exact kk ad ls H locs hR hl ho ⟨trivial, hs.2.2⟩ hL hX
theorem g_iushr (h : OKB Γ cc own nL) {a b v : Int} (hv : ((Int32.ofInt a).toUInt32 >>> ((Int32.ofInt b).toUInt32 &&& Int32.toUInt32 31)).toInt32 = Int32.ofInt v) (hd : decode cc pc = .ok (.iushr, 1)) (kk : GG Γ (pc + 1) lo (ai v :: st) w k n) : GG Γ pc lo (ai b :: ai a :: st) w k n := by
  intro ad ls H locs hR hl ho hs hL hX
  exact lv_iushr h.1 h.2.1 hd hv (kk ad ls H locs hR hl ho ⟨trivial, hs.2.2⟩ hL hX)
theorem g_i2b (h : OKB Γ cc own nL) {a v : Int} (hv : (Int32.ofInt a).toInt8.toInt32 = Int32.ofInt v) (hd : decode cc pc = .ok (.i2b, 1)) (kk : GG Γ (pc + 1) lo (ai v :: st) w k n) : GG Γ pc lo (ai a :: st) w k n := by
  intro ad ls H locs hR hl ho hs hL hX
  exact lv_i2b h.1 h.2.1 hd hv (kk ad ls H locs hR hl ho ⟨trivial, hs.2⟩ hL hX)
theorem g_i2c (h : OKB Γ cc own nL) {a v : Int} (hv : ((Int32.ofInt a).toUInt32 % 65536).toInt32 = Int32.ofInt v) (hd : decode cc pc = .ok (.i2c, 1)) (kk : GG Γ (pc + 1) lo (ai v :: st) w k n) : GG Γ pc lo (ai a :: st) w k n := by
  intro ad ls H locs hR hl ho hs hL hX
  exact lv_i2c h.1 h.2.1 hd hv (kk ad ls H locs hR hl ho ⟨trivial, hs.2⟩ hL hX)
/-! longs -/
abbrev R64 (z : Int) : Prop := -9223372036854775808 ≤ z ∧ z < 9223372036854775808
theorem R64.toInt {z : Int} (h : R64 z) : (Int64.ofInt z).toInt = z := by
  rw [Int64.toInt_ofInt, Int.bmod_def]
  obtain ⟨h1, h2⟩ := h
  simp only [Int64.size]
  split <;> omega
theorem g_lconst (h : OKB Γ cc own nL) {c0 : Fin 2} (hd : decode cc pc = .ok (.lconst c0, 1)) (kk : GG Γ (pc + 1) lo (aL ((c0 : Nat) : Int) :: st) w k n) : GG Γ pc lo st w k n :=
  fun ad ls H locs hR hl ho hs hL hX => lv_lconst h.1 h.2.1 hd rfl (kk ad ls H locs hR hl ho ⟨trivial, hs⟩ hL hX)
theorem g_ldc2 (h : OKB Γ cc own nL) {idx : Nat} {z : Int} (hw : Cond.constantLong own idx (Int64.ofInt z) ∈ gw_tbl) (hd : decode cc pc = .ok (.ldc2_w idx, 3)) (kk : GG Γ (pc + 3) lo (aL z :: st) w k n) : GG Γ pc lo st w k n :=
  fun ad ls H locs hR hl ho hs hL hX => lv_ldc2 h.1 h.2.1 h.2.2.2.1 (h.2.2.2.2.1 _ hw) hd (kk ad ls H locs hR hl ho ⟨trivial, hs⟩ hL hX)
theorem g_i2l (h : OKB Γ cc own nL) {a : Int} (ha : R32 a) (hd : decode cc pc = .ok (.i2l, 1)) (kk : GG Γ (pc + 1) lo (aL a :: st) w k n) : GG Γ pc lo (ai a :: st) w k n := by
  intro ad ls H locs hR hl ho hs hL hX
  refine lv_i2l (v := Int64.ofInt a) h.1 h.2.1 hd ?_ (kk ad ls H locs hR hl ho ⟨trivial, hs.2⟩ hL hX)
  have e : (Int32.ofInt a).toInt = a := ha.toInt
  have e2 : (Int64.ofInt a).toInt = a := R64.toInt ⟨by omega, by omega⟩
  rw [← Int64.toInt_inj, Int32.toInt_toInt64, e, e2]
theorem g_l2i (h : OKB Γ cc own nL) {a : Int} (ha : R64 a) (hd : decode cc pc = .ok (.l2i, 1)) (kk : GG Γ (pc + 1) lo (ai a :: st) w k n) : GG Γ pc lo (aL a :: st) w k n := by
  intro ad ls H locs hR hl ho hs hL hX
  refine lv_l2i (v := Int32.ofInt a) h.1 h.2.1 hd ?_ (kk ad ls H locs hR hl ho ⟨trivial, hs.2⟩ hL hX)
  rw [← Int32.toInt_inj, Int64.toInt_toInt32, ha.toInt, Int32.toInt_ofInt]
theorem g_ladd (h : OKB Γ cc own nL) {a b : Int} (hd : decode cc pc = .ok (.ladd, 1)) (kk : GG Γ (pc + 1) lo (aL (a + b) :: st) w k n) : GG Γ pc lo (aL b :: aL a :: st) w k n := by
  intro ad ls H locs hR hl ho hs hL hX
  refine lv_ladd h.1 h.2.1 hd ?_
  rw [← Int64.ofInt_add]
  exact kk ad ls H locs hR hl ho ⟨trivial, hs.2.2⟩ hL hX
theorem g_lmul (h : OKB Γ cc own nL) {a b : Int} (hd : decode cc pc = .ok (.lmul, 1)) (kk : GG Γ (pc + 1) lo (aL (a * b) :: st) w k n) : GG Γ pc lo (aL b :: aL a :: st) w k n := by
  intro ad ls H locs hR hl ho hs hL hX
  refine lv_lmul h.1 h.2.1 hd ?_
  rw [← Int64.ofInt_mul]
  exact kk ad ls H locs hR hl ho ⟨trivial, hs.2.2⟩ hL hX
theorem g_ldiv (h : OKB Γ cc own nL) {a b : Int} (ha : R64 a) (hb : R64 b) (h0 : 0 ≤ a) (h1 : 0 < b) (hd : decode cc pc = .ok (.ldiv, 1)) (kk : GG Γ (pc + 1) lo (aL (a / b) :: st) w k n) : GG Γ pc lo (aL b :: aL a :: st) w k n := by
  intro ad ls H locs hR hl ho hs hL hX
  have eb := hb.toInt
  have ea := ha.toInt
  have hne : ¬ Int64.ofInt b = 0 := fun q => by
    have := congrArg Int64.toInt q
    rw [eb] at this
    have e0 : (0 : Int64).toInt = 0 := rfl
    omega
  refine lv_ldiv h.1 h.2.1 hd hne ?_
  have e : Int64.ofInt a / Int64.ofInt b = Int64.ofInt (a / b) := by
    have hq : 0 ≤ a / b ∧ a / b ≤ a := ⟨Int.ediv_nonneg h0 (by omega), Int.ediv_le_self b h0⟩
    rw [← Int64.toInt_inj, Int64.toInt_div_of_ne_right _ _ (by intro q; rw [← Int64.toInt_inj, eb] at q; have e1 : (-1 : Int64).toInt = -1 := rfl; omega), ea, eb, R64.toInt ⟨by omega, by omega⟩, Int.tdiv_eq_ediv_of_nonneg h0]
  rw [e]
  exact kk ad ls H locs hR hl ho ⟨trivial, hs.2.2⟩ hL hX
theorem g_lcmp (h : OKB Γ cc own nL) {a b : Int} (ha : R64 a) (hb : R64 b) (hd : decode cc pc = .ok (.lcmp, 1)) (kk : GG Γ (pc + 1) lo (ai (if b < a then 1 else if a = b then 0 else -1) :: st) w k n) : GG Γ pc lo (aL b :: aL a :: st) w k n := by
  intro ad ls H locs hR hl ho hs hL hX
  have ea := ha.toInt
  have eb := hb.toInt
  have e : lg_cmp (Int64.ofInt a) (Int64.ofInt b) = Int32.ofInt (if b < a then 1 else if a = b then 0 else -1) := by
    have l1 : Int64.ofInt b < Int64.ofInt a ↔ b < a := by rw [Int64.lt_iff_toInt_lt, ea, eb]
    have l2 : Int64.ofInt a = Int64.ofInt b ↔ a = b := by rw [← Int64.toInt_inj, ea, eb]
    unfold lg_cmp
    by_cases c1 : b < a
    · simp [c1, l1]
    · by_cases c2 : a = b
      · subst c2; simp
      · simp [c1, c2, l1, l2]
  refine W.lcmp h.1 h.2.1 hd ?_
  rw [e]
  exact kk ad ls H locs hR hl ho ⟨trivial, hs.2.2⟩ hL hX
end GB9
