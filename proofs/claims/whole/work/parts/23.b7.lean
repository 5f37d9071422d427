/-! ===== rows: division of any sign, exclusive or; Math.floorDiv ===== -/
theorem tdiv_R {a b : Int} (ha : R32 a) (hb : 0 < b) : R32 (a.tdiv b) := by
  by_cases h0 : 0 ≤ a
  · rw [Int.tdiv_eq_ediv_of_nonneg h0]
    have := div_bd h0 hb
    omega
  · have h1 : a.tdiv b = -((-a).tdiv b) := by rw [Int.neg_tdiv]; omega
    rw [h1, Int.tdiv_eq_ediv_of_nonneg (show 0 ≤ -a by omega)]
    have := div_bd (a := -a) (by omega) hb
    omega
theorem ofInt_tdiv {a b : Int} (ha : R32 a) (hb : R32 b) (h1 : 0 < b) : Int32.ofInt a / Int32.ofInt b = Int32.ofInt (a.tdiv b) := by
  have hd := tdiv_R ha h1
  rw [← Int32.toInt_inj, hd.toInt, Int32.toInt_div, ha.toInt, hb.toInt, Int.bmod_def]
  obtain ⟨h3, h4⟩ := hd
  split <;> omega
theorem xor_neg {x y : Int32} (hy : 0 ≤ y.toInt) : (x ^^^ y).toInt < 0 ↔ x.toInt < 0 := by
  have h1 : (x ^^^ y).toBitVec = x.toBitVec ^^^ y.toBitVec := rfl
  have h2 : y.toBitVec.msb = false := by rw [BitVec.msb_eq_toInt]; exact decide_eq_false (by show ¬ y.toInt < 0; omega)
  have h3 : (x ^^^ y).toBitVec.msb = x.toBitVec.msb := by rw [h1, BitVec.msb_xor, h2, Bool.xor_false]
  rw [BitVec.msb_eq_toInt, BitVec.msb_eq_toInt] at h3
  exact decide_eq_decide.mp h3
theorem toInt_R (x : Int32) : R32 x.toInt := ⟨Int32.le_toInt x, Int32.toInt_lt x⟩
section GB7
variable {Γ : Cx} {cc : ByteArray} {own : String} {nL pc k n : Nat} {lo : List (Option AV)} {st : List AV} {w : AW}
theorem g_idivT (h : OKB Γ cc own nL) {a b : Int} (ha : R32 a) (hb : R32 b) (h1 : 0 < b) (hd : decode cc pc = .ok (.idiv, 1)) (kk : GG Γ (pc + 1) lo (ai (a.tdiv b) :: st) w k n) : GG Γ pc lo (ai b :: ai a :: st) w k n := by
  intro ad ls H locs hR hl ho hs hL hX
  refine lv_idiv h.1 h.2.1 hd (ne0_of hb h1) ?_
  rw [ofInt_tdiv ha hb h1]
  exact kk ad ls H locs hR hl ho ⟨trivial, hs.2.2⟩ hL hX
theorem g_ixor (h : OKB Γ cc own nL) {a b : Int} (ha : R32 a) (hb : R32 b) (h0 : 0 ≤ b) (hd : decode cc pc = .ok (.ixor, 1)) (kk : ∀ z : Int, R32 z → (z < 0 ↔ a < 0) → GG Γ (pc + 1) lo (ai z :: st) w k n) : GG Γ pc lo (ai b :: ai a :: st) w k n := by
  intro ad ls H locs hR hl ho hs hL hX
  refine lv_ixor h.1 h.2.1 hd ?_
  have h3 := kk (Int32.ofInt a ^^^ Int32.ofInt b).toInt (toInt_R _) (by rw [xor_neg (by rw [hb.toInt]; exact h0), ha.toInt]) ad ls H locs hR hl ho ⟨trivial, hs.2.2⟩ hL hX
  rw [List.map_cons, show cv ad (ai (Int32.ofInt a ^^^ Int32.ofInt b).toInt) = .int (Int32.ofInt a ^^^ Int32.ofInt b) from congrArg Value.int (Int32.ofInt_toInt _)] at h3
  exact h3
end GB7
/-- the same, of a class that has natives -/
theorem HT.ofF {l : Launch} {y : MethodName} {cc : ByteArray} {maxL : Nat} {ret : Option FieldType} {lev mc ms : Nat} {w : AW} {as : List AV} {Po : Option AV → AW → Prop} (hy : plainFor y = true) (has : ∀ v ∈ as, is2 (some v) = false) (hle : as.length ≤ maxL)
    (body : ∀ Γ : Cx, OKB Γ cc y.cls maxL → OKR Γ ret Po mc ms → cxR Γ = ({ frames := lev, cells := mc, slots := ms, locals := 64 * lev } : Room) → (cxT Γ).name = y.name → Γ.1.2.1 = l → Γ.2.2.2.2 = w → GG Γ 0 (as.map some ++ List.replicate (maxL - as.length) none) [] w 0 0) : HT l y cc maxL ret lev mc ms w as Po := by
  intro Z ad hok
  refine va_MetF (cc := cc) (maxL := maxL) (ret := ret) hy rfl ?_
  intro p e s m args below meth c s₁ B hml hv
  obtain ⟨rfl, hR, hK, hXF⟩ := hv
  have hts := atoms_spec (ws := .code y cc maxL ret :: gw_tbl) B.pre
  have hown : s.vm.findClass y.cls = some m.cls := findClass_of_methodNamed B.named
  have hw := body ((p, l, e, ({ frames := lev, cells := mc, slots := ms, locals := 64 * lev } : Room), s, m, (as.map (cv ad)).toArray, below, meth, c), MQ below (QcA Z ad w Po) (as.map (cv ad)).toArray s mc ms (zA Z), Z, ad, w)
    ⟨B.exec, B.bytes, hml, hown, fun x hx => hts x (List.mem_cons_of_mem _ hx), hK, hXF⟩ ⟨B.returns, B.notSynchronized, rfl⟩ rfl (name_of_methodNamed B.named B.method).1 rfl rfl
  have hlen := sl_len (ad := ad) as has
  have hl := lv_entry (as.map (cv ad)) (n := maxL) (by omega)
  rw [lg_entry_eq]
  rw [lo_entry as 0 (maxL - as.length) has] at hl
  refine hw ad _ s.heap [] hR ?_ (okls_entry hok) trivial (fun _ q => by cases q) (fun j hj => ⟨rfl, hj⟩)
  rw [List.length_append, List.length_map, List.length_replicate, show as.length + (maxL - as.length) = maxL by omega]
  exact hl
theorem fdq {x y : Int} (hx : R32 x) (h1 : 0 < y) : R32 (x.tdiv y * y) ∧ (x.tdiv y * y = x → x.tdiv y = x / y) ∧ (x < 0 → x.tdiv y * y ≠ x → x.tdiv y - 1 = x / y) := by
  have e1 := Int.tmod_add_tdiv_mul x y
  have e2 := Int.emod_add_ediv_mul x y
  have m1 := Int.emod_nonneg x (show y ≠ 0 by omega)
  have m2 := Int.emod_lt_of_pos x h1
  by_cases h0 : 0 ≤ x
  · have a := Int.tmod_nonneg y h0
    have e := Int.tdiv_eq_ediv_of_nonneg (b := y) h0
    have c := div_bd h0 h1
    have d := Int.mul_nonneg c.1 (show 0 ≤ y by omega)
    rw [e] at e1 ⊢
    refine ⟨⟨by omega, by omega⟩, fun _ => rfl, fun q => by omega⟩
  · have h4 : x.tmod y = -((-x).tmod y) := by rw [Int.neg_tmod]; omega
    have a := Int.tmod_nonneg y (show 0 ≤ -x by omega)
    have b := Int.tmod_lt_of_pos (-x) h1
    have h5 : x.tdiv y = -((-x).tdiv y) := by rw [Int.neg_tdiv]; omega
    have c := Int.tdiv_nonneg (show 0 ≤ -x by omega) (show 0 ≤ y by omega)
    have d := Int.mul_nonneg c (show 0 ≤ y by omega)
    have e : x.tdiv y * y = -((-x).tdiv y * y) := by rw [h5, Int.neg_mul]
    refine ⟨⟨by omega, by omega⟩, fun q => ?_, fun _ q => ?_⟩
    · have : x / y * y = x.tdiv y * y := by
        have h6 : x % y = 0 := by rw [← q]; exact Int.mul_emod_left _ _
        omega
      exact (Int.eq_of_mul_eq_mul_right (show y ≠ 0 by omega) this).symm
    · have h7 : 0 < (-x).tmod y := by omega
      have h8 : (x.tdiv y - 1 - x / y) * y = x % y - x.tmod y - y := by rw [Int.sub_mul, Int.sub_mul, Int.one_mul]; omega
      have h9 : x.tdiv y - 1 - x / y = 0 := by
        rcases (show x.tdiv y - 1 - x / y ≤ -1 ∨ x.tdiv y - 1 - x / y = 0 ∨ 1 ≤ x.tdiv y - 1 - x / y by omega) with q1 | q1 | q1
        · have := Int.mul_le_mul_of_nonneg_right q1 (show 0 ≤ y by omega)
          omega
        · exact q1
        · have := Int.mul_le_mul_of_nonneg_right q1 (show 0 ≤ y by omega)
          omega
      omega
set_option maxRecDepth 100000 in
set_option maxHeartbeats 4000000 in
theorem c_J9_floorDiv_7cf53 (l : Launch) (w : AW) (x y : Int) (hx : R32 x) (hy : R32 y) (h1 : 0 < y) : HT l yJ9_floorDiv_7cf53 cJ9_floorDiv_7cf53 3 (some .int) 1 0 0 w [ai x, ai y] (rI (x / y) w) := by
  refine HT.ofF (by decide +kernel) (by intro v hv; simp only [List.mem_cons, List.not_mem_nil, or_false] at hv; rcases hv with rfl | rfl <;> rfl) (Nat.le_of_ble_eq_true rfl) ?_
  intro Γ h hQ hRm hnm hl hw0
  have hq := tdiv_R hx h1
  refine g_iload_n h dJ9_floorDiv_7cf53_0 rfl ?_
  refine g_iload_n h dJ9_floorDiv_7cf53_1 rfl ?_
  refine g_idivT h (by first | assumption | exact ⟨by omega, by omega⟩) (by first | assumption | exact ⟨by omega, by omega⟩) (by omega) dJ9_floorDiv_7cf53_2 ?_
  refine g_istore_n h dJ9_floorDiv_7cf53_3 (Nat.le_of_ble_eq_true rfl) rfl rfl ?_
  refine g_iload_n h dJ9_floorDiv_7cf53_4 rfl ?_
  refine g_iload_n h dJ9_floorDiv_7cf53_5 rfl ?_
  refine g_ixor h (by first | assumption | exact ⟨by omega, by omega⟩) (by first | assumption | exact ⟨by omega, by omega⟩) (by omega) dJ9_floorDiv_7cf53_6 (fun z hz1 hz2 => ?_)
  refine g_if_ge (tgt := 21) h dJ9_floorDiv_7cf53_7 (by decide) (by first | assumption | exact ⟨by omega, by omega⟩) (fun c7 => ?_) (fun c7 => ?_)
  · refine g_iload_n h dJ9_floorDiv_7cf53_21 rfl ?_
    refine g_iret h hQ (by decide) (by decide) ?_ dJ9_floorDiv_7cf53_22
    first
    | (have h0 : 0 ≤ x := by omega
       exact ⟨by rw [Int.tdiv_eq_ediv_of_nonneg h0], rfl⟩)
    | exact ⟨by rw [(fdq hx h1).2.1 (by assumption)], rfl⟩
  · refine g_iload_n h dJ9_floorDiv_7cf53_10 rfl ?_
    refine g_iload_n h dJ9_floorDiv_7cf53_11 rfl ?_
    have hfd := (fdq hx h1).1
    refine g_imul h dJ9_floorDiv_7cf53_12 ?_
    refine g_iload_n h dJ9_floorDiv_7cf53_13 rfl ?_
    refine g_icmp_eq (tgt := 21) h dJ9_floorDiv_7cf53_14 (by decide) (by first | assumption | exact ⟨by omega, by omega⟩) (by first | assumption | exact ⟨by omega, by omega⟩) (fun c14 => ?_) (fun c14 => ?_)
    · refine g_iload_n h dJ9_floorDiv_7cf53_21 rfl ?_
      refine g_iret h hQ (by decide) (by decide) ?_ dJ9_floorDiv_7cf53_22
      first
      | (have h0 : 0 ≤ x := by omega
         exact ⟨by rw [Int.tdiv_eq_ediv_of_nonneg h0], rfl⟩)
      | exact ⟨by rw [(fdq hx h1).2.1 (by assumption)], rfl⟩
    · refine g_iload_n h dJ9_floorDiv_7cf53_17 rfl ?_
      refine g_iconst h dJ9_floorDiv_7cf53_18 ?_
      refine g_isub h dJ9_floorDiv_7cf53_19 ?_
      refine g_iret h hQ (by decide) (by decide) ?_ dJ9_floorDiv_7cf53_20
      exact ⟨by rw [(fdq hx h1).2.2 (by omega) (by assumption)], rfl⟩
