/-! ===== copies of arrays ===== -/
theorem ac_link : Cond.methodLink RJ7 150 arraycopyName ∈ gw_tbl := gw_in (List.mem_of_getElem? (i := 1009) (by decide +kernel)) (by decide +kernel)
theorem ac_stat : Cond.static arraycopyName ∈ gw_tbl := gw_in (List.mem_of_getElem? (i := 1010) (by decide +kernel)) (by decide +kernel)
theorem ac_nat : Cond.native arraycopyName ∈ gw_tbl := gw_in (List.mem_of_getElem? (i := 1011) (by decide +kernel)) (by decide +kernel)
theorem ac_ini : Cond.initialized "java/lang/System" ∈ gw_tbl := gw_in (List.mem_of_getElem? (i := 132) (by decide +kernel)) (by decide +kernel)
theorem ml_min : Cond.methodLink RJ7 304 Lib.Math.min.name ∈ gw_tbl := gw_in (List.mem_of_getElem? (i := 1008) (by decide +kernel)) (by decide +kernel)
section GCP
variable {Γ : Cx} {cc : ByteArray} {own : String} {nL pc k n : Nat} {lo : List (Option AV)} {st : List AV} {w : AW}
theorem g_acopy (h : OKB Γ cc own nL) (hnl : lo.length = nL) {idx k0 k1 n0 n1 L : Nat} {z : Int} (hlink : Cond.methodLink own idx arraycopyName ∈ gw_tbl) (hs0 : w.1 k0 = (1, n0)) (hs1 : w.1 k1 = (1, n1)) (hz : z = (L : Int)) (hL0 : L ≤ n0) (hL1 : L ≤ n1) (hb : L < 2147483647) (hframes : 1 ≤ (cxR Γ).frames) (hlocals : 8 + (nativeFrameWords "java/lang/System" "arraycopy" 5 + 11) ≤ (cxR Γ).locals) (hcat : ∀ ad, ((st.map (cv ad)).map fun v => v.category).sum ≤ 8)
    (hd : decode cc pc = .ok (.invokestatic idx, 3)) (kk : GG Γ (pc + 3) lo st (sR w k1 (cpR (w.2.1 k1) (w.2.1 k0) L)) k n) : GG Γ pc lo (ai z :: ai 0 :: ar k1 :: ai 0 :: ar k0 :: st) w k n := by
  subst hz
  intro ad ls H locs hR hl ho hs hL hX T hT X
  obtain ⟨hb0, hc0⟩ := ar_of hR hs0 (by omega) (by omega)
  obtain ⟨hb1, hc1⟩ := ar_of hR hs1 (by omega) (by omega)
  have hx := ix_nat (i := L) (nn := L + 1) (by omega) (by omega)
  have hA := (h.2.2.2.2.2.1.2 1 (Or.inl rfl)).1
  obtain ⟨-, q0, hk0, cm0, hkk0⟩ := hA n0 (fun j => .int (Int32.ofInt (w.2.1 k0 j)))
  obtain ⟨-, q1, hk1, cm1, hkk1⟩ := hA n1 (fun j => .int (Int32.ofInt (w.2.1 k1 j)))
  have z0 : ¬ Int32.ofInt 0 < 0 := by decide
  have hLt : (Int32.ofInt (L : Int)).toInt = (L : Int) := R32.toInt ⟨by omega, by omega⟩
  have h0t : (Int32.ofInt 0).toInt = 0 := rfl
  obtain ⟨vm', X', step⟩ := X.arraycopy h.1 h.2.2.2.1 (h.2.2.2.2.1 _ hlink) (h.2.2.2.2.1 _ ac_nat) (h.2.2.2.2.1 _ ac_stat) (h.2.2.2.2.1 _ ac_ini) (src := ad k0) (dst := ad k1) (cs := arrV ((cxZ Γ).2.2.1 1) n0 (fun j => .int (Int32.ofInt (w.2.1 k0 j)))) (cd := arrV ((cxZ Γ).2.2.1 1) n1 (fun j => .int (Int32.ofInt (w.2.1 k1 j)))) (srcPos := Int32.ofInt 0) (destPos := Int32.ofInt 0) (n := Int32.ofInt (L : Int)) (by rw [hT]; exact hc0) (by rw [hT]; exact hc1)
    (fun _ h => by cases h) (fun _ h => by cases h) (fun h => by cases h) (fun h => by cases h) hk0 hk1 hkk0 hkk1 (by first | rfl | simp [arT, refKind]) z0 z0 hx.2
    (by rw [h0t, hLt, arrV_size]; omega)
    (by rw [h0t, hLt, arrV_size]; omega)
    (fun vm₁ _ i hi => by
      have hi2 : i < L := by rw [hx.1] at hi; exact hi
      have e : (arrV ((cxZ Γ).2.2.1 1) n0 (fun j => Value.int (Int32.ofInt (w.2.1 k0 j)))).slots.getD ((Int32.ofInt 0).toNatClampNeg + i) .null = .int (Int32.ofInt (w.2.1 k0 i)) := by
        show (arrV ((cxZ Γ).2.2.1 1) n0 (fun j => Value.int (Int32.ofInt (w.2.1 k0 j)))).slots.getD (0 + i) .null = _
        rw [Nat.zero_add, Array.getD_eq_getD_getElem?, arrV_read _ _ (by omega)]
        rfl
      refine ⟨?_, ?_⟩
      · rw [e]; rfl
      · rw [e]; exact trivial)
    (g := F0 (cxM Γ) pc ls ((ai (L : Int) :: ai 0 :: ar k1 :: ai 0 :: ar k0 :: st).map (cv ad))) rfl (by rw [h.2.2.1, ← hnl]; first | exact hl.1 | exact hl.1.symm) (rest := st.map (cv ad)) rfl (by rw [h.2.1]; exact hd) hframes (by have := hcat ad; show 2 * 0 + _ + _ ≤ _; omega)
  have e1 : copied (arrV ((cxZ Γ).2.2.1 1) n0 (fun j => .int (Int32.ofInt (w.2.1 k0 j)))) (arrV ((cxZ Γ).2.2.1 1) n1 (fun j => .int (Int32.ofInt (w.2.1 k1 j)))) (Int32.ofInt 0) (Int32.ofInt 0) (Int32.ofInt (L : Int)) = arrV ((cxZ Γ).2.2.1 1) n1 (fun j => .int (Int32.ofInt (cpR (w.2.1 k1) (w.2.1 k0) L j))) := by
    refine (va_copied (fun z => .int z) ((cxZ Γ).2.2.1 1) ((cxZ Γ).2.2.1 1) (sp := (Int32.ofInt 0).toNatClampNeg) (dp := (Int32.ofInt 0).toNatClampNeg) (n := (Int32.ofInt (L : Int)).toNatClampNeg) (fun j => Int32.ofInt (w.2.1 k0 j)) (fun j => Int32.ofInt (w.2.1 k1 j)) (by rw [hx.1]; show 0 + L ≤ n0; omega)).trans ?_
    congr 1
    funext j
    rw [hx.1]
    show Value.int (if 0 ≤ j ∧ j < 0 + L then Int32.ofInt (w.2.1 k0 (0 + (j - 0))) else Int32.ofInt (w.2.1 k1 j)) = _
    unfold cpR
    by_cases q : j < L
    · rw [if_pos (by omega), if_pos q, Nat.zero_add, Nat.sub_zero]
    · rw [if_neg (by omega), if_neg q]
  rw [e1] at X' step
  have hlt : ad k1 < H.size := (Array.getElem?_eq_some_iff.mp hc1).1
  have hheap : ((T.setVm vm').setCell (ad k1) (arrV ((cxZ Γ).2.2.1 1) n1 (fun j => .int (Int32.ofInt (cpR (w.2.1 k1) (w.2.1 k0) L j))))).heap = H.setIfInBounds (ad k1) (arrV ((cxZ Γ).2.2.1 1) n1 (fun j => .int (Int32.ofInt (cpR (w.2.1 k1) (w.2.1 k0) L j)))) := by rw [← hT]; rfl
  have oq : ∀ q : Nat, q ≠ ad k1 → (H.setIfInBounds (ad k1) (arrV ((cxZ Γ).2.2.1 1) n1 (fun j => .int (Int32.ofInt (cpR (w.2.1 k1) (w.2.1 k0) L j)))))[q]? = H[q]? := fun q hq => by simp [Array.getElem?_setIfInBounds, Ne.symm hq]
  have hm : ∀ j, okr w j → okr (sR w k1 (cpR (w.2.1 k1) (w.2.1 k0) L)) j := okr_up (w := w) (w' := sR w k1 (cpR (w.2.1 k1) (w.2.1 k0) L)) rfl
  obtain ⟨t, a1, b1⟩ := kk ad ls (H.setIfInBounds (ad k1) (arrV ((cxZ Γ).2.2.1 1) n1 (fun j => .int (Int32.ofInt (cpR (w.2.1 k1) (w.2.1 k0) L j))))) _
    (RP_set (w' := sR w k1 (cpR (w.2.1 k1) (w.2.1 k0) L)) hR (by rw [hs1]; show (1 : Nat) ≠ 0; decide) rfl (fun j hj => ⟨sR_ne _ _ hj, rfl⟩) (by
      rw [hs1]
      unfold okC
      rw [if_neg (by omega), sR_at]
      show (H.setIfInBounds (ad k1) _)[ad k1]? = _
      rw [Array.getElem?_setIfInBounds, if_pos rfl, if_pos hlt]
      rfl) (fun i => hR.2.2.2.2 k1 i (by rw [hs1]; show (1 : Nat) ≠ 0; decide)) (by simp) oq) hl (fun i u hu => okv_mono hm u (ho i u hu)) (okvs_mono hm _ hs.2.2.2.2.2) (fun l hl2 => by
      rcases List.mem_append.mp hl2 with q | q
      · exact hL l q
      · obtain ⟨z, -, hz⟩ := List.mem_map.mp q
        rw [← hz]
        exact hb1) (fun j hj => ⟨(hX j hj).1, hm j (hX j hj).2⟩) _ hheap X'
  exact ⟨t, step t a1, b1⟩
end GCP
theorem alc_at (w : AW) (k : Nat) (kd : Nat × Nat) : (alc w k kd).1 k = kd := if_pos rfl
theorem alc_ne (w : AW) {k j : Nat} (kd : Nat × Nat) (h : j ≠ k) : (alc w k kd).1 j = w.1 j := if_neg h
/-- the first L of an array in a new one -/
def coW (w : AW) (a b L : Nat) : AW := sR (alc w b (1, L)) b (cpR ((alc w b (1, L)).2.1 b) ((alc w b (1, L)).2.1 a) L)
set_option maxRecDepth 100000 in
set_option maxHeartbeats 4000000 in
theorem c_J7_copyOf_59c91 (l : Launch) (w : AW) (a b m L : Nat) (ha : w.1 a = (1, m)) (hL : L < m) (hm : m < 100000) (hb : (w.1 b).1 = 0) (hb2 : b < 20000) : HT l yJ7_copyOf_59c91 cJ7_copyOf_59c91 3 (some (.array .int)) 2 1 L w [ar a, ai (L : Int)] (fun r w' => r = some (ar b) ∧ w' = coW w a b L) := by
  refine HT.ofF (by decide +kernel) (by intro v hv; simp only [List.mem_cons, List.not_mem_nil, or_false] at hv; rcases hv with rfl | rfl <;> rfl) (Nat.le_of_ble_eq_true rfl) ?_
  intro Γ h hQ hRm hnm hl hw0
  have hab : a ≠ b := fun e => by rw [← e, ha] at hb; exact absurd hb (show ¬ (1 : Nat) = 0 by decide)
  have t1 : (alc w b (1, L)).1 b = (1, L) := alc_at _ _ _
  have t2 : (alc w b (1, L)).1 a = (1, m) := (alc_ne w _ hab).trans ha
  refine g_iload_n h dJ7_copyOf_59c91_0 rfl ?_
  refine g_aload_n h dJ7_copyOf_59c91_1 rfl ?_
  refine g_alen h (by assumption) (by unfold arK; omega) dJ7_copyOf_59c91_2 ?_
  refine g_icmp_ne (tgt := 14) h dJ7_copyOf_59c91_3 (by decide) ⟨by omega, by omega⟩ ⟨by omega, by omega⟩ (fun c3 => ?_) (fun c3 => absurd c3 (by omega))
  refine g_iload_n h dJ7_copyOf_59c91_14 rfl ?_
  refine g_newi h b arc_int rfl (by omega) hb hb2 (by rw [hRm]; simp) (by rw [hRm]; simp) dJ7_copyOf_59c91_15 ?_
  refine g_astore_n h dJ7_copyOf_59c91_17 (Nat.le_of_ble_eq_true rfl) rfl rfl ?_
  refine g_aload_n h dJ7_copyOf_59c91_18 rfl ?_
  refine g_iconst h dJ7_copyOf_59c91_19 ?_
  refine g_aload_n h dJ7_copyOf_59c91_20 rfl ?_
  refine g_iconst h dJ7_copyOf_59c91_21 ?_
  refine g_aload_n h dJ7_copyOf_59c91_22 rfl ?_
  refine g_alen h (by assumption) (by unfold arK; omega) dJ7_copyOf_59c91_23 ?_
  refine g_iload_n h dJ7_copyOf_59c91_24 rfl ?_
  refine g_min h rfl ml_min ⟨by omega, by omega⟩ ⟨by omega, by omega⟩ (by rw [hRm]; show 1 ≤ 2; decide) (by rw [hRm]; show 21 ≤ 64 * 2; decide) (fun _ => Nat.le_of_ble_eq_true rfl) (by rw [hRm]; simp) (by rw [hRm]; simp) dJ7_copyOf_59c91_25 ?_
  refine g_acopy h rfl (L := L) ac_link t2 t1 (by omega) (by omega) (Nat.le_refl _) (by omega) (by rw [hRm]; show 1 ≤ 2; decide) (by rw [hRm]; show 8 + (nativeFrameWords "java/lang/System" "arraycopy" 5 + 11) ≤ 64 * 2; decide) (fun _ => Nat.le_of_ble_eq_true rfl) dJ7_copyOf_59c91_28 ?_
  refine g_aload_n h dJ7_copyOf_59c91_31 rfl ?_
  refine g_aretA h hQ (by omega) (by omega) ?_ dJ7_copyOf_59c91_32
  exact ⟨rfl, rfl⟩
