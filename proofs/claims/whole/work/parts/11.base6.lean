/-! ===== more rows: Math, division, switches ===== -/
theorem ofInt_max {a b : Int} (ha : R32 a) (hb : R32 b) : (if Int32.ofInt a < Int32.ofInt b then Int32.ofInt b else Int32.ofInt a) = Int32.ofInt (max a b) := by
  rw [Int.max_def]
  by_cases h : a < b
  · rw [if_pos ((R32.lt ha hb).mpr h), if_pos (by omega)]
  · rw [if_neg (fun q => h ((R32.lt ha hb).mp q))]
    by_cases h2 : a ≤ b
    · rw [if_pos h2, show a = b by omega]
    · rw [if_neg h2]
theorem ofInt_min {a b : Int} (ha : R32 a) (hb : R32 b) : (if Int32.ofInt b < Int32.ofInt a then Int32.ofInt b else Int32.ofInt a) = Int32.ofInt (min a b) := by
  rw [Int.min_def]
  by_cases h : b < a
  · rw [if_pos ((R32.lt hb ha).mpr h), if_neg (by omega)]
  · rw [if_neg (fun q => h ((R32.lt hb ha).mp q)), if_pos (by omega)]
theorem R32.max {a b : Int} (ha : R32 a) (hb : R32 b) : R32 (max a b) := by unfold R32 at *; omega
theorem R32.min {a b : Int} (ha : R32 a) (hb : R32 b) : R32 (min a b) := by unfold R32 at *; omega
theorem ofInt_div {a b : Int} (ha : R32 a) (hb : R32 b) (h0 : 0 ≤ a) (h1 : 0 < b) : Int32.ofInt a / Int32.ofInt b = Int32.ofInt (a / b) := by
  have hd : R32 (a / b) := by
    have h2 : 0 ≤ a / b := Int.ediv_nonneg h0 (by omega)
    have h3 : a / b ≤ a := Int.ediv_le_self b h0
    unfold R32 at *
    omega
  rw [← Int32.toInt_inj, hd.toInt, Int32.toInt_div, ha.toInt, hb.toInt, Int.tdiv_eq_ediv_of_nonneg h0]
  have h2 : 0 ≤ a / b := Int.ediv_nonneg h0 (by omega)
  rw [Int.bmod_def]
  unfold R32 at hd
  split <;> omega
theorem arT_cls : ∀ ci, ci < 13 → arT (200 + ci) = .object (clN ci) := by decide +kernel
section GMORE
variable {Γ : Cx} {cc : ByteArray} {own : String} {nL pc k n : Nat} {lo : List (Option AV)} {st : List AV} {w : AW}
theorem g_max (h : OKB Γ cc own nL) (hnl : lo.length = nL) {a b : Int} {idx : Nat} (hw : Cond.methodLink own idx Lib.Math.max.name ∈ gw_tbl) (ha : R32 a) (hb : R32 b) (hfr : 1 ≤ (cxR Γ).frames) (hlc : 21 ≤ (cxR Γ).locals) (hcat : ∀ ad, ((st.map (cv ad)).map fun v => v.category).sum ≤ 8) (hk : k ≤ (cxR Γ).cells) (hn : n ≤ (cxR Γ).slots) (hd : decode cc pc = .ok (.invokestatic idx, 3)) (kk : GG Γ (pc + 3) lo (ai (max a b) :: st) w k n) : GG Γ pc lo (ai b :: ai a :: st) w k n := by
  intro ad ls H locs hR hl ho hs hL hX
  have h4 := kk ad ls H locs hR hl ho ⟨trivial, hs.2.2⟩ hL hX
  rw [List.map_cons, show cv ad (ai (max a b)) = .int (Int32.ofInt (max a b)) from rfl, ← ofInt_max ha hb] at h4
  exact va_mmax h.1 h.2.1 (by rw [h.2.2.1, ← hnl]; exact hl.1.symm) h.2.2.2.1 (h.2.2.2.2.1 _ hw) (h.2.2.2.2.1 _ st_max) (h.2.2.2.2.1 _ ini_Math) (h.2.2.2.2.1 _ co_max) hfr (by have := hcat ad; omega) hk hn hd h4
theorem g_min (h : OKB Γ cc own nL) (hnl : lo.length = nL) {a b : Int} {idx : Nat} (hw : Cond.methodLink own idx Lib.Math.min.name ∈ gw_tbl) (ha : R32 a) (hb : R32 b) (hfr : 1 ≤ (cxR Γ).frames) (hlc : 21 ≤ (cxR Γ).locals) (hcat : ∀ ad, ((st.map (cv ad)).map fun v => v.category).sum ≤ 8) (hk : k ≤ (cxR Γ).cells) (hn : n ≤ (cxR Γ).slots) (hd : decode cc pc = .ok (.invokestatic idx, 3)) (kk : GG Γ (pc + 3) lo (ai (min a b) :: st) w k n) : GG Γ pc lo (ai b :: ai a :: st) w k n := by
  intro ad ls H locs hR hl ho hs hL hX
  have h4 := kk ad ls H locs hR hl ho ⟨trivial, hs.2.2⟩ hL hX
  rw [List.map_cons, show cv ad (ai (min a b)) = .int (Int32.ofInt (min a b)) from rfl, ← ofInt_min ha hb] at h4
  exact va_mmin h.1 h.2.1 (by rw [h.2.2.1, ← hnl]; exact hl.1.symm) h.2.2.2.1 (h.2.2.2.2.1 _ hw) (h.2.2.2.2.1 _ st_min) (h.2.2.2.2.1 _ ini_Math) (h.2.2.2.2.1 _ co_min) hfr (by have := hcat ad; omega) hk hn hd h4
theorem ne0_of {b : Int} (hb : R32 b) (h : 0 < b) : ¬ Int32.ofInt b = 0 := fun q => by
  rw [← R32.zero, R32.eq hb R32.z] at q
  omega
theorem g_idiv (h : OKB Γ cc own nL) {a b : Int} (ha : R32 a) (hb : R32 b) (h0 : 0 ≤ a) (h1 : 0 < b) (hd : decode cc pc = .ok (.idiv, 1)) (kk : GG Γ (pc + 1) lo (ai (a / b) :: st) w k n) : GG Γ pc lo (ai b :: ai a :: st) w k n := by
  intro ad ls H locs hR hl ho hs hL hX
  refine lv_idiv h.1 h.2.1 hd (ne0_of hb h1) ?_
  rw [ofInt_div ha hb h0 h1]
  exact kk ad ls H locs hR hl ho ⟨trivial, hs.2.2⟩ hL hX
theorem g_irem (h : OKB Γ cc own nL) {a b : Int} (ha : R32 a) (hb : R32 b) (h0 : 0 ≤ a) (h1 : 0 < b) (hd : decode cc pc = .ok (.irem, 1)) (kk : GG Γ (pc + 1) lo (ai (a % b) :: st) w k n) : GG Γ pc lo (ai b :: ai a :: st) w k n := by
  intro ad ls H locs hR hl ho hs hL hX
  refine lv_irem h.1 h.2.1 hd (ne0_of hb h1) ?_
  rw [ofInt_div ha hb h0 h1, ← Int32.ofInt_mul, ← Int32.ofInt_sub, show a - a / b * b = a % b by rw [Int.mul_comm, ← Int.emod_def]]
  exact kk ad ls H locs hR hl ho ⟨trivial, hs.2.2⟩ hL hX
theorem g_tswI (h : OKB Γ cc own nL) {z : Int} (c : Nat) {dflt lo1 hi1 off : Int} {offs : Array Int} {len tgt : Nat} (hR : R32 z) (hz : z = lo1 + (c : Int)) (hh : z ≤ hi1) (ho1 : offs[c]? = some off) (ht : (pc : Int) + off = (tgt : Int)) (hd : decode cc pc = .ok (.tableswitch dflt lo1 hi1 offs, len)) (kk : GG Γ tgt lo st w k n) : GG Γ pc lo (ai z :: st) w k n := by
  intro ad ls H locs hRR hl ho hs hL hX
  refine lv_tableIn (x := Int32.ofInt z) h.1 h.2.1 hd (by rw [hR.toInt]; omega) (by rw [hR.toInt]; omega) (off := off) ?_ ht (kk ad ls H locs hRR hl ho hs.2 hL hX)
  rw [hR.toInt, show (z - lo1).toNat = c by omega]
  exact ho1
theorem g_tswO (h : OKB Γ cc own nL) {z : Int} {dflt lo1 hi1 : Int} {offs : Array Int} {len tgt : Nat} (hR : R32 z) (hz : z < lo1 ∨ hi1 < z) (ht : (pc : Int) + dflt = (tgt : Int)) (hd : decode cc pc = .ok (.tableswitch dflt lo1 hi1 offs, len)) (kk : GG Γ tgt lo st w k n) : GG Γ pc lo (ai z :: st) w k n :=
  fun ad ls H locs hRR hl ho hs hL hX => lv_tableOut (x := Int32.ofInt z) h.1 h.2.1 hd (by rw [hR.toInt]; exact hz) ht (kk ad ls H locs hRR hl ho hs.2 hL hX)
/-- an array's place holds an object of the class, or null, from now on -/
theorem g_aast (h : OKB Γ cc own nL) {k0 ci nn j0 n2 : Nat} {z : Int} (i : Nat) (hsh : w.1 k0 = (200 + ci, nn)) (hkd : arK (200 + ci)) (hci : ci < 13) (hv : w.1 j0 = (100 + ci, n2)) (hz : z = (i : Int)) (hi : i < nn) (hb : nn < 2147483648) (hd : decode cc pc = .ok (.aastore, 1)) (kk : GG Γ (pc + 1) lo st (upP w k0 i (some j0)) k n) : GG Γ pc lo (ar j0 :: ai z :: ar k0 :: st) w k n := by
  subst hz
  intro ad ls H locs hR hl ho hs hL hX
  obtain ⟨hbb, hc⟩ := ar_of hR hsh (by omega) (by omega)
  obtain ⟨-, cellV, g1, g2, g3, -⟩ := ob_of hR hv hci
  have hcls := (h.2.2.2.2.2.1.1 ci hci).2
  have hT : arT (200 + ci) = .object (clN ci) := arT_cls ci hci
  have hra := (h.2.2.2.2.2.1.2 _ hkd).2
  rw [hT] at hra
  obtain ⟨kA, comp, k1, k2, k3, -⟩ := hra
  have hcomp : comp = (cxZ Γ).1 ci := Option.some.inj (k3.symm.trans hcls.1)
  subst hcomp
  obtain ⟨kC, hkC, -⟩ := hcls.2
  refine W.aast h.1 h.2.1 hc (fun q h => by cases h) (fun h => by cases h) k1 k2 rfl hkC ⟨(ix_nat hi hb).2, by rw [arrV_size, (ix_nat hi hb).1]; exact hi⟩ g1 (fun q h => by rw [g3] at h; cases h) (by rw [g2]; exact hkC) (by rw [g2]; exact va_assign hcls) rfl rfl hd fun H1 e1 e2 e3 => ?_
  rw [(ix_nat hi hb).1] at e1
  have hok : okv w (ar j0) := hs.1
  refine kk ad ls H1 _ (ar_set (w' := upP w k0 i (some j0)) hR hsh (by omega) (by omega) rfl (fun j hj => ⟨rfl, if_neg hj⟩) (fun j => ?_) (fun j => ?_) e1 e2 e3) hl (fun i1 u hu => okv_mono (okr_up (w := w) (w' := upP w k0 i (some j0)) rfl) u (ho i1 u hu)) (okvs_mono (okr_up (w := w) (w' := upP w k0 i (some j0)) rfl) _ hs.2.2.2) (locs_app hL hbb) (fun j hj => ⟨(hX j hj).1, okr_up (w := w) (w' := upP w k0 i (some j0)) rfl j (hX j hj).2⟩)
  · rw [upP_at]
    by_cases hj : j = i
    · subst hj
      simp only [updV, elV, if_pos]
      rw [if_neg (by omega), if_neg (by omega)]
      rfl
    · simp [updV, elV, cv, hj, upP]
  · rw [upP_at]
    show okv w (aq (if j = i then some j0 else w.2.2 k0 j))
    split
    · exact hok
    · exact hR.2.2.2.2 k0 j (by rw [hsh]; show 200 + ci ≠ 0; omega)
theorem g_aastN (h : OKB Γ cc own nL) {k0 kd nn : Nat} {z : Int} (i : Nat) (hsh : w.1 k0 = (kd, nn)) (hkd : arK kd) (hk4 : 200 ≤ kd) (hz : z = (i : Int)) (hi : i < nn) (hb : nn < 2147483648) (hd : decode cc pc = .ok (.aastore, 1)) (kk : GG Γ (pc + 1) lo st (upP w k0 i none) k n) : GG Γ pc lo (an :: ai z :: ar k0 :: st) w k n := by
  subst hz
  intro ad ls H locs hR hl ho hs hL hX
  obtain ⟨hbb, hc⟩ := ar_of hR hsh (by omega) (by omega)
  obtain ⟨C, hC⟩ := arK_ref hkd hk4
  have h1 := (h.2.2.2.2.2.1.2 kd hkd).1
  rw [hC] at h1
  intro T hT X
  obtain ⟨X', stp⟩ := va_aastN0 X h.1 (by rw [hT]; exact hc) (h1 _ _) (fun q => by cases q) (ix_in hi hb _ _) (g := F0 (cxM Γ) pc ls ((an :: ai (i : Int) :: ar k0 :: st).map (cv ad))) rfl rfl (by rw [h.2.1]; exact hd)
  rw [(ix_nat hi hb).1] at X' stp
  have hlt : ad k0 < T.heap.size := by rw [hT]; exact (Array.getElem?_eq_some_iff.mp hc).1
  obtain ⟨t, a1, b1⟩ := kk ad ls (T.setCell (ad k0) ((arrV ((cxZ Γ).2.2.1 kd) nn (fun j => elV ad kd (w.2.1 k0 j) (w.2.2 k0 j))).setSlot i .null)).heap _ (ar_set (w' := upP w k0 i none) (H1 := (T.setCell (ad k0) ((arrV ((cxZ Γ).2.2.1 kd) nn (fun j => elV ad kd (w.2.1 k0 j) (w.2.2 k0 j))).setSlot i .null)).heap) (i := i) (v := .null) hR hsh (by omega) (by omega) rfl (fun j hj => ⟨rfl, if_neg hj⟩) (fun j => by
      rw [upP_at]
      by_cases hj : j = i
      · subst hj
        simp only [updV, elV, if_pos]
        rw [if_neg (by omega), if_neg (by omega)]
        rfl
      · simp [updV, elV, hj, upP]) (fun j => by
      rw [upP_at]
      show okv w (aq (if j = i then none else w.2.2 k0 j))
      split
      · trivial
      · exact hR.2.2.2.2 k0 j (by rw [hsh]; show kd ≠ 0; omega)) (heapAt_setCell_self _ hlt) (by rw [size_setCell, hT]) (fun q hq => by rw [heapAt_setCell_ne _ (Ne.symm hq), hT])) hl (fun i1 u hu => okv_mono (okr_up (w := w) (w' := upP w k0 i none) rfl) u (ho i1 u hu)) (okvs_mono (okr_up (w := w) (w' := upP w k0 i none) rfl) _ hs.2.2.2) (locs_app hL hbb) (fun j hj => ⟨(hX j hj).1, okr_up (w := w) (w' := upP w k0 i none) rfl j (hX j hj).2⟩) _ rfl X'
  exact ⟨t, stp t a1, b1⟩
theorem g_iald2 (h : OKB Γ cc own nL) {k0 nn : Nat} {z : Int} (hsh : w.1 k0 = (1, nn)) (h0 : 0 ≤ z) (hi : z < (nn : Int)) (hb : nn < 2147483648) (hd : decode cc pc = .ok (.iaload, 1)) (kk : GG Γ (pc + 1) lo (ai (w.2.1 k0 z.toNat) :: st) w k n) : GG Γ pc lo (ai z :: ar k0 :: st) w k n := g_iald h z.toNat hsh (by omega) (by omega) hb hd kk
theorem g_zald2 (h : OKB Γ cc own nL) {k0 nn : Nat} {z : Int} (hsh : w.1 k0 = (3, nn)) (h0 : 0 ≤ z) (hi : z < (nn : Int)) (hb : nn < 2147483648) (hd : decode cc pc = .ok (.baload, 1)) (kk : GG Γ (pc + 1) lo (ai (w.2.1 k0 z.toNat) :: st) w k n) : GG Γ pc lo (ai z :: ar k0 :: st) w k n := g_zald h z.toNat hsh (by omega) (by omega) hb hd kk
theorem g_bald2 (h : OKB Γ cc own nL) {k0 nn : Nat} {z : Int} (hsh : w.1 k0 = (2, nn)) (h0 : 0 ≤ z) (hi : z < (nn : Int)) (hb : nn < 2147483648) (hd : decode cc pc = .ok (.baload, 1)) (kk : GG Γ (pc + 1) lo (ai (w.2.1 k0 z.toNat) :: st) w k n) : GG Γ pc lo (ai z :: ar k0 :: st) w k n := g_bald h z.toNat hsh (by omega) (by omega) hb hd kk
theorem g_iast2 (h : OKB Γ cc own nL) {k0 nn : Nat} {z x : Int} (hsh : w.1 k0 = (1, nn)) (h0 : 0 ≤ z) (hi : z < (nn : Int)) (hb : nn < 2147483648) (hd : decode cc pc = .ok (.iastore, 1)) (kk : GG Γ (pc + 1) lo st (upI w k0 z.toNat x) k n) : GG Γ pc lo (ai x :: ai z :: ar k0 :: st) w k n := g_iast h z.toNat hsh (by omega) (by omega) hb hd kk
theorem g_zast2 (h : OKB Γ cc own nL) {k0 nn : Nat} {z x : Int} (hsh : w.1 k0 = (3, nn)) (h0 : 0 ≤ z) (hi : z < (nn : Int)) (hb : nn < 2147483648) (hx : x = 0 ∨ x = 1) (hd : decode cc pc = .ok (.bastore, 1)) (kk : GG Γ (pc + 1) lo st (upI w k0 z.toNat x) k n) : GG Γ pc lo (ai x :: ai z :: ar k0 :: st) w k n := g_zast h z.toNat hsh (by omega) (by omega) hb hx hd kk
end GMORE
