/-! ===== the law: rows of the script, calls of both ===== -/
theorem i32_toInt (x : Int32) : R32 x.toInt := ⟨Int32.minValue_le_toInt x, by
  have h1 := Int32.toInt_le x
  have h2 : Int32.maxValue.toInt = 2147483647 := by decide
  omega⟩
theorem i32_ofInt (x : Int32) : Int32.ofInt x.toInt = x := Int32.ofInt_toInt x
/-- the script lies at the foreign place 20000 -/
def SCR (Γ : Cx) (L : Nat) (xs : Nat → Int32) : Prop := va_X ((cxZ Γ).2.2.2.1 20000) L xs (cxS Γ) (zH (cxZ Γ)) ∧ (cxZ Γ).2.2.2.1 20000 < zB (cxZ Γ) ∧ L ≤ 3072
section LAWROW
variable {Γ : Cx} {cc : ByteArray} {own : String} {nL pc k n L : Nat} {lo : List (Option AV)} {st : List AV} {w : AW} {xs : Nat → Int32}
theorem g_ialdS (h : OKB Γ cc own nL) (hS : SCR Γ L xs) {z : Int} (j : Nat) (hz : z = (j : Int)) (hj : j < L) (hd : decode cc pc = .ok (.iaload, 1)) (kk : GG Γ (pc + 1) lo (ai (xs j).toInt :: st) w k n) : GG Γ pc lo (ai z :: ar 20000 :: st) w k n := by
  intro ad ls H locs hR hl ho hs hL hX
  have hk := kk ad ls H locs hR hl ho ⟨trivial, hs.2.2⟩ hL hX
  obtain ⟨⟨scr, h1, h2, h3, h4, h5⟩, hb, hL3⟩ := hS
  obtain ⟨e1, e2⟩ := fo_in (z := z) (N := L) (cell := scr) (by omega) (by omega) (by omega) (by omega)
  have ev : cv ad (ai (xs j).toInt) = .int (xs j) := by show Value.int (Int32.ofInt (xs j).toInt) = _; rw [i32_ofInt]
  rw [List.map_cons, ev] at hk
  rw [List.map_cons, List.map_cons, fo_ad hR (show 20000 ≤ 20000 by decide)]
  refine W.iald (v := .int (xs j)) h.1 h.2.1 (by rw [fo_eq hR (Nat.not_le.mpr hb)]; exact h1) h2 h3 e1 ?_ rfl rfl hd hk
  rw [e2, h5 _ (by omega)]
  subst hz
  rfl
theorem g_alenS (h : OKB Γ cc own nL) (hS : SCR Γ L xs) (hd : decode cc pc = .ok (.arraylength, 1)) (kk : GG Γ (pc + 1) lo (ai (L : Int) :: st) w k n) : GG Γ pc lo (ar 20000 :: st) w k n := by
  intro ad ls H locs hR hl ho hs hL hX
  have hk := kk ad ls H locs hR hl ho ⟨trivial, hs.2⟩ hL hX
  obtain ⟨⟨scr, h1, h2, h3, h4, h5⟩, hb, hL3⟩ := hS
  rw [List.map_cons, fo_ad hR (show 20000 ≤ 20000 by decide)]
  exact W.alen (n := Int32.ofNat L) h.1 h.2.1 (by rw [fo_eq hR (Nat.not_le.mpr hb)]; exact h1) h2 (by rw [h4]) rfl rfl hd hk
theorem g_icmp_eqS (h : OKB Γ cc own nL) {a : Int} {off : Int} {tgt : Nat} (hd : decode cc pc = .ok (.if_icmp .eq off, 3)) (ht : (pc : Int) + off = (tgt : Int)) (kt : GG Γ tgt lo st w k n) : GG Γ pc lo (ai a :: ai a :: st) w k n := by
  intro ad ls H locs hR hl ho hs hL hX
  refine lv_icmp_eq h.1 h.2.1 hd ht (fun q => ?_) (fun q => absurd rfl q)
  exact kt ad ls H locs hR hl ho hs.2.2 hL hX
/-- an int of the script is pushed -/
theorem g_sarg (h : OKB Γ cc own nL) (hS : SCR Γ L xs) {i j : Nat} (hl0 : lo[0]? = some (some (ar 20000))) (hl4 : lo[4]? = some (some (ai (6 * (i : Int))))) (hj : 6 * i + j < L) (d0 : decode cc pc = .ok (.aload_n 0, 1)) (d1 : decode cc (pc + 1) = .ok (.iload 4, 2)) (d2 : decode cc (pc + 3) = .ok (.iconst (j : Int), 1)) (d3 : decode cc (pc + 4) = .ok (.iadd, 1)) (d4 : decode cc (pc + 5) = .ok (.iaload, 1)) (kk : GG Γ (pc + 6) lo (ai (xs (6 * i + j)).toInt :: st) w k n) : GG Γ pc lo st w k n := by
  refine g_aload_n h d0 hl0 ?_
  refine g_iload h d1 hl4 ?_
  refine g_iconst h d2 ?_
  refine g_iadd h d3 ?_
  exact g_ialdS h hS (6 * i + j) (by omega) hj d4 kk
end LAWROW
section LAWCALL
variable {Γ : Cx} {i k n pX pM idX idM na mX lX mM lM : Nat} {lo : List (Option AV)} {w : AW} {yX yM : MethodName} {cX cM : ByteArray} {ret : FieldType} {as : List AV} {off : Int}
set_option maxHeartbeats 1000000 in
/-- a call of X, then of M, their answers compared -/
theorem g_both (h : OKB Γ cL_law RL 7) (hRm : cxR Γ = room_1) (hnl : lo.length = 7) (hC : CALL Γ.1.2.1 i w yX cX mX lX yM cM mM lM ret as) (h0 : w.1 0 = (109, 0)) (clX : CL RL idX yX cX mX (some ret) na) (clM : CL RL idM yM cM mM (some ret) na) (hna : as.length = na) (e1 : yX.cls = clN 9) (inX : Cond.instanceMethod yX ∈ gw_tbl) (seX : Cond.selects (clN 9) yX yX ∈ gw_tbl) (e2 : yM.cls = clN 12) (inM : Cond.instanceMethod yM ∈ gw_tbl) (seM : Cond.selects (clN 12) yM yM ∈ gw_tbl)
    (hX : lX ≤ 60 ∧ mX ≤ 40) (hM : lM ≤ 60 ∧ mM ≤ 40) (hk : k + 9 ≤ 601024) (hn : n + 906 ≤ 7293034) (dX : decode cL_law pX = .ok (.invokevirtual idX, 3)) (dM : decode cL_law pM = .ok (.invokevirtual idM, 3)) (dE : decode cL_law (pM + 3) = .ok (.if_icmp .eq off, 3)) (hE : ((pM + 3 : Nat) : Int) + off = ((1636 : Nat) : Int))
    (hargs : ∀ (z : Int) (w1 : AW) (k1 n1 : Nat), GG Γ pM lo (as.reverse ++ ar 400 :: [ai z]) w1 k1 n1 → GG Γ (pX + 3) lo [ai z] w1 k1 n1) (kk : ∀ u, REL (i + 1) u u → GG Γ 1636 lo [] u (k + 9) (n + 906)) : GG Γ pX lo (as.reverse ++ ar 0 :: []) w k n := by
  obtain ⟨mc, ms, m1, m2, HX⟩ := hC
  have r1 : (cxR Γ).frames = 2048 := by rw [hRm]; rfl
  have r2 : (cxR Γ).locals = 84000 := by rw [hRm]; rfl
  have r3 : (cxR Γ).cells = 601024 := by rw [hRm]; rfl
  have r4 : (cxR Γ).slots = 7293034 := by rw [hRm]; rfl
  refine g_callV h hnl (ci := 9) as h0 HX clX (by decide) e1 inX seX hna rfl (by omega) (by omega) (fun _ => Nat.le_of_ble_eq_true rfl) (by omega) (by omega) dX (fun r w1 hp => ?_)
  obtain ⟨h400, z, rfl, mc', ms', m3, m4, HM⟩ := hp
  refine hargs z w1 _ _ ?_
  refine g_callV h hnl (ci := 12) as h400 HM clM (by decide) e2 inM seM hna rfl (by omega) (by omega) (fun _ => Nat.le_of_ble_eq_true rfl) (by omega) (by omega) dM (fun r' u hp' => ?_)
  obtain ⟨rfl, hu⟩ := hp'
  refine g_icmp_eqS h dE hE ?_
  exact g_kn2 (k + 9) (n + 906) (by omega) (by omega) (kk u hu)
set_option maxHeartbeats 1000000 in
/-- the same, M's with a table of its own -/
theorem g_bothH {hh : List (Nat × Nat × Nat × Nat)} (h : OKB Γ cL_law RL 7) (hRm : cxR Γ = room_1) (hnl : lo.length = 7) (hC : CALLH Γ.1.2.1 i w yX cX mX lX yM cM mM lM hh ret as) (h0 : w.1 0 = (109, 0)) (clX : CL RL idX yX cX mX (some ret) na) (clM : Cond.methodLink RL idM yM ∈ gw_tbl ∧ Cond.initialized yM.cls ∈ gw_tbl ∧ Cond.codeWith yM cM mM (some ret) hh ∈ gw_tbl ∧ (yM.cls ≠ "java/lang/invoke/MethodHandle" ∧ yM.cls ≠ "java/lang/invoke/VarHandle" ∧ (parseMethodDescriptor yM.desc).map (fun d => d.parameters.length) = some na)) (hna : as.length = na) (e1 : yX.cls = clN 9) (inX : Cond.instanceMethod yX ∈ gw_tbl) (seX : Cond.selects (clN 9) yX yX ∈ gw_tbl) (e2 : yM.cls = clN 12) (inM : Cond.instanceMethod yM ∈ gw_tbl) (seM : Cond.selects (clN 12) yM yM ∈ gw_tbl)
    (hX : lX ≤ 60 ∧ mX ≤ 40) (hM : lM ≤ 60 ∧ mM ≤ 40) (hk : k + 9 ≤ 601024) (hn : n + 906 ≤ 7293034) (dX : decode cL_law pX = .ok (.invokevirtual idX, 3)) (dM : decode cL_law pM = .ok (.invokevirtual idM, 3)) (dE : decode cL_law (pM + 3) = .ok (.if_icmp .eq off, 3)) (hE : ((pM + 3 : Nat) : Int) + off = ((1636 : Nat) : Int))
    (hargs : ∀ (z : Int) (w1 : AW) (k1 n1 : Nat), GG Γ pM lo (as.reverse ++ ar 400 :: [ai z]) w1 k1 n1 → GG Γ (pX + 3) lo [ai z] w1 k1 n1) (kk : ∀ u, REL (i + 1) u u → GG Γ 1636 lo [] u (k + 9) (n + 906)) : GG Γ pX lo (as.reverse ++ ar 0 :: []) w k n := by
  obtain ⟨mc, ms, m1, m2, HX⟩ := hC
  have r1 : (cxR Γ).frames = 2048 := by rw [hRm]; rfl
  have r2 : (cxR Γ).locals = 84000 := by rw [hRm]; rfl
  have r3 : (cxR Γ).cells = 601024 := by rw [hRm]; rfl
  have r4 : (cxR Γ).slots = 7293034 := by rw [hRm]; rfl
  refine g_callV h hnl (ci := 9) as h0 HX clX (by decide) e1 inX seX hna rfl (by omega) (by omega) (fun _ => Nat.le_of_ble_eq_true rfl) (by omega) (by omega) dX (fun r w1 hp => ?_)
  obtain ⟨h400, z, rfl, mc', ms', m3, m4, HM⟩ := hp
  refine hargs z w1 _ _ ?_
  refine g_callVH h hnl (ci := 12) as h400 HM clM (by decide) e2 inM seM hna rfl (by omega) (by omega) (fun _ => Nat.le_of_ble_eq_true rfl) (by omega) (by omega) dM (fun r' u hp' => ?_)
  obtain ⟨rfl, hu⟩ := hp'
  refine g_icmp_eqS h dE hE ?_
  exact g_kn2 (k + 9) (n + 906) (by omega) (by omega) (kk u hu)
end LAWCALL
