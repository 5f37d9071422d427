/-! ===== rows: an object made before is thrown, and caught ===== -/
section VXAT
variable {p : Program} {l : Launch} {e : Env} {R : Room} {s : State} {m : MethodId} {args : Array Value} {below : List Frame} {meth : Method} {c : Code} {H : Heap} {locs : List Loc} {cells slots : Nat} {Q : State → Prop}
variable {ls : Array Slot} {rest : List Value}
theorem vx_athrow {cc : ByteArray} {pc : Nat} (hexec : p.tables.exec = Jvm.exec) (hb : c.code = cc) {q : Addr} (hdg : decode cc pc = .ok (.athrow, 1)) (k : vx_W p l e R s m args below meth c H locs cells slots Q (F0 m pc ls rest) q) : W p l e R s m args below meth c H locs cells slots Q (F0 m pc ls (.ref q :: rest)) := by
  intro T hT X
  obtain ⟨t, st, hq⟩ := k T hT X
  refine ⟨t, ?_, hq⟩
  have hdg' : decode c.code pc = .ok (.athrow, 1) := by rw [hb]; exact hdg
  jvm_step X.here [X.here.top, hexec, hdg', athrow.wp_sem]
  exact st
end VXAT
section G9C
variable {Γ : Cx} {cc : ByteArray} {own : String} {nL pc k n mc ms : Nat} {lo : List (Option AV)} {st : List AV} {w : AW} {Po : Option AV → AW → Prop} {ret : Option FieldType} {hh : List (Nat × Nat × Nat × Nat)}
/-- a made object is thrown -/
theorem g_athrow (h : OKB Γ cc own nL) {k0 ci nn : Nat} (hsh : w.1 k0 = (100 + ci, nn)) (hci : ci < 13) (hd : decode cc pc = .ok (.athrow, 1)) (kk : GX Γ pc lo st w k n (clN ci) (some k0)) : GG Γ pc lo (ar k0 :: st) w k n := by
  intro ad ls H locs hR hl ho hs hL hX
  obtain ⟨-, cell, q1, q2, q3, q4⟩ := ob_of hR hsh hci
  refine vx_athrow h.1 h.2.1 hd (kk ad ls H locs (ad k0) cell hR hl ho hs.2 hL hX q1 (by rw [q3]) (by rw [q2]; exact (h.2.2.2.2.2.1.1 ci hci).2.1) (fun j hj => ?_))
  cases hj
  exact ⟨hs.1, rfl⟩
/-- caught by the one row of the table; the object is on the stack -/
theorem g_catchK (h : OKB Γ cc own nL) (hX : OKH Γ ret Po hh mc ms) {x : ExceptionTableEntry} {E name : String} {k0 : Nat} (hsp : tableOf hh = [x]) (hcov : covers x pc = true) (h0 : x.catchType ≠ 0) (hlink : Cond.classLink own x.catchType name ∈ gw_tbl) (hcast : Cond.castable E name ∈ lw_tbl) (kk : GG Γ x.handlerPc lo [ar k0] w k n) : GX Γ pc lo st w k n E (some k0) := by
  intro ad ls H locs q ce hR hl ho hs hL hXT hc hv hcl hx
  obtain ⟨hk1, hk2⟩ := hx k0 rfl
  refine vx_catch h.2.2.2.1 [] x [] (hX.2.2.1.trans hsp) (fun z hz => by cases hz) hcov h0 (h.2.2.2.2.1 _ hlink) (va_Nw.use rfl (h.2.2.2.2.2.2.2.2.2.2.2.2.2.2.1 _ hcast rfl)) hc hv hcl ?_
  have h4 := kk ad ls H locs hR hl ho ⟨hk1, trivial⟩ hL hXT
  rw [← hk2]
  exact h4
/-- a virtual call of a method with a table of its own -/
theorem g_callVH (h : OKB Γ cc own nL) (hnl : lo.length = nL) {y : MethodName} {c2 : ByteArray} {maxL lev2 mc2 ms2 na idx ci nn k0 : Nat} {ret2 : Option FieldType} (as : List AV) {Pq : Option AV → AW → Prop} {st0 : List AV} (hsh : w.1 k0 = (100 + ci, nn)) (hM : HTH Γ.1.2.1 y c2 maxL ret2 hh lev2 mc2 ms2 w (ar k0 :: as) Pq) (hC : Cond.methodLink own idx y ∈ gw_tbl ∧ Cond.initialized y.cls ∈ gw_tbl ∧ Cond.codeWith y c2 maxL ret2 hh ∈ gw_tbl ∧ (y.cls ≠ "java/lang/invoke/MethodHandle" ∧ y.cls ≠ "java/lang/invoke/VarHandle" ∧ (parseMethodDescriptor y.desc).map (fun d => d.parameters.length) = some na)) (hci : ci < 13) (hcls : y.cls = clN ci) (hin : Cond.instanceMethod y ∈ gw_tbl) (hse : Cond.selects (clN ci) y y ∈ gw_tbl) (hna : as.length = na) (e0 : st0 = as.reverse ++ ar k0 :: st)
    (hfr : lev2 + 1 ≤ (cxR Γ).frames) (hlc : 8 + (maxL + 11) + 64 * lev2 ≤ (cxR Γ).locals) (hcat : ∀ ad, ((st.map (cv ad)).map fun v => v.category).sum ≤ 8) (hk : k + mc2 ≤ (cxR Γ).cells) (hn : n + ms2 ≤ (cxR Γ).slots) (hd : decode cc pc = .ok (.invokevirtual idx, 3))
    (kk : ∀ r w', Pq r w' → GG Γ (pc + 3) lo (r.toList ++ st) w' (k + mc2) (n + ms2)) : GG Γ pc lo st0 w k n := by
  subst e0
  intro ad ls H locs hR hl ho hs hL hX
  rw [okvs_app] at hs
  obtain ⟨-, cell, q1, q2, q3, q4⟩ := ob_of hR hsh hci
  have hG : GoodIn gw_tbl (.codeWith y c2 maxL ret2 hh :: gw_tbl) := fun w hw => (List.mem_cons.mp hw).elim (fun e => e ▸ tblGood _ hC.2.2.1) (fun q => tblGood w q)
  refine g_afterX (as := as) (vq_runVX (C := clN ci) (b := ad k0) (As := as.map (cv ad)) (rest := st.map (cv ad)) ⟨h.1, h.2.1, h.2.2.1, h.2.2.2.1, h.2.2.2.2.1⟩ (hM (cxZ Γ) ad ⟨hs.2.1, okvs_rev _ hs.1⟩)
    ⟨⟨rfl, rfl, hfr, hlc, pay_in h.2.2.2.2.1 hG, List.mem_cons_self⟩, h.2.2.2.2.1 _ hC.2.2.1, h.2.2.2.2.1 _ hC.2.1, ⟨hC.2.2.2.1, hC.2.2.2.2.1⟩, (fun sig hsig => by
      have h2 := hC.2.2.2.2.2
      rw [hsig] at h2
      rw [List.length_map, hna]
      exact (Option.some.inj h2).symm), h.2.2.2.2.1 _ hC.1, h.2.2.2.2.1 _ hin, h.2.2.2.2.1 _ hse⟩
    ⟨PcA.blind, ⟨cell, q1, by rw [q3]; rfl, by rw [q2]; exact (h.2.2.2.2.2.1.1 ci hci).2.1⟩, fun U hU hW => ⟨rfl, by rw [hU]; exact hR, KK.moved hW.alike h.2.2.2.2.2.1, XF.warm hW h.2.2.2.2.2.2⟩⟩ rfl rfl (by rw [← hnl]; exact hl.1) (by show (as.reverse ++ ar k0 :: st).map (cv ad) = _; rw [rev_map]; rfl) (lv_room (hcat ad)) hd ⟨hk, hn⟩) hl ho hs.2.2 hL hX kk (fun _ _ _ q => q.elim)
end G9C
