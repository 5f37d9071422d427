/-! ===== methods with a table of their own, that catch all that is thrown ===== -/
theorem lp_drop {ad : Nat → Nat} {lo : List (Option AV)} {i : Nat} {x : Value} (hi : i < lo.length) (hk : stk lo i = true) : ∀ q ∈ lp ad (lo.set i none) 0, q ∈ (i, x) :: (lp ad lo 0).filter (fun q => !(q.1 == i) && !(q.1 + 1 == i && q.2.category == 2)) := by
  intro q hq
  obtain ⟨j, u, h1, h2⟩ := lp_of _ _ _ hq
  rw [Nat.zero_add] at h2
  subst h2
  by_cases hj : j = i
  · subst hj
    rw [List.getElem?_set_self hi] at h1
    cases h1
  · rw [List.getElem?_set_ne (Ne.symm hj)] at h1
    refine List.mem_cons_of_mem _ (List.mem_filter.mpr ⟨?_, ?_⟩)
    · have := lp_get (ad := ad) lo 0 j u h1
      rwa [Nat.zero_add] at this
    · simp only [Bool.and_eq_true, Bool.not_eq_true', beq_eq_false_iff_ne, ne_eq, Bool.and_eq_false_iff]
      refine ⟨hj, ?_⟩
      by_cases hji : j + 1 = i
      · subst hji
        refine Or.inr fun hc => ?_
        have h3 := (cv_cat ad u).mp hc
        simp only [stk, List.getD_eq_getElem?_getD, h1, Option.getD_some, h3] at hk
        cases hk
      · exact Or.inl hji
theorem okls_drop {w : AW} {lo : List (Option AV)} (h : okls w lo) (i : Nat) : okls w (lo.set i none) := by
  intro j u hj
  by_cases hji : j = i
  · subst hji
    rw [List.getElem?_set] at hj
    simp only [if_pos] at hj
    split at hj <;> cases hj
  · rw [List.getElem?_set_ne (Ne.symm hji)] at hj
    exact h j u hj
/-- a contract of a method with a table of its own -/
def HTH (l : Launch) (y : MethodName) (cc : ByteArray) (maxL : Nat) (ret : Option FieldType) (hh : List (Nat × Nat × Nat × Nat)) (lev mc ms : Nat) (w : AW) (as : List AV) (Po : Option AV → AW → Prop) : Prop :=
  ∀ (Z : ZT) (ad : Nat → Nat), okvs w as → vq_Met l y (.codeWith y cc maxL ret hh :: gw_tbl) ({ frames := lev, cells := mc, slots := ms, locals := 64 * lev }) (PcA Z ad w as) (QcA Z ad w Po) (XcA Z ad w (fun _ _ _ => False)) mc ms (zA Z)
def OKH (Γ : Cx) (ret : Option FieldType) (Po : Option AV → AW → Prop) (hh : List (Nat × Nat × Nat × Nat)) (mc ms : Nat) : Prop :=
  (cxT Γ).sig.returnType = ret ∧ (cxT Γ).locks = false ∧ (cxC Γ).exceptionTable.toList = tableOf hh ∧ Γ.2.1 = vq_MQ (cxB Γ) (QcA (cxZ Γ) Γ.2.2.2.1 Γ.2.2.2.2 Po) (XcA (cxZ Γ) Γ.2.2.2.1 Γ.2.2.2.2 (fun _ _ _ => False)) (cxA Γ) (cxS Γ) mc ms (zA (cxZ Γ))
theorem HTH.of {l : Launch} {y : MethodName} {cc : ByteArray} {maxL : Nat} {ret : Option FieldType} {hh : List (Nat × Nat × Nat × Nat)} {lev mc ms : Nat} {w : AW} {as : List AV} {Po : Option AV → AW → Prop} (hy : plainName y.cls = true) (has : ∀ v ∈ as, is2 (some v) = false) (hle : as.length ≤ maxL)
    (body : ∀ Γ : Cx, OKB Γ cc y.cls maxL → OKH Γ ret Po hh mc ms → cxR Γ = ({ frames := lev, cells := mc, slots := ms, locals := 64 * lev } : Room) → (cxT Γ).name = y.name → Γ.1.2.1 = l → Γ.2.2.2.2 = w → GG Γ 0 (as.map some ++ List.replicate (maxL - as.length) none) [] w 0 0) : HTH l y cc maxL ret hh lev mc ms w as Po := by
  intro Z ad hok
  refine vq_ofWH (cc := cc) (maxL := maxL) (ret := ret) hy rfl ?_
  intro p e s m args below meth c s₁ B hml hv
  obtain ⟨rfl, hR, hK, hXF⟩ := hv
  have hts := atoms_spec (ws := .codeWith y cc maxL ret hh :: gw_tbl) B.pre
  have ht := vx_table (x := y) B (hts _ List.mem_cons_self)
  have hown : s.vm.findClass y.cls = some m.cls := findClass_of_methodNamed B.named
  have hw := body ((p, l, e, ({ frames := lev, cells := mc, slots := ms, locals := 64 * lev } : Room), s, m, (as.map (cv ad)).toArray, below, meth, c), vq_MQ below (QcA Z ad w Po) (XcA Z ad w (fun _ _ _ => False)) (as.map (cv ad)).toArray s mc ms (zA Z), Z, ad, w)
    ⟨B.exec, B.bytes, hml, hown, fun x hx => hts x (List.mem_cons_of_mem _ hx), hK, hXF⟩ ⟨B.returns, B.notSynchronized, ht, rfl⟩ rfl (name_of_methodNamed B.named B.method).1 rfl rfl
  have hlen := sl_len (ad := ad) as has
  have hl := lv_entry (as.map (cv ad)) (n := maxL) (by omega)
  rw [lg_entry_eq]
  rw [lo_entry as 0 (maxL - as.length) has] at hl
  refine hw ad _ s.heap [] hR ?_ (okls_entry hok) trivial (fun _ q => by cases q) (fun j hj => ⟨rfl, hj⟩)
  rw [List.length_append, List.length_map, List.length_replicate, show as.length + (maxL - as.length) = maxL by omega]
  exact hl
section GHS
variable {Γ : Cx} {cc : ByteArray} {own : String} {nL pc k n mc ms : Nat} {lo : List (Option AV)} {st : List AV} {w : AW} {Po : Option AV → AW → Prop} {ret : Option FieldType} {hh : List (Nat × Nat × Nat × Nat)}
theorem g_hret {R : Room} (hX : OKH Γ ret Po hh mc ms) (h : OKB Γ cc own nL) (hRm : cxR Γ = R) (kk : ∀ Γ' : Cx, OKB Γ' cc own nL → OKR Γ' ret Po mc ms → cxR Γ' = R → GG Γ' pc lo st w k n) : GG Γ pc lo st w k n := by
  obtain ⟨h1, h2, h3, h4⟩ := hX
  have h5 := kk (Γ.1, MQ (cxB Γ) (QcA (cxZ Γ) Γ.2.2.2.1 Γ.2.2.2.2 Po) (cxA Γ) (cxS Γ) mc ms (zA (cxZ Γ)), Γ.2.2) h ⟨h1, h2, rfl⟩ hRm
  intro ad ls H locs hR hl ho hs hL hXT
  have h6 := h5 ad ls H locs hR hl ho hs hL hXT
  show W _ _ _ _ _ _ _ _ _ _ _ _ _ _ Γ.2.1 _
  rw [h4]
  exact vq_ret h6
/-- caught by the one row of the table, and put into a local that nobody reads -/
theorem g_catchA (h : OKB Γ cc own nL) (hX : OKH Γ ret Po hh mc ms) {x : ExceptionTableEntry} {E name : String} {xo : Option Nat} {i : Fin 4} (hsp : tableOf hh = [x]) (hcov : covers x pc = true) (h0 : x.catchType ≠ 0) (hlink : Cond.classLink own x.catchType name ∈ gw_tbl) (hcast : Cond.castable E name ∈ lw_tbl) (hd : decode cc x.handlerPc = .ok (.astore_n i, 1)) (hi : (i : Nat) < lo.length) (hk : stk lo i = true) {lo' : List (Option AV)} (hlo : lo.set (i : Nat) none = lo') (kk : GG Γ (x.handlerPc + 1) lo' [] w k n) : GX Γ pc lo st w k n E xo := by
  subst hlo
  intro ad ls H locs q ce hR hl ho hs hL hXT hc hv hcl hx
  refine vx_catch h.2.2.2.1 [] x [] (hX.2.2.1.trans hsp) (fun z hz => by cases hz) hcov h0 (h.2.2.2.2.1 _ hlink) (va_Nw.use rfl (h.2.2.2.2.2.2.2.2.2.2.2.2.2.2.1 _ hcast rfl)) hc hv hcl ?_
  refine lv_astore_n h.1 h.2.1 hd rfl hl hi rfl (fun ls' hl2 => kk ad ls' H locs hR ?_ (okls_drop ho _) trivial hL hXT)
  rw [List.length_set]
  exact lp_le hl2 (lp_drop hi hk)
/-- a static call of a method with a table of its own -/
theorem g_callSH (h : OKB Γ cc own nL) (hnl : lo.length = nL) {y : MethodName} {c2 : ByteArray} {maxL lev2 mc2 ms2 na idx : Nat} {ret2 : Option FieldType} (as : List AV) {Pq : Option AV → AW → Prop} {st0 : List AV} (hM : HTH Γ.1.2.1 y c2 maxL ret2 hh lev2 mc2 ms2 w as Pq)
    (hC : Cond.methodLink own idx y ∈ gw_tbl ∧ Cond.initialized y.cls ∈ gw_tbl ∧ Cond.codeWith y c2 maxL ret2 hh ∈ gw_tbl ∧ (y.cls ≠ "java/lang/invoke/MethodHandle" ∧ y.cls ≠ "java/lang/invoke/VarHandle" ∧ (parseMethodDescriptor y.desc).map (fun d => d.parameters.length) = some na)) (hst : Cond.static y ∈ gw_tbl) (hna : as.length = na) (e0 : st0 = as.reverse ++ st)
    (hfr : lev2 + 1 ≤ (cxR Γ).frames) (hlc : 8 + (maxL + 11) + 64 * lev2 ≤ (cxR Γ).locals) (hcat : ∀ ad, ((st.map (cv ad)).map fun v => v.category).sum ≤ 8) (hk : k + mc2 ≤ (cxR Γ).cells) (hn : n + ms2 ≤ (cxR Γ).slots) (hd : decode cc pc = .ok (.invokestatic idx, 3))
    (kk : ∀ r w', Pq r w' → GG Γ (pc + 3) lo (r.toList ++ st) w' (k + mc2) (n + ms2)) : GG Γ pc lo st0 w k n := by
  subst e0
  intro ad ls H locs hR hl ho hs hL hX
  rw [okvs_app] at hs
  have hG : GoodIn gw_tbl (.codeWith y c2 maxL ret2 hh :: gw_tbl) := fun w hw => (List.mem_cons.mp hw).elim (fun e => e ▸ tblGood _ hC.2.2.1) (fun q => tblGood w q)
  refine g_afterX (as := as) (vq_runSX (As := as.map (cv ad)) (rest := st.map (cv ad)) ⟨h.1, h.2.1, h.2.2.1, h.2.2.2.1, h.2.2.2.2.1⟩ (hM (cxZ Γ) ad (okvs_rev _ hs.1))
    ⟨⟨rfl, rfl, hfr, hlc, pay_in h.2.2.2.2.1 hG, List.mem_cons_self⟩, h.2.2.2.2.1 _ hC.2.2.1, h.2.2.2.2.1 _ hC.2.1, ⟨hC.2.2.2.1, hC.2.2.2.2.1⟩, (fun sig hsig => by
      have h2 := hC.2.2.2.2.2
      rw [hsig] at h2
      exact (Option.some.inj h2).symm), h.2.2.2.2.1 _ hC.1, h.2.2.2.2.1 _ hst⟩
    ⟨PcA.blind, fun U hU hW => ⟨rfl, by rw [hU]; exact hR, KK.moved hW.alike h.2.2.2.2.2.1, XF.warm hW h.2.2.2.2.2.2⟩⟩ rfl (by rw [List.length_map]; exact hna) (by rw [← hnl]; exact hl.1) (rev_map ad as st) (lv_room (hcat ad)) hd ⟨hk, hn⟩) hl ho hs.2 hL hX kk (fun _ _ _ q => q.elim)
end GHS
