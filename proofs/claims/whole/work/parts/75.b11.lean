/-! ===== methods that throw ===== -/
theorem RP_grow {Z : ZT} {ad : Nat → Nat} {w : AW} {H H1 : Heap} (h : RP Z ad w H) (hz : H.size ≤ H1.size) (hq : ∀ q : Nat, q < H.size → H1[q]? = H[q]?) : RP Z ad w H1 :=
  ⟨⟨Nat.le_trans h.1.1 hz, fun q hq1 => (hq q (Nat.lt_of_lt_of_le hq1 h.1.1)).trans (h.1.2 q hq1)⟩, h.2.1, fun k hk => ⟨(h.2.2.1 k hk).1, okC_kept (h.2.2.1 k hk).2 (hq _ (okC_lt (h.2.2.1 k hk).2))⟩, h.2.2.2.1, h.2.2.2.2⟩
/-- where a method has thrown: the class's name, the thrown object's place (none: not one of the world's), the world -/
def XcA (Z : ZT) (ad : Nat → Nat) (w : AW) (Px : String → Option Nat → AW → Prop) : String → Addr → State → State → Prop := fun E q _ t => ∃ (ad' : Nat → Nat) (w' : AW) (x : Option Nat), RP Z ad' w' t.heap ∧ (∀ j, okr w j → ad' j = ad j ∧ okr w' j) ∧ (∀ j, x = some j → okr w' j ∧ ad' j = q) ∧ Px E x w'
/-- a contract that returns or throws -/
def HTX (l : Launch) (y : MethodName) (cc : ByteArray) (maxL : Nat) (ret : Option FieldType) (lev mc ms : Nat) (w : AW) (as : List AV) (Po : Option AV → AW → Prop) (Px : String → Option Nat → AW → Prop) : Prop :=
  ∀ (Z : ZT) (ad : Nat → Nat), okvs w as → vq_Met l y (.code y cc maxL ret :: gw_tbl) ({ frames := lev, cells := mc, slots := ms, locals := 64 * lev }) (PcA Z ad w as) (QcA Z ad w Po) (XcA Z ad w Px) mc ms (zA Z)
def OKX (Γ : Cx) (ret : Option FieldType) (Po : Option AV → AW → Prop) (Px : String → Option Nat → AW → Prop) (mc ms : Nat) : Prop :=
  (cxT Γ).sig.returnType = ret ∧ (cxT Γ).locks = false ∧ (∀ x ∈ (cxC Γ).exceptionTable.toList, False) ∧ Γ.2.1 = vq_MQ (cxB Γ) (QcA (cxZ Γ) Γ.2.2.2.1 Γ.2.2.2.2 Po) (XcA (cxZ Γ) Γ.2.2.2.1 Γ.2.2.2.2 Px) (cxA Γ) (cxS Γ) mc ms (zA (cxZ Γ)) ∧
    zB (cxZ Γ) ≤ (cxS Γ).heap.size ∧ ∀ q : Nat, q < zB (cxZ Γ) → (cxS Γ).heap[q]? = (zH (cxZ Γ))[q]?
theorem HTX.of {l : Launch} {y : MethodName} {cc : ByteArray} {maxL : Nat} {ret : Option FieldType} {lev mc ms : Nat} {w : AW} {as : List AV} {Po : Option AV → AW → Prop} {Px : String → Option Nat → AW → Prop} (hy : plainName y.cls = true) (has : ∀ v ∈ as, is2 (some v) = false) (hle : as.length ≤ maxL)
    (body : ∀ Γ : Cx, OKB Γ cc y.cls maxL → OKX Γ ret Po Px mc ms → cxR Γ = ({ frames := lev, cells := mc, slots := ms, locals := 64 * lev } : Room) → (cxT Γ).name = y.name → Γ.1.2.1 = l → Γ.2.2.2.2 = w → GG Γ 0 (as.map some ++ List.replicate (maxL - as.length) none) [] w 0 0) : HTX l y cc maxL ret lev mc ms w as Po Px := by
  intro Z ad hok
  refine vq_ofW (cc := cc) (maxL := maxL) (ret := ret) hy rfl ?_
  intro p e s m args below meth c s₁ B hml ht hv
  obtain ⟨rfl, hR, hK, hXF⟩ := hv
  have hts := atoms_spec (ws := .code y cc maxL ret :: gw_tbl) B.pre
  have hown : s.vm.findClass y.cls = some m.cls := findClass_of_methodNamed B.named
  have hw := body ((p, l, e, ({ frames := lev, cells := mc, slots := ms, locals := 64 * lev } : Room), s, m, (as.map (cv ad)).toArray, below, meth, c), vq_MQ below (QcA Z ad w Po) (XcA Z ad w Px) (as.map (cv ad)).toArray s mc ms (zA Z), Z, ad, w)
    ⟨B.exec, B.bytes, hml, hown, fun x hx => hts x (List.mem_cons_of_mem _ hx), hK, hXF⟩ ⟨B.returns, B.notSynchronized, ht, rfl, hR.1.1, hR.1.2⟩ rfl (name_of_methodNamed B.named B.method).1 rfl rfl
  have hlen := sl_len (ad := ad) as has
  have hl := lv_entry (as.map (cv ad)) (n := maxL) (by omega)
  rw [lg_entry_eq]
  rw [lo_entry as 0 (maxL - as.length) has] at hl
  refine hw ad _ s.heap [] hR ?_ (okls_entry hok) trivial (fun _ q => by cases q) (fun j hj => ⟨rfl, hj⟩)
  rw [List.length_append, List.length_map, List.length_replicate, show as.length + (maxL - as.length) = maxL by omega]
  exact hl
/-- a throw over pc -/
def GX (Γ : Cx) (pc : Nat) (lo : List (Option AV)) (st : List AV) (w : AW) (k n : Nat) (E : String) (x : Option Nat) : Prop :=
  ∀ (ad : Nat → Nat) (ls : Array Slot) (H : Heap) (locs : List Loc) (q : Addr) (ce : Cell), RP (cxZ Γ) ad w H → lv_has ls lo.length (lp ad lo 0) → okls w lo → okvs w st → (∀ l ∈ locs, zA (cxZ Γ) l.base) → XT Γ ad w → H[q]? = some ce → ce.vm = .none → (cxS Γ).vm.findClass E = some ce.cls → (∀ j, x = some j → okr w j ∧ ad j = q) →
    vx_W Γ.1.1 Γ.1.2.1 Γ.1.2.2.1 (cxR Γ) (cxS Γ) (cxM Γ) (cxA Γ) (cxB Γ) (cxT Γ) (cxC Γ) H locs k n Γ.2.1 (F0 (cxM Γ) pc ls (st.map (cv ad))) q
section GXS
variable {Γ : Cx} {cc : ByteArray} {own : String} {nL pc k n mc ms : Nat} {lo : List (Option AV)} {st : List AV} {w : AW} {Po : Option AV → AW → Prop} {Px : String → Option Nat → AW → Prop} {ret : Option FieldType}
/-- from here the method doesn't throw -/
theorem g_xret {R : Room} (hX : OKX Γ ret Po Px mc ms) (h : OKB Γ cc own nL) (hRm : cxR Γ = R) (kk : ∀ Γ' : Cx, OKB Γ' cc own nL → OKR Γ' ret Po mc ms → cxR Γ' = R → GG Γ' pc lo st w k n) : GG Γ pc lo st w k n := by
  obtain ⟨h1, h2, h3, h4, -⟩ := hX
  have h5 := kk (Γ.1, MQ (cxB Γ) (QcA (cxZ Γ) Γ.2.2.2.1 Γ.2.2.2.2 Po) (cxA Γ) (cxS Γ) mc ms (zA (cxZ Γ)), Γ.2.2) h ⟨h1, h2, rfl⟩ hRm
  intro ad ls H locs hR hl ho hs hL hXT
  have h6 := h5 ad ls H locs hR hl ho hs hL hXT
  show W _ _ _ _ _ _ _ _ _ _ _ _ _ _ Γ.2.1 _
  rw [h4]
  exact vq_ret h6
theorem g_xout {E : String} {x : Option Nat} (hX : OKX Γ ret Po Px mc ms) (hk : k ≤ mc) (hn : n ≤ ms) (hp : Px E x w) : GX Γ pc lo st w k n E x := by
  obtain ⟨h1, h2, h3, h4, -⟩ := hX
  intro ad ls H locs q ce hR hl ho hs hL hXT hc hv hcl hx
  rw [h4]
  exact vq_out (fun z hz => (h3 z hz).elim) h2 hc hv hcl (fun t ht _ => ⟨ad, w, x, by rw [ht]; exact hR, hXT, hx, hp⟩) hL hk hn
theorem g_afterX {as : List AV} {Pq : Option AV → AW → Prop} {Px2 : String → Option Nat → AW → Prop} {ad : Nat → Nat} {ls : Array Slot} {H : Heap} {locs : List Loc} {st0 : List Value} {mc2 ms2 : Nat} {aa : Array Value} (hr : vq_Run Γ.1.1 Γ.1.2.1 Γ.1.2.2.1 (cxR Γ) (cxS Γ) (cxM Γ) (cxA Γ) (cxB Γ) (cxT Γ) (cxC Γ) H locs k n mc2 ms2 (F0 (cxM Γ) pc ls st0) (st.map (cv ad)) (QcA (cxZ Γ) ad w Pq aa) (XcA (cxZ Γ) ad w Px2) (zA (cxZ Γ)))
    (hl : lv_has ls lo.length (lp ad lo 0)) (ho : okls w lo) (hs : okvs w st) (hL : ∀ l ∈ locs, zA (cxZ Γ) l.base) (hX : XT Γ ad w)
    (kk : ∀ r w', Pq r w' → GG Γ (pc + 3) lo (r.toList ++ st) w' (k + mc2) (n + ms2)) (kx : ∀ E x w', Px2 E x w' → GX Γ pc lo st w' (k + mc2) (n + ms2) E x) : WW Γ H locs k n (F0 (cxM Γ) pc ls st0) := by
  intro T hT X
  rcases hr T hT X with ⟨v, st₀, t, T', L, h0, X', hL2, e1, e2, ⟨r, ad', w', hv, hR', hgm, hq, hp⟩, stp⟩ | ⟨q, st₀, t, T', L, E, ce, h0, X', hL2, e1, e2, ⟨ad', w', x, hR', hgm, hx, hp⟩, hce, hcv, hcl, stp⟩
  · have hg : ∀ j, okr w j → ad' j = ad j := fun j hj => (hgm j hj).1
    have hm : ∀ j, okr w j → okr w' j := fun j hj => (hgm j hj).2
    have hv2 : v = r.map (cv ad') := Outcome.returned.inj hv
    subst hv2
    have hst : (Option.map (cv ad') r).toList ++ st.map (cv ad) = (r.toList ++ st).map (cv ad') := by
      rw [List.map_append, st_agree hg st hs]
      cases r <;> rfl
    have hok2 : okvs w' (r.toList ++ st) := by
      cases r with
      | none => exact okvs_mono hm _ hs
      | some v => exact ⟨hq, okvs_mono hm _ hs⟩
    have h4 := kk r w' hp ad' ls T'.heap (locs ++ L) (by rw [e1]; exact hR') (by rw [lp_agree hg lo 0 ho]; exact hl) (fun i u hu => okv_mono hm u (ho i u hu)) hok2 (fun q hq2 => (List.mem_append.mp hq2).elim (hL q) (hL2 q)) (fun j hj => ⟨(hg j (hX j hj).2).trans (hX j hj).1, hm j (hX j hj).2⟩)
    rw [← hst] at h4
    obtain ⟨t2, a1, b1⟩ := h4 T' rfl X'
    exact ⟨t2, stp t2 a1, b1⟩
  · have hg : ∀ j, okr w j → ad' j = ad j := fun j hj => (hgm j hj).1
    have hm : ∀ j, okr w j → okr w' j := fun j hj => (hgm j hj).2
    have h4 := kx E x w' hp ad' ls T'.heap (locs ++ L) q ce (by rw [e1]; exact hR') (by rw [lp_agree hg lo 0 ho]; exact hl) (fun i u hu => okv_mono hm u (ho i u hu)) (okvs_mono hm _ hs) (fun q hq2 => (List.mem_append.mp hq2).elim (hL q) (hL2 q)) (fun j hj => ⟨(hg j (hX j hj).2).trans (hX j hj).1, hm j (hX j hj).2⟩) (by rw [e1]; exact hce) hcv hcl hx
    rw [st_agree hg st hs] at h4
    obtain ⟨t2, a1, b1⟩ := h4 T' rfl X'
    exact ⟨t2, stp.trans a1, b1⟩
theorem g_callVq (h : OKB Γ cc own nL) (hnl : lo.length = nL) {y : MethodName} {c2 : ByteArray} {maxL lev2 mc2 ms2 na idx ci nn k0 : Nat} {ret2 : Option FieldType} (as : List AV) {Pq : Option AV → AW → Prop} {Px2 : String → Option Nat → AW → Prop} {st0 : List AV} (hsh : w.1 k0 = (100 + ci, nn)) (hM : HTX Γ.1.2.1 y c2 maxL ret2 lev2 mc2 ms2 w (ar k0 :: as) Pq Px2) (hC : CL own idx y c2 maxL ret2 na) (hci : ci < 13) (hcls : y.cls = clN ci) (hin : Cond.instanceMethod y ∈ gw_tbl) (hse : Cond.selects (clN ci) y y ∈ gw_tbl) (hna : as.length = na) (e0 : st0 = as.reverse ++ ar k0 :: st)
    (hfr : lev2 + 1 ≤ (cxR Γ).frames) (hlc : 8 + (maxL + 11) + 64 * lev2 ≤ (cxR Γ).locals) (hcat : ∀ ad, ((st.map (cv ad)).map fun v => v.category).sum ≤ 8) (hk : k + mc2 ≤ (cxR Γ).cells) (hn : n + ms2 ≤ (cxR Γ).slots) (hd : decode cc pc = .ok (.invokevirtual idx, 3))
    (kk : ∀ r w', Pq r w' → GG Γ (pc + 3) lo (r.toList ++ st) w' (k + mc2) (n + ms2)) (kx : ∀ E x w', Px2 E x w' → GX Γ pc lo st w' (k + mc2) (n + ms2) E x) : GG Γ pc lo st0 w k n := by
  subst e0
  intro ad ls H locs hR hl ho hs hL hX
  rw [okvs_app] at hs
  obtain ⟨-, cell, q1, q2, q3, q4⟩ := ob_of hR hsh hci
  refine g_afterX (as := as) (vq_runV (C := clN ci) (b := ad k0) (As := as.map (cv ad)) (rest := st.map (cv ad)) ⟨h.1, h.2.1, h.2.2.1, h.2.2.2.1, h.2.2.2.2.1⟩ (hM (cxZ Γ) ad ⟨hs.2.1, okvs_rev _ hs.1⟩) ⟨callB_of na h.2.2.2.2.1 (ws_good hC.2.2.1) rfl rfl rfl (h.2.2.2.2.1 _ hC.2.1) (h.2.2.2.2.1 _ hC.1) hC.2.2.2 ⟨hfr, hlc⟩, h.2.2.2.2.1 _ hin, h.2.2.2.2.1 _ hse⟩
    ⟨PcA.blind, ⟨cell, q1, by rw [q3]; rfl, by rw [q2]; exact (h.2.2.2.2.2.1.1 ci hci).2.1⟩, fun U hU hW => ⟨rfl, by rw [hU]; exact hR, KK.moved hW.alike h.2.2.2.2.2.1, XF.warm hW h.2.2.2.2.2.2⟩⟩ rfl (by rw [List.length_map]; exact hna) (by rw [← hnl]; exact hl.1) (by show (as.reverse ++ ar k0 :: st).map (cv ad) = _; rw [rev_map]; rfl) (lv_room (hcat ad)) hd ⟨hk, hn⟩) hl ho hs.2.2 hL hX kk kx
/-- 'throw new E()' of a class of the JDK's -/
theorem g_throw0 (h : OKB Γ cc own nL) (hnl : lo.length = nL) (hst : Γ.1.2.1.stackTraces = false) (hX : OKX Γ ret Po Px mc ms) {cls : String} {names : List String} {ik ic : Nat} (hcls : Bundle.fit cls = true) (hnames : ∀ x ∈ names, Bundle.fit x = true) (hk : Cond.classLink own ik cls ∈ gw_tbl) (hini : Cond.initialized cls ∈ gw_tbl)
    (hT : ∀ w ∈ vx_at0 own ic cls names, w ∈ lw_tbl ∧ (goodWord w || exW w) = true) (hgood : ∀ w ∈ Cond.classLink own ik cls :: Cond.initialized cls :: vx_at0 own ic cls names, vx_ot w = true)
    (d0 : decode cc pc = .ok (.new ik, 3)) (d3 : decode cc (pc + 3) = .ok (.dup, 1)) (d4 : decode cc (pc + 4) = .ok (.invokespecial ic, 3)) (d7 : decode cc (pc + 7) = .ok (.athrow, 1))
    (hfr : names.length + 3 < (cxR Γ).frames) (hlc : ∀ ad, ((st.map (cv ad)).map fun v => v.category).sum + (13 * (names.length + 1) + 42) ≤ (cxR Γ).locals) (hkc : k + 1 ≤ (cxR Γ).cells) (hns : n + 6 ≤ (cxR Γ).slots) (hk1 : k + 1 ≤ mc) (hn6 : n + 6 ≤ ms) (hp : Px cls none w) : GG Γ pc lo st w k n := by
  obtain ⟨h1, h2, h3, h4, z1, z2⟩ := hX
  intro ad ls H locs hR hl ho hs hL hXT T hTH X
  have hsz : (cxS Γ).heap.size ≤ H.size := by rw [← hTH]; exact (vx_frame (U := T) X.same).1
  have hS : va_S (zA (cxZ Γ)) (cxS Γ).heap H locs := ⟨hsz, fun q _ hq => (hR.1.2 q (Nat.not_le.mp hq)).trans (z2 q (Nat.not_le.mp hq)).symm, hL⟩
  have hU := h.2.2.2.2.2.2.2.2.2.2.1
  have hN := h.2.2.2.2.2.2.2.2.2.2.2.1
  have hw : ∀ v ∈ vx_at0 own ic cls names, v.before (cxA Γ) (cxS Γ) = true := by
    intro v hv
    obtain ⟨a1, a2⟩ := hT v hv
    cases hg : goodWord v
    · rw [hg] at a2
      have a3 : va_Nw v (cxS Γ) := h.2.2.2.2.2.2.2.2.2.2.2.2.2.2.1 v a1 a2
      rcases exW_ex a2 with ⟨C, rfl⟩ | ⟨a, b, rfl⟩ | ⟨y, rfl⟩
      · exact va_AO.use a3
      · exact va_Nw.use rfl a3
      · exact va_Nw.use rfl a3
    · exact h.2.2.2.2.1 v (gw_in a1 hg)
  have h5 := vq_throw0 (names := names) (A := zA (cxZ Γ)) (Qc := QcA (cxZ Γ) Γ.2.2.2.1 Γ.2.2.2.2 Po) (XC := XcA (cxZ Γ) Γ.2.2.2.1 Γ.2.2.2.2 Px) (rest := st.map (cv ad)) (free := zA (cxZ Γ)) h.1 h.2.1 hst h.2.2.2.1 hcls hnames (h.2.2.2.2.1 _ hk) (h.2.2.2.2.1 _ hini) hw hgood
    (hU.kept (fun a _ hq => z2 a (Nat.not_le.mp hq))) (hN.kept (fun a _ hq => z2 a (Nat.not_le.mp hq))) hS (by rw [h.2.2.1, ← hnl]; exact hl.1) d0 d3 d4 d7 (fun x hx => (h3 x hx).elim) hfr (hlc ad) hkc hns h2 (fun t _ b1 b2 => ⟨ad, w, none, RP_grow hR b1 b2, hXT, (fun j q => by cases q), hp⟩) hL hk1 hn6 T hTH X
  rw [← h4] at h5
  exact h5
end GXS
