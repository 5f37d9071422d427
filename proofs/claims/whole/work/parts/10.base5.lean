/-! ===== contracts, calls, ends ===== -/
abbrev okq (w : AW) : Option AV → Prop
  | some v => okv w v
  | none => True
def PcA (Z : ZT) (ad : Nat → Nat) (w : AW) (as : List AV) : Array Value → State → Prop := fun v U => v = (as.map (cv ad)).toArray ∧ RP Z ad w U.heap ∧ KK Z U ∧ XF Z U
def QcA (Z : ZT) (ad : Nat → Nat) (w : AW) (Po : Option AV → AW → Prop) : Array Value → State → Outcome → State → Prop := fun _ _ o t => ∃ (r : Option AV) (ad' : Nat → Nat) (w' : AW), o = .returned (r.map (cv ad')) ∧ RP Z ad' w' t.heap ∧ (∀ j, okr w j → ad' j = ad j ∧ okr w' j) ∧ okq w' r ∧ Po r w'
/-- method y, called in world w with as, comes back, with an answer and a world of which Po holds; lev levels of calls, mc new cells of ms slots at most -/
def HT (l : Launch) (y : MethodName) (cc : ByteArray) (maxL : Nat) (ret : Option FieldType) (lev mc ms : Nat) (w : AW) (as : List AV) (Po : Option AV → AW → Prop) : Prop :=
  ∀ (Z : ZT) (ad : Nat → Nat), okvs w as → Met l y (.code y cc maxL ret :: gw_tbl) ({ frames := lev, cells := mc, slots := ms, locals := 64 * lev }) (PcA Z ad w as) (QcA Z ad w Po) mc ms (zA Z)
def OKR (Γ : Cx) (ret : Option FieldType) (Po : Option AV → AW → Prop) (mc ms : Nat) : Prop :=
  (cxT Γ).sig.returnType = ret ∧ (cxT Γ).locks = false ∧ Γ.2.1 = MQ (cxB Γ) (QcA (cxZ Γ) Γ.2.2.2.1 Γ.2.2.2.2 Po) (cxA Γ) (cxS Γ) mc ms (zA (cxZ Γ))
theorem tblGood : GoodIn gw_tbl gw_tbl := fun _ hw => ⟨hw, good_of_word (List.mem_filter.mp hw).2⟩
theorem PcA.blind {Z : ZT} {ad : Nat → Nat} {w : AW} {as : List AV} : FrameBlind (PcA Z ad w as) := fun a U g mk q => ⟨q.1, q.2.1, KK.moved (u := U) (U := U.calling g mk a) (Vm.Alike.refl U.vm) q.2.2.1, XF.warm (s := U) (U := U.calling g mk a) (State.WarmedH.refl U) q.2.2.2⟩
theorem lo_entry {ad : Nat → Nat} : ∀ (as : List AV) (n m : Nat), (∀ v ∈ as, is2 (some v) = false) → lv_args n (as.map (cv ad)) = lp ad (as.map some ++ List.replicate m none) n
  | [], n, m, _ => by
    rw [List.map_nil, List.map_nil, List.nil_append]
    show [] = _
    induction m generalizing n with
    | zero => rfl
    | succ m ih => exact ih (n + 1)
  | v :: t, n, m, h => by
    have hv := h v List.mem_cons_self
    have hc : (cv ad v).category ≠ 2 := fun q => by rw [(cv_cat ad v).mp q] at hv; cases hv
    show (n, cv ad v) :: lv_args (if (cv ad v).category = 2 then n + 2 else n + 1) (t.map (cv ad)) = (n, cv ad v) :: lp ad (t.map some ++ List.replicate m none) (n + 1)
    rw [if_neg hc, lo_entry t (n + 1) m (fun u hu => h u (List.mem_cons_of_mem _ hu))]
theorem sl_len {ad : Nat → Nat} : ∀ (as : List AV), (∀ v ∈ as, is2 (some v) = false) → (lg_sl (as.map (cv ad))).length = as.length
  | [], _ => rfl
  | v :: t, h => by
    have hv := h v List.mem_cons_self
    have hc : (cv ad v).category ≠ 2 := fun q => by rw [(cv_cat ad v).mp q] at hv; cases hv
    have := sl_len (ad := ad) t (fun u hu => h u (List.mem_cons_of_mem _ hu))
    unfold lg_sl at this ⊢
    rw [List.map_cons, List.flatMap_cons, if_neg hc, List.length_append, this]
    simp [Nat.add_comm]
theorem okls_entry {w : AW} {as : List AV} {m : Nat} (h : okvs w as) : okls w (as.map some ++ List.replicate m none) := by
  intro i v hv
  have hm : some v ∈ as.map some ++ List.replicate m none := List.mem_of_getElem? hv
  rcases List.mem_append.mp hm with q | q
  · obtain ⟨u, hu, e⟩ := List.mem_map.mp q
    cases e
    clear hv hm q
    induction as with
    | nil => cases hu
    | cons a t ih =>
      rcases List.mem_cons.mp hu with rfl | hu
      · exact h.1
      · exact ih h.2 hu
  · have := List.eq_of_mem_replicate q
    cases this
/-- a method's contract out of its body -/
theorem HT.of {l : Launch} {y : MethodName} {cc : ByteArray} {maxL : Nat} {ret : Option FieldType} {lev mc ms : Nat} {w : AW} {as : List AV} {Po : Option AV → AW → Prop} (hy : plainName y.cls = true) (has : ∀ v ∈ as, is2 (some v) = false) (hle : as.length ≤ maxL)
    (body : ∀ Γ : Cx, OKB Γ cc y.cls maxL → OKR Γ ret Po mc ms → cxR Γ = ({ frames := lev, cells := mc, slots := ms, locals := 64 * lev } : Room) → (cxT Γ).name = y.name → Γ.1.2.1 = l → Γ.2.2.2.2 = w → GG Γ 0 (as.map some ++ List.replicate (maxL - as.length) none) [] w 0 0) : HT l y cc maxL ret lev mc ms w as Po := by
  intro Z ad hok
  refine Met.ofW (cc := cc) (maxL := maxL) (ret := ret) hy rfl ?_
  intro p e s m args below meth c s₁ B hml hv
  obtain ⟨rfl, hR, hK, hXF⟩ := hv
  have hts := atoms_spec (ws := .code y cc maxL ret :: gw_tbl) B.pre
  have hown : s.vm.findClass y.cls = some m.cls := findClass_of_methodNamed B.named
  have hw := body ((p, l, e, ({ frames := lev, cells := mc, slots := ms, locals := 64 * lev } : Room), s, m, (as.map (cv ad)).toArray, below, meth, c), MQ below (QcA Z ad w Po) (as.map (cv ad)).toArray s mc ms (zA Z), Z, ad, w)
    ⟨B.exec, B.bytes, hml, hown, fun x hx => hts x (List.mem_cons_of_mem _ hx), hK, hXF⟩ ⟨B.returns, B.notSynchronized, rfl⟩ rfl (name_of_methodNamed B.named B.method).1 rfl rfl
  have hlen := sl_len (ad := ad) as has
  have hl := lv_entry (as.map (cv ad)) (n := maxL) (by omega)
  rw [lg_entry_eq]
  rw [lo_entry as 0 (maxL - as.length) has] at hl
  refine hw ad _ s.heap [] hR ?_ (okls_entry hok) trivial (fun _ q => by cases q) (fun j hj => ⟨rfl, hj⟩)
  rw [List.length_append, List.length_map, List.length_replicate, show as.length + (maxL - as.length) = maxL by omega]
  exact hl
section GENDS
variable {Γ : Cx} {cc : ByteArray} {own : String} {nL pc k n mc ms : Nat} {lo : List (Option AV)} {w : AW} {Po : Option AV → AW → Prop}
theorem end_q {ad : Nat → Nat} {r : Option AV} {H : Heap} (hR : RP (cxZ Γ) ad w H) (hX : XT Γ ad w) (hr : okq w r) (hp : Po r w) : ∀ t : State, t.heap = H → (cxS Γ).WarmedH t.vm → QcA (cxZ Γ) Γ.2.2.2.1 Γ.2.2.2.2 Po (cxA Γ) (cxS Γ) (.returned (r.map (cv ad))) t :=
  fun t ht _ => ⟨r, ad, w, rfl, by rw [ht]; exact hR, hX, hr, hp⟩
theorem g_iret (h : OKB Γ cc own nL) (hQ : OKR Γ (some .int) Po mc ms) (hk : k ≤ mc) (hn : n ≤ ms) {z : Int} (hp : Po (some (ai z)) w) (hd : decode cc pc = .ok (.ireturn, 1)) : GG Γ pc lo [ai z] w k n := by
  intro ad ls H locs hR hl ho hs hL hX
  refine W.widen hk hn ?_
  rw [hQ.2.2]
  exact W.iret h.1 h.2.1 hQ.1 (end_q (r := some (ai z)) hR hX trivial hp) hL hd hQ.2.1
theorem g_zret (h : OKB Γ cc own nL) (hQ : OKR Γ (some .boolean) Po mc ms) (hk : k ≤ mc) (hn : n ≤ ms) {z : Int} (hz : z = 0 ∨ z = 1) (hp : Po (some (ai z)) w) (hd : decode cc pc = .ok (.ireturn, 1)) : GG Γ pc lo [ai z] w k n := by
  intro ad ls H locs hR hl ho hs hL hX
  refine W.widen hk hn ?_
  rw [hQ.2.2]
  exact W.zret h.1 h.2.1 hQ.1 (by rcases hz with rfl | rfl <;> rfl) (end_q (r := some (ai z)) hR hX trivial hp) hL hd hQ.2.1
theorem g_vret (h : OKB Γ cc own nL) (hQ : OKR Γ none Po mc ms) (hk : k ≤ mc) (hn : n ≤ ms) (hp : Po none w) (hd : decode cc pc = .ok (.return_, 1)) : GG Γ pc lo [] w k n := by
  intro ad ls H locs hR hl ho hs hL hX
  refine W.widen hk hn ?_
  rw [hQ.2.2]
  exact W.vret h.1 h.2.1 hQ.1 (end_q (r := none) hR hX trivial hp) hL hd hQ.2.1
theorem g_aret (h : OKB Γ cc own nL) {C : String} (hQ : OKR Γ (some (.object C)) Po mc ms) (hk : k ≤ mc) (hn : n ≤ ms) {r : Option Nat} (hp : Po (some (aq r)) w) (hd : decode cc pc = .ok (.areturn, 1)) : GG Γ pc lo [aq r] w k n := by
  intro ad ls H locs hR hl ho hs hL hX
  refine W.widen hk hn ?_
  rw [hQ.2.2]
  exact W.aret (rt := .object C) h.1 h.2.1 hQ.1 (Or.inl ⟨_, rfl⟩) (by cases r; exact Or.inl rfl; exact Or.inr ⟨_, rfl⟩) (end_q (r := some (aq r)) hR hX hs.1 hp) hL hd hQ.2.1
theorem g_aretA (h : OKB Γ cc own nL) {T : FieldType} (hQ : OKR Γ (some (.array T)) Po mc ms) (hk : k ≤ mc) (hn : n ≤ ms) {r : Option Nat} (hp : Po (some (aq r)) w) (hd : decode cc pc = .ok (.areturn, 1)) : GG Γ pc lo [aq r] w k n := by
  intro ad ls H locs hR hl ho hs hL hX
  refine W.widen hk hn ?_
  rw [hQ.2.2]
  exact W.aret (rt := .array T) h.1 h.2.1 hQ.1 (Or.inr ⟨_, rfl⟩) (by cases r; exact Or.inl rfl; exact Or.inr ⟨_, rfl⟩) (end_q (r := some (aq r)) hR hX hs.1 hp) hL hd hQ.2.1
theorem g_lret (h : OKB Γ cc own nL) (hQ : OKR Γ (some .long) Po mc ms) (hk : k ≤ mc) (hn : n ≤ ms) {z : Int} (hp : Po (some (aL z)) w) (hd : decode cc pc = .ok (.lreturn, 1)) : GG Γ pc lo [aL z] w k n := by
  intro ad ls H locs hR hl ho hs hL hX
  refine W.widen hk hn ?_
  rw [hQ.2.2]
  exact W.lret h.1 h.2.1 hQ.1 (end_q (r := some (aL z)) hR hX trivial hp) hL hd hQ.2.1
theorem ws_good {y : MethodName} {cc : ByteArray} {maxL : Nat} {ret : Option FieldType} (h : Cond.code y cc maxL ret ∈ gw_tbl) : GoodIn gw_tbl (.code y cc maxL ret :: gw_tbl) := fun w hw => (List.mem_cons.mp hw).elim (fun e => e ▸ tblGood _ h) (fun q => tblGood w q)
theorem g_after {lev2 : Nat} {as : List AV} {Pq : Option AV → AW → Prop} {st : List AV} {ad : Nat → Nat} {ls : Array Slot} {H : Heap} {locs : List Loc} {st0 : List Value} {mc2 ms2 : Nat} {aa : Array Value} (hr : va_Run Γ.1.1 Γ.1.2.1 Γ.1.2.2.1 (cxR Γ) (cxS Γ) (cxM Γ) (cxA Γ) (cxB Γ) (cxT Γ) (cxC Γ) H locs k n mc2 ms2 (F0 (cxM Γ) pc ls st0) (st.map (cv ad)) (QcA (cxZ Γ) ad w Pq aa) (zA (cxZ Γ)))
    (hR : RP (cxZ Γ) ad w H) (hl : lv_has ls lo.length (lp ad lo 0)) (ho : okls w lo) (hs : okvs w st) (hL : ∀ l ∈ locs, zA (cxZ Γ) l.base) (hX : XT Γ ad w)
    (kk : ∀ r w', Pq r w' → GG Γ (pc + 3) lo (r.toList ++ st) w' (k + mc2) (n + ms2)) : WW Γ H locs k n (F0 (cxM Γ) pc ls st0) := by
  intro T hT X
  obtain ⟨v, st₀, t, T', L, h0, X', hL2, e1, e2, ⟨r, ad', w', hv, hR', hgm, hq, hp⟩, stp⟩ := hr T hT X
  have hg : ∀ j, okr w j → ad' j = ad j := fun j hj => (hgm j hj).1
  have hm : ∀ j, okr w j → okr w' j := fun j hj => (hgm j hj).2
  have hv2 : v = r.map (cv ad') := Outcome.returned.inj hv
  subst hv2
  have hst : (Option.map (cv ad') r).toList ++ st.map (cv ad) = (r.toList ++ st).map (cv ad') := by
    rw [List.map_append, st_agree hg st hs]
    cases r <;> rfl
  have hok2 : okvs w' (r.toList ++ st) := by
    cases r with
    | none => exact okvs_mono hm _ hs
    | some v => exact ⟨hq, okvs_mono hm _ hs⟩
  have h4 := kk r w' hp ad' ls T'.heap (locs ++ L) (by rw [e1]; exact hR') (by rw [lp_agree hg lo 0 ho]; exact hl) (fun i u hu => okv_mono hm u (ho i u hu)) hok2 (fun q hq2 => (List.mem_append.mp hq2).elim (hL q) (hL2 q)) (fun j hj => ⟨(hg j (hX j hj).2).trans (hX j hj).1, hm j (hX j hj).2⟩)
  rw [← hst] at h4
  obtain ⟨t2, a1, b1⟩ := h4 T' rfl X'
  exact ⟨t2, stp t2 a1, b1⟩
theorem rev_map (ad : Nat → Nat) (as : List AV) (st : List AV) : (as.reverse ++ st).map (cv ad) = (as.map (cv ad)).reverse ++ st.map (cv ad) := by rw [List.map_append, List.map_reverse]
theorem okvs_app {w : AW} : ∀ (a b : List AV), okvs w (a ++ b) ↔ okvs w a ∧ okvs w b
  | [], b => ⟨fun h => ⟨trivial, h⟩, fun h => h.2⟩
  | v :: t, b => ⟨fun h => ⟨⟨h.1, ((okvs_app t b).mp h.2).1⟩, ((okvs_app t b).mp h.2).2⟩, fun h => ⟨h.1.1, (okvs_app t b).mpr ⟨h.1.2, h.2⟩⟩⟩
theorem okvs_rev {w : AW} : ∀ (a : List AV), okvs w a.reverse → okvs w a
  | [], _ => trivial
  | v :: t, h => by
    rw [List.reverse_cons, okvs_app] at h
    exact ⟨h.2.1, okvs_rev t h.1⟩
theorem g_callS (h : OKB Γ cc own nL) (hnl : lo.length = nL) {y : MethodName} {c2 : ByteArray} {maxL lev2 mc2 ms2 na idx : Nat} {ret : Option FieldType} (as : List AV) {Pq : Option AV → AW → Prop} {st st0 : List AV} (hM : HT Γ.1.2.1 y c2 maxL ret lev2 mc2 ms2 w as Pq) (hC : CL own idx y c2 maxL ret na) (hst : Cond.static y ∈ gw_tbl) (hna : as.length = na) (e0 : st0 = as.reverse ++ st)
    (hfr : lev2 + 1 ≤ (cxR Γ).frames) (hlc : 8 + (maxL + 11) + 64 * lev2 ≤ (cxR Γ).locals) (hcat : ∀ ad, ((st.map (cv ad)).map fun v => v.category).sum ≤ 8) (hk : k + mc2 ≤ (cxR Γ).cells) (hn : n + ms2 ≤ (cxR Γ).slots) (hd : decode cc pc = .ok (.invokestatic idx, 3))
    (kk : ∀ r w', Pq r w' → GG Γ (pc + 3) lo (r.toList ++ st) w' (k + mc2) (n + ms2)) : GG Γ pc lo st0 w k n := by
  subst e0
  intro ad ls H locs hR hl ho hs hL hX
  rw [okvs_app] at hs
  refine g_after (lev2 := lev2) (as := as) (va_runS (As := as.map (cv ad)) (rest := st.map (cv ad)) ⟨h.1, h.2.1, h.2.2.1, h.2.2.2.1, h.2.2.2.2.1⟩ (hM (cxZ Γ) ad (okvs_rev _ hs.1)) ⟨callB_of na h.2.2.2.2.1 (ws_good hC.2.2.1) rfl rfl rfl (h.2.2.2.2.1 _ hC.2.1) (h.2.2.2.2.1 _ hC.1) hC.2.2.2 ⟨hfr, hlc⟩, h.2.2.2.2.1 _ hst⟩
    ⟨PcA.blind, fun U hU hW => ⟨rfl, by rw [hU]; exact hR, KK.moved hW.alike h.2.2.2.2.2.1, XF.warm hW h.2.2.2.2.2.2⟩⟩ rfl (by rw [List.length_map]; exact hna) (by rw [← hnl]; exact hl.1) (rev_map ad as st) (lv_room (hcat ad)) hd ⟨hk, hn⟩) hR hl ho hs.2 hL hX kk
theorem g_callV (h : OKB Γ cc own nL) (hnl : lo.length = nL) {y : MethodName} {c2 : ByteArray} {maxL lev2 mc2 ms2 na idx ci nn k0 : Nat} {ret : Option FieldType} (as : List AV) {Pq : Option AV → AW → Prop} {st st0 : List AV} (hsh : w.1 k0 = (100 + ci, nn)) (hM : HT Γ.1.2.1 y c2 maxL ret lev2 mc2 ms2 w (ar k0 :: as) Pq) (hC : CL own idx y c2 maxL ret na) (hci : ci < 13) (hcls : y.cls = clN ci) (hin : Cond.instanceMethod y ∈ gw_tbl) (hse : Cond.selects (clN ci) y y ∈ gw_tbl) (hna : as.length = na) (e0 : st0 = as.reverse ++ ar k0 :: st)
    (hfr : lev2 + 1 ≤ (cxR Γ).frames) (hlc : 8 + (maxL + 11) + 64 * lev2 ≤ (cxR Γ).locals) (hcat : ∀ ad, ((st.map (cv ad)).map fun v => v.category).sum ≤ 8) (hk : k + mc2 ≤ (cxR Γ).cells) (hn : n + ms2 ≤ (cxR Γ).slots) (hd : decode cc pc = .ok (.invokevirtual idx, 3))
    (kk : ∀ r w', Pq r w' → GG Γ (pc + 3) lo (r.toList ++ st) w' (k + mc2) (n + ms2)) : GG Γ pc lo st0 w k n := by
  subst e0
  intro ad ls H locs hR hl ho hs hL hX
  rw [okvs_app] at hs
  obtain ⟨-, cell, q1, q2, q3, q4⟩ := ob_of hR hsh hci
  refine g_after (lev2 := lev2) (as := as) (va_runV (C := clN ci) (b := ad k0) (As := as.map (cv ad)) (rest := st.map (cv ad)) ⟨h.1, h.2.1, h.2.2.1, h.2.2.2.1, h.2.2.2.2.1⟩ (hM (cxZ Γ) ad ⟨hs.2.1, okvs_rev _ hs.1⟩) ⟨callB_of na h.2.2.2.2.1 (ws_good hC.2.2.1) rfl rfl rfl (h.2.2.2.2.1 _ hC.2.1) (h.2.2.2.2.1 _ hC.1) hC.2.2.2 ⟨hfr, hlc⟩, h.2.2.2.2.1 _ hin, h.2.2.2.2.1 _ hse⟩
    ⟨PcA.blind, ⟨cell, q1, by rw [q3]; rfl, by rw [q2]; exact (h.2.2.2.2.2.1.1 ci hci).2.1⟩, fun U hU hW => ⟨rfl, by rw [hU]; exact hR, KK.moved hW.alike h.2.2.2.2.2.1, XF.warm hW h.2.2.2.2.2.2⟩⟩ rfl (by rw [List.length_map]; exact hna) (by rw [← hnl]; exact hl.1) (by show (as.reverse ++ ar k0 :: st).map (cv ad) = _; rw [rev_map]; rfl) (lv_room (hcat ad)) hd ⟨hk, hn⟩) hR hl ho hs.2.2 hL hX kk
theorem g_callI (h : OKB Γ cc own nL) (hnl : lo.length = nL) {y : MethodName} {c2 : ByteArray} {maxL lev2 mc2 ms2 na idx k0 : Nat} (as : List AV) {Pq : Option AV → AW → Prop} {st st0 : List AV} (hM : HT Γ.1.2.1 y c2 maxL none lev2 mc2 ms2 w (ar k0 :: as) Pq) (hC : CL own idx y c2 maxL none na) (hin : Cond.instanceMethod y ∈ gw_tbl) (hy1 : y.name = "<init>") (hna : as.length = na) (e0 : st0 = as.reverse ++ ar k0 :: st)
    (hfr : lev2 + 1 ≤ (cxR Γ).frames) (hlc : 8 + (maxL + 11) + 64 * lev2 ≤ (cxR Γ).locals) (hcat : ∀ ad, ((st.map (cv ad)).map fun v => v.category).sum ≤ 8) (hk : k + mc2 ≤ (cxR Γ).cells) (hn : n + ms2 ≤ (cxR Γ).slots) (hd : decode cc pc = .ok (.invokespecial idx, 3))
    (kk : ∀ r w', Pq r w' → GG Γ (pc + 3) lo (r.toList ++ st) w' (k + mc2) (n + ms2)) : GG Γ pc lo st0 w k n := by
  subst e0
  intro ad ls H locs hR hl ho hs hL hX
  rw [okvs_app] at hs
  refine g_after (lev2 := lev2) (as := as) (va_runI (b := ad k0) (As := as.map (cv ad)) (rest := st.map (cv ad)) ⟨h.1, h.2.1, h.2.2.1, h.2.2.2.1, h.2.2.2.2.1⟩ (hM (cxZ Γ) ad ⟨hs.2.1, okvs_rev _ hs.1⟩) ⟨callB_of na h.2.2.2.2.1 (ws_good hC.2.2.1) rfl rfl rfl (h.2.2.2.2.1 _ hC.2.1) (h.2.2.2.2.1 _ hC.1) hC.2.2.2 ⟨hfr, hlc⟩, hy1, h.2.2.2.2.1 _ hin⟩
    ⟨PcA.blind, fun U hU hW => ⟨rfl, by rw [hU]; exact hR, KK.moved hW.alike h.2.2.2.2.2.1, XF.warm hW h.2.2.2.2.2.2⟩⟩ rfl (by rw [List.length_map]; exact hna) (by rw [← hnl]; exact hl.1) (by show (as.reverse ++ ar k0 :: st).map (cv ad) = _; rw [rev_map]; rfl) (lv_room (hcat ad)) hd ⟨hk, hn⟩) hR hl ho hs.2.2 hL hX kk
theorem g_callSN (h : OKB Γ cc own nL) (hnl : lo.length = nL) {y : MethodName} {c2 : ByteArray} {maxL lev2 mc2 ms2 na idx : Nat} {ret : Option FieldType} (as : List AV) {Pq : Option AV → AW → Prop} {st st0 : List AV} (hM : HT Γ.1.2.1 y c2 maxL ret lev2 mc2 ms2 w as Pq) (hC : CN own idx y c2 maxL ret na) (hst : Cond.static y ∈ gw_tbl) (hna : as.length = na) (e0 : st0 = as.reverse ++ st)
    (hfr : lev2 + 1 ≤ (cxR Γ).frames) (hlc : 8 + (maxL + 11) + 64 * lev2 ≤ (cxR Γ).locals) (hcat : ∀ ad, ((st.map (cv ad)).map fun v => v.category).sum ≤ 8) (hk : k + mc2 ≤ (cxR Γ).cells) (hn : n + ms2 ≤ (cxR Γ).slots) (hd : decode cc pc = .ok (.invokestatic idx, 3))
    (kk : ∀ r w', Pq r w' → GG Γ (pc + 3) lo (r.toList ++ st) w' (k + mc2) (n + ms2)) : GG Γ pc lo st0 w k n := by
  subst e0
  obtain ⟨host, hnest⟩ := hC.1
  intro ad ls H locs hR hl ho hs hL hX
  rw [okvs_app] at hs
  refine g_after (lev2 := lev2) (as := as) (va_runSN (host := host) (As := as.map (cv ad)) (rest := st.map (cv ad)) ⟨h.1, h.2.1, h.2.2.1, h.2.2.2.1, h.2.2.2.2.1⟩ (hM (cxZ Γ) ad (okvs_rev _ hs.1)) ⟨va_cnB na h.2.2.2.2.1 (ws_good hC.2.2.1) rfl rfl rfl (h.2.2.2.2.2.2.2.2.2.2.2.2.1 _ hnest) (h.2.2.2.2.1 _ hC.2.1) hC.2.2.2 ⟨hfr, hlc⟩, h.2.2.2.2.1 _ hst, trivial⟩
    ⟨PcA.blind, fun U hU hW => ⟨rfl, by rw [hU]; exact hR, KK.moved hW.alike h.2.2.2.2.2.1, XF.warm hW h.2.2.2.2.2.2⟩⟩ rfl (by rw [List.length_map]; exact hna) (by rw [← hnl]; exact hl.1) (rev_map ad as st) (lv_room (hcat ad)) hd ⟨hk, hn⟩) hR hl ho hs.2 hL hX kk
theorem g_callIN (h : OKB Γ cc own nL) (hnl : lo.length = nL) {y : MethodName} {c2 : ByteArray} {maxL lev2 mc2 ms2 na idx k0 : Nat} (as : List AV) {Pq : Option AV → AW → Prop} {st st0 : List AV} (hM : HT Γ.1.2.1 y c2 maxL none lev2 mc2 ms2 w (ar k0 :: as) Pq) (hC : CN own idx y c2 maxL none na) (hin : Cond.instanceMethod y ∈ gw_tbl) (hy1 : y.name = "<init>") (hna : as.length = na) (e0 : st0 = as.reverse ++ ar k0 :: st)
    (hfr : lev2 + 1 ≤ (cxR Γ).frames) (hlc : 8 + (maxL + 11) + 64 * lev2 ≤ (cxR Γ).locals) (hcat : ∀ ad, ((st.map (cv ad)).map fun v => v.category).sum ≤ 8) (hk : k + mc2 ≤ (cxR Γ).cells) (hn : n + ms2 ≤ (cxR Γ).slots) (hd : decode cc pc = .ok (.invokespecial idx, 3))
    (kk : ∀ r w', Pq r w' → GG Γ (pc + 3) lo (r.toList ++ st) w' (k + mc2) (n + ms2)) : GG Γ pc lo st0 w k n := by
  subst e0
  obtain ⟨host, hnest⟩ := hC.1
  intro ad ls H locs hR hl ho hs hL hX
  rw [okvs_app] at hs
  refine g_after (lev2 := lev2) (as := as) (va_runIN (host := host) (b := ad k0) (As := as.map (cv ad)) (rest := st.map (cv ad)) ⟨h.1, h.2.1, h.2.2.1, h.2.2.2.1, h.2.2.2.2.1⟩ (hM (cxZ Γ) ad ⟨hs.2.1, okvs_rev _ hs.1⟩) ⟨va_cnB na h.2.2.2.2.1 (ws_good hC.2.2.1) rfl rfl rfl (h.2.2.2.2.2.2.2.2.2.2.2.2.1 _ hnest) (h.2.2.2.2.1 _ hC.2.1) hC.2.2.2 ⟨hfr, hlc⟩, hy1, h.2.2.2.2.1 _ hin⟩
    ⟨PcA.blind, fun U hU hW => ⟨rfl, by rw [hU]; exact hR, KK.moved hW.alike h.2.2.2.2.2.1, XF.warm hW h.2.2.2.2.2.2⟩⟩ rfl (by rw [List.length_map]; exact hna) (by rw [← hnl]; exact hl.1) (by show (as.reverse ++ ar k0 :: st).map (cv ad) = _; rw [rev_map]; rfl) (lv_room (hcat ad)) hd ⟨hk, hn⟩) hR hl ho hs.2.2 hL hX kk
end GENDS
