/-! ===== the law ===== -/
def R_law : String := "LakeBreathLaw"
def lw_P (b : Addr) (xs : List Int32) (args : Array Value) (s : State) : Prop := args = #[.ref b] ∧ s.IntsAt b xs ∧ xs.length ≤ 3072 ∧ (Jvm.Cond.and given_1 narrow_1).before args s = true
def lw_Q (_ : Array Value) (s : State) (o : Outcome) (t : State) : Prop := o = .returned (some (.int 1)) ∧ Framed s o t [] 601024 7293034
def lw_Z (below : List Frame) (a : Array Value) (s : State) : State → Prop := fun t => ∃ o, t.status = .running ∧ Ended t below o ∧ lw_Q a s o t
/-- the law's own end, with 1 on the stack, nothing written that was there before, its room as the claim has it -/
theorem lw_ret {p : Program} {l : Launch} {e : Env} {s : State} {m : MethodId} {below : List Frame} {meth : Method} {c : Code} {b : Nat} (hx : p.tables.exec = Jvm.exec) (hb : c.code = code) (hr : meth.sig.returnType = ret) (hlocks : meth.locks = false) {pc : Nat} {H : Heap} {ls : Array Slot} (hdg : decode code pc = .ok (.ireturn, 1)) : W p l e room_1 s m #[Value.ref b] below meth c H [] 601024 7293034 (lw_Z below #[Value.ref b] s) (F0 m pc ls [.int 1]) := by
  intro T hT X
  obtain ⟨fs, hret, hrun, hended, hW, hframe⟩ := X.leave (v := some (.int 1)) (hlocks := hlocks) (fun h => by rw [hr] at h; cases h)
  have hmeth' : T.vm.method? m = some meth := X.method'
  refine ⟨T.setFrames fs, ?_, .returned (some (.int 1)), hrun, hended, rfl, ⟨_, rfl⟩, hW, hframe⟩
  jvm_step X.here [X.here.top, hx, hb, hdg, hmeth', hr, ret, narrow_b1]
  (try refine ⟨rfl, ?_⟩); (try refine ⟨rfl, ?_⟩)
  first | (intro acts; rw [hret _ acts rfl rfl rfl]) | rw [hret _ _ rfl rfl rfl]
  exact Steps.refl _
/-- what holds at the law's entry: the machine, the code, the tables' words (any of lw_tbl by 'hts w (by decide +kernel)'), the script of L ints xs at the cell b, what the Statement gives of the start (any of its parts by flat_of_before) -/
def lw_At (p : Program) (s : State) (m : MethodId) (meth : Method) (c : Code) (b L : Nat) (xs : Nat → Int32) : Prop :=
  p.tables.exec = Jvm.exec ∧ c.code = code ∧ meth.sig.returnType = ret ∧ c.maxLocals = 7 ∧ s.vm.findClass R_law = some m.cls ∧ (∀ w ∈ lw_tbl, w.before #[Value.ref b] s = true) ∧ va_X b L xs s s.heap ∧ b < s.heap.size ∧ meth.locks = false ∧ (Jvm.Cond.and given_1 narrow_1).before #[Value.ref b] s = true
-- ===== YOUR PART BEGINS =====
theorem same_drop {s t : State} {L : List Loc} {k n : Nat} (h : s.sameButNew t L k n) (hJ : ∀ x ∈ L, s.heap.size ≤ x.base) : s.sameButNew t [] k n := by
  obtain ⟨h1, h2, h3, h4, h5, h6⟩ := h
  refine ⟨h1, h2, h3, h4, h5, fun a c hc => ?_⟩
  obtain ⟨c', hc', hce, hsz, hout⟩ := h6 a c hc
  refine ⟨c', hc', hce, hsz, fun i hi => hout i ?_⟩
  intro hmem
  have hb : s.heap.size ≤ a := hJ _ hmem
  have ha : a < s.heap.size := (Array.getElem?_eq_some_iff.mp hc).1
  exact absurd ha (Nat.not_lt.mpr hb)
/-- the addresses of the foreign places -/
theorem fo_has (b t1 t2 : Nat) (f4 : Nat → Nat × Nat) (f5 : Nat → Nat) : ∃ fo : Nat → Nat, fo 20000 = b ∧ fo 20100 = t1 ∧ fo 20101 = t2 ∧ (∀ i, i < 4 → fo (20001 + i) = f5 i) ∧ (∀ i, i < 34 → fo (21000 + i) = (f4 i).1) ∧ ∀ i, i < 34 → fo (22000 + i) = (f4 i).2 := by
  refine ⟨fun j => if j = 20000 then b else if j = 20100 then t1 else if j = 20101 then t2 else if j < 20100 then f5 (j - 20001) else if j < 22000 then (f4 (j - 21000)).1 else (f4 (j - 22000)).2, rfl, rfl, rfl, fun i hi => ?_, fun i hi => ?_, fun i hi => ?_⟩
  · show (if 20001 + i = 20000 then b else if 20001 + i = 20100 then t1 else if 20001 + i = 20101 then t2 else if 20001 + i < 20100 then f5 (20001 + i - 20001) else if 20001 + i < 22000 then (f4 (20001 + i - 21000)).1 else (f4 (20001 + i - 22000)).2) = _
    rw [if_neg (by omega), if_neg (by omega), if_neg (by omega), if_pos (by omega), show 20001 + i - 20001 = i by omega]
  · show (if 21000 + i = 20000 then b else if 21000 + i = 20100 then t1 else if 21000 + i = 20101 then t2 else if 21000 + i < 20100 then f5 (21000 + i - 20001) else if 21000 + i < 22000 then (f4 (21000 + i - 21000)).1 else (f4 (21000 + i - 22000)).2) = _
    rw [if_neg (by omega), if_neg (by omega), if_neg (by omega), if_neg (by omega), if_pos (by omega), show 21000 + i - 21000 = i by omega]
  · show (if 22000 + i = 20000 then b else if 22000 + i = 20100 then t1 else if 22000 + i = 20101 then t2 else if 22000 + i < 20100 then f5 (22000 + i - 20001) else if 22000 + i < 22000 then (f4 (22000 + i - 21000)).1 else (f4 (22000 + i - 22000)).2) = _
    rw [if_neg (by omega), if_neg (by omega), if_neg (by omega), if_neg (by omega), if_neg (by omega), show 22000 + i - 22000 = i by omega]
set_option maxHeartbeats 1000000 in
/-- YOUR PART: from the entry, for every script of at most 3072 ints, the law comes to its end with true ('hflags': the launch's flags, for a law that throws: no stack traces) -/
theorem whole_start {p : Program} {e : Env} {s : State} {m : MethodId} {below : List Frame} {meth : Method} {c : Code} (l : Launch) (hflags : l.flags = flags0) {b L : Nat} {xs : Nat → Int32} (hL : L ≤ 3072) (C0 : lw_At p s m meth c b L xs) : W p l e room_1 s m #[Value.ref b] below meth c s.heap [] 0 0 (lw_Z below #[Value.ref b] s) (entryFrame m ([Value.ref b] : List Value).toArray 7) := by
  obtain ⟨hx, hcode, hret, hml, hown, hts, hX, hbl, hlocks, hgv⟩ := C0
  have hA : ∀ a : Nat, a < s.heap.size → ¬ (fun j => s.heap.size ≤ j) a := fun a h1 h2 => Nat.not_le.mpr h1 h2
  have hgs : ∀ w ∈ gw_tbl, w.before #[Value.ref b] s = true := fun w hw => hts w (List.mem_filter.mp hw).1
  obtain ⟨f1, hf1⟩ := Classical.axiomOfChoice (kn_has hgs)
  obtain ⟨f3, hf3⟩ := Classical.axiomOfChoice (arr_has hts hgs)
  have hstr : ∀ i : Nat, ∃ av : Nat × Nat, ∀ q, strTb[i]? = some q → vk_R q.1 q.2.1 q.2.2.1 av.1 s ∧ va_O "java/lang/String" av.1 (fun j => s.heap.size ≤ j) s s.heap ∧ va_OF "java/lang/String" "coder" "B" (.int 0) av.1 (fun j => s.heap.size ≤ j) s s.heap ∧ va_OF "java/lang/String" "value" "[B" (.ref av.2) av.1 (fun j => s.heap.size ≤ j) s s.heap ∧ va_T .byte av.2 q.2.2.2.length (fun j => .int (q.2.2.2.getD j 0)) (fun j => s.heap.size ≤ j) s s.heap := by
    intro i
    cases hq : strTb[i]? with
    | none => exact ⟨(0, 0), fun q h => by cases h⟩
    | some q =>
      obtain ⟨a, v, h⟩ := str_has hgv hts i q hq
      exact ⟨(a, v), fun q' h' => by cases h'; exact h⟩
  have hsta : ∀ i : Nat, ∃ t : Nat, ∀ q, staTb[i]? = some q → va_Z "LakeBreath" q.1 "[I" (.ref t) (fun j => s.heap.size ≤ j) s s.heap ∧ va_T .int t q.2.length (fun j => .int (q.2.getD j 0)) (fun j => s.heap.size ≤ j) s s.heap := by
    intro i
    cases hq : staTb[i]? with
    | none => exact ⟨0, fun q h => by cases h⟩
    | some q =>
      obtain ⟨t, h⟩ := sta_has hgv hts i q hq
      exact ⟨t, fun q' h' => by cases h'; exact h⟩
  obtain ⟨f4, hf4⟩ := Classical.axiomOfChoice hstr
  obtain ⟨f5, hf5⟩ := Classical.axiomOfChoice hsta
  have u1 := vx_Zqof (A := fun j => s.heap.size ≤ j) (hts _ lt_1266) (hts _ lt_120) (flat_of_before _ hgv _ gv_37) hA
  have u2 := vx_Zqof (A := fun j => s.heap.size ≤ j) (hts _ lt_1268) (hts _ lt_120) (flat_of_before _ hgv _ gv_38) hA
  have u3 := va_Zof (A := fun j => s.heap.size ≤ j) (hts _ lt_854) (hts _ lt_127) (va_eqi (flat_of_before _ hgv _ gv_20)) hA
  have u4 := va_Zqof (A := fun j => s.heap.size ≤ j) (hts _ lt_870) (hts _ lt_129) (flat_of_before _ hgv _ gv_21) hA
  obtain ⟨t1, ht1⟩ := thr_has u1.1 20100
  obtain ⟨t2, ht2⟩ := thr_has u2.1 20101
  obtain ⟨fo, h0, h1, h2, h3, h4, h5⟩ := fo_has b t1 t2 f4 f5
  have hst : l.stackTraces = false := by
    unfold Launch.stackTraces
    rw [hflags]
    decide +kernel
  have KKs : KK (fun c => (f1 c).1, fun c => (f1 c).2, f3, fo, s.heap) s := ⟨fun c hc => hf1 c hc, fun k hk => hf3 k hk⟩
  have XFs : XF (fun c => (f1 c).1, fun c => (f1 c).2, f3, fo, s.heap) s := by
    refine ⟨fun i q hq => ?_, fun i q hq => ?_, u3, u4, u1, u2, fun q hq => va_Nw.of rfl (hts _ (nestM_in q hq)), fun q hq => va_Nw.of rfl (hts _ (nestF_in q hq)), fun w hw hx => ?_, ht1 fo h1, ht2 fo h2⟩
    · have hi : i < 34 := (List.getElem?_eq_some_iff.mp hq).1
      have e4 := h4 i hi
      have e5 := h5 i hi
      have hh := hf4 i q hq
      rw [← e4, ← e5] at hh
      exact hh
    · have hi : i < 4 := (List.getElem?_eq_some_iff.mp hq).1
      have e3 := h3 i hi
      have hh := hf5 i q hq
      rw [← e3] at hh
      exact hh
    · have hb := hts w hw
      rcases exW_ex hx with ⟨C, rfl⟩ | ⟨a, b, rfl⟩ | ⟨x, rfl⟩
      · exact hb
      · exact va_Nw.of rfl hb
      · exact va_Nw.of rfl hb
  subst h0
  have has : ∀ v ∈ [ar 20000], is2 (some v) = false := fun v hv => by
    simp only [List.mem_cons, List.not_mem_nil, or_false] at hv
    subst hv
    rfl
  have hlen := sl_len (ad := fo) [ar 20000] has
  have hl := lv_entry (([ar 20000] : List AV).map (cv fo)) (n := 7) (by rw [hlen]; decide)
  rw [lo_entry [ar 20000] 0 6 has] at hl
  have hb := law_body (Γ := ((p, l, e, room_1, s, m, #[Value.ref (fo 20000)], below, meth, c), MQ below (QcA (fun c => (f1 c).1, fun c => (f1 c).2, f3, fo, s.heap) fo w00 (fun r _ => r = some (ai 1))) #[Value.ref (fo 20000)] s 601024 7293034 (zA (fun c => (f1 c).1, fun c => (f1 c).2, f3, fo, s.heap)), (fun c => (f1 c).1, fun c => (f1 c).2, f3, fo, s.heap), fo, w00)) (L := L) (xs := xs) ⟨hx, hcode, hml, hown, hgs, KKs, XFs⟩ ⟨hret, hlocks, rfl⟩ rfl ⟨hX, hbl, hL⟩ hst
  have hg := hb fo _ s.heap [] ⟨⟨Nat.le_refl _, fun _ _ => rfl⟩, fun k _ => ⟨rfl, rfl⟩, fun k hk => absurd rfl hk, fun j k hj => absurd rfl hj, fun k i hk => absurd rfl hk⟩ hl (okls_entry (as := [ar 20000]) (m := 6) ⟨Or.inr (Nat.le_refl _), trivial⟩) trivial (fun _ q => by cases q) (fun j hj => ⟨rfl, hj⟩)
  change W p l e room_1 s m #[Value.ref (fo 20000)] below meth c s.heap [] 0 0 _ (entryFrame m (([ar 20000] : List AV).map (cv fo)).toArray 7)
  rw [lg_entry_eq]
  intro T hT X
  obtain ⟨t, st, o, g1, g2, ⟨r, ad', w', q1, -, -, -, q5⟩, LL, q6, q7⟩ := hg T hT X
  subst q5
  refine ⟨t, st, o, g1, g2, q1, q6.1, q6.2.1, same_drop q6.2.2 q7⟩
-- ===== YOUR PART ENDS =====
set_option maxHeartbeats 4000000 in
theorem lw_walk (l : Launch) (hflags : l.flags = flags0) (b : Addr) (xs : List Int32) : MetFree l x (headSpec (Jvm.Cond.code x code maxLocals ret :: tables_1) room_1) (lw_P b xs) (fun _ _ _ _ _ => True) lw_Q := by
  refine MetFree.of_bodyS (code := code) (maxLocals := maxLocals) (ret := ret) (by decide) ?_ ?_
  · intro args s m h hn
    obtain ⟨meth, c, h1, h2, h3, h4, h5, h6, -, -⟩ := Cond.code_spec hn (atoms_spec (ws := Jvm.Cond.code x code maxLocals ret :: tables_1) h _ List.mem_cons_self)
    exact ⟨meth, c, h1, h2, h3, h4, h5, h6⟩
  · intro p e s m args below meth c s₁ B hml0 hP _
    obtain ⟨rfl, hx, hbd, hgv⟩ := hP
    obtain ⟨scr, harrAt, hlist, hof, hsmall⟩ := hx
    obtain ⟨hcb, hkn, -, -⟩ := State.arrayAt?_spec harrAt
    have hown : s.vm.findClass R_law = some m.cls := findClass_of_methodNamed B.named
    have hts0 : ∀ c ∈ (Jvm.Cond.code x code maxLocals ret :: tables_1), c.before #[Value.ref b] s = true := atoms_spec (ws := Jvm.Cond.code x code maxLocals ret :: tables_1) B.pre
    have hts : ∀ w ∈ lw_tbl, w.before #[Value.ref b] s = true := k2_hts_sels lw_privs (fun w hw => hts0 w (List.mem_cons_of_mem _ hw)) lw_privs_ok
    have hml : c.maxLocals = 7 := B.maxLocals_eq (hts0 _ List.mem_cons_self)
    have X₀ : Stand p l e room_1 s m #[Value.ref b] below meth c s₁ [] 0 0 := Stand.of_body B
    have hh0 : s₁.heap = s.heap := by rw [B.state]; rfl
    have hsz : scr.slots.size = xs.length := by rw [← Array.length_toList, hlist, List.length_map]
    have hval : ∀ j : Nat, j < xs.length → scr.slots[j]? = some (.int (xs.getD j 0)) := fun j hj => by
      rw [← Array.getElem?_toList, hlist]
      simp [hj]
    have hbl : b < s.heap.size := (Array.getElem?_eq_some_iff.mp hcb).1
    have hX : va_X b xs.length (fun j => xs.getD j 0) s s.heap := ⟨scr, hcb, hof, hkn, hsz, hval⟩
    have K : W p l e room_1 s m #[Value.ref b] below meth c s₁.heap [] 0 0 (lw_Z below #[Value.ref b] s) (entryFrame m ([Value.ref b] : List Value).toArray 7) := by
      rw [hh0]
      exact whole_start l hflags hbd ⟨B.exec, B.bytes, B.returns, hml, hown, hts, hX, hbl, B.notSynchronized, hgv⟩
    obtain ⟨t, a1, o, b1, b2, b3⟩ := K s₁ rfl X₀
    exact ⟨t, o, a1, b1, b2, b3⟩
theorem lw_pre_spec {args : Array Value} {s : State} (h : (Jvm.Cond.and given_1 narrow_1).before args s = true) (hr : rest_1_c.before args s = true) : ∃ (b : Addr) (xs : List Int32), lw_P b xs args s := by
  have hs := flat_of_before _ h
  have hq := flat_of_before _ hr
  have hc : (Cond.count 1).before args s = true := hs _ (by decide +kernel)
  have harr : (Cond.arrayOf (.arg 0) .int).before args s = true := hs _ (by decide +kernel)
  have hle : (Cond.le (.length (.arg 0)) (.int 3072)).before args s = true := hs _ (by decide +kernel)
  have hlen : (Cond.isInt (.length (.arg 0))).before args s = true := hq _ (by decide +kernel)
  have hall : (Cond.all (.arg 0) (.isInt (.elem (.arg 0) (.index 0)))).before args s = true := hq _ (by decide +kernel)
  obtain ⟨b, xs, hb, hx⟩ := State.ints_of_pre rfl harr hlen hall
  have hsm : xs.length < 2 ^ 31 := hx.choose_spec.2.2.2
  have hev : (Term.length (.arg 0)).eval args s none [] s = some (.int xs.length.toInt32) := hx.length_eval hb
  have hv := Cond.le_ints hev (show (Term.int 3072).eval args s none [] s = some (.int 3072) from rfl)
  have hd : xs.length.toInt32 ≤ 3072 := by
    simpa [Cond.before, Cond.holds, hv] using hle
  have hN : xs.length ≤ 3072 := (Int32.ofNat_le_ofNat hsm (by decide)).mp (show Int32.ofNat xs.length ≤ Int32.ofNat 3072 from hd)
  exact ⟨b, xs, Cond.one_arg hc (show args[0]? = some (.ref b) from hb), hx, hN, h⟩
theorem lw_comes (l : Launch) (hflags : l.flags = flags0) : Comes l x (Jvm.Cond.code x code maxLocals ret :: tables_1) room_1 (fun tb e args s => Calls_1 tb e args s ∧ rest_1 tb e args s ∧ Pre_1 tb e args s)
    (fun _ _ args s o t => lw_Q args s o t) := by
  intro p e ha hc hk s m args below hf hfit hheap happ hpre
  obtain ⟨b, xs, hP⟩ := lw_pre_spec hpre.2.2 hpre.2.1
  obtain ⟨k, o, h1, h2, h3, hQ⟩ := lw_walk l hflags b xs p e ha hc hk s m args below hf ((Spec.applies_iff_loose hf).mp happ).1 hP trivial
  exact ⟨k, o, h1, h2, h3, hQ⟩
theorem lw_frame {s t : State} {o : Outcome} {args : Array Value} (h : Framed s o t [] 601024 7293034) :
    Framed s o t (fieldLocs frame_1_writes args s ++ arrayLocs frame_1_arrays args s ++ staticLocs frame_1_statics s) 601024 7293034 := h
theorem lw_limb (L : Cond) (hL : ∀ (args : Array Value) (s t : State), L.after args s (.returned (some (.int 1))) t = true) :
    ArmFor flags0 classFile x code maxLocals ret World_1 tables_1 room_1 Calls_1 rest_1 Pre_1
      (fun tb e a s o t => postC L tb e a s o t ∧ Framed s o t (fieldLocs frame_1_writes a s ++ arrayLocs frame_1_arrays a s ++ staticLocs frame_1_statics s) 601024 7293034) := by
  intro l hflags _ _ p e ha hc hk s m args below hf hfit hheap happ hpre
  obtain ⟨k, o, h1, h2, h3, rfl, hF⟩ := lw_comes l hflags p e ha hc hk s m args below hf hfit hheap happ hpre
  exact ⟨k, _, h1, h2, h3, hL args s _, lw_frame hF⟩
theorem i_vc : Claimed_1_1 ∧ Claimed_1_2 := ⟨lw_limb limb_1_1 (fun args s t => by simp [limb_1_1, Cond.after, Cond.holds, Cond.value]), lw_limb limb_1_2 (fun args s t => Cond.after_iff.mpr (by
  first | (rw [show limb_1_2 = Cond.eq .result (.int 1) from rfl, Cond.eq_ints (x := 1) (y := 1) rfl rfl]; simp; done) | (simp [limb_1_2, Cond.value, Term.eval]; done)))⟩
