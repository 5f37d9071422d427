/-! ===== arrays, new cells, calls, ends ===== -/
theorem ar_of {Z : ZT} {ad : Nat → Nat} {w : AW} {H : Heap} {k0 kd nn : Nat} (hR : RP Z ad w H) (hsh : w.1 k0 = (kd, nn)) (h0 : kd ≠ 0) (hk : ¬ (100 ≤ kd ∧ kd < 200)) : zB Z ≤ ad k0 ∧ H[ad k0]? = some (arrV (Z.2.2.1 kd) nn (fun j => elV ad kd (w.2.1 k0 j) (w.2.2 k0 j))) := by
  obtain ⟨hb, hc⟩ := hR.2.2.1 k0 (by rw [hsh]; exact h0)
  rw [hsh] at hc
  unfold okC at hc
  rw [if_neg hk] at hc
  exact ⟨hb, hc⟩
theorem ix_nat {i nn : Nat} (hi : i < nn) (hb : nn < 2147483648) : (Int32.ofInt (i : Int)).toNatClampNeg = i ∧ ¬ Int32.ofInt (i : Int) < 0 := by
  have h : R32 (i : Int) := ⟨by omega, by omega⟩
  refine ⟨?_, ?_⟩
  · show (Int32.ofInt (i : Int)).toInt.toNat = i
    rw [h.toInt]
    rfl
  · rw [← R32.zero, R32.lt h R32.z]
    omega
theorem ix_in {i nn : Nat} (hi : i < nn) (hb : nn < 2147483648) (cA : ClassId) (f : Nat → Value) : ¬ (Int32.ofInt (i : Int) < 0 ∨ (arrV cA nn f).slots.size ≤ (Int32.ofInt (i : Int)).toNatClampNeg) := by
  rw [arrV_size, (ix_nat hi hb).1]
  rintro (q | q)
  · exact (ix_nat hi hb).2 q
  · omega
theorem nofl : ∀ ci, ci < 13 → ∀ f, f < clS ci → tyOf ci f ≠ .float ∧ tyOf ci f ≠ .double := by decide +kernel
section GARR
variable {Γ : Cx} {cc : ByteArray} {own : String} {nL pc k n : Nat} {lo : List (Option AV)} {st : List AV} {w : AW}
theorem g_alen (h : OKB Γ cc own nL) {k0 kd nn : Nat} (hsh : w.1 k0 = (kd, nn)) (hk : arK kd) (hd : decode cc pc = .ok (.arraylength, 1)) (kk : GG Γ (pc + 1) lo (ai (nn : Int) :: st) w k n) : GG Γ pc lo (ar k0 :: st) w k n := by
  intro ad ls H locs hR hl ho hs hL hX
  have hk0 : kd ≠ 0 ∧ ¬ (100 ≤ kd ∧ kd < 200) := by unfold arK at hk; omega
  obtain ⟨hb, hc⟩ := ar_of hR hsh hk0.1 hk0.2
  refine W.alen (n := Int32.ofInt (nn : Int)) h.1 h.2.1 hc ((h.2.2.2.2.2.1.2 kd hk).1 _ _) ?_ rfl rfl hd (kk ad ls H locs hR hl ho ⟨trivial, hs.2⟩ hL hX)
  rw [arrV_size]
  rfl
theorem g_iald (h : OKB Γ cc own nL) {k0 nn : Nat} {z : Int} (i : Nat) (hsh : w.1 k0 = (1, nn)) (hz : z = (i : Int)) (hi : i < nn) (hb : nn < 2147483648) (hd : decode cc pc = .ok (.iaload, 1)) (kk : GG Γ (pc + 1) lo (ai (w.2.1 k0 i) :: st) w k n) : GG Γ pc lo (ai z :: ar k0 :: st) w k n := by
  subst hz
  intro ad ls H locs hR hl ho hs hL hX
  obtain ⟨-, hc⟩ := ar_of hR hsh (by omega) (by omega)
  refine W.iald (v := cv ad (ai (w.2.1 k0 i))) h.1 h.2.1 hc ((h.2.2.2.2.2.1.2 1 (Or.inl rfl)).1 _ _) (fun q => by cases q) (ix_in hi hb _ _) ?_ rfl rfl hd (kk ad ls H locs hR hl ho ⟨trivial, hs.2.2⟩ hL hX)
  rw [(ix_nat hi hb).1, arrV_read _ _ hi]
  rfl
theorem g_bald (h : OKB Γ cc own nL) {k0 nn : Nat} {z : Int} (i : Nat) (hsh : w.1 k0 = (2, nn)) (hz : z = (i : Int)) (hi : i < nn) (hb : nn < 2147483648) (hd : decode cc pc = .ok (.baload, 1)) (kk : GG Γ (pc + 1) lo (ai (w.2.1 k0 i) :: st) w k n) : GG Γ pc lo (ai z :: ar k0 :: st) w k n := by
  subst hz
  intro ad ls H locs hR hl ho hs hL hX
  obtain ⟨-, hc⟩ := ar_of hR hsh (by omega) (by omega)
  refine W.bald (v := cv ad (ai (w.2.1 k0 i))) h.1 h.2.1 hc ((h.2.2.2.2.2.1.2 2 (Or.inr (Or.inl rfl))).1 _ _) (fun q => by cases q) (ix_in hi hb _ _) ?_ rfl rfl hd (kk ad ls H locs hR hl ho ⟨trivial, hs.2.2⟩ hL hX)
  rw [(ix_nat hi hb).1, arrV_read _ _ hi]
  rfl
theorem g_zald (h : OKB Γ cc own nL) {k0 nn : Nat} {z : Int} (i : Nat) (hsh : w.1 k0 = (3, nn)) (hz : z = (i : Int)) (hi : i < nn) (hb : nn < 2147483648) (hd : decode cc pc = .ok (.baload, 1)) (kk : GG Γ (pc + 1) lo (ai (w.2.1 k0 i) :: st) w k n) : GG Γ pc lo (ai z :: ar k0 :: st) w k n := by
  subst hz
  intro ad ls H locs hR hl ho hs hL hX
  obtain ⟨-, hc⟩ := ar_of hR hsh (by omega) (by omega)
  refine W.zald (v := cv ad (ai (w.2.1 k0 i))) h.1 h.2.1 hc ((h.2.2.2.2.2.1.2 3 (Or.inr (Or.inr (Or.inl rfl)))).1 _ _) (fun q => by cases q) (ix_in hi hb _ _) ?_ rfl rfl hd (kk ad ls H locs hR hl ho ⟨trivial, hs.2.2⟩ hL hX)
  rw [(ix_nat hi hb).1, arrV_read _ _ hi]
  rfl
theorem arK_ref {kd : Nat} (hk : arK kd) (h4 : 200 ≤ kd) : ∃ C, arT kd = .object C := by
  unfold arK at hk
  rcases hk with h | h | h | h | h | h | h | h | h <;> subst h <;> first | omega | exact ⟨_, rfl⟩
theorem g_aald (h : OKB Γ cc own nL) {k0 kd nn : Nat} {z : Int} (i : Nat) (hsh : w.1 k0 = (kd, nn)) (hkd : arK kd) (hk4 : 200 ≤ kd) (hz : z = (i : Int)) (hi : i < nn) (hb : nn < 2147483648) {r : Option Nat} (hr : w.2.2 k0 i = r) (hd : decode cc pc = .ok (.aaload, 1)) (kk : GG Γ (pc + 1) lo (aq r :: st) w k n) : GG Γ pc lo (ai z :: ar k0 :: st) w k n := by
  subst hz
  intro ad ls H locs hR hl ho hs hL hX
  obtain ⟨-, hc⟩ := ar_of hR hsh (by omega) (by omega)
  obtain ⟨C, hC⟩ := arK_ref hkd hk4
  have h1 := (h.2.2.2.2.2.1.2 kd hkd).1
  rw [hC] at h1
  have hok : okv w (aq r) := hr ▸ hR.2.2.2.2 k0 i (by rw [hsh]; show kd ≠ 0; omega)
  refine W.aald (v := cv ad (aq r)) (ty := .object C) h.1 h.2.1 hc (h1 _ _) rfl (fun q => by cases q) (ix_in hi hb _ _) ?_ rfl rfl hd (kk ad ls H locs hR hl ho ⟨hok, hs.2.2⟩ hL hX)
  rw [(ix_nat hi hb).1, arrV_read _ _ hi, hr]
  unfold elV
  rw [if_neg (by omega), if_neg (by omega)]
/-- an array's place is written -/
theorem ar_set {Z : ZT} {ad : Nat → Nat} {w : AW} {H H1 : Heap} {k0 kd nn i : Nat} (hR : RP Z ad w H) (hsh : w.1 k0 = (kd, nn)) (h0 : kd ≠ 0) (hk : ¬ (100 ≤ kd ∧ kd < 200)) {w' : AW} (h1 : w'.1 = w.1) (h2 : ∀ j, j ≠ k0 → w'.2.1 j = w.2.1 j ∧ w'.2.2 j = w.2.2 j)
    {v : Value} (h3 : ∀ j, updV (fun j => elV ad kd (w.2.1 k0 j) (w.2.2 k0 j)) i v j = elV ad kd (w'.2.1 k0 j) (w'.2.2 k0 j)) (h4 : ∀ j, okv w (aq (w'.2.2 k0 j)))
    (e1 : H1[ad k0]? = some ((arrV (Z.2.2.1 kd) nn (fun j => elV ad kd (w.2.1 k0 j) (w.2.2 k0 j))).setSlot i v)) (e2 : H1.size = H.size) (e3 : ∀ q, q ≠ ad k0 → H1[q]? = H[q]?) : RP Z ad w' H1 := by
  refine RP_set hR (by rw [hsh]; exact h0) h1 h2 ?_ h4 e2 e3
  rw [hsh]
  unfold okC
  rw [if_neg hk, e1, arrV_store]
  congr 2
  funext j
  exact h3 j
theorem upI_at (w : AW) (k f : Nat) (z : Int) : (upI w k f z).2.1 k = fun i => if i = f then z else w.2.1 k i := if_pos rfl
theorem upP_at (w : AW) (k f : Nat) (r : Option Nat) : (upP w k f r).2.2 k = fun i => if i = f then r else w.2.2 k i := if_pos rfl
theorem locs_app {Z : ZT} {locs : List Loc} {a i : Nat} (h : ∀ l ∈ locs, zA Z l.base) (hb : zB Z ≤ a) : ∀ l ∈ locs ++ [⟨a, i⟩], zA Z l.base := by
  intro l hl2
  rcases List.mem_append.mp hl2 with q | q
  · exact h l q
  · rw [List.mem_singleton] at q
    subst q
    exact hb
theorem g_iast (h : OKB Γ cc own nL) {k0 nn : Nat} {z x : Int} (i : Nat) (hsh : w.1 k0 = (1, nn)) (hz : z = (i : Int)) (hi : i < nn) (hb : nn < 2147483648) (hd : decode cc pc = .ok (.iastore, 1)) (kk : GG Γ (pc + 1) lo st (upI w k0 i x) k n) : GG Γ pc lo (ai x :: ai z :: ar k0 :: st) w k n := by
  subst hz
  intro ad ls H locs hR hl ho hs hL hX
  obtain ⟨hbb, hc⟩ := ar_of hR hsh (by omega) (by omega)
  refine W.iast (x := Int32.ofInt x) h.1 h.2.1 hc ((h.2.2.2.2.2.1.2 1 (Or.inl rfl)).1 _ _) (fun q => by cases q) (ix_in hi hb _ _) rfl rfl hd fun H1 e1 e2 e3 => ?_
  rw [(ix_nat hi hb).1] at e1
  refine kk ad ls H1 _ (ar_set (w' := upI w k0 i x) hR hsh (by omega) (by omega) rfl (fun j hj => ⟨if_neg hj, rfl⟩) (fun j => ?_) (fun j => hR.2.2.2.2 k0 j (by rw [hsh]; simp)) e1 e2 e3) hl (fun i u hu => okv_mono (okr_up (w := w) (w' := upI w k0 i x) rfl) u (ho i u hu)) (okvs_mono (okr_up (w := w) (w' := upI w k0 i x) rfl) _ hs.2.2.2) (locs_app hL hbb) (fun j hj => ⟨(hX j hj).1, okr_up (w := w) (w' := upI w k0 i x) rfl j (hX j hj).2⟩)
  rw [upI_at]
  by_cases hj : j = i
  · subst hj
    simp [updV, elV, cv]
  · simp [updV, elV, cv, hj]
theorem g_bast (h : OKB Γ cc own nL) {k0 nn : Nat} {z x : Int} (i : Nat) (hsh : w.1 k0 = (2, nn)) (hz : z = (i : Int)) (hi : i < nn) (hb : nn < 2147483648) (hx : (Int32.ofInt x).toInt8.toInt32 = Int32.ofInt x) (hd : decode cc pc = .ok (.bastore, 1)) (kk : GG Γ (pc + 1) lo st (upI w k0 i x) k n) : GG Γ pc lo (ai x :: ai z :: ar k0 :: st) w k n := by
  subst hz
  intro ad ls H locs hR hl ho hs hL hX
  obtain ⟨hbb, hc⟩ := ar_of hR hsh (by omega) (by omega)
  refine W.bast (x := Int32.ofInt x) h.1 h.2.1 hc ((h.2.2.2.2.2.1.2 2 (Or.inr (Or.inl rfl))).1 _ _) (fun q => by cases q) (ix_in hi hb _ _) rfl rfl hd fun H1 e1 e2 e3 => ?_
  rw [(ix_nat hi hb).1, narrow_byte, hx] at e1
  refine kk ad ls H1 _ (ar_set (w' := upI w k0 i x) hR hsh (by omega) (by omega) rfl (fun j hj => ⟨if_neg hj, rfl⟩) (fun j => ?_) (fun j => hR.2.2.2.2 k0 j (by rw [hsh]; simp)) e1 e2 e3) hl (fun i u hu => okv_mono (okr_up (w := w) (w' := upI w k0 i x) rfl) u (ho i u hu)) (okvs_mono (okr_up (w := w) (w' := upI w k0 i x) rfl) _ hs.2.2.2) (locs_app hL hbb) (fun j hj => ⟨(hX j hj).1, okr_up (w := w) (w' := upI w k0 i x) rfl j (hX j hj).2⟩)
  rw [upI_at]
  by_cases hj : j = i
  · subst hj
    simp [updV, elV, cv]
  · simp [updV, elV, cv, hj]
theorem g_zast (h : OKB Γ cc own nL) {k0 nn : Nat} {z x : Int} (i : Nat) (hsh : w.1 k0 = (3, nn)) (hz : z = (i : Int)) (hi : i < nn) (hb : nn < 2147483648) (hx : x = 0 ∨ x = 1) (hd : decode cc pc = .ok (.bastore, 1)) (kk : GG Γ (pc + 1) lo st (upI w k0 i x) k n) : GG Γ pc lo (ai x :: ai z :: ar k0 :: st) w k n := by
  subst hz
  intro ad ls H locs hR hl ho hs hL hX
  obtain ⟨hbb, hc⟩ := ar_of hR hsh (by omega) (by omega)
  refine W.zast (x := Int32.ofInt x) h.1 h.2.1 hc ((h.2.2.2.2.2.1.2 3 (Or.inr (Or.inr (Or.inl rfl)))).1 _ _) (fun q => by cases q) (ix_in hi hb _ _) rfl rfl hd fun H1 e1 e2 e3 => ?_
  have hn : narrow .boolean (.int (Int32.ofInt x)) = .int (Int32.ofInt x) := by rcases hx with rfl | rfl <;> rfl
  rw [(ix_nat hi hb).1, hn] at e1
  refine kk ad ls H1 _ (ar_set (w' := upI w k0 i x) hR hsh (by omega) (by omega) rfl (fun j hj => ⟨if_neg hj, rfl⟩) (fun j => ?_) (fun j => hR.2.2.2.2 k0 j (by rw [hsh]; simp)) e1 e2 e3) hl (fun i u hu => okv_mono (okr_up (w := w) (w' := upI w k0 i x) rfl) u (ho i u hu)) (okvs_mono (okr_up (w := w) (w' := upI w k0 i x) rfl) _ hs.2.2.2) (locs_app hL hbb) (fun j hj => ⟨(hX j hj).1, okr_up (w := w) (w' := upI w k0 i x) rfl j (hX j hj).2⟩)
  rw [upI_at]
  by_cases hj : j = i
  · subst hj
    simp [updV, elV, cv]
  · simp [updV, elV, cv, hj]
/-- an int array is made, at a place of one's choice that is free -/
theorem g_newi (h : OKB Γ cc own nL) {z : Int} (k0 : Nat) {nn : Nat} (hw : Cond.arrayClass .int ∈ gw_tbl) (hz : z = (nn : Int)) (hb : nn < 100000) (h0 : (w.1 k0).1 = 0) (h2 : k0 < 20000) (hk : k + 1 ≤ (cxR Γ).cells) (hn : n + nn ≤ (cxR Γ).slots) (hd : decode cc pc = .ok (.newarray .int, 2)) (kk : GG Γ (pc + 2) lo (ar k0 :: st) (alc w k0 (1, nn)) (k + 1) (n + nn)) : GG Γ pc lo (ai z :: st) w k n := by
  subst hz
  intro ad ls H locs hR hl ho hs hL hX
  have hx := ix_nat (i := nn) (nn := 100000) hb (by omega)
  refine va_newaK h.1 h.2.1 (atype := .int) (h.2.2.2.2.1 _ hw) rfl hd (N := nn) rfl hx.2 hx.1 (by show nn * 4 ≤ 536870912; omega) hk hn rfl fun H1 cA e1 e2 e3 e4 e5 => ?_
  have hcA : cA = (cxZ Γ).2.2.1 1 := Option.some.inj (e5.symm.trans (h.2.2.2.2.2.1.2 1 (Or.inl rfl)).2)
  obtain ⟨a1, a2, a3⟩ := RP_new (k0 := k0) (kd := (1, nn)) (H1 := H1) hR h0 h2 (by simp) (by unfold okC; rw [if_neg (by omega), e1, hcA]; rfl) e2 e3
  have hg : ∀ j, okr w j → upA ad k0 H.size j = ad j := fun j hj => (a2 j hj).1
  have hm : ∀ j, okr w j → okr (alc w k0 (1, nn)) j := fun j hj => (a2 j hj).2
  have h4 := kk (upA ad k0 H.size) ls H1 locs a1 (by rw [lp_agree hg lo 0 ho]; exact hl) (fun i u hu => okv_mono hm u (ho i u hu)) ⟨a3, okvs_mono hm _ hs.2⟩ hL (fun j hj => ⟨(hg j (hX j hj).2).trans (hX j hj).1, hm j (hX j hj).2⟩)
  rw [List.map_cons, st_agree hg st hs.2, show cv (upA ad k0 H.size) (ar k0) = .ref H.size by show Value.ref (upA ad k0 H.size k0) = _; unfold upA; rw [if_pos rfl]] at h4
  exact h4
/-- an object is made -/
theorem g_new (h : OKB Γ cc own nL) {idx ci : Nat} (k0 : Nat) (hci : ci < 13) (hw1 : Cond.classLink own idx (clN ci) ∈ gw_tbl) (hw2 : Cond.instantiable (clN ci) (clS ci) ∈ gw_tbl) (hw3 : Cond.initialized (clN ci) ∈ gw_tbl) (hin : ∀ c ∈ u_ws (clN ci) (clF ci) (clS ci), c ∈ gw_tbl) (h0 : (w.1 k0).1 = 0) (h2 : k0 < 20000) (hk : k + 1 ≤ (cxR Γ).cells) (hn : n + clS ci ≤ (cxR Γ).slots) (hd : decode cc pc = .ok (.new idx, 3)) (kk : GG Γ (pc + 3) lo (ar k0 :: st) (alc w k0 (100 + ci, 0)) (k + 1) (n + clS ci)) : GG Γ pc lo st w k n := by
  intro ad ls H locs hR hl ho hs hL hX
  have hKn := h.2.2.2.2.2.1.1 ci hci
  refine W.newcK h.1 h.2.1 h.2.2.2.1 (h.2.2.2.2.1 _ hw1) (h.2.2.2.2.1 _ hw2) (h.2.2.2.2.1 _ hw3) rfl hd hk hn hKn.2.1 rfl fun H1 kC hkC e1 e2 e3 => ?_
  have hob := u_born (tyOf ci) h.2.2.2.2.1 hin hKn hkC e1 (ty_all ci hci)
  obtain ⟨a1, a2, a3⟩ := RP_new (k0 := k0) (kd := (100 + ci, 0)) (H1 := H1) hR h0 h2 (by show 100 + ci ≠ 0; omega) (by
    unfold okC
    rw [if_pos (show 100 ≤ 100 + ci ∧ 100 + ci < 200 by omega)]
    simp only [Nat.add_sub_cancel_left]
    refine t_OB.to hob (fun f hf => ?_)
    unfold obV
    obtain ⟨nf1, nf2⟩ := nofl ci hci f hf
    cases hq : tyOf ci f <;> first | rfl | exact absurd hq nf1 | exact absurd hq nf2) e2 e3
  have hg : ∀ j, okr w j → upA ad k0 H.size j = ad j := fun j hj => (a2 j hj).1
  have hm : ∀ j, okr w j → okr (alc w k0 (100 + ci, 0)) j := fun j hj => (a2 j hj).2
  have h4 := kk (upA ad k0 H.size) ls H1 locs a1 (by rw [lp_agree hg lo 0 ho]; exact hl) (fun i u hu => okv_mono hm u (ho i u hu)) ⟨a3, okvs_mono hm _ hs⟩ hL (fun j hj => ⟨(hg j (hX j hj).2).trans (hX j hj).1, hm j (hX j hj).2⟩)
  rw [List.map_cons, st_agree hg st hs, show cv (upA ad k0 H.size) (ar k0) = .ref H.size by show Value.ref (upA ad k0 H.size k0) = _; unfold upA; rw [if_pos rfl]] at h4
  exact h4
theorem g_objinit (h : OKB Γ cc own nL) {idx k0 : Nat} (hw1 : Cond.methodLink own idx objectInit ∈ gw_tbl) (hw2 : Cond.instanceMethod objectInit ∈ gw_tbl) (hw3 : Cond.code objectInit ⟨#[0xb1]⟩ 1 none ∈ gw_tbl) (hnl : lo.length = nL) (hfr : 1 ≤ (cxR Γ).frames) (hlc : 20 ≤ (cxR Γ).locals) (hst : ∀ ad, ((st.map (cv ad)).map fun v => v.category).sum ≤ 8) (hd : decode cc pc = .ok (.invokespecial idx, 3)) (kk : GG Γ (pc + 3) lo st w k n) : GG Γ pc lo (ar k0 :: st) w k n := by
  intro ad ls H locs hR hl ho hs hL hX
  refine W.objInit h.1 h.2.1 h.2.2.2.1 (h.2.2.2.2.1 _ hw1) (h.2.2.2.2.1 _ hw2) (h.2.2.2.2.1 _ hw3) rfl (by rw [h.2.2.1, ← hnl]; exact hl.1) rfl hd hfr (by have := hst ad; show 2 * 0 + _ + 12 ≤ _; omega) (kk ad ls H locs hR hl ho hs.2 hL hX)
end GARR
