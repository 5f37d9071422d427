/-! ===== rows: arrays of every kind are made ===== -/
theorem ao_2 : Cond.arrayOver (.object (clN 2)) ∈ lw_tbl := by decide +kernel
theorem ao_3 : Cond.arrayOver (.object (clN 3)) ∈ lw_tbl := by decide +kernel
theorem ao_4 : Cond.arrayOver (.object (clN 4)) ∈ lw_tbl := by decide +kernel
theorem ao_8 : Cond.arrayOver (.object (clN 8)) ∈ lw_tbl := by decide +kernel
theorem ao_10 : Cond.arrayOver (.object (clN 10)) ∈ lw_tbl := by decide +kernel
section GNEW
variable {Γ : Cx} {cc : ByteArray} {own : String} {nL pc k n : Nat} {lo : List (Option AV)} {st : List AV} {w : AW}
/-- a byte array is made, at a place of one's choice that is free -/
theorem g_newb (h : OKB Γ cc own nL) {z : Int} (k0 : Nat) {nn : Nat} (hw : Cond.arrayClass .byte ∈ gw_tbl) (hz : z = (nn : Int)) (hb : nn < 100000) (h0 : (w.1 k0).1 = 0) (h2 : k0 < 20000) (hk : k + 1 ≤ (cxR Γ).cells) (hn : n + nn ≤ (cxR Γ).slots) (hd : decode cc pc = .ok (.newarray .byte, 2)) (kk : GG Γ (pc + 2) lo (ar k0 :: st) (alc w k0 (2, nn)) (k + 1) (n + nn)) : GG Γ pc lo (ai z :: st) w k n := by
  subst hz
  intro ad ls H locs hR hl ho hs hL hX
  have hx := ix_nat (i := nn) (nn := 100000) hb (by omega)
  refine va_newaK h.1 h.2.1 (atype := .byte) (h.2.2.2.2.1 _ hw) rfl hd (N := nn) rfl hx.2 hx.1 (by show nn * 1 ≤ 536870912; omega) hk hn rfl fun H1 cA e1 e2 e3 e4 e5 => ?_
  have hcA : cA = (cxZ Γ).2.2.1 2 := Option.some.inj (e5.symm.trans (h.2.2.2.2.2.1.2 2 (by unfold arK; omega)).2)
  obtain ⟨a1, a2, a3⟩ := RP_new (k0 := k0) (kd := (2, nn)) (H1 := H1) hR h0 h2 (by simp) (by unfold okC; rw [if_neg (by omega), e1, hcA]; rfl) e2 e3
  have hg : ∀ j, okr w j → upA ad k0 H.size j = ad j := fun j hj => (a2 j hj).1
  have hm : ∀ j, okr w j → okr (alc w k0 (2, nn)) j := fun j hj => (a2 j hj).2
  have h4 := kk (upA ad k0 H.size) ls H1 locs a1 (by rw [lp_agree hg lo 0 ho]; exact hl) (fun i u hu => okv_mono hm u (ho i u hu)) ⟨a3, okvs_mono hm _ hs.2⟩ hL (fun j hj => ⟨(hg j (hX j hj).2).trans (hX j hj).1, hm j (hX j hj).2⟩)
  rw [List.map_cons, st_agree hg st hs.2, show cv (upA ad k0 H.size) (ar k0) = .ref H.size by show Value.ref (upA ad k0 H.size k0) = _; unfold upA; rw [if_pos rfl]] at h4
  exact h4
/-- a boolean array is made, at a place of one's choice that is free -/
theorem g_newz (h : OKB Γ cc own nL) {z : Int} (k0 : Nat) {nn : Nat} (hw : Cond.arrayClass .boolean ∈ gw_tbl) (hz : z = (nn : Int)) (hb : nn < 100000) (h0 : (w.1 k0).1 = 0) (h2 : k0 < 20000) (hk : k + 1 ≤ (cxR Γ).cells) (hn : n + nn ≤ (cxR Γ).slots) (hd : decode cc pc = .ok (.newarray .boolean, 2)) (kk : GG Γ (pc + 2) lo (ar k0 :: st) (alc w k0 (3, nn)) (k + 1) (n + nn)) : GG Γ pc lo (ai z :: st) w k n := by
  subst hz
  intro ad ls H locs hR hl ho hs hL hX
  have hx := ix_nat (i := nn) (nn := 100000) hb (by omega)
  refine va_newaK h.1 h.2.1 (atype := .boolean) (h.2.2.2.2.1 _ hw) rfl hd (N := nn) rfl hx.2 hx.1 (by show nn * 1 ≤ 536870912; omega) hk hn rfl fun H1 cA e1 e2 e3 e4 e5 => ?_
  have hcA : cA = (cxZ Γ).2.2.1 3 := Option.some.inj (e5.symm.trans (h.2.2.2.2.2.1.2 3 (by unfold arK; omega)).2)
  obtain ⟨a1, a2, a3⟩ := RP_new (k0 := k0) (kd := (3, nn)) (H1 := H1) hR h0 h2 (by simp) (by unfold okC; rw [if_neg (by omega), e1, hcA]; rfl) e2 e3
  have hg : ∀ j, okr w j → upA ad k0 H.size j = ad j := fun j hj => (a2 j hj).1
  have hm : ∀ j, okr w j → okr (alc w k0 (3, nn)) j := fun j hj => (a2 j hj).2
  have h4 := kk (upA ad k0 H.size) ls H1 locs a1 (by rw [lp_agree hg lo 0 ho]; exact hl) (fun i u hu => okv_mono hm u (ho i u hu)) ⟨a3, okvs_mono hm _ hs.2⟩ hL (fun j hj => ⟨(hg j (hX j hj).2).trans (hX j hj).1, hm j (hX j hj).2⟩)
  rw [List.map_cons, st_agree hg st hs.2, show cv (upA ad k0 H.size) (ar k0) = .ref H.size by show Value.ref (upA ad k0 H.size k0) = _; unfold upA; rw [if_pos rfl]] at h4
  exact h4
/-- a long array is made, at a place of one's choice that is free -/
theorem g_newl (h : OKB Γ cc own nL) {z : Int} (k0 : Nat) {nn : Nat} (hw : Cond.arrayClass .long ∈ gw_tbl) (hz : z = (nn : Int)) (hb : nn < 100000) (h0 : (w.1 k0).1 = 0) (h2 : k0 < 20000) (hk : k + 1 ≤ (cxR Γ).cells) (hn : n + nn ≤ (cxR Γ).slots) (hd : decode cc pc = .ok (.newarray .long, 2)) (kk : GG Γ (pc + 2) lo (ar k0 :: st) (alc w k0 (4, nn)) (k + 1) (n + nn)) : GG Γ pc lo (ai z :: st) w k n := by
  subst hz
  intro ad ls H locs hR hl ho hs hL hX
  have hx := ix_nat (i := nn) (nn := 100000) hb (by omega)
  refine va_newaK h.1 h.2.1 (atype := .long) (h.2.2.2.2.1 _ hw) rfl hd (N := nn) rfl hx.2 hx.1 (by show nn * 8 ≤ 536870912; omega) hk hn rfl fun H1 cA e1 e2 e3 e4 e5 => ?_
  have hcA : cA = (cxZ Γ).2.2.1 4 := Option.some.inj (e5.symm.trans (h.2.2.2.2.2.1.2 4 (by unfold arK; omega)).2)
  obtain ⟨a1, a2, a3⟩ := RP_new (k0 := k0) (kd := (4, nn)) (H1 := H1) hR h0 h2 (by simp) (by unfold okC; rw [if_neg (by omega), e1, hcA]; rfl) e2 e3
  have hg : ∀ j, okr w j → upA ad k0 H.size j = ad j := fun j hj => (a2 j hj).1
  have hm : ∀ j, okr w j → okr (alc w k0 (4, nn)) j := fun j hj => (a2 j hj).2
  have h4 := kk (upA ad k0 H.size) ls H1 locs a1 (by rw [lp_agree hg lo 0 ho]; exact hl) (fun i u hu => okv_mono hm u (ho i u hu)) ⟨a3, okvs_mono hm _ hs.2⟩ hL (fun j hj => ⟨(hg j (hX j hj).2).trans (hX j hj).1, hm j (hX j hj).2⟩)
  rw [List.map_cons, st_agree hg st hs.2, show cv (upA ad k0 H.size) (ar k0) = .ref H.size by show Value.ref (upA ad k0 H.size k0) = _; unfold upA; rw [if_pos rfl]] at h4
  exact h4
/-- an array of references is made -/
theorem g_newq (h : OKB Γ cc own nL) {idx : Nat} {z : Int} {ci : Nat} (k0 : Nat) {nn : Nat} (hao : Cond.arrayOver (.object (clN ci)) ∈ lw_tbl) (hcl : Cond.classLink own idx (clN ci) ∈ gw_tbl) (hark : arK (200 + ci)) (hT : arT (200 + ci) = .object (clN ci)) (hz : z = (nn : Int)) (hb : nn < 100000) (h0 : (w.1 k0).1 = 0) (h2 : k0 < 20000) (hk : k + 1 ≤ (cxR Γ).cells) (hn : n + nn ≤ (cxR Γ).slots) (hd : decode cc pc = .ok (.anewarray idx, 3)) (kk : GG Γ (pc + 3) lo (ar k0 :: st) (alc w k0 (200 + ci, nn)) (k + 1) (n + nn)) : GG Γ pc lo (ai z :: st) w k n := by
  subst hz
  intro ad ls H locs hR hl ho hs hL hX
  have hx := ix_nat (i := nn) (nn := 100000) hb (by omega)
  have hover : va_AO (clN ci) (cxS Γ) := h.2.2.2.2.2.2.2.2.2.2.2.2.2.2.1 _ hao rfl
  refine W.anew h.1 h.2.1 h.2.2.2.1 (h.2.2.2.2.1 _ hcl) (va_AO.use hover) rfl hd rfl hx.2 (by rw [hx.1]; omega) hk (by rw [hx.1]; exact hn) fun cA kA comp f1 f2 f3 f4 => ?_
  rw [hx.1]
  generalize hH1 : H.push ({ cls := cA, slots := Array.replicate nn .null, vm := .none } : Cell) = H1
  have e2 : H1.size = H.size + 1 := by rw [← hH1, Array.size_push]
  have e1 : H1[H.size]? = some (arrV cA nn (fun _ => .null)) := by rw [← hH1, Array.getElem?_push_size, ← arrV_new]
  have e3 : ∀ q : Nat, q < H.size → H1[q]? = H[q]? := fun q hq => by rw [← hH1, Array.getElem?_push, if_neg (Nat.ne_of_lt hq)]
  have hra := (h.2.2.2.2.2.1.2 (200 + ci) hark).2
  rw [hT] at hra
  obtain ⟨kA2, comp2, -, -, -, f5⟩ := hra
  have hcA : cA = (cxZ Γ).2.2.1 (200 + ci) := Option.some.inj (f1.symm.trans f5)
  obtain ⟨a1, a2, a3⟩ := RP_new (k0 := k0) (kd := (200 + ci, nn)) (H1 := H1) hR h0 h2 (by show 200 + ci ≠ 0; omega) (by
    unfold okC
    rw [if_neg (by show ¬ (100 ≤ 200 + ci ∧ 200 + ci < 200); omega), e1, hcA]
    congr 2
    funext j
    unfold elV
    rw [if_neg (by show ¬ (200 + ci < 4); omega), if_neg (by show ¬ (200 + ci = 4); omega)]
    rfl) e2 e3
  have hg : ∀ j, okr w j → upA ad k0 H.size j = ad j := fun j hj => (a2 j hj).1
  have hm : ∀ j, okr w j → okr (alc w k0 (200 + ci, nn)) j := fun j hj => (a2 j hj).2
  have h4 := kk (upA ad k0 H.size) ls H1 locs a1 (by rw [lp_agree hg lo 0 ho]; exact hl) (fun i u hu => okv_mono hm u (ho i u hu)) ⟨a3, okvs_mono hm _ hs.2⟩ hL (fun j hj => ⟨(hg j (hX j hj).2).trans (hX j hj).1, hm j (hX j hj).2⟩)
  rw [List.map_cons, st_agree hg st hs.2, show cv (upA ad k0 H.size) (ar k0) = .ref H.size by show Value.ref (upA ad k0 H.size k0) = _; unfold upA; rw [if_pos rfl]] at h4
  exact h4
end GNEW
