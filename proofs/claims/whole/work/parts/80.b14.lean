/-! ===== rows: Throwable's fields and statics ===== -/
/-- a field of a class above is linked -/
def FLI (own : String) (idx ci f : Nat) : Prop := Cond.fieldLink own idx (clF ci f).1 (clF ci f).2.1 (clF ci f).2.2.1 ∈ gw_tbl ∧ (∀ c ∈ u_ws (clN ci) (clF ci) (clS ci), c ∈ gw_tbl) ∧ f < clS ci ∧ ci < 13
section GTH
variable {Γ : Cx} {cc : ByteArray} {own : String} {nL pc k n : Nat} {lo : List (Option AV)} {st : List AV} {w : AW}
/-- a field of a class above is written -/
theorem g_putVI (h : OKB Γ cc own nL) {idx ci f nn k0 : Nat} (hF : FLI own idx ci f) (hfin : (clF ci f).2.2.2 = false) (hsh : w.1 k0 = (100 + ci, nn)) {v : AV} {w' : AW} (h1 : w'.1 = w.1) (h2 : ∀ j, j ≠ k0 → w'.2.1 j = w.2.1 j ∧ w'.2.2 j = w.2.2 j) (h3 : ∀ (ad : Nat → Nat) (j : Nat), j < clS ci → updV (obV ad ci (w.2.1 k0) (w.2.2 k0)) f (cv ad v) j = obV ad ci (w'.2.1 k0) (w'.2.2 k0) j)
    (h4 : okv w v → (∀ i, okv w (aq (w.2.2 k0 i))) → ∀ i, okv w (aq (w'.2.2 k0 i))) (hn : ∀ ad : Nat → Nat, narrow (tyOf ci f) (cv ad v) = cv ad v) (hfit : ∀ ad : Nat → Nat, fits (tyOf ci f) (cv ad v) = true) (hd : decode cc pc = .ok (.putfield idx, 3)) (kk : GG Γ (pc + 3) lo st w' k n) : GG Γ pc lo (v :: ar k0 :: st) w k n := by
  intro ad ls H locs hR hl ho hs hL hX
  obtain ⟨hlk, hin, hf, hci⟩ := hF
  obtain ⟨hb, cell, q1, q2, q3, q4⟩ := ob_of hR hsh hci
  have hK := h.2.2.2.2.2.1.1 ci hci
  have hap : ∀ x y, x < clS ci → y < clS ci → x ≠ y → (cxZ Γ).2.1 ci x ≠ (cxZ Γ).2.1 ci y := by
    intro x y hx hy hne
    obtain ⟨hS, -⟩ := hK
    obtain ⟨_, _, _, fa, hia, ea⟩ := hS x hx
    obtain ⟨_, _, _, fb, hib, eb⟩ := hS y hy
    rw [← ea, ← eb]
    refine u_apart (u_lays h.2.2.2.2.1 hin hx) (u_lays h.2.2.2.2.1 hin hy) hia hib ?_
    rw [(State.fieldFound?_type hia (ty_all ci hci x hx)).1, (State.fieldFound?_type hib (ty_all ci hci y hy)).1]
    exact nm_all ci hci x hx y hy hne
  obtain ⟨hS, hfc, kC, hkC, hkind⟩ := hK
  obtain ⟨cf, kf, fi, fd, hi, hsl⟩ := hS f hf
  have hlay := h.2.2.2.2.1 _ (hin _ (u_in_lay hf))
  unfold u_lay at hlay
  rw [if_neg (by rw [hfin]; decide)] at hlay
  have hst := (u_facts hfc hkC (u_lays h.2.2.2.2.1 hin hf) hi).1
  have h6 := u_store hfc hkC hkind hlay hi (ty_all ci hci f hf) (hn ad) (hfit ad)
  refine W.putK h.1 h.2.1 (f := fd) ⟨h.2.2.2.1, h.2.2.2.2.1 _ hlk, ⟨_, _, _, hi⟩, hst⟩ (by rw [q2]; exact h6) q1 q3 (by rw [hsl]; exact k2_hasslot (q4 f hf)) rfl rfl hd fun H' e1 e2 e3 => ?_
  have hk0 : (w.1 k0).1 ≠ 0 := by rw [hsh]; show 100 + ci ≠ 0; omega
  refine kk ad ls H' _ (RP_set hR hk0 h1 h2 ?_ (h4 hs.1 (fun i => hR.2.2.2.2 k0 i hk0)) e2 e3) hl (fun i u hu => okv_mono (okr_up h1) u (ho i u hu)) (okvs_mono (okr_up h1) _ hs.2.2) ?_ (fun j hj => ⟨(hX j hj).1, okr_up h1 j (hX j hj).2⟩)
  · rw [hsh]
    unfold okC
    rw [if_pos (show 100 ≤ 100 + ci ∧ 100 + ci < 200 by omega)]
    simp only [Nat.add_sub_cancel_left]
    rw [hsl] at e1
    exact t_OB.to (V := updV (obV ad ci (w.2.1 k0) (w.2.2 k0)) f (cv ad v)) ⟨_, e1, q2, q3, t_set q4 hap hf (cv ad v)⟩ (h3 ad)
  · intro l hl2
    rcases List.mem_append.mp hl2 with q | q
    · exact hL l q
    · rw [List.mem_singleton] at q
      subst q
      exact hb
theorem g_putQI (h : OKB Γ cc own nL) {idx ci f nn k0 : Nat} (hF : FLI own idx ci f) (hfin : (clF ci f).2.2.2 = false) (hty : (∃ C, tyOf ci f = .object C) ∨ ∃ T, tyOf ci f = .array T) (hsh : w.1 k0 = (100 + ci, nn)) {r : Option Nat} (hd : decode cc pc = .ok (.putfield idx, 3)) (kk : GG Γ (pc + 3) lo st (upP w k0 f r) k n) : GG Γ pc lo (aq r :: ar k0 :: st) w k n := by
  refine g_putVI h hF hfin hsh (v := aq r) (w' := upP w k0 f r) rfl (fun j hj => ⟨rfl, if_neg hj⟩) (fun ad j _ => ?_) (fun q1 q2 i => ?_) (fun ad => ?_) (fun ad => ?_) hd kk
  · have e1 : (upP w k0 f r).2.2 k0 = fun i => if i = f then r else w.2.2 k0 i := if_pos rfl
    unfold updV
    rw [e1]
    by_cases hj : j = f
    · subst hj
      rcases hty with ⟨C, hC⟩ | ⟨T, hT⟩
      · simp [obV, hC, fk]
      · simp [obV, hT, fk]
    · simp [obV, hj, upP]
  · rw [upP_at]
    show okv w (aq (if i = f then r else w.2.2 k0 i))
    split
    · exact q1
    · exact q2 i
  · rcases hty with ⟨C, hC⟩ | ⟨T, hT⟩
    · rw [hC]; cases r <;> rfl
    · rw [hT]; cases r <;> rfl
  · rcases hty with ⟨C, hC⟩ | ⟨T, hT⟩
    · rw [hC]; cases r <;> rfl
    · rw [hT]; cases r <;> rfl
theorem g_getsU (h : OKB Γ cc own nL) {idx : Nat} (hlk : Cond.fieldLink own idx "java/lang/Throwable" "UNASSIGNED_STACK" "[Ljava/lang/StackTraceElement;" ∈ gw_tbl) (hd : decode cc pc = .ok (.getstatic idx, 3)) (kk : ∀ r : Option Nat, r = none ∨ r = some 20100 → GG Γ (pc + 3) lo (aq r :: st) w k n) : GG Γ pc lo st w k n := by
  intro ad ls H locs hR hl ho hs hL hX
  obtain ⟨r, hr, cf, kf, fi, f, a, cell, h1, h2, h3, h4, h5, h6, h7, h8⟩ := h.2.2.2.2.2.2.2.2.2.2.2.2.2.2.2.1
  have hk := kk r hr ad ls H locs hR hl ho ⟨by rcases hr with rfl | rfl; exact trivial; exact Or.inr (by omega), hs⟩ hL hX
  have he : cv ad (aq r) = cv (cxZ Γ).2.2.2.1 (aq r) := by
    rcases hr with rfl | rfl
    · rfl
    · exact fo_ad hR (by omega)
  rw [List.map_cons, he] at hk
  exact W.gets h.1 h.2.1 h.2.2.2.1 (h.2.2.2.2.1 _ hlk) h1 h2 h3 h4 (by rw [fo_eq hR h8]; exact h5) (fun e => by rw [e] at h6; cases h6) h7 rfl hd hk
theorem g_getsS (h : OKB Γ cc own nL) {idx : Nat} (hlk : Cond.fieldLink own idx "java/lang/Throwable" "SUPPRESSED_SENTINEL" "Ljava/util/List;" ∈ gw_tbl) (hd : decode cc pc = .ok (.getstatic idx, 3)) (kk : ∀ r : Option Nat, r = none ∨ r = some 20101 → GG Γ (pc + 3) lo (aq r :: st) w k n) : GG Γ pc lo st w k n := by
  intro ad ls H locs hR hl ho hs hL hX
  obtain ⟨r, hr, cf, kf, fi, f, a, cell, h1, h2, h3, h4, h5, h6, h7, h8⟩ := h.2.2.2.2.2.2.2.2.2.2.2.2.2.2.2.2
  have hk := kk r hr ad ls H locs hR hl ho ⟨by rcases hr with rfl | rfl; exact trivial; exact Or.inr (by omega), hs⟩ hL hX
  have he : cv ad (aq r) = cv (cxZ Γ).2.2.2.1 (aq r) := by
    rcases hr with rfl | rfl
    · rfl
    · exact fo_ad hR (by omega)
  rw [List.map_cons, he] at hk
  exact W.gets h.1 h.2.1 h.2.2.2.1 (h.2.2.2.2.1 _ hlk) h1 h2 h3 h4 (by rw [fo_eq hR h8]; exact h5) (fun e => by rw [e] at h6; cases h6) h7 rfl hd hk
end GTH
