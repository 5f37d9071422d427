/-! ===== rows of the heap ===== -/
theorem nm_all (ci : Nat) (h : ci < 13) : ∀ a, a < clS ci → ∀ b, b < clS ci → a ≠ b → (clF ci a).2.1 ≠ (clF ci b).2.1 := by
  match ci, h with
  | 0, _ => exact nmX0
  | 1, _ => exact nmX1
  | 2, _ => exact nmX2
  | 3, _ => exact nmX3
  | 4, _ => exact nmX4
  | 5, _ => exact nmX5
  | 6, _ => exact nmX6
  | 7, _ => exact nmX7
  | 8, _ => exact nmX8
  | 9, _ => exact nmX9
  | 10, _ => exact nmX10
  | 11, _ => exact nmX11
  | 12, _ => exact nmX12
  | n + 13, h => omega
theorem ty_all (ci : Nat) (h : ci < 13) : ∀ k, k < clS ci → parseFieldDescriptor (clF ci k).2.2.1 = some (tyOf ci k) := by
  match ci, h with
  | 0, _ => exact tyX0_ok
  | 1, _ => exact tyX1_ok
  | 2, _ => exact tyX2_ok
  | 3, _ => exact tyX3_ok
  | 4, _ => exact tyX4_ok
  | 5, _ => exact tyX5_ok
  | 6, _ => exact tyX6_ok
  | 7, _ => exact tyX7_ok
  | 8, _ => exact tyX8_ok
  | 9, _ => exact tyX9_ok
  | 10, _ => exact tyX10_ok
  | 11, _ => exact tyX11_ok
  | 12, _ => exact tyX12_ok
  | n + 13, h => omega
def upI (w : AW) (k f : Nat) (z : Int) : AW := (w.1, fun j => if j = k then (fun i => if i = f then z else w.2.1 k i) else w.2.1 j, w.2.2)
def upP (w : AW) (k f : Nat) (r : Option Nat) : AW := (w.1, w.2.1, fun j => if j = k then (fun i => if i = f then r else w.2.2 k i) else w.2.2 j)
def alc (w : AW) (k : Nat) (kd : Nat × Nat) : AW := (fun j => if j = k then kd else w.1 j, fun j => if j = k then (fun _ => 0) else w.2.1 j, fun j => if j = k then (fun _ => none) else w.2.2 j)
theorem okC_kept {Z : ZT} {ad : Nat → Nat} {a : Nat} {kd : Nat × Nat} {I : Nat → Int} {P : Nat → Option Nat} {H H1 : Heap} (h : okC Z ad a kd I P H) (hq : H1[a]? = H[a]?) : okC Z ad a kd I P H1 := by
  unfold okC at h ⊢
  split
  · rename_i c
    rw [if_pos c] at h
    exact t_OB.kept h hq
  · rename_i c
    rw [if_neg c] at h
    rw [hq]
    exact h
theorem okC_lt {Z : ZT} {ad : Nat → Nat} {a : Nat} {kd : Nat × Nat} {I : Nat → Int} {P : Nat → Option Nat} {H : Heap} (h : okC Z ad a kd I P H) : a < H.size := by
  unfold okC at h
  split at h
  · obtain ⟨cell, h2, -⟩ := h
    exact (Array.getElem?_eq_some_iff.mp h2).1
  · exact (Array.getElem?_eq_some_iff.mp h).1
/-- one cell is written -/
theorem RP_set {Z : ZT} {ad : Nat → Nat} {w w' : AW} {H H1 : Heap} {k0 : Nat} (h : RP Z ad w H) (hk : (w.1 k0).1 ≠ 0) (h1 : w'.1 = w.1) (h2 : ∀ j, j ≠ k0 → w'.2.1 j = w.2.1 j ∧ w'.2.2 j = w.2.2 j)
    (hc : okC Z ad (ad k0) (w.1 k0) (w'.2.1 k0) (w'.2.2 k0) H1) (hv : ∀ i, okv w (aq (w'.2.2 k0 i))) (hz : H1.size = H.size) (oq : ∀ q : Nat, q ≠ ad k0 → H1[q]? = H[q]?) : RP Z ad w' H1 := by
  obtain ⟨⟨a1, a2⟩, b, c, d, e⟩ := h
  have hb := (c k0 hk).1
  have okv' : ∀ v, okv w v → okv w' v := by
    intro v
    rcases v with z | r | z
    · exact fun _ => trivial
    · cases r with
      | none => exact fun _ => trivial
      | some j => intro q; unfold okv okr at q ⊢; rw [h1]; exact q
    · exact fun _ => trivial
  refine ⟨⟨by rw [hz]; exact a1, fun q hq => by rw [oq q (by omega)]; exact a2 q hq⟩, fun k hk2 => by rw [h1]; exact b k hk2, fun k hk2 => ?_, fun j k hj hk2 => ?_, fun k i hk2 => ?_⟩
  · rw [h1] at hk2 ⊢
    refine ⟨(c k hk2).1, ?_⟩
    by_cases hkk : k = k0
    · subst hkk
      exact hc
    · rw [(h2 k hkk).1, (h2 k hkk).2]
      exact okC_kept (c k hk2).2 (oq _ (fun q => hkk (d k k0 hk2 hk q)))
  · rw [h1] at hj hk2
    exact d j k hj hk2
  · rw [h1] at hk2
    refine okv' _ ?_
    by_cases hkk : k = k0
    · subst hkk
      exact hv i
    · rw [(h2 k hkk).2]
      exact e k i hk2
theorem cv_agree {w : AW} {ad ad' : Nat → Nat} (hg : ∀ j, okr w j → ad' j = ad j) : ∀ v : AV, okv w v → cv ad' v = cv ad v
  | .inl z, _ => rfl
  | .inr (.inl none), _ => rfl
  | .inr (.inl (some k)), h => by show Value.ref (ad' k) = Value.ref (ad k); rw [hg k h]
  | .inr (.inr z), _ => rfl
theorem okC_agree {Z : ZT} {w : AW} {ad ad' : Nat → Nat} (hg : ∀ j, okr w j → ad' j = ad j) {a : Nat} {kd : Nat × Nat} {I : Nat → Int} {P : Nat → Option Nat} {H : Heap} (hP : ∀ i, okv w (aq (P i))) (h : okC Z ad a kd I P H) : okC Z ad' a kd I P H := by
  unfold okC at h ⊢
  split
  · rename_i c
    rw [if_pos c] at h
    refine t_OB.to h (fun f _ => ?_)
    unfold obV
    split
    · rfl
    · exact (cv_agree hg _ (hP f)).symm
    · rfl
  · rename_i c
    rw [if_neg c] at h
    rw [h]
    congr 2
    funext j
    unfold elV
    split
    · rfl
    · split
      · rfl
      · exact (cv_agree hg _ (hP j)).symm
def upA (ad : Nat → Nat) (k q : Nat) : Nat → Nat := fun j => if j = k then q else ad j
/-- a new cell -/
theorem RP_new {Z : ZT} {ad : Nat → Nat} {w : AW} {H H1 : Heap} {k0 : Nat} {kd : Nat × Nat} (h : RP Z ad w H) (hk : (w.1 k0).1 = 0) (hk2 : k0 < 20000) (hkd : kd.1 ≠ 0)
    (hc : okC Z (upA ad k0 H.size) H.size kd (fun _ => 0) (fun _ => none) H1) (hz : H1.size = H.size + 1) (oq : ∀ q : Nat, q < H.size → H1[q]? = H[q]?) :
    RP Z (upA ad k0 H.size) (alc w k0 kd) H1 ∧ (∀ j, okr w j → upA ad k0 H.size j = ad j ∧ okr (alc w k0 kd) j) ∧ okr (alc w k0 kd) k0 := by
  obtain ⟨⟨a1, a2⟩, b, c, d, e⟩ := h
  have hne : ∀ j, okr w j → j ≠ k0 := by
    intro j hj q
    subst q
    rcases hj with hj | hj
    · exact hj hk
    · omega
  have hg : ∀ j, okr w j → upA ad k0 H.size j = ad j := fun j hj => if_neg (hne j hj)
  have hokr : ∀ j, okr w j → okr (alc w k0 kd) j := by
    intro j hj
    rcases hj with h1 | h1
    · exact Or.inl (by show (if j = k0 then kd else w.1 j).1 ≠ 0; rw [if_neg (hne j (Or.inl h1))]; exact h1)
    · exact Or.inr h1
  have hokv : ∀ v, okv w v → okv (alc w k0 kd) v := by
    intro v
    rcases v with z | r | z
    · exact fun _ => trivial
    · cases r with
      | none => exact fun _ => trivial
      | some j => exact hokr j
    · exact fun _ => trivial
  have h0 : okr (alc w k0 kd) k0 := Or.inl (by show (if k0 = k0 then kd else w.1 k0).1 ≠ 0; rw [if_pos rfl]; exact hkd)
  have sh : ∀ k, ((alc w k0 kd).1 k).1 ≠ 0 → k ≠ k0 → (w.1 k).1 ≠ 0 := by
    intro k h1 h2
    have : (alc w k0 kd).1 k = w.1 k := if_neg h2
    rw [this] at h1
    exact h1
  refine ⟨⟨⟨by omega, fun q hq => by rw [oq q (by omega)]; exact a2 q hq⟩, fun k hk3 => ?_, fun k hk3 => ?_, fun j k hj hk3 hjk => ?_, fun k i hk3 => ?_⟩, fun j hj => ⟨hg j hj, hokr j hj⟩, h0⟩
  · have : k ≠ k0 := by omega
    refine ⟨(if_neg this).trans (b k hk3).1, ?_⟩
    show (if k = k0 then kd else w.1 k).1 = 0
    rw [if_neg this]
    exact (b k hk3).2
  · by_cases hkk : k = k0
    · subst hkk
      have e1 : upA ad k H.size k = H.size := if_pos rfl
      have e2 : (alc w k kd).1 k = kd := if_pos rfl
      have e3 : (alc w k kd).2.1 k = fun _ => 0 := if_pos rfl
      have e4 : (alc w k kd).2.2 k = fun _ => none := if_pos rfl
      rw [e1, e2, e3, e4]
      exact ⟨a1, hc⟩
    · have h3 := sh k hk3 hkk
      have e1 : upA ad k0 H.size k = ad k := if_neg hkk
      have e2 : (alc w k0 kd).1 k = w.1 k := if_neg hkk
      have e3 : (alc w k0 kd).2.1 k = w.2.1 k := if_neg hkk
      have e4 : (alc w k0 kd).2.2 k = w.2.2 k := if_neg hkk
      rw [e1, e2, e3, e4]
      refine ⟨(c k h3).1, okC_agree hg (fun i => e k i h3) (okC_kept (c k h3).2 (oq _ (okC_lt (c k h3).2)))⟩
  · by_cases h1 : j = k0 <;> by_cases h2 : k = k0
    · rw [h1, h2]
    · have h3 := okC_lt (c k (sh k hk3 h2)).2
      have e1 : upA ad k0 H.size j = H.size := if_pos h1
      have e2 : upA ad k0 H.size k = ad k := if_neg h2
      rw [e1, e2] at hjk
      omega
    · have h3 := okC_lt (c j (sh j hj h1)).2
      have e1 : upA ad k0 H.size k = H.size := if_pos h2
      have e2 : upA ad k0 H.size j = ad j := if_neg h1
      rw [e1, e2] at hjk
      omega
    · have e1 : upA ad k0 H.size k = ad k := if_neg h2
      have e2 : upA ad k0 H.size j = ad j := if_neg h1
      rw [e1, e2] at hjk
      exact d j k (sh j hj h1) (sh k hk3 h2) hjk
  · by_cases hkk : k = k0
    · subst hkk
      have e4 : (alc w k kd).2.2 k = fun _ => none := if_pos rfl
      rw [e4]
      trivial
    · have e4 : (alc w k0 kd).2.2 k = w.2.2 k := if_neg hkk
      rw [e4]
      exact hokv _ (e k i (sh k hk3 hkk))
theorem lp_agree {w : AW} {ad ad' : Nat → Nat} (hg : ∀ j, okr w j → ad' j = ad j) : ∀ (lo : List (Option AV)) (n : Nat), (∀ (i : Nat) (v : AV), lo[i]? = some (some v) → okv w v) → lp ad' lo n = lp ad lo n
  | [], _, _ => rfl
  | none :: t, n, h => lp_agree hg t (n + 1) (fun i v q => h (i + 1) v (by rw [List.getElem?_cons_succ]; exact q))
  | some u :: t, n, h => by
    show (n, cv ad' u) :: lp ad' t (n + 1) = (n, cv ad u) :: lp ad t (n + 1)
    rw [cv_agree hg u (h 0 u (by simp)), lp_agree hg t (n + 1) (fun i v q => h (i + 1) v (by rw [List.getElem?_cons_succ]; exact q))]
theorem st_agree {w : AW} {ad ad' : Nat → Nat} (hg : ∀ j, okr w j → ad' j = ad j) : ∀ (st : List AV), okvs w st → st.map (cv ad') = st.map (cv ad)
  | [], _ => rfl
  | u :: t, h => by rw [List.map_cons, List.map_cons, cv_agree hg u h.1, st_agree hg t h.2]
theorem okv_mono {w w' : AW} (h : ∀ j, okr w j → okr w' j) : ∀ v, okv w v → okv w' v
  | .inl _, _ => trivial
  | .inr (.inl none), _ => trivial
  | .inr (.inl (some k)), q => h k q
  | .inr (.inr _), _ => trivial
theorem okvs_mono {w w' : AW} (h : ∀ j, okr w j → okr w' j) : ∀ st, okvs w st → okvs w' st
  | [], _ => trivial
  | u :: t, q => ⟨okv_mono h u q.1, okvs_mono h t q.2⟩
theorem okr_up {w w' : AW} (h : w'.1 = w.1) : ∀ j, okr w j → okr w' j := fun j q => by unfold okr at q ⊢; rw [h]; exact q
theorem ob_of {Z : ZT} {ad : Nat → Nat} {w : AW} {H : Heap} {k0 ci nn : Nat} (hR : RP Z ad w H) (hsh : w.1 k0 = (100 + ci, nn)) (hci : ci < 13) : zB Z ≤ ad k0 ∧ t_OB (ad k0) (Z.1 ci) (clS ci) (Z.2.1 ci) H (obV ad ci (w.2.1 k0) (w.2.2 k0)) := by
  obtain ⟨hb, hc⟩ := hR.2.2.1 k0 (by rw [hsh]; show 100 + ci ≠ 0; omega)
  rw [hsh] at hc
  unfold okC at hc
  rw [if_pos (show 100 ≤ 100 + ci ∧ 100 + ci < 200 by omega)] at hc
  simp only [Nat.add_sub_cancel_left] at hc
  exact ⟨hb, hc⟩
section GHEAP
variable {Γ : Cx} {cc : ByteArray} {own : String} {nL pc k n : Nat} {lo : List (Option AV)} {st : List AV} {w : AW}
theorem g_getV (h : OKB Γ cc own nL) {idx ci f nn k0 : Nat} (hF : FL own idx ci f) (hsh : w.1 k0 = (100 + ci, nn)) {v : AV} (hv : ∀ ad : Nat → Nat, obV ad ci (w.2.1 k0) (w.2.2 k0) f = cv ad v) (hd : decode cc pc = .ok (.getfield idx, 3)) (hok : ∀ ad H, RP (cxZ Γ) ad w H → okv w v) (kk : GG Γ (pc + 3) lo (v :: st) w k n) : GG Γ pc lo (ar k0 :: st) w k n := by
  intro ad ls H locs hR hl ho hs hL hX
  obtain ⟨hlk, hin, hf, hci, hdcl⟩ := hF
  obtain ⟨-, cell, q1, q2, q3, q4⟩ := ob_of hR hsh hci
  obtain ⟨hS, hfc, kC, hkC, hkind⟩ := h.2.2.2.2.2.1.1 ci hci
  obtain ⟨cf, kf, fi, fd, hi, hsl⟩ := hS f hf
  refine W.getf (v := cv ad v) h.1 h.2.1 h.2.2.2.1 (h.2.2.2.2.1 _ hlk) (hdcl ▸ hi) (u_facts hfc hkC (u_lays h.2.2.2.2.1 hin hf) hi).1 q1 (by rw [q3]; exact fun h => by cases h) ?_ rfl rfl hd (kk ad ls H locs hR hl ho ⟨hok ad H hR, hs.2⟩ hL hX)
  rw [hsl, q4 f hf, hv]
theorem g_getI (h : OKB Γ cc own nL) {idx ci f nn k0 : Nat} (hF : FL own idx ci f) (hty : fk (tyOf ci f) = 0) (hsh : w.1 k0 = (100 + ci, nn)) (hd : decode cc pc = .ok (.getfield idx, 3)) (kk : GG Γ (pc + 3) lo (ai (w.2.1 k0 f) :: st) w k n) : GG Γ pc lo (ar k0 :: st) w k n :=
  g_getV h hF hsh (v := ai (w.2.1 k0 f)) (fun ad => by unfold obV; rw [hty]; rfl) hd (fun _ _ _ => trivial) kk
theorem g_getL (h : OKB Γ cc own nL) {idx ci f nn k0 : Nat} (hF : FL own idx ci f) (hty : fk (tyOf ci f) = 2) (hsh : w.1 k0 = (100 + ci, nn)) (hd : decode cc pc = .ok (.getfield idx, 3)) (kk : GG Γ (pc + 3) lo (aL (w.2.1 k0 f) :: st) w k n) : GG Γ pc lo (ar k0 :: st) w k n :=
  g_getV h hF hsh (v := aL (w.2.1 k0 f)) (fun ad => by unfold obV; rw [hty]; rfl) hd (fun _ _ _ => trivial) kk
theorem g_getQ (h : OKB Γ cc own nL) {idx ci f nn k0 : Nat} (hF : FL own idx ci f) (hty : fk (tyOf ci f) = 1) (hsh : w.1 k0 = (100 + ci, nn)) {r : Option Nat} (hr : w.2.2 k0 f = r) (hd : decode cc pc = .ok (.getfield idx, 3)) (kk : GG Γ (pc + 3) lo (aq r :: st) w k n) : GG Γ pc lo (ar k0 :: st) w k n :=
  g_getV h hF hsh (v := aq r) (fun ad => by unfold obV; rw [hty, hr]; rfl) hd (fun ad H hR => hr ▸ hR.2.2.2.2 k0 f (by rw [hsh]; show 100 + ci ≠ 0; omega)) kk
/-- a field is written: what may stand there -/
theorem g_putV (h : OKB Γ cc own nL) {idx ci f nn k0 : Nat} (hF : FL own idx ci f) (hfin : (clF ci f).2.2.2 = false) (hsh : w.1 k0 = (100 + ci, nn)) {v : AV} {w' : AW} (h1 : w'.1 = w.1) (h2 : ∀ j, j ≠ k0 → w'.2.1 j = w.2.1 j ∧ w'.2.2 j = w.2.2 j) (h3 : ∀ (ad : Nat → Nat) (j : Nat), j < clS ci → updV (obV ad ci (w.2.1 k0) (w.2.2 k0)) f (cv ad v) j = obV ad ci (w'.2.1 k0) (w'.2.2 k0) j)
    (h4 : okv w v → (∀ i, okv w (aq (w.2.2 k0 i))) → ∀ i, okv w (aq (w'.2.2 k0 i))) (hn : ∀ ad : Nat → Nat, narrow (tyOf ci f) (cv ad v) = cv ad v) (hfit : ∀ ad : Nat → Nat, fits (tyOf ci f) (cv ad v) = true) (hd : decode cc pc = .ok (.putfield idx, 3)) (kk : GG Γ (pc + 3) lo st w' k n) : GG Γ pc lo (v :: ar k0 :: st) w k n := by
  intro ad ls H locs hR hl ho hs hL hX
  obtain ⟨hlk, hin, hf, hci, hdcl⟩ := hF
  obtain ⟨hb, cell, q1, q2, q3, q4⟩ := ob_of hR hsh hci
  have hK := h.2.2.2.2.2.1.1 ci hci
  have hap : ∀ x y, x < clS ci → y < clS ci → x ≠ y → (cxZ Γ).2.1 ci x ≠ (cxZ Γ).2.1 ci y := by
    intro x y hx hy hne
    obtain ⟨hS, -⟩ := hK
    obtain ⟨_, _, _, fa, hia, ea⟩ := hS x hx
    obtain ⟨_, _, _, fb, hib, eb⟩ := hS y hy
    rw [← ea, ← eb]
    refine u_apart (u_lays h.2.2.2.2.1 hin hx) (u_lays h.2.2.2.2.1 hin hy) hia hib ?_
    rw [(State.fieldFound?_type hia (ty_all ci hci x hx)).1, (State.fieldFound?_type hib (ty_all ci hci y hy)).1]
    exact nm_all ci hci x hx y hy hne
  obtain ⟨hS, hfc, kC, hkC, hkind⟩ := hK
  obtain ⟨cf, kf, fi, fd, hi, hsl⟩ := hS f hf
  have hlay := h.2.2.2.2.1 _ (hin _ (u_in_lay hf))
  unfold u_lay at hlay
  rw [if_neg (by rw [hfin]; decide)] at hlay
  have hst := (u_facts hfc hkC (u_lays h.2.2.2.2.1 hin hf) hi).1
  have h6 := u_store hfc hkC hkind hlay hi (ty_all ci hci f hf) (hn ad) (hfit ad)
  refine W.putK h.1 h.2.1 (f := fd) ⟨h.2.2.2.1, h.2.2.2.2.1 _ hlk, ⟨_, _, _, hdcl ▸ hi⟩, hst⟩ (by rw [q2]; exact h6) q1 q3 (by rw [hsl]; exact k2_hasslot (q4 f hf)) rfl rfl hd fun H' e1 e2 e3 => ?_
  have hk0 : (w.1 k0).1 ≠ 0 := by rw [hsh]; show 100 + ci ≠ 0; omega
  refine kk ad ls H' _ (RP_set hR hk0 h1 h2 ?_ (h4 hs.1 (fun i => hR.2.2.2.2 k0 i hk0)) e2 e3) hl (fun i u hu => okv_mono (okr_up h1) u (ho i u hu)) (okvs_mono (okr_up h1) _ hs.2.2) ?_ (fun j hj => ⟨(hX j hj).1, okr_up h1 j (hX j hj).2⟩)
  · rw [hsh]
    unfold okC
    rw [if_pos (show 100 ≤ 100 + ci ∧ 100 + ci < 200 by omega)]
    simp only [Nat.add_sub_cancel_left]
    rw [hsl] at e1
    exact t_OB.to (V := updV (obV ad ci (w.2.1 k0) (w.2.2 k0)) f (cv ad v)) ⟨_, e1, q2, q3, t_set q4 hap hf (cv ad v)⟩ (h3 ad)
  · intro l hl2
    rcases List.mem_append.mp hl2 with q | q
    · exact hL l q
    · rw [List.mem_singleton] at q
      subst q
      exact hb
theorem g_putI (h : OKB Γ cc own nL) {idx ci f nn k0 : Nat} (hF : FL own idx ci f) (hfin : (clF ci f).2.2.2 = false) (hty : tyOf ci f = .int) (hsh : w.1 k0 = (100 + ci, nn)) {z : Int} (hd : decode cc pc = .ok (.putfield idx, 3)) (kk : GG Γ (pc + 3) lo st (upI w k0 f z) k n) : GG Γ pc lo (ai z :: ar k0 :: st) w k n := by
  refine g_putV h hF hfin hsh (v := ai z) (w' := upI w k0 f z) rfl (fun j hj => ⟨if_neg hj, rfl⟩) (fun ad j _ => ?_) (fun _ q => q) (fun ad => by rw [hty]; rfl) (fun ad => by rw [hty]; rfl) hd kk
  have e1 : (upI w k0 f z).2.1 k0 = fun i => if i = f then z else w.2.1 k0 i := if_pos rfl
  unfold updV
  rw [e1]
  by_cases hj : j = f
  · subst hj
    simp [obV, hty, fk]
  · simp [obV, hj, upI]
theorem g_putZ (h : OKB Γ cc own nL) {idx ci f nn k0 : Nat} (hF : FL own idx ci f) (hfin : (clF ci f).2.2.2 = false) (hty : tyOf ci f = .boolean) (hsh : w.1 k0 = (100 + ci, nn)) {z : Int} (hz : z = 0 ∨ z = 1) (hd : decode cc pc = .ok (.putfield idx, 3)) (kk : GG Γ (pc + 3) lo st (upI w k0 f z) k n) : GG Γ pc lo (ai z :: ar k0 :: st) w k n := by
  refine g_putV h hF hfin hsh (v := ai z) (w' := upI w k0 f z) rfl (fun j hj => ⟨if_neg hj, rfl⟩) (fun ad j _ => ?_) (fun _ q => q) (fun ad => by rw [hty]; rcases hz with rfl | rfl <;> rfl) (fun ad => by rw [hty]; rcases hz with rfl | rfl <;> rfl) hd kk
  have e1 : (upI w k0 f z).2.1 k0 = fun i => if i = f then z else w.2.1 k0 i := if_pos rfl
  unfold updV
  rw [e1]
  by_cases hj : j = f
  · subst hj
    simp [obV, hty, fk]
  · simp [obV, hj, upI]
theorem g_putL (h : OKB Γ cc own nL) {idx ci f nn k0 : Nat} (hF : FL own idx ci f) (hfin : (clF ci f).2.2.2 = false) (hty : tyOf ci f = .long) (hsh : w.1 k0 = (100 + ci, nn)) {z : Int} (hd : decode cc pc = .ok (.putfield idx, 3)) (kk : GG Γ (pc + 3) lo st (upI w k0 f z) k n) : GG Γ pc lo (aL z :: ar k0 :: st) w k n := by
  refine g_putV h hF hfin hsh (v := aL z) (w' := upI w k0 f z) rfl (fun j hj => ⟨if_neg hj, rfl⟩) (fun ad j _ => ?_) (fun _ q => q) (fun ad => by rw [hty]; rfl) (fun ad => by rw [hty]; rfl) hd kk
  have e1 : (upI w k0 f z).2.1 k0 = fun i => if i = f then z else w.2.1 k0 i := if_pos rfl
  unfold updV
  rw [e1]
  by_cases hj : j = f
  · subst hj
    simp [obV, hty, fk]
  · simp [obV, hj, upI]
theorem g_getVN (h : OKB Γ cc own nL) {idx ci f nn k0 : Nat} (hF : FN own idx ci f) (hsh : w.1 k0 = (100 + ci, nn)) {v : AV} (hv : ∀ ad : Nat → Nat, obV ad ci (w.2.1 k0) (w.2.2 k0) f = cv ad v) (hd : decode cc pc = .ok (.getfield idx, 3)) (hok : ∀ ad H, RP (cxZ Γ) ad w H → okv w v) (kk : GG Γ (pc + 3) lo (v :: st) w k n) : GG Γ pc lo (ar k0 :: st) w k n := by
  intro ad ls H locs hR hl ho hs hL hX
  obtain ⟨⟨host, hlk⟩, hin, hf, hci, hdcl⟩ := hF
  obtain ⟨-, cell, q1, q2, q3, q4⟩ := ob_of hR hsh hci
  obtain ⟨hS, hfc, kC, hkC, hkind⟩ := h.2.2.2.2.2.1.1 ci hci
  obtain ⟨cf, kf, fi, fd, hi, hsl⟩ := hS f hf
  refine va_Wgetf (host := host) (v := cv ad v) h.1 h.2.1 h.2.2.2.1 (va_Nw.use rfl (h.2.2.2.2.2.2.2.2.2.2.2.2.2.1 _ hlk)) (hdcl ▸ hi) (u_facts hfc hkC (u_lays h.2.2.2.2.1 hin hf) hi).1 q1 (by rw [q3]; exact fun h => by cases h) ?_ rfl rfl hd (kk ad ls H locs hR hl ho ⟨hok ad H hR, hs.2⟩ hL hX)
  rw [hsl, q4 f hf, hv]
theorem g_putVN (h : OKB Γ cc own nL) {idx ci f nn k0 : Nat} (hF : FN own idx ci f) (hfin : (clF ci f).2.2.2 = false) (hsh : w.1 k0 = (100 + ci, nn)) {v : AV} {w' : AW} (h1 : w'.1 = w.1) (h2 : ∀ j, j ≠ k0 → w'.2.1 j = w.2.1 j ∧ w'.2.2 j = w.2.2 j) (h3 : ∀ (ad : Nat → Nat) (j : Nat), j < clS ci → updV (obV ad ci (w.2.1 k0) (w.2.2 k0)) f (cv ad v) j = obV ad ci (w'.2.1 k0) (w'.2.2 k0) j)
    (h4 : okv w v → (∀ i, okv w (aq (w.2.2 k0 i))) → ∀ i, okv w (aq (w'.2.2 k0 i))) (hn : ∀ ad : Nat → Nat, narrow (tyOf ci f) (cv ad v) = cv ad v) (hfit : ∀ ad : Nat → Nat, fits (tyOf ci f) (cv ad v) = true) (hd : decode cc pc = .ok (.putfield idx, 3)) (kk : GG Γ (pc + 3) lo st w' k n) : GG Γ pc lo (v :: ar k0 :: st) w k n := by
  intro ad ls H locs hR hl ho hs hL hX
  obtain ⟨⟨host, hlk⟩, hin, hf, hci, hdcl⟩ := hF
  obtain ⟨hb, cell, q1, q2, q3, q4⟩ := ob_of hR hsh hci
  have hK := h.2.2.2.2.2.1.1 ci hci
  have hap : ∀ x y, x < clS ci → y < clS ci → x ≠ y → (cxZ Γ).2.1 ci x ≠ (cxZ Γ).2.1 ci y := by
    intro x y hx hy hne
    obtain ⟨hS, -⟩ := hK
    obtain ⟨_, _, _, fa, hia, ea⟩ := hS x hx
    obtain ⟨_, _, _, fb, hib, eb⟩ := hS y hy
    rw [← ea, ← eb]
    refine u_apart (u_lays h.2.2.2.2.1 hin hx) (u_lays h.2.2.2.2.1 hin hy) hia hib ?_
    rw [(State.fieldFound?_type hia (ty_all ci hci x hx)).1, (State.fieldFound?_type hib (ty_all ci hci y hy)).1]
    exact nm_all ci hci x hx y hy hne
  obtain ⟨hS, hfc, kC, hkC, hkind⟩ := hK
  obtain ⟨cf, kf, fi, fd, hi, hsl⟩ := hS f hf
  have hlay := h.2.2.2.2.1 _ (hin _ (u_in_lay hf))
  unfold u_lay at hlay
  rw [if_neg (by rw [hfin]; decide)] at hlay
  have hst := (u_facts hfc hkC (u_lays h.2.2.2.2.1 hin hf) hi).1
  have h6 := u_store hfc hkC hkind hlay hi (ty_all ci hci f hf) (hn ad) (hfit ad)
  refine va_WputK (host := host) h.1 h.2.1 (f := fd) h.2.2.2.1 (va_Nw.use rfl (h.2.2.2.2.2.2.2.2.2.2.2.2.2.1 _ hlk)) (hdcl ▸ hi) hst (by rw [q2]; exact h6) q1 q3 (by rw [hsl]; exact k2_hasslot (q4 f hf)) rfl rfl hd fun H' e1 e2 e3 => ?_
  have hk0 : (w.1 k0).1 ≠ 0 := by rw [hsh]; show 100 + ci ≠ 0; omega
  refine kk ad ls H' _ (RP_set hR hk0 h1 h2 ?_ (h4 hs.1 (fun i => hR.2.2.2.2 k0 i hk0)) e2 e3) hl (fun i u hu => okv_mono (okr_up h1) u (ho i u hu)) (okvs_mono (okr_up h1) _ hs.2.2) ?_ (fun j hj => ⟨(hX j hj).1, okr_up h1 j (hX j hj).2⟩)
  · rw [hsh]
    unfold okC
    rw [if_pos (show 100 ≤ 100 + ci ∧ 100 + ci < 200 by omega)]
    simp only [Nat.add_sub_cancel_left]
    rw [hsl] at e1
    exact t_OB.to (V := updV (obV ad ci (w.2.1 k0) (w.2.2 k0)) f (cv ad v)) ⟨_, e1, q2, q3, t_set q4 hap hf (cv ad v)⟩ (h3 ad)
  · intro l hl2
    rcases List.mem_append.mp hl2 with q | q
    · exact hL l q
    · rw [List.mem_singleton] at q
      subst q
      exact hb
theorem g_getIN (h : OKB Γ cc own nL) {idx ci f nn k0 : Nat} (hF : FN own idx ci f) (hty : fk (tyOf ci f) = 0) (hsh : w.1 k0 = (100 + ci, nn)) (hd : decode cc pc = .ok (.getfield idx, 3)) (kk : GG Γ (pc + 3) lo (ai (w.2.1 k0 f) :: st) w k n) : GG Γ pc lo (ar k0 :: st) w k n :=
  g_getVN h hF hsh (v := ai (w.2.1 k0 f)) (fun ad => by unfold obV; rw [hty]; rfl) hd (fun _ _ _ => trivial) kk
theorem g_getQN (h : OKB Γ cc own nL) {idx ci f nn k0 : Nat} (hF : FN own idx ci f) (hty : fk (tyOf ci f) = 1) (hsh : w.1 k0 = (100 + ci, nn)) {r : Option Nat} (hr : w.2.2 k0 f = r) (hd : decode cc pc = .ok (.getfield idx, 3)) (kk : GG Γ (pc + 3) lo (aq r :: st) w k n) : GG Γ pc lo (ar k0 :: st) w k n :=
  g_getVN h hF hsh (v := aq r) (fun ad => by unfold obV; rw [hty, hr]; rfl) hd (fun ad H hR => hr ▸ hR.2.2.2.2 k0 f (by rw [hsh]; show 100 + ci ≠ 0; omega)) kk
theorem g_putIN (h : OKB Γ cc own nL) {idx ci f nn k0 : Nat} (hF : FN own idx ci f) (hfin : (clF ci f).2.2.2 = false) (hty : tyOf ci f = .int) (hsh : w.1 k0 = (100 + ci, nn)) {z : Int} (hd : decode cc pc = .ok (.putfield idx, 3)) (kk : GG Γ (pc + 3) lo st (upI w k0 f z) k n) : GG Γ pc lo (ai z :: ar k0 :: st) w k n := by
  refine g_putVN h hF hfin hsh (v := ai z) (w' := upI w k0 f z) rfl (fun j hj => ⟨if_neg hj, rfl⟩) (fun ad j _ => ?_) (fun _ q => q) (fun ad => by rw [hty]; rfl) (fun ad => by rw [hty]; rfl) hd kk
  have e1 : (upI w k0 f z).2.1 k0 = fun i => if i = f then z else w.2.1 k0 i := if_pos rfl
  unfold updV
  rw [e1]
  by_cases hj : j = f
  · subst hj
    simp [obV, hty, fk]
  · simp [obV, hj, upI]
end GHEAP
