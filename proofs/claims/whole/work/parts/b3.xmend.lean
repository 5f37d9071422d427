/-! ===== calls of both, ended ===== -/
theorem HT.imp {l : Launch} {y : MethodName} {cc : ByteArray} {maxL : Nat} {ret : Option FieldType} {lev mc ms : Nat} {w : AW} {as : List AV} {Po Po' : Option AV → AW → Prop} (h : HT l y cc maxL ret lev mc ms w as Po) (k : ∀ r w', Po r w' → Po' r w') : HT l y cc maxL ret lev mc ms w as Po' := by
  intro Z ad hok
  have h1 := h Z ad hok
  intro p e ha hc hk s m args below hf happ hp hk'
  obtain ⟨n, o, h1, h2, h3, ⟨r, ad', w', e1, e2, e3, e4, e5⟩, hfr⟩ := h1 p e ha hc hk s m args below hf happ hp hk'
  exact ⟨n, o, h1, h2, h3, ⟨r, ad', w', e1, e2, e3, e4, k _ _ e5⟩, hfr⟩
/-- M's places are the same -/
def SMm (w u : AW) : Prop := ∀ j, 400 ≤ j → j < 1900 → u.1 j = w.1 j ∧ u.2.1 j = w.2.1 j ∧ u.2.2 j = w.2.2 j
/-- X's places are the same -/
def SX (w u : AW) : Prop := ∀ j, j < 400 ∨ 1900 ≤ j → u.1 j = w.1 j ∧ u.2.1 j = w.2.1 j ∧ u.2.2 j = w.2.2 j
theorem SM_rfl (w : AW) : SMm w w := fun _ _ _ => ⟨rfl, rfl, rfl⟩
theorem SM_tr {w u v : AW} (h : SMm w u) (k : SMm u v) : SMm w v := fun j a b => ⟨(k j a b).1.trans (h j a b).1, (k j a b).2.1.trans (h j a b).2.1, (k j a b).2.2.trans (h j a b).2.2⟩
theorem SX_rfl (w : AW) : SX w w := fun _ _ => ⟨rfl, rfl, rfl⟩
theorem SX_tr {w u v : AW} (h : SX w u) (k : SX u v) : SX w v := fun j a => ⟨(k j a).1.trans (h j a).1, (k j a).2.1.trans (h j a).2.1, (k j a).2.2.trans (h j a).2.2⟩
theorem SM_i {w : AW} {k f : Nat} {z : Int} (h : k < 400 ∨ 1900 ≤ k) : SMm w (upI w k f z) := fun j a b => ⟨rfl, upI_o _ _ _ (by omega), rfl⟩
theorem SX_i {w : AW} {k f : Nat} {z : Int} (h : 400 ≤ k ∧ k < 1900) : SX w (upI w k f z) := fun j a => ⟨rfl, upI_o _ _ _ (by omega), rfl⟩
theorem SM_r {w : AW} {k : Nat} {g : Nat → Int} (h : k < 400 ∨ 1900 ≤ k) : SMm w (sR w k g) := fun j a b => ⟨rfl, sR_ne _ _ (by omega), rfl⟩
theorem SX_r {w : AW} {k : Nat} {g : Nat → Int} (h : 400 ≤ k ∧ k < 1900) : SX w (sR w k g) := fun j a => ⟨rfl, sR_ne _ _ (by omega), rfl⟩
theorem SM_of {w v : AW} (h1 : ∀ j, 400 ≤ j → j < 1900 → v.1 j = w.1 j) (h2 : ∀ j, 400 ≤ j → j < 1900 → v.2.1 j = w.2.1 j) (h3 : ∀ j, 400 ≤ j → j < 1900 → v.2.2 j = w.2.2 j) : SMm w v := fun j a b => ⟨h1 j a b, h2 j a b, h3 j a b⟩
theorem SM_fs {w v : AW} {S S' : Nat} (h : FSc w v S S') : SMm w v := fun j a b => ⟨h.2.2.2.2.1 j (by omega), fsI h ⟨by omega, by omega, by omega, by omega, by omega⟩ (by omega) (by omega), h.2.2.2.2.2 j (by omega) (by omega)⟩
theorem SX_q {u v : AW} (h : QM u v) : SX u v := fun j a => ⟨by rw [h.1], h.2.2.1 j ⟨by omega, by omega, by omega, by omega, by omega, by omega, by omega⟩ (by omega) (by omega) (by omega) (by omega) (by omega) (by omega), by rw [h.2.1]⟩
/-- the rest of REL, but for trouble, with its numbers -/
def GB (i : Nat) (w u : AW) (n : Nat → Nat) (q : Nat → Nat → Nat) (np S rn sn nv nr mk tl sz : Nat) (rp rc kf : Nat → Nat) (cl : Nat → List Int) : Prop := LG w u n q np S rn sn ∧ GR i w u nv nr mk tl sz rp rc kf cl ∧ CRW w u ∧ PLN w u
section ENDS
variable {i : Nat} {w u v : AW} {n : Nat → Nat} {q : Nat → Nat → Nat} {np S S' rn sn nv nr mk tl sz : Nat} {rp rc kf : Nat → Nat} {cl : Nat → List Int}
theorem LG_m (h : LG w u n q np S rn sn) (k : SMm u v) : LG w v n q np S rn sn :=
  LG_u h (MS_of2 (fun j a b => (k j a (by omega)).1) (k 400 (by decide) (by decide)).2.2 h.2.2.1.1) (fun j hj => (k j (by omega) (by omega)).2.1) (fun f _ => by rw [(k 400 (by decide) (by decide)).2.1])
theorem GR_m (h : GR i w u nv nr mk tl sz rp rc kf cl) (k : SMm u v) : GR i w v nv nr mk tl sz rp rc kf cl :=
  GR_u h (fun f _ => by rw [(k 400 (by decide) (by decide)).2.1]) (k 444 (by decide) (by decide)).2.2 (fun j hj => (k j (by omega) (by omega)).2.1) (fun j a b => ⟨(k j (by omega) (by omega)).1, (k j (by omega) (by omega)).2.2⟩)
theorem CRW_m (h : CRW w u) (k : SMm u v) : CRW w v := CRW_u h (by rw [(k 400 (by decide) (by decide)).2.1]) (by rw [(k 400 (by decide) (by decide)).2.1])
theorem PLN_m (h : PLN w u) (k : SMm u v) : PLN w v := PLN_u h (by rw [(k 400 (by decide) (by decide)).2.1]) (k 441 (by decide) (by decide)).2.1
theorem GB_m (h : GB i w u n q np S rn sn nv nr mk tl sz rp rc kf cl) (k : SMm u v) : GB i w v n q np S rn sn nv nr mk tl sz rp rc kf cl := ⟨LG_m h.1 k, GR_m h.2.1 k, CRW_m h.2.2.1 k, PLN_m h.2.2.2 k⟩
theorem XS_sx (h : XS w) (k : SX w v) : XS v := by
  refine ⟨fun j hj => (k j (by omega)).1.trans (h.1 j hj), fun p hp => ?_⟩
  have hb : ∀ p ∈ ptX, p.1 < 43 := by decide
  rw [(k p.1 (by have := hb p hp; omega)).2.2]
  exact h.2 p hp
theorem SPI_sx (h : SPI w S) (k : SX w v) : SPI v S := by
  refine ⟨h.1, fun j hj => ?_, fun j a b => ?_⟩
  · rw [(k 16 (by decide)).2.2, (k (56 + j) (by have := h.1; omega)).1]; exact h.2.1 j hj
  · rw [(k 16 (by decide)).2.2, (k (56 + j) (by omega)).1]; exact h.2.2 j a b
theorem LG_sx (h : LG w u n q np S rn sn) (k : SX w v) : LG v u n q np S rn sn := by
  have e0 := (k 0 (by decide)).2.1
  exact LG_x h (XS_sx h.1.1.1 k) (SPI_sx h.1.1.2.1 k) (fun j _ _ _ => (k j (by omega)).2.1) (fun j _ _ => ⟨(k j (by omega)).2.1, (k j (by omega)).1⟩) ⟨(k 14 (by decide)).2.2, (k 15 (by decide)).2.2, (k 17 (by decide)).2.2⟩ (fun j _ _ => (k j (by omega)).2.1) ⟨by rw [e0], by rw [e0], by rw [e0]⟩
theorem HB_sx (h : HB w) (k : SX w v) : HB v := by
  unfold HB
  rw [(k 26 (by decide)).2.1, (k 0 (by decide)).2.1]
  exact h
theorem FRE_sx (h : FRE i w) (k : SX w v) : FRE i v := ⟨fun j a b => by rw [(k j (by omega)).1]; exact h.1 j a b, by rw [(k 1900 (by decide)).1]; exact h.2⟩
theorem GR_sx (h : GR i w u nv nr mk tl sz rp rc kf cl) (k : SX w v) : GR i v u nv nr mk tl sz rp rc kf cl := by
  obtain ⟨a, b, c, d, e, f⟩ := h
  have e20 := (k 20 (by decide)).2.1
  refine ⟨RUG_x a (by rw [e20]) (k 22 (by decide)).2.2 (fun j x _ => ⟨(k j (by omega)).2.1, (k j (by omega)).1, (k j (by omega)).2.2⟩), VIG_x b (by rw [(k 0 (by decide)).2.1]) (k 42 (by decide)).2.2 (fun j x y => ⟨(k j (by omega)).2.1, (k j (by omega)).1⟩), LAG_x c (CI_o c.1 (XS_sx c.1.1 k) (k 40 (by decide)).2.1 (k 41 (by decide)).2.1 (k 37 (by decide)).2.1 (k 39 (by decide)).2.1) (k 36 (by decide)).2.1 (k 37 (by decide)).2.1 (k 38 (by decide)).2.1, TAG_x d (by rw [e20]) (k 21 (by decide)).2.1, ⟨HB_sx e.1 k, ?_⟩, FRE_sx f k⟩
  rw [(k 18 (by decide)).2.1]
  exact e.2
theorem CRW_sx (h : CRW w u) (k : SX w v) : CRW v u := CRW_x h (by rw [(k 0 (by decide)).2.1]) (by rw [(k 0 (by decide)).2.1])
theorem PLN_sx (h : PLN w u) (k : SX w v) : PLN v u := PLN_x h (by rw [(k 0 (by decide)).2.1]) (k 19 (by decide)).2.1
theorem GB_sx (h : GB i w u n q np S rn sn nv nr mk tl sz rp rc kf cl) (k : SX w v) : GB i v u n q np S rn sn nv nr mk tl sz rp rc kf cl := ⟨LG_sx h.1 k, GR_sx h.2.1 k, CRW_sx h.2.2.1 k, PLN_sx h.2.2.2 k⟩
theorem TRB_m (h : TRB w u) (k : SMm u v) : TRB w v := TRB_q h rfl ⟨rfl, rfl⟩ (by rw [(k 400 (by decide) (by decide)).2.1]; exact ⟨rfl, rfl, rfl⟩)
theorem TRB_sx (h : TRB w u) (k : SX w v) : TRB v u := TRB_q h (by rw [(k 0 (by decide)).2.1]) (by rw [(k 20 (by decide)).2.1]; exact ⟨rfl, rfl⟩) ⟨rfl, rfl, rfl⟩
theorem GB_fs (h : GB i w u n q np S rn sn nv nr mk tl sz rp rc kf cl) (k : FSc w v S S') (hH : HB v) : GB i v u n q np S' rn sn nv nr mk tl sz rp rc kf cl := ⟨LG_fs h.1 k, GR_fs h.2.1 k hH, CRW_fs h.2.2.1 k, PLN_fs h.2.2.2 k⟩
theorem GB_16 (z : Int) (h : GB i w u n q np S rn sn nv nr mk tl sz rp rc kf cl) : GB i (upI w 0 16 z) u n q np S rn sn nv nr mk tl sz rp rc kf cl := ⟨LG_16 z h.1, GR_16 z h.2.1, CRW_16 z h.2.2.1, PLN_16 z h.2.2.2⟩
theorem GB_q (h : GB i w u n q np S rn sn nv nr mk tl sz rp rc kf cl) (k : QM u v) (h40 : v.2.1 400 40 = u.2.1 400 40) (h441 : v.2.1 441 = u.2.1 441) : GB i w v n q np S rn sn nv nr mk tl sz rp rc kf cl := ⟨LG_q h.1 k, GR_q h.2.1 k, CRW_q h.2.2.1 k, PLN_u h.2.2.2 h40 h441⟩
theorem FRE_s (h : FRE i w) : FRE (i + 1) w := ⟨fun k a b => h.1 k (by omega) b, h.2⟩
theorem GB_s (h : GB i w u n q np S rn sn nv nr mk tl sz rp rc kf cl) : GB (i + 1) w u n q np S rn sn nv nr mk tl sz rp rc kf cl := by
  obtain ⟨a, ⟨b1, b2, b3, b4, b5, b6⟩, c, d⟩ := h
  exact ⟨a, ⟨b1, b2, b3, b4, b5, FRE_s b6⟩, c, d⟩
theorem REL_of (h : GB i w u n q np S rn sn nv nr mk tl sz rp rc kf cl) (k : TRB w u) : REL (i + 1) w u := by
  obtain ⟨a, b, c, d⟩ := GB_s h
  exact ⟨n, q, np, S, rn, sn, nv, nr, mk, tl, sz, rp, rc, kf, cl, a, b, c, d, k⟩
/-- ended: trouble told by both. w is X's world behind its call (told z), v is M's ahead of telling -/
theorem fin_t {w1 : AW} {z : Int} (h : GB i w v n q np S rn sn nv nr mk tl sz rp rc kf cl) (e1 : w1 = upI w 0 16 z) (hs : SX w1 v) (h5 : w.2.1 20 5 = v.2.1 400 3) (hz : 0 ≤ z ∧ z ≤ 6) (h4 : z ≠ 4) : REL (i + 1) (tM v z) (tM v z) := by
  subst e1
  have k : SX (upI w 0 16 z) (tM v z) := SX_tr hs (SX_tr (SX_i (by decide)) (SX_i (by decide)))
  exact REL_of (GB_sx (GB_q (GB_16 z h) (QM_tM v z) rfl rfl) k) (TRB_sx (TRB_t h5 hz h4) k)
/-- ended: trouble not told -/
theorem fin_q {x : AW} (h : GB i w v n q np S rn sn nv nr mk tl sz rp rc kf cl) (ht : TRB w v) (k : QM v x) (hs : SX w v) (h40 : x.2.1 400 40 = v.2.1 400 40) (h441 : x.2.1 441 = v.2.1 441) (hf : x.2.1 400 1 = v.2.1 400 1 ∧ x.2.1 400 2 = v.2.1 400 2 ∧ x.2.1 400 3 = v.2.1 400 3) : REL (i + 1) x x := by
  have hs2 := SX_tr hs (SX_q k)
  exact REL_of (GB_sx (GB_q h k h40 h441) hs2) (TRB_sx (TRB_q ht rfl ⟨rfl, rfl⟩ hf) hs2)
end ENDS
/-- a call of both, from w: X answers z, then M, and what holds between calls holds again -/
def CALL (l : Launch) (i : Nat) (w : AW) (yX : MethodName) (cX : ByteArray) (mX lX : Nat) (yM : MethodName) (cM : ByteArray) (mM lM : Nat) (ret : FieldType) (as : List AV) : Prop :=
  ∃ mc ms : Nat, mc ≤ 6 ∧ ms ≤ 302 ∧ HT l yX cX mX (some ret) lX mc ms w (ar 0 :: as) (fun r w1 => w1.1 400 = (112, 0) ∧ ∃ z, r = some (ai z) ∧
    ∃ mc' ms' : Nat, mc' ≤ 3 ∧ ms' ≤ 604 ∧ HT l yM cM mM (some ret) lM mc' ms' w1 (ar 400 :: as) (fun r' u => r' = some (ai z) ∧ REL (i + 1) u u))
theorem M400 {w u : AW} {n : Nat → Nat} {q : Nat → Nat → Nat} {np S rn sn : Nat} (h : LG w u n q np S rn sn) : u.1 400 = (112, 0) := h.2.2.1.1.1 400 (by decide) (by decide)
