/-! ===== a rule told to both ===== -/
theorem HTH.imp {l : Launch} {y : MethodName} {cc : ByteArray} {maxL : Nat} {ret : Option FieldType} {hh : List (Nat × Nat × Nat × Nat)} {lev mc ms : Nat} {w : AW} {as : List AV} {Po Po' : Option AV → AW → Prop} (h : HTH l y cc maxL ret hh lev mc ms w as Po) (k : ∀ r w', Po r w' → Po' r w') : HTH l y cc maxL ret hh lev mc ms w as Po' := by
  intro Z ad hok
  have h1 := h Z ad hok
  intro p e ha hc hk s m args below hf happ hp hk'
  obtain ⟨n, o, h1, h2, h3, hq⟩ := h1 p e ha hc hk s m args below hf happ hp hk'
  rcases hq with ⟨⟨r, ad', w', e1, e2, e3, e4, e5⟩, hL⟩ | hq
  · exact ⟨n, o, h1, h2, h3, Or.inl ⟨⟨r, ad', w', e1, e2, e3, e4, k _ _ e5⟩, hL⟩⟩
  · exact ⟨n, o, h1, h2, h3, Or.inr hq⟩
/-- a call of both, M's with a table of its own -/
def CALLH (l : Launch) (i : Nat) (w : AW) (yX : MethodName) (cX : ByteArray) (mX lX : Nat) (yM : MethodName) (cM : ByteArray) (mM lM : Nat) (hh : List (Nat × Nat × Nat × Nat)) (ret : FieldType) (as : List AV) : Prop :=
  ∃ mc ms : Nat, mc ≤ 6 ∧ ms ≤ 302 ∧ HT l yX cX mX (some ret) lX mc ms w (ar 0 :: as) (fun r w1 => w1.1 400 = (112, 0) ∧ ∃ z, r = some (ai z) ∧
    ∃ mc' ms' : Nat, mc' ≤ 3 ∧ ms' ≤ 604 ∧ HTH l yM cM mM (some ret) hh lM mc' ms' w1 (ar 400 :: as) (fun r' u => r' = some (ai z) ∧ REL (i + 1) u u))
section FS
variable {w : AW} {P nr j : Nat}
theorem fsW_o (h0 : j ≠ P) (h1 : j ≠ P + 1) (h2 : j ≠ P + 2) : (fsW w P nr).1 j = w.1 j ∧ (fsW w P nr).2.1 j = w.2.1 j ∧ (j ≠ 444 → (fsW w P nr).2.2 j = w.2.2 j) := by
  refine ⟨?_, ?_, fun h4 => ?_⟩
  · show (alc (alc (alc w P (110, 0)) (P + 1) (1, 300)) (P + 2) (1, 300)).1 j = _
    rw [alc_ne _ _ h2, alc_ne _ _ h1, alc_ne _ _ h0]
  · show (alc (alc (alc w P (110, 0)) (P + 1) (1, 300)) (P + 2) (1, 300)).2.1 j = _
    rw [alc_i _ _ h2, alc_i _ _ h1, alc_i _ _ h0]
  · show (upP (upP (alc (upP (alc (alc w P (110, 0)) (P + 1) (1, 300)) P 2 (some (P + 1))) (P + 2) (1, 300)) P 3 (some (P + 2))) 444 nr (some P)).2.2 j = _
    rw [upP_o _ _ _ h4, upP_o _ _ _ h0, alc_r _ _ h2, upP_o _ _ _ h0, alc_r _ _ h1, alc_r _ _ h0]
theorem upP_n (w : AW) {k f i : Nat} (r : Option Nat) (h : i ≠ f) : (upP w k f r).2.2 k i = w.2.2 k i := by
  show (if k = k then (fun i => if i = f then r else w.2.2 k i) else w.2.2 k) i = _
  rw [if_pos rfl]
  exact if_neg h
theorem fsW_444o (hP : 478 ≤ P) {i : Nat} (h : i ≠ nr) : (fsW w P nr).2.2 444 i = w.2.2 444 i := by
  refine (upP_n _ _ h).trans ?_
  show (upP (alc (upP (alc (alc w P (110, 0)) (P + 1) (1, 300)) P 2 (some (P + 1))) (P + 2) (1, 300)) P 3 (some (P + 2))).2.2 444 i = _
  rw [upP_o _ _ _ (by omega), alc_r _ _ (by omega), upP_o _ _ _ (by omega), alc_r _ _ (by omega), alc_r _ _ (by omega)]
theorem rbW_o {z : Int} (h : j ≠ 400) : (rbW w z).2.1 j = w.2.1 j := by
  unfold rbW th
  rw [upI_o _ _ _ h, upI_o _ _ _ h, upI_o _ _ _ h, upI_o _ _ _ h]
theorem rbW_f {z : Int} {f : Nat} (h0 : f ≠ 0) (h1 : f ≠ 48) (h2 : f ≠ 47) (h3 : f ≠ 3) : (rbW w z).2.1 400 f = w.2.1 400 f := by
  unfold rbW th
  rw [fne _ _ h3, fne _ _ h2, fne _ _ h1, fne _ _ h0]
end FS
/-- M behind a text was read into the rule at P -/
def NRU (P nr : Nat) (u v : AW) : Prop := (∀ j, j ≠ P → j ≠ P + 1 → j ≠ P + 2 → v.1 j = u.1 j ∧ (j ≠ 444 → v.2.2 j = u.2.2 j) ∧ (j ≠ 400 → j ≠ 445 → v.2.1 j = u.2.1 j)) ∧ (∀ f, (3 < f ∧ f < 42) ∨ f = 43 ∨ 57 ≤ f → v.2.1 400 f = u.2.1 400 f) ∧ v.2.1 400 47 = 0 ∧ (∀ i, i ≠ nr → v.2.2 444 i = u.2.2 444 i) ∧ v.2.2 444 nr = some P ∧ RO v P ∧ R64 (v.2.1 400 56)
theorem NRU_of {w w1 u : AW} {P nr mc : Nat} {z : Int} (hP : 478 ≤ P) (h0 : FX P nr mc (rbW w z) w1) (hs : mc = 0 → w.2.2 444 nr = some P ∧ RO w P) (hY : MYr P w1 u) (h56 : R64 (u.2.1 400 56)) (hab : 0 ≤ u.2.1 P 0 ∧ u.2.1 P 0 < 4) : NRU P nr w u ∧ u.2.1 400 3 = 0 ∧ u.2.1 400 42 = w.2.1 400 42 ∧ (∀ f, f = 1 ∨ f = 2 → u.2.1 400 f = w.2.1 400 f) := by
  obtain ⟨y1, y2, y3, y4⟩ := hY
  have A : (∀ j, j ≠ P → j ≠ P + 1 → j ≠ P + 2 → w1.1 j = w.1 j ∧ (j ≠ 444 → w1.2.2 j = w.2.2 j) ∧ w1.2.1 j = (rbW w z).2.1 j) ∧ (∀ i, i ≠ nr → w1.2.2 444 i = w.2.2 444 i) ∧ w1.2.2 444 nr = some P ∧ (w1.1 P = (110, 0) ∧ w1.2.2 P 2 = some (P + 1) ∧ w1.2.2 P 3 = some (P + 2) ∧ w1.1 (P + 1) = (1, 300) ∧ w1.1 (P + 2) = (1, 300)) := by
    rcases h0 with ⟨c, rfl⟩ | ⟨c, rfl⟩
    · obtain ⟨s1, s2, s3, s4, s5, s6, -, -⟩ := hs c
      exact ⟨fun j _ _ _ => ⟨rfl, fun _ => rfl, rfl⟩, fun _ _ => rfl, s1, s2, s3, s4, s5, s6⟩
    · obtain ⟨s2, s3, s4, s5, s6, -, -⟩ := fsW_RO (w := rbW w z) (nr := nr) hP
      exact ⟨fun j a b c => by
        obtain ⟨x1, x2, x3⟩ := fsW_o (w := rbW w z) (nr := nr) a b c
        exact ⟨x1, x3, x2⟩, fun i hi => fsW_444o hP hi, fsW_444 _ _ _, s2, s3, s4, s5, s6⟩
  obtain ⟨a1, a2, a3, a4, a5, a6, a7, a8⟩ := A
  have r4 := (a1 400 (by omega) (by omega) (by omega)).2.2
  refine ⟨⟨fun j b c d => ⟨by rw [y1]; exact (a1 j b c d).1, fun e => by rw [y2]; exact (a1 j b c d).2.1 e, fun e f => ((y3 j e f b c d).trans (a1 j b c d).2.2).trans (rbW_o e)⟩, fun f hf => ?_, ?_, fun i hi => by rw [y2]; exact a2 i hi, by rw [y2]; exact a3, ⟨by rw [y1]; exact a4, by rw [y2]; exact a5, by rw [y2]; exact a6, by rw [y1]; exact a7, by rw [y1]; exact a8, hab⟩, h56⟩, ?_, ?_, fun f hf => ?_⟩
  · rw [y4 f (by omega), r4]; exact rbW_f (by omega) (by omega) (by omega) (by omega)
  · rw [y4 47 (by omega), r4]; rfl
  · rw [y4 3 (by omega), r4]; rfl
  · rw [y4 42 (by omega), r4]; exact rbW_f (by omega) (by omega) (by omega) (by omega)
  · rw [y4 f (by omega), r4]; exact rbW_f (by omega) (by omega) (by omega) (by omega)
theorem NRU_i {u v : AW} {P nr f : Nat} {z : Int} (hP : 478 ≤ P) (h : NRU P nr u v) (hf : f = 3 ∨ f = 42) : NRU P nr u (upI v 400 f z) := by
  obtain ⟨a, b, c, d, e, g, k⟩ := h
  refine ⟨fun j x1 x2 x3 => ⟨(a j x1 x2 x3).1, (a j x1 x2 x3).2.1, fun x4 x5 => by rw [upI_o _ _ _ x4]; exact (a j x1 x2 x3).2.2 x4 x5⟩, fun f' hf' => by rw [fne _ _ (by omega)]; exact b f' hf', by rw [fne _ _ (by omega)]; exact c, d, e, RO_o g ⟨rfl, rfl, rfl⟩ rfl (by rw [upI_o _ _ _ (by omega)]), by rw [fne _ _ (by omega)]; exact k⟩
theorem NRU_sx {u v : AW} {P nr : Nat} (hP : 478 ≤ P) (hP2 : P + 2 < 1900) (h : NRU P nr u v) : SX u v := fun j hj => by
  obtain ⟨x1, x2, x3⟩ := h.1 j (by omega) (by omega) (by omega)
  exact ⟨x1, x3 (by omega) (by omega), x2 (by omega)⟩
/-- X behind a text was read, the rule made at p or none made -/
def NRX (p : Nat) (w y : AW) : Prop := (∀ j, j ≠ p → j ≠ p + 1 → y.1 j = w.1 j ∧ (j ≠ 22 → y.2.2 j = w.2.2 j) ∧ (j ≠ 20 → j ≠ 23 → j ≠ 24 → j ≠ 25 → y.2.1 j = w.2.1 j)) ∧ y.2.1 20 1 = 0
theorem rtW_o (u : AW) (f q : Int) {j : Nat} (h : j ≠ 20) : (rtW u f q).2.1 j = u.2.1 j := by
  unfold rtW
  rw [upI_o _ _ _ h, upI_o _ _ _ h, upI_o _ _ _ h]
theorem rtW_20 (u : AW) (f q : Int) : (rtW u f q).2.1 20 1 = 0 ∧ (rtW u f q).2.1 20 5 = f ∧ (rtW u f q).2.1 20 6 = q ∧ (rtW u f q).2.1 20 3 = u.2.1 20 3 := ⟨rfl, rfl, rfl, rfl⟩
theorem NRX_0 {w x : AW} {p : Nat} {f q : Int} (h : F3 w x) : NRX p w (rtW x f q) := ⟨fun j _ _ => ⟨by show x.1 j = _; rw [h.1], fun _ => by show x.2.2 j = _; rw [h.2.1], fun a b c d => (rtW_o x f q a).trans (h.2.2 j b c d)⟩, rfl⟩
theorem NRX_1 {w x : AW} {p L : Nat} {a f q : Int} (h : F3 w x) (hp : 2000 ≤ p) : NRX p w (rtW (mkR x p L a) f q) := ⟨fun j h1 h2 => by
  obtain ⟨m1, m2, m3⟩ := mkR_o x (L := L) a h1 h2
  exact ⟨m1.trans (by rw [h.1]), fun _ => m3.trans (by rw [h.2.1]), fun a' b c d => ((rtW_o _ f q a').trans m2).trans (h.2.2 j b c d)⟩, rfl⟩
section RULE
variable {l : Launch} {ix jx : Nat} {w u w' u' : AW} {n : Nat → Nat} {q : Nat → Nat → Nat} {np S rn sn nv nr mk tl sz nr' mk' tl' : Nat} {rp rc kf rp' rc' kf' : Nat → Nat} {cl cl' : Nat → List Int}
theorem REL_j (h : GB ix w u n q np S rn sn nv nr mk tl sz rp rc kf cl) (k : TRB w u) : REL ix w u := by
  obtain ⟨a, b, c, d⟩ := h
  exact ⟨n, q, np, S, rn, sn, nv, nr, mk, tl, sz, rp, rc, kf, cl, a, b, c, d, k⟩
theorem fin_j {w1 v : AW} {z : Int} (h : GB ix w v n q np S rn sn nv nr mk tl sz rp rc kf cl) (e1 : w1 = upI w 0 16 z) (hs : SX w1 v) (h5 : w.2.1 20 5 = v.2.1 400 3) (hz : 0 ≤ z ∧ z ≤ 6) (h4 : z ≠ 4) : REL ix (tM v z) (tM v z) := by
  subst e1
  have k : SX (upI w 0 16 z) (tM v z) := SX_tr hs (SX_tr (SX_i (by decide)) (SX_i (by decide)))
  exact REL_j (GB_sx (GB_q (GB_16 z h) (QM_tM v z) rfl rfl) k) (TRB_sx (TRB_t h5 hz h4) k)
theorem GB_rj (g : GB ix w u n q np S rn sn nv nr mk tl sz rp rc kf cl) (h1 : ∀ j, j < 2000 → w'.1 j = w.1 j) (h2 : ∀ j, j < 2000 → j ≠ 22 → w'.2.2 j = w.2.2 j) (ho : ∀ j, j < 2000 → j ≠ 20 → j ≠ 21 → j ≠ 23 → j ≠ 24 → j ≠ 25 → w'.2.1 j = w.2.1 j) (hF : FRE jx w') (k1 : ∀ j, j < 478 → u'.1 j = u.1 j) (k2 : ∀ j, j < 478 → j ≠ 444 → u'.2.2 j = u.2.2 j) (ko : ∀ j, j < 478 → j ≠ 400 → j ≠ 445 → j ≠ 446 → u'.2.1 j = u.2.1 j) (kg : ∀ f, (3 < f ∧ f < 42) ∨ f = 43 ∨ 57 ≤ f → u'.2.1 400 f = u.2.1 400 f) (hR : RUG w' u' nr' mk' rp' rc' kf' cl') (hT : TAG w' u' tl') : GB jx w' u' n q np S rn sn nv nr' mk' tl' sz rp' rc' kf' cl' := by
  obtain ⟨A, ⟨-, b2, b3, -, b5, -⟩, R, P⟩ := g
  have o := fun (j : Nat) (a : j < 20 ∨ (26 ≤ j ∧ j < 2000)) => ho j (by omega) (by omega) (by omega) (by omega) (by omega) (by omega)
  have e0 := o 0 (by decide)
  have hX : XS w' := by
    refine ⟨fun j hj => (h1 j (by omega)).trans (A.1.1.1.1 j hj), fun p hp => ?_⟩
    have hb : ∀ p ∈ ptX, p.1 ≠ 22 ∧ p.1 < 43 := by decide
    have := hb p hp
    rw [h2 p.1 (by omega) this.1]
    exact A.1.1.1.2 p hp
  have hS : SPI w' S := by
    obtain ⟨s1, s2, s3⟩ := A.1.1.2.1
    refine ⟨s1, fun j hj => ?_, fun j x y => ?_⟩
    · rw [h2 16 (by decide) (by decide), h1 (56 + j) (by omega)]; exact s2 j hj
    · rw [h2 16 (by decide) (by decide), h1 (56 + j) (by omega)]; exact s3 j x y
  have A1 : LG w' u n q np S rn sn := LG_x A hX hS (fun j _ _ _ => o j (by omega)) (fun j _ _ => ⟨o j (by omega), h1 j (by omega)⟩) ⟨h2 14 (by decide) (by decide), h2 15 (by decide) (by decide), h2 17 (by decide) (by decide)⟩ (fun j _ _ => o j (by omega)) ⟨by rw [e0], by rw [e0], by rw [e0]⟩
  refine ⟨LG_u A1 (MS_of2 (fun j _ _ => k1 j (by omega)) (k2 400 (by decide) (by decide)) A.2.2.1.1) (fun j hj => ko j (by omega) (by omega) (by omega) (by omega)) (fun f hf => kg f (by omega)), ⟨hR, ?_, ?_, hT, ⟨?_, ?_⟩, hF⟩, CRW_u (CRW_x R (by rw [e0]) (by rw [e0])) (kg 6 (by decide)) (kg 5 (by decide)), PLN_u (PLN_x P (by rw [e0]) (o 19 (by decide))) (kg 40 (by decide)) (ko 441 (by decide) (by decide) (by decide) (by decide))⟩
  · exact VIG_u (VIG_x b2 (by rw [e0]) (h2 42 (by decide) (by decide)) (fun j x y => ⟨o j (by omega), h1 j (by omega)⟩)) (kg 69 (by decide)) ⟨ko 475 (by decide) (by decide) (by decide) (by decide), ko 476 (by decide) (by decide) (by decide) (by decide), ko 477 (by decide) (by decide) (by decide) (by decide)⟩
  · exact LAG_u (LAG_x b3 (CI_o b3.1 hX (o 40 (by decide)) (o 41 (by decide)) (o 37 (by decide)) (o 39 (by decide))) (o 36 (by decide)) (o 37 (by decide)) (o 38 (by decide))) ⟨ko 472 (by decide) (by decide) (by decide) (by decide), ko 473 (by decide) (by decide) (by decide) (by decide)⟩ (fun f x y => kg f (by omega))
  · exact HB_e b5.1 (o 26 (by decide)) e0
  · rw [o 18 (by decide)]; exact b5.2
/-- where the new rule lies in M -/
def KPO (nr mk mk' kP : Nat) (kf : Nat → Nat) : Prop := nr < mk' ∧ mk' ≤ 17 ∧ kP < mk' ∧ mk ≤ mk' ∧ (∀ r, r < mk' → r ≠ nr → r < mk ∧ kf r ≠ kP) ∧ ∀ r, r < mk → r < mk'
def kfN (kf : Nat → Nat) (nr kP : Nat) : Nat → Nat := fun r => if r = nr then kP else kf r
theorem mqF_n {kP r : Nat} (h : r ≠ nr) : mqF (kfN kf nr kP) r = mqF kf r := by
  unfold mqF kfN
  rw [if_neg h]
theorem mqF_nr {kP : Nat} : mqF (kfN kf nr kP) nr = 500 + 3 * kP := by
  unfold mqF kfN
  rw [if_pos rfl]
theorem MSL_n {v : AW} {kP : Nat} (h : MSL u nr mk kf) (hK : KPO nr mk mk' kP kf) (hv : NRU (500 + 3 * kP) nr u v) (hn : nr' ≤ nr + 1) : MSL v nr' mk' (kfN kf nr kP) := by
  obtain ⟨s1, s2, s3, s4, s5, s6⟩ := h
  obtain ⟨k1, k2, k3, k4, k5, k6⟩ := hK
  obtain ⟨a, b, c, d, e, f, g⟩ := hv
  refine ⟨by omega, k2, fun r hr => ?_, fun r s hr hs t => ?_, fun r x y => ?_, fun j x y => ?_⟩
  · by_cases c : r = nr
    · subst c
      rw [mqF_nr]
      exact ⟨e, by unfold kfN; rw [if_pos rfl]; exact k3, f⟩
    · obtain ⟨c1, c2⟩ := k5 r hr c
      obtain ⟨z1, z2, z3⟩ := s3 r c1
      rw [mqF_n c]
      have hq : mqF kf r = 500 + 3 * kf r := rfl
      obtain ⟨o1, o2, o3⟩ := a (mqF kf r) (by omega) (by omega) (by omega)
      refine ⟨(d r c).trans z1, by unfold kfN; rw [if_neg c]; omega, RO_o z3 ⟨o1, (a _ (by omega) (by omega) (by omega)).1, (a _ (by omega) (by omega) (by omega)).1⟩ (o2 (by omega)) (by rw [o3 (by omega) (by omega)])⟩
  · unfold kfN at t
    by_cases c : r = nr
    · by_cases c' : s = nr
      · omega
      · rw [if_pos c, if_neg c'] at t
        exact absurd t.symm (k5 s hs c').2
    · by_cases c' : s = nr
      · rw [if_neg c, if_pos c'] at t
        exact absurd t (k5 r hr c).2
      · rw [if_neg c, if_neg c'] at t
        exact s4 r s (k5 r hr c).1 (k5 s hs c').1 t
  · rw [d r (by omega)]
    exact s5 r (by omega) y
  · rw [(a j (by omega) (by omega) (by omega)).1]
    exact s6 j (by omega) y
/-- an old rule of M -/
theorem RM_n {v : AW} {kP r : Nat} {c : List Int} (h : kf r ≠ kP) (hv : NRU (500 + 3 * kP) nr u v) (k : RM u (mqF kf r) c) : RM v (mqF kf r) c ∧ v.2.1 (mqF kf r) = u.2.1 (mqF kf r) := by
  have hq : mqF kf r = 500 + 3 * kf r := rfl
  have o := fun j (hj : j = mqF kf r ∨ j = mqF kf r + 1 ∨ j = mqF kf r + 2) => hv.1 j (by omega) (by omega) (by omega)
  obtain ⟨o1, o2, o3⟩ := o _ (Or.inl rfl)
  obtain ⟨p1, p2, p3⟩ := o _ (Or.inr (Or.inl rfl))
  obtain ⟨q1, q2, q3⟩ := o _ (Or.inr (Or.inr rfl))
  refine ⟨?_, o3 (by omega) (by omega)⟩
  unfold RM
  rw [o1, o2 (by omega), o3 (by omega) (by omega), p1, p3 (by omega) (by omega), q1, q3 (by omega) (by omega)]
  exact k
theorem GB_rl {y v : AW} {kP : Nat} (g : GB ix w u n q np S rn sn nv nr mk tl sz rp rc kf cl) (hix : ix < 512) (hy : NRX (2000 + 2 * ix) w y) (hv : NRU (500 + 3 * kP) nr u v) (hR : RUG y v nr' mk' rp' rc' kf' cl') : GB (ix + 1) y v n q np S rn sn nv nr' mk' 0 sz rp' rc' kf' cl' := by
  obtain ⟨a, b, c, d, e, f, k⟩ := hv
  have hF := g.2.1.2.2.2.2.2
  obtain ⟨t1, t2, t3, t4, t5, t6⟩ := g.2.1.2.2.2.1
  refine GB_rj (w' := y) (u' := v) g (fun j hj => (hy.1 j (by omega) (by omega)).1) (fun j hj h2 => (hy.1 j (by omega) (by omega)).2.1 h2) (fun j hj h20 _ h23 h24 h25 => (hy.1 j (by omega) (by omega)).2.2 h20 h23 h24 h25) ⟨fun j x1 x2 => by rw [(hy.1 j (by omega) (by omega)).1]; exact hF.1 j (by omega) x2, by rw [(hy.1 1900 (by omega) (by omega)).1]; exact hF.2⟩ (fun j hj => (a j (by omega) (by omega) (by omega)).1) (fun j hj h4 => (a j (by omega) (by omega) (by omega)).2.1 h4) (fun j hj h4 h5 _ => (a j (by omega) (by omega) (by omega)).2.2 h4 h5) b hR ⟨hy.2, by decide, c, ?_, fun j hj => absurd hj (Nat.not_lt_zero j), k⟩
  rw [(hy.1 21 (by omega) (by omega)).2.2 (by decide) (by decide) (by decide) (by decide)]
  exact t4
theorem RBK_ny {y : AW} {p : Nat} (h : RBK w nr rp rc cl) (hp : (w.1 p).1 = 0) (hp1 : (w.1 (p + 1)).1 = 0) (hy : NRX p w y) : ∀ i, i < nr → RU y (rp i) (rc i) (cl i) ∧ y.2.1 (rp i) = w.2.1 (rp i) := fun i hi => by
  obtain ⟨c1, c2, c3, c4, c5, c6⟩ := h.2.2 i hi
  have n1 : rp i ≠ p := fun t => by rw [← t, c2.1] at hp; cases hp
  have n2 : rp i ≠ p + 1 := fun t => by rw [← t, c2.1] at hp1; cases hp1
  have n3 : rc i ≠ p := fun t => by rw [← t, c2.2.2.1] at hp; cases hp
  have n4 : rc i ≠ p + 1 := fun t => by rw [← t, c2.2.2.1] at hp1; cases hp1
  obtain ⟨a1, a2, a3⟩ := hy.1 _ n1 n2
  obtain ⟨b1, b2, b3⟩ := hy.1 _ n3 n4
  refine ⟨?_, a3 (by omega) (by omega) (by omega) (by omega)⟩
  unfold RU
  rw [a1, a2 (by omega), a3 (by omega) (by omega) (by omega) (by omega), b1, b3 (by omega) (by omega) (by omega) (by omega)]
  exact c2
theorem RUG_0 {y v : AW} {kP p : Nat} (h : RUG w u nr mk rp rc kf cl) (hK : KPO nr mk mk' kP kf) (hp : (w.1 p).1 = 0) (hp1 : (w.1 (p + 1)).1 = 0) (hy : NRX p w y) (h3 : y.2.1 20 3 = w.2.1 20 3) (h22 : y.2.2 22 = w.2.2 22) (hv : NRU (500 + 3 * kP) nr u v) (h42 : v.2.1 400 42 = u.2.1 400 42) : RUG y v nr mk' rp rc (kfN kf nr kP) cl := by
  obtain ⟨a, ⟨b1, b2, b3⟩, c, d⟩ := h
  have hb := RBK_ny a hp hp1 hy
  have hr : ∀ i, i < nr → i < mk ∧ kf i ≠ kP := fun i hi => hK.2.2.2.2.1 i (by have := hK.1; omega) (by omega)
  refine ⟨⟨by rw [h3]; exact a.1, a.2.1, fun i hi => ?_⟩, ⟨by rw [h42]; exact b1, b2, fun i hi => ?_⟩, fun i hi => ?_, MSL_n d hK hv (by omega)⟩
  · obtain ⟨c1, c2, c3⟩ := a.2.2 i hi
    exact ⟨by rw [h22]; exact c1, (hb i hi).1, c3⟩
  · obtain ⟨e1, e2, e3, e4⟩ := b3 i hi
    rw [mqF_n (by omega)]
    exact ⟨(hv.2.2.2.1 i (by omega)).trans e1, e2, (RM_n (hr i hi).2 hv e3).1, e4⟩
  · rw [mqF_n (by omega), (hb i hi).2, (RM_n (hr i hi).2 hv (b3 i hi).2.2.1).2]
    exact c i hi
/-- the new rule put into both -/
def nwA {α : Type} (f : Nat → α) (nr : Nat) (x : α) : Nat → α := fun i => if i = nr then x else f i
theorem nwA_n {α : Type} {f : Nat → α} {x : α} {i : Nat} (h : i ≠ nr) : nwA f nr x i = f i := if_neg h
theorem nwA_nr {α : Type} {f : Nat → α} {x : α} : nwA f nr x nr = x := if_pos rfl
theorem RUG_1 {y v : AW} {kP p : Nat} {c : List Int} (h : RUG w u nr mk rp rc kf cl) (hn : nr < 16) (hK : KPO nr mk mk' kP kf) (hp : (w.1 p).1 = 0) (hp1 : (w.1 (p + 1)).1 = 0) (h2000 : 2000 ≤ p) (hy : NRX p w y) (h3 : y.2.1 20 3 = (nr : Int) + 1) (h22 : ∀ i, i ≠ nr → y.2.2 22 i = w.2.2 22 i) (h22n : y.2.2 22 nr = some p) (hRU : RU y p (p + 1) c) (htc : tcL c [] = some [true] ∧ tms c ≤ 30) (hRM : RM v (500 + 3 * kP) c) (hac : y.2.1 p 0 = v.2.1 (500 + 3 * kP) 0) (hv : NRU (500 + 3 * kP) nr u v) (h42 : v.2.1 400 42 = (nr : Int) + 1) : RUG y v (nr + 1) mk' (nwA rp nr p) (nwA rc nr (p + 1)) (kfN kf nr kP) (nwA cl nr c) := by
  obtain ⟨a, ⟨b1, b2, b3⟩, ac, d⟩ := h
  have hb := RBK_ny a hp hp1 hy
  have hr : ∀ i, i < nr → i < mk ∧ kf i ≠ kP := fun i hi => hK.2.2.2.2.1 i (by have := hK.1; omega) (by omega)
  refine ⟨⟨by rw [h3]; omega, by omega, fun i hi => ?_⟩, ⟨by rw [h42]; omega, by omega, fun i hi => ?_⟩, fun i hi => ?_, MSL_n d hK hv (by omega)⟩
  · by_cases e : i = nr
    · subst e
      rw [nwA_nr, nwA_nr, nwA_nr]
      exact ⟨h22n, hRU, h2000, by omega, htc⟩
    · rw [nwA_n e, nwA_n e, nwA_n e]
      obtain ⟨c1, c2, c3⟩ := a.2.2 i (by omega)
      exact ⟨(h22 i e).trans c1, (hb i (by omega)).1, c3⟩
  · by_cases e : i = nr
    · subst e
      rw [nwA_nr, mqF_nr]
      exact ⟨hv.2.2.2.2.1, by omega, hRM, htc⟩
    · rw [nwA_n e, mqF_n e]
      obtain ⟨e1, e2, e3, e4⟩ := b3 i (by omega)
      exact ⟨(hv.2.2.2.1 i e).trans e1, e2, (RM_n (hr i (by omega)).2 hv e3).1, e4⟩
  · by_cases e : i = nr
    · subst e
      rw [nwA_nr, mqF_nr]
      exact hac
    · rw [nwA_n e, mqF_n e, (hb i (by omega)).2, (RM_n (hr i (by omega)).2 hv (b3 i (by omega)).2.2.1).2]
      exact ac i (by omega)
end RULE
theorem okIt_b {s v c : Int} (h : okIt s v c) : 0 ≤ c ∧ c < 30000 := by
  unfold okIt at h
  omega
/-- the rule made of what was read -/
theorem mkR_ru {x : AW} {p : Nat} {c : List Int} {act f q : Int} (hp : 43 ≤ p) (h24 : ∀ i, i < c.length → x.2.1 24 i = c.getD i 0) (hb : ∀ i, i < c.length → 0 ≤ c.getD i 0 ∧ c.getD i 0 < 30000) (hl : c.length ≤ 300) (ha : 0 ≤ act ∧ act < 4) : RU (rtW (mkR x p c.length act) f q) p (p + 1) c ∧ (rtW (mkR x p c.length act) f q).2.1 p 0 = act := by
  have e0 : (rtW (mkR x p c.length act) f q).2.1 p 0 = act := by
    rw [rtW_o _ _ _ (show p ≠ 20 by omega)]
    exact feq _ _ _ _
  refine ⟨⟨?_, upP_self _ _ _ _, ?_, hl, fun i hi => ⟨?_, hb i hi⟩, by rw [e0]; exact ha.1, by rw [e0]; exact ha.2⟩, e0⟩
  · show (alc (alc x p (104, 0)) (p + 1) (1, c.length)).1 p = _
    rw [alc_ne _ _ (by omega)]
    exact alc_at _ _ _
  · exact alc_at _ _ _
  · rw [rtW_o _ _ _ (show p + 1 ≠ 20 by omega)]
    show (upI (coW (alc x p (104, 0)) 24 (p + 1) c.length) p 0 act).2.1 (p + 1) i = _
    rw [upI_o _ _ _ (by omega)]
    unfold coW
    rw [sR_at]
    unfold cpR
    rw [if_pos hi, alc_i _ _ (show 24 ≠ p + 1 by omega), alc_i _ _ (show 24 ≠ p by omega)]
    exact h24 i hi
