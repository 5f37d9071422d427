/-! ===== the judgement GG: from here the method comes to its end, whatever the heap, if it holds the world ===== -/
abbrev Cx : Type := (Program × Launch × Env × Room × State × MethodId × Array Value × List Frame × Method × Code) × (State → Prop) × ZT × (Nat → Nat) × AW
abbrev cxS (Γ : Cx) : State := Γ.1.2.2.2.2.1
abbrev cxR (Γ : Cx) : Room := Γ.1.2.2.2.1
abbrev cxM (Γ : Cx) : MethodId := Γ.1.2.2.2.2.2.1
abbrev cxA (Γ : Cx) : Array Value := Γ.1.2.2.2.2.2.2.1
abbrev cxB (Γ : Cx) : List Frame := Γ.1.2.2.2.2.2.2.2.1
abbrev cxT (Γ : Cx) : Method := Γ.1.2.2.2.2.2.2.2.2.1
abbrev cxC (Γ : Cx) : Code := Γ.1.2.2.2.2.2.2.2.2.2
abbrev cxZ (Γ : Cx) : ZT := Γ.2.2.1
abbrev WW (Γ : Cx) (H : Heap) (locs : List Loc) (k n : Nat) (g : JFrame) : Prop := W Γ.1.1 Γ.1.2.1 Γ.1.2.2.1 (cxR Γ) (cxS Γ) (cxM Γ) (cxA Γ) (cxB Γ) (cxT Γ) (cxC Γ) H locs k n Γ.2.1 g
def OKB (Γ : Cx) (cc : ByteArray) (own : String) (nL : Nat) : Prop :=
  Γ.1.1.tables.exec = Jvm.exec ∧ (cxC Γ).code = cc ∧ (cxC Γ).maxLocals = nL ∧ (cxS Γ).vm.findClass own = some (cxM Γ).cls ∧ (∀ w ∈ gw_tbl, w.before (cxA Γ) (cxS Γ) = true) ∧ KK (cxZ Γ) (cxS Γ) ∧ XF (cxZ Γ) (cxS Γ)
def okvs (w : AW) : List AV → Prop
  | [] => True
  | v :: t => okv w v ∧ okvs w t
def okls (w : AW) (lo : List (Option AV)) : Prop := ∀ (i : Nat) (v : AV), lo[i]? = some (some v) → okv w v
def XT (Γ : Cx) (ad : Nat → Nat) (w : AW) : Prop := ∀ j : Nat, okr Γ.2.2.2.2 j → ad j = Γ.2.2.2.1 j ∧ okr w j
def GG (Γ : Cx) (pc : Nat) (lo : List (Option AV)) (st : List AV) (w : AW) (k n : Nat) : Prop :=
  ∀ (ad : Nat → Nat) (ls : Array Slot) (H : Heap) (locs : List Loc), RP (cxZ Γ) ad w H → lv_has ls lo.length (lp ad lo 0) → okls w lo → okvs w st → (∀ l ∈ locs, zA (cxZ Γ) l.base) → XT Γ ad w →
    WW Γ H locs k n (F0 (cxM Γ) pc ls (st.map (cv ad)))
abbrev R32 (z : Int) : Prop := -2147483648 ≤ z ∧ z < 2147483648
theorem R32.toInt {z : Int} (h : R32 z) : (Int32.ofInt z).toInt = z := by
  rw [Int32.toInt_ofInt, Int.bmod_def]
  obtain ⟨h1, h2⟩ := h
  simp only [Int32.size]
  split <;> omega
theorem R32.lt {a b : Int} (ha : R32 a) (hb : R32 b) : Int32.ofInt a < Int32.ofInt b ↔ a < b := by rw [Int32.lt_iff_toInt_lt, ha.toInt, hb.toInt]
theorem R32.le {a b : Int} (ha : R32 a) (hb : R32 b) : Int32.ofInt a ≤ Int32.ofInt b ↔ a ≤ b := by rw [Int32.le_iff_toInt_le, ha.toInt, hb.toInt]
theorem R32.eq {a b : Int} (ha : R32 a) (hb : R32 b) : Int32.ofInt a = Int32.ofInt b ↔ a = b := by rw [← Int32.toInt_inj, ha.toInt, hb.toInt]
theorem R32.zero : Int32.ofInt 0 = 0 := rfl
theorem R32.z : R32 0 := ⟨by omega, by omega⟩
theorem okls_set {w : AW} {lo : List (Option AV)} (h : okls w lo) (i : Nat) {v : AV} (hv : okv w v) : okls w (lo.set i (some v)) := by
  intro j u hj
  by_cases hji : j = i
  · subst hji
    rw [List.getElem?_set] at hj
    simp only [if_pos] at hj
    split at hj
    · cases hj; exact hv
    · cases hj
  · rw [List.getElem?_set_ne (Ne.symm hji)] at hj
    exact h j u hj
section GROWS
variable {Γ : Cx} {cc : ByteArray} {own : String} {nL pc k n : Nat} {lo : List (Option AV)} {st : List AV} {w : AW}
theorem g_eq {lo' : List (Option AV)} {st' : List AV} {w' : AW} (e1 : lo = lo') (e2 : st = st') (e3 : w = w') (kk : GG Γ pc lo' st' w' k n) : GG Γ pc lo st w k n := by subst e1; subst e2; subst e3; exact kk
theorem g_iconst (h : OKB Γ cc own nL) {z : Int} (hd : decode cc pc = .ok (.iconst z, 1)) (kk : GG Γ (pc + 1) lo (ai z :: st) w k n) : GG Γ pc lo st w k n :=
  fun ad ls H locs hR hl ho hs hL hX => lv_iconst h.1 h.2.1 hd rfl (kk ad ls H locs hR hl ho ⟨trivial, hs⟩ hL hX)
theorem g_bipush (h : OKB Γ cc own nL) {z : Int} (hd : decode cc pc = .ok (.bipush z, 2)) (hz : (Int8.ofInt z).toInt32 = Int32.ofInt z) (kk : GG Γ (pc + 2) lo (ai z :: st) w k n) : GG Γ pc lo st w k n :=
  fun ad ls H locs hR hl ho hs hL hX => lv_bipush h.1 h.2.1 hd hz (kk ad ls H locs hR hl ho ⟨trivial, hs⟩ hL hX)
theorem g_sipush (h : OKB Γ cc own nL) {z : Int} (hd : decode cc pc = .ok (.sipush z, 3)) (hz : (Int16.ofInt z).toInt32 = Int32.ofInt z) (kk : GG Γ (pc + 3) lo (ai z :: st) w k n) : GG Γ pc lo st w k n :=
  fun ad ls H locs hR hl ho hs hL hX => lv_sipush h.1 h.2.1 hd hz (kk ad ls H locs hR hl ho ⟨trivial, hs⟩ hL hX)
theorem g_iload_n (h : OKB Γ cc own nL) {i : Fin 4} {z : Int} (hd : decode cc pc = .ok (.iload_n i, 1)) (hl : lo[(i : Nat)]? = some (some (ai z))) (kk : GG Γ (pc + 1) lo (ai z :: st) w k n) : GG Γ pc lo st w k n :=
  fun ad ls H locs hR hl' ho hs hL hX => lv_iload_n h.1 h.2.1 hd rfl (lp_at hl' hl) (kk ad ls H locs hR hl' ho ⟨trivial, hs⟩ hL hX)
theorem g_iload (h : OKB Γ cc own nL) {i : Nat} {z : Int} (hd : decode cc pc = .ok (.iload i, 2)) (hl : lo[i]? = some (some (ai z))) (kk : GG Γ (pc + 2) lo (ai z :: st) w k n) : GG Γ pc lo st w k n :=
  fun ad ls H locs hR hl' ho hs hL hX => lv_iload h.1 h.2.1 hd (lp_at hl' hl) (kk ad ls H locs hR hl' ho ⟨trivial, hs⟩ hL hX)
theorem cv_aq (ad : Nat → Nat) (r : Option Nat) : cv ad (aq r) = va_rf (r.map ad) := by cases r <;> rfl
theorem g_aload_n (h : OKB Γ cc own nL) {i : Fin 4} {r : Option Nat} (hd : decode cc pc = .ok (.aload_n i, 1)) (hl : lo[(i : Nat)]? = some (some (aq r))) (kk : GG Γ (pc + 1) lo (aq r :: st) w k n) : GG Γ pc lo st w k n := by
  intro ad ls H locs hR hl' ho hs hL hX
  have h1 := kk ad ls H locs hR hl' ho ⟨ho _ _ hl, hs⟩ hL hX
  have h2 := lp_at hl' hl
  cases r with
  | none => exact lv_aload_nN h.1 h.2.1 hd rfl h2 h1
  | some a => exact lv_aload_n h.1 h.2.1 hd rfl h2 h1
theorem g_aload (h : OKB Γ cc own nL) {i : Nat} {r : Option Nat} (hd : decode cc pc = .ok (.aload i, 2)) (hl : lo[i]? = some (some (aq r))) (kk : GG Γ (pc + 2) lo (aq r :: st) w k n) : GG Γ pc lo st w k n := by
  intro ad ls H locs hR hl' ho hs hL hX
  have h1 := kk ad ls H locs hR hl' ho ⟨ho _ _ hl, hs⟩ hL hX
  have h2 := lp_at hl' hl
  cases r with
  | none => exact lv_aloadN h.1 h.2.1 hd h2 h1
  | some a => exact lv_aload h.1 h.2.1 hd h2 h1
theorem lv_setlen {ad : Nat → Nat} {lo : List (Option AV)} {ls : Array Slot} {i : Nat} {v : AV} (hi : i < lo.length) (hk : stk lo i = true) (h : lv_has ls lo.length ((i, cv ad v) :: (lp ad lo 0).filter (fun q => !(q.1 == i) && !(q.1 + 1 == i && q.2.category == 2)))) : lv_has ls (lo.set i (some v)).length (lp ad (lo.set i (some v)) 0) := by
  rw [List.length_set]
  exact lp_le h (lp_store hi hk)
theorem g_istore_n (h : OKB Γ cc own nL) {i : Fin 4} {z : Int} (hd : decode cc pc = .ok (.istore_n i, 1)) (hi : (i : Nat) < lo.length) (hk : stk lo i = true) {lo' : List (Option AV)} (hlo : lo.set (i : Nat) (some (ai z)) = lo') (kk : GG Γ (pc + 1) lo' st w k n) : GG Γ pc lo (ai z :: st) w k n := by
  subst hlo
  intro ad ls H locs hR hl' ho hs hL hX
  exact lv_istore_n h.1 h.2.1 hd rfl hl' hi rfl (fun ls' hl2 => kk ad ls' H locs hR (lv_setlen hi hk hl2) (okls_set ho _ trivial) hs.2 hL hX)
theorem g_istore (h : OKB Γ cc own nL) {i : Nat} {z : Int} (hd : decode cc pc = .ok (.istore i, 2)) (hi : i < lo.length) (hk : stk lo i = true) {lo' : List (Option AV)} (hlo : lo.set i (some (ai z)) = lo') (kk : GG Γ (pc + 2) lo' st w k n) : GG Γ pc lo (ai z :: st) w k n := by
  subst hlo
  intro ad ls H locs hR hl' ho hs hL hX
  exact lv_istore h.1 h.2.1 hd hl' hi rfl (fun ls' hl2 => kk ad ls' H locs hR (lv_setlen hi hk hl2) (okls_set ho _ trivial) hs.2 hL hX)
theorem g_astore_n (h : OKB Γ cc own nL) {i : Fin 4} {r : Option Nat} (hd : decode cc pc = .ok (.astore_n i, 1)) (hi : (i : Nat) < lo.length) (hk : stk lo i = true) {lo' : List (Option AV)} (hlo : lo.set (i : Nat) (some (aq r)) = lo') (kk : GG Γ (pc + 1) lo' st w k n) : GG Γ pc lo (aq r :: st) w k n := by
  subst hlo
  intro ad ls H locs hR hl' ho hs hL hX
  cases r with
  | none => exact lv_astore_nN h.1 h.2.1 hd rfl hl' hi rfl (fun ls' hl2 => kk ad ls' H locs hR (lv_setlen hi hk hl2) (okls_set ho _ hs.1) hs.2 hL hX)
  | some a => exact lv_astore_n h.1 h.2.1 hd rfl hl' hi rfl (fun ls' hl2 => kk ad ls' H locs hR (lv_setlen hi hk hl2) (okls_set ho _ hs.1) hs.2 hL hX)
theorem g_astore (h : OKB Γ cc own nL) {i : Nat} {r : Option Nat} (hd : decode cc pc = .ok (.astore i, 2)) (hi : i < lo.length) (hk : stk lo i = true) {lo' : List (Option AV)} (hlo : lo.set i (some (aq r)) = lo') (kk : GG Γ (pc + 2) lo' st w k n) : GG Γ pc lo (aq r :: st) w k n := by
  subst hlo
  intro ad ls H locs hR hl' ho hs hL hX
  cases r with
  | none => exact lv_astoreN h.1 h.2.1 hd hl' hi rfl (fun ls' hl2 => kk ad ls' H locs hR (lv_setlen hi hk hl2) (okls_set ho _ hs.1) hs.2 hL hX)
  | some a => exact lv_astore h.1 h.2.1 hd hl' hi rfl (fun ls' hl2 => kk ad ls' H locs hR (lv_setlen hi hk hl2) (okls_set ho _ hs.1) hs.2 hL hX)
theorem g_iinc (h : OKB Γ cc own nL) {i : Nat} {x : Int} {z : Int} (hd : decode cc pc = .ok (.iinc i x, 3)) (hz : lo[i]? = some (some (ai z))) (hi : i < lo.length) (hk : stk lo i = true) {lo' : List (Option AV)} (hlo : lo.set i (some (ai (z + x))) = lo') (kk : GG Γ (pc + 3) lo' st w k n) : GG Γ pc lo st w k n := by
  subst hlo
  intro ad ls H locs hR hl' ho hs hL hX
  have h1 := lp_get (ad := ad) lo 0 i _ hz
  rw [Nat.zero_add] at h1
  obtain ⟨j, hj⟩ := List.getElem?_of_mem h1
  refine lv_iinc (k := j) (x := Int32.ofInt z) (v := Int32.ofInt (z + x)) h.1 h.2.1 hd hl' hj (Int32.ofInt_add _ _).symm hi rfl (fun ls' hl2 => kk ad ls' H locs hR (lv_setlen (v := ai (z + x)) hi hk hl2) (okls_set ho _ trivial) hs hL hX)
theorem g_goto (h : OKB Γ cc own nL) {off : Int} {tgt : Nat} (hd : decode cc pc = .ok (.goto off, 3)) (ht : (pc : Int) + off = (tgt : Int)) (kk : GG Γ tgt lo st w k n) : GG Γ pc lo st w k n :=
  fun ad ls H locs hR hl ho hs hL hX => lv_goto h.1 h.2.1 hd ht (kk ad ls H locs hR hl ho hs hL hX)
theorem g_dup (h : OKB Γ cc own nL) {v : AV} (hd : decode cc pc = .ok (.dup, 1)) (hv : is2 (some v) = false) (kk : GG Γ (pc + 1) lo (v :: v :: st) w k n) : GG Γ pc lo (v :: st) w k n :=
  fun ad ls H locs hR hl ho hs hL hX => lv_dup h.1 h.2.1 hd ((lv_cat _).resolve_right (fun q => by rw [(cv_cat ad v).mp q] at hv; cases hv)) (kk ad ls H locs hR hl ho ⟨hs.1, hs⟩ hL hX)
theorem g_pop (h : OKB Γ cc own nL) {v : AV} (hd : decode cc pc = .ok (.pop, 1)) (hv : is2 (some v) = false) (kk : GG Γ (pc + 1) lo st w k n) : GG Γ pc lo (v :: st) w k n :=
  fun ad ls H locs hR hl ho hs hL hX => lv_pop h.1 h.2.1 hd ((lv_cat _).resolve_right (fun q => by rw [(cv_cat ad v).mp q] at hv; cases hv)) (kk ad ls H locs hR hl ho hs.2 hL hX)
theorem g_dup2 (h : OKB Γ cc own nL) {u v : AV} (hd : decode cc pc = .ok (.dup2, 1)) (hu : is2 (some u) = false) (hv : is2 (some v) = false) (kk : GG Γ (pc + 1) lo (u :: v :: u :: v :: st) w k n) : GG Γ pc lo (u :: v :: st) w k n :=
  fun ad ls H locs hR hl ho hs hL hX => lv_dup2_11 h.1 h.2.1 hd ((lv_cat _).resolve_right (fun q => by rw [(cv_cat ad u).mp q] at hu; cases hu)) ((lv_cat _).resolve_right (fun q => by rw [(cv_cat ad v).mp q] at hv; cases hv)) (kk ad ls H locs hR hl ho ⟨hs.1, hs.2.1, hs⟩ hL hX)
theorem g_null (h : OKB Γ cc own nL) (hd : decode cc pc = .ok (.aconst_null, 1)) (kk : GG Γ (pc + 1) lo (an :: st) w k n) : GG Γ pc lo st w k n :=
  fun ad ls H locs hR hl ho hs hL hX => lv_null h.1 h.2.1 hd (kk ad ls H locs hR hl ho ⟨trivial, hs⟩ hL hX)
theorem g_ldc (h : OKB Γ cc own nL) {idx : Nat} {z : Int} (hw : Cond.constant own idx (Int32.ofInt z) ∈ gw_tbl) (hd : decode cc pc = .ok (.ldc idx, 2)) (kk : GG Γ (pc + 2) lo (ai z :: st) w k n) : GG Γ pc lo st w k n :=
  fun ad ls H locs hR hl ho hs hL hX => lv_ldc h.1 h.2.1 h.2.2.2.1 (h.2.2.2.2.1 _ hw) hd (kk ad ls H locs hR hl ho ⟨trivial, hs⟩ hL hX)
theorem g_ldcw (h : OKB Γ cc own nL) {idx : Nat} {z : Int} (hw : Cond.constant own idx (Int32.ofInt z) ∈ gw_tbl) (hd : decode cc pc = .ok (.ldc_w idx, 3)) (kk : GG Γ (pc + 3) lo (ai z :: st) w k n) : GG Γ pc lo st w k n :=
  fun ad ls H locs hR hl ho hs hL hX => lv_ldcw h.1 h.2.1 h.2.2.2.1 (h.2.2.2.2.1 _ hw) hd (kk ad ls H locs hR hl ho ⟨trivial, hs⟩ hL hX)
theorem g_iadd (h : OKB Γ cc own nL) {a b : Int} (hd : decode cc pc = .ok (.iadd, 1)) (kk : GG Γ (pc + 1) lo (ai (a + b) :: st) w k n) : GG Γ pc lo (ai b :: ai a :: st) w k n := by
  intro ad ls H locs hR hl ho hs hL hX
  refine lv_iadd h.1 h.2.1 hd ?_
  rw [← Int32.ofInt_add]
  exact kk ad ls H locs hR hl ho ⟨trivial, hs.2.2⟩ hL hX
theorem g_isub (h : OKB Γ cc own nL) {a b : Int} (hd : decode cc pc = .ok (.isub, 1)) (kk : GG Γ (pc + 1) lo (ai (a - b) :: st) w k n) : GG Γ pc lo (ai b :: ai a :: st) w k n := by
  intro ad ls H locs hR hl ho hs hL hX
  refine lv_isub h.1 h.2.1 hd ?_
  rw [← Int32.ofInt_sub]
  exact kk ad ls H locs hR hl ho ⟨trivial, hs.2.2⟩ hL hX
theorem g_imul (h : OKB Γ cc own nL) {a b : Int} (hd : decode cc pc = .ok (.imul, 1)) (kk : GG Γ (pc + 1) lo (ai (a * b) :: st) w k n) : GG Γ pc lo (ai b :: ai a :: st) w k n := by
  intro ad ls H locs hR hl ho hs hL hX
  refine lv_imul h.1 h.2.1 hd ?_
  rw [← Int32.ofInt_mul]
  exact kk ad ls H locs hR hl ho ⟨trivial, hs.2.2⟩ hL hX
theorem g_icmp_eq (h : OKB Γ cc own nL) {a b : Int} {off : Int} {tgt : Nat} (hd : decode cc pc = .ok (.if_icmp .eq off, 3)) (ht : (pc : Int) + off = (tgt : Int)) (ha : R32 a) (hb : R32 b) (kt : a = b → GG Γ tgt lo st w k n) (kf : a ≠ b → GG Γ (pc + 3) lo st w k n) : GG Γ pc lo (ai b :: ai a :: st) w k n := by
  intro ad ls H locs hR hl ho hs hL hX
  refine lv_icmp_eq h.1 h.2.1 hd ht (fun q => ?_) (fun q => ?_)
  · exact kt (by have e1 := R32.eq ha hb; have e2 := R32.lt ha hb; have e3 := R32.lt hb ha; have e4 := R32.le ha hb; have e5 := R32.le hb ha; simp only [e1, e2, e3, e4, e5, ge_iff_le, gt_iff_lt, ne_eq] at q; omega) ad ls H locs hR hl ho hs.2.2 hL hX
  · exact kf (by have e1 := R32.eq ha hb; have e2 := R32.lt ha hb; have e3 := R32.lt hb ha; have e4 := R32.le ha hb; have e5 := R32.le hb ha; simp only [e1, e2, e3, e4, e5, ge_iff_le, gt_iff_lt, ne_eq] at q; omega) ad ls H locs hR hl ho hs.2.2 hL hX
theorem g_if_eq (h : OKB Γ cc own nL) {a : Int} {off : Int} {tgt : Nat} (hd : decode cc pc = .ok (.ifCond .eq off, 3)) (ht : (pc : Int) + off = (tgt : Int)) (ha : R32 a) (kt : a = 0 → GG Γ tgt lo st w k n) (kf : a ≠ 0 → GG Γ (pc + 3) lo st w k n) : GG Γ pc lo (ai a :: st) w k n := by
  intro ad ls H locs hR hl ho hs hL hX
  refine lv_if_eq h.1 h.2.1 hd ht (fun q => ?_) (fun q => ?_)
  · exact kt (by have e1 := R32.eq ha R32.z; have e2 := R32.lt ha R32.z; have e3 := R32.lt R32.z ha; have e4 := R32.le ha R32.z; have e5 := R32.le R32.z ha; rw [R32.zero] at e1 e2 e3 e4 e5; simp only [e1, e2, e3, e4, e5, ge_iff_le, gt_iff_lt, ne_eq] at q; omega) ad ls H locs hR hl ho hs.2 hL hX
  · exact kf (by have e1 := R32.eq ha R32.z; have e2 := R32.lt ha R32.z; have e3 := R32.lt R32.z ha; have e4 := R32.le ha R32.z; have e5 := R32.le R32.z ha; rw [R32.zero] at e1 e2 e3 e4 e5; simp only [e1, e2, e3, e4, e5, ge_iff_le, gt_iff_lt, ne_eq] at q; omega) ad ls H locs hR hl ho hs.2 hL hX
theorem g_icmp_ne (h : OKB Γ cc own nL) {a b : Int} {off : Int} {tgt : Nat} (hd : decode cc pc = .ok (.if_icmp .ne off, 3)) (ht : (pc : Int) + off = (tgt : Int)) (ha : R32 a) (hb : R32 b) (kt : a ≠ b → GG Γ tgt lo st w k n) (kf : a = b → GG Γ (pc + 3) lo st w k n) : GG Γ pc lo (ai b :: ai a :: st) w k n := by
  intro ad ls H locs hR hl ho hs hL hX
  refine lv_icmp_ne h.1 h.2.1 hd ht (fun q => ?_) (fun q => ?_)
  · exact kt (by have e1 := R32.eq ha hb; have e2 := R32.lt ha hb; have e3 := R32.lt hb ha; have e4 := R32.le ha hb; have e5 := R32.le hb ha; simp only [e1, e2, e3, e4, e5, ge_iff_le, gt_iff_lt, ne_eq] at q; omega) ad ls H locs hR hl ho hs.2.2 hL hX
  · exact kf (by have e1 := R32.eq ha hb; have e2 := R32.lt ha hb; have e3 := R32.lt hb ha; have e4 := R32.le ha hb; have e5 := R32.le hb ha; simp only [e1, e2, e3, e4, e5, ge_iff_le, gt_iff_lt, ne_eq] at q; omega) ad ls H locs hR hl ho hs.2.2 hL hX
theorem g_if_ne (h : OKB Γ cc own nL) {a : Int} {off : Int} {tgt : Nat} (hd : decode cc pc = .ok (.ifCond .ne off, 3)) (ht : (pc : Int) + off = (tgt : Int)) (ha : R32 a) (kt : a ≠ 0 → GG Γ tgt lo st w k n) (kf : a = 0 → GG Γ (pc + 3) lo st w k n) : GG Γ pc lo (ai a :: st) w k n := by
  intro ad ls H locs hR hl ho hs hL hX
  refine lv_if_ne h.1 h.2.1 hd ht (fun q => ?_) (fun q => ?_)
  · exact kt (by have e1 := R32.eq ha R32.z; have e2 := R32.lt ha R32.z; have e3 := R32.lt R32.z ha; have e4 := R32.le ha R32.z; have e5 := R32.le R32.z ha; rw [R32.zero] at e1 e2 e3 e4 e5; simp only [e1, e2, e3, e4, e5, ge_iff_le, gt_iff_lt, ne_eq] at q; omega) ad ls H locs hR hl ho hs.2 hL hX
  · exact kf (by have e1 := R32.eq ha R32.z; have e2 := R32.lt ha R32.z; have e3 := R32.lt R32.z ha; have e4 := R32.le ha R32.z; have e5 := R32.le R32.z ha; rw [R32.zero] at e1 e2 e3 e4 e5; simp only [e1, e2, e3, e4, e5, ge_iff_le, gt_iff_lt, ne_eq] at q; omega) ad ls H locs hR hl ho hs.2 hL hX
theorem g_icmp_lt (h : OKB Γ cc own nL) {a b : Int} {off : Int} {tgt : Nat} (hd : decode cc pc = .ok (.if_icmp .lt off, 3)) (ht : (pc : Int) + off = (tgt : Int)) (ha : R32 a) (hb : R32 b) (kt : a < b → GG Γ tgt lo st w k n) (kf : b ≤ a → GG Γ (pc + 3) lo st w k n) : GG Γ pc lo (ai b :: ai a :: st) w k n := by
  intro ad ls H locs hR hl ho hs hL hX
  refine lv_icmp_lt h.1 h.2.1 hd ht (fun q => ?_) (fun q => ?_)
  · exact kt (by have e1 := R32.eq ha hb; have e2 := R32.lt ha hb; have e3 := R32.lt hb ha; have e4 := R32.le ha hb; have e5 := R32.le hb ha; simp only [e1, e2, e3, e4, e5, ge_iff_le, gt_iff_lt, ne_eq] at q; omega) ad ls H locs hR hl ho hs.2.2 hL hX
  · exact kf (by have e1 := R32.eq ha hb; have e2 := R32.lt ha hb; have e3 := R32.lt hb ha; have e4 := R32.le ha hb; have e5 := R32.le hb ha; simp only [e1, e2, e3, e4, e5, ge_iff_le, gt_iff_lt, ne_eq] at q; omega) ad ls H locs hR hl ho hs.2.2 hL hX
theorem g_if_lt (h : OKB Γ cc own nL) {a : Int} {off : Int} {tgt : Nat} (hd : decode cc pc = .ok (.ifCond .lt off, 3)) (ht : (pc : Int) + off = (tgt : Int)) (ha : R32 a) (kt : a < 0 → GG Γ tgt lo st w k n) (kf : 0 ≤ a → GG Γ (pc + 3) lo st w k n) : GG Γ pc lo (ai a :: st) w k n := by
  intro ad ls H locs hR hl ho hs hL hX
  refine lv_if_lt h.1 h.2.1 hd ht (fun q => ?_) (fun q => ?_)
  · exact kt (by have e1 := R32.eq ha R32.z; have e2 := R32.lt ha R32.z; have e3 := R32.lt R32.z ha; have e4 := R32.le ha R32.z; have e5 := R32.le R32.z ha; rw [R32.zero] at e1 e2 e3 e4 e5; simp only [e1, e2, e3, e4, e5, ge_iff_le, gt_iff_lt, ne_eq] at q; omega) ad ls H locs hR hl ho hs.2 hL hX
  · exact kf (by have e1 := R32.eq ha R32.z; have e2 := R32.lt ha R32.z; have e3 := R32.lt R32.z ha; have e4 := R32.le ha R32.z; have e5 := R32.le R32.z ha; rw [R32.zero] at e1 e2 e3 e4 e5; simp only [e1, e2, e3, e4, e5, ge_iff_le, gt_iff_lt, ne_eq] at q; omega) ad ls H locs hR hl ho hs.2 hL hX
theorem g_icmp_ge (h : OKB Γ cc own nL) {a b : Int} {off : Int} {tgt : Nat} (hd : decode cc pc = .ok (.if_icmp .ge off, 3)) (ht : (pc : Int) + off = (tgt : Int)) (ha : R32 a) (hb : R32 b) (kt : b ≤ a → GG Γ tgt lo st w k n) (kf : a < b → GG Γ (pc + 3) lo st w k n) : GG Γ pc lo (ai b :: ai a :: st) w k n := by
  intro ad ls H locs hR hl ho hs hL hX
  refine lv_icmp_ge h.1 h.2.1 hd ht (fun q => ?_) (fun q => ?_)
  · exact kt (by have e1 := R32.eq ha hb; have e2 := R32.lt ha hb; have e3 := R32.lt hb ha; have e4 := R32.le ha hb; have e5 := R32.le hb ha; simp only [e1, e2, e3, e4, e5, ge_iff_le, gt_iff_lt, ne_eq] at q; omega) ad ls H locs hR hl ho hs.2.2 hL hX
  · exact kf (by have e1 := R32.eq ha hb; have e2 := R32.lt ha hb; have e3 := R32.lt hb ha; have e4 := R32.le ha hb; have e5 := R32.le hb ha; simp only [e1, e2, e3, e4, e5, ge_iff_le, gt_iff_lt, ne_eq] at q; omega) ad ls H locs hR hl ho hs.2.2 hL hX
theorem g_if_ge (h : OKB Γ cc own nL) {a : Int} {off : Int} {tgt : Nat} (hd : decode cc pc = .ok (.ifCond .ge off, 3)) (ht : (pc : Int) + off = (tgt : Int)) (ha : R32 a) (kt : 0 ≤ a → GG Γ tgt lo st w k n) (kf : a < 0 → GG Γ (pc + 3) lo st w k n) : GG Γ pc lo (ai a :: st) w k n := by
  intro ad ls H locs hR hl ho hs hL hX
  refine lv_if_ge h.1 h.2.1 hd ht (fun q => ?_) (fun q => ?_)
  · exact kt (by have e1 := R32.eq ha R32.z; have e2 := R32.lt ha R32.z; have e3 := R32.lt R32.z ha; have e4 := R32.le ha R32.z; have e5 := R32.le R32.z ha; rw [R32.zero] at e1 e2 e3 e4 e5; simp only [e1, e2, e3, e4, e5, ge_iff_le, gt_iff_lt, ne_eq] at q; omega) ad ls H locs hR hl ho hs.2 hL hX
  · exact kf (by have e1 := R32.eq ha R32.z; have e2 := R32.lt ha R32.z; have e3 := R32.lt R32.z ha; have e4 := R32.le ha R32.z; have e5 := R32.le R32.z ha; rw [R32.zero] at e1 e2 e3 e4 e5; simp only [e1, e2, e3, e4, e5, ge_iff_le, gt_iff_lt, ne_eq] at q; omega) ad ls H locs hR hl ho hs.2 hL hX
theorem g_icmp_gt (h : OKB Γ cc own nL) {a b : Int} {off : Int} {tgt : Nat} (hd : decode cc pc = .ok (.if_icmp .gt off, 3)) (ht : (pc : Int) + off = (tgt : Int)) (ha : R32 a) (hb : R32 b) (kt : b < a → GG Γ tgt lo st w k n) (kf : a ≤ b → GG Γ (pc + 3) lo st w k n) : GG Γ pc lo (ai b :: ai a :: st) w k n := by
  intro ad ls H locs hR hl ho hs hL hX
  refine lv_icmp_gt h.1 h.2.1 hd ht (fun q => ?_) (fun q => ?_)
  · exact kt (by have e1 := R32.eq ha hb; have e2 := R32.lt ha hb; have e3 := R32.lt hb ha; have e4 := R32.le ha hb; have e5 := R32.le hb ha; simp only [e1, e2, e3, e4, e5, ge_iff_le, gt_iff_lt, ne_eq] at q; omega) ad ls H locs hR hl ho hs.2.2 hL hX
  · exact kf (by have e1 := R32.eq ha hb; have e2 := R32.lt ha hb; have e3 := R32.lt hb ha; have e4 := R32.le ha hb; have e5 := R32.le hb ha; simp only [e1, e2, e3, e4, e5, ge_iff_le, gt_iff_lt, ne_eq] at q; omega) ad ls H locs hR hl ho hs.2.2 hL hX
theorem g_if_gt (h : OKB Γ cc own nL) {a : Int} {off : Int} {tgt : Nat} (hd : decode cc pc = .ok (.ifCond .gt off, 3)) (ht : (pc : Int) + off = (tgt : Int)) (ha : R32 a) (kt : 0 < a → GG Γ tgt lo st w k n) (kf : a ≤ 0 → GG Γ (pc + 3) lo st w k n) : GG Γ pc lo (ai a :: st) w k n := by
  intro ad ls H locs hR hl ho hs hL hX
  refine lv_if_gt h.1 h.2.1 hd ht (fun q => ?_) (fun q => ?_)
  · exact kt (by have e1 := R32.eq ha R32.z; have e2 := R32.lt ha R32.z; have e3 := R32.lt R32.z ha; have e4 := R32.le ha R32.z; have e5 := R32.le R32.z ha; rw [R32.zero] at e1 e2 e3 e4 e5; simp only [e1, e2, e3, e4, e5, ge_iff_le, gt_iff_lt, ne_eq] at q; omega) ad ls H locs hR hl ho hs.2 hL hX
  · exact kf (by have e1 := R32.eq ha R32.z; have e2 := R32.lt ha R32.z; have e3 := R32.lt R32.z ha; have e4 := R32.le ha R32.z; have e5 := R32.le R32.z ha; rw [R32.zero] at e1 e2 e3 e4 e5; simp only [e1, e2, e3, e4, e5, ge_iff_le, gt_iff_lt, ne_eq] at q; omega) ad ls H locs hR hl ho hs.2 hL hX
theorem g_icmp_le (h : OKB Γ cc own nL) {a b : Int} {off : Int} {tgt : Nat} (hd : decode cc pc = .ok (.if_icmp .le off, 3)) (ht : (pc : Int) + off = (tgt : Int)) (ha : R32 a) (hb : R32 b) (kt : a ≤ b → GG Γ tgt lo st w k n) (kf : b < a → GG Γ (pc + 3) lo st w k n) : GG Γ pc lo (ai b :: ai a :: st) w k n := by
  intro ad ls H locs hR hl ho hs hL hX
  refine lv_icmp_le h.1 h.2.1 hd ht (fun q => ?_) (fun q => ?_)
  · exact kt (by have e1 := R32.eq ha hb; have e2 := R32.lt ha hb; have e3 := R32.lt hb ha; have e4 := R32.le ha hb; have e5 := R32.le hb ha; simp only [e1, e2, e3, e4, e5, ge_iff_le, gt_iff_lt, ne_eq] at q; omega) ad ls H locs hR hl ho hs.2.2 hL hX
  · exact kf (by have e1 := R32.eq ha hb; have e2 := R32.lt ha hb; have e3 := R32.lt hb ha; have e4 := R32.le ha hb; have e5 := R32.le hb ha; simp only [e1, e2, e3, e4, e5, ge_iff_le, gt_iff_lt, ne_eq] at q; omega) ad ls H locs hR hl ho hs.2.2 hL hX
theorem g_if_le (h : OKB Γ cc own nL) {a : Int} {off : Int} {tgt : Nat} (hd : decode cc pc = .ok (.ifCond .le off, 3)) (ht : (pc : Int) + off = (tgt : Int)) (ha : R32 a) (kt : a ≤ 0 → GG Γ tgt lo st w k n) (kf : 0 < a → GG Γ (pc + 3) lo st w k n) : GG Γ pc lo (ai a :: st) w k n := by
  intro ad ls H locs hR hl ho hs hL hX
  refine lv_if_le h.1 h.2.1 hd ht (fun q => ?_) (fun q => ?_)
  · exact kt (by have e1 := R32.eq ha R32.z; have e2 := R32.lt ha R32.z; have e3 := R32.lt R32.z ha; have e4 := R32.le ha R32.z; have e5 := R32.le R32.z ha; rw [R32.zero] at e1 e2 e3 e4 e5; simp only [e1, e2, e3, e4, e5, ge_iff_le, gt_iff_lt, ne_eq] at q; omega) ad ls H locs hR hl ho hs.2 hL hX
  · exact kf (by have e1 := R32.eq ha R32.z; have e2 := R32.lt ha R32.z; have e3 := R32.lt R32.z ha; have e4 := R32.le ha R32.z; have e5 := R32.le R32.z ha; rw [R32.zero] at e1 e2 e3 e4 e5; simp only [e1, e2, e3, e4, e5, ge_iff_le, gt_iff_lt, ne_eq] at q; omega) ad ls H locs hR hl ho hs.2 hL hX
theorem g_ifnull (h : OKB Γ cc own nL) {r : Option Nat} {off : Int} {tgt : Nat} (hd : decode cc pc = .ok (.ifnull off, 3)) (ht : (pc : Int) + off = (tgt : Int)) (kt : r = none → GG Γ tgt lo st w k n) (kf : ∀ a, r = some a → GG Γ (pc + 3) lo st w k n) : GG Γ pc lo (aq r :: st) w k n := by
  intro ad ls H locs hR hl ho hs hL hX
  cases r with
  | none => exact lv_ifnullN h.1 h.2.1 hd ht (kt rfl ad ls H locs hR hl ho hs.2 hL hX)
  | some a => exact lv_ifnull h.1 h.2.1 hd (kf a rfl ad ls H locs hR hl ho hs.2 hL hX)
theorem g_ifnonnull (h : OKB Γ cc own nL) {r : Option Nat} {off : Int} {tgt : Nat} (hd : decode cc pc = .ok (.ifnonnull off, 3)) (ht : (pc : Int) + off = (tgt : Int)) (kt : ∀ a, r = some a → GG Γ tgt lo st w k n) (kf : r = none → GG Γ (pc + 3) lo st w k n) : GG Γ pc lo (aq r :: st) w k n := by
  intro ad ls H locs hR hl ho hs hL hX
  cases r with
  | none => exact lv_ifnonnullN h.1 h.2.1 hd (kf rfl ad ls H locs hR hl ho hs.2 hL hX)
  | some a => exact lv_ifnonnull h.1 h.2.1 hd ht (kt a rfl ad ls H locs hR hl ho hs.2 hL hX)
end GROWS
