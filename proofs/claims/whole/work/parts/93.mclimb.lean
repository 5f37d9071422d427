/-! ===== M: who climbs away ===== -/
/-- in k steps one comes to c at t -/
def RC (o h : Nat → Int) (sp : Int) (frm : Nat) (st : Int) : Nat → Nat → Int → Prop
  | 0, c, t => c = frm ∧ t = st
  | k + 1, c, t => ∃ (b s : Nat) (tb : Int), b < 400 ∧ s < 4 ∧ RC o h sp frm st k b tb ∧ o b ≠ -1 ∧ tb < o b / sp ∧ bsM (b : Int) (s : Int) = (c : Int) ∧ t = tb + 2 + max 0 (h c - h b) / 10
/-- minutes that are those of ways, or none yet -/
def CG (o h : Nat → Int) (sp : Int) (frm : Nat) (st : Int) (m : Nat → Int) : Prop := m frm ≤ st ∧ ∀ c, c < 400 → 0 ≤ m c ∧ (m c = 1000000 ∨ (m c ≤ 1000 ∧ ∃ k, RC o h sp frm st k c (m c)))
/-- no step from a cell makes a minute less -/
def CC1 (o h : Nat → Int) (sp : Int) (m : Nat → Int) (c s : Nat) : Prop := m c ≠ 1000000 → o c ≠ -1 → m c < o c / sp → 0 ≤ bsM (c : Int) (s : Int) → m (bsM (c : Int) (s : Int)).toNat ≤ m c + 2 + max 0 (h (bsM (c : Int) (s : Int)).toNat - h c) / 10
def CC (o h : Nat → Int) (sp : Int) (m : Nat → Int) (n : Nat) : Prop := ∀ c s : Nat, c < n → s < 4 → CC1 o h sp m c s
def clB (o m : Nat → Int) : Nat → Int
  | 0 => 1000000
  | c + 1 => if o c = -1 then min (clB o m c) (m c) else clB o m c
/-- what a climb answers -/
def CPv (o h : Nat → Int) (sp : Int) (frm : Nat) (st v : Int) : Prop := (o frm = -1 → v = 0) ∧ (o frm ≠ -1 → ∃ m, CG o h sp frm st m ∧ CC o h sp m 400 ∧ v = if clB o m 400 = 1000000 then -2 else clB o m 400 - st)
theorem sumF_ge {m : Nat → Int} {b : Nat} {v : Int} : ∀ n, n ≤ b → sumF (uI m b v) n = sumF m n
  | 0, _ => rfl
  | n + 1, h => by
    unfold sumF
    rw [sumF_ge n (by omega), uI_ne _ _ (by omega)]
theorem sumF_up {m : Nat → Int} {b : Nat} {v : Int} : ∀ n, b < n → sumF (uI m b v) n = sumF m n - m b + v
  | 0, h => by omega
  | n + 1, h => by
    unfold sumF
    by_cases e : b = n
    · subst e
      rw [sumF_ge b (Nat.le_refl _), uI_at]
      omega
    · rw [sumF_up n (by omega), uI_ne _ _ (show n ≠ b by omega)]
      omega
theorem sumF_nn {m : Nat → Int} : ∀ n, (∀ c, c < n → 0 ≤ m c) → 0 ≤ sumF m n
  | 0, _ => Int.le_refl _
  | n + 1, h => by
    have := sumF_nn n (fun c hc => h c (by omega))
    have := h n (by omega)
    unfold sumF
    omega
theorem clB_bd {o m : Nat → Int} : ∀ n, (∀ c, c < n → 0 ≤ m c) → 0 ≤ clB o m n ∧ clB o m n ≤ 1000000
  | 0, _ => by show 0 ≤ (1000000 : Int) ∧ (1000000 : Int) ≤ 1000000; omega
  | n + 1, h => by
    have h1 := clB_bd (o := o) n (fun c hc => h c (by omega))
    have h2 := h n (by omega)
    unfold clB
    split <;> omega
theorem bsM_ne {c s : Int} (hc : 0 ≤ c ∧ c < 400) (hb : 0 ≤ bsM c s) : bsM c s ≠ c := by
  unfold bsM at hb ⊢
  split
  · omega
  · split
    · split <;> omega
    · split
      · split <;> omega
      · split <;> omega
/-- a minute is made less -/
theorem CG_up {o h : Nat → Int} {sp : Int} {frm : Nat} {st : Int} {m : Nat → Int} {c s : Nat} {v : Int} (hf : frm < 400) (hG : CG o h sp frm st m) (ho : ∀ c, c < 400 → o c ≤ 399) (hh : ∀ c, c < 400 → 0 ≤ h c ∧ h c ≤ 999) (hsp : 1 ≤ sp) (hc : c < 400) (hs : s < 4) (h1 : m c ≠ 1000000) (h2 : o c ≠ -1) (h2b : 0 ≤ o c) (h3 : m c < o c / sp) (hb : 0 ≤ bsM (c : Int) (s : Int)) (hv : v = m c + 2 + max 0 (h (bsM (c : Int) (s : Int)).toNat - h c) / 10) (hlt : v < m (bsM (c : Int) (s : Int)).toNat) : CG o h sp frm st (uI m (bsM (c : Int) (s : Int)).toNat v) := by
  have hbb := bsM_bd (c := (c : Int)) (s := (s : Int)) ⟨by omega, by omega⟩
  obtain ⟨g1, g2⟩ := hG
  obtain ⟨k, hk⟩ : ∃ k, RC o h sp frm st k c (m c) := by
    rcases (g2 c hc).2 with q | q
    · exact absurd q h1
    · exact q.2
  have hd := div_bd (a := o c) (b := sp) h2b (by omega)
  have hoc := ho c hc
  have hb1 := hh (bsM (c : Int) (s : Int)).toNat (by omega)
  have hb2 := hh c hc
  have h0 := (g2 c hc).1
  have hRC : RC o h sp frm st (k + 1) (bsM (c : Int) (s : Int)).toNat v := ⟨c, s, m c, hc, hs, hk, h2, h3, by omega, hv⟩
  generalize hB : (bsM (c : Int) (s : Int)).toNat = B at *
  refine ⟨?_, fun d hd' => ?_⟩
  · by_cases e : frm = B
    · rw [e, uI_at]
      rw [e] at g1
      omega
    · rw [uI_ne _ _ e]; exact g1
  · by_cases e : d = B
    · rw [e, uI_at]
      exact ⟨by omega, Or.inr ⟨by omega, k + 1, hRC⟩⟩
    · rw [uI_ne _ _ e]; exact g2 d hd' 
set_option maxRecDepth 100000 in
set_option maxHeartbeats 4000000 in
theorem c_X12_isInTime (l : Launch) (w : AW) (c : Nat) (hM : MS w) (hc : c < 400) (h1 : 1 ≤ w.2.1 400 70 ∧ w.2.1 400 70 ≤ 50) (h2 : 0 ≤ w.2.1 473 c ∧ w.2.1 473 c ≤ 399) (h3 : 0 ≤ w.2.1 474 c ∧ w.2.1 474 c ≤ 1000000) : HT l yX12_isInTime cX12_isInTime 2 (some .boolean) 1 0 0 w [ar 400, ai (c : Int)] (rI (if w.2.1 474 c < w.2.1 473 c / w.2.1 400 70 then 1 else 0) w) := by
  refine HT.of (by decide) (by intro v hv; simp only [List.mem_cons, List.not_mem_nil, or_false] at hv; rcases hv with rfl | rfl <;> rfl) (Nat.le_of_ble_eq_true rfl) ?_
  intro Γ h hQ hRm hnm hl hw0
  have s400 : w.1 400 = (112, 0) := hM.1 400 (by decide) (by decide)
  have s474 : w.1 474 = (1, 400) := hM.1 474 (by decide) (by decide)
  have s473 : w.1 473 = (1, 400) := hM.1 473 (by decide) (by decide)
  have p74 : w.2.2 400 74 = some 474 := hM.2 (400, 74, 474) (by decide)
  have p73 : w.2.2 400 73 = some 473 := hM.2 (400, 73, 473) (by decide)
  have hd := div_bd (a := w.2.1 473 c) (b := w.2.1 400 70) h2.1 (by omega)
  refine g_aload_n h dX12_isInTime_0 rfl ?_
  refine g_getQ h flX12_170 rfl (by assumption) (by assumption) dX12_isInTime_1 ?_
  refine g_iload_n h dX12_isInTime_4 rfl ?_
  refine g_iald h _ (by assumption) rfl (by first | omega | assumption) (by first | decide | omega) dX12_isInTime_5 ?_
  refine g_aload_n h dX12_isInTime_6 rfl ?_
  refine g_getQ h flX12_167 rfl (by assumption) (by assumption) dX12_isInTime_7 ?_
  refine g_iload_n h dX12_isInTime_10 rfl ?_
  refine g_iald h _ (by assumption) rfl (by first | omega | assumption) (by first | decide | omega) dX12_isInTime_11 ?_
  refine g_aload_n h dX12_isInTime_12 rfl ?_
  refine g_getI h flX12_522 rfl (by assumption) dX12_isInTime_13 ?_
  refine g_idiv h (by first | assumption | exact ⟨by omega, by omega⟩) (by first | assumption | exact ⟨by omega, by omega⟩) (by first | omega | assumption) (by first | omega | assumption) dX12_isInTime_16 ?_
  refine g_icmp_ge (tgt := 24) h dX12_isInTime_17 (by decide) (by first | assumption | exact ⟨by omega, by omega⟩) (by first | assumption | exact ⟨by omega, by omega⟩) (fun c17 => ?_) (fun c17 => ?_)
  · refine g_iconst h dX12_isInTime_24 ?_
    refine g_zret h hQ (by first | decide | omega | (simp only [clS]; omega)) (by first | decide | omega | (simp only [clS]; omega)) (by omega) ?_ dX12_isInTime_25
    exact ⟨by first | rw [if_pos (by omega)] | rw [if_neg (by omega)], rfl⟩
  · refine g_iconst h dX12_isInTime_20 ?_
    refine g_goto (tgt := 25) h dX12_isInTime_21 (by decide) ?_
    refine g_zret h hQ (by first | decide | omega | (simp only [clS]; omega)) (by first | decide | omega | (simp only [clS]; omega)) (by omega) ?_ dX12_isInTime_25
    exact ⟨by first | rw [if_pos (by omega)] | rw [if_neg (by omega)], rfl⟩
set_option maxRecDepth 100000 in
set_option maxHeartbeats 4000000 in
theorem c_X12_climbs (l : Launch) (w : AW) (frm : Nat) (st : Int) (hM : MS w) (hf : frm < 400) (hst : 0 ≤ st ∧ st ≤ 500) (hh : ∀ c, c < 400 → 0 ≤ w.2.1 472 c ∧ w.2.1 472 c ≤ 999) (ho : ∀ c, c < 400 → -1 ≤ w.2.1 473 c ∧ w.2.1 473 c ≤ 399) (hsp : 1 ≤ w.2.1 400 70 ∧ w.2.1 400 70 ≤ 50) : HT l yX12_climbs cX12_climbs 8 (some .int) 2 0 0 w [ar 400, ai (frm : Int), ai st] (fun r w' => ∃ (v : Int) (m : Nat → Int), r = some (ai v) ∧ CPv (w.2.1 473) (w.2.1 472) (w.2.1 400 70) frm st v ∧ w' = sR w 474 m) := by
  refine HT.of (by decide) (by intro v hv; simp only [List.mem_cons, List.not_mem_nil, or_false] at hv; rcases hv with rfl | rfl | rfl <;> rfl) (Nat.le_of_ble_eq_true rfl) ?_
  intro Γ h hQ hRm hnm hl hw0
  have s400 : w.1 400 = (112, 0) := hM.1 400 (by decide) (by decide)
  have s473 : w.1 473 = (1, 400) := hM.1 473 (by decide) (by decide)
  have s474 : w.1 474 = (1, 400) := hM.1 474 (by decide) (by decide)
  have s472 : w.1 472 = (1, 400) := hM.1 472 (by decide) (by decide)
  have p73 : w.2.2 400 73 = some 473 := hM.2 (400, 73, 473) (by decide)
  have p74 : w.2.2 400 74 = some 474 := hM.2 (400, 74, 474) (by decide)
  have p72 : w.2.2 400 72 = some 472 := hM.2 (400, 72, 472) (by decide)
  have hof := ho frm hf
  by_cases hr : w.2.1 473 frm = -1
  · skip
    refine g_aload_n h dX12_climbs_0 rfl ?_
    refine g_getQ h flX12_167 rfl (by assumption) (by assumption) dX12_climbs_1 ?_
    refine g_iload_n h dX12_climbs_4 rfl ?_
    refine g_iald h (frm) (by assumption) (by first | omega | assumption) (by first | omega | assumption) (by first | decide | omega) dX12_climbs_5 ?_
    refine g_iconst h dX12_climbs_6 ?_
    refine g_icmp_ne (tgt := 12) h dX12_climbs_7 (by decide) (by first | assumption | exact ⟨by omega, by omega⟩) (by first | assumption | exact ⟨by omega, by omega⟩) (fun c7 => ?_) (fun c7 => ?_)
    · exfalso; omega
    · refine g_iconst h dX12_climbs_10 ?_
      refine g_iret h hQ (by first | decide | omega | (simp only [clS]; omega)) (by first | decide | omega | (simp only [clS]; omega)) ?_ dX12_climbs_11
      exact ⟨0, w.2.1 474, rfl, ⟨fun _ => rfl, fun q => absurd hr q⟩, (sR_self w 474).symm⟩
  · have e473 : ∀ m : Nat → Int, (sR w 474 m).2.1 473 = w.2.1 473 := fun _ => rfl
    have e472 : ∀ m : Nat → Int, (sR w 474 m).2.1 472 = w.2.1 472 := fun _ => rfl
    have e70 : ∀ m : Nat → Int, (sR w 474 m).2.1 400 70 = w.2.1 400 70 := fun _ => rfl
    have e474 : ∀ m : Nat → Int, (sR w 474 m).2.1 474 = m := fun m => sR_at w 474 m
    have last : ∀ (m : Nat → Int), CG (w.2.1 473) (w.2.1 472) (w.2.1 400 70) frm st m → CC (w.2.1 473) (w.2.1 472) (w.2.1 400 70) m 400 → ∀ (d c : Nat) (a : Int) (x y : Option AV), c + d = 400 → GG Γ 207 [some (ar 400), some (ai (frm : Int)), some (ai st), some (ai a), some (ai (clB (w.2.1 473) m c)), some (ai (c : Int)), x, y] [] (sR w 474 m) 0 0 := by
      intro m hG hCC d
      induction d with
      | zero =>
        intro c a x y hc
        obtain rfl : c = 400 := by omega
        have hcb := clB_bd (o := w.2.1 473) (m := m) 400 (fun c hc => (hG.2 c hc).1)
        refine g_iload h dX12_climbs_207 rfl ?_
        refine g_sipush h dX12_climbs_209 rfl ?_
        refine g_icmp_ge (tgt := 251) h dX12_climbs_212 (by decide) (by first | assumption | exact ⟨by omega, by omega⟩) (by first | assumption | exact ⟨by omega, by omega⟩) (fun c212 => ?_) (fun c212 => ?_)
        · refine g_iload h dX12_climbs_251 rfl ?_
          refine g_ldcw h kcX12_301 dX12_climbs_253 ?_
          refine g_icmp_ne (tgt := 264) h dX12_climbs_256 (by decide) (by first | assumption | exact ⟨by omega, by omega⟩) (by first | assumption | exact ⟨by omega, by omega⟩) (fun c256 => ?_) (fun c256 => ?_)
          · refine g_iload h dX12_climbs_264 rfl ?_
            refine g_iload_n h dX12_climbs_266 rfl ?_
            refine g_isub h dX12_climbs_267 ?_
            refine g_iret h hQ (by first | decide | omega | (simp only [clS]; omega)) (by first | decide | omega | (simp only [clS]; omega)) ?_ dX12_climbs_268
            refine ⟨_, m, rfl, ⟨fun q => absurd q hr, fun _ => ⟨m, hG, hCC, ?_⟩⟩, rfl⟩
            first | rw [if_pos (by omega)] | rw [if_neg (by omega)]
          · refine g_bipush h dX12_climbs_259 rfl ?_
            refine g_goto (tgt := 268) h dX12_climbs_261 (by decide) ?_
            refine g_iret h hQ (by first | decide | omega | (simp only [clS]; omega)) (by first | decide | omega | (simp only [clS]; omega)) ?_ dX12_climbs_268
            refine ⟨_, m, rfl, ⟨fun q => absurd q hr, fun _ => ⟨m, hG, hCC, ?_⟩⟩, rfl⟩
            first | rw [if_pos (by omega)] | rw [if_neg (by omega)]
        · exfalso; omega
      | succ d ih =>
        intro c a x y hc
        have hcb := clB_bd (o := w.2.1 473) (m := m) c (fun c hc => (hG.2 c (by omega)).1)
        have hoc := ho c (by omega)
        have hmc := hG.2 c (by omega)
        have ih2 := fun x y => ih (c + 1) a x y (by omega)
        have hst : clB (w.2.1 473) m (c + 1) = if w.2.1 473 c = -1 then min (clB (w.2.1 473) m c) (m c) else clB (w.2.1 473) m c := rfl
        rw [hst] at ih2
        refine g_iload h dX12_climbs_207 rfl ?_
        refine g_sipush h dX12_climbs_209 rfl ?_
        refine g_icmp_ge (tgt := 251) h dX12_climbs_212 (by decide) (by first | assumption | exact ⟨by omega, by omega⟩) (by first | assumption | exact ⟨by omega, by omega⟩) (fun c212 => ?_) (fun c212 => ?_)
        · exfalso; omega
        · refine g_aload_n h dX12_climbs_215 rfl ?_
          refine g_getQ h flX12_167 rfl (by assumption) (by assumption) dX12_climbs_216 ?_
          refine g_iload h dX12_climbs_219 rfl ?_
          refine g_iald h _ (by assumption) rfl (by first | omega | assumption) (by first | decide | omega) dX12_climbs_221 ?_
          rw [e473]
          refine g_iconst h dX12_climbs_222 ?_
          refine g_icmp_ne (tgt := 241) h dX12_climbs_223 (by decide) (by first | assumption | exact ⟨by omega, by omega⟩) (by first | assumption | exact ⟨by omega, by omega⟩) (fun c223 => ?_) (fun c223 => ?_)
          · refine g_iload h dX12_climbs_241 rfl ?_
            refine g_istore h dX12_climbs_243 (Nat.le_of_ble_eq_true rfl) rfl rfl ?_
            refine g_iinc h dX12_climbs_245 rfl (Nat.le_of_ble_eq_true rfl) rfl rfl ?_
            refine g_goto (tgt := 207) h dX12_climbs_248 (by decide) ?_
            first
            | (rw [if_pos (by omega)] at ih2; exact ih2 x y)
            | (rw [if_neg (by omega)] at ih2; exact ih2 x y)
          · refine g_iload h dX12_climbs_226 rfl ?_
            refine g_aload_n h dX12_climbs_228 rfl ?_
            refine g_getQ h flX12_170 rfl (by assumption) (by assumption) dX12_climbs_229 ?_
            refine g_iload h dX12_climbs_232 rfl ?_
            refine g_iald h _ (by assumption) rfl (by first | omega | assumption) (by first | decide | omega) dX12_climbs_234 ?_
            rw [e474]
            refine g_min h rfl mminX12_501 (by first | assumption | exact ⟨by omega, by omega⟩) (by first | assumption | exact ⟨by omega, by omega⟩) (by rw [hRm]; first | decide | (simp only [clS]; omega)) (by rw [hRm]; first | decide | (simp only [clS]; omega)) (fun _ => Nat.le_of_ble_eq_true rfl) (by rw [hRm]; first | decide | (simp only [clS]; omega)) (by rw [hRm]; first | decide | (simp only [clS]; omega)) dX12_climbs_235 ?_
            refine g_goto (tgt := 243) h dX12_climbs_238 (by decide) ?_
            refine g_istore h dX12_climbs_243 (Nat.le_of_ble_eq_true rfl) rfl rfl ?_
            refine g_iinc h dX12_climbs_245 rfl (Nat.le_of_ble_eq_true rfl) rfl rfl ?_
            refine g_goto (tgt := 207) h dX12_climbs_248 (by decide) ?_
            first
            | (rw [if_pos (by omega)] at ih2; exact ih2 x y)
            | (rw [if_neg (by omega)] at ih2; exact ih2 x y)
    have outer : ∀ (N : Nat) (m : Nat → Int) (a b x y : Option AV), (sumF m 400).toNat < N → CG (w.2.1 473) (w.2.1 472) (w.2.1 400 70) frm st m → GG Γ 45 [some (ar 400), some (ai (frm : Int)), some (ai st), some (ai 1), a, b, x, y] [] (sR w 474 m) 0 0 := by
      intro N
      induction N with
      | zero => intro m a b x y h0; omega
      | succ N ihN =>
        intro m0 a0 b0 x0 y0 hN hG0
        have hs0 := sumF_nn (m := m0) 400 (fun c hc => (hG0.2 c hc).1)
        -- behind the last cell, or on to the next one
        have sweep : ∀ (d c : Nat) (m : Nat → Int) (more : Int) (a b x : Option AV), c + d = 400 → CG (w.2.1 473) (w.2.1 472) (w.2.1 400 70) frm st m → ((more = 0 ∧ CC (w.2.1 473) (w.2.1 472) (w.2.1 400 70) m c) ∨ (more = 1 ∧ sumF m 400 < sumF m0 400)) → sumF m 400 ≤ sumF m0 400 → GG Γ 54 [some (ar 400), some (ai (frm : Int)), some (ai st), some (ai more), some (ai (c : Int)), a, b, x] [] (sR w 474 m) 0 0 := by
          intro d
          induction d with
          | zero =>
            intro c m more a b x hc hG hmo hsm
            obtain rfl : c = 400 := by omega
            have hnn := sumF_nn (m := m) 400 (fun c hc => (hG.2 c hc).1)
            rcases hmo with ⟨rfl, hCC⟩ | ⟨rfl, hlt⟩
            · skip
              refine g_iload h dX12_climbs_54 rfl ?_
              refine g_sipush h dX12_climbs_56 rfl ?_
              refine g_icmp_ge (tgt := 196) h dX12_climbs_59 (by decide) (by first | assumption | exact ⟨by omega, by omega⟩) (by first | assumption | exact ⟨by omega, by omega⟩) (fun c59 => ?_) (fun c59 => ?_)
              · refine g_goto (tgt := 45) h dX12_climbs_196 (by decide) ?_
                refine g_iload_n h dX12_climbs_45 rfl ?_
                refine g_if_eq (tgt := 199) h dX12_climbs_46 (by decide) (by first | assumption | exact ⟨by omega, by omega⟩) (fun c46 => ?_) (fun c46 => ?_)
                · refine g_ldcw h kcX12_301 dX12_climbs_199 ?_
                  refine g_istore h dX12_climbs_202 (Nat.le_of_ble_eq_true rfl) rfl rfl ?_
                  refine g_iconst h dX12_climbs_204 ?_
                  refine g_istore h dX12_climbs_205 (Nat.le_of_ble_eq_true rfl) rfl rfl ?_
                  exact last m hG hCC 400 0 _ _ _ (by omega)
                · exfalso; omega
              · exfalso; omega
            · skip
              refine g_iload h dX12_climbs_54 rfl ?_
              refine g_sipush h dX12_climbs_56 rfl ?_
              refine g_icmp_ge (tgt := 196) h dX12_climbs_59 (by decide) (by first | assumption | exact ⟨by omega, by omega⟩) (by first | assumption | exact ⟨by omega, by omega⟩) (fun c59 => ?_) (fun c59 => ?_)
              · refine g_goto (tgt := 45) h dX12_climbs_196 (by decide) ?_
                exact ihN m _ _ _ _ (by omega) hG
              · exfalso; omega
          | succ d ih =>
            intro c m more a b x hc hG hmo hsm
            have hoc := ho c (by omega)
            have hmc := hG.2 c (by omega)
            have hhc := hh c (by omega)
            have hmR : more = 0 ∨ more = 1 := by rcases hmo with q | q; exact Or.inl q.1; exact Or.inr q.1
            have nextc : ∀ (m' : Nat → Int) (more' : Int) (a b x : Option AV), CG (w.2.1 473) (w.2.1 472) (w.2.1 400 70) frm st m' → ((more' = 0 ∧ CC (w.2.1 473) (w.2.1 472) (w.2.1 400 70) m' (c + 1)) ∨ (more' = 1 ∧ sumF m' 400 < sumF m0 400)) → sumF m' 400 ≤ sumF m0 400 → GG Γ 54 [some (ar 400), some (ai (frm : Int)), some (ai st), some (ai more'), some (ai ((c : Int) + 1)), a, b, x] [] (sR w 474 m') 0 0 := fun m' more' a b x g1 g2 g3 => ih (c + 1) m' more' a b x (by omega) g1 g2 g3
            have skipc : (m c = 1000000 ∨ w.2.1 473 c = -1 ∨ ¬ m c < w.2.1 473 c / w.2.1 400 70) → (more = 0 ∧ CC (w.2.1 473) (w.2.1 472) (w.2.1 400 70) m (c + 1)) ∨ (more = 1 ∧ sumF m 400 < sumF m0 400) := by
              intro q
              rcases hmo with ⟨e, hCC⟩ | e
              · refine Or.inl ⟨e, fun c' s hc' hs => ?_⟩
                by_cases ec : c' = c
                · subst ec
                  intro a1 a2 a3
                  rcases q with q | q | q
                  · exact absurd q a1
                  · exact absurd q a2
                  · exact absurd a3 q
                · exact hCC c' s (by omega) hs
              · exact Or.inr e
            have sides : m c ≠ 1000000 → w.2.1 473 c ≠ -1 → m c < w.2.1 473 c / w.2.1 400 70 → ∀ (e s : Nat) (m' : Nat → Int) (more' : Int) (x y : Option AV), s + e = 4 → CG (w.2.1 473) (w.2.1 472) (w.2.1 400 70) frm st m' → m' c = m c → ((more' = 0 ∧ CC (w.2.1 473) (w.2.1 472) (w.2.1 400 70) m' c ∧ ∀ s', s' < s → CC1 (w.2.1 473) (w.2.1 472) (w.2.1 400 70) m' c s') ∨ (more' = 1 ∧ sumF m' 400 < sumF m0 400)) → sumF m' 400 ≤ sumF m0 400 → GG Γ 101 [some (ar 400), some (ai (frm : Int)), some (ai st), some (ai more'), some (ai (c : Int)), some (ai (s : Int)), x, y] [] (sR w 474 m') 0 0 := by
              intro a1 a2 a3 e
              induction e with
              | zero =>
                intro s m' more' x y hs hG' emc hmo' hsm'
                obtain rfl : s = 4 := by omega
                refine g_iload h dX12_climbs_101 rfl ?_
                refine g_iconst h dX12_climbs_103 ?_
                refine g_icmp_ge (tgt := 190) h dX12_climbs_104 (by decide) (by first | assumption | exact ⟨by omega, by omega⟩) (by first | assumption | exact ⟨by omega, by omega⟩) (fun c104 => ?_) (fun c104 => ?_)
                · refine g_iinc h dX12_climbs_190 rfl (Nat.le_of_ble_eq_true rfl) rfl rfl ?_
                  refine g_goto (tgt := 54) h dX12_climbs_193 (by decide) ?_
                  refine nextc m' more' _ _ _ hG' ?_ hsm'
                  rcases hmo' with ⟨q1, q2, q3⟩ | q
                  · refine Or.inl ⟨q1, fun c' s hc' hs' => ?_⟩
                    by_cases ec : c' = c
                    · subst ec; exact q3 s hs'
                    · exact q2 c' s (by omega) hs'
                  · exact Or.inr q
                · exfalso; omega
              | succ e ihe =>
                intro s m' more' x y hs hG' emc hmo' hsm'
                have hbb := bsM_bd (c := (c : Int)) (s := (s : Int)) ⟨by omega, by omega⟩
                have hmR' : more' = 0 ∨ more' = 1 := by rcases hmo' with q | q; exact Or.inl q.1; exact Or.inr q.1
                have hmb := fun (q : 0 ≤ bsM (c : Int) (s : Int)) => hG'.2 (bsM (c : Int) (s : Int)).toNat (by omega)
                have hhb := fun (q : 0 ≤ bsM (c : Int) (s : Int)) => hh (bsM (c : Int) (s : Int)).toNat (by omega)
                have hmc' := hG'.2 c (by omega)
                have keep : (0 ≤ bsM (c : Int) (s : Int) → m' (bsM (c : Int) (s : Int)).toNat ≤ m' c + 2 + max 0 (w.2.1 472 (bsM (c : Int) (s : Int)).toNat - w.2.1 472 c) / 10) → ((more' = 0 ∧ CC (w.2.1 473) (w.2.1 472) (w.2.1 400 70) m' c ∧ ∀ s', s' < s + 1 → CC1 (w.2.1 473) (w.2.1 472) (w.2.1 400 70) m' c s') ∨ (more' = 1 ∧ sumF m' 400 < sumF m0 400)) := by
                  intro q
                  rcases hmo' with ⟨q1, q2, q3⟩ | q'
                  · refine Or.inl ⟨q1, q2, fun s' hs' => ?_⟩
                    by_cases es : s' = s
                    · subst es; exact fun _ _ _ h4 => q h4
                    · exact q3 s' (by omega)
                  · exact Or.inr q'
                have less : ∀ v : Int, 0 ≤ bsM (c : Int) (s : Int) → v = m' c + 2 + max 0 (w.2.1 472 (bsM (c : Int) (s : Int)).toNat - w.2.1 472 c) / 10 → v < m' (bsM (c : Int) (s : Int)).toNat → ∀ x y, GG Γ 101 [some (ar 400), some (ai (frm : Int)), some (ai st), some (ai 1), some (ai (c : Int)), some (ai ((s : Int) + 1)), x, y] [] (sR w 474 (uI m' (bsM (c : Int) (s : Int)).toNat v)) 0 0 := by
                  intro v q1 q2 q3 x y
                  have hne := bsM_ne (c := (c : Int)) (s := (s : Int)) ⟨by omega, by omega⟩ q1
                  have hup := sumF_up (m := m') (v := v) 400 (show (bsM (c : Int) (s : Int)).toNat < 400 by omega)
                  exact ihe (s + 1) _ 1 x y (by omega) (CG_up hf hG' (fun c hc => (ho c hc).2) hh hsp.1 (by omega) (by omega) (by rw [emc]; exact a1) a2 (by omega) (by rw [emc]; exact a3) q1 q2 q3) (by rw [uI_ne _ _ (by omega)]; exact emc) (Or.inr ⟨rfl, by omega⟩) (by omega)
                refine g_iload h dX12_climbs_101 rfl ?_
                refine g_iconst h dX12_climbs_103 ?_
                refine g_icmp_ge (tgt := 190) h dX12_climbs_104 (by decide) (by first | assumption | exact ⟨by omega, by omega⟩) (by first | assumption | exact ⟨by omega, by omega⟩) (fun c104 => ?_) (fun c104 => ?_)
                · exfalso; omega
                · refine g_iload h dX12_climbs_107 rfl ?_
                  refine g_iload h dX12_climbs_109 rfl ?_
                  refine g_callS h rfl [_, _] (c_X12_beside _ _ _ _ ⟨by omega, by omega⟩ ⟨by omega, by omega⟩) clX12_515 st_X12_beside rfl rfl (by rw [hRm]; first | decide | (simp only [clS]; omega)) (by rw [hRm]; first | decide | (simp only [clS]; omega)) (fun _ => Nat.le_of_ble_eq_true rfl) (by rw [hRm]; first | decide | (simp only [clS]; omega)) (by rw [hRm]; first | decide | (simp only [clS]; omega)) dX12_climbs_111 (fun r111 w111 hp111 => ?_)
                  obtain ⟨rfl, hw111⟩ := hp111
                  rw [hw111]
                  refine g_istore h dX12_climbs_114 (Nat.le_of_ble_eq_true rfl) rfl rfl ?_
                  refine g_iload h dX12_climbs_116 rfl ?_
                  refine g_if_ge (tgt := 124) h dX12_climbs_118 (by decide) (by first | assumption | exact ⟨by omega, by omega⟩) (fun c118 => ?_) (fun c118 => ?_)
                  · have hmb2 := hmb (by omega)
                    have hhb2 := hhb (by omega)
                    refine g_aload_n h dX12_climbs_124 rfl ?_
                    refine g_getQ h flX12_170 rfl (by assumption) (by assumption) dX12_climbs_125 ?_
                    refine g_iload h dX12_climbs_128 rfl ?_
                    refine g_iald h (c) (by assumption) (by first | omega | assumption) (by first | omega | assumption) (by first | decide | omega) dX12_climbs_130 ?_
                    rw [e474]
                    refine g_iconst h dX12_climbs_131 ?_
                    refine g_iadd h dX12_climbs_132 ?_
                    refine g_iconst h dX12_climbs_133 ?_
                    refine g_aload_n h dX12_climbs_134 rfl ?_
                    refine g_getQ h flX12_164 rfl (by assumption) (by assumption) dX12_climbs_135 ?_
                    refine g_iload h dX12_climbs_138 rfl ?_
                    refine g_iald h ((bsM (c : Int) (s : Int)).toNat) (by assumption) (by first | omega | assumption) (by first | omega | assumption) (by first | decide | omega) dX12_climbs_140 ?_
                    rw [e472]
                    refine g_aload_n h dX12_climbs_141 rfl ?_
                    refine g_getQ h flX12_164 rfl (by assumption) (by assumption) dX12_climbs_142 ?_
                    refine g_iload h dX12_climbs_145 rfl ?_
                    refine g_iald h (c) (by assumption) (by first | omega | assumption) (by first | omega | assumption) (by first | decide | omega) dX12_climbs_147 ?_
                    rw [e472]
                    refine g_isub h dX12_climbs_148 ?_
                    refine g_max h rfl mmaxX12_186 (by first | assumption | exact ⟨by omega, by omega⟩) (by first | assumption | exact ⟨by omega, by omega⟩) (by rw [hRm]; first | decide | (simp only [clS]; omega)) (by rw [hRm]; first | decide | (simp only [clS]; omega)) (fun _ => Nat.le_of_ble_eq_true rfl) (by rw [hRm]; first | decide | (simp only [clS]; omega)) (by rw [hRm]; first | decide | (simp only [clS]; omega)) dX12_climbs_149 ?_
                    have hmx : 0 ≤ max 0 (w.2.1 472 (bsM (c : Int) (s : Int)).toNat - w.2.1 472 c) ∧ max 0 (w.2.1 472 (bsM (c : Int) (s : Int)).toNat - w.2.1 472 c) ≤ 999 := ⟨by omega, by omega⟩
                    refine g_bipush h dX12_climbs_152 rfl ?_
                    refine g_idiv h (by first | assumption | exact ⟨by omega, by omega⟩) (by first | assumption | exact ⟨by omega, by omega⟩) (by first | omega | assumption) (by first | omega | assumption) dX12_climbs_154 ?_
                    have hdv := div_bd hmx.1 (show (0 : Int) < 10 by decide)
                    refine g_iadd h dX12_climbs_155 ?_
                    refine g_istore h dX12_climbs_156 (Nat.le_of_ble_eq_true rfl) rfl rfl ?_
                    refine g_iload h dX12_climbs_158 rfl ?_
                    refine g_aload_n h dX12_climbs_160 rfl ?_
                    refine g_getQ h flX12_170 rfl (by assumption) (by assumption) dX12_climbs_161 ?_
                    refine g_iload h dX12_climbs_164 rfl ?_
                    refine g_iald h ((bsM (c : Int) (s : Int)).toNat) (by assumption) (by first | omega | assumption) (by first | omega | assumption) (by first | decide | omega) dX12_climbs_166 ?_
                    rw [e474]
                    refine g_icmp_lt (tgt := 173) h dX12_climbs_167 (by decide) (by first | assumption | exact ⟨by omega, by omega⟩) (by first | assumption | exact ⟨by omega, by omega⟩) (fun c167 => ?_) (fun c167 => ?_)
                    · refine g_aload_n h dX12_climbs_173 rfl ?_
                      refine g_getQ h flX12_170 rfl (by assumption) (by assumption) dX12_climbs_174 ?_
                      refine g_iload h dX12_climbs_177 rfl ?_
                      refine g_iload h dX12_climbs_179 rfl ?_
                      refine g_iast h ((bsM (c : Int) (s : Int)).toNat) (by assumption) (by first | omega | assumption) (by first | omega | assumption) (by first | decide | omega) dX12_climbs_181 ?_
                      refine g_iconst h dX12_climbs_182 ?_
                      refine g_istore_n h dX12_climbs_183 (Nat.le_of_ble_eq_true rfl) rfl rfl ?_
                      refine g_iinc h dX12_climbs_184 rfl (Nat.le_of_ble_eq_true rfl) rfl rfl ?_
                      refine g_goto (tgt := 101) h dX12_climbs_187 (by decide) ?_
                      first
                      | (exact ihe (s + 1) m' more' _ _ (by omega) hG' emc (keep (fun q => by omega)) hsm')
                      | (have h4 := less _ (by omega) rfl (by assumption) (some (ai (bsM (c : Int) (s : Int)))) (some (ai (m' c + 2 + max 0 (w.2.1 472 (bsM (c : Int) (s : Int)).toNat - w.2.1 472 c) / 10)))
                         refine g_eq rfl rfl ?_ h4
                         rw [upI_sR, sR_sR, sR_at])
                    · refine g_goto (tgt := 184) h dX12_climbs_170 (by decide) ?_
                      refine g_iinc h dX12_climbs_184 rfl (Nat.le_of_ble_eq_true rfl) rfl rfl ?_
                      refine g_goto (tgt := 101) h dX12_climbs_187 (by decide) ?_
                      first
                      | (exact ihe (s + 1) m' more' _ _ (by omega) hG' emc (keep (fun q => by omega)) hsm')
                      | (have h4 := less _ (by omega) rfl (by assumption) (some (ai (bsM (c : Int) (s : Int)))) (some (ai (m' c + 2 + max 0 (w.2.1 472 (bsM (c : Int) (s : Int)).toNat - w.2.1 472 c) / 10)))
                         refine g_eq rfl rfl ?_ h4
                         rw [upI_sR, sR_sR, sR_at])
                  · refine g_goto (tgt := 184) h dX12_climbs_121 (by decide) ?_
                    refine g_iinc h dX12_climbs_184 rfl (Nat.le_of_ble_eq_true rfl) rfl rfl ?_
                    refine g_goto (tgt := 101) h dX12_climbs_187 (by decide) ?_
                    first
                    | (exact ihe (s + 1) m' more' _ _ (by omega) hG' emc (keep (fun q => by omega)) hsm')
                    | (have h4 := less _ (by omega) rfl (by assumption) (some (ai (bsM (c : Int) (s : Int)))) (some (ai (m' c + 2 + max 0 (w.2.1 472 (bsM (c : Int) (s : Int)).toNat - w.2.1 472 c) / 10)))
                       refine g_eq rfl rfl ?_ h4
                       rw [upI_sR, sR_sR, sR_at])
            refine g_iload h dX12_climbs_54 rfl ?_
            refine g_sipush h dX12_climbs_56 rfl ?_
            refine g_icmp_ge (tgt := 196) h dX12_climbs_59 (by decide) (by first | assumption | exact ⟨by omega, by omega⟩) (by first | assumption | exact ⟨by omega, by omega⟩) (fun c59 => ?_) (fun c59 => ?_)
            · refine g_goto (tgt := 45) h dX12_climbs_196 (by decide) ?_
              exfalso; omega
            · refine g_aload_n h dX12_climbs_62 rfl ?_
              refine g_getQ h flX12_170 rfl (by assumption) (by assumption) dX12_climbs_63 ?_
              refine g_iload h dX12_climbs_66 rfl ?_
              refine g_iald h (c) (by assumption) (by first | omega | assumption) (by first | omega | assumption) (by first | decide | omega) dX12_climbs_68 ?_
              rw [e474]
              refine g_ldcw h kcX12_301 dX12_climbs_69 ?_
              refine g_icmp_eq (tgt := 190) h dX12_climbs_72 (by decide) (by first | assumption | exact ⟨by omega, by omega⟩) (by first | assumption | exact ⟨by omega, by omega⟩) (fun c72 => ?_) (fun c72 => ?_)
              · refine g_iinc h dX12_climbs_190 rfl (Nat.le_of_ble_eq_true rfl) rfl rfl ?_
                refine g_goto (tgt := 54) h dX12_climbs_193 (by decide) ?_
                exact nextc m more _ _ _ hG (skipc (by omega)) hsm
              · refine g_aload_n h dX12_climbs_75 rfl ?_
                refine g_getQ h flX12_167 rfl (by assumption) (by assumption) dX12_climbs_76 ?_
                refine g_iload h dX12_climbs_79 rfl ?_
                refine g_iald h (c) (by assumption) (by first | omega | assumption) (by first | omega | assumption) (by first | decide | omega) dX12_climbs_81 ?_
                rw [e473]
                refine g_iconst h dX12_climbs_82 ?_
                refine g_icmp_eq (tgt := 190) h dX12_climbs_83 (by decide) (by first | assumption | exact ⟨by omega, by omega⟩) (by first | assumption | exact ⟨by omega, by omega⟩) (fun c83 => ?_) (fun c83 => ?_)
                · refine g_iinc h dX12_climbs_190 rfl (Nat.le_of_ble_eq_true rfl) rfl rfl ?_
                  refine g_goto (tgt := 54) h dX12_climbs_193 (by decide) ?_
                  exact nextc m more _ _ _ hG (skipc (by omega)) hsm
                · refine g_aload_n h dX12_climbs_86 rfl ?_
                  refine g_iload h dX12_climbs_87 rfl ?_
                  refine g_callV h rfl (ci := 12) [_] (by assumption) (c_X12_isInTime _ _ c (MS_of rfl rfl hM) (by omega) hsp ⟨by show 0 ≤ w.2.1 473 c; omega, hoc.2⟩ (by rw [e474]; exact ⟨hmc.1, by omega⟩)) clX12_531 (by decide) rfl in_X12_isInTime se_X12_isInTime rfl rfl (by rw [hRm]; first | decide | (simp only [clS]; omega)) (by rw [hRm]; first | decide | (simp only [clS]; omega)) (fun _ => Nat.le_of_ble_eq_true rfl) (by rw [hRm]; first | decide | (simp only [clS]; omega)) (by rw [hRm]; first | decide | (simp only [clS]; omega)) dX12_climbs_89 (fun r89 w89 hp89 => ?_)
                  obtain ⟨rfl, hw89⟩ := hp89
                  rw [hw89]
                  rw [e474]
                  change GG Γ _ _ [ai (if m c < w.2.1 473 c / w.2.1 400 70 then 1 else 0)] _ _ _
                  have hbw89 := ite01 (m c < w.2.1 473 c / w.2.1 400 70)
                  refine g_if_ne (tgt := 98) h dX12_climbs_92 (by decide) (by first | assumption | exact ⟨by omega, by omega⟩) (fun c92 => ?_) (fun c92 => ?_)
                  · refine g_iconst h dX12_climbs_98 ?_
                    refine g_istore h dX12_climbs_99 (Nat.le_of_ble_eq_true rfl) rfl rfl ?_
                    exact sides (by omega) (by omega) (by omega) 4 0 m more _ _ (by omega) hG rfl (by rcases hmo with q | q; exact Or.inl ⟨q.1, q.2, fun s' h => by omega⟩; exact Or.inr q) hsm
                  · refine g_goto (tgt := 190) h dX12_climbs_95 (by decide) ?_
                    refine g_iinc h dX12_climbs_190 rfl (Nat.le_of_ble_eq_true rfl) rfl rfl ?_
                    refine g_goto (tgt := 54) h dX12_climbs_193 (by decide) ?_
                    exact nextc m more _ _ _ hG (skipc (by omega)) hsm
        refine g_iload_n h dX12_climbs_45 rfl ?_
        refine g_if_eq (tgt := 199) h dX12_climbs_46 (by decide) (by first | assumption | exact ⟨by omega, by omega⟩) (fun c46 => ?_) (fun c46 => ?_)
        · exfalso; omega
        · refine g_iconst h dX12_climbs_49 ?_
          refine g_istore_n h dX12_climbs_50 (Nat.le_of_ble_eq_true rfl) rfl rfl ?_
          refine g_iconst h dX12_climbs_51 ?_
          refine g_istore h dX12_climbs_52 (Nat.le_of_ble_eq_true rfl) rfl rfl ?_
          exact sweep 400 0 m0 0 _ _ _ (by omega) hG0 (Or.inl ⟨rfl, fun c s hc => by omega⟩) (Int.le_refl _)
    have fill : ∀ (d c : Nat), c + d = 400 → GG Γ 14 [some (ar 400), some (ai (frm : Int)), some (ai st), some (ai (c : Int)), none, none, none, none] [] (fillW w 474 c 1000000) 0 0 := by
      intro d
      induction d with
      | zero =>
        intro c hc
        obtain rfl : c = 400 := by omega
        have hG : CG (w.2.1 473) (w.2.1 472) (w.2.1 400 70) frm st (uI (cpR (w.2.1 474) (fun _ => 1000000) 400) frm st) := by
          refine ⟨by rw [uI_at]; exact Int.le_refl _, fun c hc => ?_⟩
          by_cases e : c = frm
          · subst e
            rw [uI_at]
            exact ⟨hst.1, Or.inr ⟨by omega, 0, rfl, rfl⟩⟩
          · rw [uI_ne _ _ e, show cpR (w.2.1 474) (fun _ => 1000000) 400 c = 1000000 from if_pos hc]
            exact ⟨by decide, Or.inl rfl⟩
        refine g_iload_n h dX12_climbs_14 rfl ?_
        refine g_sipush h dX12_climbs_15 rfl ?_
        refine g_icmp_ge (tgt := 36) h dX12_climbs_18 (by decide) (by first | assumption | exact ⟨by omega, by omega⟩) (by first | assumption | exact ⟨by omega, by omega⟩) (fun c18 => ?_) (fun c18 => ?_)
        · refine g_aload_n h dX12_climbs_36 rfl ?_
          refine g_getQ h flX12_170 rfl (by assumption) (by assumption) dX12_climbs_37 ?_
          refine g_iload_n h dX12_climbs_40 rfl ?_
          refine g_iload_n h dX12_climbs_41 rfl ?_
          refine g_iast h (frm) (by assumption) (by first | omega | assumption) (by first | omega | assumption) (by first | decide | omega) dX12_climbs_42 ?_
          refine g_iconst h dX12_climbs_43 ?_
          refine g_istore_n h dX12_climbs_44 (Nat.le_of_ble_eq_true rfl) rfl rfl ?_
          refine g_eq rfl rfl ?_ (outer _ _ none none none none (Nat.lt_succ_self _) hG)
          unfold fillW
          rw [upI_sR, sR_sR, sR_at]
        · exfalso; omega
      | succ d ih =>
        intro c hc
        have ih2 := ih (c + 1) (by omega)
        rw [fillW_s] at ih2
        refine g_iload_n h dX12_climbs_14 rfl ?_
        refine g_sipush h dX12_climbs_15 rfl ?_
        refine g_icmp_ge (tgt := 36) h dX12_climbs_18 (by decide) (by first | assumption | exact ⟨by omega, by omega⟩) (by first | assumption | exact ⟨by omega, by omega⟩) (fun c18 => ?_) (fun c18 => ?_)
        · exfalso; omega
        · refine g_aload_n h dX12_climbs_21 rfl ?_
          refine g_getQ h flX12_170 rfl (by assumption) (by assumption) dX12_climbs_22 ?_
          refine g_iload_n h dX12_climbs_25 rfl ?_
          refine g_ldcw h kcX12_301 dX12_climbs_26 ?_
          refine g_iast h _ (by assumption) rfl (by first | omega | assumption) (by first | decide | omega) dX12_climbs_29 ?_
          refine g_iinc h dX12_climbs_30 rfl (Nat.le_of_ble_eq_true rfl) rfl rfl ?_
          refine g_goto (tgt := 14) h dX12_climbs_33 (by decide) ?_
          exact ih2
    refine g_aload_n h dX12_climbs_0 rfl ?_
    refine g_getQ h flX12_167 rfl (by assumption) (by assumption) dX12_climbs_1 ?_
    refine g_iload_n h dX12_climbs_4 rfl ?_
    refine g_iald h (frm) (by assumption) (by first | omega | assumption) (by first | omega | assumption) (by first | decide | omega) dX12_climbs_5 ?_
    refine g_iconst h dX12_climbs_6 ?_
    refine g_icmp_ne (tgt := 12) h dX12_climbs_7 (by decide) (by first | assumption | exact ⟨by omega, by omega⟩) (by first | assumption | exact ⟨by omega, by omega⟩) (fun c7 => ?_) (fun c7 => ?_)
    · refine g_iconst h dX12_climbs_12 ?_
      refine g_istore_n h dX12_climbs_13 (Nat.le_of_ble_eq_true rfl) rfl rfl ?_
      have h4 := fill 400 0 (by omega)
      rw [fillW_0] at h4
      exact h4
    · exfalso; omega
