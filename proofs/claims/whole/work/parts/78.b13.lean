/-! ===== rows: longs in locals and arrays ===== -/
theorem lp_store2 {ad : Nat → Nat} {lo : List (Option AV)} {i : Nat} {z : Int} (hi : i + 1 < lo.length) (hk : stk lo i = true) : ∀ q ∈ lp ad ((lo.set i (some (aL z))).set (i + 1) none) 0, q ∈ (i, cv ad (aL z)) :: (lp ad lo 0).filter (fun q => !(q.1 == i) && (!(q.1 == i + 1) && !(q.1 + 1 == i && q.2.category == 2))) := by
  intro q hq
  obtain ⟨j, u, h1, h2⟩ := lp_of _ _ _ hq
  rw [Nat.zero_add] at h2
  subst h2
  by_cases hj1 : j = i + 1
  · subst hj1
    rw [List.getElem?_set_self (by rw [List.length_set]; exact hi)] at h1
    cases h1
  · rw [List.getElem?_set_ne (Ne.symm hj1)] at h1
    by_cases hj : j = i
    · subst hj
      rw [List.getElem?_set_self (by omega)] at h1
      cases h1
      exact List.mem_cons_self
    · rw [List.getElem?_set_ne (Ne.symm hj)] at h1
      refine List.mem_cons_of_mem _ (List.mem_filter.mpr ⟨?_, ?_⟩)
      · have := lp_get (ad := ad) lo 0 j u h1
        rwa [Nat.zero_add] at this
      · simp only [Bool.and_eq_true, Bool.not_eq_true', beq_eq_false_iff_ne, ne_eq, Bool.and_eq_false_iff]
        refine ⟨hj, hj1, ?_⟩
        by_cases hji : j + 1 = i
        · subst hji
          refine Or.inr fun hc => ?_
          have h3 := (cv_cat ad u).mp hc
          simp only [stk, List.getD_eq_getElem?_getD, h1, Option.getD_some, h3] at hk
          cases hk
        · exact Or.inl hji
section GLO
variable {Γ : Cx} {cc : ByteArray} {own : String} {nL pc k n : Nat} {lo : List (Option AV)} {st : List AV} {w : AW}
theorem g_lload_n (h : OKB Γ cc own nL) {i : Fin 4} {z : Int} (hd : decode cc pc = .ok (.lload_n i, 1)) (hl : lo[(i : Nat)]? = some (some (aL z))) (kk : GG Γ (pc + 1) lo (aL z :: st) w k n) : GG Γ pc lo st w k n :=
  fun ad ls H locs hR hl' ho hs hL hX => lv_lload_n h.1 h.2.1 hd rfl (lp_at hl' hl) (kk ad ls H locs hR hl' ho ⟨trivial, hs⟩ hL hX)
theorem g_lstore_n (h : OKB Γ cc own nL) {i : Fin 4} {z : Int} (hd : decode cc pc = .ok (.lstore_n i, 1)) (hi : (i : Nat) + 1 < lo.length) (hk : stk lo i = true) {lo' : List (Option AV)} (hlo : (lo.set (i : Nat) (some (aL z))).set ((i : Nat) + 1) none = lo') (kk : GG Γ (pc + 1) lo' st w k n) : GG Γ pc lo (aL z :: st) w k n := by
  subst hlo
  intro ad ls H locs hR hl' ho hs hL hX
  refine lv_lstore_n h.1 h.2.1 hd rfl hl' hi rfl (fun ls' hl2 => kk ad ls' H locs hR ?_ (okls_drop (okls_set ho _ hs.1) _) hs.2 hL hX)
  rw [List.length_set, List.length_set]
  exact lp_le hl2 (lp_store2 hi hk)
theorem g_lald (h : OKB Γ cc own nL) {k0 nn : Nat} {z : Int} (i : Nat) (hsh : w.1 k0 = (4, nn)) (hz : z = (i : Int)) (hi : i < nn) (hb : nn < 2147483648) (hd : decode cc pc = .ok (.laload, 1)) (kk : GG Γ (pc + 1) lo (aL (w.2.1 k0 i) :: st) w k n) : GG Γ pc lo (ai z :: ar k0 :: st) w k n := by
  subst hz
  intro ad ls H locs hR hl ho hs hL hX
  obtain ⟨-, hc⟩ := ar_of hR hsh (by omega) (by omega)
  refine W.lald (v := cv ad (aL (w.2.1 k0 i))) h.1 h.2.1 hc ((h.2.2.2.2.2.1.2 4 (by unfold arK; omega)).1 _ _) (fun q => by cases q) (ix_in hi hb _ _) ?_ rfl rfl hd (kk ad ls H locs hR hl ho ⟨trivial, hs.2.2⟩ hL hX)
  rw [(ix_nat hi hb).1, arrV_read _ _ hi]
  rfl
theorem g_last (h : OKB Γ cc own nL) {k0 nn : Nat} {z x : Int} (i : Nat) (hsh : w.1 k0 = (4, nn)) (hz : z = (i : Int)) (hi : i < nn) (hb : nn < 2147483648) (hd : decode cc pc = .ok (.lastore, 1)) (kk : GG Γ (pc + 1) lo st (upI w k0 i x) k n) : GG Γ pc lo (aL x :: ai z :: ar k0 :: st) w k n := by
  subst hz
  intro ad ls H locs hR hl ho hs hL hX
  obtain ⟨hbb, hc⟩ := ar_of hR hsh (by omega) (by omega)
  refine W.last (x := Int64.ofInt x) h.1 h.2.1 hc ((h.2.2.2.2.2.1.2 4 (by unfold arK; omega)).1 _ _) (fun q => by cases q) (ix_in hi hb _ _) rfl rfl hd fun H1 e1 e2 e3 => ?_
  rw [(ix_nat hi hb).1] at e1
  refine kk ad ls H1 _ (ar_set (w' := upI w k0 i x) hR hsh (by omega) (by omega) rfl (fun j hj => ⟨if_neg hj, rfl⟩) (fun j => ?_) (fun j => hR.2.2.2.2 k0 j (by rw [hsh]; simp)) e1 e2 e3) hl (fun i u hu => okv_mono (okr_up (w := w) (w' := upI w k0 i x) rfl) u (ho i u hu)) (okvs_mono (okr_up (w := w) (w' := upI w k0 i x) rfl) _ hs.2.2.2) (locs_app hL hbb) (fun j hj => ⟨(hX j hj).1, okr_up (w := w) (w' := upI w k0 i x) rfl j (hX j hj).2⟩)
  rw [upI_at]
  by_cases hj : j = i
  · subst hj
    simp [updV, elV, cv]
  · simp [updV, elV, cv, hj]
end GLO
