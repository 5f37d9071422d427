/-! ===== the law: its loop ===== -/
theorem and63 (x : Int32) : ∃ v : Int, Int32.ofInt x.toInt &&& Int32.ofInt 63 = Int32.ofInt v ∧ 0 ≤ v ∧ v ≤ 63 := by
  rw [i32_ofInt]
  refine ⟨(((x &&& Int32.ofInt 63).toBitVec.toNat : Nat) : Int), ?_, by omega, ?_⟩
  · rw [Int32.ofInt_eq_ofNat]
    apply Int32.toBitVec_inj.mp
    apply BitVec.eq_of_toNat_eq
    show _ = (BitVec.ofNat 32 _).toNat
    rw [BitVec.toNat_ofNat]
    exact (Nat.mod_eq_of_lt (BitVec.isLt _)).symm
  · have e : (x &&& Int32.ofInt 63).toBitVec.toNat = x.toBitVec.toNat &&& 63 := by
      show (x.toBitVec &&& (Int32.ofInt 63).toBitVec).toNat = _
      rw [BitVec.toNat_and]
      rfl
    have h2 := Nat.and_le_right (n := x.toBitVec.toNat) (m := 63)
    omega
section LLOOP
variable {Γ : Cx} {L : Nat} {xs : Nat → Int32}
set_option maxHeartbeats 4000000 in
theorem law_op {i k n : Nat} {w : AW} {a5 a6 : Option AV} (h : OKB Γ cL_law RL 7) (hRm : cxR Γ = room_1) (hS : SCR Γ L xs) (hst : Γ.1.2.1.stackTraces = false) (hR : REL i w w) (hi : 6 * i + 5 < L) (hk : k + 9 ≤ 601024) (hn : n + 906 ≤ 7293034) (kk : ∀ u b5 b6, REL (i + 1) u u → GG Γ 1636 [some (ar 20000), some (ar 0), some (ar 400), some (ar 1900), some (ai (6 * (i : Int))), b5, b6] [] u (k + 9) (n + 906)) (ks : REL (i + 1) w w → GG Γ 1636 [some (ar 20000), some (ar 0), some (ar 400), some (ar 1900), some (ai (6 * (i : Int))), a5, a6] [] w k n) {v : Int} (h0 : 0 ≤ v) (h63 : v ≤ 63) : GG Γ 40 [some (ar 20000), some (ar 0), some (ar 400), some (ar 1900), some (ai (6 * (i : Int))), a5, a6] [ai v] w k n := by
  have s0 : w.1 0 = (109, 0) := by
    obtain ⟨nn, q, np, S, rn, sn, nv, nr, mk, tl, sz, rp, rc, kf, cl, A, -⟩ := hR
    exact A.1.1.1.1 0 (by decide)
  have r32 : R32 v := ⟨by omega, by omega⟩
  by_cases hv : v ≤ 36
  · have hc : v = 0 ∨ v = 1 ∨ v = 2 ∨ v = 3 ∨ v = 4 ∨ v = 5 ∨ v = 6 ∨ v = 7 ∨ v = 8 ∨ v = 9 ∨ v = 10 ∨ v = 11 ∨ v = 12 ∨ v = 13 ∨ v = 14 ∨ v = 15 ∨ v = 16 ∨ v = 17 ∨ v = 18 ∨ v = 19 ∨ v = 20 ∨ v = 21 ∨ v = 22 ∨ v = 23 ∨ v = 24 ∨ v = 25 ∨ v = 26 ∨ v = 27 ∨ v = 28 ∨ v = 29 ∨ v = 30 ∨ v = 31 ∨ v = 32 ∨ v = 33 ∨ v = 34 ∨ v = 35 ∨ v = 36 := by omega
    rcases hc with rfl | rfl | rfl | rfl | rfl | rfl | rfl | rfl | rfl | rfl | rfl | rfl | rfl | rfl | rfl | rfl | rfl | rfl | rfl | rfl | rfl | rfl | rfl | rfl | rfl | rfl | rfl | rfl | rfl | rfl | rfl | rfl | rfl | rfl | rfl | rfl | rfl
    · exact g_tswI h 0 r32 rfl (by decide) rfl (tgt := 204) (by decide) dL_law_40 (op_layer h hRm hS hR s0 hi hk hn (fun u hu => kk u _ _ hu))
    · exact g_tswI h 1 r32 rfl (by decide) rfl (tgt := 277) (by decide) dL_law_40 (op_set h hRm hS hR s0 hi hk hn (fun u hu => kk u _ _ hu))
    · exact g_tswI h 2 r32 rfl (by decide) rfl (tgt := 326) (by decide) dL_law_40 (op_of h hRm hS hR s0 hi hk hn (fun u hu => kk u _ _ hu))
    · exact g_tswI h 3 r32 rfl (by decide) rfl (tgt := 375) (by decide) dL_law_40 (op_full h hRm hS hR s0 hi hk hn (fun u hu => kk u _ _ hu))
    · exact g_tswI h 4 r32 rfl (by decide) rfl (tgt := 428) (by decide) dL_law_40 (op_led h hRm hS hR s0 hi hk hn (fun u hu => kk u _ _ hu))
    · exact g_tswI h 5 r32 rfl (by decide) rfl (tgt := 465) (by decide) dL_law_40 (op_burst h hRm hS hR s0 hi hk hn (fun u hu => kk u _ _ hu))
    · exact g_tswI h 6 r32 rfl (by decide) rfl (tgt := 490) (by decide) dL_law_40 (op_until h hRm hS hR s0 hi hk hn (fun u hu => kk u _ _ hu))
    · exact g_tswI h 7 r32 rfl (by decide) rfl (tgt := 527) (by decide) dL_law_40 (op_pipe h hRm hS hR s0 hi hk hn (fun u hu => kk u _ _ hu))
    · exact g_tswI h 8 r32 rfl (by decide) rfl (tgt := 588) (by decide) dL_law_40 (op_pipeOf h hRm hS hR s0 hi hk hn (fun u hu => kk u _ _ hu))
    · exact g_tswI h 9 r32 rfl (by decide) rfl (tgt := 625) (by decide) dL_law_40 (op_move h hRm hS hR s0 hi hk hn (fun u hu => kk u _ _ hu))
    · exact g_tswI h 10 r32 rfl (by decide) rfl (tgt := 662) (by decide) dL_law_40 (op_start h hRm hS hR s0 hi hk hn (fun u hu => kk u _ _ hu))
    · exact g_tswI h 11 r32 rfl (by decide) rfl (tgt := 687) (by decide) dL_law_40 (op_plan h hRm hS hR s0 hi hk hn (fun u hu => kk u _ _ hu))
    · exact g_tswI h 12 r32 rfl (by decide) rfl (tgt := 724) (by decide) dL_law_40 (op_planned h hRm hS hst hR s0 hi hk hn (fun u z5 z6 hu => kk u _ _ hu))
    · exact g_tswI h 13 r32 rfl (by decide) rfl (tgt := 780) (by decide) dL_law_40 (op_check h hRm hS hR s0 hi hk hn (fun u hu => kk u _ _ hu))
    · exact g_tswI h 14 r32 rfl (by decide) rfl (tgt := 853) (by decide) dL_law_40 (op_feed h hRm hS hR s0 hi hk hn (fun u hu => kk u _ _ hu))
    · exact g_tswI h 15 r32 rfl (by decide) rfl (tgt := 926) (by decide) dL_law_40 (op_rule h hRm hS hR s0 hi hk hn (fun u hu => kk u _ _ hu))
    · exact g_tswI h 16 r32 rfl (by decide) rfl (tgt := 951) (by decide) dL_law_40 (op_fault h hRm hS hR s0 hi hk hn (fun u hu => kk u _ _ hu))
    · exact g_tswI h 17 r32 rfl (by decide) rfl (tgt := 964) (by decide) dL_law_40 (op_where h hRm hS hR s0 hi hk hn (fun u hu => kk u _ _ hu))
    · exact g_tswI h 18 r32 rfl (by decide) rfl (tgt := 977) (by decide) dL_law_40 (op_repeal h hRm hS hR s0 hi hk hn (fun u hu => kk u _ _ hu))
    · exact g_tswI h 19 r32 rfl (by decide) rfl (tgt := 1002) (by decide) dL_law_40 (op_wind h hRm hS hR s0 hi hk hn (fun u hu => kk u _ _ hu))
    · exact g_tswI h 20 r32 rfl (by decide) rfl (tgt := 1027) (by decide) dL_law_40 (op_says h hRm hS hR s0 hi hk hn (fun u hu => kk u _ _ hu))
    · exact g_tswI h 21 r32 rfl (by decide) rfl (tgt := 1064) (by decide) dL_law_40 (op_may h hRm hS hR s0 hi hk hn (fun u hu => kk u _ _ hu))
    · exact g_tswI h 22 r32 rfl (by decide) rfl (tgt := 1089) (by decide) dL_law_40 (op_reading h hRm hS hR s0 hi hk hn (fun u hu => kk u _ _ hu))
    · exact g_tswI h 23 r32 rfl (by decide) rfl (tgt := 1138) (by decide) dL_law_40 (op_sounding h hRm hS hR s0 hi hk hn (fun u hu => kk u _ _ hu))
    · exact g_tswI h 24 r32 rfl (by decide) rfl (tgt := 1187) (by decide) dL_law_40 (op_known h hRm hS hR s0 hi hk hn (fun u hu => kk u _ _ hu))
    · exact g_tswI h 25 r32 rfl (by decide) rfl (tgt := 1236) (by decide) dL_law_40 (op_right h hRm hS hR s0 hi hk hn (fun u hu => kk u _ _ hu))
    · exact g_tswI h 26 r32 rfl (by decide) rfl (tgt := 1285) (by decide) dL_law_40 (op_height h hRm hS hR s0 hi hk hn (fun u hu => kk u _ _ hu))
    · exact g_tswI h 27 r32 rfl (by decide) rfl (tgt := 1322) (by decide) dL_law_40 (op_land h hRm hS hR s0 hi hk hn (fun u hu => kk u _ _ hu))
    · exact g_tswI h 28 r32 rfl (by decide) rfl (tgt := 1359) (by decide) dL_law_40 (op_runOut h hRm hS hR s0 hi hk hn (fun u hu => kk u _ _ hu))
    · exact g_tswI h 29 r32 rfl (by decide) rfl (tgt := 1396) (by decide) dL_law_40 (op_arrives h hRm hS hR s0 hi hk hn (fun u hu => kk u _ _ hu))
    · exact g_tswI h 30 r32 rfl (by decide) rfl (tgt := 1421) (by decide) dL_law_40 (op_village h hRm hS hR s0 hi hk hn (fun u hu => kk u _ _ hu))
    · exact g_tswI h 31 r32 rfl (by decide) rfl (tgt := 1458) (by decide) dL_law_40 (op_climb h hRm hS hR s0 hi hk hn (fun u hu => kk u _ _ hu))
    · exact g_tswI h 32 r32 rfl (by decide) rfl (tgt := 1495) (by decide) dL_law_40 (op_lost h hRm hS hR s0 hi hk hn (fun u hu => kk u _ _ hu))
    · exact g_tswI h 33 r32 rfl (by decide) rfl (tgt := 1520) (by decide) dL_law_40 (op_moved h hRm hS hR s0 hi hk hn (fun u hu => kk u _ _ hu))
    · exact g_tswI h 34 r32 rfl (by decide) rfl (tgt := 1573) (by decide) dL_law_40 (op_pass h hRm hS hR s0 hi hk hn (fun u hu => kk u _ _ hu))
    · exact g_tswI h 35 r32 rfl (by decide) rfl (tgt := 1598) (by decide) dL_law_40 (op_count h hRm hS hR s0 hi hk hn (fun u hu => kk u _ _ hu))
    · exact g_tswI h 36 r32 rfl (by decide) rfl (tgt := 1623) (by decide) dL_law_40 (op_trouble h hRm hS hR s0 hi hk hn (fun u hu => kk u _ _ hu))
  · refine g_tswO (tgt := 1636) h r32 (Or.inr (by omega)) (by decide) dL_law_40 (ks ?_)
    obtain ⟨nn, q, np, S, rn, sn, nv, nr, mk, tl, sz, rp, rc, kf, cl, A, b, c, d, e⟩ := hR
    exact REL_of ⟨A, b, c, d⟩ e
set_option maxHeartbeats 1000000 in
theorem law_loop (h : OKB Γ cL_law RL 7) (hQ : OKR Γ (some .boolean) (fun r _ => r = some (ai 1)) 601024 7293034) (hRm : cxR Γ = room_1) (hS : SCR Γ L xs) (hst : Γ.1.2.1.stackTraces = false) : ∀ (d i : Nat) (w : AW) (a5 a6 : Option AV), i + d = 512 → REL i w w → GG Γ 23 [some (ar 20000), some (ar 0), some (ar 400), some (ar 1900), some (ai (6 * (i : Int))), a5, a6] [] w (91 + 9 * i) (8363 + 906 * i) := by
  intro d
  induction d with
  | zero =>
    intro i w a5 a6 hd hR
    have hL3 := hS.2.2
    refine g_iload h dL_law_23 rfl ?_
    refine g_aload_n h dL_law_25 rfl ?_
    refine g_alenS h hS dL_law_26 ?_
    refine g_bipush h dL_law_27 rfl ?_
    refine g_isub h dL_law_29 ?_
    refine g_icmp_gt (tgt := 1642) h dL_law_30 (by decide) ⟨by omega, by omega⟩ ⟨by omega, by omega⟩ (fun c => ?_) (fun c => by omega)
    refine g_iconst h dL_law_1642 ?_
    exact g_zret h hQ (by omega) (by omega) (Or.inr rfl) rfl dL_law_1643
  | succ d ih =>
    intro i w a5 a6 hd hR
    have hL3 := hS.2.2
    refine g_iload h dL_law_23 rfl ?_
    refine g_aload_n h dL_law_25 rfl ?_
    refine g_alenS h hS dL_law_26 ?_
    refine g_bipush h dL_law_27 rfl ?_
    refine g_isub h dL_law_29 ?_
    refine g_icmp_gt (tgt := 1642) h dL_law_30 (by decide) ⟨by omega, by omega⟩ ⟨by omega, by omega⟩ (fun c => ?_) (fun c => ?_)
    · refine g_iconst h dL_law_1642 ?_
      exact g_zret h hQ (by omega) (by omega) (Or.inr rfl) rfl dL_law_1643
    · refine g_aload_n h dL_law_33 rfl ?_
      refine g_iload h dL_law_34 rfl ?_
      refine g_ialdS h hS (6 * i) (by omega) (by omega) dL_law_36 ?_
      refine g_bipush h dL_law_37 rfl ?_
      obtain ⟨v, e1, e2, e3⟩ := and63 (xs (6 * i))
      refine g_iand h e1 dL_law_39 ?_
      have nxt : ∀ u b5 b6, REL (i + 1) u u → GG Γ 1636 [some (ar 20000), some (ar 0), some (ar 400), some (ar 1900), some (ai (6 * (i : Int))), b5, b6] [] u (91 + 9 * i + 9) (8363 + 906 * i + 906) := by
        intro u b5 b6 hu
        refine g_iinc h dL_law_1636 rfl (Nat.le_of_ble_eq_true rfl) rfl (lo' := [some (ar 20000), some (ar 0), some (ar 400), some (ar 1900), some (ai (6 * ((i + 1 : Nat) : Int))), b5, b6]) ?_ ?_
        · rw [show (6 * ((i + 1 : Nat) : Int)) = 6 * (i : Int) + 6 by omega]
          rfl
        · refine g_goto (tgt := 23) h dL_law_1639 (by decide) ?_
          exact g_kn (by omega) (by omega) (ih (i + 1) u b5 b6 (by omega) hu)
      exact law_op h hRm hS hst hR (by omega) (by omega) (by omega) nxt (fun hu => g_kn2 _ _ (Nat.le_add_right _ 9) (Nat.le_add_right _ 906) (nxt w a5 a6 hu)) e2 e3
end LLOOP
