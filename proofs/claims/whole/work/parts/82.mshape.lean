/-! ===== the reference (M): its shape, and how it is made ===== -/
/-- M's object at 400, the array of its field f at 400 + f -/
def shM (k : Nat) : Nat × Nat := match k with
  | 400 => (112, 0)
  | 407 => (1, 20)
  | 408 => (1, 20)
  | 409 => (1, 20)
  | 410 => (1, 2)
  | 411 => (1, 2)
  | 412 => (1, 2)
  | 413 => (1, 2)
  | 414 => (1, 2)
  | 415 => (1, 2)
  | 416 => (1, 2)
  | 417 => (1, 2)
  | 418 => (1, 2)
  | 419 => (1, 2)
  | 420 => (1, 10)
  | 421 => (1, 10)
  | 422 => (1, 10)
  | 423 => (1, 6)
  | 424 => (1, 6)
  | 425 => (3, 6)
  | 429 => (1, 6)
  | 430 => (1, 6)
  | 431 => (1, 6)
  | 432 => (1, 6)
  | 433 => (1, 6)
  | 434 => (1, 6)
  | 435 => (3, 6)
  | 436 => (1, 3)
  | 437 => (1, 3)
  | 438 => (1, 3)
  | 441 => (1, 3)
  | 444 => (210, 17)
  | 445 => (111, 0)
  | 446 => (2, 300)
  | 457 => (1, 300)
  | 460 => (1, 300)
  | 461 => (1, 300)
  | 462 => (1, 300)
  | 463 => (1, 60)
  | 464 => (1, 60)
  | 465 => (1, 60)
  | 472 => (1, 400)
  | 473 => (1, 400)
  | 474 => (1, 400)
  | 475 => (1, 20)
  | 476 => (1, 20)
  | 477 => (3, 20)
  | _ => (0, 0)
def ptM : List (Nat × Nat × Nat) := [(400, 7, 407), (400, 8, 408), (400, 9, 409), (400, 10, 410), (400, 11, 411), (400, 12, 412), (400, 13, 413), (400, 14, 414), (400, 15, 415), (400, 16, 416), (400, 17, 417), (400, 18, 418), (400, 19, 419), (400, 20, 420), (400, 21, 421), (400, 22, 422), (400, 23, 423), (400, 24, 424), (400, 25, 425), (400, 29, 429), (400, 30, 430), (400, 31, 431), (400, 32, 432), (400, 33, 433), (400, 34, 434), (400, 35, 435), (400, 36, 436), (400, 37, 437), (400, 38, 438), (400, 41, 441), (400, 44, 444), (400, 45, 445), (400, 46, 446), (400, 57, 457), (400, 60, 460), (400, 61, 461), (400, 62, 462), (400, 63, 463), (400, 64, 464), (400, 65, 465), (400, 72, 472), (400, 73, 473), (400, 74, 474), (400, 75, 475), (400, 76, 476), (400, 77, 477)]
/-- M's fixed cells -/
def MS (w : AW) : Prop := (∀ k, 400 ≤ k → k < 478 → w.1 k = shM k) ∧ ∀ q ∈ ptM, w.2.2 q.1 q.2.1 = some q.2.2
theorem MS_of {w w' : AW} (h1 : w'.1 = w.1) (h2 : w'.2.2 = w.2.2) (h : MS w) : MS w' := by unfold MS at h ⊢; rw [h1, h2]; exact h
theorem MS_of2 {w w' : AW} (h1 : ∀ k, 400 ≤ k → k < 478 → w'.1 k = w.1 k) (h2 : w'.2.2 400 = w.2.2 400) (h : MS w) : MS w' := by
  refine ⟨fun k a b => (h1 k a b).trans (h.1 k a b), fun q hq => ?_⟩
  have h3 := h.2 q hq
  have h4 : q.1 = 400 := by
    have : ∀ q ∈ ptM, q.1 = 400 := by decide
    exact this q hq
  rw [h4] at h3 ⊢
  rw [h2]
  exact h3
set_option maxRecDepth 100000 in
set_option maxHeartbeats 4000000 in
theorem c_X11_init (l : Launch) (w : AW) (p n1 : Nat) (hq : w.1 p = (111, n1)) : HT l yX11_init cX11_init 1 none 4 0 0 w [ar p] (rV (thrW w p)) := by
  refine HT.of (by decide) (by intro v hv; simp only [List.mem_cons, List.not_mem_nil, or_false] at hv; rcases hv with rfl <;> rfl) (Nat.le_of_ble_eq_true rfl) ?_
  intro Γ h hQ hRm hnm hl hw0
  refine g_aload_n h dX11_init_0 rfl ?_
  refine g_null h dX11_init_1 ?_
  refine g_null h dX11_init_2 ?_
  refine g_iconst h dX11_init_3 ?_
  refine g_iconst h dX11_init_4 ?_
  refine g_callI h rfl [_, _, _, _] (c_R4 _ _ p n1 hq) clS4 in_R4 rfl rfl rfl (by rw [hRm]; first | decide | (simp only [clS]; omega)) (by rw [hRm]; first | decide | (simp only [clS]; omega)) (fun _ => Nat.le_of_ble_eq_true rfl) (by rw [hRm]; first | decide | (simp only [clS]; omega)) (by rw [hRm]; first | decide | (simp only [clS]; omega)) dX11_init_5 (fun r5 w5 hp5 => ?_)
  obtain ⟨rfl, hw5⟩ := hp5
  rw [hw5]
  refine g_vret h hQ (by first | decide | omega | (simp only [clS]; omega)) (by first | decide | omega | (simp only [clS]; omega)) ?_ dX11_init_8
  exact ⟨rfl, rfl⟩
def iX10_init (w : AW) (p : Nat) : AW := upP (alc (upP (alc w (p + 1) (1, 300)) p 2 (some (p + 1))) (p + 2) (1, 300)) p 3 (some (p + 2))
set_option maxRecDepth 100000 in
set_option maxHeartbeats 4000000 in
theorem c_X10_init (l : Launch) (w : AW) (p : Nat) (hq : w.1 p = (110, 0)) (h1 : (w.1 (p + 1)).1 = 0) (h2 : (w.1 (p + 2)).1 = 0) (hp : p + 2 < 20000) : HT l yX10_init cX10_init 1 none 2 2 600 w [ar p] (rV (iX10_init w p)) := by
  refine HT.of (by decide) (by intro v hv; simp only [List.mem_cons, List.not_mem_nil, or_false] at hv; rcases hv with rfl <;> rfl) (Nat.le_of_ble_eq_true rfl) ?_
  intro Γ h hQ hRm hnm hl hw0
  have e2 : ((upP (alc w (p + 1) (1, 300)) p 2 (some (p + 1))).1 (p + 2)).1 = 0 := by
    show (if p + 2 = p + 1 then _ else w.1 (p + 2)).1 = 0
    rw [if_neg (by omega)]
    exact h2
  have e3 : (alc w (p + 1) (1, 300)).1 p = (110, 0) := by
    show (if p = p + 1 then _ else w.1 p) = _
    rw [if_neg (by omega)]
    exact hq
  have e4 : (alc (upP (alc w (p + 1) (1, 300)) p 2 (some (p + 1))) (p + 2) (1, 300)).1 p = (110, 0) := by
    show (if p = p + 2 then _ else (alc w (p + 1) (1, 300)).1 p) = _
    rw [if_neg (by omega)]
    exact e3
  refine g_aload_n h dX10_init_0 rfl ?_
  refine g_objinit h obX10_3 in_obj co_obj rfl (by rw [hRm]; first | decide | (simp only [clS]; omega)) (by rw [hRm]; first | decide | (simp only [clS]; omega)) (fun _ => Nat.le_of_ble_eq_true rfl) dX10_init_1 ?_
  refine g_aload_n h dX10_init_4 rfl ?_
  refine g_sipush h dX10_init_5 rfl ?_
  refine g_newi h (p + 1) (nn := 300) arc_int (by decide) (by decide) h1 (by first | omega | assumption) (by rw [hRm]; simp only [clS]; omega) (by rw [hRm]; simp only [clS]; omega) dX10_init_8 ?_
  refine g_putFQ h flX10_9 rfl hnm rfl (Or.inr ⟨_, rfl⟩) (by assumption) dX10_init_10 ?_
  refine g_aload_n h dX10_init_13 rfl ?_
  refine g_sipush h dX10_init_14 rfl ?_
  refine g_newi h (p + 2) (nn := 300) arc_int (by decide) (by decide) e2 (by first | omega | assumption) (by rw [hRm]; simp only [clS]; omega) (by rw [hRm]; simp only [clS]; omega) dX10_init_17 ?_
  refine g_putFQ h flX10_15 rfl hnm rfl (Or.inr ⟨_, rfl⟩) (by assumption) dX10_init_19 ?_
  refine g_vret h hQ (by first | decide | omega | (simp only [clS]; omega)) (by first | decide | omega | (simp only [clS]; omega)) ?_ dX10_init_22
  exact ⟨rfl, rfl⟩
def iX12a (w : AW) : AW := (upP (alc (upP (alc (upP (alc (upP (alc (upP (alc (upP (alc (upI (upI (upI (upP (alc (upP (alc (upP (alc (upP (alc (upP (alc (upP (alc (upP (alc (upP (alc (upP (thrW (alc (upP (alc (upP (alc (upP (alc (upP (alc (upP (alc (upP (alc (upP (alc (upP (alc (upP (alc (upP (alc (upP (alc (upP (alc (upP (alc (upP (alc (upP (alc (upP (alc (upP (alc (upP (alc (upP (alc (upP (alc (upP (alc (upP (alc (upP (alc (upP (alc (upP (alc (upP (alc (upP (alc (upP (alc (upP (alc (upP (alc (upP (alc (upI (upI w 400 2 (-1)) 400 6 (-2)) 407 (1, 20)) 400 7 (some 407)) 408 (1, 20)) 400 8 (some 408)) 409 (1, 20)) 400 9 (some 409)) 410 (1, 2)) 400 10 (some 410)) 411 (1, 2)) 400 11 (some 411)) 412 (1, 2)) 400 12 (some 412)) 413 (1, 2)) 400 13 (some 413)) 414 (1, 2)) 400 14 (some 414)) 415 (1, 2)) 400 15 (some 415)) 416 (1, 2)) 400 16 (some 416)) 417 (1, 2)) 400 17 (some 417)) 418 (1, 2)) 400 18 (some 418)) 419 (1, 2)) 400 19 (some 419)) 420 (1, 10)) 400 20 (some 420)) 421 (1, 10)) 400 21 (some 421)) 422 (1, 10)) 400 22 (some 422)) 423 (1, 6)) 400 23 (some 423)) 424 (1, 6)) 400 24 (some 424)) 425 (3, 6)) 400 25 (some 425)) 429 (1, 6)) 400 29 (some 429)) 430 (1, 6)) 400 30 (some 430)) 431 (1, 6)) 400 31 (some 431)) 432 (1, 6)) 400 32 (some 432)) 433 (1, 6)) 400 33 (some 433)) 434 (1, 6)) 400 34 (some 434)) 435 (3, 6)) 400 35 (some 435)) 436 (1, 3)) 400 36 (some 436)) 437 (1, 3)) 400 37 (some 437)) 438 (1, 3)) 400 38 (some 438)) 441 (1, 3)) 400 41 (some 441)) 444 (210, 17)) 400 44 (some 444)) 445 (111, 0)) 445) 400 45 (some 445)) 446 (2, 300)) 400 46 (some 446)) 457 (1, 300)) 400 57 (some 457)) 460 (1, 300)) 400 60 (some 460)) 461 (1, 300)) 400 61 (some 461)) 462 (1, 300)) 400 62 (some 462)) 463 (1, 60)) 400 63 (some 463)) 464 (1, 60)) 400 64 (some 464)) 465 (1, 60)) 400 65 (some 465)) 400 66 (20)) 400 67 (100)) 400 68 (5)) 472 (1, 400)) 400 72 (some 472)) 473 (1, 400)) 400 73 (some 473)) 474 (1, 400)) 400 74 (some 474)) 475 (1, 20)) 400 75 (some 475)) 476 (1, 20)) 400 76 (some 476)) 477 (3, 20)) 400 77 (some 477))
def iX12b (w : AW) (i : Nat) : AW := upI (upI w 410 i 1000) 413 i 10
def iX12_init (w : AW) : AW := upI (iX12b (iX12b (iX12a w) 0) 1) 414 1 399
set_option maxRecDepth 100000 in
set_option maxHeartbeats 4000000 in
theorem c_X12_init (l : Launch) (w : AW)  (hq : w.1 400 = (112, 0)) (hF : ∀ k, 400 < k → k < 478 → (w.1 k).1 = 0) : HT l yX12_init cX12_init 2 none 5 46 3147 w [ar 400] (rV (iX12_init w)) := by
  refine HT.of (by decide) (by intro v hv; simp only [List.mem_cons, List.not_mem_nil, or_false] at hv; rcases hv with rfl <;> rfl) (Nat.le_of_ble_eq_true rfl) ?_
  intro Γ h hQ hRm hnm hl hw0
  have z2 : GG Γ 400 [some (ar 400), some (ai 2)] [] (iX12b (iX12b (iX12a w) 0) 1) 46 3147 := by
    have a400 : (iX12b (iX12b (iX12a w) 0) 1).1 400 = (112, 0) := hq
    have a410 : (iX12b (iX12b (iX12a w) 0) 1).1 410 = (1, 2) := rfl
    have a413 : (iX12b (iX12b (iX12a w) 0) 1).1 413 = (1, 2) := rfl
    have a414 : (iX12b (iX12b (iX12a w) 0) 1).1 414 = (1, 2) := rfl
    have p10 : (iX12b (iX12b (iX12a w) 0) 1).2.2 400 10 = some 410 := rfl
    have p13 : (iX12b (iX12b (iX12a w) 0) 1).2.2 400 13 = some 413 := rfl
    have p14 : (iX12b (iX12b (iX12a w) 0) 1).2.2 400 14 = some 414 := rfl
    refine g_iload_n h dX12_init_400 rfl ?_
    refine g_iconst h dX12_init_401 ?_
    refine g_icmp_ge (tgt := 428) h dX12_init_402 (by decide) (by first | assumption | exact ⟨by omega, by omega⟩) (by first | assumption | exact ⟨by omega, by omega⟩) (fun c402 => ?_) (fun c402 => ?_)
    · refine g_aload_n h dX12_init_428 rfl ?_
      refine g_getQ h flX12_47 rfl (by assumption) (by assumption) dX12_init_429 ?_
      refine g_iconst h dX12_init_432 ?_
      refine g_sipush h dX12_init_433 rfl ?_
      refine g_iast h (1) (by assumption) (by first | omega | assumption) (by first | omega | assumption) (by first | decide | omega) dX12_init_436 ?_
      refine g_vret h hQ (by first | decide | omega | (simp only [clS]; omega)) (by first | decide | omega | (simp only [clS]; omega)) ?_ dX12_init_437
      exact ⟨rfl, rfl⟩
    · exfalso; omega
  have z1 : GG Γ 400 [some (ar 400), some (ai 1)] [] (iX12b (iX12a w) 0) 46 3147 := by
    have a400 : (iX12b (iX12a w) 0).1 400 = (112, 0) := hq
    have a410 : (iX12b (iX12a w) 0).1 410 = (1, 2) := rfl
    have a413 : (iX12b (iX12a w) 0).1 413 = (1, 2) := rfl
    have a414 : (iX12b (iX12a w) 0).1 414 = (1, 2) := rfl
    have p10 : (iX12b (iX12a w) 0).2.2 400 10 = some 410 := rfl
    have p13 : (iX12b (iX12a w) 0).2.2 400 13 = some 413 := rfl
    have p14 : (iX12b (iX12a w) 0).2.2 400 14 = some 414 := rfl
    refine g_iload_n h dX12_init_400 rfl ?_
    refine g_iconst h dX12_init_401 ?_
    refine g_icmp_ge (tgt := 428) h dX12_init_402 (by decide) (by first | assumption | exact ⟨by omega, by omega⟩) (by first | assumption | exact ⟨by omega, by omega⟩) (fun c402 => ?_) (fun c402 => ?_)
    · exfalso; omega
    · refine g_aload_n h dX12_init_405 rfl ?_
      refine g_getQ h flX12_35 rfl (by assumption) (by assumption) dX12_init_406 ?_
      refine g_iload_n h dX12_init_409 rfl ?_
      refine g_sipush h dX12_init_410 rfl ?_
      refine g_iast h (1) (by assumption) (by first | omega | assumption) (by first | omega | assumption) (by first | decide | omega) dX12_init_413 ?_
      refine g_aload_n h dX12_init_414 rfl ?_
      refine g_getQ h flX12_44 rfl (by assumption) (by assumption) dX12_init_415 ?_
      refine g_iload_n h dX12_init_418 rfl ?_
      refine g_bipush h dX12_init_419 rfl ?_
      refine g_iast h (1) (by assumption) (by first | omega | assumption) (by first | omega | assumption) (by first | decide | omega) dX12_init_421 ?_
      refine g_iinc h dX12_init_422 rfl (Nat.le_of_ble_eq_true rfl) rfl rfl ?_
      refine g_goto (tgt := 400) h dX12_init_425 (by decide) ?_
      exact z2
  have z0 : GG Γ 400 [some (ar 400), some (ai 0)] [] (iX12a w) 46 3147 := by
    have a400 : (iX12a w).1 400 = (112, 0) := hq
    have a410 : (iX12a w).1 410 = (1, 2) := rfl
    have a413 : (iX12a w).1 413 = (1, 2) := rfl
    have a414 : (iX12a w).1 414 = (1, 2) := rfl
    have p10 : (iX12a w).2.2 400 10 = some 410 := rfl
    have p13 : (iX12a w).2.2 400 13 = some 413 := rfl
    have p14 : (iX12a w).2.2 400 14 = some 414 := rfl
    refine g_iload_n h dX12_init_400 rfl ?_
    refine g_iconst h dX12_init_401 ?_
    refine g_icmp_ge (tgt := 428) h dX12_init_402 (by decide) (by first | assumption | exact ⟨by omega, by omega⟩) (by first | assumption | exact ⟨by omega, by omega⟩) (fun c402 => ?_) (fun c402 => ?_)
    · exfalso; omega
    · refine g_aload_n h dX12_init_405 rfl ?_
      refine g_getQ h flX12_35 rfl (by assumption) (by assumption) dX12_init_406 ?_
      refine g_iload_n h dX12_init_409 rfl ?_
      refine g_sipush h dX12_init_410 rfl ?_
      refine g_iast h (0) (by assumption) (by first | omega | assumption) (by first | omega | assumption) (by first | decide | omega) dX12_init_413 ?_
      refine g_aload_n h dX12_init_414 rfl ?_
      refine g_getQ h flX12_44 rfl (by assumption) (by assumption) dX12_init_415 ?_
      refine g_iload_n h dX12_init_418 rfl ?_
      refine g_bipush h dX12_init_419 rfl ?_
      refine g_iast h (0) (by assumption) (by first | omega | assumption) (by first | omega | assumption) (by first | decide | omega) dX12_init_421 ?_
      refine g_iinc h dX12_init_422 rfl (Nat.le_of_ble_eq_true rfl) rfl rfl ?_
      refine g_goto (tgt := 400) h dX12_init_425 (by decide) ?_
      exact z1
  refine g_aload_n h dX12_init_0 rfl ?_
  refine g_objinit h obX12_16 in_obj co_obj rfl (by rw [hRm]; first | decide | (simp only [clS]; omega)) (by rw [hRm]; first | decide | (simp only [clS]; omega)) (fun _ => Nat.le_of_ble_eq_true rfl) dX12_init_1 ?_
  refine g_aload_n h dX12_init_4 rfl ?_
  refine g_iconst h dX12_init_5 ?_
  refine g_putI h flX12_10 rfl rfl (by assumption) dX12_init_6 ?_
  refine g_aload_n h dX12_init_9 rfl ?_
  refine g_bipush h dX12_init_10 rfl ?_
  refine g_putI h flX12_22 rfl rfl (by assumption) dX12_init_12 ?_
  refine g_aload_n h dX12_init_15 rfl ?_
  refine g_bipush h dX12_init_16 rfl ?_
  refine g_newi h (407) (nn := 20) arc_int (by decide) (by decide) (hF 407 (by decide) (by decide)) (by first | omega | assumption) (by rw [hRm]; simp only [clS]; omega) (by rw [hRm]; simp only [clS]; omega) dX12_init_18 ?_
  refine g_putFQ h flX12_25 rfl hnm rfl (Or.inr ⟨_, rfl⟩) (by assumption) dX12_init_20 ?_
  refine g_aload_n h dX12_init_23 rfl ?_
  refine g_bipush h dX12_init_24 rfl ?_
  refine g_newi h (408) (nn := 20) arc_int (by decide) (by decide) (hF 408 (by decide) (by decide)) (by first | omega | assumption) (by rw [hRm]; simp only [clS]; omega) (by rw [hRm]; simp only [clS]; omega) dX12_init_26 ?_
  refine g_putFQ h flX12_29 rfl hnm rfl (Or.inr ⟨_, rfl⟩) (by assumption) dX12_init_28 ?_
  refine g_aload_n h dX12_init_31 rfl ?_
  refine g_bipush h dX12_init_32 rfl ?_
  refine g_newi h (409) (nn := 20) arc_int (by decide) (by decide) (hF 409 (by decide) (by decide)) (by first | omega | assumption) (by rw [hRm]; simp only [clS]; omega) (by rw [hRm]; simp only [clS]; omega) dX12_init_34 ?_
  refine g_putFQ h flX12_32 rfl hnm rfl (Or.inr ⟨_, rfl⟩) (by assumption) dX12_init_36 ?_
  refine g_aload_n h dX12_init_39 rfl ?_
  refine g_iconst h dX12_init_40 ?_
  refine g_newi h (410) (nn := 2) arc_int (by decide) (by decide) (hF 410 (by decide) (by decide)) (by first | omega | assumption) (by rw [hRm]; simp only [clS]; omega) (by rw [hRm]; simp only [clS]; omega) dX12_init_41 ?_
  refine g_putFQ h flX12_35 rfl hnm rfl (Or.inr ⟨_, rfl⟩) (by assumption) dX12_init_43 ?_
  refine g_aload_n h dX12_init_46 rfl ?_
  refine g_iconst h dX12_init_47 ?_
  refine g_newi h (411) (nn := 2) arc_int (by decide) (by decide) (hF 411 (by decide) (by decide)) (by first | omega | assumption) (by rw [hRm]; simp only [clS]; omega) (by rw [hRm]; simp only [clS]; omega) dX12_init_48 ?_
  refine g_putFQ h flX12_38 rfl hnm rfl (Or.inr ⟨_, rfl⟩) (by assumption) dX12_init_50 ?_
  refine g_aload_n h dX12_init_53 rfl ?_
  refine g_iconst h dX12_init_54 ?_
  refine g_newi h (412) (nn := 2) arc_int (by decide) (by decide) (hF 412 (by decide) (by decide)) (by first | omega | assumption) (by rw [hRm]; simp only [clS]; omega) (by rw [hRm]; simp only [clS]; omega) dX12_init_55 ?_
  refine g_putFQ h flX12_41 rfl hnm rfl (Or.inr ⟨_, rfl⟩) (by assumption) dX12_init_57 ?_
  refine g_aload_n h dX12_init_60 rfl ?_
  refine g_iconst h dX12_init_61 ?_
  refine g_newi h (413) (nn := 2) arc_int (by decide) (by decide) (hF 413 (by decide) (by decide)) (by first | omega | assumption) (by rw [hRm]; simp only [clS]; omega) (by rw [hRm]; simp only [clS]; omega) dX12_init_62 ?_
  refine g_putFQ h flX12_44 rfl hnm rfl (Or.inr ⟨_, rfl⟩) (by assumption) dX12_init_64 ?_
  refine g_aload_n h dX12_init_67 rfl ?_
  refine g_iconst h dX12_init_68 ?_
  refine g_newi h (414) (nn := 2) arc_int (by decide) (by decide) (hF 414 (by decide) (by decide)) (by first | omega | assumption) (by rw [hRm]; simp only [clS]; omega) (by rw [hRm]; simp only [clS]; omega) dX12_init_69 ?_
  refine g_putFQ h flX12_47 rfl hnm rfl (Or.inr ⟨_, rfl⟩) (by assumption) dX12_init_71 ?_
  refine g_aload_n h dX12_init_74 rfl ?_
  refine g_iconst h dX12_init_75 ?_
  refine g_newi h (415) (nn := 2) arc_int (by decide) (by decide) (hF 415 (by decide) (by decide)) (by first | omega | assumption) (by rw [hRm]; simp only [clS]; omega) (by rw [hRm]; simp only [clS]; omega) dX12_init_76 ?_
  refine g_putFQ h flX12_50 rfl hnm rfl (Or.inr ⟨_, rfl⟩) (by assumption) dX12_init_78 ?_
  refine g_aload_n h dX12_init_81 rfl ?_
  refine g_iconst h dX12_init_82 ?_
  refine g_newi h (416) (nn := 2) arc_int (by decide) (by decide) (hF 416 (by decide) (by decide)) (by first | omega | assumption) (by rw [hRm]; simp only [clS]; omega) (by rw [hRm]; simp only [clS]; omega) dX12_init_83 ?_
  refine g_putFQ h flX12_53 rfl hnm rfl (Or.inr ⟨_, rfl⟩) (by assumption) dX12_init_85 ?_
  refine g_aload_n h dX12_init_88 rfl ?_
  refine g_iconst h dX12_init_89 ?_
  refine g_newi h (417) (nn := 2) arc_int (by decide) (by decide) (hF 417 (by decide) (by decide)) (by first | omega | assumption) (by rw [hRm]; simp only [clS]; omega) (by rw [hRm]; simp only [clS]; omega) dX12_init_90 ?_
  refine g_putFQ h flX12_56 rfl hnm rfl (Or.inr ⟨_, rfl⟩) (by assumption) dX12_init_92 ?_
  refine g_aload_n h dX12_init_95 rfl ?_
  refine g_iconst h dX12_init_96 ?_
  refine g_newi h (418) (nn := 2) arc_int (by decide) (by decide) (hF 418 (by decide) (by decide)) (by first | omega | assumption) (by rw [hRm]; simp only [clS]; omega) (by rw [hRm]; simp only [clS]; omega) dX12_init_97 ?_
  refine g_putFQ h flX12_59 rfl hnm rfl (Or.inr ⟨_, rfl⟩) (by assumption) dX12_init_99 ?_
  refine g_aload_n h dX12_init_102 rfl ?_
  refine g_iconst h dX12_init_103 ?_
  refine g_newi h (419) (nn := 2) arc_int (by decide) (by decide) (hF 419 (by decide) (by decide)) (by first | omega | assumption) (by rw [hRm]; simp only [clS]; omega) (by rw [hRm]; simp only [clS]; omega) dX12_init_104 ?_
  refine g_putFQ h flX12_62 rfl hnm rfl (Or.inr ⟨_, rfl⟩) (by assumption) dX12_init_106 ?_
  refine g_aload_n h dX12_init_109 rfl ?_
  refine g_bipush h dX12_init_110 rfl ?_
  refine g_newi h (420) (nn := 10) arc_int (by decide) (by decide) (hF 420 (by decide) (by decide)) (by first | omega | assumption) (by rw [hRm]; simp only [clS]; omega) (by rw [hRm]; simp only [clS]; omega) dX12_init_112 ?_
  refine g_putFQ h flX12_65 rfl hnm rfl (Or.inr ⟨_, rfl⟩) (by assumption) dX12_init_114 ?_
  refine g_aload_n h dX12_init_117 rfl ?_
  refine g_bipush h dX12_init_118 rfl ?_
  refine g_newi h (421) (nn := 10) arc_int (by decide) (by decide) (hF 421 (by decide) (by decide)) (by first | omega | assumption) (by rw [hRm]; simp only [clS]; omega) (by rw [hRm]; simp only [clS]; omega) dX12_init_120 ?_
  refine g_putFQ h flX12_68 rfl hnm rfl (Or.inr ⟨_, rfl⟩) (by assumption) dX12_init_122 ?_
  refine g_aload_n h dX12_init_125 rfl ?_
  refine g_bipush h dX12_init_126 rfl ?_
  refine g_newi h (422) (nn := 10) arc_int (by decide) (by decide) (hF 422 (by decide) (by decide)) (by first | omega | assumption) (by rw [hRm]; simp only [clS]; omega) (by rw [hRm]; simp only [clS]; omega) dX12_init_128 ?_
  refine g_putFQ h flX12_71 rfl hnm rfl (Or.inr ⟨_, rfl⟩) (by assumption) dX12_init_130 ?_
  refine g_aload_n h dX12_init_133 rfl ?_
  refine g_bipush h dX12_init_134 rfl ?_
  refine g_newi h (423) (nn := 6) arc_int (by decide) (by decide) (hF 423 (by decide) (by decide)) (by first | omega | assumption) (by rw [hRm]; simp only [clS]; omega) (by rw [hRm]; simp only [clS]; omega) dX12_init_136 ?_
  refine g_putFQ h flX12_74 rfl hnm rfl (Or.inr ⟨_, rfl⟩) (by assumption) dX12_init_138 ?_
  refine g_aload_n h dX12_init_141 rfl ?_
  refine g_bipush h dX12_init_142 rfl ?_
  refine g_newi h (424) (nn := 6) arc_int (by decide) (by decide) (hF 424 (by decide) (by decide)) (by first | omega | assumption) (by rw [hRm]; simp only [clS]; omega) (by rw [hRm]; simp only [clS]; omega) dX12_init_144 ?_
  refine g_putFQ h flX12_77 rfl hnm rfl (Or.inr ⟨_, rfl⟩) (by assumption) dX12_init_146 ?_
  refine g_aload_n h dX12_init_149 rfl ?_
  refine g_bipush h dX12_init_150 rfl ?_
  refine g_newz h (425) (nn := 6) arc_boolean (by decide) (by decide) (hF 425 (by decide) (by decide)) (by first | omega | assumption) (by rw [hRm]; simp only [clS]; omega) (by rw [hRm]; simp only [clS]; omega) dX12_init_152 ?_
  refine g_putFQ h flX12_80 rfl hnm rfl (Or.inr ⟨_, rfl⟩) (by assumption) dX12_init_154 ?_
  refine g_aload_n h dX12_init_157 rfl ?_
  refine g_bipush h dX12_init_158 rfl ?_
  refine g_newi h (429) (nn := 6) arc_int (by decide) (by decide) (hF 429 (by decide) (by decide)) (by first | omega | assumption) (by rw [hRm]; simp only [clS]; omega) (by rw [hRm]; simp only [clS]; omega) dX12_init_160 ?_
  refine g_putFQ h flX12_84 rfl hnm rfl (Or.inr ⟨_, rfl⟩) (by assumption) dX12_init_162 ?_
  refine g_aload_n h dX12_init_165 rfl ?_
  refine g_bipush h dX12_init_166 rfl ?_
  refine g_newi h (430) (nn := 6) arc_int (by decide) (by decide) (hF 430 (by decide) (by decide)) (by first | omega | assumption) (by rw [hRm]; simp only [clS]; omega) (by rw [hRm]; simp only [clS]; omega) dX12_init_168 ?_
  refine g_putFQ h flX12_87 rfl hnm rfl (Or.inr ⟨_, rfl⟩) (by assumption) dX12_init_170 ?_
  refine g_aload_n h dX12_init_173 rfl ?_
  refine g_bipush h dX12_init_174 rfl ?_
  refine g_newi h (431) (nn := 6) arc_int (by decide) (by decide) (hF 431 (by decide) (by decide)) (by first | omega | assumption) (by rw [hRm]; simp only [clS]; omega) (by rw [hRm]; simp only [clS]; omega) dX12_init_176 ?_
  refine g_putFQ h flX12_90 rfl hnm rfl (Or.inr ⟨_, rfl⟩) (by assumption) dX12_init_178 ?_
  refine g_aload_n h dX12_init_181 rfl ?_
  refine g_bipush h dX12_init_182 rfl ?_
  refine g_newi h (432) (nn := 6) arc_int (by decide) (by decide) (hF 432 (by decide) (by decide)) (by first | omega | assumption) (by rw [hRm]; simp only [clS]; omega) (by rw [hRm]; simp only [clS]; omega) dX12_init_184 ?_
  refine g_putFQ h flX12_93 rfl hnm rfl (Or.inr ⟨_, rfl⟩) (by assumption) dX12_init_186 ?_
  refine g_aload_n h dX12_init_189 rfl ?_
  refine g_bipush h dX12_init_190 rfl ?_
  refine g_newi h (433) (nn := 6) arc_int (by decide) (by decide) (hF 433 (by decide) (by decide)) (by first | omega | assumption) (by rw [hRm]; simp only [clS]; omega) (by rw [hRm]; simp only [clS]; omega) dX12_init_192 ?_
  refine g_putFQ h flX12_96 rfl hnm rfl (Or.inr ⟨_, rfl⟩) (by assumption) dX12_init_194 ?_
  refine g_aload_n h dX12_init_197 rfl ?_
  refine g_bipush h dX12_init_198 rfl ?_
  refine g_newi h (434) (nn := 6) arc_int (by decide) (by decide) (hF 434 (by decide) (by decide)) (by first | omega | assumption) (by rw [hRm]; simp only [clS]; omega) (by rw [hRm]; simp only [clS]; omega) dX12_init_200 ?_
  refine g_putFQ h flX12_99 rfl hnm rfl (Or.inr ⟨_, rfl⟩) (by assumption) dX12_init_202 ?_
  refine g_aload_n h dX12_init_205 rfl ?_
  refine g_bipush h dX12_init_206 rfl ?_
  refine g_newz h (435) (nn := 6) arc_boolean (by decide) (by decide) (hF 435 (by decide) (by decide)) (by first | omega | assumption) (by rw [hRm]; simp only [clS]; omega) (by rw [hRm]; simp only [clS]; omega) dX12_init_208 ?_
  refine g_putFQ h flX12_102 rfl hnm rfl (Or.inr ⟨_, rfl⟩) (by assumption) dX12_init_210 ?_
  refine g_aload_n h dX12_init_213 rfl ?_
  refine g_iconst h dX12_init_214 ?_
  refine g_newi h (436) (nn := 3) arc_int (by decide) (by decide) (hF 436 (by decide) (by decide)) (by first | omega | assumption) (by rw [hRm]; simp only [clS]; omega) (by rw [hRm]; simp only [clS]; omega) dX12_init_215 ?_
  refine g_putFQ h flX12_105 rfl hnm rfl (Or.inr ⟨_, rfl⟩) (by assumption) dX12_init_217 ?_
  refine g_aload_n h dX12_init_220 rfl ?_
  refine g_iconst h dX12_init_221 ?_
  refine g_newi h (437) (nn := 3) arc_int (by decide) (by decide) (hF 437 (by decide) (by decide)) (by first | omega | assumption) (by rw [hRm]; simp only [clS]; omega) (by rw [hRm]; simp only [clS]; omega) dX12_init_222 ?_
  refine g_putFQ h flX12_108 rfl hnm rfl (Or.inr ⟨_, rfl⟩) (by assumption) dX12_init_224 ?_
  refine g_aload_n h dX12_init_227 rfl ?_
  refine g_iconst h dX12_init_228 ?_
  refine g_newi h (438) (nn := 3) arc_int (by decide) (by decide) (hF 438 (by decide) (by decide)) (by first | omega | assumption) (by rw [hRm]; simp only [clS]; omega) (by rw [hRm]; simp only [clS]; omega) dX12_init_229 ?_
  refine g_putFQ h flX12_111 rfl hnm rfl (Or.inr ⟨_, rfl⟩) (by assumption) dX12_init_231 ?_
  refine g_aload_n h dX12_init_234 rfl ?_
  refine g_iconst h dX12_init_235 ?_
  refine g_newi h (441) (nn := 3) arc_int (by decide) (by decide) (hF 441 (by decide) (by decide)) (by first | omega | assumption) (by rw [hRm]; simp only [clS]; omega) (by rw [hRm]; simp only [clS]; omega) dX12_init_236 ?_
  refine g_putFQ h flX12_114 rfl hnm rfl (Or.inr ⟨_, rfl⟩) (by assumption) dX12_init_238 ?_
  refine g_aload_n h dX12_init_241 rfl ?_
  refine g_bipush h dX12_init_242 rfl ?_
  refine g_newq h (ci := 10) (444) (nn := 17) ao_10 cnX12_117 (by unfold arK; omega) rfl (by decide) (by decide) (hF 444 (by decide) (by decide)) (by first | omega | assumption) (by rw [hRm]; simp only [clS]; omega) (by rw [hRm]; simp only [clS]; omega) dX12_init_244 ?_
  refine g_putFQ h flX12_119 rfl hnm rfl (Or.inr ⟨_, rfl⟩) (by assumption) dX12_init_247 ?_
  refine g_aload_n h dX12_init_250 rfl ?_
  refine g_new h (ci := 11) (445) (by decide) cnX12_123 ins_11 ini_11 wsin_11 (hF 445 (by decide) (by decide)) (by first | omega | assumption) (by rw [hRm]; simp only [clS]; omega) (by rw [hRm]; simp only [clS]; omega) dX12_init_251 ?_
  refine g_dup h dX12_init_254 rfl ?_
  refine g_callI h rfl [] (c_X11_init _ _ 445 0 rfl) clX12_125 in_X11_init rfl rfl rfl (by rw [hRm]; first | decide | (simp only [clS]; omega)) (by rw [hRm]; first | decide | (simp only [clS]; omega)) (fun _ => Nat.le_of_ble_eq_true rfl) (by rw [hRm]; first | decide | (simp only [clS]; omega)) (by rw [hRm]; first | decide | (simp only [clS]; omega)) dX12_init_255 (fun r255 w255 hp255 => ?_)
  obtain ⟨rfl, hw255⟩ := hp255
  rw [hw255]
  refine g_putFQ h flX12_126 rfl hnm rfl (Or.inl ⟨_, rfl⟩) (by assumption) dX12_init_258 ?_
  refine g_aload_n h dX12_init_261 rfl ?_
  refine g_sipush h dX12_init_262 rfl ?_
  refine g_newb h (446) (nn := 300) arc_byte (by decide) (by decide) (hF 446 (by decide) (by decide)) (by first | omega | assumption) (by rw [hRm]; simp only [clS]; omega) (by rw [hRm]; simp only [clS]; omega) dX12_init_265 ?_
  refine g_putFQ h flX12_130 rfl hnm rfl (Or.inr ⟨_, rfl⟩) (by assumption) dX12_init_267 ?_
  refine g_aload_n h dX12_init_270 rfl ?_
  refine g_sipush h dX12_init_271 rfl ?_
  refine g_newi h (457) (nn := 300) arc_int (by decide) (by decide) (hF 457 (by decide) (by decide)) (by first | omega | assumption) (by rw [hRm]; simp only [clS]; omega) (by rw [hRm]; simp only [clS]; omega) dX12_init_274 ?_
  refine g_putFQ h flX12_134 rfl hnm rfl (Or.inr ⟨_, rfl⟩) (by assumption) dX12_init_276 ?_
  refine g_aload_n h dX12_init_279 rfl ?_
  refine g_sipush h dX12_init_280 rfl ?_
  refine g_newi h (460) (nn := 300) arc_int (by decide) (by decide) (hF 460 (by decide) (by decide)) (by first | omega | assumption) (by rw [hRm]; simp only [clS]; omega) (by rw [hRm]; simp only [clS]; omega) dX12_init_283 ?_
  refine g_putFQ h flX12_137 rfl hnm rfl (Or.inr ⟨_, rfl⟩) (by assumption) dX12_init_285 ?_
  refine g_aload_n h dX12_init_288 rfl ?_
  refine g_sipush h dX12_init_289 rfl ?_
  refine g_newi h (461) (nn := 300) arc_int (by decide) (by decide) (hF 461 (by decide) (by decide)) (by first | omega | assumption) (by rw [hRm]; simp only [clS]; omega) (by rw [hRm]; simp only [clS]; omega) dX12_init_292 ?_
  refine g_putFQ h flX12_140 rfl hnm rfl (Or.inr ⟨_, rfl⟩) (by assumption) dX12_init_294 ?_
  refine g_aload_n h dX12_init_297 rfl ?_
  refine g_sipush h dX12_init_298 rfl ?_
  refine g_newi h (462) (nn := 300) arc_int (by decide) (by decide) (hF 462 (by decide) (by decide)) (by first | omega | assumption) (by rw [hRm]; simp only [clS]; omega) (by rw [hRm]; simp only [clS]; omega) dX12_init_301 ?_
  refine g_putFQ h flX12_143 rfl hnm rfl (Or.inr ⟨_, rfl⟩) (by assumption) dX12_init_303 ?_
  refine g_aload_n h dX12_init_306 rfl ?_
  refine g_bipush h dX12_init_307 rfl ?_
  refine g_newi h (463) (nn := 60) arc_int (by decide) (by decide) (hF 463 (by decide) (by decide)) (by first | omega | assumption) (by rw [hRm]; simp only [clS]; omega) (by rw [hRm]; simp only [clS]; omega) dX12_init_309 ?_
  refine g_putFQ h flX12_146 rfl hnm rfl (Or.inr ⟨_, rfl⟩) (by assumption) dX12_init_311 ?_
  refine g_aload_n h dX12_init_314 rfl ?_
  refine g_bipush h dX12_init_315 rfl ?_
  refine g_newi h (464) (nn := 60) arc_int (by decide) (by decide) (hF 464 (by decide) (by decide)) (by first | omega | assumption) (by rw [hRm]; simp only [clS]; omega) (by rw [hRm]; simp only [clS]; omega) dX12_init_317 ?_
  refine g_putFQ h flX12_149 rfl hnm rfl (Or.inr ⟨_, rfl⟩) (by assumption) dX12_init_319 ?_
  refine g_aload_n h dX12_init_322 rfl ?_
  refine g_bipush h dX12_init_323 rfl ?_
  refine g_newi h (465) (nn := 60) arc_int (by decide) (by decide) (hF 465 (by decide) (by decide)) (by first | omega | assumption) (by rw [hRm]; simp only [clS]; omega) (by rw [hRm]; simp only [clS]; omega) dX12_init_325 ?_
  refine g_putFQ h flX12_152 rfl hnm rfl (Or.inr ⟨_, rfl⟩) (by assumption) dX12_init_327 ?_
  refine g_aload_n h dX12_init_330 rfl ?_
  refine g_bipush h dX12_init_331 rfl ?_
  refine g_putI h flX12_155 rfl rfl (by assumption) dX12_init_333 ?_
  refine g_aload_n h dX12_init_336 rfl ?_
  refine g_bipush h dX12_init_337 rfl ?_
  refine g_putI h flX12_158 rfl rfl (by assumption) dX12_init_339 ?_
  refine g_aload_n h dX12_init_342 rfl ?_
  refine g_iconst h dX12_init_343 ?_
  refine g_putI h flX12_161 rfl rfl (by assumption) dX12_init_344 ?_
  refine g_aload_n h dX12_init_347 rfl ?_
  refine g_sipush h dX12_init_348 rfl ?_
  refine g_newi h (472) (nn := 400) arc_int (by decide) (by decide) (hF 472 (by decide) (by decide)) (by first | omega | assumption) (by rw [hRm]; simp only [clS]; omega) (by rw [hRm]; simp only [clS]; omega) dX12_init_351 ?_
  refine g_putFQ h flX12_164 rfl hnm rfl (Or.inr ⟨_, rfl⟩) (by assumption) dX12_init_353 ?_
  refine g_aload_n h dX12_init_356 rfl ?_
  refine g_sipush h dX12_init_357 rfl ?_
  refine g_newi h (473) (nn := 400) arc_int (by decide) (by decide) (hF 473 (by decide) (by decide)) (by first | omega | assumption) (by rw [hRm]; simp only [clS]; omega) (by rw [hRm]; simp only [clS]; omega) dX12_init_360 ?_
  refine g_putFQ h flX12_167 rfl hnm rfl (Or.inr ⟨_, rfl⟩) (by assumption) dX12_init_362 ?_
  refine g_aload_n h dX12_init_365 rfl ?_
  refine g_sipush h dX12_init_366 rfl ?_
  refine g_newi h (474) (nn := 400) arc_int (by decide) (by decide) (hF 474 (by decide) (by decide)) (by first | omega | assumption) (by rw [hRm]; simp only [clS]; omega) (by rw [hRm]; simp only [clS]; omega) dX12_init_369 ?_
  refine g_putFQ h flX12_170 rfl hnm rfl (Or.inr ⟨_, rfl⟩) (by assumption) dX12_init_371 ?_
  refine g_aload_n h dX12_init_374 rfl ?_
  refine g_bipush h dX12_init_375 rfl ?_
  refine g_newi h (475) (nn := 20) arc_int (by decide) (by decide) (hF 475 (by decide) (by decide)) (by first | omega | assumption) (by rw [hRm]; simp only [clS]; omega) (by rw [hRm]; simp only [clS]; omega) dX12_init_377 ?_
  refine g_putFQ h flX12_173 rfl hnm rfl (Or.inr ⟨_, rfl⟩) (by assumption) dX12_init_379 ?_
  refine g_aload_n h dX12_init_382 rfl ?_
  refine g_bipush h dX12_init_383 rfl ?_
  refine g_newi h (476) (nn := 20) arc_int (by decide) (by decide) (hF 476 (by decide) (by decide)) (by first | omega | assumption) (by rw [hRm]; simp only [clS]; omega) (by rw [hRm]; simp only [clS]; omega) dX12_init_385 ?_
  refine g_putFQ h flX12_176 rfl hnm rfl (Or.inr ⟨_, rfl⟩) (by assumption) dX12_init_387 ?_
  refine g_aload_n h dX12_init_390 rfl ?_
  refine g_bipush h dX12_init_391 rfl ?_
  refine g_newz h (477) (nn := 20) arc_boolean (by decide) (by decide) (hF 477 (by decide) (by decide)) (by first | omega | assumption) (by rw [hRm]; simp only [clS]; omega) (by rw [hRm]; simp only [clS]; omega) dX12_init_393 ?_
  refine g_putFQ h flX12_179 rfl hnm rfl (Or.inr ⟨_, rfl⟩) (by assumption) dX12_init_395 ?_
  refine g_iconst h dX12_init_398 ?_
  refine g_istore_n h dX12_init_399 (Nat.le_of_ble_eq_true rfl) rfl rfl ?_
  exact z0
