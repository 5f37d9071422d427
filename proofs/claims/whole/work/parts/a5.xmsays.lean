/-! ===== what rules say, by both ===== -/
/-- what X's world w and M's world u have in common, that rules ask for -/
def RLX (w u : AW) (n : Nat → Nat) (q : Nat → Nat → Nat) (np S rn sn : Nat) : Prop := WI w n q S rn sn ∧ LkE w u n q np ∧ PpE w u np ∧ MPI u np ∧ StE w u rn sn ∧ w.2.1 0 13 = u.2.1 400 4 ∧ w.2.1 0 8 = u.2.1 400 43
theorem fsI {w v : AW} {S S' j : Nat} (h : FSc w v S S') (hj : noS j) (h6 : j ≠ 26) (h7 : j ≠ 27) : v.2.1 j = w.2.1 j := h.2.2.2.1 j hj h6 h7
theorem LkE_w {w v u : AW} {n : Nat → Nat} {q : Nat → Nat → Nat} {np : Nat} (h : ∀ j, (2 ≤ j ∧ j ≤ 12) → noS j → v.2.1 j = w.2.1 j) (k : LkE w u n q np) : LkE v u n q np := by
  intro L hL
  obtain ⟨k1, k2, k3, k4, k5⟩ := k L hL
  have e2 := h (2 + L) (by omega) ⟨by omega, by omega, by omega, by omega, by omega⟩
  have e5 := h (5 + L) (by omega) ⟨by omega, by omega, by omega, by omega, by omega⟩
  have e8 := h (8 + L) (by omega) ⟨by omega, by omega, by omega, by omega, by omega⟩
  have e11 := h (11 + L) (by omega) ⟨by omega, by omega, by omega, by omega, by omega⟩
  rw [e2, e5, e8, e11]
  exact ⟨k1, k2, k3, k4, k5⟩
theorem PpE_w {w v u : AW} {np : Nat} (hn : np ≤ 6) (h : ∀ j, 50 ≤ j → j < 56 → v.2.1 j = w.2.1 j) (k : PpE w u np) : PpE v u np := by
  refine ⟨fun p hp => ?_, k.2⟩
  rw [h (50 + p) (by omega) (by omega)]
  exact k.1 p hp
theorem StE_w {w v u : AW} {rn sn : Nat} (h : ∀ j, 29 ≤ j → j ≤ 35 → v.2.1 j = w.2.1 j) (k : StE w u rn sn) : StE v u rn sn := by
  unfold StE
  rw [h 29 (by decide) (by decide), h 30 (by decide) (by decide), h 31 (by decide) (by decide), h 32 (by decide) (by decide), h 33 (by decide) (by decide), h 34 (by decide) (by decide), h 35 (by decide) (by decide)]
  exact k
theorem RL_fs {w v u : AW} {n : Nat → Nat} {q : Nat → Nat → Nat} {np S S' rn sn : Nat} (hR : RLX w u n q np S rn sn) (h : FSc w v S S') : RLX v u n q np S' rn sn := by
  obtain ⟨a1, a2, a3, a4, a5, a6, a7⟩ := hR
  refine ⟨WI_fs a1 h, LkE_w (fun j hj hs => fsI h hs (by omega) (by omega)) a2, PpE_w a4.2.1 (fun j h1 h2 => fsI h ⟨by omega, by omega, by omega, by omega, by omega⟩ (by omega) (by omega)) a3, a4, StE_w (fun j h1 h2 => fsI h ⟨by omega, by omega, by omega, by omega, by omega⟩ (by omega) (by omega)) a5, ?_, ?_⟩
  · rw [fsI h (j := 0) ⟨by decide, by decide, by decide, by decide, by decide⟩ (by decide) (by decide)]; exact a6
  · rw [fsI h (j := 0) ⟨by decide, by decide, by decide, by decide, by decide⟩ (by decide) (by decide)]; exact a7
theorem nmT {w v u : AW} {n : Nat → Nat} {q : Nat → Nat → Nat} {np S S' rn sn L nr : Nat} {cl : Nat → List Int} {hi : Int} (hR : RLX w u n q np S rn sn) (hL : L < 2) (hT : TN w v L n q S S' rn sn nr cl hi) :
    ∀ a, a < 9 → (a = 1 → nbs cl nr = true) → v.2.1 26 a = nmM u L np rn sn hi a := by
  intro a ha h1
  obtain ⟨t1, t2, t3, t4, t5⟩ := hT
  by_cases e : a = 1
  · subst e
    obtain ⟨x, hx, ex⟩ := t4 (h1 rfl)
    obtain ⟨a1, a2, a3, a4, -⟩ := RL_fs hR hx
    rw [ex, bv_both a1 hL a2 a3 a4, nm_1]
  · obtain ⟨a1, a2, a3, a4, a5, a6, a7⟩ := hR
    rw [t3 a ha e]
    exact nm_both a1 hL a2 a3 a4 a5 a6 a7 a e
theorem tcL_nm : ∀ (cl : List Int) (ts u : List Bool), tcL cl ts = some u → ∀ c, c ∈ cl → 10000 ≤ c → c < 20000 → c < 10009
  | [], _, _, _, c, hc, _, _ => by cases hc
  | d :: cs, ts, u, h, c, hc, h1, h2 => by
    unfold tcL at h
    cases hh : tcS d ts with
    | none => rw [hh] at h; cases h
    | some v =>
      rw [hh] at h
      rcases List.mem_cons.mp hc with rfl | hc
      · rcases Int.lt_or_le c 10009 with k | k
        · exact k
        · unfold tcS at hh
          rw [if_neg (by omega), if_neg (by omega), if_neg (by omega), if_neg (by omega), if_neg (by omega)] at hh
          cases hh
      · exact tcL_nm cs v u h c hc h1 h2
theorem evL_c {nm nm' : Nat → Int} : ∀ (cl : List Int) (st : List Int), (∀ c, c ∈ cl → 10000 ≤ c → c < 20000 → nm (c - 10000).toNat = nm' (c - 10000).toNat) → evL nm cl st = evL nm' cl st
  | [], _, _ => rfl
  | c :: cs, st, h => by
    have e : evS nm c st = evS nm' c st := by
      unfold evS
      by_cases h1 : c < 10000
      · rw [if_pos h1, if_pos h1]
      · by_cases h2 : c < 20000
        · rw [if_neg h1, if_neg h1, if_pos h2, if_pos h2, h c List.mem_cons_self (by omega) h2]
        · rw [if_neg h1, if_neg h1, if_neg h2, if_neg h2]
    show evL nm cs (evS nm c st) = evL nm' cs (evS nm' c st)
    rw [e]
    exact evL_c cs _ (fun d hd => h d (List.mem_cons_of_mem _ hd))
theorem hnF_of {x : Int} {cl : List Int} (h : x ∈ cl) : hnF cl x cl.length = true := by
  obtain ⟨i, hi, e⟩ := List.mem_iff_getElem.mp h
  refine hnF_mono (i := i + 1) ?_ _ hi
  show (hnF cl x i || decide (cl.getD i 0 = x)) = true
  rw [decide_eq_true (by rw [List.getD_eq_getElem?_getD, List.getElem?_eq_getElem hi]; exact e)]
  exact Bool.or_true _
theorem anyB_of {f : Nat → Bool} {i : Nat} : ∀ n, i < n → f i = true → anyB f n = true
  | 0, h, _ => absurd h (Nat.not_lt_zero _)
  | n + 1, h, k => by
    show (anyB f n || f n) = true
    by_cases e : i = n
    · subst e; rw [k]; exact Bool.or_true _
    · rw [anyB_of n (by omega) k]; rfl
theorem anyB_c {f g : Nat → Bool} : ∀ n, (∀ i, i < n → f i = g i) → anyB f n = anyB g n
  | 0, _ => rfl
  | n + 1, h => by
    show (anyB f n || f n) = (anyB g n || g n)
    rw [anyB_c n (fun i hi => h i (by omega)), h n (by omega)]
theorem allB_c {f g : Nat → Bool} : ∀ n, (∀ i, i < n → f i = g i) → allB f n = allB g n
  | 0, _ => rfl
  | n + 1, h => by
    show (allB f n && f n) = (allB g n && g n)
    rw [allB_c n (fun i hi => h i (by omega)), h n (by omega)]
theorem allB_and {f g : Nat → Bool} : ∀ n, allB (fun i => f i && g i) n = (allB f n && allB g n)
  | 0 => rfl
  | n + 1 => by
    show (allB (fun i => f i && g i) n && (f n && g n)) = ((allB f n && f n) && (allB g n && g n))
    rw [allB_and n]
    cases allB f n <;> cases allB g n <;> cases f n <;> cases g n <;> rfl
/-- the two sides' RULES -/
def RuE (w u : AW) (nr : Nat) (rp mq : Nat → Nat) (cl : Nat → List Int) : Prop := ∀ i, i < nr → w.2.1 (rp i) 0 = u.2.1 (mq i) 0 ∧ 2000 ≤ rp i ∧ tcL (cl i) [] = some [true]
theorem ev_rule {w v u : AW} {n : Nat → Nat} {q : Nat → Nat → Nat} {np S S' rn sn L nr : Nat} {cl : Nat → List Int} {hi : Int} (hR : RLX w u n q np S rn sn) (hL : L < 2) (hT : TN w v L n q S S' rn sn nr cl hi) {i : Nat} (hi' : i < nr) (htc : tcL (cl i) [] = some [true]) :
    evL (v.2.1 26) (cl i) [] = evL (nmM u L np rn sn hi) (cl i) [] := by
  refine evL_c _ _ (fun c hc h1 h2 => ?_)
  have h3 := tcL_nm _ _ _ htc c hc h1 h2
  refine nmT hR hL hT _ (by omega) (fun e => ?_)
  refine anyB_of (i := i) nr hi' ?_
  have : c = 10000 + 1 := by omega
  rw [this] at hc
  exact hnF_of hc
theorem rl_both {w v u : AW} {n : Nat → Nat} {q : Nat → Nat → Nat} {np S S' rn sn L nr : Nat} {rp mq : Nat → Nat} {cl : Nat → List Int} {hi : Int} (hR : RLX w u n q np S rn sn) (hU : RuE w u nr rp mq cl) (hL : L < 2) (hT : TN w v L n q S S' rn sn nr cl hi) (act : Int) {i : Nat} (hi' : i < nr) :
    rlT v rp cl act i = mlT u mq cl (nmM u L np rn sn hi) act i ∧ rlN v rp cl act i = mlN u mq cl (nmM u L np rn sn hi) act i := by
  obtain ⟨k1, k2, k3⟩ := hU i hi'
  unfold rlT mlT rlN mlN
  rw [ev_rule hR hL hT hi' k3, fsI hT.1 (j := rp i) ⟨by omega, by omega, by omega, by omega, by omega⟩ (by omega) (by omega), k1]
  exact ⟨rfl, rfl⟩
theorem any_both {w v u : AW} {n : Nat → Nat} {q : Nat → Nat → Nat} {np S S' rn sn L nr : Nat} {rp mq : Nat → Nat} {cl : Nat → List Int} {hi : Int} (hR : RLX w u n q np S rn sn) (hU : RuE w u nr rp mq cl) (hL : L < 2) (hT : TN w v L n q S S' rn sn nr cl hi) (act : Int) :
    anyB (rlT v rp cl act) nr = anyB (mlT u mq cl (nmM u L np rn sn hi) act) nr := anyB_c nr (fun _ h => (rl_both hR hU hL hT act h).1)
theorem all_both {w v u : AW} {n : Nat → Nat} {q : Nat → Nat → Nat} {np S S' rn sn L nr : Nat} {rp mq : Nat → Nat} {cl : Nat → List Int} {hi : Int} (hR : RLX w u n q np S rn sn) (hU : RuE w u nr rp mq cl) (hL : L < 2) (hT : TN w v L n q S S' rn sn nr cl hi) (act : Int) :
    allB (rlN v rp cl act) nr = allB (mlN u mq cl (nmM u L np rn sn hi) act) nr := allB_c nr (fun _ h => (rl_both hR hU hL hT act h).2)
theorem lw_both {w v u : AW} {n : Nat → Nat} {q : Nat → Nat → Nat} {np S S' rn sn L nr : Nat} {rp mq : Nat → Nat} {cl : Nat → List Int} (hR : RLX w u n q np S rn sn) (hU : RuE w u nr rp mq cl) (hL : L < 2) (hT : TN w v L n q S S' rn sn nr cl 0) :
    lwF v rp cl nr = wkM u np rn sn nr mq cl L := by
  unfold lwF wkM
  rw [any_both hR hU hL hT, all_both hR hU hL hT]
  rfl
theorem sy_both {w v u : AW} {n : Nat → Nat} {q : Nat → Nat → Nat} {np S S' rn sn L nr : Nat} {rp mq : Nat → Nat} {cl : Nat → List Int} {a : Int} (hR : RLX w u n q np S rn sn) (hU : RuE w u nr rp mq cl) (hL : L < 2) (hT : TN w v L n q S S' rn sn nr cl 0) (ha : 0 ≤ a ∧ a ≤ 2) :
    syF v rp cl nr a = (if a = 0 then saM u nr mq cl (nmM u L np rn sn 0) 0 else if a = 1 then saM u nr mq cl (nmM u L np rn sn 0) 2 else wkM u np rn sn nr mq cl L) := by
  unfold syF
  by_cases h2 : a = 2
  · rw [if_pos h2, if_neg (by omega), if_neg (by omega)]
    exact lw_both hR hU hL hT
  · rw [if_neg h2, any_both hR hU hL hT]
    by_cases h0 : a = 0
    · rw [if_pos h0, if_pos h0]; rfl
    · rw [if_neg h0, if_neg h0, if_pos (by omega)]; rfl
theorem cg_both {w v u : AW} {n : Nat → Nat} {q : Nat → Nat → Nat} {np S S' rn sn L nr : Nat} {rp mq : Nat → Nat} {cl : Nat → List Int} {b : Bool} (hR : RLX w u n q np S rn sn) (hU : RuE w u nr rp mq cl) (hL : L < 2) (hc : w.2.1 0 14 = u.2.1 400 6) (hC : CGo w v L n q S S' rn sn nr rp cl b) :
    b = mwM u np rn sn nr mq cl L := by
  obtain ⟨-, -, -, h1, h2⟩ := hC
  unfold mwM
  rw [← hc]
  by_cases e : w.2.1 0 14 = -2 ∨ w.2.1 0 14 = (L : Int)
  · obtain ⟨x, hx, hb⟩ := h2 e
    rw [hb, lw_both hR hU hL hx]
    rcases e with e | e
    · rw [decide_eq_true e]; rfl
    · rw [decide_eq_true e, Bool.or_true]; rfl
  · rw [h1 e, decide_eq_false (fun c => e (Or.inl c)), decide_eq_false (fun c => e (Or.inr c))]
    rfl
theorem lv_split (u : AW) (np rn sn nr : Nat) (mq : Nat → Nat) (cl : Nat → List Int) (hi : Int) : lvM u np rn sn nr mq cl hi = (allB (mlN u mq cl (nmM u 0 np rn sn hi) 3) nr && allB (mlN u mq cl (nmM u 1 np rn sn hi) 3) nr) := by
  unfold lvM
  rw [← allB_and]
  refine allB_c nr (fun i _ => ?_)
  show (!decide (u.2.1 (mq i) 0 = 3) || ((true && decide (evL (nmM u 0 np rn sn hi) (cl i) [] = [1])) && decide (evL (nmM u 1 np rn sn hi) (cl i) [] = [1]))) = ((!decide (u.2.1 (mq i) 0 = 3) || decide (evL (nmM u 0 np rn sn hi) (cl i) [] = [1])) && (!decide (u.2.1 (mq i) 0 = 3) || decide (evL (nmM u 1 np rn sn hi) (cl i) [] = [1])))
  cases decide (u.2.1 (mq i) 0 = 3) <;> cases decide (evL (nmM u 0 np rn sn hi) (cl i) [] = [1]) <;> cases decide (evL (nmM u 1 np rn sn hi) (cl i) [] = [1]) <;> rfl
theorem fm_both {w v u : AW} {n : Nat → Nat} {q : Nat → Nat → Nat} {np S S' rn sn nr : Nat} {rp mq : Nat → Nat} {cl : Nat → List Int} {hi : Int} {b : Bool} (hR : RLX w u n q np S rn sn) (hU : RuE w u nr rp mq cl) (hF : FMo w v n q S S' rn sn nr rp cl hi b) :
    b = lvM u np rn sn nr mq cl hi := by
  obtain ⟨-, -, x, S0, hx, h⟩ := hF
  rw [lv_split, ← all_both hR hU (by decide) hx]
  rcases h with ⟨h1, h2⟩ | ⟨h1, x1, y, hy, hz, h2⟩
  · rw [h1, h2]; rfl
  · rw [h1, h2]
    have hU' : RuE x1 u nr rp mq cl := fun i hi' => ⟨by
      obtain ⟨k1, k2, -⟩ := hU i hi'
      rw [fsI hy (j := rp i) ⟨by omega, by omega, by omega, by omega, by omega⟩ (by omega) (by omega)]; exact k1, (hU i hi').2⟩
    rw [← all_both (RL_fs hR hy) hU' (by decide) hz]
    rfl
