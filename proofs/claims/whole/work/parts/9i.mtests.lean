/-! ===== M's reader: its tests in the token's words ===== -/
theorem srt_R (k : Int) : R32 (srt k) := by
  unfold srt
  repeat (first | exact ⟨by decide, by decide⟩ | split)
theorem srt3 {k : Int} : srt k = 3 ↔ k = 2 := by
  unfold srt
  repeat (first | omega | split)
theorem srt1 {k : Int} : srt k = 1 ↔ k = 0 := by
  unfold srt
  repeat (first | omega | split)
theorem srt2 {k : Int} (h : 0 ≤ k) : srt k = 2 ↔ 4 ≤ k := by
  rw [srt_2]
  omega
/-- the token at hand, its facts -/
def TF (u : AW) (T : Nat → Int) (n a : Nat) (k v : Int) : Prop := u.2.1 400 50 = srt k ∧ (0 ≤ k ∧ k ≤ 7) ∧ (k = 2 → u.2.1 400 53 = v) ∧ u.2.1 400 51 = (skF T n a : Int) ∧ (2 ≤ k → u.2.1 400 49 = ((tokF T n (skF T n a)).2.2 : Int)) ∧ (k = 5 → 0 ≤ v ∧ v ≤ 8) ∧ (k = 2 → 0 ≤ v ∧ v ≤ 9999) ∧ R64 (u.2.1 400 56) ∧ (k ≠ 0 → (tokF T n (skF T n a)).2.2 ≤ n) ∧ R32 v ∧ (k = 6 → v = 105 ∨ v = 38 ∨ v = 124 ∨ v = 33)
theorem RQ_TF {u : AW} {T : Nat → Int} {n P nr a : Nat} {cm : List Int} {op tm : Int} (ha : a ≤ n) (h : RQ u T n P nr a cm op tm) {k v : Int} (hk : (tokF T n (skF T n a)).1 = k) (hv : (tokF T n (skF T n a)).2.1 = v) : TF u T n a k v := by
  obtain ⟨e17, e18, e19, e20, em, en, q2, q3, q1, g53, g51, g49, b6, b5, b2, bk, r56, r50, r52, hpn, hE⟩ := RQ_tk ha h hk hv
  have hb := (tokF_bd (T := T) h.1.2.2.2.2 h.1.2.2.1 hpn).1.2.1
  rw [hv] at hb
  have hs := h.2.1.2.1
  rw [hk] at hs
  exact ⟨hs, bk, g53, g51, g49, b5, b2, r56, fun q => (hE q).2, ⟨by omega, by omega⟩, b6⟩
section
variable {u : AW} {T : Nat → Int} {n P nr a : Nat} {cm : List Int} {op tm : Int} {k v : Int} (l : Launch)
theorem t_isKept (ha : a ≤ n) (h : RQ u T n P nr a cm op tm) (hk : (tokF T n (skF T n a)).1 = k) (hv : (tokF T n (skF T n a)).2.1 = v) : HT l yX12_isKept cX12_isKept 1 (some .boolean) 8 0 0 u [ar 400] (rI (if k = 6 then 1 else 0) u) := by
  obtain ⟨e17, e18, e19, e20, -, -, -, -, -, -, -, -, b6, -, -, -, r56, r50, -, -, -⟩ := RQ_tk ha h hk hv
  have c := c_X12_isKept l u h.1.1 r56 r50
  have e : ((u.2.1 400 50 = 2 ∧ u.2.1 400 56 = wcF 17 (slen 17)) ∨ (u.2.1 400 50 = 2 ∧ u.2.1 400 56 = wcF 18 (slen 18)) ∨ (u.2.1 400 50 = 2 ∧ u.2.1 400 56 = wcF 19 (slen 19)) ∨ (u.2.1 400 50 = 2 ∧ u.2.1 400 56 = wcF 20 (slen 20))) ↔ k = 6 := by
    rw [e17, e18, e19, e20]
    clear c
    constructor
    · intro q; omega
    · intro q; have := b6 q; omega
  simp only [e] at c
  exact c
theorem t_nameHere (ha : a ≤ n) (h : RQ u T n P nr a cm op tm) (hk : (tokF T n (skF T n a)).1 = k) (hv : (tokF T n (skF T n a)).2.1 = v) : HT l yX12_nameHere cX12_nameHere 1 (some .int) 8 0 0 u [ar 400] (rI (if k = 5 then v else -1) u) := by
  obtain ⟨-, -, -, -, -, en, -, -, -, -, -, -, -, -, -, -, r56, r50, -, -, -⟩ := RQ_tk ha h hk hv
  have c := c_X12_nameHere l u h.1.1 r56 r50
  rw [en] at c
  exact c
theorem t_is (ha : a ≤ n) (h : RQ u T n P nr a cm op tm) (hk : (tokF T n (skF T n a)).1 = k) (hv : (tokF T n (skF T n a)).2.1 = v) (z : Int) (hz : R32 z) : HT l yX12_is cX12_is 2 (some .boolean) 1 0 0 u [ar 400, ai z] (rI (if k = 3 ∧ v = z then 1 else 0) u) := by
  obtain ⟨-, -, -, -, em, -, -, -, -, -, -, -, -, -, -, -, -, r50, r52, -, -⟩ := RQ_tk ha h hk hv
  have c := c_X12_is l u z h.1.1 r50 r52 hz
  simp only [em z] at c
  exact c
theorem t_isWord (ha : a ≤ n) (h : RQ u T n P nr a cm op tm) (hk : (tokF T n (skF T n a)).1 = k) (hv : (tokF T n (skF T n a)).2.1 = v) (i : Nat) (hi : i < 34) (hi2 : 17 ≤ i) : HT l yX12_isWord cX12_isWord 2 (some .boolean) 7 0 0 u [ar 400, ar (21000 + i)] (rI (if k = (kc (xi i)).1 ∧ v = (kc (xi i)).2 then 1 else 0) u) := by
  obtain ⟨-, -, -, -, -, -, -, -, -, -, -, -, -, -, -, -, r56, r50, -, hpn, -⟩ := RQ_tk ha h hk hv
  have c := c_X12_isWord l u i h.1.1 hi r56 r50
  have e := tkw h.1 h.2.1 hpn i hi hi2
  rw [hk, hv] at e
  simp only [e] at c
  exact c
theorem t_put (h : RQ u T n P nr a cm op tm) (s v : Int) (hl : cm.length < 300) : HT l yX10_put cX10_put 3 none 1 0 0 u [ar P, ai s, ai v] (rV (puW u P cm.length s v)) := c_X10_put _ _ P cm.length s v h.2.2.2.1.1 h.2.2.2.1.2.1 h.2.2.2.1.2.2.1 h.2.2.2.1.2.2.2.1 h.2.2.2.1.2.2.2.2.1 h.2.2.2.1.2.2.2.2.2.1 hl
theorem t_fresh (h : RQ u T n P nr a cm op tm) : HT l yX12_fresh cX12_fresh 1 (some (.object "LakeBreathModel$Rule")) 1 0 0 u [ar 400] (fun r w' => r = some (ar P) ∧ w' = u) := c_X12_fresh _ _ nr P h.1.1 h.2.2.1.1 h.2.2.1.2.1 h.2.2.1.2.2.1
theorem t_next (ha : a ≤ n) (h : RQ u T n P nr a cm op tm) (hk2 : 2 ≤ (tokF T n (skF T n a)).1) : HT l yX12_next cX12_next 3 none 2 0 0 u [ar 400] (fun r w' => r = none ∧ MX u w' ∧ TKs w' T n (skF T n (tokF T n (skF T n a)).2.2)) := by
  have t := RQ_TF ha h rfl rfl
  exact c_X12_next l u T n (tokF T n (skF T n a)).2.2 h.1 (t.2.2.2.2.2.2.2.2.1 (by omega)) (t.2.2.2.2.1 hk2) t.2.2.2.2.2.2.2.1
end
