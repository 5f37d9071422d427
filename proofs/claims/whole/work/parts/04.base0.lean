/-! ===== the abstract machine: values, worlds by places, what they are on the heap ===== -/
/-- values: an int (by any whole number that it is the rest of), a place or null, a long -/
abbrev AV : Type := Int ⊕ (Option Nat ⊕ Int)
/-- worlds: each place's kind and length; its ints; its references, by places. Kinds: 0 nothing, 1 int[], 2 byte[], 3 boolean[], 4 long[], 100 + c an object of class c, 200 + c an array of such -/
abbrev AW : Type := (Nat → Nat × Nat) × (Nat → Nat → Int) × (Nat → Nat → Option Nat)
abbrev ai (z : Int) : AV := Sum.inl z
abbrev aq (r : Option Nat) : AV := Sum.inr (Sum.inl r)
abbrev ar (k : Nat) : AV := Sum.inr (Sum.inl (some k))
abbrev an : AV := Sum.inr (Sum.inl none)
abbrev aL (z : Int) : AV := Sum.inr (Sum.inr z)
def cv (ad : Nat → Nat) : AV → Value
  | .inl z => .int (Int32.ofInt z)
  | .inr (.inl none) => .null
  | .inr (.inl (some k)) => .ref (ad k)
  | .inr (.inr z) => .long (Int64.ofInt z)
/-- class places and slots, array classes by kind, the foreign places' addresses, the heap as it was at the law's start -/
abbrev ZT : Type := (Nat → ClassId) × (Nat → Nat → Nat) × (Nat → ClassId) × (Nat → Nat) × Heap
abbrev zH (Z : ZT) : Heap := Z.2.2.2.2
abbrev zB (Z : ZT) : Nat := Z.2.2.2.2.size
def zA (Z : ZT) : Nat → Prop := fun q => zB Z ≤ q
def tyOf (ci : Nat) : Nat → FieldType := match ci with
  | 0 => tyX0 | 1 => tyX1 | 2 => tyX2 | 3 => tyX3 | 4 => tyX4 | 5 => tyX5 | 6 => tyX6 | 7 => tyX7 | 8 => tyX8 | 9 => tyX9 | 10 => tyX10 | 11 => tyX11 | _ => tyX12
def clN (ci : Nat) : String := match ci with
  | 0 => RX0 | 1 => RX1 | 2 => RX2 | 3 => RX3 | 4 => RX4 | 5 => RX5 | 6 => RX6 | 7 => RX7 | 8 => RX8 | 9 => RX9 | 10 => RX10 | 11 => RX11 | _ => RX12
def clF (ci : Nat) : u_T := match ci with
  | 0 => TX0 | 1 => TX1 | 2 => TX2 | 3 => TX3 | 4 => TX4 | 5 => TX5 | 6 => TX6 | 7 => TX7 | 8 => TX8 | 9 => TX9 | 10 => TX10 | 11 => TX11 | _ => TX12
def clS (ci : Nat) : Nat := match ci with
  | 0 => 8 | 1 => 2 | 2 => 15 | 3 => 7 | 4 => 2 | 5 => 9 | 6 => 17 | 7 => 9 | 8 => 3 | 9 => 17 | 10 => 4 | 11 => 8 | _ => 78
/-- the tables' words that hold in every later state too -/
def gw_tbl : List Cond := lw_tbl.filter goodWord
theorem gw_in {c : Cond} (h : c ∈ lw_tbl) (hg : goodWord c = true) : c ∈ gw_tbl := List.mem_filter.mpr ⟨h, hg⟩
/-- a field is linked: its word, its class's words, its number -/
def FL (own : String) (idx ci f : Nat) : Prop := Cond.fieldLink own idx (clN ci) (clF ci f).2.1 (clF ci f).2.2.1 ∈ gw_tbl ∧ (∀ c ∈ u_ws (clN ci) (clF ci) (clS ci), c ∈ gw_tbl) ∧ f < clS ci ∧ ci < 13 ∧ (clF ci f).1 = clN ci
/-- a call of an own method: its code's word and its name -/
def CL (own : String) (idx : Nat) (y : MethodName) (cc : ByteArray) (maxL : Nat) (ret : Option FieldType) (na : Nat) : Prop :=
  Cond.methodLink own idx y ∈ gw_tbl ∧ Cond.initialized y.cls ∈ gw_tbl ∧ Cond.code y cc maxL ret ∈ gw_tbl ∧ (y.cls ≠ "java/lang/invoke/MethodHandle" ∧ y.cls ≠ "java/lang/invoke/VarHandle" ∧ (parseMethodDescriptor y.desc).map (fun d => d.parameters.length) = some na)
/-- links of private members of nest mates -/
def nestM : List (String × Nat × MethodName × String) := [("LakeBreath", 37, ⟨"LakeBreath$RuleBook", "<init>", "()V"⟩, "LakeBreath"), ("LakeBreath", 44, ⟨"LakeBreath$Strings", "<init>", "()V"⟩, "LakeBreath"), ("LakeBreath", 51, ⟨"LakeBreath$Country", "<init>", "()V"⟩, "LakeBreath"), ("LakeBreath$Lake", 37, ⟨"LakeBreath", "isLayer", "(I)Z"⟩, "LakeBreath"), ("LakeBreath$Lake", 60, ⟨"LakeBreath", "fullBy", "(II)I"⟩, "LakeBreath"), ("LakeBreath$Country", 40, ⟨"LakeBreath", "isCell", "(I)Z"⟩, "LakeBreath"), ("LakeBreathModel", 315, ⟨"LakeBreathModel$Rule", "<init>", "()V"⟩, "LakeBreathModel")]
def nestF : List (String × Nat × String × String × String × String) := [("LakeBreathModel", 316, "LakeBreathModel$Stop", "kind", "I", "LakeBreathModel"), ("LakeBreathModel", 322, "LakeBreathModel$Stop", "place", "I", "LakeBreathModel"), ("LakeBreathModel", 408, "LakeBreathModel$Rule", "act", "I", "LakeBreathModel"), ("LakeBreathModel", 382, "LakeBreathModel$Rule", "items", "I", "LakeBreathModel"), ("LakeBreathModel", 464, "LakeBreathModel$Rule", "sign", "[I", "LakeBreathModel"), ("LakeBreathModel", 467, "LakeBreathModel$Rule", "value", "[I", "LakeBreathModel")]
def FN (own : String) (idx ci f : Nat) : Prop := (∃ host : String, (own, idx, clN ci, (clF ci f).2.1, (clF ci f).2.2.1, host) ∈ nestF) ∧ (∀ c ∈ u_ws (clN ci) (clF ci) (clS ci), c ∈ gw_tbl) ∧ f < clS ci ∧ ci < 13 ∧ (clF ci f).1 = clN ci
def CN (own : String) (idx : Nat) (y : MethodName) (cc : ByteArray) (maxL : Nat) (ret : Option FieldType) (na : Nat) : Prop :=
  (∃ host : String, (own, idx, y, host) ∈ nestM) ∧ Cond.initialized y.cls ∈ gw_tbl ∧ Cond.code y cc maxL ret ∈ gw_tbl ∧ (y.cls ≠ "java/lang/invoke/MethodHandle" ∧ y.cls ≠ "java/lang/invoke/VarHandle" ∧ (parseMethodDescriptor y.desc).map (fun d => d.parameters.length) = some na)
