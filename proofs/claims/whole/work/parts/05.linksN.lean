/-! nest mates -/
theorem clX9_37 : CN RX9 37 yX5_init cX5_init 1 none 0 := ⟨⟨"LakeBreath", by decide +kernel⟩, gw_in (List.mem_of_getElem? (i := 113) (by decide +kernel)) (by decide +kernel), gw_in (List.mem_of_getElem? (i := 215) (by decide +kernel)) (by decide +kernel), by decide +kernel, by decide +kernel, by decide +kernel⟩
theorem in_X5_init : Cond.instanceMethod yX5_init ∈ gw_tbl := gw_in (List.mem_of_getElem? (i := 214) (by decide +kernel)) (by decide +kernel)
theorem clX9_44 : CN RX9 44 yX7_init cX7_init 1 none 0 := ⟨⟨"LakeBreath", by decide +kernel⟩, gw_in (List.mem_of_getElem? (i := 115) (by decide +kernel)) (by decide +kernel), gw_in (List.mem_of_getElem? (i := 315) (by decide +kernel)) (by decide +kernel), by decide +kernel, by decide +kernel, by decide +kernel⟩
theorem in_X7_init : Cond.instanceMethod yX7_init ∈ gw_tbl := gw_in (List.mem_of_getElem? (i := 314) (by decide +kernel)) (by decide +kernel)
theorem clX9_51 : CN RX9 51 yX0_init cX0_init 1 none 0 := ⟨⟨"LakeBreath", by decide +kernel⟩, gw_in (List.mem_of_getElem? (i := 116) (by decide +kernel)) (by decide +kernel), gw_in (List.mem_of_getElem? (i := 351) (by decide +kernel)) (by decide +kernel), by decide +kernel, by decide +kernel, by decide +kernel⟩
theorem in_X0_init : Cond.instanceMethod yX0_init ∈ gw_tbl := gw_in (List.mem_of_getElem? (i := 350) (by decide +kernel)) (by decide +kernel)
theorem clX2_37 : CN RX2 37 yX9_isLayer cX9_isLayer 1 (some .boolean) 1 := ⟨⟨"LakeBreath", by decide +kernel⟩, gw_in (List.mem_of_getElem? (i := 111) (by decide +kernel)) (by decide +kernel), gw_in (List.mem_of_getElem? (i := 462) (by decide +kernel)) (by decide +kernel), by decide +kernel, by decide +kernel, by decide +kernel⟩
theorem clX2_60 : CN RX2 60 yX9_fullBy cX9_fullBy 2 (some .int) 2 := ⟨⟨"LakeBreath", by decide +kernel⟩, gw_in (List.mem_of_getElem? (i := 111) (by decide +kernel)) (by decide +kernel), gw_in (List.mem_of_getElem? (i := 551) (by decide +kernel)) (by decide +kernel), by decide +kernel, by decide +kernel, by decide +kernel⟩
theorem clX0_40 : CN RX0 40 yX9_isCell cX9_isCell 1 (some .boolean) 1 := ⟨⟨"LakeBreath", by decide +kernel⟩, gw_in (List.mem_of_getElem? (i := 111) (by decide +kernel)) (by decide +kernel), gw_in (List.mem_of_getElem? (i := 1060) (by decide +kernel)) (by decide +kernel), by decide +kernel, by decide +kernel, by decide +kernel⟩
theorem flX12_316 : FN RX12 316 11 6 := ⟨⟨"LakeBreathModel", by decide +kernel⟩, wsin_11, by decide, by decide, rfl⟩
theorem flX12_322 : FN RX12 322 11 7 := ⟨⟨"LakeBreathModel", by decide +kernel⟩, wsin_11, by decide, by decide, rfl⟩
theorem clX12_315 : CN RX12 315 yX10_init cX10_init 1 none 0 := ⟨⟨"LakeBreathModel", by decide +kernel⟩, gw_in (List.mem_of_getElem? (i := 133) (by decide +kernel)) (by decide +kernel), gw_in (List.mem_of_getElem? (i := 1810) (by decide +kernel)) (by decide +kernel), by decide +kernel, by decide +kernel, by decide +kernel⟩
theorem in_X10_init : Cond.instanceMethod yX10_init ∈ gw_tbl := gw_in (List.mem_of_getElem? (i := 1809) (by decide +kernel)) (by decide +kernel)
theorem flX12_408 : FN RX12 408 10 0 := ⟨⟨"LakeBreathModel", by decide +kernel⟩, wsin_10, by decide, by decide, rfl⟩
theorem flX12_382 : FN RX12 382 10 1 := ⟨⟨"LakeBreathModel", by decide +kernel⟩, wsin_10, by decide, by decide, rfl⟩
theorem flX12_464 : FN RX12 464 10 2 := ⟨⟨"LakeBreathModel", by decide +kernel⟩, wsin_10, by decide, by decide, rfl⟩
theorem flX12_467 : FN RX12 467 10 3 := ⟨⟨"LakeBreathModel", by decide +kernel⟩, wsin_10, by decide, by decide, rfl⟩
