theorem fw_X6_23 : Cond.fieldLink RX6 23 (TX6 2).1 (TX6 2).2.1 (TX6 2).2.2.1 ∈ gtbl := tw_one 292 (by decide +kernel) (by decide +kernel)
theorem mw_X6_166 : lkV RX6 166 RX4 yX4_becomeLike cX4_becomeLike 2 none := ⟨tw_mem _ [452, 453, 454, 69] (by decide +kernel) (by decide +kernel), tw_one 455 (by decide +kernel) (by decide +kernel), rfl, by decide, by decide⟩
theorem ln_X4_becomeLike : (parseMethodDescriptor yX4_becomeLike.desc).map (fun d => d.parameters.length) = some 1 := by decide +kernel
theorem fw_X6_27 : Cond.fieldLink RX6 27 (TX6 3).1 (TX6 3).2.1 (TX6 3).2.2.1 ∈ gtbl := tw_one 293 (by decide +kernel) (by decide +kernel)
theorem fw_X6_31 : Cond.fieldLink RX6 31 (TX6 4).1 (TX6 4).2.1 (TX6 4).2.2.1 ∈ gtbl := tw_one 294 (by decide +kernel) (by decide +kernel)
