theorem mw_X2_151 : lkV RX2 151 RJ0 yJ0_length_8abf5 cJ0_length_8abf5 1 (some .int) := ⟨tw_mem _ [509, 510, 511, 78] (by decide +kernel) (by decide +kernel), tw_one 512 (by decide +kernel) (by decide +kernel), rfl, by decide, by decide⟩
theorem mw_X2_157 : lkV RX2 157 RJ0 yJ0_charAt_5068e cJ0_charAt_5068e 2 (some .char) := ⟨tw_mem _ [519, 520, 521, 78] (by decide +kernel) (by decide +kernel), tw_one 522 (by decide +kernel) (by decide +kernel), rfl, by decide, by decide⟩
theorem mw_X2_49 : lkV RX2 49 RX2 yX2_isWord cX2_isWord 3 (some .boolean) := ⟨tw_mem _ [505, 507, 10, 74] (by decide +kernel) (by decide +kernel), tw_one 508 (by decide +kernel) (by decide +kernel), rfl, by decide, by decide⟩
theorem ln_X2_isWord : (parseMethodDescriptor yX2_isWord.desc).map (fun d => d.parameters.length) = some 1 := by decide +kernel
theorem mw_X2_79 : lkV RX2 79 RX2 yX2_readOffset cX2_readOffset 4 (some .boolean) := ⟨tw_mem _ [600, 602, 19, 74] (by decide +kernel) (by decide +kernel), tw_one 603 (by decide +kernel) (by decide +kernel), rfl, by decide, by decide⟩
theorem ln_X2_readOffset : (parseMethodDescriptor yX2_readOffset.desc).map (fun d => d.parameters.length) = some 1 := by decide +kernel
theorem mw_X2_74 : lkV RX2 74 RX2 yX2_readPlayer cX2_readPlayer 5 (some .boolean) := ⟨tw_mem _ [593, 595, 18, 74] (by decide +kernel) (by decide +kernel), tw_one 596 (by decide +kernel) (by decide +kernel), rfl, by decide, by decide⟩
theorem ln_X2_readPlayer : (parseMethodDescriptor yX2_readPlayer.desc).map (fun d => d.parameters.length) = some 2 := by decide +kernel
theorem mw_X2_69 : lkV RX2 69 RX2 yX2_readSlow cX2_readSlow 2 (some .boolean) := ⟨tw_mem _ [588, 590, 17, 74] (by decide +kernel) (by decide +kernel), tw_one 591 (by decide +kernel) (by decide +kernel), rfl, by decide, by decide⟩
theorem ln_X2_readSlow : (parseMethodDescriptor yX2_readSlow.desc).map (fun d => d.parameters.length) = some 1 := by decide +kernel
theorem mw_X2_64 : lkV RX2 64 RX2 yX2_readMill cX2_readMill 3 (some .boolean) := ⟨tw_mem _ [582, 584, 16, 74] (by decide +kernel) (by decide +kernel), tw_one 585 (by decide +kernel) (by decide +kernel), rfl, by decide, by decide⟩
theorem ln_X2_readMill : (parseMethodDescriptor yX2_readMill.desc).map (fun d => d.parameters.length) = some 1 := by decide +kernel
theorem mw_X2_59 : lkV RX2 59 RX2 yX2_readEar cX2_readEar 3 (some .boolean) := ⟨tw_mem _ [576, 578, 15, 74] (by decide +kernel) (by decide +kernel), tw_one 579 (by decide +kernel) (by decide +kernel), rfl, by decide, by decide⟩
theorem ln_X2_readEar : (parseMethodDescriptor yX2_readEar.desc).map (fun d => d.parameters.length) = some 1 := by decide +kernel
theorem mw_X2_53 : lkV RX2 53 RX2 yX2_readWindow cX2_readWindow 3 (some .boolean) := ⟨tw_mem _ [557, 559, 11, 74] (by decide +kernel) (by decide +kernel), tw_one 560 (by decide +kernel) (by decide +kernel), rfl, by decide, by decide⟩
theorem ln_X2_readWindow : (parseMethodDescriptor yX2_readWindow.desc).map (fun d => d.parameters.length) = some 1 := by decide +kernel
theorem jw_X2_34 : Cond.methodLink RX2 34 Lib.Math.min.name ∈ gtbl ∧ Cond.static Lib.Math.min.name ∈ gtbl ∧ Cond.initialized "java/lang/Math" ∈ gtbl ∧ Cond.code Lib.Math.min.name Lib.Math.min.code 2 (some .int) ∈ gtbl := ⟨tw_one 477 (by decide +kernel) (by decide +kernel), tw_one 460 (by decide +kernel) (by decide +kernel), tw_one 76 (by decide +kernel) (by decide +kernel), tw_one 461 (by decide +kernel) (by decide +kernel)⟩
theorem mw_X2_43 : lkV RX2 43 RX2 yX2_readItem cX2_readItem 3 (some .boolean) := ⟨tw_mem _ [500, 502, 9, 74] (by decide +kernel) (by decide +kernel), tw_one 503 (by decide +kernel) (by decide +kernel), rfl, by decide, by decide⟩
theorem ln_X2_readItem : (parseMethodDescriptor yX2_readItem.desc).map (fun d => d.parameters.length) = some 2 := by decide +kernel
theorem fw_X2_31 : Cond.fieldLink RX2 31 (TX2 6).1 (TX2 6).2.1 (TX2 6).2.2.1 ∈ gtbl := tw_one 272 (by decide +kernel) (by decide +kernel)
theorem jw_X5_66 : Cond.methodLink RX5 66 fd_x ∈ gtbl ∧ Cond.static fd_x ∈ gtbl ∧ Cond.initialized "java/lang/Math" ∈ gtbl ∧ Cond.code fd_x cJ9_floorDiv_7cf53 3 (some .int) ∈ gtbl := ⟨tw_one 701 (by decide +kernel) (by decide +kernel), tw_one 702 (by decide +kernel) (by decide +kernel), tw_one 76 (by decide +kernel) (by decide +kernel), tw_one 703 (by decide +kernel) (by decide +kernel)⟩
theorem fw_X6_35 : Cond.fieldLink RX6 35 (TX6 5).1 (TX6 5).2.1 (TX6 5).2.2.1 ∈ gtbl := tw_one 295 (by decide +kernel) (by decide +kernel)
theorem mw_X6_166 : lkV RX6 166 RX4 yX4_becomeLike cX4_becomeLike 2 none := ⟨tw_mem _ [452, 453, 454, 69] (by decide +kernel) (by decide +kernel), tw_one 455 (by decide +kernel) (by decide +kernel), rfl, by decide, by decide⟩
theorem ln_X4_becomeLike : (parseMethodDescriptor yX4_becomeLike.desc).map (fun d => d.parameters.length) = some 1 := by decide +kernel
theorem mw_X6_170 : lkV RX6 170 RX4 yX4_makeEmpty cX4_makeEmpty 1 none := ⟨tw_mem _ [465, 466, 467, 69] (by decide +kernel) (by decide +kernel), tw_one 468 (by decide +kernel) (by decide +kernel), rfl, by decide, by decide⟩
theorem ln_X4_makeEmpty : (parseMethodDescriptor yX4_makeEmpty.desc).map (fun d => d.parameters.length) = some 0 := by decide +kernel
theorem mw_X6_173 : lkV RX6 173 RX0 yX0_makeEmpty cX0_makeEmpty 1 none := ⟨tw_mem _ [469, 470, 471, 70] (by decide +kernel) (by decide +kernel), tw_one 472 (by decide +kernel) (by decide +kernel), rfl, by decide, by decide⟩
theorem ln_X0_makeEmpty : (parseMethodDescriptor yX0_makeEmpty.desc).map (fun d => d.parameters.length) = some 0 := by decide +kernel
theorem fw_X6_68 : Cond.fieldLink RX6 68 (TX6 11).1 (TX6 11).2.1 (TX6 11).2.2.1 ∈ gtbl := tw_one 301 (by decide +kernel) (by decide +kernel)
theorem mw_X6_174 : lkV RX6 174 RX2 yX2_readTown cX2_readTown 6 (some .int) := ⟨tw_mem _ [473, 474, 475, 74] (by decide +kernel) (by decide +kernel), tw_one 476 (by decide +kernel) (by decide +kernel), rfl, by decide, by decide⟩
theorem ln_X2_readTown : (parseMethodDescriptor yX2_readTown.desc).map (fun d => d.parameters.length) = some 4 := by decide +kernel
theorem fw_X6_178 : Cond.fieldLink RX6 178 (TX2 6).1 (TX2 6).2.1 (TX2 6).2.2.1 ∈ gtbl := tw_one 273 (by decide +kernel) (by decide +kernel)
theorem fw_X6_23 : Cond.fieldLink RX6 23 (TX6 2).1 (TX6 2).2.1 (TX6 2).2.2.1 ∈ gtbl := tw_one 292 (by decide +kernel) (by decide +kernel)
theorem fw_X6_27 : Cond.fieldLink RX6 27 (TX6 3).1 (TX6 3).2.1 (TX6 3).2.2.1 ∈ gtbl := tw_one 293 (by decide +kernel) (by decide +kernel)
theorem fw_X6_31 : Cond.fieldLink RX6 31 (TX6 4).1 (TX6 4).2.1 (TX6 4).2.2.1 ∈ gtbl := tw_one 294 (by decide +kernel) (by decide +kernel)
