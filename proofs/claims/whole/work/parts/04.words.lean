abbrev oX0 (h : Nat) (q : Nat → Nat) (d : Nat → Int32) : Nat × va_E := (h, .inr (0, [.int (d 0), .ref (q 1), .ref (q 2), .ref (q 3), .ref (q 4), .ref (q 5), .ref (q 6), .int (d 7), .int (d 8), .ref (q 9)]))
theorem iX0 : ∀ w ∈ u_ws RX0 TX0 10, w ∈ gtbl := tw_mem _ [180, 182, 184, 186, 188, 190, 192, 194, 196, 198] (by decide +kernel) (by decide +kernel)
abbrev oX1 (h : Nat) (q : Nat → Nat) (d : Nat → Int32) : Nat × va_E := (h, .inr (1, [.int (d 0), .ref (q 1), .ref (q 2), .ref (q 3)]))
theorem iX1 : ∀ w ∈ u_ws RX1 TX1 4, w ∈ gtbl := tw_mem _ [218, 220, 222, 224] (by decide +kernel) (by decide +kernel)
abbrev oX2 (h : Nat) (q : Nat → Nat) (d : Nat → Int32) : Nat × va_E := (h, .inr (2, [.ref (q 0), .int (d 1), .int (d 2), .int (d 3), .int (d 4), .int (d 5), .int (d 6)]))
theorem iX2 : ∀ w ∈ u_ws RX2 TX2 7, w ∈ gtbl := tw_mem _ [274, 276, 278, 280, 282, 284, 286] (by decide +kernel) (by decide +kernel)
abbrev oX3 (h : Nat) (q : Nat → Nat) (d : Nat → Int32) : Nat × va_E := (h, .inr (3, [.ref (q 0), .ref (q 1), .int (d 2), .int (d 3)]))
theorem iX3 : ∀ w ∈ u_ws RX3 TX3 4, w ∈ gtbl := tw_mem _ [251, 253, 255, 257] (by decide +kernel) (by decide +kernel)
abbrev oX4 (h : Nat) (q : Nat → Nat) (d : Nat → Int32) : Nat × va_E := (h, .inr (4, [.int (d 0), .ref (q 1), .ref (q 2), .int (d 3), .ref (q 4), .ref (q 5), .int (d 6), .int (d 7), .int (d 8), .int (d 9), .int (d 10)]))
theorem iX4 : ∀ w ∈ u_ws RX4 TX4 11, w ∈ gtbl := tw_mem _ [123, 125, 127, 129, 131, 133, 135, 137, 139, 141, 143] (by decide +kernel) (by decide +kernel)
abbrev oX5 (h : Nat) (q : Nat → Nat) (d : Nat → Int32) : Nat × va_E := (h, .inr (5, [.ref (q 0), .ref (q 1)]))
theorem iX5 : ∀ w ∈ u_ws RX5 TX5 2, w ∈ gtbl := tw_mem _ [235, 237] (by decide +kernel) (by decide +kernel)
abbrev oX6 (h : Nat) (q : Nat → Nat) (d : Nat → Int32) : Nat × va_E := (h, .inr (6, [.ref (q 0), .ref (q 1), .ref (q 2), .ref (q 3), .ref (q 4), .ref (q 5), .ref (q 6), .ref (q 7), .ref (q 8), .ref (q 9), .ref (q 10), .ref (q 11), .ref (q 12), .int (d 13), .ref (q 14), .int (d 15), .int (d 16), .int (d 17)]))
theorem iX6 : ∀ w ∈ u_ws RX6 TX6 18, w ∈ gtbl := tw_mem _ [308, 310, 312, 314, 316, 318, 320, 322, 324, 326, 328, 330, 332, 334, 336, 338, 340, 342] (by decide +kernel) (by decide +kernel)
abbrev oX7 (h : Nat) (q : Nat → Nat) (d : Nat → Int32) : Nat × va_E := (h, .inr (7, [.ref (q 0), .ref (q 1), .ref (q 2), .ref (q 3), .ref (q 4), .ref (q 5), .ref (q 6), .int (d 7), .int (d 8), .ref (q 9), .ref (q 10), .ref (q 11), .ref (q 12), .ref (q 13), .ref (q 14), .ref (q 15), .int (d 16), .int (d 17), .int (d 18), .int (d 19), .int (d 20), .ref (q 21), .int (d 22)]))
theorem iX7 : ∀ w ∈ u_ws RX7 TX7 23, w ∈ gtbl := tw_mem _ [883, 885, 887, 889, 891, 893, 895, 897, 899, 901, 903, 905, 907, 909, 911, 913, 915, 917, 919, 921, 923, 925, 927] (by decide +kernel) (by decide +kernel)
theorem tsw_out3 {x : Int32} (h0 : ¬ x = 0) (h1 : ¬ x = 1) (h2 : ¬ x = 2) : x.toInt < 0 ∨ 2 < x.toInt := by
  have e0 : ¬ x.toInt = 0 := fun e => h0 (Int32.toInt_inj.mp e)
  have e1 : ¬ x.toInt = 1 := fun e => h1 (Int32.toInt_inj.mp e)
  have e2 : ¬ x.toInt = 2 := fun e => h2 (Int32.toInt_inj.mp e)
  omega
theorem tsw_out4 {x : Int32} (h0 : ¬ x = 0) (h1 : ¬ x = 1) (h2 : ¬ x = 2) (h3 : ¬ x = 3) : x.toInt < 0 ∨ 3 < x.toInt := by
  have e0 : ¬ x.toInt = 0 := fun e => h0 (Int32.toInt_inj.mp e)
  have e1 : ¬ x.toInt = 1 := fun e => h1 (Int32.toInt_inj.mp e)
  have e2 : ¬ x.toInt = 2 := fun e => h2 (Int32.toInt_inj.mp e)
  have e3 : ¬ x.toInt = 3 := fun e => h3 (Int32.toInt_inj.mp e)
  omega
theorem fw_X0_9 : Cond.fieldLink RX0 9 (TX0 0).1 (TX0 0).2.1 (TX0 0).2.2.1 ∈ gtbl := tw_one 153 (by decide +kernel) (by decide +kernel)
theorem fw_X0_34 : Cond.fieldLink RX0 34 (TX0 7).1 (TX0 7).2.1 (TX0 7).2.2.1 ∈ gtbl := tw_one 175 (by decide +kernel) (by decide +kernel)
theorem fw_X0_37 : Cond.fieldLink RX0 37 (TX0 8).1 (TX0 8).2.1 (TX0 8).2.2.1 ∈ gtbl := tw_one 177 (by decide +kernel) (by decide +kernel)
theorem jw_X6_283 : Cond.methodLink RX6 283 Lib.Math.min.name ∈ gtbl ∧ Cond.static Lib.Math.min.name ∈ gtbl ∧ Cond.initialized "java/lang/Math" ∈ gtbl ∧ Cond.code Lib.Math.min.name Lib.Math.min.code 2 (some .int) ∈ gtbl := ⟨tw_one 459 (by decide +kernel) (by decide +kernel), tw_one 460 (by decide +kernel) (by decide +kernel), tw_one 76 (by decide +kernel) (by decide +kernel), tw_one 461 (by decide +kernel) (by decide +kernel)⟩
theorem aw_X6_294 : Cond.methodLink RX6 294 arraycopyName ∈ gtbl ∧ Cond.native arraycopyName ∈ gtbl ∧ Cond.static arraycopyName ∈ gtbl ∧ Cond.initialized "java/lang/System" ∈ gtbl := ⟨tw_one 462 (by decide +kernel) (by decide +kernel), tw_one 464 (by decide +kernel) (by decide +kernel), tw_one 463 (by decide +kernel) (by decide +kernel), tw_one 77 (by decide +kernel) (by decide +kernel)⟩
theorem fw_X0_15 : Cond.fieldLink RX0 15 (TX0 1).1 (TX0 1).2.1 (TX0 1).2.2.1 ∈ gtbl := tw_one 159 (by decide +kernel) (by decide +kernel)
theorem mw_X0_43 : lkSN RX0 43 yX6_copyRow cX6_copyRow 2 none RX6 := ⟨tw_mem _ [457, 68] (by decide +kernel) (by decide +kernel), tw_one 458 (by decide +kernel) (by decide +kernel), by decide, by decide, List.mem_of_getElem? (i := 9) rfl⟩
theorem ln_X6_copyRow : (parseMethodDescriptor yX6_copyRow.desc).map (fun d => d.parameters.length) = some 2 := by decide +kernel
theorem fw_X0_19 : Cond.fieldLink RX0 19 (TX0 2).1 (TX0 2).2.1 (TX0 2).2.2.1 ∈ gtbl := tw_one 163 (by decide +kernel) (by decide +kernel)
theorem fw_X0_22 : Cond.fieldLink RX0 22 (TX0 3).1 (TX0 3).2.1 (TX0 3).2.2.1 ∈ gtbl := tw_one 166 (by decide +kernel) (by decide +kernel)
theorem fw_X0_25 : Cond.fieldLink RX0 25 (TX0 4).1 (TX0 4).2.1 (TX0 4).2.2.1 ∈ gtbl := tw_one 169 (by decide +kernel) (by decide +kernel)
theorem fw_X0_28 : Cond.fieldLink RX0 28 (TX0 5).1 (TX0 5).2.1 (TX0 5).2.2.1 ∈ gtbl := tw_one 172 (by decide +kernel) (by decide +kernel)
theorem fw_X0_40 : Cond.fieldLink RX0 40 (TX0 9).1 (TX0 9).2.1 (TX0 9).2.2.1 ∈ gtbl := tw_one 179 (by decide +kernel) (by decide +kernel)
theorem jw_X6_291 : Cond.methodLink RX6 291 Lib.Math.abs.name ∈ gtbl ∧ Cond.static Lib.Math.abs.name ∈ gtbl ∧ Cond.initialized "java/lang/Math" ∈ gtbl ∧ Cond.code Lib.Math.abs.name Lib.Math.abs.code 1 (some .int) ∈ gtbl := ⟨tw_one 434 (by decide +kernel) (by decide +kernel), tw_one 435 (by decide +kernel) (by decide +kernel), tw_one 76 (by decide +kernel) (by decide +kernel), tw_one 436 (by decide +kernel) (by decide +kernel)⟩
theorem fw_X4_15 : Cond.fieldLink RX4 15 (TX4 1).1 (TX4 1).2.1 (TX4 1).2.2.1 ∈ gtbl := tw_one 101 (by decide +kernel) (by decide +kernel)
theorem fw_X4_19 : Cond.fieldLink RX4 19 (TX4 2).1 (TX4 2).2.1 (TX4 2).2.2.1 ∈ gtbl := tw_one 102 (by decide +kernel) (by decide +kernel)
theorem mw_X4_50 : lkSN RX4 50 yX6_apart cX6_apart 4 (some .int) RX6 := ⟨tw_mem _ [432, 68] (by decide +kernel) (by decide +kernel), tw_one 433 (by decide +kernel) (by decide +kernel), by decide, by decide, List.mem_of_getElem? (i := 6) rfl⟩
theorem ln_X6_apart : (parseMethodDescriptor yX6_apart.desc).map (fun d => d.parameters.length) = some 4 := by decide +kernel
theorem fw_X4_37 : Cond.fieldLink RX4 37 (TX4 8).1 (TX4 8).2.1 (TX4 8).2.2.1 ∈ gtbl := tw_one 112 (by decide +kernel) (by decide +kernel)
theorem jw_X6_288 : Cond.methodLink RX6 288 Lib.Math.max.name ∈ gtbl ∧ Cond.static Lib.Math.max.name ∈ gtbl ∧ Cond.initialized "java/lang/Math" ∈ gtbl ∧ Cond.code Lib.Math.max.name Lib.Math.max.code 2 (some .int) ∈ gtbl := ⟨tw_one 746 (by decide +kernel) (by decide +kernel), tw_one 438 (by decide +kernel) (by decide +kernel), tw_one 76 (by decide +kernel) (by decide +kernel), tw_one 439 (by decide +kernel) (by decide +kernel)⟩
theorem fw_X0_31 : Cond.fieldLink RX0 31 (TX0 6).1 (TX0 6).2.1 (TX0 6).2.2.1 ∈ gtbl := tw_one 174 (by decide +kernel) (by decide +kernel)
theorem mw_X0_47 : lkV RX0 47 RX4 yX4_timeBetween cX4_timeBetween 3 (some .int) := ⟨tw_mem _ [739, 740, 741, 69] (by decide +kernel) (by decide +kernel), tw_one 742 (by decide +kernel) (by decide +kernel), rfl, by decide, by decide⟩
theorem ln_X4_timeBetween : (parseMethodDescriptor yX4_timeBetween.desc).map (fun d => d.parameters.length) = some 2 := by decide +kernel
theorem mw_X0_53 : lkSN RX0 53 yX6_heldOffset cX6_heldOffset 1 (some .int) RX6 := ⟨tw_mem _ [744, 68] (by decide +kernel) (by decide +kernel), tw_one 745 (by decide +kernel) (by decide +kernel), by decide, by decide, List.mem_of_getElem? (i := 11) rfl⟩
theorem ln_X6_heldOffset : (parseMethodDescriptor yX6_heldOffset.desc).map (fun d => d.parameters.length) = some 1 := by decide +kernel
theorem aw_X0_57 : Cond.methodLink RX0 57 arraycopyName ∈ gtbl ∧ Cond.native arraycopyName ∈ gtbl ∧ Cond.static arraycopyName ∈ gtbl ∧ Cond.initialized "java/lang/System" ∈ gtbl := ⟨tw_one 734 (by decide +kernel) (by decide +kernel), tw_one 464 (by decide +kernel) (by decide +kernel), tw_one 463 (by decide +kernel) (by decide +kernel), tw_one 77 (by decide +kernel) (by decide +kernel)⟩
theorem kw_X0_63 : Cond.constantLong RX0 63 (31) ∈ gtbl := tw_one 853 (by decide +kernel) (by decide +kernel)
theorem fw_X0_65 : Cond.fieldLink RX0 65 (TX4 8).1 (TX4 8).2.1 (TX4 8).2.2.1 ∈ gtbl := tw_one 116 (by decide +kernel) (by decide +kernel)
theorem fw_X0_68 : Cond.fieldLink RX0 68 (TX4 9).1 (TX4 9).2.1 (TX4 9).2.2.1 ∈ gtbl := tw_one 119 (by decide +kernel) (by decide +kernel)
theorem fw_X0_71 : Cond.fieldLink RX0 71 (TX4 10).1 (TX4 10).2.1 (TX4 10).2.2.1 ∈ gtbl := tw_one 122 (by decide +kernel) (by decide +kernel)
theorem fw_X4_40 : Cond.fieldLink RX4 40 (TX4 9).1 (TX4 9).2.1 (TX4 9).2.2.1 ∈ gtbl := tw_one 117 (by decide +kernel) (by decide +kernel)
theorem fw_X4_25 : Cond.fieldLink RX4 25 (TX4 4).1 (TX4 4).2.1 (TX4 4).2.2.1 ∈ gtbl := tw_one 108 (by decide +kernel) (by decide +kernel)
theorem fw_X4_43 : Cond.fieldLink RX4 43 (TX4 10).1 (TX4 10).2.1 (TX4 10).2.2.1 ∈ gtbl := tw_one 120 (by decide +kernel) (by decide +kernel)
theorem fw_X4_28 : Cond.fieldLink RX4 28 (TX4 5).1 (TX4 5).2.1 (TX4 5).2.2.1 ∈ gtbl := tw_one 109 (by decide +kernel) (by decide +kernel)
theorem jw_X4_54 : Cond.methodLink RX4 54 Lib.Math.max.name ∈ gtbl ∧ Cond.static Lib.Math.max.name ∈ gtbl ∧ Cond.initialized "java/lang/Math" ∈ gtbl ∧ Cond.code Lib.Math.max.name Lib.Math.max.code 2 (some .int) ∈ gtbl := ⟨tw_one 437 (by decide +kernel) (by decide +kernel), tw_one 438 (by decide +kernel) (by decide +kernel), tw_one 76 (by decide +kernel) (by decide +kernel), tw_one 439 (by decide +kernel) (by decide +kernel)⟩
theorem fw_X1_9 : Cond.fieldLink RX1 9 (TX1 0).1 (TX1 0).2.1 (TX1 0).2.2.1 ∈ gtbl := tw_one 209 (by decide +kernel) (by decide +kernel)
theorem fw_X1_15 : Cond.fieldLink RX1 15 (TX1 1).1 (TX1 1).2.1 (TX1 1).2.2.1 ∈ gtbl := tw_one 212 (by decide +kernel) (by decide +kernel)
theorem fw_X1_19 : Cond.fieldLink RX1 19 (TX1 2).1 (TX1 2).2.1 (TX1 2).2.2.1 ∈ gtbl := tw_one 214 (by decide +kernel) (by decide +kernel)
theorem fw_X1_22 : Cond.fieldLink RX1 22 (TX1 3).1 (TX1 3).2.1 (TX1 3).2.2.1 ∈ gtbl := tw_one 216 (by decide +kernel) (by decide +kernel)
theorem fw_X4_31 : Cond.fieldLink RX4 31 (TX4 6).1 (TX4 6).2.1 (TX4 6).2.2.1 ∈ gtbl := tw_one 110 (by decide +kernel) (by decide +kernel)
theorem fw_X4_34 : Cond.fieldLink RX4 34 (TX4 7).1 (TX4 7).2.1 (TX4 7).2.2.1 ∈ gtbl := tw_one 111 (by decide +kernel) (by decide +kernel)
theorem fw_X4_9 : Cond.fieldLink RX4 9 (TX4 0).1 (TX4 0).2.1 (TX4 0).2.2.1 ∈ gtbl := tw_one 97 (by decide +kernel) (by decide +kernel)
theorem fw_X1_25 : Cond.fieldLink RX1 25 (TX0 0).1 (TX0 0).2.1 (TX0 0).2.2.1 ∈ gtbl := tw_one 154 (by decide +kernel) (by decide +kernel)
theorem fw_X1_30 : Cond.fieldLink RX1 30 (TX0 1).1 (TX0 1).2.1 (TX0 1).2.2.1 ∈ gtbl := tw_one 160 (by decide +kernel) (by decide +kernel)
theorem fw_X1_33 : Cond.fieldLink RX1 33 (TX0 2).1 (TX0 2).2.1 (TX0 2).2.2.1 ∈ gtbl := tw_one 165 (by decide +kernel) (by decide +kernel)
theorem fw_X1_36 : Cond.fieldLink RX1 36 (TX0 3).1 (TX0 3).2.1 (TX0 3).2.2.1 ∈ gtbl := tw_one 167 (by decide +kernel) (by decide +kernel)
theorem mw_X1_39 : lkV RX1 39 RX4 yX4_soundTime cX4_soundTime 4 (some .int) := ⟨tw_mem _ [621, 428, 429, 69] (by decide +kernel) (by decide +kernel), tw_one 430 (by decide +kernel) (by decide +kernel), rfl, by decide, by decide⟩
theorem ln_X4_soundTime : (parseMethodDescriptor yX4_soundTime.desc).map (fun d => d.parameters.length) = some 2 := by decide +kernel
theorem mw_X1_45 : lkV RX1 45 RX4 yX4_pacesToEar cX4_pacesToEar 3 (some .int) := ⟨tw_mem _ [622, 623, 624, 69] (by decide +kernel) (by decide +kernel), tw_one 625 (by decide +kernel) (by decide +kernel), rfl, by decide, by decide⟩
theorem ln_X4_pacesToEar : (parseMethodDescriptor yX4_pacesToEar.desc).map (fun d => d.parameters.length) = some 2 := by decide +kernel
theorem mw_X1_48 : lkV RX1 48 RX1 yX1_add cX1_add 4 none := ⟨tw_mem _ [626, 628, 20, 71] (by decide +kernel) (by decide +kernel), tw_one 629 (by decide +kernel) (by decide +kernel), rfl, by decide, by decide⟩
theorem ln_X1_add : (parseMethodDescriptor yX1_add.desc).map (fun d => d.parameters.length) = some 3 := by decide +kernel
theorem mw_X1_62 : lkV RX1 62 RX4 yX4_nextWindow cX4_nextWindow 2 (some .int) := ⟨tw_mem _ [638, 639, 640, 69] (by decide +kernel) (by decide +kernel), tw_one 641 (by decide +kernel) (by decide +kernel), rfl, by decide, by decide⟩
theorem ln_X4_nextWindow : (parseMethodDescriptor yX4_nextWindow.desc).map (fun d => d.parameters.length) = some 1 := by decide +kernel
theorem mw_X1_52 : lkV RX1 52 RX4 yX4_hasMill cX4_hasMill 1 (some .boolean) := ⟨tw_mem _ [630, 631, 632, 69] (by decide +kernel) (by decide +kernel), tw_one 633 (by decide +kernel) (by decide +kernel), rfl, by decide, by decide⟩
theorem ln_X4_hasMill : (parseMethodDescriptor yX4_hasMill.desc).map (fun d => d.parameters.length) = some 0 := by decide +kernel
theorem mw_X1_56 : lkV RX1 56 RX4 yX4_pacesByMill cX4_pacesByMill 3 (some .int) := ⟨tw_mem _ [634, 635, 636, 69] (by decide +kernel) (by decide +kernel), tw_one 637 (by decide +kernel) (by decide +kernel), rfl, by decide, by decide⟩
theorem ln_X4_pacesByMill : (parseMethodDescriptor yX4_pacesByMill.desc).map (fun d => d.parameters.length) = some 2 := by decide +kernel
theorem fw_X1_59 : Cond.fieldLink RX1 59 (TX4 8).1 (TX4 8).2.1 (TX4 8).2.2.1 ∈ gtbl := tw_one 113 (by decide +kernel) (by decide +kernel)
theorem mw_X1_66 : lkV RX1 66 RX0 yX0_lateOf cX0_lateOf 2 (some .int) := ⟨tw_mem _ [647, 416, 417, 70] (by decide +kernel) (by decide +kernel), tw_one 418 (by decide +kernel) (by decide +kernel), rfl, by decide, by decide⟩
theorem ln_X0_lateOf : (parseMethodDescriptor yX0_lateOf.desc).map (fun d => d.parameters.length) = some 1 := by decide +kernel
theorem mw_X1_69 : lkV RX1 69 RX1 yX1_listen cX1_listen 9 none := ⟨tw_mem _ [660, 618, 619, 71] (by decide +kernel) (by decide +kernel), tw_one 620 (by decide +kernel) (by decide +kernel), rfl, by decide, by decide⟩
theorem ln_X1_listen : (parseMethodDescriptor yX1_listen.desc).map (fun d => d.parameters.length) = some 3 := by decide +kernel
theorem mw_X1_73 : lkV RX1 73 RX1 yX1_timeOf cX1_timeOf 3 (some .int) := ⟨tw_mem _ [661, 644, 645, 71] (by decide +kernel) (by decide +kernel), tw_one 646 (by decide +kernel) (by decide +kernel), rfl, by decide, by decide⟩
theorem ln_X1_timeOf : (parseMethodDescriptor yX1_timeOf.desc).map (fun d => d.parameters.length) = some 2 := by decide +kernel
theorem jw_X1_77 : Cond.methodLink RX1 77 Lib.Math.min.name ∈ gtbl ∧ Cond.static Lib.Math.min.name ∈ gtbl ∧ Cond.initialized "java/lang/Math" ∈ gtbl ∧ Cond.code Lib.Math.min.name Lib.Math.min.code 2 (some .int) ∈ gtbl := ⟨tw_one 662 (by decide +kernel) (by decide +kernel), tw_one 460 (by decide +kernel) (by decide +kernel), tw_one 76 (by decide +kernel) (by decide +kernel), tw_one 461 (by decide +kernel) (by decide +kernel)⟩
theorem jw_X1_82 : Cond.methodLink RX1 82 Lib.Math.max.name ∈ gtbl ∧ Cond.static Lib.Math.max.name ∈ gtbl ∧ Cond.initialized "java/lang/Math" ∈ gtbl ∧ Cond.code Lib.Math.max.name Lib.Math.max.code 2 (some .int) ∈ gtbl := ⟨tw_one 663 (by decide +kernel) (by decide +kernel), tw_one 438 (by decide +kernel) (by decide +kernel), tw_one 76 (by decide +kernel) (by decide +kernel), tw_one 439 (by decide +kernel) (by decide +kernel)⟩
theorem fw_X2_25 : Cond.fieldLink RX2 25 (TX2 4).1 (TX2 4).2.1 (TX2 4).2.2.1 ∈ gtbl := tw_one 270 (by decide +kernel) (by decide +kernel)
theorem fw_X2_19 : Cond.fieldLink RX2 19 (TX2 2).1 (TX2 2).2.1 (TX2 2).2.2.1 ∈ gtbl := tw_one 268 (by decide +kernel) (by decide +kernel)
theorem fw_X2_15 : Cond.fieldLink RX2 15 (TX2 1).1 (TX2 1).2.1 (TX2 1).2.2.1 ∈ gtbl := tw_one 267 (by decide +kernel) (by decide +kernel)
theorem fw_X2_9 : Cond.fieldLink RX2 9 (TX2 0).1 (TX2 0).2.1 (TX2 0).2.2.1 ∈ gtbl := tw_one 266 (by decide +kernel) (by decide +kernel)
theorem mw_X2_135 : lkS RX2 135 yX2_isLetter cX2_isLetter 1 (some .boolean) := ⟨tw_mem _ [482, 483, 74] (by decide +kernel) (by decide +kernel), tw_one 484 (by decide +kernel) (by decide +kernel), by decide, by decide⟩
theorem ln_X2_isLetter : (parseMethodDescriptor yX2_isLetter.desc).map (fun d => d.parameters.length) = some 1 := by decide +kernel
theorem fw_X2_28 : Cond.fieldLink RX2 28 (TX2 5).1 (TX2 5).2.1 (TX2 5).2.2.1 ∈ gtbl := tw_one 271 (by decide +kernel) (by decide +kernel)
theorem mw_X2_142 : lkS RX2 142 yX2_isFigure cX2_isFigure 1 (some .boolean) := ⟨tw_mem _ [489, 490, 74] (by decide +kernel) (by decide +kernel), tw_one 491 (by decide +kernel) (by decide +kernel), by decide, by decide⟩
theorem ln_X2_isFigure : (parseMethodDescriptor yX2_isFigure.desc).map (fun d => d.parameters.length) = some 1 := by decide +kernel
theorem fw_X2_22 : Cond.fieldLink RX2 22 (TX2 3).1 (TX2 3).2.1 (TX2 3).2.2.1 ∈ gtbl := tw_one 269 (by decide +kernel) (by decide +kernel)
theorem mw_X2_148 : lkV RX2 148 RX2 yX2_takeSign cX2_takeSign 1 none := ⟨tw_mem _ [496, 498, 8, 74] (by decide +kernel) (by decide +kernel), tw_one 499 (by decide +kernel) (by decide +kernel), rfl, by decide, by decide⟩
theorem ln_X2_takeSign : (parseMethodDescriptor yX2_takeSign.desc).map (fun d => d.parameters.length) = some 0 := by decide +kernel
theorem mw_X2_145 : lkV RX2 145 RX2 yX2_takeFigures cX2_takeFigures 1 none := ⟨tw_mem _ [492, 494, 7, 74] (by decide +kernel) (by decide +kernel), tw_one 495 (by decide +kernel) (by decide +kernel), rfl, by decide, by decide⟩
theorem ln_X2_takeFigures : (parseMethodDescriptor yX2_takeFigures.desc).map (fun d => d.parameters.length) = some 0 := by decide +kernel
theorem mw_X2_139 : lkV RX2 139 RX2 yX2_takeWord cX2_takeWord 1 none := ⟨tw_mem _ [485, 487, 6, 74] (by decide +kernel) (by decide +kernel), tw_one 488 (by decide +kernel) (by decide +kernel), rfl, by decide, by decide⟩
theorem ln_X2_takeWord : (parseMethodDescriptor yX2_takeWord.desc).map (fun d => d.parameters.length) = some 0 := by decide +kernel
theorem mw_X2_131 : lkSN RX2 131 yX6_isWithin cX6_isWithin 3 (some .boolean) RX6 := ⟨tw_mem _ [353, 68] (by decide +kernel) (by decide +kernel), tw_one 354 (by decide +kernel) (by decide +kernel), by decide, by decide, List.mem_of_getElem? (i := 8) rfl⟩
theorem ln_X6_isWithin : (parseMethodDescriptor yX6_isWithin.desc).map (fun d => d.parameters.length) = some 3 := by decide +kernel
theorem mw_X2_40 : lkV RX2 40 RX2 yX2_takeToken cX2_takeToken 1 none := ⟨tw_mem _ [478, 480, 5, 74] (by decide +kernel) (by decide +kernel), tw_one 481 (by decide +kernel) (by decide +kernel), rfl, by decide, by decide⟩
theorem ln_X2_takeToken : (parseMethodDescriptor yX2_takeToken.desc).map (fun d => d.parameters.length) = some 0 := by decide +kernel
theorem mw_X2_124 : lkV RX2 124 RX2 yX2_isNumber cX2_isNumber 3 (some .boolean) := ⟨tw_mem _ [565, 567, 13, 74] (by decide +kernel) (by decide +kernel), tw_one 568 (by decide +kernel) (by decide +kernel), rfl, by decide, by decide⟩
theorem ln_X2_isNumber : (parseMethodDescriptor yX2_isNumber.desc).map (fun d => d.parameters.length) = some 2 := by decide +kernel
theorem fw_X2_83 : Cond.fieldLink RX2 83 (TX4 0).1 (TX4 0).2.1 (TX4 0).2.2.1 ∈ gtbl := tw_one 100 (by decide +kernel) (by decide +kernel)
theorem mw_X2_88 : lkV RX2 88 RX2 yX2_takeNumber cX2_takeNumber 3 (some .boolean) := ⟨tw_mem _ [561, 563, 12, 74] (by decide +kernel) (by decide +kernel), tw_one 564 (by decide +kernel) (by decide +kernel), rfl, by decide, by decide⟩
theorem ln_X2_takeNumber : (parseMethodDescriptor yX2_takeNumber.desc).map (fun d => d.parameters.length) = some 2 := by decide +kernel
theorem mw_X2_92 : lkV RX2 92 RX4 yX4_addWindow cX4_addWindow 3 (some .int) := ⟨tw_mem _ [570, 364, 365, 69] (by decide +kernel) (by decide +kernel), tw_one 366 (by decide +kernel) (by decide +kernel), rfl, by decide, by decide⟩
theorem ln_X4_addWindow : (parseMethodDescriptor yX4_addWindow.desc).map (fun d => d.parameters.length) = some 2 := by decide +kernel
theorem mw_X2_95 : lkV RX2 95 RX2 yX2_takeStop cX2_takeStop 1 (some .boolean) := ⟨tw_mem _ [571, 573, 14, 74] (by decide +kernel) (by decide +kernel), tw_one 574 (by decide +kernel) (by decide +kernel), rfl, by decide, by decide⟩
theorem ln_X2_takeStop : (parseMethodDescriptor yX2_takeStop.desc).map (fun d => d.parameters.length) = some 0 := by decide +kernel
theorem fw_X4_22 : Cond.fieldLink RX4 22 (TX4 3).1 (TX4 3).2.1 (TX4 3).2.2.1 ∈ gtbl := tw_one 103 (by decide +kernel) (by decide +kernel)
theorem fw_X2_99 : Cond.fieldLink RX2 99 (TX4 3).1 (TX4 3).2.1 (TX4 3).2.2.1 ∈ gtbl := tw_one 107 (by decide +kernel) (by decide +kernel)
theorem mw_X2_102 : lkV RX2 102 RX4 yX4_addEar cX4_addEar 3 (some .int) := ⟨tw_mem _ [580, 372, 373, 69] (by decide +kernel) (by decide +kernel), tw_one 374 (by decide +kernel) (by decide +kernel), rfl, by decide, by decide⟩
theorem ln_X4_addEar : (parseMethodDescriptor yX4_addEar.desc).map (fun d => d.parameters.length) = some 2 := by decide +kernel
theorem mw_X2_105 : lkV RX2 105 RX4 yX4_buildMill cX4_buildMill 3 none := ⟨tw_mem _ [586, 380, 381, 69] (by decide +kernel) (by decide +kernel), tw_one 382 (by decide +kernel) (by decide +kernel), rfl, by decide, by decide⟩
theorem ln_X4_buildMill : (parseMethodDescriptor yX4_buildMill.desc).map (fun d => d.parameters.length) = some 2 := by decide +kernel
theorem fw_X2_109 : Cond.fieldLink RX2 109 (TX4 8).1 (TX4 8).2.1 (TX4 8).2.2.1 ∈ gtbl := tw_one 115 (by decide +kernel) (by decide +kernel)
theorem fw_X2_111 : Cond.fieldLink RX2 111 (TX0 0).1 (TX0 0).2.1 (TX0 0).2.2.1 ∈ gtbl := tw_one 158 (by decide +kernel) (by decide +kernel)
theorem mw_X2_116 : lkV RX2 116 RX0 yX0_playsAt cX0_playsAt 3 (some .boolean) := ⟨tw_mem _ [597, 396, 397, 70] (by decide +kernel) (by decide +kernel), tw_one 398 (by decide +kernel) (by decide +kernel), rfl, by decide, by decide⟩
theorem ln_X0_playsAt : (parseMethodDescriptor yX0_playsAt.desc).map (fun d => d.parameters.length) = some 1 := by decide +kernel
theorem mw_X2_120 : lkV RX2 120 RX0 yX0_addPlayer cX0_addPlayer 4 (some .int) := ⟨tw_mem _ [598, 400, 401, 70] (by decide +kernel) (by decide +kernel), tw_one 402 (by decide +kernel) (by decide +kernel), rfl, by decide, by decide⟩
theorem ln_X0_addPlayer : (parseMethodDescriptor yX0_addPlayer.desc).map (fun d => d.parameters.length) = some 3 := by decide +kernel
theorem fw_X2_127 : Cond.fieldLink RX2 127 (TX0 4).1 (TX0 4).2.1 (TX0 4).2.2.1 ∈ gtbl := tw_one 171 (by decide +kernel) (by decide +kernel)
theorem fw_X3_25 : Cond.fieldLink RX3 25 (TX0 2).1 (TX0 2).2.1 (TX0 2).2.2.1 ∈ gtbl := tw_one 164 (by decide +kernel) (by decide +kernel)
theorem fw_X3_50 : Cond.fieldLink RX3 50 (TX4 0).1 (TX4 0).2.1 (TX4 0).2.2.1 ∈ gtbl := tw_one 99 (by decide +kernel) (by decide +kernel)
theorem mw_X3_54 : lkSN RX3 54 yX6_holds cX6_holds 2 (some .boolean) RX6 := ⟨tw_mem _ [695, 68] (by decide +kernel) (by decide +kernel), tw_one 696 (by decide +kernel) (by decide +kernel), by decide, by decide, List.mem_of_getElem? (i := 12) rfl⟩
theorem ln_X6_holds : (parseMethodDescriptor yX6_holds.desc).map (fun d => d.parameters.length) = some 2 := by decide +kernel
theorem fw_X3_70 : Cond.fieldLink RX3 70 (TX0 1).1 (TX0 1).2.1 (TX0 1).2.2.1 ∈ gtbl := tw_one 162 (by decide +kernel) (by decide +kernel)
theorem fw_X3_58 : Cond.fieldLink RX3 58 (TX4 3).1 (TX4 3).2.1 (TX4 3).2.2.1 ∈ gtbl := tw_one 106 (by decide +kernel) (by decide +kernel)
theorem fw_X3_73 : Cond.fieldLink RX3 73 (TX0 3).1 (TX0 3).2.1 (TX0 3).2.2.1 ∈ gtbl := tw_one 168 (by decide +kernel) (by decide +kernel)
theorem mw_X3_76 : lkV RX3 76 RX4 yX4_pacesToEar cX4_pacesToEar 3 (some .int) := ⟨tw_mem _ [787, 623, 624, 69] (by decide +kernel) (by decide +kernel), tw_one 625 (by decide +kernel) (by decide +kernel), rfl, by decide, by decide⟩
theorem jw_X3_37 : Cond.methodLink RX3 37 Lib.Math.min.name ∈ gtbl ∧ Cond.static Lib.Math.min.name ∈ gtbl ∧ Cond.initialized "java/lang/Math" ∈ gtbl ∧ Cond.code Lib.Math.min.name Lib.Math.min.code 2 (some .int) ∈ gtbl := ⟨tw_one 788 (by decide +kernel) (by decide +kernel), tw_one 460 (by decide +kernel) (by decide +kernel), tw_one 76 (by decide +kernel) (by decide +kernel), tw_one 461 (by decide +kernel) (by decide +kernel)⟩
theorem jw_X3_79 : Cond.methodLink RX3 79 Lib.Math.max.name ∈ gtbl ∧ Cond.static Lib.Math.max.name ∈ gtbl ∧ Cond.initialized "java/lang/Math" ∈ gtbl ∧ Cond.code Lib.Math.max.name Lib.Math.max.code 2 (some .int) ∈ gtbl := ⟨tw_one 789 (by decide +kernel) (by decide +kernel), tw_one 438 (by decide +kernel) (by decide +kernel), tw_one 76 (by decide +kernel) (by decide +kernel), tw_one 439 (by decide +kernel) (by decide +kernel)⟩
theorem mw_X3_61 : lkV RX3 61 RX1 yX1_spreadAt cX1_spreadAt 8 (some .int) := ⟨tw_mem _ [794, 657, 658, 71] (by decide +kernel) (by decide +kernel), tw_one 659 (by decide +kernel) (by decide +kernel), rfl, by decide, by decide⟩
theorem ln_X1_spreadAt : (parseMethodDescriptor yX1_spreadAt.desc).map (fun d => d.parameters.length) = some 3 := by decide +kernel
theorem fw_X3_18 : Cond.fieldLink RX3 18 (TX3 2).1 (TX3 2).2.1 (TX3 2).2.2.1 ∈ gtbl := tw_one 249 (by decide +kernel) (by decide +kernel)
theorem fw_X3_22 : Cond.fieldLink RX3 22 (TX3 3).1 (TX3 3).2.1 (TX3 3).2.2.1 ∈ gtbl := tw_one 250 (by decide +kernel) (by decide +kernel)
theorem fw_X3_9 : Cond.fieldLink RX3 9 (TX3 0).1 (TX3 0).2.1 (TX3 0).2.2.1 ∈ gtbl := tw_one 246 (by decide +kernel) (by decide +kernel)
theorem mw_X3_66 : lkSN RX3 66 yX6_copyRow cX6_copyRow 2 none RX6 := ⟨tw_mem _ [457, 68] (by decide +kernel) (by decide +kernel), tw_one 458 (by decide +kernel) (by decide +kernel), by decide, by decide, List.mem_of_getElem? (i := 13) rfl⟩
theorem mw_X3_30 : lkS RX3 30 yX3_nextFree cX3_nextFree 5 (some .int) := ⟨tw_mem _ [780, 781, 73] (by decide +kernel) (by decide +kernel), tw_one 782 (by decide +kernel) (by decide +kernel), by decide, by decide⟩
theorem ln_X3_nextFree : (parseMethodDescriptor yX3_nextFree.desc).map (fun d => d.parameters.length) = some 3 := by decide +kernel
theorem fw_X3_15 : Cond.fieldLink RX3 15 (TX3 1).1 (TX3 1).2.1 (TX3 1).2.2.1 ∈ gtbl := tw_one 248 (by decide +kernel) (by decide +kernel)
theorem mw_X3_34 : lkS RX3 34 yX3_leastLoud cX3_leastLoud 5 (some .int) := ⟨tw_mem _ [784, 785, 73] (by decide +kernel) (by decide +kernel), tw_one 786 (by decide +kernel) (by decide +kernel), by decide, by decide⟩
theorem ln_X3_leastLoud : (parseMethodDescriptor yX3_leastLoud.desc).map (fun d => d.parameters.length) = some 3 := by decide +kernel
theorem fw_X3_43 : Cond.fieldLink RX3 43 (TX0 0).1 (TX0 0).2.1 (TX0 0).2.2.1 ∈ gtbl := tw_one 155 (by decide +kernel) (by decide +kernel)
theorem mw_X3_46 : lkV RX3 46 RX3 yX3_judge cX3_judge 7 none := ⟨tw_mem _ [790, 792, 25, 73] (by decide +kernel) (by decide +kernel), tw_one 793 (by decide +kernel) (by decide +kernel), rfl, by decide, by decide⟩
theorem ln_X3_judge : (parseMethodDescriptor yX3_judge.desc).map (fun d => d.parameters.length) = some 4 := by decide +kernel
theorem mw_X4_46 : lkSN RX4 46 yX6_copyRow cX6_copyRow 2 none RX6 := ⟨tw_mem _ [457, 68] (by decide +kernel) (by decide +kernel), tw_one 458 (by decide +kernel) (by decide +kernel), by decide, by decide, List.mem_of_getElem? (i := 7) rfl⟩
theorem mw_X4_60 : lkSN RX4 60 yX6_holds cX6_holds 2 (some .boolean) RX6 := ⟨tw_mem _ [695, 68] (by decide +kernel) (by decide +kernel), tw_one 696 (by decide +kernel) (by decide +kernel), by decide, by decide, List.mem_of_getElem? (i := 14) rfl⟩
theorem mw_X4_64 : lkV RX4 64 RX4 yX4_soundTime cX4_soundTime 4 (some .int) := ⟨tw_mem _ [805, 428, 429, 69] (by decide +kernel) (by decide +kernel), tw_one 430 (by decide +kernel) (by decide +kernel), rfl, by decide, by decide⟩
theorem kw_X4_67 : Cond.constantLong RX4 67 (31) ∈ gtbl := tw_one 848 (by decide +kernel) (by decide +kernel)
theorem fw_X5_9 : Cond.fieldLink RX5 9 (TX5 0).1 (TX5 0).2.1 (TX5 0).2.2.1 ∈ gtbl := tw_one 233 (by decide +kernel) (by decide +kernel)
theorem kw_X5_18 : Cond.constant RX5 18 (-100000) ∈ gtbl := tw_one 680 (by decide +kernel) (by decide +kernel)
theorem fw_X5_19 : Cond.fieldLink RX5 19 (TX4 3).1 (TX4 3).2.1 (TX4 3).2.2.1 ∈ gtbl := tw_one 104 (by decide +kernel) (by decide +kernel)
theorem mw_X5_25 : lkV RX5 25 RX1 yX1_listen cX1_listen 9 none := ⟨tw_mem _ [681, 618, 619, 71] (by decide +kernel) (by decide +kernel), tw_one 620 (by decide +kernel) (by decide +kernel), rfl, by decide, by decide⟩
theorem fw_X5_31 : Cond.fieldLink RX5 31 (TX1 0).1 (TX1 0).2.1 (TX1 0).2.2.1 ∈ gtbl := tw_one 210 (by decide +kernel) (by decide +kernel)
theorem fw_X5_34 : Cond.fieldLink RX5 34 (TX1 1).1 (TX1 1).2.1 (TX1 1).2.2.1 ∈ gtbl := tw_one 213 (by decide +kernel) (by decide +kernel)
theorem fw_X5_37 : Cond.fieldLink RX5 37 (TX1 2).1 (TX1 2).2.1 (TX1 2).2.2.1 ∈ gtbl := tw_one 215 (by decide +kernel) (by decide +kernel)
theorem jw_X5_40 : Cond.methodLink RX5 40 Lib.Math.max.name ∈ gtbl ∧ Cond.static Lib.Math.max.name ∈ gtbl ∧ Cond.initialized "java/lang/Math" ∈ gtbl ∧ Cond.code Lib.Math.max.name Lib.Math.max.code 2 (some .int) ∈ gtbl := ⟨tw_one 682 (by decide +kernel) (by decide +kernel), tw_one 438 (by decide +kernel) (by decide +kernel), tw_one 76 (by decide +kernel) (by decide +kernel), tw_one 439 (by decide +kernel) (by decide +kernel)⟩
theorem fw_X5_15 : Cond.fieldLink RX5 15 (TX5 1).1 (TX5 1).2.1 (TX5 1).2.2.1 ∈ gtbl := tw_one 234 (by decide +kernel) (by decide +kernel)
theorem fw_X5_46 : Cond.fieldLink RX5 46 (TX0 0).1 (TX0 0).2.1 (TX0 0).2.2.1 ∈ gtbl := tw_one 156 (by decide +kernel) (by decide +kernel)
theorem mw_X5_58 : lkSN RX5 58 yX6_holds cX6_holds 2 (some .boolean) RX6 := ⟨tw_mem _ [695, 68] (by decide +kernel) (by decide +kernel), tw_one 696 (by decide +kernel) (by decide +kernel), by decide, by decide, List.mem_of_getElem? (i := 10) rfl⟩
theorem fw_X5_51 : Cond.fieldLink RX5 51 (TX0 1).1 (TX0 1).2.1 (TX0 1).2.2.1 ∈ gtbl := tw_one 161 (by decide +kernel) (by decide +kernel)
theorem mw_X5_66 : lkS RX5 66 yJ9_floorDiv_7cf53 cJ9_floorDiv_7cf53 3 (some .int) := ⟨tw_mem _ [701, 702, 76] (by decide +kernel) (by decide +kernel), tw_one 703 (by decide +kernel) (by decide +kernel), by decide, by decide⟩
theorem ln_J9_floorDiv_7cf53 : (parseMethodDescriptor yJ9_floorDiv_7cf53.desc).map (fun d => d.parameters.length) = some 2 := by decide +kernel
theorem mw_X5_54 : lkS RX5 54 yX5_lowestLate cX5_lowestLate 1 (some .int) := ⟨tw_mem _ [691, 692, 72] (by decide +kernel) (by decide +kernel), tw_one 693 (by decide +kernel) (by decide +kernel), by decide, by decide⟩
theorem ln_X5_lowestLate : (parseMethodDescriptor yX5_lowestLate.desc).map (fun d => d.parameters.length) = some 1 := by decide +kernel
theorem mw_X5_62 : lkV RX5 62 RX5 yX5_neededLate cX5_neededLate 6 (some .int) := ⟨tw_mem _ [697, 699, 23, 72] (by decide +kernel) (by decide +kernel), tw_one 700 (by decide +kernel) (by decide +kernel), rfl, by decide, by decide⟩
theorem ln_X5_neededLate : (parseMethodDescriptor yX5_neededLate.desc).map (fun d => d.parameters.length) = some 3 := by decide +kernel
theorem mw_X6_121 : lkS RX6 121 yX6_isWithin cX6_isWithin 3 (some .boolean) := ⟨tw_mem _ [352, 353, 68] (by decide +kernel) (by decide +kernel), tw_one 354 (by decide +kernel) (by decide +kernel), by decide, by decide⟩
theorem fw_X6_83 : Cond.fieldLink RX6 83 (TX6 15).1 (TX6 15).2.1 (TX6 15).2.2.1 ∈ gtbl := tw_one 305 (by decide +kernel) (by decide +kernel)
theorem fw_X6_89 : Cond.fieldLink RX6 89 (TX6 17).1 (TX6 17).2.1 (TX6 17).2.2.1 ∈ gtbl := tw_one 307 (by decide +kernel) (by decide +kernel)
theorem mw_X6_92 : lkS RX6 92 yX6_isPlace cX6_isPlace 2 (some .boolean) := ⟨tw_mem _ [349, 350, 68] (by decide +kernel) (by decide +kernel), tw_one 351 (by decide +kernel) (by decide +kernel), by decide, by decide⟩
theorem ln_X6_isPlace : (parseMethodDescriptor yX6_isPlace.desc).map (fun d => d.parameters.length) = some 2 := by decide +kernel
theorem fw_X6_10 : Cond.fieldLink RX6 10 (TX6 0).1 (TX6 0).2.1 (TX6 0).2.2.1 ∈ gtbl := tw_one 290 (by decide +kernel) (by decide +kernel)
theorem fw_X6_100 : Cond.fieldLink RX6 100 (TX4 0).1 (TX4 0).2.1 (TX4 0).2.2.1 ∈ gtbl := tw_one 98 (by decide +kernel) (by decide +kernel)
theorem mw_X6_107 : lkV RX6 107 RX4 yX4_addWindow cX4_addWindow 3 (some .int) := ⟨tw_mem _ [363, 364, 365, 69] (by decide +kernel) (by decide +kernel), tw_one 366 (by decide +kernel) (by decide +kernel), rfl, by decide, by decide⟩
theorem mw_X6_103 : lkV RX6 103 RX6 yX6_refuseFull cX6_refuseFull 1 (some .int) := ⟨tw_mem _ [359, 361, 1, 68] (by decide +kernel) (by decide +kernel), tw_one 362 (by decide +kernel) (by decide +kernel), rfl, by decide, by decide⟩
theorem ln_X6_refuseFull : (parseMethodDescriptor yX6_refuseFull.desc).map (fun d => d.parameters.length) = some 0 := by decide +kernel
theorem mw_X6_96 : lkV RX6 96 RX6 yX6_refuseBad cX6_refuseBad 2 (some .int) := ⟨tw_mem _ [355, 357, 0, 68] (by decide +kernel) (by decide +kernel), tw_one 358 (by decide +kernel) (by decide +kernel), rfl, by decide, by decide⟩
theorem ln_X6_refuseBad : (parseMethodDescriptor yX6_refuseBad.desc).map (fun d => d.parameters.length) = some 1 := by decide +kernel
theorem fw_X6_111 : Cond.fieldLink RX6 111 (TX4 3).1 (TX4 3).2.1 (TX4 3).2.2.1 ∈ gtbl := tw_one 105 (by decide +kernel) (by decide +kernel)
theorem mw_X6_114 : lkV RX6 114 RX4 yX4_addEar cX4_addEar 3 (some .int) := ⟨tw_mem _ [371, 372, 373, 69] (by decide +kernel) (by decide +kernel), tw_one 374 (by decide +kernel) (by decide +kernel), rfl, by decide, by decide⟩
theorem mw_X6_117 : lkV RX6 117 RX4 yX4_buildMill cX4_buildMill 3 none := ⟨tw_mem _ [379, 380, 381, 69] (by decide +kernel) (by decide +kernel), tw_one 382 (by decide +kernel) (by decide +kernel), rfl, by decide, by decide⟩
theorem fw_X6_19 : Cond.fieldLink RX6 19 (TX6 1).1 (TX6 1).2.1 (TX6 1).2.2.1 ∈ gtbl := tw_one 291 (by decide +kernel) (by decide +kernel)
theorem fw_X6_134 : Cond.fieldLink RX6 134 (TX0 7).1 (TX0 7).2.1 (TX0 7).2.2.1 ∈ gtbl := tw_one 176 (by decide +kernel) (by decide +kernel)
theorem fw_X6_131 : Cond.fieldLink RX6 131 (TX4 10).1 (TX4 10).2.1 (TX4 10).2.2.1 ∈ gtbl := tw_one 121 (by decide +kernel) (by decide +kernel)
theorem fw_X6_128 : Cond.fieldLink RX6 128 (TX4 9).1 (TX4 9).2.1 (TX4 9).2.2.1 ∈ gtbl := tw_one 118 (by decide +kernel) (by decide +kernel)
theorem fw_X6_125 : Cond.fieldLink RX6 125 (TX4 8).1 (TX4 8).2.1 (TX4 8).2.2.1 ∈ gtbl := tw_one 114 (by decide +kernel) (by decide +kernel)
theorem mw_X6_137 : lkV RX6 137 RX6 yX6_hasWindow cX6_hasWindow 2 (some .boolean) := ⟨tw_mem _ [391, 393, 2, 68] (by decide +kernel) (by decide +kernel), tw_one 394 (by decide +kernel) (by decide +kernel), rfl, by decide, by decide⟩
theorem ln_X6_hasWindow : (parseMethodDescriptor yX6_hasWindow.desc).map (fun d => d.parameters.length) = some 1 := by decide +kernel
theorem mw_X6_141 : lkV RX6 141 RX0 yX0_playsAt cX0_playsAt 3 (some .boolean) := ⟨tw_mem _ [395, 396, 397, 70] (by decide +kernel) (by decide +kernel), tw_one 398 (by decide +kernel) (by decide +kernel), rfl, by decide, by decide⟩
theorem fw_X6_144 : Cond.fieldLink RX6 144 (TX0 0).1 (TX0 0).2.1 (TX0 0).2.2.1 ∈ gtbl := tw_one 157 (by decide +kernel) (by decide +kernel)
theorem mw_X6_147 : lkV RX6 147 RX0 yX0_addPlayer cX0_addPlayer 4 (some .int) := ⟨tw_mem _ [399, 400, 401, 70] (by decide +kernel) (by decide +kernel), tw_one 402 (by decide +kernel) (by decide +kernel), rfl, by decide, by decide⟩
theorem mw_X6_151 : lkV RX6 151 RX6 yX6_hasPlayer cX6_hasPlayer 2 (some .boolean) := ⟨tw_mem _ [407, 409, 3, 68] (by decide +kernel) (by decide +kernel), tw_one 410 (by decide +kernel) (by decide +kernel), rfl, by decide, by decide⟩
theorem ln_X6_hasPlayer : (parseMethodDescriptor yX6_hasPlayer.desc).map (fun d => d.parameters.length) = some 1 := by decide +kernel
theorem fw_X6_154 : Cond.fieldLink RX6 154 (TX0 4).1 (TX0 4).2.1 (TX0 4).2.2.1 ∈ gtbl := tw_one 170 (by decide +kernel) (by decide +kernel)
theorem mw_X6_157 : lkV RX6 157 RX0 yX0_lateOf cX0_lateOf 2 (some .int) := ⟨tw_mem _ [415, 416, 417, 70] (by decide +kernel) (by decide +kernel), tw_one 418 (by decide +kernel) (by decide +kernel), rfl, by decide, by decide⟩
theorem mw_X6_160 : lkV RX6 160 RX6 yX6_hasEar cX6_hasEar 2 (some .boolean) := ⟨tw_mem _ [423, 425, 4, 68] (by decide +kernel) (by decide +kernel), tw_one 426 (by decide +kernel) (by decide +kernel), rfl, by decide, by decide⟩
theorem ln_X6_hasEar : (parseMethodDescriptor yX6_hasEar.desc).map (fun d => d.parameters.length) = some 1 := by decide +kernel
theorem mw_X6_163 : lkV RX6 163 RX4 yX4_soundTime cX4_soundTime 4 (some .int) := ⟨tw_mem _ [427, 428, 429, 69] (by decide +kernel) (by decide +kernel), tw_one 430 (by decide +kernel) (by decide +kernel), rfl, by decide, by decide⟩
theorem fw_X6_76 : Cond.fieldLink RX6 76 (TX6 13).1 (TX6 13).2.1 (TX6 13).2.2.1 ∈ gtbl := tw_one 303 (by decide +kernel) (by decide +kernel)
theorem fw_X6_72 : Cond.fieldLink RX6 72 (TX6 12).1 (TX6 12).2.1 (TX6 12).2.2.1 ∈ gtbl := tw_one 302 (by decide +kernel) (by decide +kernel)
theorem kw_X6_187 : Cond.constant RX6 187 (-200000) ∈ gtbl := tw_one 616 (by decide +kernel) (by decide +kernel)
theorem mw_X6_184 : lkS RX6 184 yX6_isTime cX6_isTime 1 (some .boolean) := ⟨tw_mem _ [613, 614, 68] (by decide +kernel) (by decide +kernel), tw_one 615 (by decide +kernel) (by decide +kernel), by decide, by decide⟩
theorem ln_X6_isTime : (parseMethodDescriptor yX6_isTime.desc).map (fun d => d.parameters.length) = some 1 := by decide +kernel
theorem fw_X6_47 : Cond.fieldLink RX6 47 (TX6 8).1 (TX6 8).2.1 (TX6 8).2.2.1 ∈ gtbl := tw_one 298 (by decide +kernel) (by decide +kernel)
theorem mw_X6_188 : lkV RX6 188 RX1 yX1_listen cX1_listen 9 none := ⟨tw_mem _ [617, 618, 619, 71] (by decide +kernel) (by decide +kernel), tw_one 620 (by decide +kernel) (by decide +kernel), rfl, by decide, by decide⟩
theorem fw_X6_192 : Cond.fieldLink RX6 192 (TX1 0).1 (TX1 0).2.1 (TX1 0).2.2.1 ∈ gtbl := tw_one 211 (by decide +kernel) (by decide +kernel)
theorem mw_X6_196 : lkV RX6 196 RX1 yX1_timeOf cX1_timeOf 3 (some .int) := ⟨tw_mem _ [643, 644, 645, 71] (by decide +kernel) (by decide +kernel), tw_one 646 (by decide +kernel) (by decide +kernel), rfl, by decide, by decide⟩
theorem kw_X6_195 : Cond.constant RX6 195 (-100000) ∈ gtbl := tw_one 642 (by decide +kernel) (by decide +kernel)
theorem fw_X6_200 : Cond.fieldLink RX6 200 (TX1 3).1 (TX1 3).2.1 (TX1 3).2.2.1 ∈ gtbl := tw_one 217 (by decide +kernel) (by decide +kernel)
theorem mw_X6_203 : lkV RX6 203 RX1 yX1_spreadAt cX1_spreadAt 8 (some .int) := ⟨tw_mem _ [656, 657, 658, 71] (by decide +kernel) (by decide +kernel), tw_one 659 (by decide +kernel) (by decide +kernel), rfl, by decide, by decide⟩
theorem mw_X6_207 : lkV RX6 207 RX6 yX6_isTogether cX6_isTogether 3 (some .boolean) := ⟨tw_mem _ [668, 670, 21, 68] (by decide +kernel) (by decide +kernel), tw_one 671 (by decide +kernel) (by decide +kernel), rfl, by decide, by decide⟩
theorem ln_X6_isTogether : (parseMethodDescriptor yX6_isTogether.desc).map (fun d => d.parameters.length) = some 1 := by decide +kernel
theorem fw_X6_54 : Cond.fieldLink RX6 54 (TX6 9).1 (TX6 9).2.1 (TX6 9).2.2.1 ∈ gtbl := tw_one 299 (by decide +kernel) (by decide +kernel)
theorem mw_X6_210 : lkV RX6 210 RX5 yX5_weigh cX5_weigh 9 none := ⟨tw_mem _ [676, 677, 678, 72] (by decide +kernel) (by decide +kernel), tw_one 679 (by decide +kernel) (by decide +kernel), rfl, by decide, by decide⟩
theorem ln_X5_weigh : (parseMethodDescriptor yX5_weigh.desc).map (fun d => d.parameters.length) = some 4 := by decide +kernel
theorem mw_X6_214 : lkV RX6 214 RX6 yX6_everyPlayer cX6_everyPlayer 1 (some .int) := ⟨tw_mem _ [683, 685, 22, 68] (by decide +kernel) (by decide +kernel), tw_one 686 (by decide +kernel) (by decide +kernel), rfl, by decide, by decide⟩
theorem ln_X6_everyPlayer : (parseMethodDescriptor yX6_everyPlayer.desc).map (fun d => d.parameters.length) = some 0 := by decide +kernel
theorem mw_X6_217 : lkV RX6 217 RX5 yX5_tunes cX5_tunes 7 (some .boolean) := ⟨tw_mem _ [687, 688, 689, 72] (by decide +kernel) (by decide +kernel), tw_one 690 (by decide +kernel) (by decide +kernel), rfl, by decide, by decide⟩
theorem ln_X5_tunes : (parseMethodDescriptor yX5_tunes.desc).map (fun d => d.parameters.length) = some 2 := by decide +kernel
theorem mw_X6_221 : lkV RX6 221 RX5 yX5_leastOffset cX5_leastOffset 4 (some .int) := ⟨tw_mem _ [704, 705, 706, 72] (by decide +kernel) (by decide +kernel), tw_one 707 (by decide +kernel) (by decide +kernel), rfl, by decide, by decide⟩
theorem ln_X5_leastOffset : (parseMethodDescriptor yX5_leastOffset.desc).map (fun d => d.parameters.length) = some 2 := by decide +kernel
theorem kw_J6_265 : Cond.constant RJ6 265 (1431655765) ∈ gtbl := tw_one 715 (by decide +kernel) (by decide +kernel)
theorem kw_J6_266 : Cond.constant RJ6 266 (858993459) ∈ gtbl := tw_one 716 (by decide +kernel) (by decide +kernel)
theorem kw_J6_267 : Cond.constant RJ6 267 (252645135) ∈ gtbl := tw_one 717 (by decide +kernel) (by decide +kernel)
theorem mw_X6_224 : lkS RX6 224 yJ6_bitCount_0f7a4 cJ6_bitCount_0f7a4 1 (some .int) := ⟨tw_mem _ [712, 713, 82] (by decide +kernel) (by decide +kernel), tw_one 714 (by decide +kernel) (by decide +kernel), by decide, by decide⟩
theorem ln_J6_bitCount_0f7a4 : (parseMethodDescriptor yJ6_bitCount_0f7a4.desc).map (fun d => d.parameters.length) = some 1 := by decide +kernel
theorem fw_X6_229 : Cond.fieldLink RX6 229 (TX0 5).1 (TX0 5).2.1 (TX0 5).2.2.1 ∈ gtbl := tw_one 173 (by decide +kernel) (by decide +kernel)
theorem mw_X6_232 : lkV RX6 232 RX0 yX0_rememberOffsets cX0_rememberOffsets 1 none := ⟨tw_mem _ [730, 731, 732, 70] (by decide +kernel) (by decide +kernel), tw_one 733 (by decide +kernel) (by decide +kernel), rfl, by decide, by decide⟩
theorem ln_X0_rememberOffsets : (parseMethodDescriptor yX0_rememberOffsets.desc).map (fun d => d.parameters.length) = some 0 := by decide +kernel
theorem mw_X6_235 : lkV RX6 235 RX0 yX0_advance cX0_advance 5 (some .int) := ⟨tw_mem _ [735, 736, 737, 70] (by decide +kernel) (by decide +kernel), tw_one 738 (by decide +kernel) (by decide +kernel), rfl, by decide, by decide⟩
theorem ln_X0_advance : (parseMethodDescriptor yX0_advance.desc).map (fun d => d.parameters.length) = some 1 := by decide +kernel
theorem fw_X6_86 : Cond.fieldLink RX6 86 (TX6 16).1 (TX6 16).2.1 (TX6 16).2.2.1 ∈ gtbl := tw_one 306 (by decide +kernel) (by decide +kernel)
theorem fw_X6_239 : Cond.fieldLink RX6 239 (TX0 8).1 (TX0 8).2.1 (TX0 8).2.2.1 ∈ gtbl := tw_one 178 (by decide +kernel) (by decide +kernel)
theorem mw_X6_245 : lkV RX6 245 RX0 yX0_recallOffsets cX0_recallOffsets 1 none := ⟨tw_mem _ [755, 756, 757, 70] (by decide +kernel) (by decide +kernel), tw_one 758 (by decide +kernel) (by decide +kernel), rfl, by decide, by decide⟩
theorem ln_X0_recallOffsets : (parseMethodDescriptor yX0_recallOffsets.desc).map (fun d => d.parameters.length) = some 0 := by decide +kernel
theorem mw_X6_242 : lkV RX6 242 RX6 yX6_refuseNo cX6_refuseNo 1 (some .int) := ⟨tw_mem _ [751, 753, 24, 68] (by decide +kernel) (by decide +kernel), tw_one 754 (by decide +kernel) (by decide +kernel), rfl, by decide, by decide⟩
theorem ln_X6_refuseNo : (parseMethodDescriptor yX6_refuseNo.desc).map (fun d => d.parameters.length) = some 0 := by decide +kernel
theorem fw_X6_38 : Cond.fieldLink RX6 38 (TX6 6).1 (TX6 6).2.1 (TX6 6).2.2.1 ∈ gtbl := tw_one 296 (by decide +kernel) (by decide +kernel)
theorem mw_X6_181 : lkV RX6 181 RX0 yX0_becomeLike cX0_becomeLike 2 none := ⟨tw_mem _ [604, 605, 606, 70] (by decide +kernel) (by decide +kernel), tw_one 607 (by decide +kernel) (by decide +kernel), rfl, by decide, by decide⟩
theorem ln_X0_becomeLike : (parseMethodDescriptor yX0_becomeLike.desc).map (fun d => d.parameters.length) = some 1 := by decide +kernel
theorem fw_X6_41 : Cond.fieldLink RX6 41 (TX6 7).1 (TX6 7).2.1 (TX6 7).2.2.1 ∈ gtbl := tw_one 297 (by decide +kernel) (by decide +kernel)
theorem mw_X6_248 : lkS RX6 248 yX6_heldOffset cX6_heldOffset 1 (some .int) := ⟨tw_mem _ [767, 744, 68] (by decide +kernel) (by decide +kernel), tw_one 745 (by decide +kernel) (by decide +kernel), by decide, by decide⟩
theorem mw_X6_251 : lkV RX6 251 RX0 yX0_playersUnlike cX0_playersUnlike 4 (some .int) := ⟨tw_mem _ [768, 769, 770, 70] (by decide +kernel) (by decide +kernel), tw_one 771 (by decide +kernel) (by decide +kernel), rfl, by decide, by decide⟩
theorem ln_X0_playersUnlike : (parseMethodDescriptor yX0_playersUnlike.desc).map (fun d => d.parameters.length) = some 1 := by decide +kernel
theorem fw_X6_61 : Cond.fieldLink RX6 61 (TX6 10).1 (TX6 10).2.1 (TX6 10).2.2.1 ∈ gtbl := tw_one 300 (by decide +kernel) (by decide +kernel)
theorem mw_X6_255 : lkV RX6 255 RX3 yX3_search cX3_search 7 none := ⟨tw_mem _ [776, 777, 778, 73] (by decide +kernel) (by decide +kernel), tw_one 779 (by decide +kernel) (by decide +kernel), rfl, by decide, by decide⟩
theorem ln_X3_search : (parseMethodDescriptor yX3_search.desc).map (fun d => d.parameters.length) = some 3 := by decide +kernel
theorem fw_X6_259 : Cond.fieldLink RX6 259 (TX3 0).1 (TX3 0).2.1 (TX3 0).2.2.1 ∈ gtbl := tw_one 247 (by decide +kernel) (by decide +kernel)
theorem fw_X6_80 : Cond.fieldLink RX6 80 (TX6 14).1 (TX6 14).2.1 (TX6 14).2.2.1 ∈ gtbl := tw_one 304 (by decide +kernel) (by decide +kernel)
theorem mw_X6_262 : lkV RX6 262 RX4 yX4_mayComeFrom cX4_mayComeFrom 7 (some .boolean) := ⟨tw_mem _ [800, 801, 802, 69] (by decide +kernel) (by decide +kernel), tw_one 803 (by decide +kernel) (by decide +kernel), rfl, by decide, by decide⟩
theorem ln_X4_mayComeFrom : (parseMethodDescriptor yX4_mayComeFrom.desc).map (fun d => d.parameters.length) = some 3 := by decide +kernel
theorem mw_X6_266 : lkV RX6 266 RX4 yX4_pairsParted cX4_pairsParted 7 (some .int) := ⟨tw_mem _ [810, 811, 812, 69] (by decide +kernel) (by decide +kernel), tw_one 813 (by decide +kernel) (by decide +kernel), rfl, by decide, by decide⟩
theorem ln_X4_pairsParted : (parseMethodDescriptor yX4_pairsParted.desc).map (fun d => d.parameters.length) = some 2 := by decide +kernel
theorem mw_X6_269 : lkV RX6 269 RX6 yX6_howMany cX6_howMany 2 (some .int) := ⟨tw_mem _ [834, 836, 26, 68] (by decide +kernel) (by decide +kernel), tw_one 837 (by decide +kernel) (by decide +kernel), rfl, by decide, by decide⟩
theorem ln_X6_howMany : (parseMethodDescriptor yX6_howMany.desc).map (fun d => d.parameters.length) = some 1 := by decide +kernel
theorem kw_X6_272 : Cond.constantLong RX6 272 (677) ∈ gtbl := tw_one 842 (by decide +kernel) (by decide +kernel)
theorem kw_X6_274 : Cond.constantLong RX6 274 (31) ∈ gtbl := tw_one 843 (by decide +kernel) (by decide +kernel)
theorem mw_X6_276 : lkV RX6 276 RX4 yX4_digestOn cX4_digestOn 6 (some .long) := ⟨tw_mem _ [844, 845, 846, 69] (by decide +kernel) (by decide +kernel), tw_one 847 (by decide +kernel) (by decide +kernel), rfl, by decide, by decide⟩
theorem ln_X4_digestOn : (parseMethodDescriptor yX4_digestOn.desc).map (fun d => d.parameters.length) = some 1 := by decide +kernel
theorem mw_X6_280 : lkV RX6 280 RX0 yX0_digestOn cX0_digestOn 7 (some .long) := ⟨tw_mem _ [849, 850, 851, 70] (by decide +kernel) (by decide +kernel), tw_one 852 (by decide +kernel) (by decide +kernel), rfl, by decide, by decide⟩
theorem ln_X0_digestOn : (parseMethodDescriptor yX0_digestOn.desc).map (fun d => d.parameters.length) = some 2 := by decide +kernel
theorem fw_X7_20 : Cond.fieldLink RX7 20 (TX7 3).1 (TX7 3).2.1 (TX7 3).2.2.1 ∈ gtbl := tw_one 863 (by decide +kernel) (by decide +kernel)
theorem fw_X7_7 : Cond.fieldLink RX7 7 (TX7 0).1 (TX7 0).2.1 (TX7 0).2.2.1 ∈ gtbl := tw_one 860 (by decide +kernel) (by decide +kernel)
theorem mw_X7_56 : lkV RX7 56 RX7 yX7_windows cX7_windows 1 (some .int) := ⟨tw_mem _ [946, 948, 28, 75] (by decide +kernel) (by decide +kernel), tw_one 949 (by decide +kernel) (by decide +kernel), rfl, by decide, by decide⟩
theorem ln_X7_windows : (parseMethodDescriptor yX7_windows.desc).map (fun d => d.parameters.length) = some 0 := by decide +kernel
theorem mw_X7_60 : lkS RX7 60 yX7_in cX7_in 6 (some .boolean) := ⟨tw_mem _ [939, 940, 75] (by decide +kernel) (by decide +kernel), tw_one 941 (by decide +kernel) (by decide +kernel), by decide, by decide⟩
theorem ln_X7_in : (parseMethodDescriptor yX7_in.desc).map (fun d => d.parameters.length) = some 3 := by decide +kernel
theorem mw_X7_64 : lkV RX7 64 RX7 yX7_ears cX7_ears 1 (some .int) := ⟨tw_mem _ [958, 960, 30, 75] (by decide +kernel) (by decide +kernel), tw_one 961 (by decide +kernel) (by decide +kernel), rfl, by decide, by decide⟩
theorem ln_X7_ears : (parseMethodDescriptor yX7_ears.desc).map (fun d => d.parameters.length) = some 0 := by decide +kernel
theorem mw_X7_67 : lkV RX7 67 RX7 yX7_players cX7_players 1 (some .int) := ⟨tw_mem _ [990, 992, 33, 75] (by decide +kernel) (by decide +kernel), tw_one 993 (by decide +kernel) (by decide +kernel), rfl, by decide, by decide⟩
theorem ln_X7_players : (parseMethodDescriptor yX7_players.desc).map (fun d => d.parameters.length) = some 0 := by decide +kernel
theorem kw_X7_70 : Cond.constantLong RX7 70 (99) ∈ gtbl := tw_one 938 (by decide +kernel) (by decide +kernel)
theorem mw_X7_72 : lkS RX7 72 yX7_isPlace cX7_isPlace 2 (some .boolean) := ⟨tw_mem _ [935, 936, 75] (by decide +kernel) (by decide +kernel), tw_one 937 (by decide +kernel) (by decide +kernel), by decide, by decide⟩
theorem ln_X7_isPlace : (parseMethodDescriptor yX7_isPlace.desc).map (fun d => d.parameters.length) = some 2 := by decide +kernel
theorem mw_X7_80 : lkV RX7 80 RX7 yX7_full cX7_full 1 (some .int) := ⟨tw_mem _ [950, 952, 29, 75] (by decide +kernel) (by decide +kernel), tw_one 953 (by decide +kernel) (by decide +kernel), rfl, by decide, by decide⟩
theorem ln_X7_full : (parseMethodDescriptor yX7_full.desc).map (fun d => d.parameters.length) = some 0 := by decide +kernel
theorem mw_X7_76 : lkV RX7 76 RX7 yX7_bad cX7_bad 2 (some .int) := ⟨tw_mem _ [942, 944, 27, 75] (by decide +kernel) (by decide +kernel), tw_one 945 (by decide +kernel) (by decide +kernel), rfl, by decide, by decide⟩
theorem ln_X7_bad : (parseMethodDescriptor yX7_bad.desc).map (fun d => d.parameters.length) = some 1 := by decide +kernel
theorem kw_X7_83 : Cond.constantLong RX7 83 (9) ∈ gtbl := tw_one 973 (by decide +kernel) (by decide +kernel)
theorem kw_X7_85 : Cond.constantLong RX7 85 (-2) ∈ gtbl := tw_one 974 (by decide +kernel) (by decide +kernel)
theorem kw_X7_87 : Cond.constantLong RX7 87 (2) ∈ gtbl := tw_one 975 (by decide +kernel) (by decide +kernel)
theorem kw_X7_89 : Cond.constantLong RX7 89 (999) ∈ gtbl := tw_one 976 (by decide +kernel) (by decide +kernel)
theorem mw_X7_91 : lkS RX7 91 yX7_isNumber cX7_isNumber 2 (some .boolean) := ⟨tw_mem _ [970, 971, 75] (by decide +kernel) (by decide +kernel), tw_one 972 (by decide +kernel) (by decide +kernel), by decide, by decide⟩
theorem ln_X7_isNumber : (parseMethodDescriptor yX7_isNumber.desc).map (fun d => d.parameters.length) = some 2 := by decide +kernel
theorem mw_X7_94 : lkV RX7 94 RX7 yX7_of cX7_of 3 (some .int) := ⟨tw_mem _ [994, 996, 34, 75] (by decide +kernel) (by decide +kernel), tw_one 997 (by decide +kernel) (by decide +kernel), rfl, by decide, by decide⟩
theorem ln_X7_of : (parseMethodDescriptor yX7_of.desc).map (fun d => d.parameters.length) = some 2 := by decide +kernel
theorem kw_X7_98 : Cond.constantLong RX7 98 (5) ∈ gtbl := tw_one 981 (by decide +kernel) (by decide +kernel)
theorem mw_X7_100 : lkV RX7 100 RX7 yX7_isWindow cX7_isWindow 2 (some .boolean) := ⟨tw_mem _ [982, 984, 31, 75] (by decide +kernel) (by decide +kernel), tw_one 985 (by decide +kernel) (by decide +kernel), rfl, by decide, by decide⟩
theorem ln_X7_isWindow : (parseMethodDescriptor yX7_isWindow.desc).map (fun d => d.parameters.length) = some 1 := by decide +kernel
theorem mw_X7_104 : lkV RX7 104 RX7 yX7_isTaken cX7_isTaken 4 (some .boolean) := ⟨tw_mem _ [986, 988, 32, 75] (by decide +kernel) (by decide +kernel), tw_one 989 (by decide +kernel) (by decide +kernel), rfl, by decide, by decide⟩
theorem ln_X7_isTaken : (parseMethodDescriptor yX7_isTaken.desc).map (fun d => d.parameters.length) = some 1 := by decide +kernel
theorem mw_X7_107 : lkS RX7 107 yX7_layPlayer cX7_layPlayer 6 none := ⟨tw_mem _ [998, 999, 75] (by decide +kernel) (by decide +kernel), tw_one 1000 (by decide +kernel) (by decide +kernel), by decide, by decide⟩
theorem ln_X7_layPlayer : (parseMethodDescriptor yX7_layPlayer.desc).map (fun d => d.parameters.length) = some 6 := by decide +kernel
theorem kw_X7_111 : Cond.constantLong RX7 111 (-500) ∈ gtbl := tw_one 1012 (by decide +kernel) (by decide +kernel)
theorem kw_X7_113 : Cond.constantLong RX7 113 (500) ∈ gtbl := tw_one 1013 (by decide +kernel) (by decide +kernel)
theorem mw_X7_115 : lkV RX7 115 RX7 yX7_isPlayer cX7_isPlayer 2 (some .boolean) := ⟨tw_mem _ [1005, 1007, 35, 75] (by decide +kernel) (by decide +kernel), tw_one 1008 (by decide +kernel) (by decide +kernel), rfl, by decide, by decide⟩
theorem ln_X7_isPlayer : (parseMethodDescriptor yX7_isPlayer.desc).map (fun d => d.parameters.length) = some 1 := by decide +kernel
theorem mw_X7_118 : lkS RX7 118 yX7_isOffset cX7_isOffset 1 (some .boolean) := ⟨tw_mem _ [1009, 1010, 75] (by decide +kernel) (by decide +kernel), tw_one 1011 (by decide +kernel) (by decide +kernel), by decide, by decide⟩
theorem ln_X7_isOffset : (parseMethodDescriptor yX7_isOffset.desc).map (fun d => d.parameters.length) = some 1 := by decide +kernel
theorem mw_X7_121 : lkS RX7 121 yX7_lateBy cX7_lateBy 2 (some .int) := ⟨tw_mem _ [1022, 1023, 75] (by decide +kernel) (by decide +kernel), tw_one 1024 (by decide +kernel) (by decide +kernel), by decide, by decide⟩
theorem ln_X7_lateBy : (parseMethodDescriptor yX7_lateBy.desc).map (fun d => d.parameters.length) = some 2 := by decide +kernel
theorem mw_X7_124 : lkV RX7 124 RX7 yX7_lateOf cX7_lateOf 2 (some .int) := ⟨tw_mem _ [1018, 1020, 36, 75] (by decide +kernel) (by decide +kernel), tw_one 1021 (by decide +kernel) (by decide +kernel), rfl, by decide, by decide⟩
theorem ln_X7_lateOf : (parseMethodDescriptor yX7_lateOf.desc).map (fun d => d.parameters.length) = some 1 := by decide +kernel
theorem mw_X7_127 : lkS RX7 127 yX7_far cX7_far 2 (some .int) := ⟨tw_mem _ [1041, 1042, 75] (by decide +kernel) (by decide +kernel), tw_one 1043 (by decide +kernel) (by decide +kernel), by decide, by decide⟩
theorem ln_X7_far : (parseMethodDescriptor yX7_far.desc).map (fun d => d.parameters.length) = some 2 := by decide +kernel
theorem mw_X7_130 : lkV RX7 130 RX7 yX7_paces cX7_paces 3 (some .int) := ⟨tw_mem _ [1037, 1039, 39, 75] (by decide +kernel) (by decide +kernel), tw_one 1040 (by decide +kernel) (by decide +kernel), rfl, by decide, by decide⟩
theorem ln_X7_paces : (parseMethodDescriptor yX7_paces.desc).map (fun d => d.parameters.length) = some 2 := by decide +kernel
theorem mw_X7_133 : lkV RX7 133 RX7 yX7_isEar cX7_isEar 2 (some .boolean) := ⟨tw_mem _ [1029, 1031, 37, 75] (by decide +kernel) (by decide +kernel), tw_one 1032 (by decide +kernel) (by decide +kernel), rfl, by decide, by decide⟩
theorem ln_X7_isEar : (parseMethodDescriptor yX7_isEar.desc).map (fun d => d.parameters.length) = some 1 := by decide +kernel
theorem mw_X7_136 : lkV RX7 136 RX7 yX7_soundOf cX7_soundOf 6 (some .int) := ⟨tw_mem _ [1033, 1035, 38, 75] (by decide +kernel) (by decide +kernel), tw_one 1036 (by decide +kernel) (by decide +kernel), rfl, by decide, by decide⟩
theorem ln_X7_soundOf : (parseMethodDescriptor yX7_soundOf.desc).map (fun d => d.parameters.length) = some 2 := by decide +kernel
theorem fw_X7_23 : Cond.fieldLink RX7 23 (TX7 4).1 (TX7 4).2.1 (TX7 4).2.2.1 ∈ gtbl := tw_one 864 (by decide +kernel) (by decide +kernel)
theorem fw_X7_139 : Cond.fieldLink RX7 139 (TX7 7).1 (TX7 7).2.1 (TX7 7).2.2.1 ∈ gtbl := tw_one 867 (by decide +kernel) (by decide +kernel)
theorem fw_X7_26 : Cond.fieldLink RX7 26 (TX7 5).1 (TX7 5).2.1 (TX7 5).2.2.1 ∈ gtbl := tw_one 865 (by decide +kernel) (by decide +kernel)
theorem fw_X7_29 : Cond.fieldLink RX7 29 (TX7 6).1 (TX7 6).2.1 (TX7 6).2.2.1 ∈ gtbl := tw_one 866 (by decide +kernel) (by decide +kernel)
theorem fw_X7_143 : Cond.fieldLink RX7 143 (TX7 8).1 (TX7 8).2.1 (TX7 8).2.2.1 ∈ gtbl := tw_one 868 (by decide +kernel) (by decide +kernel)
theorem mw_X7_153 : lkV RX7 153 RX7 yX7_laySound cX7_laySound 4 none := ⟨tw_mem _ [1062, 1064, 43, 75] (by decide +kernel) (by decide +kernel), tw_one 1065 (by decide +kernel) (by decide +kernel), rfl, by decide, by decide⟩
theorem ln_X7_laySound : (parseMethodDescriptor yX7_laySound.desc).map (fun d => d.parameters.length) = some 3 := by decide +kernel
theorem mw_X7_146 : lkV RX7 146 RX7 yX7_isAwake cX7_isAwake 2 (some .boolean) := ⟨tw_mem _ [1054, 1056, 41, 75] (by decide +kernel) (by decide +kernel), tw_one 1057 (by decide +kernel) (by decide +kernel), rfl, by decide, by decide⟩
theorem ln_X7_isAwake : (parseMethodDescriptor yX7_isAwake.desc).map (fun d => d.parameters.length) = some 1 := by decide +kernel
theorem mw_X7_149 : lkV RX7 149 RX7 yX7_layOf cX7_layOf 6 none := ⟨tw_mem _ [1058, 1060, 42, 75] (by decide +kernel) (by decide +kernel), tw_one 1061 (by decide +kernel) (by decide +kernel), rfl, by decide, by decide⟩
theorem ln_X7_layOf : (parseMethodDescriptor yX7_layOf.desc).map (fun d => d.parameters.length) = some 2 := by decide +kernel
theorem kw_X7_159 : Cond.constant RX7 159 (-200000) ∈ gtbl := tw_one 1049 (by decide +kernel) (by decide +kernel)
theorem kw_X7_157 : Cond.constantLong RX7 157 (9999) ∈ gtbl := tw_one 1048 (by decide +kernel) (by decide +kernel)
theorem mw_X7_160 : lkV RX7 160 RX7 yX7_layAll cX7_layAll 3 none := ⟨tw_mem _ [1050, 1052, 40, 75] (by decide +kernel) (by decide +kernel), tw_one 1053 (by decide +kernel) (by decide +kernel), rfl, by decide, by decide⟩
theorem ln_X7_layAll : (parseMethodDescriptor yX7_layAll.desc).map (fun d => d.parameters.length) = some 1 := by decide +kernel
theorem kw_X7_164 : Cond.constant RX7 164 (-100000) ∈ gtbl := tw_one 1066 (by decide +kernel) (by decide +kernel)
theorem kw_X7_165 : Cond.constant RX7 165 (1000000) ∈ gtbl := tw_one 1079 (by decide +kernel) (by decide +kernel)
theorem kw_X7_166 : Cond.constant RX7 166 (-1000000) ∈ gtbl := tw_one 1080 (by decide +kernel) (by decide +kernel)
theorem mw_X7_167 : lkV RX7 167 RX7 yX7_spreadOf cX7_spreadOf 6 (some .int) := ⟨tw_mem _ [1075, 1077, 44, 75] (by decide +kernel) (by decide +kernel), tw_one 1078 (by decide +kernel) (by decide +kernel), rfl, by decide, by decide⟩
theorem ln_X7_spreadOf : (parseMethodDescriptor yX7_spreadOf.desc).map (fun d => d.parameters.length) = some 1 := by decide +kernel
theorem mw_X7_170 : lkS RX7 170 yX7_isParts cX7_isParts 1 (some .boolean) := ⟨tw_mem _ [1085, 1086, 75] (by decide +kernel) (by decide +kernel), tw_one 1087 (by decide +kernel) (by decide +kernel), by decide, by decide⟩
theorem ln_X7_isParts : (parseMethodDescriptor yX7_isParts.desc).map (fun d => d.parameters.length) = some 1 := by decide +kernel
theorem mw_X7_173 : lkV RX7 173 RX7 yX7_isTogether cX7_isTogether 4 (some .boolean) := ⟨tw_mem _ [1088, 1090, 45, 75] (by decide +kernel) (by decide +kernel), tw_one 1091 (by decide +kernel) (by decide +kernel), rfl, by decide, by decide⟩
theorem ln_X7_isTogether : (parseMethodDescriptor yX7_isTogether.desc).map (fun d => d.parameters.length) = some 1 := by decide +kernel
theorem fw_X7_32 : Cond.fieldLink RX7 32 (TX7 9).1 (TX7 9).2.1 (TX7 9).2.2.1 ∈ gtbl := tw_one 869 (by decide +kernel) (by decide +kernel)
theorem mw_X7_176 : lkV RX7 176 RX7 yX7_raiseAt cX7_raiseAt 5 (some .int) := ⟨tw_mem _ [1100, 1102, 47, 75] (by decide +kernel) (by decide +kernel), tw_one 1103 (by decide +kernel) (by decide +kernel), rfl, by decide, by decide⟩
theorem ln_X7_raiseAt : (parseMethodDescriptor yX7_raiseAt.desc).map (fun d => d.parameters.length) = some 1 := by decide +kernel
theorem mw_X7_179 : lkV RX7 179 RX7 yX7_canTune cX7_canTune 4 (some .boolean) := ⟨tw_mem _ [1096, 1098, 46, 75] (by decide +kernel) (by decide +kernel), tw_one 1099 (by decide +kernel) (by decide +kernel), rfl, by decide, by decide⟩
theorem ln_X7_canTune : (parseMethodDescriptor yX7_canTune.desc).map (fun d => d.parameters.length) = some 1 := by decide +kernel
theorem mw_X7_182 : lkV RX7 182 RX7 yX7_all cX7_all 1 (some .int) := ⟨tw_mem _ [1108, 1110, 48, 75] (by decide +kernel) (by decide +kernel), tw_one 1111 (by decide +kernel) (by decide +kernel), rfl, by decide, by decide⟩
theorem ln_X7_all : (parseMethodDescriptor yX7_all.desc).map (fun d => d.parameters.length) = some 0 := by decide +kernel
theorem mw_X7_185 : lkS RX7 185 yX7_manyIn cX7_manyIn 3 (some .int) := ⟨tw_mem _ [1112, 1113, 75] (by decide +kernel) (by decide +kernel), tw_one 1114 (by decide +kernel) (by decide +kernel), by decide, by decide⟩
theorem ln_X7_manyIn : (parseMethodDescriptor yX7_manyIn.desc).map (fun d => d.parameters.length) = some 1 := by decide +kernel
theorem fw_X7_38 : Cond.fieldLink RX7 38 (TX7 11).1 (TX7 11).2.1 (TX7 11).2.2.1 ∈ gtbl := tw_one 871 (by decide +kernel) (by decide +kernel)
theorem mw_X7_188 : lkS RX7 188 yX7_hold cX7_hold 1 (some .int) := ⟨tw_mem _ [1135, 1136, 75] (by decide +kernel) (by decide +kernel), tw_one 1137 (by decide +kernel) (by decide +kernel), by decide, by decide⟩
theorem ln_X7_hold : (parseMethodDescriptor yX7_hold.desc).map (fun d => d.parameters.length) = some 1 := by decide +kernel
theorem fw_X7_35 : Cond.fieldLink RX7 35 (TX7 10).1 (TX7 10).2.1 (TX7 10).2.2.1 ∈ gtbl := tw_one 870 (by decide +kernel) (by decide +kernel)
theorem mw_X7_191 : lkV RX7 191 RX7 yX7_takeOffsets cX7_takeOffsets 3 none := ⟨tw_mem _ [1127, 1129, 49, 75] (by decide +kernel) (by decide +kernel), tw_one 1130 (by decide +kernel) (by decide +kernel), rfl, by decide, by decide⟩
theorem ln_X7_takeOffsets : (parseMethodDescriptor yX7_takeOffsets.desc).map (fun d => d.parameters.length) = some 1 := by decide +kernel
theorem mw_X7_195 : lkV RX7 195 RX7 yX7_makeRound cX7_makeRound 5 (some .int) := ⟨tw_mem _ [1131, 1133, 50, 75] (by decide +kernel) (by decide +kernel), tw_one 1134 (by decide +kernel) (by decide +kernel), rfl, by decide, by decide⟩
theorem ln_X7_makeRound : (parseMethodDescriptor yX7_makeRound.desc).map (fun d => d.parameters.length) = some 1 := by decide +kernel
theorem mw_X7_199 : lkV RX7 199 RX7 yX7_no cX7_no 1 (some .int) := ⟨tw_mem _ [1142, 1144, 51, 75] (by decide +kernel) (by decide +kernel), tw_one 1145 (by decide +kernel) (by decide +kernel), rfl, by decide, by decide⟩
theorem ln_X7_no : (parseMethodDescriptor yX7_no.desc).map (fun d => d.parameters.length) = some 0 := by decide +kernel
theorem kw_X7_202 : Cond.constantLong RX7 202 (-99) ∈ gtbl := tw_one 1154 (by decide +kernel) (by decide +kernel)
theorem kw_X7_204 : Cond.constantLong RX7 204 (20) ∈ gtbl := tw_one 1155 (by decide +kernel) (by decide +kernel)
theorem fw_X7_41 : Cond.fieldLink RX7 41 (TX7 12).1 (TX7 12).2.1 (TX7 12).2.2.1 ∈ gtbl := tw_one 872 (by decide +kernel) (by decide +kernel)
theorem fw_X7_44 : Cond.fieldLink RX7 44 (TX7 13).1 (TX7 13).2.1 (TX7 13).2.2.1 ∈ gtbl := tw_one 873 (by decide +kernel) (by decide +kernel)
theorem mw_X7_206 : lkV RX7 206 RX7 yX7_putAll cX7_putAll 6 (some .boolean) := ⟨tw_mem _ [1164, 1166, 53, 75] (by decide +kernel) (by decide +kernel), tw_one 1167 (by decide +kernel) (by decide +kernel), rfl, by decide, by decide⟩
theorem ln_X7_putAll : (parseMethodDescriptor yX7_putAll.desc).map (fun d => d.parameters.length) = some 1 := by decide +kernel
theorem mw_X7_209 : lkV RX7 209 RX7 yX7_leastLoud cX7_leastLoud 5 (some .int) := ⟨tw_mem _ [1168, 1170, 54, 75] (by decide +kernel) (by decide +kernel), tw_one 1171 (by decide +kernel) (by decide +kernel), rfl, by decide, by decide⟩
theorem ln_X7_leastLoud : (parseMethodDescriptor yX7_leastLoud.desc).map (fun d => d.parameters.length) = some 0 := by decide +kernel
theorem fw_X7_47 : Cond.fieldLink RX7 47 (TX7 14).1 (TX7 14).2.1 (TX7 14).2.2.1 ∈ gtbl := tw_one 874 (by decide +kernel) (by decide +kernel)
theorem mw_X7_212 : lkV RX7 212 RX7 yX7_findBest cX7_findBest 8 none := ⟨tw_mem _ [1160, 1162, 52, 75] (by decide +kernel) (by decide +kernel), tw_one 1163 (by decide +kernel) (by decide +kernel), rfl, by decide, by decide⟩
theorem ln_X7_findBest : (parseMethodDescriptor yX7_findBest.desc).map (fun d => d.parameters.length) = some 0 := by decide +kernel
theorem kw_X7_215 : Cond.constantLong RX7 215 (8) ∈ gtbl := tw_one 1188 (by decide +kernel) (by decide +kernel)
theorem fw_X7_217 : Cond.fieldLink RX7 217 (TX7 16).1 (TX7 16).2.1 (TX7 16).2.2.1 ∈ gtbl := tw_one 876 (by decide +kernel) (by decide +kernel)
theorem fw_X7_50 : Cond.fieldLink RX7 50 (TX7 15).1 (TX7 15).2.1 (TX7 15).2.2.1 ∈ gtbl := tw_one 875 (by decide +kernel) (by decide +kernel)
theorem kw_X7_220 : Cond.constantLong RX7 220 (255) ∈ gtbl := tw_one 1189 (by decide +kernel) (by decide +kernel)
theorem kw_X7_222 : Cond.constantLong RX7 222 (97) ∈ gtbl := tw_one 1205 (by decide +kernel) (by decide +kernel)
theorem kw_X7_224 : Cond.constantLong RX7 224 (122) ∈ gtbl := tw_one 1206 (by decide +kernel) (by decide +kernel)
theorem kw_X7_226 : Cond.constantLong RX7 226 (48) ∈ gtbl := tw_one 1210 (by decide +kernel) (by decide +kernel)
theorem kw_X7_228 : Cond.constantLong RX7 228 (57) ∈ gtbl := tw_one 1211 (by decide +kernel) (by decide +kernel)
theorem fw_X7_230 : Cond.fieldLink RX7 230 (TX7 17).1 (TX7 17).2.1 (TX7 17).2.2.1 ∈ gtbl := tw_one 877 (by decide +kernel) (by decide +kernel)
theorem fw_X7_233 : Cond.fieldLink RX7 233 (TX7 18).1 (TX7 18).2.1 (TX7 18).2.2.1 ∈ gtbl := tw_one 878 (by decide +kernel) (by decide +kernel)
theorem fw_X7_236 : Cond.fieldLink RX7 236 (TX7 19).1 (TX7 19).2.1 (TX7 19).2.2.1 ∈ gtbl := tw_one 879 (by decide +kernel) (by decide +kernel)
theorem fw_X7_239 : Cond.fieldLink RX7 239 (TX7 20).1 (TX7 20).2.1 (TX7 20).2.2.1 ∈ gtbl := tw_one 880 (by decide +kernel) (by decide +kernel)
theorem mw_X7_242 : lkS RX7 242 yX7_isSmall cX7_isSmall 1 (some .boolean) := ⟨tw_mem _ [1202, 1203, 75] (by decide +kernel) (by decide +kernel), tw_one 1204 (by decide +kernel) (by decide +kernel), by decide, by decide⟩
theorem ln_X7_isSmall : (parseMethodDescriptor yX7_isSmall.desc).map (fun d => d.parameters.length) = some 1 := by decide +kernel
theorem mw_X7_245 : lkS RX7 245 yX7_isFigure cX7_isFigure 1 (some .boolean) := ⟨tw_mem _ [1207, 1208, 75] (by decide +kernel) (by decide +kernel), tw_one 1209 (by decide +kernel) (by decide +kernel), by decide, by decide⟩
theorem ln_X7_isFigure : (parseMethodDescriptor yX7_isFigure.desc).map (fun d => d.parameters.length) = some 1 := by decide +kernel
theorem mw_X7_248 : lkV RX7 248 RX7 yX7_look cX7_look 5 none := ⟨tw_mem _ [1198, 1200, 55, 75] (by decide +kernel) (by decide +kernel), tw_one 1201 (by decide +kernel) (by decide +kernel), rfl, by decide, by decide⟩
theorem ln_X7_look : (parseMethodDescriptor yX7_look.desc).map (fun d => d.parameters.length) = some 1 := by decide +kernel
theorem fw_X7_251 : Cond.fieldLink RX7 251 (TX7 22).1 (TX7 22).2.1 (TX7 22).2.2.1 ∈ gtbl := tw_one 882 (by decide +kernel) (by decide +kernel)
theorem mw_X7_254 : lkV RX7 254 RX7 yX7_goOn cX7_goOn 1 none := ⟨tw_mem _ [1228, 1230, 60, 75] (by decide +kernel) (by decide +kernel), tw_one 1231 (by decide +kernel) (by decide +kernel), rfl, by decide, by decide⟩
theorem ln_X7_goOn : (parseMethodDescriptor yX7_goOn.desc).map (fun d => d.parameters.length) = some 0 := by decide +kernel
theorem mw_X7_257 : lkV RX7 257 RX7 yX7_takes cX7_takes 3 (some .boolean) := ⟨tw_mem _ [1232, 1234, 61, 75] (by decide +kernel) (by decide +kernel), tw_one 1235 (by decide +kernel) (by decide +kernel), rfl, by decide, by decide⟩
theorem ln_X7_takes : (parseMethodDescriptor yX7_takes.desc).map (fun d => d.parameters.length) = some 2 := by decide +kernel
theorem fw_X7_53 : Cond.fieldLink RX7 53 (TX7 21).1 (TX7 21).2.1 (TX7 21).2.2.1 ∈ gtbl := tw_one 881 (by decide +kernel) (by decide +kernel)
theorem mw_X7_260 : lkV RX7 260 RX7 yX7_readsPlace cX7_readsPlace 2 (some .boolean) := ⟨tw_mem _ [1224, 1226, 59, 75] (by decide +kernel) (by decide +kernel), tw_one 1227 (by decide +kernel) (by decide +kernel), rfl, by decide, by decide⟩
theorem ln_X7_readsPlace : (parseMethodDescriptor yX7_readsPlace.desc).map (fun d => d.parameters.length) = some 1 := by decide +kernel
theorem mw_X7_263 : lkV RX7 263 RX7 yX7_isTakenThen cX7_isTakenThen 4 (some .boolean) := ⟨tw_mem _ [1240, 1242, 63, 75] (by decide +kernel) (by decide +kernel), tw_one 1243 (by decide +kernel) (by decide +kernel), rfl, by decide, by decide⟩
theorem ln_X7_isTakenThen : (parseMethodDescriptor yX7_isTakenThen.desc).map (fun d => d.parameters.length) = some 1 := by decide +kernel
theorem mw_X7_266 : lkV RX7 266 RX7 yX7_isWord cX7_isWord 10 (some .boolean) := ⟨tw_mem _ [1216, 1218, 57, 75] (by decide +kernel) (by decide +kernel), tw_one 1219 (by decide +kernel) (by decide +kernel), rfl, by decide, by decide⟩
theorem ln_X7_isWord : (parseMethodDescriptor yX7_isWord.desc).map (fun d => d.parameters.length) = some 6 := by decide +kernel
theorem mw_X7_278 : lkV RX7 278 RX7 yX7_readsOffset cX7_readsOffset 3 (some .boolean) := ⟨tw_mem _ [1244, 1246, 64, 75] (by decide +kernel) (by decide +kernel), tw_one 1247 (by decide +kernel) (by decide +kernel), rfl, by decide, by decide⟩
theorem ln_X7_readsOffset : (parseMethodDescriptor yX7_readsOffset.desc).map (fun d => d.parameters.length) = some 0 := by decide +kernel
theorem mw_X7_274 : lkV RX7 274 RX7 yX7_readsPlayer cX7_readsPlayer 4 (some .boolean) := ⟨tw_mem _ [1236, 1238, 62, 75] (by decide +kernel) (by decide +kernel), tw_one 1239 (by decide +kernel) (by decide +kernel), rfl, by decide, by decide⟩
theorem ln_X7_readsPlayer : (parseMethodDescriptor yX7_readsPlayer.desc).map (fun d => d.parameters.length) = some 0 := by decide +kernel
theorem mw_X7_270 : lkV RX7 270 RX7 yX7_readsOneOf cX7_readsOneOf 4 (some .boolean) := ⟨tw_mem _ [1220, 1222, 58, 75] (by decide +kernel) (by decide +kernel), tw_one 1223 (by decide +kernel) (by decide +kernel), rfl, by decide, by decide⟩
theorem ln_X7_readsOneOf : (parseMethodDescriptor yX7_readsOneOf.desc).map (fun d => d.parameters.length) = some 3 := by decide +kernel
theorem mw_X7_281 : lkV RX7 281 RX7 yX7_readsItem cX7_readsItem 2 (some .boolean) := ⟨tw_mem _ [1212, 1214, 56, 75] (by decide +kernel) (by decide +kernel), tw_one 1215 (by decide +kernel) (by decide +kernel), rfl, by decide, by decide⟩
theorem ln_X7_readsItem : (parseMethodDescriptor yX7_readsItem.desc).map (fun d => d.parameters.length) = some 0 := by decide +kernel
theorem fw_X7_13 : Cond.fieldLink RX7 13 (TX7 1).1 (TX7 1).2.1 (TX7 1).2.2.1 ∈ gtbl := tw_one 861 (by decide +kernel) (by decide +kernel)
theorem fw_X7_16 : Cond.fieldLink RX7 16 (TX7 2).1 (TX7 2).2.1 (TX7 2).2.2.1 ∈ gtbl := tw_one 862 (by decide +kernel) (by decide +kernel)
theorem kw_X7_284 : Cond.constantLong RX7 284 (4) ∈ gtbl := tw_one 1264 (by decide +kernel) (by decide +kernel)
theorem mw_X7_286 : lkV RX7 286 RX7 yX7_counted cX7_counted 2 (some .int) := ⟨tw_mem _ [1265, 1267, 65, 75] (by decide +kernel) (by decide +kernel), tw_one 1268 (by decide +kernel) (by decide +kernel), rfl, by decide, by decide⟩
theorem ln_X7_counted : (parseMethodDescriptor yX7_counted.desc).map (fun d => d.parameters.length) = some 1 := by decide +kernel
theorem kw_X7_289 : Cond.constantLong RX7 289 (31) ∈ gtbl := tw_one 1274 (by decide +kernel) (by decide +kernel)
theorem kw_X7_291 : Cond.constantLong RX7 291 (677) ∈ gtbl := tw_one 1273 (by decide +kernel) (by decide +kernel)
theorem mw_X7_293 : lkV RX7 293 RX7 yX7_sums cX7_sums 8 (some .long) := ⟨tw_mem _ [1275, 1277, 66, 75] (by decide +kernel) (by decide +kernel), tw_one 1278 (by decide +kernel) (by decide +kernel), rfl, by decide, by decide⟩
theorem ln_X7_sums : (parseMethodDescriptor yX7_sums.desc).map (fun d => d.parameters.length) = some 3 := by decide +kernel
