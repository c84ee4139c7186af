theorem ln_J0_length_8abf5 : (parseMethodDescriptor yJ0_length_8abf5.desc).map (fun d => d.parameters.length) = some 0 := by decide +kernel
theorem ln_J0_charAt_5068e : (parseMethodDescriptor yJ0_charAt_5068e.desc).map (fun d => d.parameters.length) = some 1 := by decide +kernel
theorem fw_J0_38_ : Cond.fieldLink RJ0 38 "java/lang/String" "COMPACT_STRINGS" "Z" ∈ gtbl := tw_one 517 (by decide +kernel) (by decide +kernel)
theorem fw_J0_15_ : Cond.fieldLink RJ0 15 "java/lang/String" "coder" "B" ∈ gtbl := tw_one 1281 (by decide +kernel) (by decide +kernel)
theorem fw_J0_1053_ : Cond.fieldLink RJ0 1053 "jdk/internal/util/Preconditions" "SIOOBE_FORMATTER" "Ljava/util/function/BiFunction;" ∈ gtbl := tw_one 533 (by decide +kernel) (by decide +kernel)
theorem fw_J0_9_ : Cond.fieldLink RJ0 9 "java/lang/String" "value" "[B" ∈ gtbl := tw_one 1280 (by decide +kernel) (by decide +kernel)
theorem mw_J0_1059 : lkS RJ0 1059 yJ3_checkIndex_8e157 cJ3_checkIndex_8e157 3 (some .int) := ⟨tw_mem _ [535, 536, 80] (by decide +kernel) (by decide +kernel), tw_one 537 (by decide +kernel) (by decide +kernel), by decide, by decide⟩
theorem ln_J3_checkIndex_8e157 : (parseMethodDescriptor yJ3_checkIndex_8e157.desc).map (fun d => d.parameters.length) = some 3 := by decide +kernel
theorem mw_J1_9 : lkS RJ1 9 yJ0_checkIndex_df160 cJ0_checkIndex_df160 2 none := ⟨tw_mem _ [530, 531, 78] (by decide +kernel) (by decide +kernel), tw_one 532 (by decide +kernel) (by decide +kernel), by decide, by decide⟩
theorem ln_J0_checkIndex_df160 : (parseMethodDescriptor yJ0_checkIndex_df160.desc).map (fun d => d.parameters.length) = some 2 := by decide +kernel
theorem mw_J0_335 : lkV RJ0 335 RJ0 yJ0_coder_7d493 cJ0_coder_7d493 1 (some .byte) := ⟨tw_mem _ [513, 514, 515, 78] (by decide +kernel) (by decide +kernel), tw_one 516 (by decide +kernel) (by decide +kernel), rfl, by decide, by decide⟩
theorem ln_J0_coder_7d493 : (parseMethodDescriptor yJ0_coder_7d493.desc).map (fun d => d.parameters.length) = some 0 := by decide +kernel
theorem mw_J0_492 : lkV RJ0 492 RJ0 yJ0_isLatin1_aae02 cJ0_isLatin1_aae02 1 (some .boolean) := ⟨tw_mem _ [523, 524, 525, 78] (by decide +kernel) (by decide +kernel), tw_one 526 (by decide +kernel) (by decide +kernel), rfl, by decide, by decide⟩
theorem ln_J0_isLatin1_aae02 : (parseMethodDescriptor yJ0_isLatin1_aae02.desc).map (fun d => d.parameters.length) = some 0 := by decide +kernel
theorem mw_J0_495 : lkS RJ0 495 yJ1_charAt_3b067 cJ1_charAt_3b067 2 (some .char) := ⟨tw_mem _ [527, 528, 79] (by decide +kernel) (by decide +kernel), tw_one 529 (by decide +kernel) (by decide +kernel), by decide, by decide⟩
theorem ln_J1_charAt_3b067 : (parseMethodDescriptor yJ1_charAt_3b067.desc).map (fun d => d.parameters.length) = some 2 := by decide +kernel
/-! The six words: String.length(), charAt(k) -/
def sL (i : Nat) : Int32 := nI (sLen.getD i 0) >>> ((0 : Int32) &&& 31)
def sC (i : Nat) (j : Int32) : Int32 := ((((sByt.getD i []).getD j.toNatClampNeg 0) &&& 255).toUInt32 % 65536).toInt32
theorem sC_narrow (i : Nat) (j : Int32) : narrow .char (.int (sC i j)) = .int (sC i j) := pk_nc _
abbrev rm_J0_coder : Room := { frames := 0, cells := 0, slots := 0, locals := 0 }
abbrev rm_J0_isLatin1 : Room := { frames := 0, cells := 0, slots := 0, locals := 0 }
abbrev rm_J3_checkIndex : Room := { frames := 0, cells := 0, slots := 0, locals := 0 }
abbrev rm_J0_checkIndex : Room := { frames := 1, cells := 0, slots := 0, locals := 22 }
abbrev rm_J1_charAt : Room := { frames := 2, cells := 0, slots := 0, locals := 43 }
abbrev rm_J0_length : Room := { frames := 1, cells := 0, slots := 0, locals := 20 }
abbrev rm_J0_charAt : Room := { frames := 3, cells := 0, slots := 0, locals := 64 }
theorem mJ0_coder (l : Launch) (D : va_G) (cs : Nat → ClassId) (sk : Nat → Nat) {i : Nat} (hi : i < 6) : CTi l yJ0_coder_7d493 (Cond.code yJ0_coder_7d493 cJ0_coder_7d493 1 (some .byte) :: gtbl) rm_J0_coder D cs sk [.ref (sk i)] [] 0 [] := by
  refine CTi.ofN .byte RJ0 (by decide +kernel) rfl (Nat.le_of_ble_eq_true rfl) (fun p e s m args below meth c A Q ls M hA hR hl hP hD hS => ?_)
  obtain ⟨hx, hb, hml, hT, hown, hlk, hrt, hK, hN, hSE⟩ := id M
  replace hl : lv_has ls 1 [(0, .ref (sk i))] := hl
  refine va_gets (C := "java/lang/String") (n := "COMPACT_STRINGS") (d := "Z") (ref := "java/lang/String") hx hb hSE.2.1 hS hown (hT _ fw_J0_38_) (fun _ h9 => h9) dJ0_coder_7d493_0 ?_
  refine lv_if_eq (tgt := 13) hx hb dJ0_coder_7d493_3 (by decide) (fun c1 => ?_) (fun c1 => ?_)
  · exact absurd c1 (by decide)
  · refine lv_aload_n hx hb dJ0_coder_7d493_6 rfl (lv_at hl 0 rfl) ?_
    refine vk_getf (ref := "java/lang/String") hx hb (hSE.1.1 i hi).2.1 hS hown (hT _ fw_J0_15_) (fun _ h9 => h9) dJ0_coder_7d493_7 ?_
    refine lv_goto (tgt := 14) hx hb dJ0_coder_7d493_10 (by decide) ?_
    exact hR _ _ _ _ dJ0_coder_7d493_14 rfl hP hS
theorem mJ0_isLatin1 (l : Launch) (D : va_G) (cs : Nat → ClassId) (sk : Nat → Nat) {i : Nat} (hi : i < 6) : CTi l yJ0_isLatin1_aae02 (Cond.code yJ0_isLatin1_aae02 cJ0_isLatin1_aae02 1 (some .boolean) :: gtbl) rm_J0_isLatin1 D cs sk [.ref (sk i)] [] 1 [] := by
  refine CTi.ofZ RJ0 (by decide +kernel) rfl (Nat.le_of_ble_eq_true rfl) (fun p e s m args below meth c A Q ls M hA hR hl hP hD hS => ?_)
  obtain ⟨hx, hb, hml, hT, hown, hlk, hrt, hK, hN, hSE⟩ := id M
  replace hl : lv_has ls 1 [(0, .ref (sk i))] := hl
  refine va_gets (C := "java/lang/String") (n := "COMPACT_STRINGS") (d := "Z") (ref := "java/lang/String") hx hb hSE.2.1 hS hown (hT _ fw_J0_38_) (fun _ h9 => h9) dJ0_isLatin1_aae02_0 ?_
  refine lv_if_eq (tgt := 17) hx hb dJ0_isLatin1_aae02_3 (by decide) (fun c1 => ?_) (fun c1 => ?_)
  · exact absurd c1 (by decide)
  · refine lv_aload_n hx hb dJ0_isLatin1_aae02_6 rfl (lv_at hl 0 rfl) ?_
    refine vk_getf (ref := "java/lang/String") hx hb (hSE.1.1 i hi).2.1 hS hown (hT _ fw_J0_15_) (fun _ h9 => h9) dJ0_isLatin1_aae02_7 ?_
    refine lv_if_ne (tgt := 17) hx hb dJ0_isLatin1_aae02_10 (by decide) (fun c2 => ?_) (fun c2 => ?_)
    · exact absurd rfl c2
    · refine lv_iconst (v := 1) hx hb dJ0_isLatin1_aae02_13 rfl ?_
      refine lv_goto (tgt := 18) hx hb dJ0_isLatin1_aae02_14 (by decide) ?_
      exact hR _ _ _ _ dJ0_isLatin1_aae02_18 (Or.inr rfl) hP hS
theorem mJ3_checkIndex (l : Launch) (D : va_G) (cs : Nat → ClassId) (sk : Nat → Nat) (j n : Int32) (v : Value) (hv : v.category = 1) (h0 : ¬ j < 0) (h1 : j < n) : CTi l yJ3_checkIndex_8e157 (Cond.code yJ3_checkIndex_8e157 cJ3_checkIndex_8e157 3 (some .int) :: gtbl) rm_J3_checkIndex D cs sk [.int j, .int n, v] [] j [] := by
  refine CTi.of RJ3 (by decide +kernel) rfl (by cases v <;> first | exact Nat.le_of_ble_eq_true rfl | cases hv) (fun p e s m args below meth c A Q ls M hA hR hl hP hD hS => ?_)
  obtain ⟨hx, hb, hml, hT, hown, hlk, hrt, hK, hN, hSE⟩ := id M
  replace hl : lv_has ls 3 [(0, .int j), (1, .int n), (2, v)] := hl
  refine lv_iload_n hx hb dJ3_checkIndex_8e157_0 rfl (lv_at hl 0 rfl) ?_
  refine lv_if_lt (tgt := 9) hx hb dJ3_checkIndex_8e157_1 (by decide) (fun c1 => absurd c1 h0) (fun c1 => ?_)
  refine lv_iload_n hx hb dJ3_checkIndex_8e157_4 rfl (lv_at hl 0 rfl) ?_
  refine lv_iload_n hx hb dJ3_checkIndex_8e157_5 rfl (lv_at hl 1 rfl) ?_
  refine lv_icmp_lt (tgt := 16) hx hb dJ3_checkIndex_8e157_6 (by decide) (fun c2 => ?_) (fun c2 => absurd h1 c2)
  refine lv_iload_n hx hb dJ3_checkIndex_8e157_16 rfl (lv_at hl 0 rfl) ?_
  exact hR _ _ _ _ dJ3_checkIndex_8e157_17 hP hS
theorem mJ0_checkIndex (l : Launch) (D : va_G) (cs : Nat → ClassId) (sk : Nat → Nat) (j n : Int32) (h0 : ¬ j < 0) (h1 : j < n) : CTv l yJ0_checkIndex_df160 (Cond.code yJ0_checkIndex_df160 cJ0_checkIndex_df160 2 none :: gtbl) rm_J0_checkIndex D cs sk [.int j, .int n] [] [] := by
  refine CTv.of RJ0 (by decide +kernel) rfl (Nat.le_of_ble_eq_true rfl) (fun p e s m args below meth c A Q ls M hA hR hl hP hD hS => ?_)
  obtain ⟨hx, hb, hml, hT, hown, hlk, hrt, hK, hN, hSE⟩ := id M
  replace hl : lv_has ls 2 [(0, .int j), (1, .int n)] := hl
  obtain ⟨v, hv, hZ⟩ := hSE.2.2.1
  refine lv_iload_n hx hb dJ0_checkIndex_df160_0 rfl (lv_at hl 0 rfl) ?_
  refine lv_iload_n hx hb dJ0_checkIndex_df160_1 rfl (lv_at hl 1 rfl) ?_
  refine va_gets (C := "jdk/internal/util/Preconditions") (n := "SIOOBE_FORMATTER") (d := "Ljava/util/function/BiFunction;") (ref := "jdk/internal/util/Preconditions") hx hb hZ hS hown (hT _ fw_J0_1053_) (fun _ h9 => h9) dJ0_checkIndex_df160_2 ?_
  refine callSi (As := [.int j, .int n, v]) (rest := []) M (mJ3_checkIndex l D cs sk j n v hv h0 h1) mw_J0_1059 ln_J3_checkIndex_8e157 ⟨rfl, rfl, Nat.le_of_ble_eq_true rfl, Nat.le_of_ble_eq_true rfl⟩ hP hD hS hA [] (by decide) rfl rfl ⟨Nat.zero_le _, Nat.zero_le _⟩ hl.1 rfl (Nat.le_of_ble_eq_true rfl) dJ0_checkIndex_df160_5 (fun H locs hP hD hS => ?_)
  replace hP : va_P D vwCl [] H := hP
  refine lv_pop hx hb dJ0_checkIndex_df160_8 rfl ?_
  exact hR _ _ _ _ dJ0_checkIndex_df160_9 hP hS
theorem mJ1_charAt (l : Launch) (D : va_G) (cs : Nat → ClassId) (sk : Nat → Nat) {i : Nat} (hi : i < 6) (j : Int32) (hj : vp_in j (sLen.getD i 0)) : CTi l yJ1_charAt_3b067 (Cond.code yJ1_charAt_3b067 cJ1_charAt_3b067 2 (some .char) :: gtbl) rm_J1_charAt D cs sk [.ref (sk (10 + i)), .int j] [] (sC i j) [] := by
  refine CTi.ofN .char RJ1 (by decide +kernel) rfl (Nat.le_of_ble_eq_true rfl) (fun p e s m args below meth c A Q ls M hA hR hl hP hD hS => ?_)
  obtain ⟨hx, hb, hml, hT, hown, hlk, hrt, hK, hN, hSE⟩ := id M
  replace hl : lv_has ls 2 [(0, .ref (sk (10 + i))), (1, .int j)] := hl
  have hTb := (hSE.1.1 i hi).2.2.2
  have hlen : sLen.getD i 0 < 2 ^ 31 := by
    rcases (show i = 0 ∨ i = 1 ∨ i = 2 ∨ i = 3 ∨ i = 4 ∨ i = 5 by omega) with rfl | rfl | rfl | rfl | rfl | rfl <;> decide
  obtain ⟨q, hq, rfl⟩ := vp_in_of hj hlen
  have h0 : ¬ nI q < 0 := nI_pos (by omega)
  have h1 : nI q < Int32.ofNat (sLen.getD i 0) := nI_lt hq hlen
  refine lv_iload_n hx hb dJ1_charAt_3b067_0 rfl (lv_at hl 1 rfl) ?_
  refine lv_aload_n hx hb dJ1_charAt_3b067_1 rfl (lv_at hl 0 rfl) ?_
  refine va_tlen hx hb hTb hS rfl dJ1_charAt_3b067_2 ?_
  refine callSv (As := [.int (nI q), .int (Int32.ofNat (sLen.getD i 0))]) (rest := []) M (mJ0_checkIndex l D cs sk _ _ h0 h1) mw_J1_9 ln_J0_checkIndex_df160 ⟨rfl, rfl, Nat.le_of_ble_eq_true rfl, Nat.le_of_ble_eq_true rfl⟩ hP hD hS hA [] (by decide) rfl rfl ⟨Nat.zero_le _, Nat.zero_le _⟩ hl.1 rfl (Nat.le_of_ble_eq_true rfl) dJ1_charAt_3b067_3 (fun H locs hP hD hS => ?_)
  replace hP : va_P D vwCl [] H := hP
  refine lv_aload_n hx hb dJ1_charAt_3b067_6 rfl (lv_at hl 0 rfl) ?_
  refine lv_iload_n hx hb dJ1_charAt_3b067_7 rfl (lv_at hl 1 rfl) ?_
  refine va_tb hx hb hTb hS hj rfl dJ1_charAt_3b067_8 ?_
  refine lv_sipush (v := 255) hx hb dJ1_charAt_3b067_9 rfl ?_
  refine lv_iand hx hb dJ1_charAt_3b067_12 ?_
  refine lv_i2c (v := sC i (nI q)) hx hb dJ1_charAt_3b067_13 rfl ?_
  exact hR _ _ _ _ dJ1_charAt_3b067_14 (sC_narrow _ _) hP hS
theorem mJ0_length (l : Launch) (D : va_G) (cs : Nat → ClassId) (sk : Nat → Nat) {i : Nat} (hi : i < 6) : CTi l yJ0_length_8abf5 (Cond.code yJ0_length_8abf5 cJ0_length_8abf5 1 (some .int) :: gtbl) rm_J0_length D cs sk [.ref (sk i)] [] (sL i) [] := by
  refine CTi.of RJ0 (by decide +kernel) rfl (Nat.le_of_ble_eq_true rfl) (fun p e s m args below meth c A Q ls M hA hR hl hP hD hS => ?_)
  obtain ⟨hx, hb, hml, hT, hown, hlk, hrt, hK, hN, hSE⟩ := id M
  replace hl : lv_has ls 1 [(0, .ref (sk i))] := hl
  refine lv_aload_n hx hb dJ0_length_8abf5_0 rfl (lv_at hl 0 rfl) ?_
  refine vk_getf (ref := "java/lang/String") hx hb (hSE.1.1 i hi).2.2.1 hS hown (hT _ fw_J0_9_) (fun _ h9 => h9) dJ0_length_8abf5_1 ?_
  refine va_tlen hx hb (hSE.1.1 i hi).2.2.2 hS rfl dJ0_length_8abf5_4 ?_
  refine lv_aload_n hx hb dJ0_length_8abf5_5 rfl (lv_at hl 0 rfl) ?_
  refine callVsi hi (As := []) (rest := [.int (Int32.ofNat (sLen.getD i 0))]) M (mJ0_coder l D cs sk hi) mw_J0_335 ln_J0_coder_7d493 ⟨rfl, rfl, Nat.le_of_ble_eq_true rfl, Nat.le_of_ble_eq_true rfl⟩ hP hD hS hA [] (by decide) rfl rfl ⟨Nat.zero_le _, Nat.zero_le _⟩ hl.1 rfl (Nat.le_of_ble_eq_true rfl) dJ0_length_8abf5_6 (fun H locs hP hD hS => ?_)
  replace hP : va_P D vwCl [] H := hP
  refine lv_ishr hx hb dJ0_length_8abf5_9 ?_
  exact hR _ _ _ _ dJ0_length_8abf5_10 hP hS
theorem mJ0_charAt (l : Launch) (D : va_G) (cs : Nat → ClassId) (sk : Nat → Nat) {i : Nat} (hi : i < 6) (j : Int32) (hj : vp_in j (sLen.getD i 0)) : CTi l yJ0_charAt_5068e (Cond.code yJ0_charAt_5068e cJ0_charAt_5068e 2 (some .char) :: gtbl) rm_J0_charAt D cs sk [.ref (sk i), .int j] [] (sC i j) [] := by
  refine CTi.ofN .char RJ0 (by decide +kernel) rfl (Nat.le_of_ble_eq_true rfl) (fun p e s m args below meth c A Q ls M hA hR hl hP hD hS => ?_)
  obtain ⟨hx, hb, hml, hT, hown, hlk, hrt, hK, hN, hSE⟩ := id M
  replace hl : lv_has ls 2 [(0, .ref (sk i)), (1, .int j)] := hl
  refine lv_aload_n hx hb dJ0_charAt_5068e_0 rfl (lv_at hl 0 rfl) ?_
  refine callVsi hi (As := []) (rest := []) M (mJ0_isLatin1 l D cs sk hi) mw_J0_492 ln_J0_isLatin1_aae02 ⟨rfl, rfl, Nat.le_of_ble_eq_true rfl, Nat.le_of_ble_eq_true rfl⟩ hP hD hS hA [] (by decide) rfl rfl ⟨Nat.zero_le _, Nat.zero_le _⟩ hl.1 rfl (Nat.le_of_ble_eq_true rfl) dJ0_charAt_5068e_1 (fun H locs hP hD hS => ?_)
  replace hP : va_P D vwCl [] H := hP
  replace hD : va_D A [] := hD
  refine lv_if_eq (tgt := 16) hx hb dJ0_charAt_5068e_4 (by decide) (fun c1 => absurd c1 (by decide)) (fun c1 => ?_)
  refine lv_aload_n hx hb dJ0_charAt_5068e_7 rfl (lv_at hl 0 rfl) ?_
  refine vk_getf (ref := "java/lang/String") hx hb (hSE.1.1 i hi).2.2.1 hS hown (hT _ fw_J0_9_) (fun _ h9 => h9) dJ0_charAt_5068e_8 ?_
  refine lv_iload_n hx hb dJ0_charAt_5068e_11 rfl (lv_at hl 1 rfl) ?_
  refine callSi (As := [.ref (sk (10 + i)), .int j]) (rest := []) M (mJ1_charAt l D cs sk hi j hj) mw_J0_495 ln_J1_charAt_3b067 ⟨rfl, rfl, Nat.le_of_ble_eq_true rfl, Nat.le_of_ble_eq_true rfl⟩ hP hD hS hA [] (by decide) rfl rfl ⟨Nat.zero_le _, Nat.zero_le _⟩ hl.1 rfl (Nat.le_of_ble_eq_true rfl) dJ0_charAt_5068e_12 (fun H locs hP hD hS => ?_)
  replace hP : va_P D vwCl [] H := hP
  exact hR _ _ _ _ dJ0_charAt_5068e_15 (sC_narrow _ _) hP hS
