abbrev rm_X6_copyRow : Room := { frames := 1, cells := 0, slots := 0, locals := 60 }
def fX6_copyRow (k : Nat) (n_a0 : Nat) (n_a1 : Nat) (f_a0 : Nat → Int32) (f_a1 : Nat → Int32) : Option ((Nat → Int32)) :=
  chc n_a0 n_a1 0 0 (if (Int32.ofNat n_a1) < (Int32.ofNat n_a0) then (Int32.ofNat n_a1) else (Int32.ofNat n_a0)) (some (va_cpy f_a0 f_a1 (0 : Int32).toNatClampNeg (0 : Int32).toNatClampNeg (if (Int32.ofNat n_a1) < (Int32.ofNat n_a0) then (Int32.ofNat n_a1) else (Int32.ofNat n_a0)).toNatClampNeg))
set_option maxHeartbeats 4000000 in
set_option maxRecDepth 100000 in
theorem mX6_copyRow (l : Launch) (D : va_G) (cs : Nat → ClassId) (sk : Nat → Nat) (h_a0 : Nat) (h_a1 : Nat) (k : Nat) (n_a0 : Nat) (n_a1 : Nat) (f_a0 : Nat → Int32) (f_a1 : Nat → Int32) {rv : (Nat → Int32)} (hf : fX6_copyRow k n_a0 n_a1 f_a0 f_a1 = some rv) : CTv l yX6_copyRow (Cond.code yX6_copyRow cX6_copyRow 2 none :: gtbl) rm_X6_copyRow D cs sk [.ref h_a0, .ref h_a1] [(h_a0, .inl (cs 0, n_a0, .inl f_a0)), (h_a1, .inl (cs 0, n_a1, .inl f_a1))] [(h_a0, .inl (cs 0, n_a0, .inl f_a0)), (h_a1, .inl (cs 0, n_a1, .inl rv))] := by
  refine CTv.of RX6 (by decide +kernel) rfl (Nat.le_of_ble_eq_true rfl) (fun p e s m args below meth c A Q ls M hA hR hl hP hD hS => ?_)
  obtain ⟨hx, hb, hml, hT, hown, hlk, hrt, hK, hN, hSE⟩ := id M
  replace hl : lv_has ls 2 [(0, .ref h_a0), (1, .ref h_a1)] := hl
  unfold fX6_copyRow at hf
  refine lv_aload_n hx hb dX6_copyRow_0 rfl (lv_at hl 0 rfl) ?_
  refine lv_iconst (v := 0) hx hb dX6_copyRow_1 rfl ?_
  refine lv_aload_n hx hb dX6_copyRow_2 rfl (lv_at hl 1 rfl) ?_
  refine lv_iconst (v := 0) hx hb dX6_copyRow_3 rfl ?_
  refine lv_aload_n hx hb dX6_copyRow_4 rfl (lv_at hl 0 rfl) ?_
  refine va_alen (D := D) (v := (Int32.ofNat n_a0)) hx hb hK hP 0 0 rfl rfl rfl dX6_copyRow_5 ?_
  refine lv_aload_n hx hb dX6_copyRow_6 rfl (lv_at hl 1 rfl) ?_
  refine va_alen (D := D) (v := (Int32.ofNat n_a1)) hx hb hK hP 1 0 rfl rfl rfl dX6_copyRow_7 ?_
  refine va_mmin hx hb (hml.trans hl.1.symm) hown (hT _ jw_X6_283.1) (hT _ jw_X6_283.2.1) (hT _ jw_X6_283.2.2.1) (hT _ jw_X6_283.2.2.2) (Nat.le_of_ble_eq_true rfl) (Nat.le_of_ble_eq_true rfl) (Nat.zero_le _) (Nat.zero_le _) dX6_copyRow_8 ?_
  obtain ⟨hc, hf⟩ := chc_some hf
  refine va_copyi (D := D) hx hb (hml.trans hl.1.symm) hown (hT _ aw_X6_294.1) (hT _ aw_X6_294.2.1) (hT _ aw_X6_294.2.2.1) (hT _ aw_X6_294.2.2.2) hK hP hD hS 0 1 0 0 rfl rfl rfl rfl rfl hc.1 hc.2.1 hc.2.2.1 hc.2.2.2.1 hc.2.2.2.2 (fun _ _ => rfl) (Nat.le_of_ble_eq_true rfl) (Nat.le_of_ble_eq_true rfl) dX6_copyRow_11 (fun H locs hP hD hS => ?_)
  replace hP : va_P D vwCl [(h_a0, .inl (cs 0, n_a0, .inl f_a0)), (h_a1, .inl (cs 0, n_a1, .inl (va_cpy f_a0 f_a1 (0 : Int32).toNatClampNeg (0 : Int32).toNatClampNeg (if (Int32.ofNat n_a1) < (Int32.ofNat n_a0) then (Int32.ofNat n_a1) else (Int32.ofNat n_a0)).toNatClampNeg)))] H := hP
  replace hD : va_D A [(h_a0, .inl (cs 0, n_a0, .inl f_a0)), (h_a1, .inl (cs 0, n_a1, .inl (va_cpy f_a0 f_a1 (0 : Int32).toNatClampNeg (0 : Int32).toNatClampNeg (if (Int32.ofNat n_a1) < (Int32.ofNat n_a0) then (Int32.ofNat n_a1) else (Int32.ofNat n_a0)).toNatClampNeg)))] := hD
  have e9 := Option.some.inj hf
  subst e9
  exact hR _ _ _ _ dX6_copyRow_14 hP hS
abbrev rm_X6_apart : Room := { frames := 1, cells := 0, slots := 0, locals := 24 }
def fX6_apart (k : Nat) (x0 : Int32) (x1 : Int32) (x2 : Int32) (x3 : Int32) : Option (Int32) :=
  some ((if 0 ≤ (x0 - x2) then (x0 - x2) else 0 - (x0 - x2)) + (if 0 ≤ (x1 - x3) then (x1 - x3) else 0 - (x1 - x3)))
set_option maxHeartbeats 4000000 in
set_option maxRecDepth 100000 in
theorem mX6_apart (l : Launch) (D : va_G) (cs : Nat → ClassId) (sk : Nat → Nat)  (k : Nat) (x0 : Int32) (x1 : Int32) (x2 : Int32) (x3 : Int32) {rv : Int32} (hf : fX6_apart k x0 x1 x2 x3 = some rv) : CTi l yX6_apart (Cond.code yX6_apart cX6_apart 4 (some .int) :: gtbl) rm_X6_apart D cs sk [.int x0, .int x1, .int x2, .int x3] [] (rv) [] := by
  refine CTi.of RX6 (by decide +kernel) rfl (Nat.le_of_ble_eq_true rfl) (fun p e s m args below meth c A Q ls M hA hR hl hP hD hS => ?_)
  obtain ⟨hx, hb, hml, hT, hown, hlk, hrt, hK, hN, hSE⟩ := id M
  replace hl : lv_has ls 4 [(0, .int x0), (1, .int x1), (2, .int x2), (3, .int x3)] := hl
  unfold fX6_apart at hf
  refine lv_iload_n hx hb dX6_apart_0 rfl (lv_at hl 0 rfl) ?_
  refine lv_iload_n hx hb dX6_apart_1 rfl (lv_at hl 2 rfl) ?_
  refine lv_isub hx hb dX6_apart_2 ?_
  refine va_mabs hx hb (hml.trans hl.1.symm) hown (hT _ jw_X6_291.1) (hT _ jw_X6_291.2.1) (hT _ jw_X6_291.2.2.1) (hT _ jw_X6_291.2.2.2) (Nat.le_of_ble_eq_true rfl) (Nat.le_of_ble_eq_true rfl) (Nat.zero_le _) (Nat.zero_le _) dX6_apart_3 ?_
  refine lv_iload_n hx hb dX6_apart_6 rfl (lv_at hl 1 rfl) ?_
  refine lv_iload_n hx hb dX6_apart_7 rfl (lv_at hl 3 rfl) ?_
  refine lv_isub hx hb dX6_apart_8 ?_
  refine va_mabs hx hb (hml.trans hl.1.symm) hown (hT _ jw_X6_291.1) (hT _ jw_X6_291.2.1) (hT _ jw_X6_291.2.2.1) (hT _ jw_X6_291.2.2.2) (Nat.le_of_ble_eq_true rfl) (Nat.le_of_ble_eq_true rfl) (Nat.zero_le _) (Nat.zero_le _) dX6_apart_9 ?_
  refine lv_iadd hx hb dX6_apart_12 ?_
  have e9 := Option.some.inj hf
  subst e9
  exact hR _ _ _ _ dX6_apart_13 hP hS
abbrev rm_X4_timeBetween : Room := { frames := 2, cells := 0, slots := 0, locals := 47 }
def fX4_timeBetween (k : Nat) (d_t : Dat) (x1 : Int32) (x2 : Int32) : Option (Int32) :=
  chk 6 x1 (chk 6 x1 (chk 6 x2 (chk 6 x2 ((fX6_apart k ((d_t.2 1) x1.toNatClampNeg) ((d_t.2 2) x1.toNatClampNeg) ((d_t.2 1) x2.toNatClampNeg) ((d_t.2 2) x2.toNatClampNeg)).bind (fun (r1 : Int32) => some (r1 * (d_t.1 8)))))))
set_option maxHeartbeats 4000000 in
set_option maxRecDepth 100000 in
theorem mX4_timeBetween (l : Launch) (D : va_G) (cs : Nat → ClassId) (sk : Nat → Nat) (h_t : Nat) (q_t : Nat → Nat) (k : Nat) (d_t : Dat) (x1 : Int32) (x2 : Int32) {rv : Int32} (hf : fX4_timeBetween k d_t x1 x2 = some rv) : CTi l yX4_timeBetween (Cond.code yX4_timeBetween cX4_timeBetween 3 (some .int) :: gtbl) rm_X4_timeBetween D cs sk [.ref h_t, .int x1, .int x2] [oX4 h_t q_t (d_t.1), ((q_t 1), .inl (cs 0, 6, .inl (d_t.2 1))), ((q_t 2), .inl (cs 0, 6, .inl (d_t.2 2)))] (rv) [oX4 h_t q_t (d_t.1), ((q_t 1), .inl (cs 0, 6, .inl (d_t.2 1))), ((q_t 2), .inl (cs 0, 6, .inl (d_t.2 2)))] := by
  refine CTi.of RX4 (by decide +kernel) rfl (Nat.le_of_ble_eq_true rfl) (fun p e s m args below meth c A Q ls M hA hR hl hP hD hS => ?_)
  obtain ⟨hx, hb, hml, hT, hown, hlk, hrt, hK, hN, hSE⟩ := id M
  replace hl : lv_has ls 3 [(0, .ref h_t), (1, .int x1), (2, .int x2)] := hl
  unfold fX4_timeBetween at hf
  refine lv_aload_n hx hb dX4_timeBetween_0 rfl (lv_at hl 0 rfl) ?_
  refine va_get (D := D) (ci := 4) (v := .ref (q_t 1)) (C := RX4) (T := TX4) (N := 11) hx hb hT iX4 hown hK hP 0 rfl rfl 1 (by decide) (hT _ fw_X4_15) (fun _ h9 => h9) rfl dX4_timeBetween_1 ?_
  refine lv_iload_n hx hb dX4_timeBetween_4 rfl (lv_at hl 1 rfl) ?_
  obtain ⟨hi, hf⟩ := chk_some hf
  refine va_iald (D := D) hx hb hK hP 1 0 rfl rfl hi dX4_timeBetween_5 ?_
  refine lv_aload_n hx hb dX4_timeBetween_6 rfl (lv_at hl 0 rfl) ?_
  refine va_get (D := D) (ci := 4) (v := .ref (q_t 2)) (C := RX4) (T := TX4) (N := 11) hx hb hT iX4 hown hK hP 0 rfl rfl 2 (by decide) (hT _ fw_X4_19) (fun _ h9 => h9) rfl dX4_timeBetween_7 ?_
  refine lv_iload_n hx hb dX4_timeBetween_10 rfl (lv_at hl 1 rfl) ?_
  obtain ⟨hi, hf⟩ := chk_some hf
  refine va_iald (D := D) hx hb hK hP 2 0 rfl rfl hi dX4_timeBetween_11 ?_
  refine lv_aload_n hx hb dX4_timeBetween_12 rfl (lv_at hl 0 rfl) ?_
  refine va_get (D := D) (ci := 4) (v := .ref (q_t 1)) (C := RX4) (T := TX4) (N := 11) hx hb hT iX4 hown hK hP 0 rfl rfl 1 (by decide) (hT _ fw_X4_15) (fun _ h9 => h9) rfl dX4_timeBetween_13 ?_
  refine lv_iload_n hx hb dX4_timeBetween_16 rfl (lv_at hl 2 rfl) ?_
  obtain ⟨hi, hf⟩ := chk_some hf
  refine va_iald (D := D) hx hb hK hP 1 0 rfl rfl hi dX4_timeBetween_17 ?_
  refine lv_aload_n hx hb dX4_timeBetween_18 rfl (lv_at hl 0 rfl) ?_
  refine va_get (D := D) (ci := 4) (v := .ref (q_t 2)) (C := RX4) (T := TX4) (N := 11) hx hb hT iX4 hown hK hP 0 rfl rfl 2 (by decide) (hT _ fw_X4_19) (fun _ h9 => h9) rfl dX4_timeBetween_19 ?_
  refine lv_iload_n hx hb dX4_timeBetween_22 rfl (lv_at hl 2 rfl) ?_
  obtain ⟨hi, hf⟩ := chk_some hf
  refine va_iald (D := D) hx hb hK hP 2 0 rfl rfl hi dX4_timeBetween_23 ?_
  obtain ⟨r1, e2, hf⟩ := bind_some hf
  refine callSNi (As := [.int ((d_t.2 1) x1.toNatClampNeg), .int ((d_t.2 2) x1.toNatClampNeg), .int ((d_t.2 1) x2.toNatClampNeg), .int ((d_t.2 2) x2.toNatClampNeg)]) (rest := []) M (mX6_apart l D cs sk  k ((d_t.2 1) x1.toNatClampNeg) ((d_t.2 2) x1.toNatClampNeg) ((d_t.2 1) x2.toNatClampNeg) ((d_t.2 2) x2.toNatClampNeg) e2) mw_X4_50 ln_X6_apart ⟨rfl, rfl, Nat.le_of_ble_eq_true rfl, Nat.le_of_ble_eq_true rfl⟩ hP hD hS hA [] (by decide) rfl rfl ⟨Nat.zero_le _, Nat.zero_le _⟩ hl.1 rfl (Nat.le_of_ble_eq_true rfl) dX4_timeBetween_24 (fun H locs hP hD hS => ?_)
  replace hP : va_P D vwCl [oX4 h_t q_t (d_t.1), ((q_t 1), .inl (cs 0, 6, .inl (d_t.2 1))), ((q_t 2), .inl (cs 0, 6, .inl (d_t.2 2)))] H := hP
  replace hD : va_D A [oX4 h_t q_t (d_t.1), ((q_t 1), .inl (cs 0, 6, .inl (d_t.2 1))), ((q_t 2), .inl (cs 0, 6, .inl (d_t.2 2)))] := hD
  refine lv_aload_n hx hb dX4_timeBetween_27 rfl (lv_at hl 0 rfl) ?_
  refine va_get (D := D) (ci := 4) (v := .int (d_t.1 8)) (C := RX4) (T := TX4) (N := 11) hx hb hT iX4 hown hK hP 0 rfl rfl 8 (by decide) (hT _ fw_X4_37) (fun _ h9 => h9) rfl dX4_timeBetween_28 ?_
  refine lv_imul hx hb dX4_timeBetween_31 ?_
  have e9 := Option.some.inj hf
  subst e9
  exact hR _ _ _ _ dX4_timeBetween_32 hP hS
abbrev rm_X6_heldOffset : Room := { frames := 1, cells := 0, slots := 0, locals := 24 }
def fX6_heldOffset (k : Nat) (x0 : Int32) : Option (Int32) :=
  some (if ((-500) : Int32) < (if x0 < (500 : Int32) then x0 else (500 : Int32)) then (if x0 < (500 : Int32) then x0 else (500 : Int32)) else ((-500) : Int32))
set_option maxHeartbeats 4000000 in
set_option maxRecDepth 100000 in
theorem mX6_heldOffset (l : Launch) (D : va_G) (cs : Nat → ClassId) (sk : Nat → Nat)  (k : Nat) (x0 : Int32) {rv : Int32} (hf : fX6_heldOffset k x0 = some rv) : CTi l yX6_heldOffset (Cond.code yX6_heldOffset cX6_heldOffset 1 (some .int) :: gtbl) rm_X6_heldOffset D cs sk [.int x0] [] (rv) [] := by
  refine CTi.of RX6 (by decide +kernel) rfl (Nat.le_of_ble_eq_true rfl) (fun p e s m args below meth c A Q ls M hA hR hl hP hD hS => ?_)
  obtain ⟨hx, hb, hml, hT, hown, hlk, hrt, hK, hN, hSE⟩ := id M
  replace hl : lv_has ls 1 [(0, .int x0)] := hl
  unfold fX6_heldOffset at hf
  refine lv_sipush (v := (-500)) hx hb dX6_heldOffset_0 rfl ?_
  refine lv_sipush (v := 500) hx hb dX6_heldOffset_3 rfl ?_
  refine lv_iload_n hx hb dX6_heldOffset_6 rfl (lv_at hl 0 rfl) ?_
  refine va_mmin hx hb (hml.trans hl.1.symm) hown (hT _ jw_X6_283.1) (hT _ jw_X6_283.2.1) (hT _ jw_X6_283.2.2.1) (hT _ jw_X6_283.2.2.2) (Nat.le_of_ble_eq_true rfl) (Nat.le_of_ble_eq_true rfl) (Nat.zero_le _) (Nat.zero_le _) dX6_heldOffset_7 ?_
  refine va_mmax hx hb (hml.trans hl.1.symm) hown (hT _ jw_X6_288.1) (hT _ jw_X6_288.2.1) (hT _ jw_X6_288.2.2.1) (hT _ jw_X6_288.2.2.2) (Nat.le_of_ble_eq_true rfl) (Nat.le_of_ble_eq_true rfl) (Nat.zero_le _) (Nat.zero_le _) dX6_heldOffset_10 ?_
  have e9 := Option.some.inj hf
  subst e9
  exact hR _ _ _ _ dX6_heldOffset_13 hP hS
abbrev rm_X4_soundTime : Room := { frames := 2, cells := 0, slots := 0, locals := 47 }
def fX4_soundTime (k : Nat) (d_t : Dat) (x1 : Int32) (x2 : Int32) : Option (Int32) :=
  chk 6 x1 (chk 3 x2 (chk 6 x1 (chk 3 x2 (chk 6 x1 (chk 6 x1 (chk 3 x2 (chk 3 x2 ((fX6_apart k ((d_t.2 1) x1.toNatClampNeg) ((d_t.2 2) x1.toNatClampNeg) ((d_t.2 4) x2.toNatClampNeg) ((d_t.2 5) x2.toNatClampNeg)).bind (fun (r1 : Int32) => some (if (0 : Int32) < ((r1 * (d_t.1 8)) + (((d_t.1 9) * (((d_t.2 1) x1.toNatClampNeg) - ((d_t.2 4) x2.toNatClampNeg))) + ((d_t.1 10) * (((d_t.2 2) x1.toNatClampNeg) - ((d_t.2 5) x2.toNatClampNeg))))) then ((r1 * (d_t.1 8)) + (((d_t.1 9) * (((d_t.2 1) x1.toNatClampNeg) - ((d_t.2 4) x2.toNatClampNeg))) + ((d_t.1 10) * (((d_t.2 2) x1.toNatClampNeg) - ((d_t.2 5) x2.toNatClampNeg))))) else (0 : Int32)))))))))))
set_option maxHeartbeats 4000000 in
set_option maxRecDepth 100000 in
theorem mX4_soundTime (l : Launch) (D : va_G) (cs : Nat → ClassId) (sk : Nat → Nat) (h_t : Nat) (q_t : Nat → Nat) (k : Nat) (d_t : Dat) (x1 : Int32) (x2 : Int32) {rv : Int32} (hf : fX4_soundTime k d_t x1 x2 = some rv) : CTi l yX4_soundTime (Cond.code yX4_soundTime cX4_soundTime 4 (some .int) :: gtbl) rm_X4_soundTime D cs sk [.ref h_t, .int x1, .int x2] [oX4 h_t q_t (d_t.1), ((q_t 1), .inl (cs 0, 6, .inl (d_t.2 1))), ((q_t 2), .inl (cs 0, 6, .inl (d_t.2 2))), ((q_t 4), .inl (cs 0, 3, .inl (d_t.2 4))), ((q_t 5), .inl (cs 0, 3, .inl (d_t.2 5)))] (rv) [oX4 h_t q_t (d_t.1), ((q_t 1), .inl (cs 0, 6, .inl (d_t.2 1))), ((q_t 2), .inl (cs 0, 6, .inl (d_t.2 2))), ((q_t 4), .inl (cs 0, 3, .inl (d_t.2 4))), ((q_t 5), .inl (cs 0, 3, .inl (d_t.2 5)))] := by
  refine CTi.of RX4 (by decide +kernel) rfl (Nat.le_of_ble_eq_true rfl) (fun p e s m args below meth c A Q ls M hA hR hl hP hD hS => ?_)
  obtain ⟨hx, hb, hml, hT, hown, hlk, hrt, hK, hN, hSE⟩ := id M
  replace hl : lv_has ls 4 [(0, .ref h_t), (1, .int x1), (2, .int x2)] := hl
  unfold fX4_soundTime at hf
  refine lv_aload_n hx hb dX4_soundTime_0 rfl (lv_at hl 0 rfl) ?_
  refine va_get (D := D) (ci := 4) (v := .int (d_t.1 9)) (C := RX4) (T := TX4) (N := 11) hx hb hT iX4 hown hK hP 0 rfl rfl 9 (by decide) (hT _ fw_X4_40) (fun _ h9 => h9) rfl dX4_soundTime_1 ?_
  refine lv_aload_n hx hb dX4_soundTime_4 rfl (lv_at hl 0 rfl) ?_
  refine va_get (D := D) (ci := 4) (v := .ref (q_t 1)) (C := RX4) (T := TX4) (N := 11) hx hb hT iX4 hown hK hP 0 rfl rfl 1 (by decide) (hT _ fw_X4_15) (fun _ h9 => h9) rfl dX4_soundTime_5 ?_
  refine lv_iload_n hx hb dX4_soundTime_8 rfl (lv_at hl 1 rfl) ?_
  obtain ⟨hi, hf⟩ := chk_some hf
  refine va_iald (D := D) hx hb hK hP 1 0 rfl rfl hi dX4_soundTime_9 ?_
  refine lv_aload_n hx hb dX4_soundTime_10 rfl (lv_at hl 0 rfl) ?_
  refine va_get (D := D) (ci := 4) (v := .ref (q_t 4)) (C := RX4) (T := TX4) (N := 11) hx hb hT iX4 hown hK hP 0 rfl rfl 4 (by decide) (hT _ fw_X4_25) (fun _ h9 => h9) rfl dX4_soundTime_11 ?_
  refine lv_iload_n hx hb dX4_soundTime_14 rfl (lv_at hl 2 rfl) ?_
  obtain ⟨hi, hf⟩ := chk_some hf
  refine va_iald (D := D) hx hb hK hP 3 0 rfl rfl hi dX4_soundTime_15 ?_
  refine lv_isub hx hb dX4_soundTime_16 ?_
  refine lv_imul hx hb dX4_soundTime_17 ?_
  refine lv_aload_n hx hb dX4_soundTime_18 rfl (lv_at hl 0 rfl) ?_
  refine va_get (D := D) (ci := 4) (v := .int (d_t.1 10)) (C := RX4) (T := TX4) (N := 11) hx hb hT iX4 hown hK hP 0 rfl rfl 10 (by decide) (hT _ fw_X4_43) (fun _ h9 => h9) rfl dX4_soundTime_19 ?_
  refine lv_aload_n hx hb dX4_soundTime_22 rfl (lv_at hl 0 rfl) ?_
  refine va_get (D := D) (ci := 4) (v := .ref (q_t 2)) (C := RX4) (T := TX4) (N := 11) hx hb hT iX4 hown hK hP 0 rfl rfl 2 (by decide) (hT _ fw_X4_19) (fun _ h9 => h9) rfl dX4_soundTime_23 ?_
  refine lv_iload_n hx hb dX4_soundTime_26 rfl (lv_at hl 1 rfl) ?_
  obtain ⟨hi, hf⟩ := chk_some hf
  refine va_iald (D := D) hx hb hK hP 2 0 rfl rfl hi dX4_soundTime_27 ?_
  refine lv_aload_n hx hb dX4_soundTime_28 rfl (lv_at hl 0 rfl) ?_
  refine va_get (D := D) (ci := 4) (v := .ref (q_t 5)) (C := RX4) (T := TX4) (N := 11) hx hb hT iX4 hown hK hP 0 rfl rfl 5 (by decide) (hT _ fw_X4_28) (fun _ h9 => h9) rfl dX4_soundTime_29 ?_
  refine lv_iload_n hx hb dX4_soundTime_32 rfl (lv_at hl 2 rfl) ?_
  obtain ⟨hi, hf⟩ := chk_some hf
  refine va_iald (D := D) hx hb hK hP 4 0 rfl rfl hi dX4_soundTime_33 ?_
  refine lv_isub hx hb dX4_soundTime_34 ?_
  refine lv_imul hx hb dX4_soundTime_35 ?_
  refine lv_iadd hx hb dX4_soundTime_36 ?_
  refine lv_istore_n (lv' := [(3, .int (((d_t.1 9) * (((d_t.2 1) x1.toNatClampNeg) - ((d_t.2 4) x2.toNatClampNeg))) + ((d_t.1 10) * (((d_t.2 2) x1.toNatClampNeg) - ((d_t.2 5) x2.toNatClampNeg))))), (0, .ref h_t), (1, .int x1), (2, .int x2)]) hx hb dX4_soundTime_37 rfl hl (by decide) rfl (fun ls hl => ?_)
  refine lv_iconst (v := 0) hx hb dX4_soundTime_38 rfl ?_
  refine lv_aload_n hx hb dX4_soundTime_39 rfl (lv_at hl 1 rfl) ?_
  refine va_get (D := D) (ci := 4) (v := .ref (q_t 1)) (C := RX4) (T := TX4) (N := 11) hx hb hT iX4 hown hK hP 0 rfl rfl 1 (by decide) (hT _ fw_X4_15) (fun _ h9 => h9) rfl dX4_soundTime_40 ?_
  refine lv_iload_n hx hb dX4_soundTime_43 rfl (lv_at hl 2 rfl) ?_
  obtain ⟨hi, hf⟩ := chk_some hf
  refine va_iald (D := D) hx hb hK hP 1 0 rfl rfl hi dX4_soundTime_44 ?_
  refine lv_aload_n hx hb dX4_soundTime_45 rfl (lv_at hl 1 rfl) ?_
  refine va_get (D := D) (ci := 4) (v := .ref (q_t 2)) (C := RX4) (T := TX4) (N := 11) hx hb hT iX4 hown hK hP 0 rfl rfl 2 (by decide) (hT _ fw_X4_19) (fun _ h9 => h9) rfl dX4_soundTime_46 ?_
  refine lv_iload_n hx hb dX4_soundTime_49 rfl (lv_at hl 2 rfl) ?_
  obtain ⟨hi, hf⟩ := chk_some hf
  refine va_iald (D := D) hx hb hK hP 2 0 rfl rfl hi dX4_soundTime_50 ?_
  refine lv_aload_n hx hb dX4_soundTime_51 rfl (lv_at hl 1 rfl) ?_
  refine va_get (D := D) (ci := 4) (v := .ref (q_t 4)) (C := RX4) (T := TX4) (N := 11) hx hb hT iX4 hown hK hP 0 rfl rfl 4 (by decide) (hT _ fw_X4_25) (fun _ h9 => h9) rfl dX4_soundTime_52 ?_
  refine lv_iload_n hx hb dX4_soundTime_55 rfl (lv_at hl 3 rfl) ?_
  obtain ⟨hi, hf⟩ := chk_some hf
  refine va_iald (D := D) hx hb hK hP 3 0 rfl rfl hi dX4_soundTime_56 ?_
  refine lv_aload_n hx hb dX4_soundTime_57 rfl (lv_at hl 1 rfl) ?_
  refine va_get (D := D) (ci := 4) (v := .ref (q_t 5)) (C := RX4) (T := TX4) (N := 11) hx hb hT iX4 hown hK hP 0 rfl rfl 5 (by decide) (hT _ fw_X4_28) (fun _ h9 => h9) rfl dX4_soundTime_58 ?_
  refine lv_iload_n hx hb dX4_soundTime_61 rfl (lv_at hl 3 rfl) ?_
  obtain ⟨hi, hf⟩ := chk_some hf
  refine va_iald (D := D) hx hb hK hP 4 0 rfl rfl hi dX4_soundTime_62 ?_
  obtain ⟨r1, e2, hf⟩ := bind_some hf
  refine callSNi (As := [.int ((d_t.2 1) x1.toNatClampNeg), .int ((d_t.2 2) x1.toNatClampNeg), .int ((d_t.2 4) x2.toNatClampNeg), .int ((d_t.2 5) x2.toNatClampNeg)]) (rest := [.int 0]) M (mX6_apart l D cs sk  k ((d_t.2 1) x1.toNatClampNeg) ((d_t.2 2) x1.toNatClampNeg) ((d_t.2 4) x2.toNatClampNeg) ((d_t.2 5) x2.toNatClampNeg) e2) mw_X4_50 ln_X6_apart ⟨rfl, rfl, Nat.le_of_ble_eq_true rfl, Nat.le_of_ble_eq_true rfl⟩ hP hD hS hA [] (by decide) rfl rfl ⟨Nat.zero_le _, Nat.zero_le _⟩ hl.1 rfl (Nat.le_of_ble_eq_true rfl) dX4_soundTime_63 (fun H locs hP hD hS => ?_)
  replace hP : va_P D vwCl [oX4 h_t q_t (d_t.1), ((q_t 1), .inl (cs 0, 6, .inl (d_t.2 1))), ((q_t 2), .inl (cs 0, 6, .inl (d_t.2 2))), ((q_t 4), .inl (cs 0, 3, .inl (d_t.2 4))), ((q_t 5), .inl (cs 0, 3, .inl (d_t.2 5)))] H := hP
  replace hD : va_D A [oX4 h_t q_t (d_t.1), ((q_t 1), .inl (cs 0, 6, .inl (d_t.2 1))), ((q_t 2), .inl (cs 0, 6, .inl (d_t.2 2))), ((q_t 4), .inl (cs 0, 3, .inl (d_t.2 4))), ((q_t 5), .inl (cs 0, 3, .inl (d_t.2 5)))] := hD
  refine lv_aload_n hx hb dX4_soundTime_66 rfl (lv_at hl 1 rfl) ?_
  refine va_get (D := D) (ci := 4) (v := .int (d_t.1 8)) (C := RX4) (T := TX4) (N := 11) hx hb hT iX4 hown hK hP 0 rfl rfl 8 (by decide) (hT _ fw_X4_37) (fun _ h9 => h9) rfl dX4_soundTime_67 ?_
  refine lv_imul hx hb dX4_soundTime_70 ?_
  refine lv_iload_n hx hb dX4_soundTime_71 rfl (lv_at hl 0 rfl) ?_
  refine lv_iadd hx hb dX4_soundTime_72 ?_
  refine va_mmax hx hb (hml.trans hl.1.symm) hown (hT _ jw_X4_54.1) (hT _ jw_X4_54.2.1) (hT _ jw_X4_54.2.2.1) (hT _ jw_X4_54.2.2.2) (Nat.le_of_ble_eq_true rfl) (Nat.le_of_ble_eq_true rfl) (Nat.zero_le _) (Nat.zero_le _) dX4_soundTime_73 ?_
  have e9 := Option.some.inj hf
  subst e9
  exact hR _ _ _ _ dX4_soundTime_76 hP hS
abbrev rm_X4_pacesToEar : Room := { frames := 2, cells := 0, slots := 0, locals := 47 }
def fX4_pacesToEar (k : Nat) (d_t : Dat) (x1 : Int32) (x2 : Int32) : Option (Int32) :=
  chk 6 x1 (chk 6 x1 (chk 3 x2 (chk 3 x2 ((fX6_apart k ((d_t.2 1) x1.toNatClampNeg) ((d_t.2 2) x1.toNatClampNeg) ((d_t.2 4) x2.toNatClampNeg) ((d_t.2 5) x2.toNatClampNeg)).bind (fun (r1 : Int32) => some r1)))))
set_option maxHeartbeats 4000000 in
set_option maxRecDepth 100000 in
theorem mX4_pacesToEar (l : Launch) (D : va_G) (cs : Nat → ClassId) (sk : Nat → Nat) (h_t : Nat) (q_t : Nat → Nat) (k : Nat) (d_t : Dat) (x1 : Int32) (x2 : Int32) {rv : Int32} (hf : fX4_pacesToEar k d_t x1 x2 = some rv) : CTi l yX4_pacesToEar (Cond.code yX4_pacesToEar cX4_pacesToEar 3 (some .int) :: gtbl) rm_X4_pacesToEar D cs sk [.ref h_t, .int x1, .int x2] [oX4 h_t q_t (d_t.1), ((q_t 1), .inl (cs 0, 6, .inl (d_t.2 1))), ((q_t 2), .inl (cs 0, 6, .inl (d_t.2 2))), ((q_t 4), .inl (cs 0, 3, .inl (d_t.2 4))), ((q_t 5), .inl (cs 0, 3, .inl (d_t.2 5)))] (rv) [oX4 h_t q_t (d_t.1), ((q_t 1), .inl (cs 0, 6, .inl (d_t.2 1))), ((q_t 2), .inl (cs 0, 6, .inl (d_t.2 2))), ((q_t 4), .inl (cs 0, 3, .inl (d_t.2 4))), ((q_t 5), .inl (cs 0, 3, .inl (d_t.2 5)))] := by
  refine CTi.of RX4 (by decide +kernel) rfl (Nat.le_of_ble_eq_true rfl) (fun p e s m args below meth c A Q ls M hA hR hl hP hD hS => ?_)
  obtain ⟨hx, hb, hml, hT, hown, hlk, hrt, hK, hN, hSE⟩ := id M
  replace hl : lv_has ls 3 [(0, .ref h_t), (1, .int x1), (2, .int x2)] := hl
  unfold fX4_pacesToEar at hf
  refine lv_aload_n hx hb dX4_pacesToEar_0 rfl (lv_at hl 0 rfl) ?_
  refine va_get (D := D) (ci := 4) (v := .ref (q_t 1)) (C := RX4) (T := TX4) (N := 11) hx hb hT iX4 hown hK hP 0 rfl rfl 1 (by decide) (hT _ fw_X4_15) (fun _ h9 => h9) rfl dX4_pacesToEar_1 ?_
  refine lv_iload_n hx hb dX4_pacesToEar_4 rfl (lv_at hl 1 rfl) ?_
  obtain ⟨hi, hf⟩ := chk_some hf
  refine va_iald (D := D) hx hb hK hP 1 0 rfl rfl hi dX4_pacesToEar_5 ?_
  refine lv_aload_n hx hb dX4_pacesToEar_6 rfl (lv_at hl 0 rfl) ?_
  refine va_get (D := D) (ci := 4) (v := .ref (q_t 2)) (C := RX4) (T := TX4) (N := 11) hx hb hT iX4 hown hK hP 0 rfl rfl 2 (by decide) (hT _ fw_X4_19) (fun _ h9 => h9) rfl dX4_pacesToEar_7 ?_
  refine lv_iload_n hx hb dX4_pacesToEar_10 rfl (lv_at hl 1 rfl) ?_
  obtain ⟨hi, hf⟩ := chk_some hf
  refine va_iald (D := D) hx hb hK hP 2 0 rfl rfl hi dX4_pacesToEar_11 ?_
  refine lv_aload_n hx hb dX4_pacesToEar_12 rfl (lv_at hl 0 rfl) ?_
  refine va_get (D := D) (ci := 4) (v := .ref (q_t 4)) (C := RX4) (T := TX4) (N := 11) hx hb hT iX4 hown hK hP 0 rfl rfl 4 (by decide) (hT _ fw_X4_25) (fun _ h9 => h9) rfl dX4_pacesToEar_13 ?_
  refine lv_iload_n hx hb dX4_pacesToEar_16 rfl (lv_at hl 2 rfl) ?_
  obtain ⟨hi, hf⟩ := chk_some hf
  refine va_iald (D := D) hx hb hK hP 3 0 rfl rfl hi dX4_pacesToEar_17 ?_
  refine lv_aload_n hx hb dX4_pacesToEar_18 rfl (lv_at hl 0 rfl) ?_
  refine va_get (D := D) (ci := 4) (v := .ref (q_t 5)) (C := RX4) (T := TX4) (N := 11) hx hb hT iX4 hown hK hP 0 rfl rfl 5 (by decide) (hT _ fw_X4_28) (fun _ h9 => h9) rfl dX4_pacesToEar_19 ?_
  refine lv_iload_n hx hb dX4_pacesToEar_22 rfl (lv_at hl 2 rfl) ?_
  obtain ⟨hi, hf⟩ := chk_some hf
  refine va_iald (D := D) hx hb hK hP 4 0 rfl rfl hi dX4_pacesToEar_23 ?_
  obtain ⟨r1, e2, hf⟩ := bind_some hf
  refine callSNi (As := [.int ((d_t.2 1) x1.toNatClampNeg), .int ((d_t.2 2) x1.toNatClampNeg), .int ((d_t.2 4) x2.toNatClampNeg), .int ((d_t.2 5) x2.toNatClampNeg)]) (rest := []) M (mX6_apart l D cs sk  k ((d_t.2 1) x1.toNatClampNeg) ((d_t.2 2) x1.toNatClampNeg) ((d_t.2 4) x2.toNatClampNeg) ((d_t.2 5) x2.toNatClampNeg) e2) mw_X4_50 ln_X6_apart ⟨rfl, rfl, Nat.le_of_ble_eq_true rfl, Nat.le_of_ble_eq_true rfl⟩ hP hD hS hA [] (by decide) rfl rfl ⟨Nat.zero_le _, Nat.zero_le _⟩ hl.1 rfl (Nat.le_of_ble_eq_true rfl) dX4_pacesToEar_24 (fun H locs hP hD hS => ?_)
  replace hP : va_P D vwCl [oX4 h_t q_t (d_t.1), ((q_t 1), .inl (cs 0, 6, .inl (d_t.2 1))), ((q_t 2), .inl (cs 0, 6, .inl (d_t.2 2))), ((q_t 4), .inl (cs 0, 3, .inl (d_t.2 4))), ((q_t 5), .inl (cs 0, 3, .inl (d_t.2 5)))] H := hP
  replace hD : va_D A [oX4 h_t q_t (d_t.1), ((q_t 1), .inl (cs 0, 6, .inl (d_t.2 1))), ((q_t 2), .inl (cs 0, 6, .inl (d_t.2 2))), ((q_t 4), .inl (cs 0, 3, .inl (d_t.2 4))), ((q_t 5), .inl (cs 0, 3, .inl (d_t.2 5)))] := hD
  have e9 := Option.some.inj hf
  subst e9
  exact hR _ _ _ _ dX4_pacesToEar_27 hP hS
abbrev rm_X4_hasMill : Room := { frames := 0, cells := 0, slots := 0, locals := 0 }
def fX4_hasMill (k : Nat) (d_t : Dat) : Option (Int32) :=
  (if (d_t.1 6) < 0 then some 0 else some 1)
set_option maxHeartbeats 4000000 in
set_option maxRecDepth 100000 in
theorem mX4_hasMill (l : Launch) (D : va_G) (cs : Nat → ClassId) (sk : Nat → Nat) (h_t : Nat) (q_t : Nat → Nat) (k : Nat) (d_t : Dat) {rv : Int32} (hf : fX4_hasMill k d_t = some rv) : CTi l yX4_hasMill (Cond.code yX4_hasMill cX4_hasMill 1 (some .boolean) :: gtbl) rm_X4_hasMill D cs sk [.ref h_t] [oX4 h_t q_t (d_t.1)] (rv) [oX4 h_t q_t (d_t.1)] := by
  refine CTi.ofZ RX4 (by decide +kernel) rfl (Nat.le_of_ble_eq_true rfl) (fun p e s m args below meth c A Q ls M hA hR hl hP hD hS => ?_)
  obtain ⟨hx, hb, hml, hT, hown, hlk, hrt, hK, hN, hSE⟩ := id M
  replace hl : lv_has ls 1 [(0, .ref h_t)] := hl
  unfold fX4_hasMill at hf
  refine lv_aload_n hx hb dX4_hasMill_0 rfl (lv_at hl 0 rfl) ?_
  refine va_get (D := D) (ci := 4) (v := .int (d_t.1 6)) (C := RX4) (T := TX4) (N := 11) hx hb hT iX4 hown hK hP 0 rfl rfl 6 (by decide) (hT _ fw_X4_31) (fun _ h9 => h9) rfl dX4_hasMill_1 ?_
  have g2 := ite_some hf
  refine lv_if_lt (tgt := 11) hx hb dX4_hasMill_4 (by decide) (fun c1 => ?_) (fun c1 => ?_)
  · replace hf := g2.1 c1
    refine lv_iconst (v := 0) hx hb dX4_hasMill_11 rfl ?_
    have e9 := Option.some.inj hf
    subst e9
    exact hR _ _ _ _ dX4_hasMill_12 (Or.inl rfl) hP hS
  · replace hf := g2.2 c1
    refine lv_iconst (v := 1) hx hb dX4_hasMill_7 rfl ?_
    refine lv_goto (tgt := 12) hx hb dX4_hasMill_8 (by decide) ?_
    have e9 := Option.some.inj hf
    subst e9
    exact hR _ _ _ _ dX4_hasMill_12 (Or.inr rfl) hP hS
abbrev rm_X4_pacesByMill : Room := { frames := 2, cells := 0, slots := 0, locals := 47 }
def fX4_pacesByMill (k : Nat) (d_t : Dat) (x1 : Int32) (x2 : Int32) : Option (Int32) :=
  chk 6 x1 (chk 6 x1 ((fX6_apart k ((d_t.2 1) x1.toNatClampNeg) ((d_t.2 2) x1.toNatClampNeg) (d_t.1 6) (d_t.1 7)).bind (fun (r1 : Int32) => chk 3 x2 (chk 3 x2 ((fX6_apart k (d_t.1 6) (d_t.1 7) ((d_t.2 4) x2.toNatClampNeg) ((d_t.2 5) x2.toNatClampNeg)).bind (fun (r3 : Int32) => some (r1 + r3)))))))
set_option maxHeartbeats 4000000 in
set_option maxRecDepth 100000 in
theorem mX4_pacesByMill (l : Launch) (D : va_G) (cs : Nat → ClassId) (sk : Nat → Nat) (h_t : Nat) (q_t : Nat → Nat) (k : Nat) (d_t : Dat) (x1 : Int32) (x2 : Int32) {rv : Int32} (hf : fX4_pacesByMill k d_t x1 x2 = some rv) : CTi l yX4_pacesByMill (Cond.code yX4_pacesByMill cX4_pacesByMill 3 (some .int) :: gtbl) rm_X4_pacesByMill D cs sk [.ref h_t, .int x1, .int x2] [oX4 h_t q_t (d_t.1), ((q_t 1), .inl (cs 0, 6, .inl (d_t.2 1))), ((q_t 2), .inl (cs 0, 6, .inl (d_t.2 2))), ((q_t 4), .inl (cs 0, 3, .inl (d_t.2 4))), ((q_t 5), .inl (cs 0, 3, .inl (d_t.2 5)))] (rv) [oX4 h_t q_t (d_t.1), ((q_t 1), .inl (cs 0, 6, .inl (d_t.2 1))), ((q_t 2), .inl (cs 0, 6, .inl (d_t.2 2))), ((q_t 4), .inl (cs 0, 3, .inl (d_t.2 4))), ((q_t 5), .inl (cs 0, 3, .inl (d_t.2 5)))] := by
  refine CTi.of RX4 (by decide +kernel) rfl (Nat.le_of_ble_eq_true rfl) (fun p e s m args below meth c A Q ls M hA hR hl hP hD hS => ?_)
  obtain ⟨hx, hb, hml, hT, hown, hlk, hrt, hK, hN, hSE⟩ := id M
  replace hl : lv_has ls 3 [(0, .ref h_t), (1, .int x1), (2, .int x2)] := hl
  unfold fX4_pacesByMill at hf
  refine lv_aload_n hx hb dX4_pacesByMill_0 rfl (lv_at hl 0 rfl) ?_
  refine va_get (D := D) (ci := 4) (v := .ref (q_t 1)) (C := RX4) (T := TX4) (N := 11) hx hb hT iX4 hown hK hP 0 rfl rfl 1 (by decide) (hT _ fw_X4_15) (fun _ h9 => h9) rfl dX4_pacesByMill_1 ?_
  refine lv_iload_n hx hb dX4_pacesByMill_4 rfl (lv_at hl 1 rfl) ?_
  obtain ⟨hi, hf⟩ := chk_some hf
  refine va_iald (D := D) hx hb hK hP 1 0 rfl rfl hi dX4_pacesByMill_5 ?_
  refine lv_aload_n hx hb dX4_pacesByMill_6 rfl (lv_at hl 0 rfl) ?_
  refine va_get (D := D) (ci := 4) (v := .ref (q_t 2)) (C := RX4) (T := TX4) (N := 11) hx hb hT iX4 hown hK hP 0 rfl rfl 2 (by decide) (hT _ fw_X4_19) (fun _ h9 => h9) rfl dX4_pacesByMill_7 ?_
  refine lv_iload_n hx hb dX4_pacesByMill_10 rfl (lv_at hl 1 rfl) ?_
  obtain ⟨hi, hf⟩ := chk_some hf
  refine va_iald (D := D) hx hb hK hP 2 0 rfl rfl hi dX4_pacesByMill_11 ?_
  refine lv_aload_n hx hb dX4_pacesByMill_12 rfl (lv_at hl 0 rfl) ?_
  refine va_get (D := D) (ci := 4) (v := .int (d_t.1 6)) (C := RX4) (T := TX4) (N := 11) hx hb hT iX4 hown hK hP 0 rfl rfl 6 (by decide) (hT _ fw_X4_31) (fun _ h9 => h9) rfl dX4_pacesByMill_13 ?_
  refine lv_aload_n hx hb dX4_pacesByMill_16 rfl (lv_at hl 0 rfl) ?_
  refine va_get (D := D) (ci := 4) (v := .int (d_t.1 7)) (C := RX4) (T := TX4) (N := 11) hx hb hT iX4 hown hK hP 0 rfl rfl 7 (by decide) (hT _ fw_X4_34) (fun _ h9 => h9) rfl dX4_pacesByMill_17 ?_
  obtain ⟨r1, e2, hf⟩ := bind_some hf
  refine callSNi (As := [.int ((d_t.2 1) x1.toNatClampNeg), .int ((d_t.2 2) x1.toNatClampNeg), .int (d_t.1 6), .int (d_t.1 7)]) (rest := []) M (mX6_apart l D cs sk  k ((d_t.2 1) x1.toNatClampNeg) ((d_t.2 2) x1.toNatClampNeg) (d_t.1 6) (d_t.1 7) e2) mw_X4_50 ln_X6_apart ⟨rfl, rfl, Nat.le_of_ble_eq_true rfl, Nat.le_of_ble_eq_true rfl⟩ hP hD hS hA [] (by decide) rfl rfl ⟨Nat.zero_le _, Nat.zero_le _⟩ hl.1 rfl (Nat.le_of_ble_eq_true rfl) dX4_pacesByMill_20 (fun H locs hP hD hS => ?_)
  replace hP : va_P D vwCl [oX4 h_t q_t (d_t.1), ((q_t 1), .inl (cs 0, 6, .inl (d_t.2 1))), ((q_t 2), .inl (cs 0, 6, .inl (d_t.2 2))), ((q_t 4), .inl (cs 0, 3, .inl (d_t.2 4))), ((q_t 5), .inl (cs 0, 3, .inl (d_t.2 5)))] H := hP
  replace hD : va_D A [oX4 h_t q_t (d_t.1), ((q_t 1), .inl (cs 0, 6, .inl (d_t.2 1))), ((q_t 2), .inl (cs 0, 6, .inl (d_t.2 2))), ((q_t 4), .inl (cs 0, 3, .inl (d_t.2 4))), ((q_t 5), .inl (cs 0, 3, .inl (d_t.2 5)))] := hD
  refine lv_aload_n hx hb dX4_pacesByMill_23 rfl (lv_at hl 0 rfl) ?_
  refine va_get (D := D) (ci := 4) (v := .int (d_t.1 6)) (C := RX4) (T := TX4) (N := 11) hx hb hT iX4 hown hK hP 0 rfl rfl 6 (by decide) (hT _ fw_X4_31) (fun _ h9 => h9) rfl dX4_pacesByMill_24 ?_
  refine lv_aload_n hx hb dX4_pacesByMill_27 rfl (lv_at hl 0 rfl) ?_
  refine va_get (D := D) (ci := 4) (v := .int (d_t.1 7)) (C := RX4) (T := TX4) (N := 11) hx hb hT iX4 hown hK hP 0 rfl rfl 7 (by decide) (hT _ fw_X4_34) (fun _ h9 => h9) rfl dX4_pacesByMill_28 ?_
  refine lv_aload_n hx hb dX4_pacesByMill_31 rfl (lv_at hl 0 rfl) ?_
  refine va_get (D := D) (ci := 4) (v := .ref (q_t 4)) (C := RX4) (T := TX4) (N := 11) hx hb hT iX4 hown hK hP 0 rfl rfl 4 (by decide) (hT _ fw_X4_25) (fun _ h9 => h9) rfl dX4_pacesByMill_32 ?_
  refine lv_iload_n hx hb dX4_pacesByMill_35 rfl (lv_at hl 2 rfl) ?_
  obtain ⟨hi, hf⟩ := chk_some hf
  refine va_iald (D := D) hx hb hK hP 3 0 rfl rfl hi dX4_pacesByMill_36 ?_
  refine lv_aload_n hx hb dX4_pacesByMill_37 rfl (lv_at hl 0 rfl) ?_
  refine va_get (D := D) (ci := 4) (v := .ref (q_t 5)) (C := RX4) (T := TX4) (N := 11) hx hb hT iX4 hown hK hP 0 rfl rfl 5 (by decide) (hT _ fw_X4_28) (fun _ h9 => h9) rfl dX4_pacesByMill_38 ?_
  refine lv_iload_n hx hb dX4_pacesByMill_41 rfl (lv_at hl 2 rfl) ?_
  obtain ⟨hi, hf⟩ := chk_some hf
  refine va_iald (D := D) hx hb hK hP 4 0 rfl rfl hi dX4_pacesByMill_42 ?_
  obtain ⟨r3, e4, hf⟩ := bind_some hf
  refine callSNi (As := [.int (d_t.1 6), .int (d_t.1 7), .int ((d_t.2 4) x2.toNatClampNeg), .int ((d_t.2 5) x2.toNatClampNeg)]) (rest := [.int r1]) M (mX6_apart l D cs sk  k (d_t.1 6) (d_t.1 7) ((d_t.2 4) x2.toNatClampNeg) ((d_t.2 5) x2.toNatClampNeg) e4) mw_X4_50 ln_X6_apart ⟨rfl, rfl, Nat.le_of_ble_eq_true rfl, Nat.le_of_ble_eq_true rfl⟩ hP hD hS hA [] (by decide) rfl rfl ⟨Nat.zero_le _, Nat.zero_le _⟩ hl.1 rfl (Nat.le_of_ble_eq_true rfl) dX4_pacesByMill_43 (fun H locs hP hD hS => ?_)
  replace hP : va_P D vwCl [oX4 h_t q_t (d_t.1), ((q_t 1), .inl (cs 0, 6, .inl (d_t.2 1))), ((q_t 2), .inl (cs 0, 6, .inl (d_t.2 2))), ((q_t 4), .inl (cs 0, 3, .inl (d_t.2 4))), ((q_t 5), .inl (cs 0, 3, .inl (d_t.2 5)))] H := hP
  replace hD : va_D A [oX4 h_t q_t (d_t.1), ((q_t 1), .inl (cs 0, 6, .inl (d_t.2 1))), ((q_t 2), .inl (cs 0, 6, .inl (d_t.2 2))), ((q_t 4), .inl (cs 0, 3, .inl (d_t.2 4))), ((q_t 5), .inl (cs 0, 3, .inl (d_t.2 5)))] := hD
  refine lv_iadd hx hb dX4_pacesByMill_46 ?_
  have e9 := Option.some.inj hf
  subst e9
  exact hR _ _ _ _ dX4_pacesByMill_47 hP hS
abbrev rm_X4_nextWindow : Room := { frames := 0, cells := 0, slots := 0, locals := 0 }
def fX4_nextWindow (k : Nat) (d_t : Dat) (x1 : Int32) : Option (Int32) :=
  (if (d_t.1 0) ≤ (x1 + 1) then some 0 else some (x1 + 1))
set_option maxHeartbeats 4000000 in
set_option maxRecDepth 100000 in
theorem mX4_nextWindow (l : Launch) (D : va_G) (cs : Nat → ClassId) (sk : Nat → Nat) (h_t : Nat) (q_t : Nat → Nat) (k : Nat) (d_t : Dat) (x1 : Int32) {rv : Int32} (hf : fX4_nextWindow k d_t x1 = some rv) : CTi l yX4_nextWindow (Cond.code yX4_nextWindow cX4_nextWindow 2 (some .int) :: gtbl) rm_X4_nextWindow D cs sk [.ref h_t, .int x1] [oX4 h_t q_t (d_t.1)] (rv) [oX4 h_t q_t (d_t.1)] := by
  refine CTi.of RX4 (by decide +kernel) rfl (Nat.le_of_ble_eq_true rfl) (fun p e s m args below meth c A Q ls M hA hR hl hP hD hS => ?_)
  obtain ⟨hx, hb, hml, hT, hown, hlk, hrt, hK, hN, hSE⟩ := id M
  replace hl : lv_has ls 2 [(0, .ref h_t), (1, .int x1)] := hl
  unfold fX4_nextWindow at hf
  refine lv_iload_n hx hb dX4_nextWindow_0 rfl (lv_at hl 1 rfl) ?_
  refine lv_iconst (v := 1) hx hb dX4_nextWindow_1 rfl ?_
  refine lv_iadd hx hb dX4_nextWindow_2 ?_
  refine lv_aload_n hx hb dX4_nextWindow_3 rfl (lv_at hl 0 rfl) ?_
  refine va_get (D := D) (ci := 4) (v := .int (d_t.1 0)) (C := RX4) (T := TX4) (N := 11) hx hb hT iX4 hown hK hP 0 rfl rfl 0 (by decide) (hT _ fw_X4_9) (fun _ h9 => h9) rfl dX4_nextWindow_4 ?_
  have g2 := ite_some hf
  refine lv_icmp_ge (tgt := 16) hx hb dX4_nextWindow_7 (by decide) (fun c1 => ?_) (fun c1 => ?_)
  · replace hf := g2.1 c1
    refine lv_iconst (v := 0) hx hb dX4_nextWindow_16 rfl ?_
    have e9 := Option.some.inj hf
    subst e9
    exact hR _ _ _ _ dX4_nextWindow_17 hP hS
  · replace hf := g2.2 c1
    refine lv_iload_n hx hb dX4_nextWindow_10 rfl (lv_at hl 1 rfl) ?_
    refine lv_iconst (v := 1) hx hb dX4_nextWindow_11 rfl ?_
    refine lv_iadd hx hb dX4_nextWindow_12 ?_
    refine lv_goto (tgt := 17) hx hb dX4_nextWindow_13 (by decide) ?_
    have e9 := Option.some.inj hf
    subst e9
    exact hR _ _ _ _ dX4_nextWindow_17 hP hS
abbrev rm_X6_isWithin : Room := { frames := 0, cells := 0, slots := 0, locals := 0 }
def fX6_isWithin (k : Nat) (x0 : Int32) (x1 : Int32) (x2 : Int32) : Option (Int32) :=
  (if x0 < x1 then some 0 else (if x2 < x0 then some 0 else some 1))
set_option maxHeartbeats 4000000 in
set_option maxRecDepth 100000 in
theorem mX6_isWithin (l : Launch) (D : va_G) (cs : Nat → ClassId) (sk : Nat → Nat)  (k : Nat) (x0 : Int32) (x1 : Int32) (x2 : Int32) {rv : Int32} (hf : fX6_isWithin k x0 x1 x2 = some rv) : CTi l yX6_isWithin (Cond.code yX6_isWithin cX6_isWithin 3 (some .boolean) :: gtbl) rm_X6_isWithin D cs sk [.int x0, .int x1, .int x2] [] (rv) [] := by
  refine CTi.ofZ RX6 (by decide +kernel) rfl (Nat.le_of_ble_eq_true rfl) (fun p e s m args below meth c A Q ls M hA hR hl hP hD hS => ?_)
  obtain ⟨hx, hb, hml, hT, hown, hlk, hrt, hK, hN, hSE⟩ := id M
  replace hl : lv_has ls 3 [(0, .int x0), (1, .int x1), (2, .int x2)] := hl
  unfold fX6_isWithin at hf
  refine lv_iload_n hx hb dX6_isWithin_0 rfl (lv_at hl 0 rfl) ?_
  refine lv_iload_n hx hb dX6_isWithin_1 rfl (lv_at hl 1 rfl) ?_
  have g2 := ite_some hf
  refine lv_icmp_lt (tgt := 14) hx hb dX6_isWithin_2 (by decide) (fun c1 => ?_) (fun c1 => ?_)
  · replace hf := g2.1 c1
    refine lv_iconst (v := 0) hx hb dX6_isWithin_14 rfl ?_
    have e9 := Option.some.inj hf
    subst e9
    exact hR _ _ _ _ dX6_isWithin_15 (Or.inl rfl) hP hS
  · replace hf := g2.2 c1
    refine lv_iload_n hx hb dX6_isWithin_5 rfl (lv_at hl 0 rfl) ?_
    refine lv_iload_n hx hb dX6_isWithin_6 rfl (lv_at hl 2 rfl) ?_
    have g4 := ite_some hf
    refine lv_icmp_gt (tgt := 14) hx hb dX6_isWithin_7 (by decide) (fun c3 => ?_) (fun c3 => ?_)
    · replace hf := g4.1 c3
      refine lv_iconst (v := 0) hx hb dX6_isWithin_14 rfl ?_
      have e9 := Option.some.inj hf
      subst e9
      exact hR _ _ _ _ dX6_isWithin_15 (Or.inl rfl) hP hS
    · replace hf := g4.2 c3
      refine lv_iconst (v := 1) hx hb dX6_isWithin_10 rfl ?_
      refine lv_goto (tgt := 15) hx hb dX6_isWithin_11 (by decide) ?_
      have e9 := Option.some.inj hf
      subst e9
      exact hR _ _ _ _ dX6_isWithin_15 (Or.inr rfl) hP hS
abbrev rm_X4_addWindow : Room := { frames := 0, cells := 0, slots := 0, locals := 0 }
def fX4_addWindow (k : Nat) (d_t : Dat) (x1 : Int32) (x2 : Int32) : Option (Int32 × Dat) :=
  (if (d_t.1 0) < 6 then chk 6 (d_t.1 0) (chk 6 (d_t.1 0) (some ((((d_t.1 0) + 1) - 1), ((upd d_t.1 0 ((d_t.1 0) + 1)), (va_up (va_up d_t.2 1 (upd (d_t.2 1) (d_t.1 0).toNatClampNeg x1)) 2 (upd (d_t.2 2) (d_t.1 0).toNatClampNeg x2)))))) else some ((-4), d_t))
set_option maxHeartbeats 4000000 in
set_option maxRecDepth 100000 in
theorem mX4_addWindow (l : Launch) (D : va_G) (cs : Nat → ClassId) (sk : Nat → Nat) (h_t : Nat) (q_t : Nat → Nat) (k : Nat) (d_t : Dat) (x1 : Int32) (x2 : Int32) {rv : Int32 × Dat} (hf : fX4_addWindow k d_t x1 x2 = some rv) : CTi l yX4_addWindow (Cond.code yX4_addWindow cX4_addWindow 3 (some .int) :: gtbl) rm_X4_addWindow D cs sk [.ref h_t, .int x1, .int x2] [oX4 h_t q_t (d_t.1), ((q_t 1), .inl (cs 0, 6, .inl (d_t.2 1))), ((q_t 2), .inl (cs 0, 6, .inl (d_t.2 2)))] (rv.1) [oX4 h_t q_t (rv.2.1), ((q_t 1), .inl (cs 0, 6, .inl (rv.2.2 1))), ((q_t 2), .inl (cs 0, 6, .inl (rv.2.2 2)))] := by
  refine CTi.of RX4 (by decide +kernel) rfl (Nat.le_of_ble_eq_true rfl) (fun p e s m args below meth c A Q ls M hA hR hl hP hD hS => ?_)
  obtain ⟨hx, hb, hml, hT, hown, hlk, hrt, hK, hN, hSE⟩ := id M
  replace hl : lv_has ls 3 [(0, .ref h_t), (1, .int x1), (2, .int x2)] := hl
  unfold fX4_addWindow at hf
  refine lv_aload_n hx hb dX4_addWindow_0 rfl (lv_at hl 0 rfl) ?_
  refine va_get (D := D) (ci := 4) (v := .int (d_t.1 0)) (C := RX4) (T := TX4) (N := 11) hx hb hT iX4 hown hK hP 0 rfl rfl 0 (by decide) (hT _ fw_X4_9) (fun _ h9 => h9) rfl dX4_addWindow_1 ?_
  refine lv_bipush (v := 6) hx hb dX4_addWindow_4 rfl ?_
  have g2 := ite_some hf
  refine lv_icmp_lt (tgt := 12) hx hb dX4_addWindow_6 (by decide) (fun c1 => ?_) (fun c1 => ?_)
  · replace hf := g2.1 c1
    refine lv_aload_n hx hb dX4_addWindow_12 rfl (lv_at hl 0 rfl) ?_
    refine va_get (D := D) (ci := 4) (v := .ref (q_t 1)) (C := RX4) (T := TX4) (N := 11) hx hb hT iX4 hown hK hP 0 rfl rfl 1 (by decide) (hT _ fw_X4_15) (fun _ h9 => h9) rfl dX4_addWindow_13 ?_
    refine lv_aload_n hx hb dX4_addWindow_16 rfl (lv_at hl 0 rfl) ?_
    refine va_get (D := D) (ci := 4) (v := .int (d_t.1 0)) (C := RX4) (T := TX4) (N := 11) hx hb hT iX4 hown hK hP 0 rfl rfl 0 (by decide) (hT _ fw_X4_9) (fun _ h9 => h9) rfl dX4_addWindow_17 ?_
    refine lv_iload_n hx hb dX4_addWindow_20 rfl (lv_at hl 1 rfl) ?_
    obtain ⟨hi, hf⟩ := chk_some hf
    refine va_iast (D := D) hx hb hK hP hD hS 1 0 rfl rfl hi dX4_addWindow_21 (fun H locs hP hD hS => ?_)
    replace hP : va_P D vwCl [oX4 h_t q_t (d_t.1), ((q_t 1), .inl (cs 0, 6, .inl (upd (d_t.2 1) (d_t.1 0).toNatClampNeg x1))), ((q_t 2), .inl (cs 0, 6, .inl (d_t.2 2)))] H := hP
    replace hD : va_D A [oX4 h_t q_t (d_t.1), ((q_t 1), .inl (cs 0, 6, .inl (upd (d_t.2 1) (d_t.1 0).toNatClampNeg x1))), ((q_t 2), .inl (cs 0, 6, .inl (d_t.2 2)))] := hD
    refine lv_aload_n hx hb dX4_addWindow_22 rfl (lv_at hl 0 rfl) ?_
    refine va_get (D := D) (ci := 4) (v := .ref (q_t 2)) (C := RX4) (T := TX4) (N := 11) hx hb hT iX4 hown hK hP 0 rfl rfl 2 (by decide) (hT _ fw_X4_19) (fun _ h9 => h9) rfl dX4_addWindow_23 ?_
    refine lv_aload_n hx hb dX4_addWindow_26 rfl (lv_at hl 0 rfl) ?_
    refine va_get (D := D) (ci := 4) (v := .int (d_t.1 0)) (C := RX4) (T := TX4) (N := 11) hx hb hT iX4 hown hK hP 0 rfl rfl 0 (by decide) (hT _ fw_X4_9) (fun _ h9 => h9) rfl dX4_addWindow_27 ?_
    refine lv_iload_n hx hb dX4_addWindow_30 rfl (lv_at hl 2 rfl) ?_
    obtain ⟨hi, hf⟩ := chk_some hf
    refine va_iast (D := D) hx hb hK hP hD hS 2 0 rfl rfl hi dX4_addWindow_31 (fun H locs hP hD hS => ?_)
    replace hP : va_P D vwCl [oX4 h_t q_t (d_t.1), ((q_t 1), .inl (cs 0, 6, .inl (upd (d_t.2 1) (d_t.1 0).toNatClampNeg x1))), ((q_t 2), .inl (cs 0, 6, .inl (upd (d_t.2 2) (d_t.1 0).toNatClampNeg x2)))] H := hP
    replace hD : va_D A [oX4 h_t q_t (d_t.1), ((q_t 1), .inl (cs 0, 6, .inl (upd (d_t.2 1) (d_t.1 0).toNatClampNeg x1))), ((q_t 2), .inl (cs 0, 6, .inl (upd (d_t.2 2) (d_t.1 0).toNatClampNeg x2)))] := hD
    refine lv_aload_n hx hb dX4_addWindow_32 rfl (lv_at hl 0 rfl) ?_
    refine lv_dup hx hb dX4_addWindow_33 rfl ?_
    refine va_get (D := D) (ci := 4) (v := .int (d_t.1 0)) (C := RX4) (T := TX4) (N := 11) hx hb hT iX4 hown hK hP 0 rfl rfl 0 (by decide) (hT _ fw_X4_9) (fun _ h9 => h9) rfl dX4_addWindow_34 ?_
    refine lv_iconst (v := 1) hx hb dX4_addWindow_37 rfl ?_
    refine lv_iadd hx hb dX4_addWindow_38 ?_
    refine va_put (D := D) (ci := 4) (v := .int ((d_t.1 0) + 1)) (ty := tyX4 0) (C := RX4) (T := TX4) (N := 11) hx hb hT iX4 tyX4 tyX4_ok nmX4 hown hK hP hD hS 0 rfl rfl 0 (by decide) (hT _ fw_X4_9) (fun _ h9 => h9) rfl (tyX4_ok 0 (by decide)) rfl rfl (Nat.le_of_ble_eq_true rfl) dX4_addWindow_39 (fun H locs hP hD hS => ?_)
    replace hP : va_P D vwCl [oX4 h_t q_t (upd d_t.1 0 ((d_t.1 0) + 1)), ((q_t 1), .inl (cs 0, 6, .inl (upd (d_t.2 1) (d_t.1 0).toNatClampNeg x1))), ((q_t 2), .inl (cs 0, 6, .inl (upd (d_t.2 2) (d_t.1 0).toNatClampNeg x2)))] H := hP
    replace hD : va_D A [oX4 h_t q_t (upd d_t.1 0 ((d_t.1 0) + 1)), ((q_t 1), .inl (cs 0, 6, .inl (upd (d_t.2 1) (d_t.1 0).toNatClampNeg x1))), ((q_t 2), .inl (cs 0, 6, .inl (upd (d_t.2 2) (d_t.1 0).toNatClampNeg x2)))] := hD
    refine lv_aload_n hx hb dX4_addWindow_42 rfl (lv_at hl 0 rfl) ?_
    refine va_get (D := D) (ci := 4) (v := .int ((d_t.1 0) + 1)) (C := RX4) (T := TX4) (N := 11) hx hb hT iX4 hown hK hP 0 rfl rfl 0 (by decide) (hT _ fw_X4_9) (fun _ h9 => h9) rfl dX4_addWindow_43 ?_
    refine lv_iconst (v := 1) hx hb dX4_addWindow_46 rfl ?_
    refine lv_isub hx hb dX4_addWindow_47 ?_
    have e9 := Option.some.inj hf
    subst e9
    exact hR _ _ _ _ dX4_addWindow_48 hP hS
  · replace hf := g2.2 c1
    refine lv_bipush (v := (-4)) hx hb dX4_addWindow_9 rfl ?_
    have e9 := Option.some.inj hf
    subst e9
    exact hR _ _ _ _ dX4_addWindow_11 hP hS
abbrev rm_X4_addEar : Room := { frames := 0, cells := 0, slots := 0, locals := 0 }
def fX4_addEar (k : Nat) (d_t : Dat) (x1 : Int32) (x2 : Int32) : Option (Int32 × Dat) :=
  (if (d_t.1 3) < 3 then chk 3 (d_t.1 3) (chk 3 (d_t.1 3) (some ((((d_t.1 3) + 1) - 1), ((upd d_t.1 3 ((d_t.1 3) + 1)), (va_up (va_up d_t.2 4 (upd (d_t.2 4) (d_t.1 3).toNatClampNeg x1)) 5 (upd (d_t.2 5) (d_t.1 3).toNatClampNeg x2)))))) else some ((-4), d_t))
set_option maxHeartbeats 4000000 in
set_option maxRecDepth 100000 in
theorem mX4_addEar (l : Launch) (D : va_G) (cs : Nat → ClassId) (sk : Nat → Nat) (h_t : Nat) (q_t : Nat → Nat) (k : Nat) (d_t : Dat) (x1 : Int32) (x2 : Int32) {rv : Int32 × Dat} (hf : fX4_addEar k d_t x1 x2 = some rv) : CTi l yX4_addEar (Cond.code yX4_addEar cX4_addEar 3 (some .int) :: gtbl) rm_X4_addEar D cs sk [.ref h_t, .int x1, .int x2] [oX4 h_t q_t (d_t.1), ((q_t 4), .inl (cs 0, 3, .inl (d_t.2 4))), ((q_t 5), .inl (cs 0, 3, .inl (d_t.2 5)))] (rv.1) [oX4 h_t q_t (rv.2.1), ((q_t 4), .inl (cs 0, 3, .inl (rv.2.2 4))), ((q_t 5), .inl (cs 0, 3, .inl (rv.2.2 5)))] := by
  refine CTi.of RX4 (by decide +kernel) rfl (Nat.le_of_ble_eq_true rfl) (fun p e s m args below meth c A Q ls M hA hR hl hP hD hS => ?_)
  obtain ⟨hx, hb, hml, hT, hown, hlk, hrt, hK, hN, hSE⟩ := id M
  replace hl : lv_has ls 3 [(0, .ref h_t), (1, .int x1), (2, .int x2)] := hl
  unfold fX4_addEar at hf
  refine lv_aload_n hx hb dX4_addEar_0 rfl (lv_at hl 0 rfl) ?_
  refine va_get (D := D) (ci := 4) (v := .int (d_t.1 3)) (C := RX4) (T := TX4) (N := 11) hx hb hT iX4 hown hK hP 0 rfl rfl 3 (by decide) (hT _ fw_X4_22) (fun _ h9 => h9) rfl dX4_addEar_1 ?_
  refine lv_iconst (v := 3) hx hb dX4_addEar_4 rfl ?_
  have g2 := ite_some hf
  refine lv_icmp_lt (tgt := 11) hx hb dX4_addEar_5 (by decide) (fun c1 => ?_) (fun c1 => ?_)
  · replace hf := g2.1 c1
    refine lv_aload_n hx hb dX4_addEar_11 rfl (lv_at hl 0 rfl) ?_
    refine va_get (D := D) (ci := 4) (v := .ref (q_t 4)) (C := RX4) (T := TX4) (N := 11) hx hb hT iX4 hown hK hP 0 rfl rfl 4 (by decide) (hT _ fw_X4_25) (fun _ h9 => h9) rfl dX4_addEar_12 ?_
    refine lv_aload_n hx hb dX4_addEar_15 rfl (lv_at hl 0 rfl) ?_
    refine va_get (D := D) (ci := 4) (v := .int (d_t.1 3)) (C := RX4) (T := TX4) (N := 11) hx hb hT iX4 hown hK hP 0 rfl rfl 3 (by decide) (hT _ fw_X4_22) (fun _ h9 => h9) rfl dX4_addEar_16 ?_
    refine lv_iload_n hx hb dX4_addEar_19 rfl (lv_at hl 1 rfl) ?_
    obtain ⟨hi, hf⟩ := chk_some hf
    refine va_iast (D := D) hx hb hK hP hD hS 1 0 rfl rfl hi dX4_addEar_20 (fun H locs hP hD hS => ?_)
    replace hP : va_P D vwCl [oX4 h_t q_t (d_t.1), ((q_t 4), .inl (cs 0, 3, .inl (upd (d_t.2 4) (d_t.1 3).toNatClampNeg x1))), ((q_t 5), .inl (cs 0, 3, .inl (d_t.2 5)))] H := hP
    replace hD : va_D A [oX4 h_t q_t (d_t.1), ((q_t 4), .inl (cs 0, 3, .inl (upd (d_t.2 4) (d_t.1 3).toNatClampNeg x1))), ((q_t 5), .inl (cs 0, 3, .inl (d_t.2 5)))] := hD
    refine lv_aload_n hx hb dX4_addEar_21 rfl (lv_at hl 0 rfl) ?_
    refine va_get (D := D) (ci := 4) (v := .ref (q_t 5)) (C := RX4) (T := TX4) (N := 11) hx hb hT iX4 hown hK hP 0 rfl rfl 5 (by decide) (hT _ fw_X4_28) (fun _ h9 => h9) rfl dX4_addEar_22 ?_
    refine lv_aload_n hx hb dX4_addEar_25 rfl (lv_at hl 0 rfl) ?_
    refine va_get (D := D) (ci := 4) (v := .int (d_t.1 3)) (C := RX4) (T := TX4) (N := 11) hx hb hT iX4 hown hK hP 0 rfl rfl 3 (by decide) (hT _ fw_X4_22) (fun _ h9 => h9) rfl dX4_addEar_26 ?_
    refine lv_iload_n hx hb dX4_addEar_29 rfl (lv_at hl 2 rfl) ?_
    obtain ⟨hi, hf⟩ := chk_some hf
    refine va_iast (D := D) hx hb hK hP hD hS 2 0 rfl rfl hi dX4_addEar_30 (fun H locs hP hD hS => ?_)
    replace hP : va_P D vwCl [oX4 h_t q_t (d_t.1), ((q_t 4), .inl (cs 0, 3, .inl (upd (d_t.2 4) (d_t.1 3).toNatClampNeg x1))), ((q_t 5), .inl (cs 0, 3, .inl (upd (d_t.2 5) (d_t.1 3).toNatClampNeg x2)))] H := hP
    replace hD : va_D A [oX4 h_t q_t (d_t.1), ((q_t 4), .inl (cs 0, 3, .inl (upd (d_t.2 4) (d_t.1 3).toNatClampNeg x1))), ((q_t 5), .inl (cs 0, 3, .inl (upd (d_t.2 5) (d_t.1 3).toNatClampNeg x2)))] := hD
    refine lv_aload_n hx hb dX4_addEar_31 rfl (lv_at hl 0 rfl) ?_
    refine lv_dup hx hb dX4_addEar_32 rfl ?_
    refine va_get (D := D) (ci := 4) (v := .int (d_t.1 3)) (C := RX4) (T := TX4) (N := 11) hx hb hT iX4 hown hK hP 0 rfl rfl 3 (by decide) (hT _ fw_X4_22) (fun _ h9 => h9) rfl dX4_addEar_33 ?_
    refine lv_iconst (v := 1) hx hb dX4_addEar_36 rfl ?_
    refine lv_iadd hx hb dX4_addEar_37 ?_
    refine va_put (D := D) (ci := 4) (v := .int ((d_t.1 3) + 1)) (ty := tyX4 3) (C := RX4) (T := TX4) (N := 11) hx hb hT iX4 tyX4 tyX4_ok nmX4 hown hK hP hD hS 0 rfl rfl 3 (by decide) (hT _ fw_X4_22) (fun _ h9 => h9) rfl (tyX4_ok 3 (by decide)) rfl rfl (Nat.le_of_ble_eq_true rfl) dX4_addEar_38 (fun H locs hP hD hS => ?_)
    replace hP : va_P D vwCl [oX4 h_t q_t (upd d_t.1 3 ((d_t.1 3) + 1)), ((q_t 4), .inl (cs 0, 3, .inl (upd (d_t.2 4) (d_t.1 3).toNatClampNeg x1))), ((q_t 5), .inl (cs 0, 3, .inl (upd (d_t.2 5) (d_t.1 3).toNatClampNeg x2)))] H := hP
    replace hD : va_D A [oX4 h_t q_t (upd d_t.1 3 ((d_t.1 3) + 1)), ((q_t 4), .inl (cs 0, 3, .inl (upd (d_t.2 4) (d_t.1 3).toNatClampNeg x1))), ((q_t 5), .inl (cs 0, 3, .inl (upd (d_t.2 5) (d_t.1 3).toNatClampNeg x2)))] := hD
    refine lv_aload_n hx hb dX4_addEar_41 rfl (lv_at hl 0 rfl) ?_
    refine va_get (D := D) (ci := 4) (v := .int ((d_t.1 3) + 1)) (C := RX4) (T := TX4) (N := 11) hx hb hT iX4 hown hK hP 0 rfl rfl 3 (by decide) (hT _ fw_X4_22) (fun _ h9 => h9) rfl dX4_addEar_42 ?_
    refine lv_iconst (v := 1) hx hb dX4_addEar_45 rfl ?_
    refine lv_isub hx hb dX4_addEar_46 ?_
    have e9 := Option.some.inj hf
    subst e9
    exact hR _ _ _ _ dX4_addEar_47 hP hS
  · replace hf := g2.2 c1
    refine lv_bipush (v := (-4)) hx hb dX4_addEar_8 rfl ?_
    have e9 := Option.some.inj hf
    subst e9
    exact hR _ _ _ _ dX4_addEar_10 hP hS
abbrev rm_X4_buildMill : Room := { frames := 0, cells := 0, slots := 0, locals := 0 }
def fX4_buildMill (k : Nat) (d_t : Dat) (x1 : Int32) (x2 : Int32) : Option (Dat) :=
  some ((upd (upd d_t.1 6 x1) 7 x2), d_t.2)
set_option maxHeartbeats 4000000 in
set_option maxRecDepth 100000 in
theorem mX4_buildMill (l : Launch) (D : va_G) (cs : Nat → ClassId) (sk : Nat → Nat) (h_t : Nat) (q_t : Nat → Nat) (k : Nat) (d_t : Dat) (x1 : Int32) (x2 : Int32) {rv : Dat} (hf : fX4_buildMill k d_t x1 x2 = some rv) : CTv l yX4_buildMill (Cond.code yX4_buildMill cX4_buildMill 3 none :: gtbl) rm_X4_buildMill D cs sk [.ref h_t, .int x1, .int x2] [oX4 h_t q_t (d_t.1)] [oX4 h_t q_t (rv.1)] := by
  refine CTv.of RX4 (by decide +kernel) rfl (Nat.le_of_ble_eq_true rfl) (fun p e s m args below meth c A Q ls M hA hR hl hP hD hS => ?_)
  obtain ⟨hx, hb, hml, hT, hown, hlk, hrt, hK, hN, hSE⟩ := id M
  replace hl : lv_has ls 3 [(0, .ref h_t), (1, .int x1), (2, .int x2)] := hl
  unfold fX4_buildMill at hf
  refine lv_aload_n hx hb dX4_buildMill_0 rfl (lv_at hl 0 rfl) ?_
  refine lv_iload_n hx hb dX4_buildMill_1 rfl (lv_at hl 1 rfl) ?_
  refine va_put (D := D) (ci := 4) (v := .int x1) (ty := tyX4 6) (C := RX4) (T := TX4) (N := 11) hx hb hT iX4 tyX4 tyX4_ok nmX4 hown hK hP hD hS 0 rfl rfl 6 (by decide) (hT _ fw_X4_31) (fun _ h9 => h9) rfl (tyX4_ok 6 (by decide)) rfl rfl (Nat.le_of_ble_eq_true rfl) dX4_buildMill_2 (fun H locs hP hD hS => ?_)
  replace hP : va_P D vwCl [oX4 h_t q_t (upd d_t.1 6 x1)] H := hP
  replace hD : va_D A [oX4 h_t q_t (upd d_t.1 6 x1)] := hD
  refine lv_aload_n hx hb dX4_buildMill_5 rfl (lv_at hl 0 rfl) ?_
  refine lv_iload_n hx hb dX4_buildMill_6 rfl (lv_at hl 2 rfl) ?_
  refine va_put (D := D) (ci := 4) (v := .int x2) (ty := tyX4 7) (C := RX4) (T := TX4) (N := 11) hx hb hT iX4 tyX4 tyX4_ok nmX4 hown hK hP hD hS 0 rfl rfl 7 (by decide) (hT _ fw_X4_34) (fun _ h9 => h9) rfl (tyX4_ok 7 (by decide)) rfl rfl (Nat.le_of_ble_eq_true rfl) dX4_buildMill_7 (fun H locs hP hD hS => ?_)
  replace hP : va_P D vwCl [oX4 h_t q_t (upd (upd d_t.1 6 x1) 7 x2)] H := hP
  replace hD : va_D A [oX4 h_t q_t (upd (upd d_t.1 6 x1) 7 x2)] := hD
  have e9 := Option.some.inj hf
  subst e9
  exact hR _ _ _ _ dX4_buildMill_10 hP hS
abbrev rm_X6_holds : Room := { frames := 0, cells := 0, slots := 0, locals := 0 }
def fX6_holds (k : Nat) (x0 : Int32) (x1 : Int32) : Option (Int32) :=
  (if ((x0 >>> (x1 &&& 31)) &&& 1) = 1 then some 1 else some 0)
set_option maxHeartbeats 4000000 in
set_option maxRecDepth 100000 in
theorem mX6_holds (l : Launch) (D : va_G) (cs : Nat → ClassId) (sk : Nat → Nat)  (k : Nat) (x0 : Int32) (x1 : Int32) {rv : Int32} (hf : fX6_holds k x0 x1 = some rv) : CTi l yX6_holds (Cond.code yX6_holds cX6_holds 2 (some .boolean) :: gtbl) rm_X6_holds D cs sk [.int x0, .int x1] [] (rv) [] := by
  refine CTi.ofZ RX6 (by decide +kernel) rfl (Nat.le_of_ble_eq_true rfl) (fun p e s m args below meth c A Q ls M hA hR hl hP hD hS => ?_)
  obtain ⟨hx, hb, hml, hT, hown, hlk, hrt, hK, hN, hSE⟩ := id M
  replace hl : lv_has ls 2 [(0, .int x0), (1, .int x1)] := hl
  unfold fX6_holds at hf
  refine lv_iload_n hx hb dX6_holds_0 rfl (lv_at hl 0 rfl) ?_
  refine lv_iload_n hx hb dX6_holds_1 rfl (lv_at hl 1 rfl) ?_
  refine lv_ishr hx hb dX6_holds_2 ?_
  refine lv_iconst (v := 1) hx hb dX6_holds_3 rfl ?_
  refine lv_iand hx hb dX6_holds_4 ?_
  refine lv_iconst (v := 1) hx hb dX6_holds_5 rfl ?_
  have g2 := ite_some hf
  refine lv_icmp_ne (tgt := 13) hx hb dX6_holds_6 (by decide) (fun c1 => ?_) (fun c1 => ?_)
  · replace hf := g2.2 c1
    refine lv_iconst (v := 0) hx hb dX6_holds_13 rfl ?_
    have e9 := Option.some.inj hf
    subst e9
    exact hR _ _ _ _ dX6_holds_14 (Or.inl rfl) hP hS
  · replace hf := g2.1 c1
    refine lv_iconst (v := 1) hx hb dX6_holds_9 rfl ?_
    refine lv_goto (tgt := 14) hx hb dX6_holds_10 (by decide) ?_
    have e9 := Option.some.inj hf
    subst e9
    exact hR _ _ _ _ dX6_holds_14 (Or.inr rfl) hP hS
abbrev rm_X4_makeEmpty : Room := { frames := 0, cells := 0, slots := 0, locals := 0 }
def fX4_makeEmpty (k : Nat) (d_t : Dat) : Option (Dat) :=
  some ((upd (upd (upd (upd (upd d_t.1 0 0) 3 0) 6 (-1)) 7 (-1)) 8 3), d_t.2)
set_option maxHeartbeats 4000000 in
set_option maxRecDepth 100000 in
theorem mX4_makeEmpty (l : Launch) (D : va_G) (cs : Nat → ClassId) (sk : Nat → Nat) (h_t : Nat) (q_t : Nat → Nat) (k : Nat) (d_t : Dat) {rv : Dat} (hf : fX4_makeEmpty k d_t = some rv) : CTv l yX4_makeEmpty (Cond.code yX4_makeEmpty cX4_makeEmpty 1 none :: gtbl) rm_X4_makeEmpty D cs sk [.ref h_t] [oX4 h_t q_t (d_t.1)] [oX4 h_t q_t (rv.1)] := by
  refine CTv.of RX4 (by decide +kernel) rfl (Nat.le_of_ble_eq_true rfl) (fun p e s m args below meth c A Q ls M hA hR hl hP hD hS => ?_)
  obtain ⟨hx, hb, hml, hT, hown, hlk, hrt, hK, hN, hSE⟩ := id M
  replace hl : lv_has ls 1 [(0, .ref h_t)] := hl
  unfold fX4_makeEmpty at hf
  refine lv_aload_n hx hb dX4_makeEmpty_0 rfl (lv_at hl 0 rfl) ?_
  refine lv_iconst (v := 0) hx hb dX4_makeEmpty_1 rfl ?_
  refine va_put (D := D) (ci := 4) (v := .int 0) (ty := tyX4 0) (C := RX4) (T := TX4) (N := 11) hx hb hT iX4 tyX4 tyX4_ok nmX4 hown hK hP hD hS 0 rfl rfl 0 (by decide) (hT _ fw_X4_9) (fun _ h9 => h9) rfl (tyX4_ok 0 (by decide)) rfl rfl (Nat.le_of_ble_eq_true rfl) dX4_makeEmpty_2 (fun H locs hP hD hS => ?_)
  replace hP : va_P D vwCl [oX4 h_t q_t (upd d_t.1 0 0)] H := hP
  replace hD : va_D A [oX4 h_t q_t (upd d_t.1 0 0)] := hD
  refine lv_aload_n hx hb dX4_makeEmpty_5 rfl (lv_at hl 0 rfl) ?_
  refine lv_iconst (v := 0) hx hb dX4_makeEmpty_6 rfl ?_
  refine va_put (D := D) (ci := 4) (v := .int 0) (ty := tyX4 3) (C := RX4) (T := TX4) (N := 11) hx hb hT iX4 tyX4 tyX4_ok nmX4 hown hK hP hD hS 0 rfl rfl 3 (by decide) (hT _ fw_X4_22) (fun _ h9 => h9) rfl (tyX4_ok 3 (by decide)) rfl rfl (Nat.le_of_ble_eq_true rfl) dX4_makeEmpty_7 (fun H locs hP hD hS => ?_)
  replace hP : va_P D vwCl [oX4 h_t q_t (upd (upd d_t.1 0 0) 3 0)] H := hP
  replace hD : va_D A [oX4 h_t q_t (upd (upd d_t.1 0 0) 3 0)] := hD
  refine lv_aload_n hx hb dX4_makeEmpty_10 rfl (lv_at hl 0 rfl) ?_
  refine lv_iconst (v := (-1)) hx hb dX4_makeEmpty_11 rfl ?_
  refine va_put (D := D) (ci := 4) (v := .int (-1)) (ty := tyX4 6) (C := RX4) (T := TX4) (N := 11) hx hb hT iX4 tyX4 tyX4_ok nmX4 hown hK hP hD hS 0 rfl rfl 6 (by decide) (hT _ fw_X4_31) (fun _ h9 => h9) rfl (tyX4_ok 6 (by decide)) rfl rfl (Nat.le_of_ble_eq_true rfl) dX4_makeEmpty_12 (fun H locs hP hD hS => ?_)
  replace hP : va_P D vwCl [oX4 h_t q_t (upd (upd (upd d_t.1 0 0) 3 0) 6 (-1))] H := hP
  replace hD : va_D A [oX4 h_t q_t (upd (upd (upd d_t.1 0 0) 3 0) 6 (-1))] := hD
  refine lv_aload_n hx hb dX4_makeEmpty_15 rfl (lv_at hl 0 rfl) ?_
  refine lv_iconst (v := (-1)) hx hb dX4_makeEmpty_16 rfl ?_
  refine va_put (D := D) (ci := 4) (v := .int (-1)) (ty := tyX4 7) (C := RX4) (T := TX4) (N := 11) hx hb hT iX4 tyX4 tyX4_ok nmX4 hown hK hP hD hS 0 rfl rfl 7 (by decide) (hT _ fw_X4_34) (fun _ h9 => h9) rfl (tyX4_ok 7 (by decide)) rfl rfl (Nat.le_of_ble_eq_true rfl) dX4_makeEmpty_17 (fun H locs hP hD hS => ?_)
  replace hP : va_P D vwCl [oX4 h_t q_t (upd (upd (upd (upd d_t.1 0 0) 3 0) 6 (-1)) 7 (-1))] H := hP
  replace hD : va_D A [oX4 h_t q_t (upd (upd (upd (upd d_t.1 0 0) 3 0) 6 (-1)) 7 (-1))] := hD
  refine lv_aload_n hx hb dX4_makeEmpty_20 rfl (lv_at hl 0 rfl) ?_
  refine lv_iconst (v := 3) hx hb dX4_makeEmpty_21 rfl ?_
  refine va_put (D := D) (ci := 4) (v := .int 3) (ty := tyX4 8) (C := RX4) (T := TX4) (N := 11) hx hb hT iX4 tyX4 tyX4_ok nmX4 hown hK hP hD hS 0 rfl rfl 8 (by decide) (hT _ fw_X4_37) (fun _ h9 => h9) rfl (tyX4_ok 8 (by decide)) rfl rfl (Nat.le_of_ble_eq_true rfl) dX4_makeEmpty_22 (fun H locs hP hD hS => ?_)
  replace hP : va_P D vwCl [oX4 h_t q_t (upd (upd (upd (upd (upd d_t.1 0 0) 3 0) 6 (-1)) 7 (-1)) 8 3)] H := hP
  replace hD : va_D A [oX4 h_t q_t (upd (upd (upd (upd (upd d_t.1 0 0) 3 0) 6 (-1)) 7 (-1)) 8 3)] := hD
  have e9 := Option.some.inj hf
  subst e9
  exact hR _ _ _ _ dX4_makeEmpty_25 hP hS
abbrev rm_X4_becomeLike : Room := { frames := 2, cells := 0, slots := 0, locals := 81 }
def fX4_becomeLike (k : Nat) (d_t : Dat) (d_a1 : Dat) : Option (Dat) :=
  (fX6_copyRow k 6 6 (d_a1.2 1) (d_t.2 1)).bind (fun (r1 : (Nat → Int32)) => (fX6_copyRow k 6 6 (d_a1.2 2) (d_t.2 2)).bind (fun (r3 : (Nat → Int32)) => (fX6_copyRow k 3 3 (d_a1.2 4) (d_t.2 4)).bind (fun (r5 : (Nat → Int32)) => (fX6_copyRow k 3 3 (d_a1.2 5) (d_t.2 5)).bind (fun (r7 : (Nat → Int32)) => some ((upd (upd (upd (upd (upd (upd (upd d_t.1 0 (d_a1.1 0)) 3 (d_a1.1 3)) 6 (d_a1.1 6)) 7 (d_a1.1 7)) 8 (d_a1.1 8)) 9 (d_a1.1 9)) 10 (d_a1.1 10)), (va_up (va_up (va_up (va_up d_t.2 1 r1) 2 r3) 4 r5) 5 r7))))))
set_option maxHeartbeats 4000000 in
set_option maxRecDepth 100000 in
theorem mX4_becomeLike (l : Launch) (D : va_G) (cs : Nat → ClassId) (sk : Nat → Nat) (h_t : Nat) (h_a1 : Nat) (q_t : Nat → Nat) (q_a1 : Nat → Nat) (k : Nat) (d_t : Dat) (d_a1 : Dat) {rv : Dat} (hf : fX4_becomeLike k d_t d_a1 = some rv) : CTv l yX4_becomeLike (Cond.code yX4_becomeLike cX4_becomeLike 2 none :: gtbl) rm_X4_becomeLike D cs sk [.ref h_t, .ref h_a1] [oX4 h_t q_t (d_t.1), ((q_t 1), .inl (cs 0, 6, .inl (d_t.2 1))), ((q_t 2), .inl (cs 0, 6, .inl (d_t.2 2))), ((q_t 4), .inl (cs 0, 3, .inl (d_t.2 4))), ((q_t 5), .inl (cs 0, 3, .inl (d_t.2 5))), oX4 h_a1 q_a1 (d_a1.1), ((q_a1 1), .inl (cs 0, 6, .inl (d_a1.2 1))), ((q_a1 2), .inl (cs 0, 6, .inl (d_a1.2 2))), ((q_a1 4), .inl (cs 0, 3, .inl (d_a1.2 4))), ((q_a1 5), .inl (cs 0, 3, .inl (d_a1.2 5)))] [oX4 h_t q_t (rv.1), ((q_t 1), .inl (cs 0, 6, .inl (rv.2 1))), ((q_t 2), .inl (cs 0, 6, .inl (rv.2 2))), ((q_t 4), .inl (cs 0, 3, .inl (rv.2 4))), ((q_t 5), .inl (cs 0, 3, .inl (rv.2 5))), oX4 h_a1 q_a1 (d_a1.1), ((q_a1 1), .inl (cs 0, 6, .inl (d_a1.2 1))), ((q_a1 2), .inl (cs 0, 6, .inl (d_a1.2 2))), ((q_a1 4), .inl (cs 0, 3, .inl (d_a1.2 4))), ((q_a1 5), .inl (cs 0, 3, .inl (d_a1.2 5)))] := by
  refine CTv.of RX4 (by decide +kernel) rfl (Nat.le_of_ble_eq_true rfl) (fun p e s m args below meth c A Q ls M hA hR hl hP hD hS => ?_)
  obtain ⟨hx, hb, hml, hT, hown, hlk, hrt, hK, hN, hSE⟩ := id M
  replace hl : lv_has ls 2 [(0, .ref h_t), (1, .ref h_a1)] := hl
  unfold fX4_becomeLike at hf
  refine lv_aload_n hx hb dX4_becomeLike_0 rfl (lv_at hl 0 rfl) ?_
  refine lv_aload_n hx hb dX4_becomeLike_1 rfl (lv_at hl 1 rfl) ?_
  refine va_get (D := D) (ci := 4) (v := .int (d_a1.1 0)) (C := RX4) (T := TX4) (N := 11) hx hb hT iX4 hown hK hP 5 rfl rfl 0 (by decide) (hT _ fw_X4_9) (fun _ h9 => h9) rfl dX4_becomeLike_2 ?_
  refine va_put (D := D) (ci := 4) (v := .int (d_a1.1 0)) (ty := tyX4 0) (C := RX4) (T := TX4) (N := 11) hx hb hT iX4 tyX4 tyX4_ok nmX4 hown hK hP hD hS 0 rfl rfl 0 (by decide) (hT _ fw_X4_9) (fun _ h9 => h9) rfl (tyX4_ok 0 (by decide)) rfl rfl (Nat.le_of_ble_eq_true rfl) dX4_becomeLike_5 (fun H locs hP hD hS => ?_)
  replace hP : va_P D vwCl [oX4 h_t q_t (upd d_t.1 0 (d_a1.1 0)), ((q_t 1), .inl (cs 0, 6, .inl (d_t.2 1))), ((q_t 2), .inl (cs 0, 6, .inl (d_t.2 2))), ((q_t 4), .inl (cs 0, 3, .inl (d_t.2 4))), ((q_t 5), .inl (cs 0, 3, .inl (d_t.2 5))), oX4 h_a1 q_a1 (d_a1.1), ((q_a1 1), .inl (cs 0, 6, .inl (d_a1.2 1))), ((q_a1 2), .inl (cs 0, 6, .inl (d_a1.2 2))), ((q_a1 4), .inl (cs 0, 3, .inl (d_a1.2 4))), ((q_a1 5), .inl (cs 0, 3, .inl (d_a1.2 5)))] H := hP
  replace hD : va_D A [oX4 h_t q_t (upd d_t.1 0 (d_a1.1 0)), ((q_t 1), .inl (cs 0, 6, .inl (d_t.2 1))), ((q_t 2), .inl (cs 0, 6, .inl (d_t.2 2))), ((q_t 4), .inl (cs 0, 3, .inl (d_t.2 4))), ((q_t 5), .inl (cs 0, 3, .inl (d_t.2 5))), oX4 h_a1 q_a1 (d_a1.1), ((q_a1 1), .inl (cs 0, 6, .inl (d_a1.2 1))), ((q_a1 2), .inl (cs 0, 6, .inl (d_a1.2 2))), ((q_a1 4), .inl (cs 0, 3, .inl (d_a1.2 4))), ((q_a1 5), .inl (cs 0, 3, .inl (d_a1.2 5)))] := hD
  refine lv_aload_n hx hb dX4_becomeLike_8 rfl (lv_at hl 1 rfl) ?_
  refine va_get (D := D) (ci := 4) (v := .ref (q_a1 1)) (C := RX4) (T := TX4) (N := 11) hx hb hT iX4 hown hK hP 5 rfl rfl 1 (by decide) (hT _ fw_X4_15) (fun _ h9 => h9) rfl dX4_becomeLike_9 ?_
  refine lv_aload_n hx hb dX4_becomeLike_12 rfl (lv_at hl 0 rfl) ?_
  refine va_get (D := D) (ci := 4) (v := .ref (q_t 1)) (C := RX4) (T := TX4) (N := 11) hx hb hT iX4 hown hK hP 0 rfl rfl 1 (by decide) (hT _ fw_X4_15) (fun _ h9 => h9) rfl dX4_becomeLike_13 ?_
  obtain ⟨r1, e2, hf⟩ := bind_some hf
  refine callSNv (As := [.ref (q_a1 1), .ref (q_t 1)]) (rest := []) M (mX6_copyRow l D cs sk (q_a1 1) (q_t 1) k 6 6 (d_a1.2 1) (d_t.2 1) e2) mw_X4_46 ln_X6_copyRow ⟨rfl, rfl, Nat.le_of_ble_eq_true rfl, Nat.le_of_ble_eq_true rfl⟩ hP hD hS hA [6, 1] (by decide) rfl rfl ⟨Nat.zero_le _, Nat.zero_le _⟩ hl.1 rfl (Nat.le_of_ble_eq_true rfl) dX4_becomeLike_16 (fun H locs hP hD hS => ?_)
  replace hP : va_P D vwCl [oX4 h_t q_t (upd d_t.1 0 (d_a1.1 0)), ((q_t 1), .inl (cs 0, 6, .inl r1)), ((q_t 2), .inl (cs 0, 6, .inl (d_t.2 2))), ((q_t 4), .inl (cs 0, 3, .inl (d_t.2 4))), ((q_t 5), .inl (cs 0, 3, .inl (d_t.2 5))), oX4 h_a1 q_a1 (d_a1.1), ((q_a1 1), .inl (cs 0, 6, .inl (d_a1.2 1))), ((q_a1 2), .inl (cs 0, 6, .inl (d_a1.2 2))), ((q_a1 4), .inl (cs 0, 3, .inl (d_a1.2 4))), ((q_a1 5), .inl (cs 0, 3, .inl (d_a1.2 5)))] H := hP
  replace hD : va_D A [oX4 h_t q_t (upd d_t.1 0 (d_a1.1 0)), ((q_t 1), .inl (cs 0, 6, .inl r1)), ((q_t 2), .inl (cs 0, 6, .inl (d_t.2 2))), ((q_t 4), .inl (cs 0, 3, .inl (d_t.2 4))), ((q_t 5), .inl (cs 0, 3, .inl (d_t.2 5))), oX4 h_a1 q_a1 (d_a1.1), ((q_a1 1), .inl (cs 0, 6, .inl (d_a1.2 1))), ((q_a1 2), .inl (cs 0, 6, .inl (d_a1.2 2))), ((q_a1 4), .inl (cs 0, 3, .inl (d_a1.2 4))), ((q_a1 5), .inl (cs 0, 3, .inl (d_a1.2 5)))] := hD
  refine lv_aload_n hx hb dX4_becomeLike_19 rfl (lv_at hl 1 rfl) ?_
  refine va_get (D := D) (ci := 4) (v := .ref (q_a1 2)) (C := RX4) (T := TX4) (N := 11) hx hb hT iX4 hown hK hP 5 rfl rfl 2 (by decide) (hT _ fw_X4_19) (fun _ h9 => h9) rfl dX4_becomeLike_20 ?_
  refine lv_aload_n hx hb dX4_becomeLike_23 rfl (lv_at hl 0 rfl) ?_
  refine va_get (D := D) (ci := 4) (v := .ref (q_t 2)) (C := RX4) (T := TX4) (N := 11) hx hb hT iX4 hown hK hP 0 rfl rfl 2 (by decide) (hT _ fw_X4_19) (fun _ h9 => h9) rfl dX4_becomeLike_24 ?_
  obtain ⟨r3, e4, hf⟩ := bind_some hf
  refine callSNv (As := [.ref (q_a1 2), .ref (q_t 2)]) (rest := []) M (mX6_copyRow l D cs sk (q_a1 2) (q_t 2) k 6 6 (d_a1.2 2) (d_t.2 2) e4) mw_X4_46 ln_X6_copyRow ⟨rfl, rfl, Nat.le_of_ble_eq_true rfl, Nat.le_of_ble_eq_true rfl⟩ hP hD hS hA [7, 2] (by decide) rfl rfl ⟨Nat.zero_le _, Nat.zero_le _⟩ hl.1 rfl (Nat.le_of_ble_eq_true rfl) dX4_becomeLike_27 (fun H locs hP hD hS => ?_)
  replace hP : va_P D vwCl [oX4 h_t q_t (upd d_t.1 0 (d_a1.1 0)), ((q_t 1), .inl (cs 0, 6, .inl r1)), ((q_t 2), .inl (cs 0, 6, .inl r3)), ((q_t 4), .inl (cs 0, 3, .inl (d_t.2 4))), ((q_t 5), .inl (cs 0, 3, .inl (d_t.2 5))), oX4 h_a1 q_a1 (d_a1.1), ((q_a1 1), .inl (cs 0, 6, .inl (d_a1.2 1))), ((q_a1 2), .inl (cs 0, 6, .inl (d_a1.2 2))), ((q_a1 4), .inl (cs 0, 3, .inl (d_a1.2 4))), ((q_a1 5), .inl (cs 0, 3, .inl (d_a1.2 5)))] H := hP
  replace hD : va_D A [oX4 h_t q_t (upd d_t.1 0 (d_a1.1 0)), ((q_t 1), .inl (cs 0, 6, .inl r1)), ((q_t 2), .inl (cs 0, 6, .inl r3)), ((q_t 4), .inl (cs 0, 3, .inl (d_t.2 4))), ((q_t 5), .inl (cs 0, 3, .inl (d_t.2 5))), oX4 h_a1 q_a1 (d_a1.1), ((q_a1 1), .inl (cs 0, 6, .inl (d_a1.2 1))), ((q_a1 2), .inl (cs 0, 6, .inl (d_a1.2 2))), ((q_a1 4), .inl (cs 0, 3, .inl (d_a1.2 4))), ((q_a1 5), .inl (cs 0, 3, .inl (d_a1.2 5)))] := hD
  refine lv_aload_n hx hb dX4_becomeLike_30 rfl (lv_at hl 0 rfl) ?_
  refine lv_aload_n hx hb dX4_becomeLike_31 rfl (lv_at hl 1 rfl) ?_
  refine va_get (D := D) (ci := 4) (v := .int (d_a1.1 3)) (C := RX4) (T := TX4) (N := 11) hx hb hT iX4 hown hK hP 5 rfl rfl 3 (by decide) (hT _ fw_X4_22) (fun _ h9 => h9) rfl dX4_becomeLike_32 ?_
  refine va_put (D := D) (ci := 4) (v := .int (d_a1.1 3)) (ty := tyX4 3) (C := RX4) (T := TX4) (N := 11) hx hb hT iX4 tyX4 tyX4_ok nmX4 hown hK hP hD hS 0 rfl rfl 3 (by decide) (hT _ fw_X4_22) (fun _ h9 => h9) rfl (tyX4_ok 3 (by decide)) rfl rfl (Nat.le_of_ble_eq_true rfl) dX4_becomeLike_35 (fun H locs hP hD hS => ?_)
  replace hP : va_P D vwCl [oX4 h_t q_t (upd (upd d_t.1 0 (d_a1.1 0)) 3 (d_a1.1 3)), ((q_t 1), .inl (cs 0, 6, .inl r1)), ((q_t 2), .inl (cs 0, 6, .inl r3)), ((q_t 4), .inl (cs 0, 3, .inl (d_t.2 4))), ((q_t 5), .inl (cs 0, 3, .inl (d_t.2 5))), oX4 h_a1 q_a1 (d_a1.1), ((q_a1 1), .inl (cs 0, 6, .inl (d_a1.2 1))), ((q_a1 2), .inl (cs 0, 6, .inl (d_a1.2 2))), ((q_a1 4), .inl (cs 0, 3, .inl (d_a1.2 4))), ((q_a1 5), .inl (cs 0, 3, .inl (d_a1.2 5)))] H := hP
  replace hD : va_D A [oX4 h_t q_t (upd (upd d_t.1 0 (d_a1.1 0)) 3 (d_a1.1 3)), ((q_t 1), .inl (cs 0, 6, .inl r1)), ((q_t 2), .inl (cs 0, 6, .inl r3)), ((q_t 4), .inl (cs 0, 3, .inl (d_t.2 4))), ((q_t 5), .inl (cs 0, 3, .inl (d_t.2 5))), oX4 h_a1 q_a1 (d_a1.1), ((q_a1 1), .inl (cs 0, 6, .inl (d_a1.2 1))), ((q_a1 2), .inl (cs 0, 6, .inl (d_a1.2 2))), ((q_a1 4), .inl (cs 0, 3, .inl (d_a1.2 4))), ((q_a1 5), .inl (cs 0, 3, .inl (d_a1.2 5)))] := hD
  refine lv_aload_n hx hb dX4_becomeLike_38 rfl (lv_at hl 1 rfl) ?_
  refine va_get (D := D) (ci := 4) (v := .ref (q_a1 4)) (C := RX4) (T := TX4) (N := 11) hx hb hT iX4 hown hK hP 5 rfl rfl 4 (by decide) (hT _ fw_X4_25) (fun _ h9 => h9) rfl dX4_becomeLike_39 ?_
  refine lv_aload_n hx hb dX4_becomeLike_42 rfl (lv_at hl 0 rfl) ?_
  refine va_get (D := D) (ci := 4) (v := .ref (q_t 4)) (C := RX4) (T := TX4) (N := 11) hx hb hT iX4 hown hK hP 0 rfl rfl 4 (by decide) (hT _ fw_X4_25) (fun _ h9 => h9) rfl dX4_becomeLike_43 ?_
  obtain ⟨r5, e6, hf⟩ := bind_some hf
  refine callSNv (As := [.ref (q_a1 4), .ref (q_t 4)]) (rest := []) M (mX6_copyRow l D cs sk (q_a1 4) (q_t 4) k 3 3 (d_a1.2 4) (d_t.2 4) e6) mw_X4_46 ln_X6_copyRow ⟨rfl, rfl, Nat.le_of_ble_eq_true rfl, Nat.le_of_ble_eq_true rfl⟩ hP hD hS hA [8, 3] (by decide) rfl rfl ⟨Nat.zero_le _, Nat.zero_le _⟩ hl.1 rfl (Nat.le_of_ble_eq_true rfl) dX4_becomeLike_46 (fun H locs hP hD hS => ?_)
  replace hP : va_P D vwCl [oX4 h_t q_t (upd (upd d_t.1 0 (d_a1.1 0)) 3 (d_a1.1 3)), ((q_t 1), .inl (cs 0, 6, .inl r1)), ((q_t 2), .inl (cs 0, 6, .inl r3)), ((q_t 4), .inl (cs 0, 3, .inl r5)), ((q_t 5), .inl (cs 0, 3, .inl (d_t.2 5))), oX4 h_a1 q_a1 (d_a1.1), ((q_a1 1), .inl (cs 0, 6, .inl (d_a1.2 1))), ((q_a1 2), .inl (cs 0, 6, .inl (d_a1.2 2))), ((q_a1 4), .inl (cs 0, 3, .inl (d_a1.2 4))), ((q_a1 5), .inl (cs 0, 3, .inl (d_a1.2 5)))] H := hP
  replace hD : va_D A [oX4 h_t q_t (upd (upd d_t.1 0 (d_a1.1 0)) 3 (d_a1.1 3)), ((q_t 1), .inl (cs 0, 6, .inl r1)), ((q_t 2), .inl (cs 0, 6, .inl r3)), ((q_t 4), .inl (cs 0, 3, .inl r5)), ((q_t 5), .inl (cs 0, 3, .inl (d_t.2 5))), oX4 h_a1 q_a1 (d_a1.1), ((q_a1 1), .inl (cs 0, 6, .inl (d_a1.2 1))), ((q_a1 2), .inl (cs 0, 6, .inl (d_a1.2 2))), ((q_a1 4), .inl (cs 0, 3, .inl (d_a1.2 4))), ((q_a1 5), .inl (cs 0, 3, .inl (d_a1.2 5)))] := hD
  refine lv_aload_n hx hb dX4_becomeLike_49 rfl (lv_at hl 1 rfl) ?_
  refine va_get (D := D) (ci := 4) (v := .ref (q_a1 5)) (C := RX4) (T := TX4) (N := 11) hx hb hT iX4 hown hK hP 5 rfl rfl 5 (by decide) (hT _ fw_X4_28) (fun _ h9 => h9) rfl dX4_becomeLike_50 ?_
  refine lv_aload_n hx hb dX4_becomeLike_53 rfl (lv_at hl 0 rfl) ?_
  refine va_get (D := D) (ci := 4) (v := .ref (q_t 5)) (C := RX4) (T := TX4) (N := 11) hx hb hT iX4 hown hK hP 0 rfl rfl 5 (by decide) (hT _ fw_X4_28) (fun _ h9 => h9) rfl dX4_becomeLike_54 ?_
  obtain ⟨r7, e8, hf⟩ := bind_some hf
  refine callSNv (As := [.ref (q_a1 5), .ref (q_t 5)]) (rest := []) M (mX6_copyRow l D cs sk (q_a1 5) (q_t 5) k 3 3 (d_a1.2 5) (d_t.2 5) e8) mw_X4_46 ln_X6_copyRow ⟨rfl, rfl, Nat.le_of_ble_eq_true rfl, Nat.le_of_ble_eq_true rfl⟩ hP hD hS hA [9, 4] (by decide) rfl rfl ⟨Nat.zero_le _, Nat.zero_le _⟩ hl.1 rfl (Nat.le_of_ble_eq_true rfl) dX4_becomeLike_57 (fun H locs hP hD hS => ?_)
  replace hP : va_P D vwCl [oX4 h_t q_t (upd (upd d_t.1 0 (d_a1.1 0)) 3 (d_a1.1 3)), ((q_t 1), .inl (cs 0, 6, .inl r1)), ((q_t 2), .inl (cs 0, 6, .inl r3)), ((q_t 4), .inl (cs 0, 3, .inl r5)), ((q_t 5), .inl (cs 0, 3, .inl r7)), oX4 h_a1 q_a1 (d_a1.1), ((q_a1 1), .inl (cs 0, 6, .inl (d_a1.2 1))), ((q_a1 2), .inl (cs 0, 6, .inl (d_a1.2 2))), ((q_a1 4), .inl (cs 0, 3, .inl (d_a1.2 4))), ((q_a1 5), .inl (cs 0, 3, .inl (d_a1.2 5)))] H := hP
  replace hD : va_D A [oX4 h_t q_t (upd (upd d_t.1 0 (d_a1.1 0)) 3 (d_a1.1 3)), ((q_t 1), .inl (cs 0, 6, .inl r1)), ((q_t 2), .inl (cs 0, 6, .inl r3)), ((q_t 4), .inl (cs 0, 3, .inl r5)), ((q_t 5), .inl (cs 0, 3, .inl r7)), oX4 h_a1 q_a1 (d_a1.1), ((q_a1 1), .inl (cs 0, 6, .inl (d_a1.2 1))), ((q_a1 2), .inl (cs 0, 6, .inl (d_a1.2 2))), ((q_a1 4), .inl (cs 0, 3, .inl (d_a1.2 4))), ((q_a1 5), .inl (cs 0, 3, .inl (d_a1.2 5)))] := hD
  refine lv_aload_n hx hb dX4_becomeLike_60 rfl (lv_at hl 0 rfl) ?_
  refine lv_aload_n hx hb dX4_becomeLike_61 rfl (lv_at hl 1 rfl) ?_
  refine va_get (D := D) (ci := 4) (v := .int (d_a1.1 6)) (C := RX4) (T := TX4) (N := 11) hx hb hT iX4 hown hK hP 5 rfl rfl 6 (by decide) (hT _ fw_X4_31) (fun _ h9 => h9) rfl dX4_becomeLike_62 ?_
  refine va_put (D := D) (ci := 4) (v := .int (d_a1.1 6)) (ty := tyX4 6) (C := RX4) (T := TX4) (N := 11) hx hb hT iX4 tyX4 tyX4_ok nmX4 hown hK hP hD hS 0 rfl rfl 6 (by decide) (hT _ fw_X4_31) (fun _ h9 => h9) rfl (tyX4_ok 6 (by decide)) rfl rfl (Nat.le_of_ble_eq_true rfl) dX4_becomeLike_65 (fun H locs hP hD hS => ?_)
  replace hP : va_P D vwCl [oX4 h_t q_t (upd (upd (upd d_t.1 0 (d_a1.1 0)) 3 (d_a1.1 3)) 6 (d_a1.1 6)), ((q_t 1), .inl (cs 0, 6, .inl r1)), ((q_t 2), .inl (cs 0, 6, .inl r3)), ((q_t 4), .inl (cs 0, 3, .inl r5)), ((q_t 5), .inl (cs 0, 3, .inl r7)), oX4 h_a1 q_a1 (d_a1.1), ((q_a1 1), .inl (cs 0, 6, .inl (d_a1.2 1))), ((q_a1 2), .inl (cs 0, 6, .inl (d_a1.2 2))), ((q_a1 4), .inl (cs 0, 3, .inl (d_a1.2 4))), ((q_a1 5), .inl (cs 0, 3, .inl (d_a1.2 5)))] H := hP
  replace hD : va_D A [oX4 h_t q_t (upd (upd (upd d_t.1 0 (d_a1.1 0)) 3 (d_a1.1 3)) 6 (d_a1.1 6)), ((q_t 1), .inl (cs 0, 6, .inl r1)), ((q_t 2), .inl (cs 0, 6, .inl r3)), ((q_t 4), .inl (cs 0, 3, .inl r5)), ((q_t 5), .inl (cs 0, 3, .inl r7)), oX4 h_a1 q_a1 (d_a1.1), ((q_a1 1), .inl (cs 0, 6, .inl (d_a1.2 1))), ((q_a1 2), .inl (cs 0, 6, .inl (d_a1.2 2))), ((q_a1 4), .inl (cs 0, 3, .inl (d_a1.2 4))), ((q_a1 5), .inl (cs 0, 3, .inl (d_a1.2 5)))] := hD
  refine lv_aload_n hx hb dX4_becomeLike_68 rfl (lv_at hl 0 rfl) ?_
  refine lv_aload_n hx hb dX4_becomeLike_69 rfl (lv_at hl 1 rfl) ?_
  refine va_get (D := D) (ci := 4) (v := .int (d_a1.1 7)) (C := RX4) (T := TX4) (N := 11) hx hb hT iX4 hown hK hP 5 rfl rfl 7 (by decide) (hT _ fw_X4_34) (fun _ h9 => h9) rfl dX4_becomeLike_70 ?_
  refine va_put (D := D) (ci := 4) (v := .int (d_a1.1 7)) (ty := tyX4 7) (C := RX4) (T := TX4) (N := 11) hx hb hT iX4 tyX4 tyX4_ok nmX4 hown hK hP hD hS 0 rfl rfl 7 (by decide) (hT _ fw_X4_34) (fun _ h9 => h9) rfl (tyX4_ok 7 (by decide)) rfl rfl (Nat.le_of_ble_eq_true rfl) dX4_becomeLike_73 (fun H locs hP hD hS => ?_)
  replace hP : va_P D vwCl [oX4 h_t q_t (upd (upd (upd (upd d_t.1 0 (d_a1.1 0)) 3 (d_a1.1 3)) 6 (d_a1.1 6)) 7 (d_a1.1 7)), ((q_t 1), .inl (cs 0, 6, .inl r1)), ((q_t 2), .inl (cs 0, 6, .inl r3)), ((q_t 4), .inl (cs 0, 3, .inl r5)), ((q_t 5), .inl (cs 0, 3, .inl r7)), oX4 h_a1 q_a1 (d_a1.1), ((q_a1 1), .inl (cs 0, 6, .inl (d_a1.2 1))), ((q_a1 2), .inl (cs 0, 6, .inl (d_a1.2 2))), ((q_a1 4), .inl (cs 0, 3, .inl (d_a1.2 4))), ((q_a1 5), .inl (cs 0, 3, .inl (d_a1.2 5)))] H := hP
  replace hD : va_D A [oX4 h_t q_t (upd (upd (upd (upd d_t.1 0 (d_a1.1 0)) 3 (d_a1.1 3)) 6 (d_a1.1 6)) 7 (d_a1.1 7)), ((q_t 1), .inl (cs 0, 6, .inl r1)), ((q_t 2), .inl (cs 0, 6, .inl r3)), ((q_t 4), .inl (cs 0, 3, .inl r5)), ((q_t 5), .inl (cs 0, 3, .inl r7)), oX4 h_a1 q_a1 (d_a1.1), ((q_a1 1), .inl (cs 0, 6, .inl (d_a1.2 1))), ((q_a1 2), .inl (cs 0, 6, .inl (d_a1.2 2))), ((q_a1 4), .inl (cs 0, 3, .inl (d_a1.2 4))), ((q_a1 5), .inl (cs 0, 3, .inl (d_a1.2 5)))] := hD
  refine lv_aload_n hx hb dX4_becomeLike_76 rfl (lv_at hl 0 rfl) ?_
  refine lv_aload_n hx hb dX4_becomeLike_77 rfl (lv_at hl 1 rfl) ?_
  refine va_get (D := D) (ci := 4) (v := .int (d_a1.1 8)) (C := RX4) (T := TX4) (N := 11) hx hb hT iX4 hown hK hP 5 rfl rfl 8 (by decide) (hT _ fw_X4_37) (fun _ h9 => h9) rfl dX4_becomeLike_78 ?_
  refine va_put (D := D) (ci := 4) (v := .int (d_a1.1 8)) (ty := tyX4 8) (C := RX4) (T := TX4) (N := 11) hx hb hT iX4 tyX4 tyX4_ok nmX4 hown hK hP hD hS 0 rfl rfl 8 (by decide) (hT _ fw_X4_37) (fun _ h9 => h9) rfl (tyX4_ok 8 (by decide)) rfl rfl (Nat.le_of_ble_eq_true rfl) dX4_becomeLike_81 (fun H locs hP hD hS => ?_)
  replace hP : va_P D vwCl [oX4 h_t q_t (upd (upd (upd (upd (upd d_t.1 0 (d_a1.1 0)) 3 (d_a1.1 3)) 6 (d_a1.1 6)) 7 (d_a1.1 7)) 8 (d_a1.1 8)), ((q_t 1), .inl (cs 0, 6, .inl r1)), ((q_t 2), .inl (cs 0, 6, .inl r3)), ((q_t 4), .inl (cs 0, 3, .inl r5)), ((q_t 5), .inl (cs 0, 3, .inl r7)), oX4 h_a1 q_a1 (d_a1.1), ((q_a1 1), .inl (cs 0, 6, .inl (d_a1.2 1))), ((q_a1 2), .inl (cs 0, 6, .inl (d_a1.2 2))), ((q_a1 4), .inl (cs 0, 3, .inl (d_a1.2 4))), ((q_a1 5), .inl (cs 0, 3, .inl (d_a1.2 5)))] H := hP
  replace hD : va_D A [oX4 h_t q_t (upd (upd (upd (upd (upd d_t.1 0 (d_a1.1 0)) 3 (d_a1.1 3)) 6 (d_a1.1 6)) 7 (d_a1.1 7)) 8 (d_a1.1 8)), ((q_t 1), .inl (cs 0, 6, .inl r1)), ((q_t 2), .inl (cs 0, 6, .inl r3)), ((q_t 4), .inl (cs 0, 3, .inl r5)), ((q_t 5), .inl (cs 0, 3, .inl r7)), oX4 h_a1 q_a1 (d_a1.1), ((q_a1 1), .inl (cs 0, 6, .inl (d_a1.2 1))), ((q_a1 2), .inl (cs 0, 6, .inl (d_a1.2 2))), ((q_a1 4), .inl (cs 0, 3, .inl (d_a1.2 4))), ((q_a1 5), .inl (cs 0, 3, .inl (d_a1.2 5)))] := hD
  refine lv_aload_n hx hb dX4_becomeLike_84 rfl (lv_at hl 0 rfl) ?_
  refine lv_aload_n hx hb dX4_becomeLike_85 rfl (lv_at hl 1 rfl) ?_
  refine va_get (D := D) (ci := 4) (v := .int (d_a1.1 9)) (C := RX4) (T := TX4) (N := 11) hx hb hT iX4 hown hK hP 5 rfl rfl 9 (by decide) (hT _ fw_X4_40) (fun _ h9 => h9) rfl dX4_becomeLike_86 ?_
  refine va_put (D := D) (ci := 4) (v := .int (d_a1.1 9)) (ty := tyX4 9) (C := RX4) (T := TX4) (N := 11) hx hb hT iX4 tyX4 tyX4_ok nmX4 hown hK hP hD hS 0 rfl rfl 9 (by decide) (hT _ fw_X4_40) (fun _ h9 => h9) rfl (tyX4_ok 9 (by decide)) rfl rfl (Nat.le_of_ble_eq_true rfl) dX4_becomeLike_89 (fun H locs hP hD hS => ?_)
  replace hP : va_P D vwCl [oX4 h_t q_t (upd (upd (upd (upd (upd (upd d_t.1 0 (d_a1.1 0)) 3 (d_a1.1 3)) 6 (d_a1.1 6)) 7 (d_a1.1 7)) 8 (d_a1.1 8)) 9 (d_a1.1 9)), ((q_t 1), .inl (cs 0, 6, .inl r1)), ((q_t 2), .inl (cs 0, 6, .inl r3)), ((q_t 4), .inl (cs 0, 3, .inl r5)), ((q_t 5), .inl (cs 0, 3, .inl r7)), oX4 h_a1 q_a1 (d_a1.1), ((q_a1 1), .inl (cs 0, 6, .inl (d_a1.2 1))), ((q_a1 2), .inl (cs 0, 6, .inl (d_a1.2 2))), ((q_a1 4), .inl (cs 0, 3, .inl (d_a1.2 4))), ((q_a1 5), .inl (cs 0, 3, .inl (d_a1.2 5)))] H := hP
  replace hD : va_D A [oX4 h_t q_t (upd (upd (upd (upd (upd (upd d_t.1 0 (d_a1.1 0)) 3 (d_a1.1 3)) 6 (d_a1.1 6)) 7 (d_a1.1 7)) 8 (d_a1.1 8)) 9 (d_a1.1 9)), ((q_t 1), .inl (cs 0, 6, .inl r1)), ((q_t 2), .inl (cs 0, 6, .inl r3)), ((q_t 4), .inl (cs 0, 3, .inl r5)), ((q_t 5), .inl (cs 0, 3, .inl r7)), oX4 h_a1 q_a1 (d_a1.1), ((q_a1 1), .inl (cs 0, 6, .inl (d_a1.2 1))), ((q_a1 2), .inl (cs 0, 6, .inl (d_a1.2 2))), ((q_a1 4), .inl (cs 0, 3, .inl (d_a1.2 4))), ((q_a1 5), .inl (cs 0, 3, .inl (d_a1.2 5)))] := hD
  refine lv_aload_n hx hb dX4_becomeLike_92 rfl (lv_at hl 0 rfl) ?_
  refine lv_aload_n hx hb dX4_becomeLike_93 rfl (lv_at hl 1 rfl) ?_
  refine va_get (D := D) (ci := 4) (v := .int (d_a1.1 10)) (C := RX4) (T := TX4) (N := 11) hx hb hT iX4 hown hK hP 5 rfl rfl 10 (by decide) (hT _ fw_X4_43) (fun _ h9 => h9) rfl dX4_becomeLike_94 ?_
  refine va_put (D := D) (ci := 4) (v := .int (d_a1.1 10)) (ty := tyX4 10) (C := RX4) (T := TX4) (N := 11) hx hb hT iX4 tyX4 tyX4_ok nmX4 hown hK hP hD hS 0 rfl rfl 10 (by decide) (hT _ fw_X4_43) (fun _ h9 => h9) rfl (tyX4_ok 10 (by decide)) rfl rfl (Nat.le_of_ble_eq_true rfl) dX4_becomeLike_97 (fun H locs hP hD hS => ?_)
  replace hP : va_P D vwCl [oX4 h_t q_t (upd (upd (upd (upd (upd (upd (upd d_t.1 0 (d_a1.1 0)) 3 (d_a1.1 3)) 6 (d_a1.1 6)) 7 (d_a1.1 7)) 8 (d_a1.1 8)) 9 (d_a1.1 9)) 10 (d_a1.1 10)), ((q_t 1), .inl (cs 0, 6, .inl r1)), ((q_t 2), .inl (cs 0, 6, .inl r3)), ((q_t 4), .inl (cs 0, 3, .inl r5)), ((q_t 5), .inl (cs 0, 3, .inl r7)), oX4 h_a1 q_a1 (d_a1.1), ((q_a1 1), .inl (cs 0, 6, .inl (d_a1.2 1))), ((q_a1 2), .inl (cs 0, 6, .inl (d_a1.2 2))), ((q_a1 4), .inl (cs 0, 3, .inl (d_a1.2 4))), ((q_a1 5), .inl (cs 0, 3, .inl (d_a1.2 5)))] H := hP
  replace hD : va_D A [oX4 h_t q_t (upd (upd (upd (upd (upd (upd (upd d_t.1 0 (d_a1.1 0)) 3 (d_a1.1 3)) 6 (d_a1.1 6)) 7 (d_a1.1 7)) 8 (d_a1.1 8)) 9 (d_a1.1 9)) 10 (d_a1.1 10)), ((q_t 1), .inl (cs 0, 6, .inl r1)), ((q_t 2), .inl (cs 0, 6, .inl r3)), ((q_t 4), .inl (cs 0, 3, .inl r5)), ((q_t 5), .inl (cs 0, 3, .inl r7)), oX4 h_a1 q_a1 (d_a1.1), ((q_a1 1), .inl (cs 0, 6, .inl (d_a1.2 1))), ((q_a1 2), .inl (cs 0, 6, .inl (d_a1.2 2))), ((q_a1 4), .inl (cs 0, 3, .inl (d_a1.2 4))), ((q_a1 5), .inl (cs 0, 3, .inl (d_a1.2 5)))] := hD
  have e9 := Option.some.inj hf
  subst e9
  exact hR _ _ _ _ dX4_becomeLike_100 hP hS
abbrev rm_X4_mayComeFrom : Room := { frames := 3, cells := 0, slots := 0, locals := 70 }
def fX4_mayComeFrom_B6 (k : Nat) (n_a3 : Nat) (x1 : Int32) (x2 : Int32) (d_t : Dat) (f_a3 : Nat → Int32) (K68 : Unit → Option (Int32)) (K76 : Unit → Option (Int32)) (rec : Int32 × Int32 → Option (Int32)) (v : Int32 × Int32) : Option (Int32) :=
  (if (d_t.1 3) ≤ (v.2) then K76 () else (fX6_holds k x2 (v.2)).bind (fun (r3 : Int32) => (if r3 = 0 then rec ((v.1), ((v.2) + 1)) else (if (v.1) = (-1) then chk n_a3 (v.2) ((fX4_soundTime k d_t x1 (v.2)).bind (fun (r15 : Int32) => chk n_a3 (v.2) ((fX4_soundTime k d_t x1 (v.2)).bind (fun (r17 : Int32) => (if ((f_a3 (v.2).toNatClampNeg) - r15) = ((f_a3 (v.2).toNatClampNeg) - r17) then rec ((v.2), ((v.2) + 1)) else K68 ()))))) else chk n_a3 (v.2) ((fX4_soundTime k d_t x1 (v.2)).bind (fun (r9 : Int32) => chk n_a3 (v.1) ((fX4_soundTime k d_t x1 (v.1)).bind (fun (r11 : Int32) => (if ((f_a3 (v.2).toNatClampNeg) - r9) = ((f_a3 (v.1).toNatClampNeg) - r11) then rec ((v.1), ((v.2) + 1)) else K68 ())))))))))
def fX4_mayComeFrom (k : Nat) (d_t : Dat) (n_a3 : Nat) (f_a3 : Nat → Int32) (x1 : Int32) (x2 : Int32) : Option (Int32) :=
  lp (fX4_mayComeFrom_B6 k n_a3 x1 x2 d_t f_a3 (fun (w1 : Unit) => some 0) (fun (w2 : Unit) => some 1)) k ((-1), 0)
set_option maxHeartbeats 4000000 in
set_option maxRecDepth 100000 in
theorem mX4_mayComeFrom_B6 {l : Launch} {p : Program} {e : Env} {s : State} {m : MethodId} {args : Array Value} {below : List Frame} {meth : Method} {c : Code} {D : va_G} {cs : Nat → ClassId} {sk : Nat → Nat} {A : Nat → Prop} {Q : State → Prop} (h_t : Nat) (h_a3 : Nat) (q_t : Nat → Nat) (k : Nat) (n_a3 : Nat) (x1 : Int32) (x2 : Int32) (d_t : Dat) (f_a3 : Nat → Int32) {rv : Int32}  (K68 : Unit → Option (Int32)) (K76 : Unit → Option (Int32))
    (M : MC p s m args meth c D cs sk A RX4 cX4_mayComeFrom 7 (some .boolean)) (hA : ∀ q, s.heap.size ≤ q → A q) (hR : RetZ p l e rm_X4_mayComeFrom s m args below meth c D cX4_mayComeFrom A Q (rv) [oX4 h_t q_t (d_t.1), ((q_t 1), .inl (cs 0, 6, .inl (d_t.2 1))), ((q_t 2), .inl (cs 0, 6, .inl (d_t.2 2))), ((q_t 4), .inl (cs 0, 3, .inl (d_t.2 4))), ((q_t 5), .inl (cs 0, 3, .inl (d_t.2 5))), (h_a3, .inl (cs 0, n_a3, .inl f_a3))])
    (hK68 : ∀ (w : Unit), K68 w = some rv → ∀ (H : Heap) (locs : List Loc) (ls : Array Slot), va_P D vwCl [oX4 h_t q_t (d_t.1), ((q_t 1), .inl (cs 0, 6, .inl (d_t.2 1))), ((q_t 2), .inl (cs 0, 6, .inl (d_t.2 2))), ((q_t 4), .inl (cs 0, 3, .inl (d_t.2 4))), ((q_t 5), .inl (cs 0, 3, .inl (d_t.2 5))), (h_a3, .inl (cs 0, n_a3, .inl f_a3))] H → va_D A [oX4 h_t q_t (d_t.1), ((q_t 1), .inl (cs 0, 6, .inl (d_t.2 1))), ((q_t 2), .inl (cs 0, 6, .inl (d_t.2 2))), ((q_t 4), .inl (cs 0, 3, .inl (d_t.2 4))), ((q_t 5), .inl (cs 0, 3, .inl (d_t.2 5))), (h_a3, .inl (cs 0, n_a3, .inl f_a3))] → va_S A s.heap H locs → lv_has ls 7 [] → W p l e rm_X4_mayComeFrom s m args below meth c H locs 0 0 Q (F0 m 68 ls []))
    (hK76 : ∀ (w : Unit), K76 w = some rv → ∀ (H : Heap) (locs : List Loc) (ls : Array Slot), va_P D vwCl [oX4 h_t q_t (d_t.1), ((q_t 1), .inl (cs 0, 6, .inl (d_t.2 1))), ((q_t 2), .inl (cs 0, 6, .inl (d_t.2 2))), ((q_t 4), .inl (cs 0, 3, .inl (d_t.2 4))), ((q_t 5), .inl (cs 0, 3, .inl (d_t.2 5))), (h_a3, .inl (cs 0, n_a3, .inl f_a3))] H → va_D A [oX4 h_t q_t (d_t.1), ((q_t 1), .inl (cs 0, 6, .inl (d_t.2 1))), ((q_t 2), .inl (cs 0, 6, .inl (d_t.2 2))), ((q_t 4), .inl (cs 0, 3, .inl (d_t.2 4))), ((q_t 5), .inl (cs 0, 3, .inl (d_t.2 5))), (h_a3, .inl (cs 0, n_a3, .inl f_a3))] → va_S A s.heap H locs → lv_has ls 7 [] → W p l e rm_X4_mayComeFrom s m args below meth c H locs 0 0 Q (F0 m 76 ls []))
    : ∀ (n : Nat) (v : Int32 × Int32), lp (fX4_mayComeFrom_B6 k n_a3 x1 x2 d_t f_a3 K68 K76) n v = some rv → ∀ (H : Heap) (locs : List Loc) (ls : Array Slot), va_P D vwCl [oX4 h_t q_t (d_t.1), ((q_t 1), .inl (cs 0, 6, .inl (d_t.2 1))), ((q_t 2), .inl (cs 0, 6, .inl (d_t.2 2))), ((q_t 4), .inl (cs 0, 3, .inl (d_t.2 4))), ((q_t 5), .inl (cs 0, 3, .inl (d_t.2 5))), (h_a3, .inl (cs 0, n_a3, .inl f_a3))] H → va_D A [oX4 h_t q_t (d_t.1), ((q_t 1), .inl (cs 0, 6, .inl (d_t.2 1))), ((q_t 2), .inl (cs 0, 6, .inl (d_t.2 2))), ((q_t 4), .inl (cs 0, 3, .inl (d_t.2 4))), ((q_t 5), .inl (cs 0, 3, .inl (d_t.2 5))), (h_a3, .inl (cs 0, n_a3, .inl f_a3))] → va_S A s.heap H locs → lv_has ls 7 [(0, .ref h_t), (1, .int x1), (2, .int x2), (3, .ref h_a3), (4, .int (v.1)), (5, .int (v.2))] → W p l e rm_X4_mayComeFrom s m args below meth c H locs 0 0 Q (F0 m 6 ls []) := by
  obtain ⟨hx, hb, hml, hT, hown, hlk, hrt, hK, hN, hSE⟩ := id M
  refine lp_ind (fun rec ih v hf H locs ls hP hD hS hl => ?_)
  unfold fX4_mayComeFrom_B6 at hf
  refine lv_iload hx hb dX4_mayComeFrom_6 (lv_at hl 5 rfl) ?_
  refine lv_aload_n hx hb dX4_mayComeFrom_8 rfl (lv_at hl 0 rfl) ?_
  refine va_get (D := D) (ci := 4) (v := .int (d_t.1 3)) (C := RX4) (T := TX4) (N := 11) hx hb hT iX4 hown hK hP 0 rfl rfl 3 (by decide) (hT _ fw_X4_22) (fun _ h9 => h9) rfl dX4_mayComeFrom_9 ?_
  have g2 := ite_some hf
  refine lv_icmp_ge (tgt := 76) hx hb dX4_mayComeFrom_12 (by decide) (fun c1 => ?_) (fun c1 => ?_)
  · replace hf := g2.1 c1
    exact hK76 _ hf _ _ _ hP hD hS (lv_sub hl [] rfl)
  · replace hf := g2.2 c1
    refine lv_iload_n hx hb dX4_mayComeFrom_15 rfl (lv_at hl 2 rfl) ?_
    refine lv_iload hx hb dX4_mayComeFrom_16 (lv_at hl 5 rfl) ?_
    obtain ⟨r3, e4, hf⟩ := bind_some hf
    refine callSNi (As := [.int x2, .int (v.2)]) (rest := []) M (mX6_holds l D cs sk  k x2 (v.2) e4) mw_X4_60 ln_X6_holds ⟨rfl, rfl, Nat.le_of_ble_eq_true rfl, Nat.le_of_ble_eq_true rfl⟩ hP hD hS hA [] (by decide) rfl rfl ⟨Nat.zero_le _, Nat.zero_le _⟩ hl.1 rfl (Nat.le_of_ble_eq_true rfl) dX4_mayComeFrom_18 (fun H locs hP hD hS => ?_)
    replace hP : va_P D vwCl [oX4 h_t q_t (d_t.1), ((q_t 1), .inl (cs 0, 6, .inl (d_t.2 1))), ((q_t 2), .inl (cs 0, 6, .inl (d_t.2 2))), ((q_t 4), .inl (cs 0, 3, .inl (d_t.2 4))), ((q_t 5), .inl (cs 0, 3, .inl (d_t.2 5))), (h_a3, .inl (cs 0, n_a3, .inl f_a3))] H := hP
    replace hD : va_D A [oX4 h_t q_t (d_t.1), ((q_t 1), .inl (cs 0, 6, .inl (d_t.2 1))), ((q_t 2), .inl (cs 0, 6, .inl (d_t.2 2))), ((q_t 4), .inl (cs 0, 3, .inl (d_t.2 4))), ((q_t 5), .inl (cs 0, 3, .inl (d_t.2 5))), (h_a3, .inl (cs 0, n_a3, .inl f_a3))] := hD
    have g6 := ite_some hf
    refine lv_if_ne (tgt := 27) hx hb dX4_mayComeFrom_21 (by decide) (fun c5 => ?_) (fun c5 => ?_)
    · replace hf := g6.2 c5
      refine lv_iload hx hb dX4_mayComeFrom_27 (lv_at hl 4 rfl) ?_
      refine lv_iconst (v := (-1)) hx hb dX4_mayComeFrom_29 rfl ?_
      have g8 := ite_some hf
      refine lv_icmp_ne (tgt := 37) hx hb dX4_mayComeFrom_30 (by decide) (fun c7 => ?_) (fun c7 => ?_)
      · replace hf := g8.2 c7
        refine lv_aload_n hx hb dX4_mayComeFrom_37 rfl (lv_at hl 3 rfl) ?_
        refine lv_iload hx hb dX4_mayComeFrom_38 (lv_at hl 5 rfl) ?_
        obtain ⟨hi, hf⟩ := chk_some hf
        refine va_iald (D := D) hx hb hK hP 5 0 rfl rfl hi dX4_mayComeFrom_40 ?_
        refine lv_aload_n hx hb dX4_mayComeFrom_41 rfl (lv_at hl 0 rfl) ?_
        refine lv_iload_n hx hb dX4_mayComeFrom_42 rfl (lv_at hl 1 rfl) ?_
        refine lv_iload hx hb dX4_mayComeFrom_43 (lv_at hl 5 rfl) ?_
        obtain ⟨r9, e10, hf⟩ := bind_some hf
        refine callVi (As := [.int x1, .int (v.2)]) (rest := [.int (f_a3 (v.2).toNatClampNeg)]) M (mX4_soundTime l D cs sk h_t q_t k d_t x1 (v.2) e10) mw_X4_64 ln_X4_soundTime ⟨rfl, rfl, Nat.le_of_ble_eq_true rfl, Nat.le_of_ble_eq_true rfl⟩ hP hD hS hA [0, 1, 2, 3, 4] (by decide) rfl rfl (q0 := 0) rfl rfl rfl ⟨Nat.zero_le _, Nat.zero_le _⟩ hl.1 rfl (Nat.le_of_ble_eq_true rfl) dX4_mayComeFrom_45 (fun H locs hP hD hS => ?_)
        replace hP : va_P D vwCl [oX4 h_t q_t (d_t.1), ((q_t 1), .inl (cs 0, 6, .inl (d_t.2 1))), ((q_t 2), .inl (cs 0, 6, .inl (d_t.2 2))), ((q_t 4), .inl (cs 0, 3, .inl (d_t.2 4))), ((q_t 5), .inl (cs 0, 3, .inl (d_t.2 5))), (h_a3, .inl (cs 0, n_a3, .inl f_a3))] H := hP
        replace hD : va_D A [oX4 h_t q_t (d_t.1), ((q_t 1), .inl (cs 0, 6, .inl (d_t.2 1))), ((q_t 2), .inl (cs 0, 6, .inl (d_t.2 2))), ((q_t 4), .inl (cs 0, 3, .inl (d_t.2 4))), ((q_t 5), .inl (cs 0, 3, .inl (d_t.2 5))), (h_a3, .inl (cs 0, n_a3, .inl f_a3))] := hD
        refine lv_isub hx hb dX4_mayComeFrom_48 ?_
        refine lv_istore (lv' := [(6, .int ((f_a3 (v.2).toNatClampNeg) - r9)), (0, .ref h_t), (1, .int x1), (2, .int x2), (3, .ref h_a3), (4, .int (v.1)), (5, .int (v.2))]) hx hb dX4_mayComeFrom_49 hl (by decide) rfl (fun ls hl => ?_)
        refine lv_iload hx hb dX4_mayComeFrom_51 (lv_at hl 0 rfl) ?_
        refine lv_aload_n hx hb dX4_mayComeFrom_53 rfl (lv_at hl 4 rfl) ?_
        refine lv_iload hx hb dX4_mayComeFrom_54 (lv_at hl 5 rfl) ?_
        obtain ⟨hi, hf⟩ := chk_some hf
        refine va_iald (D := D) hx hb hK hP 5 0 rfl rfl hi dX4_mayComeFrom_56 ?_
        refine lv_aload_n hx hb dX4_mayComeFrom_57 rfl (lv_at hl 1 rfl) ?_
        refine lv_iload_n hx hb dX4_mayComeFrom_58 rfl (lv_at hl 2 rfl) ?_
        refine lv_iload hx hb dX4_mayComeFrom_59 (lv_at hl 5 rfl) ?_
        obtain ⟨r11, e12, hf⟩ := bind_some hf
        refine callVi (As := [.int x1, .int (v.1)]) (rest := [.int (f_a3 (v.1).toNatClampNeg), .int ((f_a3 (v.2).toNatClampNeg) - r9)]) M (mX4_soundTime l D cs sk h_t q_t k d_t x1 (v.1) e12) mw_X4_64 ln_X4_soundTime ⟨rfl, rfl, Nat.le_of_ble_eq_true rfl, Nat.le_of_ble_eq_true rfl⟩ hP hD hS hA [0, 1, 2, 3, 4] (by decide) rfl rfl (q0 := 0) rfl rfl rfl ⟨Nat.zero_le _, Nat.zero_le _⟩ hl.1 rfl (Nat.le_of_ble_eq_true rfl) dX4_mayComeFrom_61 (fun H locs hP hD hS => ?_)
        replace hP : va_P D vwCl [oX4 h_t q_t (d_t.1), ((q_t 1), .inl (cs 0, 6, .inl (d_t.2 1))), ((q_t 2), .inl (cs 0, 6, .inl (d_t.2 2))), ((q_t 4), .inl (cs 0, 3, .inl (d_t.2 4))), ((q_t 5), .inl (cs 0, 3, .inl (d_t.2 5))), (h_a3, .inl (cs 0, n_a3, .inl f_a3))] H := hP
        replace hD : va_D A [oX4 h_t q_t (d_t.1), ((q_t 1), .inl (cs 0, 6, .inl (d_t.2 1))), ((q_t 2), .inl (cs 0, 6, .inl (d_t.2 2))), ((q_t 4), .inl (cs 0, 3, .inl (d_t.2 4))), ((q_t 5), .inl (cs 0, 3, .inl (d_t.2 5))), (h_a3, .inl (cs 0, n_a3, .inl f_a3))] := hD
        refine lv_isub hx hb dX4_mayComeFrom_64 ?_
        have g14 := ite_some hf
        refine lv_icmp_eq (tgt := 70) hx hb dX4_mayComeFrom_65 (by decide) (fun c13 => ?_) (fun c13 => ?_)
        · replace hf := g14.1 c13
          refine lv_iinc (v := ((v.2) + 1)) (lv' := [(5, .int ((v.2) + 1)), (6, .int ((f_a3 (v.2).toNatClampNeg) - r9)), (0, .ref h_t), (1, .int x1), (2, .int x2), (3, .ref h_a3), (4, .int (v.1))]) hx hb dX4_mayComeFrom_70 hl (k := 6) rfl rfl (by decide) rfl (fun ls hl => ?_)
          refine lv_goto (tgt := 6) hx hb dX4_mayComeFrom_73 (by decide) ?_
          exact ih _ hf _ _ _ hP hD hS (lv_sub hl [2, 3, 4, 5, 6, 0] rfl)
        · replace hf := g14.2 c13
          exact hK68 _ hf _ _ _ hP hD hS (lv_sub hl [] rfl)
      · replace hf := g8.1 c7
        refine lv_iload hx hb dX4_mayComeFrom_33 (lv_at hl 5 rfl) ?_
        refine lv_istore (lv' := [(4, .int (v.2)), (0, .ref h_t), (1, .int x1), (2, .int x2), (3, .ref h_a3), (5, .int (v.2))]) hx hb dX4_mayComeFrom_35 hl (by decide) rfl (fun ls hl => ?_)
        refine lv_aload_n hx hb dX4_mayComeFrom_37 rfl (lv_at hl 4 rfl) ?_
        refine lv_iload hx hb dX4_mayComeFrom_38 (lv_at hl 5 rfl) ?_
        obtain ⟨hi, hf⟩ := chk_some hf
        refine va_iald (D := D) hx hb hK hP 5 0 rfl rfl hi dX4_mayComeFrom_40 ?_
        refine lv_aload_n hx hb dX4_mayComeFrom_41 rfl (lv_at hl 1 rfl) ?_
        refine lv_iload_n hx hb dX4_mayComeFrom_42 rfl (lv_at hl 2 rfl) ?_
        refine lv_iload hx hb dX4_mayComeFrom_43 (lv_at hl 5 rfl) ?_
        obtain ⟨r15, e16, hf⟩ := bind_some hf
        refine callVi (As := [.int x1, .int (v.2)]) (rest := [.int (f_a3 (v.2).toNatClampNeg)]) M (mX4_soundTime l D cs sk h_t q_t k d_t x1 (v.2) e16) mw_X4_64 ln_X4_soundTime ⟨rfl, rfl, Nat.le_of_ble_eq_true rfl, Nat.le_of_ble_eq_true rfl⟩ hP hD hS hA [0, 1, 2, 3, 4] (by decide) rfl rfl (q0 := 0) rfl rfl rfl ⟨Nat.zero_le _, Nat.zero_le _⟩ hl.1 rfl (Nat.le_of_ble_eq_true rfl) dX4_mayComeFrom_45 (fun H locs hP hD hS => ?_)
        replace hP : va_P D vwCl [oX4 h_t q_t (d_t.1), ((q_t 1), .inl (cs 0, 6, .inl (d_t.2 1))), ((q_t 2), .inl (cs 0, 6, .inl (d_t.2 2))), ((q_t 4), .inl (cs 0, 3, .inl (d_t.2 4))), ((q_t 5), .inl (cs 0, 3, .inl (d_t.2 5))), (h_a3, .inl (cs 0, n_a3, .inl f_a3))] H := hP
        replace hD : va_D A [oX4 h_t q_t (d_t.1), ((q_t 1), .inl (cs 0, 6, .inl (d_t.2 1))), ((q_t 2), .inl (cs 0, 6, .inl (d_t.2 2))), ((q_t 4), .inl (cs 0, 3, .inl (d_t.2 4))), ((q_t 5), .inl (cs 0, 3, .inl (d_t.2 5))), (h_a3, .inl (cs 0, n_a3, .inl f_a3))] := hD
        refine lv_isub hx hb dX4_mayComeFrom_48 ?_
        refine lv_istore (lv' := [(6, .int ((f_a3 (v.2).toNatClampNeg) - r15)), (4, .int (v.2)), (0, .ref h_t), (1, .int x1), (2, .int x2), (3, .ref h_a3), (5, .int (v.2))]) hx hb dX4_mayComeFrom_49 hl (by decide) rfl (fun ls hl => ?_)
        refine lv_iload hx hb dX4_mayComeFrom_51 (lv_at hl 0 rfl) ?_
        refine lv_aload_n hx hb dX4_mayComeFrom_53 rfl (lv_at hl 5 rfl) ?_
        refine lv_iload hx hb dX4_mayComeFrom_54 (lv_at hl 1 rfl) ?_
        obtain ⟨hi, hf⟩ := chk_some hf
        refine va_iald (D := D) hx hb hK hP 5 0 rfl rfl hi dX4_mayComeFrom_56 ?_
        refine lv_aload_n hx hb dX4_mayComeFrom_57 rfl (lv_at hl 2 rfl) ?_
        refine lv_iload_n hx hb dX4_mayComeFrom_58 rfl (lv_at hl 3 rfl) ?_
        refine lv_iload hx hb dX4_mayComeFrom_59 (lv_at hl 1 rfl) ?_
        obtain ⟨r17, e18, hf⟩ := bind_some hf
        refine callVi (As := [.int x1, .int (v.2)]) (rest := [.int (f_a3 (v.2).toNatClampNeg), .int ((f_a3 (v.2).toNatClampNeg) - r15)]) M (mX4_soundTime l D cs sk h_t q_t k d_t x1 (v.2) e18) mw_X4_64 ln_X4_soundTime ⟨rfl, rfl, Nat.le_of_ble_eq_true rfl, Nat.le_of_ble_eq_true rfl⟩ hP hD hS hA [0, 1, 2, 3, 4] (by decide) rfl rfl (q0 := 0) rfl rfl rfl ⟨Nat.zero_le _, Nat.zero_le _⟩ hl.1 rfl (Nat.le_of_ble_eq_true rfl) dX4_mayComeFrom_61 (fun H locs hP hD hS => ?_)
        replace hP : va_P D vwCl [oX4 h_t q_t (d_t.1), ((q_t 1), .inl (cs 0, 6, .inl (d_t.2 1))), ((q_t 2), .inl (cs 0, 6, .inl (d_t.2 2))), ((q_t 4), .inl (cs 0, 3, .inl (d_t.2 4))), ((q_t 5), .inl (cs 0, 3, .inl (d_t.2 5))), (h_a3, .inl (cs 0, n_a3, .inl f_a3))] H := hP
        replace hD : va_D A [oX4 h_t q_t (d_t.1), ((q_t 1), .inl (cs 0, 6, .inl (d_t.2 1))), ((q_t 2), .inl (cs 0, 6, .inl (d_t.2 2))), ((q_t 4), .inl (cs 0, 3, .inl (d_t.2 4))), ((q_t 5), .inl (cs 0, 3, .inl (d_t.2 5))), (h_a3, .inl (cs 0, n_a3, .inl f_a3))] := hD
        refine lv_isub hx hb dX4_mayComeFrom_64 ?_
        have g20 := ite_some hf
        refine lv_icmp_eq (tgt := 70) hx hb dX4_mayComeFrom_65 (by decide) (fun c19 => ?_) (fun c19 => ?_)
        · replace hf := g20.1 c19
          refine lv_iinc (v := ((v.2) + 1)) (lv' := [(5, .int ((v.2) + 1)), (6, .int ((f_a3 (v.2).toNatClampNeg) - r15)), (4, .int (v.2)), (0, .ref h_t), (1, .int x1), (2, .int x2), (3, .ref h_a3)]) hx hb dX4_mayComeFrom_70 hl (k := 6) rfl rfl (by decide) rfl (fun ls hl => ?_)
          refine lv_goto (tgt := 6) hx hb dX4_mayComeFrom_73 (by decide) ?_
          exact ih _ hf _ _ _ hP hD hS (lv_sub hl [3, 4, 5, 6, 2, 0] rfl)
        · replace hf := g20.2 c19
          exact hK68 _ hf _ _ _ hP hD hS (lv_sub hl [] rfl)
    · replace hf := g6.1 c5
      refine lv_goto (tgt := 70) hx hb dX4_mayComeFrom_24 (by decide) ?_
      refine lv_iinc (v := ((v.2) + 1)) (lv' := [(5, .int ((v.2) + 1)), (0, .ref h_t), (1, .int x1), (2, .int x2), (3, .ref h_a3), (4, .int (v.1))]) hx hb dX4_mayComeFrom_70 hl (k := 5) rfl rfl (by decide) rfl (fun ls hl => ?_)
      refine lv_goto (tgt := 6) hx hb dX4_mayComeFrom_73 (by decide) ?_
      exact ih _ hf _ _ _ hP hD hS (lv_sub hl [1, 2, 3, 4, 5, 0] rfl)
set_option maxHeartbeats 4000000 in
set_option maxRecDepth 100000 in
theorem mX4_mayComeFrom (l : Launch) (D : va_G) (cs : Nat → ClassId) (sk : Nat → Nat) (h_t : Nat) (h_a3 : Nat) (q_t : Nat → Nat) (k : Nat) (d_t : Dat) (n_a3 : Nat) (f_a3 : Nat → Int32) (x1 : Int32) (x2 : Int32) {rv : Int32} (hf : fX4_mayComeFrom k d_t n_a3 f_a3 x1 x2 = some rv) : CTi l yX4_mayComeFrom (Cond.code yX4_mayComeFrom cX4_mayComeFrom 7 (some .boolean) :: gtbl) rm_X4_mayComeFrom D cs sk [.ref h_t, .int x1, .int x2, .ref h_a3] [oX4 h_t q_t (d_t.1), ((q_t 1), .inl (cs 0, 6, .inl (d_t.2 1))), ((q_t 2), .inl (cs 0, 6, .inl (d_t.2 2))), ((q_t 4), .inl (cs 0, 3, .inl (d_t.2 4))), ((q_t 5), .inl (cs 0, 3, .inl (d_t.2 5))), (h_a3, .inl (cs 0, n_a3, .inl f_a3))] (rv) [oX4 h_t q_t (d_t.1), ((q_t 1), .inl (cs 0, 6, .inl (d_t.2 1))), ((q_t 2), .inl (cs 0, 6, .inl (d_t.2 2))), ((q_t 4), .inl (cs 0, 3, .inl (d_t.2 4))), ((q_t 5), .inl (cs 0, 3, .inl (d_t.2 5))), (h_a3, .inl (cs 0, n_a3, .inl f_a3))] := by
  refine CTi.ofZ RX4 (by decide +kernel) rfl (Nat.le_of_ble_eq_true rfl) (fun p e s m args below meth c A Q ls M hA hR hl hP hD hS => ?_)
  obtain ⟨hx, hb, hml, hT, hown, hlk, hrt, hK, hN, hSE⟩ := id M
  replace hl : lv_has ls 7 [(0, .ref h_t), (1, .int x1), (2, .int x2), (3, .ref h_a3)] := hl
  unfold fX4_mayComeFrom at hf
  refine lv_iconst (v := (-1)) hx hb dX4_mayComeFrom_0 rfl ?_
  refine lv_istore (lv' := [(4, .int (-1)), (0, .ref h_t), (1, .int x1), (2, .int x2), (3, .ref h_a3)]) hx hb dX4_mayComeFrom_1 hl (by decide) rfl (fun ls hl => ?_)
  refine lv_iconst (v := 0) hx hb dX4_mayComeFrom_3 rfl ?_
  refine lv_istore (lv' := [(5, .int 0), (4, .int (-1)), (0, .ref h_t), (1, .int x1), (2, .int x2), (3, .ref h_a3)]) hx hb dX4_mayComeFrom_4 hl (by decide) rfl (fun ls hl => ?_)
  refine mX4_mayComeFrom_B6 h_t h_a3 q_t k n_a3 x1 x2 d_t f_a3 _ _ M hA hR (fun w1 hf H locs ls hP hD hS hl => ?_) (fun w2 hf H locs ls hP hD hS hl => ?_) _ _ hf _ _ _ hP hD hS (lv_sub hl [2, 3, 4, 5, 1, 0] rfl)
  · refine lv_iconst (v := 0) hx hb dX4_mayComeFrom_68 rfl ?_
    have e9 := Option.some.inj hf
    subst e9
    exact hR _ _ _ _ dX4_mayComeFrom_69 (Or.inl rfl) hP hS
  · refine lv_iconst (v := 1) hx hb dX4_mayComeFrom_76 rfl ?_
    have e9 := Option.some.inj hf
    subst e9
    exact hR _ _ _ _ dX4_mayComeFrom_77 (Or.inr rfl) hP hS
abbrev rm_X4_pairsParted : Room := { frames := 3, cells := 0, slots := 0, locals := 70 }
def fX4_pairsParted_B49 (k : Nat) (x1 : Int32) (x2 : Int32) (x5 : Int32) (d_t : Dat) (K96 : Int32 → Option (Int32)) (rec : Int32 × Int32 → Option (Int32)) (v : Int32 × Int32) : Option (Int32) :=
  (if (d_t.1 0) ≤ (v.2) then K96 (v.1) else (fX6_holds k x1 (v.2)).bind (fun (r3 : Int32) => (if r3 = 0 then rec ((v.1), ((v.2) + 1)) else (fX4_soundTime k d_t (v.2) x2).bind (fun (r7 : Int32) => (fX4_soundTime k d_t (v.2) 0).bind (fun (r9 : Int32) => (if (r7 - r9) = x5 then rec ((v.1), ((v.2) + 1)) else rec (((v.1) + 1), ((v.2) + 1))))))))
def fX4_pairsParted_B5 (k : Nat) (x1 : Int32) (x2 : Int32) (d_t : Dat) (K102 : Int32 → Option (Int32)) (rec : Int32 × Int32 → Option (Int32)) (v : Int32 × Int32) : Option (Int32) :=
  (if (d_t.1 0) ≤ (v.2) then K102 (v.1) else (fX6_holds k x1 (v.2)).bind (fun (r3 : Int32) => (if r3 = 0 then rec ((v.1), ((v.2) + 1)) else (fX4_soundTime k d_t (v.2) x2).bind (fun (r7 : Int32) => (fX4_soundTime k d_t (v.2) 0).bind (fun (r9 : Int32) => lp (fX4_pairsParted_B49 k x1 x2 (r7 - r9) d_t (fun (w11 : Int32) => rec (w11, ((v.2) + 1)))) k ((v.1), ((v.2) + 1)))))))
def fX4_pairsParted (k : Nat) (d_t : Dat) (x1 : Int32) (x2 : Int32) : Option (Int32) :=
  lp (fX4_pairsParted_B5 k x1 x2 d_t (fun (w1 : Int32) => some w1)) k (0, 0)
set_option maxHeartbeats 4000000 in
set_option maxRecDepth 100000 in
theorem mX4_pairsParted_B49 {l : Launch} {p : Program} {e : Env} {s : State} {m : MethodId} {args : Array Value} {below : List Frame} {meth : Method} {c : Code} {D : va_G} {cs : Nat → ClassId} {sk : Nat → Nat} {A : Nat → Prop} {Q : State → Prop} (h_t : Nat) (q_t : Nat → Nat) (k : Nat) (x1 : Int32) (x2 : Int32) (x4 : Int32) (x5 : Int32) (d_t : Dat) {rv : Int32}  (K96 : Int32 → Option (Int32))
    (M : MC p s m args meth c D cs sk A RX4 cX4_pairsParted 7 (some .int)) (hA : ∀ q, s.heap.size ≤ q → A q) (hR : RetI p l e rm_X4_pairsParted s m args below meth c D cX4_pairsParted A Q (rv) [oX4 h_t q_t (d_t.1), ((q_t 1), .inl (cs 0, 6, .inl (d_t.2 1))), ((q_t 2), .inl (cs 0, 6, .inl (d_t.2 2))), ((q_t 4), .inl (cs 0, 3, .inl (d_t.2 4))), ((q_t 5), .inl (cs 0, 3, .inl (d_t.2 5)))])
    (hK96 : ∀ (w : Int32), K96 w = some rv → ∀ (H : Heap) (locs : List Loc) (ls : Array Slot), va_P D vwCl [oX4 h_t q_t (d_t.1), ((q_t 1), .inl (cs 0, 6, .inl (d_t.2 1))), ((q_t 2), .inl (cs 0, 6, .inl (d_t.2 2))), ((q_t 4), .inl (cs 0, 3, .inl (d_t.2 4))), ((q_t 5), .inl (cs 0, 3, .inl (d_t.2 5)))] H → va_D A [oX4 h_t q_t (d_t.1), ((q_t 1), .inl (cs 0, 6, .inl (d_t.2 1))), ((q_t 2), .inl (cs 0, 6, .inl (d_t.2 2))), ((q_t 4), .inl (cs 0, 3, .inl (d_t.2 4))), ((q_t 5), .inl (cs 0, 3, .inl (d_t.2 5)))] → va_S A s.heap H locs → lv_has ls 7 [(0, .ref h_t), (1, .int x1), (2, .int x2), (3, .int w), (4, .int x4)] → W p l e rm_X4_pairsParted s m args below meth c H locs 0 0 Q (F0 m 96 ls []))
    : ∀ (n : Nat) (v : Int32 × Int32), lp (fX4_pairsParted_B49 k x1 x2 x5 d_t K96) n v = some rv → ∀ (H : Heap) (locs : List Loc) (ls : Array Slot), va_P D vwCl [oX4 h_t q_t (d_t.1), ((q_t 1), .inl (cs 0, 6, .inl (d_t.2 1))), ((q_t 2), .inl (cs 0, 6, .inl (d_t.2 2))), ((q_t 4), .inl (cs 0, 3, .inl (d_t.2 4))), ((q_t 5), .inl (cs 0, 3, .inl (d_t.2 5)))] H → va_D A [oX4 h_t q_t (d_t.1), ((q_t 1), .inl (cs 0, 6, .inl (d_t.2 1))), ((q_t 2), .inl (cs 0, 6, .inl (d_t.2 2))), ((q_t 4), .inl (cs 0, 3, .inl (d_t.2 4))), ((q_t 5), .inl (cs 0, 3, .inl (d_t.2 5)))] → va_S A s.heap H locs → lv_has ls 7 [(0, .ref h_t), (1, .int x1), (2, .int x2), (3, .int (v.1)), (4, .int x4), (5, .int x5), (6, .int (v.2))] → W p l e rm_X4_pairsParted s m args below meth c H locs 0 0 Q (F0 m 49 ls []) := by
  obtain ⟨hx, hb, hml, hT, hown, hlk, hrt, hK, hN, hSE⟩ := id M
  refine lp_ind (fun rec ih v hf H locs ls hP hD hS hl => ?_)
  unfold fX4_pairsParted_B49 at hf
  refine lv_iload hx hb dX4_pairsParted_49 (lv_at hl 6 rfl) ?_
  refine lv_aload_n hx hb dX4_pairsParted_51 rfl (lv_at hl 0 rfl) ?_
  refine va_get (D := D) (ci := 4) (v := .int (d_t.1 0)) (C := RX4) (T := TX4) (N := 11) hx hb hT iX4 hown hK hP 0 rfl rfl 0 (by decide) (hT _ fw_X4_9) (fun _ h9 => h9) rfl dX4_pairsParted_52 ?_
  have g2 := ite_some hf
  refine lv_icmp_ge (tgt := 96) hx hb dX4_pairsParted_55 (by decide) (fun c1 => ?_) (fun c1 => ?_)
  · replace hf := g2.1 c1
    exact hK96 _ hf _ _ _ hP hD hS (lv_sub hl [0, 1, 2, 3, 4] rfl)
  · replace hf := g2.2 c1
    refine lv_iload_n hx hb dX4_pairsParted_58 rfl (lv_at hl 1 rfl) ?_
    refine lv_iload hx hb dX4_pairsParted_59 (lv_at hl 6 rfl) ?_
    obtain ⟨r3, e4, hf⟩ := bind_some hf
    refine callSNi (As := [.int x1, .int (v.2)]) (rest := []) M (mX6_holds l D cs sk  k x1 (v.2) e4) mw_X4_60 ln_X6_holds ⟨rfl, rfl, Nat.le_of_ble_eq_true rfl, Nat.le_of_ble_eq_true rfl⟩ hP hD hS hA [] (by decide) rfl rfl ⟨Nat.zero_le _, Nat.zero_le _⟩ hl.1 rfl (Nat.le_of_ble_eq_true rfl) dX4_pairsParted_61 (fun H locs hP hD hS => ?_)
    replace hP : va_P D vwCl [oX4 h_t q_t (d_t.1), ((q_t 1), .inl (cs 0, 6, .inl (d_t.2 1))), ((q_t 2), .inl (cs 0, 6, .inl (d_t.2 2))), ((q_t 4), .inl (cs 0, 3, .inl (d_t.2 4))), ((q_t 5), .inl (cs 0, 3, .inl (d_t.2 5)))] H := hP
    replace hD : va_D A [oX4 h_t q_t (d_t.1), ((q_t 1), .inl (cs 0, 6, .inl (d_t.2 1))), ((q_t 2), .inl (cs 0, 6, .inl (d_t.2 2))), ((q_t 4), .inl (cs 0, 3, .inl (d_t.2 4))), ((q_t 5), .inl (cs 0, 3, .inl (d_t.2 5)))] := hD
    have g6 := ite_some hf
    refine lv_if_eq (tgt := 90) hx hb dX4_pairsParted_64 (by decide) (fun c5 => ?_) (fun c5 => ?_)
    · replace hf := g6.1 c5
      refine lv_iinc (v := ((v.2) + 1)) (lv' := [(6, .int ((v.2) + 1)), (0, .ref h_t), (1, .int x1), (2, .int x2), (3, .int (v.1)), (4, .int x4), (5, .int x5)]) hx hb dX4_pairsParted_90 hl (k := 6) rfl rfl (by decide) rfl (fun ls hl => ?_)
      refine lv_goto (tgt := 49) hx hb dX4_pairsParted_93 (by decide) ?_
      exact ih _ hf _ _ _ hP hD hS (lv_sub hl [1, 2, 3, 4, 5, 6, 0] rfl)
    · replace hf := g6.2 c5
      refine lv_aload_n hx hb dX4_pairsParted_67 rfl (lv_at hl 0 rfl) ?_
      refine lv_iload hx hb dX4_pairsParted_68 (lv_at hl 6 rfl) ?_
      refine lv_iload_n hx hb dX4_pairsParted_70 rfl (lv_at hl 2 rfl) ?_
      obtain ⟨r7, e8, hf⟩ := bind_some hf
      refine callVi (As := [.int (v.2), .int x2]) (rest := []) M (mX4_soundTime l D cs sk h_t q_t k d_t (v.2) x2 e8) mw_X4_64 ln_X4_soundTime ⟨rfl, rfl, Nat.le_of_ble_eq_true rfl, Nat.le_of_ble_eq_true rfl⟩ hP hD hS hA [0, 1, 2, 3, 4] (by decide) rfl rfl (q0 := 0) rfl rfl rfl ⟨Nat.zero_le _, Nat.zero_le _⟩ hl.1 rfl (Nat.le_of_ble_eq_true rfl) dX4_pairsParted_71 (fun H locs hP hD hS => ?_)
      replace hP : va_P D vwCl [oX4 h_t q_t (d_t.1), ((q_t 1), .inl (cs 0, 6, .inl (d_t.2 1))), ((q_t 2), .inl (cs 0, 6, .inl (d_t.2 2))), ((q_t 4), .inl (cs 0, 3, .inl (d_t.2 4))), ((q_t 5), .inl (cs 0, 3, .inl (d_t.2 5)))] H := hP
      replace hD : va_D A [oX4 h_t q_t (d_t.1), ((q_t 1), .inl (cs 0, 6, .inl (d_t.2 1))), ((q_t 2), .inl (cs 0, 6, .inl (d_t.2 2))), ((q_t 4), .inl (cs 0, 3, .inl (d_t.2 4))), ((q_t 5), .inl (cs 0, 3, .inl (d_t.2 5)))] := hD
      refine lv_aload_n hx hb dX4_pairsParted_74 rfl (lv_at hl 0 rfl) ?_
      refine lv_iload hx hb dX4_pairsParted_75 (lv_at hl 6 rfl) ?_
      refine lv_iconst (v := 0) hx hb dX4_pairsParted_77 rfl ?_
      obtain ⟨r9, e10, hf⟩ := bind_some hf
      refine callVi (As := [.int (v.2), .int 0]) (rest := [.int r7]) M (mX4_soundTime l D cs sk h_t q_t k d_t (v.2) 0 e10) mw_X4_64 ln_X4_soundTime ⟨rfl, rfl, Nat.le_of_ble_eq_true rfl, Nat.le_of_ble_eq_true rfl⟩ hP hD hS hA [0, 1, 2, 3, 4] (by decide) rfl rfl (q0 := 0) rfl rfl rfl ⟨Nat.zero_le _, Nat.zero_le _⟩ hl.1 rfl (Nat.le_of_ble_eq_true rfl) dX4_pairsParted_78 (fun H locs hP hD hS => ?_)
      replace hP : va_P D vwCl [oX4 h_t q_t (d_t.1), ((q_t 1), .inl (cs 0, 6, .inl (d_t.2 1))), ((q_t 2), .inl (cs 0, 6, .inl (d_t.2 2))), ((q_t 4), .inl (cs 0, 3, .inl (d_t.2 4))), ((q_t 5), .inl (cs 0, 3, .inl (d_t.2 5)))] H := hP
      replace hD : va_D A [oX4 h_t q_t (d_t.1), ((q_t 1), .inl (cs 0, 6, .inl (d_t.2 1))), ((q_t 2), .inl (cs 0, 6, .inl (d_t.2 2))), ((q_t 4), .inl (cs 0, 3, .inl (d_t.2 4))), ((q_t 5), .inl (cs 0, 3, .inl (d_t.2 5)))] := hD
      refine lv_isub hx hb dX4_pairsParted_81 ?_
      refine lv_iload hx hb dX4_pairsParted_82 (lv_at hl 5 rfl) ?_
      have g12 := ite_some hf
      refine lv_icmp_eq (tgt := 90) hx hb dX4_pairsParted_84 (by decide) (fun c11 => ?_) (fun c11 => ?_)
      · replace hf := g12.1 c11
        refine lv_iinc (v := ((v.2) + 1)) (lv' := [(6, .int ((v.2) + 1)), (0, .ref h_t), (1, .int x1), (2, .int x2), (3, .int (v.1)), (4, .int x4), (5, .int x5)]) hx hb dX4_pairsParted_90 hl (k := 6) rfl rfl (by decide) rfl (fun ls hl => ?_)
        refine lv_goto (tgt := 49) hx hb dX4_pairsParted_93 (by decide) ?_
        exact ih _ hf _ _ _ hP hD hS (lv_sub hl [1, 2, 3, 4, 5, 6, 0] rfl)
      · replace hf := g12.2 c11
        refine lv_iinc (v := ((v.1) + 1)) (lv' := [(3, .int ((v.1) + 1)), (0, .ref h_t), (1, .int x1), (2, .int x2), (4, .int x4), (5, .int x5), (6, .int (v.2))]) hx hb dX4_pairsParted_87 hl (k := 3) rfl rfl (by decide) rfl (fun ls hl => ?_)
        refine lv_iinc (v := ((v.2) + 1)) (lv' := [(6, .int ((v.2) + 1)), (3, .int ((v.1) + 1)), (0, .ref h_t), (1, .int x1), (2, .int x2), (4, .int x4), (5, .int x5)]) hx hb dX4_pairsParted_90 hl (k := 6) rfl rfl (by decide) rfl (fun ls hl => ?_)
        refine lv_goto (tgt := 49) hx hb dX4_pairsParted_93 (by decide) ?_
        exact ih _ hf _ _ _ hP hD hS (lv_sub hl [2, 3, 4, 1, 5, 6, 0] rfl)
set_option maxHeartbeats 4000000 in
set_option maxRecDepth 100000 in
theorem mX4_pairsParted_B5 {l : Launch} {p : Program} {e : Env} {s : State} {m : MethodId} {args : Array Value} {below : List Frame} {meth : Method} {c : Code} {D : va_G} {cs : Nat → ClassId} {sk : Nat → Nat} {A : Nat → Prop} {Q : State → Prop} (h_t : Nat) (q_t : Nat → Nat) (k : Nat) (x1 : Int32) (x2 : Int32) (d_t : Dat) {rv : Int32}  (K102 : Int32 → Option (Int32))
    (M : MC p s m args meth c D cs sk A RX4 cX4_pairsParted 7 (some .int)) (hA : ∀ q, s.heap.size ≤ q → A q) (hR : RetI p l e rm_X4_pairsParted s m args below meth c D cX4_pairsParted A Q (rv) [oX4 h_t q_t (d_t.1), ((q_t 1), .inl (cs 0, 6, .inl (d_t.2 1))), ((q_t 2), .inl (cs 0, 6, .inl (d_t.2 2))), ((q_t 4), .inl (cs 0, 3, .inl (d_t.2 4))), ((q_t 5), .inl (cs 0, 3, .inl (d_t.2 5)))])
    (hK102 : ∀ (w : Int32), K102 w = some rv → ∀ (H : Heap) (locs : List Loc) (ls : Array Slot), va_P D vwCl [oX4 h_t q_t (d_t.1), ((q_t 1), .inl (cs 0, 6, .inl (d_t.2 1))), ((q_t 2), .inl (cs 0, 6, .inl (d_t.2 2))), ((q_t 4), .inl (cs 0, 3, .inl (d_t.2 4))), ((q_t 5), .inl (cs 0, 3, .inl (d_t.2 5)))] H → va_D A [oX4 h_t q_t (d_t.1), ((q_t 1), .inl (cs 0, 6, .inl (d_t.2 1))), ((q_t 2), .inl (cs 0, 6, .inl (d_t.2 2))), ((q_t 4), .inl (cs 0, 3, .inl (d_t.2 4))), ((q_t 5), .inl (cs 0, 3, .inl (d_t.2 5)))] → va_S A s.heap H locs → lv_has ls 7 [(3, .int w)] → W p l e rm_X4_pairsParted s m args below meth c H locs 0 0 Q (F0 m 102 ls []))
    : ∀ (n : Nat) (v : Int32 × Int32), lp (fX4_pairsParted_B5 k x1 x2 d_t K102) n v = some rv → ∀ (H : Heap) (locs : List Loc) (ls : Array Slot), va_P D vwCl [oX4 h_t q_t (d_t.1), ((q_t 1), .inl (cs 0, 6, .inl (d_t.2 1))), ((q_t 2), .inl (cs 0, 6, .inl (d_t.2 2))), ((q_t 4), .inl (cs 0, 3, .inl (d_t.2 4))), ((q_t 5), .inl (cs 0, 3, .inl (d_t.2 5)))] H → va_D A [oX4 h_t q_t (d_t.1), ((q_t 1), .inl (cs 0, 6, .inl (d_t.2 1))), ((q_t 2), .inl (cs 0, 6, .inl (d_t.2 2))), ((q_t 4), .inl (cs 0, 3, .inl (d_t.2 4))), ((q_t 5), .inl (cs 0, 3, .inl (d_t.2 5)))] → va_S A s.heap H locs → lv_has ls 7 [(0, .ref h_t), (1, .int x1), (2, .int x2), (3, .int (v.1)), (4, .int (v.2))] → W p l e rm_X4_pairsParted s m args below meth c H locs 0 0 Q (F0 m 5 ls []) := by
  obtain ⟨hx, hb, hml, hT, hown, hlk, hrt, hK, hN, hSE⟩ := id M
  refine lp_ind (fun rec ih v hf H locs ls hP hD hS hl => ?_)
  unfold fX4_pairsParted_B5 at hf
  refine lv_iload hx hb dX4_pairsParted_5 (lv_at hl 4 rfl) ?_
  refine lv_aload_n hx hb dX4_pairsParted_7 rfl (lv_at hl 0 rfl) ?_
  refine va_get (D := D) (ci := 4) (v := .int (d_t.1 0)) (C := RX4) (T := TX4) (N := 11) hx hb hT iX4 hown hK hP 0 rfl rfl 0 (by decide) (hT _ fw_X4_9) (fun _ h9 => h9) rfl dX4_pairsParted_8 ?_
  have g2 := ite_some hf
  refine lv_icmp_ge (tgt := 102) hx hb dX4_pairsParted_11 (by decide) (fun c1 => ?_) (fun c1 => ?_)
  · replace hf := g2.1 c1
    exact hK102 _ hf _ _ _ hP hD hS (lv_sub hl [3] rfl)
  · replace hf := g2.2 c1
    refine lv_iload_n hx hb dX4_pairsParted_14 rfl (lv_at hl 1 rfl) ?_
    refine lv_iload hx hb dX4_pairsParted_15 (lv_at hl 4 rfl) ?_
    obtain ⟨r3, e4, hf⟩ := bind_some hf
    refine callSNi (As := [.int x1, .int (v.2)]) (rest := []) M (mX6_holds l D cs sk  k x1 (v.2) e4) mw_X4_60 ln_X6_holds ⟨rfl, rfl, Nat.le_of_ble_eq_true rfl, Nat.le_of_ble_eq_true rfl⟩ hP hD hS hA [] (by decide) rfl rfl ⟨Nat.zero_le _, Nat.zero_le _⟩ hl.1 rfl (Nat.le_of_ble_eq_true rfl) dX4_pairsParted_17 (fun H locs hP hD hS => ?_)
    replace hP : va_P D vwCl [oX4 h_t q_t (d_t.1), ((q_t 1), .inl (cs 0, 6, .inl (d_t.2 1))), ((q_t 2), .inl (cs 0, 6, .inl (d_t.2 2))), ((q_t 4), .inl (cs 0, 3, .inl (d_t.2 4))), ((q_t 5), .inl (cs 0, 3, .inl (d_t.2 5)))] H := hP
    replace hD : va_D A [oX4 h_t q_t (d_t.1), ((q_t 1), .inl (cs 0, 6, .inl (d_t.2 1))), ((q_t 2), .inl (cs 0, 6, .inl (d_t.2 2))), ((q_t 4), .inl (cs 0, 3, .inl (d_t.2 4))), ((q_t 5), .inl (cs 0, 3, .inl (d_t.2 5)))] := hD
    have g6 := ite_some hf
    refine lv_if_ne (tgt := 26) hx hb dX4_pairsParted_20 (by decide) (fun c5 => ?_) (fun c5 => ?_)
    · replace hf := g6.2 c5
      refine lv_aload_n hx hb dX4_pairsParted_26 rfl (lv_at hl 0 rfl) ?_
      refine lv_iload hx hb dX4_pairsParted_27 (lv_at hl 4 rfl) ?_
      refine lv_iload_n hx hb dX4_pairsParted_29 rfl (lv_at hl 2 rfl) ?_
      obtain ⟨r7, e8, hf⟩ := bind_some hf
      refine callVi (As := [.int (v.2), .int x2]) (rest := []) M (mX4_soundTime l D cs sk h_t q_t k d_t (v.2) x2 e8) mw_X4_64 ln_X4_soundTime ⟨rfl, rfl, Nat.le_of_ble_eq_true rfl, Nat.le_of_ble_eq_true rfl⟩ hP hD hS hA [0, 1, 2, 3, 4] (by decide) rfl rfl (q0 := 0) rfl rfl rfl ⟨Nat.zero_le _, Nat.zero_le _⟩ hl.1 rfl (Nat.le_of_ble_eq_true rfl) dX4_pairsParted_30 (fun H locs hP hD hS => ?_)
      replace hP : va_P D vwCl [oX4 h_t q_t (d_t.1), ((q_t 1), .inl (cs 0, 6, .inl (d_t.2 1))), ((q_t 2), .inl (cs 0, 6, .inl (d_t.2 2))), ((q_t 4), .inl (cs 0, 3, .inl (d_t.2 4))), ((q_t 5), .inl (cs 0, 3, .inl (d_t.2 5)))] H := hP
      replace hD : va_D A [oX4 h_t q_t (d_t.1), ((q_t 1), .inl (cs 0, 6, .inl (d_t.2 1))), ((q_t 2), .inl (cs 0, 6, .inl (d_t.2 2))), ((q_t 4), .inl (cs 0, 3, .inl (d_t.2 4))), ((q_t 5), .inl (cs 0, 3, .inl (d_t.2 5)))] := hD
      refine lv_aload_n hx hb dX4_pairsParted_33 rfl (lv_at hl 0 rfl) ?_
      refine lv_iload hx hb dX4_pairsParted_34 (lv_at hl 4 rfl) ?_
      refine lv_iconst (v := 0) hx hb dX4_pairsParted_36 rfl ?_
      obtain ⟨r9, e10, hf⟩ := bind_some hf
      refine callVi (As := [.int (v.2), .int 0]) (rest := [.int r7]) M (mX4_soundTime l D cs sk h_t q_t k d_t (v.2) 0 e10) mw_X4_64 ln_X4_soundTime ⟨rfl, rfl, Nat.le_of_ble_eq_true rfl, Nat.le_of_ble_eq_true rfl⟩ hP hD hS hA [0, 1, 2, 3, 4] (by decide) rfl rfl (q0 := 0) rfl rfl rfl ⟨Nat.zero_le _, Nat.zero_le _⟩ hl.1 rfl (Nat.le_of_ble_eq_true rfl) dX4_pairsParted_37 (fun H locs hP hD hS => ?_)
      replace hP : va_P D vwCl [oX4 h_t q_t (d_t.1), ((q_t 1), .inl (cs 0, 6, .inl (d_t.2 1))), ((q_t 2), .inl (cs 0, 6, .inl (d_t.2 2))), ((q_t 4), .inl (cs 0, 3, .inl (d_t.2 4))), ((q_t 5), .inl (cs 0, 3, .inl (d_t.2 5)))] H := hP
      replace hD : va_D A [oX4 h_t q_t (d_t.1), ((q_t 1), .inl (cs 0, 6, .inl (d_t.2 1))), ((q_t 2), .inl (cs 0, 6, .inl (d_t.2 2))), ((q_t 4), .inl (cs 0, 3, .inl (d_t.2 4))), ((q_t 5), .inl (cs 0, 3, .inl (d_t.2 5)))] := hD
      refine lv_isub hx hb dX4_pairsParted_40 ?_
      refine lv_istore (lv' := [(5, .int (r7 - r9)), (0, .ref h_t), (1, .int x1), (2, .int x2), (3, .int (v.1)), (4, .int (v.2))]) hx hb dX4_pairsParted_41 hl (by decide) rfl (fun ls hl => ?_)
      refine lv_iload hx hb dX4_pairsParted_43 (lv_at hl 5 rfl) ?_
      refine lv_iconst (v := 1) hx hb dX4_pairsParted_45 rfl ?_
      refine lv_iadd hx hb dX4_pairsParted_46 ?_
      refine lv_istore (lv' := [(6, .int ((v.2) + 1)), (5, .int (r7 - r9)), (0, .ref h_t), (1, .int x1), (2, .int x2), (3, .int (v.1)), (4, .int (v.2))]) hx hb dX4_pairsParted_47 hl (by decide) rfl (fun ls hl => ?_)
      refine mX4_pairsParted_B49 h_t q_t k x1 x2 (v.2) (r7 - r9) d_t _ M hA hR (fun w11 hf H locs ls hP hD hS hl => ?_) _ _ hf _ _ _ hP hD hS (lv_sub hl [2, 3, 4, 5, 6, 1, 0] rfl)
      · refine lv_iinc (v := ((v.2) + 1)) (lv' := [(4, .int ((v.2) + 1)), (0, .ref h_t), (1, .int x1), (2, .int x2), (3, .int w11)]) hx hb dX4_pairsParted_96 hl (k := 4) rfl rfl (by decide) rfl (fun ls hl => ?_)
        refine lv_goto (tgt := 5) hx hb dX4_pairsParted_99 (by decide) ?_
        exact ih _ hf _ _ _ hP hD hS (lv_sub hl [1, 2, 3, 4, 0] rfl)
    · replace hf := g6.1 c5
      refine lv_goto (tgt := 96) hx hb dX4_pairsParted_23 (by decide) ?_
      refine lv_iinc (v := ((v.2) + 1)) (lv' := [(4, .int ((v.2) + 1)), (0, .ref h_t), (1, .int x1), (2, .int x2), (3, .int (v.1))]) hx hb dX4_pairsParted_96 hl (k := 4) rfl rfl (by decide) rfl (fun ls hl => ?_)
      refine lv_goto (tgt := 5) hx hb dX4_pairsParted_99 (by decide) ?_
      exact ih _ hf _ _ _ hP hD hS (lv_sub hl [1, 2, 3, 4, 0] rfl)
set_option maxHeartbeats 4000000 in
set_option maxRecDepth 100000 in
theorem mX4_pairsParted (l : Launch) (D : va_G) (cs : Nat → ClassId) (sk : Nat → Nat) (h_t : Nat) (q_t : Nat → Nat) (k : Nat) (d_t : Dat) (x1 : Int32) (x2 : Int32) {rv : Int32} (hf : fX4_pairsParted k d_t x1 x2 = some rv) : CTi l yX4_pairsParted (Cond.code yX4_pairsParted cX4_pairsParted 7 (some .int) :: gtbl) rm_X4_pairsParted D cs sk [.ref h_t, .int x1, .int x2] [oX4 h_t q_t (d_t.1), ((q_t 1), .inl (cs 0, 6, .inl (d_t.2 1))), ((q_t 2), .inl (cs 0, 6, .inl (d_t.2 2))), ((q_t 4), .inl (cs 0, 3, .inl (d_t.2 4))), ((q_t 5), .inl (cs 0, 3, .inl (d_t.2 5)))] (rv) [oX4 h_t q_t (d_t.1), ((q_t 1), .inl (cs 0, 6, .inl (d_t.2 1))), ((q_t 2), .inl (cs 0, 6, .inl (d_t.2 2))), ((q_t 4), .inl (cs 0, 3, .inl (d_t.2 4))), ((q_t 5), .inl (cs 0, 3, .inl (d_t.2 5)))] := by
  refine CTi.of RX4 (by decide +kernel) rfl (Nat.le_of_ble_eq_true rfl) (fun p e s m args below meth c A Q ls M hA hR hl hP hD hS => ?_)
  obtain ⟨hx, hb, hml, hT, hown, hlk, hrt, hK, hN, hSE⟩ := id M
  replace hl : lv_has ls 7 [(0, .ref h_t), (1, .int x1), (2, .int x2)] := hl
  unfold fX4_pairsParted at hf
  refine lv_iconst (v := 0) hx hb dX4_pairsParted_0 rfl ?_
  refine lv_istore_n (lv' := [(3, .int 0), (0, .ref h_t), (1, .int x1), (2, .int x2)]) hx hb dX4_pairsParted_1 rfl hl (by decide) rfl (fun ls hl => ?_)
  refine lv_iconst (v := 0) hx hb dX4_pairsParted_2 rfl ?_
  refine lv_istore (lv' := [(4, .int 0), (3, .int 0), (0, .ref h_t), (1, .int x1), (2, .int x2)]) hx hb dX4_pairsParted_3 hl (by decide) rfl (fun ls hl => ?_)
  refine mX4_pairsParted_B5 h_t q_t k x1 x2 d_t _ M hA hR (fun w1 hf H locs ls hP hD hS hl => ?_) _ _ hf _ _ _ hP hD hS (lv_sub hl [2, 3, 4, 1, 0] rfl)
  · refine lv_iload_n hx hb dX4_pairsParted_102 rfl (lv_at hl 0 rfl) ?_
    have e9 := Option.some.inj hf
    subst e9
    exact hR _ _ _ _ dX4_pairsParted_103 hP hS
abbrev rm_X4_digestOn : Room := { frames := 0, cells := 0, slots := 0, locals := 0 }
def fX4_digestOn_B5 (k : Nat) (d_t : Dat) (K50 : Int64 → Option (Int64)) (rec : Int64 × Int32 → Option (Int64)) (v : Int64 × Int32) : Option (Int64) :=
  (if (d_t.1 0) ≤ (v.2) then K50 (v.1) else chk 6 (v.2) (chk 6 (v.2) (rec (((31 * ((31 * (v.1)) + ((d_t.2 1) (v.2).toNatClampNeg).toInt64)) + ((d_t.2 2) (v.2).toNatClampNeg).toInt64), ((v.2) + 1)))))
def fX4_digestOn_B53 (k : Nat) (d_t : Dat) (K98 : Int64 → Option (Int64)) (rec : Int64 × Int32 → Option (Int64)) (v : Int64 × Int32) : Option (Int64) :=
  (if (d_t.1 3) ≤ (v.2) then K98 (v.1) else chk 3 (v.2) (chk 3 (v.2) (rec (((31 * ((31 * (v.1)) + ((d_t.2 4) (v.2).toNatClampNeg).toInt64)) + ((d_t.2 5) (v.2).toNatClampNeg).toInt64), ((v.2) + 1)))))
def fX4_digestOn (k : Nat) (d_t : Dat) (x1 : Int64) : Option (Int64) :=
  lp (fX4_digestOn_B5 k d_t (fun (w1 : Int64) => lp (fX4_digestOn_B53 k d_t (fun (w2 : Int64) => some ((31 * ((31 * w2) + (d_t.1 6).toInt64)) + (d_t.1 7).toInt64))) k (w1, 0))) k (x1, 0)
set_option maxHeartbeats 4000000 in
set_option maxRecDepth 100000 in
theorem mX4_digestOn_B5 {l : Launch} {p : Program} {e : Env} {s : State} {m : MethodId} {args : Array Value} {below : List Frame} {meth : Method} {c : Code} {D : va_G} {cs : Nat → ClassId} {sk : Nat → Nat} {A : Nat → Prop} {Q : State → Prop} (h_t : Nat) (q_t : Nat → Nat) (k : Nat) (d_t : Dat) {rv : Int64}  (K50 : Int64 → Option (Int64))
    (M : MC p s m args meth c D cs sk A RX4 cX4_digestOn 6 (some .long)) (hA : ∀ q, s.heap.size ≤ q → A q) (hR : RetL p l e rm_X4_digestOn s m args below meth c D cX4_digestOn A Q (rv) [oX4 h_t q_t (d_t.1), ((q_t 1), .inl (cs 0, 6, .inl (d_t.2 1))), ((q_t 2), .inl (cs 0, 6, .inl (d_t.2 2))), ((q_t 4), .inl (cs 0, 3, .inl (d_t.2 4))), ((q_t 5), .inl (cs 0, 3, .inl (d_t.2 5)))])
    (hK50 : ∀ (w : Int64), K50 w = some rv → ∀ (H : Heap) (locs : List Loc) (ls : Array Slot), va_P D vwCl [oX4 h_t q_t (d_t.1), ((q_t 1), .inl (cs 0, 6, .inl (d_t.2 1))), ((q_t 2), .inl (cs 0, 6, .inl (d_t.2 2))), ((q_t 4), .inl (cs 0, 3, .inl (d_t.2 4))), ((q_t 5), .inl (cs 0, 3, .inl (d_t.2 5)))] H → va_D A [oX4 h_t q_t (d_t.1), ((q_t 1), .inl (cs 0, 6, .inl (d_t.2 1))), ((q_t 2), .inl (cs 0, 6, .inl (d_t.2 2))), ((q_t 4), .inl (cs 0, 3, .inl (d_t.2 4))), ((q_t 5), .inl (cs 0, 3, .inl (d_t.2 5)))] → va_S A s.heap H locs → lv_has ls 6 [(0, .ref h_t), (3, .long w)] → W p l e rm_X4_digestOn s m args below meth c H locs 0 0 Q (F0 m 50 ls []))
    : ∀ (n : Nat) (v : Int64 × Int32), lp (fX4_digestOn_B5 k d_t K50) n v = some rv → ∀ (H : Heap) (locs : List Loc) (ls : Array Slot), va_P D vwCl [oX4 h_t q_t (d_t.1), ((q_t 1), .inl (cs 0, 6, .inl (d_t.2 1))), ((q_t 2), .inl (cs 0, 6, .inl (d_t.2 2))), ((q_t 4), .inl (cs 0, 3, .inl (d_t.2 4))), ((q_t 5), .inl (cs 0, 3, .inl (d_t.2 5)))] H → va_D A [oX4 h_t q_t (d_t.1), ((q_t 1), .inl (cs 0, 6, .inl (d_t.2 1))), ((q_t 2), .inl (cs 0, 6, .inl (d_t.2 2))), ((q_t 4), .inl (cs 0, 3, .inl (d_t.2 4))), ((q_t 5), .inl (cs 0, 3, .inl (d_t.2 5)))] → va_S A s.heap H locs → lv_has ls 6 [(0, .ref h_t), (3, .long (v.1)), (5, .int (v.2))] → W p l e rm_X4_digestOn s m args below meth c H locs 0 0 Q (F0 m 5 ls []) := by
  obtain ⟨hx, hb, hml, hT, hown, hlk, hrt, hK, hN, hSE⟩ := id M
  refine lp_ind (fun rec ih v hf H locs ls hP hD hS hl => ?_)
  unfold fX4_digestOn_B5 at hf
  refine lv_iload hx hb dX4_digestOn_5 (lv_at hl 2 rfl) ?_
  refine lv_aload_n hx hb dX4_digestOn_7 rfl (lv_at hl 0 rfl) ?_
  refine va_get (D := D) (ci := 4) (v := .int (d_t.1 0)) (C := RX4) (T := TX4) (N := 11) hx hb hT iX4 hown hK hP 0 rfl rfl 0 (by decide) (hT _ fw_X4_9) (fun _ h9 => h9) rfl dX4_digestOn_8 ?_
  have g2 := ite_some hf
  refine lv_icmp_ge (tgt := 50) hx hb dX4_digestOn_11 (by decide) (fun c1 => ?_) (fun c1 => ?_)
  · replace hf := g2.1 c1
    exact hK50 _ hf _ _ _ hP hD hS (lv_sub hl [0, 1] rfl)
  · replace hf := g2.2 c1
    refine W.ldc2 (v := 31) hx hb hown (hT _ kw_X4_67) rfl dX4_digestOn_14 ?_
    refine W.eq (g2 := F0 m 17 ls [.long 31]) rfl ?_
    refine lv_lload_n hx hb dX4_digestOn_17 rfl (lv_at hl 1 rfl) ?_
    refine lv_lmul hx hb dX4_digestOn_18 ?_
    refine lv_aload_n hx hb dX4_digestOn_19 rfl (lv_at hl 0 rfl) ?_
    refine va_get (D := D) (ci := 4) (v := .ref (q_t 1)) (C := RX4) (T := TX4) (N := 11) hx hb hT iX4 hown hK hP 0 rfl rfl 1 (by decide) (hT _ fw_X4_15) (fun _ h9 => h9) rfl dX4_digestOn_20 ?_
    refine lv_iload hx hb dX4_digestOn_23 (lv_at hl 2 rfl) ?_
    obtain ⟨hi, hf⟩ := chk_some hf
    refine va_iald (D := D) hx hb hK hP 1 0 rfl rfl hi dX4_digestOn_25 ?_
    refine lv_i2l (v := ((d_t.2 1) (v.2).toNatClampNeg).toInt64) hx hb dX4_digestOn_26 rfl ?_
    refine lv_ladd hx hb dX4_digestOn_27 ?_
    refine lv_lstore_n (lv' := [(3, .long ((31 * (v.1)) + ((d_t.2 1) (v.2).toNatClampNeg).toInt64)), (0, .ref h_t), (5, .int (v.2))]) hx hb dX4_digestOn_28 rfl hl (by decide) rfl (fun ls hl => ?_)
    refine W.ldc2 (v := 31) hx hb hown (hT _ kw_X4_67) rfl dX4_digestOn_29 ?_
    refine W.eq (g2 := F0 m 32 ls [.long 31]) rfl ?_
    refine lv_lload_n hx hb dX4_digestOn_32 rfl (lv_at hl 0 rfl) ?_
    refine lv_lmul hx hb dX4_digestOn_33 ?_
    refine lv_aload_n hx hb dX4_digestOn_34 rfl (lv_at hl 1 rfl) ?_
    refine va_get (D := D) (ci := 4) (v := .ref (q_t 2)) (C := RX4) (T := TX4) (N := 11) hx hb hT iX4 hown hK hP 0 rfl rfl 2 (by decide) (hT _ fw_X4_19) (fun _ h9 => h9) rfl dX4_digestOn_35 ?_
    refine lv_iload hx hb dX4_digestOn_38 (lv_at hl 2 rfl) ?_
    obtain ⟨hi, hf⟩ := chk_some hf
    refine va_iald (D := D) hx hb hK hP 2 0 rfl rfl hi dX4_digestOn_40 ?_
    refine lv_i2l (v := ((d_t.2 2) (v.2).toNatClampNeg).toInt64) hx hb dX4_digestOn_41 rfl ?_
    refine lv_ladd hx hb dX4_digestOn_42 ?_
    refine lv_lstore_n (lv' := [(3, .long ((31 * ((31 * (v.1)) + ((d_t.2 1) (v.2).toNatClampNeg).toInt64)) + ((d_t.2 2) (v.2).toNatClampNeg).toInt64)), (0, .ref h_t), (5, .int (v.2))]) hx hb dX4_digestOn_43 rfl hl (by decide) rfl (fun ls hl => ?_)
    refine lv_iinc (v := ((v.2) + 1)) (lv' := [(5, .int ((v.2) + 1)), (3, .long ((31 * ((31 * (v.1)) + ((d_t.2 1) (v.2).toNatClampNeg).toInt64)) + ((d_t.2 2) (v.2).toNatClampNeg).toInt64)), (0, .ref h_t)]) hx hb dX4_digestOn_44 hl (k := 2) rfl rfl (by decide) rfl (fun ls hl => ?_)
    refine lv_goto (tgt := 5) hx hb dX4_digestOn_47 (by decide) ?_
    exact ih _ hf _ _ _ hP hD hS (lv_sub hl [2, 1, 0] rfl)
set_option maxHeartbeats 4000000 in
set_option maxRecDepth 100000 in
theorem mX4_digestOn_B53 {l : Launch} {p : Program} {e : Env} {s : State} {m : MethodId} {args : Array Value} {below : List Frame} {meth : Method} {c : Code} {D : va_G} {cs : Nat → ClassId} {sk : Nat → Nat} {A : Nat → Prop} {Q : State → Prop} (h_t : Nat) (q_t : Nat → Nat) (k : Nat) (d_t : Dat) {rv : Int64}  (K98 : Int64 → Option (Int64))
    (M : MC p s m args meth c D cs sk A RX4 cX4_digestOn 6 (some .long)) (hA : ∀ q, s.heap.size ≤ q → A q) (hR : RetL p l e rm_X4_digestOn s m args below meth c D cX4_digestOn A Q (rv) [oX4 h_t q_t (d_t.1), ((q_t 1), .inl (cs 0, 6, .inl (d_t.2 1))), ((q_t 2), .inl (cs 0, 6, .inl (d_t.2 2))), ((q_t 4), .inl (cs 0, 3, .inl (d_t.2 4))), ((q_t 5), .inl (cs 0, 3, .inl (d_t.2 5)))])
    (hK98 : ∀ (w : Int64), K98 w = some rv → ∀ (H : Heap) (locs : List Loc) (ls : Array Slot), va_P D vwCl [oX4 h_t q_t (d_t.1), ((q_t 1), .inl (cs 0, 6, .inl (d_t.2 1))), ((q_t 2), .inl (cs 0, 6, .inl (d_t.2 2))), ((q_t 4), .inl (cs 0, 3, .inl (d_t.2 4))), ((q_t 5), .inl (cs 0, 3, .inl (d_t.2 5)))] H → va_D A [oX4 h_t q_t (d_t.1), ((q_t 1), .inl (cs 0, 6, .inl (d_t.2 1))), ((q_t 2), .inl (cs 0, 6, .inl (d_t.2 2))), ((q_t 4), .inl (cs 0, 3, .inl (d_t.2 4))), ((q_t 5), .inl (cs 0, 3, .inl (d_t.2 5)))] → va_S A s.heap H locs → lv_has ls 6 [(0, .ref h_t), (3, .long w)] → W p l e rm_X4_digestOn s m args below meth c H locs 0 0 Q (F0 m 98 ls []))
    : ∀ (n : Nat) (v : Int64 × Int32), lp (fX4_digestOn_B53 k d_t K98) n v = some rv → ∀ (H : Heap) (locs : List Loc) (ls : Array Slot), va_P D vwCl [oX4 h_t q_t (d_t.1), ((q_t 1), .inl (cs 0, 6, .inl (d_t.2 1))), ((q_t 2), .inl (cs 0, 6, .inl (d_t.2 2))), ((q_t 4), .inl (cs 0, 3, .inl (d_t.2 4))), ((q_t 5), .inl (cs 0, 3, .inl (d_t.2 5)))] H → va_D A [oX4 h_t q_t (d_t.1), ((q_t 1), .inl (cs 0, 6, .inl (d_t.2 1))), ((q_t 2), .inl (cs 0, 6, .inl (d_t.2 2))), ((q_t 4), .inl (cs 0, 3, .inl (d_t.2 4))), ((q_t 5), .inl (cs 0, 3, .inl (d_t.2 5)))] → va_S A s.heap H locs → lv_has ls 6 [(0, .ref h_t), (3, .long (v.1)), (5, .int (v.2))] → W p l e rm_X4_digestOn s m args below meth c H locs 0 0 Q (F0 m 53 ls []) := by
  obtain ⟨hx, hb, hml, hT, hown, hlk, hrt, hK, hN, hSE⟩ := id M
  refine lp_ind (fun rec ih v hf H locs ls hP hD hS hl => ?_)
  unfold fX4_digestOn_B53 at hf
  refine lv_iload hx hb dX4_digestOn_53 (lv_at hl 2 rfl) ?_
  refine lv_aload_n hx hb dX4_digestOn_55 rfl (lv_at hl 0 rfl) ?_
  refine va_get (D := D) (ci := 4) (v := .int (d_t.1 3)) (C := RX4) (T := TX4) (N := 11) hx hb hT iX4 hown hK hP 0 rfl rfl 3 (by decide) (hT _ fw_X4_22) (fun _ h9 => h9) rfl dX4_digestOn_56 ?_
  have g2 := ite_some hf
  refine lv_icmp_ge (tgt := 98) hx hb dX4_digestOn_59 (by decide) (fun c1 => ?_) (fun c1 => ?_)
  · replace hf := g2.1 c1
    exact hK98 _ hf _ _ _ hP hD hS (lv_sub hl [0, 1] rfl)
  · replace hf := g2.2 c1
    refine W.ldc2 (v := 31) hx hb hown (hT _ kw_X4_67) rfl dX4_digestOn_62 ?_
    refine W.eq (g2 := F0 m 65 ls [.long 31]) rfl ?_
    refine lv_lload_n hx hb dX4_digestOn_65 rfl (lv_at hl 1 rfl) ?_
    refine lv_lmul hx hb dX4_digestOn_66 ?_
    refine lv_aload_n hx hb dX4_digestOn_67 rfl (lv_at hl 0 rfl) ?_
    refine va_get (D := D) (ci := 4) (v := .ref (q_t 4)) (C := RX4) (T := TX4) (N := 11) hx hb hT iX4 hown hK hP 0 rfl rfl 4 (by decide) (hT _ fw_X4_25) (fun _ h9 => h9) rfl dX4_digestOn_68 ?_
    refine lv_iload hx hb dX4_digestOn_71 (lv_at hl 2 rfl) ?_
    obtain ⟨hi, hf⟩ := chk_some hf
    refine va_iald (D := D) hx hb hK hP 3 0 rfl rfl hi dX4_digestOn_73 ?_
    refine lv_i2l (v := ((d_t.2 4) (v.2).toNatClampNeg).toInt64) hx hb dX4_digestOn_74 rfl ?_
    refine lv_ladd hx hb dX4_digestOn_75 ?_
    refine lv_lstore_n (lv' := [(3, .long ((31 * (v.1)) + ((d_t.2 4) (v.2).toNatClampNeg).toInt64)), (0, .ref h_t), (5, .int (v.2))]) hx hb dX4_digestOn_76 rfl hl (by decide) rfl (fun ls hl => ?_)
    refine W.ldc2 (v := 31) hx hb hown (hT _ kw_X4_67) rfl dX4_digestOn_77 ?_
    refine W.eq (g2 := F0 m 80 ls [.long 31]) rfl ?_
    refine lv_lload_n hx hb dX4_digestOn_80 rfl (lv_at hl 0 rfl) ?_
    refine lv_lmul hx hb dX4_digestOn_81 ?_
    refine lv_aload_n hx hb dX4_digestOn_82 rfl (lv_at hl 1 rfl) ?_
    refine va_get (D := D) (ci := 4) (v := .ref (q_t 5)) (C := RX4) (T := TX4) (N := 11) hx hb hT iX4 hown hK hP 0 rfl rfl 5 (by decide) (hT _ fw_X4_28) (fun _ h9 => h9) rfl dX4_digestOn_83 ?_
    refine lv_iload hx hb dX4_digestOn_86 (lv_at hl 2 rfl) ?_
    obtain ⟨hi, hf⟩ := chk_some hf
    refine va_iald (D := D) hx hb hK hP 4 0 rfl rfl hi dX4_digestOn_88 ?_
    refine lv_i2l (v := ((d_t.2 5) (v.2).toNatClampNeg).toInt64) hx hb dX4_digestOn_89 rfl ?_
    refine lv_ladd hx hb dX4_digestOn_90 ?_
    refine lv_lstore_n (lv' := [(3, .long ((31 * ((31 * (v.1)) + ((d_t.2 4) (v.2).toNatClampNeg).toInt64)) + ((d_t.2 5) (v.2).toNatClampNeg).toInt64)), (0, .ref h_t), (5, .int (v.2))]) hx hb dX4_digestOn_91 rfl hl (by decide) rfl (fun ls hl => ?_)
    refine lv_iinc (v := ((v.2) + 1)) (lv' := [(5, .int ((v.2) + 1)), (3, .long ((31 * ((31 * (v.1)) + ((d_t.2 4) (v.2).toNatClampNeg).toInt64)) + ((d_t.2 5) (v.2).toNatClampNeg).toInt64)), (0, .ref h_t)]) hx hb dX4_digestOn_92 hl (k := 2) rfl rfl (by decide) rfl (fun ls hl => ?_)
    refine lv_goto (tgt := 53) hx hb dX4_digestOn_95 (by decide) ?_
    exact ih _ hf _ _ _ hP hD hS (lv_sub hl [2, 1, 0] rfl)
set_option maxHeartbeats 4000000 in
set_option maxRecDepth 100000 in
theorem mX4_digestOn (l : Launch) (D : va_G) (cs : Nat → ClassId) (sk : Nat → Nat) (h_t : Nat) (q_t : Nat → Nat) (k : Nat) (d_t : Dat) (x1 : Int64) {rv : Int64} (hf : fX4_digestOn k d_t x1 = some rv) : CTl l yX4_digestOn (Cond.code yX4_digestOn cX4_digestOn 6 (some .long) :: gtbl) rm_X4_digestOn D cs sk [.ref h_t, .long x1] [oX4 h_t q_t (d_t.1), ((q_t 1), .inl (cs 0, 6, .inl (d_t.2 1))), ((q_t 2), .inl (cs 0, 6, .inl (d_t.2 2))), ((q_t 4), .inl (cs 0, 3, .inl (d_t.2 4))), ((q_t 5), .inl (cs 0, 3, .inl (d_t.2 5)))] (rv) [oX4 h_t q_t (d_t.1), ((q_t 1), .inl (cs 0, 6, .inl (d_t.2 1))), ((q_t 2), .inl (cs 0, 6, .inl (d_t.2 2))), ((q_t 4), .inl (cs 0, 3, .inl (d_t.2 4))), ((q_t 5), .inl (cs 0, 3, .inl (d_t.2 5)))] := by
  refine CTl.of RX4 (by decide +kernel) rfl (Nat.le_of_ble_eq_true rfl) (fun p e s m args below meth c A Q ls M hA hR hl hP hD hS => ?_)
  obtain ⟨hx, hb, hml, hT, hown, hlk, hrt, hK, hN, hSE⟩ := id M
  replace hl : lv_has ls 6 [(0, .ref h_t), (1, .long x1)] := hl
  unfold fX4_digestOn at hf
  refine lv_lload_n hx hb dX4_digestOn_0 rfl (lv_at hl 1 rfl) ?_
  refine lv_lstore_n (lv' := [(3, .long x1), (0, .ref h_t), (1, .long x1)]) hx hb dX4_digestOn_1 rfl hl (by decide) rfl (fun ls hl => ?_)
  refine lv_iconst (v := 0) hx hb dX4_digestOn_2 rfl ?_
  refine lv_istore (lv' := [(5, .int 0), (3, .long x1), (0, .ref h_t), (1, .long x1)]) hx hb dX4_digestOn_3 hl (by decide) rfl (fun ls hl => ?_)
  refine mX4_digestOn_B5 h_t q_t k d_t _ M hA hR (fun w1 hf H locs ls hP hD hS hl => ?_) _ _ hf _ _ _ hP hD hS (lv_sub hl [2, 1, 0] rfl)
  · refine lv_iconst (v := 0) hx hb dX4_digestOn_50 rfl ?_
    refine lv_istore (lv' := [(5, .int 0), (0, .ref h_t), (3, .long w1)]) hx hb dX4_digestOn_51 hl (by decide) rfl (fun ls hl => ?_)
    refine mX4_digestOn_B53 h_t q_t k d_t _ M hA hR (fun w2 hf H locs ls hP hD hS hl => ?_) _ _ hf _ _ _ hP hD hS (lv_sub hl [1, 2, 0] rfl)
    · refine W.ldc2 (v := 31) hx hb hown (hT _ kw_X4_67) rfl dX4_digestOn_98 ?_
      refine W.eq (g2 := F0 m 101 ls [.long 31]) rfl ?_
      refine lv_lload_n hx hb dX4_digestOn_101 rfl (lv_at hl 1 rfl) ?_
      refine lv_lmul hx hb dX4_digestOn_102 ?_
      refine lv_aload_n hx hb dX4_digestOn_103 rfl (lv_at hl 0 rfl) ?_
      refine va_get (D := D) (ci := 4) (v := .int (d_t.1 6)) (C := RX4) (T := TX4) (N := 11) hx hb hT iX4 hown hK hP 0 rfl rfl 6 (by decide) (hT _ fw_X4_31) (fun _ h9 => h9) rfl dX4_digestOn_104 ?_
      refine lv_i2l (v := (d_t.1 6).toInt64) hx hb dX4_digestOn_107 rfl ?_
      refine lv_ladd hx hb dX4_digestOn_108 ?_
      refine lv_lstore_n (lv' := [(3, .long ((31 * w2) + (d_t.1 6).toInt64)), (0, .ref h_t)]) hx hb dX4_digestOn_109 rfl hl (by decide) rfl (fun ls hl => ?_)
      refine W.ldc2 (v := 31) hx hb hown (hT _ kw_X4_67) rfl dX4_digestOn_110 ?_
      refine W.eq (g2 := F0 m 113 ls [.long 31]) rfl ?_
      refine lv_lload_n hx hb dX4_digestOn_113 rfl (lv_at hl 0 rfl) ?_
      refine lv_lmul hx hb dX4_digestOn_114 ?_
      refine lv_aload_n hx hb dX4_digestOn_115 rfl (lv_at hl 1 rfl) ?_
      refine va_get (D := D) (ci := 4) (v := .int (d_t.1 7)) (C := RX4) (T := TX4) (N := 11) hx hb hT iX4 hown hK hP 0 rfl rfl 7 (by decide) (hT _ fw_X4_34) (fun _ h9 => h9) rfl dX4_digestOn_116 ?_
      refine lv_i2l (v := (d_t.1 7).toInt64) hx hb dX4_digestOn_119 rfl ?_
      refine lv_ladd hx hb dX4_digestOn_120 ?_
      have e9 := Option.some.inj hf
      subst e9
      exact hR _ _ _ _ dX4_digestOn_121 hP hS
abbrev rm_X6_isPlace : Room := { frames := 1, cells := 0, slots := 0, locals := 22 }
def fX6_isPlace (k : Nat) (x0 : Int32) (x1 : Int32) : Option (Int32) :=
  (fX6_isWithin k x0 0 99).bind (fun (r1 : Int32) => (if r1 = 0 then some 0 else (fX6_isWithin k x1 0 99).bind (fun (r5 : Int32) => (if r5 = 0 then some 0 else some 1))))
set_option maxHeartbeats 4000000 in
set_option maxRecDepth 100000 in
theorem mX6_isPlace (l : Launch) (D : va_G) (cs : Nat → ClassId) (sk : Nat → Nat)  (k : Nat) (x0 : Int32) (x1 : Int32) {rv : Int32} (hf : fX6_isPlace k x0 x1 = some rv) : CTi l yX6_isPlace (Cond.code yX6_isPlace cX6_isPlace 2 (some .boolean) :: gtbl) rm_X6_isPlace D cs sk [.int x0, .int x1] [] (rv) [] := by
  refine CTi.ofZ RX6 (by decide +kernel) rfl (Nat.le_of_ble_eq_true rfl) (fun p e s m args below meth c A Q ls M hA hR hl hP hD hS => ?_)
  obtain ⟨hx, hb, hml, hT, hown, hlk, hrt, hK, hN, hSE⟩ := id M
  replace hl : lv_has ls 2 [(0, .int x0), (1, .int x1)] := hl
  unfold fX6_isPlace at hf
  refine lv_iload_n hx hb dX6_isPlace_0 rfl (lv_at hl 0 rfl) ?_
  refine lv_iconst (v := 0) hx hb dX6_isPlace_1 rfl ?_
  refine lv_bipush (v := 99) hx hb dX6_isPlace_2 rfl ?_
  obtain ⟨r1, e2, hf⟩ := bind_some hf
  refine callSi (As := [.int x0, .int 0, .int 99]) (rest := []) M (mX6_isWithin l D cs sk  k x0 0 99 e2) mw_X6_121 ln_X6_isWithin ⟨rfl, rfl, Nat.le_of_ble_eq_true rfl, Nat.le_of_ble_eq_true rfl⟩ hP hD hS hA [] (by decide) rfl rfl ⟨Nat.zero_le _, Nat.zero_le _⟩ hl.1 rfl (Nat.le_of_ble_eq_true rfl) dX6_isPlace_4 (fun H locs hP hD hS => ?_)
  replace hP : va_P D vwCl [] H := hP
  replace hD : va_D A [] := hD
  have g4 := ite_some hf
  refine lv_if_eq (tgt := 24) hx hb dX6_isPlace_7 (by decide) (fun c3 => ?_) (fun c3 => ?_)
  · replace hf := g4.1 c3
    refine lv_iconst (v := 0) hx hb dX6_isPlace_24 rfl ?_
    have e9 := Option.some.inj hf
    subst e9
    exact hR _ _ _ _ dX6_isPlace_25 (Or.inl rfl) hP hS
  · replace hf := g4.2 c3
    refine lv_iload_n hx hb dX6_isPlace_10 rfl (lv_at hl 1 rfl) ?_
    refine lv_iconst (v := 0) hx hb dX6_isPlace_11 rfl ?_
    refine lv_bipush (v := 99) hx hb dX6_isPlace_12 rfl ?_
    obtain ⟨r5, e6, hf⟩ := bind_some hf
    refine callSi (As := [.int x1, .int 0, .int 99]) (rest := []) M (mX6_isWithin l D cs sk  k x1 0 99 e6) mw_X6_121 ln_X6_isWithin ⟨rfl, rfl, Nat.le_of_ble_eq_true rfl, Nat.le_of_ble_eq_true rfl⟩ hP hD hS hA [] (by decide) rfl rfl ⟨Nat.zero_le _, Nat.zero_le _⟩ hl.1 rfl (Nat.le_of_ble_eq_true rfl) dX6_isPlace_14 (fun H locs hP hD hS => ?_)
    replace hP : va_P D vwCl [] H := hP
    replace hD : va_D A [] := hD
    have g8 := ite_some hf
    refine lv_if_eq (tgt := 24) hx hb dX6_isPlace_17 (by decide) (fun c7 => ?_) (fun c7 => ?_)
    · replace hf := g8.1 c7
      refine lv_iconst (v := 0) hx hb dX6_isPlace_24 rfl ?_
      have e9 := Option.some.inj hf
      subst e9
      exact hR _ _ _ _ dX6_isPlace_25 (Or.inl rfl) hP hS
    · replace hf := g8.2 c7
      refine lv_iconst (v := 1) hx hb dX6_isPlace_20 rfl ?_
      refine lv_goto (tgt := 25) hx hb dX6_isPlace_21 (by decide) ?_
      have e9 := Option.some.inj hf
      subst e9
      exact hR _ _ _ _ dX6_isPlace_25 (Or.inr rfl) hP hS
abbrev rm_X6_isTime : Room := { frames := 1, cells := 0, slots := 0, locals := 22 }
def fX6_isTime (k : Nat) (x0 : Int32) : Option (Int32) :=
  (fX6_isWithin k x0 0 9999).bind (fun (r1 : Int32) => chb r1 (some r1))
set_option maxHeartbeats 4000000 in
set_option maxRecDepth 100000 in
theorem mX6_isTime (l : Launch) (D : va_G) (cs : Nat → ClassId) (sk : Nat → Nat)  (k : Nat) (x0 : Int32) {rv : Int32} (hf : fX6_isTime k x0 = some rv) : CTi l yX6_isTime (Cond.code yX6_isTime cX6_isTime 1 (some .boolean) :: gtbl) rm_X6_isTime D cs sk [.int x0] [] (rv) [] := by
  refine CTi.ofZ RX6 (by decide +kernel) rfl (Nat.le_of_ble_eq_true rfl) (fun p e s m args below meth c A Q ls M hA hR hl hP hD hS => ?_)
  obtain ⟨hx, hb, hml, hT, hown, hlk, hrt, hK, hN, hSE⟩ := id M
  replace hl : lv_has ls 1 [(0, .int x0)] := hl
  unfold fX6_isTime at hf
  refine lv_iload_n hx hb dX6_isTime_0 rfl (lv_at hl 0 rfl) ?_
  refine lv_iconst (v := 0) hx hb dX6_isTime_1 rfl ?_
  refine lv_sipush (v := 9999) hx hb dX6_isTime_2 rfl ?_
  obtain ⟨r1, e2, hf⟩ := bind_some hf
  refine callSi (As := [.int x0, .int 0, .int 9999]) (rest := []) M (mX6_isWithin l D cs sk  k x0 0 9999 e2) mw_X6_121 ln_X6_isWithin ⟨rfl, rfl, Nat.le_of_ble_eq_true rfl, Nat.le_of_ble_eq_true rfl⟩ hP hD hS hA [] (by decide) rfl rfl ⟨Nat.zero_le _, Nat.zero_le _⟩ hl.1 rfl (Nat.le_of_ble_eq_true rfl) dX6_isTime_5 (fun H locs hP hD hS => ?_)
  replace hP : va_P D vwCl [] H := hP
  replace hD : va_D A [] := hD
  obtain ⟨h01, hf⟩ := chb_some hf
  have e9 := Option.some.inj hf
  subst e9
  exact hR _ _ _ _ dX6_isTime_8 h01 hP hS
abbrev rm_J6_bitCount_0f7a4 : Room := { frames := 0, cells := 0, slots := 0, locals := 0 }
def fJ6_bitCount_0f7a4 (k : Nat) (x0 : Int32) : Option (Int32) :=
  some ((((((((x0 - ((x0.toUInt32 >>> ((1 : Int32).toUInt32 &&& Int32.toUInt32 31)).toInt32 &&& 1431655765)) &&& 858993459) + (((x0 - ((x0.toUInt32 >>> ((1 : Int32).toUInt32 &&& Int32.toUInt32 31)).toInt32 &&& 1431655765)).toUInt32 >>> ((2 : Int32).toUInt32 &&& Int32.toUInt32 31)).toInt32 &&& 858993459)) + ((((x0 - ((x0.toUInt32 >>> ((1 : Int32).toUInt32 &&& Int32.toUInt32 31)).toInt32 &&& 1431655765)) &&& 858993459) + (((x0 - ((x0.toUInt32 >>> ((1 : Int32).toUInt32 &&& Int32.toUInt32 31)).toInt32 &&& 1431655765)).toUInt32 >>> ((2 : Int32).toUInt32 &&& Int32.toUInt32 31)).toInt32 &&& 858993459)).toUInt32 >>> ((4 : Int32).toUInt32 &&& Int32.toUInt32 31)).toInt32) &&& 252645135) + ((((((x0 - ((x0.toUInt32 >>> ((1 : Int32).toUInt32 &&& Int32.toUInt32 31)).toInt32 &&& 1431655765)) &&& 858993459) + (((x0 - ((x0.toUInt32 >>> ((1 : Int32).toUInt32 &&& Int32.toUInt32 31)).toInt32 &&& 1431655765)).toUInt32 >>> ((2 : Int32).toUInt32 &&& Int32.toUInt32 31)).toInt32 &&& 858993459)) + ((((x0 - ((x0.toUInt32 >>> ((1 : Int32).toUInt32 &&& Int32.toUInt32 31)).toInt32 &&& 1431655765)) &&& 858993459) + (((x0 - ((x0.toUInt32 >>> ((1 : Int32).toUInt32 &&& Int32.toUInt32 31)).toInt32 &&& 1431655765)).toUInt32 >>> ((2 : Int32).toUInt32 &&& Int32.toUInt32 31)).toInt32 &&& 858993459)).toUInt32 >>> ((4 : Int32).toUInt32 &&& Int32.toUInt32 31)).toInt32) &&& 252645135).toUInt32 >>> ((8 : Int32).toUInt32 &&& Int32.toUInt32 31)).toInt32) + (((((((x0 - ((x0.toUInt32 >>> ((1 : Int32).toUInt32 &&& Int32.toUInt32 31)).toInt32 &&& 1431655765)) &&& 858993459) + (((x0 - ((x0.toUInt32 >>> ((1 : Int32).toUInt32 &&& Int32.toUInt32 31)).toInt32 &&& 1431655765)).toUInt32 >>> ((2 : Int32).toUInt32 &&& Int32.toUInt32 31)).toInt32 &&& 858993459)) + ((((x0 - ((x0.toUInt32 >>> ((1 : Int32).toUInt32 &&& Int32.toUInt32 31)).toInt32 &&& 1431655765)) &&& 858993459) + (((x0 - ((x0.toUInt32 >>> ((1 : Int32).toUInt32 &&& Int32.toUInt32 31)).toInt32 &&& 1431655765)).toUInt32 >>> ((2 : Int32).toUInt32 &&& Int32.toUInt32 31)).toInt32 &&& 858993459)).toUInt32 >>> ((4 : Int32).toUInt32 &&& Int32.toUInt32 31)).toInt32) &&& 252645135) + ((((((x0 - ((x0.toUInt32 >>> ((1 : Int32).toUInt32 &&& Int32.toUInt32 31)).toInt32 &&& 1431655765)) &&& 858993459) + (((x0 - ((x0.toUInt32 >>> ((1 : Int32).toUInt32 &&& Int32.toUInt32 31)).toInt32 &&& 1431655765)).toUInt32 >>> ((2 : Int32).toUInt32 &&& Int32.toUInt32 31)).toInt32 &&& 858993459)) + ((((x0 - ((x0.toUInt32 >>> ((1 : Int32).toUInt32 &&& Int32.toUInt32 31)).toInt32 &&& 1431655765)) &&& 858993459) + (((x0 - ((x0.toUInt32 >>> ((1 : Int32).toUInt32 &&& Int32.toUInt32 31)).toInt32 &&& 1431655765)).toUInt32 >>> ((2 : Int32).toUInt32 &&& Int32.toUInt32 31)).toInt32 &&& 858993459)).toUInt32 >>> ((4 : Int32).toUInt32 &&& Int32.toUInt32 31)).toInt32) &&& 252645135).toUInt32 >>> ((8 : Int32).toUInt32 &&& Int32.toUInt32 31)).toInt32).toUInt32 >>> ((16 : Int32).toUInt32 &&& Int32.toUInt32 31)).toInt32) &&& 63)
set_option maxHeartbeats 4000000 in
set_option maxRecDepth 100000 in
theorem mJ6_bitCount_0f7a4 (l : Launch) (D : va_G) (cs : Nat → ClassId) (sk : Nat → Nat)  (k : Nat) (x0 : Int32) {rv : Int32} (hf : fJ6_bitCount_0f7a4 k x0 = some rv) : CTi l yJ6_bitCount_0f7a4 (Cond.code yJ6_bitCount_0f7a4 cJ6_bitCount_0f7a4 1 (some .int) :: gtbl) rm_J6_bitCount_0f7a4 D cs sk [.int x0] [] (rv) [] := by
  refine CTi.of RJ6 (by decide +kernel) rfl (Nat.le_of_ble_eq_true rfl) (fun p e s m args below meth c A Q ls M hA hR hl hP hD hS => ?_)
  obtain ⟨hx, hb, hml, hT, hown, hlk, hrt, hK, hN, hSE⟩ := id M
  replace hl : lv_has ls 1 [(0, .int x0)] := hl
  unfold fJ6_bitCount_0f7a4 at hf
  refine lv_iload_n hx hb dJ6_bitCount_0f7a4_0 rfl (lv_at hl 0 rfl) ?_
  refine lv_iload_n hx hb dJ6_bitCount_0f7a4_1 rfl (lv_at hl 0 rfl) ?_
  refine lv_iconst (v := 1) hx hb dJ6_bitCount_0f7a4_2 rfl ?_
  refine lv_iushr (v := (x0.toUInt32 >>> ((1 : Int32).toUInt32 &&& Int32.toUInt32 31)).toInt32) hx hb dJ6_bitCount_0f7a4_3 rfl ?_
  refine lv_ldcw (v := 1431655765) hx hb hown (hT _ kw_J6_265) dJ6_bitCount_0f7a4_4 ?_
  refine lv_iand hx hb dJ6_bitCount_0f7a4_7 ?_
  refine lv_isub hx hb dJ6_bitCount_0f7a4_8 ?_
  refine lv_istore_n (lv' := [(0, .int (x0 - ((x0.toUInt32 >>> ((1 : Int32).toUInt32 &&& Int32.toUInt32 31)).toInt32 &&& 1431655765)))]) hx hb dJ6_bitCount_0f7a4_9 rfl hl (by decide) rfl (fun ls hl => ?_)
  refine lv_iload_n hx hb dJ6_bitCount_0f7a4_10 rfl (lv_at hl 0 rfl) ?_
  refine lv_ldcw (v := 858993459) hx hb hown (hT _ kw_J6_266) dJ6_bitCount_0f7a4_11 ?_
  refine lv_iand hx hb dJ6_bitCount_0f7a4_14 ?_
  refine lv_iload_n hx hb dJ6_bitCount_0f7a4_15 rfl (lv_at hl 0 rfl) ?_
  refine lv_iconst (v := 2) hx hb dJ6_bitCount_0f7a4_16 rfl ?_
  refine lv_iushr (v := ((x0 - ((x0.toUInt32 >>> ((1 : Int32).toUInt32 &&& Int32.toUInt32 31)).toInt32 &&& 1431655765)).toUInt32 >>> ((2 : Int32).toUInt32 &&& Int32.toUInt32 31)).toInt32) hx hb dJ6_bitCount_0f7a4_17 rfl ?_
  refine lv_ldcw (v := 858993459) hx hb hown (hT _ kw_J6_266) dJ6_bitCount_0f7a4_18 ?_
  refine lv_iand hx hb dJ6_bitCount_0f7a4_21 ?_
  refine lv_iadd hx hb dJ6_bitCount_0f7a4_22 ?_
  refine lv_istore_n (lv' := [(0, .int (((x0 - ((x0.toUInt32 >>> ((1 : Int32).toUInt32 &&& Int32.toUInt32 31)).toInt32 &&& 1431655765)) &&& 858993459) + (((x0 - ((x0.toUInt32 >>> ((1 : Int32).toUInt32 &&& Int32.toUInt32 31)).toInt32 &&& 1431655765)).toUInt32 >>> ((2 : Int32).toUInt32 &&& Int32.toUInt32 31)).toInt32 &&& 858993459)))]) hx hb dJ6_bitCount_0f7a4_23 rfl hl (by decide) rfl (fun ls hl => ?_)
  refine lv_iload_n hx hb dJ6_bitCount_0f7a4_24 rfl (lv_at hl 0 rfl) ?_
  refine lv_iload_n hx hb dJ6_bitCount_0f7a4_25 rfl (lv_at hl 0 rfl) ?_
  refine lv_iconst (v := 4) hx hb dJ6_bitCount_0f7a4_26 rfl ?_
  refine lv_iushr (v := ((((x0 - ((x0.toUInt32 >>> ((1 : Int32).toUInt32 &&& Int32.toUInt32 31)).toInt32 &&& 1431655765)) &&& 858993459) + (((x0 - ((x0.toUInt32 >>> ((1 : Int32).toUInt32 &&& Int32.toUInt32 31)).toInt32 &&& 1431655765)).toUInt32 >>> ((2 : Int32).toUInt32 &&& Int32.toUInt32 31)).toInt32 &&& 858993459)).toUInt32 >>> ((4 : Int32).toUInt32 &&& Int32.toUInt32 31)).toInt32) hx hb dJ6_bitCount_0f7a4_27 rfl ?_
  refine lv_iadd hx hb dJ6_bitCount_0f7a4_28 ?_
  refine lv_ldcw (v := 252645135) hx hb hown (hT _ kw_J6_267) dJ6_bitCount_0f7a4_29 ?_
  refine lv_iand hx hb dJ6_bitCount_0f7a4_32 ?_
  refine lv_istore_n (lv' := [(0, .int (((((x0 - ((x0.toUInt32 >>> ((1 : Int32).toUInt32 &&& Int32.toUInt32 31)).toInt32 &&& 1431655765)) &&& 858993459) + (((x0 - ((x0.toUInt32 >>> ((1 : Int32).toUInt32 &&& Int32.toUInt32 31)).toInt32 &&& 1431655765)).toUInt32 >>> ((2 : Int32).toUInt32 &&& Int32.toUInt32 31)).toInt32 &&& 858993459)) + ((((x0 - ((x0.toUInt32 >>> ((1 : Int32).toUInt32 &&& Int32.toUInt32 31)).toInt32 &&& 1431655765)) &&& 858993459) + (((x0 - ((x0.toUInt32 >>> ((1 : Int32).toUInt32 &&& Int32.toUInt32 31)).toInt32 &&& 1431655765)).toUInt32 >>> ((2 : Int32).toUInt32 &&& Int32.toUInt32 31)).toInt32 &&& 858993459)).toUInt32 >>> ((4 : Int32).toUInt32 &&& Int32.toUInt32 31)).toInt32) &&& 252645135))]) hx hb dJ6_bitCount_0f7a4_33 rfl hl (by decide) rfl (fun ls hl => ?_)
  refine lv_iload_n hx hb dJ6_bitCount_0f7a4_34 rfl (lv_at hl 0 rfl) ?_
  refine lv_iload_n hx hb dJ6_bitCount_0f7a4_35 rfl (lv_at hl 0 rfl) ?_
  refine lv_bipush (v := 8) hx hb dJ6_bitCount_0f7a4_36 rfl ?_
  refine lv_iushr (v := ((((((x0 - ((x0.toUInt32 >>> ((1 : Int32).toUInt32 &&& Int32.toUInt32 31)).toInt32 &&& 1431655765)) &&& 858993459) + (((x0 - ((x0.toUInt32 >>> ((1 : Int32).toUInt32 &&& Int32.toUInt32 31)).toInt32 &&& 1431655765)).toUInt32 >>> ((2 : Int32).toUInt32 &&& Int32.toUInt32 31)).toInt32 &&& 858993459)) + ((((x0 - ((x0.toUInt32 >>> ((1 : Int32).toUInt32 &&& Int32.toUInt32 31)).toInt32 &&& 1431655765)) &&& 858993459) + (((x0 - ((x0.toUInt32 >>> ((1 : Int32).toUInt32 &&& Int32.toUInt32 31)).toInt32 &&& 1431655765)).toUInt32 >>> ((2 : Int32).toUInt32 &&& Int32.toUInt32 31)).toInt32 &&& 858993459)).toUInt32 >>> ((4 : Int32).toUInt32 &&& Int32.toUInt32 31)).toInt32) &&& 252645135).toUInt32 >>> ((8 : Int32).toUInt32 &&& Int32.toUInt32 31)).toInt32) hx hb dJ6_bitCount_0f7a4_38 rfl ?_
  refine lv_iadd hx hb dJ6_bitCount_0f7a4_39 ?_
  refine lv_istore_n (lv' := [(0, .int ((((((x0 - ((x0.toUInt32 >>> ((1 : Int32).toUInt32 &&& Int32.toUInt32 31)).toInt32 &&& 1431655765)) &&& 858993459) + (((x0 - ((x0.toUInt32 >>> ((1 : Int32).toUInt32 &&& Int32.toUInt32 31)).toInt32 &&& 1431655765)).toUInt32 >>> ((2 : Int32).toUInt32 &&& Int32.toUInt32 31)).toInt32 &&& 858993459)) + ((((x0 - ((x0.toUInt32 >>> ((1 : Int32).toUInt32 &&& Int32.toUInt32 31)).toInt32 &&& 1431655765)) &&& 858993459) + (((x0 - ((x0.toUInt32 >>> ((1 : Int32).toUInt32 &&& Int32.toUInt32 31)).toInt32 &&& 1431655765)).toUInt32 >>> ((2 : Int32).toUInt32 &&& Int32.toUInt32 31)).toInt32 &&& 858993459)).toUInt32 >>> ((4 : Int32).toUInt32 &&& Int32.toUInt32 31)).toInt32) &&& 252645135) + ((((((x0 - ((x0.toUInt32 >>> ((1 : Int32).toUInt32 &&& Int32.toUInt32 31)).toInt32 &&& 1431655765)) &&& 858993459) + (((x0 - ((x0.toUInt32 >>> ((1 : Int32).toUInt32 &&& Int32.toUInt32 31)).toInt32 &&& 1431655765)).toUInt32 >>> ((2 : Int32).toUInt32 &&& Int32.toUInt32 31)).toInt32 &&& 858993459)) + ((((x0 - ((x0.toUInt32 >>> ((1 : Int32).toUInt32 &&& Int32.toUInt32 31)).toInt32 &&& 1431655765)) &&& 858993459) + (((x0 - ((x0.toUInt32 >>> ((1 : Int32).toUInt32 &&& Int32.toUInt32 31)).toInt32 &&& 1431655765)).toUInt32 >>> ((2 : Int32).toUInt32 &&& Int32.toUInt32 31)).toInt32 &&& 858993459)).toUInt32 >>> ((4 : Int32).toUInt32 &&& Int32.toUInt32 31)).toInt32) &&& 252645135).toUInt32 >>> ((8 : Int32).toUInt32 &&& Int32.toUInt32 31)).toInt32))]) hx hb dJ6_bitCount_0f7a4_40 rfl hl (by decide) rfl (fun ls hl => ?_)
  refine lv_iload_n hx hb dJ6_bitCount_0f7a4_41 rfl (lv_at hl 0 rfl) ?_
  refine lv_iload_n hx hb dJ6_bitCount_0f7a4_42 rfl (lv_at hl 0 rfl) ?_
  refine lv_bipush (v := 16) hx hb dJ6_bitCount_0f7a4_43 rfl ?_
  refine lv_iushr (v := (((((((x0 - ((x0.toUInt32 >>> ((1 : Int32).toUInt32 &&& Int32.toUInt32 31)).toInt32 &&& 1431655765)) &&& 858993459) + (((x0 - ((x0.toUInt32 >>> ((1 : Int32).toUInt32 &&& Int32.toUInt32 31)).toInt32 &&& 1431655765)).toUInt32 >>> ((2 : Int32).toUInt32 &&& Int32.toUInt32 31)).toInt32 &&& 858993459)) + ((((x0 - ((x0.toUInt32 >>> ((1 : Int32).toUInt32 &&& Int32.toUInt32 31)).toInt32 &&& 1431655765)) &&& 858993459) + (((x0 - ((x0.toUInt32 >>> ((1 : Int32).toUInt32 &&& Int32.toUInt32 31)).toInt32 &&& 1431655765)).toUInt32 >>> ((2 : Int32).toUInt32 &&& Int32.toUInt32 31)).toInt32 &&& 858993459)).toUInt32 >>> ((4 : Int32).toUInt32 &&& Int32.toUInt32 31)).toInt32) &&& 252645135) + ((((((x0 - ((x0.toUInt32 >>> ((1 : Int32).toUInt32 &&& Int32.toUInt32 31)).toInt32 &&& 1431655765)) &&& 858993459) + (((x0 - ((x0.toUInt32 >>> ((1 : Int32).toUInt32 &&& Int32.toUInt32 31)).toInt32 &&& 1431655765)).toUInt32 >>> ((2 : Int32).toUInt32 &&& Int32.toUInt32 31)).toInt32 &&& 858993459)) + ((((x0 - ((x0.toUInt32 >>> ((1 : Int32).toUInt32 &&& Int32.toUInt32 31)).toInt32 &&& 1431655765)) &&& 858993459) + (((x0 - ((x0.toUInt32 >>> ((1 : Int32).toUInt32 &&& Int32.toUInt32 31)).toInt32 &&& 1431655765)).toUInt32 >>> ((2 : Int32).toUInt32 &&& Int32.toUInt32 31)).toInt32 &&& 858993459)).toUInt32 >>> ((4 : Int32).toUInt32 &&& Int32.toUInt32 31)).toInt32) &&& 252645135).toUInt32 >>> ((8 : Int32).toUInt32 &&& Int32.toUInt32 31)).toInt32).toUInt32 >>> ((16 : Int32).toUInt32 &&& Int32.toUInt32 31)).toInt32) hx hb dJ6_bitCount_0f7a4_45 rfl ?_
  refine lv_iadd hx hb dJ6_bitCount_0f7a4_46 ?_
  refine lv_istore_n (lv' := [(0, .int (((((((x0 - ((x0.toUInt32 >>> ((1 : Int32).toUInt32 &&& Int32.toUInt32 31)).toInt32 &&& 1431655765)) &&& 858993459) + (((x0 - ((x0.toUInt32 >>> ((1 : Int32).toUInt32 &&& Int32.toUInt32 31)).toInt32 &&& 1431655765)).toUInt32 >>> ((2 : Int32).toUInt32 &&& Int32.toUInt32 31)).toInt32 &&& 858993459)) + ((((x0 - ((x0.toUInt32 >>> ((1 : Int32).toUInt32 &&& Int32.toUInt32 31)).toInt32 &&& 1431655765)) &&& 858993459) + (((x0 - ((x0.toUInt32 >>> ((1 : Int32).toUInt32 &&& Int32.toUInt32 31)).toInt32 &&& 1431655765)).toUInt32 >>> ((2 : Int32).toUInt32 &&& Int32.toUInt32 31)).toInt32 &&& 858993459)).toUInt32 >>> ((4 : Int32).toUInt32 &&& Int32.toUInt32 31)).toInt32) &&& 252645135) + ((((((x0 - ((x0.toUInt32 >>> ((1 : Int32).toUInt32 &&& Int32.toUInt32 31)).toInt32 &&& 1431655765)) &&& 858993459) + (((x0 - ((x0.toUInt32 >>> ((1 : Int32).toUInt32 &&& Int32.toUInt32 31)).toInt32 &&& 1431655765)).toUInt32 >>> ((2 : Int32).toUInt32 &&& Int32.toUInt32 31)).toInt32 &&& 858993459)) + ((((x0 - ((x0.toUInt32 >>> ((1 : Int32).toUInt32 &&& Int32.toUInt32 31)).toInt32 &&& 1431655765)) &&& 858993459) + (((x0 - ((x0.toUInt32 >>> ((1 : Int32).toUInt32 &&& Int32.toUInt32 31)).toInt32 &&& 1431655765)).toUInt32 >>> ((2 : Int32).toUInt32 &&& Int32.toUInt32 31)).toInt32 &&& 858993459)).toUInt32 >>> ((4 : Int32).toUInt32 &&& Int32.toUInt32 31)).toInt32) &&& 252645135).toUInt32 >>> ((8 : Int32).toUInt32 &&& Int32.toUInt32 31)).toInt32) + (((((((x0 - ((x0.toUInt32 >>> ((1 : Int32).toUInt32 &&& Int32.toUInt32 31)).toInt32 &&& 1431655765)) &&& 858993459) + (((x0 - ((x0.toUInt32 >>> ((1 : Int32).toUInt32 &&& Int32.toUInt32 31)).toInt32 &&& 1431655765)).toUInt32 >>> ((2 : Int32).toUInt32 &&& Int32.toUInt32 31)).toInt32 &&& 858993459)) + ((((x0 - ((x0.toUInt32 >>> ((1 : Int32).toUInt32 &&& Int32.toUInt32 31)).toInt32 &&& 1431655765)) &&& 858993459) + (((x0 - ((x0.toUInt32 >>> ((1 : Int32).toUInt32 &&& Int32.toUInt32 31)).toInt32 &&& 1431655765)).toUInt32 >>> ((2 : Int32).toUInt32 &&& Int32.toUInt32 31)).toInt32 &&& 858993459)).toUInt32 >>> ((4 : Int32).toUInt32 &&& Int32.toUInt32 31)).toInt32) &&& 252645135) + ((((((x0 - ((x0.toUInt32 >>> ((1 : Int32).toUInt32 &&& Int32.toUInt32 31)).toInt32 &&& 1431655765)) &&& 858993459) + (((x0 - ((x0.toUInt32 >>> ((1 : Int32).toUInt32 &&& Int32.toUInt32 31)).toInt32 &&& 1431655765)).toUInt32 >>> ((2 : Int32).toUInt32 &&& Int32.toUInt32 31)).toInt32 &&& 858993459)) + ((((x0 - ((x0.toUInt32 >>> ((1 : Int32).toUInt32 &&& Int32.toUInt32 31)).toInt32 &&& 1431655765)) &&& 858993459) + (((x0 - ((x0.toUInt32 >>> ((1 : Int32).toUInt32 &&& Int32.toUInt32 31)).toInt32 &&& 1431655765)).toUInt32 >>> ((2 : Int32).toUInt32 &&& Int32.toUInt32 31)).toInt32 &&& 858993459)).toUInt32 >>> ((4 : Int32).toUInt32 &&& Int32.toUInt32 31)).toInt32) &&& 252645135).toUInt32 >>> ((8 : Int32).toUInt32 &&& Int32.toUInt32 31)).toInt32).toUInt32 >>> ((16 : Int32).toUInt32 &&& Int32.toUInt32 31)).toInt32))]) hx hb dJ6_bitCount_0f7a4_47 rfl hl (by decide) rfl (fun ls hl => ?_)
  refine lv_iload_n hx hb dJ6_bitCount_0f7a4_48 rfl (lv_at hl 0 rfl) ?_
  refine lv_bipush (v := 63) hx hb dJ6_bitCount_0f7a4_49 rfl ?_
  refine lv_iand hx hb dJ6_bitCount_0f7a4_51 ?_
  have e9 := Option.some.inj hf
  subst e9
  exact hR _ _ _ _ dJ6_bitCount_0f7a4_52 hP hS
