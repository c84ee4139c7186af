abbrev rm_X0_makeEmpty : Room := { frames := 0, cells := 0, slots := 0, locals := 0 }
def fX0_makeEmpty (k : Nat) (d_t : Dat) : Option (Dat) :=
  some ((upd (upd (upd d_t.1 0 0) 7 0) 8 0), d_t.2)
set_option maxHeartbeats 4000000 in
set_option maxRecDepth 100000 in
theorem mX0_makeEmpty (l : Launch) (D : va_G) (cs : Nat → ClassId) (sk : Nat → Nat) (h_t : Nat) (q_t : Nat → Nat) (k : Nat) (d_t : Dat) {rv : Dat} (hf : fX0_makeEmpty k d_t = some rv) : CTv l yX0_makeEmpty (Cond.code yX0_makeEmpty cX0_makeEmpty 1 none :: gtbl) rm_X0_makeEmpty D cs sk [.ref h_t] [oX0 h_t q_t (d_t.1)] [oX0 h_t q_t (rv.1)] := by
  refine CTv.of RX0 (by decide +kernel) rfl (Nat.le_of_ble_eq_true rfl) (fun p e s m args below meth c A Q ls M hA hR hl hP hD hS => ?_)
  obtain ⟨hx, hb, hml, hT, hown, hlk, hrt, hK, hN, hSE⟩ := id M
  replace hl : lv_has ls 1 [(0, .ref h_t)] := hl
  unfold fX0_makeEmpty at hf
  refine lv_aload_n hx hb dX0_makeEmpty_0 rfl (lv_at hl 0 rfl) ?_
  refine lv_iconst (v := 0) hx hb dX0_makeEmpty_1 rfl ?_
  refine va_put (D := D) (ci := 0) (v := .int 0) (ty := tyX0 0) (C := RX0) (T := TX0) (N := 10) hx hb hT iX0 tyX0 tyX0_ok nmX0 hown hK hP hD hS 0 rfl rfl 0 (by decide) (hT _ fw_X0_9) (fun _ h9 => h9) rfl (tyX0_ok 0 (by decide)) rfl rfl (Nat.le_of_ble_eq_true rfl) dX0_makeEmpty_2 (fun H locs hP hD hS => ?_)
  replace hP : va_P D vwCl [oX0 h_t q_t (upd d_t.1 0 0)] H := hP
  replace hD : va_D A [oX0 h_t q_t (upd d_t.1 0 0)] := hD
  refine lv_aload_n hx hb dX0_makeEmpty_5 rfl (lv_at hl 0 rfl) ?_
  refine lv_iconst (v := 0) hx hb dX0_makeEmpty_6 rfl ?_
  refine va_put (D := D) (ci := 0) (v := .int 0) (ty := tyX0 7) (C := RX0) (T := TX0) (N := 10) hx hb hT iX0 tyX0 tyX0_ok nmX0 hown hK hP hD hS 0 rfl rfl 7 (by decide) (hT _ fw_X0_34) (fun _ h9 => h9) rfl (tyX0_ok 7 (by decide)) rfl rfl (Nat.le_of_ble_eq_true rfl) dX0_makeEmpty_7 (fun H locs hP hD hS => ?_)
  replace hP : va_P D vwCl [oX0 h_t q_t (upd (upd d_t.1 0 0) 7 0)] H := hP
  replace hD : va_D A [oX0 h_t q_t (upd (upd d_t.1 0 0) 7 0)] := hD
  refine lv_aload_n hx hb dX0_makeEmpty_10 rfl (lv_at hl 0 rfl) ?_
  refine lv_iconst (v := 0) hx hb dX0_makeEmpty_11 rfl ?_
  refine va_put (D := D) (ci := 0) (v := .int 0) (ty := tyX0 8) (C := RX0) (T := TX0) (N := 10) hx hb hT iX0 tyX0 tyX0_ok nmX0 hown hK hP hD hS 0 rfl rfl 8 (by decide) (hT _ fw_X0_37) (fun _ h9 => h9) rfl (tyX0_ok 8 (by decide)) rfl rfl (Nat.le_of_ble_eq_true rfl) dX0_makeEmpty_12 (fun H locs hP hD hS => ?_)
  replace hP : va_P D vwCl [oX0 h_t q_t (upd (upd (upd d_t.1 0 0) 7 0) 8 0)] H := hP
  replace hD : va_D A [oX0 h_t q_t (upd (upd (upd d_t.1 0 0) 7 0) 8 0)] := hD
  have e9 := Option.some.inj hf
  subst e9
  exact hR _ _ _ _ dX0_makeEmpty_15 hP hS
abbrev rm_X0_becomeLike : Room := { frames := 2, cells := 0, slots := 0, locals := 81 }
def fX0_becomeLike (k : Nat) (d_t : Dat) (d_a1 : Dat) : Option (Dat) :=
  (fX6_copyRow k 6 6 (d_a1.2 1) (d_t.2 1)).bind (fun (r1 : (Nat → Int32)) => (fX6_copyRow k 6 6 (d_a1.2 2) (d_t.2 2)).bind (fun (r3 : (Nat → Int32)) => (fX6_copyRow k 6 6 (d_a1.2 3) (d_t.2 3)).bind (fun (r5 : (Nat → Int32)) => (fX6_copyRow k 6 6 (d_a1.2 4) (d_t.2 4)).bind (fun (r7 : (Nat → Int32)) => (fX6_copyRow k 6 6 (d_a1.2 5) (d_t.2 5)).bind (fun (r9 : (Nat → Int32)) => (fX6_copyRow k 48 48 (d_a1.2 9) (d_t.2 9)).bind (fun (r11 : (Nat → Int32)) => some ((upd (upd (upd d_t.1 0 (d_a1.1 0)) 7 (d_a1.1 7)) 8 (d_a1.1 8)), (va_up (va_up (va_up (va_up (va_up (va_up d_t.2 1 r1) 2 r3) 3 r5) 4 r7) 5 r9) 9 r11))))))))
set_option maxHeartbeats 4000000 in
set_option maxRecDepth 100000 in
theorem mX0_becomeLike (l : Launch) (D : va_G) (cs : Nat → ClassId) (sk : Nat → Nat) (h_t : Nat) (h_a1 : Nat) (q_t : Nat → Nat) (q_a1 : Nat → Nat) (k : Nat) (d_t : Dat) (d_a1 : Dat) {rv : Dat} (hf : fX0_becomeLike k d_t d_a1 = some rv) : CTv l yX0_becomeLike (Cond.code yX0_becomeLike cX0_becomeLike 2 none :: gtbl) rm_X0_becomeLike D cs sk [.ref h_t, .ref h_a1] [oX0 h_t q_t (d_t.1), ((q_t 1), .inl (cs 0, 6, .inl (d_t.2 1))), ((q_t 2), .inl (cs 0, 6, .inl (d_t.2 2))), ((q_t 3), .inl (cs 0, 6, .inl (d_t.2 3))), ((q_t 4), .inl (cs 0, 6, .inl (d_t.2 4))), ((q_t 5), .inl (cs 0, 6, .inl (d_t.2 5))), ((q_t 9), .inl (cs 0, 48, .inl (d_t.2 9))), oX0 h_a1 q_a1 (d_a1.1), ((q_a1 1), .inl (cs 0, 6, .inl (d_a1.2 1))), ((q_a1 2), .inl (cs 0, 6, .inl (d_a1.2 2))), ((q_a1 3), .inl (cs 0, 6, .inl (d_a1.2 3))), ((q_a1 4), .inl (cs 0, 6, .inl (d_a1.2 4))), ((q_a1 5), .inl (cs 0, 6, .inl (d_a1.2 5))), ((q_a1 9), .inl (cs 0, 48, .inl (d_a1.2 9)))] [oX0 h_t q_t (rv.1), ((q_t 1), .inl (cs 0, 6, .inl (rv.2 1))), ((q_t 2), .inl (cs 0, 6, .inl (rv.2 2))), ((q_t 3), .inl (cs 0, 6, .inl (rv.2 3))), ((q_t 4), .inl (cs 0, 6, .inl (rv.2 4))), ((q_t 5), .inl (cs 0, 6, .inl (rv.2 5))), ((q_t 9), .inl (cs 0, 48, .inl (rv.2 9))), oX0 h_a1 q_a1 (d_a1.1), ((q_a1 1), .inl (cs 0, 6, .inl (d_a1.2 1))), ((q_a1 2), .inl (cs 0, 6, .inl (d_a1.2 2))), ((q_a1 3), .inl (cs 0, 6, .inl (d_a1.2 3))), ((q_a1 4), .inl (cs 0, 6, .inl (d_a1.2 4))), ((q_a1 5), .inl (cs 0, 6, .inl (d_a1.2 5))), ((q_a1 9), .inl (cs 0, 48, .inl (d_a1.2 9)))] := by
  refine CTv.of RX0 (by decide +kernel) rfl (Nat.le_of_ble_eq_true rfl) (fun p e s m args below meth c A Q ls M hA hR hl hP hD hS => ?_)
  obtain ⟨hx, hb, hml, hT, hown, hlk, hrt, hK, hN, hSE⟩ := id M
  replace hl : lv_has ls 2 [(0, .ref h_t), (1, .ref h_a1)] := hl
  unfold fX0_becomeLike at hf
  refine lv_aload_n hx hb dX0_becomeLike_0 rfl (lv_at hl 0 rfl) ?_
  refine lv_aload_n hx hb dX0_becomeLike_1 rfl (lv_at hl 1 rfl) ?_
  refine va_get (D := D) (ci := 0) (v := .int (d_a1.1 0)) (C := RX0) (T := TX0) (N := 10) hx hb hT iX0 hown hK hP 7 rfl rfl 0 (by decide) (hT _ fw_X0_9) (fun _ h9 => h9) rfl dX0_becomeLike_2 ?_
  refine va_put (D := D) (ci := 0) (v := .int (d_a1.1 0)) (ty := tyX0 0) (C := RX0) (T := TX0) (N := 10) hx hb hT iX0 tyX0 tyX0_ok nmX0 hown hK hP hD hS 0 rfl rfl 0 (by decide) (hT _ fw_X0_9) (fun _ h9 => h9) rfl (tyX0_ok 0 (by decide)) rfl rfl (Nat.le_of_ble_eq_true rfl) dX0_becomeLike_5 (fun H locs hP hD hS => ?_)
  replace hP : va_P D vwCl [oX0 h_t q_t (upd d_t.1 0 (d_a1.1 0)), ((q_t 1), .inl (cs 0, 6, .inl (d_t.2 1))), ((q_t 2), .inl (cs 0, 6, .inl (d_t.2 2))), ((q_t 3), .inl (cs 0, 6, .inl (d_t.2 3))), ((q_t 4), .inl (cs 0, 6, .inl (d_t.2 4))), ((q_t 5), .inl (cs 0, 6, .inl (d_t.2 5))), ((q_t 9), .inl (cs 0, 48, .inl (d_t.2 9))), oX0 h_a1 q_a1 (d_a1.1), ((q_a1 1), .inl (cs 0, 6, .inl (d_a1.2 1))), ((q_a1 2), .inl (cs 0, 6, .inl (d_a1.2 2))), ((q_a1 3), .inl (cs 0, 6, .inl (d_a1.2 3))), ((q_a1 4), .inl (cs 0, 6, .inl (d_a1.2 4))), ((q_a1 5), .inl (cs 0, 6, .inl (d_a1.2 5))), ((q_a1 9), .inl (cs 0, 48, .inl (d_a1.2 9)))] H := hP
  replace hD : va_D A [oX0 h_t q_t (upd d_t.1 0 (d_a1.1 0)), ((q_t 1), .inl (cs 0, 6, .inl (d_t.2 1))), ((q_t 2), .inl (cs 0, 6, .inl (d_t.2 2))), ((q_t 3), .inl (cs 0, 6, .inl (d_t.2 3))), ((q_t 4), .inl (cs 0, 6, .inl (d_t.2 4))), ((q_t 5), .inl (cs 0, 6, .inl (d_t.2 5))), ((q_t 9), .inl (cs 0, 48, .inl (d_t.2 9))), oX0 h_a1 q_a1 (d_a1.1), ((q_a1 1), .inl (cs 0, 6, .inl (d_a1.2 1))), ((q_a1 2), .inl (cs 0, 6, .inl (d_a1.2 2))), ((q_a1 3), .inl (cs 0, 6, .inl (d_a1.2 3))), ((q_a1 4), .inl (cs 0, 6, .inl (d_a1.2 4))), ((q_a1 5), .inl (cs 0, 6, .inl (d_a1.2 5))), ((q_a1 9), .inl (cs 0, 48, .inl (d_a1.2 9)))] := hD
  refine lv_aload_n hx hb dX0_becomeLike_8 rfl (lv_at hl 1 rfl) ?_
  refine va_get (D := D) (ci := 0) (v := .ref (q_a1 1)) (C := RX0) (T := TX0) (N := 10) hx hb hT iX0 hown hK hP 7 rfl rfl 1 (by decide) (hT _ fw_X0_15) (fun _ h9 => h9) rfl dX0_becomeLike_9 ?_
  refine lv_aload_n hx hb dX0_becomeLike_12 rfl (lv_at hl 0 rfl) ?_
  refine va_get (D := D) (ci := 0) (v := .ref (q_t 1)) (C := RX0) (T := TX0) (N := 10) hx hb hT iX0 hown hK hP 0 rfl rfl 1 (by decide) (hT _ fw_X0_15) (fun _ h9 => h9) rfl dX0_becomeLike_13 ?_
  obtain ⟨r1, e2, hf⟩ := bind_some hf
  refine callSNv (As := [.ref (q_a1 1), .ref (q_t 1)]) (rest := []) M (mX6_copyRow l D cs sk (q_a1 1) (q_t 1) k 6 6 (d_a1.2 1) (d_t.2 1) e2) mw_X0_43 ln_X6_copyRow ⟨rfl, rfl, Nat.le_of_ble_eq_true rfl, Nat.le_of_ble_eq_true rfl⟩ hP hD hS hA [8, 1] (by decide) rfl rfl ⟨Nat.zero_le _, Nat.zero_le _⟩ hl.1 rfl (Nat.le_of_ble_eq_true rfl) dX0_becomeLike_16 (fun H locs hP hD hS => ?_)
  replace hP : va_P D vwCl [oX0 h_t q_t (upd d_t.1 0 (d_a1.1 0)), ((q_t 1), .inl (cs 0, 6, .inl r1)), ((q_t 2), .inl (cs 0, 6, .inl (d_t.2 2))), ((q_t 3), .inl (cs 0, 6, .inl (d_t.2 3))), ((q_t 4), .inl (cs 0, 6, .inl (d_t.2 4))), ((q_t 5), .inl (cs 0, 6, .inl (d_t.2 5))), ((q_t 9), .inl (cs 0, 48, .inl (d_t.2 9))), oX0 h_a1 q_a1 (d_a1.1), ((q_a1 1), .inl (cs 0, 6, .inl (d_a1.2 1))), ((q_a1 2), .inl (cs 0, 6, .inl (d_a1.2 2))), ((q_a1 3), .inl (cs 0, 6, .inl (d_a1.2 3))), ((q_a1 4), .inl (cs 0, 6, .inl (d_a1.2 4))), ((q_a1 5), .inl (cs 0, 6, .inl (d_a1.2 5))), ((q_a1 9), .inl (cs 0, 48, .inl (d_a1.2 9)))] H := hP
  replace hD : va_D A [oX0 h_t q_t (upd d_t.1 0 (d_a1.1 0)), ((q_t 1), .inl (cs 0, 6, .inl r1)), ((q_t 2), .inl (cs 0, 6, .inl (d_t.2 2))), ((q_t 3), .inl (cs 0, 6, .inl (d_t.2 3))), ((q_t 4), .inl (cs 0, 6, .inl (d_t.2 4))), ((q_t 5), .inl (cs 0, 6, .inl (d_t.2 5))), ((q_t 9), .inl (cs 0, 48, .inl (d_t.2 9))), oX0 h_a1 q_a1 (d_a1.1), ((q_a1 1), .inl (cs 0, 6, .inl (d_a1.2 1))), ((q_a1 2), .inl (cs 0, 6, .inl (d_a1.2 2))), ((q_a1 3), .inl (cs 0, 6, .inl (d_a1.2 3))), ((q_a1 4), .inl (cs 0, 6, .inl (d_a1.2 4))), ((q_a1 5), .inl (cs 0, 6, .inl (d_a1.2 5))), ((q_a1 9), .inl (cs 0, 48, .inl (d_a1.2 9)))] := hD
  refine lv_aload_n hx hb dX0_becomeLike_19 rfl (lv_at hl 1 rfl) ?_
  refine va_get (D := D) (ci := 0) (v := .ref (q_a1 2)) (C := RX0) (T := TX0) (N := 10) hx hb hT iX0 hown hK hP 7 rfl rfl 2 (by decide) (hT _ fw_X0_19) (fun _ h9 => h9) rfl dX0_becomeLike_20 ?_
  refine lv_aload_n hx hb dX0_becomeLike_23 rfl (lv_at hl 0 rfl) ?_
  refine va_get (D := D) (ci := 0) (v := .ref (q_t 2)) (C := RX0) (T := TX0) (N := 10) hx hb hT iX0 hown hK hP 0 rfl rfl 2 (by decide) (hT _ fw_X0_19) (fun _ h9 => h9) rfl dX0_becomeLike_24 ?_
  obtain ⟨r3, e4, hf⟩ := bind_some hf
  refine callSNv (As := [.ref (q_a1 2), .ref (q_t 2)]) (rest := []) M (mX6_copyRow l D cs sk (q_a1 2) (q_t 2) k 6 6 (d_a1.2 2) (d_t.2 2) e4) mw_X0_43 ln_X6_copyRow ⟨rfl, rfl, Nat.le_of_ble_eq_true rfl, Nat.le_of_ble_eq_true rfl⟩ hP hD hS hA [9, 2] (by decide) rfl rfl ⟨Nat.zero_le _, Nat.zero_le _⟩ hl.1 rfl (Nat.le_of_ble_eq_true rfl) dX0_becomeLike_27 (fun H locs hP hD hS => ?_)
  replace hP : va_P D vwCl [oX0 h_t q_t (upd d_t.1 0 (d_a1.1 0)), ((q_t 1), .inl (cs 0, 6, .inl r1)), ((q_t 2), .inl (cs 0, 6, .inl r3)), ((q_t 3), .inl (cs 0, 6, .inl (d_t.2 3))), ((q_t 4), .inl (cs 0, 6, .inl (d_t.2 4))), ((q_t 5), .inl (cs 0, 6, .inl (d_t.2 5))), ((q_t 9), .inl (cs 0, 48, .inl (d_t.2 9))), oX0 h_a1 q_a1 (d_a1.1), ((q_a1 1), .inl (cs 0, 6, .inl (d_a1.2 1))), ((q_a1 2), .inl (cs 0, 6, .inl (d_a1.2 2))), ((q_a1 3), .inl (cs 0, 6, .inl (d_a1.2 3))), ((q_a1 4), .inl (cs 0, 6, .inl (d_a1.2 4))), ((q_a1 5), .inl (cs 0, 6, .inl (d_a1.2 5))), ((q_a1 9), .inl (cs 0, 48, .inl (d_a1.2 9)))] H := hP
  replace hD : va_D A [oX0 h_t q_t (upd d_t.1 0 (d_a1.1 0)), ((q_t 1), .inl (cs 0, 6, .inl r1)), ((q_t 2), .inl (cs 0, 6, .inl r3)), ((q_t 3), .inl (cs 0, 6, .inl (d_t.2 3))), ((q_t 4), .inl (cs 0, 6, .inl (d_t.2 4))), ((q_t 5), .inl (cs 0, 6, .inl (d_t.2 5))), ((q_t 9), .inl (cs 0, 48, .inl (d_t.2 9))), oX0 h_a1 q_a1 (d_a1.1), ((q_a1 1), .inl (cs 0, 6, .inl (d_a1.2 1))), ((q_a1 2), .inl (cs 0, 6, .inl (d_a1.2 2))), ((q_a1 3), .inl (cs 0, 6, .inl (d_a1.2 3))), ((q_a1 4), .inl (cs 0, 6, .inl (d_a1.2 4))), ((q_a1 5), .inl (cs 0, 6, .inl (d_a1.2 5))), ((q_a1 9), .inl (cs 0, 48, .inl (d_a1.2 9)))] := hD
  refine lv_aload_n hx hb dX0_becomeLike_30 rfl (lv_at hl 1 rfl) ?_
  refine va_get (D := D) (ci := 0) (v := .ref (q_a1 3)) (C := RX0) (T := TX0) (N := 10) hx hb hT iX0 hown hK hP 7 rfl rfl 3 (by decide) (hT _ fw_X0_22) (fun _ h9 => h9) rfl dX0_becomeLike_31 ?_
  refine lv_aload_n hx hb dX0_becomeLike_34 rfl (lv_at hl 0 rfl) ?_
  refine va_get (D := D) (ci := 0) (v := .ref (q_t 3)) (C := RX0) (T := TX0) (N := 10) hx hb hT iX0 hown hK hP 0 rfl rfl 3 (by decide) (hT _ fw_X0_22) (fun _ h9 => h9) rfl dX0_becomeLike_35 ?_
  obtain ⟨r5, e6, hf⟩ := bind_some hf
  refine callSNv (As := [.ref (q_a1 3), .ref (q_t 3)]) (rest := []) M (mX6_copyRow l D cs sk (q_a1 3) (q_t 3) k 6 6 (d_a1.2 3) (d_t.2 3) e6) mw_X0_43 ln_X6_copyRow ⟨rfl, rfl, Nat.le_of_ble_eq_true rfl, Nat.le_of_ble_eq_true rfl⟩ hP hD hS hA [10, 3] (by decide) rfl rfl ⟨Nat.zero_le _, Nat.zero_le _⟩ hl.1 rfl (Nat.le_of_ble_eq_true rfl) dX0_becomeLike_38 (fun H locs hP hD hS => ?_)
  replace hP : va_P D vwCl [oX0 h_t q_t (upd d_t.1 0 (d_a1.1 0)), ((q_t 1), .inl (cs 0, 6, .inl r1)), ((q_t 2), .inl (cs 0, 6, .inl r3)), ((q_t 3), .inl (cs 0, 6, .inl r5)), ((q_t 4), .inl (cs 0, 6, .inl (d_t.2 4))), ((q_t 5), .inl (cs 0, 6, .inl (d_t.2 5))), ((q_t 9), .inl (cs 0, 48, .inl (d_t.2 9))), oX0 h_a1 q_a1 (d_a1.1), ((q_a1 1), .inl (cs 0, 6, .inl (d_a1.2 1))), ((q_a1 2), .inl (cs 0, 6, .inl (d_a1.2 2))), ((q_a1 3), .inl (cs 0, 6, .inl (d_a1.2 3))), ((q_a1 4), .inl (cs 0, 6, .inl (d_a1.2 4))), ((q_a1 5), .inl (cs 0, 6, .inl (d_a1.2 5))), ((q_a1 9), .inl (cs 0, 48, .inl (d_a1.2 9)))] H := hP
  replace hD : va_D A [oX0 h_t q_t (upd d_t.1 0 (d_a1.1 0)), ((q_t 1), .inl (cs 0, 6, .inl r1)), ((q_t 2), .inl (cs 0, 6, .inl r3)), ((q_t 3), .inl (cs 0, 6, .inl r5)), ((q_t 4), .inl (cs 0, 6, .inl (d_t.2 4))), ((q_t 5), .inl (cs 0, 6, .inl (d_t.2 5))), ((q_t 9), .inl (cs 0, 48, .inl (d_t.2 9))), oX0 h_a1 q_a1 (d_a1.1), ((q_a1 1), .inl (cs 0, 6, .inl (d_a1.2 1))), ((q_a1 2), .inl (cs 0, 6, .inl (d_a1.2 2))), ((q_a1 3), .inl (cs 0, 6, .inl (d_a1.2 3))), ((q_a1 4), .inl (cs 0, 6, .inl (d_a1.2 4))), ((q_a1 5), .inl (cs 0, 6, .inl (d_a1.2 5))), ((q_a1 9), .inl (cs 0, 48, .inl (d_a1.2 9)))] := hD
  refine lv_aload_n hx hb dX0_becomeLike_41 rfl (lv_at hl 1 rfl) ?_
  refine va_get (D := D) (ci := 0) (v := .ref (q_a1 4)) (C := RX0) (T := TX0) (N := 10) hx hb hT iX0 hown hK hP 7 rfl rfl 4 (by decide) (hT _ fw_X0_25) (fun _ h9 => h9) rfl dX0_becomeLike_42 ?_
  refine lv_aload_n hx hb dX0_becomeLike_45 rfl (lv_at hl 0 rfl) ?_
  refine va_get (D := D) (ci := 0) (v := .ref (q_t 4)) (C := RX0) (T := TX0) (N := 10) hx hb hT iX0 hown hK hP 0 rfl rfl 4 (by decide) (hT _ fw_X0_25) (fun _ h9 => h9) rfl dX0_becomeLike_46 ?_
  obtain ⟨r7, e8, hf⟩ := bind_some hf
  refine callSNv (As := [.ref (q_a1 4), .ref (q_t 4)]) (rest := []) M (mX6_copyRow l D cs sk (q_a1 4) (q_t 4) k 6 6 (d_a1.2 4) (d_t.2 4) e8) mw_X0_43 ln_X6_copyRow ⟨rfl, rfl, Nat.le_of_ble_eq_true rfl, Nat.le_of_ble_eq_true rfl⟩ hP hD hS hA [11, 4] (by decide) rfl rfl ⟨Nat.zero_le _, Nat.zero_le _⟩ hl.1 rfl (Nat.le_of_ble_eq_true rfl) dX0_becomeLike_49 (fun H locs hP hD hS => ?_)
  replace hP : va_P D vwCl [oX0 h_t q_t (upd d_t.1 0 (d_a1.1 0)), ((q_t 1), .inl (cs 0, 6, .inl r1)), ((q_t 2), .inl (cs 0, 6, .inl r3)), ((q_t 3), .inl (cs 0, 6, .inl r5)), ((q_t 4), .inl (cs 0, 6, .inl r7)), ((q_t 5), .inl (cs 0, 6, .inl (d_t.2 5))), ((q_t 9), .inl (cs 0, 48, .inl (d_t.2 9))), oX0 h_a1 q_a1 (d_a1.1), ((q_a1 1), .inl (cs 0, 6, .inl (d_a1.2 1))), ((q_a1 2), .inl (cs 0, 6, .inl (d_a1.2 2))), ((q_a1 3), .inl (cs 0, 6, .inl (d_a1.2 3))), ((q_a1 4), .inl (cs 0, 6, .inl (d_a1.2 4))), ((q_a1 5), .inl (cs 0, 6, .inl (d_a1.2 5))), ((q_a1 9), .inl (cs 0, 48, .inl (d_a1.2 9)))] H := hP
  replace hD : va_D A [oX0 h_t q_t (upd d_t.1 0 (d_a1.1 0)), ((q_t 1), .inl (cs 0, 6, .inl r1)), ((q_t 2), .inl (cs 0, 6, .inl r3)), ((q_t 3), .inl (cs 0, 6, .inl r5)), ((q_t 4), .inl (cs 0, 6, .inl r7)), ((q_t 5), .inl (cs 0, 6, .inl (d_t.2 5))), ((q_t 9), .inl (cs 0, 48, .inl (d_t.2 9))), oX0 h_a1 q_a1 (d_a1.1), ((q_a1 1), .inl (cs 0, 6, .inl (d_a1.2 1))), ((q_a1 2), .inl (cs 0, 6, .inl (d_a1.2 2))), ((q_a1 3), .inl (cs 0, 6, .inl (d_a1.2 3))), ((q_a1 4), .inl (cs 0, 6, .inl (d_a1.2 4))), ((q_a1 5), .inl (cs 0, 6, .inl (d_a1.2 5))), ((q_a1 9), .inl (cs 0, 48, .inl (d_a1.2 9)))] := hD
  refine lv_aload_n hx hb dX0_becomeLike_52 rfl (lv_at hl 1 rfl) ?_
  refine va_get (D := D) (ci := 0) (v := .ref (q_a1 5)) (C := RX0) (T := TX0) (N := 10) hx hb hT iX0 hown hK hP 7 rfl rfl 5 (by decide) (hT _ fw_X0_28) (fun _ h9 => h9) rfl dX0_becomeLike_53 ?_
  refine lv_aload_n hx hb dX0_becomeLike_56 rfl (lv_at hl 0 rfl) ?_
  refine va_get (D := D) (ci := 0) (v := .ref (q_t 5)) (C := RX0) (T := TX0) (N := 10) hx hb hT iX0 hown hK hP 0 rfl rfl 5 (by decide) (hT _ fw_X0_28) (fun _ h9 => h9) rfl dX0_becomeLike_57 ?_
  obtain ⟨r9, e10, hf⟩ := bind_some hf
  refine callSNv (As := [.ref (q_a1 5), .ref (q_t 5)]) (rest := []) M (mX6_copyRow l D cs sk (q_a1 5) (q_t 5) k 6 6 (d_a1.2 5) (d_t.2 5) e10) mw_X0_43 ln_X6_copyRow ⟨rfl, rfl, Nat.le_of_ble_eq_true rfl, Nat.le_of_ble_eq_true rfl⟩ hP hD hS hA [12, 5] (by decide) rfl rfl ⟨Nat.zero_le _, Nat.zero_le _⟩ hl.1 rfl (Nat.le_of_ble_eq_true rfl) dX0_becomeLike_60 (fun H locs hP hD hS => ?_)
  replace hP : va_P D vwCl [oX0 h_t q_t (upd d_t.1 0 (d_a1.1 0)), ((q_t 1), .inl (cs 0, 6, .inl r1)), ((q_t 2), .inl (cs 0, 6, .inl r3)), ((q_t 3), .inl (cs 0, 6, .inl r5)), ((q_t 4), .inl (cs 0, 6, .inl r7)), ((q_t 5), .inl (cs 0, 6, .inl r9)), ((q_t 9), .inl (cs 0, 48, .inl (d_t.2 9))), oX0 h_a1 q_a1 (d_a1.1), ((q_a1 1), .inl (cs 0, 6, .inl (d_a1.2 1))), ((q_a1 2), .inl (cs 0, 6, .inl (d_a1.2 2))), ((q_a1 3), .inl (cs 0, 6, .inl (d_a1.2 3))), ((q_a1 4), .inl (cs 0, 6, .inl (d_a1.2 4))), ((q_a1 5), .inl (cs 0, 6, .inl (d_a1.2 5))), ((q_a1 9), .inl (cs 0, 48, .inl (d_a1.2 9)))] H := hP
  replace hD : va_D A [oX0 h_t q_t (upd d_t.1 0 (d_a1.1 0)), ((q_t 1), .inl (cs 0, 6, .inl r1)), ((q_t 2), .inl (cs 0, 6, .inl r3)), ((q_t 3), .inl (cs 0, 6, .inl r5)), ((q_t 4), .inl (cs 0, 6, .inl r7)), ((q_t 5), .inl (cs 0, 6, .inl r9)), ((q_t 9), .inl (cs 0, 48, .inl (d_t.2 9))), oX0 h_a1 q_a1 (d_a1.1), ((q_a1 1), .inl (cs 0, 6, .inl (d_a1.2 1))), ((q_a1 2), .inl (cs 0, 6, .inl (d_a1.2 2))), ((q_a1 3), .inl (cs 0, 6, .inl (d_a1.2 3))), ((q_a1 4), .inl (cs 0, 6, .inl (d_a1.2 4))), ((q_a1 5), .inl (cs 0, 6, .inl (d_a1.2 5))), ((q_a1 9), .inl (cs 0, 48, .inl (d_a1.2 9)))] := hD
  refine lv_aload_n hx hb dX0_becomeLike_63 rfl (lv_at hl 0 rfl) ?_
  refine lv_aload_n hx hb dX0_becomeLike_64 rfl (lv_at hl 1 rfl) ?_
  refine va_get (D := D) (ci := 0) (v := .int (d_a1.1 7)) (C := RX0) (T := TX0) (N := 10) hx hb hT iX0 hown hK hP 7 rfl rfl 7 (by decide) (hT _ fw_X0_34) (fun _ h9 => h9) rfl dX0_becomeLike_65 ?_
  refine va_put (D := D) (ci := 0) (v := .int (d_a1.1 7)) (ty := tyX0 7) (C := RX0) (T := TX0) (N := 10) hx hb hT iX0 tyX0 tyX0_ok nmX0 hown hK hP hD hS 0 rfl rfl 7 (by decide) (hT _ fw_X0_34) (fun _ h9 => h9) rfl (tyX0_ok 7 (by decide)) rfl rfl (Nat.le_of_ble_eq_true rfl) dX0_becomeLike_68 (fun H locs hP hD hS => ?_)
  replace hP : va_P D vwCl [oX0 h_t q_t (upd (upd d_t.1 0 (d_a1.1 0)) 7 (d_a1.1 7)), ((q_t 1), .inl (cs 0, 6, .inl r1)), ((q_t 2), .inl (cs 0, 6, .inl r3)), ((q_t 3), .inl (cs 0, 6, .inl r5)), ((q_t 4), .inl (cs 0, 6, .inl r7)), ((q_t 5), .inl (cs 0, 6, .inl r9)), ((q_t 9), .inl (cs 0, 48, .inl (d_t.2 9))), oX0 h_a1 q_a1 (d_a1.1), ((q_a1 1), .inl (cs 0, 6, .inl (d_a1.2 1))), ((q_a1 2), .inl (cs 0, 6, .inl (d_a1.2 2))), ((q_a1 3), .inl (cs 0, 6, .inl (d_a1.2 3))), ((q_a1 4), .inl (cs 0, 6, .inl (d_a1.2 4))), ((q_a1 5), .inl (cs 0, 6, .inl (d_a1.2 5))), ((q_a1 9), .inl (cs 0, 48, .inl (d_a1.2 9)))] H := hP
  replace hD : va_D A [oX0 h_t q_t (upd (upd d_t.1 0 (d_a1.1 0)) 7 (d_a1.1 7)), ((q_t 1), .inl (cs 0, 6, .inl r1)), ((q_t 2), .inl (cs 0, 6, .inl r3)), ((q_t 3), .inl (cs 0, 6, .inl r5)), ((q_t 4), .inl (cs 0, 6, .inl r7)), ((q_t 5), .inl (cs 0, 6, .inl r9)), ((q_t 9), .inl (cs 0, 48, .inl (d_t.2 9))), oX0 h_a1 q_a1 (d_a1.1), ((q_a1 1), .inl (cs 0, 6, .inl (d_a1.2 1))), ((q_a1 2), .inl (cs 0, 6, .inl (d_a1.2 2))), ((q_a1 3), .inl (cs 0, 6, .inl (d_a1.2 3))), ((q_a1 4), .inl (cs 0, 6, .inl (d_a1.2 4))), ((q_a1 5), .inl (cs 0, 6, .inl (d_a1.2 5))), ((q_a1 9), .inl (cs 0, 48, .inl (d_a1.2 9)))] := hD
  refine lv_aload_n hx hb dX0_becomeLike_71 rfl (lv_at hl 0 rfl) ?_
  refine lv_aload_n hx hb dX0_becomeLike_72 rfl (lv_at hl 1 rfl) ?_
  refine va_get (D := D) (ci := 0) (v := .int (d_a1.1 8)) (C := RX0) (T := TX0) (N := 10) hx hb hT iX0 hown hK hP 7 rfl rfl 8 (by decide) (hT _ fw_X0_37) (fun _ h9 => h9) rfl dX0_becomeLike_73 ?_
  refine va_put (D := D) (ci := 0) (v := .int (d_a1.1 8)) (ty := tyX0 8) (C := RX0) (T := TX0) (N := 10) hx hb hT iX0 tyX0 tyX0_ok nmX0 hown hK hP hD hS 0 rfl rfl 8 (by decide) (hT _ fw_X0_37) (fun _ h9 => h9) rfl (tyX0_ok 8 (by decide)) rfl rfl (Nat.le_of_ble_eq_true rfl) dX0_becomeLike_76 (fun H locs hP hD hS => ?_)
  replace hP : va_P D vwCl [oX0 h_t q_t (upd (upd (upd d_t.1 0 (d_a1.1 0)) 7 (d_a1.1 7)) 8 (d_a1.1 8)), ((q_t 1), .inl (cs 0, 6, .inl r1)), ((q_t 2), .inl (cs 0, 6, .inl r3)), ((q_t 3), .inl (cs 0, 6, .inl r5)), ((q_t 4), .inl (cs 0, 6, .inl r7)), ((q_t 5), .inl (cs 0, 6, .inl r9)), ((q_t 9), .inl (cs 0, 48, .inl (d_t.2 9))), oX0 h_a1 q_a1 (d_a1.1), ((q_a1 1), .inl (cs 0, 6, .inl (d_a1.2 1))), ((q_a1 2), .inl (cs 0, 6, .inl (d_a1.2 2))), ((q_a1 3), .inl (cs 0, 6, .inl (d_a1.2 3))), ((q_a1 4), .inl (cs 0, 6, .inl (d_a1.2 4))), ((q_a1 5), .inl (cs 0, 6, .inl (d_a1.2 5))), ((q_a1 9), .inl (cs 0, 48, .inl (d_a1.2 9)))] H := hP
  replace hD : va_D A [oX0 h_t q_t (upd (upd (upd d_t.1 0 (d_a1.1 0)) 7 (d_a1.1 7)) 8 (d_a1.1 8)), ((q_t 1), .inl (cs 0, 6, .inl r1)), ((q_t 2), .inl (cs 0, 6, .inl r3)), ((q_t 3), .inl (cs 0, 6, .inl r5)), ((q_t 4), .inl (cs 0, 6, .inl r7)), ((q_t 5), .inl (cs 0, 6, .inl r9)), ((q_t 9), .inl (cs 0, 48, .inl (d_t.2 9))), oX0 h_a1 q_a1 (d_a1.1), ((q_a1 1), .inl (cs 0, 6, .inl (d_a1.2 1))), ((q_a1 2), .inl (cs 0, 6, .inl (d_a1.2 2))), ((q_a1 3), .inl (cs 0, 6, .inl (d_a1.2 3))), ((q_a1 4), .inl (cs 0, 6, .inl (d_a1.2 4))), ((q_a1 5), .inl (cs 0, 6, .inl (d_a1.2 5))), ((q_a1 9), .inl (cs 0, 48, .inl (d_a1.2 9)))] := hD
  refine lv_aload_n hx hb dX0_becomeLike_79 rfl (lv_at hl 1 rfl) ?_
  refine va_get (D := D) (ci := 0) (v := .ref (q_a1 9)) (C := RX0) (T := TX0) (N := 10) hx hb hT iX0 hown hK hP 7 rfl rfl 9 (by decide) (hT _ fw_X0_40) (fun _ h9 => h9) rfl dX0_becomeLike_80 ?_
  refine lv_aload_n hx hb dX0_becomeLike_83 rfl (lv_at hl 0 rfl) ?_
  refine va_get (D := D) (ci := 0) (v := .ref (q_t 9)) (C := RX0) (T := TX0) (N := 10) hx hb hT iX0 hown hK hP 0 rfl rfl 9 (by decide) (hT _ fw_X0_40) (fun _ h9 => h9) rfl dX0_becomeLike_84 ?_
  obtain ⟨r11, e12, hf⟩ := bind_some hf
  refine callSNv (As := [.ref (q_a1 9), .ref (q_t 9)]) (rest := []) M (mX6_copyRow l D cs sk (q_a1 9) (q_t 9) k 48 48 (d_a1.2 9) (d_t.2 9) e12) mw_X0_43 ln_X6_copyRow ⟨rfl, rfl, Nat.le_of_ble_eq_true rfl, Nat.le_of_ble_eq_true rfl⟩ hP hD hS hA [13, 6] (by decide) rfl rfl ⟨Nat.zero_le _, Nat.zero_le _⟩ hl.1 rfl (Nat.le_of_ble_eq_true rfl) dX0_becomeLike_87 (fun H locs hP hD hS => ?_)
  replace hP : va_P D vwCl [oX0 h_t q_t (upd (upd (upd d_t.1 0 (d_a1.1 0)) 7 (d_a1.1 7)) 8 (d_a1.1 8)), ((q_t 1), .inl (cs 0, 6, .inl r1)), ((q_t 2), .inl (cs 0, 6, .inl r3)), ((q_t 3), .inl (cs 0, 6, .inl r5)), ((q_t 4), .inl (cs 0, 6, .inl r7)), ((q_t 5), .inl (cs 0, 6, .inl r9)), ((q_t 9), .inl (cs 0, 48, .inl r11)), oX0 h_a1 q_a1 (d_a1.1), ((q_a1 1), .inl (cs 0, 6, .inl (d_a1.2 1))), ((q_a1 2), .inl (cs 0, 6, .inl (d_a1.2 2))), ((q_a1 3), .inl (cs 0, 6, .inl (d_a1.2 3))), ((q_a1 4), .inl (cs 0, 6, .inl (d_a1.2 4))), ((q_a1 5), .inl (cs 0, 6, .inl (d_a1.2 5))), ((q_a1 9), .inl (cs 0, 48, .inl (d_a1.2 9)))] H := hP
  replace hD : va_D A [oX0 h_t q_t (upd (upd (upd d_t.1 0 (d_a1.1 0)) 7 (d_a1.1 7)) 8 (d_a1.1 8)), ((q_t 1), .inl (cs 0, 6, .inl r1)), ((q_t 2), .inl (cs 0, 6, .inl r3)), ((q_t 3), .inl (cs 0, 6, .inl r5)), ((q_t 4), .inl (cs 0, 6, .inl r7)), ((q_t 5), .inl (cs 0, 6, .inl r9)), ((q_t 9), .inl (cs 0, 48, .inl r11)), oX0 h_a1 q_a1 (d_a1.1), ((q_a1 1), .inl (cs 0, 6, .inl (d_a1.2 1))), ((q_a1 2), .inl (cs 0, 6, .inl (d_a1.2 2))), ((q_a1 3), .inl (cs 0, 6, .inl (d_a1.2 3))), ((q_a1 4), .inl (cs 0, 6, .inl (d_a1.2 4))), ((q_a1 5), .inl (cs 0, 6, .inl (d_a1.2 5))), ((q_a1 9), .inl (cs 0, 48, .inl (d_a1.2 9)))] := hD
  have e9 := Option.some.inj hf
  subst e9
  exact hR _ _ _ _ dX0_becomeLike_90 hP hS
abbrev rm_X0_playsAt : Room := { frames := 0, cells := 0, slots := 0, locals := 0 }
def fX0_playsAt_B2 (k : Nat) (x1 : Int32) (d_t : Dat) (K20 : Unit → Option (Int32)) (K28 : Unit → Option (Int32)) (rec : Int32 → Option (Int32)) (v : Int32) : Option (Int32) :=
  (if (d_t.1 0) ≤ v then K28 () else chk 6 v ((if ((d_t.2 2) v.toNatClampNeg) = x1 then K20 () else rec (v + 1))))
def fX0_playsAt (k : Nat) (d_t : Dat) (x1 : Int32) : Option (Int32) :=
  lp (fX0_playsAt_B2 k x1 d_t (fun (w1 : Unit) => some 1) (fun (w2 : Unit) => some 0)) k 0
set_option maxHeartbeats 4000000 in
set_option maxRecDepth 100000 in
theorem mX0_playsAt_B2 {l : Launch} {p : Program} {e : Env} {s : State} {m : MethodId} {args : Array Value} {below : List Frame} {meth : Method} {c : Code} {D : va_G} {cs : Nat → ClassId} {sk : Nat → Nat} {A : Nat → Prop} {Q : State → Prop} (h_t : Nat) (q_t : Nat → Nat) (k : Nat) (x1 : Int32) (d_t : Dat) {rv : Int32}  (K20 : Unit → Option (Int32)) (K28 : Unit → Option (Int32))
    (M : MC p s m args meth c D cs sk A RX0 cX0_playsAt 3 (some .boolean)) (hA : ∀ q, s.heap.size ≤ q → A q) (hR : RetZ p l e rm_X0_playsAt s m args below meth c D cX0_playsAt A Q (rv) [oX0 h_t q_t (d_t.1), ((q_t 2), .inl (cs 0, 6, .inl (d_t.2 2)))])
    (hK20 : ∀ (w : Unit), K20 w = some rv → ∀ (H : Heap) (locs : List Loc) (ls : Array Slot), va_P D vwCl [oX0 h_t q_t (d_t.1), ((q_t 2), .inl (cs 0, 6, .inl (d_t.2 2)))] H → va_D A [oX0 h_t q_t (d_t.1), ((q_t 2), .inl (cs 0, 6, .inl (d_t.2 2)))] → va_S A s.heap H locs → lv_has ls 3 [] → W p l e rm_X0_playsAt s m args below meth c H locs 0 0 Q (F0 m 20 ls []))
    (hK28 : ∀ (w : Unit), K28 w = some rv → ∀ (H : Heap) (locs : List Loc) (ls : Array Slot), va_P D vwCl [oX0 h_t q_t (d_t.1), ((q_t 2), .inl (cs 0, 6, .inl (d_t.2 2)))] H → va_D A [oX0 h_t q_t (d_t.1), ((q_t 2), .inl (cs 0, 6, .inl (d_t.2 2)))] → va_S A s.heap H locs → lv_has ls 3 [] → W p l e rm_X0_playsAt s m args below meth c H locs 0 0 Q (F0 m 28 ls []))
    : ∀ (n : Nat) (v : Int32), lp (fX0_playsAt_B2 k x1 d_t K20 K28) n v = some rv → ∀ (H : Heap) (locs : List Loc) (ls : Array Slot), va_P D vwCl [oX0 h_t q_t (d_t.1), ((q_t 2), .inl (cs 0, 6, .inl (d_t.2 2)))] H → va_D A [oX0 h_t q_t (d_t.1), ((q_t 2), .inl (cs 0, 6, .inl (d_t.2 2)))] → va_S A s.heap H locs → lv_has ls 3 [(0, .ref h_t), (1, .int x1), (2, .int v)] → W p l e rm_X0_playsAt s m args below meth c H locs 0 0 Q (F0 m 2 ls []) := by
  obtain ⟨hx, hb, hml, hT, hown, hlk, hrt, hK, hN, hSE⟩ := id M
  refine lp_ind (fun rec ih v hf H locs ls hP hD hS hl => ?_)
  unfold fX0_playsAt_B2 at hf
  refine lv_iload_n hx hb dX0_playsAt_2 rfl (lv_at hl 2 rfl) ?_
  refine lv_aload_n hx hb dX0_playsAt_3 rfl (lv_at hl 0 rfl) ?_
  refine va_get (D := D) (ci := 0) (v := .int (d_t.1 0)) (C := RX0) (T := TX0) (N := 10) hx hb hT iX0 hown hK hP 0 rfl rfl 0 (by decide) (hT _ fw_X0_9) (fun _ h9 => h9) rfl dX0_playsAt_4 ?_
  have g2 := ite_some hf
  refine lv_icmp_ge (tgt := 28) hx hb dX0_playsAt_7 (by decide) (fun c1 => ?_) (fun c1 => ?_)
  · replace hf := g2.1 c1
    exact hK28 _ hf _ _ _ hP hD hS (lv_sub hl [] rfl)
  · replace hf := g2.2 c1
    refine lv_aload_n hx hb dX0_playsAt_10 rfl (lv_at hl 0 rfl) ?_
    refine va_get (D := D) (ci := 0) (v := .ref (q_t 2)) (C := RX0) (T := TX0) (N := 10) hx hb hT iX0 hown hK hP 0 rfl rfl 2 (by decide) (hT _ fw_X0_19) (fun _ h9 => h9) rfl dX0_playsAt_11 ?_
    refine lv_iload_n hx hb dX0_playsAt_14 rfl (lv_at hl 2 rfl) ?_
    obtain ⟨hi, hf⟩ := chk_some hf
    refine va_iald (D := D) hx hb hK hP 1 0 rfl rfl hi dX0_playsAt_15 ?_
    refine lv_iload_n hx hb dX0_playsAt_16 rfl (lv_at hl 1 rfl) ?_
    have g4 := ite_some hf
    refine lv_icmp_ne (tgt := 22) hx hb dX0_playsAt_17 (by decide) (fun c3 => ?_) (fun c3 => ?_)
    · replace hf := g4.2 c3
      refine lv_iinc (v := (v + 1)) (lv' := [(2, .int (v + 1)), (0, .ref h_t), (1, .int x1)]) hx hb dX0_playsAt_22 hl (k := 2) rfl rfl (by decide) rfl (fun ls hl => ?_)
      refine lv_goto (tgt := 2) hx hb dX0_playsAt_25 (by decide) ?_
      exact ih _ hf _ _ _ hP hD hS (lv_sub hl [1, 2, 0] rfl)
    · replace hf := g4.1 c3
      exact hK20 _ hf _ _ _ hP hD hS (lv_sub hl [] rfl)
set_option maxHeartbeats 4000000 in
set_option maxRecDepth 100000 in
theorem mX0_playsAt (l : Launch) (D : va_G) (cs : Nat → ClassId) (sk : Nat → Nat) (h_t : Nat) (q_t : Nat → Nat) (k : Nat) (d_t : Dat) (x1 : Int32) {rv : Int32} (hf : fX0_playsAt k d_t x1 = some rv) : CTi l yX0_playsAt (Cond.code yX0_playsAt cX0_playsAt 3 (some .boolean) :: gtbl) rm_X0_playsAt D cs sk [.ref h_t, .int x1] [oX0 h_t q_t (d_t.1), ((q_t 2), .inl (cs 0, 6, .inl (d_t.2 2)))] (rv) [oX0 h_t q_t (d_t.1), ((q_t 2), .inl (cs 0, 6, .inl (d_t.2 2)))] := by
  refine CTi.ofZ RX0 (by decide +kernel) rfl (Nat.le_of_ble_eq_true rfl) (fun p e s m args below meth c A Q ls M hA hR hl hP hD hS => ?_)
  obtain ⟨hx, hb, hml, hT, hown, hlk, hrt, hK, hN, hSE⟩ := id M
  replace hl : lv_has ls 3 [(0, .ref h_t), (1, .int x1)] := hl
  unfold fX0_playsAt at hf
  refine lv_iconst (v := 0) hx hb dX0_playsAt_0 rfl ?_
  refine lv_istore_n (lv' := [(2, .int 0), (0, .ref h_t), (1, .int x1)]) hx hb dX0_playsAt_1 rfl hl (by decide) rfl (fun ls hl => ?_)
  refine mX0_playsAt_B2 h_t q_t k x1 d_t _ _ M hA hR (fun w1 hf H locs ls hP hD hS hl => ?_) (fun w2 hf H locs ls hP hD hS hl => ?_) _ _ hf _ _ _ hP hD hS (lv_sub hl [1, 2, 0] rfl)
  · refine lv_iconst (v := 1) hx hb dX0_playsAt_20 rfl ?_
    have e9 := Option.some.inj hf
    subst e9
    exact hR _ _ _ _ dX0_playsAt_21 (Or.inr rfl) hP hS
  · refine lv_iconst (v := 0) hx hb dX0_playsAt_28 rfl ?_
    have e9 := Option.some.inj hf
    subst e9
    exact hR _ _ _ _ dX0_playsAt_29 (Or.inl rfl) hP hS
abbrev rm_X0_addPlayer : Room := { frames := 0, cells := 0, slots := 0, locals := 0 }
def fX0_addPlayer (k : Nat) (d_t : Dat) (x1 : Int32) (x2 : Int32) (x3 : Int32) : Option (Int32 × Dat) :=
  (if (d_t.1 0) < 6 then chk 6 (d_t.1 0) (chk 6 (d_t.1 0) (chk 6 (d_t.1 0) (chk 6 (d_t.1 0) (chk 6 (d_t.1 0) (some ((((d_t.1 0) + 1) - 1), ((upd (upd d_t.1 0 ((d_t.1 0) + 1)) 8 0), (va_up (va_up (va_up (va_up (va_up d_t.2 1 (upd (d_t.2 1) (d_t.1 0).toNatClampNeg x1)) 2 (upd (d_t.2 2) (d_t.1 0).toNatClampNeg x2)) 3 (upd (d_t.2 3) (d_t.1 0).toNatClampNeg x3)) 4 (upd (d_t.2 4) (d_t.1 0).toNatClampNeg 0)) 5 (upd (d_t.2 5) (d_t.1 0).toNatClampNeg (d_t.1 0)))))))))) else some ((-4), d_t))
set_option maxHeartbeats 4000000 in
set_option maxRecDepth 100000 in
theorem mX0_addPlayer (l : Launch) (D : va_G) (cs : Nat → ClassId) (sk : Nat → Nat) (h_t : Nat) (q_t : Nat → Nat) (k : Nat) (d_t : Dat) (x1 : Int32) (x2 : Int32) (x3 : Int32) {rv : Int32 × Dat} (hf : fX0_addPlayer k d_t x1 x2 x3 = some rv) : CTi l yX0_addPlayer (Cond.code yX0_addPlayer cX0_addPlayer 4 (some .int) :: gtbl) rm_X0_addPlayer D cs sk [.ref h_t, .int x1, .int x2, .int x3] [oX0 h_t q_t (d_t.1), ((q_t 1), .inl (cs 0, 6, .inl (d_t.2 1))), ((q_t 2), .inl (cs 0, 6, .inl (d_t.2 2))), ((q_t 3), .inl (cs 0, 6, .inl (d_t.2 3))), ((q_t 4), .inl (cs 0, 6, .inl (d_t.2 4))), ((q_t 5), .inl (cs 0, 6, .inl (d_t.2 5)))] (rv.1) [oX0 h_t q_t (rv.2.1), ((q_t 1), .inl (cs 0, 6, .inl (rv.2.2 1))), ((q_t 2), .inl (cs 0, 6, .inl (rv.2.2 2))), ((q_t 3), .inl (cs 0, 6, .inl (rv.2.2 3))), ((q_t 4), .inl (cs 0, 6, .inl (rv.2.2 4))), ((q_t 5), .inl (cs 0, 6, .inl (rv.2.2 5)))] := by
  refine CTi.of RX0 (by decide +kernel) rfl (Nat.le_of_ble_eq_true rfl) (fun p e s m args below meth c A Q ls M hA hR hl hP hD hS => ?_)
  obtain ⟨hx, hb, hml, hT, hown, hlk, hrt, hK, hN, hSE⟩ := id M
  replace hl : lv_has ls 4 [(0, .ref h_t), (1, .int x1), (2, .int x2), (3, .int x3)] := hl
  unfold fX0_addPlayer at hf
  refine lv_aload_n hx hb dX0_addPlayer_0 rfl (lv_at hl 0 rfl) ?_
  refine va_get (D := D) (ci := 0) (v := .int (d_t.1 0)) (C := RX0) (T := TX0) (N := 10) hx hb hT iX0 hown hK hP 0 rfl rfl 0 (by decide) (hT _ fw_X0_9) (fun _ h9 => h9) rfl dX0_addPlayer_1 ?_
  refine lv_bipush (v := 6) hx hb dX0_addPlayer_4 rfl ?_
  have g2 := ite_some hf
  refine lv_icmp_lt (tgt := 12) hx hb dX0_addPlayer_6 (by decide) (fun c1 => ?_) (fun c1 => ?_)
  · replace hf := g2.1 c1
    refine lv_aload_n hx hb dX0_addPlayer_12 rfl (lv_at hl 0 rfl) ?_
    refine va_get (D := D) (ci := 0) (v := .ref (q_t 1)) (C := RX0) (T := TX0) (N := 10) hx hb hT iX0 hown hK hP 0 rfl rfl 1 (by decide) (hT _ fw_X0_15) (fun _ h9 => h9) rfl dX0_addPlayer_13 ?_
    refine lv_aload_n hx hb dX0_addPlayer_16 rfl (lv_at hl 0 rfl) ?_
    refine va_get (D := D) (ci := 0) (v := .int (d_t.1 0)) (C := RX0) (T := TX0) (N := 10) hx hb hT iX0 hown hK hP 0 rfl rfl 0 (by decide) (hT _ fw_X0_9) (fun _ h9 => h9) rfl dX0_addPlayer_17 ?_
    refine lv_iload_n hx hb dX0_addPlayer_20 rfl (lv_at hl 1 rfl) ?_
    obtain ⟨hi, hf⟩ := chk_some hf
    refine va_iast (D := D) hx hb hK hP hD hS 1 0 rfl rfl hi dX0_addPlayer_21 (fun H locs hP hD hS => ?_)
    replace hP : va_P D vwCl [oX0 h_t q_t (d_t.1), ((q_t 1), .inl (cs 0, 6, .inl (upd (d_t.2 1) (d_t.1 0).toNatClampNeg x1))), ((q_t 2), .inl (cs 0, 6, .inl (d_t.2 2))), ((q_t 3), .inl (cs 0, 6, .inl (d_t.2 3))), ((q_t 4), .inl (cs 0, 6, .inl (d_t.2 4))), ((q_t 5), .inl (cs 0, 6, .inl (d_t.2 5)))] H := hP
    replace hD : va_D A [oX0 h_t q_t (d_t.1), ((q_t 1), .inl (cs 0, 6, .inl (upd (d_t.2 1) (d_t.1 0).toNatClampNeg x1))), ((q_t 2), .inl (cs 0, 6, .inl (d_t.2 2))), ((q_t 3), .inl (cs 0, 6, .inl (d_t.2 3))), ((q_t 4), .inl (cs 0, 6, .inl (d_t.2 4))), ((q_t 5), .inl (cs 0, 6, .inl (d_t.2 5)))] := hD
    refine lv_aload_n hx hb dX0_addPlayer_22 rfl (lv_at hl 0 rfl) ?_
    refine va_get (D := D) (ci := 0) (v := .ref (q_t 2)) (C := RX0) (T := TX0) (N := 10) hx hb hT iX0 hown hK hP 0 rfl rfl 2 (by decide) (hT _ fw_X0_19) (fun _ h9 => h9) rfl dX0_addPlayer_23 ?_
    refine lv_aload_n hx hb dX0_addPlayer_26 rfl (lv_at hl 0 rfl) ?_
    refine va_get (D := D) (ci := 0) (v := .int (d_t.1 0)) (C := RX0) (T := TX0) (N := 10) hx hb hT iX0 hown hK hP 0 rfl rfl 0 (by decide) (hT _ fw_X0_9) (fun _ h9 => h9) rfl dX0_addPlayer_27 ?_
    refine lv_iload_n hx hb dX0_addPlayer_30 rfl (lv_at hl 2 rfl) ?_
    obtain ⟨hi, hf⟩ := chk_some hf
    refine va_iast (D := D) hx hb hK hP hD hS 2 0 rfl rfl hi dX0_addPlayer_31 (fun H locs hP hD hS => ?_)
    replace hP : va_P D vwCl [oX0 h_t q_t (d_t.1), ((q_t 1), .inl (cs 0, 6, .inl (upd (d_t.2 1) (d_t.1 0).toNatClampNeg x1))), ((q_t 2), .inl (cs 0, 6, .inl (upd (d_t.2 2) (d_t.1 0).toNatClampNeg x2))), ((q_t 3), .inl (cs 0, 6, .inl (d_t.2 3))), ((q_t 4), .inl (cs 0, 6, .inl (d_t.2 4))), ((q_t 5), .inl (cs 0, 6, .inl (d_t.2 5)))] H := hP
    replace hD : va_D A [oX0 h_t q_t (d_t.1), ((q_t 1), .inl (cs 0, 6, .inl (upd (d_t.2 1) (d_t.1 0).toNatClampNeg x1))), ((q_t 2), .inl (cs 0, 6, .inl (upd (d_t.2 2) (d_t.1 0).toNatClampNeg x2))), ((q_t 3), .inl (cs 0, 6, .inl (d_t.2 3))), ((q_t 4), .inl (cs 0, 6, .inl (d_t.2 4))), ((q_t 5), .inl (cs 0, 6, .inl (d_t.2 5)))] := hD
    refine lv_aload_n hx hb dX0_addPlayer_32 rfl (lv_at hl 0 rfl) ?_
    refine va_get (D := D) (ci := 0) (v := .ref (q_t 3)) (C := RX0) (T := TX0) (N := 10) hx hb hT iX0 hown hK hP 0 rfl rfl 3 (by decide) (hT _ fw_X0_22) (fun _ h9 => h9) rfl dX0_addPlayer_33 ?_
    refine lv_aload_n hx hb dX0_addPlayer_36 rfl (lv_at hl 0 rfl) ?_
    refine va_get (D := D) (ci := 0) (v := .int (d_t.1 0)) (C := RX0) (T := TX0) (N := 10) hx hb hT iX0 hown hK hP 0 rfl rfl 0 (by decide) (hT _ fw_X0_9) (fun _ h9 => h9) rfl dX0_addPlayer_37 ?_
    refine lv_iload_n hx hb dX0_addPlayer_40 rfl (lv_at hl 3 rfl) ?_
    obtain ⟨hi, hf⟩ := chk_some hf
    refine va_iast (D := D) hx hb hK hP hD hS 3 0 rfl rfl hi dX0_addPlayer_41 (fun H locs hP hD hS => ?_)
    replace hP : va_P D vwCl [oX0 h_t q_t (d_t.1), ((q_t 1), .inl (cs 0, 6, .inl (upd (d_t.2 1) (d_t.1 0).toNatClampNeg x1))), ((q_t 2), .inl (cs 0, 6, .inl (upd (d_t.2 2) (d_t.1 0).toNatClampNeg x2))), ((q_t 3), .inl (cs 0, 6, .inl (upd (d_t.2 3) (d_t.1 0).toNatClampNeg x3))), ((q_t 4), .inl (cs 0, 6, .inl (d_t.2 4))), ((q_t 5), .inl (cs 0, 6, .inl (d_t.2 5)))] H := hP
    replace hD : va_D A [oX0 h_t q_t (d_t.1), ((q_t 1), .inl (cs 0, 6, .inl (upd (d_t.2 1) (d_t.1 0).toNatClampNeg x1))), ((q_t 2), .inl (cs 0, 6, .inl (upd (d_t.2 2) (d_t.1 0).toNatClampNeg x2))), ((q_t 3), .inl (cs 0, 6, .inl (upd (d_t.2 3) (d_t.1 0).toNatClampNeg x3))), ((q_t 4), .inl (cs 0, 6, .inl (d_t.2 4))), ((q_t 5), .inl (cs 0, 6, .inl (d_t.2 5)))] := hD
    refine lv_aload_n hx hb dX0_addPlayer_42 rfl (lv_at hl 0 rfl) ?_
    refine va_get (D := D) (ci := 0) (v := .ref (q_t 4)) (C := RX0) (T := TX0) (N := 10) hx hb hT iX0 hown hK hP 0 rfl rfl 4 (by decide) (hT _ fw_X0_25) (fun _ h9 => h9) rfl dX0_addPlayer_43 ?_
    refine lv_aload_n hx hb dX0_addPlayer_46 rfl (lv_at hl 0 rfl) ?_
    refine va_get (D := D) (ci := 0) (v := .int (d_t.1 0)) (C := RX0) (T := TX0) (N := 10) hx hb hT iX0 hown hK hP 0 rfl rfl 0 (by decide) (hT _ fw_X0_9) (fun _ h9 => h9) rfl dX0_addPlayer_47 ?_
    refine lv_iconst (v := 0) hx hb dX0_addPlayer_50 rfl ?_
    obtain ⟨hi, hf⟩ := chk_some hf
    refine va_iast (D := D) hx hb hK hP hD hS 4 0 rfl rfl hi dX0_addPlayer_51 (fun H locs hP hD hS => ?_)
    replace hP : va_P D vwCl [oX0 h_t q_t (d_t.1), ((q_t 1), .inl (cs 0, 6, .inl (upd (d_t.2 1) (d_t.1 0).toNatClampNeg x1))), ((q_t 2), .inl (cs 0, 6, .inl (upd (d_t.2 2) (d_t.1 0).toNatClampNeg x2))), ((q_t 3), .inl (cs 0, 6, .inl (upd (d_t.2 3) (d_t.1 0).toNatClampNeg x3))), ((q_t 4), .inl (cs 0, 6, .inl (upd (d_t.2 4) (d_t.1 0).toNatClampNeg 0))), ((q_t 5), .inl (cs 0, 6, .inl (d_t.2 5)))] H := hP
    replace hD : va_D A [oX0 h_t q_t (d_t.1), ((q_t 1), .inl (cs 0, 6, .inl (upd (d_t.2 1) (d_t.1 0).toNatClampNeg x1))), ((q_t 2), .inl (cs 0, 6, .inl (upd (d_t.2 2) (d_t.1 0).toNatClampNeg x2))), ((q_t 3), .inl (cs 0, 6, .inl (upd (d_t.2 3) (d_t.1 0).toNatClampNeg x3))), ((q_t 4), .inl (cs 0, 6, .inl (upd (d_t.2 4) (d_t.1 0).toNatClampNeg 0))), ((q_t 5), .inl (cs 0, 6, .inl (d_t.2 5)))] := hD
    refine lv_aload_n hx hb dX0_addPlayer_52 rfl (lv_at hl 0 rfl) ?_
    refine va_get (D := D) (ci := 0) (v := .ref (q_t 5)) (C := RX0) (T := TX0) (N := 10) hx hb hT iX0 hown hK hP 0 rfl rfl 5 (by decide) (hT _ fw_X0_28) (fun _ h9 => h9) rfl dX0_addPlayer_53 ?_
    refine lv_aload_n hx hb dX0_addPlayer_56 rfl (lv_at hl 0 rfl) ?_
    refine va_get (D := D) (ci := 0) (v := .int (d_t.1 0)) (C := RX0) (T := TX0) (N := 10) hx hb hT iX0 hown hK hP 0 rfl rfl 0 (by decide) (hT _ fw_X0_9) (fun _ h9 => h9) rfl dX0_addPlayer_57 ?_
    refine lv_aload_n hx hb dX0_addPlayer_60 rfl (lv_at hl 0 rfl) ?_
    refine va_get (D := D) (ci := 0) (v := .int (d_t.1 0)) (C := RX0) (T := TX0) (N := 10) hx hb hT iX0 hown hK hP 0 rfl rfl 0 (by decide) (hT _ fw_X0_9) (fun _ h9 => h9) rfl dX0_addPlayer_61 ?_
    obtain ⟨hi, hf⟩ := chk_some hf
    refine va_iast (D := D) hx hb hK hP hD hS 5 0 rfl rfl hi dX0_addPlayer_64 (fun H locs hP hD hS => ?_)
    replace hP : va_P D vwCl [oX0 h_t q_t (d_t.1), ((q_t 1), .inl (cs 0, 6, .inl (upd (d_t.2 1) (d_t.1 0).toNatClampNeg x1))), ((q_t 2), .inl (cs 0, 6, .inl (upd (d_t.2 2) (d_t.1 0).toNatClampNeg x2))), ((q_t 3), .inl (cs 0, 6, .inl (upd (d_t.2 3) (d_t.1 0).toNatClampNeg x3))), ((q_t 4), .inl (cs 0, 6, .inl (upd (d_t.2 4) (d_t.1 0).toNatClampNeg 0))), ((q_t 5), .inl (cs 0, 6, .inl (upd (d_t.2 5) (d_t.1 0).toNatClampNeg (d_t.1 0))))] H := hP
    replace hD : va_D A [oX0 h_t q_t (d_t.1), ((q_t 1), .inl (cs 0, 6, .inl (upd (d_t.2 1) (d_t.1 0).toNatClampNeg x1))), ((q_t 2), .inl (cs 0, 6, .inl (upd (d_t.2 2) (d_t.1 0).toNatClampNeg x2))), ((q_t 3), .inl (cs 0, 6, .inl (upd (d_t.2 3) (d_t.1 0).toNatClampNeg x3))), ((q_t 4), .inl (cs 0, 6, .inl (upd (d_t.2 4) (d_t.1 0).toNatClampNeg 0))), ((q_t 5), .inl (cs 0, 6, .inl (upd (d_t.2 5) (d_t.1 0).toNatClampNeg (d_t.1 0))))] := hD
    refine lv_aload_n hx hb dX0_addPlayer_65 rfl (lv_at hl 0 rfl) ?_
    refine lv_dup hx hb dX0_addPlayer_66 rfl ?_
    refine va_get (D := D) (ci := 0) (v := .int (d_t.1 0)) (C := RX0) (T := TX0) (N := 10) hx hb hT iX0 hown hK hP 0 rfl rfl 0 (by decide) (hT _ fw_X0_9) (fun _ h9 => h9) rfl dX0_addPlayer_67 ?_
    refine lv_iconst (v := 1) hx hb dX0_addPlayer_70 rfl ?_
    refine lv_iadd hx hb dX0_addPlayer_71 ?_
    refine va_put (D := D) (ci := 0) (v := .int ((d_t.1 0) + 1)) (ty := tyX0 0) (C := RX0) (T := TX0) (N := 10) hx hb hT iX0 tyX0 tyX0_ok nmX0 hown hK hP hD hS 0 rfl rfl 0 (by decide) (hT _ fw_X0_9) (fun _ h9 => h9) rfl (tyX0_ok 0 (by decide)) rfl rfl (Nat.le_of_ble_eq_true rfl) dX0_addPlayer_72 (fun H locs hP hD hS => ?_)
    replace hP : va_P D vwCl [oX0 h_t q_t (upd d_t.1 0 ((d_t.1 0) + 1)), ((q_t 1), .inl (cs 0, 6, .inl (upd (d_t.2 1) (d_t.1 0).toNatClampNeg x1))), ((q_t 2), .inl (cs 0, 6, .inl (upd (d_t.2 2) (d_t.1 0).toNatClampNeg x2))), ((q_t 3), .inl (cs 0, 6, .inl (upd (d_t.2 3) (d_t.1 0).toNatClampNeg x3))), ((q_t 4), .inl (cs 0, 6, .inl (upd (d_t.2 4) (d_t.1 0).toNatClampNeg 0))), ((q_t 5), .inl (cs 0, 6, .inl (upd (d_t.2 5) (d_t.1 0).toNatClampNeg (d_t.1 0))))] H := hP
    replace hD : va_D A [oX0 h_t q_t (upd d_t.1 0 ((d_t.1 0) + 1)), ((q_t 1), .inl (cs 0, 6, .inl (upd (d_t.2 1) (d_t.1 0).toNatClampNeg x1))), ((q_t 2), .inl (cs 0, 6, .inl (upd (d_t.2 2) (d_t.1 0).toNatClampNeg x2))), ((q_t 3), .inl (cs 0, 6, .inl (upd (d_t.2 3) (d_t.1 0).toNatClampNeg x3))), ((q_t 4), .inl (cs 0, 6, .inl (upd (d_t.2 4) (d_t.1 0).toNatClampNeg 0))), ((q_t 5), .inl (cs 0, 6, .inl (upd (d_t.2 5) (d_t.1 0).toNatClampNeg (d_t.1 0))))] := hD
    refine lv_aload_n hx hb dX0_addPlayer_75 rfl (lv_at hl 0 rfl) ?_
    refine lv_iconst (v := 0) hx hb dX0_addPlayer_76 rfl ?_
    refine va_put (D := D) (ci := 0) (v := .int 0) (ty := tyX0 8) (C := RX0) (T := TX0) (N := 10) hx hb hT iX0 tyX0 tyX0_ok nmX0 hown hK hP hD hS 0 rfl rfl 8 (by decide) (hT _ fw_X0_37) (fun _ h9 => h9) rfl (tyX0_ok 8 (by decide)) rfl rfl (Nat.le_of_ble_eq_true rfl) dX0_addPlayer_77 (fun H locs hP hD hS => ?_)
    replace hP : va_P D vwCl [oX0 h_t q_t (upd (upd d_t.1 0 ((d_t.1 0) + 1)) 8 0), ((q_t 1), .inl (cs 0, 6, .inl (upd (d_t.2 1) (d_t.1 0).toNatClampNeg x1))), ((q_t 2), .inl (cs 0, 6, .inl (upd (d_t.2 2) (d_t.1 0).toNatClampNeg x2))), ((q_t 3), .inl (cs 0, 6, .inl (upd (d_t.2 3) (d_t.1 0).toNatClampNeg x3))), ((q_t 4), .inl (cs 0, 6, .inl (upd (d_t.2 4) (d_t.1 0).toNatClampNeg 0))), ((q_t 5), .inl (cs 0, 6, .inl (upd (d_t.2 5) (d_t.1 0).toNatClampNeg (d_t.1 0))))] H := hP
    replace hD : va_D A [oX0 h_t q_t (upd (upd d_t.1 0 ((d_t.1 0) + 1)) 8 0), ((q_t 1), .inl (cs 0, 6, .inl (upd (d_t.2 1) (d_t.1 0).toNatClampNeg x1))), ((q_t 2), .inl (cs 0, 6, .inl (upd (d_t.2 2) (d_t.1 0).toNatClampNeg x2))), ((q_t 3), .inl (cs 0, 6, .inl (upd (d_t.2 3) (d_t.1 0).toNatClampNeg x3))), ((q_t 4), .inl (cs 0, 6, .inl (upd (d_t.2 4) (d_t.1 0).toNatClampNeg 0))), ((q_t 5), .inl (cs 0, 6, .inl (upd (d_t.2 5) (d_t.1 0).toNatClampNeg (d_t.1 0))))] := hD
    refine lv_aload_n hx hb dX0_addPlayer_80 rfl (lv_at hl 0 rfl) ?_
    refine va_get (D := D) (ci := 0) (v := .int ((d_t.1 0) + 1)) (C := RX0) (T := TX0) (N := 10) hx hb hT iX0 hown hK hP 0 rfl rfl 0 (by decide) (hT _ fw_X0_9) (fun _ h9 => h9) rfl dX0_addPlayer_81 ?_
    refine lv_iconst (v := 1) hx hb dX0_addPlayer_84 rfl ?_
    refine lv_isub hx hb dX0_addPlayer_85 ?_
    have e9 := Option.some.inj hf
    subst e9
    exact hR _ _ _ _ dX0_addPlayer_86 hP hS
  · replace hf := g2.2 c1
    refine lv_bipush (v := (-4)) hx hb dX0_addPlayer_9 rfl ?_
    have e9 := Option.some.inj hf
    subst e9
    exact hR _ _ _ _ dX0_addPlayer_11 hP hS
abbrev rm_X0_lateOf : Room := { frames := 0, cells := 0, slots := 0, locals := 0 }
def fX0_lateOf (k : Nat) (d_t : Dat) (x1 : Int32) : Option (Int32) :=
  chk 6 x1 ((if ((d_t.2 1) x1.toNatClampNeg) = 1 then chk 6 x1 (some (((d_t.2 4) x1.toNatClampNeg) - 20)) else chk 6 x1 ((if ((d_t.2 1) x1.toNatClampNeg) = 3 then chk 6 x1 (some ((((d_t.2 4) x1.toNatClampNeg) / 10) * 10)) else chk 6 x1 (some ((d_t.2 4) x1.toNatClampNeg))))))
set_option maxHeartbeats 4000000 in
set_option maxRecDepth 100000 in
theorem mX0_lateOf (l : Launch) (D : va_G) (cs : Nat → ClassId) (sk : Nat → Nat) (h_t : Nat) (q_t : Nat → Nat) (k : Nat) (d_t : Dat) (x1 : Int32) {rv : Int32} (hf : fX0_lateOf k d_t x1 = some rv) : CTi l yX0_lateOf (Cond.code yX0_lateOf cX0_lateOf 2 (some .int) :: gtbl) rm_X0_lateOf D cs sk [.ref h_t, .int x1] [oX0 h_t q_t (d_t.1), ((q_t 1), .inl (cs 0, 6, .inl (d_t.2 1))), ((q_t 4), .inl (cs 0, 6, .inl (d_t.2 4)))] (rv) [oX0 h_t q_t (d_t.1), ((q_t 1), .inl (cs 0, 6, .inl (d_t.2 1))), ((q_t 4), .inl (cs 0, 6, .inl (d_t.2 4)))] := by
  refine CTi.of RX0 (by decide +kernel) rfl (Nat.le_of_ble_eq_true rfl) (fun p e s m args below meth c A Q ls M hA hR hl hP hD hS => ?_)
  obtain ⟨hx, hb, hml, hT, hown, hlk, hrt, hK, hN, hSE⟩ := id M
  replace hl : lv_has ls 2 [(0, .ref h_t), (1, .int x1)] := hl
  unfold fX0_lateOf at hf
  refine lv_aload_n hx hb dX0_lateOf_0 rfl (lv_at hl 0 rfl) ?_
  refine va_get (D := D) (ci := 0) (v := .ref (q_t 1)) (C := RX0) (T := TX0) (N := 10) hx hb hT iX0 hown hK hP 0 rfl rfl 1 (by decide) (hT _ fw_X0_15) (fun _ h9 => h9) rfl dX0_lateOf_1 ?_
  refine lv_iload_n hx hb dX0_lateOf_4 rfl (lv_at hl 1 rfl) ?_
  obtain ⟨hi, hf⟩ := chk_some hf
  refine va_iald (D := D) hx hb hK hP 1 0 rfl rfl hi dX0_lateOf_5 ?_
  refine lv_iconst (v := 1) hx hb dX0_lateOf_6 rfl ?_
  have g2 := ite_some hf
  refine lv_icmp_ne (tgt := 20) hx hb dX0_lateOf_7 (by decide) (fun c1 => ?_) (fun c1 => ?_)
  · replace hf := g2.2 c1
    refine lv_aload_n hx hb dX0_lateOf_20 rfl (lv_at hl 0 rfl) ?_
    refine va_get (D := D) (ci := 0) (v := .ref (q_t 1)) (C := RX0) (T := TX0) (N := 10) hx hb hT iX0 hown hK hP 0 rfl rfl 1 (by decide) (hT _ fw_X0_15) (fun _ h9 => h9) rfl dX0_lateOf_21 ?_
    refine lv_iload_n hx hb dX0_lateOf_24 rfl (lv_at hl 1 rfl) ?_
    obtain ⟨hi, hf⟩ := chk_some hf
    refine va_iald (D := D) hx hb hK hP 1 0 rfl rfl hi dX0_lateOf_25 ?_
    refine lv_iconst (v := 3) hx hb dX0_lateOf_26 rfl ?_
    have g4 := ite_some hf
    refine lv_icmp_ne (tgt := 43) hx hb dX0_lateOf_27 (by decide) (fun c3 => ?_) (fun c3 => ?_)
    · replace hf := g4.2 c3
      refine lv_aload_n hx hb dX0_lateOf_43 rfl (lv_at hl 0 rfl) ?_
      refine va_get (D := D) (ci := 0) (v := .ref (q_t 4)) (C := RX0) (T := TX0) (N := 10) hx hb hT iX0 hown hK hP 0 rfl rfl 4 (by decide) (hT _ fw_X0_25) (fun _ h9 => h9) rfl dX0_lateOf_44 ?_
      refine lv_iload_n hx hb dX0_lateOf_47 rfl (lv_at hl 1 rfl) ?_
      obtain ⟨hi, hf⟩ := chk_some hf
      refine va_iald (D := D) hx hb hK hP 2 0 rfl rfl hi dX0_lateOf_48 ?_
      have e9 := Option.some.inj hf
      subst e9
      exact hR _ _ _ _ dX0_lateOf_49 hP hS
    · replace hf := g4.1 c3
      refine lv_aload_n hx hb dX0_lateOf_30 rfl (lv_at hl 0 rfl) ?_
      refine va_get (D := D) (ci := 0) (v := .ref (q_t 4)) (C := RX0) (T := TX0) (N := 10) hx hb hT iX0 hown hK hP 0 rfl rfl 4 (by decide) (hT _ fw_X0_25) (fun _ h9 => h9) rfl dX0_lateOf_31 ?_
      refine lv_iload_n hx hb dX0_lateOf_34 rfl (lv_at hl 1 rfl) ?_
      obtain ⟨hi, hf⟩ := chk_some hf
      refine va_iald (D := D) hx hb hK hP 2 0 rfl rfl hi dX0_lateOf_35 ?_
      refine lv_bipush (v := 10) hx hb dX0_lateOf_36 rfl ?_
      refine lv_idiv hx hb dX0_lateOf_38 (by decide) ?_
      refine lv_bipush (v := 10) hx hb dX0_lateOf_39 rfl ?_
      refine lv_imul hx hb dX0_lateOf_41 ?_
      have e9 := Option.some.inj hf
      subst e9
      exact hR _ _ _ _ dX0_lateOf_42 hP hS
  · replace hf := g2.1 c1
    refine lv_aload_n hx hb dX0_lateOf_10 rfl (lv_at hl 0 rfl) ?_
    refine va_get (D := D) (ci := 0) (v := .ref (q_t 4)) (C := RX0) (T := TX0) (N := 10) hx hb hT iX0 hown hK hP 0 rfl rfl 4 (by decide) (hT _ fw_X0_25) (fun _ h9 => h9) rfl dX0_lateOf_11 ?_
    refine lv_iload_n hx hb dX0_lateOf_14 rfl (lv_at hl 1 rfl) ?_
    obtain ⟨hi, hf⟩ := chk_some hf
    refine va_iald (D := D) hx hb hK hP 2 0 rfl rfl hi dX0_lateOf_15 ?_
    refine lv_bipush (v := 20) hx hb dX0_lateOf_16 rfl ?_
    refine lv_isub hx hb dX0_lateOf_18 ?_
    have e9 := Option.some.inj hf
    subst e9
    exact hR _ _ _ _ dX0_lateOf_19 hP hS
abbrev rm_X0_advance : Room := { frames := 3, cells := 0, slots := 0, locals := 69 }
def fX0_advance_B2 (k : Nat) (d_t : Dat) (d_a1 : Dat) (K81 : Dat → Option (Int32 × Dat)) (rec : Int32 × Dat → Option (Int32 × Dat)) (v : Int32 × Dat) : Option (Int32 × Dat) :=
  (if (d_t.1 0) ≤ (v.1) then K81 (d_t.1, (va_up d_t.2 6 (v.2.2 6))) else chk 6 (v.1) (chk 6 (v.1) (chk 6 (v.1) ((if ((d_t.2 5) (v.1).toNatClampNeg) = (v.1) then rec (((v.1) + 1), (d_t.1, (va_up d_t.2 6 (upd (v.2.2 6) (v.1).toNatClampNeg ((d_t.2 4) (v.1).toNatClampNeg))))) else chk 6 (v.1) (chk 6 ((d_t.2 5) (v.1).toNatClampNeg) ((fX4_timeBetween k d_a1 ((d_t.2 2) (v.1).toNatClampNeg) ((d_t.2 2) ((d_t.2 5) (v.1).toNatClampNeg).toNatClampNeg)).bind (fun (r5 : Int32) => chk 6 ((d_t.2 5) (v.1).toNatClampNeg) ((fX6_heldOffset k ((((d_t.2 4) ((d_t.2 5) (v.1).toNatClampNeg).toNatClampNeg) + r5) - (d_t.1 7))).bind (fun (r7 : Int32) => chk 6 (v.1) (rec (((v.1) + 1), (d_t.1, (va_up d_t.2 6 (upd (upd (v.2.2 6) (v.1).toNatClampNeg ((d_t.2 4) (v.1).toNatClampNeg)) (v.1).toNatClampNeg r7)))))))))))))))
def fX0_advance_B85 (k : Nat) (d_t : Dat) (K129 : Int32 × Dat → Option (Int32 × Dat)) (rec : Int32 × Int32 × Dat → Option (Int32 × Dat)) (v : Int32 × Int32 × Dat) : Option (Int32 × Dat) :=
  (if (d_t.1 0) ≤ (v.2.1) then K129 ((v.1), (d_t.1, (va_up d_t.2 4 (v.2.2.2 4)))) else chk 6 (v.2.1) (chk 6 (v.2.1) ((if ((d_t.2 6) (v.2.1).toNatClampNeg) = ((v.2.2.2 4) (v.2.1).toNatClampNeg) then chk 6 (v.2.1) (chk 6 (v.2.1) (rec ((v.1), ((v.2.1) + 1), (d_t.1, (va_up d_t.2 4 (upd (v.2.2.2 4) (v.2.1).toNatClampNeg ((d_t.2 6) (v.2.1).toNatClampNeg))))))) else chk 6 (v.2.1) (chk 6 (v.2.1) (rec (((v.1) + 1), ((v.2.1) + 1), (d_t.1, (va_up d_t.2 4 (upd (v.2.2.2 4) (v.2.1).toNatClampNeg ((d_t.2 6) (v.2.1).toNatClampNeg)))))))))))
def fX0_advance (k : Nat) (d_t : Dat) (d_a1 : Dat) : Option (Int32 × Dat) :=
  lp (fX0_advance_B2 k d_t d_a1 (fun (w1 : Dat) => lp (fX0_advance_B85 k (d_t.1, (va_up d_t.2 6 (w1.2 6))) (fun (w2 : Int32 × Dat) => some ((w2.1), (d_t.1, (va_up (va_up d_t.2 4 (w2.2.2 4)) 6 (w1.2 6)))))) k (0, 0, (d_t.1, (va_up d_t.2 6 (w1.2 6)))))) k (0, d_t)
set_option maxHeartbeats 4000000 in
set_option maxRecDepth 100000 in
theorem mX0_advance_B2 {l : Launch} {p : Program} {e : Env} {s : State} {m : MethodId} {args : Array Value} {below : List Frame} {meth : Method} {c : Code} {D : va_G} {cs : Nat → ClassId} {sk : Nat → Nat} {A : Nat → Prop} {Q : State → Prop} (h_t : Nat) (h_a1 : Nat) (q_t : Nat → Nat) (q_a1 : Nat → Nat) (k : Nat) (d_t : Dat) (d_a1 : Dat) {rv : Int32 × Dat}  (K81 : Dat → Option (Int32 × Dat))
    (M : MC p s m args meth c D cs sk A RX0 cX0_advance 5 (some .int)) (hA : ∀ q, s.heap.size ≤ q → A q) (hR : RetI p l e rm_X0_advance s m args below meth c D cX0_advance A Q (rv.1) [oX0 h_t q_t (d_t.1), ((q_t 2), .inl (cs 0, 6, .inl (d_t.2 2))), ((q_t 4), .inl (cs 0, 6, .inl (rv.2.2 4))), ((q_t 5), .inl (cs 0, 6, .inl (d_t.2 5))), ((q_t 6), .inl (cs 0, 6, .inl (rv.2.2 6))), oX4 h_a1 q_a1 (d_a1.1), ((q_a1 1), .inl (cs 0, 6, .inl (d_a1.2 1))), ((q_a1 2), .inl (cs 0, 6, .inl (d_a1.2 2)))])
    (hK81 : ∀ (w : Dat), K81 w = some rv → ∀ (H : Heap) (locs : List Loc) (ls : Array Slot), va_P D vwCl [oX0 h_t q_t (d_t.1), ((q_t 2), .inl (cs 0, 6, .inl (d_t.2 2))), ((q_t 4), .inl (cs 0, 6, .inl (d_t.2 4))), ((q_t 5), .inl (cs 0, 6, .inl (d_t.2 5))), ((q_t 6), .inl (cs 0, 6, .inl (w.2 6))), oX4 h_a1 q_a1 (d_a1.1), ((q_a1 1), .inl (cs 0, 6, .inl (d_a1.2 1))), ((q_a1 2), .inl (cs 0, 6, .inl (d_a1.2 2)))] H → va_D A [oX0 h_t q_t (d_t.1), ((q_t 2), .inl (cs 0, 6, .inl (d_t.2 2))), ((q_t 4), .inl (cs 0, 6, .inl (d_t.2 4))), ((q_t 5), .inl (cs 0, 6, .inl (d_t.2 5))), ((q_t 6), .inl (cs 0, 6, .inl (w.2 6))), oX4 h_a1 q_a1 (d_a1.1), ((q_a1 1), .inl (cs 0, 6, .inl (d_a1.2 1))), ((q_a1 2), .inl (cs 0, 6, .inl (d_a1.2 2)))] → va_S A s.heap H locs → lv_has ls 5 [(0, .ref h_t)] → W p l e rm_X0_advance s m args below meth c H locs 0 0 Q (F0 m 81 ls []))
    : ∀ (n : Nat) (v : Int32 × Dat), lp (fX0_advance_B2 k d_t d_a1 K81) n v = some rv → ∀ (H : Heap) (locs : List Loc) (ls : Array Slot), va_P D vwCl [oX0 h_t q_t (d_t.1), ((q_t 2), .inl (cs 0, 6, .inl (d_t.2 2))), ((q_t 4), .inl (cs 0, 6, .inl (d_t.2 4))), ((q_t 5), .inl (cs 0, 6, .inl (d_t.2 5))), ((q_t 6), .inl (cs 0, 6, .inl (v.2.2 6))), oX4 h_a1 q_a1 (d_a1.1), ((q_a1 1), .inl (cs 0, 6, .inl (d_a1.2 1))), ((q_a1 2), .inl (cs 0, 6, .inl (d_a1.2 2)))] H → va_D A [oX0 h_t q_t (d_t.1), ((q_t 2), .inl (cs 0, 6, .inl (d_t.2 2))), ((q_t 4), .inl (cs 0, 6, .inl (d_t.2 4))), ((q_t 5), .inl (cs 0, 6, .inl (d_t.2 5))), ((q_t 6), .inl (cs 0, 6, .inl (v.2.2 6))), oX4 h_a1 q_a1 (d_a1.1), ((q_a1 1), .inl (cs 0, 6, .inl (d_a1.2 1))), ((q_a1 2), .inl (cs 0, 6, .inl (d_a1.2 2)))] → va_S A s.heap H locs → lv_has ls 5 [(0, .ref h_t), (1, .ref h_a1), (2, .int (v.1))] → W p l e rm_X0_advance s m args below meth c H locs 0 0 Q (F0 m 2 ls []) := by
  obtain ⟨hx, hb, hml, hT, hown, hlk, hrt, hK, hN, hSE⟩ := id M
  refine lp_ind (fun rec ih v hf H locs ls hP hD hS hl => ?_)
  unfold fX0_advance_B2 at hf
  refine lv_iload_n hx hb dX0_advance_2 rfl (lv_at hl 2 rfl) ?_
  refine lv_aload_n hx hb dX0_advance_3 rfl (lv_at hl 0 rfl) ?_
  refine va_get (D := D) (ci := 0) (v := .int (d_t.1 0)) (C := RX0) (T := TX0) (N := 10) hx hb hT iX0 hown hK hP 0 rfl rfl 0 (by decide) (hT _ fw_X0_9) (fun _ h9 => h9) rfl dX0_advance_4 ?_
  have g2 := ite_some hf
  refine lv_icmp_ge (tgt := 81) hx hb dX0_advance_7 (by decide) (fun c1 => ?_) (fun c1 => ?_)
  · replace hf := g2.1 c1
    exact hK81 _ hf _ _ _ hP hD hS (lv_sub hl [0] rfl)
  · replace hf := g2.2 c1
    refine lv_aload_n hx hb dX0_advance_10 rfl (lv_at hl 0 rfl) ?_
    refine va_get (D := D) (ci := 0) (v := .ref (q_t 5)) (C := RX0) (T := TX0) (N := 10) hx hb hT iX0 hown hK hP 0 rfl rfl 5 (by decide) (hT _ fw_X0_28) (fun _ h9 => h9) rfl dX0_advance_11 ?_
    refine lv_iload_n hx hb dX0_advance_14 rfl (lv_at hl 2 rfl) ?_
    obtain ⟨hi, hf⟩ := chk_some hf
    refine va_iald (D := D) hx hb hK hP 3 0 rfl rfl hi dX0_advance_15 ?_
    refine lv_istore_n (lv' := [(3, .int ((d_t.2 5) (v.1).toNatClampNeg)), (0, .ref h_t), (1, .ref h_a1), (2, .int (v.1))]) hx hb dX0_advance_16 rfl hl (by decide) rfl (fun ls hl => ?_)
    refine lv_aload_n hx hb dX0_advance_17 rfl (lv_at hl 1 rfl) ?_
    refine va_get (D := D) (ci := 0) (v := .ref (q_t 6)) (C := RX0) (T := TX0) (N := 10) hx hb hT iX0 hown hK hP 0 rfl rfl 6 (by decide) (hT _ fw_X0_31) (fun _ h9 => h9) rfl dX0_advance_18 ?_
    refine lv_iload_n hx hb dX0_advance_21 rfl (lv_at hl 3 rfl) ?_
    refine lv_aload_n hx hb dX0_advance_22 rfl (lv_at hl 1 rfl) ?_
    refine va_get (D := D) (ci := 0) (v := .ref (q_t 4)) (C := RX0) (T := TX0) (N := 10) hx hb hT iX0 hown hK hP 0 rfl rfl 4 (by decide) (hT _ fw_X0_25) (fun _ h9 => h9) rfl dX0_advance_23 ?_
    refine lv_iload_n hx hb dX0_advance_26 rfl (lv_at hl 3 rfl) ?_
    obtain ⟨hi, hf⟩ := chk_some hf
    refine va_iald (D := D) hx hb hK hP 2 0 rfl rfl hi dX0_advance_27 ?_
    obtain ⟨hi, hf⟩ := chk_some hf
    refine va_iast (D := D) hx hb hK hP hD hS 4 0 rfl rfl hi dX0_advance_28 (fun H locs hP hD hS => ?_)
    replace hP : va_P D vwCl [oX0 h_t q_t (d_t.1), ((q_t 2), .inl (cs 0, 6, .inl (d_t.2 2))), ((q_t 4), .inl (cs 0, 6, .inl (d_t.2 4))), ((q_t 5), .inl (cs 0, 6, .inl (d_t.2 5))), ((q_t 6), .inl (cs 0, 6, .inl (upd (v.2.2 6) (v.1).toNatClampNeg ((d_t.2 4) (v.1).toNatClampNeg)))), oX4 h_a1 q_a1 (d_a1.1), ((q_a1 1), .inl (cs 0, 6, .inl (d_a1.2 1))), ((q_a1 2), .inl (cs 0, 6, .inl (d_a1.2 2)))] H := hP
    replace hD : va_D A [oX0 h_t q_t (d_t.1), ((q_t 2), .inl (cs 0, 6, .inl (d_t.2 2))), ((q_t 4), .inl (cs 0, 6, .inl (d_t.2 4))), ((q_t 5), .inl (cs 0, 6, .inl (d_t.2 5))), ((q_t 6), .inl (cs 0, 6, .inl (upd (v.2.2 6) (v.1).toNatClampNeg ((d_t.2 4) (v.1).toNatClampNeg)))), oX4 h_a1 q_a1 (d_a1.1), ((q_a1 1), .inl (cs 0, 6, .inl (d_a1.2 1))), ((q_a1 2), .inl (cs 0, 6, .inl (d_a1.2 2)))] := hD
    refine lv_iload_n hx hb dX0_advance_29 rfl (lv_at hl 0 rfl) ?_
    refine lv_iload_n hx hb dX0_advance_30 rfl (lv_at hl 3 rfl) ?_
    have g4 := ite_some hf
    refine lv_icmp_eq (tgt := 75) hx hb dX0_advance_31 (by decide) (fun c3 => ?_) (fun c3 => ?_)
    · replace hf := g4.1 c3
      refine lv_iinc (v := ((v.1) + 1)) (lv' := [(2, .int ((v.1) + 1)), (3, .int ((d_t.2 5) (v.1).toNatClampNeg)), (0, .ref h_t), (1, .ref h_a1)]) hx hb dX0_advance_75 hl (k := 3) rfl rfl (by decide) rfl (fun ls hl => ?_)
      refine lv_goto (tgt := 2) hx hb dX0_advance_78 (by decide) ?_
      exact ih _ hf _ _ _ hP hD hS (lv_sub hl [2, 3, 0] rfl)
    · replace hf := g4.2 c3
      refine lv_aload_n hx hb dX0_advance_34 rfl (lv_at hl 2 rfl) ?_
      refine lv_aload_n hx hb dX0_advance_35 rfl (lv_at hl 1 rfl) ?_
      refine va_get (D := D) (ci := 0) (v := .ref (q_t 2)) (C := RX0) (T := TX0) (N := 10) hx hb hT iX0 hown hK hP 0 rfl rfl 2 (by decide) (hT _ fw_X0_19) (fun _ h9 => h9) rfl dX0_advance_36 ?_
      refine lv_iload_n hx hb dX0_advance_39 rfl (lv_at hl 3 rfl) ?_
      obtain ⟨hi, hf⟩ := chk_some hf
      refine va_iald (D := D) hx hb hK hP 1 0 rfl rfl hi dX0_advance_40 ?_
      refine lv_aload_n hx hb dX0_advance_41 rfl (lv_at hl 1 rfl) ?_
      refine va_get (D := D) (ci := 0) (v := .ref (q_t 2)) (C := RX0) (T := TX0) (N := 10) hx hb hT iX0 hown hK hP 0 rfl rfl 2 (by decide) (hT _ fw_X0_19) (fun _ h9 => h9) rfl dX0_advance_42 ?_
      refine lv_iload_n hx hb dX0_advance_45 rfl (lv_at hl 0 rfl) ?_
      obtain ⟨hi, hf⟩ := chk_some hf
      refine va_iald (D := D) hx hb hK hP 1 0 rfl rfl hi dX0_advance_46 ?_
      obtain ⟨r5, e6, hf⟩ := bind_some hf
      refine callVi (As := [.int ((d_t.2 2) (v.1).toNatClampNeg), .int ((d_t.2 2) ((d_t.2 5) (v.1).toNatClampNeg).toNatClampNeg)]) (rest := []) M (mX4_timeBetween l D cs sk h_a1 q_a1 k d_a1 ((d_t.2 2) (v.1).toNatClampNeg) ((d_t.2 2) ((d_t.2 5) (v.1).toNatClampNeg).toNatClampNeg) e6) mw_X0_47 ln_X4_timeBetween ⟨rfl, rfl, Nat.le_of_ble_eq_true rfl, Nat.le_of_ble_eq_true rfl⟩ hP hD hS hA [5, 6, 7] (by decide) rfl rfl (q0 := 0) rfl rfl rfl ⟨Nat.zero_le _, Nat.zero_le _⟩ hl.1 rfl (Nat.le_of_ble_eq_true rfl) dX0_advance_47 (fun H locs hP hD hS => ?_)
      replace hP : va_P D vwCl [oX0 h_t q_t (d_t.1), ((q_t 2), .inl (cs 0, 6, .inl (d_t.2 2))), ((q_t 4), .inl (cs 0, 6, .inl (d_t.2 4))), ((q_t 5), .inl (cs 0, 6, .inl (d_t.2 5))), ((q_t 6), .inl (cs 0, 6, .inl (upd (v.2.2 6) (v.1).toNatClampNeg ((d_t.2 4) (v.1).toNatClampNeg)))), oX4 h_a1 q_a1 (d_a1.1), ((q_a1 1), .inl (cs 0, 6, .inl (d_a1.2 1))), ((q_a1 2), .inl (cs 0, 6, .inl (d_a1.2 2)))] H := hP
      replace hD : va_D A [oX0 h_t q_t (d_t.1), ((q_t 2), .inl (cs 0, 6, .inl (d_t.2 2))), ((q_t 4), .inl (cs 0, 6, .inl (d_t.2 4))), ((q_t 5), .inl (cs 0, 6, .inl (d_t.2 5))), ((q_t 6), .inl (cs 0, 6, .inl (upd (v.2.2 6) (v.1).toNatClampNeg ((d_t.2 4) (v.1).toNatClampNeg)))), oX4 h_a1 q_a1 (d_a1.1), ((q_a1 1), .inl (cs 0, 6, .inl (d_a1.2 1))), ((q_a1 2), .inl (cs 0, 6, .inl (d_a1.2 2)))] := hD
      refine lv_istore (lv' := [(4, .int r5), (3, .int ((d_t.2 5) (v.1).toNatClampNeg)), (0, .ref h_t), (1, .ref h_a1), (2, .int (v.1))]) hx hb dX0_advance_50 hl (by decide) rfl (fun ls hl => ?_)
      refine lv_aload_n hx hb dX0_advance_52 rfl (lv_at hl 2 rfl) ?_
      refine va_get (D := D) (ci := 0) (v := .ref (q_t 6)) (C := RX0) (T := TX0) (N := 10) hx hb hT iX0 hown hK hP 0 rfl rfl 6 (by decide) (hT _ fw_X0_31) (fun _ h9 => h9) rfl dX0_advance_53 ?_
      refine lv_iload_n hx hb dX0_advance_56 rfl (lv_at hl 4 rfl) ?_
      refine lv_aload_n hx hb dX0_advance_57 rfl (lv_at hl 2 rfl) ?_
      refine va_get (D := D) (ci := 0) (v := .ref (q_t 4)) (C := RX0) (T := TX0) (N := 10) hx hb hT iX0 hown hK hP 0 rfl rfl 4 (by decide) (hT _ fw_X0_25) (fun _ h9 => h9) rfl dX0_advance_58 ?_
      refine lv_iload_n hx hb dX0_advance_61 rfl (lv_at hl 1 rfl) ?_
      obtain ⟨hi, hf⟩ := chk_some hf
      refine va_iald (D := D) hx hb hK hP 2 0 rfl rfl hi dX0_advance_62 ?_
      refine lv_iload hx hb dX0_advance_63 (lv_at hl 0 rfl) ?_
      refine lv_iadd hx hb dX0_advance_65 ?_
      refine lv_aload_n hx hb dX0_advance_66 rfl (lv_at hl 2 rfl) ?_
      refine va_get (D := D) (ci := 0) (v := .int (d_t.1 7)) (C := RX0) (T := TX0) (N := 10) hx hb hT iX0 hown hK hP 0 rfl rfl 7 (by decide) (hT _ fw_X0_34) (fun _ h9 => h9) rfl dX0_advance_67 ?_
      refine lv_isub hx hb dX0_advance_70 ?_
      obtain ⟨r7, e8, hf⟩ := bind_some hf
      refine callSNi (As := [.int ((((d_t.2 4) ((d_t.2 5) (v.1).toNatClampNeg).toNatClampNeg) + r5) - (d_t.1 7))]) (rest := [.int (v.1), .ref (q_t 6)]) M (mX6_heldOffset l D cs sk  k ((((d_t.2 4) ((d_t.2 5) (v.1).toNatClampNeg).toNatClampNeg) + r5) - (d_t.1 7)) e8) mw_X0_53 ln_X6_heldOffset ⟨rfl, rfl, Nat.le_of_ble_eq_true rfl, Nat.le_of_ble_eq_true rfl⟩ hP hD hS hA [] (by decide) rfl rfl ⟨Nat.zero_le _, Nat.zero_le _⟩ hl.1 rfl (Nat.le_of_ble_eq_true rfl) dX0_advance_71 (fun H locs hP hD hS => ?_)
      replace hP : va_P D vwCl [oX0 h_t q_t (d_t.1), ((q_t 2), .inl (cs 0, 6, .inl (d_t.2 2))), ((q_t 4), .inl (cs 0, 6, .inl (d_t.2 4))), ((q_t 5), .inl (cs 0, 6, .inl (d_t.2 5))), ((q_t 6), .inl (cs 0, 6, .inl (upd (v.2.2 6) (v.1).toNatClampNeg ((d_t.2 4) (v.1).toNatClampNeg)))), oX4 h_a1 q_a1 (d_a1.1), ((q_a1 1), .inl (cs 0, 6, .inl (d_a1.2 1))), ((q_a1 2), .inl (cs 0, 6, .inl (d_a1.2 2)))] H := hP
      replace hD : va_D A [oX0 h_t q_t (d_t.1), ((q_t 2), .inl (cs 0, 6, .inl (d_t.2 2))), ((q_t 4), .inl (cs 0, 6, .inl (d_t.2 4))), ((q_t 5), .inl (cs 0, 6, .inl (d_t.2 5))), ((q_t 6), .inl (cs 0, 6, .inl (upd (v.2.2 6) (v.1).toNatClampNeg ((d_t.2 4) (v.1).toNatClampNeg)))), oX4 h_a1 q_a1 (d_a1.1), ((q_a1 1), .inl (cs 0, 6, .inl (d_a1.2 1))), ((q_a1 2), .inl (cs 0, 6, .inl (d_a1.2 2)))] := hD
      obtain ⟨hi, hf⟩ := chk_some hf
      refine va_iast (D := D) hx hb hK hP hD hS 4 0 rfl rfl hi dX0_advance_74 (fun H locs hP hD hS => ?_)
      replace hP : va_P D vwCl [oX0 h_t q_t (d_t.1), ((q_t 2), .inl (cs 0, 6, .inl (d_t.2 2))), ((q_t 4), .inl (cs 0, 6, .inl (d_t.2 4))), ((q_t 5), .inl (cs 0, 6, .inl (d_t.2 5))), ((q_t 6), .inl (cs 0, 6, .inl (upd (upd (v.2.2 6) (v.1).toNatClampNeg ((d_t.2 4) (v.1).toNatClampNeg)) (v.1).toNatClampNeg r7))), oX4 h_a1 q_a1 (d_a1.1), ((q_a1 1), .inl (cs 0, 6, .inl (d_a1.2 1))), ((q_a1 2), .inl (cs 0, 6, .inl (d_a1.2 2)))] H := hP
      replace hD : va_D A [oX0 h_t q_t (d_t.1), ((q_t 2), .inl (cs 0, 6, .inl (d_t.2 2))), ((q_t 4), .inl (cs 0, 6, .inl (d_t.2 4))), ((q_t 5), .inl (cs 0, 6, .inl (d_t.2 5))), ((q_t 6), .inl (cs 0, 6, .inl (upd (upd (v.2.2 6) (v.1).toNatClampNeg ((d_t.2 4) (v.1).toNatClampNeg)) (v.1).toNatClampNeg r7))), oX4 h_a1 q_a1 (d_a1.1), ((q_a1 1), .inl (cs 0, 6, .inl (d_a1.2 1))), ((q_a1 2), .inl (cs 0, 6, .inl (d_a1.2 2)))] := hD
      refine lv_iinc (v := ((v.1) + 1)) (lv' := [(2, .int ((v.1) + 1)), (4, .int r5), (3, .int ((d_t.2 5) (v.1).toNatClampNeg)), (0, .ref h_t), (1, .ref h_a1)]) hx hb dX0_advance_75 hl (k := 4) rfl rfl (by decide) rfl (fun ls hl => ?_)
      refine lv_goto (tgt := 2) hx hb dX0_advance_78 (by decide) ?_
      exact ih _ hf _ _ _ hP hD hS (lv_sub hl [3, 4, 0] rfl)
set_option maxHeartbeats 4000000 in
set_option maxRecDepth 100000 in
theorem mX0_advance_B85 {l : Launch} {p : Program} {e : Env} {s : State} {m : MethodId} {args : Array Value} {below : List Frame} {meth : Method} {c : Code} {D : va_G} {cs : Nat → ClassId} {sk : Nat → Nat} {A : Nat → Prop} {Q : State → Prop} (h_t : Nat) (h_a1 : Nat) (q_t : Nat → Nat) (q_a1 : Nat → Nat) (k : Nat) (d_t : Dat) (d_a1 : Dat) {rv : Int32 × Dat}  (K129 : Int32 × Dat → Option (Int32 × Dat))
    (M : MC p s m args meth c D cs sk A RX0 cX0_advance 5 (some .int)) (hA : ∀ q, s.heap.size ≤ q → A q) (hR : RetI p l e rm_X0_advance s m args below meth c D cX0_advance A Q (rv.1) [oX0 h_t q_t (d_t.1), ((q_t 2), .inl (cs 0, 6, .inl (d_t.2 2))), ((q_t 4), .inl (cs 0, 6, .inl (rv.2.2 4))), ((q_t 5), .inl (cs 0, 6, .inl (d_t.2 5))), ((q_t 6), .inl (cs 0, 6, .inl (rv.2.2 6))), oX4 h_a1 q_a1 (d_a1.1), ((q_a1 1), .inl (cs 0, 6, .inl (d_a1.2 1))), ((q_a1 2), .inl (cs 0, 6, .inl (d_a1.2 2)))])
    (hK129 : ∀ (w : Int32 × Dat), K129 w = some rv → ∀ (H : Heap) (locs : List Loc) (ls : Array Slot), va_P D vwCl [oX0 h_t q_t (d_t.1), ((q_t 2), .inl (cs 0, 6, .inl (d_t.2 2))), ((q_t 4), .inl (cs 0, 6, .inl (w.2.2 4))), ((q_t 5), .inl (cs 0, 6, .inl (d_t.2 5))), ((q_t 6), .inl (cs 0, 6, .inl (d_t.2 6))), oX4 h_a1 q_a1 (d_a1.1), ((q_a1 1), .inl (cs 0, 6, .inl (d_a1.2 1))), ((q_a1 2), .inl (cs 0, 6, .inl (d_a1.2 2)))] H → va_D A [oX0 h_t q_t (d_t.1), ((q_t 2), .inl (cs 0, 6, .inl (d_t.2 2))), ((q_t 4), .inl (cs 0, 6, .inl (w.2.2 4))), ((q_t 5), .inl (cs 0, 6, .inl (d_t.2 5))), ((q_t 6), .inl (cs 0, 6, .inl (d_t.2 6))), oX4 h_a1 q_a1 (d_a1.1), ((q_a1 1), .inl (cs 0, 6, .inl (d_a1.2 1))), ((q_a1 2), .inl (cs 0, 6, .inl (d_a1.2 2)))] → va_S A s.heap H locs → lv_has ls 5 [(2, .int (w.1))] → W p l e rm_X0_advance s m args below meth c H locs 0 0 Q (F0 m 129 ls []))
    : ∀ (n : Nat) (v : Int32 × Int32 × Dat), lp (fX0_advance_B85 k d_t K129) n v = some rv → ∀ (H : Heap) (locs : List Loc) (ls : Array Slot), va_P D vwCl [oX0 h_t q_t (d_t.1), ((q_t 2), .inl (cs 0, 6, .inl (d_t.2 2))), ((q_t 4), .inl (cs 0, 6, .inl (v.2.2.2 4))), ((q_t 5), .inl (cs 0, 6, .inl (d_t.2 5))), ((q_t 6), .inl (cs 0, 6, .inl (d_t.2 6))), oX4 h_a1 q_a1 (d_a1.1), ((q_a1 1), .inl (cs 0, 6, .inl (d_a1.2 1))), ((q_a1 2), .inl (cs 0, 6, .inl (d_a1.2 2)))] H → va_D A [oX0 h_t q_t (d_t.1), ((q_t 2), .inl (cs 0, 6, .inl (d_t.2 2))), ((q_t 4), .inl (cs 0, 6, .inl (v.2.2.2 4))), ((q_t 5), .inl (cs 0, 6, .inl (d_t.2 5))), ((q_t 6), .inl (cs 0, 6, .inl (d_t.2 6))), oX4 h_a1 q_a1 (d_a1.1), ((q_a1 1), .inl (cs 0, 6, .inl (d_a1.2 1))), ((q_a1 2), .inl (cs 0, 6, .inl (d_a1.2 2)))] → va_S A s.heap H locs → lv_has ls 5 [(0, .ref h_t), (2, .int (v.1)), (3, .int (v.2.1))] → W p l e rm_X0_advance s m args below meth c H locs 0 0 Q (F0 m 85 ls []) := by
  obtain ⟨hx, hb, hml, hT, hown, hlk, hrt, hK, hN, hSE⟩ := id M
  refine lp_ind (fun rec ih v hf H locs ls hP hD hS hl => ?_)
  unfold fX0_advance_B85 at hf
  refine lv_iload_n hx hb dX0_advance_85 rfl (lv_at hl 2 rfl) ?_
  refine lv_aload_n hx hb dX0_advance_86 rfl (lv_at hl 0 rfl) ?_
  refine va_get (D := D) (ci := 0) (v := .int (d_t.1 0)) (C := RX0) (T := TX0) (N := 10) hx hb hT iX0 hown hK hP 0 rfl rfl 0 (by decide) (hT _ fw_X0_9) (fun _ h9 => h9) rfl dX0_advance_87 ?_
  have g2 := ite_some hf
  refine lv_icmp_ge (tgt := 129) hx hb dX0_advance_90 (by decide) (fun c1 => ?_) (fun c1 => ?_)
  · replace hf := g2.1 c1
    exact hK129 _ hf _ _ _ hP hD hS (lv_sub hl [1] rfl)
  · replace hf := g2.2 c1
    refine lv_aload_n hx hb dX0_advance_93 rfl (lv_at hl 0 rfl) ?_
    refine va_get (D := D) (ci := 0) (v := .ref (q_t 6)) (C := RX0) (T := TX0) (N := 10) hx hb hT iX0 hown hK hP 0 rfl rfl 6 (by decide) (hT _ fw_X0_31) (fun _ h9 => h9) rfl dX0_advance_94 ?_
    refine lv_iload_n hx hb dX0_advance_97 rfl (lv_at hl 2 rfl) ?_
    obtain ⟨hi, hf⟩ := chk_some hf
    refine va_iald (D := D) hx hb hK hP 4 0 rfl rfl hi dX0_advance_98 ?_
    refine lv_aload_n hx hb dX0_advance_99 rfl (lv_at hl 0 rfl) ?_
    refine va_get (D := D) (ci := 0) (v := .ref (q_t 4)) (C := RX0) (T := TX0) (N := 10) hx hb hT iX0 hown hK hP 0 rfl rfl 4 (by decide) (hT _ fw_X0_25) (fun _ h9 => h9) rfl dX0_advance_100 ?_
    refine lv_iload_n hx hb dX0_advance_103 rfl (lv_at hl 2 rfl) ?_
    obtain ⟨hi, hf⟩ := chk_some hf
    refine va_iald (D := D) hx hb hK hP 2 0 rfl rfl hi dX0_advance_104 ?_
    have g4 := ite_some hf
    refine lv_icmp_eq (tgt := 111) hx hb dX0_advance_105 (by decide) (fun c3 => ?_) (fun c3 => ?_)
    · replace hf := g4.1 c3
      refine lv_aload_n hx hb dX0_advance_111 rfl (lv_at hl 0 rfl) ?_
      refine va_get (D := D) (ci := 0) (v := .ref (q_t 4)) (C := RX0) (T := TX0) (N := 10) hx hb hT iX0 hown hK hP 0 rfl rfl 4 (by decide) (hT _ fw_X0_25) (fun _ h9 => h9) rfl dX0_advance_112 ?_
      refine lv_iload_n hx hb dX0_advance_115 rfl (lv_at hl 2 rfl) ?_
      refine lv_aload_n hx hb dX0_advance_116 rfl (lv_at hl 0 rfl) ?_
      refine va_get (D := D) (ci := 0) (v := .ref (q_t 6)) (C := RX0) (T := TX0) (N := 10) hx hb hT iX0 hown hK hP 0 rfl rfl 6 (by decide) (hT _ fw_X0_31) (fun _ h9 => h9) rfl dX0_advance_117 ?_
      refine lv_iload_n hx hb dX0_advance_120 rfl (lv_at hl 2 rfl) ?_
      obtain ⟨hi, hf⟩ := chk_some hf
      refine va_iald (D := D) hx hb hK hP 4 0 rfl rfl hi dX0_advance_121 ?_
      obtain ⟨hi, hf⟩ := chk_some hf
      refine va_iast (D := D) hx hb hK hP hD hS 2 0 rfl rfl hi dX0_advance_122 (fun H locs hP hD hS => ?_)
      replace hP : va_P D vwCl [oX0 h_t q_t (d_t.1), ((q_t 2), .inl (cs 0, 6, .inl (d_t.2 2))), ((q_t 4), .inl (cs 0, 6, .inl (upd (v.2.2.2 4) (v.2.1).toNatClampNeg ((d_t.2 6) (v.2.1).toNatClampNeg)))), ((q_t 5), .inl (cs 0, 6, .inl (d_t.2 5))), ((q_t 6), .inl (cs 0, 6, .inl (d_t.2 6))), oX4 h_a1 q_a1 (d_a1.1), ((q_a1 1), .inl (cs 0, 6, .inl (d_a1.2 1))), ((q_a1 2), .inl (cs 0, 6, .inl (d_a1.2 2)))] H := hP
      replace hD : va_D A [oX0 h_t q_t (d_t.1), ((q_t 2), .inl (cs 0, 6, .inl (d_t.2 2))), ((q_t 4), .inl (cs 0, 6, .inl (upd (v.2.2.2 4) (v.2.1).toNatClampNeg ((d_t.2 6) (v.2.1).toNatClampNeg)))), ((q_t 5), .inl (cs 0, 6, .inl (d_t.2 5))), ((q_t 6), .inl (cs 0, 6, .inl (d_t.2 6))), oX4 h_a1 q_a1 (d_a1.1), ((q_a1 1), .inl (cs 0, 6, .inl (d_a1.2 1))), ((q_a1 2), .inl (cs 0, 6, .inl (d_a1.2 2)))] := hD
      refine lv_iinc (v := ((v.2.1) + 1)) (lv' := [(3, .int ((v.2.1) + 1)), (0, .ref h_t), (2, .int (v.1))]) hx hb dX0_advance_123 hl (k := 2) rfl rfl (by decide) rfl (fun ls hl => ?_)
      refine lv_goto (tgt := 85) hx hb dX0_advance_126 (by decide) ?_
      exact ih _ hf _ _ _ hP hD hS (lv_sub hl [1, 2, 0] rfl)
    · replace hf := g4.2 c3
      refine lv_iinc (v := ((v.1) + 1)) (lv' := [(2, .int ((v.1) + 1)), (0, .ref h_t), (3, .int (v.2.1))]) hx hb dX0_advance_108 hl (k := 1) rfl rfl (by decide) rfl (fun ls hl => ?_)
      refine lv_aload_n hx hb dX0_advance_111 rfl (lv_at hl 1 rfl) ?_
      refine va_get (D := D) (ci := 0) (v := .ref (q_t 4)) (C := RX0) (T := TX0) (N := 10) hx hb hT iX0 hown hK hP 0 rfl rfl 4 (by decide) (hT _ fw_X0_25) (fun _ h9 => h9) rfl dX0_advance_112 ?_
      refine lv_iload_n hx hb dX0_advance_115 rfl (lv_at hl 2 rfl) ?_
      refine lv_aload_n hx hb dX0_advance_116 rfl (lv_at hl 1 rfl) ?_
      refine va_get (D := D) (ci := 0) (v := .ref (q_t 6)) (C := RX0) (T := TX0) (N := 10) hx hb hT iX0 hown hK hP 0 rfl rfl 6 (by decide) (hT _ fw_X0_31) (fun _ h9 => h9) rfl dX0_advance_117 ?_
      refine lv_iload_n hx hb dX0_advance_120 rfl (lv_at hl 2 rfl) ?_
      obtain ⟨hi, hf⟩ := chk_some hf
      refine va_iald (D := D) hx hb hK hP 4 0 rfl rfl hi dX0_advance_121 ?_
      obtain ⟨hi, hf⟩ := chk_some hf
      refine va_iast (D := D) hx hb hK hP hD hS 2 0 rfl rfl hi dX0_advance_122 (fun H locs hP hD hS => ?_)
      replace hP : va_P D vwCl [oX0 h_t q_t (d_t.1), ((q_t 2), .inl (cs 0, 6, .inl (d_t.2 2))), ((q_t 4), .inl (cs 0, 6, .inl (upd (v.2.2.2 4) (v.2.1).toNatClampNeg ((d_t.2 6) (v.2.1).toNatClampNeg)))), ((q_t 5), .inl (cs 0, 6, .inl (d_t.2 5))), ((q_t 6), .inl (cs 0, 6, .inl (d_t.2 6))), oX4 h_a1 q_a1 (d_a1.1), ((q_a1 1), .inl (cs 0, 6, .inl (d_a1.2 1))), ((q_a1 2), .inl (cs 0, 6, .inl (d_a1.2 2)))] H := hP
      replace hD : va_D A [oX0 h_t q_t (d_t.1), ((q_t 2), .inl (cs 0, 6, .inl (d_t.2 2))), ((q_t 4), .inl (cs 0, 6, .inl (upd (v.2.2.2 4) (v.2.1).toNatClampNeg ((d_t.2 6) (v.2.1).toNatClampNeg)))), ((q_t 5), .inl (cs 0, 6, .inl (d_t.2 5))), ((q_t 6), .inl (cs 0, 6, .inl (d_t.2 6))), oX4 h_a1 q_a1 (d_a1.1), ((q_a1 1), .inl (cs 0, 6, .inl (d_a1.2 1))), ((q_a1 2), .inl (cs 0, 6, .inl (d_a1.2 2)))] := hD
      refine lv_iinc (v := ((v.2.1) + 1)) (lv' := [(3, .int ((v.2.1) + 1)), (2, .int ((v.1) + 1)), (0, .ref h_t)]) hx hb dX0_advance_123 hl (k := 2) rfl rfl (by decide) rfl (fun ls hl => ?_)
      refine lv_goto (tgt := 85) hx hb dX0_advance_126 (by decide) ?_
      exact ih _ hf _ _ _ hP hD hS (lv_sub hl [2, 1, 0] rfl)
set_option maxHeartbeats 4000000 in
set_option maxRecDepth 100000 in
theorem mX0_advance (l : Launch) (D : va_G) (cs : Nat → ClassId) (sk : Nat → Nat) (h_t : Nat) (h_a1 : Nat) (q_t : Nat → Nat) (q_a1 : Nat → Nat) (k : Nat) (d_t : Dat) (d_a1 : Dat) {rv : Int32 × Dat} (hf : fX0_advance k d_t d_a1 = some rv) : CTi l yX0_advance (Cond.code yX0_advance cX0_advance 5 (some .int) :: gtbl) rm_X0_advance D cs sk [.ref h_t, .ref h_a1] [oX0 h_t q_t (d_t.1), ((q_t 2), .inl (cs 0, 6, .inl (d_t.2 2))), ((q_t 4), .inl (cs 0, 6, .inl (d_t.2 4))), ((q_t 5), .inl (cs 0, 6, .inl (d_t.2 5))), ((q_t 6), .inl (cs 0, 6, .inl (d_t.2 6))), oX4 h_a1 q_a1 (d_a1.1), ((q_a1 1), .inl (cs 0, 6, .inl (d_a1.2 1))), ((q_a1 2), .inl (cs 0, 6, .inl (d_a1.2 2)))] (rv.1) [oX0 h_t q_t (d_t.1), ((q_t 2), .inl (cs 0, 6, .inl (d_t.2 2))), ((q_t 4), .inl (cs 0, 6, .inl (rv.2.2 4))), ((q_t 5), .inl (cs 0, 6, .inl (d_t.2 5))), ((q_t 6), .inl (cs 0, 6, .inl (rv.2.2 6))), oX4 h_a1 q_a1 (d_a1.1), ((q_a1 1), .inl (cs 0, 6, .inl (d_a1.2 1))), ((q_a1 2), .inl (cs 0, 6, .inl (d_a1.2 2)))] := by
  refine CTi.of RX0 (by decide +kernel) rfl (Nat.le_of_ble_eq_true rfl) (fun p e s m args below meth c A Q ls M hA hR hl hP hD hS => ?_)
  obtain ⟨hx, hb, hml, hT, hown, hlk, hrt, hK, hN, hSE⟩ := id M
  replace hl : lv_has ls 5 [(0, .ref h_t), (1, .ref h_a1)] := hl
  unfold fX0_advance at hf
  refine lv_iconst (v := 0) hx hb dX0_advance_0 rfl ?_
  refine lv_istore_n (lv' := [(2, .int 0), (0, .ref h_t), (1, .ref h_a1)]) hx hb dX0_advance_1 rfl hl (by decide) rfl (fun ls hl => ?_)
  refine mX0_advance_B2 h_t h_a1 q_t q_a1 k d_t d_a1 _ M hA hR (fun w1 hf H locs ls hP hD hS hl => ?_) _ _ hf _ _ _ hP hD hS (lv_sub hl [1, 2, 0] rfl)
  · refine lv_iconst (v := 0) hx hb dX0_advance_81 rfl ?_
    refine lv_istore_n (lv' := [(2, .int 0), (0, .ref h_t)]) hx hb dX0_advance_82 rfl hl (by decide) rfl (fun ls hl => ?_)
    refine lv_iconst (v := 0) hx hb dX0_advance_83 rfl ?_
    refine lv_istore_n (lv' := [(3, .int 0), (2, .int 0), (0, .ref h_t)]) hx hb dX0_advance_84 rfl hl (by decide) rfl (fun ls hl => ?_)
    refine mX0_advance_B85 h_t h_a1 q_t q_a1 k (d_t.1, (va_up d_t.2 6 (w1.2 6))) d_a1 _ M hA hR (fun w2 hf H locs ls hP hD hS hl => ?_) _ _ hf _ _ _ hP hD hS (lv_sub hl [2, 1, 0] rfl)
    · refine lv_iload_n hx hb dX0_advance_129 rfl (lv_at hl 0 rfl) ?_
      have e9 := Option.some.inj hf
      subst e9
      exact hR _ _ _ _ dX0_advance_130 hP hS
abbrev rm_X0_rememberOffsets : Room := { frames := 1, cells := 0, slots := 0, locals := 60 }
def fX0_rememberOffsets (k : Nat) (d_t : Dat) : Option (Dat) :=
  (if (d_t.1 8) < 8 then chc 6 48 0 ((d_t.1 8) * 6) 6 (some ((upd d_t.1 8 ((d_t.1 8) + 1)), (va_up d_t.2 9 (va_cpy (d_t.2 4) (d_t.2 9) (0 : Int32).toNatClampNeg ((d_t.1 8) * 6).toNatClampNeg (6 : Int32).toNatClampNeg)))) else chc 48 48 6 0 42 (chc 6 48 0 (7 * 6) 6 (some ((upd d_t.1 8 (7 + 1)), (va_up d_t.2 9 (va_cpy (d_t.2 4) (va_cpy (d_t.2 9) (d_t.2 9) (6 : Int32).toNatClampNeg (0 : Int32).toNatClampNeg (42 : Int32).toNatClampNeg) (0 : Int32).toNatClampNeg (7 * 6 : Int32).toNatClampNeg (6 : Int32).toNatClampNeg))))))
set_option maxHeartbeats 4000000 in
set_option maxRecDepth 100000 in
theorem mX0_rememberOffsets (l : Launch) (D : va_G) (cs : Nat → ClassId) (sk : Nat → Nat) (h_t : Nat) (q_t : Nat → Nat) (k : Nat) (d_t : Dat) {rv : Dat} (hf : fX0_rememberOffsets k d_t = some rv) : CTv l yX0_rememberOffsets (Cond.code yX0_rememberOffsets cX0_rememberOffsets 1 none :: gtbl) rm_X0_rememberOffsets D cs sk [.ref h_t] [oX0 h_t q_t (d_t.1), ((q_t 4), .inl (cs 0, 6, .inl (d_t.2 4))), ((q_t 9), .inl (cs 0, 48, .inl (d_t.2 9)))] [oX0 h_t q_t (rv.1), ((q_t 4), .inl (cs 0, 6, .inl (d_t.2 4))), ((q_t 9), .inl (cs 0, 48, .inl (rv.2 9)))] := by
  refine CTv.of RX0 (by decide +kernel) rfl (Nat.le_of_ble_eq_true rfl) (fun p e s m args below meth c A Q ls M hA hR hl hP hD hS => ?_)
  obtain ⟨hx, hb, hml, hT, hown, hlk, hrt, hK, hN, hSE⟩ := id M
  replace hl : lv_has ls 1 [(0, .ref h_t)] := hl
  unfold fX0_rememberOffsets at hf
  refine lv_aload_n hx hb dX0_rememberOffsets_0 rfl (lv_at hl 0 rfl) ?_
  refine va_get (D := D) (ci := 0) (v := .int (d_t.1 8)) (C := RX0) (T := TX0) (N := 10) hx hb hT iX0 hown hK hP 0 rfl rfl 8 (by decide) (hT _ fw_X0_37) (fun _ h9 => h9) rfl dX0_rememberOffsets_1 ?_
  refine lv_bipush (v := 8) hx hb dX0_rememberOffsets_4 rfl ?_
  have g2 := ite_some hf
  refine lv_icmp_lt (tgt := 31) hx hb dX0_rememberOffsets_6 (by decide) (fun c1 => ?_) (fun c1 => ?_)
  · replace hf := g2.1 c1
    refine lv_aload_n hx hb dX0_rememberOffsets_31 rfl (lv_at hl 0 rfl) ?_
    refine va_get (D := D) (ci := 0) (v := .ref (q_t 4)) (C := RX0) (T := TX0) (N := 10) hx hb hT iX0 hown hK hP 0 rfl rfl 4 (by decide) (hT _ fw_X0_25) (fun _ h9 => h9) rfl dX0_rememberOffsets_32 ?_
    refine lv_iconst (v := 0) hx hb dX0_rememberOffsets_35 rfl ?_
    refine lv_aload_n hx hb dX0_rememberOffsets_36 rfl (lv_at hl 0 rfl) ?_
    refine va_get (D := D) (ci := 0) (v := .ref (q_t 9)) (C := RX0) (T := TX0) (N := 10) hx hb hT iX0 hown hK hP 0 rfl rfl 9 (by decide) (hT _ fw_X0_40) (fun _ h9 => h9) rfl dX0_rememberOffsets_37 ?_
    refine lv_aload_n hx hb dX0_rememberOffsets_40 rfl (lv_at hl 0 rfl) ?_
    refine va_get (D := D) (ci := 0) (v := .int (d_t.1 8)) (C := RX0) (T := TX0) (N := 10) hx hb hT iX0 hown hK hP 0 rfl rfl 8 (by decide) (hT _ fw_X0_37) (fun _ h9 => h9) rfl dX0_rememberOffsets_41 ?_
    refine lv_bipush (v := 6) hx hb dX0_rememberOffsets_44 rfl ?_
    refine lv_imul hx hb dX0_rememberOffsets_46 ?_
    refine lv_bipush (v := 6) hx hb dX0_rememberOffsets_47 rfl ?_
    obtain ⟨hc, hf⟩ := chc_some hf
    refine va_copyi (D := D) hx hb (hml.trans hl.1.symm) hown (hT _ aw_X0_57.1) (hT _ aw_X0_57.2.1) (hT _ aw_X0_57.2.2.1) (hT _ aw_X0_57.2.2.2) hK hP hD hS 1 2 0 0 rfl rfl rfl rfl rfl hc.1 hc.2.1 hc.2.2.1 hc.2.2.2.1 hc.2.2.2.2 (fun _ _ => rfl) (Nat.le_of_ble_eq_true rfl) (Nat.le_of_ble_eq_true rfl) dX0_rememberOffsets_49 (fun H locs hP hD hS => ?_)
    replace hP : va_P D vwCl [oX0 h_t q_t (d_t.1), ((q_t 4), .inl (cs 0, 6, .inl (d_t.2 4))), ((q_t 9), .inl (cs 0, 48, .inl (va_cpy (d_t.2 4) (d_t.2 9) (0 : Int32).toNatClampNeg ((d_t.1 8) * 6).toNatClampNeg (6 : Int32).toNatClampNeg)))] H := hP
    replace hD : va_D A [oX0 h_t q_t (d_t.1), ((q_t 4), .inl (cs 0, 6, .inl (d_t.2 4))), ((q_t 9), .inl (cs 0, 48, .inl (va_cpy (d_t.2 4) (d_t.2 9) (0 : Int32).toNatClampNeg ((d_t.1 8) * 6).toNatClampNeg (6 : Int32).toNatClampNeg)))] := hD
    refine lv_aload_n hx hb dX0_rememberOffsets_52 rfl (lv_at hl 0 rfl) ?_
    refine lv_dup hx hb dX0_rememberOffsets_53 rfl ?_
    refine va_get (D := D) (ci := 0) (v := .int (d_t.1 8)) (C := RX0) (T := TX0) (N := 10) hx hb hT iX0 hown hK hP 0 rfl rfl 8 (by decide) (hT _ fw_X0_37) (fun _ h9 => h9) rfl dX0_rememberOffsets_54 ?_
    refine lv_iconst (v := 1) hx hb dX0_rememberOffsets_57 rfl ?_
    refine lv_iadd hx hb dX0_rememberOffsets_58 ?_
    refine va_put (D := D) (ci := 0) (v := .int ((d_t.1 8) + 1)) (ty := tyX0 8) (C := RX0) (T := TX0) (N := 10) hx hb hT iX0 tyX0 tyX0_ok nmX0 hown hK hP hD hS 0 rfl rfl 8 (by decide) (hT _ fw_X0_37) (fun _ h9 => h9) rfl (tyX0_ok 8 (by decide)) rfl rfl (Nat.le_of_ble_eq_true rfl) dX0_rememberOffsets_59 (fun H locs hP hD hS => ?_)
    replace hP : va_P D vwCl [oX0 h_t q_t (upd d_t.1 8 ((d_t.1 8) + 1)), ((q_t 4), .inl (cs 0, 6, .inl (d_t.2 4))), ((q_t 9), .inl (cs 0, 48, .inl (va_cpy (d_t.2 4) (d_t.2 9) (0 : Int32).toNatClampNeg ((d_t.1 8) * 6).toNatClampNeg (6 : Int32).toNatClampNeg)))] H := hP
    replace hD : va_D A [oX0 h_t q_t (upd d_t.1 8 ((d_t.1 8) + 1)), ((q_t 4), .inl (cs 0, 6, .inl (d_t.2 4))), ((q_t 9), .inl (cs 0, 48, .inl (va_cpy (d_t.2 4) (d_t.2 9) (0 : Int32).toNatClampNeg ((d_t.1 8) * 6).toNatClampNeg (6 : Int32).toNatClampNeg)))] := hD
    have e9 := Option.some.inj hf
    subst e9
    exact hR _ _ _ _ dX0_rememberOffsets_62 hP hS
  · replace hf := g2.2 c1
    refine lv_aload_n hx hb dX0_rememberOffsets_9 rfl (lv_at hl 0 rfl) ?_
    refine va_get (D := D) (ci := 0) (v := .ref (q_t 9)) (C := RX0) (T := TX0) (N := 10) hx hb hT iX0 hown hK hP 0 rfl rfl 9 (by decide) (hT _ fw_X0_40) (fun _ h9 => h9) rfl dX0_rememberOffsets_10 ?_
    refine lv_bipush (v := 6) hx hb dX0_rememberOffsets_13 rfl ?_
    refine lv_aload_n hx hb dX0_rememberOffsets_15 rfl (lv_at hl 0 rfl) ?_
    refine va_get (D := D) (ci := 0) (v := .ref (q_t 9)) (C := RX0) (T := TX0) (N := 10) hx hb hT iX0 hown hK hP 0 rfl rfl 9 (by decide) (hT _ fw_X0_40) (fun _ h9 => h9) rfl dX0_rememberOffsets_16 ?_
    refine lv_iconst (v := 0) hx hb dX0_rememberOffsets_19 rfl ?_
    refine lv_bipush (v := 42) hx hb dX0_rememberOffsets_20 rfl ?_
    obtain ⟨hc, hf⟩ := chc_some hf
    refine va_copyi (D := D) hx hb (hml.trans hl.1.symm) hown (hT _ aw_X0_57.1) (hT _ aw_X0_57.2.1) (hT _ aw_X0_57.2.2.1) (hT _ aw_X0_57.2.2.2) hK hP hD hS 2 2 0 0 rfl rfl rfl rfl rfl hc.1 hc.2.1 hc.2.2.1 hc.2.2.2.1 hc.2.2.2.2 (fun _ _ => rfl) (Nat.le_of_ble_eq_true rfl) (Nat.le_of_ble_eq_true rfl) dX0_rememberOffsets_22 (fun H locs hP hD hS => ?_)
    replace hP : va_P D vwCl [oX0 h_t q_t (d_t.1), ((q_t 4), .inl (cs 0, 6, .inl (d_t.2 4))), ((q_t 9), .inl (cs 0, 48, .inl (va_cpy (d_t.2 9) (d_t.2 9) (6 : Int32).toNatClampNeg (0 : Int32).toNatClampNeg (42 : Int32).toNatClampNeg)))] H := hP
    replace hD : va_D A [oX0 h_t q_t (d_t.1), ((q_t 4), .inl (cs 0, 6, .inl (d_t.2 4))), ((q_t 9), .inl (cs 0, 48, .inl (va_cpy (d_t.2 9) (d_t.2 9) (6 : Int32).toNatClampNeg (0 : Int32).toNatClampNeg (42 : Int32).toNatClampNeg)))] := hD
    refine lv_aload_n hx hb dX0_rememberOffsets_25 rfl (lv_at hl 0 rfl) ?_
    refine lv_bipush (v := 7) hx hb dX0_rememberOffsets_26 rfl ?_
    refine va_put (D := D) (ci := 0) (v := .int 7) (ty := tyX0 8) (C := RX0) (T := TX0) (N := 10) hx hb hT iX0 tyX0 tyX0_ok nmX0 hown hK hP hD hS 0 rfl rfl 8 (by decide) (hT _ fw_X0_37) (fun _ h9 => h9) rfl (tyX0_ok 8 (by decide)) rfl rfl (Nat.le_of_ble_eq_true rfl) dX0_rememberOffsets_28 (fun H locs hP hD hS => ?_)
    replace hP : va_P D vwCl [oX0 h_t q_t (upd d_t.1 8 7), ((q_t 4), .inl (cs 0, 6, .inl (d_t.2 4))), ((q_t 9), .inl (cs 0, 48, .inl (va_cpy (d_t.2 9) (d_t.2 9) (6 : Int32).toNatClampNeg (0 : Int32).toNatClampNeg (42 : Int32).toNatClampNeg)))] H := hP
    replace hD : va_D A [oX0 h_t q_t (upd d_t.1 8 7), ((q_t 4), .inl (cs 0, 6, .inl (d_t.2 4))), ((q_t 9), .inl (cs 0, 48, .inl (va_cpy (d_t.2 9) (d_t.2 9) (6 : Int32).toNatClampNeg (0 : Int32).toNatClampNeg (42 : Int32).toNatClampNeg)))] := hD
    refine lv_aload_n hx hb dX0_rememberOffsets_31 rfl (lv_at hl 0 rfl) ?_
    refine va_get (D := D) (ci := 0) (v := .ref (q_t 4)) (C := RX0) (T := TX0) (N := 10) hx hb hT iX0 hown hK hP 0 rfl rfl 4 (by decide) (hT _ fw_X0_25) (fun _ h9 => h9) rfl dX0_rememberOffsets_32 ?_
    refine lv_iconst (v := 0) hx hb dX0_rememberOffsets_35 rfl ?_
    refine lv_aload_n hx hb dX0_rememberOffsets_36 rfl (lv_at hl 0 rfl) ?_
    refine va_get (D := D) (ci := 0) (v := .ref (q_t 9)) (C := RX0) (T := TX0) (N := 10) hx hb hT iX0 hown hK hP 0 rfl rfl 9 (by decide) (hT _ fw_X0_40) (fun _ h9 => h9) rfl dX0_rememberOffsets_37 ?_
    refine lv_aload_n hx hb dX0_rememberOffsets_40 rfl (lv_at hl 0 rfl) ?_
    refine va_get (D := D) (ci := 0) (v := .int 7) (C := RX0) (T := TX0) (N := 10) hx hb hT iX0 hown hK hP 0 rfl rfl 8 (by decide) (hT _ fw_X0_37) (fun _ h9 => h9) rfl dX0_rememberOffsets_41 ?_
    refine lv_bipush (v := 6) hx hb dX0_rememberOffsets_44 rfl ?_
    refine lv_imul hx hb dX0_rememberOffsets_46 ?_
    refine lv_bipush (v := 6) hx hb dX0_rememberOffsets_47 rfl ?_
    obtain ⟨hc, hf⟩ := chc_some hf
    refine va_copyi (D := D) hx hb (hml.trans hl.1.symm) hown (hT _ aw_X0_57.1) (hT _ aw_X0_57.2.1) (hT _ aw_X0_57.2.2.1) (hT _ aw_X0_57.2.2.2) hK hP hD hS 1 2 0 0 rfl rfl rfl rfl rfl hc.1 hc.2.1 hc.2.2.1 hc.2.2.2.1 hc.2.2.2.2 (fun _ _ => rfl) (Nat.le_of_ble_eq_true rfl) (Nat.le_of_ble_eq_true rfl) dX0_rememberOffsets_49 (fun H locs hP hD hS => ?_)
    replace hP : va_P D vwCl [oX0 h_t q_t (upd d_t.1 8 7), ((q_t 4), .inl (cs 0, 6, .inl (d_t.2 4))), ((q_t 9), .inl (cs 0, 48, .inl (va_cpy (d_t.2 4) (va_cpy (d_t.2 9) (d_t.2 9) (6 : Int32).toNatClampNeg (0 : Int32).toNatClampNeg (42 : Int32).toNatClampNeg) (0 : Int32).toNatClampNeg (7 * 6 : Int32).toNatClampNeg (6 : Int32).toNatClampNeg)))] H := hP
    replace hD : va_D A [oX0 h_t q_t (upd d_t.1 8 7), ((q_t 4), .inl (cs 0, 6, .inl (d_t.2 4))), ((q_t 9), .inl (cs 0, 48, .inl (va_cpy (d_t.2 4) (va_cpy (d_t.2 9) (d_t.2 9) (6 : Int32).toNatClampNeg (0 : Int32).toNatClampNeg (42 : Int32).toNatClampNeg) (0 : Int32).toNatClampNeg (7 * 6 : Int32).toNatClampNeg (6 : Int32).toNatClampNeg)))] := hD
    refine lv_aload_n hx hb dX0_rememberOffsets_52 rfl (lv_at hl 0 rfl) ?_
    refine lv_dup hx hb dX0_rememberOffsets_53 rfl ?_
    refine va_get (D := D) (ci := 0) (v := .int 7) (C := RX0) (T := TX0) (N := 10) hx hb hT iX0 hown hK hP 0 rfl rfl 8 (by decide) (hT _ fw_X0_37) (fun _ h9 => h9) rfl dX0_rememberOffsets_54 ?_
    refine lv_iconst (v := 1) hx hb dX0_rememberOffsets_57 rfl ?_
    refine lv_iadd hx hb dX0_rememberOffsets_58 ?_
    refine va_put (D := D) (ci := 0) (v := .int (7 + 1)) (ty := tyX0 8) (C := RX0) (T := TX0) (N := 10) hx hb hT iX0 tyX0 tyX0_ok nmX0 hown hK hP hD hS 0 rfl rfl 8 (by decide) (hT _ fw_X0_37) (fun _ h9 => h9) rfl (tyX0_ok 8 (by decide)) rfl rfl (Nat.le_of_ble_eq_true rfl) dX0_rememberOffsets_59 (fun H locs hP hD hS => ?_)
    replace hP : va_P D vwCl [oX0 h_t q_t (upd d_t.1 8 (7 + 1)), ((q_t 4), .inl (cs 0, 6, .inl (d_t.2 4))), ((q_t 9), .inl (cs 0, 48, .inl (va_cpy (d_t.2 4) (va_cpy (d_t.2 9) (d_t.2 9) (6 : Int32).toNatClampNeg (0 : Int32).toNatClampNeg (42 : Int32).toNatClampNeg) (0 : Int32).toNatClampNeg (7 * 6 : Int32).toNatClampNeg (6 : Int32).toNatClampNeg)))] H := hP
    replace hD : va_D A [oX0 h_t q_t (upd d_t.1 8 (7 + 1)), ((q_t 4), .inl (cs 0, 6, .inl (d_t.2 4))), ((q_t 9), .inl (cs 0, 48, .inl (va_cpy (d_t.2 4) (va_cpy (d_t.2 9) (d_t.2 9) (6 : Int32).toNatClampNeg (0 : Int32).toNatClampNeg (42 : Int32).toNatClampNeg) (0 : Int32).toNatClampNeg (7 * 6 : Int32).toNatClampNeg (6 : Int32).toNatClampNeg)))] := hD
    have e9 := Option.some.inj hf
    subst e9
    exact hR _ _ _ _ dX0_rememberOffsets_62 hP hS
abbrev rm_X0_recallOffsets : Room := { frames := 1, cells := 0, slots := 0, locals := 60 }
def fX0_recallOffsets (k : Nat) (d_t : Dat) : Option (Dat) :=
  (if 0 < (d_t.1 8) then chc 48 6 (((d_t.1 8) - 1) * 6) 0 6 (some ((upd d_t.1 8 ((d_t.1 8) - 1)), (va_up d_t.2 4 (va_cpy (d_t.2 9) (d_t.2 4) (((d_t.1 8) - 1) * 6).toNatClampNeg (0 : Int32).toNatClampNeg (6 : Int32).toNatClampNeg)))) else some d_t)
set_option maxHeartbeats 4000000 in
set_option maxRecDepth 100000 in
theorem mX0_recallOffsets (l : Launch) (D : va_G) (cs : Nat → ClassId) (sk : Nat → Nat) (h_t : Nat) (q_t : Nat → Nat) (k : Nat) (d_t : Dat) {rv : Dat} (hf : fX0_recallOffsets k d_t = some rv) : CTv l yX0_recallOffsets (Cond.code yX0_recallOffsets cX0_recallOffsets 1 none :: gtbl) rm_X0_recallOffsets D cs sk [.ref h_t] [oX0 h_t q_t (d_t.1), ((q_t 4), .inl (cs 0, 6, .inl (d_t.2 4))), ((q_t 9), .inl (cs 0, 48, .inl (d_t.2 9)))] [oX0 h_t q_t (rv.1), ((q_t 4), .inl (cs 0, 6, .inl (rv.2 4))), ((q_t 9), .inl (cs 0, 48, .inl (d_t.2 9)))] := by
  refine CTv.of RX0 (by decide +kernel) rfl (Nat.le_of_ble_eq_true rfl) (fun p e s m args below meth c A Q ls M hA hR hl hP hD hS => ?_)
  obtain ⟨hx, hb, hml, hT, hown, hlk, hrt, hK, hN, hSE⟩ := id M
  replace hl : lv_has ls 1 [(0, .ref h_t)] := hl
  unfold fX0_recallOffsets at hf
  refine lv_aload_n hx hb dX0_recallOffsets_0 rfl (lv_at hl 0 rfl) ?_
  refine va_get (D := D) (ci := 0) (v := .int (d_t.1 8)) (C := RX0) (T := TX0) (N := 10) hx hb hT iX0 hown hK hP 0 rfl rfl 8 (by decide) (hT _ fw_X0_37) (fun _ h9 => h9) rfl dX0_recallOffsets_1 ?_
  have g2 := ite_some hf
  refine lv_if_gt (tgt := 8) hx hb dX0_recallOffsets_4 (by decide) (fun c1 => ?_) (fun c1 => ?_)
  · replace hf := g2.1 c1
    refine lv_aload_n hx hb dX0_recallOffsets_8 rfl (lv_at hl 0 rfl) ?_
    refine lv_dup hx hb dX0_recallOffsets_9 rfl ?_
    refine va_get (D := D) (ci := 0) (v := .int (d_t.1 8)) (C := RX0) (T := TX0) (N := 10) hx hb hT iX0 hown hK hP 0 rfl rfl 8 (by decide) (hT _ fw_X0_37) (fun _ h9 => h9) rfl dX0_recallOffsets_10 ?_
    refine lv_iconst (v := 1) hx hb dX0_recallOffsets_13 rfl ?_
    refine lv_isub hx hb dX0_recallOffsets_14 ?_
    refine va_put (D := D) (ci := 0) (v := .int ((d_t.1 8) - 1)) (ty := tyX0 8) (C := RX0) (T := TX0) (N := 10) hx hb hT iX0 tyX0 tyX0_ok nmX0 hown hK hP hD hS 0 rfl rfl 8 (by decide) (hT _ fw_X0_37) (fun _ h9 => h9) rfl (tyX0_ok 8 (by decide)) rfl rfl (Nat.le_of_ble_eq_true rfl) dX0_recallOffsets_15 (fun H locs hP hD hS => ?_)
    replace hP : va_P D vwCl [oX0 h_t q_t (upd d_t.1 8 ((d_t.1 8) - 1)), ((q_t 4), .inl (cs 0, 6, .inl (d_t.2 4))), ((q_t 9), .inl (cs 0, 48, .inl (d_t.2 9)))] H := hP
    replace hD : va_D A [oX0 h_t q_t (upd d_t.1 8 ((d_t.1 8) - 1)), ((q_t 4), .inl (cs 0, 6, .inl (d_t.2 4))), ((q_t 9), .inl (cs 0, 48, .inl (d_t.2 9)))] := hD
    refine lv_aload_n hx hb dX0_recallOffsets_18 rfl (lv_at hl 0 rfl) ?_
    refine va_get (D := D) (ci := 0) (v := .ref (q_t 9)) (C := RX0) (T := TX0) (N := 10) hx hb hT iX0 hown hK hP 0 rfl rfl 9 (by decide) (hT _ fw_X0_40) (fun _ h9 => h9) rfl dX0_recallOffsets_19 ?_
    refine lv_aload_n hx hb dX0_recallOffsets_22 rfl (lv_at hl 0 rfl) ?_
    refine va_get (D := D) (ci := 0) (v := .int ((d_t.1 8) - 1)) (C := RX0) (T := TX0) (N := 10) hx hb hT iX0 hown hK hP 0 rfl rfl 8 (by decide) (hT _ fw_X0_37) (fun _ h9 => h9) rfl dX0_recallOffsets_23 ?_
    refine lv_bipush (v := 6) hx hb dX0_recallOffsets_26 rfl ?_
    refine lv_imul hx hb dX0_recallOffsets_28 ?_
    refine lv_aload_n hx hb dX0_recallOffsets_29 rfl (lv_at hl 0 rfl) ?_
    refine va_get (D := D) (ci := 0) (v := .ref (q_t 4)) (C := RX0) (T := TX0) (N := 10) hx hb hT iX0 hown hK hP 0 rfl rfl 4 (by decide) (hT _ fw_X0_25) (fun _ h9 => h9) rfl dX0_recallOffsets_30 ?_
    refine lv_iconst (v := 0) hx hb dX0_recallOffsets_33 rfl ?_
    refine lv_bipush (v := 6) hx hb dX0_recallOffsets_34 rfl ?_
    obtain ⟨hc, hf⟩ := chc_some hf
    refine va_copyi (D := D) hx hb (hml.trans hl.1.symm) hown (hT _ aw_X0_57.1) (hT _ aw_X0_57.2.1) (hT _ aw_X0_57.2.2.1) (hT _ aw_X0_57.2.2.2) hK hP hD hS 2 1 0 0 rfl rfl rfl rfl rfl hc.1 hc.2.1 hc.2.2.1 hc.2.2.2.1 hc.2.2.2.2 (fun _ _ => rfl) (Nat.le_of_ble_eq_true rfl) (Nat.le_of_ble_eq_true rfl) dX0_recallOffsets_36 (fun H locs hP hD hS => ?_)
    replace hP : va_P D vwCl [oX0 h_t q_t (upd d_t.1 8 ((d_t.1 8) - 1)), ((q_t 4), .inl (cs 0, 6, .inl (va_cpy (d_t.2 9) (d_t.2 4) (((d_t.1 8) - 1) * 6).toNatClampNeg (0 : Int32).toNatClampNeg (6 : Int32).toNatClampNeg))), ((q_t 9), .inl (cs 0, 48, .inl (d_t.2 9)))] H := hP
    replace hD : va_D A [oX0 h_t q_t (upd d_t.1 8 ((d_t.1 8) - 1)), ((q_t 4), .inl (cs 0, 6, .inl (va_cpy (d_t.2 9) (d_t.2 4) (((d_t.1 8) - 1) * 6).toNatClampNeg (0 : Int32).toNatClampNeg (6 : Int32).toNatClampNeg))), ((q_t 9), .inl (cs 0, 48, .inl (d_t.2 9)))] := hD
    have e9 := Option.some.inj hf
    subst e9
    exact hR _ _ _ _ dX0_recallOffsets_39 hP hS
  · replace hf := g2.2 c1
    have e9 := Option.some.inj hf
    subst e9
    exact hR _ _ _ _ dX0_recallOffsets_7 hP hS
abbrev rm_X0_playersUnlike : Room := { frames := 0, cells := 0, slots := 0, locals := 0 }
def fX0_playersUnlike_B4 (k : Nat) (d_t : Dat) (d_a1 : Dat) (K39 : Int32 → Option (Int32)) (rec : Int32 × Int32 → Option (Int32)) (v : Int32 × Int32) : Option (Int32) :=
  (if (d_t.1 0) ≤ (v.2) then K39 (v.1) else chk 6 (v.2) (chk 6 (v.2) ((if ((d_t.2 4) (v.2).toNatClampNeg) = ((d_a1.2 4) (v.2).toNatClampNeg) then rec ((v.1), ((v.2) + 1)) else rec (((v.1) ||| (1 <<< ((v.2) &&& 31))), ((v.2) + 1))))))
def fX0_playersUnlike (k : Nat) (d_t : Dat) (d_a1 : Dat) : Option (Int32) :=
  lp (fX0_playersUnlike_B4 k d_t d_a1 (fun (w1 : Int32) => some w1)) k (0, 0)
set_option maxHeartbeats 4000000 in
set_option maxRecDepth 100000 in
theorem mX0_playersUnlike_B4 {l : Launch} {p : Program} {e : Env} {s : State} {m : MethodId} {args : Array Value} {below : List Frame} {meth : Method} {c : Code} {D : va_G} {cs : Nat → ClassId} {sk : Nat → Nat} {A : Nat → Prop} {Q : State → Prop} (h_t : Nat) (h_a1 : Nat) (q_t : Nat → Nat) (q_a1 : Nat → Nat) (k : Nat) (d_t : Dat) (d_a1 : Dat) {rv : Int32}  (K39 : Int32 → Option (Int32))
    (M : MC p s m args meth c D cs sk A RX0 cX0_playersUnlike 4 (some .int)) (hA : ∀ q, s.heap.size ≤ q → A q) (hR : RetI p l e rm_X0_playersUnlike s m args below meth c D cX0_playersUnlike A Q (rv) [oX0 h_t q_t (d_t.1), ((q_t 4), .inl (cs 0, 6, .inl (d_t.2 4))), oX0 h_a1 q_a1 (d_a1.1), ((q_a1 4), .inl (cs 0, 6, .inl (d_a1.2 4)))])
    (hK39 : ∀ (w : Int32), K39 w = some rv → ∀ (H : Heap) (locs : List Loc) (ls : Array Slot), va_P D vwCl [oX0 h_t q_t (d_t.1), ((q_t 4), .inl (cs 0, 6, .inl (d_t.2 4))), oX0 h_a1 q_a1 (d_a1.1), ((q_a1 4), .inl (cs 0, 6, .inl (d_a1.2 4)))] H → va_D A [oX0 h_t q_t (d_t.1), ((q_t 4), .inl (cs 0, 6, .inl (d_t.2 4))), oX0 h_a1 q_a1 (d_a1.1), ((q_a1 4), .inl (cs 0, 6, .inl (d_a1.2 4)))] → va_S A s.heap H locs → lv_has ls 4 [(2, .int w)] → W p l e rm_X0_playersUnlike s m args below meth c H locs 0 0 Q (F0 m 39 ls []))
    : ∀ (n : Nat) (v : Int32 × Int32), lp (fX0_playersUnlike_B4 k d_t d_a1 K39) n v = some rv → ∀ (H : Heap) (locs : List Loc) (ls : Array Slot), va_P D vwCl [oX0 h_t q_t (d_t.1), ((q_t 4), .inl (cs 0, 6, .inl (d_t.2 4))), oX0 h_a1 q_a1 (d_a1.1), ((q_a1 4), .inl (cs 0, 6, .inl (d_a1.2 4)))] H → va_D A [oX0 h_t q_t (d_t.1), ((q_t 4), .inl (cs 0, 6, .inl (d_t.2 4))), oX0 h_a1 q_a1 (d_a1.1), ((q_a1 4), .inl (cs 0, 6, .inl (d_a1.2 4)))] → va_S A s.heap H locs → lv_has ls 4 [(0, .ref h_t), (1, .ref h_a1), (2, .int (v.1)), (3, .int (v.2))] → W p l e rm_X0_playersUnlike s m args below meth c H locs 0 0 Q (F0 m 4 ls []) := by
  obtain ⟨hx, hb, hml, hT, hown, hlk, hrt, hK, hN, hSE⟩ := id M
  refine lp_ind (fun rec ih v hf H locs ls hP hD hS hl => ?_)
  unfold fX0_playersUnlike_B4 at hf
  refine lv_iload_n hx hb dX0_playersUnlike_4 rfl (lv_at hl 3 rfl) ?_
  refine lv_aload_n hx hb dX0_playersUnlike_5 rfl (lv_at hl 0 rfl) ?_
  refine va_get (D := D) (ci := 0) (v := .int (d_t.1 0)) (C := RX0) (T := TX0) (N := 10) hx hb hT iX0 hown hK hP 0 rfl rfl 0 (by decide) (hT _ fw_X0_9) (fun _ h9 => h9) rfl dX0_playersUnlike_6 ?_
  have g2 := ite_some hf
  refine lv_icmp_ge (tgt := 39) hx hb dX0_playersUnlike_9 (by decide) (fun c1 => ?_) (fun c1 => ?_)
  · replace hf := g2.1 c1
    exact hK39 _ hf _ _ _ hP hD hS (lv_sub hl [2] rfl)
  · replace hf := g2.2 c1
    refine lv_aload_n hx hb dX0_playersUnlike_12 rfl (lv_at hl 0 rfl) ?_
    refine va_get (D := D) (ci := 0) (v := .ref (q_t 4)) (C := RX0) (T := TX0) (N := 10) hx hb hT iX0 hown hK hP 0 rfl rfl 4 (by decide) (hT _ fw_X0_25) (fun _ h9 => h9) rfl dX0_playersUnlike_13 ?_
    refine lv_iload_n hx hb dX0_playersUnlike_16 rfl (lv_at hl 3 rfl) ?_
    obtain ⟨hi, hf⟩ := chk_some hf
    refine va_iald (D := D) hx hb hK hP 1 0 rfl rfl hi dX0_playersUnlike_17 ?_
    refine lv_aload_n hx hb dX0_playersUnlike_18 rfl (lv_at hl 1 rfl) ?_
    refine va_get (D := D) (ci := 0) (v := .ref (q_a1 4)) (C := RX0) (T := TX0) (N := 10) hx hb hT iX0 hown hK hP 2 rfl rfl 4 (by decide) (hT _ fw_X0_25) (fun _ h9 => h9) rfl dX0_playersUnlike_19 ?_
    refine lv_iload_n hx hb dX0_playersUnlike_22 rfl (lv_at hl 3 rfl) ?_
    obtain ⟨hi, hf⟩ := chk_some hf
    refine va_iald (D := D) hx hb hK hP 3 0 rfl rfl hi dX0_playersUnlike_23 ?_
    have g4 := ite_some hf
    refine lv_icmp_eq (tgt := 33) hx hb dX0_playersUnlike_24 (by decide) (fun c3 => ?_) (fun c3 => ?_)
    · replace hf := g4.1 c3
      refine lv_iinc (v := ((v.2) + 1)) (lv' := [(3, .int ((v.2) + 1)), (0, .ref h_t), (1, .ref h_a1), (2, .int (v.1))]) hx hb dX0_playersUnlike_33 hl (k := 3) rfl rfl (by decide) rfl (fun ls hl => ?_)
      refine lv_goto (tgt := 4) hx hb dX0_playersUnlike_36 (by decide) ?_
      exact ih _ hf _ _ _ hP hD hS (lv_sub hl [1, 2, 3, 0] rfl)
    · replace hf := g4.2 c3
      refine lv_iload_n hx hb dX0_playersUnlike_27 rfl (lv_at hl 2 rfl) ?_
      refine lv_iconst (v := 1) hx hb dX0_playersUnlike_28 rfl ?_
      refine lv_iload_n hx hb dX0_playersUnlike_29 rfl (lv_at hl 3 rfl) ?_
      refine lv_ishl hx hb dX0_playersUnlike_30 ?_
      refine lv_ior hx hb dX0_playersUnlike_31 ?_
      refine lv_istore_n (lv' := [(2, .int ((v.1) ||| (1 <<< ((v.2) &&& 31)))), (0, .ref h_t), (1, .ref h_a1), (3, .int (v.2))]) hx hb dX0_playersUnlike_32 rfl hl (by decide) rfl (fun ls hl => ?_)
      refine lv_iinc (v := ((v.2) + 1)) (lv' := [(3, .int ((v.2) + 1)), (2, .int ((v.1) ||| (1 <<< ((v.2) &&& 31)))), (0, .ref h_t), (1, .ref h_a1)]) hx hb dX0_playersUnlike_33 hl (k := 3) rfl rfl (by decide) rfl (fun ls hl => ?_)
      refine lv_goto (tgt := 4) hx hb dX0_playersUnlike_36 (by decide) ?_
      exact ih _ hf _ _ _ hP hD hS (lv_sub hl [2, 3, 1, 0] rfl)
set_option maxHeartbeats 4000000 in
set_option maxRecDepth 100000 in
theorem mX0_playersUnlike (l : Launch) (D : va_G) (cs : Nat → ClassId) (sk : Nat → Nat) (h_t : Nat) (h_a1 : Nat) (q_t : Nat → Nat) (q_a1 : Nat → Nat) (k : Nat) (d_t : Dat) (d_a1 : Dat) {rv : Int32} (hf : fX0_playersUnlike k d_t d_a1 = some rv) : CTi l yX0_playersUnlike (Cond.code yX0_playersUnlike cX0_playersUnlike 4 (some .int) :: gtbl) rm_X0_playersUnlike D cs sk [.ref h_t, .ref h_a1] [oX0 h_t q_t (d_t.1), ((q_t 4), .inl (cs 0, 6, .inl (d_t.2 4))), oX0 h_a1 q_a1 (d_a1.1), ((q_a1 4), .inl (cs 0, 6, .inl (d_a1.2 4)))] (rv) [oX0 h_t q_t (d_t.1), ((q_t 4), .inl (cs 0, 6, .inl (d_t.2 4))), oX0 h_a1 q_a1 (d_a1.1), ((q_a1 4), .inl (cs 0, 6, .inl (d_a1.2 4)))] := by
  refine CTi.of RX0 (by decide +kernel) rfl (Nat.le_of_ble_eq_true rfl) (fun p e s m args below meth c A Q ls M hA hR hl hP hD hS => ?_)
  obtain ⟨hx, hb, hml, hT, hown, hlk, hrt, hK, hN, hSE⟩ := id M
  replace hl : lv_has ls 4 [(0, .ref h_t), (1, .ref h_a1)] := hl
  unfold fX0_playersUnlike at hf
  refine lv_iconst (v := 0) hx hb dX0_playersUnlike_0 rfl ?_
  refine lv_istore_n (lv' := [(2, .int 0), (0, .ref h_t), (1, .ref h_a1)]) hx hb dX0_playersUnlike_1 rfl hl (by decide) rfl (fun ls hl => ?_)
  refine lv_iconst (v := 0) hx hb dX0_playersUnlike_2 rfl ?_
  refine lv_istore_n (lv' := [(3, .int 0), (2, .int 0), (0, .ref h_t), (1, .ref h_a1)]) hx hb dX0_playersUnlike_3 rfl hl (by decide) rfl (fun ls hl => ?_)
  refine mX0_playersUnlike_B4 h_t h_a1 q_t q_a1 k d_t d_a1 _ M hA hR (fun w1 hf H locs ls hP hD hS hl => ?_) _ _ hf _ _ _ hP hD hS (lv_sub hl [2, 3, 1, 0] rfl)
  · refine lv_iload_n hx hb dX0_playersUnlike_39 rfl (lv_at hl 0 rfl) ?_
    have e9 := Option.some.inj hf
    subst e9
    exact hR _ _ _ _ dX0_playersUnlike_40 hP hS
abbrev rm_X0_digestOn : Room := { frames := 0, cells := 0, slots := 0, locals := 0 }
def fX0_digestOn_B62 (k : Nat) (d_t : Dat) (K162 : Int64 → Option (Int64)) (rec : Int64 × Int32 → Option (Int64)) (v : Int64 × Int32) : Option (Int64) :=
  (if (d_t.1 0) ≤ (v.2) then K162 (v.1) else chk 6 (v.2) (chk 6 (v.2) (chk 6 (v.2) (chk 6 (v.2) (chk 6 (v.2) (rec (((31 * ((31 * ((31 * ((31 * ((31 * (v.1)) + ((d_t.2 1) (v.2).toNatClampNeg).toInt64)) + ((d_t.2 2) (v.2).toNatClampNeg).toInt64)) + ((d_t.2 3) (v.2).toNatClampNeg).toInt64)) + ((d_t.2 4) (v.2).toNatClampNeg).toInt64)) + ((d_t.2 5) (v.2).toNatClampNeg).toInt64), ((v.2) + 1))))))))
def fX0_digestOn (k : Nat) (d_t : Dat) (d_a3 : Dat) (x1 : Int64) : Option (Int64) :=
  lp (fX0_digestOn_B62 k d_t (fun (w1 : Int64) => some w1)) k (((31 * ((31 * ((31 * ((31 * x1) + (d_a3.1 8).toInt64)) + (d_a3.1 9).toInt64)) + (d_a3.1 10).toInt64)) + (d_t.1 7).toInt64), 0)
set_option maxHeartbeats 4000000 in
set_option maxRecDepth 100000 in
theorem mX0_digestOn_B62 {l : Launch} {p : Program} {e : Env} {s : State} {m : MethodId} {args : Array Value} {below : List Frame} {meth : Method} {c : Code} {D : va_G} {cs : Nat → ClassId} {sk : Nat → Nat} {A : Nat → Prop} {Q : State → Prop} (h_t : Nat) (h_a3 : Nat) (q_t : Nat → Nat) (q_a3 : Nat → Nat) (k : Nat) (d_t : Dat) (d_a3 : Dat) {rv : Int64}  (K162 : Int64 → Option (Int64))
    (M : MC p s m args meth c D cs sk A RX0 cX0_digestOn 7 (some .long)) (hA : ∀ q, s.heap.size ≤ q → A q) (hR : RetL p l e rm_X0_digestOn s m args below meth c D cX0_digestOn A Q (rv) [oX0 h_t q_t (d_t.1), ((q_t 1), .inl (cs 0, 6, .inl (d_t.2 1))), ((q_t 2), .inl (cs 0, 6, .inl (d_t.2 2))), ((q_t 3), .inl (cs 0, 6, .inl (d_t.2 3))), ((q_t 4), .inl (cs 0, 6, .inl (d_t.2 4))), ((q_t 5), .inl (cs 0, 6, .inl (d_t.2 5))), oX4 h_a3 q_a3 (d_a3.1)])
    (hK162 : ∀ (w : Int64), K162 w = some rv → ∀ (H : Heap) (locs : List Loc) (ls : Array Slot), va_P D vwCl [oX0 h_t q_t (d_t.1), ((q_t 1), .inl (cs 0, 6, .inl (d_t.2 1))), ((q_t 2), .inl (cs 0, 6, .inl (d_t.2 2))), ((q_t 3), .inl (cs 0, 6, .inl (d_t.2 3))), ((q_t 4), .inl (cs 0, 6, .inl (d_t.2 4))), ((q_t 5), .inl (cs 0, 6, .inl (d_t.2 5))), oX4 h_a3 q_a3 (d_a3.1)] H → va_D A [oX0 h_t q_t (d_t.1), ((q_t 1), .inl (cs 0, 6, .inl (d_t.2 1))), ((q_t 2), .inl (cs 0, 6, .inl (d_t.2 2))), ((q_t 3), .inl (cs 0, 6, .inl (d_t.2 3))), ((q_t 4), .inl (cs 0, 6, .inl (d_t.2 4))), ((q_t 5), .inl (cs 0, 6, .inl (d_t.2 5))), oX4 h_a3 q_a3 (d_a3.1)] → va_S A s.heap H locs → lv_has ls 7 [(4, .long w)] → W p l e rm_X0_digestOn s m args below meth c H locs 0 0 Q (F0 m 162 ls []))
    : ∀ (n : Nat) (v : Int64 × Int32), lp (fX0_digestOn_B62 k d_t K162) n v = some rv → ∀ (H : Heap) (locs : List Loc) (ls : Array Slot), va_P D vwCl [oX0 h_t q_t (d_t.1), ((q_t 1), .inl (cs 0, 6, .inl (d_t.2 1))), ((q_t 2), .inl (cs 0, 6, .inl (d_t.2 2))), ((q_t 3), .inl (cs 0, 6, .inl (d_t.2 3))), ((q_t 4), .inl (cs 0, 6, .inl (d_t.2 4))), ((q_t 5), .inl (cs 0, 6, .inl (d_t.2 5))), oX4 h_a3 q_a3 (d_a3.1)] H → va_D A [oX0 h_t q_t (d_t.1), ((q_t 1), .inl (cs 0, 6, .inl (d_t.2 1))), ((q_t 2), .inl (cs 0, 6, .inl (d_t.2 2))), ((q_t 3), .inl (cs 0, 6, .inl (d_t.2 3))), ((q_t 4), .inl (cs 0, 6, .inl (d_t.2 4))), ((q_t 5), .inl (cs 0, 6, .inl (d_t.2 5))), oX4 h_a3 q_a3 (d_a3.1)] → va_S A s.heap H locs → lv_has ls 7 [(0, .ref h_t), (4, .long (v.1)), (6, .int (v.2))] → W p l e rm_X0_digestOn s m args below meth c H locs 0 0 Q (F0 m 62 ls []) := by
  obtain ⟨hx, hb, hml, hT, hown, hlk, hrt, hK, hN, hSE⟩ := id M
  refine lp_ind (fun rec ih v hf H locs ls hP hD hS hl => ?_)
  unfold fX0_digestOn_B62 at hf
  refine lv_iload hx hb dX0_digestOn_62 (lv_at hl 2 rfl) ?_
  refine lv_aload_n hx hb dX0_digestOn_64 rfl (lv_at hl 0 rfl) ?_
  refine va_get (D := D) (ci := 0) (v := .int (d_t.1 0)) (C := RX0) (T := TX0) (N := 10) hx hb hT iX0 hown hK hP 0 rfl rfl 0 (by decide) (hT _ fw_X0_9) (fun _ h9 => h9) rfl dX0_digestOn_65 ?_
  have g2 := ite_some hf
  refine lv_icmp_ge (tgt := 162) hx hb dX0_digestOn_68 (by decide) (fun c1 => ?_) (fun c1 => ?_)
  · replace hf := g2.1 c1
    exact hK162 _ hf _ _ _ hP hD hS (lv_sub hl [1] rfl)
  · replace hf := g2.2 c1
    refine W.ldc2 (v := 31) hx hb hown (hT _ kw_X0_63) rfl dX0_digestOn_71 ?_
    refine W.eq (g2 := F0 m 74 ls [.long 31]) rfl ?_
    refine lv_lload hx hb dX0_digestOn_74 (lv_at hl 1 rfl) ?_
    refine lv_lmul hx hb dX0_digestOn_76 ?_
    refine lv_aload_n hx hb dX0_digestOn_77 rfl (lv_at hl 0 rfl) ?_
    refine va_get (D := D) (ci := 0) (v := .ref (q_t 1)) (C := RX0) (T := TX0) (N := 10) hx hb hT iX0 hown hK hP 0 rfl rfl 1 (by decide) (hT _ fw_X0_15) (fun _ h9 => h9) rfl dX0_digestOn_78 ?_
    refine lv_iload hx hb dX0_digestOn_81 (lv_at hl 2 rfl) ?_
    obtain ⟨hi, hf⟩ := chk_some hf
    refine va_iald (D := D) hx hb hK hP 1 0 rfl rfl hi dX0_digestOn_83 ?_
    refine lv_i2l (v := ((d_t.2 1) (v.2).toNatClampNeg).toInt64) hx hb dX0_digestOn_84 rfl ?_
    refine lv_ladd hx hb dX0_digestOn_85 ?_
    refine lv_lstore (lv' := [(4, .long ((31 * (v.1)) + ((d_t.2 1) (v.2).toNatClampNeg).toInt64)), (0, .ref h_t), (6, .int (v.2))]) hx hb dX0_digestOn_86 hl (by decide) rfl (fun ls hl => ?_)
    refine W.ldc2 (v := 31) hx hb hown (hT _ kw_X0_63) rfl dX0_digestOn_88 ?_
    refine W.eq (g2 := F0 m 91 ls [.long 31]) rfl ?_
    refine lv_lload hx hb dX0_digestOn_91 (lv_at hl 0 rfl) ?_
    refine lv_lmul hx hb dX0_digestOn_93 ?_
    refine lv_aload_n hx hb dX0_digestOn_94 rfl (lv_at hl 1 rfl) ?_
    refine va_get (D := D) (ci := 0) (v := .ref (q_t 2)) (C := RX0) (T := TX0) (N := 10) hx hb hT iX0 hown hK hP 0 rfl rfl 2 (by decide) (hT _ fw_X0_19) (fun _ h9 => h9) rfl dX0_digestOn_95 ?_
    refine lv_iload hx hb dX0_digestOn_98 (lv_at hl 2 rfl) ?_
    obtain ⟨hi, hf⟩ := chk_some hf
    refine va_iald (D := D) hx hb hK hP 2 0 rfl rfl hi dX0_digestOn_100 ?_
    refine lv_i2l (v := ((d_t.2 2) (v.2).toNatClampNeg).toInt64) hx hb dX0_digestOn_101 rfl ?_
    refine lv_ladd hx hb dX0_digestOn_102 ?_
    refine lv_lstore (lv' := [(4, .long ((31 * ((31 * (v.1)) + ((d_t.2 1) (v.2).toNatClampNeg).toInt64)) + ((d_t.2 2) (v.2).toNatClampNeg).toInt64)), (0, .ref h_t), (6, .int (v.2))]) hx hb dX0_digestOn_103 hl (by decide) rfl (fun ls hl => ?_)
    refine W.ldc2 (v := 31) hx hb hown (hT _ kw_X0_63) rfl dX0_digestOn_105 ?_
    refine W.eq (g2 := F0 m 108 ls [.long 31]) rfl ?_
    refine lv_lload hx hb dX0_digestOn_108 (lv_at hl 0 rfl) ?_
    refine lv_lmul hx hb dX0_digestOn_110 ?_
    refine lv_aload_n hx hb dX0_digestOn_111 rfl (lv_at hl 1 rfl) ?_
    refine va_get (D := D) (ci := 0) (v := .ref (q_t 3)) (C := RX0) (T := TX0) (N := 10) hx hb hT iX0 hown hK hP 0 rfl rfl 3 (by decide) (hT _ fw_X0_22) (fun _ h9 => h9) rfl dX0_digestOn_112 ?_
    refine lv_iload hx hb dX0_digestOn_115 (lv_at hl 2 rfl) ?_
    obtain ⟨hi, hf⟩ := chk_some hf
    refine va_iald (D := D) hx hb hK hP 3 0 rfl rfl hi dX0_digestOn_117 ?_
    refine lv_i2l (v := ((d_t.2 3) (v.2).toNatClampNeg).toInt64) hx hb dX0_digestOn_118 rfl ?_
    refine lv_ladd hx hb dX0_digestOn_119 ?_
    refine lv_lstore (lv' := [(4, .long ((31 * ((31 * ((31 * (v.1)) + ((d_t.2 1) (v.2).toNatClampNeg).toInt64)) + ((d_t.2 2) (v.2).toNatClampNeg).toInt64)) + ((d_t.2 3) (v.2).toNatClampNeg).toInt64)), (0, .ref h_t), (6, .int (v.2))]) hx hb dX0_digestOn_120 hl (by decide) rfl (fun ls hl => ?_)
    refine W.ldc2 (v := 31) hx hb hown (hT _ kw_X0_63) rfl dX0_digestOn_122 ?_
    refine W.eq (g2 := F0 m 125 ls [.long 31]) rfl ?_
    refine lv_lload hx hb dX0_digestOn_125 (lv_at hl 0 rfl) ?_
    refine lv_lmul hx hb dX0_digestOn_127 ?_
    refine lv_aload_n hx hb dX0_digestOn_128 rfl (lv_at hl 1 rfl) ?_
    refine va_get (D := D) (ci := 0) (v := .ref (q_t 4)) (C := RX0) (T := TX0) (N := 10) hx hb hT iX0 hown hK hP 0 rfl rfl 4 (by decide) (hT _ fw_X0_25) (fun _ h9 => h9) rfl dX0_digestOn_129 ?_
    refine lv_iload hx hb dX0_digestOn_132 (lv_at hl 2 rfl) ?_
    obtain ⟨hi, hf⟩ := chk_some hf
    refine va_iald (D := D) hx hb hK hP 4 0 rfl rfl hi dX0_digestOn_134 ?_
    refine lv_i2l (v := ((d_t.2 4) (v.2).toNatClampNeg).toInt64) hx hb dX0_digestOn_135 rfl ?_
    refine lv_ladd hx hb dX0_digestOn_136 ?_
    refine lv_lstore (lv' := [(4, .long ((31 * ((31 * ((31 * ((31 * (v.1)) + ((d_t.2 1) (v.2).toNatClampNeg).toInt64)) + ((d_t.2 2) (v.2).toNatClampNeg).toInt64)) + ((d_t.2 3) (v.2).toNatClampNeg).toInt64)) + ((d_t.2 4) (v.2).toNatClampNeg).toInt64)), (0, .ref h_t), (6, .int (v.2))]) hx hb dX0_digestOn_137 hl (by decide) rfl (fun ls hl => ?_)
    refine W.ldc2 (v := 31) hx hb hown (hT _ kw_X0_63) rfl dX0_digestOn_139 ?_
    refine W.eq (g2 := F0 m 142 ls [.long 31]) rfl ?_
    refine lv_lload hx hb dX0_digestOn_142 (lv_at hl 0 rfl) ?_
    refine lv_lmul hx hb dX0_digestOn_144 ?_
    refine lv_aload_n hx hb dX0_digestOn_145 rfl (lv_at hl 1 rfl) ?_
    refine va_get (D := D) (ci := 0) (v := .ref (q_t 5)) (C := RX0) (T := TX0) (N := 10) hx hb hT iX0 hown hK hP 0 rfl rfl 5 (by decide) (hT _ fw_X0_28) (fun _ h9 => h9) rfl dX0_digestOn_146 ?_
    refine lv_iload hx hb dX0_digestOn_149 (lv_at hl 2 rfl) ?_
    obtain ⟨hi, hf⟩ := chk_some hf
    refine va_iald (D := D) hx hb hK hP 5 0 rfl rfl hi dX0_digestOn_151 ?_
    refine lv_i2l (v := ((d_t.2 5) (v.2).toNatClampNeg).toInt64) hx hb dX0_digestOn_152 rfl ?_
    refine lv_ladd hx hb dX0_digestOn_153 ?_
    refine lv_lstore (lv' := [(4, .long ((31 * ((31 * ((31 * ((31 * ((31 * (v.1)) + ((d_t.2 1) (v.2).toNatClampNeg).toInt64)) + ((d_t.2 2) (v.2).toNatClampNeg).toInt64)) + ((d_t.2 3) (v.2).toNatClampNeg).toInt64)) + ((d_t.2 4) (v.2).toNatClampNeg).toInt64)) + ((d_t.2 5) (v.2).toNatClampNeg).toInt64)), (0, .ref h_t), (6, .int (v.2))]) hx hb dX0_digestOn_154 hl (by decide) rfl (fun ls hl => ?_)
    refine lv_iinc (v := ((v.2) + 1)) (lv' := [(6, .int ((v.2) + 1)), (4, .long ((31 * ((31 * ((31 * ((31 * ((31 * (v.1)) + ((d_t.2 1) (v.2).toNatClampNeg).toInt64)) + ((d_t.2 2) (v.2).toNatClampNeg).toInt64)) + ((d_t.2 3) (v.2).toNatClampNeg).toInt64)) + ((d_t.2 4) (v.2).toNatClampNeg).toInt64)) + ((d_t.2 5) (v.2).toNatClampNeg).toInt64)), (0, .ref h_t)]) hx hb dX0_digestOn_156 hl (k := 2) rfl rfl (by decide) rfl (fun ls hl => ?_)
    refine lv_goto (tgt := 62) hx hb dX0_digestOn_159 (by decide) ?_
    exact ih _ hf _ _ _ hP hD hS (lv_sub hl [2, 1, 0] rfl)
set_option maxHeartbeats 4000000 in
set_option maxRecDepth 100000 in
theorem mX0_digestOn (l : Launch) (D : va_G) (cs : Nat → ClassId) (sk : Nat → Nat) (h_t : Nat) (h_a3 : Nat) (q_t : Nat → Nat) (q_a3 : Nat → Nat) (k : Nat) (d_t : Dat) (d_a3 : Dat) (x1 : Int64) {rv : Int64} (hf : fX0_digestOn k d_t d_a3 x1 = some rv) : CTl l yX0_digestOn (Cond.code yX0_digestOn cX0_digestOn 7 (some .long) :: gtbl) rm_X0_digestOn D cs sk [.ref h_t, .long x1, .ref h_a3] [oX0 h_t q_t (d_t.1), ((q_t 1), .inl (cs 0, 6, .inl (d_t.2 1))), ((q_t 2), .inl (cs 0, 6, .inl (d_t.2 2))), ((q_t 3), .inl (cs 0, 6, .inl (d_t.2 3))), ((q_t 4), .inl (cs 0, 6, .inl (d_t.2 4))), ((q_t 5), .inl (cs 0, 6, .inl (d_t.2 5))), oX4 h_a3 q_a3 (d_a3.1)] (rv) [oX0 h_t q_t (d_t.1), ((q_t 1), .inl (cs 0, 6, .inl (d_t.2 1))), ((q_t 2), .inl (cs 0, 6, .inl (d_t.2 2))), ((q_t 3), .inl (cs 0, 6, .inl (d_t.2 3))), ((q_t 4), .inl (cs 0, 6, .inl (d_t.2 4))), ((q_t 5), .inl (cs 0, 6, .inl (d_t.2 5))), oX4 h_a3 q_a3 (d_a3.1)] := by
  refine CTl.of RX0 (by decide +kernel) rfl (Nat.le_of_ble_eq_true rfl) (fun p e s m args below meth c A Q ls M hA hR hl hP hD hS => ?_)
  obtain ⟨hx, hb, hml, hT, hown, hlk, hrt, hK, hN, hSE⟩ := id M
  replace hl : lv_has ls 7 [(0, .ref h_t), (1, .long x1), (3, .ref h_a3)] := hl
  unfold fX0_digestOn at hf
  refine lv_lload_n hx hb dX0_digestOn_0 rfl (lv_at hl 1 rfl) ?_
  refine lv_lstore (lv' := [(4, .long x1), (0, .ref h_t), (1, .long x1), (3, .ref h_a3)]) hx hb dX0_digestOn_1 hl (by decide) rfl (fun ls hl => ?_)
  refine W.ldc2 (v := 31) hx hb hown (hT _ kw_X0_63) rfl dX0_digestOn_3 ?_
  refine W.eq (g2 := F0 m 6 ls [.long 31]) rfl ?_
  refine lv_lload hx hb dX0_digestOn_6 (lv_at hl 0 rfl) ?_
  refine lv_lmul hx hb dX0_digestOn_8 ?_
  refine lv_aload_n hx hb dX0_digestOn_9 rfl (lv_at hl 3 rfl) ?_
  refine va_get (D := D) (ci := 4) (v := .int (d_a3.1 8)) (C := RX4) (T := TX4) (N := 11) hx hb hT iX4 hown hK hP 6 rfl rfl 8 (by decide) (hT _ fw_X0_65) (fun _ h9 => h9) rfl dX0_digestOn_10 ?_
  refine lv_i2l (v := (d_a3.1 8).toInt64) hx hb dX0_digestOn_13 rfl ?_
  refine lv_ladd hx hb dX0_digestOn_14 ?_
  refine lv_lstore (lv' := [(4, .long ((31 * x1) + (d_a3.1 8).toInt64)), (0, .ref h_t), (1, .long x1), (3, .ref h_a3)]) hx hb dX0_digestOn_15 hl (by decide) rfl (fun ls hl => ?_)
  refine W.ldc2 (v := 31) hx hb hown (hT _ kw_X0_63) rfl dX0_digestOn_17 ?_
  refine W.eq (g2 := F0 m 20 ls [.long 31]) rfl ?_
  refine lv_lload hx hb dX0_digestOn_20 (lv_at hl 0 rfl) ?_
  refine lv_lmul hx hb dX0_digestOn_22 ?_
  refine lv_aload_n hx hb dX0_digestOn_23 rfl (lv_at hl 3 rfl) ?_
  refine va_get (D := D) (ci := 4) (v := .int (d_a3.1 9)) (C := RX4) (T := TX4) (N := 11) hx hb hT iX4 hown hK hP 6 rfl rfl 9 (by decide) (hT _ fw_X0_68) (fun _ h9 => h9) rfl dX0_digestOn_24 ?_
  refine lv_i2l (v := (d_a3.1 9).toInt64) hx hb dX0_digestOn_27 rfl ?_
  refine lv_ladd hx hb dX0_digestOn_28 ?_
  refine lv_lstore (lv' := [(4, .long ((31 * ((31 * x1) + (d_a3.1 8).toInt64)) + (d_a3.1 9).toInt64)), (0, .ref h_t), (1, .long x1), (3, .ref h_a3)]) hx hb dX0_digestOn_29 hl (by decide) rfl (fun ls hl => ?_)
  refine W.ldc2 (v := 31) hx hb hown (hT _ kw_X0_63) rfl dX0_digestOn_31 ?_
  refine W.eq (g2 := F0 m 34 ls [.long 31]) rfl ?_
  refine lv_lload hx hb dX0_digestOn_34 (lv_at hl 0 rfl) ?_
  refine lv_lmul hx hb dX0_digestOn_36 ?_
  refine lv_aload_n hx hb dX0_digestOn_37 rfl (lv_at hl 3 rfl) ?_
  refine va_get (D := D) (ci := 4) (v := .int (d_a3.1 10)) (C := RX4) (T := TX4) (N := 11) hx hb hT iX4 hown hK hP 6 rfl rfl 10 (by decide) (hT _ fw_X0_71) (fun _ h9 => h9) rfl dX0_digestOn_38 ?_
  refine lv_i2l (v := (d_a3.1 10).toInt64) hx hb dX0_digestOn_41 rfl ?_
  refine lv_ladd hx hb dX0_digestOn_42 ?_
  refine lv_lstore (lv' := [(4, .long ((31 * ((31 * ((31 * x1) + (d_a3.1 8).toInt64)) + (d_a3.1 9).toInt64)) + (d_a3.1 10).toInt64)), (0, .ref h_t), (1, .long x1), (3, .ref h_a3)]) hx hb dX0_digestOn_43 hl (by decide) rfl (fun ls hl => ?_)
  refine W.ldc2 (v := 31) hx hb hown (hT _ kw_X0_63) rfl dX0_digestOn_45 ?_
  refine W.eq (g2 := F0 m 48 ls [.long 31]) rfl ?_
  refine lv_lload hx hb dX0_digestOn_48 (lv_at hl 0 rfl) ?_
  refine lv_lmul hx hb dX0_digestOn_50 ?_
  refine lv_aload_n hx hb dX0_digestOn_51 rfl (lv_at hl 1 rfl) ?_
  refine va_get (D := D) (ci := 0) (v := .int (d_t.1 7)) (C := RX0) (T := TX0) (N := 10) hx hb hT iX0 hown hK hP 0 rfl rfl 7 (by decide) (hT _ fw_X0_34) (fun _ h9 => h9) rfl dX0_digestOn_52 ?_
  refine lv_i2l (v := (d_t.1 7).toInt64) hx hb dX0_digestOn_55 rfl ?_
  refine lv_ladd hx hb dX0_digestOn_56 ?_
  refine lv_lstore (lv' := [(4, .long ((31 * ((31 * ((31 * ((31 * x1) + (d_a3.1 8).toInt64)) + (d_a3.1 9).toInt64)) + (d_a3.1 10).toInt64)) + (d_t.1 7).toInt64)), (0, .ref h_t), (1, .long x1), (3, .ref h_a3)]) hx hb dX0_digestOn_57 hl (by decide) rfl (fun ls hl => ?_)
  refine lv_iconst (v := 0) hx hb dX0_digestOn_59 rfl ?_
  refine lv_istore (lv' := [(6, .int 0), (4, .long ((31 * ((31 * ((31 * ((31 * x1) + (d_a3.1 8).toInt64)) + (d_a3.1 9).toInt64)) + (d_a3.1 10).toInt64)) + (d_t.1 7).toInt64)), (0, .ref h_t), (1, .long x1), (3, .ref h_a3)]) hx hb dX0_digestOn_60 hl (by decide) rfl (fun ls hl => ?_)
  refine mX0_digestOn_B62 h_t h_a3 q_t q_a3 k d_t d_a3 _ M hA hR (fun w1 hf H locs ls hP hD hS hl => ?_) _ _ hf _ _ _ hP hD hS (lv_sub hl [2, 1, 0] rfl)
  · refine lv_lload hx hb dX0_digestOn_162 (lv_at hl 0 rfl) ?_
    have e9 := Option.some.inj hf
    subst e9
    exact hR _ _ _ _ dX0_digestOn_164 hP hS
abbrev rm_X1_add : Room := { frames := 0, cells := 0, slots := 0, locals := 0 }
def fX1_add (k : Nat) (d_t : Dat) (x1 : Int32) (x2 : Int32) (x3 : Int32) : Option (Dat) :=
  (if x3 ≤ 0 then some d_t else (if (d_t.1 0) < (Int32.ofNat 12) then chk 12 (d_t.1 0) (chk 12 (d_t.1 0) (chk 12 (d_t.1 0) (some ((upd d_t.1 0 ((d_t.1 0) + 1)), (va_up (va_up (va_up d_t.2 1 (upd (d_t.2 1) (d_t.1 0).toNatClampNeg x1)) 2 (upd (d_t.2 2) (d_t.1 0).toNatClampNeg x2)) 3 (upd (d_t.2 3) (d_t.1 0).toNatClampNeg x3)))))) else some d_t))
set_option maxHeartbeats 4000000 in
set_option maxRecDepth 100000 in
theorem mX1_add (l : Launch) (D : va_G) (cs : Nat → ClassId) (sk : Nat → Nat) (h_t : Nat) (q_t : Nat → Nat) (k : Nat) (d_t : Dat) (x1 : Int32) (x2 : Int32) (x3 : Int32) {rv : Dat} (hf : fX1_add k d_t x1 x2 x3 = some rv) : CTv l yX1_add (Cond.code yX1_add cX1_add 4 none :: gtbl) rm_X1_add D cs sk [.ref h_t, .int x1, .int x2, .int x3] [oX1 h_t q_t (d_t.1), ((q_t 1), .inl (cs 0, 12, .inl (d_t.2 1))), ((q_t 2), .inl (cs 0, 12, .inl (d_t.2 2))), ((q_t 3), .inl (cs 0, 12, .inl (d_t.2 3)))] [oX1 h_t q_t (rv.1), ((q_t 1), .inl (cs 0, 12, .inl (rv.2 1))), ((q_t 2), .inl (cs 0, 12, .inl (rv.2 2))), ((q_t 3), .inl (cs 0, 12, .inl (rv.2 3)))] := by
  refine CTv.of RX1 (by decide +kernel) rfl (Nat.le_of_ble_eq_true rfl) (fun p e s m args below meth c A Q ls M hA hR hl hP hD hS => ?_)
  obtain ⟨hx, hb, hml, hT, hown, hlk, hrt, hK, hN, hSE⟩ := id M
  replace hl : lv_has ls 4 [(0, .ref h_t), (1, .int x1), (2, .int x2), (3, .int x3)] := hl
  unfold fX1_add at hf
  refine lv_iload_n hx hb dX1_add_0 rfl (lv_at hl 3 rfl) ?_
  have g2 := ite_some hf
  refine lv_if_le (tgt := 16) hx hb dX1_add_1 (by decide) (fun c1 => ?_) (fun c1 => ?_)
  · replace hf := g2.1 c1
    have e9 := Option.some.inj hf
    subst e9
    exact hR _ _ _ _ dX1_add_16 hP hS
  · replace hf := g2.2 c1
    refine lv_aload_n hx hb dX1_add_4 rfl (lv_at hl 0 rfl) ?_
    refine va_get (D := D) (ci := 1) (v := .int (d_t.1 0)) (C := RX1) (T := TX1) (N := 4) hx hb hT iX1 hown hK hP 0 rfl rfl 0 (by decide) (hT _ fw_X1_9) (fun _ h9 => h9) rfl dX1_add_5 ?_
    refine lv_aload_n hx hb dX1_add_8 rfl (lv_at hl 0 rfl) ?_
    refine va_get (D := D) (ci := 1) (v := .ref (q_t 1)) (C := RX1) (T := TX1) (N := 4) hx hb hT iX1 hown hK hP 0 rfl rfl 1 (by decide) (hT _ fw_X1_15) (fun _ h9 => h9) rfl dX1_add_9 ?_
    refine va_alen (D := D) (v := (Int32.ofNat 12)) hx hb hK hP 1 0 rfl rfl rfl dX1_add_12 ?_
    have g4 := ite_some hf
    refine lv_icmp_lt (tgt := 17) hx hb dX1_add_13 (by decide) (fun c3 => ?_) (fun c3 => ?_)
    · replace hf := g4.1 c3
      refine lv_aload_n hx hb dX1_add_17 rfl (lv_at hl 0 rfl) ?_
      refine va_get (D := D) (ci := 1) (v := .ref (q_t 1)) (C := RX1) (T := TX1) (N := 4) hx hb hT iX1 hown hK hP 0 rfl rfl 1 (by decide) (hT _ fw_X1_15) (fun _ h9 => h9) rfl dX1_add_18 ?_
      refine lv_aload_n hx hb dX1_add_21 rfl (lv_at hl 0 rfl) ?_
      refine va_get (D := D) (ci := 1) (v := .int (d_t.1 0)) (C := RX1) (T := TX1) (N := 4) hx hb hT iX1 hown hK hP 0 rfl rfl 0 (by decide) (hT _ fw_X1_9) (fun _ h9 => h9) rfl dX1_add_22 ?_
      refine lv_iload_n hx hb dX1_add_25 rfl (lv_at hl 1 rfl) ?_
      obtain ⟨hi, hf⟩ := chk_some hf
      refine va_iast (D := D) hx hb hK hP hD hS 1 0 rfl rfl hi dX1_add_26 (fun H locs hP hD hS => ?_)
      replace hP : va_P D vwCl [oX1 h_t q_t (d_t.1), ((q_t 1), .inl (cs 0, 12, .inl (upd (d_t.2 1) (d_t.1 0).toNatClampNeg x1))), ((q_t 2), .inl (cs 0, 12, .inl (d_t.2 2))), ((q_t 3), .inl (cs 0, 12, .inl (d_t.2 3)))] H := hP
      replace hD : va_D A [oX1 h_t q_t (d_t.1), ((q_t 1), .inl (cs 0, 12, .inl (upd (d_t.2 1) (d_t.1 0).toNatClampNeg x1))), ((q_t 2), .inl (cs 0, 12, .inl (d_t.2 2))), ((q_t 3), .inl (cs 0, 12, .inl (d_t.2 3)))] := hD
      refine lv_aload_n hx hb dX1_add_27 rfl (lv_at hl 0 rfl) ?_
      refine va_get (D := D) (ci := 1) (v := .ref (q_t 2)) (C := RX1) (T := TX1) (N := 4) hx hb hT iX1 hown hK hP 0 rfl rfl 2 (by decide) (hT _ fw_X1_19) (fun _ h9 => h9) rfl dX1_add_28 ?_
      refine lv_aload_n hx hb dX1_add_31 rfl (lv_at hl 0 rfl) ?_
      refine va_get (D := D) (ci := 1) (v := .int (d_t.1 0)) (C := RX1) (T := TX1) (N := 4) hx hb hT iX1 hown hK hP 0 rfl rfl 0 (by decide) (hT _ fw_X1_9) (fun _ h9 => h9) rfl dX1_add_32 ?_
      refine lv_iload_n hx hb dX1_add_35 rfl (lv_at hl 2 rfl) ?_
      obtain ⟨hi, hf⟩ := chk_some hf
      refine va_iast (D := D) hx hb hK hP hD hS 2 0 rfl rfl hi dX1_add_36 (fun H locs hP hD hS => ?_)
      replace hP : va_P D vwCl [oX1 h_t q_t (d_t.1), ((q_t 1), .inl (cs 0, 12, .inl (upd (d_t.2 1) (d_t.1 0).toNatClampNeg x1))), ((q_t 2), .inl (cs 0, 12, .inl (upd (d_t.2 2) (d_t.1 0).toNatClampNeg x2))), ((q_t 3), .inl (cs 0, 12, .inl (d_t.2 3)))] H := hP
      replace hD : va_D A [oX1 h_t q_t (d_t.1), ((q_t 1), .inl (cs 0, 12, .inl (upd (d_t.2 1) (d_t.1 0).toNatClampNeg x1))), ((q_t 2), .inl (cs 0, 12, .inl (upd (d_t.2 2) (d_t.1 0).toNatClampNeg x2))), ((q_t 3), .inl (cs 0, 12, .inl (d_t.2 3)))] := hD
      refine lv_aload_n hx hb dX1_add_37 rfl (lv_at hl 0 rfl) ?_
      refine va_get (D := D) (ci := 1) (v := .ref (q_t 3)) (C := RX1) (T := TX1) (N := 4) hx hb hT iX1 hown hK hP 0 rfl rfl 3 (by decide) (hT _ fw_X1_22) (fun _ h9 => h9) rfl dX1_add_38 ?_
      refine lv_aload_n hx hb dX1_add_41 rfl (lv_at hl 0 rfl) ?_
      refine va_get (D := D) (ci := 1) (v := .int (d_t.1 0)) (C := RX1) (T := TX1) (N := 4) hx hb hT iX1 hown hK hP 0 rfl rfl 0 (by decide) (hT _ fw_X1_9) (fun _ h9 => h9) rfl dX1_add_42 ?_
      refine lv_iload_n hx hb dX1_add_45 rfl (lv_at hl 3 rfl) ?_
      obtain ⟨hi, hf⟩ := chk_some hf
      refine va_iast (D := D) hx hb hK hP hD hS 3 0 rfl rfl hi dX1_add_46 (fun H locs hP hD hS => ?_)
      replace hP : va_P D vwCl [oX1 h_t q_t (d_t.1), ((q_t 1), .inl (cs 0, 12, .inl (upd (d_t.2 1) (d_t.1 0).toNatClampNeg x1))), ((q_t 2), .inl (cs 0, 12, .inl (upd (d_t.2 2) (d_t.1 0).toNatClampNeg x2))), ((q_t 3), .inl (cs 0, 12, .inl (upd (d_t.2 3) (d_t.1 0).toNatClampNeg x3)))] H := hP
      replace hD : va_D A [oX1 h_t q_t (d_t.1), ((q_t 1), .inl (cs 0, 12, .inl (upd (d_t.2 1) (d_t.1 0).toNatClampNeg x1))), ((q_t 2), .inl (cs 0, 12, .inl (upd (d_t.2 2) (d_t.1 0).toNatClampNeg x2))), ((q_t 3), .inl (cs 0, 12, .inl (upd (d_t.2 3) (d_t.1 0).toNatClampNeg x3)))] := hD
      refine lv_aload_n hx hb dX1_add_47 rfl (lv_at hl 0 rfl) ?_
      refine lv_dup hx hb dX1_add_48 rfl ?_
      refine va_get (D := D) (ci := 1) (v := .int (d_t.1 0)) (C := RX1) (T := TX1) (N := 4) hx hb hT iX1 hown hK hP 0 rfl rfl 0 (by decide) (hT _ fw_X1_9) (fun _ h9 => h9) rfl dX1_add_49 ?_
      refine lv_iconst (v := 1) hx hb dX1_add_52 rfl ?_
      refine lv_iadd hx hb dX1_add_53 ?_
      refine va_put (D := D) (ci := 1) (v := .int ((d_t.1 0) + 1)) (ty := tyX1 0) (C := RX1) (T := TX1) (N := 4) hx hb hT iX1 tyX1 tyX1_ok nmX1 hown hK hP hD hS 0 rfl rfl 0 (by decide) (hT _ fw_X1_9) (fun _ h9 => h9) rfl (tyX1_ok 0 (by decide)) rfl rfl (Nat.le_of_ble_eq_true rfl) dX1_add_54 (fun H locs hP hD hS => ?_)
      replace hP : va_P D vwCl [oX1 h_t q_t (upd d_t.1 0 ((d_t.1 0) + 1)), ((q_t 1), .inl (cs 0, 12, .inl (upd (d_t.2 1) (d_t.1 0).toNatClampNeg x1))), ((q_t 2), .inl (cs 0, 12, .inl (upd (d_t.2 2) (d_t.1 0).toNatClampNeg x2))), ((q_t 3), .inl (cs 0, 12, .inl (upd (d_t.2 3) (d_t.1 0).toNatClampNeg x3)))] H := hP
      replace hD : va_D A [oX1 h_t q_t (upd d_t.1 0 ((d_t.1 0) + 1)), ((q_t 1), .inl (cs 0, 12, .inl (upd (d_t.2 1) (d_t.1 0).toNatClampNeg x1))), ((q_t 2), .inl (cs 0, 12, .inl (upd (d_t.2 2) (d_t.1 0).toNatClampNeg x2))), ((q_t 3), .inl (cs 0, 12, .inl (upd (d_t.2 3) (d_t.1 0).toNatClampNeg x3)))] := hD
      have e9 := Option.some.inj hf
      subst e9
      exact hR _ _ _ _ dX1_add_57 hP hS
    · replace hf := g4.2 c3
      have e9 := Option.some.inj hf
      subst e9
      exact hR _ _ _ _ dX1_add_16 hP hS
abbrev rm_X1_listen : Room := { frames := 3, cells := 0, slots := 0, locals := 70 }
def fX1_listen_B8 (k : Nat) (x3 : Int32) (d_t : Dat) (d_a1 : Dat) (d_a2 : Dat) (K161 : Dat → Option (Dat)) (rec : Int32 × Dat → Option (Dat)) (v : Int32 × Dat) : Option (Dat) :=
  (if (d_a2.1 0) ≤ (v.1) then K161 (v.2.1, (va_up (va_up (va_up d_t.2 1 (v.2.2 1)) 2 (v.2.2 2)) 3 (v.2.2 3))) else chk 6 (v.1) ((if ((d_a2.2 1) (v.1).toNatClampNeg) = 5 then rec (((v.1) + 1), (v.2.1, (va_up (va_up (va_up d_t.2 1 (v.2.2 1)) 2 (v.2.2 2)) 3 (v.2.2 3)))) else chk 6 (v.1) (chk 6 (v.1) ((fX4_soundTime k d_a1 ((d_a2.2 2) (v.1).toNatClampNeg) x3).bind (fun (r5 : Int32) => (fX4_pacesToEar k d_a1 ((d_a2.2 2) (v.1).toNatClampNeg) x3).bind (fun (r7 : Int32) => (fX1_add k (v.2.1, (va_up (va_up (va_up d_t.2 1 (v.2.2 1)) 2 (v.2.2 2)) 3 (v.2.2 3))) (v.1) r5 (((d_a2.2 3) (v.1).toNatClampNeg) - r7)).bind (fun (r9 : Dat) => (if ((d_a2.2 1) (v.1).toNatClampNeg) = 2 then (fX4_hasMill k d_a1).bind (fun (r23 : Int32) => (if r23 = 0 then (if ((d_a2.2 1) (v.1).toNatClampNeg) = 4 then (fX4_nextWindow k d_a1 ((d_a2.2 2) (v.1).toNatClampNeg)).bind (fun (r29 : Int32) => (fX4_soundTime k d_a1 r29 x3).bind (fun (r31 : Int32) => (fX4_pacesToEar k d_a1 r29 x3).bind (fun (r33 : Int32) => (fX1_add k (r9.1, (va_up (va_up (va_up d_t.2 1 (r9.2 1)) 2 (r9.2 2)) 3 (r9.2 3))) (v.1) r31 (((d_a2.2 3) (v.1).toNatClampNeg) - r33)).bind (fun (r35 : Dat) => rec (((v.1) + 1), (r35.1, (va_up (va_up (va_up d_t.2 1 (r35.2 1)) 2 (r35.2 2)) 3 (r35.2 3)))))))) else rec (((v.1) + 1), (r9.1, (va_up (va_up (va_up d_t.2 1 (r9.2 1)) 2 (r9.2 2)) 3 (r9.2 3))))) else (fX4_pacesByMill k d_a1 ((d_a2.2 2) (v.1).toNatClampNeg) x3).bind (fun (r37 : Int32) => (fX1_add k (r9.1, (va_up (va_up (va_up d_t.2 1 (r9.2 1)) 2 (r9.2 2)) 3 (r9.2 3))) (v.1) (r37 * (d_a1.1 8)) ((((d_a2.2 3) (v.1).toNatClampNeg) / 2) - r37)).bind (fun (r39 : Dat) => (if ((d_a2.2 1) (v.1).toNatClampNeg) = 4 then (fX4_nextWindow k d_a1 ((d_a2.2 2) (v.1).toNatClampNeg)).bind (fun (r43 : Int32) => (fX4_soundTime k d_a1 r43 x3).bind (fun (r45 : Int32) => (fX4_pacesToEar k d_a1 r43 x3).bind (fun (r47 : Int32) => (fX1_add k (r39.1, (va_up (va_up (va_up d_t.2 1 (r39.2 1)) 2 (r39.2 2)) 3 (r39.2 3))) (v.1) r45 (((d_a2.2 3) (v.1).toNatClampNeg) - r47)).bind (fun (r49 : Dat) => rec (((v.1) + 1), (r49.1, (va_up (va_up (va_up d_t.2 1 (r49.2 1)) 2 (r49.2 2)) 3 (r49.2 3)))))))) else rec (((v.1) + 1), (r39.1, (va_up (va_up (va_up d_t.2 1 (r39.2 1)) 2 (r39.2 2)) 3 (r39.2 3))))))))) else (if ((d_a2.2 1) (v.1).toNatClampNeg) = 4 then (fX4_nextWindow k d_a1 ((d_a2.2 2) (v.1).toNatClampNeg)).bind (fun (r15 : Int32) => (fX4_soundTime k d_a1 r15 x3).bind (fun (r17 : Int32) => (fX4_pacesToEar k d_a1 r15 x3).bind (fun (r19 : Int32) => (fX1_add k (r9.1, (va_up (va_up (va_up d_t.2 1 (r9.2 1)) 2 (r9.2 2)) 3 (r9.2 3))) (v.1) r17 (((d_a2.2 3) (v.1).toNatClampNeg) - r19)).bind (fun (r21 : Dat) => rec (((v.1) + 1), (r21.1, (va_up (va_up (va_up d_t.2 1 (r21.2 1)) 2 (r21.2 2)) 3 (r21.2 3)))))))) else rec (((v.1) + 1), (r9.1, (va_up (va_up (va_up d_t.2 1 (r9.2 1)) 2 (r9.2 2)) 3 (r9.2 3))))))))))))))
def fX1_listen (k : Nat) (d_t : Dat) (d_a1 : Dat) (d_a2 : Dat) (x3 : Int32) : Option (Dat) :=
  lp (fX1_listen_B8 k x3 ((upd d_t.1 0 0), d_t.2) d_a1 d_a2 (fun (w1 : Dat) => some (w1.1, (va_up (va_up (va_up d_t.2 1 (w1.2 1)) 2 (w1.2 2)) 3 (w1.2 3))))) k (0, ((upd d_t.1 0 0), d_t.2))
set_option maxHeartbeats 4000000 in
set_option maxRecDepth 100000 in
theorem mX1_listen_B8 {l : Launch} {p : Program} {e : Env} {s : State} {m : MethodId} {args : Array Value} {below : List Frame} {meth : Method} {c : Code} {D : va_G} {cs : Nat → ClassId} {sk : Nat → Nat} {A : Nat → Prop} {Q : State → Prop} (h_t : Nat) (h_a1 : Nat) (h_a2 : Nat) (q_t : Nat → Nat) (q_a1 : Nat → Nat) (q_a2 : Nat → Nat) (k : Nat) (x3 : Int32) (d_t : Dat) (d_a1 : Dat) (d_a2 : Dat) {rv : Dat}  (K161 : Dat → Option (Dat))
    (M : MC p s m args meth c D cs sk A RX1 cX1_listen 9 none) (hA : ∀ q, s.heap.size ≤ q → A q) (hR : RetV p l e rm_X1_listen s m args below meth c D cX1_listen A Q [oX1 h_t q_t (rv.1), ((q_t 1), .inl (cs 0, 12, .inl (rv.2 1))), ((q_t 2), .inl (cs 0, 12, .inl (rv.2 2))), ((q_t 3), .inl (cs 0, 12, .inl (rv.2 3))), oX4 h_a1 q_a1 (d_a1.1), ((q_a1 1), .inl (cs 0, 6, .inl (d_a1.2 1))), ((q_a1 2), .inl (cs 0, 6, .inl (d_a1.2 2))), ((q_a1 4), .inl (cs 0, 3, .inl (d_a1.2 4))), ((q_a1 5), .inl (cs 0, 3, .inl (d_a1.2 5))), oX0 h_a2 q_a2 (d_a2.1), ((q_a2 1), .inl (cs 0, 6, .inl (d_a2.2 1))), ((q_a2 2), .inl (cs 0, 6, .inl (d_a2.2 2))), ((q_a2 3), .inl (cs 0, 6, .inl (d_a2.2 3)))])
    (hK161 : ∀ (w : Dat), K161 w = some rv → ∀ (H : Heap) (locs : List Loc) (ls : Array Slot), va_P D vwCl [oX1 h_t q_t (w.1), ((q_t 1), .inl (cs 0, 12, .inl (w.2 1))), ((q_t 2), .inl (cs 0, 12, .inl (w.2 2))), ((q_t 3), .inl (cs 0, 12, .inl (w.2 3))), oX4 h_a1 q_a1 (d_a1.1), ((q_a1 1), .inl (cs 0, 6, .inl (d_a1.2 1))), ((q_a1 2), .inl (cs 0, 6, .inl (d_a1.2 2))), ((q_a1 4), .inl (cs 0, 3, .inl (d_a1.2 4))), ((q_a1 5), .inl (cs 0, 3, .inl (d_a1.2 5))), oX0 h_a2 q_a2 (d_a2.1), ((q_a2 1), .inl (cs 0, 6, .inl (d_a2.2 1))), ((q_a2 2), .inl (cs 0, 6, .inl (d_a2.2 2))), ((q_a2 3), .inl (cs 0, 6, .inl (d_a2.2 3)))] H → va_D A [oX1 h_t q_t (w.1), ((q_t 1), .inl (cs 0, 12, .inl (w.2 1))), ((q_t 2), .inl (cs 0, 12, .inl (w.2 2))), ((q_t 3), .inl (cs 0, 12, .inl (w.2 3))), oX4 h_a1 q_a1 (d_a1.1), ((q_a1 1), .inl (cs 0, 6, .inl (d_a1.2 1))), ((q_a1 2), .inl (cs 0, 6, .inl (d_a1.2 2))), ((q_a1 4), .inl (cs 0, 3, .inl (d_a1.2 4))), ((q_a1 5), .inl (cs 0, 3, .inl (d_a1.2 5))), oX0 h_a2 q_a2 (d_a2.1), ((q_a2 1), .inl (cs 0, 6, .inl (d_a2.2 1))), ((q_a2 2), .inl (cs 0, 6, .inl (d_a2.2 2))), ((q_a2 3), .inl (cs 0, 6, .inl (d_a2.2 3)))] → va_S A s.heap H locs → lv_has ls 9 [] → W p l e rm_X1_listen s m args below meth c H locs 0 0 Q (F0 m 161 ls []))
    : ∀ (n : Nat) (v : Int32 × Dat), lp (fX1_listen_B8 k x3 d_t d_a1 d_a2 K161) n v = some rv → ∀ (H : Heap) (locs : List Loc) (ls : Array Slot), va_P D vwCl [oX1 h_t q_t (v.2.1), ((q_t 1), .inl (cs 0, 12, .inl (v.2.2 1))), ((q_t 2), .inl (cs 0, 12, .inl (v.2.2 2))), ((q_t 3), .inl (cs 0, 12, .inl (v.2.2 3))), oX4 h_a1 q_a1 (d_a1.1), ((q_a1 1), .inl (cs 0, 6, .inl (d_a1.2 1))), ((q_a1 2), .inl (cs 0, 6, .inl (d_a1.2 2))), ((q_a1 4), .inl (cs 0, 3, .inl (d_a1.2 4))), ((q_a1 5), .inl (cs 0, 3, .inl (d_a1.2 5))), oX0 h_a2 q_a2 (d_a2.1), ((q_a2 1), .inl (cs 0, 6, .inl (d_a2.2 1))), ((q_a2 2), .inl (cs 0, 6, .inl (d_a2.2 2))), ((q_a2 3), .inl (cs 0, 6, .inl (d_a2.2 3)))] H → va_D A [oX1 h_t q_t (v.2.1), ((q_t 1), .inl (cs 0, 12, .inl (v.2.2 1))), ((q_t 2), .inl (cs 0, 12, .inl (v.2.2 2))), ((q_t 3), .inl (cs 0, 12, .inl (v.2.2 3))), oX4 h_a1 q_a1 (d_a1.1), ((q_a1 1), .inl (cs 0, 6, .inl (d_a1.2 1))), ((q_a1 2), .inl (cs 0, 6, .inl (d_a1.2 2))), ((q_a1 4), .inl (cs 0, 3, .inl (d_a1.2 4))), ((q_a1 5), .inl (cs 0, 3, .inl (d_a1.2 5))), oX0 h_a2 q_a2 (d_a2.1), ((q_a2 1), .inl (cs 0, 6, .inl (d_a2.2 1))), ((q_a2 2), .inl (cs 0, 6, .inl (d_a2.2 2))), ((q_a2 3), .inl (cs 0, 6, .inl (d_a2.2 3)))] → va_S A s.heap H locs → lv_has ls 9 [(0, .ref h_t), (1, .ref h_a1), (2, .ref h_a2), (3, .int x3), (4, .int (v.1))] → W p l e rm_X1_listen s m args below meth c H locs 0 0 Q (F0 m 8 ls []) := by
  obtain ⟨hx, hb, hml, hT, hown, hlk, hrt, hK, hN, hSE⟩ := id M
  refine lp_ind (fun rec ih v hf H locs ls hP hD hS hl => ?_)
  unfold fX1_listen_B8 at hf
  refine lv_iload hx hb dX1_listen_8 (lv_at hl 4 rfl) ?_
  refine lv_aload_n hx hb dX1_listen_10 rfl (lv_at hl 2 rfl) ?_
  refine va_get (D := D) (ci := 0) (v := .int (d_a2.1 0)) (C := RX0) (T := TX0) (N := 10) hx hb hT iX0 hown hK hP 9 rfl rfl 0 (by decide) (hT _ fw_X1_25) (fun _ h9 => h9) rfl dX1_listen_11 ?_
  have g2 := ite_some hf
  refine lv_icmp_ge (tgt := 161) hx hb dX1_listen_14 (by decide) (fun c1 => ?_) (fun c1 => ?_)
  · replace hf := g2.1 c1
    exact hK161 _ hf _ _ _ hP hD hS (lv_sub hl [] rfl)
  · replace hf := g2.2 c1
    refine lv_aload_n hx hb dX1_listen_17 rfl (lv_at hl 2 rfl) ?_
    refine va_get (D := D) (ci := 0) (v := .ref (q_a2 1)) (C := RX0) (T := TX0) (N := 10) hx hb hT iX0 hown hK hP 9 rfl rfl 1 (by decide) (hT _ fw_X1_30) (fun _ h9 => h9) rfl dX1_listen_18 ?_
    refine lv_iload hx hb dX1_listen_21 (lv_at hl 4 rfl) ?_
    obtain ⟨hi, hf⟩ := chk_some hf
    refine va_iald (D := D) hx hb hK hP 10 0 rfl rfl hi dX1_listen_23 ?_
    refine lv_istore (lv' := [(5, .int ((d_a2.2 1) (v.1).toNatClampNeg)), (0, .ref h_t), (1, .ref h_a1), (2, .ref h_a2), (3, .int x3), (4, .int (v.1))]) hx hb dX1_listen_24 hl (by decide) rfl (fun ls hl => ?_)
    refine lv_iload hx hb dX1_listen_26 (lv_at hl 0 rfl) ?_
    refine lv_iconst (v := 5) hx hb dX1_listen_28 rfl ?_
    have g4 := ite_some hf
    refine lv_icmp_ne (tgt := 35) hx hb dX1_listen_29 (by decide) (fun c3 => ?_) (fun c3 => ?_)
    · replace hf := g4.2 c3
      refine lv_aload_n hx hb dX1_listen_35 rfl (lv_at hl 3 rfl) ?_
      refine va_get (D := D) (ci := 0) (v := .ref (q_a2 2)) (C := RX0) (T := TX0) (N := 10) hx hb hT iX0 hown hK hP 9 rfl rfl 2 (by decide) (hT _ fw_X1_33) (fun _ h9 => h9) rfl dX1_listen_36 ?_
      refine lv_iload hx hb dX1_listen_39 (lv_at hl 5 rfl) ?_
      obtain ⟨hi, hf⟩ := chk_some hf
      refine va_iald (D := D) hx hb hK hP 11 0 rfl rfl hi dX1_listen_41 ?_
      refine lv_istore (lv' := [(6, .int ((d_a2.2 2) (v.1).toNatClampNeg)), (5, .int ((d_a2.2 1) (v.1).toNatClampNeg)), (0, .ref h_t), (1, .ref h_a1), (2, .ref h_a2), (3, .int x3), (4, .int (v.1))]) hx hb dX1_listen_42 hl (by decide) rfl (fun ls hl => ?_)
      refine lv_aload_n hx hb dX1_listen_44 rfl (lv_at hl 4 rfl) ?_
      refine va_get (D := D) (ci := 0) (v := .ref (q_a2 3)) (C := RX0) (T := TX0) (N := 10) hx hb hT iX0 hown hK hP 9 rfl rfl 3 (by decide) (hT _ fw_X1_36) (fun _ h9 => h9) rfl dX1_listen_45 ?_
      refine lv_iload hx hb dX1_listen_48 (lv_at hl 6 rfl) ?_
      obtain ⟨hi, hf⟩ := chk_some hf
      refine va_iald (D := D) hx hb hK hP 12 0 rfl rfl hi dX1_listen_50 ?_
      refine lv_istore (lv' := [(7, .int ((d_a2.2 3) (v.1).toNatClampNeg)), (6, .int ((d_a2.2 2) (v.1).toNatClampNeg)), (5, .int ((d_a2.2 1) (v.1).toNatClampNeg)), (0, .ref h_t), (1, .ref h_a1), (2, .ref h_a2), (3, .int x3), (4, .int (v.1))]) hx hb dX1_listen_51 hl (by decide) rfl (fun ls hl => ?_)
      refine lv_aload_n hx hb dX1_listen_53 rfl (lv_at hl 3 rfl) ?_
      refine lv_iload hx hb dX1_listen_54 (lv_at hl 7 rfl) ?_
      refine lv_aload_n hx hb dX1_listen_56 rfl (lv_at hl 4 rfl) ?_
      refine lv_iload hx hb dX1_listen_57 (lv_at hl 1 rfl) ?_
      refine lv_iload_n hx hb dX1_listen_59 rfl (lv_at hl 6 rfl) ?_
      obtain ⟨r5, e6, hf⟩ := bind_some hf
      refine callVi (As := [.int ((d_a2.2 2) (v.1).toNatClampNeg), .int x3]) (rest := [.int (v.1), .ref h_t]) M (mX4_soundTime l D cs sk h_a1 q_a1 k d_a1 ((d_a2.2 2) (v.1).toNatClampNeg) x3 e6) mw_X1_39 ln_X4_soundTime ⟨rfl, rfl, Nat.le_of_ble_eq_true rfl, Nat.le_of_ble_eq_true rfl⟩ hP hD hS hA [4, 5, 6, 7, 8] (by decide) rfl rfl (q0 := 0) rfl rfl rfl ⟨Nat.zero_le _, Nat.zero_le _⟩ hl.1 rfl (Nat.le_of_ble_eq_true rfl) dX1_listen_60 (fun H locs hP hD hS => ?_)
      replace hP : va_P D vwCl [oX1 h_t q_t (v.2.1), ((q_t 1), .inl (cs 0, 12, .inl (v.2.2 1))), ((q_t 2), .inl (cs 0, 12, .inl (v.2.2 2))), ((q_t 3), .inl (cs 0, 12, .inl (v.2.2 3))), oX4 h_a1 q_a1 (d_a1.1), ((q_a1 1), .inl (cs 0, 6, .inl (d_a1.2 1))), ((q_a1 2), .inl (cs 0, 6, .inl (d_a1.2 2))), ((q_a1 4), .inl (cs 0, 3, .inl (d_a1.2 4))), ((q_a1 5), .inl (cs 0, 3, .inl (d_a1.2 5))), oX0 h_a2 q_a2 (d_a2.1), ((q_a2 1), .inl (cs 0, 6, .inl (d_a2.2 1))), ((q_a2 2), .inl (cs 0, 6, .inl (d_a2.2 2))), ((q_a2 3), .inl (cs 0, 6, .inl (d_a2.2 3)))] H := hP
      replace hD : va_D A [oX1 h_t q_t (v.2.1), ((q_t 1), .inl (cs 0, 12, .inl (v.2.2 1))), ((q_t 2), .inl (cs 0, 12, .inl (v.2.2 2))), ((q_t 3), .inl (cs 0, 12, .inl (v.2.2 3))), oX4 h_a1 q_a1 (d_a1.1), ((q_a1 1), .inl (cs 0, 6, .inl (d_a1.2 1))), ((q_a1 2), .inl (cs 0, 6, .inl (d_a1.2 2))), ((q_a1 4), .inl (cs 0, 3, .inl (d_a1.2 4))), ((q_a1 5), .inl (cs 0, 3, .inl (d_a1.2 5))), oX0 h_a2 q_a2 (d_a2.1), ((q_a2 1), .inl (cs 0, 6, .inl (d_a2.2 1))), ((q_a2 2), .inl (cs 0, 6, .inl (d_a2.2 2))), ((q_a2 3), .inl (cs 0, 6, .inl (d_a2.2 3)))] := hD
      refine lv_iload hx hb dX1_listen_63 (lv_at hl 0 rfl) ?_
      refine lv_aload_n hx hb dX1_listen_65 rfl (lv_at hl 4 rfl) ?_
      refine lv_iload hx hb dX1_listen_66 (lv_at hl 1 rfl) ?_
      refine lv_iload_n hx hb dX1_listen_68 rfl (lv_at hl 6 rfl) ?_
      obtain ⟨r7, e8, hf⟩ := bind_some hf
      refine callVi (As := [.int ((d_a2.2 2) (v.1).toNatClampNeg), .int x3]) (rest := [.int ((d_a2.2 3) (v.1).toNatClampNeg), .int r5, .int (v.1), .ref h_t]) M (mX4_pacesToEar l D cs sk h_a1 q_a1 k d_a1 ((d_a2.2 2) (v.1).toNatClampNeg) x3 e8) mw_X1_45 ln_X4_pacesToEar ⟨rfl, rfl, Nat.le_of_ble_eq_true rfl, Nat.le_of_ble_eq_true rfl⟩ hP hD hS hA [4, 5, 6, 7, 8] (by decide) rfl rfl (q0 := 0) rfl rfl rfl ⟨Nat.zero_le _, Nat.zero_le _⟩ hl.1 rfl (Nat.le_of_ble_eq_true rfl) dX1_listen_69 (fun H locs hP hD hS => ?_)
      replace hP : va_P D vwCl [oX1 h_t q_t (v.2.1), ((q_t 1), .inl (cs 0, 12, .inl (v.2.2 1))), ((q_t 2), .inl (cs 0, 12, .inl (v.2.2 2))), ((q_t 3), .inl (cs 0, 12, .inl (v.2.2 3))), oX4 h_a1 q_a1 (d_a1.1), ((q_a1 1), .inl (cs 0, 6, .inl (d_a1.2 1))), ((q_a1 2), .inl (cs 0, 6, .inl (d_a1.2 2))), ((q_a1 4), .inl (cs 0, 3, .inl (d_a1.2 4))), ((q_a1 5), .inl (cs 0, 3, .inl (d_a1.2 5))), oX0 h_a2 q_a2 (d_a2.1), ((q_a2 1), .inl (cs 0, 6, .inl (d_a2.2 1))), ((q_a2 2), .inl (cs 0, 6, .inl (d_a2.2 2))), ((q_a2 3), .inl (cs 0, 6, .inl (d_a2.2 3)))] H := hP
      replace hD : va_D A [oX1 h_t q_t (v.2.1), ((q_t 1), .inl (cs 0, 12, .inl (v.2.2 1))), ((q_t 2), .inl (cs 0, 12, .inl (v.2.2 2))), ((q_t 3), .inl (cs 0, 12, .inl (v.2.2 3))), oX4 h_a1 q_a1 (d_a1.1), ((q_a1 1), .inl (cs 0, 6, .inl (d_a1.2 1))), ((q_a1 2), .inl (cs 0, 6, .inl (d_a1.2 2))), ((q_a1 4), .inl (cs 0, 3, .inl (d_a1.2 4))), ((q_a1 5), .inl (cs 0, 3, .inl (d_a1.2 5))), oX0 h_a2 q_a2 (d_a2.1), ((q_a2 1), .inl (cs 0, 6, .inl (d_a2.2 1))), ((q_a2 2), .inl (cs 0, 6, .inl (d_a2.2 2))), ((q_a2 3), .inl (cs 0, 6, .inl (d_a2.2 3)))] := hD
      refine lv_isub hx hb dX1_listen_72 ?_
      obtain ⟨r9, e10, hf⟩ := bind_some hf
      refine callVv (As := [.int (v.1), .int r5, .int (((d_a2.2 3) (v.1).toNatClampNeg) - r7)]) (rest := []) M (mX1_add l D cs sk h_t q_t k (v.2.1, (va_up (va_up (va_up d_t.2 1 (v.2.2 1)) 2 (v.2.2 2)) 3 (v.2.2 3))) (v.1) r5 (((d_a2.2 3) (v.1).toNatClampNeg) - r7) e10) mw_X1_48 ln_X1_add ⟨rfl, rfl, Nat.le_of_ble_eq_true rfl, Nat.le_of_ble_eq_true rfl⟩ hP hD hS hA [0, 1, 2, 3] (by decide) rfl rfl (q0 := 0) rfl rfl rfl ⟨Nat.zero_le _, Nat.zero_le _⟩ hl.1 rfl (Nat.le_of_ble_eq_true rfl) dX1_listen_73 (fun H locs hP hD hS => ?_)
      replace hP : va_P D vwCl [oX1 h_t q_t (r9.1), ((q_t 1), .inl (cs 0, 12, .inl (r9.2 1))), ((q_t 2), .inl (cs 0, 12, .inl (r9.2 2))), ((q_t 3), .inl (cs 0, 12, .inl (r9.2 3))), oX4 h_a1 q_a1 (d_a1.1), ((q_a1 1), .inl (cs 0, 6, .inl (d_a1.2 1))), ((q_a1 2), .inl (cs 0, 6, .inl (d_a1.2 2))), ((q_a1 4), .inl (cs 0, 3, .inl (d_a1.2 4))), ((q_a1 5), .inl (cs 0, 3, .inl (d_a1.2 5))), oX0 h_a2 q_a2 (d_a2.1), ((q_a2 1), .inl (cs 0, 6, .inl (d_a2.2 1))), ((q_a2 2), .inl (cs 0, 6, .inl (d_a2.2 2))), ((q_a2 3), .inl (cs 0, 6, .inl (d_a2.2 3)))] H := hP
      replace hD : va_D A [oX1 h_t q_t (r9.1), ((q_t 1), .inl (cs 0, 12, .inl (r9.2 1))), ((q_t 2), .inl (cs 0, 12, .inl (r9.2 2))), ((q_t 3), .inl (cs 0, 12, .inl (r9.2 3))), oX4 h_a1 q_a1 (d_a1.1), ((q_a1 1), .inl (cs 0, 6, .inl (d_a1.2 1))), ((q_a1 2), .inl (cs 0, 6, .inl (d_a1.2 2))), ((q_a1 4), .inl (cs 0, 3, .inl (d_a1.2 4))), ((q_a1 5), .inl (cs 0, 3, .inl (d_a1.2 5))), oX0 h_a2 q_a2 (d_a2.1), ((q_a2 1), .inl (cs 0, 6, .inl (d_a2.2 1))), ((q_a2 2), .inl (cs 0, 6, .inl (d_a2.2 2))), ((q_a2 3), .inl (cs 0, 6, .inl (d_a2.2 3)))] := hD
      refine lv_iload hx hb dX1_listen_76 (lv_at hl 2 rfl) ?_
      refine lv_iconst (v := 2) hx hb dX1_listen_78 rfl ?_
      have g12 := ite_some hf
      refine lv_icmp_ne (tgt := 118) hx hb dX1_listen_79 (by decide) (fun c11 => ?_) (fun c11 => ?_)
      · replace hf := g12.2 c11
        refine lv_iload hx hb dX1_listen_118 (lv_at hl 2 rfl) ?_
        refine lv_iconst (v := 4) hx hb dX1_listen_120 rfl ?_
        have g14 := ite_some hf
        refine lv_icmp_ne (tgt := 155) hx hb dX1_listen_121 (by decide) (fun c13 => ?_) (fun c13 => ?_)
        · replace hf := g14.2 c13
          refine lv_iinc (v := ((v.1) + 1)) (lv' := [(4, .int ((v.1) + 1)), (7, .int ((d_a2.2 3) (v.1).toNatClampNeg)), (6, .int ((d_a2.2 2) (v.1).toNatClampNeg)), (5, .int ((d_a2.2 1) (v.1).toNatClampNeg)), (0, .ref h_t), (1, .ref h_a1), (2, .ref h_a2), (3, .int x3)]) hx hb dX1_listen_155 hl (k := 7) rfl rfl (by decide) rfl (fun ls hl => ?_)
          refine lv_goto (tgt := 8) hx hb dX1_listen_158 (by decide) ?_
          exact ih _ hf _ _ _ hP hD hS (lv_sub hl [4, 5, 6, 7, 0] rfl)
        · replace hf := g14.1 c13
          refine lv_aload_n hx hb dX1_listen_124 rfl (lv_at hl 4 rfl) ?_
          refine lv_iload hx hb dX1_listen_125 (lv_at hl 1 rfl) ?_
          obtain ⟨r15, e16, hf⟩ := bind_some hf
          refine callVi (As := [.int ((d_a2.2 2) (v.1).toNatClampNeg)]) (rest := []) M (mX4_nextWindow l D cs sk h_a1 q_a1 k d_a1 ((d_a2.2 2) (v.1).toNatClampNeg) e16) mw_X1_62 ln_X4_nextWindow ⟨rfl, rfl, Nat.le_of_ble_eq_true rfl, Nat.le_of_ble_eq_true rfl⟩ hP hD hS hA [4] (by decide) rfl rfl (q0 := 0) rfl rfl rfl ⟨Nat.zero_le _, Nat.zero_le _⟩ hl.1 rfl (Nat.le_of_ble_eq_true rfl) dX1_listen_127 (fun H locs hP hD hS => ?_)
          replace hP : va_P D vwCl [oX1 h_t q_t (r9.1), ((q_t 1), .inl (cs 0, 12, .inl (r9.2 1))), ((q_t 2), .inl (cs 0, 12, .inl (r9.2 2))), ((q_t 3), .inl (cs 0, 12, .inl (r9.2 3))), oX4 h_a1 q_a1 (d_a1.1), ((q_a1 1), .inl (cs 0, 6, .inl (d_a1.2 1))), ((q_a1 2), .inl (cs 0, 6, .inl (d_a1.2 2))), ((q_a1 4), .inl (cs 0, 3, .inl (d_a1.2 4))), ((q_a1 5), .inl (cs 0, 3, .inl (d_a1.2 5))), oX0 h_a2 q_a2 (d_a2.1), ((q_a2 1), .inl (cs 0, 6, .inl (d_a2.2 1))), ((q_a2 2), .inl (cs 0, 6, .inl (d_a2.2 2))), ((q_a2 3), .inl (cs 0, 6, .inl (d_a2.2 3)))] H := hP
          replace hD : va_D A [oX1 h_t q_t (r9.1), ((q_t 1), .inl (cs 0, 12, .inl (r9.2 1))), ((q_t 2), .inl (cs 0, 12, .inl (r9.2 2))), ((q_t 3), .inl (cs 0, 12, .inl (r9.2 3))), oX4 h_a1 q_a1 (d_a1.1), ((q_a1 1), .inl (cs 0, 6, .inl (d_a1.2 1))), ((q_a1 2), .inl (cs 0, 6, .inl (d_a1.2 2))), ((q_a1 4), .inl (cs 0, 3, .inl (d_a1.2 4))), ((q_a1 5), .inl (cs 0, 3, .inl (d_a1.2 5))), oX0 h_a2 q_a2 (d_a2.1), ((q_a2 1), .inl (cs 0, 6, .inl (d_a2.2 1))), ((q_a2 2), .inl (cs 0, 6, .inl (d_a2.2 2))), ((q_a2 3), .inl (cs 0, 6, .inl (d_a2.2 3)))] := hD
          refine lv_istore (lv' := [(8, .int r15), (7, .int ((d_a2.2 3) (v.1).toNatClampNeg)), (6, .int ((d_a2.2 2) (v.1).toNatClampNeg)), (5, .int ((d_a2.2 1) (v.1).toNatClampNeg)), (0, .ref h_t), (1, .ref h_a1), (2, .ref h_a2), (3, .int x3), (4, .int (v.1))]) hx hb dX1_listen_130 hl (by decide) rfl (fun ls hl => ?_)
          refine lv_aload_n hx hb dX1_listen_132 rfl (lv_at hl 4 rfl) ?_
          refine lv_iload hx hb dX1_listen_133 (lv_at hl 8 rfl) ?_
          refine lv_aload_n hx hb dX1_listen_135 rfl (lv_at hl 5 rfl) ?_
          refine lv_iload hx hb dX1_listen_136 (lv_at hl 0 rfl) ?_
          refine lv_iload_n hx hb dX1_listen_138 rfl (lv_at hl 7 rfl) ?_
          obtain ⟨r17, e18, hf⟩ := bind_some hf
          refine callVi (As := [.int r15, .int x3]) (rest := [.int (v.1), .ref h_t]) M (mX4_soundTime l D cs sk h_a1 q_a1 k d_a1 r15 x3 e18) mw_X1_39 ln_X4_soundTime ⟨rfl, rfl, Nat.le_of_ble_eq_true rfl, Nat.le_of_ble_eq_true rfl⟩ hP hD hS hA [4, 5, 6, 7, 8] (by decide) rfl rfl (q0 := 0) rfl rfl rfl ⟨Nat.zero_le _, Nat.zero_le _⟩ hl.1 rfl (Nat.le_of_ble_eq_true rfl) dX1_listen_139 (fun H locs hP hD hS => ?_)
          replace hP : va_P D vwCl [oX1 h_t q_t (r9.1), ((q_t 1), .inl (cs 0, 12, .inl (r9.2 1))), ((q_t 2), .inl (cs 0, 12, .inl (r9.2 2))), ((q_t 3), .inl (cs 0, 12, .inl (r9.2 3))), oX4 h_a1 q_a1 (d_a1.1), ((q_a1 1), .inl (cs 0, 6, .inl (d_a1.2 1))), ((q_a1 2), .inl (cs 0, 6, .inl (d_a1.2 2))), ((q_a1 4), .inl (cs 0, 3, .inl (d_a1.2 4))), ((q_a1 5), .inl (cs 0, 3, .inl (d_a1.2 5))), oX0 h_a2 q_a2 (d_a2.1), ((q_a2 1), .inl (cs 0, 6, .inl (d_a2.2 1))), ((q_a2 2), .inl (cs 0, 6, .inl (d_a2.2 2))), ((q_a2 3), .inl (cs 0, 6, .inl (d_a2.2 3)))] H := hP
          replace hD : va_D A [oX1 h_t q_t (r9.1), ((q_t 1), .inl (cs 0, 12, .inl (r9.2 1))), ((q_t 2), .inl (cs 0, 12, .inl (r9.2 2))), ((q_t 3), .inl (cs 0, 12, .inl (r9.2 3))), oX4 h_a1 q_a1 (d_a1.1), ((q_a1 1), .inl (cs 0, 6, .inl (d_a1.2 1))), ((q_a1 2), .inl (cs 0, 6, .inl (d_a1.2 2))), ((q_a1 4), .inl (cs 0, 3, .inl (d_a1.2 4))), ((q_a1 5), .inl (cs 0, 3, .inl (d_a1.2 5))), oX0 h_a2 q_a2 (d_a2.1), ((q_a2 1), .inl (cs 0, 6, .inl (d_a2.2 1))), ((q_a2 2), .inl (cs 0, 6, .inl (d_a2.2 2))), ((q_a2 3), .inl (cs 0, 6, .inl (d_a2.2 3)))] := hD
          refine lv_iload hx hb dX1_listen_142 (lv_at hl 1 rfl) ?_
          refine lv_aload_n hx hb dX1_listen_144 rfl (lv_at hl 5 rfl) ?_
          refine lv_iload hx hb dX1_listen_145 (lv_at hl 0 rfl) ?_
          refine lv_iload_n hx hb dX1_listen_147 rfl (lv_at hl 7 rfl) ?_
          obtain ⟨r19, e20, hf⟩ := bind_some hf
          refine callVi (As := [.int r15, .int x3]) (rest := [.int ((d_a2.2 3) (v.1).toNatClampNeg), .int r17, .int (v.1), .ref h_t]) M (mX4_pacesToEar l D cs sk h_a1 q_a1 k d_a1 r15 x3 e20) mw_X1_45 ln_X4_pacesToEar ⟨rfl, rfl, Nat.le_of_ble_eq_true rfl, Nat.le_of_ble_eq_true rfl⟩ hP hD hS hA [4, 5, 6, 7, 8] (by decide) rfl rfl (q0 := 0) rfl rfl rfl ⟨Nat.zero_le _, Nat.zero_le _⟩ hl.1 rfl (Nat.le_of_ble_eq_true rfl) dX1_listen_148 (fun H locs hP hD hS => ?_)
          replace hP : va_P D vwCl [oX1 h_t q_t (r9.1), ((q_t 1), .inl (cs 0, 12, .inl (r9.2 1))), ((q_t 2), .inl (cs 0, 12, .inl (r9.2 2))), ((q_t 3), .inl (cs 0, 12, .inl (r9.2 3))), oX4 h_a1 q_a1 (d_a1.1), ((q_a1 1), .inl (cs 0, 6, .inl (d_a1.2 1))), ((q_a1 2), .inl (cs 0, 6, .inl (d_a1.2 2))), ((q_a1 4), .inl (cs 0, 3, .inl (d_a1.2 4))), ((q_a1 5), .inl (cs 0, 3, .inl (d_a1.2 5))), oX0 h_a2 q_a2 (d_a2.1), ((q_a2 1), .inl (cs 0, 6, .inl (d_a2.2 1))), ((q_a2 2), .inl (cs 0, 6, .inl (d_a2.2 2))), ((q_a2 3), .inl (cs 0, 6, .inl (d_a2.2 3)))] H := hP
          replace hD : va_D A [oX1 h_t q_t (r9.1), ((q_t 1), .inl (cs 0, 12, .inl (r9.2 1))), ((q_t 2), .inl (cs 0, 12, .inl (r9.2 2))), ((q_t 3), .inl (cs 0, 12, .inl (r9.2 3))), oX4 h_a1 q_a1 (d_a1.1), ((q_a1 1), .inl (cs 0, 6, .inl (d_a1.2 1))), ((q_a1 2), .inl (cs 0, 6, .inl (d_a1.2 2))), ((q_a1 4), .inl (cs 0, 3, .inl (d_a1.2 4))), ((q_a1 5), .inl (cs 0, 3, .inl (d_a1.2 5))), oX0 h_a2 q_a2 (d_a2.1), ((q_a2 1), .inl (cs 0, 6, .inl (d_a2.2 1))), ((q_a2 2), .inl (cs 0, 6, .inl (d_a2.2 2))), ((q_a2 3), .inl (cs 0, 6, .inl (d_a2.2 3)))] := hD
          refine lv_isub hx hb dX1_listen_151 ?_
          obtain ⟨r21, e22, hf⟩ := bind_some hf
          refine callVv (As := [.int (v.1), .int r17, .int (((d_a2.2 3) (v.1).toNatClampNeg) - r19)]) (rest := []) M (mX1_add l D cs sk h_t q_t k (r9.1, (va_up (va_up (va_up d_t.2 1 (r9.2 1)) 2 (r9.2 2)) 3 (r9.2 3))) (v.1) r17 (((d_a2.2 3) (v.1).toNatClampNeg) - r19) e22) mw_X1_48 ln_X1_add ⟨rfl, rfl, Nat.le_of_ble_eq_true rfl, Nat.le_of_ble_eq_true rfl⟩ hP hD hS hA [0, 1, 2, 3] (by decide) rfl rfl (q0 := 0) rfl rfl rfl ⟨Nat.zero_le _, Nat.zero_le _⟩ hl.1 rfl (Nat.le_of_ble_eq_true rfl) dX1_listen_152 (fun H locs hP hD hS => ?_)
          replace hP : va_P D vwCl [oX1 h_t q_t (r21.1), ((q_t 1), .inl (cs 0, 12, .inl (r21.2 1))), ((q_t 2), .inl (cs 0, 12, .inl (r21.2 2))), ((q_t 3), .inl (cs 0, 12, .inl (r21.2 3))), oX4 h_a1 q_a1 (d_a1.1), ((q_a1 1), .inl (cs 0, 6, .inl (d_a1.2 1))), ((q_a1 2), .inl (cs 0, 6, .inl (d_a1.2 2))), ((q_a1 4), .inl (cs 0, 3, .inl (d_a1.2 4))), ((q_a1 5), .inl (cs 0, 3, .inl (d_a1.2 5))), oX0 h_a2 q_a2 (d_a2.1), ((q_a2 1), .inl (cs 0, 6, .inl (d_a2.2 1))), ((q_a2 2), .inl (cs 0, 6, .inl (d_a2.2 2))), ((q_a2 3), .inl (cs 0, 6, .inl (d_a2.2 3)))] H := hP
          replace hD : va_D A [oX1 h_t q_t (r21.1), ((q_t 1), .inl (cs 0, 12, .inl (r21.2 1))), ((q_t 2), .inl (cs 0, 12, .inl (r21.2 2))), ((q_t 3), .inl (cs 0, 12, .inl (r21.2 3))), oX4 h_a1 q_a1 (d_a1.1), ((q_a1 1), .inl (cs 0, 6, .inl (d_a1.2 1))), ((q_a1 2), .inl (cs 0, 6, .inl (d_a1.2 2))), ((q_a1 4), .inl (cs 0, 3, .inl (d_a1.2 4))), ((q_a1 5), .inl (cs 0, 3, .inl (d_a1.2 5))), oX0 h_a2 q_a2 (d_a2.1), ((q_a2 1), .inl (cs 0, 6, .inl (d_a2.2 1))), ((q_a2 2), .inl (cs 0, 6, .inl (d_a2.2 2))), ((q_a2 3), .inl (cs 0, 6, .inl (d_a2.2 3)))] := hD
          refine lv_iinc (v := ((v.1) + 1)) (lv' := [(4, .int ((v.1) + 1)), (8, .int r15), (7, .int ((d_a2.2 3) (v.1).toNatClampNeg)), (6, .int ((d_a2.2 2) (v.1).toNatClampNeg)), (5, .int ((d_a2.2 1) (v.1).toNatClampNeg)), (0, .ref h_t), (1, .ref h_a1), (2, .ref h_a2), (3, .int x3)]) hx hb dX1_listen_155 hl (k := 8) rfl rfl (by decide) rfl (fun ls hl => ?_)
          refine lv_goto (tgt := 8) hx hb dX1_listen_158 (by decide) ?_
          exact ih _ hf _ _ _ hP hD hS (lv_sub hl [5, 6, 7, 8, 0] rfl)
      · replace hf := g12.1 c11
        refine lv_aload_n hx hb dX1_listen_82 rfl (lv_at hl 4 rfl) ?_
        obtain ⟨r23, e24, hf⟩ := bind_some hf
        refine callVi (As := []) (rest := []) M (mX4_hasMill l D cs sk h_a1 q_a1 k d_a1 e24) mw_X1_52 ln_X4_hasMill ⟨rfl, rfl, Nat.le_of_ble_eq_true rfl, Nat.le_of_ble_eq_true rfl⟩ hP hD hS hA [4] (by decide) rfl rfl (q0 := 0) rfl rfl rfl ⟨Nat.zero_le _, Nat.zero_le _⟩ hl.1 rfl (Nat.le_of_ble_eq_true rfl) dX1_listen_83 (fun H locs hP hD hS => ?_)
        replace hP : va_P D vwCl [oX1 h_t q_t (r9.1), ((q_t 1), .inl (cs 0, 12, .inl (r9.2 1))), ((q_t 2), .inl (cs 0, 12, .inl (r9.2 2))), ((q_t 3), .inl (cs 0, 12, .inl (r9.2 3))), oX4 h_a1 q_a1 (d_a1.1), ((q_a1 1), .inl (cs 0, 6, .inl (d_a1.2 1))), ((q_a1 2), .inl (cs 0, 6, .inl (d_a1.2 2))), ((q_a1 4), .inl (cs 0, 3, .inl (d_a1.2 4))), ((q_a1 5), .inl (cs 0, 3, .inl (d_a1.2 5))), oX0 h_a2 q_a2 (d_a2.1), ((q_a2 1), .inl (cs 0, 6, .inl (d_a2.2 1))), ((q_a2 2), .inl (cs 0, 6, .inl (d_a2.2 2))), ((q_a2 3), .inl (cs 0, 6, .inl (d_a2.2 3)))] H := hP
        replace hD : va_D A [oX1 h_t q_t (r9.1), ((q_t 1), .inl (cs 0, 12, .inl (r9.2 1))), ((q_t 2), .inl (cs 0, 12, .inl (r9.2 2))), ((q_t 3), .inl (cs 0, 12, .inl (r9.2 3))), oX4 h_a1 q_a1 (d_a1.1), ((q_a1 1), .inl (cs 0, 6, .inl (d_a1.2 1))), ((q_a1 2), .inl (cs 0, 6, .inl (d_a1.2 2))), ((q_a1 4), .inl (cs 0, 3, .inl (d_a1.2 4))), ((q_a1 5), .inl (cs 0, 3, .inl (d_a1.2 5))), oX0 h_a2 q_a2 (d_a2.1), ((q_a2 1), .inl (cs 0, 6, .inl (d_a2.2 1))), ((q_a2 2), .inl (cs 0, 6, .inl (d_a2.2 2))), ((q_a2 3), .inl (cs 0, 6, .inl (d_a2.2 3)))] := hD
        have g26 := ite_some hf
        refine lv_if_eq (tgt := 118) hx hb dX1_listen_86 (by decide) (fun c25 => ?_) (fun c25 => ?_)
        · replace hf := g26.1 c25
          refine lv_iload hx hb dX1_listen_118 (lv_at hl 2 rfl) ?_
          refine lv_iconst (v := 4) hx hb dX1_listen_120 rfl ?_
          have g28 := ite_some hf
          refine lv_icmp_ne (tgt := 155) hx hb dX1_listen_121 (by decide) (fun c27 => ?_) (fun c27 => ?_)
          · replace hf := g28.2 c27
            refine lv_iinc (v := ((v.1) + 1)) (lv' := [(4, .int ((v.1) + 1)), (7, .int ((d_a2.2 3) (v.1).toNatClampNeg)), (6, .int ((d_a2.2 2) (v.1).toNatClampNeg)), (5, .int ((d_a2.2 1) (v.1).toNatClampNeg)), (0, .ref h_t), (1, .ref h_a1), (2, .ref h_a2), (3, .int x3)]) hx hb dX1_listen_155 hl (k := 7) rfl rfl (by decide) rfl (fun ls hl => ?_)
            refine lv_goto (tgt := 8) hx hb dX1_listen_158 (by decide) ?_
            exact ih _ hf _ _ _ hP hD hS (lv_sub hl [4, 5, 6, 7, 0] rfl)
          · replace hf := g28.1 c27
            refine lv_aload_n hx hb dX1_listen_124 rfl (lv_at hl 4 rfl) ?_
            refine lv_iload hx hb dX1_listen_125 (lv_at hl 1 rfl) ?_
            obtain ⟨r29, e30, hf⟩ := bind_some hf
            refine callVi (As := [.int ((d_a2.2 2) (v.1).toNatClampNeg)]) (rest := []) M (mX4_nextWindow l D cs sk h_a1 q_a1 k d_a1 ((d_a2.2 2) (v.1).toNatClampNeg) e30) mw_X1_62 ln_X4_nextWindow ⟨rfl, rfl, Nat.le_of_ble_eq_true rfl, Nat.le_of_ble_eq_true rfl⟩ hP hD hS hA [4] (by decide) rfl rfl (q0 := 0) rfl rfl rfl ⟨Nat.zero_le _, Nat.zero_le _⟩ hl.1 rfl (Nat.le_of_ble_eq_true rfl) dX1_listen_127 (fun H locs hP hD hS => ?_)
            replace hP : va_P D vwCl [oX1 h_t q_t (r9.1), ((q_t 1), .inl (cs 0, 12, .inl (r9.2 1))), ((q_t 2), .inl (cs 0, 12, .inl (r9.2 2))), ((q_t 3), .inl (cs 0, 12, .inl (r9.2 3))), oX4 h_a1 q_a1 (d_a1.1), ((q_a1 1), .inl (cs 0, 6, .inl (d_a1.2 1))), ((q_a1 2), .inl (cs 0, 6, .inl (d_a1.2 2))), ((q_a1 4), .inl (cs 0, 3, .inl (d_a1.2 4))), ((q_a1 5), .inl (cs 0, 3, .inl (d_a1.2 5))), oX0 h_a2 q_a2 (d_a2.1), ((q_a2 1), .inl (cs 0, 6, .inl (d_a2.2 1))), ((q_a2 2), .inl (cs 0, 6, .inl (d_a2.2 2))), ((q_a2 3), .inl (cs 0, 6, .inl (d_a2.2 3)))] H := hP
            replace hD : va_D A [oX1 h_t q_t (r9.1), ((q_t 1), .inl (cs 0, 12, .inl (r9.2 1))), ((q_t 2), .inl (cs 0, 12, .inl (r9.2 2))), ((q_t 3), .inl (cs 0, 12, .inl (r9.2 3))), oX4 h_a1 q_a1 (d_a1.1), ((q_a1 1), .inl (cs 0, 6, .inl (d_a1.2 1))), ((q_a1 2), .inl (cs 0, 6, .inl (d_a1.2 2))), ((q_a1 4), .inl (cs 0, 3, .inl (d_a1.2 4))), ((q_a1 5), .inl (cs 0, 3, .inl (d_a1.2 5))), oX0 h_a2 q_a2 (d_a2.1), ((q_a2 1), .inl (cs 0, 6, .inl (d_a2.2 1))), ((q_a2 2), .inl (cs 0, 6, .inl (d_a2.2 2))), ((q_a2 3), .inl (cs 0, 6, .inl (d_a2.2 3)))] := hD
            refine lv_istore (lv' := [(8, .int r29), (7, .int ((d_a2.2 3) (v.1).toNatClampNeg)), (6, .int ((d_a2.2 2) (v.1).toNatClampNeg)), (5, .int ((d_a2.2 1) (v.1).toNatClampNeg)), (0, .ref h_t), (1, .ref h_a1), (2, .ref h_a2), (3, .int x3), (4, .int (v.1))]) hx hb dX1_listen_130 hl (by decide) rfl (fun ls hl => ?_)
            refine lv_aload_n hx hb dX1_listen_132 rfl (lv_at hl 4 rfl) ?_
            refine lv_iload hx hb dX1_listen_133 (lv_at hl 8 rfl) ?_
            refine lv_aload_n hx hb dX1_listen_135 rfl (lv_at hl 5 rfl) ?_
            refine lv_iload hx hb dX1_listen_136 (lv_at hl 0 rfl) ?_
            refine lv_iload_n hx hb dX1_listen_138 rfl (lv_at hl 7 rfl) ?_
            obtain ⟨r31, e32, hf⟩ := bind_some hf
            refine callVi (As := [.int r29, .int x3]) (rest := [.int (v.1), .ref h_t]) M (mX4_soundTime l D cs sk h_a1 q_a1 k d_a1 r29 x3 e32) mw_X1_39 ln_X4_soundTime ⟨rfl, rfl, Nat.le_of_ble_eq_true rfl, Nat.le_of_ble_eq_true rfl⟩ hP hD hS hA [4, 5, 6, 7, 8] (by decide) rfl rfl (q0 := 0) rfl rfl rfl ⟨Nat.zero_le _, Nat.zero_le _⟩ hl.1 rfl (Nat.le_of_ble_eq_true rfl) dX1_listen_139 (fun H locs hP hD hS => ?_)
            replace hP : va_P D vwCl [oX1 h_t q_t (r9.1), ((q_t 1), .inl (cs 0, 12, .inl (r9.2 1))), ((q_t 2), .inl (cs 0, 12, .inl (r9.2 2))), ((q_t 3), .inl (cs 0, 12, .inl (r9.2 3))), oX4 h_a1 q_a1 (d_a1.1), ((q_a1 1), .inl (cs 0, 6, .inl (d_a1.2 1))), ((q_a1 2), .inl (cs 0, 6, .inl (d_a1.2 2))), ((q_a1 4), .inl (cs 0, 3, .inl (d_a1.2 4))), ((q_a1 5), .inl (cs 0, 3, .inl (d_a1.2 5))), oX0 h_a2 q_a2 (d_a2.1), ((q_a2 1), .inl (cs 0, 6, .inl (d_a2.2 1))), ((q_a2 2), .inl (cs 0, 6, .inl (d_a2.2 2))), ((q_a2 3), .inl (cs 0, 6, .inl (d_a2.2 3)))] H := hP
            replace hD : va_D A [oX1 h_t q_t (r9.1), ((q_t 1), .inl (cs 0, 12, .inl (r9.2 1))), ((q_t 2), .inl (cs 0, 12, .inl (r9.2 2))), ((q_t 3), .inl (cs 0, 12, .inl (r9.2 3))), oX4 h_a1 q_a1 (d_a1.1), ((q_a1 1), .inl (cs 0, 6, .inl (d_a1.2 1))), ((q_a1 2), .inl (cs 0, 6, .inl (d_a1.2 2))), ((q_a1 4), .inl (cs 0, 3, .inl (d_a1.2 4))), ((q_a1 5), .inl (cs 0, 3, .inl (d_a1.2 5))), oX0 h_a2 q_a2 (d_a2.1), ((q_a2 1), .inl (cs 0, 6, .inl (d_a2.2 1))), ((q_a2 2), .inl (cs 0, 6, .inl (d_a2.2 2))), ((q_a2 3), .inl (cs 0, 6, .inl (d_a2.2 3)))] := hD
            refine lv_iload hx hb dX1_listen_142 (lv_at hl 1 rfl) ?_
            refine lv_aload_n hx hb dX1_listen_144 rfl (lv_at hl 5 rfl) ?_
            refine lv_iload hx hb dX1_listen_145 (lv_at hl 0 rfl) ?_
            refine lv_iload_n hx hb dX1_listen_147 rfl (lv_at hl 7 rfl) ?_
            obtain ⟨r33, e34, hf⟩ := bind_some hf
            refine callVi (As := [.int r29, .int x3]) (rest := [.int ((d_a2.2 3) (v.1).toNatClampNeg), .int r31, .int (v.1), .ref h_t]) M (mX4_pacesToEar l D cs sk h_a1 q_a1 k d_a1 r29 x3 e34) mw_X1_45 ln_X4_pacesToEar ⟨rfl, rfl, Nat.le_of_ble_eq_true rfl, Nat.le_of_ble_eq_true rfl⟩ hP hD hS hA [4, 5, 6, 7, 8] (by decide) rfl rfl (q0 := 0) rfl rfl rfl ⟨Nat.zero_le _, Nat.zero_le _⟩ hl.1 rfl (Nat.le_of_ble_eq_true rfl) dX1_listen_148 (fun H locs hP hD hS => ?_)
            replace hP : va_P D vwCl [oX1 h_t q_t (r9.1), ((q_t 1), .inl (cs 0, 12, .inl (r9.2 1))), ((q_t 2), .inl (cs 0, 12, .inl (r9.2 2))), ((q_t 3), .inl (cs 0, 12, .inl (r9.2 3))), oX4 h_a1 q_a1 (d_a1.1), ((q_a1 1), .inl (cs 0, 6, .inl (d_a1.2 1))), ((q_a1 2), .inl (cs 0, 6, .inl (d_a1.2 2))), ((q_a1 4), .inl (cs 0, 3, .inl (d_a1.2 4))), ((q_a1 5), .inl (cs 0, 3, .inl (d_a1.2 5))), oX0 h_a2 q_a2 (d_a2.1), ((q_a2 1), .inl (cs 0, 6, .inl (d_a2.2 1))), ((q_a2 2), .inl (cs 0, 6, .inl (d_a2.2 2))), ((q_a2 3), .inl (cs 0, 6, .inl (d_a2.2 3)))] H := hP
            replace hD : va_D A [oX1 h_t q_t (r9.1), ((q_t 1), .inl (cs 0, 12, .inl (r9.2 1))), ((q_t 2), .inl (cs 0, 12, .inl (r9.2 2))), ((q_t 3), .inl (cs 0, 12, .inl (r9.2 3))), oX4 h_a1 q_a1 (d_a1.1), ((q_a1 1), .inl (cs 0, 6, .inl (d_a1.2 1))), ((q_a1 2), .inl (cs 0, 6, .inl (d_a1.2 2))), ((q_a1 4), .inl (cs 0, 3, .inl (d_a1.2 4))), ((q_a1 5), .inl (cs 0, 3, .inl (d_a1.2 5))), oX0 h_a2 q_a2 (d_a2.1), ((q_a2 1), .inl (cs 0, 6, .inl (d_a2.2 1))), ((q_a2 2), .inl (cs 0, 6, .inl (d_a2.2 2))), ((q_a2 3), .inl (cs 0, 6, .inl (d_a2.2 3)))] := hD
            refine lv_isub hx hb dX1_listen_151 ?_
            obtain ⟨r35, e36, hf⟩ := bind_some hf
            refine callVv (As := [.int (v.1), .int r31, .int (((d_a2.2 3) (v.1).toNatClampNeg) - r33)]) (rest := []) M (mX1_add l D cs sk h_t q_t k (r9.1, (va_up (va_up (va_up d_t.2 1 (r9.2 1)) 2 (r9.2 2)) 3 (r9.2 3))) (v.1) r31 (((d_a2.2 3) (v.1).toNatClampNeg) - r33) e36) mw_X1_48 ln_X1_add ⟨rfl, rfl, Nat.le_of_ble_eq_true rfl, Nat.le_of_ble_eq_true rfl⟩ hP hD hS hA [0, 1, 2, 3] (by decide) rfl rfl (q0 := 0) rfl rfl rfl ⟨Nat.zero_le _, Nat.zero_le _⟩ hl.1 rfl (Nat.le_of_ble_eq_true rfl) dX1_listen_152 (fun H locs hP hD hS => ?_)
            replace hP : va_P D vwCl [oX1 h_t q_t (r35.1), ((q_t 1), .inl (cs 0, 12, .inl (r35.2 1))), ((q_t 2), .inl (cs 0, 12, .inl (r35.2 2))), ((q_t 3), .inl (cs 0, 12, .inl (r35.2 3))), oX4 h_a1 q_a1 (d_a1.1), ((q_a1 1), .inl (cs 0, 6, .inl (d_a1.2 1))), ((q_a1 2), .inl (cs 0, 6, .inl (d_a1.2 2))), ((q_a1 4), .inl (cs 0, 3, .inl (d_a1.2 4))), ((q_a1 5), .inl (cs 0, 3, .inl (d_a1.2 5))), oX0 h_a2 q_a2 (d_a2.1), ((q_a2 1), .inl (cs 0, 6, .inl (d_a2.2 1))), ((q_a2 2), .inl (cs 0, 6, .inl (d_a2.2 2))), ((q_a2 3), .inl (cs 0, 6, .inl (d_a2.2 3)))] H := hP
            replace hD : va_D A [oX1 h_t q_t (r35.1), ((q_t 1), .inl (cs 0, 12, .inl (r35.2 1))), ((q_t 2), .inl (cs 0, 12, .inl (r35.2 2))), ((q_t 3), .inl (cs 0, 12, .inl (r35.2 3))), oX4 h_a1 q_a1 (d_a1.1), ((q_a1 1), .inl (cs 0, 6, .inl (d_a1.2 1))), ((q_a1 2), .inl (cs 0, 6, .inl (d_a1.2 2))), ((q_a1 4), .inl (cs 0, 3, .inl (d_a1.2 4))), ((q_a1 5), .inl (cs 0, 3, .inl (d_a1.2 5))), oX0 h_a2 q_a2 (d_a2.1), ((q_a2 1), .inl (cs 0, 6, .inl (d_a2.2 1))), ((q_a2 2), .inl (cs 0, 6, .inl (d_a2.2 2))), ((q_a2 3), .inl (cs 0, 6, .inl (d_a2.2 3)))] := hD
            refine lv_iinc (v := ((v.1) + 1)) (lv' := [(4, .int ((v.1) + 1)), (8, .int r29), (7, .int ((d_a2.2 3) (v.1).toNatClampNeg)), (6, .int ((d_a2.2 2) (v.1).toNatClampNeg)), (5, .int ((d_a2.2 1) (v.1).toNatClampNeg)), (0, .ref h_t), (1, .ref h_a1), (2, .ref h_a2), (3, .int x3)]) hx hb dX1_listen_155 hl (k := 8) rfl rfl (by decide) rfl (fun ls hl => ?_)
            refine lv_goto (tgt := 8) hx hb dX1_listen_158 (by decide) ?_
            exact ih _ hf _ _ _ hP hD hS (lv_sub hl [5, 6, 7, 8, 0] rfl)
        · replace hf := g26.2 c25
          refine lv_aload_n hx hb dX1_listen_89 rfl (lv_at hl 4 rfl) ?_
          refine lv_iload hx hb dX1_listen_90 (lv_at hl 1 rfl) ?_
          refine lv_iload_n hx hb dX1_listen_92 rfl (lv_at hl 6 rfl) ?_
          obtain ⟨r37, e38, hf⟩ := bind_some hf
          refine callVi (As := [.int ((d_a2.2 2) (v.1).toNatClampNeg), .int x3]) (rest := []) M (mX4_pacesByMill l D cs sk h_a1 q_a1 k d_a1 ((d_a2.2 2) (v.1).toNatClampNeg) x3 e38) mw_X1_56 ln_X4_pacesByMill ⟨rfl, rfl, Nat.le_of_ble_eq_true rfl, Nat.le_of_ble_eq_true rfl⟩ hP hD hS hA [4, 5, 6, 7, 8] (by decide) rfl rfl (q0 := 0) rfl rfl rfl ⟨Nat.zero_le _, Nat.zero_le _⟩ hl.1 rfl (Nat.le_of_ble_eq_true rfl) dX1_listen_93 (fun H locs hP hD hS => ?_)
          replace hP : va_P D vwCl [oX1 h_t q_t (r9.1), ((q_t 1), .inl (cs 0, 12, .inl (r9.2 1))), ((q_t 2), .inl (cs 0, 12, .inl (r9.2 2))), ((q_t 3), .inl (cs 0, 12, .inl (r9.2 3))), oX4 h_a1 q_a1 (d_a1.1), ((q_a1 1), .inl (cs 0, 6, .inl (d_a1.2 1))), ((q_a1 2), .inl (cs 0, 6, .inl (d_a1.2 2))), ((q_a1 4), .inl (cs 0, 3, .inl (d_a1.2 4))), ((q_a1 5), .inl (cs 0, 3, .inl (d_a1.2 5))), oX0 h_a2 q_a2 (d_a2.1), ((q_a2 1), .inl (cs 0, 6, .inl (d_a2.2 1))), ((q_a2 2), .inl (cs 0, 6, .inl (d_a2.2 2))), ((q_a2 3), .inl (cs 0, 6, .inl (d_a2.2 3)))] H := hP
          replace hD : va_D A [oX1 h_t q_t (r9.1), ((q_t 1), .inl (cs 0, 12, .inl (r9.2 1))), ((q_t 2), .inl (cs 0, 12, .inl (r9.2 2))), ((q_t 3), .inl (cs 0, 12, .inl (r9.2 3))), oX4 h_a1 q_a1 (d_a1.1), ((q_a1 1), .inl (cs 0, 6, .inl (d_a1.2 1))), ((q_a1 2), .inl (cs 0, 6, .inl (d_a1.2 2))), ((q_a1 4), .inl (cs 0, 3, .inl (d_a1.2 4))), ((q_a1 5), .inl (cs 0, 3, .inl (d_a1.2 5))), oX0 h_a2 q_a2 (d_a2.1), ((q_a2 1), .inl (cs 0, 6, .inl (d_a2.2 1))), ((q_a2 2), .inl (cs 0, 6, .inl (d_a2.2 2))), ((q_a2 3), .inl (cs 0, 6, .inl (d_a2.2 3)))] := hD
          refine lv_istore (lv' := [(8, .int r37), (7, .int ((d_a2.2 3) (v.1).toNatClampNeg)), (6, .int ((d_a2.2 2) (v.1).toNatClampNeg)), (5, .int ((d_a2.2 1) (v.1).toNatClampNeg)), (0, .ref h_t), (1, .ref h_a1), (2, .ref h_a2), (3, .int x3), (4, .int (v.1))]) hx hb dX1_listen_96 hl (by decide) rfl (fun ls hl => ?_)
          refine lv_aload_n hx hb dX1_listen_98 rfl (lv_at hl 4 rfl) ?_
          refine lv_iload hx hb dX1_listen_99 (lv_at hl 8 rfl) ?_
          refine lv_iload hx hb dX1_listen_101 (lv_at hl 0 rfl) ?_
          refine lv_aload_n hx hb dX1_listen_103 rfl (lv_at hl 5 rfl) ?_
          refine va_get (D := D) (ci := 4) (v := .int (d_a1.1 8)) (C := RX4) (T := TX4) (N := 11) hx hb hT iX4 hown hK hP 4 rfl rfl 8 (by decide) (hT _ fw_X1_59) (fun _ h9 => h9) rfl dX1_listen_104 ?_
          refine lv_imul hx hb dX1_listen_107 ?_
          refine lv_iload hx hb dX1_listen_108 (lv_at hl 1 rfl) ?_
          refine lv_iconst (v := 2) hx hb dX1_listen_110 rfl ?_
          refine lv_idiv hx hb dX1_listen_111 (by decide) ?_
          refine lv_iload hx hb dX1_listen_112 (lv_at hl 0 rfl) ?_
          refine lv_isub hx hb dX1_listen_114 ?_
          obtain ⟨r39, e40, hf⟩ := bind_some hf
          refine callVv (As := [.int (v.1), .int (r37 * (d_a1.1 8)), .int ((((d_a2.2 3) (v.1).toNatClampNeg) / 2) - r37)]) (rest := []) M (mX1_add l D cs sk h_t q_t k (r9.1, (va_up (va_up (va_up d_t.2 1 (r9.2 1)) 2 (r9.2 2)) 3 (r9.2 3))) (v.1) (r37 * (d_a1.1 8)) ((((d_a2.2 3) (v.1).toNatClampNeg) / 2) - r37) e40) mw_X1_48 ln_X1_add ⟨rfl, rfl, Nat.le_of_ble_eq_true rfl, Nat.le_of_ble_eq_true rfl⟩ hP hD hS hA [0, 1, 2, 3] (by decide) rfl rfl (q0 := 0) rfl rfl rfl ⟨Nat.zero_le _, Nat.zero_le _⟩ hl.1 rfl (Nat.le_of_ble_eq_true rfl) dX1_listen_115 (fun H locs hP hD hS => ?_)
          replace hP : va_P D vwCl [oX1 h_t q_t (r39.1), ((q_t 1), .inl (cs 0, 12, .inl (r39.2 1))), ((q_t 2), .inl (cs 0, 12, .inl (r39.2 2))), ((q_t 3), .inl (cs 0, 12, .inl (r39.2 3))), oX4 h_a1 q_a1 (d_a1.1), ((q_a1 1), .inl (cs 0, 6, .inl (d_a1.2 1))), ((q_a1 2), .inl (cs 0, 6, .inl (d_a1.2 2))), ((q_a1 4), .inl (cs 0, 3, .inl (d_a1.2 4))), ((q_a1 5), .inl (cs 0, 3, .inl (d_a1.2 5))), oX0 h_a2 q_a2 (d_a2.1), ((q_a2 1), .inl (cs 0, 6, .inl (d_a2.2 1))), ((q_a2 2), .inl (cs 0, 6, .inl (d_a2.2 2))), ((q_a2 3), .inl (cs 0, 6, .inl (d_a2.2 3)))] H := hP
          replace hD : va_D A [oX1 h_t q_t (r39.1), ((q_t 1), .inl (cs 0, 12, .inl (r39.2 1))), ((q_t 2), .inl (cs 0, 12, .inl (r39.2 2))), ((q_t 3), .inl (cs 0, 12, .inl (r39.2 3))), oX4 h_a1 q_a1 (d_a1.1), ((q_a1 1), .inl (cs 0, 6, .inl (d_a1.2 1))), ((q_a1 2), .inl (cs 0, 6, .inl (d_a1.2 2))), ((q_a1 4), .inl (cs 0, 3, .inl (d_a1.2 4))), ((q_a1 5), .inl (cs 0, 3, .inl (d_a1.2 5))), oX0 h_a2 q_a2 (d_a2.1), ((q_a2 1), .inl (cs 0, 6, .inl (d_a2.2 1))), ((q_a2 2), .inl (cs 0, 6, .inl (d_a2.2 2))), ((q_a2 3), .inl (cs 0, 6, .inl (d_a2.2 3)))] := hD
          refine lv_iload hx hb dX1_listen_118 (lv_at hl 3 rfl) ?_
          refine lv_iconst (v := 4) hx hb dX1_listen_120 rfl ?_
          have g42 := ite_some hf
          refine lv_icmp_ne (tgt := 155) hx hb dX1_listen_121 (by decide) (fun c41 => ?_) (fun c41 => ?_)
          · replace hf := g42.2 c41
            refine lv_iinc (v := ((v.1) + 1)) (lv' := [(4, .int ((v.1) + 1)), (8, .int r37), (7, .int ((d_a2.2 3) (v.1).toNatClampNeg)), (6, .int ((d_a2.2 2) (v.1).toNatClampNeg)), (5, .int ((d_a2.2 1) (v.1).toNatClampNeg)), (0, .ref h_t), (1, .ref h_a1), (2, .ref h_a2), (3, .int x3)]) hx hb dX1_listen_155 hl (k := 8) rfl rfl (by decide) rfl (fun ls hl => ?_)
            refine lv_goto (tgt := 8) hx hb dX1_listen_158 (by decide) ?_
            exact ih _ hf _ _ _ hP hD hS (lv_sub hl [5, 6, 7, 8, 0] rfl)
          · replace hf := g42.1 c41
            refine lv_aload_n hx hb dX1_listen_124 rfl (lv_at hl 5 rfl) ?_
            refine lv_iload hx hb dX1_listen_125 (lv_at hl 2 rfl) ?_
            obtain ⟨r43, e44, hf⟩ := bind_some hf
            refine callVi (As := [.int ((d_a2.2 2) (v.1).toNatClampNeg)]) (rest := []) M (mX4_nextWindow l D cs sk h_a1 q_a1 k d_a1 ((d_a2.2 2) (v.1).toNatClampNeg) e44) mw_X1_62 ln_X4_nextWindow ⟨rfl, rfl, Nat.le_of_ble_eq_true rfl, Nat.le_of_ble_eq_true rfl⟩ hP hD hS hA [4] (by decide) rfl rfl (q0 := 0) rfl rfl rfl ⟨Nat.zero_le _, Nat.zero_le _⟩ hl.1 rfl (Nat.le_of_ble_eq_true rfl) dX1_listen_127 (fun H locs hP hD hS => ?_)
            replace hP : va_P D vwCl [oX1 h_t q_t (r39.1), ((q_t 1), .inl (cs 0, 12, .inl (r39.2 1))), ((q_t 2), .inl (cs 0, 12, .inl (r39.2 2))), ((q_t 3), .inl (cs 0, 12, .inl (r39.2 3))), oX4 h_a1 q_a1 (d_a1.1), ((q_a1 1), .inl (cs 0, 6, .inl (d_a1.2 1))), ((q_a1 2), .inl (cs 0, 6, .inl (d_a1.2 2))), ((q_a1 4), .inl (cs 0, 3, .inl (d_a1.2 4))), ((q_a1 5), .inl (cs 0, 3, .inl (d_a1.2 5))), oX0 h_a2 q_a2 (d_a2.1), ((q_a2 1), .inl (cs 0, 6, .inl (d_a2.2 1))), ((q_a2 2), .inl (cs 0, 6, .inl (d_a2.2 2))), ((q_a2 3), .inl (cs 0, 6, .inl (d_a2.2 3)))] H := hP
            replace hD : va_D A [oX1 h_t q_t (r39.1), ((q_t 1), .inl (cs 0, 12, .inl (r39.2 1))), ((q_t 2), .inl (cs 0, 12, .inl (r39.2 2))), ((q_t 3), .inl (cs 0, 12, .inl (r39.2 3))), oX4 h_a1 q_a1 (d_a1.1), ((q_a1 1), .inl (cs 0, 6, .inl (d_a1.2 1))), ((q_a1 2), .inl (cs 0, 6, .inl (d_a1.2 2))), ((q_a1 4), .inl (cs 0, 3, .inl (d_a1.2 4))), ((q_a1 5), .inl (cs 0, 3, .inl (d_a1.2 5))), oX0 h_a2 q_a2 (d_a2.1), ((q_a2 1), .inl (cs 0, 6, .inl (d_a2.2 1))), ((q_a2 2), .inl (cs 0, 6, .inl (d_a2.2 2))), ((q_a2 3), .inl (cs 0, 6, .inl (d_a2.2 3)))] := hD
            refine lv_istore (lv' := [(8, .int r43), (7, .int ((d_a2.2 3) (v.1).toNatClampNeg)), (6, .int ((d_a2.2 2) (v.1).toNatClampNeg)), (5, .int ((d_a2.2 1) (v.1).toNatClampNeg)), (0, .ref h_t), (1, .ref h_a1), (2, .ref h_a2), (3, .int x3), (4, .int (v.1))]) hx hb dX1_listen_130 hl (by decide) rfl (fun ls hl => ?_)
            refine lv_aload_n hx hb dX1_listen_132 rfl (lv_at hl 4 rfl) ?_
            refine lv_iload hx hb dX1_listen_133 (lv_at hl 8 rfl) ?_
            refine lv_aload_n hx hb dX1_listen_135 rfl (lv_at hl 5 rfl) ?_
            refine lv_iload hx hb dX1_listen_136 (lv_at hl 0 rfl) ?_
            refine lv_iload_n hx hb dX1_listen_138 rfl (lv_at hl 7 rfl) ?_
            obtain ⟨r45, e46, hf⟩ := bind_some hf
            refine callVi (As := [.int r43, .int x3]) (rest := [.int (v.1), .ref h_t]) M (mX4_soundTime l D cs sk h_a1 q_a1 k d_a1 r43 x3 e46) mw_X1_39 ln_X4_soundTime ⟨rfl, rfl, Nat.le_of_ble_eq_true rfl, Nat.le_of_ble_eq_true rfl⟩ hP hD hS hA [4, 5, 6, 7, 8] (by decide) rfl rfl (q0 := 0) rfl rfl rfl ⟨Nat.zero_le _, Nat.zero_le _⟩ hl.1 rfl (Nat.le_of_ble_eq_true rfl) dX1_listen_139 (fun H locs hP hD hS => ?_)
            replace hP : va_P D vwCl [oX1 h_t q_t (r39.1), ((q_t 1), .inl (cs 0, 12, .inl (r39.2 1))), ((q_t 2), .inl (cs 0, 12, .inl (r39.2 2))), ((q_t 3), .inl (cs 0, 12, .inl (r39.2 3))), oX4 h_a1 q_a1 (d_a1.1), ((q_a1 1), .inl (cs 0, 6, .inl (d_a1.2 1))), ((q_a1 2), .inl (cs 0, 6, .inl (d_a1.2 2))), ((q_a1 4), .inl (cs 0, 3, .inl (d_a1.2 4))), ((q_a1 5), .inl (cs 0, 3, .inl (d_a1.2 5))), oX0 h_a2 q_a2 (d_a2.1), ((q_a2 1), .inl (cs 0, 6, .inl (d_a2.2 1))), ((q_a2 2), .inl (cs 0, 6, .inl (d_a2.2 2))), ((q_a2 3), .inl (cs 0, 6, .inl (d_a2.2 3)))] H := hP
            replace hD : va_D A [oX1 h_t q_t (r39.1), ((q_t 1), .inl (cs 0, 12, .inl (r39.2 1))), ((q_t 2), .inl (cs 0, 12, .inl (r39.2 2))), ((q_t 3), .inl (cs 0, 12, .inl (r39.2 3))), oX4 h_a1 q_a1 (d_a1.1), ((q_a1 1), .inl (cs 0, 6, .inl (d_a1.2 1))), ((q_a1 2), .inl (cs 0, 6, .inl (d_a1.2 2))), ((q_a1 4), .inl (cs 0, 3, .inl (d_a1.2 4))), ((q_a1 5), .inl (cs 0, 3, .inl (d_a1.2 5))), oX0 h_a2 q_a2 (d_a2.1), ((q_a2 1), .inl (cs 0, 6, .inl (d_a2.2 1))), ((q_a2 2), .inl (cs 0, 6, .inl (d_a2.2 2))), ((q_a2 3), .inl (cs 0, 6, .inl (d_a2.2 3)))] := hD
            refine lv_iload hx hb dX1_listen_142 (lv_at hl 1 rfl) ?_
            refine lv_aload_n hx hb dX1_listen_144 rfl (lv_at hl 5 rfl) ?_
            refine lv_iload hx hb dX1_listen_145 (lv_at hl 0 rfl) ?_
            refine lv_iload_n hx hb dX1_listen_147 rfl (lv_at hl 7 rfl) ?_
            obtain ⟨r47, e48, hf⟩ := bind_some hf
            refine callVi (As := [.int r43, .int x3]) (rest := [.int ((d_a2.2 3) (v.1).toNatClampNeg), .int r45, .int (v.1), .ref h_t]) M (mX4_pacesToEar l D cs sk h_a1 q_a1 k d_a1 r43 x3 e48) mw_X1_45 ln_X4_pacesToEar ⟨rfl, rfl, Nat.le_of_ble_eq_true rfl, Nat.le_of_ble_eq_true rfl⟩ hP hD hS hA [4, 5, 6, 7, 8] (by decide) rfl rfl (q0 := 0) rfl rfl rfl ⟨Nat.zero_le _, Nat.zero_le _⟩ hl.1 rfl (Nat.le_of_ble_eq_true rfl) dX1_listen_148 (fun H locs hP hD hS => ?_)
            replace hP : va_P D vwCl [oX1 h_t q_t (r39.1), ((q_t 1), .inl (cs 0, 12, .inl (r39.2 1))), ((q_t 2), .inl (cs 0, 12, .inl (r39.2 2))), ((q_t 3), .inl (cs 0, 12, .inl (r39.2 3))), oX4 h_a1 q_a1 (d_a1.1), ((q_a1 1), .inl (cs 0, 6, .inl (d_a1.2 1))), ((q_a1 2), .inl (cs 0, 6, .inl (d_a1.2 2))), ((q_a1 4), .inl (cs 0, 3, .inl (d_a1.2 4))), ((q_a1 5), .inl (cs 0, 3, .inl (d_a1.2 5))), oX0 h_a2 q_a2 (d_a2.1), ((q_a2 1), .inl (cs 0, 6, .inl (d_a2.2 1))), ((q_a2 2), .inl (cs 0, 6, .inl (d_a2.2 2))), ((q_a2 3), .inl (cs 0, 6, .inl (d_a2.2 3)))] H := hP
            replace hD : va_D A [oX1 h_t q_t (r39.1), ((q_t 1), .inl (cs 0, 12, .inl (r39.2 1))), ((q_t 2), .inl (cs 0, 12, .inl (r39.2 2))), ((q_t 3), .inl (cs 0, 12, .inl (r39.2 3))), oX4 h_a1 q_a1 (d_a1.1), ((q_a1 1), .inl (cs 0, 6, .inl (d_a1.2 1))), ((q_a1 2), .inl (cs 0, 6, .inl (d_a1.2 2))), ((q_a1 4), .inl (cs 0, 3, .inl (d_a1.2 4))), ((q_a1 5), .inl (cs 0, 3, .inl (d_a1.2 5))), oX0 h_a2 q_a2 (d_a2.1), ((q_a2 1), .inl (cs 0, 6, .inl (d_a2.2 1))), ((q_a2 2), .inl (cs 0, 6, .inl (d_a2.2 2))), ((q_a2 3), .inl (cs 0, 6, .inl (d_a2.2 3)))] := hD
            refine lv_isub hx hb dX1_listen_151 ?_
            obtain ⟨r49, e50, hf⟩ := bind_some hf
            refine callVv (As := [.int (v.1), .int r45, .int (((d_a2.2 3) (v.1).toNatClampNeg) - r47)]) (rest := []) M (mX1_add l D cs sk h_t q_t k (r39.1, (va_up (va_up (va_up d_t.2 1 (r39.2 1)) 2 (r39.2 2)) 3 (r39.2 3))) (v.1) r45 (((d_a2.2 3) (v.1).toNatClampNeg) - r47) e50) mw_X1_48 ln_X1_add ⟨rfl, rfl, Nat.le_of_ble_eq_true rfl, Nat.le_of_ble_eq_true rfl⟩ hP hD hS hA [0, 1, 2, 3] (by decide) rfl rfl (q0 := 0) rfl rfl rfl ⟨Nat.zero_le _, Nat.zero_le _⟩ hl.1 rfl (Nat.le_of_ble_eq_true rfl) dX1_listen_152 (fun H locs hP hD hS => ?_)
            replace hP : va_P D vwCl [oX1 h_t q_t (r49.1), ((q_t 1), .inl (cs 0, 12, .inl (r49.2 1))), ((q_t 2), .inl (cs 0, 12, .inl (r49.2 2))), ((q_t 3), .inl (cs 0, 12, .inl (r49.2 3))), oX4 h_a1 q_a1 (d_a1.1), ((q_a1 1), .inl (cs 0, 6, .inl (d_a1.2 1))), ((q_a1 2), .inl (cs 0, 6, .inl (d_a1.2 2))), ((q_a1 4), .inl (cs 0, 3, .inl (d_a1.2 4))), ((q_a1 5), .inl (cs 0, 3, .inl (d_a1.2 5))), oX0 h_a2 q_a2 (d_a2.1), ((q_a2 1), .inl (cs 0, 6, .inl (d_a2.2 1))), ((q_a2 2), .inl (cs 0, 6, .inl (d_a2.2 2))), ((q_a2 3), .inl (cs 0, 6, .inl (d_a2.2 3)))] H := hP
            replace hD : va_D A [oX1 h_t q_t (r49.1), ((q_t 1), .inl (cs 0, 12, .inl (r49.2 1))), ((q_t 2), .inl (cs 0, 12, .inl (r49.2 2))), ((q_t 3), .inl (cs 0, 12, .inl (r49.2 3))), oX4 h_a1 q_a1 (d_a1.1), ((q_a1 1), .inl (cs 0, 6, .inl (d_a1.2 1))), ((q_a1 2), .inl (cs 0, 6, .inl (d_a1.2 2))), ((q_a1 4), .inl (cs 0, 3, .inl (d_a1.2 4))), ((q_a1 5), .inl (cs 0, 3, .inl (d_a1.2 5))), oX0 h_a2 q_a2 (d_a2.1), ((q_a2 1), .inl (cs 0, 6, .inl (d_a2.2 1))), ((q_a2 2), .inl (cs 0, 6, .inl (d_a2.2 2))), ((q_a2 3), .inl (cs 0, 6, .inl (d_a2.2 3)))] := hD
            refine lv_iinc (v := ((v.1) + 1)) (lv' := [(4, .int ((v.1) + 1)), (8, .int r43), (7, .int ((d_a2.2 3) (v.1).toNatClampNeg)), (6, .int ((d_a2.2 2) (v.1).toNatClampNeg)), (5, .int ((d_a2.2 1) (v.1).toNatClampNeg)), (0, .ref h_t), (1, .ref h_a1), (2, .ref h_a2), (3, .int x3)]) hx hb dX1_listen_155 hl (k := 8) rfl rfl (by decide) rfl (fun ls hl => ?_)
            refine lv_goto (tgt := 8) hx hb dX1_listen_158 (by decide) ?_
            exact ih _ hf _ _ _ hP hD hS (lv_sub hl [5, 6, 7, 8, 0] rfl)
    · replace hf := g4.1 c3
      refine lv_goto (tgt := 155) hx hb dX1_listen_32 (by decide) ?_
      refine lv_iinc (v := ((v.1) + 1)) (lv' := [(4, .int ((v.1) + 1)), (5, .int ((d_a2.2 1) (v.1).toNatClampNeg)), (0, .ref h_t), (1, .ref h_a1), (2, .ref h_a2), (3, .int x3)]) hx hb dX1_listen_155 hl (k := 5) rfl rfl (by decide) rfl (fun ls hl => ?_)
      refine lv_goto (tgt := 8) hx hb dX1_listen_158 (by decide) ?_
      exact ih _ hf _ _ _ hP hD hS (lv_sub hl [2, 3, 4, 5, 0] rfl)
set_option maxHeartbeats 4000000 in
set_option maxRecDepth 100000 in
theorem mX1_listen (l : Launch) (D : va_G) (cs : Nat → ClassId) (sk : Nat → Nat) (h_t : Nat) (h_a1 : Nat) (h_a2 : Nat) (q_t : Nat → Nat) (q_a1 : Nat → Nat) (q_a2 : Nat → Nat) (k : Nat) (d_t : Dat) (d_a1 : Dat) (d_a2 : Dat) (x3 : Int32) {rv : Dat} (hf : fX1_listen k d_t d_a1 d_a2 x3 = some rv) : CTv l yX1_listen (Cond.code yX1_listen cX1_listen 9 none :: gtbl) rm_X1_listen D cs sk [.ref h_t, .ref h_a1, .ref h_a2, .int x3] [oX1 h_t q_t (d_t.1), ((q_t 1), .inl (cs 0, 12, .inl (d_t.2 1))), ((q_t 2), .inl (cs 0, 12, .inl (d_t.2 2))), ((q_t 3), .inl (cs 0, 12, .inl (d_t.2 3))), oX4 h_a1 q_a1 (d_a1.1), ((q_a1 1), .inl (cs 0, 6, .inl (d_a1.2 1))), ((q_a1 2), .inl (cs 0, 6, .inl (d_a1.2 2))), ((q_a1 4), .inl (cs 0, 3, .inl (d_a1.2 4))), ((q_a1 5), .inl (cs 0, 3, .inl (d_a1.2 5))), oX0 h_a2 q_a2 (d_a2.1), ((q_a2 1), .inl (cs 0, 6, .inl (d_a2.2 1))), ((q_a2 2), .inl (cs 0, 6, .inl (d_a2.2 2))), ((q_a2 3), .inl (cs 0, 6, .inl (d_a2.2 3)))] [oX1 h_t q_t (rv.1), ((q_t 1), .inl (cs 0, 12, .inl (rv.2 1))), ((q_t 2), .inl (cs 0, 12, .inl (rv.2 2))), ((q_t 3), .inl (cs 0, 12, .inl (rv.2 3))), oX4 h_a1 q_a1 (d_a1.1), ((q_a1 1), .inl (cs 0, 6, .inl (d_a1.2 1))), ((q_a1 2), .inl (cs 0, 6, .inl (d_a1.2 2))), ((q_a1 4), .inl (cs 0, 3, .inl (d_a1.2 4))), ((q_a1 5), .inl (cs 0, 3, .inl (d_a1.2 5))), oX0 h_a2 q_a2 (d_a2.1), ((q_a2 1), .inl (cs 0, 6, .inl (d_a2.2 1))), ((q_a2 2), .inl (cs 0, 6, .inl (d_a2.2 2))), ((q_a2 3), .inl (cs 0, 6, .inl (d_a2.2 3)))] := by
  refine CTv.of RX1 (by decide +kernel) rfl (Nat.le_of_ble_eq_true rfl) (fun p e s m args below meth c A Q ls M hA hR hl hP hD hS => ?_)
  obtain ⟨hx, hb, hml, hT, hown, hlk, hrt, hK, hN, hSE⟩ := id M
  replace hl : lv_has ls 9 [(0, .ref h_t), (1, .ref h_a1), (2, .ref h_a2), (3, .int x3)] := hl
  unfold fX1_listen at hf
  refine lv_aload_n hx hb dX1_listen_0 rfl (lv_at hl 0 rfl) ?_
  refine lv_iconst (v := 0) hx hb dX1_listen_1 rfl ?_
  refine va_put (D := D) (ci := 1) (v := .int 0) (ty := tyX1 0) (C := RX1) (T := TX1) (N := 4) hx hb hT iX1 tyX1 tyX1_ok nmX1 hown hK hP hD hS 0 rfl rfl 0 (by decide) (hT _ fw_X1_9) (fun _ h9 => h9) rfl (tyX1_ok 0 (by decide)) rfl rfl (Nat.le_of_ble_eq_true rfl) dX1_listen_2 (fun H locs hP hD hS => ?_)
  replace hP : va_P D vwCl [oX1 h_t q_t (upd d_t.1 0 0), ((q_t 1), .inl (cs 0, 12, .inl (d_t.2 1))), ((q_t 2), .inl (cs 0, 12, .inl (d_t.2 2))), ((q_t 3), .inl (cs 0, 12, .inl (d_t.2 3))), oX4 h_a1 q_a1 (d_a1.1), ((q_a1 1), .inl (cs 0, 6, .inl (d_a1.2 1))), ((q_a1 2), .inl (cs 0, 6, .inl (d_a1.2 2))), ((q_a1 4), .inl (cs 0, 3, .inl (d_a1.2 4))), ((q_a1 5), .inl (cs 0, 3, .inl (d_a1.2 5))), oX0 h_a2 q_a2 (d_a2.1), ((q_a2 1), .inl (cs 0, 6, .inl (d_a2.2 1))), ((q_a2 2), .inl (cs 0, 6, .inl (d_a2.2 2))), ((q_a2 3), .inl (cs 0, 6, .inl (d_a2.2 3)))] H := hP
  replace hD : va_D A [oX1 h_t q_t (upd d_t.1 0 0), ((q_t 1), .inl (cs 0, 12, .inl (d_t.2 1))), ((q_t 2), .inl (cs 0, 12, .inl (d_t.2 2))), ((q_t 3), .inl (cs 0, 12, .inl (d_t.2 3))), oX4 h_a1 q_a1 (d_a1.1), ((q_a1 1), .inl (cs 0, 6, .inl (d_a1.2 1))), ((q_a1 2), .inl (cs 0, 6, .inl (d_a1.2 2))), ((q_a1 4), .inl (cs 0, 3, .inl (d_a1.2 4))), ((q_a1 5), .inl (cs 0, 3, .inl (d_a1.2 5))), oX0 h_a2 q_a2 (d_a2.1), ((q_a2 1), .inl (cs 0, 6, .inl (d_a2.2 1))), ((q_a2 2), .inl (cs 0, 6, .inl (d_a2.2 2))), ((q_a2 3), .inl (cs 0, 6, .inl (d_a2.2 3)))] := hD
  refine lv_iconst (v := 0) hx hb dX1_listen_5 rfl ?_
  refine lv_istore (lv' := [(4, .int 0), (0, .ref h_t), (1, .ref h_a1), (2, .ref h_a2), (3, .int x3)]) hx hb dX1_listen_6 hl (by decide) rfl (fun ls hl => ?_)
  refine mX1_listen_B8 h_t h_a1 h_a2 q_t q_a1 q_a2 k x3 ((upd d_t.1 0 0), d_t.2) d_a1 d_a2 _ M hA hR (fun w1 hf H locs ls hP hD hS hl => ?_) _ _ hf _ _ _ hP hD hS (lv_sub hl [1, 2, 3, 4, 0] rfl)
  · have e9 := Option.some.inj hf
    subst e9
    exact hR _ _ _ _ dX1_listen_161 hP hS
abbrev rm_X1_timeOf : Room := { frames := 1, cells := 0, slots := 0, locals := 21 }
def fX1_timeOf (k : Nat) (d_t : Dat) (d_a1 : Dat) (x2 : Int32) : Option (Int32) :=
  chk 12 x2 ((fX0_lateOf k d_a1 ((d_t.2 1) x2.toNatClampNeg)).bind (fun (r1 : Int32) => chk 12 x2 (some (r1 + ((d_t.2 2) x2.toNatClampNeg)))))
set_option maxHeartbeats 4000000 in
set_option maxRecDepth 100000 in
theorem mX1_timeOf (l : Launch) (D : va_G) (cs : Nat → ClassId) (sk : Nat → Nat) (h_t : Nat) (h_a1 : Nat) (q_t : Nat → Nat) (q_a1 : Nat → Nat) (k : Nat) (d_t : Dat) (d_a1 : Dat) (x2 : Int32) {rv : Int32} (hf : fX1_timeOf k d_t d_a1 x2 = some rv) : CTi l yX1_timeOf (Cond.code yX1_timeOf cX1_timeOf 3 (some .int) :: gtbl) rm_X1_timeOf D cs sk [.ref h_t, .ref h_a1, .int x2] [oX1 h_t q_t (d_t.1), ((q_t 1), .inl (cs 0, 12, .inl (d_t.2 1))), ((q_t 2), .inl (cs 0, 12, .inl (d_t.2 2))), oX0 h_a1 q_a1 (d_a1.1), ((q_a1 1), .inl (cs 0, 6, .inl (d_a1.2 1))), ((q_a1 4), .inl (cs 0, 6, .inl (d_a1.2 4)))] (rv) [oX1 h_t q_t (d_t.1), ((q_t 1), .inl (cs 0, 12, .inl (d_t.2 1))), ((q_t 2), .inl (cs 0, 12, .inl (d_t.2 2))), oX0 h_a1 q_a1 (d_a1.1), ((q_a1 1), .inl (cs 0, 6, .inl (d_a1.2 1))), ((q_a1 4), .inl (cs 0, 6, .inl (d_a1.2 4)))] := by
  refine CTi.of RX1 (by decide +kernel) rfl (Nat.le_of_ble_eq_true rfl) (fun p e s m args below meth c A Q ls M hA hR hl hP hD hS => ?_)
  obtain ⟨hx, hb, hml, hT, hown, hlk, hrt, hK, hN, hSE⟩ := id M
  replace hl : lv_has ls 3 [(0, .ref h_t), (1, .ref h_a1), (2, .int x2)] := hl
  unfold fX1_timeOf at hf
  refine lv_aload_n hx hb dX1_timeOf_0 rfl (lv_at hl 1 rfl) ?_
  refine lv_aload_n hx hb dX1_timeOf_1 rfl (lv_at hl 0 rfl) ?_
  refine va_get (D := D) (ci := 1) (v := .ref (q_t 1)) (C := RX1) (T := TX1) (N := 4) hx hb hT iX1 hown hK hP 0 rfl rfl 1 (by decide) (hT _ fw_X1_15) (fun _ h9 => h9) rfl dX1_timeOf_2 ?_
  refine lv_iload_n hx hb dX1_timeOf_5 rfl (lv_at hl 2 rfl) ?_
  obtain ⟨hi, hf⟩ := chk_some hf
  refine va_iald (D := D) hx hb hK hP 1 0 rfl rfl hi dX1_timeOf_6 ?_
  obtain ⟨r1, e2, hf⟩ := bind_some hf
  refine callVi (As := [.int ((d_t.2 1) x2.toNatClampNeg)]) (rest := []) M (mX0_lateOf l D cs sk h_a1 q_a1 k d_a1 ((d_t.2 1) x2.toNatClampNeg) e2) mw_X1_66 ln_X0_lateOf ⟨rfl, rfl, Nat.le_of_ble_eq_true rfl, Nat.le_of_ble_eq_true rfl⟩ hP hD hS hA [3, 4, 5] (by decide) rfl rfl (q0 := 0) rfl rfl rfl ⟨Nat.zero_le _, Nat.zero_le _⟩ hl.1 rfl (Nat.le_of_ble_eq_true rfl) dX1_timeOf_7 (fun H locs hP hD hS => ?_)
  replace hP : va_P D vwCl [oX1 h_t q_t (d_t.1), ((q_t 1), .inl (cs 0, 12, .inl (d_t.2 1))), ((q_t 2), .inl (cs 0, 12, .inl (d_t.2 2))), oX0 h_a1 q_a1 (d_a1.1), ((q_a1 1), .inl (cs 0, 6, .inl (d_a1.2 1))), ((q_a1 4), .inl (cs 0, 6, .inl (d_a1.2 4)))] H := hP
  replace hD : va_D A [oX1 h_t q_t (d_t.1), ((q_t 1), .inl (cs 0, 12, .inl (d_t.2 1))), ((q_t 2), .inl (cs 0, 12, .inl (d_t.2 2))), oX0 h_a1 q_a1 (d_a1.1), ((q_a1 1), .inl (cs 0, 6, .inl (d_a1.2 1))), ((q_a1 4), .inl (cs 0, 6, .inl (d_a1.2 4)))] := hD
  refine lv_aload_n hx hb dX1_timeOf_10 rfl (lv_at hl 0 rfl) ?_
  refine va_get (D := D) (ci := 1) (v := .ref (q_t 2)) (C := RX1) (T := TX1) (N := 4) hx hb hT iX1 hown hK hP 0 rfl rfl 2 (by decide) (hT _ fw_X1_19) (fun _ h9 => h9) rfl dX1_timeOf_11 ?_
  refine lv_iload_n hx hb dX1_timeOf_14 rfl (lv_at hl 2 rfl) ?_
  obtain ⟨hi, hf⟩ := chk_some hf
  refine va_iald (D := D) hx hb hK hP 2 0 rfl rfl hi dX1_timeOf_15 ?_
  refine lv_iadd hx hb dX1_timeOf_16 ?_
  have e9 := Option.some.inj hf
  subst e9
  exact hR _ _ _ _ dX1_timeOf_17 hP hS
abbrev rm_X1_spreadAt : Room := { frames := 4, cells := 0, slots := 0, locals := 98 }
def fX1_spreadAt_B32 (k : Nat) (d_t : Dat) (d_a2 : Dat) (K74 : Int32 × Int32 → Option (Int32 × Dat)) (rec : Int32 × Int32 × Int32 → Option (Int32 × Dat)) (v : Int32 × Int32 × Int32) : Option (Int32 × Dat) :=
  (if (d_t.1 0) ≤ (v.2.2) then K74 ((v.1), (v.2.1)) else (fX1_timeOf k d_t d_a2 (v.2.2)).bind (fun (r3 : Int32) => rec ((if r3 < (v.1) then r3 else (v.1)), (if (v.2.1) < r3 then r3 else (v.2.1)), ((v.2.2) + 1))))
def fX1_spreadAt (k : Nat) (d_t : Dat) (d_a1 : Dat) (d_a2 : Dat) (x3 : Int32) : Option (Int32 × Dat) :=
  (fX1_listen k d_t d_a1 d_a2 x3).bind (fun (r1 : Dat) => (if 2 ≤ (r1.1 0) then (fX1_timeOf k (r1.1, (va_up (va_up (va_up d_t.2 1 (r1.2 1)) 2 (r1.2 2)) 3 (r1.2 3))) d_a2 0).bind (fun (r5 : Int32) => lp (fX1_spreadAt_B32 k (r1.1, (va_up (va_up (va_up d_t.2 1 (r1.2 1)) 2 (r1.2 2)) 3 (r1.2 3))) d_a2 (fun (w7 : Int32 × Int32) => some (((w7.2) - (w7.1)), (r1.1, (va_up (va_up (va_up d_t.2 1 (r1.2 1)) 2 (r1.2 2)) 3 (r1.2 3)))))) k (r5, r5, 1)) else some (0, (r1.1, (va_up (va_up (va_up d_t.2 1 (r1.2 1)) 2 (r1.2 2)) 3 (r1.2 3))))))
set_option maxHeartbeats 4000000 in
set_option maxRecDepth 100000 in
theorem mX1_spreadAt_B32 {l : Launch} {p : Program} {e : Env} {s : State} {m : MethodId} {args : Array Value} {below : List Frame} {meth : Method} {c : Code} {D : va_G} {cs : Nat → ClassId} {sk : Nat → Nat} {A : Nat → Prop} {Q : State → Prop} (h_t : Nat) (h_a1 : Nat) (h_a2 : Nat) (q_t : Nat → Nat) (q_a1 : Nat → Nat) (q_a2 : Nat → Nat) (k : Nat) (d_t : Dat) (d_a1 : Dat) (d_a2 : Dat) {rv : Int32 × Dat}  (K74 : Int32 × Int32 → Option (Int32 × Dat))
    (M : MC p s m args meth c D cs sk A RX1 cX1_spreadAt 8 (some .int)) (hA : ∀ q, s.heap.size ≤ q → A q) (hR : RetI p l e rm_X1_spreadAt s m args below meth c D cX1_spreadAt A Q (rv.1) [oX1 h_t q_t (rv.2.1), ((q_t 1), .inl (cs 0, 12, .inl (rv.2.2 1))), ((q_t 2), .inl (cs 0, 12, .inl (rv.2.2 2))), ((q_t 3), .inl (cs 0, 12, .inl (rv.2.2 3))), oX4 h_a1 q_a1 (d_a1.1), ((q_a1 1), .inl (cs 0, 6, .inl (d_a1.2 1))), ((q_a1 2), .inl (cs 0, 6, .inl (d_a1.2 2))), ((q_a1 4), .inl (cs 0, 3, .inl (d_a1.2 4))), ((q_a1 5), .inl (cs 0, 3, .inl (d_a1.2 5))), oX0 h_a2 q_a2 (d_a2.1), ((q_a2 1), .inl (cs 0, 6, .inl (d_a2.2 1))), ((q_a2 2), .inl (cs 0, 6, .inl (d_a2.2 2))), ((q_a2 3), .inl (cs 0, 6, .inl (d_a2.2 3))), ((q_a2 4), .inl (cs 0, 6, .inl (d_a2.2 4)))])
    (hK74 : ∀ (w : Int32 × Int32), K74 w = some rv → ∀ (H : Heap) (locs : List Loc) (ls : Array Slot), va_P D vwCl [oX1 h_t q_t (d_t.1), ((q_t 1), .inl (cs 0, 12, .inl (d_t.2 1))), ((q_t 2), .inl (cs 0, 12, .inl (d_t.2 2))), ((q_t 3), .inl (cs 0, 12, .inl (d_t.2 3))), oX4 h_a1 q_a1 (d_a1.1), ((q_a1 1), .inl (cs 0, 6, .inl (d_a1.2 1))), ((q_a1 2), .inl (cs 0, 6, .inl (d_a1.2 2))), ((q_a1 4), .inl (cs 0, 3, .inl (d_a1.2 4))), ((q_a1 5), .inl (cs 0, 3, .inl (d_a1.2 5))), oX0 h_a2 q_a2 (d_a2.1), ((q_a2 1), .inl (cs 0, 6, .inl (d_a2.2 1))), ((q_a2 2), .inl (cs 0, 6, .inl (d_a2.2 2))), ((q_a2 3), .inl (cs 0, 6, .inl (d_a2.2 3))), ((q_a2 4), .inl (cs 0, 6, .inl (d_a2.2 4)))] H → va_D A [oX1 h_t q_t (d_t.1), ((q_t 1), .inl (cs 0, 12, .inl (d_t.2 1))), ((q_t 2), .inl (cs 0, 12, .inl (d_t.2 2))), ((q_t 3), .inl (cs 0, 12, .inl (d_t.2 3))), oX4 h_a1 q_a1 (d_a1.1), ((q_a1 1), .inl (cs 0, 6, .inl (d_a1.2 1))), ((q_a1 2), .inl (cs 0, 6, .inl (d_a1.2 2))), ((q_a1 4), .inl (cs 0, 3, .inl (d_a1.2 4))), ((q_a1 5), .inl (cs 0, 3, .inl (d_a1.2 5))), oX0 h_a2 q_a2 (d_a2.1), ((q_a2 1), .inl (cs 0, 6, .inl (d_a2.2 1))), ((q_a2 2), .inl (cs 0, 6, .inl (d_a2.2 2))), ((q_a2 3), .inl (cs 0, 6, .inl (d_a2.2 3))), ((q_a2 4), .inl (cs 0, 6, .inl (d_a2.2 4)))] → va_S A s.heap H locs → lv_has ls 8 [(4, .int (w.1)), (5, .int (w.2))] → W p l e rm_X1_spreadAt s m args below meth c H locs 0 0 Q (F0 m 74 ls []))
    : ∀ (n : Nat) (v : Int32 × Int32 × Int32), lp (fX1_spreadAt_B32 k d_t d_a2 K74) n v = some rv → ∀ (H : Heap) (locs : List Loc) (ls : Array Slot), va_P D vwCl [oX1 h_t q_t (d_t.1), ((q_t 1), .inl (cs 0, 12, .inl (d_t.2 1))), ((q_t 2), .inl (cs 0, 12, .inl (d_t.2 2))), ((q_t 3), .inl (cs 0, 12, .inl (d_t.2 3))), oX4 h_a1 q_a1 (d_a1.1), ((q_a1 1), .inl (cs 0, 6, .inl (d_a1.2 1))), ((q_a1 2), .inl (cs 0, 6, .inl (d_a1.2 2))), ((q_a1 4), .inl (cs 0, 3, .inl (d_a1.2 4))), ((q_a1 5), .inl (cs 0, 3, .inl (d_a1.2 5))), oX0 h_a2 q_a2 (d_a2.1), ((q_a2 1), .inl (cs 0, 6, .inl (d_a2.2 1))), ((q_a2 2), .inl (cs 0, 6, .inl (d_a2.2 2))), ((q_a2 3), .inl (cs 0, 6, .inl (d_a2.2 3))), ((q_a2 4), .inl (cs 0, 6, .inl (d_a2.2 4)))] H → va_D A [oX1 h_t q_t (d_t.1), ((q_t 1), .inl (cs 0, 12, .inl (d_t.2 1))), ((q_t 2), .inl (cs 0, 12, .inl (d_t.2 2))), ((q_t 3), .inl (cs 0, 12, .inl (d_t.2 3))), oX4 h_a1 q_a1 (d_a1.1), ((q_a1 1), .inl (cs 0, 6, .inl (d_a1.2 1))), ((q_a1 2), .inl (cs 0, 6, .inl (d_a1.2 2))), ((q_a1 4), .inl (cs 0, 3, .inl (d_a1.2 4))), ((q_a1 5), .inl (cs 0, 3, .inl (d_a1.2 5))), oX0 h_a2 q_a2 (d_a2.1), ((q_a2 1), .inl (cs 0, 6, .inl (d_a2.2 1))), ((q_a2 2), .inl (cs 0, 6, .inl (d_a2.2 2))), ((q_a2 3), .inl (cs 0, 6, .inl (d_a2.2 3))), ((q_a2 4), .inl (cs 0, 6, .inl (d_a2.2 4)))] → va_S A s.heap H locs → lv_has ls 8 [(0, .ref h_t), (2, .ref h_a2), (4, .int (v.1)), (5, .int (v.2.1)), (6, .int (v.2.2))] → W p l e rm_X1_spreadAt s m args below meth c H locs 0 0 Q (F0 m 32 ls []) := by
  obtain ⟨hx, hb, hml, hT, hown, hlk, hrt, hK, hN, hSE⟩ := id M
  refine lp_ind (fun rec ih v hf H locs ls hP hD hS hl => ?_)
  unfold fX1_spreadAt_B32 at hf
  refine lv_iload hx hb dX1_spreadAt_32 (lv_at hl 4 rfl) ?_
  refine lv_aload_n hx hb dX1_spreadAt_34 rfl (lv_at hl 0 rfl) ?_
  refine va_get (D := D) (ci := 1) (v := .int (d_t.1 0)) (C := RX1) (T := TX1) (N := 4) hx hb hT iX1 hown hK hP 0 rfl rfl 0 (by decide) (hT _ fw_X1_9) (fun _ h9 => h9) rfl dX1_spreadAt_35 ?_
  have g2 := ite_some hf
  refine lv_icmp_ge (tgt := 74) hx hb dX1_spreadAt_38 (by decide) (fun c1 => ?_) (fun c1 => ?_)
  · replace hf := g2.1 c1
    exact hK74 _ hf _ _ _ hP hD hS (lv_sub hl [2, 3] rfl)
  · replace hf := g2.2 c1
    refine lv_aload_n hx hb dX1_spreadAt_41 rfl (lv_at hl 0 rfl) ?_
    refine lv_aload_n hx hb dX1_spreadAt_42 rfl (lv_at hl 1 rfl) ?_
    refine lv_iload hx hb dX1_spreadAt_43 (lv_at hl 4 rfl) ?_
    obtain ⟨r3, e4, hf⟩ := bind_some hf
    refine callVi (As := [.ref h_a2, .int (v.2.2)]) (rest := []) M (mX1_timeOf l D cs sk h_t h_a2 q_t q_a2 k d_t d_a2 (v.2.2) e4) mw_X1_73 ln_X1_timeOf ⟨rfl, rfl, Nat.le_of_ble_eq_true rfl, Nat.le_of_ble_eq_true rfl⟩ hP hD hS hA [0, 1, 2, 9, 10, 13] (by decide) rfl rfl (q0 := 0) rfl rfl rfl ⟨Nat.zero_le _, Nat.zero_le _⟩ hl.1 rfl (Nat.le_of_ble_eq_true rfl) dX1_spreadAt_45 (fun H locs hP hD hS => ?_)
    replace hP : va_P D vwCl [oX1 h_t q_t (d_t.1), ((q_t 1), .inl (cs 0, 12, .inl (d_t.2 1))), ((q_t 2), .inl (cs 0, 12, .inl (d_t.2 2))), ((q_t 3), .inl (cs 0, 12, .inl (d_t.2 3))), oX4 h_a1 q_a1 (d_a1.1), ((q_a1 1), .inl (cs 0, 6, .inl (d_a1.2 1))), ((q_a1 2), .inl (cs 0, 6, .inl (d_a1.2 2))), ((q_a1 4), .inl (cs 0, 3, .inl (d_a1.2 4))), ((q_a1 5), .inl (cs 0, 3, .inl (d_a1.2 5))), oX0 h_a2 q_a2 (d_a2.1), ((q_a2 1), .inl (cs 0, 6, .inl (d_a2.2 1))), ((q_a2 2), .inl (cs 0, 6, .inl (d_a2.2 2))), ((q_a2 3), .inl (cs 0, 6, .inl (d_a2.2 3))), ((q_a2 4), .inl (cs 0, 6, .inl (d_a2.2 4)))] H := hP
    replace hD : va_D A [oX1 h_t q_t (d_t.1), ((q_t 1), .inl (cs 0, 12, .inl (d_t.2 1))), ((q_t 2), .inl (cs 0, 12, .inl (d_t.2 2))), ((q_t 3), .inl (cs 0, 12, .inl (d_t.2 3))), oX4 h_a1 q_a1 (d_a1.1), ((q_a1 1), .inl (cs 0, 6, .inl (d_a1.2 1))), ((q_a1 2), .inl (cs 0, 6, .inl (d_a1.2 2))), ((q_a1 4), .inl (cs 0, 3, .inl (d_a1.2 4))), ((q_a1 5), .inl (cs 0, 3, .inl (d_a1.2 5))), oX0 h_a2 q_a2 (d_a2.1), ((q_a2 1), .inl (cs 0, 6, .inl (d_a2.2 1))), ((q_a2 2), .inl (cs 0, 6, .inl (d_a2.2 2))), ((q_a2 3), .inl (cs 0, 6, .inl (d_a2.2 3))), ((q_a2 4), .inl (cs 0, 6, .inl (d_a2.2 4)))] := hD
    refine lv_istore (lv' := [(7, .int r3), (0, .ref h_t), (2, .ref h_a2), (4, .int (v.1)), (5, .int (v.2.1)), (6, .int (v.2.2))]) hx hb dX1_spreadAt_48 hl (by decide) rfl (fun ls hl => ?_)
    refine lv_iload hx hb dX1_spreadAt_50 (lv_at hl 3 rfl) ?_
    refine lv_iload hx hb dX1_spreadAt_52 (lv_at hl 0 rfl) ?_
    refine va_mmin hx hb (hml.trans hl.1.symm) hown (hT _ jw_X1_77.1) (hT _ jw_X1_77.2.1) (hT _ jw_X1_77.2.2.1) (hT _ jw_X1_77.2.2.2) (Nat.le_of_ble_eq_true rfl) (Nat.le_of_ble_eq_true rfl) (Nat.zero_le _) (Nat.zero_le _) dX1_spreadAt_54 ?_
    refine lv_istore (lv' := [(4, .int (if r3 < (v.1) then r3 else (v.1))), (7, .int r3), (0, .ref h_t), (2, .ref h_a2), (5, .int (v.2.1)), (6, .int (v.2.2))]) hx hb dX1_spreadAt_57 hl (by decide) rfl (fun ls hl => ?_)
    refine lv_iload hx hb dX1_spreadAt_59 (lv_at hl 4 rfl) ?_
    refine lv_iload hx hb dX1_spreadAt_61 (lv_at hl 1 rfl) ?_
    refine va_mmax hx hb (hml.trans hl.1.symm) hown (hT _ jw_X1_82.1) (hT _ jw_X1_82.2.1) (hT _ jw_X1_82.2.2.1) (hT _ jw_X1_82.2.2.2) (Nat.le_of_ble_eq_true rfl) (Nat.le_of_ble_eq_true rfl) (Nat.zero_le _) (Nat.zero_le _) dX1_spreadAt_63 ?_
    refine lv_istore (lv' := [(5, .int (if (v.2.1) < r3 then r3 else (v.2.1))), (4, .int (if r3 < (v.1) then r3 else (v.1))), (7, .int r3), (0, .ref h_t), (2, .ref h_a2), (6, .int (v.2.2))]) hx hb dX1_spreadAt_66 hl (by decide) rfl (fun ls hl => ?_)
    refine lv_iinc (v := ((v.2.2) + 1)) (lv' := [(6, .int ((v.2.2) + 1)), (5, .int (if (v.2.1) < r3 then r3 else (v.2.1))), (4, .int (if r3 < (v.1) then r3 else (v.1))), (7, .int r3), (0, .ref h_t), (2, .ref h_a2)]) hx hb dX1_spreadAt_68 hl (k := 5) rfl rfl (by decide) rfl (fun ls hl => ?_)
    refine lv_goto (tgt := 32) hx hb dX1_spreadAt_71 (by decide) ?_
    exact ih _ hf _ _ _ hP hD hS (lv_sub hl [4, 5, 2, 1, 0] rfl)
set_option maxHeartbeats 4000000 in
set_option maxRecDepth 100000 in
theorem mX1_spreadAt (l : Launch) (D : va_G) (cs : Nat → ClassId) (sk : Nat → Nat) (h_t : Nat) (h_a1 : Nat) (h_a2 : Nat) (q_t : Nat → Nat) (q_a1 : Nat → Nat) (q_a2 : Nat → Nat) (k : Nat) (d_t : Dat) (d_a1 : Dat) (d_a2 : Dat) (x3 : Int32) {rv : Int32 × Dat} (hf : fX1_spreadAt k d_t d_a1 d_a2 x3 = some rv) : CTi l yX1_spreadAt (Cond.code yX1_spreadAt cX1_spreadAt 8 (some .int) :: gtbl) rm_X1_spreadAt D cs sk [.ref h_t, .ref h_a1, .ref h_a2, .int x3] [oX1 h_t q_t (d_t.1), ((q_t 1), .inl (cs 0, 12, .inl (d_t.2 1))), ((q_t 2), .inl (cs 0, 12, .inl (d_t.2 2))), ((q_t 3), .inl (cs 0, 12, .inl (d_t.2 3))), oX4 h_a1 q_a1 (d_a1.1), ((q_a1 1), .inl (cs 0, 6, .inl (d_a1.2 1))), ((q_a1 2), .inl (cs 0, 6, .inl (d_a1.2 2))), ((q_a1 4), .inl (cs 0, 3, .inl (d_a1.2 4))), ((q_a1 5), .inl (cs 0, 3, .inl (d_a1.2 5))), oX0 h_a2 q_a2 (d_a2.1), ((q_a2 1), .inl (cs 0, 6, .inl (d_a2.2 1))), ((q_a2 2), .inl (cs 0, 6, .inl (d_a2.2 2))), ((q_a2 3), .inl (cs 0, 6, .inl (d_a2.2 3))), ((q_a2 4), .inl (cs 0, 6, .inl (d_a2.2 4)))] (rv.1) [oX1 h_t q_t (rv.2.1), ((q_t 1), .inl (cs 0, 12, .inl (rv.2.2 1))), ((q_t 2), .inl (cs 0, 12, .inl (rv.2.2 2))), ((q_t 3), .inl (cs 0, 12, .inl (rv.2.2 3))), oX4 h_a1 q_a1 (d_a1.1), ((q_a1 1), .inl (cs 0, 6, .inl (d_a1.2 1))), ((q_a1 2), .inl (cs 0, 6, .inl (d_a1.2 2))), ((q_a1 4), .inl (cs 0, 3, .inl (d_a1.2 4))), ((q_a1 5), .inl (cs 0, 3, .inl (d_a1.2 5))), oX0 h_a2 q_a2 (d_a2.1), ((q_a2 1), .inl (cs 0, 6, .inl (d_a2.2 1))), ((q_a2 2), .inl (cs 0, 6, .inl (d_a2.2 2))), ((q_a2 3), .inl (cs 0, 6, .inl (d_a2.2 3))), ((q_a2 4), .inl (cs 0, 6, .inl (d_a2.2 4)))] := by
  refine CTi.of RX1 (by decide +kernel) rfl (Nat.le_of_ble_eq_true rfl) (fun p e s m args below meth c A Q ls M hA hR hl hP hD hS => ?_)
  obtain ⟨hx, hb, hml, hT, hown, hlk, hrt, hK, hN, hSE⟩ := id M
  replace hl : lv_has ls 8 [(0, .ref h_t), (1, .ref h_a1), (2, .ref h_a2), (3, .int x3)] := hl
  unfold fX1_spreadAt at hf
  refine lv_aload_n hx hb dX1_spreadAt_0 rfl (lv_at hl 0 rfl) ?_
  refine lv_aload_n hx hb dX1_spreadAt_1 rfl (lv_at hl 1 rfl) ?_
  refine lv_aload_n hx hb dX1_spreadAt_2 rfl (lv_at hl 2 rfl) ?_
  refine lv_iload_n hx hb dX1_spreadAt_3 rfl (lv_at hl 3 rfl) ?_
  obtain ⟨r1, e2, hf⟩ := bind_some hf
  refine callVv (As := [.ref h_a1, .ref h_a2, .int x3]) (rest := []) M (mX1_listen l D cs sk h_t h_a1 h_a2 q_t q_a1 q_a2 k d_t d_a1 d_a2 x3 e2) mw_X1_69 ln_X1_listen ⟨rfl, rfl, Nat.le_of_ble_eq_true rfl, Nat.le_of_ble_eq_true rfl⟩ hP hD hS hA [0, 1, 2, 3, 4, 5, 6, 7, 8, 9, 10, 11, 12] (by decide) rfl rfl (q0 := 0) rfl rfl rfl ⟨Nat.zero_le _, Nat.zero_le _⟩ hl.1 rfl (Nat.le_of_ble_eq_true rfl) dX1_spreadAt_4 (fun H locs hP hD hS => ?_)
  replace hP : va_P D vwCl [oX1 h_t q_t (r1.1), ((q_t 1), .inl (cs 0, 12, .inl (r1.2 1))), ((q_t 2), .inl (cs 0, 12, .inl (r1.2 2))), ((q_t 3), .inl (cs 0, 12, .inl (r1.2 3))), oX4 h_a1 q_a1 (d_a1.1), ((q_a1 1), .inl (cs 0, 6, .inl (d_a1.2 1))), ((q_a1 2), .inl (cs 0, 6, .inl (d_a1.2 2))), ((q_a1 4), .inl (cs 0, 3, .inl (d_a1.2 4))), ((q_a1 5), .inl (cs 0, 3, .inl (d_a1.2 5))), oX0 h_a2 q_a2 (d_a2.1), ((q_a2 1), .inl (cs 0, 6, .inl (d_a2.2 1))), ((q_a2 2), .inl (cs 0, 6, .inl (d_a2.2 2))), ((q_a2 3), .inl (cs 0, 6, .inl (d_a2.2 3))), ((q_a2 4), .inl (cs 0, 6, .inl (d_a2.2 4)))] H := hP
  replace hD : va_D A [oX1 h_t q_t (r1.1), ((q_t 1), .inl (cs 0, 12, .inl (r1.2 1))), ((q_t 2), .inl (cs 0, 12, .inl (r1.2 2))), ((q_t 3), .inl (cs 0, 12, .inl (r1.2 3))), oX4 h_a1 q_a1 (d_a1.1), ((q_a1 1), .inl (cs 0, 6, .inl (d_a1.2 1))), ((q_a1 2), .inl (cs 0, 6, .inl (d_a1.2 2))), ((q_a1 4), .inl (cs 0, 3, .inl (d_a1.2 4))), ((q_a1 5), .inl (cs 0, 3, .inl (d_a1.2 5))), oX0 h_a2 q_a2 (d_a2.1), ((q_a2 1), .inl (cs 0, 6, .inl (d_a2.2 1))), ((q_a2 2), .inl (cs 0, 6, .inl (d_a2.2 2))), ((q_a2 3), .inl (cs 0, 6, .inl (d_a2.2 3))), ((q_a2 4), .inl (cs 0, 6, .inl (d_a2.2 4)))] := hD
  refine lv_aload_n hx hb dX1_spreadAt_7 rfl (lv_at hl 0 rfl) ?_
  refine va_get (D := D) (ci := 1) (v := .int (r1.1 0)) (C := RX1) (T := TX1) (N := 4) hx hb hT iX1 hown hK hP 0 rfl rfl 0 (by decide) (hT _ fw_X1_9) (fun _ h9 => h9) rfl dX1_spreadAt_8 ?_
  refine lv_iconst (v := 2) hx hb dX1_spreadAt_11 rfl ?_
  have g4 := ite_some hf
  refine lv_icmp_ge (tgt := 17) hx hb dX1_spreadAt_12 (by decide) (fun c3 => ?_) (fun c3 => ?_)
  · replace hf := g4.1 c3
    refine lv_aload_n hx hb dX1_spreadAt_17 rfl (lv_at hl 0 rfl) ?_
    refine lv_aload_n hx hb dX1_spreadAt_18 rfl (lv_at hl 2 rfl) ?_
    refine lv_iconst (v := 0) hx hb dX1_spreadAt_19 rfl ?_
    obtain ⟨r5, e6, hf⟩ := bind_some hf
    refine callVi (As := [.ref h_a2, .int 0]) (rest := []) M (mX1_timeOf l D cs sk h_t h_a2 q_t q_a2 k (r1.1, (va_up (va_up (va_up d_t.2 1 (r1.2 1)) 2 (r1.2 2)) 3 (r1.2 3))) d_a2 0 e6) mw_X1_73 ln_X1_timeOf ⟨rfl, rfl, Nat.le_of_ble_eq_true rfl, Nat.le_of_ble_eq_true rfl⟩ hP hD hS hA [0, 1, 2, 9, 10, 13] (by decide) rfl rfl (q0 := 0) rfl rfl rfl ⟨Nat.zero_le _, Nat.zero_le _⟩ hl.1 rfl (Nat.le_of_ble_eq_true rfl) dX1_spreadAt_20 (fun H locs hP hD hS => ?_)
    replace hP : va_P D vwCl [oX1 h_t q_t (r1.1), ((q_t 1), .inl (cs 0, 12, .inl (r1.2 1))), ((q_t 2), .inl (cs 0, 12, .inl (r1.2 2))), ((q_t 3), .inl (cs 0, 12, .inl (r1.2 3))), oX4 h_a1 q_a1 (d_a1.1), ((q_a1 1), .inl (cs 0, 6, .inl (d_a1.2 1))), ((q_a1 2), .inl (cs 0, 6, .inl (d_a1.2 2))), ((q_a1 4), .inl (cs 0, 3, .inl (d_a1.2 4))), ((q_a1 5), .inl (cs 0, 3, .inl (d_a1.2 5))), oX0 h_a2 q_a2 (d_a2.1), ((q_a2 1), .inl (cs 0, 6, .inl (d_a2.2 1))), ((q_a2 2), .inl (cs 0, 6, .inl (d_a2.2 2))), ((q_a2 3), .inl (cs 0, 6, .inl (d_a2.2 3))), ((q_a2 4), .inl (cs 0, 6, .inl (d_a2.2 4)))] H := hP
    replace hD : va_D A [oX1 h_t q_t (r1.1), ((q_t 1), .inl (cs 0, 12, .inl (r1.2 1))), ((q_t 2), .inl (cs 0, 12, .inl (r1.2 2))), ((q_t 3), .inl (cs 0, 12, .inl (r1.2 3))), oX4 h_a1 q_a1 (d_a1.1), ((q_a1 1), .inl (cs 0, 6, .inl (d_a1.2 1))), ((q_a1 2), .inl (cs 0, 6, .inl (d_a1.2 2))), ((q_a1 4), .inl (cs 0, 3, .inl (d_a1.2 4))), ((q_a1 5), .inl (cs 0, 3, .inl (d_a1.2 5))), oX0 h_a2 q_a2 (d_a2.1), ((q_a2 1), .inl (cs 0, 6, .inl (d_a2.2 1))), ((q_a2 2), .inl (cs 0, 6, .inl (d_a2.2 2))), ((q_a2 3), .inl (cs 0, 6, .inl (d_a2.2 3))), ((q_a2 4), .inl (cs 0, 6, .inl (d_a2.2 4)))] := hD
    refine lv_istore (lv' := [(4, .int r5), (0, .ref h_t), (1, .ref h_a1), (2, .ref h_a2), (3, .int x3)]) hx hb dX1_spreadAt_23 hl (by decide) rfl (fun ls hl => ?_)
    refine lv_iload hx hb dX1_spreadAt_25 (lv_at hl 0 rfl) ?_
    refine lv_istore (lv' := [(5, .int r5), (4, .int r5), (0, .ref h_t), (1, .ref h_a1), (2, .ref h_a2), (3, .int x3)]) hx hb dX1_spreadAt_27 hl (by decide) rfl (fun ls hl => ?_)
    refine lv_iconst (v := 1) hx hb dX1_spreadAt_29 rfl ?_
    refine lv_istore (lv' := [(6, .int 1), (5, .int r5), (4, .int r5), (0, .ref h_t), (1, .ref h_a1), (2, .ref h_a2), (3, .int x3)]) hx hb dX1_spreadAt_30 hl (by decide) rfl (fun ls hl => ?_)
    refine mX1_spreadAt_B32 h_t h_a1 h_a2 q_t q_a1 q_a2 k (r1.1, (va_up (va_up (va_up d_t.2 1 (r1.2 1)) 2 (r1.2 2)) 3 (r1.2 3))) d_a1 d_a2 _ M hA hR (fun w7 hf H locs ls hP hD hS hl => ?_) _ _ hf _ _ _ hP hD hS (lv_sub hl [3, 5, 2, 1, 0] rfl)
    · refine lv_iload hx hb dX1_spreadAt_74 (lv_at hl 1 rfl) ?_
      refine lv_iload hx hb dX1_spreadAt_76 (lv_at hl 0 rfl) ?_
      refine lv_isub hx hb dX1_spreadAt_78 ?_
      have e9 := Option.some.inj hf
      subst e9
      exact hR _ _ _ _ dX1_spreadAt_79 hP hS
  · replace hf := g4.2 c3
    refine lv_iconst (v := 0) hx hb dX1_spreadAt_15 rfl ?_
    have e9 := Option.some.inj hf
    subst e9
    exact hR _ _ _ _ dX1_spreadAt_16 hP hS
