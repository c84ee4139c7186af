abbrev rm_X6_refuseBad : Room := { frames := 0, cells := 0, slots := 0, locals := 0 }
def fX6_refuseBad (k : Nat) (d_t : Dat) (x1 : Int32) : Option (Int32 × Dat) :=
  some (x1, ((upd d_t.1 15 ((d_t.1 15) + 1)), d_t.2))
set_option maxHeartbeats 4000000 in
set_option maxRecDepth 100000 in
theorem mX6_refuseBad (l : Launch) (D : va_G) (cs : Nat → ClassId) (sk : Nat → Nat) (h_t : Nat) (q_t : Nat → Nat) (k : Nat) (d_t : Dat) (x1 : Int32) {rv : Int32 × Dat} (hf : fX6_refuseBad k d_t x1 = some rv) : CTi l yX6_refuseBad (Cond.code yX6_refuseBad cX6_refuseBad 2 (some .int) :: gtbl) rm_X6_refuseBad D cs sk [.ref h_t, .int x1] [oX6 h_t q_t (d_t.1)] (rv.1) [oX6 h_t q_t (rv.2.1)] := by
  refine CTi.of RX6 (by decide +kernel) rfl (Nat.le_of_ble_eq_true rfl) (fun p e s m args below meth c A Q ls M hA hR hl hP hD hS => ?_)
  obtain ⟨hx, hb, hml, hT, hown, hlk, hrt, hK, hN, hSE⟩ := id M
  replace hl : lv_has ls 2 [(0, .ref h_t), (1, .int x1)] := hl
  unfold fX6_refuseBad at hf
  refine lv_aload_n hx hb dX6_refuseBad_0 rfl (lv_at hl 0 rfl) ?_
  refine lv_dup hx hb dX6_refuseBad_1 rfl ?_
  refine va_get (D := D) (ci := 6) (v := .int (d_t.1 15)) (C := RX6) (T := TX6) (N := 18) hx hb hT iX6 hown hK hP 0 rfl rfl 15 (by decide) (hT _ fw_X6_83) (fun _ h9 => h9) rfl dX6_refuseBad_2 ?_
  refine lv_iconst (v := 1) hx hb dX6_refuseBad_5 rfl ?_
  refine lv_iadd hx hb dX6_refuseBad_6 ?_
  refine va_put (D := D) (ci := 6) (v := .int ((d_t.1 15) + 1)) (ty := tyX6 15) (C := RX6) (T := TX6) (N := 18) hx hb hT iX6 tyX6 tyX6_ok nmX6 hown hK hP hD hS 0 rfl rfl 15 (by decide) (hT _ fw_X6_83) (fun _ h9 => h9) rfl (tyX6_ok 15 (by decide)) rfl rfl (Nat.le_of_ble_eq_true rfl) dX6_refuseBad_7 (fun H locs hP hD hS => ?_)
  replace hP : va_P D vwCl [oX6 h_t q_t (upd d_t.1 15 ((d_t.1 15) + 1))] H := hP
  replace hD : va_D A [oX6 h_t q_t (upd d_t.1 15 ((d_t.1 15) + 1))] := hD
  refine lv_iload_n hx hb dX6_refuseBad_10 rfl (lv_at hl 1 rfl) ?_
  have e9 := Option.some.inj hf
  subst e9
  exact hR _ _ _ _ dX6_refuseBad_11 hP hS
abbrev rm_X6_refuseFull : Room := { frames := 0, cells := 0, slots := 0, locals := 0 }
def fX6_refuseFull (k : Nat) (d_t : Dat) : Option (Int32 × Dat) :=
  some ((-4), ((upd d_t.1 17 ((d_t.1 17) + 1)), d_t.2))
set_option maxHeartbeats 4000000 in
set_option maxRecDepth 100000 in
theorem mX6_refuseFull (l : Launch) (D : va_G) (cs : Nat → ClassId) (sk : Nat → Nat) (h_t : Nat) (q_t : Nat → Nat) (k : Nat) (d_t : Dat) {rv : Int32 × Dat} (hf : fX6_refuseFull k d_t = some rv) : CTi l yX6_refuseFull (Cond.code yX6_refuseFull cX6_refuseFull 1 (some .int) :: gtbl) rm_X6_refuseFull D cs sk [.ref h_t] [oX6 h_t q_t (d_t.1)] (rv.1) [oX6 h_t q_t (rv.2.1)] := by
  refine CTi.of RX6 (by decide +kernel) rfl (Nat.le_of_ble_eq_true rfl) (fun p e s m args below meth c A Q ls M hA hR hl hP hD hS => ?_)
  obtain ⟨hx, hb, hml, hT, hown, hlk, hrt, hK, hN, hSE⟩ := id M
  replace hl : lv_has ls 1 [(0, .ref h_t)] := hl
  unfold fX6_refuseFull at hf
  refine lv_aload_n hx hb dX6_refuseFull_0 rfl (lv_at hl 0 rfl) ?_
  refine lv_dup hx hb dX6_refuseFull_1 rfl ?_
  refine va_get (D := D) (ci := 6) (v := .int (d_t.1 17)) (C := RX6) (T := TX6) (N := 18) hx hb hT iX6 hown hK hP 0 rfl rfl 17 (by decide) (hT _ fw_X6_89) (fun _ h9 => h9) rfl dX6_refuseFull_2 ?_
  refine lv_iconst (v := 1) hx hb dX6_refuseFull_5 rfl ?_
  refine lv_iadd hx hb dX6_refuseFull_6 ?_
  refine va_put (D := D) (ci := 6) (v := .int ((d_t.1 17) + 1)) (ty := tyX6 17) (C := RX6) (T := TX6) (N := 18) hx hb hT iX6 tyX6 tyX6_ok nmX6 hown hK hP hD hS 0 rfl rfl 17 (by decide) (hT _ fw_X6_89) (fun _ h9 => h9) rfl (tyX6_ok 17 (by decide)) rfl rfl (Nat.le_of_ble_eq_true rfl) dX6_refuseFull_7 (fun H locs hP hD hS => ?_)
  replace hP : va_P D vwCl [oX6 h_t q_t (upd d_t.1 17 ((d_t.1 17) + 1))] H := hP
  replace hD : va_D A [oX6 h_t q_t (upd d_t.1 17 ((d_t.1 17) + 1))] := hD
  refine lv_bipush (v := (-4)) hx hb dX6_refuseFull_10 rfl ?_
  have e9 := Option.some.inj hf
  subst e9
  exact hR _ _ _ _ dX6_refuseFull_12 hP hS
abbrev rm_X6_window : Room := { frames := 2, cells := 0, slots := 0, locals := 43 }
def fX6_window (k : Nat) (d_t : Dat) (d_t_0 : Dat) (x1 : Int32) (x2 : Int32) : Option (Int32 × Dat × Dat) :=
  (fX6_isPlace k x1 x2).bind (fun (r1 : Int32) => (if r1 = 0 then (fX6_refuseBad k d_t (-2)).bind (fun (r11 : Int32 × Dat) => some ((r11.1), (r11.2.1, d_t.2), d_t_0)) else (if (d_t_0.1 0) < 6 then (fX4_addWindow k d_t_0 x1 x2).bind (fun (r7 : Int32 × Dat) => some ((r7.1), d_t, (r7.2.1, (va_up (va_up d_t_0.2 1 (r7.2.2 1)) 2 (r7.2.2 2))))) else (fX6_refuseFull k d_t).bind (fun (r9 : Int32 × Dat) => some ((r9.1), (r9.2.1, d_t.2), d_t_0)))))
set_option maxHeartbeats 4000000 in
set_option maxRecDepth 100000 in
theorem mX6_window (l : Launch) (D : va_G) (cs : Nat → ClassId) (sk : Nat → Nat) (h_t : Nat) (q_t : Nat → Nat) (q_t_0 : Nat → Nat) (k : Nat) (d_t : Dat) (d_t_0 : Dat) (x1 : Int32) (x2 : Int32) {rv : Int32 × Dat × Dat} (hf : fX6_window k d_t d_t_0 x1 x2 = some rv) : CTi l yX6_window (Cond.code yX6_window cX6_window 3 (some .int) :: gtbl) rm_X6_window D cs sk [.ref h_t, .int x1, .int x2] [oX6 h_t q_t (d_t.1), oX4 (q_t 0) q_t_0 (d_t_0.1), ((q_t_0 1), .inl (cs 0, 6, .inl (d_t_0.2 1))), ((q_t_0 2), .inl (cs 0, 6, .inl (d_t_0.2 2)))] (rv.1) [oX6 h_t q_t (rv.2.1.1), oX4 (q_t 0) q_t_0 (rv.2.2.1), ((q_t_0 1), .inl (cs 0, 6, .inl (rv.2.2.2 1))), ((q_t_0 2), .inl (cs 0, 6, .inl (rv.2.2.2 2)))] := by
  refine CTi.of RX6 (by decide +kernel) rfl (Nat.le_of_ble_eq_true rfl) (fun p e s m args below meth c A Q ls M hA hR hl hP hD hS => ?_)
  obtain ⟨hx, hb, hml, hT, hown, hlk, hrt, hK, hN, hSE⟩ := id M
  replace hl : lv_has ls 3 [(0, .ref h_t), (1, .int x1), (2, .int x2)] := hl
  unfold fX6_window at hf
  refine lv_iload_n hx hb dX6_window_0 rfl (lv_at hl 1 rfl) ?_
  refine lv_iload_n hx hb dX6_window_1 rfl (lv_at hl 2 rfl) ?_
  obtain ⟨r1, e2, hf⟩ := bind_some hf
  refine callSi (As := [.int x1, .int x2]) (rest := []) M (mX6_isPlace l D cs sk  k x1 x2 e2) mw_X6_92 ln_X6_isPlace ⟨rfl, rfl, Nat.le_of_ble_eq_true rfl, Nat.le_of_ble_eq_true rfl⟩ hP hD hS hA [] (by decide) rfl rfl ⟨Nat.zero_le _, Nat.zero_le _⟩ hl.1 rfl (Nat.le_of_ble_eq_true rfl) dX6_window_2 (fun H locs hP hD hS => ?_)
  replace hP : va_P D vwCl [oX6 h_t q_t (d_t.1), oX4 (q_t 0) q_t_0 (d_t_0.1), ((q_t_0 1), .inl (cs 0, 6, .inl (d_t_0.2 1))), ((q_t_0 2), .inl (cs 0, 6, .inl (d_t_0.2 2)))] H := hP
  replace hD : va_D A [oX6 h_t q_t (d_t.1), oX4 (q_t 0) q_t_0 (d_t_0.1), ((q_t_0 1), .inl (cs 0, 6, .inl (d_t_0.2 1))), ((q_t_0 2), .inl (cs 0, 6, .inl (d_t_0.2 2)))] := hD
  have g4 := ite_some hf
  refine lv_if_ne (tgt := 15) hx hb dX6_window_5 (by decide) (fun c3 => ?_) (fun c3 => ?_)
  · replace hf := g4.2 c3
    refine lv_aload_n hx hb dX6_window_15 rfl (lv_at hl 0 rfl) ?_
    refine va_get (D := D) (ci := 6) (v := .ref (q_t 0)) (C := RX6) (T := TX6) (N := 18) hx hb hT iX6 hown hK hP 0 rfl rfl 0 (by decide) (hT _ fw_X6_10) (fun _ h9 => h9) rfl dX6_window_16 ?_
    refine va_get (D := D) (ci := 4) (v := .int (d_t_0.1 0)) (C := RX4) (T := TX4) (N := 11) hx hb hT iX4 hown hK hP 1 rfl rfl 0 (by decide) (hT _ fw_X6_100) (fun _ h9 => h9) rfl dX6_window_19 ?_
    refine lv_bipush (v := 6) hx hb dX6_window_22 rfl ?_
    have g6 := ite_some hf
    refine lv_icmp_lt (tgt := 32) hx hb dX6_window_24 (by decide) (fun c5 => ?_) (fun c5 => ?_)
    · replace hf := g6.1 c5
      refine lv_aload_n hx hb dX6_window_32 rfl (lv_at hl 0 rfl) ?_
      refine va_get (D := D) (ci := 6) (v := .ref (q_t 0)) (C := RX6) (T := TX6) (N := 18) hx hb hT iX6 hown hK hP 0 rfl rfl 0 (by decide) (hT _ fw_X6_10) (fun _ h9 => h9) rfl dX6_window_33 ?_
      refine lv_iload_n hx hb dX6_window_36 rfl (lv_at hl 1 rfl) ?_
      refine lv_iload_n hx hb dX6_window_37 rfl (lv_at hl 2 rfl) ?_
      obtain ⟨r7, e8, hf⟩ := bind_some hf
      refine callVi (As := [.int x1, .int x2]) (rest := []) M (mX4_addWindow l D cs sk (q_t 0) q_t_0 k d_t_0 x1 x2 e8) mw_X6_107 ln_X4_addWindow ⟨rfl, rfl, Nat.le_of_ble_eq_true rfl, Nat.le_of_ble_eq_true rfl⟩ hP hD hS hA [1, 2, 3] (by decide) rfl rfl (q0 := 0) rfl rfl rfl ⟨Nat.zero_le _, Nat.zero_le _⟩ hl.1 rfl (Nat.le_of_ble_eq_true rfl) dX6_window_38 (fun H locs hP hD hS => ?_)
      replace hP : va_P D vwCl [oX6 h_t q_t (d_t.1), oX4 (q_t 0) q_t_0 (r7.2.1), ((q_t_0 1), .inl (cs 0, 6, .inl (r7.2.2 1))), ((q_t_0 2), .inl (cs 0, 6, .inl (r7.2.2 2)))] H := hP
      replace hD : va_D A [oX6 h_t q_t (d_t.1), oX4 (q_t 0) q_t_0 (r7.2.1), ((q_t_0 1), .inl (cs 0, 6, .inl (r7.2.2 1))), ((q_t_0 2), .inl (cs 0, 6, .inl (r7.2.2 2)))] := hD
      have e9 := Option.some.inj hf
      subst e9
      exact hR _ _ _ _ dX6_window_41 hP hS
    · replace hf := g6.2 c5
      refine lv_aload_n hx hb dX6_window_27 rfl (lv_at hl 0 rfl) ?_
      obtain ⟨r9, e10, hf⟩ := bind_some hf
      refine callVi (As := []) (rest := []) M (mX6_refuseFull l D cs sk h_t q_t k d_t e10) mw_X6_103 ln_X6_refuseFull ⟨rfl, rfl, Nat.le_of_ble_eq_true rfl, Nat.le_of_ble_eq_true rfl⟩ hP hD hS hA [0] (by decide) rfl rfl (q0 := 0) rfl rfl rfl ⟨Nat.zero_le _, Nat.zero_le _⟩ hl.1 rfl (Nat.le_of_ble_eq_true rfl) dX6_window_28 (fun H locs hP hD hS => ?_)
      replace hP : va_P D vwCl [oX6 h_t q_t (r9.2.1), oX4 (q_t 0) q_t_0 (d_t_0.1), ((q_t_0 1), .inl (cs 0, 6, .inl (d_t_0.2 1))), ((q_t_0 2), .inl (cs 0, 6, .inl (d_t_0.2 2)))] H := hP
      replace hD : va_D A [oX6 h_t q_t (r9.2.1), oX4 (q_t 0) q_t_0 (d_t_0.1), ((q_t_0 1), .inl (cs 0, 6, .inl (d_t_0.2 1))), ((q_t_0 2), .inl (cs 0, 6, .inl (d_t_0.2 2)))] := hD
      have e9 := Option.some.inj hf
      subst e9
      exact hR _ _ _ _ dX6_window_31 hP hS
  · replace hf := g4.1 c3
    refine lv_aload_n hx hb dX6_window_8 rfl (lv_at hl 0 rfl) ?_
    refine lv_bipush (v := (-2)) hx hb dX6_window_9 rfl ?_
    obtain ⟨r11, e12, hf⟩ := bind_some hf
    refine callVi (As := [.int (-2)]) (rest := []) M (mX6_refuseBad l D cs sk h_t q_t k d_t (-2) e12) mw_X6_96 ln_X6_refuseBad ⟨rfl, rfl, Nat.le_of_ble_eq_true rfl, Nat.le_of_ble_eq_true rfl⟩ hP hD hS hA [0] (by decide) rfl rfl (q0 := 0) rfl rfl rfl ⟨Nat.zero_le _, Nat.zero_le _⟩ hl.1 rfl (Nat.le_of_ble_eq_true rfl) dX6_window_11 (fun H locs hP hD hS => ?_)
    replace hP : va_P D vwCl [oX6 h_t q_t (r11.2.1), oX4 (q_t 0) q_t_0 (d_t_0.1), ((q_t_0 1), .inl (cs 0, 6, .inl (d_t_0.2 1))), ((q_t_0 2), .inl (cs 0, 6, .inl (d_t_0.2 2)))] H := hP
    replace hD : va_D A [oX6 h_t q_t (r11.2.1), oX4 (q_t 0) q_t_0 (d_t_0.1), ((q_t_0 1), .inl (cs 0, 6, .inl (d_t_0.2 1))), ((q_t_0 2), .inl (cs 0, 6, .inl (d_t_0.2 2)))] := hD
    have e9 := Option.some.inj hf
    subst e9
    exact hR _ _ _ _ dX6_window_14 hP hS
abbrev rm_X6_ear : Room := { frames := 2, cells := 0, slots := 0, locals := 43 }
def fX6_ear (k : Nat) (d_t : Dat) (d_t_0 : Dat) (x1 : Int32) (x2 : Int32) : Option (Int32 × Dat × Dat) :=
  (fX6_isPlace k x1 x2).bind (fun (r1 : Int32) => (if r1 = 0 then (fX6_refuseBad k d_t (-2)).bind (fun (r11 : Int32 × Dat) => some ((r11.1), (r11.2.1, d_t.2), d_t_0)) else (if (d_t_0.1 3) < 3 then (fX4_addEar k d_t_0 x1 x2).bind (fun (r7 : Int32 × Dat) => some ((r7.1), d_t, (r7.2.1, (va_up (va_up d_t_0.2 4 (r7.2.2 4)) 5 (r7.2.2 5))))) else (fX6_refuseFull k d_t).bind (fun (r9 : Int32 × Dat) => some ((r9.1), (r9.2.1, d_t.2), d_t_0)))))
set_option maxHeartbeats 4000000 in
set_option maxRecDepth 100000 in
theorem mX6_ear (l : Launch) (D : va_G) (cs : Nat → ClassId) (sk : Nat → Nat) (h_t : Nat) (q_t : Nat → Nat) (q_t_0 : Nat → Nat) (k : Nat) (d_t : Dat) (d_t_0 : Dat) (x1 : Int32) (x2 : Int32) {rv : Int32 × Dat × Dat} (hf : fX6_ear k d_t d_t_0 x1 x2 = some rv) : CTi l yX6_ear (Cond.code yX6_ear cX6_ear 3 (some .int) :: gtbl) rm_X6_ear D cs sk [.ref h_t, .int x1, .int x2] [oX6 h_t q_t (d_t.1), oX4 (q_t 0) q_t_0 (d_t_0.1), ((q_t_0 4), .inl (cs 0, 3, .inl (d_t_0.2 4))), ((q_t_0 5), .inl (cs 0, 3, .inl (d_t_0.2 5)))] (rv.1) [oX6 h_t q_t (rv.2.1.1), oX4 (q_t 0) q_t_0 (rv.2.2.1), ((q_t_0 4), .inl (cs 0, 3, .inl (rv.2.2.2 4))), ((q_t_0 5), .inl (cs 0, 3, .inl (rv.2.2.2 5)))] := by
  refine CTi.of RX6 (by decide +kernel) rfl (Nat.le_of_ble_eq_true rfl) (fun p e s m args below meth c A Q ls M hA hR hl hP hD hS => ?_)
  obtain ⟨hx, hb, hml, hT, hown, hlk, hrt, hK, hN, hSE⟩ := id M
  replace hl : lv_has ls 3 [(0, .ref h_t), (1, .int x1), (2, .int x2)] := hl
  unfold fX6_ear at hf
  refine lv_iload_n hx hb dX6_ear_0 rfl (lv_at hl 1 rfl) ?_
  refine lv_iload_n hx hb dX6_ear_1 rfl (lv_at hl 2 rfl) ?_
  obtain ⟨r1, e2, hf⟩ := bind_some hf
  refine callSi (As := [.int x1, .int x2]) (rest := []) M (mX6_isPlace l D cs sk  k x1 x2 e2) mw_X6_92 ln_X6_isPlace ⟨rfl, rfl, Nat.le_of_ble_eq_true rfl, Nat.le_of_ble_eq_true rfl⟩ hP hD hS hA [] (by decide) rfl rfl ⟨Nat.zero_le _, Nat.zero_le _⟩ hl.1 rfl (Nat.le_of_ble_eq_true rfl) dX6_ear_2 (fun H locs hP hD hS => ?_)
  replace hP : va_P D vwCl [oX6 h_t q_t (d_t.1), oX4 (q_t 0) q_t_0 (d_t_0.1), ((q_t_0 4), .inl (cs 0, 3, .inl (d_t_0.2 4))), ((q_t_0 5), .inl (cs 0, 3, .inl (d_t_0.2 5)))] H := hP
  replace hD : va_D A [oX6 h_t q_t (d_t.1), oX4 (q_t 0) q_t_0 (d_t_0.1), ((q_t_0 4), .inl (cs 0, 3, .inl (d_t_0.2 4))), ((q_t_0 5), .inl (cs 0, 3, .inl (d_t_0.2 5)))] := hD
  have g4 := ite_some hf
  refine lv_if_ne (tgt := 15) hx hb dX6_ear_5 (by decide) (fun c3 => ?_) (fun c3 => ?_)
  · replace hf := g4.2 c3
    refine lv_aload_n hx hb dX6_ear_15 rfl (lv_at hl 0 rfl) ?_
    refine va_get (D := D) (ci := 6) (v := .ref (q_t 0)) (C := RX6) (T := TX6) (N := 18) hx hb hT iX6 hown hK hP 0 rfl rfl 0 (by decide) (hT _ fw_X6_10) (fun _ h9 => h9) rfl dX6_ear_16 ?_
    refine va_get (D := D) (ci := 4) (v := .int (d_t_0.1 3)) (C := RX4) (T := TX4) (N := 11) hx hb hT iX4 hown hK hP 1 rfl rfl 3 (by decide) (hT _ fw_X6_111) (fun _ h9 => h9) rfl dX6_ear_19 ?_
    refine lv_iconst (v := 3) hx hb dX6_ear_22 rfl ?_
    have g6 := ite_some hf
    refine lv_icmp_lt (tgt := 31) hx hb dX6_ear_23 (by decide) (fun c5 => ?_) (fun c5 => ?_)
    · replace hf := g6.1 c5
      refine lv_aload_n hx hb dX6_ear_31 rfl (lv_at hl 0 rfl) ?_
      refine va_get (D := D) (ci := 6) (v := .ref (q_t 0)) (C := RX6) (T := TX6) (N := 18) hx hb hT iX6 hown hK hP 0 rfl rfl 0 (by decide) (hT _ fw_X6_10) (fun _ h9 => h9) rfl dX6_ear_32 ?_
      refine lv_iload_n hx hb dX6_ear_35 rfl (lv_at hl 1 rfl) ?_
      refine lv_iload_n hx hb dX6_ear_36 rfl (lv_at hl 2 rfl) ?_
      obtain ⟨r7, e8, hf⟩ := bind_some hf
      refine callVi (As := [.int x1, .int x2]) (rest := []) M (mX4_addEar l D cs sk (q_t 0) q_t_0 k d_t_0 x1 x2 e8) mw_X6_114 ln_X4_addEar ⟨rfl, rfl, Nat.le_of_ble_eq_true rfl, Nat.le_of_ble_eq_true rfl⟩ hP hD hS hA [1, 2, 3] (by decide) rfl rfl (q0 := 0) rfl rfl rfl ⟨Nat.zero_le _, Nat.zero_le _⟩ hl.1 rfl (Nat.le_of_ble_eq_true rfl) dX6_ear_37 (fun H locs hP hD hS => ?_)
      replace hP : va_P D vwCl [oX6 h_t q_t (d_t.1), oX4 (q_t 0) q_t_0 (r7.2.1), ((q_t_0 4), .inl (cs 0, 3, .inl (r7.2.2 4))), ((q_t_0 5), .inl (cs 0, 3, .inl (r7.2.2 5)))] H := hP
      replace hD : va_D A [oX6 h_t q_t (d_t.1), oX4 (q_t 0) q_t_0 (r7.2.1), ((q_t_0 4), .inl (cs 0, 3, .inl (r7.2.2 4))), ((q_t_0 5), .inl (cs 0, 3, .inl (r7.2.2 5)))] := hD
      have e9 := Option.some.inj hf
      subst e9
      exact hR _ _ _ _ dX6_ear_40 hP hS
    · replace hf := g6.2 c5
      refine lv_aload_n hx hb dX6_ear_26 rfl (lv_at hl 0 rfl) ?_
      obtain ⟨r9, e10, hf⟩ := bind_some hf
      refine callVi (As := []) (rest := []) M (mX6_refuseFull l D cs sk h_t q_t k d_t e10) mw_X6_103 ln_X6_refuseFull ⟨rfl, rfl, Nat.le_of_ble_eq_true rfl, Nat.le_of_ble_eq_true rfl⟩ hP hD hS hA [0] (by decide) rfl rfl (q0 := 0) rfl rfl rfl ⟨Nat.zero_le _, Nat.zero_le _⟩ hl.1 rfl (Nat.le_of_ble_eq_true rfl) dX6_ear_27 (fun H locs hP hD hS => ?_)
      replace hP : va_P D vwCl [oX6 h_t q_t (r9.2.1), oX4 (q_t 0) q_t_0 (d_t_0.1), ((q_t_0 4), .inl (cs 0, 3, .inl (d_t_0.2 4))), ((q_t_0 5), .inl (cs 0, 3, .inl (d_t_0.2 5)))] H := hP
      replace hD : va_D A [oX6 h_t q_t (r9.2.1), oX4 (q_t 0) q_t_0 (d_t_0.1), ((q_t_0 4), .inl (cs 0, 3, .inl (d_t_0.2 4))), ((q_t_0 5), .inl (cs 0, 3, .inl (d_t_0.2 5)))] := hD
      have e9 := Option.some.inj hf
      subst e9
      exact hR _ _ _ _ dX6_ear_30 hP hS
  · replace hf := g4.1 c3
    refine lv_aload_n hx hb dX6_ear_8 rfl (lv_at hl 0 rfl) ?_
    refine lv_bipush (v := (-2)) hx hb dX6_ear_9 rfl ?_
    obtain ⟨r11, e12, hf⟩ := bind_some hf
    refine callVi (As := [.int (-2)]) (rest := []) M (mX6_refuseBad l D cs sk h_t q_t k d_t (-2) e12) mw_X6_96 ln_X6_refuseBad ⟨rfl, rfl, Nat.le_of_ble_eq_true rfl, Nat.le_of_ble_eq_true rfl⟩ hP hD hS hA [0] (by decide) rfl rfl (q0 := 0) rfl rfl rfl ⟨Nat.zero_le _, Nat.zero_le _⟩ hl.1 rfl (Nat.le_of_ble_eq_true rfl) dX6_ear_11 (fun H locs hP hD hS => ?_)
    replace hP : va_P D vwCl [oX6 h_t q_t (r11.2.1), oX4 (q_t 0) q_t_0 (d_t_0.1), ((q_t_0 4), .inl (cs 0, 3, .inl (d_t_0.2 4))), ((q_t_0 5), .inl (cs 0, 3, .inl (d_t_0.2 5)))] H := hP
    replace hD : va_D A [oX6 h_t q_t (r11.2.1), oX4 (q_t 0) q_t_0 (d_t_0.1), ((q_t_0 4), .inl (cs 0, 3, .inl (d_t_0.2 4))), ((q_t_0 5), .inl (cs 0, 3, .inl (d_t_0.2 5)))] := hD
    have e9 := Option.some.inj hf
    subst e9
    exact hR _ _ _ _ dX6_ear_14 hP hS
abbrev rm_X6_mill : Room := { frames := 2, cells := 0, slots := 0, locals := 43 }
def fX6_mill (k : Nat) (d_t : Dat) (d_t_0 : Dat) (x1 : Int32) (x2 : Int32) : Option (Int32 × Dat × Dat) :=
  (fX6_isPlace k x1 x2).bind (fun (r1 : Int32) => (if r1 = 0 then (fX6_refuseBad k d_t (-2)).bind (fun (r7 : Int32 × Dat) => some ((r7.1), (r7.2.1, d_t.2), d_t_0)) else (fX4_buildMill k d_t_0 x1 x2).bind (fun (r5 : Dat) => some (1, d_t, (r5.1, d_t_0.2)))))
set_option maxHeartbeats 4000000 in
set_option maxRecDepth 100000 in
theorem mX6_mill (l : Launch) (D : va_G) (cs : Nat → ClassId) (sk : Nat → Nat) (h_t : Nat) (q_t : Nat → Nat) (q_t_0 : Nat → Nat) (k : Nat) (d_t : Dat) (d_t_0 : Dat) (x1 : Int32) (x2 : Int32) {rv : Int32 × Dat × Dat} (hf : fX6_mill k d_t d_t_0 x1 x2 = some rv) : CTi l yX6_mill (Cond.code yX6_mill cX6_mill 3 (some .int) :: gtbl) rm_X6_mill D cs sk [.ref h_t, .int x1, .int x2] [oX6 h_t q_t (d_t.1), oX4 (q_t 0) q_t_0 (d_t_0.1)] (rv.1) [oX6 h_t q_t (rv.2.1.1), oX4 (q_t 0) q_t_0 (rv.2.2.1)] := by
  refine CTi.of RX6 (by decide +kernel) rfl (Nat.le_of_ble_eq_true rfl) (fun p e s m args below meth c A Q ls M hA hR hl hP hD hS => ?_)
  obtain ⟨hx, hb, hml, hT, hown, hlk, hrt, hK, hN, hSE⟩ := id M
  replace hl : lv_has ls 3 [(0, .ref h_t), (1, .int x1), (2, .int x2)] := hl
  unfold fX6_mill at hf
  refine lv_iload_n hx hb dX6_mill_0 rfl (lv_at hl 1 rfl) ?_
  refine lv_iload_n hx hb dX6_mill_1 rfl (lv_at hl 2 rfl) ?_
  obtain ⟨r1, e2, hf⟩ := bind_some hf
  refine callSi (As := [.int x1, .int x2]) (rest := []) M (mX6_isPlace l D cs sk  k x1 x2 e2) mw_X6_92 ln_X6_isPlace ⟨rfl, rfl, Nat.le_of_ble_eq_true rfl, Nat.le_of_ble_eq_true rfl⟩ hP hD hS hA [] (by decide) rfl rfl ⟨Nat.zero_le _, Nat.zero_le _⟩ hl.1 rfl (Nat.le_of_ble_eq_true rfl) dX6_mill_2 (fun H locs hP hD hS => ?_)
  replace hP : va_P D vwCl [oX6 h_t q_t (d_t.1), oX4 (q_t 0) q_t_0 (d_t_0.1)] H := hP
  replace hD : va_D A [oX6 h_t q_t (d_t.1), oX4 (q_t 0) q_t_0 (d_t_0.1)] := hD
  have g4 := ite_some hf
  refine lv_if_ne (tgt := 15) hx hb dX6_mill_5 (by decide) (fun c3 => ?_) (fun c3 => ?_)
  · replace hf := g4.2 c3
    refine lv_aload_n hx hb dX6_mill_15 rfl (lv_at hl 0 rfl) ?_
    refine va_get (D := D) (ci := 6) (v := .ref (q_t 0)) (C := RX6) (T := TX6) (N := 18) hx hb hT iX6 hown hK hP 0 rfl rfl 0 (by decide) (hT _ fw_X6_10) (fun _ h9 => h9) rfl dX6_mill_16 ?_
    refine lv_iload_n hx hb dX6_mill_19 rfl (lv_at hl 1 rfl) ?_
    refine lv_iload_n hx hb dX6_mill_20 rfl (lv_at hl 2 rfl) ?_
    obtain ⟨r5, e6, hf⟩ := bind_some hf
    refine callVv (As := [.int x1, .int x2]) (rest := []) M (mX4_buildMill l D cs sk (q_t 0) q_t_0 k d_t_0 x1 x2 e6) mw_X6_117 ln_X4_buildMill ⟨rfl, rfl, Nat.le_of_ble_eq_true rfl, Nat.le_of_ble_eq_true rfl⟩ hP hD hS hA [1] (by decide) rfl rfl (q0 := 0) rfl rfl rfl ⟨Nat.zero_le _, Nat.zero_le _⟩ hl.1 rfl (Nat.le_of_ble_eq_true rfl) dX6_mill_21 (fun H locs hP hD hS => ?_)
    replace hP : va_P D vwCl [oX6 h_t q_t (d_t.1), oX4 (q_t 0) q_t_0 (r5.1)] H := hP
    replace hD : va_D A [oX6 h_t q_t (d_t.1), oX4 (q_t 0) q_t_0 (r5.1)] := hD
    refine lv_iconst (v := 1) hx hb dX6_mill_24 rfl ?_
    have e9 := Option.some.inj hf
    subst e9
    exact hR _ _ _ _ dX6_mill_25 hP hS
  · replace hf := g4.1 c3
    refine lv_aload_n hx hb dX6_mill_8 rfl (lv_at hl 0 rfl) ?_
    refine lv_bipush (v := (-2)) hx hb dX6_mill_9 rfl ?_
    obtain ⟨r7, e8, hf⟩ := bind_some hf
    refine callVi (As := [.int (-2)]) (rest := []) M (mX6_refuseBad l D cs sk h_t q_t k d_t (-2) e8) mw_X6_96 ln_X6_refuseBad ⟨rfl, rfl, Nat.le_of_ble_eq_true rfl, Nat.le_of_ble_eq_true rfl⟩ hP hD hS hA [0] (by decide) rfl rfl (q0 := 0) rfl rfl rfl ⟨Nat.zero_le _, Nat.zero_le _⟩ hl.1 rfl (Nat.le_of_ble_eq_true rfl) dX6_mill_11 (fun H locs hP hD hS => ?_)
    replace hP : va_P D vwCl [oX6 h_t q_t (r7.2.1), oX4 (q_t 0) q_t_0 (d_t_0.1)] H := hP
    replace hD : va_D A [oX6 h_t q_t (r7.2.1), oX4 (q_t 0) q_t_0 (d_t_0.1)] := hD
    have e9 := Option.some.inj hf
    subst e9
    exact hR _ _ _ _ dX6_mill_14 hP hS
abbrev rm_X6_put : Room := { frames := 1, cells := 0, slots := 0, locals := 22 }
def fX6_put (k : Nat) (d_t : Dat) (d_t_0 : Dat) (d_t_1 : Dat) (x1 : Int32) (x2 : Int32) : Option (Int32 × Dat × Dat × Dat) :=
  (if x1 = 0 then (fX6_isWithin k x2 1 9).bind (fun (r61 : Int32) => (if r61 = 0 then (if x1 = 1 then (fX6_isWithin k x2 (-2) 2).bind (fun (r93 : Int32) => (if r93 = 0 then (if x1 = 2 then (fX6_isWithin k x2 (-2) 2).bind (fun (r109 : Int32) => (if r109 = 0 then (if x1 = 3 then (fX6_isWithin k x2 0 999).bind (fun (r117 : Int32) => (if r117 = 0 then (fX6_refuseBad k d_t (-10)).bind (fun (r121 : Int32 × Dat) => some ((r121.1), (r121.2.1, d_t.2), d_t_0, d_t_1)) else some ((d_t_1.1 7), d_t, d_t_0, ((upd d_t_1.1 7 x2), d_t_1.2)))) else (fX6_refuseBad k d_t (-10)).bind (fun (r115 : Int32 × Dat) => some ((r115.1), (r115.2.1, d_t.2), d_t_0, d_t_1))) else some ((d_t_0.1 10), d_t, ((upd d_t_0.1 10 x2), d_t_0.2), d_t_1))) else (if x1 = 3 then (fX6_isWithin k x2 0 999).bind (fun (r103 : Int32) => (if r103 = 0 then (fX6_refuseBad k d_t (-10)).bind (fun (r107 : Int32 × Dat) => some ((r107.1), (r107.2.1, d_t.2), d_t_0, d_t_1)) else some ((d_t_1.1 7), d_t, d_t_0, ((upd d_t_1.1 7 x2), d_t_1.2)))) else (fX6_refuseBad k d_t (-10)).bind (fun (r101 : Int32 × Dat) => some ((r101.1), (r101.2.1, d_t.2), d_t_0, d_t_1)))) else some ((d_t_0.1 9), d_t, ((upd d_t_0.1 9 x2), d_t_0.2), d_t_1))) else (if x1 = 2 then (fX6_isWithin k x2 (-2) 2).bind (fun (r79 : Int32) => (if r79 = 0 then (if x1 = 3 then (fX6_isWithin k x2 0 999).bind (fun (r87 : Int32) => (if r87 = 0 then (fX6_refuseBad k d_t (-10)).bind (fun (r91 : Int32 × Dat) => some ((r91.1), (r91.2.1, d_t.2), d_t_0, d_t_1)) else some ((d_t_1.1 7), d_t, d_t_0, ((upd d_t_1.1 7 x2), d_t_1.2)))) else (fX6_refuseBad k d_t (-10)).bind (fun (r85 : Int32 × Dat) => some ((r85.1), (r85.2.1, d_t.2), d_t_0, d_t_1))) else some ((d_t_0.1 10), d_t, ((upd d_t_0.1 10 x2), d_t_0.2), d_t_1))) else (if x1 = 3 then (fX6_isWithin k x2 0 999).bind (fun (r73 : Int32) => (if r73 = 0 then (fX6_refuseBad k d_t (-10)).bind (fun (r77 : Int32 × Dat) => some ((r77.1), (r77.2.1, d_t.2), d_t_0, d_t_1)) else some ((d_t_1.1 7), d_t, d_t_0, ((upd d_t_1.1 7 x2), d_t_1.2)))) else (fX6_refuseBad k d_t (-10)).bind (fun (r71 : Int32 × Dat) => some ((r71.1), (r71.2.1, d_t.2), d_t_0, d_t_1))))) else some ((d_t_0.1 8), d_t, ((upd d_t_0.1 8 x2), d_t_0.2), d_t_1))) else (if x1 = 1 then (fX6_isWithin k x2 (-2) 2).bind (fun (r31 : Int32) => (if r31 = 0 then (if x1 = 2 then (fX6_isWithin k x2 (-2) 2).bind (fun (r47 : Int32) => (if r47 = 0 then (if x1 = 3 then (fX6_isWithin k x2 0 999).bind (fun (r55 : Int32) => (if r55 = 0 then (fX6_refuseBad k d_t (-10)).bind (fun (r59 : Int32 × Dat) => some ((r59.1), (r59.2.1, d_t.2), d_t_0, d_t_1)) else some ((d_t_1.1 7), d_t, d_t_0, ((upd d_t_1.1 7 x2), d_t_1.2)))) else (fX6_refuseBad k d_t (-10)).bind (fun (r53 : Int32 × Dat) => some ((r53.1), (r53.2.1, d_t.2), d_t_0, d_t_1))) else some ((d_t_0.1 10), d_t, ((upd d_t_0.1 10 x2), d_t_0.2), d_t_1))) else (if x1 = 3 then (fX6_isWithin k x2 0 999).bind (fun (r41 : Int32) => (if r41 = 0 then (fX6_refuseBad k d_t (-10)).bind (fun (r45 : Int32 × Dat) => some ((r45.1), (r45.2.1, d_t.2), d_t_0, d_t_1)) else some ((d_t_1.1 7), d_t, d_t_0, ((upd d_t_1.1 7 x2), d_t_1.2)))) else (fX6_refuseBad k d_t (-10)).bind (fun (r39 : Int32 × Dat) => some ((r39.1), (r39.2.1, d_t.2), d_t_0, d_t_1)))) else some ((d_t_0.1 9), d_t, ((upd d_t_0.1 9 x2), d_t_0.2), d_t_1))) else (if x1 = 2 then (fX6_isWithin k x2 (-2) 2).bind (fun (r17 : Int32) => (if r17 = 0 then (if x1 = 3 then (fX6_isWithin k x2 0 999).bind (fun (r25 : Int32) => (if r25 = 0 then (fX6_refuseBad k d_t (-10)).bind (fun (r29 : Int32 × Dat) => some ((r29.1), (r29.2.1, d_t.2), d_t_0, d_t_1)) else some ((d_t_1.1 7), d_t, d_t_0, ((upd d_t_1.1 7 x2), d_t_1.2)))) else (fX6_refuseBad k d_t (-10)).bind (fun (r23 : Int32 × Dat) => some ((r23.1), (r23.2.1, d_t.2), d_t_0, d_t_1))) else some ((d_t_0.1 10), d_t, ((upd d_t_0.1 10 x2), d_t_0.2), d_t_1))) else (if x1 = 3 then (fX6_isWithin k x2 0 999).bind (fun (r11 : Int32) => (if r11 = 0 then (fX6_refuseBad k d_t (-10)).bind (fun (r15 : Int32 × Dat) => some ((r15.1), (r15.2.1, d_t.2), d_t_0, d_t_1)) else some ((d_t_1.1 7), d_t, d_t_0, ((upd d_t_1.1 7 x2), d_t_1.2)))) else (fX6_refuseBad k d_t (-10)).bind (fun (r9 : Int32 × Dat) => some ((r9.1), (r9.2.1, d_t.2), d_t_0, d_t_1))))))
set_option maxHeartbeats 4000000 in
set_option maxRecDepth 100000 in
theorem mX6_put (l : Launch) (D : va_G) (cs : Nat → ClassId) (sk : Nat → Nat) (h_t : Nat) (q_t : Nat → Nat) (q_t_0 : Nat → Nat) (q_t_1 : Nat → Nat) (k : Nat) (d_t : Dat) (d_t_0 : Dat) (d_t_1 : Dat) (x1 : Int32) (x2 : Int32) {rv : Int32 × Dat × Dat × Dat} (hf : fX6_put k d_t d_t_0 d_t_1 x1 x2 = some rv) : CTi l yX6_put (Cond.code yX6_put cX6_put 4 (some .int) :: gtbl) rm_X6_put D cs sk [.ref h_t, .int x1, .int x2] [oX6 h_t q_t (d_t.1), oX4 (q_t 0) q_t_0 (d_t_0.1), oX0 (q_t 1) q_t_1 (d_t_1.1)] (rv.1) [oX6 h_t q_t (rv.2.1.1), oX4 (q_t 0) q_t_0 (rv.2.2.1.1), oX0 (q_t 1) q_t_1 (rv.2.2.2.1)] := by
  refine CTi.of RX6 (by decide +kernel) rfl (Nat.le_of_ble_eq_true rfl) (fun p e s m args below meth c A Q ls M hA hR hl hP hD hS => ?_)
  obtain ⟨hx, hb, hml, hT, hown, hlk, hrt, hK, hN, hSE⟩ := id M
  replace hl : lv_has ls 4 [(0, .ref h_t), (1, .int x1), (2, .int x2)] := hl
  unfold fX6_put at hf
  refine lv_iload_n hx hb dX6_put_0 rfl (lv_at hl 1 rfl) ?_
  have g2 := ite_some hf
  refine lv_if_ne (tgt := 33) hx hb dX6_put_1 (by decide) (fun c1 => ?_) (fun c1 => ?_)
  · replace hf := g2.2 c1
    refine lv_iload_n hx hb dX6_put_33 rfl (lv_at hl 1 rfl) ?_
    refine lv_iconst (v := 1) hx hb dX6_put_34 rfl ?_
    have g4 := ite_some hf
    refine lv_icmp_ne (tgt := 67) hx hb dX6_put_35 (by decide) (fun c3 => ?_) (fun c3 => ?_)
    · replace hf := g4.2 c3
      refine lv_iload_n hx hb dX6_put_67 rfl (lv_at hl 1 rfl) ?_
      refine lv_iconst (v := 2) hx hb dX6_put_68 rfl ?_
      have g6 := ite_some hf
      refine lv_icmp_ne (tgt := 101) hx hb dX6_put_69 (by decide) (fun c5 => ?_) (fun c5 => ?_)
      · replace hf := g6.2 c5
        refine lv_iload_n hx hb dX6_put_101 rfl (lv_at hl 1 rfl) ?_
        refine lv_iconst (v := 3) hx hb dX6_put_102 rfl ?_
        have g8 := ite_some hf
        refine lv_icmp_ne (tgt := 136) hx hb dX6_put_103 (by decide) (fun c7 => ?_) (fun c7 => ?_)
        · replace hf := g8.2 c7
          refine lv_aload_n hx hb dX6_put_136 rfl (lv_at hl 0 rfl) ?_
          refine lv_bipush (v := (-10)) hx hb dX6_put_137 rfl ?_
          obtain ⟨r9, e10, hf⟩ := bind_some hf
          refine callVi (As := [.int (-10)]) (rest := []) M (mX6_refuseBad l D cs sk h_t q_t k d_t (-10) e10) mw_X6_96 ln_X6_refuseBad ⟨rfl, rfl, Nat.le_of_ble_eq_true rfl, Nat.le_of_ble_eq_true rfl⟩ hP hD hS hA [0] (by decide) rfl rfl (q0 := 0) rfl rfl rfl ⟨Nat.zero_le _, Nat.zero_le _⟩ hl.1 rfl (Nat.le_of_ble_eq_true rfl) dX6_put_139 (fun H locs hP hD hS => ?_)
          replace hP : va_P D vwCl [oX6 h_t q_t (r9.2.1), oX4 (q_t 0) q_t_0 (d_t_0.1), oX0 (q_t 1) q_t_1 (d_t_1.1)] H := hP
          replace hD : va_D A [oX6 h_t q_t (r9.2.1), oX4 (q_t 0) q_t_0 (d_t_0.1), oX0 (q_t 1) q_t_1 (d_t_1.1)] := hD
          refine lv_istore_n (lv' := [(3, .int (r9.1)), (0, .ref h_t), (1, .int x1), (2, .int x2)]) hx hb dX6_put_142 rfl hl (by decide) rfl (fun ls hl => ?_)
          refine lv_iload_n hx hb dX6_put_143 rfl (lv_at hl 0 rfl) ?_
          have e9 := Option.some.inj hf
          subst e9
          exact hR _ _ _ _ dX6_put_144 hP hS
        · replace hf := g8.1 c7
          refine lv_iload_n hx hb dX6_put_106 rfl (lv_at hl 2 rfl) ?_
          refine lv_iconst (v := 0) hx hb dX6_put_107 rfl ?_
          refine lv_sipush (v := 999) hx hb dX6_put_108 rfl ?_
          obtain ⟨r11, e12, hf⟩ := bind_some hf
          refine callSi (As := [.int x2, .int 0, .int 999]) (rest := []) M (mX6_isWithin l D cs sk  k x2 0 999 e12) mw_X6_121 ln_X6_isWithin ⟨rfl, rfl, Nat.le_of_ble_eq_true rfl, Nat.le_of_ble_eq_true rfl⟩ hP hD hS hA [] (by decide) rfl rfl ⟨Nat.zero_le _, Nat.zero_le _⟩ hl.1 rfl (Nat.le_of_ble_eq_true rfl) dX6_put_111 (fun H locs hP hD hS => ?_)
          replace hP : va_P D vwCl [oX6 h_t q_t (d_t.1), oX4 (q_t 0) q_t_0 (d_t_0.1), oX0 (q_t 1) q_t_1 (d_t_1.1)] H := hP
          replace hD : va_D A [oX6 h_t q_t (d_t.1), oX4 (q_t 0) q_t_0 (d_t_0.1), oX0 (q_t 1) q_t_1 (d_t_1.1)] := hD
          have g14 := ite_some hf
          refine lv_if_eq (tgt := 136) hx hb dX6_put_114 (by decide) (fun c13 => ?_) (fun c13 => ?_)
          · replace hf := g14.1 c13
            refine lv_aload_n hx hb dX6_put_136 rfl (lv_at hl 0 rfl) ?_
            refine lv_bipush (v := (-10)) hx hb dX6_put_137 rfl ?_
            obtain ⟨r15, e16, hf⟩ := bind_some hf
            refine callVi (As := [.int (-10)]) (rest := []) M (mX6_refuseBad l D cs sk h_t q_t k d_t (-10) e16) mw_X6_96 ln_X6_refuseBad ⟨rfl, rfl, Nat.le_of_ble_eq_true rfl, Nat.le_of_ble_eq_true rfl⟩ hP hD hS hA [0] (by decide) rfl rfl (q0 := 0) rfl rfl rfl ⟨Nat.zero_le _, Nat.zero_le _⟩ hl.1 rfl (Nat.le_of_ble_eq_true rfl) dX6_put_139 (fun H locs hP hD hS => ?_)
            replace hP : va_P D vwCl [oX6 h_t q_t (r15.2.1), oX4 (q_t 0) q_t_0 (d_t_0.1), oX0 (q_t 1) q_t_1 (d_t_1.1)] H := hP
            replace hD : va_D A [oX6 h_t q_t (r15.2.1), oX4 (q_t 0) q_t_0 (d_t_0.1), oX0 (q_t 1) q_t_1 (d_t_1.1)] := hD
            refine lv_istore_n (lv' := [(3, .int (r15.1)), (0, .ref h_t), (1, .int x1), (2, .int x2)]) hx hb dX6_put_142 rfl hl (by decide) rfl (fun ls hl => ?_)
            refine lv_iload_n hx hb dX6_put_143 rfl (lv_at hl 0 rfl) ?_
            have e9 := Option.some.inj hf
            subst e9
            exact hR _ _ _ _ dX6_put_144 hP hS
          · replace hf := g14.2 c13
            refine lv_aload_n hx hb dX6_put_117 rfl (lv_at hl 0 rfl) ?_
            refine va_get (D := D) (ci := 6) (v := .ref (q_t 1)) (C := RX6) (T := TX6) (N := 18) hx hb hT iX6 hown hK hP 0 rfl rfl 1 (by decide) (hT _ fw_X6_19) (fun _ h9 => h9) rfl dX6_put_118 ?_
            refine va_get (D := D) (ci := 0) (v := .int (d_t_1.1 7)) (C := RX0) (T := TX0) (N := 10) hx hb hT iX0 hown hK hP 2 rfl rfl 7 (by decide) (hT _ fw_X6_134) (fun _ h9 => h9) rfl dX6_put_121 ?_
            refine lv_istore_n (lv' := [(3, .int (d_t_1.1 7)), (0, .ref h_t), (1, .int x1), (2, .int x2)]) hx hb dX6_put_124 rfl hl (by decide) rfl (fun ls hl => ?_)
            refine lv_aload_n hx hb dX6_put_125 rfl (lv_at hl 1 rfl) ?_
            refine va_get (D := D) (ci := 6) (v := .ref (q_t 1)) (C := RX6) (T := TX6) (N := 18) hx hb hT iX6 hown hK hP 0 rfl rfl 1 (by decide) (hT _ fw_X6_19) (fun _ h9 => h9) rfl dX6_put_126 ?_
            refine lv_iload_n hx hb dX6_put_129 rfl (lv_at hl 3 rfl) ?_
            refine va_put (D := D) (ci := 0) (v := .int x2) (ty := tyX0 7) (C := RX0) (T := TX0) (N := 10) hx hb hT iX0 tyX0 tyX0_ok nmX0 hown hK hP hD hS 2 rfl rfl 7 (by decide) (hT _ fw_X6_134) (fun _ h9 => h9) rfl (tyX0_ok 7 (by decide)) rfl rfl (Nat.le_of_ble_eq_true rfl) dX6_put_130 (fun H locs hP hD hS => ?_)
            replace hP : va_P D vwCl [oX6 h_t q_t (d_t.1), oX4 (q_t 0) q_t_0 (d_t_0.1), oX0 (q_t 1) q_t_1 (upd d_t_1.1 7 x2)] H := hP
            replace hD : va_D A [oX6 h_t q_t (d_t.1), oX4 (q_t 0) q_t_0 (d_t_0.1), oX0 (q_t 1) q_t_1 (upd d_t_1.1 7 x2)] := hD
            refine lv_goto (tgt := 143) hx hb dX6_put_133 (by decide) ?_
            refine lv_iload_n hx hb dX6_put_143 rfl (lv_at hl 0 rfl) ?_
            have e9 := Option.some.inj hf
            subst e9
            exact hR _ _ _ _ dX6_put_144 hP hS
      · replace hf := g6.1 c5
        refine lv_iload_n hx hb dX6_put_72 rfl (lv_at hl 2 rfl) ?_
        refine lv_bipush (v := (-2)) hx hb dX6_put_73 rfl ?_
        refine lv_iconst (v := 2) hx hb dX6_put_75 rfl ?_
        obtain ⟨r17, e18, hf⟩ := bind_some hf
        refine callSi (As := [.int x2, .int (-2), .int 2]) (rest := []) M (mX6_isWithin l D cs sk  k x2 (-2) 2 e18) mw_X6_121 ln_X6_isWithin ⟨rfl, rfl, Nat.le_of_ble_eq_true rfl, Nat.le_of_ble_eq_true rfl⟩ hP hD hS hA [] (by decide) rfl rfl ⟨Nat.zero_le _, Nat.zero_le _⟩ hl.1 rfl (Nat.le_of_ble_eq_true rfl) dX6_put_76 (fun H locs hP hD hS => ?_)
        replace hP : va_P D vwCl [oX6 h_t q_t (d_t.1), oX4 (q_t 0) q_t_0 (d_t_0.1), oX0 (q_t 1) q_t_1 (d_t_1.1)] H := hP
        replace hD : va_D A [oX6 h_t q_t (d_t.1), oX4 (q_t 0) q_t_0 (d_t_0.1), oX0 (q_t 1) q_t_1 (d_t_1.1)] := hD
        have g20 := ite_some hf
        refine lv_if_eq (tgt := 101) hx hb dX6_put_79 (by decide) (fun c19 => ?_) (fun c19 => ?_)
        · replace hf := g20.1 c19
          refine lv_iload_n hx hb dX6_put_101 rfl (lv_at hl 1 rfl) ?_
          refine lv_iconst (v := 3) hx hb dX6_put_102 rfl ?_
          have g22 := ite_some hf
          refine lv_icmp_ne (tgt := 136) hx hb dX6_put_103 (by decide) (fun c21 => ?_) (fun c21 => ?_)
          · replace hf := g22.2 c21
            refine lv_aload_n hx hb dX6_put_136 rfl (lv_at hl 0 rfl) ?_
            refine lv_bipush (v := (-10)) hx hb dX6_put_137 rfl ?_
            obtain ⟨r23, e24, hf⟩ := bind_some hf
            refine callVi (As := [.int (-10)]) (rest := []) M (mX6_refuseBad l D cs sk h_t q_t k d_t (-10) e24) mw_X6_96 ln_X6_refuseBad ⟨rfl, rfl, Nat.le_of_ble_eq_true rfl, Nat.le_of_ble_eq_true rfl⟩ hP hD hS hA [0] (by decide) rfl rfl (q0 := 0) rfl rfl rfl ⟨Nat.zero_le _, Nat.zero_le _⟩ hl.1 rfl (Nat.le_of_ble_eq_true rfl) dX6_put_139 (fun H locs hP hD hS => ?_)
            replace hP : va_P D vwCl [oX6 h_t q_t (r23.2.1), oX4 (q_t 0) q_t_0 (d_t_0.1), oX0 (q_t 1) q_t_1 (d_t_1.1)] H := hP
            replace hD : va_D A [oX6 h_t q_t (r23.2.1), oX4 (q_t 0) q_t_0 (d_t_0.1), oX0 (q_t 1) q_t_1 (d_t_1.1)] := hD
            refine lv_istore_n (lv' := [(3, .int (r23.1)), (0, .ref h_t), (1, .int x1), (2, .int x2)]) hx hb dX6_put_142 rfl hl (by decide) rfl (fun ls hl => ?_)
            refine lv_iload_n hx hb dX6_put_143 rfl (lv_at hl 0 rfl) ?_
            have e9 := Option.some.inj hf
            subst e9
            exact hR _ _ _ _ dX6_put_144 hP hS
          · replace hf := g22.1 c21
            refine lv_iload_n hx hb dX6_put_106 rfl (lv_at hl 2 rfl) ?_
            refine lv_iconst (v := 0) hx hb dX6_put_107 rfl ?_
            refine lv_sipush (v := 999) hx hb dX6_put_108 rfl ?_
            obtain ⟨r25, e26, hf⟩ := bind_some hf
            refine callSi (As := [.int x2, .int 0, .int 999]) (rest := []) M (mX6_isWithin l D cs sk  k x2 0 999 e26) mw_X6_121 ln_X6_isWithin ⟨rfl, rfl, Nat.le_of_ble_eq_true rfl, Nat.le_of_ble_eq_true rfl⟩ hP hD hS hA [] (by decide) rfl rfl ⟨Nat.zero_le _, Nat.zero_le _⟩ hl.1 rfl (Nat.le_of_ble_eq_true rfl) dX6_put_111 (fun H locs hP hD hS => ?_)
            replace hP : va_P D vwCl [oX6 h_t q_t (d_t.1), oX4 (q_t 0) q_t_0 (d_t_0.1), oX0 (q_t 1) q_t_1 (d_t_1.1)] H := hP
            replace hD : va_D A [oX6 h_t q_t (d_t.1), oX4 (q_t 0) q_t_0 (d_t_0.1), oX0 (q_t 1) q_t_1 (d_t_1.1)] := hD
            have g28 := ite_some hf
            refine lv_if_eq (tgt := 136) hx hb dX6_put_114 (by decide) (fun c27 => ?_) (fun c27 => ?_)
            · replace hf := g28.1 c27
              refine lv_aload_n hx hb dX6_put_136 rfl (lv_at hl 0 rfl) ?_
              refine lv_bipush (v := (-10)) hx hb dX6_put_137 rfl ?_
              obtain ⟨r29, e30, hf⟩ := bind_some hf
              refine callVi (As := [.int (-10)]) (rest := []) M (mX6_refuseBad l D cs sk h_t q_t k d_t (-10) e30) mw_X6_96 ln_X6_refuseBad ⟨rfl, rfl, Nat.le_of_ble_eq_true rfl, Nat.le_of_ble_eq_true rfl⟩ hP hD hS hA [0] (by decide) rfl rfl (q0 := 0) rfl rfl rfl ⟨Nat.zero_le _, Nat.zero_le _⟩ hl.1 rfl (Nat.le_of_ble_eq_true rfl) dX6_put_139 (fun H locs hP hD hS => ?_)
              replace hP : va_P D vwCl [oX6 h_t q_t (r29.2.1), oX4 (q_t 0) q_t_0 (d_t_0.1), oX0 (q_t 1) q_t_1 (d_t_1.1)] H := hP
              replace hD : va_D A [oX6 h_t q_t (r29.2.1), oX4 (q_t 0) q_t_0 (d_t_0.1), oX0 (q_t 1) q_t_1 (d_t_1.1)] := hD
              refine lv_istore_n (lv' := [(3, .int (r29.1)), (0, .ref h_t), (1, .int x1), (2, .int x2)]) hx hb dX6_put_142 rfl hl (by decide) rfl (fun ls hl => ?_)
              refine lv_iload_n hx hb dX6_put_143 rfl (lv_at hl 0 rfl) ?_
              have e9 := Option.some.inj hf
              subst e9
              exact hR _ _ _ _ dX6_put_144 hP hS
            · replace hf := g28.2 c27
              refine lv_aload_n hx hb dX6_put_117 rfl (lv_at hl 0 rfl) ?_
              refine va_get (D := D) (ci := 6) (v := .ref (q_t 1)) (C := RX6) (T := TX6) (N := 18) hx hb hT iX6 hown hK hP 0 rfl rfl 1 (by decide) (hT _ fw_X6_19) (fun _ h9 => h9) rfl dX6_put_118 ?_
              refine va_get (D := D) (ci := 0) (v := .int (d_t_1.1 7)) (C := RX0) (T := TX0) (N := 10) hx hb hT iX0 hown hK hP 2 rfl rfl 7 (by decide) (hT _ fw_X6_134) (fun _ h9 => h9) rfl dX6_put_121 ?_
              refine lv_istore_n (lv' := [(3, .int (d_t_1.1 7)), (0, .ref h_t), (1, .int x1), (2, .int x2)]) hx hb dX6_put_124 rfl hl (by decide) rfl (fun ls hl => ?_)
              refine lv_aload_n hx hb dX6_put_125 rfl (lv_at hl 1 rfl) ?_
              refine va_get (D := D) (ci := 6) (v := .ref (q_t 1)) (C := RX6) (T := TX6) (N := 18) hx hb hT iX6 hown hK hP 0 rfl rfl 1 (by decide) (hT _ fw_X6_19) (fun _ h9 => h9) rfl dX6_put_126 ?_
              refine lv_iload_n hx hb dX6_put_129 rfl (lv_at hl 3 rfl) ?_
              refine va_put (D := D) (ci := 0) (v := .int x2) (ty := tyX0 7) (C := RX0) (T := TX0) (N := 10) hx hb hT iX0 tyX0 tyX0_ok nmX0 hown hK hP hD hS 2 rfl rfl 7 (by decide) (hT _ fw_X6_134) (fun _ h9 => h9) rfl (tyX0_ok 7 (by decide)) rfl rfl (Nat.le_of_ble_eq_true rfl) dX6_put_130 (fun H locs hP hD hS => ?_)
              replace hP : va_P D vwCl [oX6 h_t q_t (d_t.1), oX4 (q_t 0) q_t_0 (d_t_0.1), oX0 (q_t 1) q_t_1 (upd d_t_1.1 7 x2)] H := hP
              replace hD : va_D A [oX6 h_t q_t (d_t.1), oX4 (q_t 0) q_t_0 (d_t_0.1), oX0 (q_t 1) q_t_1 (upd d_t_1.1 7 x2)] := hD
              refine lv_goto (tgt := 143) hx hb dX6_put_133 (by decide) ?_
              refine lv_iload_n hx hb dX6_put_143 rfl (lv_at hl 0 rfl) ?_
              have e9 := Option.some.inj hf
              subst e9
              exact hR _ _ _ _ dX6_put_144 hP hS
        · replace hf := g20.2 c19
          refine lv_aload_n hx hb dX6_put_82 rfl (lv_at hl 0 rfl) ?_
          refine va_get (D := D) (ci := 6) (v := .ref (q_t 0)) (C := RX6) (T := TX6) (N := 18) hx hb hT iX6 hown hK hP 0 rfl rfl 0 (by decide) (hT _ fw_X6_10) (fun _ h9 => h9) rfl dX6_put_83 ?_
          refine va_get (D := D) (ci := 4) (v := .int (d_t_0.1 10)) (C := RX4) (T := TX4) (N := 11) hx hb hT iX4 hown hK hP 1 rfl rfl 10 (by decide) (hT _ fw_X6_131) (fun _ h9 => h9) rfl dX6_put_86 ?_
          refine lv_istore_n (lv' := [(3, .int (d_t_0.1 10)), (0, .ref h_t), (1, .int x1), (2, .int x2)]) hx hb dX6_put_89 rfl hl (by decide) rfl (fun ls hl => ?_)
          refine lv_aload_n hx hb dX6_put_90 rfl (lv_at hl 1 rfl) ?_
          refine va_get (D := D) (ci := 6) (v := .ref (q_t 0)) (C := RX6) (T := TX6) (N := 18) hx hb hT iX6 hown hK hP 0 rfl rfl 0 (by decide) (hT _ fw_X6_10) (fun _ h9 => h9) rfl dX6_put_91 ?_
          refine lv_iload_n hx hb dX6_put_94 rfl (lv_at hl 3 rfl) ?_
          refine va_put (D := D) (ci := 4) (v := .int x2) (ty := tyX4 10) (C := RX4) (T := TX4) (N := 11) hx hb hT iX4 tyX4 tyX4_ok nmX4 hown hK hP hD hS 1 rfl rfl 10 (by decide) (hT _ fw_X6_131) (fun _ h9 => h9) rfl (tyX4_ok 10 (by decide)) rfl rfl (Nat.le_of_ble_eq_true rfl) dX6_put_95 (fun H locs hP hD hS => ?_)
          replace hP : va_P D vwCl [oX6 h_t q_t (d_t.1), oX4 (q_t 0) q_t_0 (upd d_t_0.1 10 x2), oX0 (q_t 1) q_t_1 (d_t_1.1)] H := hP
          replace hD : va_D A [oX6 h_t q_t (d_t.1), oX4 (q_t 0) q_t_0 (upd d_t_0.1 10 x2), oX0 (q_t 1) q_t_1 (d_t_1.1)] := hD
          refine lv_goto (tgt := 143) hx hb dX6_put_98 (by decide) ?_
          refine lv_iload_n hx hb dX6_put_143 rfl (lv_at hl 0 rfl) ?_
          have e9 := Option.some.inj hf
          subst e9
          exact hR _ _ _ _ dX6_put_144 hP hS
    · replace hf := g4.1 c3
      refine lv_iload_n hx hb dX6_put_38 rfl (lv_at hl 2 rfl) ?_
      refine lv_bipush (v := (-2)) hx hb dX6_put_39 rfl ?_
      refine lv_iconst (v := 2) hx hb dX6_put_41 rfl ?_
      obtain ⟨r31, e32, hf⟩ := bind_some hf
      refine callSi (As := [.int x2, .int (-2), .int 2]) (rest := []) M (mX6_isWithin l D cs sk  k x2 (-2) 2 e32) mw_X6_121 ln_X6_isWithin ⟨rfl, rfl, Nat.le_of_ble_eq_true rfl, Nat.le_of_ble_eq_true rfl⟩ hP hD hS hA [] (by decide) rfl rfl ⟨Nat.zero_le _, Nat.zero_le _⟩ hl.1 rfl (Nat.le_of_ble_eq_true rfl) dX6_put_42 (fun H locs hP hD hS => ?_)
      replace hP : va_P D vwCl [oX6 h_t q_t (d_t.1), oX4 (q_t 0) q_t_0 (d_t_0.1), oX0 (q_t 1) q_t_1 (d_t_1.1)] H := hP
      replace hD : va_D A [oX6 h_t q_t (d_t.1), oX4 (q_t 0) q_t_0 (d_t_0.1), oX0 (q_t 1) q_t_1 (d_t_1.1)] := hD
      have g34 := ite_some hf
      refine lv_if_eq (tgt := 67) hx hb dX6_put_45 (by decide) (fun c33 => ?_) (fun c33 => ?_)
      · replace hf := g34.1 c33
        refine lv_iload_n hx hb dX6_put_67 rfl (lv_at hl 1 rfl) ?_
        refine lv_iconst (v := 2) hx hb dX6_put_68 rfl ?_
        have g36 := ite_some hf
        refine lv_icmp_ne (tgt := 101) hx hb dX6_put_69 (by decide) (fun c35 => ?_) (fun c35 => ?_)
        · replace hf := g36.2 c35
          refine lv_iload_n hx hb dX6_put_101 rfl (lv_at hl 1 rfl) ?_
          refine lv_iconst (v := 3) hx hb dX6_put_102 rfl ?_
          have g38 := ite_some hf
          refine lv_icmp_ne (tgt := 136) hx hb dX6_put_103 (by decide) (fun c37 => ?_) (fun c37 => ?_)
          · replace hf := g38.2 c37
            refine lv_aload_n hx hb dX6_put_136 rfl (lv_at hl 0 rfl) ?_
            refine lv_bipush (v := (-10)) hx hb dX6_put_137 rfl ?_
            obtain ⟨r39, e40, hf⟩ := bind_some hf
            refine callVi (As := [.int (-10)]) (rest := []) M (mX6_refuseBad l D cs sk h_t q_t k d_t (-10) e40) mw_X6_96 ln_X6_refuseBad ⟨rfl, rfl, Nat.le_of_ble_eq_true rfl, Nat.le_of_ble_eq_true rfl⟩ hP hD hS hA [0] (by decide) rfl rfl (q0 := 0) rfl rfl rfl ⟨Nat.zero_le _, Nat.zero_le _⟩ hl.1 rfl (Nat.le_of_ble_eq_true rfl) dX6_put_139 (fun H locs hP hD hS => ?_)
            replace hP : va_P D vwCl [oX6 h_t q_t (r39.2.1), oX4 (q_t 0) q_t_0 (d_t_0.1), oX0 (q_t 1) q_t_1 (d_t_1.1)] H := hP
            replace hD : va_D A [oX6 h_t q_t (r39.2.1), oX4 (q_t 0) q_t_0 (d_t_0.1), oX0 (q_t 1) q_t_1 (d_t_1.1)] := hD
            refine lv_istore_n (lv' := [(3, .int (r39.1)), (0, .ref h_t), (1, .int x1), (2, .int x2)]) hx hb dX6_put_142 rfl hl (by decide) rfl (fun ls hl => ?_)
            refine lv_iload_n hx hb dX6_put_143 rfl (lv_at hl 0 rfl) ?_
            have e9 := Option.some.inj hf
            subst e9
            exact hR _ _ _ _ dX6_put_144 hP hS
          · replace hf := g38.1 c37
            refine lv_iload_n hx hb dX6_put_106 rfl (lv_at hl 2 rfl) ?_
            refine lv_iconst (v := 0) hx hb dX6_put_107 rfl ?_
            refine lv_sipush (v := 999) hx hb dX6_put_108 rfl ?_
            obtain ⟨r41, e42, hf⟩ := bind_some hf
            refine callSi (As := [.int x2, .int 0, .int 999]) (rest := []) M (mX6_isWithin l D cs sk  k x2 0 999 e42) mw_X6_121 ln_X6_isWithin ⟨rfl, rfl, Nat.le_of_ble_eq_true rfl, Nat.le_of_ble_eq_true rfl⟩ hP hD hS hA [] (by decide) rfl rfl ⟨Nat.zero_le _, Nat.zero_le _⟩ hl.1 rfl (Nat.le_of_ble_eq_true rfl) dX6_put_111 (fun H locs hP hD hS => ?_)
            replace hP : va_P D vwCl [oX6 h_t q_t (d_t.1), oX4 (q_t 0) q_t_0 (d_t_0.1), oX0 (q_t 1) q_t_1 (d_t_1.1)] H := hP
            replace hD : va_D A [oX6 h_t q_t (d_t.1), oX4 (q_t 0) q_t_0 (d_t_0.1), oX0 (q_t 1) q_t_1 (d_t_1.1)] := hD
            have g44 := ite_some hf
            refine lv_if_eq (tgt := 136) hx hb dX6_put_114 (by decide) (fun c43 => ?_) (fun c43 => ?_)
            · replace hf := g44.1 c43
              refine lv_aload_n hx hb dX6_put_136 rfl (lv_at hl 0 rfl) ?_
              refine lv_bipush (v := (-10)) hx hb dX6_put_137 rfl ?_
              obtain ⟨r45, e46, hf⟩ := bind_some hf
              refine callVi (As := [.int (-10)]) (rest := []) M (mX6_refuseBad l D cs sk h_t q_t k d_t (-10) e46) mw_X6_96 ln_X6_refuseBad ⟨rfl, rfl, Nat.le_of_ble_eq_true rfl, Nat.le_of_ble_eq_true rfl⟩ hP hD hS hA [0] (by decide) rfl rfl (q0 := 0) rfl rfl rfl ⟨Nat.zero_le _, Nat.zero_le _⟩ hl.1 rfl (Nat.le_of_ble_eq_true rfl) dX6_put_139 (fun H locs hP hD hS => ?_)
              replace hP : va_P D vwCl [oX6 h_t q_t (r45.2.1), oX4 (q_t 0) q_t_0 (d_t_0.1), oX0 (q_t 1) q_t_1 (d_t_1.1)] H := hP
              replace hD : va_D A [oX6 h_t q_t (r45.2.1), oX4 (q_t 0) q_t_0 (d_t_0.1), oX0 (q_t 1) q_t_1 (d_t_1.1)] := hD
              refine lv_istore_n (lv' := [(3, .int (r45.1)), (0, .ref h_t), (1, .int x1), (2, .int x2)]) hx hb dX6_put_142 rfl hl (by decide) rfl (fun ls hl => ?_)
              refine lv_iload_n hx hb dX6_put_143 rfl (lv_at hl 0 rfl) ?_
              have e9 := Option.some.inj hf
              subst e9
              exact hR _ _ _ _ dX6_put_144 hP hS
            · replace hf := g44.2 c43
              refine lv_aload_n hx hb dX6_put_117 rfl (lv_at hl 0 rfl) ?_
              refine va_get (D := D) (ci := 6) (v := .ref (q_t 1)) (C := RX6) (T := TX6) (N := 18) hx hb hT iX6 hown hK hP 0 rfl rfl 1 (by decide) (hT _ fw_X6_19) (fun _ h9 => h9) rfl dX6_put_118 ?_
              refine va_get (D := D) (ci := 0) (v := .int (d_t_1.1 7)) (C := RX0) (T := TX0) (N := 10) hx hb hT iX0 hown hK hP 2 rfl rfl 7 (by decide) (hT _ fw_X6_134) (fun _ h9 => h9) rfl dX6_put_121 ?_
              refine lv_istore_n (lv' := [(3, .int (d_t_1.1 7)), (0, .ref h_t), (1, .int x1), (2, .int x2)]) hx hb dX6_put_124 rfl hl (by decide) rfl (fun ls hl => ?_)
              refine lv_aload_n hx hb dX6_put_125 rfl (lv_at hl 1 rfl) ?_
              refine va_get (D := D) (ci := 6) (v := .ref (q_t 1)) (C := RX6) (T := TX6) (N := 18) hx hb hT iX6 hown hK hP 0 rfl rfl 1 (by decide) (hT _ fw_X6_19) (fun _ h9 => h9) rfl dX6_put_126 ?_
              refine lv_iload_n hx hb dX6_put_129 rfl (lv_at hl 3 rfl) ?_
              refine va_put (D := D) (ci := 0) (v := .int x2) (ty := tyX0 7) (C := RX0) (T := TX0) (N := 10) hx hb hT iX0 tyX0 tyX0_ok nmX0 hown hK hP hD hS 2 rfl rfl 7 (by decide) (hT _ fw_X6_134) (fun _ h9 => h9) rfl (tyX0_ok 7 (by decide)) rfl rfl (Nat.le_of_ble_eq_true rfl) dX6_put_130 (fun H locs hP hD hS => ?_)
              replace hP : va_P D vwCl [oX6 h_t q_t (d_t.1), oX4 (q_t 0) q_t_0 (d_t_0.1), oX0 (q_t 1) q_t_1 (upd d_t_1.1 7 x2)] H := hP
              replace hD : va_D A [oX6 h_t q_t (d_t.1), oX4 (q_t 0) q_t_0 (d_t_0.1), oX0 (q_t 1) q_t_1 (upd d_t_1.1 7 x2)] := hD
              refine lv_goto (tgt := 143) hx hb dX6_put_133 (by decide) ?_
              refine lv_iload_n hx hb dX6_put_143 rfl (lv_at hl 0 rfl) ?_
              have e9 := Option.some.inj hf
              subst e9
              exact hR _ _ _ _ dX6_put_144 hP hS
        · replace hf := g36.1 c35
          refine lv_iload_n hx hb dX6_put_72 rfl (lv_at hl 2 rfl) ?_
          refine lv_bipush (v := (-2)) hx hb dX6_put_73 rfl ?_
          refine lv_iconst (v := 2) hx hb dX6_put_75 rfl ?_
          obtain ⟨r47, e48, hf⟩ := bind_some hf
          refine callSi (As := [.int x2, .int (-2), .int 2]) (rest := []) M (mX6_isWithin l D cs sk  k x2 (-2) 2 e48) mw_X6_121 ln_X6_isWithin ⟨rfl, rfl, Nat.le_of_ble_eq_true rfl, Nat.le_of_ble_eq_true rfl⟩ hP hD hS hA [] (by decide) rfl rfl ⟨Nat.zero_le _, Nat.zero_le _⟩ hl.1 rfl (Nat.le_of_ble_eq_true rfl) dX6_put_76 (fun H locs hP hD hS => ?_)
          replace hP : va_P D vwCl [oX6 h_t q_t (d_t.1), oX4 (q_t 0) q_t_0 (d_t_0.1), oX0 (q_t 1) q_t_1 (d_t_1.1)] H := hP
          replace hD : va_D A [oX6 h_t q_t (d_t.1), oX4 (q_t 0) q_t_0 (d_t_0.1), oX0 (q_t 1) q_t_1 (d_t_1.1)] := hD
          have g50 := ite_some hf
          refine lv_if_eq (tgt := 101) hx hb dX6_put_79 (by decide) (fun c49 => ?_) (fun c49 => ?_)
          · replace hf := g50.1 c49
            refine lv_iload_n hx hb dX6_put_101 rfl (lv_at hl 1 rfl) ?_
            refine lv_iconst (v := 3) hx hb dX6_put_102 rfl ?_
            have g52 := ite_some hf
            refine lv_icmp_ne (tgt := 136) hx hb dX6_put_103 (by decide) (fun c51 => ?_) (fun c51 => ?_)
            · replace hf := g52.2 c51
              refine lv_aload_n hx hb dX6_put_136 rfl (lv_at hl 0 rfl) ?_
              refine lv_bipush (v := (-10)) hx hb dX6_put_137 rfl ?_
              obtain ⟨r53, e54, hf⟩ := bind_some hf
              refine callVi (As := [.int (-10)]) (rest := []) M (mX6_refuseBad l D cs sk h_t q_t k d_t (-10) e54) mw_X6_96 ln_X6_refuseBad ⟨rfl, rfl, Nat.le_of_ble_eq_true rfl, Nat.le_of_ble_eq_true rfl⟩ hP hD hS hA [0] (by decide) rfl rfl (q0 := 0) rfl rfl rfl ⟨Nat.zero_le _, Nat.zero_le _⟩ hl.1 rfl (Nat.le_of_ble_eq_true rfl) dX6_put_139 (fun H locs hP hD hS => ?_)
              replace hP : va_P D vwCl [oX6 h_t q_t (r53.2.1), oX4 (q_t 0) q_t_0 (d_t_0.1), oX0 (q_t 1) q_t_1 (d_t_1.1)] H := hP
              replace hD : va_D A [oX6 h_t q_t (r53.2.1), oX4 (q_t 0) q_t_0 (d_t_0.1), oX0 (q_t 1) q_t_1 (d_t_1.1)] := hD
              refine lv_istore_n (lv' := [(3, .int (r53.1)), (0, .ref h_t), (1, .int x1), (2, .int x2)]) hx hb dX6_put_142 rfl hl (by decide) rfl (fun ls hl => ?_)
              refine lv_iload_n hx hb dX6_put_143 rfl (lv_at hl 0 rfl) ?_
              have e9 := Option.some.inj hf
              subst e9
              exact hR _ _ _ _ dX6_put_144 hP hS
            · replace hf := g52.1 c51
              refine lv_iload_n hx hb dX6_put_106 rfl (lv_at hl 2 rfl) ?_
              refine lv_iconst (v := 0) hx hb dX6_put_107 rfl ?_
              refine lv_sipush (v := 999) hx hb dX6_put_108 rfl ?_
              obtain ⟨r55, e56, hf⟩ := bind_some hf
              refine callSi (As := [.int x2, .int 0, .int 999]) (rest := []) M (mX6_isWithin l D cs sk  k x2 0 999 e56) mw_X6_121 ln_X6_isWithin ⟨rfl, rfl, Nat.le_of_ble_eq_true rfl, Nat.le_of_ble_eq_true rfl⟩ hP hD hS hA [] (by decide) rfl rfl ⟨Nat.zero_le _, Nat.zero_le _⟩ hl.1 rfl (Nat.le_of_ble_eq_true rfl) dX6_put_111 (fun H locs hP hD hS => ?_)
              replace hP : va_P D vwCl [oX6 h_t q_t (d_t.1), oX4 (q_t 0) q_t_0 (d_t_0.1), oX0 (q_t 1) q_t_1 (d_t_1.1)] H := hP
              replace hD : va_D A [oX6 h_t q_t (d_t.1), oX4 (q_t 0) q_t_0 (d_t_0.1), oX0 (q_t 1) q_t_1 (d_t_1.1)] := hD
              have g58 := ite_some hf
              refine lv_if_eq (tgt := 136) hx hb dX6_put_114 (by decide) (fun c57 => ?_) (fun c57 => ?_)
              · replace hf := g58.1 c57
                refine lv_aload_n hx hb dX6_put_136 rfl (lv_at hl 0 rfl) ?_
                refine lv_bipush (v := (-10)) hx hb dX6_put_137 rfl ?_
                obtain ⟨r59, e60, hf⟩ := bind_some hf
                refine callVi (As := [.int (-10)]) (rest := []) M (mX6_refuseBad l D cs sk h_t q_t k d_t (-10) e60) mw_X6_96 ln_X6_refuseBad ⟨rfl, rfl, Nat.le_of_ble_eq_true rfl, Nat.le_of_ble_eq_true rfl⟩ hP hD hS hA [0] (by decide) rfl rfl (q0 := 0) rfl rfl rfl ⟨Nat.zero_le _, Nat.zero_le _⟩ hl.1 rfl (Nat.le_of_ble_eq_true rfl) dX6_put_139 (fun H locs hP hD hS => ?_)
                replace hP : va_P D vwCl [oX6 h_t q_t (r59.2.1), oX4 (q_t 0) q_t_0 (d_t_0.1), oX0 (q_t 1) q_t_1 (d_t_1.1)] H := hP
                replace hD : va_D A [oX6 h_t q_t (r59.2.1), oX4 (q_t 0) q_t_0 (d_t_0.1), oX0 (q_t 1) q_t_1 (d_t_1.1)] := hD
                refine lv_istore_n (lv' := [(3, .int (r59.1)), (0, .ref h_t), (1, .int x1), (2, .int x2)]) hx hb dX6_put_142 rfl hl (by decide) rfl (fun ls hl => ?_)
                refine lv_iload_n hx hb dX6_put_143 rfl (lv_at hl 0 rfl) ?_
                have e9 := Option.some.inj hf
                subst e9
                exact hR _ _ _ _ dX6_put_144 hP hS
              · replace hf := g58.2 c57
                refine lv_aload_n hx hb dX6_put_117 rfl (lv_at hl 0 rfl) ?_
                refine va_get (D := D) (ci := 6) (v := .ref (q_t 1)) (C := RX6) (T := TX6) (N := 18) hx hb hT iX6 hown hK hP 0 rfl rfl 1 (by decide) (hT _ fw_X6_19) (fun _ h9 => h9) rfl dX6_put_118 ?_
                refine va_get (D := D) (ci := 0) (v := .int (d_t_1.1 7)) (C := RX0) (T := TX0) (N := 10) hx hb hT iX0 hown hK hP 2 rfl rfl 7 (by decide) (hT _ fw_X6_134) (fun _ h9 => h9) rfl dX6_put_121 ?_
                refine lv_istore_n (lv' := [(3, .int (d_t_1.1 7)), (0, .ref h_t), (1, .int x1), (2, .int x2)]) hx hb dX6_put_124 rfl hl (by decide) rfl (fun ls hl => ?_)
                refine lv_aload_n hx hb dX6_put_125 rfl (lv_at hl 1 rfl) ?_
                refine va_get (D := D) (ci := 6) (v := .ref (q_t 1)) (C := RX6) (T := TX6) (N := 18) hx hb hT iX6 hown hK hP 0 rfl rfl 1 (by decide) (hT _ fw_X6_19) (fun _ h9 => h9) rfl dX6_put_126 ?_
                refine lv_iload_n hx hb dX6_put_129 rfl (lv_at hl 3 rfl) ?_
                refine va_put (D := D) (ci := 0) (v := .int x2) (ty := tyX0 7) (C := RX0) (T := TX0) (N := 10) hx hb hT iX0 tyX0 tyX0_ok nmX0 hown hK hP hD hS 2 rfl rfl 7 (by decide) (hT _ fw_X6_134) (fun _ h9 => h9) rfl (tyX0_ok 7 (by decide)) rfl rfl (Nat.le_of_ble_eq_true rfl) dX6_put_130 (fun H locs hP hD hS => ?_)
                replace hP : va_P D vwCl [oX6 h_t q_t (d_t.1), oX4 (q_t 0) q_t_0 (d_t_0.1), oX0 (q_t 1) q_t_1 (upd d_t_1.1 7 x2)] H := hP
                replace hD : va_D A [oX6 h_t q_t (d_t.1), oX4 (q_t 0) q_t_0 (d_t_0.1), oX0 (q_t 1) q_t_1 (upd d_t_1.1 7 x2)] := hD
                refine lv_goto (tgt := 143) hx hb dX6_put_133 (by decide) ?_
                refine lv_iload_n hx hb dX6_put_143 rfl (lv_at hl 0 rfl) ?_
                have e9 := Option.some.inj hf
                subst e9
                exact hR _ _ _ _ dX6_put_144 hP hS
          · replace hf := g50.2 c49
            refine lv_aload_n hx hb dX6_put_82 rfl (lv_at hl 0 rfl) ?_
            refine va_get (D := D) (ci := 6) (v := .ref (q_t 0)) (C := RX6) (T := TX6) (N := 18) hx hb hT iX6 hown hK hP 0 rfl rfl 0 (by decide) (hT _ fw_X6_10) (fun _ h9 => h9) rfl dX6_put_83 ?_
            refine va_get (D := D) (ci := 4) (v := .int (d_t_0.1 10)) (C := RX4) (T := TX4) (N := 11) hx hb hT iX4 hown hK hP 1 rfl rfl 10 (by decide) (hT _ fw_X6_131) (fun _ h9 => h9) rfl dX6_put_86 ?_
            refine lv_istore_n (lv' := [(3, .int (d_t_0.1 10)), (0, .ref h_t), (1, .int x1), (2, .int x2)]) hx hb dX6_put_89 rfl hl (by decide) rfl (fun ls hl => ?_)
            refine lv_aload_n hx hb dX6_put_90 rfl (lv_at hl 1 rfl) ?_
            refine va_get (D := D) (ci := 6) (v := .ref (q_t 0)) (C := RX6) (T := TX6) (N := 18) hx hb hT iX6 hown hK hP 0 rfl rfl 0 (by decide) (hT _ fw_X6_10) (fun _ h9 => h9) rfl dX6_put_91 ?_
            refine lv_iload_n hx hb dX6_put_94 rfl (lv_at hl 3 rfl) ?_
            refine va_put (D := D) (ci := 4) (v := .int x2) (ty := tyX4 10) (C := RX4) (T := TX4) (N := 11) hx hb hT iX4 tyX4 tyX4_ok nmX4 hown hK hP hD hS 1 rfl rfl 10 (by decide) (hT _ fw_X6_131) (fun _ h9 => h9) rfl (tyX4_ok 10 (by decide)) rfl rfl (Nat.le_of_ble_eq_true rfl) dX6_put_95 (fun H locs hP hD hS => ?_)
            replace hP : va_P D vwCl [oX6 h_t q_t (d_t.1), oX4 (q_t 0) q_t_0 (upd d_t_0.1 10 x2), oX0 (q_t 1) q_t_1 (d_t_1.1)] H := hP
            replace hD : va_D A [oX6 h_t q_t (d_t.1), oX4 (q_t 0) q_t_0 (upd d_t_0.1 10 x2), oX0 (q_t 1) q_t_1 (d_t_1.1)] := hD
            refine lv_goto (tgt := 143) hx hb dX6_put_98 (by decide) ?_
            refine lv_iload_n hx hb dX6_put_143 rfl (lv_at hl 0 rfl) ?_
            have e9 := Option.some.inj hf
            subst e9
            exact hR _ _ _ _ dX6_put_144 hP hS
      · replace hf := g34.2 c33
        refine lv_aload_n hx hb dX6_put_48 rfl (lv_at hl 0 rfl) ?_
        refine va_get (D := D) (ci := 6) (v := .ref (q_t 0)) (C := RX6) (T := TX6) (N := 18) hx hb hT iX6 hown hK hP 0 rfl rfl 0 (by decide) (hT _ fw_X6_10) (fun _ h9 => h9) rfl dX6_put_49 ?_
        refine va_get (D := D) (ci := 4) (v := .int (d_t_0.1 9)) (C := RX4) (T := TX4) (N := 11) hx hb hT iX4 hown hK hP 1 rfl rfl 9 (by decide) (hT _ fw_X6_128) (fun _ h9 => h9) rfl dX6_put_52 ?_
        refine lv_istore_n (lv' := [(3, .int (d_t_0.1 9)), (0, .ref h_t), (1, .int x1), (2, .int x2)]) hx hb dX6_put_55 rfl hl (by decide) rfl (fun ls hl => ?_)
        refine lv_aload_n hx hb dX6_put_56 rfl (lv_at hl 1 rfl) ?_
        refine va_get (D := D) (ci := 6) (v := .ref (q_t 0)) (C := RX6) (T := TX6) (N := 18) hx hb hT iX6 hown hK hP 0 rfl rfl 0 (by decide) (hT _ fw_X6_10) (fun _ h9 => h9) rfl dX6_put_57 ?_
        refine lv_iload_n hx hb dX6_put_60 rfl (lv_at hl 3 rfl) ?_
        refine va_put (D := D) (ci := 4) (v := .int x2) (ty := tyX4 9) (C := RX4) (T := TX4) (N := 11) hx hb hT iX4 tyX4 tyX4_ok nmX4 hown hK hP hD hS 1 rfl rfl 9 (by decide) (hT _ fw_X6_128) (fun _ h9 => h9) rfl (tyX4_ok 9 (by decide)) rfl rfl (Nat.le_of_ble_eq_true rfl) dX6_put_61 (fun H locs hP hD hS => ?_)
        replace hP : va_P D vwCl [oX6 h_t q_t (d_t.1), oX4 (q_t 0) q_t_0 (upd d_t_0.1 9 x2), oX0 (q_t 1) q_t_1 (d_t_1.1)] H := hP
        replace hD : va_D A [oX6 h_t q_t (d_t.1), oX4 (q_t 0) q_t_0 (upd d_t_0.1 9 x2), oX0 (q_t 1) q_t_1 (d_t_1.1)] := hD
        refine lv_goto (tgt := 143) hx hb dX6_put_64 (by decide) ?_
        refine lv_iload_n hx hb dX6_put_143 rfl (lv_at hl 0 rfl) ?_
        have e9 := Option.some.inj hf
        subst e9
        exact hR _ _ _ _ dX6_put_144 hP hS
  · replace hf := g2.1 c1
    refine lv_iload_n hx hb dX6_put_4 rfl (lv_at hl 2 rfl) ?_
    refine lv_iconst (v := 1) hx hb dX6_put_5 rfl ?_
    refine lv_bipush (v := 9) hx hb dX6_put_6 rfl ?_
    obtain ⟨r61, e62, hf⟩ := bind_some hf
    refine callSi (As := [.int x2, .int 1, .int 9]) (rest := []) M (mX6_isWithin l D cs sk  k x2 1 9 e62) mw_X6_121 ln_X6_isWithin ⟨rfl, rfl, Nat.le_of_ble_eq_true rfl, Nat.le_of_ble_eq_true rfl⟩ hP hD hS hA [] (by decide) rfl rfl ⟨Nat.zero_le _, Nat.zero_le _⟩ hl.1 rfl (Nat.le_of_ble_eq_true rfl) dX6_put_8 (fun H locs hP hD hS => ?_)
    replace hP : va_P D vwCl [oX6 h_t q_t (d_t.1), oX4 (q_t 0) q_t_0 (d_t_0.1), oX0 (q_t 1) q_t_1 (d_t_1.1)] H := hP
    replace hD : va_D A [oX6 h_t q_t (d_t.1), oX4 (q_t 0) q_t_0 (d_t_0.1), oX0 (q_t 1) q_t_1 (d_t_1.1)] := hD
    have g64 := ite_some hf
    refine lv_if_eq (tgt := 33) hx hb dX6_put_11 (by decide) (fun c63 => ?_) (fun c63 => ?_)
    · replace hf := g64.1 c63
      refine lv_iload_n hx hb dX6_put_33 rfl (lv_at hl 1 rfl) ?_
      refine lv_iconst (v := 1) hx hb dX6_put_34 rfl ?_
      have g66 := ite_some hf
      refine lv_icmp_ne (tgt := 67) hx hb dX6_put_35 (by decide) (fun c65 => ?_) (fun c65 => ?_)
      · replace hf := g66.2 c65
        refine lv_iload_n hx hb dX6_put_67 rfl (lv_at hl 1 rfl) ?_
        refine lv_iconst (v := 2) hx hb dX6_put_68 rfl ?_
        have g68 := ite_some hf
        refine lv_icmp_ne (tgt := 101) hx hb dX6_put_69 (by decide) (fun c67 => ?_) (fun c67 => ?_)
        · replace hf := g68.2 c67
          refine lv_iload_n hx hb dX6_put_101 rfl (lv_at hl 1 rfl) ?_
          refine lv_iconst (v := 3) hx hb dX6_put_102 rfl ?_
          have g70 := ite_some hf
          refine lv_icmp_ne (tgt := 136) hx hb dX6_put_103 (by decide) (fun c69 => ?_) (fun c69 => ?_)
          · replace hf := g70.2 c69
            refine lv_aload_n hx hb dX6_put_136 rfl (lv_at hl 0 rfl) ?_
            refine lv_bipush (v := (-10)) hx hb dX6_put_137 rfl ?_
            obtain ⟨r71, e72, hf⟩ := bind_some hf
            refine callVi (As := [.int (-10)]) (rest := []) M (mX6_refuseBad l D cs sk h_t q_t k d_t (-10) e72) mw_X6_96 ln_X6_refuseBad ⟨rfl, rfl, Nat.le_of_ble_eq_true rfl, Nat.le_of_ble_eq_true rfl⟩ hP hD hS hA [0] (by decide) rfl rfl (q0 := 0) rfl rfl rfl ⟨Nat.zero_le _, Nat.zero_le _⟩ hl.1 rfl (Nat.le_of_ble_eq_true rfl) dX6_put_139 (fun H locs hP hD hS => ?_)
            replace hP : va_P D vwCl [oX6 h_t q_t (r71.2.1), oX4 (q_t 0) q_t_0 (d_t_0.1), oX0 (q_t 1) q_t_1 (d_t_1.1)] H := hP
            replace hD : va_D A [oX6 h_t q_t (r71.2.1), oX4 (q_t 0) q_t_0 (d_t_0.1), oX0 (q_t 1) q_t_1 (d_t_1.1)] := hD
            refine lv_istore_n (lv' := [(3, .int (r71.1)), (0, .ref h_t), (1, .int x1), (2, .int x2)]) hx hb dX6_put_142 rfl hl (by decide) rfl (fun ls hl => ?_)
            refine lv_iload_n hx hb dX6_put_143 rfl (lv_at hl 0 rfl) ?_
            have e9 := Option.some.inj hf
            subst e9
            exact hR _ _ _ _ dX6_put_144 hP hS
          · replace hf := g70.1 c69
            refine lv_iload_n hx hb dX6_put_106 rfl (lv_at hl 2 rfl) ?_
            refine lv_iconst (v := 0) hx hb dX6_put_107 rfl ?_
            refine lv_sipush (v := 999) hx hb dX6_put_108 rfl ?_
            obtain ⟨r73, e74, hf⟩ := bind_some hf
            refine callSi (As := [.int x2, .int 0, .int 999]) (rest := []) M (mX6_isWithin l D cs sk  k x2 0 999 e74) mw_X6_121 ln_X6_isWithin ⟨rfl, rfl, Nat.le_of_ble_eq_true rfl, Nat.le_of_ble_eq_true rfl⟩ hP hD hS hA [] (by decide) rfl rfl ⟨Nat.zero_le _, Nat.zero_le _⟩ hl.1 rfl (Nat.le_of_ble_eq_true rfl) dX6_put_111 (fun H locs hP hD hS => ?_)
            replace hP : va_P D vwCl [oX6 h_t q_t (d_t.1), oX4 (q_t 0) q_t_0 (d_t_0.1), oX0 (q_t 1) q_t_1 (d_t_1.1)] H := hP
            replace hD : va_D A [oX6 h_t q_t (d_t.1), oX4 (q_t 0) q_t_0 (d_t_0.1), oX0 (q_t 1) q_t_1 (d_t_1.1)] := hD
            have g76 := ite_some hf
            refine lv_if_eq (tgt := 136) hx hb dX6_put_114 (by decide) (fun c75 => ?_) (fun c75 => ?_)
            · replace hf := g76.1 c75
              refine lv_aload_n hx hb dX6_put_136 rfl (lv_at hl 0 rfl) ?_
              refine lv_bipush (v := (-10)) hx hb dX6_put_137 rfl ?_
              obtain ⟨r77, e78, hf⟩ := bind_some hf
              refine callVi (As := [.int (-10)]) (rest := []) M (mX6_refuseBad l D cs sk h_t q_t k d_t (-10) e78) mw_X6_96 ln_X6_refuseBad ⟨rfl, rfl, Nat.le_of_ble_eq_true rfl, Nat.le_of_ble_eq_true rfl⟩ hP hD hS hA [0] (by decide) rfl rfl (q0 := 0) rfl rfl rfl ⟨Nat.zero_le _, Nat.zero_le _⟩ hl.1 rfl (Nat.le_of_ble_eq_true rfl) dX6_put_139 (fun H locs hP hD hS => ?_)
              replace hP : va_P D vwCl [oX6 h_t q_t (r77.2.1), oX4 (q_t 0) q_t_0 (d_t_0.1), oX0 (q_t 1) q_t_1 (d_t_1.1)] H := hP
              replace hD : va_D A [oX6 h_t q_t (r77.2.1), oX4 (q_t 0) q_t_0 (d_t_0.1), oX0 (q_t 1) q_t_1 (d_t_1.1)] := hD
              refine lv_istore_n (lv' := [(3, .int (r77.1)), (0, .ref h_t), (1, .int x1), (2, .int x2)]) hx hb dX6_put_142 rfl hl (by decide) rfl (fun ls hl => ?_)
              refine lv_iload_n hx hb dX6_put_143 rfl (lv_at hl 0 rfl) ?_
              have e9 := Option.some.inj hf
              subst e9
              exact hR _ _ _ _ dX6_put_144 hP hS
            · replace hf := g76.2 c75
              refine lv_aload_n hx hb dX6_put_117 rfl (lv_at hl 0 rfl) ?_
              refine va_get (D := D) (ci := 6) (v := .ref (q_t 1)) (C := RX6) (T := TX6) (N := 18) hx hb hT iX6 hown hK hP 0 rfl rfl 1 (by decide) (hT _ fw_X6_19) (fun _ h9 => h9) rfl dX6_put_118 ?_
              refine va_get (D := D) (ci := 0) (v := .int (d_t_1.1 7)) (C := RX0) (T := TX0) (N := 10) hx hb hT iX0 hown hK hP 2 rfl rfl 7 (by decide) (hT _ fw_X6_134) (fun _ h9 => h9) rfl dX6_put_121 ?_
              refine lv_istore_n (lv' := [(3, .int (d_t_1.1 7)), (0, .ref h_t), (1, .int x1), (2, .int x2)]) hx hb dX6_put_124 rfl hl (by decide) rfl (fun ls hl => ?_)
              refine lv_aload_n hx hb dX6_put_125 rfl (lv_at hl 1 rfl) ?_
              refine va_get (D := D) (ci := 6) (v := .ref (q_t 1)) (C := RX6) (T := TX6) (N := 18) hx hb hT iX6 hown hK hP 0 rfl rfl 1 (by decide) (hT _ fw_X6_19) (fun _ h9 => h9) rfl dX6_put_126 ?_
              refine lv_iload_n hx hb dX6_put_129 rfl (lv_at hl 3 rfl) ?_
              refine va_put (D := D) (ci := 0) (v := .int x2) (ty := tyX0 7) (C := RX0) (T := TX0) (N := 10) hx hb hT iX0 tyX0 tyX0_ok nmX0 hown hK hP hD hS 2 rfl rfl 7 (by decide) (hT _ fw_X6_134) (fun _ h9 => h9) rfl (tyX0_ok 7 (by decide)) rfl rfl (Nat.le_of_ble_eq_true rfl) dX6_put_130 (fun H locs hP hD hS => ?_)
              replace hP : va_P D vwCl [oX6 h_t q_t (d_t.1), oX4 (q_t 0) q_t_0 (d_t_0.1), oX0 (q_t 1) q_t_1 (upd d_t_1.1 7 x2)] H := hP
              replace hD : va_D A [oX6 h_t q_t (d_t.1), oX4 (q_t 0) q_t_0 (d_t_0.1), oX0 (q_t 1) q_t_1 (upd d_t_1.1 7 x2)] := hD
              refine lv_goto (tgt := 143) hx hb dX6_put_133 (by decide) ?_
              refine lv_iload_n hx hb dX6_put_143 rfl (lv_at hl 0 rfl) ?_
              have e9 := Option.some.inj hf
              subst e9
              exact hR _ _ _ _ dX6_put_144 hP hS
        · replace hf := g68.1 c67
          refine lv_iload_n hx hb dX6_put_72 rfl (lv_at hl 2 rfl) ?_
          refine lv_bipush (v := (-2)) hx hb dX6_put_73 rfl ?_
          refine lv_iconst (v := 2) hx hb dX6_put_75 rfl ?_
          obtain ⟨r79, e80, hf⟩ := bind_some hf
          refine callSi (As := [.int x2, .int (-2), .int 2]) (rest := []) M (mX6_isWithin l D cs sk  k x2 (-2) 2 e80) mw_X6_121 ln_X6_isWithin ⟨rfl, rfl, Nat.le_of_ble_eq_true rfl, Nat.le_of_ble_eq_true rfl⟩ hP hD hS hA [] (by decide) rfl rfl ⟨Nat.zero_le _, Nat.zero_le _⟩ hl.1 rfl (Nat.le_of_ble_eq_true rfl) dX6_put_76 (fun H locs hP hD hS => ?_)
          replace hP : va_P D vwCl [oX6 h_t q_t (d_t.1), oX4 (q_t 0) q_t_0 (d_t_0.1), oX0 (q_t 1) q_t_1 (d_t_1.1)] H := hP
          replace hD : va_D A [oX6 h_t q_t (d_t.1), oX4 (q_t 0) q_t_0 (d_t_0.1), oX0 (q_t 1) q_t_1 (d_t_1.1)] := hD
          have g82 := ite_some hf
          refine lv_if_eq (tgt := 101) hx hb dX6_put_79 (by decide) (fun c81 => ?_) (fun c81 => ?_)
          · replace hf := g82.1 c81
            refine lv_iload_n hx hb dX6_put_101 rfl (lv_at hl 1 rfl) ?_
            refine lv_iconst (v := 3) hx hb dX6_put_102 rfl ?_
            have g84 := ite_some hf
            refine lv_icmp_ne (tgt := 136) hx hb dX6_put_103 (by decide) (fun c83 => ?_) (fun c83 => ?_)
            · replace hf := g84.2 c83
              refine lv_aload_n hx hb dX6_put_136 rfl (lv_at hl 0 rfl) ?_
              refine lv_bipush (v := (-10)) hx hb dX6_put_137 rfl ?_
              obtain ⟨r85, e86, hf⟩ := bind_some hf
              refine callVi (As := [.int (-10)]) (rest := []) M (mX6_refuseBad l D cs sk h_t q_t k d_t (-10) e86) mw_X6_96 ln_X6_refuseBad ⟨rfl, rfl, Nat.le_of_ble_eq_true rfl, Nat.le_of_ble_eq_true rfl⟩ hP hD hS hA [0] (by decide) rfl rfl (q0 := 0) rfl rfl rfl ⟨Nat.zero_le _, Nat.zero_le _⟩ hl.1 rfl (Nat.le_of_ble_eq_true rfl) dX6_put_139 (fun H locs hP hD hS => ?_)
              replace hP : va_P D vwCl [oX6 h_t q_t (r85.2.1), oX4 (q_t 0) q_t_0 (d_t_0.1), oX0 (q_t 1) q_t_1 (d_t_1.1)] H := hP
              replace hD : va_D A [oX6 h_t q_t (r85.2.1), oX4 (q_t 0) q_t_0 (d_t_0.1), oX0 (q_t 1) q_t_1 (d_t_1.1)] := hD
              refine lv_istore_n (lv' := [(3, .int (r85.1)), (0, .ref h_t), (1, .int x1), (2, .int x2)]) hx hb dX6_put_142 rfl hl (by decide) rfl (fun ls hl => ?_)
              refine lv_iload_n hx hb dX6_put_143 rfl (lv_at hl 0 rfl) ?_
              have e9 := Option.some.inj hf
              subst e9
              exact hR _ _ _ _ dX6_put_144 hP hS
            · replace hf := g84.1 c83
              refine lv_iload_n hx hb dX6_put_106 rfl (lv_at hl 2 rfl) ?_
              refine lv_iconst (v := 0) hx hb dX6_put_107 rfl ?_
              refine lv_sipush (v := 999) hx hb dX6_put_108 rfl ?_
              obtain ⟨r87, e88, hf⟩ := bind_some hf
              refine callSi (As := [.int x2, .int 0, .int 999]) (rest := []) M (mX6_isWithin l D cs sk  k x2 0 999 e88) mw_X6_121 ln_X6_isWithin ⟨rfl, rfl, Nat.le_of_ble_eq_true rfl, Nat.le_of_ble_eq_true rfl⟩ hP hD hS hA [] (by decide) rfl rfl ⟨Nat.zero_le _, Nat.zero_le _⟩ hl.1 rfl (Nat.le_of_ble_eq_true rfl) dX6_put_111 (fun H locs hP hD hS => ?_)
              replace hP : va_P D vwCl [oX6 h_t q_t (d_t.1), oX4 (q_t 0) q_t_0 (d_t_0.1), oX0 (q_t 1) q_t_1 (d_t_1.1)] H := hP
              replace hD : va_D A [oX6 h_t q_t (d_t.1), oX4 (q_t 0) q_t_0 (d_t_0.1), oX0 (q_t 1) q_t_1 (d_t_1.1)] := hD
              have g90 := ite_some hf
              refine lv_if_eq (tgt := 136) hx hb dX6_put_114 (by decide) (fun c89 => ?_) (fun c89 => ?_)
              · replace hf := g90.1 c89
                refine lv_aload_n hx hb dX6_put_136 rfl (lv_at hl 0 rfl) ?_
                refine lv_bipush (v := (-10)) hx hb dX6_put_137 rfl ?_
                obtain ⟨r91, e92, hf⟩ := bind_some hf
                refine callVi (As := [.int (-10)]) (rest := []) M (mX6_refuseBad l D cs sk h_t q_t k d_t (-10) e92) mw_X6_96 ln_X6_refuseBad ⟨rfl, rfl, Nat.le_of_ble_eq_true rfl, Nat.le_of_ble_eq_true rfl⟩ hP hD hS hA [0] (by decide) rfl rfl (q0 := 0) rfl rfl rfl ⟨Nat.zero_le _, Nat.zero_le _⟩ hl.1 rfl (Nat.le_of_ble_eq_true rfl) dX6_put_139 (fun H locs hP hD hS => ?_)
                replace hP : va_P D vwCl [oX6 h_t q_t (r91.2.1), oX4 (q_t 0) q_t_0 (d_t_0.1), oX0 (q_t 1) q_t_1 (d_t_1.1)] H := hP
                replace hD : va_D A [oX6 h_t q_t (r91.2.1), oX4 (q_t 0) q_t_0 (d_t_0.1), oX0 (q_t 1) q_t_1 (d_t_1.1)] := hD
                refine lv_istore_n (lv' := [(3, .int (r91.1)), (0, .ref h_t), (1, .int x1), (2, .int x2)]) hx hb dX6_put_142 rfl hl (by decide) rfl (fun ls hl => ?_)
                refine lv_iload_n hx hb dX6_put_143 rfl (lv_at hl 0 rfl) ?_
                have e9 := Option.some.inj hf
                subst e9
                exact hR _ _ _ _ dX6_put_144 hP hS
              · replace hf := g90.2 c89
                refine lv_aload_n hx hb dX6_put_117 rfl (lv_at hl 0 rfl) ?_
                refine va_get (D := D) (ci := 6) (v := .ref (q_t 1)) (C := RX6) (T := TX6) (N := 18) hx hb hT iX6 hown hK hP 0 rfl rfl 1 (by decide) (hT _ fw_X6_19) (fun _ h9 => h9) rfl dX6_put_118 ?_
                refine va_get (D := D) (ci := 0) (v := .int (d_t_1.1 7)) (C := RX0) (T := TX0) (N := 10) hx hb hT iX0 hown hK hP 2 rfl rfl 7 (by decide) (hT _ fw_X6_134) (fun _ h9 => h9) rfl dX6_put_121 ?_
                refine lv_istore_n (lv' := [(3, .int (d_t_1.1 7)), (0, .ref h_t), (1, .int x1), (2, .int x2)]) hx hb dX6_put_124 rfl hl (by decide) rfl (fun ls hl => ?_)
                refine lv_aload_n hx hb dX6_put_125 rfl (lv_at hl 1 rfl) ?_
                refine va_get (D := D) (ci := 6) (v := .ref (q_t 1)) (C := RX6) (T := TX6) (N := 18) hx hb hT iX6 hown hK hP 0 rfl rfl 1 (by decide) (hT _ fw_X6_19) (fun _ h9 => h9) rfl dX6_put_126 ?_
                refine lv_iload_n hx hb dX6_put_129 rfl (lv_at hl 3 rfl) ?_
                refine va_put (D := D) (ci := 0) (v := .int x2) (ty := tyX0 7) (C := RX0) (T := TX0) (N := 10) hx hb hT iX0 tyX0 tyX0_ok nmX0 hown hK hP hD hS 2 rfl rfl 7 (by decide) (hT _ fw_X6_134) (fun _ h9 => h9) rfl (tyX0_ok 7 (by decide)) rfl rfl (Nat.le_of_ble_eq_true rfl) dX6_put_130 (fun H locs hP hD hS => ?_)
                replace hP : va_P D vwCl [oX6 h_t q_t (d_t.1), oX4 (q_t 0) q_t_0 (d_t_0.1), oX0 (q_t 1) q_t_1 (upd d_t_1.1 7 x2)] H := hP
                replace hD : va_D A [oX6 h_t q_t (d_t.1), oX4 (q_t 0) q_t_0 (d_t_0.1), oX0 (q_t 1) q_t_1 (upd d_t_1.1 7 x2)] := hD
                refine lv_goto (tgt := 143) hx hb dX6_put_133 (by decide) ?_
                refine lv_iload_n hx hb dX6_put_143 rfl (lv_at hl 0 rfl) ?_
                have e9 := Option.some.inj hf
                subst e9
                exact hR _ _ _ _ dX6_put_144 hP hS
          · replace hf := g82.2 c81
            refine lv_aload_n hx hb dX6_put_82 rfl (lv_at hl 0 rfl) ?_
            refine va_get (D := D) (ci := 6) (v := .ref (q_t 0)) (C := RX6) (T := TX6) (N := 18) hx hb hT iX6 hown hK hP 0 rfl rfl 0 (by decide) (hT _ fw_X6_10) (fun _ h9 => h9) rfl dX6_put_83 ?_
            refine va_get (D := D) (ci := 4) (v := .int (d_t_0.1 10)) (C := RX4) (T := TX4) (N := 11) hx hb hT iX4 hown hK hP 1 rfl rfl 10 (by decide) (hT _ fw_X6_131) (fun _ h9 => h9) rfl dX6_put_86 ?_
            refine lv_istore_n (lv' := [(3, .int (d_t_0.1 10)), (0, .ref h_t), (1, .int x1), (2, .int x2)]) hx hb dX6_put_89 rfl hl (by decide) rfl (fun ls hl => ?_)
            refine lv_aload_n hx hb dX6_put_90 rfl (lv_at hl 1 rfl) ?_
            refine va_get (D := D) (ci := 6) (v := .ref (q_t 0)) (C := RX6) (T := TX6) (N := 18) hx hb hT iX6 hown hK hP 0 rfl rfl 0 (by decide) (hT _ fw_X6_10) (fun _ h9 => h9) rfl dX6_put_91 ?_
            refine lv_iload_n hx hb dX6_put_94 rfl (lv_at hl 3 rfl) ?_
            refine va_put (D := D) (ci := 4) (v := .int x2) (ty := tyX4 10) (C := RX4) (T := TX4) (N := 11) hx hb hT iX4 tyX4 tyX4_ok nmX4 hown hK hP hD hS 1 rfl rfl 10 (by decide) (hT _ fw_X6_131) (fun _ h9 => h9) rfl (tyX4_ok 10 (by decide)) rfl rfl (Nat.le_of_ble_eq_true rfl) dX6_put_95 (fun H locs hP hD hS => ?_)
            replace hP : va_P D vwCl [oX6 h_t q_t (d_t.1), oX4 (q_t 0) q_t_0 (upd d_t_0.1 10 x2), oX0 (q_t 1) q_t_1 (d_t_1.1)] H := hP
            replace hD : va_D A [oX6 h_t q_t (d_t.1), oX4 (q_t 0) q_t_0 (upd d_t_0.1 10 x2), oX0 (q_t 1) q_t_1 (d_t_1.1)] := hD
            refine lv_goto (tgt := 143) hx hb dX6_put_98 (by decide) ?_
            refine lv_iload_n hx hb dX6_put_143 rfl (lv_at hl 0 rfl) ?_
            have e9 := Option.some.inj hf
            subst e9
            exact hR _ _ _ _ dX6_put_144 hP hS
      · replace hf := g66.1 c65
        refine lv_iload_n hx hb dX6_put_38 rfl (lv_at hl 2 rfl) ?_
        refine lv_bipush (v := (-2)) hx hb dX6_put_39 rfl ?_
        refine lv_iconst (v := 2) hx hb dX6_put_41 rfl ?_
        obtain ⟨r93, e94, hf⟩ := bind_some hf
        refine callSi (As := [.int x2, .int (-2), .int 2]) (rest := []) M (mX6_isWithin l D cs sk  k x2 (-2) 2 e94) mw_X6_121 ln_X6_isWithin ⟨rfl, rfl, Nat.le_of_ble_eq_true rfl, Nat.le_of_ble_eq_true rfl⟩ hP hD hS hA [] (by decide) rfl rfl ⟨Nat.zero_le _, Nat.zero_le _⟩ hl.1 rfl (Nat.le_of_ble_eq_true rfl) dX6_put_42 (fun H locs hP hD hS => ?_)
        replace hP : va_P D vwCl [oX6 h_t q_t (d_t.1), oX4 (q_t 0) q_t_0 (d_t_0.1), oX0 (q_t 1) q_t_1 (d_t_1.1)] H := hP
        replace hD : va_D A [oX6 h_t q_t (d_t.1), oX4 (q_t 0) q_t_0 (d_t_0.1), oX0 (q_t 1) q_t_1 (d_t_1.1)] := hD
        have g96 := ite_some hf
        refine lv_if_eq (tgt := 67) hx hb dX6_put_45 (by decide) (fun c95 => ?_) (fun c95 => ?_)
        · replace hf := g96.1 c95
          refine lv_iload_n hx hb dX6_put_67 rfl (lv_at hl 1 rfl) ?_
          refine lv_iconst (v := 2) hx hb dX6_put_68 rfl ?_
          have g98 := ite_some hf
          refine lv_icmp_ne (tgt := 101) hx hb dX6_put_69 (by decide) (fun c97 => ?_) (fun c97 => ?_)
          · replace hf := g98.2 c97
            refine lv_iload_n hx hb dX6_put_101 rfl (lv_at hl 1 rfl) ?_
            refine lv_iconst (v := 3) hx hb dX6_put_102 rfl ?_
            have g100 := ite_some hf
            refine lv_icmp_ne (tgt := 136) hx hb dX6_put_103 (by decide) (fun c99 => ?_) (fun c99 => ?_)
            · replace hf := g100.2 c99
              refine lv_aload_n hx hb dX6_put_136 rfl (lv_at hl 0 rfl) ?_
              refine lv_bipush (v := (-10)) hx hb dX6_put_137 rfl ?_
              obtain ⟨r101, e102, hf⟩ := bind_some hf
              refine callVi (As := [.int (-10)]) (rest := []) M (mX6_refuseBad l D cs sk h_t q_t k d_t (-10) e102) mw_X6_96 ln_X6_refuseBad ⟨rfl, rfl, Nat.le_of_ble_eq_true rfl, Nat.le_of_ble_eq_true rfl⟩ hP hD hS hA [0] (by decide) rfl rfl (q0 := 0) rfl rfl rfl ⟨Nat.zero_le _, Nat.zero_le _⟩ hl.1 rfl (Nat.le_of_ble_eq_true rfl) dX6_put_139 (fun H locs hP hD hS => ?_)
              replace hP : va_P D vwCl [oX6 h_t q_t (r101.2.1), oX4 (q_t 0) q_t_0 (d_t_0.1), oX0 (q_t 1) q_t_1 (d_t_1.1)] H := hP
              replace hD : va_D A [oX6 h_t q_t (r101.2.1), oX4 (q_t 0) q_t_0 (d_t_0.1), oX0 (q_t 1) q_t_1 (d_t_1.1)] := hD
              refine lv_istore_n (lv' := [(3, .int (r101.1)), (0, .ref h_t), (1, .int x1), (2, .int x2)]) hx hb dX6_put_142 rfl hl (by decide) rfl (fun ls hl => ?_)
              refine lv_iload_n hx hb dX6_put_143 rfl (lv_at hl 0 rfl) ?_
              have e9 := Option.some.inj hf
              subst e9
              exact hR _ _ _ _ dX6_put_144 hP hS
            · replace hf := g100.1 c99
              refine lv_iload_n hx hb dX6_put_106 rfl (lv_at hl 2 rfl) ?_
              refine lv_iconst (v := 0) hx hb dX6_put_107 rfl ?_
              refine lv_sipush (v := 999) hx hb dX6_put_108 rfl ?_
              obtain ⟨r103, e104, hf⟩ := bind_some hf
              refine callSi (As := [.int x2, .int 0, .int 999]) (rest := []) M (mX6_isWithin l D cs sk  k x2 0 999 e104) mw_X6_121 ln_X6_isWithin ⟨rfl, rfl, Nat.le_of_ble_eq_true rfl, Nat.le_of_ble_eq_true rfl⟩ hP hD hS hA [] (by decide) rfl rfl ⟨Nat.zero_le _, Nat.zero_le _⟩ hl.1 rfl (Nat.le_of_ble_eq_true rfl) dX6_put_111 (fun H locs hP hD hS => ?_)
              replace hP : va_P D vwCl [oX6 h_t q_t (d_t.1), oX4 (q_t 0) q_t_0 (d_t_0.1), oX0 (q_t 1) q_t_1 (d_t_1.1)] H := hP
              replace hD : va_D A [oX6 h_t q_t (d_t.1), oX4 (q_t 0) q_t_0 (d_t_0.1), oX0 (q_t 1) q_t_1 (d_t_1.1)] := hD
              have g106 := ite_some hf
              refine lv_if_eq (tgt := 136) hx hb dX6_put_114 (by decide) (fun c105 => ?_) (fun c105 => ?_)
              · replace hf := g106.1 c105
                refine lv_aload_n hx hb dX6_put_136 rfl (lv_at hl 0 rfl) ?_
                refine lv_bipush (v := (-10)) hx hb dX6_put_137 rfl ?_
                obtain ⟨r107, e108, hf⟩ := bind_some hf
                refine callVi (As := [.int (-10)]) (rest := []) M (mX6_refuseBad l D cs sk h_t q_t k d_t (-10) e108) mw_X6_96 ln_X6_refuseBad ⟨rfl, rfl, Nat.le_of_ble_eq_true rfl, Nat.le_of_ble_eq_true rfl⟩ hP hD hS hA [0] (by decide) rfl rfl (q0 := 0) rfl rfl rfl ⟨Nat.zero_le _, Nat.zero_le _⟩ hl.1 rfl (Nat.le_of_ble_eq_true rfl) dX6_put_139 (fun H locs hP hD hS => ?_)
                replace hP : va_P D vwCl [oX6 h_t q_t (r107.2.1), oX4 (q_t 0) q_t_0 (d_t_0.1), oX0 (q_t 1) q_t_1 (d_t_1.1)] H := hP
                replace hD : va_D A [oX6 h_t q_t (r107.2.1), oX4 (q_t 0) q_t_0 (d_t_0.1), oX0 (q_t 1) q_t_1 (d_t_1.1)] := hD
                refine lv_istore_n (lv' := [(3, .int (r107.1)), (0, .ref h_t), (1, .int x1), (2, .int x2)]) hx hb dX6_put_142 rfl hl (by decide) rfl (fun ls hl => ?_)
                refine lv_iload_n hx hb dX6_put_143 rfl (lv_at hl 0 rfl) ?_
                have e9 := Option.some.inj hf
                subst e9
                exact hR _ _ _ _ dX6_put_144 hP hS
              · replace hf := g106.2 c105
                refine lv_aload_n hx hb dX6_put_117 rfl (lv_at hl 0 rfl) ?_
                refine va_get (D := D) (ci := 6) (v := .ref (q_t 1)) (C := RX6) (T := TX6) (N := 18) hx hb hT iX6 hown hK hP 0 rfl rfl 1 (by decide) (hT _ fw_X6_19) (fun _ h9 => h9) rfl dX6_put_118 ?_
                refine va_get (D := D) (ci := 0) (v := .int (d_t_1.1 7)) (C := RX0) (T := TX0) (N := 10) hx hb hT iX0 hown hK hP 2 rfl rfl 7 (by decide) (hT _ fw_X6_134) (fun _ h9 => h9) rfl dX6_put_121 ?_
                refine lv_istore_n (lv' := [(3, .int (d_t_1.1 7)), (0, .ref h_t), (1, .int x1), (2, .int x2)]) hx hb dX6_put_124 rfl hl (by decide) rfl (fun ls hl => ?_)
                refine lv_aload_n hx hb dX6_put_125 rfl (lv_at hl 1 rfl) ?_
                refine va_get (D := D) (ci := 6) (v := .ref (q_t 1)) (C := RX6) (T := TX6) (N := 18) hx hb hT iX6 hown hK hP 0 rfl rfl 1 (by decide) (hT _ fw_X6_19) (fun _ h9 => h9) rfl dX6_put_126 ?_
                refine lv_iload_n hx hb dX6_put_129 rfl (lv_at hl 3 rfl) ?_
                refine va_put (D := D) (ci := 0) (v := .int x2) (ty := tyX0 7) (C := RX0) (T := TX0) (N := 10) hx hb hT iX0 tyX0 tyX0_ok nmX0 hown hK hP hD hS 2 rfl rfl 7 (by decide) (hT _ fw_X6_134) (fun _ h9 => h9) rfl (tyX0_ok 7 (by decide)) rfl rfl (Nat.le_of_ble_eq_true rfl) dX6_put_130 (fun H locs hP hD hS => ?_)
                replace hP : va_P D vwCl [oX6 h_t q_t (d_t.1), oX4 (q_t 0) q_t_0 (d_t_0.1), oX0 (q_t 1) q_t_1 (upd d_t_1.1 7 x2)] H := hP
                replace hD : va_D A [oX6 h_t q_t (d_t.1), oX4 (q_t 0) q_t_0 (d_t_0.1), oX0 (q_t 1) q_t_1 (upd d_t_1.1 7 x2)] := hD
                refine lv_goto (tgt := 143) hx hb dX6_put_133 (by decide) ?_
                refine lv_iload_n hx hb dX6_put_143 rfl (lv_at hl 0 rfl) ?_
                have e9 := Option.some.inj hf
                subst e9
                exact hR _ _ _ _ dX6_put_144 hP hS
          · replace hf := g98.1 c97
            refine lv_iload_n hx hb dX6_put_72 rfl (lv_at hl 2 rfl) ?_
            refine lv_bipush (v := (-2)) hx hb dX6_put_73 rfl ?_
            refine lv_iconst (v := 2) hx hb dX6_put_75 rfl ?_
            obtain ⟨r109, e110, hf⟩ := bind_some hf
            refine callSi (As := [.int x2, .int (-2), .int 2]) (rest := []) M (mX6_isWithin l D cs sk  k x2 (-2) 2 e110) mw_X6_121 ln_X6_isWithin ⟨rfl, rfl, Nat.le_of_ble_eq_true rfl, Nat.le_of_ble_eq_true rfl⟩ hP hD hS hA [] (by decide) rfl rfl ⟨Nat.zero_le _, Nat.zero_le _⟩ hl.1 rfl (Nat.le_of_ble_eq_true rfl) dX6_put_76 (fun H locs hP hD hS => ?_)
            replace hP : va_P D vwCl [oX6 h_t q_t (d_t.1), oX4 (q_t 0) q_t_0 (d_t_0.1), oX0 (q_t 1) q_t_1 (d_t_1.1)] H := hP
            replace hD : va_D A [oX6 h_t q_t (d_t.1), oX4 (q_t 0) q_t_0 (d_t_0.1), oX0 (q_t 1) q_t_1 (d_t_1.1)] := hD
            have g112 := ite_some hf
            refine lv_if_eq (tgt := 101) hx hb dX6_put_79 (by decide) (fun c111 => ?_) (fun c111 => ?_)
            · replace hf := g112.1 c111
              refine lv_iload_n hx hb dX6_put_101 rfl (lv_at hl 1 rfl) ?_
              refine lv_iconst (v := 3) hx hb dX6_put_102 rfl ?_
              have g114 := ite_some hf
              refine lv_icmp_ne (tgt := 136) hx hb dX6_put_103 (by decide) (fun c113 => ?_) (fun c113 => ?_)
              · replace hf := g114.2 c113
                refine lv_aload_n hx hb dX6_put_136 rfl (lv_at hl 0 rfl) ?_
                refine lv_bipush (v := (-10)) hx hb dX6_put_137 rfl ?_
                obtain ⟨r115, e116, hf⟩ := bind_some hf
                refine callVi (As := [.int (-10)]) (rest := []) M (mX6_refuseBad l D cs sk h_t q_t k d_t (-10) e116) mw_X6_96 ln_X6_refuseBad ⟨rfl, rfl, Nat.le_of_ble_eq_true rfl, Nat.le_of_ble_eq_true rfl⟩ hP hD hS hA [0] (by decide) rfl rfl (q0 := 0) rfl rfl rfl ⟨Nat.zero_le _, Nat.zero_le _⟩ hl.1 rfl (Nat.le_of_ble_eq_true rfl) dX6_put_139 (fun H locs hP hD hS => ?_)
                replace hP : va_P D vwCl [oX6 h_t q_t (r115.2.1), oX4 (q_t 0) q_t_0 (d_t_0.1), oX0 (q_t 1) q_t_1 (d_t_1.1)] H := hP
                replace hD : va_D A [oX6 h_t q_t (r115.2.1), oX4 (q_t 0) q_t_0 (d_t_0.1), oX0 (q_t 1) q_t_1 (d_t_1.1)] := hD
                refine lv_istore_n (lv' := [(3, .int (r115.1)), (0, .ref h_t), (1, .int x1), (2, .int x2)]) hx hb dX6_put_142 rfl hl (by decide) rfl (fun ls hl => ?_)
                refine lv_iload_n hx hb dX6_put_143 rfl (lv_at hl 0 rfl) ?_
                have e9 := Option.some.inj hf
                subst e9
                exact hR _ _ _ _ dX6_put_144 hP hS
              · replace hf := g114.1 c113
                refine lv_iload_n hx hb dX6_put_106 rfl (lv_at hl 2 rfl) ?_
                refine lv_iconst (v := 0) hx hb dX6_put_107 rfl ?_
                refine lv_sipush (v := 999) hx hb dX6_put_108 rfl ?_
                obtain ⟨r117, e118, hf⟩ := bind_some hf
                refine callSi (As := [.int x2, .int 0, .int 999]) (rest := []) M (mX6_isWithin l D cs sk  k x2 0 999 e118) mw_X6_121 ln_X6_isWithin ⟨rfl, rfl, Nat.le_of_ble_eq_true rfl, Nat.le_of_ble_eq_true rfl⟩ hP hD hS hA [] (by decide) rfl rfl ⟨Nat.zero_le _, Nat.zero_le _⟩ hl.1 rfl (Nat.le_of_ble_eq_true rfl) dX6_put_111 (fun H locs hP hD hS => ?_)
                replace hP : va_P D vwCl [oX6 h_t q_t (d_t.1), oX4 (q_t 0) q_t_0 (d_t_0.1), oX0 (q_t 1) q_t_1 (d_t_1.1)] H := hP
                replace hD : va_D A [oX6 h_t q_t (d_t.1), oX4 (q_t 0) q_t_0 (d_t_0.1), oX0 (q_t 1) q_t_1 (d_t_1.1)] := hD
                have g120 := ite_some hf
                refine lv_if_eq (tgt := 136) hx hb dX6_put_114 (by decide) (fun c119 => ?_) (fun c119 => ?_)
                · replace hf := g120.1 c119
                  refine lv_aload_n hx hb dX6_put_136 rfl (lv_at hl 0 rfl) ?_
                  refine lv_bipush (v := (-10)) hx hb dX6_put_137 rfl ?_
                  obtain ⟨r121, e122, hf⟩ := bind_some hf
                  refine callVi (As := [.int (-10)]) (rest := []) M (mX6_refuseBad l D cs sk h_t q_t k d_t (-10) e122) mw_X6_96 ln_X6_refuseBad ⟨rfl, rfl, Nat.le_of_ble_eq_true rfl, Nat.le_of_ble_eq_true rfl⟩ hP hD hS hA [0] (by decide) rfl rfl (q0 := 0) rfl rfl rfl ⟨Nat.zero_le _, Nat.zero_le _⟩ hl.1 rfl (Nat.le_of_ble_eq_true rfl) dX6_put_139 (fun H locs hP hD hS => ?_)
                  replace hP : va_P D vwCl [oX6 h_t q_t (r121.2.1), oX4 (q_t 0) q_t_0 (d_t_0.1), oX0 (q_t 1) q_t_1 (d_t_1.1)] H := hP
                  replace hD : va_D A [oX6 h_t q_t (r121.2.1), oX4 (q_t 0) q_t_0 (d_t_0.1), oX0 (q_t 1) q_t_1 (d_t_1.1)] := hD
                  refine lv_istore_n (lv' := [(3, .int (r121.1)), (0, .ref h_t), (1, .int x1), (2, .int x2)]) hx hb dX6_put_142 rfl hl (by decide) rfl (fun ls hl => ?_)
                  refine lv_iload_n hx hb dX6_put_143 rfl (lv_at hl 0 rfl) ?_
                  have e9 := Option.some.inj hf
                  subst e9
                  exact hR _ _ _ _ dX6_put_144 hP hS
                · replace hf := g120.2 c119
                  refine lv_aload_n hx hb dX6_put_117 rfl (lv_at hl 0 rfl) ?_
                  refine va_get (D := D) (ci := 6) (v := .ref (q_t 1)) (C := RX6) (T := TX6) (N := 18) hx hb hT iX6 hown hK hP 0 rfl rfl 1 (by decide) (hT _ fw_X6_19) (fun _ h9 => h9) rfl dX6_put_118 ?_
                  refine va_get (D := D) (ci := 0) (v := .int (d_t_1.1 7)) (C := RX0) (T := TX0) (N := 10) hx hb hT iX0 hown hK hP 2 rfl rfl 7 (by decide) (hT _ fw_X6_134) (fun _ h9 => h9) rfl dX6_put_121 ?_
                  refine lv_istore_n (lv' := [(3, .int (d_t_1.1 7)), (0, .ref h_t), (1, .int x1), (2, .int x2)]) hx hb dX6_put_124 rfl hl (by decide) rfl (fun ls hl => ?_)
                  refine lv_aload_n hx hb dX6_put_125 rfl (lv_at hl 1 rfl) ?_
                  refine va_get (D := D) (ci := 6) (v := .ref (q_t 1)) (C := RX6) (T := TX6) (N := 18) hx hb hT iX6 hown hK hP 0 rfl rfl 1 (by decide) (hT _ fw_X6_19) (fun _ h9 => h9) rfl dX6_put_126 ?_
                  refine lv_iload_n hx hb dX6_put_129 rfl (lv_at hl 3 rfl) ?_
                  refine va_put (D := D) (ci := 0) (v := .int x2) (ty := tyX0 7) (C := RX0) (T := TX0) (N := 10) hx hb hT iX0 tyX0 tyX0_ok nmX0 hown hK hP hD hS 2 rfl rfl 7 (by decide) (hT _ fw_X6_134) (fun _ h9 => h9) rfl (tyX0_ok 7 (by decide)) rfl rfl (Nat.le_of_ble_eq_true rfl) dX6_put_130 (fun H locs hP hD hS => ?_)
                  replace hP : va_P D vwCl [oX6 h_t q_t (d_t.1), oX4 (q_t 0) q_t_0 (d_t_0.1), oX0 (q_t 1) q_t_1 (upd d_t_1.1 7 x2)] H := hP
                  replace hD : va_D A [oX6 h_t q_t (d_t.1), oX4 (q_t 0) q_t_0 (d_t_0.1), oX0 (q_t 1) q_t_1 (upd d_t_1.1 7 x2)] := hD
                  refine lv_goto (tgt := 143) hx hb dX6_put_133 (by decide) ?_
                  refine lv_iload_n hx hb dX6_put_143 rfl (lv_at hl 0 rfl) ?_
                  have e9 := Option.some.inj hf
                  subst e9
                  exact hR _ _ _ _ dX6_put_144 hP hS
            · replace hf := g112.2 c111
              refine lv_aload_n hx hb dX6_put_82 rfl (lv_at hl 0 rfl) ?_
              refine va_get (D := D) (ci := 6) (v := .ref (q_t 0)) (C := RX6) (T := TX6) (N := 18) hx hb hT iX6 hown hK hP 0 rfl rfl 0 (by decide) (hT _ fw_X6_10) (fun _ h9 => h9) rfl dX6_put_83 ?_
              refine va_get (D := D) (ci := 4) (v := .int (d_t_0.1 10)) (C := RX4) (T := TX4) (N := 11) hx hb hT iX4 hown hK hP 1 rfl rfl 10 (by decide) (hT _ fw_X6_131) (fun _ h9 => h9) rfl dX6_put_86 ?_
              refine lv_istore_n (lv' := [(3, .int (d_t_0.1 10)), (0, .ref h_t), (1, .int x1), (2, .int x2)]) hx hb dX6_put_89 rfl hl (by decide) rfl (fun ls hl => ?_)
              refine lv_aload_n hx hb dX6_put_90 rfl (lv_at hl 1 rfl) ?_
              refine va_get (D := D) (ci := 6) (v := .ref (q_t 0)) (C := RX6) (T := TX6) (N := 18) hx hb hT iX6 hown hK hP 0 rfl rfl 0 (by decide) (hT _ fw_X6_10) (fun _ h9 => h9) rfl dX6_put_91 ?_
              refine lv_iload_n hx hb dX6_put_94 rfl (lv_at hl 3 rfl) ?_
              refine va_put (D := D) (ci := 4) (v := .int x2) (ty := tyX4 10) (C := RX4) (T := TX4) (N := 11) hx hb hT iX4 tyX4 tyX4_ok nmX4 hown hK hP hD hS 1 rfl rfl 10 (by decide) (hT _ fw_X6_131) (fun _ h9 => h9) rfl (tyX4_ok 10 (by decide)) rfl rfl (Nat.le_of_ble_eq_true rfl) dX6_put_95 (fun H locs hP hD hS => ?_)
              replace hP : va_P D vwCl [oX6 h_t q_t (d_t.1), oX4 (q_t 0) q_t_0 (upd d_t_0.1 10 x2), oX0 (q_t 1) q_t_1 (d_t_1.1)] H := hP
              replace hD : va_D A [oX6 h_t q_t (d_t.1), oX4 (q_t 0) q_t_0 (upd d_t_0.1 10 x2), oX0 (q_t 1) q_t_1 (d_t_1.1)] := hD
              refine lv_goto (tgt := 143) hx hb dX6_put_98 (by decide) ?_
              refine lv_iload_n hx hb dX6_put_143 rfl (lv_at hl 0 rfl) ?_
              have e9 := Option.some.inj hf
              subst e9
              exact hR _ _ _ _ dX6_put_144 hP hS
        · replace hf := g96.2 c95
          refine lv_aload_n hx hb dX6_put_48 rfl (lv_at hl 0 rfl) ?_
          refine va_get (D := D) (ci := 6) (v := .ref (q_t 0)) (C := RX6) (T := TX6) (N := 18) hx hb hT iX6 hown hK hP 0 rfl rfl 0 (by decide) (hT _ fw_X6_10) (fun _ h9 => h9) rfl dX6_put_49 ?_
          refine va_get (D := D) (ci := 4) (v := .int (d_t_0.1 9)) (C := RX4) (T := TX4) (N := 11) hx hb hT iX4 hown hK hP 1 rfl rfl 9 (by decide) (hT _ fw_X6_128) (fun _ h9 => h9) rfl dX6_put_52 ?_
          refine lv_istore_n (lv' := [(3, .int (d_t_0.1 9)), (0, .ref h_t), (1, .int x1), (2, .int x2)]) hx hb dX6_put_55 rfl hl (by decide) rfl (fun ls hl => ?_)
          refine lv_aload_n hx hb dX6_put_56 rfl (lv_at hl 1 rfl) ?_
          refine va_get (D := D) (ci := 6) (v := .ref (q_t 0)) (C := RX6) (T := TX6) (N := 18) hx hb hT iX6 hown hK hP 0 rfl rfl 0 (by decide) (hT _ fw_X6_10) (fun _ h9 => h9) rfl dX6_put_57 ?_
          refine lv_iload_n hx hb dX6_put_60 rfl (lv_at hl 3 rfl) ?_
          refine va_put (D := D) (ci := 4) (v := .int x2) (ty := tyX4 9) (C := RX4) (T := TX4) (N := 11) hx hb hT iX4 tyX4 tyX4_ok nmX4 hown hK hP hD hS 1 rfl rfl 9 (by decide) (hT _ fw_X6_128) (fun _ h9 => h9) rfl (tyX4_ok 9 (by decide)) rfl rfl (Nat.le_of_ble_eq_true rfl) dX6_put_61 (fun H locs hP hD hS => ?_)
          replace hP : va_P D vwCl [oX6 h_t q_t (d_t.1), oX4 (q_t 0) q_t_0 (upd d_t_0.1 9 x2), oX0 (q_t 1) q_t_1 (d_t_1.1)] H := hP
          replace hD : va_D A [oX6 h_t q_t (d_t.1), oX4 (q_t 0) q_t_0 (upd d_t_0.1 9 x2), oX0 (q_t 1) q_t_1 (d_t_1.1)] := hD
          refine lv_goto (tgt := 143) hx hb dX6_put_64 (by decide) ?_
          refine lv_iload_n hx hb dX6_put_143 rfl (lv_at hl 0 rfl) ?_
          have e9 := Option.some.inj hf
          subst e9
          exact hR _ _ _ _ dX6_put_144 hP hS
    · replace hf := g64.2 c63
      refine lv_aload_n hx hb dX6_put_14 rfl (lv_at hl 0 rfl) ?_
      refine va_get (D := D) (ci := 6) (v := .ref (q_t 0)) (C := RX6) (T := TX6) (N := 18) hx hb hT iX6 hown hK hP 0 rfl rfl 0 (by decide) (hT _ fw_X6_10) (fun _ h9 => h9) rfl dX6_put_15 ?_
      refine va_get (D := D) (ci := 4) (v := .int (d_t_0.1 8)) (C := RX4) (T := TX4) (N := 11) hx hb hT iX4 hown hK hP 1 rfl rfl 8 (by decide) (hT _ fw_X6_125) (fun _ h9 => h9) rfl dX6_put_18 ?_
      refine lv_istore_n (lv' := [(3, .int (d_t_0.1 8)), (0, .ref h_t), (1, .int x1), (2, .int x2)]) hx hb dX6_put_21 rfl hl (by decide) rfl (fun ls hl => ?_)
      refine lv_aload_n hx hb dX6_put_22 rfl (lv_at hl 1 rfl) ?_
      refine va_get (D := D) (ci := 6) (v := .ref (q_t 0)) (C := RX6) (T := TX6) (N := 18) hx hb hT iX6 hown hK hP 0 rfl rfl 0 (by decide) (hT _ fw_X6_10) (fun _ h9 => h9) rfl dX6_put_23 ?_
      refine lv_iload_n hx hb dX6_put_26 rfl (lv_at hl 3 rfl) ?_
      refine va_put (D := D) (ci := 4) (v := .int x2) (ty := tyX4 8) (C := RX4) (T := TX4) (N := 11) hx hb hT iX4 tyX4 tyX4_ok nmX4 hown hK hP hD hS 1 rfl rfl 8 (by decide) (hT _ fw_X6_125) (fun _ h9 => h9) rfl (tyX4_ok 8 (by decide)) rfl rfl (Nat.le_of_ble_eq_true rfl) dX6_put_27 (fun H locs hP hD hS => ?_)
      replace hP : va_P D vwCl [oX6 h_t q_t (d_t.1), oX4 (q_t 0) q_t_0 (upd d_t_0.1 8 x2), oX0 (q_t 1) q_t_1 (d_t_1.1)] H := hP
      replace hD : va_D A [oX6 h_t q_t (d_t.1), oX4 (q_t 0) q_t_0 (upd d_t_0.1 8 x2), oX0 (q_t 1) q_t_1 (d_t_1.1)] := hD
      refine lv_goto (tgt := 143) hx hb dX6_put_30 (by decide) ?_
      refine lv_iload_n hx hb dX6_put_143 rfl (lv_at hl 0 rfl) ?_
      have e9 := Option.some.inj hf
      subst e9
      exact hR _ _ _ _ dX6_put_144 hP hS
abbrev rm_X6_hasWindow : Room := { frames := 0, cells := 0, slots := 0, locals := 0 }
def fX6_hasWindow (k : Nat) (d_t : Dat) (d_t_0 : Dat) (x1 : Int32) : Option (Int32) :=
  (if x1 < 0 then some 0 else (if (d_t_0.1 0) ≤ x1 then some 0 else some 1))
set_option maxHeartbeats 4000000 in
set_option maxRecDepth 100000 in
theorem mX6_hasWindow (l : Launch) (D : va_G) (cs : Nat → ClassId) (sk : Nat → Nat) (h_t : Nat) (q_t : Nat → Nat) (q_t_0 : Nat → Nat) (k : Nat) (d_t : Dat) (d_t_0 : Dat) (x1 : Int32) {rv : Int32} (hf : fX6_hasWindow k d_t d_t_0 x1 = some rv) : CTi l yX6_hasWindow (Cond.code yX6_hasWindow cX6_hasWindow 2 (some .boolean) :: gtbl) rm_X6_hasWindow D cs sk [.ref h_t, .int x1] [oX6 h_t q_t (d_t.1), oX4 (q_t 0) q_t_0 (d_t_0.1)] (rv) [oX6 h_t q_t (d_t.1), oX4 (q_t 0) q_t_0 (d_t_0.1)] := by
  refine CTi.ofZ RX6 (by decide +kernel) rfl (Nat.le_of_ble_eq_true rfl) (fun p e s m args below meth c A Q ls M hA hR hl hP hD hS => ?_)
  obtain ⟨hx, hb, hml, hT, hown, hlk, hrt, hK, hN, hSE⟩ := id M
  replace hl : lv_has ls 2 [(0, .ref h_t), (1, .int x1)] := hl
  unfold fX6_hasWindow at hf
  refine lv_iload_n hx hb dX6_hasWindow_0 rfl (lv_at hl 1 rfl) ?_
  have g2 := ite_some hf
  refine lv_if_lt (tgt := 19) hx hb dX6_hasWindow_1 (by decide) (fun c1 => ?_) (fun c1 => ?_)
  · replace hf := g2.1 c1
    refine lv_iconst (v := 0) hx hb dX6_hasWindow_19 rfl ?_
    have e9 := Option.some.inj hf
    subst e9
    exact hR _ _ _ _ dX6_hasWindow_20 (Or.inl rfl) hP hS
  · replace hf := g2.2 c1
    refine lv_iload_n hx hb dX6_hasWindow_4 rfl (lv_at hl 1 rfl) ?_
    refine lv_aload_n hx hb dX6_hasWindow_5 rfl (lv_at hl 0 rfl) ?_
    refine va_get (D := D) (ci := 6) (v := .ref (q_t 0)) (C := RX6) (T := TX6) (N := 18) hx hb hT iX6 hown hK hP 0 rfl rfl 0 (by decide) (hT _ fw_X6_10) (fun _ h9 => h9) rfl dX6_hasWindow_6 ?_
    refine va_get (D := D) (ci := 4) (v := .int (d_t_0.1 0)) (C := RX4) (T := TX4) (N := 11) hx hb hT iX4 hown hK hP 1 rfl rfl 0 (by decide) (hT _ fw_X6_100) (fun _ h9 => h9) rfl dX6_hasWindow_9 ?_
    have g4 := ite_some hf
    refine lv_icmp_ge (tgt := 19) hx hb dX6_hasWindow_12 (by decide) (fun c3 => ?_) (fun c3 => ?_)
    · replace hf := g4.1 c3
      refine lv_iconst (v := 0) hx hb dX6_hasWindow_19 rfl ?_
      have e9 := Option.some.inj hf
      subst e9
      exact hR _ _ _ _ dX6_hasWindow_20 (Or.inl rfl) hP hS
    · replace hf := g4.2 c3
      refine lv_iconst (v := 1) hx hb dX6_hasWindow_15 rfl ?_
      refine lv_goto (tgt := 20) hx hb dX6_hasWindow_16 (by decide) ?_
      have e9 := Option.some.inj hf
      subst e9
      exact hR _ _ _ _ dX6_hasWindow_20 (Or.inr rfl) hP hS
abbrev rm_X6_player : Room := { frames := 1, cells := 0, slots := 0, locals := 23 }
def fX6_player (k : Nat) (d_t : Dat) (d_t_0 : Dat) (d_t_1 : Dat) (x1 : Int32) (x2 : Int32) (x3 : Int32) : Option (Int32 × Dat × Dat) :=
  (fX6_isWithin k x1 0 5).bind (fun (r1 : Int32) => (if r1 = 0 then (fX6_refuseBad k d_t (-2)).bind (fun (r5 : Int32 × Dat) => some ((r5.1), (r5.2.1, d_t.2), d_t_1)) else (fX6_hasWindow k d_t d_t_0 x2).bind (fun (r7 : Int32) => (if r7 = 0 then (fX6_refuseBad k d_t (-2)).bind (fun (r11 : Int32 × Dat) => some ((r11.1), (r11.2.1, d_t.2), d_t_1)) else (fX6_isWithin k x3 1 99).bind (fun (r13 : Int32) => (if r13 = 0 then (fX6_refuseBad k d_t (-2)).bind (fun (r29 : Int32 × Dat) => some ((r29.1), (r29.2.1, d_t.2), d_t_1)) else (fX0_playsAt k d_t_1 x2).bind (fun (r17 : Int32) => (if r17 = 0 then (if (d_t_1.1 0) < 6 then (fX0_addPlayer k d_t_1 x1 x2 x3).bind (fun (r23 : Int32 × Dat) => some ((r23.1), d_t, (r23.2.1, (va_up (va_up (va_up (va_up (va_up d_t_1.2 1 (r23.2.2 1)) 2 (r23.2.2 2)) 3 (r23.2.2 3)) 4 (r23.2.2 4)) 5 (r23.2.2 5))))) else (fX6_refuseFull k d_t).bind (fun (r25 : Int32 × Dat) => some ((r25.1), (r25.2.1, d_t.2), d_t_1))) else (fX6_refuseBad k d_t (-2)).bind (fun (r27 : Int32 × Dat) => some ((r27.1), (r27.2.1, d_t.2), d_t_1))))))))))
set_option maxHeartbeats 4000000 in
set_option maxRecDepth 100000 in
theorem mX6_player (l : Launch) (D : va_G) (cs : Nat → ClassId) (sk : Nat → Nat) (h_t : Nat) (q_t : Nat → Nat) (q_t_0 : Nat → Nat) (q_t_1 : Nat → Nat) (k : Nat) (d_t : Dat) (d_t_0 : Dat) (d_t_1 : Dat) (x1 : Int32) (x2 : Int32) (x3 : Int32) {rv : Int32 × Dat × Dat} (hf : fX6_player k d_t d_t_0 d_t_1 x1 x2 x3 = some rv) : CTi l yX6_player (Cond.code yX6_player cX6_player 4 (some .int) :: gtbl) rm_X6_player D cs sk [.ref h_t, .int x1, .int x2, .int x3] [oX6 h_t q_t (d_t.1), oX4 (q_t 0) q_t_0 (d_t_0.1), oX0 (q_t 1) q_t_1 (d_t_1.1), ((q_t_1 1), .inl (cs 0, 6, .inl (d_t_1.2 1))), ((q_t_1 2), .inl (cs 0, 6, .inl (d_t_1.2 2))), ((q_t_1 3), .inl (cs 0, 6, .inl (d_t_1.2 3))), ((q_t_1 4), .inl (cs 0, 6, .inl (d_t_1.2 4))), ((q_t_1 5), .inl (cs 0, 6, .inl (d_t_1.2 5)))] (rv.1) [oX6 h_t q_t (rv.2.1.1), oX4 (q_t 0) q_t_0 (d_t_0.1), oX0 (q_t 1) q_t_1 (rv.2.2.1), ((q_t_1 1), .inl (cs 0, 6, .inl (rv.2.2.2 1))), ((q_t_1 2), .inl (cs 0, 6, .inl (rv.2.2.2 2))), ((q_t_1 3), .inl (cs 0, 6, .inl (rv.2.2.2 3))), ((q_t_1 4), .inl (cs 0, 6, .inl (rv.2.2.2 4))), ((q_t_1 5), .inl (cs 0, 6, .inl (rv.2.2.2 5)))] := by
  refine CTi.of RX6 (by decide +kernel) rfl (Nat.le_of_ble_eq_true rfl) (fun p e s m args below meth c A Q ls M hA hR hl hP hD hS => ?_)
  obtain ⟨hx, hb, hml, hT, hown, hlk, hrt, hK, hN, hSE⟩ := id M
  replace hl : lv_has ls 4 [(0, .ref h_t), (1, .int x1), (2, .int x2), (3, .int x3)] := hl
  unfold fX6_player at hf
  refine lv_iload_n hx hb dX6_player_0 rfl (lv_at hl 1 rfl) ?_
  refine lv_iconst (v := 0) hx hb dX6_player_1 rfl ?_
  refine lv_iconst (v := 5) hx hb dX6_player_2 rfl ?_
  obtain ⟨r1, e2, hf⟩ := bind_some hf
  refine callSi (As := [.int x1, .int 0, .int 5]) (rest := []) M (mX6_isWithin l D cs sk  k x1 0 5 e2) mw_X6_121 ln_X6_isWithin ⟨rfl, rfl, Nat.le_of_ble_eq_true rfl, Nat.le_of_ble_eq_true rfl⟩ hP hD hS hA [] (by decide) rfl rfl ⟨Nat.zero_le _, Nat.zero_le _⟩ hl.1 rfl (Nat.le_of_ble_eq_true rfl) dX6_player_3 (fun H locs hP hD hS => ?_)
  replace hP : va_P D vwCl [oX6 h_t q_t (d_t.1), oX4 (q_t 0) q_t_0 (d_t_0.1), oX0 (q_t 1) q_t_1 (d_t_1.1), ((q_t_1 1), .inl (cs 0, 6, .inl (d_t_1.2 1))), ((q_t_1 2), .inl (cs 0, 6, .inl (d_t_1.2 2))), ((q_t_1 3), .inl (cs 0, 6, .inl (d_t_1.2 3))), ((q_t_1 4), .inl (cs 0, 6, .inl (d_t_1.2 4))), ((q_t_1 5), .inl (cs 0, 6, .inl (d_t_1.2 5)))] H := hP
  replace hD : va_D A [oX6 h_t q_t (d_t.1), oX4 (q_t 0) q_t_0 (d_t_0.1), oX0 (q_t 1) q_t_1 (d_t_1.1), ((q_t_1 1), .inl (cs 0, 6, .inl (d_t_1.2 1))), ((q_t_1 2), .inl (cs 0, 6, .inl (d_t_1.2 2))), ((q_t_1 3), .inl (cs 0, 6, .inl (d_t_1.2 3))), ((q_t_1 4), .inl (cs 0, 6, .inl (d_t_1.2 4))), ((q_t_1 5), .inl (cs 0, 6, .inl (d_t_1.2 5)))] := hD
  have g4 := ite_some hf
  refine lv_if_eq (tgt := 27) hx hb dX6_player_6 (by decide) (fun c3 => ?_) (fun c3 => ?_)
  · replace hf := g4.1 c3
    refine lv_aload_n hx hb dX6_player_27 rfl (lv_at hl 0 rfl) ?_
    refine lv_bipush (v := (-2)) hx hb dX6_player_28 rfl ?_
    obtain ⟨r5, e6, hf⟩ := bind_some hf
    refine callVi (As := [.int (-2)]) (rest := []) M (mX6_refuseBad l D cs sk h_t q_t k d_t (-2) e6) mw_X6_96 ln_X6_refuseBad ⟨rfl, rfl, Nat.le_of_ble_eq_true rfl, Nat.le_of_ble_eq_true rfl⟩ hP hD hS hA [0] (by decide) rfl rfl (q0 := 0) rfl rfl rfl ⟨Nat.zero_le _, Nat.zero_le _⟩ hl.1 rfl (Nat.le_of_ble_eq_true rfl) dX6_player_30 (fun H locs hP hD hS => ?_)
    replace hP : va_P D vwCl [oX6 h_t q_t (r5.2.1), oX4 (q_t 0) q_t_0 (d_t_0.1), oX0 (q_t 1) q_t_1 (d_t_1.1), ((q_t_1 1), .inl (cs 0, 6, .inl (d_t_1.2 1))), ((q_t_1 2), .inl (cs 0, 6, .inl (d_t_1.2 2))), ((q_t_1 3), .inl (cs 0, 6, .inl (d_t_1.2 3))), ((q_t_1 4), .inl (cs 0, 6, .inl (d_t_1.2 4))), ((q_t_1 5), .inl (cs 0, 6, .inl (d_t_1.2 5)))] H := hP
    replace hD : va_D A [oX6 h_t q_t (r5.2.1), oX4 (q_t 0) q_t_0 (d_t_0.1), oX0 (q_t 1) q_t_1 (d_t_1.1), ((q_t_1 1), .inl (cs 0, 6, .inl (d_t_1.2 1))), ((q_t_1 2), .inl (cs 0, 6, .inl (d_t_1.2 2))), ((q_t_1 3), .inl (cs 0, 6, .inl (d_t_1.2 3))), ((q_t_1 4), .inl (cs 0, 6, .inl (d_t_1.2 4))), ((q_t_1 5), .inl (cs 0, 6, .inl (d_t_1.2 5)))] := hD
    have e9 := Option.some.inj hf
    subst e9
    exact hR _ _ _ _ dX6_player_33 hP hS
  · replace hf := g4.2 c3
    refine lv_aload_n hx hb dX6_player_9 rfl (lv_at hl 0 rfl) ?_
    refine lv_iload_n hx hb dX6_player_10 rfl (lv_at hl 2 rfl) ?_
    obtain ⟨r7, e8, hf⟩ := bind_some hf
    refine callVi (As := [.int x2]) (rest := []) M (mX6_hasWindow l D cs sk h_t q_t q_t_0 k d_t d_t_0 x2 e8) mw_X6_137 ln_X6_hasWindow ⟨rfl, rfl, Nat.le_of_ble_eq_true rfl, Nat.le_of_ble_eq_true rfl⟩ hP hD hS hA [0, 1] (by decide) rfl rfl (q0 := 0) rfl rfl rfl ⟨Nat.zero_le _, Nat.zero_le _⟩ hl.1 rfl (Nat.le_of_ble_eq_true rfl) dX6_player_11 (fun H locs hP hD hS => ?_)
    replace hP : va_P D vwCl [oX6 h_t q_t (d_t.1), oX4 (q_t 0) q_t_0 (d_t_0.1), oX0 (q_t 1) q_t_1 (d_t_1.1), ((q_t_1 1), .inl (cs 0, 6, .inl (d_t_1.2 1))), ((q_t_1 2), .inl (cs 0, 6, .inl (d_t_1.2 2))), ((q_t_1 3), .inl (cs 0, 6, .inl (d_t_1.2 3))), ((q_t_1 4), .inl (cs 0, 6, .inl (d_t_1.2 4))), ((q_t_1 5), .inl (cs 0, 6, .inl (d_t_1.2 5)))] H := hP
    replace hD : va_D A [oX6 h_t q_t (d_t.1), oX4 (q_t 0) q_t_0 (d_t_0.1), oX0 (q_t 1) q_t_1 (d_t_1.1), ((q_t_1 1), .inl (cs 0, 6, .inl (d_t_1.2 1))), ((q_t_1 2), .inl (cs 0, 6, .inl (d_t_1.2 2))), ((q_t_1 3), .inl (cs 0, 6, .inl (d_t_1.2 3))), ((q_t_1 4), .inl (cs 0, 6, .inl (d_t_1.2 4))), ((q_t_1 5), .inl (cs 0, 6, .inl (d_t_1.2 5)))] := hD
    have g10 := ite_some hf
    refine lv_if_eq (tgt := 27) hx hb dX6_player_14 (by decide) (fun c9 => ?_) (fun c9 => ?_)
    · replace hf := g10.1 c9
      refine lv_aload_n hx hb dX6_player_27 rfl (lv_at hl 0 rfl) ?_
      refine lv_bipush (v := (-2)) hx hb dX6_player_28 rfl ?_
      obtain ⟨r11, e12, hf⟩ := bind_some hf
      refine callVi (As := [.int (-2)]) (rest := []) M (mX6_refuseBad l D cs sk h_t q_t k d_t (-2) e12) mw_X6_96 ln_X6_refuseBad ⟨rfl, rfl, Nat.le_of_ble_eq_true rfl, Nat.le_of_ble_eq_true rfl⟩ hP hD hS hA [0] (by decide) rfl rfl (q0 := 0) rfl rfl rfl ⟨Nat.zero_le _, Nat.zero_le _⟩ hl.1 rfl (Nat.le_of_ble_eq_true rfl) dX6_player_30 (fun H locs hP hD hS => ?_)
      replace hP : va_P D vwCl [oX6 h_t q_t (r11.2.1), oX4 (q_t 0) q_t_0 (d_t_0.1), oX0 (q_t 1) q_t_1 (d_t_1.1), ((q_t_1 1), .inl (cs 0, 6, .inl (d_t_1.2 1))), ((q_t_1 2), .inl (cs 0, 6, .inl (d_t_1.2 2))), ((q_t_1 3), .inl (cs 0, 6, .inl (d_t_1.2 3))), ((q_t_1 4), .inl (cs 0, 6, .inl (d_t_1.2 4))), ((q_t_1 5), .inl (cs 0, 6, .inl (d_t_1.2 5)))] H := hP
      replace hD : va_D A [oX6 h_t q_t (r11.2.1), oX4 (q_t 0) q_t_0 (d_t_0.1), oX0 (q_t 1) q_t_1 (d_t_1.1), ((q_t_1 1), .inl (cs 0, 6, .inl (d_t_1.2 1))), ((q_t_1 2), .inl (cs 0, 6, .inl (d_t_1.2 2))), ((q_t_1 3), .inl (cs 0, 6, .inl (d_t_1.2 3))), ((q_t_1 4), .inl (cs 0, 6, .inl (d_t_1.2 4))), ((q_t_1 5), .inl (cs 0, 6, .inl (d_t_1.2 5)))] := hD
      have e9 := Option.some.inj hf
      subst e9
      exact hR _ _ _ _ dX6_player_33 hP hS
    · replace hf := g10.2 c9
      refine lv_iload_n hx hb dX6_player_17 rfl (lv_at hl 3 rfl) ?_
      refine lv_iconst (v := 1) hx hb dX6_player_18 rfl ?_
      refine lv_bipush (v := 99) hx hb dX6_player_19 rfl ?_
      obtain ⟨r13, e14, hf⟩ := bind_some hf
      refine callSi (As := [.int x3, .int 1, .int 99]) (rest := []) M (mX6_isWithin l D cs sk  k x3 1 99 e14) mw_X6_121 ln_X6_isWithin ⟨rfl, rfl, Nat.le_of_ble_eq_true rfl, Nat.le_of_ble_eq_true rfl⟩ hP hD hS hA [] (by decide) rfl rfl ⟨Nat.zero_le _, Nat.zero_le _⟩ hl.1 rfl (Nat.le_of_ble_eq_true rfl) dX6_player_21 (fun H locs hP hD hS => ?_)
      replace hP : va_P D vwCl [oX6 h_t q_t (d_t.1), oX4 (q_t 0) q_t_0 (d_t_0.1), oX0 (q_t 1) q_t_1 (d_t_1.1), ((q_t_1 1), .inl (cs 0, 6, .inl (d_t_1.2 1))), ((q_t_1 2), .inl (cs 0, 6, .inl (d_t_1.2 2))), ((q_t_1 3), .inl (cs 0, 6, .inl (d_t_1.2 3))), ((q_t_1 4), .inl (cs 0, 6, .inl (d_t_1.2 4))), ((q_t_1 5), .inl (cs 0, 6, .inl (d_t_1.2 5)))] H := hP
      replace hD : va_D A [oX6 h_t q_t (d_t.1), oX4 (q_t 0) q_t_0 (d_t_0.1), oX0 (q_t 1) q_t_1 (d_t_1.1), ((q_t_1 1), .inl (cs 0, 6, .inl (d_t_1.2 1))), ((q_t_1 2), .inl (cs 0, 6, .inl (d_t_1.2 2))), ((q_t_1 3), .inl (cs 0, 6, .inl (d_t_1.2 3))), ((q_t_1 4), .inl (cs 0, 6, .inl (d_t_1.2 4))), ((q_t_1 5), .inl (cs 0, 6, .inl (d_t_1.2 5)))] := hD
      have g16 := ite_some hf
      refine lv_if_ne (tgt := 34) hx hb dX6_player_24 (by decide) (fun c15 => ?_) (fun c15 => ?_)
      · replace hf := g16.2 c15
        refine lv_aload_n hx hb dX6_player_34 rfl (lv_at hl 0 rfl) ?_
        refine va_get (D := D) (ci := 6) (v := .ref (q_t 1)) (C := RX6) (T := TX6) (N := 18) hx hb hT iX6 hown hK hP 0 rfl rfl 1 (by decide) (hT _ fw_X6_19) (fun _ h9 => h9) rfl dX6_player_35 ?_
        refine lv_iload_n hx hb dX6_player_38 rfl (lv_at hl 2 rfl) ?_
        obtain ⟨r17, e18, hf⟩ := bind_some hf
        refine callVi (As := [.int x2]) (rest := []) M (mX0_playsAt l D cs sk (q_t 1) q_t_1 k d_t_1 x2 e18) mw_X6_141 ln_X0_playsAt ⟨rfl, rfl, Nat.le_of_ble_eq_true rfl, Nat.le_of_ble_eq_true rfl⟩ hP hD hS hA [2, 4] (by decide) rfl rfl (q0 := 0) rfl rfl rfl ⟨Nat.zero_le _, Nat.zero_le _⟩ hl.1 rfl (Nat.le_of_ble_eq_true rfl) dX6_player_39 (fun H locs hP hD hS => ?_)
        replace hP : va_P D vwCl [oX6 h_t q_t (d_t.1), oX4 (q_t 0) q_t_0 (d_t_0.1), oX0 (q_t 1) q_t_1 (d_t_1.1), ((q_t_1 1), .inl (cs 0, 6, .inl (d_t_1.2 1))), ((q_t_1 2), .inl (cs 0, 6, .inl (d_t_1.2 2))), ((q_t_1 3), .inl (cs 0, 6, .inl (d_t_1.2 3))), ((q_t_1 4), .inl (cs 0, 6, .inl (d_t_1.2 4))), ((q_t_1 5), .inl (cs 0, 6, .inl (d_t_1.2 5)))] H := hP
        replace hD : va_D A [oX6 h_t q_t (d_t.1), oX4 (q_t 0) q_t_0 (d_t_0.1), oX0 (q_t 1) q_t_1 (d_t_1.1), ((q_t_1 1), .inl (cs 0, 6, .inl (d_t_1.2 1))), ((q_t_1 2), .inl (cs 0, 6, .inl (d_t_1.2 2))), ((q_t_1 3), .inl (cs 0, 6, .inl (d_t_1.2 3))), ((q_t_1 4), .inl (cs 0, 6, .inl (d_t_1.2 4))), ((q_t_1 5), .inl (cs 0, 6, .inl (d_t_1.2 5)))] := hD
        have g20 := ite_some hf
        refine lv_if_eq (tgt := 52) hx hb dX6_player_42 (by decide) (fun c19 => ?_) (fun c19 => ?_)
        · replace hf := g20.1 c19
          refine lv_aload_n hx hb dX6_player_52 rfl (lv_at hl 0 rfl) ?_
          refine va_get (D := D) (ci := 6) (v := .ref (q_t 1)) (C := RX6) (T := TX6) (N := 18) hx hb hT iX6 hown hK hP 0 rfl rfl 1 (by decide) (hT _ fw_X6_19) (fun _ h9 => h9) rfl dX6_player_53 ?_
          refine va_get (D := D) (ci := 0) (v := .int (d_t_1.1 0)) (C := RX0) (T := TX0) (N := 10) hx hb hT iX0 hown hK hP 2 rfl rfl 0 (by decide) (hT _ fw_X6_144) (fun _ h9 => h9) rfl dX6_player_56 ?_
          refine lv_bipush (v := 6) hx hb dX6_player_59 rfl ?_
          have g22 := ite_some hf
          refine lv_icmp_lt (tgt := 69) hx hb dX6_player_61 (by decide) (fun c21 => ?_) (fun c21 => ?_)
          · replace hf := g22.1 c21
            refine lv_aload_n hx hb dX6_player_69 rfl (lv_at hl 0 rfl) ?_
            refine va_get (D := D) (ci := 6) (v := .ref (q_t 1)) (C := RX6) (T := TX6) (N := 18) hx hb hT iX6 hown hK hP 0 rfl rfl 1 (by decide) (hT _ fw_X6_19) (fun _ h9 => h9) rfl dX6_player_70 ?_
            refine lv_iload_n hx hb dX6_player_73 rfl (lv_at hl 1 rfl) ?_
            refine lv_iload_n hx hb dX6_player_74 rfl (lv_at hl 2 rfl) ?_
            refine lv_iload_n hx hb dX6_player_75 rfl (lv_at hl 3 rfl) ?_
            obtain ⟨r23, e24, hf⟩ := bind_some hf
            refine callVi (As := [.int x1, .int x2, .int x3]) (rest := []) M (mX0_addPlayer l D cs sk (q_t 1) q_t_1 k d_t_1 x1 x2 x3 e24) mw_X6_147 ln_X0_addPlayer ⟨rfl, rfl, Nat.le_of_ble_eq_true rfl, Nat.le_of_ble_eq_true rfl⟩ hP hD hS hA [2, 3, 4, 5, 6, 7] (by decide) rfl rfl (q0 := 0) rfl rfl rfl ⟨Nat.zero_le _, Nat.zero_le _⟩ hl.1 rfl (Nat.le_of_ble_eq_true rfl) dX6_player_76 (fun H locs hP hD hS => ?_)
            replace hP : va_P D vwCl [oX6 h_t q_t (d_t.1), oX4 (q_t 0) q_t_0 (d_t_0.1), oX0 (q_t 1) q_t_1 (r23.2.1), ((q_t_1 1), .inl (cs 0, 6, .inl (r23.2.2 1))), ((q_t_1 2), .inl (cs 0, 6, .inl (r23.2.2 2))), ((q_t_1 3), .inl (cs 0, 6, .inl (r23.2.2 3))), ((q_t_1 4), .inl (cs 0, 6, .inl (r23.2.2 4))), ((q_t_1 5), .inl (cs 0, 6, .inl (r23.2.2 5)))] H := hP
            replace hD : va_D A [oX6 h_t q_t (d_t.1), oX4 (q_t 0) q_t_0 (d_t_0.1), oX0 (q_t 1) q_t_1 (r23.2.1), ((q_t_1 1), .inl (cs 0, 6, .inl (r23.2.2 1))), ((q_t_1 2), .inl (cs 0, 6, .inl (r23.2.2 2))), ((q_t_1 3), .inl (cs 0, 6, .inl (r23.2.2 3))), ((q_t_1 4), .inl (cs 0, 6, .inl (r23.2.2 4))), ((q_t_1 5), .inl (cs 0, 6, .inl (r23.2.2 5)))] := hD
            have e9 := Option.some.inj hf
            subst e9
            exact hR _ _ _ _ dX6_player_79 hP hS
          · replace hf := g22.2 c21
            refine lv_aload_n hx hb dX6_player_64 rfl (lv_at hl 0 rfl) ?_
            obtain ⟨r25, e26, hf⟩ := bind_some hf
            refine callVi (As := []) (rest := []) M (mX6_refuseFull l D cs sk h_t q_t k d_t e26) mw_X6_103 ln_X6_refuseFull ⟨rfl, rfl, Nat.le_of_ble_eq_true rfl, Nat.le_of_ble_eq_true rfl⟩ hP hD hS hA [0] (by decide) rfl rfl (q0 := 0) rfl rfl rfl ⟨Nat.zero_le _, Nat.zero_le _⟩ hl.1 rfl (Nat.le_of_ble_eq_true rfl) dX6_player_65 (fun H locs hP hD hS => ?_)
            replace hP : va_P D vwCl [oX6 h_t q_t (r25.2.1), oX4 (q_t 0) q_t_0 (d_t_0.1), oX0 (q_t 1) q_t_1 (d_t_1.1), ((q_t_1 1), .inl (cs 0, 6, .inl (d_t_1.2 1))), ((q_t_1 2), .inl (cs 0, 6, .inl (d_t_1.2 2))), ((q_t_1 3), .inl (cs 0, 6, .inl (d_t_1.2 3))), ((q_t_1 4), .inl (cs 0, 6, .inl (d_t_1.2 4))), ((q_t_1 5), .inl (cs 0, 6, .inl (d_t_1.2 5)))] H := hP
            replace hD : va_D A [oX6 h_t q_t (r25.2.1), oX4 (q_t 0) q_t_0 (d_t_0.1), oX0 (q_t 1) q_t_1 (d_t_1.1), ((q_t_1 1), .inl (cs 0, 6, .inl (d_t_1.2 1))), ((q_t_1 2), .inl (cs 0, 6, .inl (d_t_1.2 2))), ((q_t_1 3), .inl (cs 0, 6, .inl (d_t_1.2 3))), ((q_t_1 4), .inl (cs 0, 6, .inl (d_t_1.2 4))), ((q_t_1 5), .inl (cs 0, 6, .inl (d_t_1.2 5)))] := hD
            have e9 := Option.some.inj hf
            subst e9
            exact hR _ _ _ _ dX6_player_68 hP hS
        · replace hf := g20.2 c19
          refine lv_aload_n hx hb dX6_player_45 rfl (lv_at hl 0 rfl) ?_
          refine lv_bipush (v := (-2)) hx hb dX6_player_46 rfl ?_
          obtain ⟨r27, e28, hf⟩ := bind_some hf
          refine callVi (As := [.int (-2)]) (rest := []) M (mX6_refuseBad l D cs sk h_t q_t k d_t (-2) e28) mw_X6_96 ln_X6_refuseBad ⟨rfl, rfl, Nat.le_of_ble_eq_true rfl, Nat.le_of_ble_eq_true rfl⟩ hP hD hS hA [0] (by decide) rfl rfl (q0 := 0) rfl rfl rfl ⟨Nat.zero_le _, Nat.zero_le _⟩ hl.1 rfl (Nat.le_of_ble_eq_true rfl) dX6_player_48 (fun H locs hP hD hS => ?_)
          replace hP : va_P D vwCl [oX6 h_t q_t (r27.2.1), oX4 (q_t 0) q_t_0 (d_t_0.1), oX0 (q_t 1) q_t_1 (d_t_1.1), ((q_t_1 1), .inl (cs 0, 6, .inl (d_t_1.2 1))), ((q_t_1 2), .inl (cs 0, 6, .inl (d_t_1.2 2))), ((q_t_1 3), .inl (cs 0, 6, .inl (d_t_1.2 3))), ((q_t_1 4), .inl (cs 0, 6, .inl (d_t_1.2 4))), ((q_t_1 5), .inl (cs 0, 6, .inl (d_t_1.2 5)))] H := hP
          replace hD : va_D A [oX6 h_t q_t (r27.2.1), oX4 (q_t 0) q_t_0 (d_t_0.1), oX0 (q_t 1) q_t_1 (d_t_1.1), ((q_t_1 1), .inl (cs 0, 6, .inl (d_t_1.2 1))), ((q_t_1 2), .inl (cs 0, 6, .inl (d_t_1.2 2))), ((q_t_1 3), .inl (cs 0, 6, .inl (d_t_1.2 3))), ((q_t_1 4), .inl (cs 0, 6, .inl (d_t_1.2 4))), ((q_t_1 5), .inl (cs 0, 6, .inl (d_t_1.2 5)))] := hD
          have e9 := Option.some.inj hf
          subst e9
          exact hR _ _ _ _ dX6_player_51 hP hS
      · replace hf := g16.1 c15
        refine lv_aload_n hx hb dX6_player_27 rfl (lv_at hl 0 rfl) ?_
        refine lv_bipush (v := (-2)) hx hb dX6_player_28 rfl ?_
        obtain ⟨r29, e30, hf⟩ := bind_some hf
        refine callVi (As := [.int (-2)]) (rest := []) M (mX6_refuseBad l D cs sk h_t q_t k d_t (-2) e30) mw_X6_96 ln_X6_refuseBad ⟨rfl, rfl, Nat.le_of_ble_eq_true rfl, Nat.le_of_ble_eq_true rfl⟩ hP hD hS hA [0] (by decide) rfl rfl (q0 := 0) rfl rfl rfl ⟨Nat.zero_le _, Nat.zero_le _⟩ hl.1 rfl (Nat.le_of_ble_eq_true rfl) dX6_player_30 (fun H locs hP hD hS => ?_)
        replace hP : va_P D vwCl [oX6 h_t q_t (r29.2.1), oX4 (q_t 0) q_t_0 (d_t_0.1), oX0 (q_t 1) q_t_1 (d_t_1.1), ((q_t_1 1), .inl (cs 0, 6, .inl (d_t_1.2 1))), ((q_t_1 2), .inl (cs 0, 6, .inl (d_t_1.2 2))), ((q_t_1 3), .inl (cs 0, 6, .inl (d_t_1.2 3))), ((q_t_1 4), .inl (cs 0, 6, .inl (d_t_1.2 4))), ((q_t_1 5), .inl (cs 0, 6, .inl (d_t_1.2 5)))] H := hP
        replace hD : va_D A [oX6 h_t q_t (r29.2.1), oX4 (q_t 0) q_t_0 (d_t_0.1), oX0 (q_t 1) q_t_1 (d_t_1.1), ((q_t_1 1), .inl (cs 0, 6, .inl (d_t_1.2 1))), ((q_t_1 2), .inl (cs 0, 6, .inl (d_t_1.2 2))), ((q_t_1 3), .inl (cs 0, 6, .inl (d_t_1.2 3))), ((q_t_1 4), .inl (cs 0, 6, .inl (d_t_1.2 4))), ((q_t_1 5), .inl (cs 0, 6, .inl (d_t_1.2 5)))] := hD
        have e9 := Option.some.inj hf
        subst e9
        exact hR _ _ _ _ dX6_player_33 hP hS
abbrev rm_X6_hasPlayer : Room := { frames := 0, cells := 0, slots := 0, locals := 0 }
def fX6_hasPlayer (k : Nat) (d_t : Dat) (d_t_1 : Dat) (x1 : Int32) : Option (Int32) :=
  (if x1 < 0 then some 0 else (if (d_t_1.1 0) ≤ x1 then some 0 else some 1))
set_option maxHeartbeats 4000000 in
set_option maxRecDepth 100000 in
theorem mX6_hasPlayer (l : Launch) (D : va_G) (cs : Nat → ClassId) (sk : Nat → Nat) (h_t : Nat) (q_t : Nat → Nat) (q_t_1 : Nat → Nat) (k : Nat) (d_t : Dat) (d_t_1 : Dat) (x1 : Int32) {rv : Int32} (hf : fX6_hasPlayer k d_t d_t_1 x1 = some rv) : CTi l yX6_hasPlayer (Cond.code yX6_hasPlayer cX6_hasPlayer 2 (some .boolean) :: gtbl) rm_X6_hasPlayer D cs sk [.ref h_t, .int x1] [oX6 h_t q_t (d_t.1), oX0 (q_t 1) q_t_1 (d_t_1.1)] (rv) [oX6 h_t q_t (d_t.1), oX0 (q_t 1) q_t_1 (d_t_1.1)] := by
  refine CTi.ofZ RX6 (by decide +kernel) rfl (Nat.le_of_ble_eq_true rfl) (fun p e s m args below meth c A Q ls M hA hR hl hP hD hS => ?_)
  obtain ⟨hx, hb, hml, hT, hown, hlk, hrt, hK, hN, hSE⟩ := id M
  replace hl : lv_has ls 2 [(0, .ref h_t), (1, .int x1)] := hl
  unfold fX6_hasPlayer at hf
  refine lv_iload_n hx hb dX6_hasPlayer_0 rfl (lv_at hl 1 rfl) ?_
  have g2 := ite_some hf
  refine lv_if_lt (tgt := 19) hx hb dX6_hasPlayer_1 (by decide) (fun c1 => ?_) (fun c1 => ?_)
  · replace hf := g2.1 c1
    refine lv_iconst (v := 0) hx hb dX6_hasPlayer_19 rfl ?_
    have e9 := Option.some.inj hf
    subst e9
    exact hR _ _ _ _ dX6_hasPlayer_20 (Or.inl rfl) hP hS
  · replace hf := g2.2 c1
    refine lv_iload_n hx hb dX6_hasPlayer_4 rfl (lv_at hl 1 rfl) ?_
    refine lv_aload_n hx hb dX6_hasPlayer_5 rfl (lv_at hl 0 rfl) ?_
    refine va_get (D := D) (ci := 6) (v := .ref (q_t 1)) (C := RX6) (T := TX6) (N := 18) hx hb hT iX6 hown hK hP 0 rfl rfl 1 (by decide) (hT _ fw_X6_19) (fun _ h9 => h9) rfl dX6_hasPlayer_6 ?_
    refine va_get (D := D) (ci := 0) (v := .int (d_t_1.1 0)) (C := RX0) (T := TX0) (N := 10) hx hb hT iX0 hown hK hP 1 rfl rfl 0 (by decide) (hT _ fw_X6_144) (fun _ h9 => h9) rfl dX6_hasPlayer_9 ?_
    have g4 := ite_some hf
    refine lv_icmp_ge (tgt := 19) hx hb dX6_hasPlayer_12 (by decide) (fun c3 => ?_) (fun c3 => ?_)
    · replace hf := g4.1 c3
      refine lv_iconst (v := 0) hx hb dX6_hasPlayer_19 rfl ?_
      have e9 := Option.some.inj hf
      subst e9
      exact hR _ _ _ _ dX6_hasPlayer_20 (Or.inl rfl) hP hS
    · replace hf := g4.2 c3
      refine lv_iconst (v := 1) hx hb dX6_hasPlayer_15 rfl ?_
      refine lv_goto (tgt := 20) hx hb dX6_hasPlayer_16 (by decide) ?_
      have e9 := Option.some.inj hf
      subst e9
      exact hR _ _ _ _ dX6_hasPlayer_20 (Or.inr rfl) hP hS
abbrev rm_X6_offset : Room := { frames := 1, cells := 0, slots := 0, locals := 22 }
def fX6_offset (k : Nat) (d_t : Dat) (d_t_1 : Dat) (x1 : Int32) (x2 : Int32) : Option (Int32 × Dat × Dat) :=
  (fX6_hasPlayer k d_t d_t_1 x1).bind (fun (r1 : Int32) => (if r1 = 0 then (fX6_refuseBad k d_t (-1000)).bind (fun (r5 : Int32 × Dat) => some ((r5.1), (r5.2.1, d_t.2), d_t_1)) else (fX6_isWithin k x2 (-500) 500).bind (fun (r7 : Int32) => (if r7 = 0 then (fX6_refuseBad k d_t (-1000)).bind (fun (r11 : Int32 × Dat) => some ((r11.1), (r11.2.1, d_t.2), d_t_1)) else chk 6 x1 (chk 6 x1 (some (((d_t_1.2 4) x1.toNatClampNeg), d_t, (d_t_1.1, (va_up d_t_1.2 4 (upd (d_t_1.2 4) x1.toNatClampNeg x2))))))))))
set_option maxHeartbeats 4000000 in
set_option maxRecDepth 100000 in
theorem mX6_offset (l : Launch) (D : va_G) (cs : Nat → ClassId) (sk : Nat → Nat) (h_t : Nat) (q_t : Nat → Nat) (q_t_1 : Nat → Nat) (k : Nat) (d_t : Dat) (d_t_1 : Dat) (x1 : Int32) (x2 : Int32) {rv : Int32 × Dat × Dat} (hf : fX6_offset k d_t d_t_1 x1 x2 = some rv) : CTi l yX6_offset (Cond.code yX6_offset cX6_offset 4 (some .int) :: gtbl) rm_X6_offset D cs sk [.ref h_t, .int x1, .int x2] [oX6 h_t q_t (d_t.1), oX0 (q_t 1) q_t_1 (d_t_1.1), ((q_t_1 4), .inl (cs 0, 6, .inl (d_t_1.2 4)))] (rv.1) [oX6 h_t q_t (rv.2.1.1), oX0 (q_t 1) q_t_1 (d_t_1.1), ((q_t_1 4), .inl (cs 0, 6, .inl (rv.2.2.2 4)))] := by
  refine CTi.of RX6 (by decide +kernel) rfl (Nat.le_of_ble_eq_true rfl) (fun p e s m args below meth c A Q ls M hA hR hl hP hD hS => ?_)
  obtain ⟨hx, hb, hml, hT, hown, hlk, hrt, hK, hN, hSE⟩ := id M
  replace hl : lv_has ls 4 [(0, .ref h_t), (1, .int x1), (2, .int x2)] := hl
  unfold fX6_offset at hf
  refine lv_aload_n hx hb dX6_offset_0 rfl (lv_at hl 0 rfl) ?_
  refine lv_iload_n hx hb dX6_offset_1 rfl (lv_at hl 1 rfl) ?_
  obtain ⟨r1, e2, hf⟩ := bind_some hf
  refine callVi (As := [.int x1]) (rest := []) M (mX6_hasPlayer l D cs sk h_t q_t q_t_1 k d_t d_t_1 x1 e2) mw_X6_151 ln_X6_hasPlayer ⟨rfl, rfl, Nat.le_of_ble_eq_true rfl, Nat.le_of_ble_eq_true rfl⟩ hP hD hS hA [0, 1] (by decide) rfl rfl (q0 := 0) rfl rfl rfl ⟨Nat.zero_le _, Nat.zero_le _⟩ hl.1 rfl (Nat.le_of_ble_eq_true rfl) dX6_offset_2 (fun H locs hP hD hS => ?_)
  replace hP : va_P D vwCl [oX6 h_t q_t (d_t.1), oX0 (q_t 1) q_t_1 (d_t_1.1), ((q_t_1 4), .inl (cs 0, 6, .inl (d_t_1.2 4)))] H := hP
  replace hD : va_D A [oX6 h_t q_t (d_t.1), oX0 (q_t 1) q_t_1 (d_t_1.1), ((q_t_1 4), .inl (cs 0, 6, .inl (d_t_1.2 4)))] := hD
  have g4 := ite_some hf
  refine lv_if_eq (tgt := 21) hx hb dX6_offset_5 (by decide) (fun c3 => ?_) (fun c3 => ?_)
  · replace hf := g4.1 c3
    refine lv_aload_n hx hb dX6_offset_21 rfl (lv_at hl 0 rfl) ?_
    refine lv_sipush (v := (-1000)) hx hb dX6_offset_22 rfl ?_
    obtain ⟨r5, e6, hf⟩ := bind_some hf
    refine callVi (As := [.int (-1000)]) (rest := []) M (mX6_refuseBad l D cs sk h_t q_t k d_t (-1000) e6) mw_X6_96 ln_X6_refuseBad ⟨rfl, rfl, Nat.le_of_ble_eq_true rfl, Nat.le_of_ble_eq_true rfl⟩ hP hD hS hA [0] (by decide) rfl rfl (q0 := 0) rfl rfl rfl ⟨Nat.zero_le _, Nat.zero_le _⟩ hl.1 rfl (Nat.le_of_ble_eq_true rfl) dX6_offset_25 (fun H locs hP hD hS => ?_)
    replace hP : va_P D vwCl [oX6 h_t q_t (r5.2.1), oX0 (q_t 1) q_t_1 (d_t_1.1), ((q_t_1 4), .inl (cs 0, 6, .inl (d_t_1.2 4)))] H := hP
    replace hD : va_D A [oX6 h_t q_t (r5.2.1), oX0 (q_t 1) q_t_1 (d_t_1.1), ((q_t_1 4), .inl (cs 0, 6, .inl (d_t_1.2 4)))] := hD
    have e9 := Option.some.inj hf
    subst e9
    exact hR _ _ _ _ dX6_offset_28 hP hS
  · replace hf := g4.2 c3
    refine lv_iload_n hx hb dX6_offset_8 rfl (lv_at hl 2 rfl) ?_
    refine lv_sipush (v := (-500)) hx hb dX6_offset_9 rfl ?_
    refine lv_sipush (v := 500) hx hb dX6_offset_12 rfl ?_
    obtain ⟨r7, e8, hf⟩ := bind_some hf
    refine callSi (As := [.int x2, .int (-500), .int 500]) (rest := []) M (mX6_isWithin l D cs sk  k x2 (-500) 500 e8) mw_X6_121 ln_X6_isWithin ⟨rfl, rfl, Nat.le_of_ble_eq_true rfl, Nat.le_of_ble_eq_true rfl⟩ hP hD hS hA [] (by decide) rfl rfl ⟨Nat.zero_le _, Nat.zero_le _⟩ hl.1 rfl (Nat.le_of_ble_eq_true rfl) dX6_offset_15 (fun H locs hP hD hS => ?_)
    replace hP : va_P D vwCl [oX6 h_t q_t (d_t.1), oX0 (q_t 1) q_t_1 (d_t_1.1), ((q_t_1 4), .inl (cs 0, 6, .inl (d_t_1.2 4)))] H := hP
    replace hD : va_D A [oX6 h_t q_t (d_t.1), oX0 (q_t 1) q_t_1 (d_t_1.1), ((q_t_1 4), .inl (cs 0, 6, .inl (d_t_1.2 4)))] := hD
    have g10 := ite_some hf
    refine lv_if_ne (tgt := 29) hx hb dX6_offset_18 (by decide) (fun c9 => ?_) (fun c9 => ?_)
    · replace hf := g10.2 c9
      refine lv_aload_n hx hb dX6_offset_29 rfl (lv_at hl 0 rfl) ?_
      refine va_get (D := D) (ci := 6) (v := .ref (q_t 1)) (C := RX6) (T := TX6) (N := 18) hx hb hT iX6 hown hK hP 0 rfl rfl 1 (by decide) (hT _ fw_X6_19) (fun _ h9 => h9) rfl dX6_offset_30 ?_
      refine va_get (D := D) (ci := 0) (v := .ref (q_t_1 4)) (C := RX0) (T := TX0) (N := 10) hx hb hT iX0 hown hK hP 1 rfl rfl 4 (by decide) (hT _ fw_X6_154) (fun _ h9 => h9) rfl dX6_offset_33 ?_
      refine lv_iload_n hx hb dX6_offset_36 rfl (lv_at hl 1 rfl) ?_
      obtain ⟨hi, hf⟩ := chk_some hf
      refine va_iald (D := D) hx hb hK hP 2 0 rfl rfl hi dX6_offset_37 ?_
      refine lv_istore_n (lv' := [(3, .int ((d_t_1.2 4) x1.toNatClampNeg)), (0, .ref h_t), (1, .int x1), (2, .int x2)]) hx hb dX6_offset_38 rfl hl (by decide) rfl (fun ls hl => ?_)
      refine lv_aload_n hx hb dX6_offset_39 rfl (lv_at hl 1 rfl) ?_
      refine va_get (D := D) (ci := 6) (v := .ref (q_t 1)) (C := RX6) (T := TX6) (N := 18) hx hb hT iX6 hown hK hP 0 rfl rfl 1 (by decide) (hT _ fw_X6_19) (fun _ h9 => h9) rfl dX6_offset_40 ?_
      refine va_get (D := D) (ci := 0) (v := .ref (q_t_1 4)) (C := RX0) (T := TX0) (N := 10) hx hb hT iX0 hown hK hP 1 rfl rfl 4 (by decide) (hT _ fw_X6_154) (fun _ h9 => h9) rfl dX6_offset_43 ?_
      refine lv_iload_n hx hb dX6_offset_46 rfl (lv_at hl 2 rfl) ?_
      refine lv_iload_n hx hb dX6_offset_47 rfl (lv_at hl 3 rfl) ?_
      obtain ⟨hi, hf⟩ := chk_some hf
      refine va_iast (D := D) hx hb hK hP hD hS 2 0 rfl rfl hi dX6_offset_48 (fun H locs hP hD hS => ?_)
      replace hP : va_P D vwCl [oX6 h_t q_t (d_t.1), oX0 (q_t 1) q_t_1 (d_t_1.1), ((q_t_1 4), .inl (cs 0, 6, .inl (upd (d_t_1.2 4) x1.toNatClampNeg x2)))] H := hP
      replace hD : va_D A [oX6 h_t q_t (d_t.1), oX0 (q_t 1) q_t_1 (d_t_1.1), ((q_t_1 4), .inl (cs 0, 6, .inl (upd (d_t_1.2 4) x1.toNatClampNeg x2)))] := hD
      refine lv_iload_n hx hb dX6_offset_49 rfl (lv_at hl 0 rfl) ?_
      have e9 := Option.some.inj hf
      subst e9
      exact hR _ _ _ _ dX6_offset_50 hP hS
    · replace hf := g10.1 c9
      refine lv_aload_n hx hb dX6_offset_21 rfl (lv_at hl 0 rfl) ?_
      refine lv_sipush (v := (-1000)) hx hb dX6_offset_22 rfl ?_
      obtain ⟨r11, e12, hf⟩ := bind_some hf
      refine callVi (As := [.int (-1000)]) (rest := []) M (mX6_refuseBad l D cs sk h_t q_t k d_t (-1000) e12) mw_X6_96 ln_X6_refuseBad ⟨rfl, rfl, Nat.le_of_ble_eq_true rfl, Nat.le_of_ble_eq_true rfl⟩ hP hD hS hA [0] (by decide) rfl rfl (q0 := 0) rfl rfl rfl ⟨Nat.zero_le _, Nat.zero_le _⟩ hl.1 rfl (Nat.le_of_ble_eq_true rfl) dX6_offset_25 (fun H locs hP hD hS => ?_)
      replace hP : va_P D vwCl [oX6 h_t q_t (r11.2.1), oX0 (q_t 1) q_t_1 (d_t_1.1), ((q_t_1 4), .inl (cs 0, 6, .inl (d_t_1.2 4)))] H := hP
      replace hD : va_D A [oX6 h_t q_t (r11.2.1), oX0 (q_t 1) q_t_1 (d_t_1.1), ((q_t_1 4), .inl (cs 0, 6, .inl (d_t_1.2 4)))] := hD
      have e9 := Option.some.inj hf
      subst e9
      exact hR _ _ _ _ dX6_offset_28 hP hS
abbrev rm_X6_late : Room := { frames := 1, cells := 0, slots := 0, locals := 22 }
def fX6_late (k : Nat) (d_t : Dat) (d_t_1 : Dat) (x1 : Int32) (x2 : Int32) : Option (Int32 × Dat) :=
  (fX6_hasPlayer k d_t d_t_1 x1).bind (fun (r1 : Int32) => (if r1 = 0 then (fX6_refuseBad k d_t (-1000)).bind (fun (r5 : Int32 × Dat) => some ((r5.1), (r5.2.1, d_t.2))) else (fX6_isWithin k x2 0 1).bind (fun (r7 : Int32) => (if r7 = 0 then (fX6_refuseBad k d_t (-1000)).bind (fun (r15 : Int32 × Dat) => some ((r15.1), (r15.2.1, d_t.2))) else (if x2 = 0 then chk 6 x1 (some (((d_t_1.2 4) x1.toNatClampNeg), d_t)) else (fX0_lateOf k d_t_1 x1).bind (fun (r13 : Int32) => some (r13, d_t)))))))
set_option maxHeartbeats 4000000 in
set_option maxRecDepth 100000 in
theorem mX6_late (l : Launch) (D : va_G) (cs : Nat → ClassId) (sk : Nat → Nat) (h_t : Nat) (q_t : Nat → Nat) (q_t_1 : Nat → Nat) (k : Nat) (d_t : Dat) (d_t_1 : Dat) (x1 : Int32) (x2 : Int32) {rv : Int32 × Dat} (hf : fX6_late k d_t d_t_1 x1 x2 = some rv) : CTi l yX6_late (Cond.code yX6_late cX6_late 3 (some .int) :: gtbl) rm_X6_late D cs sk [.ref h_t, .int x1, .int x2] [oX6 h_t q_t (d_t.1), oX0 (q_t 1) q_t_1 (d_t_1.1), ((q_t_1 1), .inl (cs 0, 6, .inl (d_t_1.2 1))), ((q_t_1 4), .inl (cs 0, 6, .inl (d_t_1.2 4)))] (rv.1) [oX6 h_t q_t (rv.2.1), oX0 (q_t 1) q_t_1 (d_t_1.1), ((q_t_1 1), .inl (cs 0, 6, .inl (d_t_1.2 1))), ((q_t_1 4), .inl (cs 0, 6, .inl (d_t_1.2 4)))] := by
  refine CTi.of RX6 (by decide +kernel) rfl (Nat.le_of_ble_eq_true rfl) (fun p e s m args below meth c A Q ls M hA hR hl hP hD hS => ?_)
  obtain ⟨hx, hb, hml, hT, hown, hlk, hrt, hK, hN, hSE⟩ := id M
  replace hl : lv_has ls 3 [(0, .ref h_t), (1, .int x1), (2, .int x2)] := hl
  unfold fX6_late at hf
  refine lv_aload_n hx hb dX6_late_0 rfl (lv_at hl 0 rfl) ?_
  refine lv_iload_n hx hb dX6_late_1 rfl (lv_at hl 1 rfl) ?_
  obtain ⟨r1, e2, hf⟩ := bind_some hf
  refine callVi (As := [.int x1]) (rest := []) M (mX6_hasPlayer l D cs sk h_t q_t q_t_1 k d_t d_t_1 x1 e2) mw_X6_151 ln_X6_hasPlayer ⟨rfl, rfl, Nat.le_of_ble_eq_true rfl, Nat.le_of_ble_eq_true rfl⟩ hP hD hS hA [0, 1] (by decide) rfl rfl (q0 := 0) rfl rfl rfl ⟨Nat.zero_le _, Nat.zero_le _⟩ hl.1 rfl (Nat.le_of_ble_eq_true rfl) dX6_late_2 (fun H locs hP hD hS => ?_)
  replace hP : va_P D vwCl [oX6 h_t q_t (d_t.1), oX0 (q_t 1) q_t_1 (d_t_1.1), ((q_t_1 1), .inl (cs 0, 6, .inl (d_t_1.2 1))), ((q_t_1 4), .inl (cs 0, 6, .inl (d_t_1.2 4)))] H := hP
  replace hD : va_D A [oX6 h_t q_t (d_t.1), oX0 (q_t 1) q_t_1 (d_t_1.1), ((q_t_1 1), .inl (cs 0, 6, .inl (d_t_1.2 1))), ((q_t_1 4), .inl (cs 0, 6, .inl (d_t_1.2 4)))] := hD
  have g4 := ite_some hf
  refine lv_if_eq (tgt := 17) hx hb dX6_late_5 (by decide) (fun c3 => ?_) (fun c3 => ?_)
  · replace hf := g4.1 c3
    refine lv_aload_n hx hb dX6_late_17 rfl (lv_at hl 0 rfl) ?_
    refine lv_sipush (v := (-1000)) hx hb dX6_late_18 rfl ?_
    obtain ⟨r5, e6, hf⟩ := bind_some hf
    refine callVi (As := [.int (-1000)]) (rest := []) M (mX6_refuseBad l D cs sk h_t q_t k d_t (-1000) e6) mw_X6_96 ln_X6_refuseBad ⟨rfl, rfl, Nat.le_of_ble_eq_true rfl, Nat.le_of_ble_eq_true rfl⟩ hP hD hS hA [0] (by decide) rfl rfl (q0 := 0) rfl rfl rfl ⟨Nat.zero_le _, Nat.zero_le _⟩ hl.1 rfl (Nat.le_of_ble_eq_true rfl) dX6_late_21 (fun H locs hP hD hS => ?_)
    replace hP : va_P D vwCl [oX6 h_t q_t (r5.2.1), oX0 (q_t 1) q_t_1 (d_t_1.1), ((q_t_1 1), .inl (cs 0, 6, .inl (d_t_1.2 1))), ((q_t_1 4), .inl (cs 0, 6, .inl (d_t_1.2 4)))] H := hP
    replace hD : va_D A [oX6 h_t q_t (r5.2.1), oX0 (q_t 1) q_t_1 (d_t_1.1), ((q_t_1 1), .inl (cs 0, 6, .inl (d_t_1.2 1))), ((q_t_1 4), .inl (cs 0, 6, .inl (d_t_1.2 4)))] := hD
    have e9 := Option.some.inj hf
    subst e9
    exact hR _ _ _ _ dX6_late_24 hP hS
  · replace hf := g4.2 c3
    refine lv_iload_n hx hb dX6_late_8 rfl (lv_at hl 2 rfl) ?_
    refine lv_iconst (v := 0) hx hb dX6_late_9 rfl ?_
    refine lv_iconst (v := 1) hx hb dX6_late_10 rfl ?_
    obtain ⟨r7, e8, hf⟩ := bind_some hf
    refine callSi (As := [.int x2, .int 0, .int 1]) (rest := []) M (mX6_isWithin l D cs sk  k x2 0 1 e8) mw_X6_121 ln_X6_isWithin ⟨rfl, rfl, Nat.le_of_ble_eq_true rfl, Nat.le_of_ble_eq_true rfl⟩ hP hD hS hA [] (by decide) rfl rfl ⟨Nat.zero_le _, Nat.zero_le _⟩ hl.1 rfl (Nat.le_of_ble_eq_true rfl) dX6_late_11 (fun H locs hP hD hS => ?_)
    replace hP : va_P D vwCl [oX6 h_t q_t (d_t.1), oX0 (q_t 1) q_t_1 (d_t_1.1), ((q_t_1 1), .inl (cs 0, 6, .inl (d_t_1.2 1))), ((q_t_1 4), .inl (cs 0, 6, .inl (d_t_1.2 4)))] H := hP
    replace hD : va_D A [oX6 h_t q_t (d_t.1), oX0 (q_t 1) q_t_1 (d_t_1.1), ((q_t_1 1), .inl (cs 0, 6, .inl (d_t_1.2 1))), ((q_t_1 4), .inl (cs 0, 6, .inl (d_t_1.2 4)))] := hD
    have g10 := ite_some hf
    refine lv_if_ne (tgt := 25) hx hb dX6_late_14 (by decide) (fun c9 => ?_) (fun c9 => ?_)
    · replace hf := g10.2 c9
      refine lv_iload_n hx hb dX6_late_25 rfl (lv_at hl 2 rfl) ?_
      have g12 := ite_some hf
      refine lv_if_ne (tgt := 39) hx hb dX6_late_26 (by decide) (fun c11 => ?_) (fun c11 => ?_)
      · replace hf := g12.2 c11
        refine lv_aload_n hx hb dX6_late_39 rfl (lv_at hl 0 rfl) ?_
        refine va_get (D := D) (ci := 6) (v := .ref (q_t 1)) (C := RX6) (T := TX6) (N := 18) hx hb hT iX6 hown hK hP 0 rfl rfl 1 (by decide) (hT _ fw_X6_19) (fun _ h9 => h9) rfl dX6_late_40 ?_
        refine lv_iload_n hx hb dX6_late_43 rfl (lv_at hl 1 rfl) ?_
        obtain ⟨r13, e14, hf⟩ := bind_some hf
        refine callVi (As := [.int x1]) (rest := []) M (mX0_lateOf l D cs sk (q_t 1) q_t_1 k d_t_1 x1 e14) mw_X6_157 ln_X0_lateOf ⟨rfl, rfl, Nat.le_of_ble_eq_true rfl, Nat.le_of_ble_eq_true rfl⟩ hP hD hS hA [1, 2, 3] (by decide) rfl rfl (q0 := 0) rfl rfl rfl ⟨Nat.zero_le _, Nat.zero_le _⟩ hl.1 rfl (Nat.le_of_ble_eq_true rfl) dX6_late_44 (fun H locs hP hD hS => ?_)
        replace hP : va_P D vwCl [oX6 h_t q_t (d_t.1), oX0 (q_t 1) q_t_1 (d_t_1.1), ((q_t_1 1), .inl (cs 0, 6, .inl (d_t_1.2 1))), ((q_t_1 4), .inl (cs 0, 6, .inl (d_t_1.2 4)))] H := hP
        replace hD : va_D A [oX6 h_t q_t (d_t.1), oX0 (q_t 1) q_t_1 (d_t_1.1), ((q_t_1 1), .inl (cs 0, 6, .inl (d_t_1.2 1))), ((q_t_1 4), .inl (cs 0, 6, .inl (d_t_1.2 4)))] := hD
        have e9 := Option.some.inj hf
        subst e9
        exact hR _ _ _ _ dX6_late_47 hP hS
      · replace hf := g12.1 c11
        refine lv_aload_n hx hb dX6_late_29 rfl (lv_at hl 0 rfl) ?_
        refine va_get (D := D) (ci := 6) (v := .ref (q_t 1)) (C := RX6) (T := TX6) (N := 18) hx hb hT iX6 hown hK hP 0 rfl rfl 1 (by decide) (hT _ fw_X6_19) (fun _ h9 => h9) rfl dX6_late_30 ?_
        refine va_get (D := D) (ci := 0) (v := .ref (q_t_1 4)) (C := RX0) (T := TX0) (N := 10) hx hb hT iX0 hown hK hP 1 rfl rfl 4 (by decide) (hT _ fw_X6_154) (fun _ h9 => h9) rfl dX6_late_33 ?_
        refine lv_iload_n hx hb dX6_late_36 rfl (lv_at hl 1 rfl) ?_
        obtain ⟨hi, hf⟩ := chk_some hf
        refine va_iald (D := D) hx hb hK hP 3 0 rfl rfl hi dX6_late_37 ?_
        have e9 := Option.some.inj hf
        subst e9
        exact hR _ _ _ _ dX6_late_38 hP hS
    · replace hf := g10.1 c9
      refine lv_aload_n hx hb dX6_late_17 rfl (lv_at hl 0 rfl) ?_
      refine lv_sipush (v := (-1000)) hx hb dX6_late_18 rfl ?_
      obtain ⟨r15, e16, hf⟩ := bind_some hf
      refine callVi (As := [.int (-1000)]) (rest := []) M (mX6_refuseBad l D cs sk h_t q_t k d_t (-1000) e16) mw_X6_96 ln_X6_refuseBad ⟨rfl, rfl, Nat.le_of_ble_eq_true rfl, Nat.le_of_ble_eq_true rfl⟩ hP hD hS hA [0] (by decide) rfl rfl (q0 := 0) rfl rfl rfl ⟨Nat.zero_le _, Nat.zero_le _⟩ hl.1 rfl (Nat.le_of_ble_eq_true rfl) dX6_late_21 (fun H locs hP hD hS => ?_)
      replace hP : va_P D vwCl [oX6 h_t q_t (r15.2.1), oX0 (q_t 1) q_t_1 (d_t_1.1), ((q_t_1 1), .inl (cs 0, 6, .inl (d_t_1.2 1))), ((q_t_1 4), .inl (cs 0, 6, .inl (d_t_1.2 4)))] H := hP
      replace hD : va_D A [oX6 h_t q_t (r15.2.1), oX0 (q_t 1) q_t_1 (d_t_1.1), ((q_t_1 1), .inl (cs 0, 6, .inl (d_t_1.2 1))), ((q_t_1 4), .inl (cs 0, 6, .inl (d_t_1.2 4)))] := hD
      have e9 := Option.some.inj hf
      subst e9
      exact hR _ _ _ _ dX6_late_24 hP hS
abbrev rm_X6_hasEar : Room := { frames := 0, cells := 0, slots := 0, locals := 0 }
def fX6_hasEar (k : Nat) (d_t : Dat) (d_t_0 : Dat) (x1 : Int32) : Option (Int32) :=
  (if x1 < 0 then some 0 else (if (d_t_0.1 3) ≤ x1 then some 0 else some 1))
set_option maxHeartbeats 4000000 in
set_option maxRecDepth 100000 in
theorem mX6_hasEar (l : Launch) (D : va_G) (cs : Nat → ClassId) (sk : Nat → Nat) (h_t : Nat) (q_t : Nat → Nat) (q_t_0 : Nat → Nat) (k : Nat) (d_t : Dat) (d_t_0 : Dat) (x1 : Int32) {rv : Int32} (hf : fX6_hasEar k d_t d_t_0 x1 = some rv) : CTi l yX6_hasEar (Cond.code yX6_hasEar cX6_hasEar 2 (some .boolean) :: gtbl) rm_X6_hasEar D cs sk [.ref h_t, .int x1] [oX6 h_t q_t (d_t.1), oX4 (q_t 0) q_t_0 (d_t_0.1)] (rv) [oX6 h_t q_t (d_t.1), oX4 (q_t 0) q_t_0 (d_t_0.1)] := by
  refine CTi.ofZ RX6 (by decide +kernel) rfl (Nat.le_of_ble_eq_true rfl) (fun p e s m args below meth c A Q ls M hA hR hl hP hD hS => ?_)
  obtain ⟨hx, hb, hml, hT, hown, hlk, hrt, hK, hN, hSE⟩ := id M
  replace hl : lv_has ls 2 [(0, .ref h_t), (1, .int x1)] := hl
  unfold fX6_hasEar at hf
  refine lv_iload_n hx hb dX6_hasEar_0 rfl (lv_at hl 1 rfl) ?_
  have g2 := ite_some hf
  refine lv_if_lt (tgt := 19) hx hb dX6_hasEar_1 (by decide) (fun c1 => ?_) (fun c1 => ?_)
  · replace hf := g2.1 c1
    refine lv_iconst (v := 0) hx hb dX6_hasEar_19 rfl ?_
    have e9 := Option.some.inj hf
    subst e9
    exact hR _ _ _ _ dX6_hasEar_20 (Or.inl rfl) hP hS
  · replace hf := g2.2 c1
    refine lv_iload_n hx hb dX6_hasEar_4 rfl (lv_at hl 1 rfl) ?_
    refine lv_aload_n hx hb dX6_hasEar_5 rfl (lv_at hl 0 rfl) ?_
    refine va_get (D := D) (ci := 6) (v := .ref (q_t 0)) (C := RX6) (T := TX6) (N := 18) hx hb hT iX6 hown hK hP 0 rfl rfl 0 (by decide) (hT _ fw_X6_10) (fun _ h9 => h9) rfl dX6_hasEar_6 ?_
    refine va_get (D := D) (ci := 4) (v := .int (d_t_0.1 3)) (C := RX4) (T := TX4) (N := 11) hx hb hT iX4 hown hK hP 1 rfl rfl 3 (by decide) (hT _ fw_X6_111) (fun _ h9 => h9) rfl dX6_hasEar_9 ?_
    have g4 := ite_some hf
    refine lv_icmp_ge (tgt := 19) hx hb dX6_hasEar_12 (by decide) (fun c3 => ?_) (fun c3 => ?_)
    · replace hf := g4.1 c3
      refine lv_iconst (v := 0) hx hb dX6_hasEar_19 rfl ?_
      have e9 := Option.some.inj hf
      subst e9
      exact hR _ _ _ _ dX6_hasEar_20 (Or.inl rfl) hP hS
    · replace hf := g4.2 c3
      refine lv_iconst (v := 1) hx hb dX6_hasEar_15 rfl ?_
      refine lv_goto (tgt := 20) hx hb dX6_hasEar_16 (by decide) ?_
      have e9 := Option.some.inj hf
      subst e9
      exact hR _ _ _ _ dX6_hasEar_20 (Or.inr rfl) hP hS
abbrev rm_X6_sound : Room := { frames := 3, cells := 0, slots := 0, locals := 70 }
def fX6_sound (k : Nat) (d_t : Dat) (d_t_0 : Dat) (x1 : Int32) (x2 : Int32) : Option (Int32 × Dat) :=
  (fX6_hasWindow k d_t d_t_0 x1).bind (fun (r1 : Int32) => (if r1 = 0 then (fX6_refuseBad k d_t (-2)).bind (fun (r5 : Int32 × Dat) => some ((r5.1), (r5.2.1, d_t.2))) else (fX6_hasEar k d_t d_t_0 x2).bind (fun (r7 : Int32) => (if r7 = 0 then (fX6_refuseBad k d_t (-2)).bind (fun (r13 : Int32 × Dat) => some ((r13.1), (r13.2.1, d_t.2))) else (fX4_soundTime k d_t_0 x1 x2).bind (fun (r11 : Int32) => some (r11, d_t))))))
set_option maxHeartbeats 4000000 in
set_option maxRecDepth 100000 in
theorem mX6_sound (l : Launch) (D : va_G) (cs : Nat → ClassId) (sk : Nat → Nat) (h_t : Nat) (q_t : Nat → Nat) (q_t_0 : Nat → Nat) (k : Nat) (d_t : Dat) (d_t_0 : Dat) (x1 : Int32) (x2 : Int32) {rv : Int32 × Dat} (hf : fX6_sound k d_t d_t_0 x1 x2 = some rv) : CTi l yX6_sound (Cond.code yX6_sound cX6_sound 3 (some .int) :: gtbl) rm_X6_sound D cs sk [.ref h_t, .int x1, .int x2] [oX6 h_t q_t (d_t.1), oX4 (q_t 0) q_t_0 (d_t_0.1), ((q_t_0 1), .inl (cs 0, 6, .inl (d_t_0.2 1))), ((q_t_0 2), .inl (cs 0, 6, .inl (d_t_0.2 2))), ((q_t_0 4), .inl (cs 0, 3, .inl (d_t_0.2 4))), ((q_t_0 5), .inl (cs 0, 3, .inl (d_t_0.2 5)))] (rv.1) [oX6 h_t q_t (rv.2.1), oX4 (q_t 0) q_t_0 (d_t_0.1), ((q_t_0 1), .inl (cs 0, 6, .inl (d_t_0.2 1))), ((q_t_0 2), .inl (cs 0, 6, .inl (d_t_0.2 2))), ((q_t_0 4), .inl (cs 0, 3, .inl (d_t_0.2 4))), ((q_t_0 5), .inl (cs 0, 3, .inl (d_t_0.2 5)))] := by
  refine CTi.of RX6 (by decide +kernel) rfl (Nat.le_of_ble_eq_true rfl) (fun p e s m args below meth c A Q ls M hA hR hl hP hD hS => ?_)
  obtain ⟨hx, hb, hml, hT, hown, hlk, hrt, hK, hN, hSE⟩ := id M
  replace hl : lv_has ls 3 [(0, .ref h_t), (1, .int x1), (2, .int x2)] := hl
  unfold fX6_sound at hf
  refine lv_aload_n hx hb dX6_sound_0 rfl (lv_at hl 0 rfl) ?_
  refine lv_iload_n hx hb dX6_sound_1 rfl (lv_at hl 1 rfl) ?_
  obtain ⟨r1, e2, hf⟩ := bind_some hf
  refine callVi (As := [.int x1]) (rest := []) M (mX6_hasWindow l D cs sk h_t q_t q_t_0 k d_t d_t_0 x1 e2) mw_X6_137 ln_X6_hasWindow ⟨rfl, rfl, Nat.le_of_ble_eq_true rfl, Nat.le_of_ble_eq_true rfl⟩ hP hD hS hA [0, 1] (by decide) rfl rfl (q0 := 0) rfl rfl rfl ⟨Nat.zero_le _, Nat.zero_le _⟩ hl.1 rfl (Nat.le_of_ble_eq_true rfl) dX6_sound_2 (fun H locs hP hD hS => ?_)
  replace hP : va_P D vwCl [oX6 h_t q_t (d_t.1), oX4 (q_t 0) q_t_0 (d_t_0.1), ((q_t_0 1), .inl (cs 0, 6, .inl (d_t_0.2 1))), ((q_t_0 2), .inl (cs 0, 6, .inl (d_t_0.2 2))), ((q_t_0 4), .inl (cs 0, 3, .inl (d_t_0.2 4))), ((q_t_0 5), .inl (cs 0, 3, .inl (d_t_0.2 5)))] H := hP
  replace hD : va_D A [oX6 h_t q_t (d_t.1), oX4 (q_t 0) q_t_0 (d_t_0.1), ((q_t_0 1), .inl (cs 0, 6, .inl (d_t_0.2 1))), ((q_t_0 2), .inl (cs 0, 6, .inl (d_t_0.2 2))), ((q_t_0 4), .inl (cs 0, 3, .inl (d_t_0.2 4))), ((q_t_0 5), .inl (cs 0, 3, .inl (d_t_0.2 5)))] := hD
  have g4 := ite_some hf
  refine lv_if_eq (tgt := 16) hx hb dX6_sound_5 (by decide) (fun c3 => ?_) (fun c3 => ?_)
  · replace hf := g4.1 c3
    refine lv_aload_n hx hb dX6_sound_16 rfl (lv_at hl 0 rfl) ?_
    refine lv_bipush (v := (-2)) hx hb dX6_sound_17 rfl ?_
    obtain ⟨r5, e6, hf⟩ := bind_some hf
    refine callVi (As := [.int (-2)]) (rest := []) M (mX6_refuseBad l D cs sk h_t q_t k d_t (-2) e6) mw_X6_96 ln_X6_refuseBad ⟨rfl, rfl, Nat.le_of_ble_eq_true rfl, Nat.le_of_ble_eq_true rfl⟩ hP hD hS hA [0] (by decide) rfl rfl (q0 := 0) rfl rfl rfl ⟨Nat.zero_le _, Nat.zero_le _⟩ hl.1 rfl (Nat.le_of_ble_eq_true rfl) dX6_sound_19 (fun H locs hP hD hS => ?_)
    replace hP : va_P D vwCl [oX6 h_t q_t (r5.2.1), oX4 (q_t 0) q_t_0 (d_t_0.1), ((q_t_0 1), .inl (cs 0, 6, .inl (d_t_0.2 1))), ((q_t_0 2), .inl (cs 0, 6, .inl (d_t_0.2 2))), ((q_t_0 4), .inl (cs 0, 3, .inl (d_t_0.2 4))), ((q_t_0 5), .inl (cs 0, 3, .inl (d_t_0.2 5)))] H := hP
    replace hD : va_D A [oX6 h_t q_t (r5.2.1), oX4 (q_t 0) q_t_0 (d_t_0.1), ((q_t_0 1), .inl (cs 0, 6, .inl (d_t_0.2 1))), ((q_t_0 2), .inl (cs 0, 6, .inl (d_t_0.2 2))), ((q_t_0 4), .inl (cs 0, 3, .inl (d_t_0.2 4))), ((q_t_0 5), .inl (cs 0, 3, .inl (d_t_0.2 5)))] := hD
    have e9 := Option.some.inj hf
    subst e9
    exact hR _ _ _ _ dX6_sound_22 hP hS
  · replace hf := g4.2 c3
    refine lv_aload_n hx hb dX6_sound_8 rfl (lv_at hl 0 rfl) ?_
    refine lv_iload_n hx hb dX6_sound_9 rfl (lv_at hl 2 rfl) ?_
    obtain ⟨r7, e8, hf⟩ := bind_some hf
    refine callVi (As := [.int x2]) (rest := []) M (mX6_hasEar l D cs sk h_t q_t q_t_0 k d_t d_t_0 x2 e8) mw_X6_160 ln_X6_hasEar ⟨rfl, rfl, Nat.le_of_ble_eq_true rfl, Nat.le_of_ble_eq_true rfl⟩ hP hD hS hA [0, 1] (by decide) rfl rfl (q0 := 0) rfl rfl rfl ⟨Nat.zero_le _, Nat.zero_le _⟩ hl.1 rfl (Nat.le_of_ble_eq_true rfl) dX6_sound_10 (fun H locs hP hD hS => ?_)
    replace hP : va_P D vwCl [oX6 h_t q_t (d_t.1), oX4 (q_t 0) q_t_0 (d_t_0.1), ((q_t_0 1), .inl (cs 0, 6, .inl (d_t_0.2 1))), ((q_t_0 2), .inl (cs 0, 6, .inl (d_t_0.2 2))), ((q_t_0 4), .inl (cs 0, 3, .inl (d_t_0.2 4))), ((q_t_0 5), .inl (cs 0, 3, .inl (d_t_0.2 5)))] H := hP
    replace hD : va_D A [oX6 h_t q_t (d_t.1), oX4 (q_t 0) q_t_0 (d_t_0.1), ((q_t_0 1), .inl (cs 0, 6, .inl (d_t_0.2 1))), ((q_t_0 2), .inl (cs 0, 6, .inl (d_t_0.2 2))), ((q_t_0 4), .inl (cs 0, 3, .inl (d_t_0.2 4))), ((q_t_0 5), .inl (cs 0, 3, .inl (d_t_0.2 5)))] := hD
    have g10 := ite_some hf
    refine lv_if_ne (tgt := 23) hx hb dX6_sound_13 (by decide) (fun c9 => ?_) (fun c9 => ?_)
    · replace hf := g10.2 c9
      refine lv_aload_n hx hb dX6_sound_23 rfl (lv_at hl 0 rfl) ?_
      refine va_get (D := D) (ci := 6) (v := .ref (q_t 0)) (C := RX6) (T := TX6) (N := 18) hx hb hT iX6 hown hK hP 0 rfl rfl 0 (by decide) (hT _ fw_X6_10) (fun _ h9 => h9) rfl dX6_sound_24 ?_
      refine lv_iload_n hx hb dX6_sound_27 rfl (lv_at hl 1 rfl) ?_
      refine lv_iload_n hx hb dX6_sound_28 rfl (lv_at hl 2 rfl) ?_
      obtain ⟨r11, e12, hf⟩ := bind_some hf
      refine callVi (As := [.int x1, .int x2]) (rest := []) M (mX4_soundTime l D cs sk (q_t 0) q_t_0 k d_t_0 x1 x2 e12) mw_X6_163 ln_X4_soundTime ⟨rfl, rfl, Nat.le_of_ble_eq_true rfl, Nat.le_of_ble_eq_true rfl⟩ hP hD hS hA [1, 2, 3, 4, 5] (by decide) rfl rfl (q0 := 0) rfl rfl rfl ⟨Nat.zero_le _, Nat.zero_le _⟩ hl.1 rfl (Nat.le_of_ble_eq_true rfl) dX6_sound_29 (fun H locs hP hD hS => ?_)
      replace hP : va_P D vwCl [oX6 h_t q_t (d_t.1), oX4 (q_t 0) q_t_0 (d_t_0.1), ((q_t_0 1), .inl (cs 0, 6, .inl (d_t_0.2 1))), ((q_t_0 2), .inl (cs 0, 6, .inl (d_t_0.2 2))), ((q_t_0 4), .inl (cs 0, 3, .inl (d_t_0.2 4))), ((q_t_0 5), .inl (cs 0, 3, .inl (d_t_0.2 5)))] H := hP
      replace hD : va_D A [oX6 h_t q_t (d_t.1), oX4 (q_t 0) q_t_0 (d_t_0.1), ((q_t_0 1), .inl (cs 0, 6, .inl (d_t_0.2 1))), ((q_t_0 2), .inl (cs 0, 6, .inl (d_t_0.2 2))), ((q_t_0 4), .inl (cs 0, 3, .inl (d_t_0.2 4))), ((q_t_0 5), .inl (cs 0, 3, .inl (d_t_0.2 5)))] := hD
      have e9 := Option.some.inj hf
      subst e9
      exact hR _ _ _ _ dX6_sound_32 hP hS
    · replace hf := g10.1 c9
      refine lv_aload_n hx hb dX6_sound_16 rfl (lv_at hl 0 rfl) ?_
      refine lv_bipush (v := (-2)) hx hb dX6_sound_17 rfl ?_
      obtain ⟨r13, e14, hf⟩ := bind_some hf
      refine callVi (As := [.int (-2)]) (rest := []) M (mX6_refuseBad l D cs sk h_t q_t k d_t (-2) e14) mw_X6_96 ln_X6_refuseBad ⟨rfl, rfl, Nat.le_of_ble_eq_true rfl, Nat.le_of_ble_eq_true rfl⟩ hP hD hS hA [0] (by decide) rfl rfl (q0 := 0) rfl rfl rfl ⟨Nat.zero_le _, Nat.zero_le _⟩ hl.1 rfl (Nat.le_of_ble_eq_true rfl) dX6_sound_19 (fun H locs hP hD hS => ?_)
      replace hP : va_P D vwCl [oX6 h_t q_t (r13.2.1), oX4 (q_t 0) q_t_0 (d_t_0.1), ((q_t_0 1), .inl (cs 0, 6, .inl (d_t_0.2 1))), ((q_t_0 2), .inl (cs 0, 6, .inl (d_t_0.2 2))), ((q_t_0 4), .inl (cs 0, 3, .inl (d_t_0.2 4))), ((q_t_0 5), .inl (cs 0, 3, .inl (d_t_0.2 5)))] H := hP
      replace hD : va_D A [oX6 h_t q_t (r13.2.1), oX4 (q_t 0) q_t_0 (d_t_0.1), ((q_t_0 1), .inl (cs 0, 6, .inl (d_t_0.2 1))), ((q_t_0 2), .inl (cs 0, 6, .inl (d_t_0.2 2))), ((q_t_0 4), .inl (cs 0, 3, .inl (d_t_0.2 4))), ((q_t_0 5), .inl (cs 0, 3, .inl (d_t_0.2 5)))] := hD
      have e9 := Option.some.inj hf
      subst e9
      exact hR _ _ _ _ dX6_sound_22 hP hS
abbrev rm_X6_type : Room := { frames := 1, cells := 0, slots := 0, locals := 22 }
def fX6_type_B39 (k : Nat) (x1 : Int64) (d_t : Dat) (K78 : Dat → Option (Int32 × Dat)) (rec : Int32 × Dat → Option (Int32 × Dat)) (v : Int32 × Dat) : Option (Int32 × Dat) :=
  (if (v.1) < 0 then K78 (v.2.1, (va_up d_t.2 12 (v.2.2 12))) else chk 250 (v.2.1 13) (rec (((v.1) + (-1)), ((upd v.2.1 13 ((v.2.1 13) + 1)), (va_up d_t.2 12 (upd (v.2.2 12) (v.2.1 13).toNatClampNeg (vp_nar .byte (((x1.toUInt64 >>> ((8 * (v.1)).toInt64.toUInt64 &&& Int64.toUInt64 63)).toInt64).toInt32).toInt8.toInt32)))))))
def fX6_type (k : Nat) (d_t : Dat) (x1 : Int64) (x3 : Int32) : Option (Int32 × Dat) :=
  (fX6_isWithin k x3 1 8).bind (fun (r1 : Int32) => (if r1 = 0 then (fX6_refuseBad k d_t (-2)).bind (fun (r10 : Int32 × Dat) => some ((r10.1), (r10.2.1, d_t.2))) else (if ((d_t.1 13) + x3) ≤ 250 then lp (fX6_type_B39 k x1 d_t (fun (w7 : Dat) => some ((w7.1 13), (w7.1, (va_up d_t.2 12 (w7.2 12)))))) k ((x3 - 1), d_t) else (fX6_refuseFull k d_t).bind (fun (r8 : Int32 × Dat) => some ((r8.1), (r8.2.1, d_t.2))))))
set_option maxHeartbeats 4000000 in
set_option maxRecDepth 100000 in
theorem mX6_type_B39 {l : Launch} {p : Program} {e : Env} {s : State} {m : MethodId} {args : Array Value} {below : List Frame} {meth : Method} {c : Code} {D : va_G} {cs : Nat → ClassId} {sk : Nat → Nat} {A : Nat → Prop} {Q : State → Prop} (h_t : Nat) (q_t : Nat → Nat) (k : Nat) (x1 : Int64) (d_t : Dat) {rv : Int32 × Dat}  (K78 : Dat → Option (Int32 × Dat))
    (M : MC p s m args meth c D cs sk A RX6 cX6_type 5 (some .int)) (hA : ∀ q, s.heap.size ≤ q → A q) (hR : RetI p l e rm_X6_type s m args below meth c D cX6_type A Q (rv.1) [oX6 h_t q_t (rv.2.1), ((q_t 12), .inl (cs 1, 250, .inl (rv.2.2 12)))])
    (hK78 : ∀ (w : Dat), K78 w = some rv → ∀ (H : Heap) (locs : List Loc) (ls : Array Slot), va_P D vwCl [oX6 h_t q_t (w.1), ((q_t 12), .inl (cs 1, 250, .inl (w.2 12)))] H → va_D A [oX6 h_t q_t (w.1), ((q_t 12), .inl (cs 1, 250, .inl (w.2 12)))] → va_S A s.heap H locs → lv_has ls 5 [(0, .ref h_t)] → W p l e rm_X6_type s m args below meth c H locs 0 0 Q (F0 m 78 ls []))
    : ∀ (n : Nat) (v : Int32 × Dat), lp (fX6_type_B39 k x1 d_t K78) n v = some rv → ∀ (H : Heap) (locs : List Loc) (ls : Array Slot), va_P D vwCl [oX6 h_t q_t (v.2.1), ((q_t 12), .inl (cs 1, 250, .inl (v.2.2 12)))] H → va_D A [oX6 h_t q_t (v.2.1), ((q_t 12), .inl (cs 1, 250, .inl (v.2.2 12)))] → va_S A s.heap H locs → lv_has ls 5 [(0, .ref h_t), (1, .long x1), (4, .int (v.1))] → W p l e rm_X6_type s m args below meth c H locs 0 0 Q (F0 m 39 ls []) := by
  obtain ⟨hx, hb, hml, hT, hown, hlk, hrt, hK, hN, hSE⟩ := id M
  refine lp_ind (fun rec ih v hf H locs ls hP hD hS hl => ?_)
  unfold fX6_type_B39 at hf
  refine lv_iload hx hb dX6_type_39 (lv_at hl 2 rfl) ?_
  have g2 := ite_some hf
  refine lv_if_lt (tgt := 78) hx hb dX6_type_41 (by decide) (fun c1 => ?_) (fun c1 => ?_)
  · replace hf := g2.1 c1
    exact hK78 _ hf _ _ _ hP hD hS (lv_sub hl [0] rfl)
  · replace hf := g2.2 c1
    refine lv_aload_n hx hb dX6_type_44 rfl (lv_at hl 0 rfl) ?_
    refine va_get (D := D) (ci := 6) (v := .ref (q_t 12)) (C := RX6) (T := TX6) (N := 18) hx hb hT iX6 hown hK hP 0 rfl rfl 12 (by decide) (hT _ fw_X6_72) (fun _ h9 => h9) rfl dX6_type_45 ?_
    refine lv_aload_n hx hb dX6_type_48 rfl (lv_at hl 0 rfl) ?_
    refine va_get (D := D) (ci := 6) (v := .int (v.2.1 13)) (C := RX6) (T := TX6) (N := 18) hx hb hT iX6 hown hK hP 0 rfl rfl 13 (by decide) (hT _ fw_X6_76) (fun _ h9 => h9) rfl dX6_type_49 ?_
    refine lv_lload_n hx hb dX6_type_52 rfl (lv_at hl 1 rfl) ?_
    refine lv_bipush (v := 8) hx hb dX6_type_53 rfl ?_
    refine lv_iload hx hb dX6_type_55 (lv_at hl 2 rfl) ?_
    refine lv_imul hx hb dX6_type_57 ?_
    refine lv_lushr (v := (x1.toUInt64 >>> ((8 * (v.1)).toInt64.toUInt64 &&& Int64.toUInt64 63)).toInt64) hx hb dX6_type_58 rfl ?_
    refine lv_l2i (v := ((x1.toUInt64 >>> ((8 * (v.1)).toInt64.toUInt64 &&& Int64.toUInt64 63)).toInt64).toInt32) hx hb dX6_type_59 rfl ?_
    refine lv_i2b (v := (((x1.toUInt64 >>> ((8 * (v.1)).toInt64.toUInt64 &&& Int64.toUInt64 63)).toInt64).toInt32).toInt8.toInt32) hx hb dX6_type_60 rfl ?_
    obtain ⟨hi, hf⟩ := chk_some hf
    refine va_bast (D := D) hx hb hK hP hD hS 1 1 rfl rfl hi dX6_type_61 (fun H locs hP hD hS => ?_)
    replace hP : va_P D vwCl [oX6 h_t q_t (v.2.1), ((q_t 12), .inl (cs 1, 250, .inl (upd (v.2.2 12) (v.2.1 13).toNatClampNeg (vp_nar .byte (((x1.toUInt64 >>> ((8 * (v.1)).toInt64.toUInt64 &&& Int64.toUInt64 63)).toInt64).toInt32).toInt8.toInt32))))] H := hP
    replace hD : va_D A [oX6 h_t q_t (v.2.1), ((q_t 12), .inl (cs 1, 250, .inl (upd (v.2.2 12) (v.2.1 13).toNatClampNeg (vp_nar .byte (((x1.toUInt64 >>> ((8 * (v.1)).toInt64.toUInt64 &&& Int64.toUInt64 63)).toInt64).toInt32).toInt8.toInt32))))] := hD
    refine lv_aload_n hx hb dX6_type_62 rfl (lv_at hl 0 rfl) ?_
    refine lv_dup hx hb dX6_type_63 rfl ?_
    refine va_get (D := D) (ci := 6) (v := .int (v.2.1 13)) (C := RX6) (T := TX6) (N := 18) hx hb hT iX6 hown hK hP 0 rfl rfl 13 (by decide) (hT _ fw_X6_76) (fun _ h9 => h9) rfl dX6_type_64 ?_
    refine lv_iconst (v := 1) hx hb dX6_type_67 rfl ?_
    refine lv_iadd hx hb dX6_type_68 ?_
    refine va_put (D := D) (ci := 6) (v := .int ((v.2.1 13) + 1)) (ty := tyX6 13) (C := RX6) (T := TX6) (N := 18) hx hb hT iX6 tyX6 tyX6_ok nmX6 hown hK hP hD hS 0 rfl rfl 13 (by decide) (hT _ fw_X6_76) (fun _ h9 => h9) rfl (tyX6_ok 13 (by decide)) rfl rfl (Nat.le_of_ble_eq_true rfl) dX6_type_69 (fun H locs hP hD hS => ?_)
    replace hP : va_P D vwCl [oX6 h_t q_t (upd v.2.1 13 ((v.2.1 13) + 1)), ((q_t 12), .inl (cs 1, 250, .inl (upd (v.2.2 12) (v.2.1 13).toNatClampNeg (vp_nar .byte (((x1.toUInt64 >>> ((8 * (v.1)).toInt64.toUInt64 &&& Int64.toUInt64 63)).toInt64).toInt32).toInt8.toInt32))))] H := hP
    replace hD : va_D A [oX6 h_t q_t (upd v.2.1 13 ((v.2.1 13) + 1)), ((q_t 12), .inl (cs 1, 250, .inl (upd (v.2.2 12) (v.2.1 13).toNatClampNeg (vp_nar .byte (((x1.toUInt64 >>> ((8 * (v.1)).toInt64.toUInt64 &&& Int64.toUInt64 63)).toInt64).toInt32).toInt8.toInt32))))] := hD
    refine lv_iinc (v := ((v.1) + (-1))) (lv' := [(4, .int ((v.1) + (-1))), (0, .ref h_t), (1, .long x1)]) hx hb dX6_type_72 hl (k := 2) rfl rfl (by decide) rfl (fun ls hl => ?_)
    refine lv_goto (tgt := 39) hx hb dX6_type_75 (by decide) ?_
    exact ih _ hf _ _ _ hP hD hS (lv_sub hl [1, 2, 0] rfl)
set_option maxHeartbeats 4000000 in
set_option maxRecDepth 100000 in
theorem mX6_type (l : Launch) (D : va_G) (cs : Nat → ClassId) (sk : Nat → Nat) (h_t : Nat) (q_t : Nat → Nat) (k : Nat) (d_t : Dat) (x1 : Int64) (x3 : Int32) {rv : Int32 × Dat} (hf : fX6_type k d_t x1 x3 = some rv) : CTi l yX6_type (Cond.code yX6_type cX6_type 5 (some .int) :: gtbl) rm_X6_type D cs sk [.ref h_t, .long x1, .int x3] [oX6 h_t q_t (d_t.1), ((q_t 12), .inl (cs 1, 250, .inl (d_t.2 12)))] (rv.1) [oX6 h_t q_t (rv.2.1), ((q_t 12), .inl (cs 1, 250, .inl (rv.2.2 12)))] := by
  refine CTi.of RX6 (by decide +kernel) rfl (Nat.le_of_ble_eq_true rfl) (fun p e s m args below meth c A Q ls M hA hR hl hP hD hS => ?_)
  obtain ⟨hx, hb, hml, hT, hown, hlk, hrt, hK, hN, hSE⟩ := id M
  replace hl : lv_has ls 5 [(0, .ref h_t), (1, .long x1), (3, .int x3)] := hl
  unfold fX6_type at hf
  refine lv_iload_n hx hb dX6_type_0 rfl (lv_at hl 2 rfl) ?_
  refine lv_iconst (v := 1) hx hb dX6_type_1 rfl ?_
  refine lv_bipush (v := 8) hx hb dX6_type_2 rfl ?_
  obtain ⟨r1, e2, hf⟩ := bind_some hf
  refine callSi (As := [.int x3, .int 1, .int 8]) (rest := []) M (mX6_isWithin l D cs sk  k x3 1 8 e2) mw_X6_121 ln_X6_isWithin ⟨rfl, rfl, Nat.le_of_ble_eq_true rfl, Nat.le_of_ble_eq_true rfl⟩ hP hD hS hA [] (by decide) rfl rfl ⟨Nat.zero_le _, Nat.zero_le _⟩ hl.1 rfl (Nat.le_of_ble_eq_true rfl) dX6_type_4 (fun H locs hP hD hS => ?_)
  replace hP : va_P D vwCl [oX6 h_t q_t (d_t.1), ((q_t 12), .inl (cs 1, 250, .inl (d_t.2 12)))] H := hP
  replace hD : va_D A [oX6 h_t q_t (d_t.1), ((q_t 12), .inl (cs 1, 250, .inl (d_t.2 12)))] := hD
  have g4 := ite_some hf
  refine lv_if_ne (tgt := 17) hx hb dX6_type_7 (by decide) (fun c3 => ?_) (fun c3 => ?_)
  · replace hf := g4.2 c3
    refine lv_aload_n hx hb dX6_type_17 rfl (lv_at hl 0 rfl) ?_
    refine va_get (D := D) (ci := 6) (v := .int (d_t.1 13)) (C := RX6) (T := TX6) (N := 18) hx hb hT iX6 hown hK hP 0 rfl rfl 13 (by decide) (hT _ fw_X6_76) (fun _ h9 => h9) rfl dX6_type_18 ?_
    refine lv_iload_n hx hb dX6_type_21 rfl (lv_at hl 2 rfl) ?_
    refine lv_iadd hx hb dX6_type_22 ?_
    refine lv_sipush (v := 250) hx hb dX6_type_23 rfl ?_
    have g6 := ite_some hf
    refine lv_icmp_le (tgt := 34) hx hb dX6_type_26 (by decide) (fun c5 => ?_) (fun c5 => ?_)
    · replace hf := g6.1 c5
      refine lv_iload_n hx hb dX6_type_34 rfl (lv_at hl 2 rfl) ?_
      refine lv_iconst (v := 1) hx hb dX6_type_35 rfl ?_
      refine lv_isub hx hb dX6_type_36 ?_
      refine lv_istore (lv' := [(4, .int (x3 - 1)), (0, .ref h_t), (1, .long x1), (3, .int x3)]) hx hb dX6_type_37 hl (by decide) rfl (fun ls hl => ?_)
      refine mX6_type_B39 h_t q_t k x1 d_t _ M hA hR (fun w7 hf H locs ls hP hD hS hl => ?_) _ _ hf _ _ _ hP hD hS (lv_sub hl [1, 2, 0] rfl)
      · refine lv_aload_n hx hb dX6_type_78 rfl (lv_at hl 0 rfl) ?_
        refine va_get (D := D) (ci := 6) (v := .int (w7.1 13)) (C := RX6) (T := TX6) (N := 18) hx hb hT iX6 hown hK hP 0 rfl rfl 13 (by decide) (hT _ fw_X6_76) (fun _ h9 => h9) rfl dX6_type_79 ?_
        have e9 := Option.some.inj hf
        subst e9
        exact hR _ _ _ _ dX6_type_82 hP hS
    · replace hf := g6.2 c5
      refine lv_aload_n hx hb dX6_type_29 rfl (lv_at hl 0 rfl) ?_
      obtain ⟨r8, e9, hf⟩ := bind_some hf
      refine callVi (As := []) (rest := []) M (mX6_refuseFull l D cs sk h_t q_t k d_t e9) mw_X6_103 ln_X6_refuseFull ⟨rfl, rfl, Nat.le_of_ble_eq_true rfl, Nat.le_of_ble_eq_true rfl⟩ hP hD hS hA [0] (by decide) rfl rfl (q0 := 0) rfl rfl rfl ⟨Nat.zero_le _, Nat.zero_le _⟩ hl.1 rfl (Nat.le_of_ble_eq_true rfl) dX6_type_30 (fun H locs hP hD hS => ?_)
      replace hP : va_P D vwCl [oX6 h_t q_t (r8.2.1), ((q_t 12), .inl (cs 1, 250, .inl (d_t.2 12)))] H := hP
      replace hD : va_D A [oX6 h_t q_t (r8.2.1), ((q_t 12), .inl (cs 1, 250, .inl (d_t.2 12)))] := hD
      have e9 := Option.some.inj hf
      subst e9
      exact hR _ _ _ _ dX6_type_33 hP hS
  · replace hf := g4.1 c3
    refine lv_aload_n hx hb dX6_type_10 rfl (lv_at hl 0 rfl) ?_
    refine lv_bipush (v := (-2)) hx hb dX6_type_11 rfl ?_
    obtain ⟨r10, e11, hf⟩ := bind_some hf
    refine callVi (As := [.int (-2)]) (rest := []) M (mX6_refuseBad l D cs sk h_t q_t k d_t (-2) e11) mw_X6_96 ln_X6_refuseBad ⟨rfl, rfl, Nat.le_of_ble_eq_true rfl, Nat.le_of_ble_eq_true rfl⟩ hP hD hS hA [0] (by decide) rfl rfl (q0 := 0) rfl rfl rfl ⟨Nat.zero_le _, Nat.zero_le _⟩ hl.1 rfl (Nat.le_of_ble_eq_true rfl) dX6_type_13 (fun H locs hP hD hS => ?_)
    replace hP : va_P D vwCl [oX6 h_t q_t (r10.2.1), ((q_t 12), .inl (cs 1, 250, .inl (d_t.2 12)))] H := hP
    replace hD : va_D A [oX6 h_t q_t (r10.2.1), ((q_t 12), .inl (cs 1, 250, .inl (d_t.2 12)))] := hD
    have e9 := Option.some.inj hf
    subst e9
    exact hR _ _ _ _ dX6_type_16 hP hS
abbrev rm_X6_clear : Room := { frames := 0, cells := 0, slots := 0, locals := 0 }
def fX6_clear (k : Nat) (d_t : Dat) : Option (Int32 × Dat) :=
  some ((d_t.1 13), ((upd d_t.1 13 0), d_t.2))
set_option maxHeartbeats 4000000 in
set_option maxRecDepth 100000 in
theorem mX6_clear (l : Launch) (D : va_G) (cs : Nat → ClassId) (sk : Nat → Nat) (h_t : Nat) (q_t : Nat → Nat) (k : Nat) (d_t : Dat) {rv : Int32 × Dat} (hf : fX6_clear k d_t = some rv) : CTi l yX6_clear (Cond.code yX6_clear cX6_clear 2 (some .int) :: gtbl) rm_X6_clear D cs sk [.ref h_t] [oX6 h_t q_t (d_t.1)] (rv.1) [oX6 h_t q_t (rv.2.1)] := by
  refine CTi.of RX6 (by decide +kernel) rfl (Nat.le_of_ble_eq_true rfl) (fun p e s m args below meth c A Q ls M hA hR hl hP hD hS => ?_)
  obtain ⟨hx, hb, hml, hT, hown, hlk, hrt, hK, hN, hSE⟩ := id M
  replace hl : lv_has ls 2 [(0, .ref h_t)] := hl
  unfold fX6_clear at hf
  refine lv_aload_n hx hb dX6_clear_0 rfl (lv_at hl 0 rfl) ?_
  refine va_get (D := D) (ci := 6) (v := .int (d_t.1 13)) (C := RX6) (T := TX6) (N := 18) hx hb hT iX6 hown hK hP 0 rfl rfl 13 (by decide) (hT _ fw_X6_76) (fun _ h9 => h9) rfl dX6_clear_1 ?_
  refine lv_istore_n (lv' := [(1, .int (d_t.1 13)), (0, .ref h_t)]) hx hb dX6_clear_4 rfl hl (by decide) rfl (fun ls hl => ?_)
  refine lv_aload_n hx hb dX6_clear_5 rfl (lv_at hl 1 rfl) ?_
  refine lv_iconst (v := 0) hx hb dX6_clear_6 rfl ?_
  refine va_put (D := D) (ci := 6) (v := .int 0) (ty := tyX6 13) (C := RX6) (T := TX6) (N := 18) hx hb hT iX6 tyX6 tyX6_ok nmX6 hown hK hP hD hS 0 rfl rfl 13 (by decide) (hT _ fw_X6_76) (fun _ h9 => h9) rfl (tyX6_ok 13 (by decide)) rfl rfl (Nat.le_of_ble_eq_true rfl) dX6_clear_7 (fun H locs hP hD hS => ?_)
  replace hP : va_P D vwCl [oX6 h_t q_t (upd d_t.1 13 0)] H := hP
  replace hD : va_D A [oX6 h_t q_t (upd d_t.1 13 0)] := hD
  refine lv_iload_n hx hb dX6_clear_10 rfl (lv_at hl 0 rfl) ?_
  have e9 := Option.some.inj hf
  subst e9
  exact hR _ _ _ _ dX6_clear_11 hP hS
abbrev rm_X6_read : Room := { frames := 7, cells := 0, slots := 0, locals := 159 }
def fX6_read (k : Nat) (d_t : Dat) (d_t_0 : Dat) (d_t_1 : Dat) (d_t_5 : Dat) (d_t_6 : Dat) (d_t_11 : Dat) : Option (Int32 × Dat × Dat × Dat × Dat × Dat) :=
  (fX4_becomeLike k d_t_5 d_t_0).bind (fun (r1 : Dat) => (fX4_makeEmpty k (r1.1, (va_up (va_up (va_up (va_up d_t_5.2 1 (r1.2 1)) 2 (r1.2 2)) 4 (r1.2 4)) 5 (r1.2 5)))).bind (fun (r3 : Dat) => (fX0_makeEmpty k d_t_6).bind (fun (r5 : Dat) => (fX2_readTown k d_t_11 (r3.1, (va_up (va_up (va_up (va_up d_t_5.2 1 (r1.2 1)) 2 (r1.2 2)) 4 (r1.2 4)) 5 (r1.2 5))) (r5.1, d_t_6.2) (d_t.2 12) (d_t.1 13)).bind (fun (r7 : Int32 × Dat × Dat × Dat) => (if 0 ≤ (r7.1) then (fX4_becomeLike k d_t_0 (r7.2.2.1.1, (va_up (va_up (va_up (va_up d_t_5.2 1 (r7.2.2.1.2 1)) 2 (r7.2.2.1.2 2)) 4 (r7.2.2.1.2 4)) 5 (r7.2.2.1.2 5)))).bind (fun (r11 : Dat) => (fX0_becomeLike k d_t_1 (r7.2.2.2.1, (va_up (va_up (va_up (va_up (va_up d_t_6.2 1 (r7.2.2.2.2 1)) 2 (r7.2.2.2.2 2)) 3 (r7.2.2.2.2 3)) 4 (r7.2.2.2.2 4)) 5 (r7.2.2.2.2 5)))).bind (fun (r13 : Dat) => some ((r7.1), (r11.1, (va_up (va_up (va_up (va_up d_t_0.2 1 (r11.2 1)) 2 (r11.2 2)) 4 (r11.2 4)) 5 (r11.2 5))), (r13.1, (va_up (va_up (va_up (va_up (va_up (va_up d_t_1.2 1 (r13.2 1)) 2 (r13.2 2)) 3 (r13.2 3)) 4 (r13.2 4)) 5 (r13.2 5)) 9 (r13.2 9))), (r7.2.2.1.1, (va_up (va_up (va_up (va_up d_t_5.2 1 (r7.2.2.1.2 1)) 2 (r7.2.2.1.2 2)) 4 (r7.2.2.1.2 4)) 5 (r7.2.2.1.2 5))), (r7.2.2.2.1, (va_up (va_up (va_up (va_up (va_up d_t_6.2 1 (r7.2.2.2.2 1)) 2 (r7.2.2.2.2 2)) 3 (r7.2.2.2.2 3)) 4 (r7.2.2.2.2 4)) 5 (r7.2.2.2.2 5))), (r7.2.1.1, d_t_11.2)))) else some (((-10) - (r7.2.1.1 6)), d_t_0, d_t_1, (r7.2.2.1.1, (va_up (va_up (va_up (va_up d_t_5.2 1 (r7.2.2.1.2 1)) 2 (r7.2.2.1.2 2)) 4 (r7.2.2.1.2 4)) 5 (r7.2.2.1.2 5))), (r7.2.2.2.1, (va_up (va_up (va_up (va_up (va_up d_t_6.2 1 (r7.2.2.2.2 1)) 2 (r7.2.2.2.2 2)) 3 (r7.2.2.2.2 3)) 4 (r7.2.2.2.2 4)) 5 (r7.2.2.2.2 5))), (r7.2.1.1, d_t_11.2)))))))
set_option maxHeartbeats 4000000 in
set_option maxRecDepth 100000 in
theorem mX6_read (l : Launch) (D : va_G) (cs : Nat → ClassId) (sk : Nat → Nat) (h_t : Nat) (q_t : Nat → Nat) (q_t_0 : Nat → Nat) (q_t_1 : Nat → Nat) (q_t_5 : Nat → Nat) (q_t_6 : Nat → Nat) (q_t_11 : Nat → Nat) (k : Nat) (d_t : Dat) (d_t_0 : Dat) (d_t_1 : Dat) (d_t_5 : Dat) (d_t_6 : Dat) (d_t_11 : Dat) {rv : Int32 × Dat × Dat × Dat × Dat × Dat} (hf : fX6_read k d_t d_t_0 d_t_1 d_t_5 d_t_6 d_t_11 = some rv) : CTi l yX6_read (Cond.code yX6_read cX6_read 2 (some .int) :: gtbl) rm_X6_read D cs sk [.ref h_t] [oX6 h_t q_t (d_t.1), oX4 (q_t 0) q_t_0 (d_t_0.1), ((q_t_0 1), .inl (cs 0, 6, .inl (d_t_0.2 1))), ((q_t_0 2), .inl (cs 0, 6, .inl (d_t_0.2 2))), ((q_t_0 4), .inl (cs 0, 3, .inl (d_t_0.2 4))), ((q_t_0 5), .inl (cs 0, 3, .inl (d_t_0.2 5))), oX0 (q_t 1) q_t_1 (d_t_1.1), ((q_t_1 1), .inl (cs 0, 6, .inl (d_t_1.2 1))), ((q_t_1 2), .inl (cs 0, 6, .inl (d_t_1.2 2))), ((q_t_1 3), .inl (cs 0, 6, .inl (d_t_1.2 3))), ((q_t_1 4), .inl (cs 0, 6, .inl (d_t_1.2 4))), ((q_t_1 5), .inl (cs 0, 6, .inl (d_t_1.2 5))), ((q_t_1 9), .inl (cs 0, 48, .inl (d_t_1.2 9))), oX4 (q_t 5) q_t_5 (d_t_5.1), ((q_t_5 1), .inl (cs 0, 6, .inl (d_t_5.2 1))), ((q_t_5 2), .inl (cs 0, 6, .inl (d_t_5.2 2))), ((q_t_5 4), .inl (cs 0, 3, .inl (d_t_5.2 4))), ((q_t_5 5), .inl (cs 0, 3, .inl (d_t_5.2 5))), oX0 (q_t 6) q_t_6 (d_t_6.1), ((q_t_6 1), .inl (cs 0, 6, .inl (d_t_6.2 1))), ((q_t_6 2), .inl (cs 0, 6, .inl (d_t_6.2 2))), ((q_t_6 3), .inl (cs 0, 6, .inl (d_t_6.2 3))), ((q_t_6 4), .inl (cs 0, 6, .inl (d_t_6.2 4))), ((q_t_6 5), .inl (cs 0, 6, .inl (d_t_6.2 5))), ((q_t_6 9), .inl (cs 0, 48, .inl (d_t_6.2 9))), oX2 (q_t 11) q_t_11 (d_t_11.1), ((q_t 12), .inl (cs 1, 250, .inl (d_t.2 12)))] (rv.1) [oX6 h_t q_t (d_t.1), oX4 (q_t 0) q_t_0 (rv.2.1.1), ((q_t_0 1), .inl (cs 0, 6, .inl (rv.2.1.2 1))), ((q_t_0 2), .inl (cs 0, 6, .inl (rv.2.1.2 2))), ((q_t_0 4), .inl (cs 0, 3, .inl (rv.2.1.2 4))), ((q_t_0 5), .inl (cs 0, 3, .inl (rv.2.1.2 5))), oX0 (q_t 1) q_t_1 (rv.2.2.1.1), ((q_t_1 1), .inl (cs 0, 6, .inl (rv.2.2.1.2 1))), ((q_t_1 2), .inl (cs 0, 6, .inl (rv.2.2.1.2 2))), ((q_t_1 3), .inl (cs 0, 6, .inl (rv.2.2.1.2 3))), ((q_t_1 4), .inl (cs 0, 6, .inl (rv.2.2.1.2 4))), ((q_t_1 5), .inl (cs 0, 6, .inl (rv.2.2.1.2 5))), ((q_t_1 9), .inl (cs 0, 48, .inl (rv.2.2.1.2 9))), oX4 (q_t 5) q_t_5 (rv.2.2.2.1.1), ((q_t_5 1), .inl (cs 0, 6, .inl (rv.2.2.2.1.2 1))), ((q_t_5 2), .inl (cs 0, 6, .inl (rv.2.2.2.1.2 2))), ((q_t_5 4), .inl (cs 0, 3, .inl (rv.2.2.2.1.2 4))), ((q_t_5 5), .inl (cs 0, 3, .inl (rv.2.2.2.1.2 5))), oX0 (q_t 6) q_t_6 (rv.2.2.2.2.1.1), ((q_t_6 1), .inl (cs 0, 6, .inl (rv.2.2.2.2.1.2 1))), ((q_t_6 2), .inl (cs 0, 6, .inl (rv.2.2.2.2.1.2 2))), ((q_t_6 3), .inl (cs 0, 6, .inl (rv.2.2.2.2.1.2 3))), ((q_t_6 4), .inl (cs 0, 6, .inl (rv.2.2.2.2.1.2 4))), ((q_t_6 5), .inl (cs 0, 6, .inl (rv.2.2.2.2.1.2 5))), ((q_t_6 9), .inl (cs 0, 48, .inl (d_t_6.2 9))), oX2 (q_t 11) (va_up q_t_11 0 (q_t 12)) (rv.2.2.2.2.2.1), ((q_t 12), .inl (cs 1, 250, .inl (d_t.2 12)))] := by
  refine CTi.of RX6 (by decide +kernel) rfl (Nat.le_of_ble_eq_true rfl) (fun p e s m args below meth c A Q ls M hA hR hl hP hD hS => ?_)
  obtain ⟨hx, hb, hml, hT, hown, hlk, hrt, hK, hN, hSE⟩ := id M
  replace hl : lv_has ls 2 [(0, .ref h_t)] := hl
  unfold fX6_read at hf
  refine lv_aload_n hx hb dX6_read_0 rfl (lv_at hl 0 rfl) ?_
  refine va_get (D := D) (ci := 6) (v := .ref (q_t 5)) (C := RX6) (T := TX6) (N := 18) hx hb hT iX6 hown hK hP 0 rfl rfl 5 (by decide) (hT _ fw_X6_35) (fun _ h9 => h9) rfl dX6_read_1 ?_
  refine lv_aload_n hx hb dX6_read_4 rfl (lv_at hl 0 rfl) ?_
  refine va_get (D := D) (ci := 6) (v := .ref (q_t 0)) (C := RX6) (T := TX6) (N := 18) hx hb hT iX6 hown hK hP 0 rfl rfl 0 (by decide) (hT _ fw_X6_10) (fun _ h9 => h9) rfl dX6_read_5 ?_
  obtain ⟨r1, e2, hf⟩ := bind_some hf
  refine callVv (As := [.ref (q_t 0)]) (rest := []) M (mX4_becomeLike l D cs sk (q_t 5) (q_t 0) q_t_5 q_t_0 k d_t_5 d_t_0 e2) mw_X6_166 ln_X4_becomeLike ⟨rfl, rfl, Nat.le_of_ble_eq_true rfl, Nat.le_of_ble_eq_true rfl⟩ hP hD hS hA [13, 14, 15, 16, 17, 1, 2, 3, 4, 5] (by decide) rfl rfl (q0 := 0) rfl rfl rfl ⟨Nat.zero_le _, Nat.zero_le _⟩ hl.1 rfl (Nat.le_of_ble_eq_true rfl) dX6_read_8 (fun H locs hP hD hS => ?_)
  replace hP : va_P D vwCl [oX6 h_t q_t (d_t.1), oX4 (q_t 0) q_t_0 (d_t_0.1), ((q_t_0 1), .inl (cs 0, 6, .inl (d_t_0.2 1))), ((q_t_0 2), .inl (cs 0, 6, .inl (d_t_0.2 2))), ((q_t_0 4), .inl (cs 0, 3, .inl (d_t_0.2 4))), ((q_t_0 5), .inl (cs 0, 3, .inl (d_t_0.2 5))), oX0 (q_t 1) q_t_1 (d_t_1.1), ((q_t_1 1), .inl (cs 0, 6, .inl (d_t_1.2 1))), ((q_t_1 2), .inl (cs 0, 6, .inl (d_t_1.2 2))), ((q_t_1 3), .inl (cs 0, 6, .inl (d_t_1.2 3))), ((q_t_1 4), .inl (cs 0, 6, .inl (d_t_1.2 4))), ((q_t_1 5), .inl (cs 0, 6, .inl (d_t_1.2 5))), ((q_t_1 9), .inl (cs 0, 48, .inl (d_t_1.2 9))), oX4 (q_t 5) q_t_5 (r1.1), ((q_t_5 1), .inl (cs 0, 6, .inl (r1.2 1))), ((q_t_5 2), .inl (cs 0, 6, .inl (r1.2 2))), ((q_t_5 4), .inl (cs 0, 3, .inl (r1.2 4))), ((q_t_5 5), .inl (cs 0, 3, .inl (r1.2 5))), oX0 (q_t 6) q_t_6 (d_t_6.1), ((q_t_6 1), .inl (cs 0, 6, .inl (d_t_6.2 1))), ((q_t_6 2), .inl (cs 0, 6, .inl (d_t_6.2 2))), ((q_t_6 3), .inl (cs 0, 6, .inl (d_t_6.2 3))), ((q_t_6 4), .inl (cs 0, 6, .inl (d_t_6.2 4))), ((q_t_6 5), .inl (cs 0, 6, .inl (d_t_6.2 5))), ((q_t_6 9), .inl (cs 0, 48, .inl (d_t_6.2 9))), oX2 (q_t 11) q_t_11 (d_t_11.1), ((q_t 12), .inl (cs 1, 250, .inl (d_t.2 12)))] H := hP
  replace hD : va_D A [oX6 h_t q_t (d_t.1), oX4 (q_t 0) q_t_0 (d_t_0.1), ((q_t_0 1), .inl (cs 0, 6, .inl (d_t_0.2 1))), ((q_t_0 2), .inl (cs 0, 6, .inl (d_t_0.2 2))), ((q_t_0 4), .inl (cs 0, 3, .inl (d_t_0.2 4))), ((q_t_0 5), .inl (cs 0, 3, .inl (d_t_0.2 5))), oX0 (q_t 1) q_t_1 (d_t_1.1), ((q_t_1 1), .inl (cs 0, 6, .inl (d_t_1.2 1))), ((q_t_1 2), .inl (cs 0, 6, .inl (d_t_1.2 2))), ((q_t_1 3), .inl (cs 0, 6, .inl (d_t_1.2 3))), ((q_t_1 4), .inl (cs 0, 6, .inl (d_t_1.2 4))), ((q_t_1 5), .inl (cs 0, 6, .inl (d_t_1.2 5))), ((q_t_1 9), .inl (cs 0, 48, .inl (d_t_1.2 9))), oX4 (q_t 5) q_t_5 (r1.1), ((q_t_5 1), .inl (cs 0, 6, .inl (r1.2 1))), ((q_t_5 2), .inl (cs 0, 6, .inl (r1.2 2))), ((q_t_5 4), .inl (cs 0, 3, .inl (r1.2 4))), ((q_t_5 5), .inl (cs 0, 3, .inl (r1.2 5))), oX0 (q_t 6) q_t_6 (d_t_6.1), ((q_t_6 1), .inl (cs 0, 6, .inl (d_t_6.2 1))), ((q_t_6 2), .inl (cs 0, 6, .inl (d_t_6.2 2))), ((q_t_6 3), .inl (cs 0, 6, .inl (d_t_6.2 3))), ((q_t_6 4), .inl (cs 0, 6, .inl (d_t_6.2 4))), ((q_t_6 5), .inl (cs 0, 6, .inl (d_t_6.2 5))), ((q_t_6 9), .inl (cs 0, 48, .inl (d_t_6.2 9))), oX2 (q_t 11) q_t_11 (d_t_11.1), ((q_t 12), .inl (cs 1, 250, .inl (d_t.2 12)))] := hD
  refine lv_aload_n hx hb dX6_read_11 rfl (lv_at hl 0 rfl) ?_
  refine va_get (D := D) (ci := 6) (v := .ref (q_t 5)) (C := RX6) (T := TX6) (N := 18) hx hb hT iX6 hown hK hP 0 rfl rfl 5 (by decide) (hT _ fw_X6_35) (fun _ h9 => h9) rfl dX6_read_12 ?_
  obtain ⟨r3, e4, hf⟩ := bind_some hf
  refine callVv (As := []) (rest := []) M (mX4_makeEmpty l D cs sk (q_t 5) q_t_5 k (r1.1, (va_up (va_up (va_up (va_up d_t_5.2 1 (r1.2 1)) 2 (r1.2 2)) 4 (r1.2 4)) 5 (r1.2 5))) e4) mw_X6_170 ln_X4_makeEmpty ⟨rfl, rfl, Nat.le_of_ble_eq_true rfl, Nat.le_of_ble_eq_true rfl⟩ hP hD hS hA [13] (by decide) rfl rfl (q0 := 0) rfl rfl rfl ⟨Nat.zero_le _, Nat.zero_le _⟩ hl.1 rfl (Nat.le_of_ble_eq_true rfl) dX6_read_15 (fun H locs hP hD hS => ?_)
  replace hP : va_P D vwCl [oX6 h_t q_t (d_t.1), oX4 (q_t 0) q_t_0 (d_t_0.1), ((q_t_0 1), .inl (cs 0, 6, .inl (d_t_0.2 1))), ((q_t_0 2), .inl (cs 0, 6, .inl (d_t_0.2 2))), ((q_t_0 4), .inl (cs 0, 3, .inl (d_t_0.2 4))), ((q_t_0 5), .inl (cs 0, 3, .inl (d_t_0.2 5))), oX0 (q_t 1) q_t_1 (d_t_1.1), ((q_t_1 1), .inl (cs 0, 6, .inl (d_t_1.2 1))), ((q_t_1 2), .inl (cs 0, 6, .inl (d_t_1.2 2))), ((q_t_1 3), .inl (cs 0, 6, .inl (d_t_1.2 3))), ((q_t_1 4), .inl (cs 0, 6, .inl (d_t_1.2 4))), ((q_t_1 5), .inl (cs 0, 6, .inl (d_t_1.2 5))), ((q_t_1 9), .inl (cs 0, 48, .inl (d_t_1.2 9))), oX4 (q_t 5) q_t_5 (r3.1), ((q_t_5 1), .inl (cs 0, 6, .inl (r1.2 1))), ((q_t_5 2), .inl (cs 0, 6, .inl (r1.2 2))), ((q_t_5 4), .inl (cs 0, 3, .inl (r1.2 4))), ((q_t_5 5), .inl (cs 0, 3, .inl (r1.2 5))), oX0 (q_t 6) q_t_6 (d_t_6.1), ((q_t_6 1), .inl (cs 0, 6, .inl (d_t_6.2 1))), ((q_t_6 2), .inl (cs 0, 6, .inl (d_t_6.2 2))), ((q_t_6 3), .inl (cs 0, 6, .inl (d_t_6.2 3))), ((q_t_6 4), .inl (cs 0, 6, .inl (d_t_6.2 4))), ((q_t_6 5), .inl (cs 0, 6, .inl (d_t_6.2 5))), ((q_t_6 9), .inl (cs 0, 48, .inl (d_t_6.2 9))), oX2 (q_t 11) q_t_11 (d_t_11.1), ((q_t 12), .inl (cs 1, 250, .inl (d_t.2 12)))] H := hP
  replace hD : va_D A [oX6 h_t q_t (d_t.1), oX4 (q_t 0) q_t_0 (d_t_0.1), ((q_t_0 1), .inl (cs 0, 6, .inl (d_t_0.2 1))), ((q_t_0 2), .inl (cs 0, 6, .inl (d_t_0.2 2))), ((q_t_0 4), .inl (cs 0, 3, .inl (d_t_0.2 4))), ((q_t_0 5), .inl (cs 0, 3, .inl (d_t_0.2 5))), oX0 (q_t 1) q_t_1 (d_t_1.1), ((q_t_1 1), .inl (cs 0, 6, .inl (d_t_1.2 1))), ((q_t_1 2), .inl (cs 0, 6, .inl (d_t_1.2 2))), ((q_t_1 3), .inl (cs 0, 6, .inl (d_t_1.2 3))), ((q_t_1 4), .inl (cs 0, 6, .inl (d_t_1.2 4))), ((q_t_1 5), .inl (cs 0, 6, .inl (d_t_1.2 5))), ((q_t_1 9), .inl (cs 0, 48, .inl (d_t_1.2 9))), oX4 (q_t 5) q_t_5 (r3.1), ((q_t_5 1), .inl (cs 0, 6, .inl (r1.2 1))), ((q_t_5 2), .inl (cs 0, 6, .inl (r1.2 2))), ((q_t_5 4), .inl (cs 0, 3, .inl (r1.2 4))), ((q_t_5 5), .inl (cs 0, 3, .inl (r1.2 5))), oX0 (q_t 6) q_t_6 (d_t_6.1), ((q_t_6 1), .inl (cs 0, 6, .inl (d_t_6.2 1))), ((q_t_6 2), .inl (cs 0, 6, .inl (d_t_6.2 2))), ((q_t_6 3), .inl (cs 0, 6, .inl (d_t_6.2 3))), ((q_t_6 4), .inl (cs 0, 6, .inl (d_t_6.2 4))), ((q_t_6 5), .inl (cs 0, 6, .inl (d_t_6.2 5))), ((q_t_6 9), .inl (cs 0, 48, .inl (d_t_6.2 9))), oX2 (q_t 11) q_t_11 (d_t_11.1), ((q_t 12), .inl (cs 1, 250, .inl (d_t.2 12)))] := hD
  refine lv_aload_n hx hb dX6_read_18 rfl (lv_at hl 0 rfl) ?_
  refine va_get (D := D) (ci := 6) (v := .ref (q_t 6)) (C := RX6) (T := TX6) (N := 18) hx hb hT iX6 hown hK hP 0 rfl rfl 6 (by decide) (hT _ fw_X6_38) (fun _ h9 => h9) rfl dX6_read_19 ?_
  obtain ⟨r5, e6, hf⟩ := bind_some hf
  refine callVv (As := []) (rest := []) M (mX0_makeEmpty l D cs sk (q_t 6) q_t_6 k d_t_6 e6) mw_X6_173 ln_X0_makeEmpty ⟨rfl, rfl, Nat.le_of_ble_eq_true rfl, Nat.le_of_ble_eq_true rfl⟩ hP hD hS hA [18] (by decide) rfl rfl (q0 := 0) rfl rfl rfl ⟨Nat.zero_le _, Nat.zero_le _⟩ hl.1 rfl (Nat.le_of_ble_eq_true rfl) dX6_read_22 (fun H locs hP hD hS => ?_)
  replace hP : va_P D vwCl [oX6 h_t q_t (d_t.1), oX4 (q_t 0) q_t_0 (d_t_0.1), ((q_t_0 1), .inl (cs 0, 6, .inl (d_t_0.2 1))), ((q_t_0 2), .inl (cs 0, 6, .inl (d_t_0.2 2))), ((q_t_0 4), .inl (cs 0, 3, .inl (d_t_0.2 4))), ((q_t_0 5), .inl (cs 0, 3, .inl (d_t_0.2 5))), oX0 (q_t 1) q_t_1 (d_t_1.1), ((q_t_1 1), .inl (cs 0, 6, .inl (d_t_1.2 1))), ((q_t_1 2), .inl (cs 0, 6, .inl (d_t_1.2 2))), ((q_t_1 3), .inl (cs 0, 6, .inl (d_t_1.2 3))), ((q_t_1 4), .inl (cs 0, 6, .inl (d_t_1.2 4))), ((q_t_1 5), .inl (cs 0, 6, .inl (d_t_1.2 5))), ((q_t_1 9), .inl (cs 0, 48, .inl (d_t_1.2 9))), oX4 (q_t 5) q_t_5 (r3.1), ((q_t_5 1), .inl (cs 0, 6, .inl (r1.2 1))), ((q_t_5 2), .inl (cs 0, 6, .inl (r1.2 2))), ((q_t_5 4), .inl (cs 0, 3, .inl (r1.2 4))), ((q_t_5 5), .inl (cs 0, 3, .inl (r1.2 5))), oX0 (q_t 6) q_t_6 (r5.1), ((q_t_6 1), .inl (cs 0, 6, .inl (d_t_6.2 1))), ((q_t_6 2), .inl (cs 0, 6, .inl (d_t_6.2 2))), ((q_t_6 3), .inl (cs 0, 6, .inl (d_t_6.2 3))), ((q_t_6 4), .inl (cs 0, 6, .inl (d_t_6.2 4))), ((q_t_6 5), .inl (cs 0, 6, .inl (d_t_6.2 5))), ((q_t_6 9), .inl (cs 0, 48, .inl (d_t_6.2 9))), oX2 (q_t 11) q_t_11 (d_t_11.1), ((q_t 12), .inl (cs 1, 250, .inl (d_t.2 12)))] H := hP
  replace hD : va_D A [oX6 h_t q_t (d_t.1), oX4 (q_t 0) q_t_0 (d_t_0.1), ((q_t_0 1), .inl (cs 0, 6, .inl (d_t_0.2 1))), ((q_t_0 2), .inl (cs 0, 6, .inl (d_t_0.2 2))), ((q_t_0 4), .inl (cs 0, 3, .inl (d_t_0.2 4))), ((q_t_0 5), .inl (cs 0, 3, .inl (d_t_0.2 5))), oX0 (q_t 1) q_t_1 (d_t_1.1), ((q_t_1 1), .inl (cs 0, 6, .inl (d_t_1.2 1))), ((q_t_1 2), .inl (cs 0, 6, .inl (d_t_1.2 2))), ((q_t_1 3), .inl (cs 0, 6, .inl (d_t_1.2 3))), ((q_t_1 4), .inl (cs 0, 6, .inl (d_t_1.2 4))), ((q_t_1 5), .inl (cs 0, 6, .inl (d_t_1.2 5))), ((q_t_1 9), .inl (cs 0, 48, .inl (d_t_1.2 9))), oX4 (q_t 5) q_t_5 (r3.1), ((q_t_5 1), .inl (cs 0, 6, .inl (r1.2 1))), ((q_t_5 2), .inl (cs 0, 6, .inl (r1.2 2))), ((q_t_5 4), .inl (cs 0, 3, .inl (r1.2 4))), ((q_t_5 5), .inl (cs 0, 3, .inl (r1.2 5))), oX0 (q_t 6) q_t_6 (r5.1), ((q_t_6 1), .inl (cs 0, 6, .inl (d_t_6.2 1))), ((q_t_6 2), .inl (cs 0, 6, .inl (d_t_6.2 2))), ((q_t_6 3), .inl (cs 0, 6, .inl (d_t_6.2 3))), ((q_t_6 4), .inl (cs 0, 6, .inl (d_t_6.2 4))), ((q_t_6 5), .inl (cs 0, 6, .inl (d_t_6.2 5))), ((q_t_6 9), .inl (cs 0, 48, .inl (d_t_6.2 9))), oX2 (q_t 11) q_t_11 (d_t_11.1), ((q_t 12), .inl (cs 1, 250, .inl (d_t.2 12)))] := hD
  refine lv_aload_n hx hb dX6_read_25 rfl (lv_at hl 0 rfl) ?_
  refine va_get (D := D) (ci := 6) (v := .ref (q_t 11)) (C := RX6) (T := TX6) (N := 18) hx hb hT iX6 hown hK hP 0 rfl rfl 11 (by decide) (hT _ fw_X6_68) (fun _ h9 => h9) rfl dX6_read_26 ?_
  refine lv_aload_n hx hb dX6_read_29 rfl (lv_at hl 0 rfl) ?_
  refine va_get (D := D) (ci := 6) (v := .ref (q_t 12)) (C := RX6) (T := TX6) (N := 18) hx hb hT iX6 hown hK hP 0 rfl rfl 12 (by decide) (hT _ fw_X6_72) (fun _ h9 => h9) rfl dX6_read_30 ?_
  refine lv_aload_n hx hb dX6_read_33 rfl (lv_at hl 0 rfl) ?_
  refine va_get (D := D) (ci := 6) (v := .int (d_t.1 13)) (C := RX6) (T := TX6) (N := 18) hx hb hT iX6 hown hK hP 0 rfl rfl 13 (by decide) (hT _ fw_X6_76) (fun _ h9 => h9) rfl dX6_read_34 ?_
  refine lv_aload_n hx hb dX6_read_37 rfl (lv_at hl 0 rfl) ?_
  refine va_get (D := D) (ci := 6) (v := .ref (q_t 5)) (C := RX6) (T := TX6) (N := 18) hx hb hT iX6 hown hK hP 0 rfl rfl 5 (by decide) (hT _ fw_X6_35) (fun _ h9 => h9) rfl dX6_read_38 ?_
  refine lv_aload_n hx hb dX6_read_41 rfl (lv_at hl 0 rfl) ?_
  refine va_get (D := D) (ci := 6) (v := .ref (q_t 6)) (C := RX6) (T := TX6) (N := 18) hx hb hT iX6 hown hK hP 0 rfl rfl 6 (by decide) (hT _ fw_X6_38) (fun _ h9 => h9) rfl dX6_read_42 ?_
  obtain ⟨r7, e8, hf⟩ := bind_some hf
  refine callVi (As := [.ref (q_t 12), .int (d_t.1 13), .ref (q_t 5), .ref (q_t 6)]) (rest := []) M (mX2_readTown l D cs sk (q_t 11) (q_t 12) (q_t 5) (q_t 6) q_t_11 q_t_5 q_t_6 k d_t_11 (r3.1, (va_up (va_up (va_up (va_up d_t_5.2 1 (r1.2 1)) 2 (r1.2 2)) 4 (r1.2 4)) 5 (r1.2 5))) (r5.1, d_t_6.2) (d_t.2 12) (d_t.1 13) e8) mw_X6_174 ln_X2_readTown ⟨rfl, rfl, Nat.le_of_ble_eq_true rfl, Nat.le_of_ble_eq_true rfl⟩ hP hD hS hA [25, 26, 13, 14, 15, 16, 17, 18, 19, 20, 21, 22, 23] (by decide) rfl rfl (q0 := 0) rfl rfl rfl ⟨Nat.zero_le _, Nat.zero_le _⟩ hl.1 rfl (Nat.le_of_ble_eq_true rfl) dX6_read_45 (fun H locs hP hD hS => ?_)
  replace hP : va_P D vwCl [oX6 h_t q_t (d_t.1), oX4 (q_t 0) q_t_0 (d_t_0.1), ((q_t_0 1), .inl (cs 0, 6, .inl (d_t_0.2 1))), ((q_t_0 2), .inl (cs 0, 6, .inl (d_t_0.2 2))), ((q_t_0 4), .inl (cs 0, 3, .inl (d_t_0.2 4))), ((q_t_0 5), .inl (cs 0, 3, .inl (d_t_0.2 5))), oX0 (q_t 1) q_t_1 (d_t_1.1), ((q_t_1 1), .inl (cs 0, 6, .inl (d_t_1.2 1))), ((q_t_1 2), .inl (cs 0, 6, .inl (d_t_1.2 2))), ((q_t_1 3), .inl (cs 0, 6, .inl (d_t_1.2 3))), ((q_t_1 4), .inl (cs 0, 6, .inl (d_t_1.2 4))), ((q_t_1 5), .inl (cs 0, 6, .inl (d_t_1.2 5))), ((q_t_1 9), .inl (cs 0, 48, .inl (d_t_1.2 9))), oX4 (q_t 5) q_t_5 (r7.2.2.1.1), ((q_t_5 1), .inl (cs 0, 6, .inl (r7.2.2.1.2 1))), ((q_t_5 2), .inl (cs 0, 6, .inl (r7.2.2.1.2 2))), ((q_t_5 4), .inl (cs 0, 3, .inl (r7.2.2.1.2 4))), ((q_t_5 5), .inl (cs 0, 3, .inl (r7.2.2.1.2 5))), oX0 (q_t 6) q_t_6 (r7.2.2.2.1), ((q_t_6 1), .inl (cs 0, 6, .inl (r7.2.2.2.2 1))), ((q_t_6 2), .inl (cs 0, 6, .inl (r7.2.2.2.2 2))), ((q_t_6 3), .inl (cs 0, 6, .inl (r7.2.2.2.2 3))), ((q_t_6 4), .inl (cs 0, 6, .inl (r7.2.2.2.2 4))), ((q_t_6 5), .inl (cs 0, 6, .inl (r7.2.2.2.2 5))), ((q_t_6 9), .inl (cs 0, 48, .inl (d_t_6.2 9))), oX2 (q_t 11) (va_up q_t_11 0 (q_t 12)) (r7.2.1.1), ((q_t 12), .inl (cs 1, 250, .inl (d_t.2 12)))] H := hP
  replace hD : va_D A [oX6 h_t q_t (d_t.1), oX4 (q_t 0) q_t_0 (d_t_0.1), ((q_t_0 1), .inl (cs 0, 6, .inl (d_t_0.2 1))), ((q_t_0 2), .inl (cs 0, 6, .inl (d_t_0.2 2))), ((q_t_0 4), .inl (cs 0, 3, .inl (d_t_0.2 4))), ((q_t_0 5), .inl (cs 0, 3, .inl (d_t_0.2 5))), oX0 (q_t 1) q_t_1 (d_t_1.1), ((q_t_1 1), .inl (cs 0, 6, .inl (d_t_1.2 1))), ((q_t_1 2), .inl (cs 0, 6, .inl (d_t_1.2 2))), ((q_t_1 3), .inl (cs 0, 6, .inl (d_t_1.2 3))), ((q_t_1 4), .inl (cs 0, 6, .inl (d_t_1.2 4))), ((q_t_1 5), .inl (cs 0, 6, .inl (d_t_1.2 5))), ((q_t_1 9), .inl (cs 0, 48, .inl (d_t_1.2 9))), oX4 (q_t 5) q_t_5 (r7.2.2.1.1), ((q_t_5 1), .inl (cs 0, 6, .inl (r7.2.2.1.2 1))), ((q_t_5 2), .inl (cs 0, 6, .inl (r7.2.2.1.2 2))), ((q_t_5 4), .inl (cs 0, 3, .inl (r7.2.2.1.2 4))), ((q_t_5 5), .inl (cs 0, 3, .inl (r7.2.2.1.2 5))), oX0 (q_t 6) q_t_6 (r7.2.2.2.1), ((q_t_6 1), .inl (cs 0, 6, .inl (r7.2.2.2.2 1))), ((q_t_6 2), .inl (cs 0, 6, .inl (r7.2.2.2.2 2))), ((q_t_6 3), .inl (cs 0, 6, .inl (r7.2.2.2.2 3))), ((q_t_6 4), .inl (cs 0, 6, .inl (r7.2.2.2.2 4))), ((q_t_6 5), .inl (cs 0, 6, .inl (r7.2.2.2.2 5))), ((q_t_6 9), .inl (cs 0, 48, .inl (d_t_6.2 9))), oX2 (q_t 11) (va_up q_t_11 0 (q_t 12)) (r7.2.1.1), ((q_t 12), .inl (cs 1, 250, .inl (d_t.2 12)))] := hD
  refine lv_istore_n (lv' := [(1, .int (r7.1)), (0, .ref h_t)]) hx hb dX6_read_48 rfl hl (by decide) rfl (fun ls hl => ?_)
  refine lv_iload_n hx hb dX6_read_49 rfl (lv_at hl 0 rfl) ?_
  have g10 := ite_some hf
  refine lv_if_ge (tgt := 64) hx hb dX6_read_50 (by decide) (fun c9 => ?_) (fun c9 => ?_)
  · replace hf := g10.1 c9
    refine lv_aload_n hx hb dX6_read_64 rfl (lv_at hl 1 rfl) ?_
    refine va_get (D := D) (ci := 6) (v := .ref (q_t 0)) (C := RX6) (T := TX6) (N := 18) hx hb hT iX6 hown hK hP 0 rfl rfl 0 (by decide) (hT _ fw_X6_10) (fun _ h9 => h9) rfl dX6_read_65 ?_
    refine lv_aload_n hx hb dX6_read_68 rfl (lv_at hl 1 rfl) ?_
    refine va_get (D := D) (ci := 6) (v := .ref (q_t 5)) (C := RX6) (T := TX6) (N := 18) hx hb hT iX6 hown hK hP 0 rfl rfl 5 (by decide) (hT _ fw_X6_35) (fun _ h9 => h9) rfl dX6_read_69 ?_
    obtain ⟨r11, e12, hf⟩ := bind_some hf
    refine callVv (As := [.ref (q_t 5)]) (rest := []) M (mX4_becomeLike l D cs sk (q_t 0) (q_t 5) q_t_0 q_t_5 k d_t_0 (r7.2.2.1.1, (va_up (va_up (va_up (va_up d_t_5.2 1 (r7.2.2.1.2 1)) 2 (r7.2.2.1.2 2)) 4 (r7.2.2.1.2 4)) 5 (r7.2.2.1.2 5))) e12) mw_X6_166 ln_X4_becomeLike ⟨rfl, rfl, Nat.le_of_ble_eq_true rfl, Nat.le_of_ble_eq_true rfl⟩ hP hD hS hA [1, 2, 3, 4, 5, 13, 14, 15, 16, 17] (by decide) rfl rfl (q0 := 0) rfl rfl rfl ⟨Nat.zero_le _, Nat.zero_le _⟩ hl.1 rfl (Nat.le_of_ble_eq_true rfl) dX6_read_72 (fun H locs hP hD hS => ?_)
    replace hP : va_P D vwCl [oX6 h_t q_t (d_t.1), oX4 (q_t 0) q_t_0 (r11.1), ((q_t_0 1), .inl (cs 0, 6, .inl (r11.2 1))), ((q_t_0 2), .inl (cs 0, 6, .inl (r11.2 2))), ((q_t_0 4), .inl (cs 0, 3, .inl (r11.2 4))), ((q_t_0 5), .inl (cs 0, 3, .inl (r11.2 5))), oX0 (q_t 1) q_t_1 (d_t_1.1), ((q_t_1 1), .inl (cs 0, 6, .inl (d_t_1.2 1))), ((q_t_1 2), .inl (cs 0, 6, .inl (d_t_1.2 2))), ((q_t_1 3), .inl (cs 0, 6, .inl (d_t_1.2 3))), ((q_t_1 4), .inl (cs 0, 6, .inl (d_t_1.2 4))), ((q_t_1 5), .inl (cs 0, 6, .inl (d_t_1.2 5))), ((q_t_1 9), .inl (cs 0, 48, .inl (d_t_1.2 9))), oX4 (q_t 5) q_t_5 (r7.2.2.1.1), ((q_t_5 1), .inl (cs 0, 6, .inl (r7.2.2.1.2 1))), ((q_t_5 2), .inl (cs 0, 6, .inl (r7.2.2.1.2 2))), ((q_t_5 4), .inl (cs 0, 3, .inl (r7.2.2.1.2 4))), ((q_t_5 5), .inl (cs 0, 3, .inl (r7.2.2.1.2 5))), oX0 (q_t 6) q_t_6 (r7.2.2.2.1), ((q_t_6 1), .inl (cs 0, 6, .inl (r7.2.2.2.2 1))), ((q_t_6 2), .inl (cs 0, 6, .inl (r7.2.2.2.2 2))), ((q_t_6 3), .inl (cs 0, 6, .inl (r7.2.2.2.2 3))), ((q_t_6 4), .inl (cs 0, 6, .inl (r7.2.2.2.2 4))), ((q_t_6 5), .inl (cs 0, 6, .inl (r7.2.2.2.2 5))), ((q_t_6 9), .inl (cs 0, 48, .inl (d_t_6.2 9))), oX2 (q_t 11) (va_up q_t_11 0 (q_t 12)) (r7.2.1.1), ((q_t 12), .inl (cs 1, 250, .inl (d_t.2 12)))] H := hP
    replace hD : va_D A [oX6 h_t q_t (d_t.1), oX4 (q_t 0) q_t_0 (r11.1), ((q_t_0 1), .inl (cs 0, 6, .inl (r11.2 1))), ((q_t_0 2), .inl (cs 0, 6, .inl (r11.2 2))), ((q_t_0 4), .inl (cs 0, 3, .inl (r11.2 4))), ((q_t_0 5), .inl (cs 0, 3, .inl (r11.2 5))), oX0 (q_t 1) q_t_1 (d_t_1.1), ((q_t_1 1), .inl (cs 0, 6, .inl (d_t_1.2 1))), ((q_t_1 2), .inl (cs 0, 6, .inl (d_t_1.2 2))), ((q_t_1 3), .inl (cs 0, 6, .inl (d_t_1.2 3))), ((q_t_1 4), .inl (cs 0, 6, .inl (d_t_1.2 4))), ((q_t_1 5), .inl (cs 0, 6, .inl (d_t_1.2 5))), ((q_t_1 9), .inl (cs 0, 48, .inl (d_t_1.2 9))), oX4 (q_t 5) q_t_5 (r7.2.2.1.1), ((q_t_5 1), .inl (cs 0, 6, .inl (r7.2.2.1.2 1))), ((q_t_5 2), .inl (cs 0, 6, .inl (r7.2.2.1.2 2))), ((q_t_5 4), .inl (cs 0, 3, .inl (r7.2.2.1.2 4))), ((q_t_5 5), .inl (cs 0, 3, .inl (r7.2.2.1.2 5))), oX0 (q_t 6) q_t_6 (r7.2.2.2.1), ((q_t_6 1), .inl (cs 0, 6, .inl (r7.2.2.2.2 1))), ((q_t_6 2), .inl (cs 0, 6, .inl (r7.2.2.2.2 2))), ((q_t_6 3), .inl (cs 0, 6, .inl (r7.2.2.2.2 3))), ((q_t_6 4), .inl (cs 0, 6, .inl (r7.2.2.2.2 4))), ((q_t_6 5), .inl (cs 0, 6, .inl (r7.2.2.2.2 5))), ((q_t_6 9), .inl (cs 0, 48, .inl (d_t_6.2 9))), oX2 (q_t 11) (va_up q_t_11 0 (q_t 12)) (r7.2.1.1), ((q_t 12), .inl (cs 1, 250, .inl (d_t.2 12)))] := hD
    refine lv_aload_n hx hb dX6_read_75 rfl (lv_at hl 1 rfl) ?_
    refine va_get (D := D) (ci := 6) (v := .ref (q_t 1)) (C := RX6) (T := TX6) (N := 18) hx hb hT iX6 hown hK hP 0 rfl rfl 1 (by decide) (hT _ fw_X6_19) (fun _ h9 => h9) rfl dX6_read_76 ?_
    refine lv_aload_n hx hb dX6_read_79 rfl (lv_at hl 1 rfl) ?_
    refine va_get (D := D) (ci := 6) (v := .ref (q_t 6)) (C := RX6) (T := TX6) (N := 18) hx hb hT iX6 hown hK hP 0 rfl rfl 6 (by decide) (hT _ fw_X6_38) (fun _ h9 => h9) rfl dX6_read_80 ?_
    obtain ⟨r13, e14, hf⟩ := bind_some hf
    refine callVv (As := [.ref (q_t 6)]) (rest := []) M (mX0_becomeLike l D cs sk (q_t 1) (q_t 6) q_t_1 q_t_6 k d_t_1 (r7.2.2.2.1, (va_up (va_up (va_up (va_up (va_up d_t_6.2 1 (r7.2.2.2.2 1)) 2 (r7.2.2.2.2 2)) 3 (r7.2.2.2.2 3)) 4 (r7.2.2.2.2 4)) 5 (r7.2.2.2.2 5))) e14) mw_X6_181 ln_X0_becomeLike ⟨rfl, rfl, Nat.le_of_ble_eq_true rfl, Nat.le_of_ble_eq_true rfl⟩ hP hD hS hA [6, 7, 8, 9, 10, 11, 12, 18, 19, 20, 21, 22, 23, 24] (by decide) rfl rfl (q0 := 0) rfl rfl rfl ⟨Nat.zero_le _, Nat.zero_le _⟩ hl.1 rfl (Nat.le_of_ble_eq_true rfl) dX6_read_83 (fun H locs hP hD hS => ?_)
    replace hP : va_P D vwCl [oX6 h_t q_t (d_t.1), oX4 (q_t 0) q_t_0 (r11.1), ((q_t_0 1), .inl (cs 0, 6, .inl (r11.2 1))), ((q_t_0 2), .inl (cs 0, 6, .inl (r11.2 2))), ((q_t_0 4), .inl (cs 0, 3, .inl (r11.2 4))), ((q_t_0 5), .inl (cs 0, 3, .inl (r11.2 5))), oX0 (q_t 1) q_t_1 (r13.1), ((q_t_1 1), .inl (cs 0, 6, .inl (r13.2 1))), ((q_t_1 2), .inl (cs 0, 6, .inl (r13.2 2))), ((q_t_1 3), .inl (cs 0, 6, .inl (r13.2 3))), ((q_t_1 4), .inl (cs 0, 6, .inl (r13.2 4))), ((q_t_1 5), .inl (cs 0, 6, .inl (r13.2 5))), ((q_t_1 9), .inl (cs 0, 48, .inl (r13.2 9))), oX4 (q_t 5) q_t_5 (r7.2.2.1.1), ((q_t_5 1), .inl (cs 0, 6, .inl (r7.2.2.1.2 1))), ((q_t_5 2), .inl (cs 0, 6, .inl (r7.2.2.1.2 2))), ((q_t_5 4), .inl (cs 0, 3, .inl (r7.2.2.1.2 4))), ((q_t_5 5), .inl (cs 0, 3, .inl (r7.2.2.1.2 5))), oX0 (q_t 6) q_t_6 (r7.2.2.2.1), ((q_t_6 1), .inl (cs 0, 6, .inl (r7.2.2.2.2 1))), ((q_t_6 2), .inl (cs 0, 6, .inl (r7.2.2.2.2 2))), ((q_t_6 3), .inl (cs 0, 6, .inl (r7.2.2.2.2 3))), ((q_t_6 4), .inl (cs 0, 6, .inl (r7.2.2.2.2 4))), ((q_t_6 5), .inl (cs 0, 6, .inl (r7.2.2.2.2 5))), ((q_t_6 9), .inl (cs 0, 48, .inl (d_t_6.2 9))), oX2 (q_t 11) (va_up q_t_11 0 (q_t 12)) (r7.2.1.1), ((q_t 12), .inl (cs 1, 250, .inl (d_t.2 12)))] H := hP
    replace hD : va_D A [oX6 h_t q_t (d_t.1), oX4 (q_t 0) q_t_0 (r11.1), ((q_t_0 1), .inl (cs 0, 6, .inl (r11.2 1))), ((q_t_0 2), .inl (cs 0, 6, .inl (r11.2 2))), ((q_t_0 4), .inl (cs 0, 3, .inl (r11.2 4))), ((q_t_0 5), .inl (cs 0, 3, .inl (r11.2 5))), oX0 (q_t 1) q_t_1 (r13.1), ((q_t_1 1), .inl (cs 0, 6, .inl (r13.2 1))), ((q_t_1 2), .inl (cs 0, 6, .inl (r13.2 2))), ((q_t_1 3), .inl (cs 0, 6, .inl (r13.2 3))), ((q_t_1 4), .inl (cs 0, 6, .inl (r13.2 4))), ((q_t_1 5), .inl (cs 0, 6, .inl (r13.2 5))), ((q_t_1 9), .inl (cs 0, 48, .inl (r13.2 9))), oX4 (q_t 5) q_t_5 (r7.2.2.1.1), ((q_t_5 1), .inl (cs 0, 6, .inl (r7.2.2.1.2 1))), ((q_t_5 2), .inl (cs 0, 6, .inl (r7.2.2.1.2 2))), ((q_t_5 4), .inl (cs 0, 3, .inl (r7.2.2.1.2 4))), ((q_t_5 5), .inl (cs 0, 3, .inl (r7.2.2.1.2 5))), oX0 (q_t 6) q_t_6 (r7.2.2.2.1), ((q_t_6 1), .inl (cs 0, 6, .inl (r7.2.2.2.2 1))), ((q_t_6 2), .inl (cs 0, 6, .inl (r7.2.2.2.2 2))), ((q_t_6 3), .inl (cs 0, 6, .inl (r7.2.2.2.2 3))), ((q_t_6 4), .inl (cs 0, 6, .inl (r7.2.2.2.2 4))), ((q_t_6 5), .inl (cs 0, 6, .inl (r7.2.2.2.2 5))), ((q_t_6 9), .inl (cs 0, 48, .inl (d_t_6.2 9))), oX2 (q_t 11) (va_up q_t_11 0 (q_t 12)) (r7.2.1.1), ((q_t 12), .inl (cs 1, 250, .inl (d_t.2 12)))] := hD
    refine lv_iload_n hx hb dX6_read_86 rfl (lv_at hl 0 rfl) ?_
    have e9 := Option.some.inj hf
    subst e9
    exact hR _ _ _ _ dX6_read_87 hP hS
  · replace hf := g10.2 c9
    refine lv_bipush (v := (-10)) hx hb dX6_read_53 rfl ?_
    refine lv_aload_n hx hb dX6_read_55 rfl (lv_at hl 1 rfl) ?_
    refine va_get (D := D) (ci := 6) (v := .ref (q_t 11)) (C := RX6) (T := TX6) (N := 18) hx hb hT iX6 hown hK hP 0 rfl rfl 11 (by decide) (hT _ fw_X6_68) (fun _ h9 => h9) rfl dX6_read_56 ?_
    refine va_get (D := D) (ci := 2) (v := .int (r7.2.1.1 6)) (C := RX2) (T := TX2) (N := 7) hx hb hT iX2 hown hK hP 25 rfl rfl 6 (by decide) (hT _ fw_X6_178) (fun _ h9 => h9) rfl dX6_read_59 ?_
    refine lv_isub hx hb dX6_read_62 ?_
    have e9 := Option.some.inj hf
    subst e9
    exact hR _ _ _ _ dX6_read_63 hP hS
abbrev rm_X6_heard : Room := { frames := 4, cells := 0, slots := 0, locals := 98 }
def fX6_heard (k : Nat) (d_t : Dat) (d_t_0 : Dat) (d_t_1 : Dat) (d_t_8 : Dat) (x1 : Int32) (x2 : Int32) (x3 : Int32) : Option (Int32 × Dat × Dat) :=
  (fX6_hasEar k d_t d_t_0 x1).bind (fun (r1 : Int32) => (if r1 = 0 then (fX6_refuseBad k d_t (-200000)).bind (fun (r5 : Int32 × Dat) => some ((r5.1), (r5.2.1, d_t.2), d_t_8)) else (fX6_isTime k x2).bind (fun (r7 : Int32) => (if r7 = 0 then (fX6_refuseBad k d_t (-200000)).bind (fun (r11 : Int32 × Dat) => some ((r11.1), (r11.2.1, d_t.2), d_t_8)) else (if (-1) ≤ x3 then (fX1_listen k d_t_8 d_t_0 d_t_1 x1).bind (fun (r15 : Dat) => (if x3 = (-1) then some ((r15.1 0), d_t, (r15.1, (va_up (va_up (va_up d_t_8.2 1 (r15.2 1)) 2 (r15.2 2)) 3 (r15.2 3)))) else (if x3 < (r15.1 0) then (fX1_timeOf k (r15.1, (va_up (va_up (va_up d_t_8.2 1 (r15.2 1)) 2 (r15.2 2)) 3 (r15.2 3))) d_t_1 x3).bind (fun (r21 : Int32) => some ((x2 + r21), d_t, (r15.1, (va_up (va_up (va_up d_t_8.2 1 (r15.2 1)) 2 (r15.2 2)) 3 (r15.2 3))))) else some ((-100000), d_t, (r15.1, (va_up (va_up (va_up d_t_8.2 1 (r15.2 1)) 2 (r15.2 2)) 3 (r15.2 3))))))) else (fX6_refuseBad k d_t (-200000)).bind (fun (r23 : Int32 × Dat) => some ((r23.1), (r23.2.1, d_t.2), d_t_8)))))))
set_option maxHeartbeats 4000000 in
set_option maxRecDepth 100000 in
theorem mX6_heard (l : Launch) (D : va_G) (cs : Nat → ClassId) (sk : Nat → Nat) (h_t : Nat) (q_t : Nat → Nat) (q_t_0 : Nat → Nat) (q_t_1 : Nat → Nat) (q_t_8 : Nat → Nat) (k : Nat) (d_t : Dat) (d_t_0 : Dat) (d_t_1 : Dat) (d_t_8 : Dat) (x1 : Int32) (x2 : Int32) (x3 : Int32) {rv : Int32 × Dat × Dat} (hf : fX6_heard k d_t d_t_0 d_t_1 d_t_8 x1 x2 x3 = some rv) : CTi l yX6_heard (Cond.code yX6_heard cX6_heard 4 (some .int) :: gtbl) rm_X6_heard D cs sk [.ref h_t, .int x1, .int x2, .int x3] [oX6 h_t q_t (d_t.1), oX4 (q_t 0) q_t_0 (d_t_0.1), ((q_t_0 1), .inl (cs 0, 6, .inl (d_t_0.2 1))), ((q_t_0 2), .inl (cs 0, 6, .inl (d_t_0.2 2))), ((q_t_0 4), .inl (cs 0, 3, .inl (d_t_0.2 4))), ((q_t_0 5), .inl (cs 0, 3, .inl (d_t_0.2 5))), oX0 (q_t 1) q_t_1 (d_t_1.1), ((q_t_1 1), .inl (cs 0, 6, .inl (d_t_1.2 1))), ((q_t_1 2), .inl (cs 0, 6, .inl (d_t_1.2 2))), ((q_t_1 3), .inl (cs 0, 6, .inl (d_t_1.2 3))), ((q_t_1 4), .inl (cs 0, 6, .inl (d_t_1.2 4))), oX1 (q_t 8) q_t_8 (d_t_8.1), ((q_t_8 1), .inl (cs 0, 12, .inl (d_t_8.2 1))), ((q_t_8 2), .inl (cs 0, 12, .inl (d_t_8.2 2))), ((q_t_8 3), .inl (cs 0, 12, .inl (d_t_8.2 3)))] (rv.1) [oX6 h_t q_t (rv.2.1.1), oX4 (q_t 0) q_t_0 (d_t_0.1), ((q_t_0 1), .inl (cs 0, 6, .inl (d_t_0.2 1))), ((q_t_0 2), .inl (cs 0, 6, .inl (d_t_0.2 2))), ((q_t_0 4), .inl (cs 0, 3, .inl (d_t_0.2 4))), ((q_t_0 5), .inl (cs 0, 3, .inl (d_t_0.2 5))), oX0 (q_t 1) q_t_1 (d_t_1.1), ((q_t_1 1), .inl (cs 0, 6, .inl (d_t_1.2 1))), ((q_t_1 2), .inl (cs 0, 6, .inl (d_t_1.2 2))), ((q_t_1 3), .inl (cs 0, 6, .inl (d_t_1.2 3))), ((q_t_1 4), .inl (cs 0, 6, .inl (d_t_1.2 4))), oX1 (q_t 8) q_t_8 (rv.2.2.1), ((q_t_8 1), .inl (cs 0, 12, .inl (rv.2.2.2 1))), ((q_t_8 2), .inl (cs 0, 12, .inl (rv.2.2.2 2))), ((q_t_8 3), .inl (cs 0, 12, .inl (rv.2.2.2 3)))] := by
  refine CTi.of RX6 (by decide +kernel) rfl (Nat.le_of_ble_eq_true rfl) (fun p e s m args below meth c A Q ls M hA hR hl hP hD hS => ?_)
  obtain ⟨hx, hb, hml, hT, hown, hlk, hrt, hK, hN, hSE⟩ := id M
  replace hl : lv_has ls 4 [(0, .ref h_t), (1, .int x1), (2, .int x2), (3, .int x3)] := hl
  unfold fX6_heard at hf
  refine lv_aload_n hx hb dX6_heard_0 rfl (lv_at hl 0 rfl) ?_
  refine lv_iload_n hx hb dX6_heard_1 rfl (lv_at hl 1 rfl) ?_
  obtain ⟨r1, e2, hf⟩ := bind_some hf
  refine callVi (As := [.int x1]) (rest := []) M (mX6_hasEar l D cs sk h_t q_t q_t_0 k d_t d_t_0 x1 e2) mw_X6_160 ln_X6_hasEar ⟨rfl, rfl, Nat.le_of_ble_eq_true rfl, Nat.le_of_ble_eq_true rfl⟩ hP hD hS hA [0, 1] (by decide) rfl rfl (q0 := 0) rfl rfl rfl ⟨Nat.zero_le _, Nat.zero_le _⟩ hl.1 rfl (Nat.le_of_ble_eq_true rfl) dX6_heard_2 (fun H locs hP hD hS => ?_)
  replace hP : va_P D vwCl [oX6 h_t q_t (d_t.1), oX4 (q_t 0) q_t_0 (d_t_0.1), ((q_t_0 1), .inl (cs 0, 6, .inl (d_t_0.2 1))), ((q_t_0 2), .inl (cs 0, 6, .inl (d_t_0.2 2))), ((q_t_0 4), .inl (cs 0, 3, .inl (d_t_0.2 4))), ((q_t_0 5), .inl (cs 0, 3, .inl (d_t_0.2 5))), oX0 (q_t 1) q_t_1 (d_t_1.1), ((q_t_1 1), .inl (cs 0, 6, .inl (d_t_1.2 1))), ((q_t_1 2), .inl (cs 0, 6, .inl (d_t_1.2 2))), ((q_t_1 3), .inl (cs 0, 6, .inl (d_t_1.2 3))), ((q_t_1 4), .inl (cs 0, 6, .inl (d_t_1.2 4))), oX1 (q_t 8) q_t_8 (d_t_8.1), ((q_t_8 1), .inl (cs 0, 12, .inl (d_t_8.2 1))), ((q_t_8 2), .inl (cs 0, 12, .inl (d_t_8.2 2))), ((q_t_8 3), .inl (cs 0, 12, .inl (d_t_8.2 3)))] H := hP
  replace hD : va_D A [oX6 h_t q_t (d_t.1), oX4 (q_t 0) q_t_0 (d_t_0.1), ((q_t_0 1), .inl (cs 0, 6, .inl (d_t_0.2 1))), ((q_t_0 2), .inl (cs 0, 6, .inl (d_t_0.2 2))), ((q_t_0 4), .inl (cs 0, 3, .inl (d_t_0.2 4))), ((q_t_0 5), .inl (cs 0, 3, .inl (d_t_0.2 5))), oX0 (q_t 1) q_t_1 (d_t_1.1), ((q_t_1 1), .inl (cs 0, 6, .inl (d_t_1.2 1))), ((q_t_1 2), .inl (cs 0, 6, .inl (d_t_1.2 2))), ((q_t_1 3), .inl (cs 0, 6, .inl (d_t_1.2 3))), ((q_t_1 4), .inl (cs 0, 6, .inl (d_t_1.2 4))), oX1 (q_t 8) q_t_8 (d_t_8.1), ((q_t_8 1), .inl (cs 0, 12, .inl (d_t_8.2 1))), ((q_t_8 2), .inl (cs 0, 12, .inl (d_t_8.2 2))), ((q_t_8 3), .inl (cs 0, 12, .inl (d_t_8.2 3)))] := hD
  have g4 := ite_some hf
  refine lv_if_eq (tgt := 20) hx hb dX6_heard_5 (by decide) (fun c3 => ?_) (fun c3 => ?_)
  · replace hf := g4.1 c3
    refine lv_aload_n hx hb dX6_heard_20 rfl (lv_at hl 0 rfl) ?_
    refine lv_ldc (v := (-200000)) hx hb hown (hT _ kw_X6_187) dX6_heard_21 ?_
    obtain ⟨r5, e6, hf⟩ := bind_some hf
    refine callVi (As := [.int (-200000)]) (rest := []) M (mX6_refuseBad l D cs sk h_t q_t k d_t (-200000) e6) mw_X6_96 ln_X6_refuseBad ⟨rfl, rfl, Nat.le_of_ble_eq_true rfl, Nat.le_of_ble_eq_true rfl⟩ hP hD hS hA [0] (by decide) rfl rfl (q0 := 0) rfl rfl rfl ⟨Nat.zero_le _, Nat.zero_le _⟩ hl.1 rfl (Nat.le_of_ble_eq_true rfl) dX6_heard_23 (fun H locs hP hD hS => ?_)
    replace hP : va_P D vwCl [oX6 h_t q_t (r5.2.1), oX4 (q_t 0) q_t_0 (d_t_0.1), ((q_t_0 1), .inl (cs 0, 6, .inl (d_t_0.2 1))), ((q_t_0 2), .inl (cs 0, 6, .inl (d_t_0.2 2))), ((q_t_0 4), .inl (cs 0, 3, .inl (d_t_0.2 4))), ((q_t_0 5), .inl (cs 0, 3, .inl (d_t_0.2 5))), oX0 (q_t 1) q_t_1 (d_t_1.1), ((q_t_1 1), .inl (cs 0, 6, .inl (d_t_1.2 1))), ((q_t_1 2), .inl (cs 0, 6, .inl (d_t_1.2 2))), ((q_t_1 3), .inl (cs 0, 6, .inl (d_t_1.2 3))), ((q_t_1 4), .inl (cs 0, 6, .inl (d_t_1.2 4))), oX1 (q_t 8) q_t_8 (d_t_8.1), ((q_t_8 1), .inl (cs 0, 12, .inl (d_t_8.2 1))), ((q_t_8 2), .inl (cs 0, 12, .inl (d_t_8.2 2))), ((q_t_8 3), .inl (cs 0, 12, .inl (d_t_8.2 3)))] H := hP
    replace hD : va_D A [oX6 h_t q_t (r5.2.1), oX4 (q_t 0) q_t_0 (d_t_0.1), ((q_t_0 1), .inl (cs 0, 6, .inl (d_t_0.2 1))), ((q_t_0 2), .inl (cs 0, 6, .inl (d_t_0.2 2))), ((q_t_0 4), .inl (cs 0, 3, .inl (d_t_0.2 4))), ((q_t_0 5), .inl (cs 0, 3, .inl (d_t_0.2 5))), oX0 (q_t 1) q_t_1 (d_t_1.1), ((q_t_1 1), .inl (cs 0, 6, .inl (d_t_1.2 1))), ((q_t_1 2), .inl (cs 0, 6, .inl (d_t_1.2 2))), ((q_t_1 3), .inl (cs 0, 6, .inl (d_t_1.2 3))), ((q_t_1 4), .inl (cs 0, 6, .inl (d_t_1.2 4))), oX1 (q_t 8) q_t_8 (d_t_8.1), ((q_t_8 1), .inl (cs 0, 12, .inl (d_t_8.2 1))), ((q_t_8 2), .inl (cs 0, 12, .inl (d_t_8.2 2))), ((q_t_8 3), .inl (cs 0, 12, .inl (d_t_8.2 3)))] := hD
    have e9 := Option.some.inj hf
    subst e9
    exact hR _ _ _ _ dX6_heard_26 hP hS
  · replace hf := g4.2 c3
    refine lv_iload_n hx hb dX6_heard_8 rfl (lv_at hl 2 rfl) ?_
    obtain ⟨r7, e8, hf⟩ := bind_some hf
    refine callSi (As := [.int x2]) (rest := []) M (mX6_isTime l D cs sk  k x2 e8) mw_X6_184 ln_X6_isTime ⟨rfl, rfl, Nat.le_of_ble_eq_true rfl, Nat.le_of_ble_eq_true rfl⟩ hP hD hS hA [] (by decide) rfl rfl ⟨Nat.zero_le _, Nat.zero_le _⟩ hl.1 rfl (Nat.le_of_ble_eq_true rfl) dX6_heard_9 (fun H locs hP hD hS => ?_)
    replace hP : va_P D vwCl [oX6 h_t q_t (d_t.1), oX4 (q_t 0) q_t_0 (d_t_0.1), ((q_t_0 1), .inl (cs 0, 6, .inl (d_t_0.2 1))), ((q_t_0 2), .inl (cs 0, 6, .inl (d_t_0.2 2))), ((q_t_0 4), .inl (cs 0, 3, .inl (d_t_0.2 4))), ((q_t_0 5), .inl (cs 0, 3, .inl (d_t_0.2 5))), oX0 (q_t 1) q_t_1 (d_t_1.1), ((q_t_1 1), .inl (cs 0, 6, .inl (d_t_1.2 1))), ((q_t_1 2), .inl (cs 0, 6, .inl (d_t_1.2 2))), ((q_t_1 3), .inl (cs 0, 6, .inl (d_t_1.2 3))), ((q_t_1 4), .inl (cs 0, 6, .inl (d_t_1.2 4))), oX1 (q_t 8) q_t_8 (d_t_8.1), ((q_t_8 1), .inl (cs 0, 12, .inl (d_t_8.2 1))), ((q_t_8 2), .inl (cs 0, 12, .inl (d_t_8.2 2))), ((q_t_8 3), .inl (cs 0, 12, .inl (d_t_8.2 3)))] H := hP
    replace hD : va_D A [oX6 h_t q_t (d_t.1), oX4 (q_t 0) q_t_0 (d_t_0.1), ((q_t_0 1), .inl (cs 0, 6, .inl (d_t_0.2 1))), ((q_t_0 2), .inl (cs 0, 6, .inl (d_t_0.2 2))), ((q_t_0 4), .inl (cs 0, 3, .inl (d_t_0.2 4))), ((q_t_0 5), .inl (cs 0, 3, .inl (d_t_0.2 5))), oX0 (q_t 1) q_t_1 (d_t_1.1), ((q_t_1 1), .inl (cs 0, 6, .inl (d_t_1.2 1))), ((q_t_1 2), .inl (cs 0, 6, .inl (d_t_1.2 2))), ((q_t_1 3), .inl (cs 0, 6, .inl (d_t_1.2 3))), ((q_t_1 4), .inl (cs 0, 6, .inl (d_t_1.2 4))), oX1 (q_t 8) q_t_8 (d_t_8.1), ((q_t_8 1), .inl (cs 0, 12, .inl (d_t_8.2 1))), ((q_t_8 2), .inl (cs 0, 12, .inl (d_t_8.2 2))), ((q_t_8 3), .inl (cs 0, 12, .inl (d_t_8.2 3)))] := hD
    have g10 := ite_some hf
    refine lv_if_eq (tgt := 20) hx hb dX6_heard_12 (by decide) (fun c9 => ?_) (fun c9 => ?_)
    · replace hf := g10.1 c9
      refine lv_aload_n hx hb dX6_heard_20 rfl (lv_at hl 0 rfl) ?_
      refine lv_ldc (v := (-200000)) hx hb hown (hT _ kw_X6_187) dX6_heard_21 ?_
      obtain ⟨r11, e12, hf⟩ := bind_some hf
      refine callVi (As := [.int (-200000)]) (rest := []) M (mX6_refuseBad l D cs sk h_t q_t k d_t (-200000) e12) mw_X6_96 ln_X6_refuseBad ⟨rfl, rfl, Nat.le_of_ble_eq_true rfl, Nat.le_of_ble_eq_true rfl⟩ hP hD hS hA [0] (by decide) rfl rfl (q0 := 0) rfl rfl rfl ⟨Nat.zero_le _, Nat.zero_le _⟩ hl.1 rfl (Nat.le_of_ble_eq_true rfl) dX6_heard_23 (fun H locs hP hD hS => ?_)
      replace hP : va_P D vwCl [oX6 h_t q_t (r11.2.1), oX4 (q_t 0) q_t_0 (d_t_0.1), ((q_t_0 1), .inl (cs 0, 6, .inl (d_t_0.2 1))), ((q_t_0 2), .inl (cs 0, 6, .inl (d_t_0.2 2))), ((q_t_0 4), .inl (cs 0, 3, .inl (d_t_0.2 4))), ((q_t_0 5), .inl (cs 0, 3, .inl (d_t_0.2 5))), oX0 (q_t 1) q_t_1 (d_t_1.1), ((q_t_1 1), .inl (cs 0, 6, .inl (d_t_1.2 1))), ((q_t_1 2), .inl (cs 0, 6, .inl (d_t_1.2 2))), ((q_t_1 3), .inl (cs 0, 6, .inl (d_t_1.2 3))), ((q_t_1 4), .inl (cs 0, 6, .inl (d_t_1.2 4))), oX1 (q_t 8) q_t_8 (d_t_8.1), ((q_t_8 1), .inl (cs 0, 12, .inl (d_t_8.2 1))), ((q_t_8 2), .inl (cs 0, 12, .inl (d_t_8.2 2))), ((q_t_8 3), .inl (cs 0, 12, .inl (d_t_8.2 3)))] H := hP
      replace hD : va_D A [oX6 h_t q_t (r11.2.1), oX4 (q_t 0) q_t_0 (d_t_0.1), ((q_t_0 1), .inl (cs 0, 6, .inl (d_t_0.2 1))), ((q_t_0 2), .inl (cs 0, 6, .inl (d_t_0.2 2))), ((q_t_0 4), .inl (cs 0, 3, .inl (d_t_0.2 4))), ((q_t_0 5), .inl (cs 0, 3, .inl (d_t_0.2 5))), oX0 (q_t 1) q_t_1 (d_t_1.1), ((q_t_1 1), .inl (cs 0, 6, .inl (d_t_1.2 1))), ((q_t_1 2), .inl (cs 0, 6, .inl (d_t_1.2 2))), ((q_t_1 3), .inl (cs 0, 6, .inl (d_t_1.2 3))), ((q_t_1 4), .inl (cs 0, 6, .inl (d_t_1.2 4))), oX1 (q_t 8) q_t_8 (d_t_8.1), ((q_t_8 1), .inl (cs 0, 12, .inl (d_t_8.2 1))), ((q_t_8 2), .inl (cs 0, 12, .inl (d_t_8.2 2))), ((q_t_8 3), .inl (cs 0, 12, .inl (d_t_8.2 3)))] := hD
      have e9 := Option.some.inj hf
      subst e9
      exact hR _ _ _ _ dX6_heard_26 hP hS
    · replace hf := g10.2 c9
      refine lv_iload_n hx hb dX6_heard_15 rfl (lv_at hl 3 rfl) ?_
      refine lv_iconst (v := (-1)) hx hb dX6_heard_16 rfl ?_
      have g14 := ite_some hf
      refine lv_icmp_ge (tgt := 27) hx hb dX6_heard_17 (by decide) (fun c13 => ?_) (fun c13 => ?_)
      · replace hf := g14.1 c13
        refine lv_aload_n hx hb dX6_heard_27 rfl (lv_at hl 0 rfl) ?_
        refine va_get (D := D) (ci := 6) (v := .ref (q_t 8)) (C := RX6) (T := TX6) (N := 18) hx hb hT iX6 hown hK hP 0 rfl rfl 8 (by decide) (hT _ fw_X6_47) (fun _ h9 => h9) rfl dX6_heard_28 ?_
        refine lv_aload_n hx hb dX6_heard_31 rfl (lv_at hl 0 rfl) ?_
        refine va_get (D := D) (ci := 6) (v := .ref (q_t 0)) (C := RX6) (T := TX6) (N := 18) hx hb hT iX6 hown hK hP 0 rfl rfl 0 (by decide) (hT _ fw_X6_10) (fun _ h9 => h9) rfl dX6_heard_32 ?_
        refine lv_aload_n hx hb dX6_heard_35 rfl (lv_at hl 0 rfl) ?_
        refine va_get (D := D) (ci := 6) (v := .ref (q_t 1)) (C := RX6) (T := TX6) (N := 18) hx hb hT iX6 hown hK hP 0 rfl rfl 1 (by decide) (hT _ fw_X6_19) (fun _ h9 => h9) rfl dX6_heard_36 ?_
        refine lv_iload_n hx hb dX6_heard_39 rfl (lv_at hl 1 rfl) ?_
        obtain ⟨r15, e16, hf⟩ := bind_some hf
        refine callVv (As := [.ref (q_t 0), .ref (q_t 1), .int x1]) (rest := []) M (mX1_listen l D cs sk (q_t 8) (q_t 0) (q_t 1) q_t_8 q_t_0 q_t_1 k d_t_8 d_t_0 d_t_1 x1 e16) mw_X6_188 ln_X1_listen ⟨rfl, rfl, Nat.le_of_ble_eq_true rfl, Nat.le_of_ble_eq_true rfl⟩ hP hD hS hA [11, 12, 13, 14, 1, 2, 3, 4, 5, 6, 7, 8, 9] (by decide) rfl rfl (q0 := 0) rfl rfl rfl ⟨Nat.zero_le _, Nat.zero_le _⟩ hl.1 rfl (Nat.le_of_ble_eq_true rfl) dX6_heard_40 (fun H locs hP hD hS => ?_)
        replace hP : va_P D vwCl [oX6 h_t q_t (d_t.1), oX4 (q_t 0) q_t_0 (d_t_0.1), ((q_t_0 1), .inl (cs 0, 6, .inl (d_t_0.2 1))), ((q_t_0 2), .inl (cs 0, 6, .inl (d_t_0.2 2))), ((q_t_0 4), .inl (cs 0, 3, .inl (d_t_0.2 4))), ((q_t_0 5), .inl (cs 0, 3, .inl (d_t_0.2 5))), oX0 (q_t 1) q_t_1 (d_t_1.1), ((q_t_1 1), .inl (cs 0, 6, .inl (d_t_1.2 1))), ((q_t_1 2), .inl (cs 0, 6, .inl (d_t_1.2 2))), ((q_t_1 3), .inl (cs 0, 6, .inl (d_t_1.2 3))), ((q_t_1 4), .inl (cs 0, 6, .inl (d_t_1.2 4))), oX1 (q_t 8) q_t_8 (r15.1), ((q_t_8 1), .inl (cs 0, 12, .inl (r15.2 1))), ((q_t_8 2), .inl (cs 0, 12, .inl (r15.2 2))), ((q_t_8 3), .inl (cs 0, 12, .inl (r15.2 3)))] H := hP
        replace hD : va_D A [oX6 h_t q_t (d_t.1), oX4 (q_t 0) q_t_0 (d_t_0.1), ((q_t_0 1), .inl (cs 0, 6, .inl (d_t_0.2 1))), ((q_t_0 2), .inl (cs 0, 6, .inl (d_t_0.2 2))), ((q_t_0 4), .inl (cs 0, 3, .inl (d_t_0.2 4))), ((q_t_0 5), .inl (cs 0, 3, .inl (d_t_0.2 5))), oX0 (q_t 1) q_t_1 (d_t_1.1), ((q_t_1 1), .inl (cs 0, 6, .inl (d_t_1.2 1))), ((q_t_1 2), .inl (cs 0, 6, .inl (d_t_1.2 2))), ((q_t_1 3), .inl (cs 0, 6, .inl (d_t_1.2 3))), ((q_t_1 4), .inl (cs 0, 6, .inl (d_t_1.2 4))), oX1 (q_t 8) q_t_8 (r15.1), ((q_t_8 1), .inl (cs 0, 12, .inl (r15.2 1))), ((q_t_8 2), .inl (cs 0, 12, .inl (r15.2 2))), ((q_t_8 3), .inl (cs 0, 12, .inl (r15.2 3)))] := hD
        refine lv_iload_n hx hb dX6_heard_43 rfl (lv_at hl 3 rfl) ?_
        refine lv_iconst (v := (-1)) hx hb dX6_heard_44 rfl ?_
        have g18 := ite_some hf
        refine lv_icmp_ne (tgt := 56) hx hb dX6_heard_45 (by decide) (fun c17 => ?_) (fun c17 => ?_)
        · replace hf := g18.2 c17
          refine lv_iload_n hx hb dX6_heard_56 rfl (lv_at hl 3 rfl) ?_
          refine lv_aload_n hx hb dX6_heard_57 rfl (lv_at hl 0 rfl) ?_
          refine va_get (D := D) (ci := 6) (v := .ref (q_t 8)) (C := RX6) (T := TX6) (N := 18) hx hb hT iX6 hown hK hP 0 rfl rfl 8 (by decide) (hT _ fw_X6_47) (fun _ h9 => h9) rfl dX6_heard_58 ?_
          refine va_get (D := D) (ci := 1) (v := .int (r15.1 0)) (C := RX1) (T := TX1) (N := 4) hx hb hT iX1 hown hK hP 11 rfl rfl 0 (by decide) (hT _ fw_X6_192) (fun _ h9 => h9) rfl dX6_heard_61 ?_
          have g20 := ite_some hf
          refine lv_icmp_lt (tgt := 70) hx hb dX6_heard_64 (by decide) (fun c19 => ?_) (fun c19 => ?_)
          · replace hf := g20.1 c19
            refine lv_iload_n hx hb dX6_heard_70 rfl (lv_at hl 2 rfl) ?_
            refine lv_aload_n hx hb dX6_heard_71 rfl (lv_at hl 0 rfl) ?_
            refine va_get (D := D) (ci := 6) (v := .ref (q_t 8)) (C := RX6) (T := TX6) (N := 18) hx hb hT iX6 hown hK hP 0 rfl rfl 8 (by decide) (hT _ fw_X6_47) (fun _ h9 => h9) rfl dX6_heard_72 ?_
            refine lv_aload_n hx hb dX6_heard_75 rfl (lv_at hl 0 rfl) ?_
            refine va_get (D := D) (ci := 6) (v := .ref (q_t 1)) (C := RX6) (T := TX6) (N := 18) hx hb hT iX6 hown hK hP 0 rfl rfl 1 (by decide) (hT _ fw_X6_19) (fun _ h9 => h9) rfl dX6_heard_76 ?_
            refine lv_iload_n hx hb dX6_heard_79 rfl (lv_at hl 3 rfl) ?_
            obtain ⟨r21, e22, hf⟩ := bind_some hf
            refine callVi (As := [.ref (q_t 1), .int x3]) (rest := [.int x2]) M (mX1_timeOf l D cs sk (q_t 8) (q_t 1) q_t_8 q_t_1 k (r15.1, (va_up (va_up (va_up d_t_8.2 1 (r15.2 1)) 2 (r15.2 2)) 3 (r15.2 3))) d_t_1 x3 e22) mw_X6_196 ln_X1_timeOf ⟨rfl, rfl, Nat.le_of_ble_eq_true rfl, Nat.le_of_ble_eq_true rfl⟩ hP hD hS hA [11, 12, 13, 6, 7, 10] (by decide) rfl rfl (q0 := 0) rfl rfl rfl ⟨Nat.zero_le _, Nat.zero_le _⟩ hl.1 rfl (Nat.le_of_ble_eq_true rfl) dX6_heard_80 (fun H locs hP hD hS => ?_)
            replace hP : va_P D vwCl [oX6 h_t q_t (d_t.1), oX4 (q_t 0) q_t_0 (d_t_0.1), ((q_t_0 1), .inl (cs 0, 6, .inl (d_t_0.2 1))), ((q_t_0 2), .inl (cs 0, 6, .inl (d_t_0.2 2))), ((q_t_0 4), .inl (cs 0, 3, .inl (d_t_0.2 4))), ((q_t_0 5), .inl (cs 0, 3, .inl (d_t_0.2 5))), oX0 (q_t 1) q_t_1 (d_t_1.1), ((q_t_1 1), .inl (cs 0, 6, .inl (d_t_1.2 1))), ((q_t_1 2), .inl (cs 0, 6, .inl (d_t_1.2 2))), ((q_t_1 3), .inl (cs 0, 6, .inl (d_t_1.2 3))), ((q_t_1 4), .inl (cs 0, 6, .inl (d_t_1.2 4))), oX1 (q_t 8) q_t_8 (r15.1), ((q_t_8 1), .inl (cs 0, 12, .inl (r15.2 1))), ((q_t_8 2), .inl (cs 0, 12, .inl (r15.2 2))), ((q_t_8 3), .inl (cs 0, 12, .inl (r15.2 3)))] H := hP
            replace hD : va_D A [oX6 h_t q_t (d_t.1), oX4 (q_t 0) q_t_0 (d_t_0.1), ((q_t_0 1), .inl (cs 0, 6, .inl (d_t_0.2 1))), ((q_t_0 2), .inl (cs 0, 6, .inl (d_t_0.2 2))), ((q_t_0 4), .inl (cs 0, 3, .inl (d_t_0.2 4))), ((q_t_0 5), .inl (cs 0, 3, .inl (d_t_0.2 5))), oX0 (q_t 1) q_t_1 (d_t_1.1), ((q_t_1 1), .inl (cs 0, 6, .inl (d_t_1.2 1))), ((q_t_1 2), .inl (cs 0, 6, .inl (d_t_1.2 2))), ((q_t_1 3), .inl (cs 0, 6, .inl (d_t_1.2 3))), ((q_t_1 4), .inl (cs 0, 6, .inl (d_t_1.2 4))), oX1 (q_t 8) q_t_8 (r15.1), ((q_t_8 1), .inl (cs 0, 12, .inl (r15.2 1))), ((q_t_8 2), .inl (cs 0, 12, .inl (r15.2 2))), ((q_t_8 3), .inl (cs 0, 12, .inl (r15.2 3)))] := hD
            refine lv_iadd hx hb dX6_heard_83 ?_
            have e9 := Option.some.inj hf
            subst e9
            exact hR _ _ _ _ dX6_heard_84 hP hS
          · replace hf := g20.2 c19
            refine lv_ldc (v := (-100000)) hx hb hown (hT _ kw_X6_195) dX6_heard_67 ?_
            have e9 := Option.some.inj hf
            subst e9
            exact hR _ _ _ _ dX6_heard_69 hP hS
        · replace hf := g18.1 c17
          refine lv_aload_n hx hb dX6_heard_48 rfl (lv_at hl 0 rfl) ?_
          refine va_get (D := D) (ci := 6) (v := .ref (q_t 8)) (C := RX6) (T := TX6) (N := 18) hx hb hT iX6 hown hK hP 0 rfl rfl 8 (by decide) (hT _ fw_X6_47) (fun _ h9 => h9) rfl dX6_heard_49 ?_
          refine va_get (D := D) (ci := 1) (v := .int (r15.1 0)) (C := RX1) (T := TX1) (N := 4) hx hb hT iX1 hown hK hP 11 rfl rfl 0 (by decide) (hT _ fw_X6_192) (fun _ h9 => h9) rfl dX6_heard_52 ?_
          have e9 := Option.some.inj hf
          subst e9
          exact hR _ _ _ _ dX6_heard_55 hP hS
      · replace hf := g14.2 c13
        refine lv_aload_n hx hb dX6_heard_20 rfl (lv_at hl 0 rfl) ?_
        refine lv_ldc (v := (-200000)) hx hb hown (hT _ kw_X6_187) dX6_heard_21 ?_
        obtain ⟨r23, e24, hf⟩ := bind_some hf
        refine callVi (As := [.int (-200000)]) (rest := []) M (mX6_refuseBad l D cs sk h_t q_t k d_t (-200000) e24) mw_X6_96 ln_X6_refuseBad ⟨rfl, rfl, Nat.le_of_ble_eq_true rfl, Nat.le_of_ble_eq_true rfl⟩ hP hD hS hA [0] (by decide) rfl rfl (q0 := 0) rfl rfl rfl ⟨Nat.zero_le _, Nat.zero_le _⟩ hl.1 rfl (Nat.le_of_ble_eq_true rfl) dX6_heard_23 (fun H locs hP hD hS => ?_)
        replace hP : va_P D vwCl [oX6 h_t q_t (r23.2.1), oX4 (q_t 0) q_t_0 (d_t_0.1), ((q_t_0 1), .inl (cs 0, 6, .inl (d_t_0.2 1))), ((q_t_0 2), .inl (cs 0, 6, .inl (d_t_0.2 2))), ((q_t_0 4), .inl (cs 0, 3, .inl (d_t_0.2 4))), ((q_t_0 5), .inl (cs 0, 3, .inl (d_t_0.2 5))), oX0 (q_t 1) q_t_1 (d_t_1.1), ((q_t_1 1), .inl (cs 0, 6, .inl (d_t_1.2 1))), ((q_t_1 2), .inl (cs 0, 6, .inl (d_t_1.2 2))), ((q_t_1 3), .inl (cs 0, 6, .inl (d_t_1.2 3))), ((q_t_1 4), .inl (cs 0, 6, .inl (d_t_1.2 4))), oX1 (q_t 8) q_t_8 (d_t_8.1), ((q_t_8 1), .inl (cs 0, 12, .inl (d_t_8.2 1))), ((q_t_8 2), .inl (cs 0, 12, .inl (d_t_8.2 2))), ((q_t_8 3), .inl (cs 0, 12, .inl (d_t_8.2 3)))] H := hP
        replace hD : va_D A [oX6 h_t q_t (r23.2.1), oX4 (q_t 0) q_t_0 (d_t_0.1), ((q_t_0 1), .inl (cs 0, 6, .inl (d_t_0.2 1))), ((q_t_0 2), .inl (cs 0, 6, .inl (d_t_0.2 2))), ((q_t_0 4), .inl (cs 0, 3, .inl (d_t_0.2 4))), ((q_t_0 5), .inl (cs 0, 3, .inl (d_t_0.2 5))), oX0 (q_t 1) q_t_1 (d_t_1.1), ((q_t_1 1), .inl (cs 0, 6, .inl (d_t_1.2 1))), ((q_t_1 2), .inl (cs 0, 6, .inl (d_t_1.2 2))), ((q_t_1 3), .inl (cs 0, 6, .inl (d_t_1.2 3))), ((q_t_1 4), .inl (cs 0, 6, .inl (d_t_1.2 4))), oX1 (q_t 8) q_t_8 (d_t_8.1), ((q_t_8 1), .inl (cs 0, 12, .inl (d_t_8.2 1))), ((q_t_8 2), .inl (cs 0, 12, .inl (d_t_8.2 2))), ((q_t_8 3), .inl (cs 0, 12, .inl (d_t_8.2 3)))] := hD
        have e9 := Option.some.inj hf
        subst e9
        exact hR _ _ _ _ dX6_heard_26 hP hS
abbrev rm_X6_loud : Room := { frames := 4, cells := 0, slots := 0, locals := 98 }
def fX6_loud (k : Nat) (d_t : Dat) (d_t_0 : Dat) (d_t_1 : Dat) (d_t_8 : Dat) (x1 : Int32) (x2 : Int32) : Option (Int32 × Dat × Dat) :=
  (fX6_hasEar k d_t d_t_0 x1).bind (fun (r1 : Int32) => (if r1 = 0 then (fX6_refuseBad k d_t (-10)).bind (fun (r5 : Int32 × Dat) => some ((r5.1), (r5.2.1, d_t.2), d_t_8)) else (if 0 ≤ x2 then (fX1_listen k d_t_8 d_t_0 d_t_1 x1).bind (fun (r9 : Dat) => (if x2 < (r9.1 0) then chk 12 x2 (some (((r9.2 3) x2.toNatClampNeg), d_t, (r9.1, (va_up (va_up (va_up d_t_8.2 1 (r9.2 1)) 2 (r9.2 2)) 3 (r9.2 3))))) else some ((-5), d_t, (r9.1, (va_up (va_up (va_up d_t_8.2 1 (r9.2 1)) 2 (r9.2 2)) 3 (r9.2 3)))))) else (fX6_refuseBad k d_t (-10)).bind (fun (r13 : Int32 × Dat) => some ((r13.1), (r13.2.1, d_t.2), d_t_8)))))
set_option maxHeartbeats 4000000 in
set_option maxRecDepth 100000 in
theorem mX6_loud (l : Launch) (D : va_G) (cs : Nat → ClassId) (sk : Nat → Nat) (h_t : Nat) (q_t : Nat → Nat) (q_t_0 : Nat → Nat) (q_t_1 : Nat → Nat) (q_t_8 : Nat → Nat) (k : Nat) (d_t : Dat) (d_t_0 : Dat) (d_t_1 : Dat) (d_t_8 : Dat) (x1 : Int32) (x2 : Int32) {rv : Int32 × Dat × Dat} (hf : fX6_loud k d_t d_t_0 d_t_1 d_t_8 x1 x2 = some rv) : CTi l yX6_loud (Cond.code yX6_loud cX6_loud 3 (some .int) :: gtbl) rm_X6_loud D cs sk [.ref h_t, .int x1, .int x2] [oX6 h_t q_t (d_t.1), oX4 (q_t 0) q_t_0 (d_t_0.1), ((q_t_0 1), .inl (cs 0, 6, .inl (d_t_0.2 1))), ((q_t_0 2), .inl (cs 0, 6, .inl (d_t_0.2 2))), ((q_t_0 4), .inl (cs 0, 3, .inl (d_t_0.2 4))), ((q_t_0 5), .inl (cs 0, 3, .inl (d_t_0.2 5))), oX0 (q_t 1) q_t_1 (d_t_1.1), ((q_t_1 1), .inl (cs 0, 6, .inl (d_t_1.2 1))), ((q_t_1 2), .inl (cs 0, 6, .inl (d_t_1.2 2))), ((q_t_1 3), .inl (cs 0, 6, .inl (d_t_1.2 3))), oX1 (q_t 8) q_t_8 (d_t_8.1), ((q_t_8 1), .inl (cs 0, 12, .inl (d_t_8.2 1))), ((q_t_8 2), .inl (cs 0, 12, .inl (d_t_8.2 2))), ((q_t_8 3), .inl (cs 0, 12, .inl (d_t_8.2 3)))] (rv.1) [oX6 h_t q_t (rv.2.1.1), oX4 (q_t 0) q_t_0 (d_t_0.1), ((q_t_0 1), .inl (cs 0, 6, .inl (d_t_0.2 1))), ((q_t_0 2), .inl (cs 0, 6, .inl (d_t_0.2 2))), ((q_t_0 4), .inl (cs 0, 3, .inl (d_t_0.2 4))), ((q_t_0 5), .inl (cs 0, 3, .inl (d_t_0.2 5))), oX0 (q_t 1) q_t_1 (d_t_1.1), ((q_t_1 1), .inl (cs 0, 6, .inl (d_t_1.2 1))), ((q_t_1 2), .inl (cs 0, 6, .inl (d_t_1.2 2))), ((q_t_1 3), .inl (cs 0, 6, .inl (d_t_1.2 3))), oX1 (q_t 8) q_t_8 (rv.2.2.1), ((q_t_8 1), .inl (cs 0, 12, .inl (rv.2.2.2 1))), ((q_t_8 2), .inl (cs 0, 12, .inl (rv.2.2.2 2))), ((q_t_8 3), .inl (cs 0, 12, .inl (rv.2.2.2 3)))] := by
  refine CTi.of RX6 (by decide +kernel) rfl (Nat.le_of_ble_eq_true rfl) (fun p e s m args below meth c A Q ls M hA hR hl hP hD hS => ?_)
  obtain ⟨hx, hb, hml, hT, hown, hlk, hrt, hK, hN, hSE⟩ := id M
  replace hl : lv_has ls 3 [(0, .ref h_t), (1, .int x1), (2, .int x2)] := hl
  unfold fX6_loud at hf
  refine lv_aload_n hx hb dX6_loud_0 rfl (lv_at hl 0 rfl) ?_
  refine lv_iload_n hx hb dX6_loud_1 rfl (lv_at hl 1 rfl) ?_
  obtain ⟨r1, e2, hf⟩ := bind_some hf
  refine callVi (As := [.int x1]) (rest := []) M (mX6_hasEar l D cs sk h_t q_t q_t_0 k d_t d_t_0 x1 e2) mw_X6_160 ln_X6_hasEar ⟨rfl, rfl, Nat.le_of_ble_eq_true rfl, Nat.le_of_ble_eq_true rfl⟩ hP hD hS hA [0, 1] (by decide) rfl rfl (q0 := 0) rfl rfl rfl ⟨Nat.zero_le _, Nat.zero_le _⟩ hl.1 rfl (Nat.le_of_ble_eq_true rfl) dX6_loud_2 (fun H locs hP hD hS => ?_)
  replace hP : va_P D vwCl [oX6 h_t q_t (d_t.1), oX4 (q_t 0) q_t_0 (d_t_0.1), ((q_t_0 1), .inl (cs 0, 6, .inl (d_t_0.2 1))), ((q_t_0 2), .inl (cs 0, 6, .inl (d_t_0.2 2))), ((q_t_0 4), .inl (cs 0, 3, .inl (d_t_0.2 4))), ((q_t_0 5), .inl (cs 0, 3, .inl (d_t_0.2 5))), oX0 (q_t 1) q_t_1 (d_t_1.1), ((q_t_1 1), .inl (cs 0, 6, .inl (d_t_1.2 1))), ((q_t_1 2), .inl (cs 0, 6, .inl (d_t_1.2 2))), ((q_t_1 3), .inl (cs 0, 6, .inl (d_t_1.2 3))), oX1 (q_t 8) q_t_8 (d_t_8.1), ((q_t_8 1), .inl (cs 0, 12, .inl (d_t_8.2 1))), ((q_t_8 2), .inl (cs 0, 12, .inl (d_t_8.2 2))), ((q_t_8 3), .inl (cs 0, 12, .inl (d_t_8.2 3)))] H := hP
  replace hD : va_D A [oX6 h_t q_t (d_t.1), oX4 (q_t 0) q_t_0 (d_t_0.1), ((q_t_0 1), .inl (cs 0, 6, .inl (d_t_0.2 1))), ((q_t_0 2), .inl (cs 0, 6, .inl (d_t_0.2 2))), ((q_t_0 4), .inl (cs 0, 3, .inl (d_t_0.2 4))), ((q_t_0 5), .inl (cs 0, 3, .inl (d_t_0.2 5))), oX0 (q_t 1) q_t_1 (d_t_1.1), ((q_t_1 1), .inl (cs 0, 6, .inl (d_t_1.2 1))), ((q_t_1 2), .inl (cs 0, 6, .inl (d_t_1.2 2))), ((q_t_1 3), .inl (cs 0, 6, .inl (d_t_1.2 3))), oX1 (q_t 8) q_t_8 (d_t_8.1), ((q_t_8 1), .inl (cs 0, 12, .inl (d_t_8.2 1))), ((q_t_8 2), .inl (cs 0, 12, .inl (d_t_8.2 2))), ((q_t_8 3), .inl (cs 0, 12, .inl (d_t_8.2 3)))] := hD
  have g4 := ite_some hf
  refine lv_if_eq (tgt := 12) hx hb dX6_loud_5 (by decide) (fun c3 => ?_) (fun c3 => ?_)
  · replace hf := g4.1 c3
    refine lv_aload_n hx hb dX6_loud_12 rfl (lv_at hl 0 rfl) ?_
    refine lv_bipush (v := (-10)) hx hb dX6_loud_13 rfl ?_
    obtain ⟨r5, e6, hf⟩ := bind_some hf
    refine callVi (As := [.int (-10)]) (rest := []) M (mX6_refuseBad l D cs sk h_t q_t k d_t (-10) e6) mw_X6_96 ln_X6_refuseBad ⟨rfl, rfl, Nat.le_of_ble_eq_true rfl, Nat.le_of_ble_eq_true rfl⟩ hP hD hS hA [0] (by decide) rfl rfl (q0 := 0) rfl rfl rfl ⟨Nat.zero_le _, Nat.zero_le _⟩ hl.1 rfl (Nat.le_of_ble_eq_true rfl) dX6_loud_15 (fun H locs hP hD hS => ?_)
    replace hP : va_P D vwCl [oX6 h_t q_t (r5.2.1), oX4 (q_t 0) q_t_0 (d_t_0.1), ((q_t_0 1), .inl (cs 0, 6, .inl (d_t_0.2 1))), ((q_t_0 2), .inl (cs 0, 6, .inl (d_t_0.2 2))), ((q_t_0 4), .inl (cs 0, 3, .inl (d_t_0.2 4))), ((q_t_0 5), .inl (cs 0, 3, .inl (d_t_0.2 5))), oX0 (q_t 1) q_t_1 (d_t_1.1), ((q_t_1 1), .inl (cs 0, 6, .inl (d_t_1.2 1))), ((q_t_1 2), .inl (cs 0, 6, .inl (d_t_1.2 2))), ((q_t_1 3), .inl (cs 0, 6, .inl (d_t_1.2 3))), oX1 (q_t 8) q_t_8 (d_t_8.1), ((q_t_8 1), .inl (cs 0, 12, .inl (d_t_8.2 1))), ((q_t_8 2), .inl (cs 0, 12, .inl (d_t_8.2 2))), ((q_t_8 3), .inl (cs 0, 12, .inl (d_t_8.2 3)))] H := hP
    replace hD : va_D A [oX6 h_t q_t (r5.2.1), oX4 (q_t 0) q_t_0 (d_t_0.1), ((q_t_0 1), .inl (cs 0, 6, .inl (d_t_0.2 1))), ((q_t_0 2), .inl (cs 0, 6, .inl (d_t_0.2 2))), ((q_t_0 4), .inl (cs 0, 3, .inl (d_t_0.2 4))), ((q_t_0 5), .inl (cs 0, 3, .inl (d_t_0.2 5))), oX0 (q_t 1) q_t_1 (d_t_1.1), ((q_t_1 1), .inl (cs 0, 6, .inl (d_t_1.2 1))), ((q_t_1 2), .inl (cs 0, 6, .inl (d_t_1.2 2))), ((q_t_1 3), .inl (cs 0, 6, .inl (d_t_1.2 3))), oX1 (q_t 8) q_t_8 (d_t_8.1), ((q_t_8 1), .inl (cs 0, 12, .inl (d_t_8.2 1))), ((q_t_8 2), .inl (cs 0, 12, .inl (d_t_8.2 2))), ((q_t_8 3), .inl (cs 0, 12, .inl (d_t_8.2 3)))] := hD
    have e9 := Option.some.inj hf
    subst e9
    exact hR _ _ _ _ dX6_loud_18 hP hS
  · replace hf := g4.2 c3
    refine lv_iload_n hx hb dX6_loud_8 rfl (lv_at hl 2 rfl) ?_
    have g8 := ite_some hf
    refine lv_if_ge (tgt := 19) hx hb dX6_loud_9 (by decide) (fun c7 => ?_) (fun c7 => ?_)
    · replace hf := g8.1 c7
      refine lv_aload_n hx hb dX6_loud_19 rfl (lv_at hl 0 rfl) ?_
      refine va_get (D := D) (ci := 6) (v := .ref (q_t 8)) (C := RX6) (T := TX6) (N := 18) hx hb hT iX6 hown hK hP 0 rfl rfl 8 (by decide) (hT _ fw_X6_47) (fun _ h9 => h9) rfl dX6_loud_20 ?_
      refine lv_aload_n hx hb dX6_loud_23 rfl (lv_at hl 0 rfl) ?_
      refine va_get (D := D) (ci := 6) (v := .ref (q_t 0)) (C := RX6) (T := TX6) (N := 18) hx hb hT iX6 hown hK hP 0 rfl rfl 0 (by decide) (hT _ fw_X6_10) (fun _ h9 => h9) rfl dX6_loud_24 ?_
      refine lv_aload_n hx hb dX6_loud_27 rfl (lv_at hl 0 rfl) ?_
      refine va_get (D := D) (ci := 6) (v := .ref (q_t 1)) (C := RX6) (T := TX6) (N := 18) hx hb hT iX6 hown hK hP 0 rfl rfl 1 (by decide) (hT _ fw_X6_19) (fun _ h9 => h9) rfl dX6_loud_28 ?_
      refine lv_iload_n hx hb dX6_loud_31 rfl (lv_at hl 1 rfl) ?_
      obtain ⟨r9, e10, hf⟩ := bind_some hf
      refine callVv (As := [.ref (q_t 0), .ref (q_t 1), .int x1]) (rest := []) M (mX1_listen l D cs sk (q_t 8) (q_t 0) (q_t 1) q_t_8 q_t_0 q_t_1 k d_t_8 d_t_0 d_t_1 x1 e10) mw_X6_188 ln_X1_listen ⟨rfl, rfl, Nat.le_of_ble_eq_true rfl, Nat.le_of_ble_eq_true rfl⟩ hP hD hS hA [10, 11, 12, 13, 1, 2, 3, 4, 5, 6, 7, 8, 9] (by decide) rfl rfl (q0 := 0) rfl rfl rfl ⟨Nat.zero_le _, Nat.zero_le _⟩ hl.1 rfl (Nat.le_of_ble_eq_true rfl) dX6_loud_32 (fun H locs hP hD hS => ?_)
      replace hP : va_P D vwCl [oX6 h_t q_t (d_t.1), oX4 (q_t 0) q_t_0 (d_t_0.1), ((q_t_0 1), .inl (cs 0, 6, .inl (d_t_0.2 1))), ((q_t_0 2), .inl (cs 0, 6, .inl (d_t_0.2 2))), ((q_t_0 4), .inl (cs 0, 3, .inl (d_t_0.2 4))), ((q_t_0 5), .inl (cs 0, 3, .inl (d_t_0.2 5))), oX0 (q_t 1) q_t_1 (d_t_1.1), ((q_t_1 1), .inl (cs 0, 6, .inl (d_t_1.2 1))), ((q_t_1 2), .inl (cs 0, 6, .inl (d_t_1.2 2))), ((q_t_1 3), .inl (cs 0, 6, .inl (d_t_1.2 3))), oX1 (q_t 8) q_t_8 (r9.1), ((q_t_8 1), .inl (cs 0, 12, .inl (r9.2 1))), ((q_t_8 2), .inl (cs 0, 12, .inl (r9.2 2))), ((q_t_8 3), .inl (cs 0, 12, .inl (r9.2 3)))] H := hP
      replace hD : va_D A [oX6 h_t q_t (d_t.1), oX4 (q_t 0) q_t_0 (d_t_0.1), ((q_t_0 1), .inl (cs 0, 6, .inl (d_t_0.2 1))), ((q_t_0 2), .inl (cs 0, 6, .inl (d_t_0.2 2))), ((q_t_0 4), .inl (cs 0, 3, .inl (d_t_0.2 4))), ((q_t_0 5), .inl (cs 0, 3, .inl (d_t_0.2 5))), oX0 (q_t 1) q_t_1 (d_t_1.1), ((q_t_1 1), .inl (cs 0, 6, .inl (d_t_1.2 1))), ((q_t_1 2), .inl (cs 0, 6, .inl (d_t_1.2 2))), ((q_t_1 3), .inl (cs 0, 6, .inl (d_t_1.2 3))), oX1 (q_t 8) q_t_8 (r9.1), ((q_t_8 1), .inl (cs 0, 12, .inl (r9.2 1))), ((q_t_8 2), .inl (cs 0, 12, .inl (r9.2 2))), ((q_t_8 3), .inl (cs 0, 12, .inl (r9.2 3)))] := hD
      refine lv_iload_n hx hb dX6_loud_35 rfl (lv_at hl 2 rfl) ?_
      refine lv_aload_n hx hb dX6_loud_36 rfl (lv_at hl 0 rfl) ?_
      refine va_get (D := D) (ci := 6) (v := .ref (q_t 8)) (C := RX6) (T := TX6) (N := 18) hx hb hT iX6 hown hK hP 0 rfl rfl 8 (by decide) (hT _ fw_X6_47) (fun _ h9 => h9) rfl dX6_loud_37 ?_
      refine va_get (D := D) (ci := 1) (v := .int (r9.1 0)) (C := RX1) (T := TX1) (N := 4) hx hb hT iX1 hown hK hP 10 rfl rfl 0 (by decide) (hT _ fw_X6_192) (fun _ h9 => h9) rfl dX6_loud_40 ?_
      have g12 := ite_some hf
      refine lv_icmp_lt (tgt := 49) hx hb dX6_loud_43 (by decide) (fun c11 => ?_) (fun c11 => ?_)
      · replace hf := g12.1 c11
        refine lv_aload_n hx hb dX6_loud_49 rfl (lv_at hl 0 rfl) ?_
        refine va_get (D := D) (ci := 6) (v := .ref (q_t 8)) (C := RX6) (T := TX6) (N := 18) hx hb hT iX6 hown hK hP 0 rfl rfl 8 (by decide) (hT _ fw_X6_47) (fun _ h9 => h9) rfl dX6_loud_50 ?_
        refine va_get (D := D) (ci := 1) (v := .ref (q_t_8 3)) (C := RX1) (T := TX1) (N := 4) hx hb hT iX1 hown hK hP 10 rfl rfl 3 (by decide) (hT _ fw_X6_200) (fun _ h9 => h9) rfl dX6_loud_53 ?_
        refine lv_iload_n hx hb dX6_loud_56 rfl (lv_at hl 2 rfl) ?_
        obtain ⟨hi, hf⟩ := chk_some hf
        refine va_iald (D := D) hx hb hK hP 13 0 rfl rfl hi dX6_loud_57 ?_
        have e9 := Option.some.inj hf
        subst e9
        exact hR _ _ _ _ dX6_loud_58 hP hS
      · replace hf := g12.2 c11
        refine lv_bipush (v := (-5)) hx hb dX6_loud_46 rfl ?_
        have e9 := Option.some.inj hf
        subst e9
        exact hR _ _ _ _ dX6_loud_48 hP hS
    · replace hf := g8.2 c7
      refine lv_aload_n hx hb dX6_loud_12 rfl (lv_at hl 0 rfl) ?_
      refine lv_bipush (v := (-10)) hx hb dX6_loud_13 rfl ?_
      obtain ⟨r13, e14, hf⟩ := bind_some hf
      refine callVi (As := [.int (-10)]) (rest := []) M (mX6_refuseBad l D cs sk h_t q_t k d_t (-10) e14) mw_X6_96 ln_X6_refuseBad ⟨rfl, rfl, Nat.le_of_ble_eq_true rfl, Nat.le_of_ble_eq_true rfl⟩ hP hD hS hA [0] (by decide) rfl rfl (q0 := 0) rfl rfl rfl ⟨Nat.zero_le _, Nat.zero_le _⟩ hl.1 rfl (Nat.le_of_ble_eq_true rfl) dX6_loud_15 (fun H locs hP hD hS => ?_)
      replace hP : va_P D vwCl [oX6 h_t q_t (r13.2.1), oX4 (q_t 0) q_t_0 (d_t_0.1), ((q_t_0 1), .inl (cs 0, 6, .inl (d_t_0.2 1))), ((q_t_0 2), .inl (cs 0, 6, .inl (d_t_0.2 2))), ((q_t_0 4), .inl (cs 0, 3, .inl (d_t_0.2 4))), ((q_t_0 5), .inl (cs 0, 3, .inl (d_t_0.2 5))), oX0 (q_t 1) q_t_1 (d_t_1.1), ((q_t_1 1), .inl (cs 0, 6, .inl (d_t_1.2 1))), ((q_t_1 2), .inl (cs 0, 6, .inl (d_t_1.2 2))), ((q_t_1 3), .inl (cs 0, 6, .inl (d_t_1.2 3))), oX1 (q_t 8) q_t_8 (d_t_8.1), ((q_t_8 1), .inl (cs 0, 12, .inl (d_t_8.2 1))), ((q_t_8 2), .inl (cs 0, 12, .inl (d_t_8.2 2))), ((q_t_8 3), .inl (cs 0, 12, .inl (d_t_8.2 3)))] H := hP
      replace hD : va_D A [oX6 h_t q_t (r13.2.1), oX4 (q_t 0) q_t_0 (d_t_0.1), ((q_t_0 1), .inl (cs 0, 6, .inl (d_t_0.2 1))), ((q_t_0 2), .inl (cs 0, 6, .inl (d_t_0.2 2))), ((q_t_0 4), .inl (cs 0, 3, .inl (d_t_0.2 4))), ((q_t_0 5), .inl (cs 0, 3, .inl (d_t_0.2 5))), oX0 (q_t 1) q_t_1 (d_t_1.1), ((q_t_1 1), .inl (cs 0, 6, .inl (d_t_1.2 1))), ((q_t_1 2), .inl (cs 0, 6, .inl (d_t_1.2 2))), ((q_t_1 3), .inl (cs 0, 6, .inl (d_t_1.2 3))), oX1 (q_t 8) q_t_8 (d_t_8.1), ((q_t_8 1), .inl (cs 0, 12, .inl (d_t_8.2 1))), ((q_t_8 2), .inl (cs 0, 12, .inl (d_t_8.2 2))), ((q_t_8 3), .inl (cs 0, 12, .inl (d_t_8.2 3)))] := hD
      have e9 := Option.some.inj hf
      subst e9
      exact hR _ _ _ _ dX6_loud_18 hP hS
abbrev rm_X6_spread : Room := { frames := 5, cells := 0, slots := 0, locals := 125 }
def fX6_spread (k : Nat) (d_t : Dat) (d_t_0 : Dat) (d_t_1 : Dat) (d_t_8 : Dat) (x1 : Int32) : Option (Int32 × Dat × Dat) :=
  (fX6_hasEar k d_t d_t_0 x1).bind (fun (r1 : Int32) => (if r1 = 0 then (fX6_refuseBad k d_t (-2)).bind (fun (r7 : Int32 × Dat) => some ((r7.1), (r7.2.1, d_t.2), d_t_8)) else (fX1_spreadAt k d_t_8 d_t_0 d_t_1 x1).bind (fun (r5 : Int32 × Dat) => some ((r5.1), d_t, (r5.2.1, (va_up (va_up (va_up d_t_8.2 1 (r5.2.2 1)) 2 (r5.2.2 2)) 3 (r5.2.2 3)))))))
set_option maxHeartbeats 4000000 in
set_option maxRecDepth 100000 in
theorem mX6_spread (l : Launch) (D : va_G) (cs : Nat → ClassId) (sk : Nat → Nat) (h_t : Nat) (q_t : Nat → Nat) (q_t_0 : Nat → Nat) (q_t_1 : Nat → Nat) (q_t_8 : Nat → Nat) (k : Nat) (d_t : Dat) (d_t_0 : Dat) (d_t_1 : Dat) (d_t_8 : Dat) (x1 : Int32) {rv : Int32 × Dat × Dat} (hf : fX6_spread k d_t d_t_0 d_t_1 d_t_8 x1 = some rv) : CTi l yX6_spread (Cond.code yX6_spread cX6_spread 2 (some .int) :: gtbl) rm_X6_spread D cs sk [.ref h_t, .int x1] [oX6 h_t q_t (d_t.1), oX4 (q_t 0) q_t_0 (d_t_0.1), ((q_t_0 1), .inl (cs 0, 6, .inl (d_t_0.2 1))), ((q_t_0 2), .inl (cs 0, 6, .inl (d_t_0.2 2))), ((q_t_0 4), .inl (cs 0, 3, .inl (d_t_0.2 4))), ((q_t_0 5), .inl (cs 0, 3, .inl (d_t_0.2 5))), oX0 (q_t 1) q_t_1 (d_t_1.1), ((q_t_1 1), .inl (cs 0, 6, .inl (d_t_1.2 1))), ((q_t_1 2), .inl (cs 0, 6, .inl (d_t_1.2 2))), ((q_t_1 3), .inl (cs 0, 6, .inl (d_t_1.2 3))), ((q_t_1 4), .inl (cs 0, 6, .inl (d_t_1.2 4))), oX1 (q_t 8) q_t_8 (d_t_8.1), ((q_t_8 1), .inl (cs 0, 12, .inl (d_t_8.2 1))), ((q_t_8 2), .inl (cs 0, 12, .inl (d_t_8.2 2))), ((q_t_8 3), .inl (cs 0, 12, .inl (d_t_8.2 3)))] (rv.1) [oX6 h_t q_t (rv.2.1.1), oX4 (q_t 0) q_t_0 (d_t_0.1), ((q_t_0 1), .inl (cs 0, 6, .inl (d_t_0.2 1))), ((q_t_0 2), .inl (cs 0, 6, .inl (d_t_0.2 2))), ((q_t_0 4), .inl (cs 0, 3, .inl (d_t_0.2 4))), ((q_t_0 5), .inl (cs 0, 3, .inl (d_t_0.2 5))), oX0 (q_t 1) q_t_1 (d_t_1.1), ((q_t_1 1), .inl (cs 0, 6, .inl (d_t_1.2 1))), ((q_t_1 2), .inl (cs 0, 6, .inl (d_t_1.2 2))), ((q_t_1 3), .inl (cs 0, 6, .inl (d_t_1.2 3))), ((q_t_1 4), .inl (cs 0, 6, .inl (d_t_1.2 4))), oX1 (q_t 8) q_t_8 (rv.2.2.1), ((q_t_8 1), .inl (cs 0, 12, .inl (rv.2.2.2 1))), ((q_t_8 2), .inl (cs 0, 12, .inl (rv.2.2.2 2))), ((q_t_8 3), .inl (cs 0, 12, .inl (rv.2.2.2 3)))] := by
  refine CTi.of RX6 (by decide +kernel) rfl (Nat.le_of_ble_eq_true rfl) (fun p e s m args below meth c A Q ls M hA hR hl hP hD hS => ?_)
  obtain ⟨hx, hb, hml, hT, hown, hlk, hrt, hK, hN, hSE⟩ := id M
  replace hl : lv_has ls 2 [(0, .ref h_t), (1, .int x1)] := hl
  unfold fX6_spread at hf
  refine lv_aload_n hx hb dX6_spread_0 rfl (lv_at hl 0 rfl) ?_
  refine lv_iload_n hx hb dX6_spread_1 rfl (lv_at hl 1 rfl) ?_
  obtain ⟨r1, e2, hf⟩ := bind_some hf
  refine callVi (As := [.int x1]) (rest := []) M (mX6_hasEar l D cs sk h_t q_t q_t_0 k d_t d_t_0 x1 e2) mw_X6_160 ln_X6_hasEar ⟨rfl, rfl, Nat.le_of_ble_eq_true rfl, Nat.le_of_ble_eq_true rfl⟩ hP hD hS hA [0, 1] (by decide) rfl rfl (q0 := 0) rfl rfl rfl ⟨Nat.zero_le _, Nat.zero_le _⟩ hl.1 rfl (Nat.le_of_ble_eq_true rfl) dX6_spread_2 (fun H locs hP hD hS => ?_)
  replace hP : va_P D vwCl [oX6 h_t q_t (d_t.1), oX4 (q_t 0) q_t_0 (d_t_0.1), ((q_t_0 1), .inl (cs 0, 6, .inl (d_t_0.2 1))), ((q_t_0 2), .inl (cs 0, 6, .inl (d_t_0.2 2))), ((q_t_0 4), .inl (cs 0, 3, .inl (d_t_0.2 4))), ((q_t_0 5), .inl (cs 0, 3, .inl (d_t_0.2 5))), oX0 (q_t 1) q_t_1 (d_t_1.1), ((q_t_1 1), .inl (cs 0, 6, .inl (d_t_1.2 1))), ((q_t_1 2), .inl (cs 0, 6, .inl (d_t_1.2 2))), ((q_t_1 3), .inl (cs 0, 6, .inl (d_t_1.2 3))), ((q_t_1 4), .inl (cs 0, 6, .inl (d_t_1.2 4))), oX1 (q_t 8) q_t_8 (d_t_8.1), ((q_t_8 1), .inl (cs 0, 12, .inl (d_t_8.2 1))), ((q_t_8 2), .inl (cs 0, 12, .inl (d_t_8.2 2))), ((q_t_8 3), .inl (cs 0, 12, .inl (d_t_8.2 3)))] H := hP
  replace hD : va_D A [oX6 h_t q_t (d_t.1), oX4 (q_t 0) q_t_0 (d_t_0.1), ((q_t_0 1), .inl (cs 0, 6, .inl (d_t_0.2 1))), ((q_t_0 2), .inl (cs 0, 6, .inl (d_t_0.2 2))), ((q_t_0 4), .inl (cs 0, 3, .inl (d_t_0.2 4))), ((q_t_0 5), .inl (cs 0, 3, .inl (d_t_0.2 5))), oX0 (q_t 1) q_t_1 (d_t_1.1), ((q_t_1 1), .inl (cs 0, 6, .inl (d_t_1.2 1))), ((q_t_1 2), .inl (cs 0, 6, .inl (d_t_1.2 2))), ((q_t_1 3), .inl (cs 0, 6, .inl (d_t_1.2 3))), ((q_t_1 4), .inl (cs 0, 6, .inl (d_t_1.2 4))), oX1 (q_t 8) q_t_8 (d_t_8.1), ((q_t_8 1), .inl (cs 0, 12, .inl (d_t_8.2 1))), ((q_t_8 2), .inl (cs 0, 12, .inl (d_t_8.2 2))), ((q_t_8 3), .inl (cs 0, 12, .inl (d_t_8.2 3)))] := hD
  have g4 := ite_some hf
  refine lv_if_ne (tgt := 15) hx hb dX6_spread_5 (by decide) (fun c3 => ?_) (fun c3 => ?_)
  · replace hf := g4.2 c3
    refine lv_aload_n hx hb dX6_spread_15 rfl (lv_at hl 0 rfl) ?_
    refine va_get (D := D) (ci := 6) (v := .ref (q_t 8)) (C := RX6) (T := TX6) (N := 18) hx hb hT iX6 hown hK hP 0 rfl rfl 8 (by decide) (hT _ fw_X6_47) (fun _ h9 => h9) rfl dX6_spread_16 ?_
    refine lv_aload_n hx hb dX6_spread_19 rfl (lv_at hl 0 rfl) ?_
    refine va_get (D := D) (ci := 6) (v := .ref (q_t 0)) (C := RX6) (T := TX6) (N := 18) hx hb hT iX6 hown hK hP 0 rfl rfl 0 (by decide) (hT _ fw_X6_10) (fun _ h9 => h9) rfl dX6_spread_20 ?_
    refine lv_aload_n hx hb dX6_spread_23 rfl (lv_at hl 0 rfl) ?_
    refine va_get (D := D) (ci := 6) (v := .ref (q_t 1)) (C := RX6) (T := TX6) (N := 18) hx hb hT iX6 hown hK hP 0 rfl rfl 1 (by decide) (hT _ fw_X6_19) (fun _ h9 => h9) rfl dX6_spread_24 ?_
    refine lv_iload_n hx hb dX6_spread_27 rfl (lv_at hl 1 rfl) ?_
    obtain ⟨r5, e6, hf⟩ := bind_some hf
    refine callVi (As := [.ref (q_t 0), .ref (q_t 1), .int x1]) (rest := []) M (mX1_spreadAt l D cs sk (q_t 8) (q_t 0) (q_t 1) q_t_8 q_t_0 q_t_1 k d_t_8 d_t_0 d_t_1 x1 e6) mw_X6_203 ln_X1_spreadAt ⟨rfl, rfl, Nat.le_of_ble_eq_true rfl, Nat.le_of_ble_eq_true rfl⟩ hP hD hS hA [11, 12, 13, 14, 1, 2, 3, 4, 5, 6, 7, 8, 9, 10] (by decide) rfl rfl (q0 := 0) rfl rfl rfl ⟨Nat.zero_le _, Nat.zero_le _⟩ hl.1 rfl (Nat.le_of_ble_eq_true rfl) dX6_spread_28 (fun H locs hP hD hS => ?_)
    replace hP : va_P D vwCl [oX6 h_t q_t (d_t.1), oX4 (q_t 0) q_t_0 (d_t_0.1), ((q_t_0 1), .inl (cs 0, 6, .inl (d_t_0.2 1))), ((q_t_0 2), .inl (cs 0, 6, .inl (d_t_0.2 2))), ((q_t_0 4), .inl (cs 0, 3, .inl (d_t_0.2 4))), ((q_t_0 5), .inl (cs 0, 3, .inl (d_t_0.2 5))), oX0 (q_t 1) q_t_1 (d_t_1.1), ((q_t_1 1), .inl (cs 0, 6, .inl (d_t_1.2 1))), ((q_t_1 2), .inl (cs 0, 6, .inl (d_t_1.2 2))), ((q_t_1 3), .inl (cs 0, 6, .inl (d_t_1.2 3))), ((q_t_1 4), .inl (cs 0, 6, .inl (d_t_1.2 4))), oX1 (q_t 8) q_t_8 (r5.2.1), ((q_t_8 1), .inl (cs 0, 12, .inl (r5.2.2 1))), ((q_t_8 2), .inl (cs 0, 12, .inl (r5.2.2 2))), ((q_t_8 3), .inl (cs 0, 12, .inl (r5.2.2 3)))] H := hP
    replace hD : va_D A [oX6 h_t q_t (d_t.1), oX4 (q_t 0) q_t_0 (d_t_0.1), ((q_t_0 1), .inl (cs 0, 6, .inl (d_t_0.2 1))), ((q_t_0 2), .inl (cs 0, 6, .inl (d_t_0.2 2))), ((q_t_0 4), .inl (cs 0, 3, .inl (d_t_0.2 4))), ((q_t_0 5), .inl (cs 0, 3, .inl (d_t_0.2 5))), oX0 (q_t 1) q_t_1 (d_t_1.1), ((q_t_1 1), .inl (cs 0, 6, .inl (d_t_1.2 1))), ((q_t_1 2), .inl (cs 0, 6, .inl (d_t_1.2 2))), ((q_t_1 3), .inl (cs 0, 6, .inl (d_t_1.2 3))), ((q_t_1 4), .inl (cs 0, 6, .inl (d_t_1.2 4))), oX1 (q_t 8) q_t_8 (r5.2.1), ((q_t_8 1), .inl (cs 0, 12, .inl (r5.2.2 1))), ((q_t_8 2), .inl (cs 0, 12, .inl (r5.2.2 2))), ((q_t_8 3), .inl (cs 0, 12, .inl (r5.2.2 3)))] := hD
    have e9 := Option.some.inj hf
    subst e9
    exact hR _ _ _ _ dX6_spread_31 hP hS
  · replace hf := g4.1 c3
    refine lv_aload_n hx hb dX6_spread_8 rfl (lv_at hl 0 rfl) ?_
    refine lv_bipush (v := (-2)) hx hb dX6_spread_9 rfl ?_
    obtain ⟨r7, e8, hf⟩ := bind_some hf
    refine callVi (As := [.int (-2)]) (rest := []) M (mX6_refuseBad l D cs sk h_t q_t k d_t (-2) e8) mw_X6_96 ln_X6_refuseBad ⟨rfl, rfl, Nat.le_of_ble_eq_true rfl, Nat.le_of_ble_eq_true rfl⟩ hP hD hS hA [0] (by decide) rfl rfl (q0 := 0) rfl rfl rfl ⟨Nat.zero_le _, Nat.zero_le _⟩ hl.1 rfl (Nat.le_of_ble_eq_true rfl) dX6_spread_11 (fun H locs hP hD hS => ?_)
    replace hP : va_P D vwCl [oX6 h_t q_t (r7.2.1), oX4 (q_t 0) q_t_0 (d_t_0.1), ((q_t_0 1), .inl (cs 0, 6, .inl (d_t_0.2 1))), ((q_t_0 2), .inl (cs 0, 6, .inl (d_t_0.2 2))), ((q_t_0 4), .inl (cs 0, 3, .inl (d_t_0.2 4))), ((q_t_0 5), .inl (cs 0, 3, .inl (d_t_0.2 5))), oX0 (q_t 1) q_t_1 (d_t_1.1), ((q_t_1 1), .inl (cs 0, 6, .inl (d_t_1.2 1))), ((q_t_1 2), .inl (cs 0, 6, .inl (d_t_1.2 2))), ((q_t_1 3), .inl (cs 0, 6, .inl (d_t_1.2 3))), ((q_t_1 4), .inl (cs 0, 6, .inl (d_t_1.2 4))), oX1 (q_t 8) q_t_8 (d_t_8.1), ((q_t_8 1), .inl (cs 0, 12, .inl (d_t_8.2 1))), ((q_t_8 2), .inl (cs 0, 12, .inl (d_t_8.2 2))), ((q_t_8 3), .inl (cs 0, 12, .inl (d_t_8.2 3)))] H := hP
    replace hD : va_D A [oX6 h_t q_t (r7.2.1), oX4 (q_t 0) q_t_0 (d_t_0.1), ((q_t_0 1), .inl (cs 0, 6, .inl (d_t_0.2 1))), ((q_t_0 2), .inl (cs 0, 6, .inl (d_t_0.2 2))), ((q_t_0 4), .inl (cs 0, 3, .inl (d_t_0.2 4))), ((q_t_0 5), .inl (cs 0, 3, .inl (d_t_0.2 5))), oX0 (q_t 1) q_t_1 (d_t_1.1), ((q_t_1 1), .inl (cs 0, 6, .inl (d_t_1.2 1))), ((q_t_1 2), .inl (cs 0, 6, .inl (d_t_1.2 2))), ((q_t_1 3), .inl (cs 0, 6, .inl (d_t_1.2 3))), ((q_t_1 4), .inl (cs 0, 6, .inl (d_t_1.2 4))), oX1 (q_t 8) q_t_8 (d_t_8.1), ((q_t_8 1), .inl (cs 0, 12, .inl (d_t_8.2 1))), ((q_t_8 2), .inl (cs 0, 12, .inl (d_t_8.2 2))), ((q_t_8 3), .inl (cs 0, 12, .inl (d_t_8.2 3)))] := hD
    have e9 := Option.some.inj hf
    subst e9
    exact hR _ _ _ _ dX6_spread_14 hP hS
abbrev rm_X6_isTogether : Room := { frames := 5, cells := 0, slots := 0, locals := 125 }
def fX6_isTogether_B2 (k : Nat) (x1 : Int32) (d_t_0 : Dat) (d_t_1 : Dat) (d_t_8 : Dat) (K33 : Dat → Option (Int32 × Dat)) (K41 : Dat → Option (Int32 × Dat)) (rec : Int32 × Dat → Option (Int32 × Dat)) (v : Int32 × Dat) : Option (Int32 × Dat) :=
  (if (d_t_0.1 3) ≤ (v.1) then K41 (v.2.1, (va_up (va_up (va_up d_t_8.2 1 (v.2.2 1)) 2 (v.2.2 2)) 3 (v.2.2 3))) else (fX1_spreadAt k (v.2.1, (va_up (va_up (va_up d_t_8.2 1 (v.2.2 1)) 2 (v.2.2 2)) 3 (v.2.2 3))) d_t_0 d_t_1 (v.1)).bind (fun (r3 : Int32 × Dat) => (if (r3.1) ≤ x1 then rec (((v.1) + 1), (r3.2.1, (va_up (va_up (va_up d_t_8.2 1 (r3.2.2 1)) 2 (r3.2.2 2)) 3 (r3.2.2 3)))) else K33 (r3.2.1, (va_up (va_up (va_up d_t_8.2 1 (r3.2.2 1)) 2 (r3.2.2 2)) 3 (r3.2.2 3))))))
def fX6_isTogether (k : Nat) (d_t : Dat) (d_t_0 : Dat) (d_t_1 : Dat) (d_t_8 : Dat) (x1 : Int32) : Option (Int32 × Dat) :=
  lp (fX6_isTogether_B2 k x1 d_t_0 d_t_1 d_t_8 (fun (w1 : Dat) => some (0, (w1.1, (va_up (va_up (va_up d_t_8.2 1 (w1.2 1)) 2 (w1.2 2)) 3 (w1.2 3))))) (fun (w2 : Dat) => some (1, (w2.1, (va_up (va_up (va_up d_t_8.2 1 (w2.2 1)) 2 (w2.2 2)) 3 (w2.2 3)))))) k (0, d_t_8)
set_option maxHeartbeats 4000000 in
set_option maxRecDepth 100000 in
theorem mX6_isTogether_B2 {l : Launch} {p : Program} {e : Env} {s : State} {m : MethodId} {args : Array Value} {below : List Frame} {meth : Method} {c : Code} {D : va_G} {cs : Nat → ClassId} {sk : Nat → Nat} {A : Nat → Prop} {Q : State → Prop} (h_t : Nat) (q_t : Nat → Nat) (q_t_0 : Nat → Nat) (q_t_1 : Nat → Nat) (q_t_8 : Nat → Nat) (k : Nat) (x1 : Int32) (d_t : Dat) (d_t_0 : Dat) (d_t_1 : Dat) (d_t_8 : Dat) {rv : Int32 × Dat}  (K33 : Dat → Option (Int32 × Dat)) (K41 : Dat → Option (Int32 × Dat))
    (M : MC p s m args meth c D cs sk A RX6 cX6_isTogether 3 (some .boolean)) (hA : ∀ q, s.heap.size ≤ q → A q) (hR : RetZ p l e rm_X6_isTogether s m args below meth c D cX6_isTogether A Q (rv.1) [oX6 h_t q_t (d_t.1), oX4 (q_t 0) q_t_0 (d_t_0.1), ((q_t_0 1), .inl (cs 0, 6, .inl (d_t_0.2 1))), ((q_t_0 2), .inl (cs 0, 6, .inl (d_t_0.2 2))), ((q_t_0 4), .inl (cs 0, 3, .inl (d_t_0.2 4))), ((q_t_0 5), .inl (cs 0, 3, .inl (d_t_0.2 5))), oX0 (q_t 1) q_t_1 (d_t_1.1), ((q_t_1 1), .inl (cs 0, 6, .inl (d_t_1.2 1))), ((q_t_1 2), .inl (cs 0, 6, .inl (d_t_1.2 2))), ((q_t_1 3), .inl (cs 0, 6, .inl (d_t_1.2 3))), ((q_t_1 4), .inl (cs 0, 6, .inl (d_t_1.2 4))), oX1 (q_t 8) q_t_8 (rv.2.1), ((q_t_8 1), .inl (cs 0, 12, .inl (rv.2.2 1))), ((q_t_8 2), .inl (cs 0, 12, .inl (rv.2.2 2))), ((q_t_8 3), .inl (cs 0, 12, .inl (rv.2.2 3)))])
    (hK33 : ∀ (w : Dat), K33 w = some rv → ∀ (H : Heap) (locs : List Loc) (ls : Array Slot), va_P D vwCl [oX6 h_t q_t (d_t.1), oX4 (q_t 0) q_t_0 (d_t_0.1), ((q_t_0 1), .inl (cs 0, 6, .inl (d_t_0.2 1))), ((q_t_0 2), .inl (cs 0, 6, .inl (d_t_0.2 2))), ((q_t_0 4), .inl (cs 0, 3, .inl (d_t_0.2 4))), ((q_t_0 5), .inl (cs 0, 3, .inl (d_t_0.2 5))), oX0 (q_t 1) q_t_1 (d_t_1.1), ((q_t_1 1), .inl (cs 0, 6, .inl (d_t_1.2 1))), ((q_t_1 2), .inl (cs 0, 6, .inl (d_t_1.2 2))), ((q_t_1 3), .inl (cs 0, 6, .inl (d_t_1.2 3))), ((q_t_1 4), .inl (cs 0, 6, .inl (d_t_1.2 4))), oX1 (q_t 8) q_t_8 (w.1), ((q_t_8 1), .inl (cs 0, 12, .inl (w.2 1))), ((q_t_8 2), .inl (cs 0, 12, .inl (w.2 2))), ((q_t_8 3), .inl (cs 0, 12, .inl (w.2 3)))] H → va_D A [oX6 h_t q_t (d_t.1), oX4 (q_t 0) q_t_0 (d_t_0.1), ((q_t_0 1), .inl (cs 0, 6, .inl (d_t_0.2 1))), ((q_t_0 2), .inl (cs 0, 6, .inl (d_t_0.2 2))), ((q_t_0 4), .inl (cs 0, 3, .inl (d_t_0.2 4))), ((q_t_0 5), .inl (cs 0, 3, .inl (d_t_0.2 5))), oX0 (q_t 1) q_t_1 (d_t_1.1), ((q_t_1 1), .inl (cs 0, 6, .inl (d_t_1.2 1))), ((q_t_1 2), .inl (cs 0, 6, .inl (d_t_1.2 2))), ((q_t_1 3), .inl (cs 0, 6, .inl (d_t_1.2 3))), ((q_t_1 4), .inl (cs 0, 6, .inl (d_t_1.2 4))), oX1 (q_t 8) q_t_8 (w.1), ((q_t_8 1), .inl (cs 0, 12, .inl (w.2 1))), ((q_t_8 2), .inl (cs 0, 12, .inl (w.2 2))), ((q_t_8 3), .inl (cs 0, 12, .inl (w.2 3)))] → va_S A s.heap H locs → lv_has ls 3 [] → W p l e rm_X6_isTogether s m args below meth c H locs 0 0 Q (F0 m 33 ls []))
    (hK41 : ∀ (w : Dat), K41 w = some rv → ∀ (H : Heap) (locs : List Loc) (ls : Array Slot), va_P D vwCl [oX6 h_t q_t (d_t.1), oX4 (q_t 0) q_t_0 (d_t_0.1), ((q_t_0 1), .inl (cs 0, 6, .inl (d_t_0.2 1))), ((q_t_0 2), .inl (cs 0, 6, .inl (d_t_0.2 2))), ((q_t_0 4), .inl (cs 0, 3, .inl (d_t_0.2 4))), ((q_t_0 5), .inl (cs 0, 3, .inl (d_t_0.2 5))), oX0 (q_t 1) q_t_1 (d_t_1.1), ((q_t_1 1), .inl (cs 0, 6, .inl (d_t_1.2 1))), ((q_t_1 2), .inl (cs 0, 6, .inl (d_t_1.2 2))), ((q_t_1 3), .inl (cs 0, 6, .inl (d_t_1.2 3))), ((q_t_1 4), .inl (cs 0, 6, .inl (d_t_1.2 4))), oX1 (q_t 8) q_t_8 (w.1), ((q_t_8 1), .inl (cs 0, 12, .inl (w.2 1))), ((q_t_8 2), .inl (cs 0, 12, .inl (w.2 2))), ((q_t_8 3), .inl (cs 0, 12, .inl (w.2 3)))] H → va_D A [oX6 h_t q_t (d_t.1), oX4 (q_t 0) q_t_0 (d_t_0.1), ((q_t_0 1), .inl (cs 0, 6, .inl (d_t_0.2 1))), ((q_t_0 2), .inl (cs 0, 6, .inl (d_t_0.2 2))), ((q_t_0 4), .inl (cs 0, 3, .inl (d_t_0.2 4))), ((q_t_0 5), .inl (cs 0, 3, .inl (d_t_0.2 5))), oX0 (q_t 1) q_t_1 (d_t_1.1), ((q_t_1 1), .inl (cs 0, 6, .inl (d_t_1.2 1))), ((q_t_1 2), .inl (cs 0, 6, .inl (d_t_1.2 2))), ((q_t_1 3), .inl (cs 0, 6, .inl (d_t_1.2 3))), ((q_t_1 4), .inl (cs 0, 6, .inl (d_t_1.2 4))), oX1 (q_t 8) q_t_8 (w.1), ((q_t_8 1), .inl (cs 0, 12, .inl (w.2 1))), ((q_t_8 2), .inl (cs 0, 12, .inl (w.2 2))), ((q_t_8 3), .inl (cs 0, 12, .inl (w.2 3)))] → va_S A s.heap H locs → lv_has ls 3 [] → W p l e rm_X6_isTogether s m args below meth c H locs 0 0 Q (F0 m 41 ls []))
    : ∀ (n : Nat) (v : Int32 × Dat), lp (fX6_isTogether_B2 k x1 d_t_0 d_t_1 d_t_8 K33 K41) n v = some rv → ∀ (H : Heap) (locs : List Loc) (ls : Array Slot), va_P D vwCl [oX6 h_t q_t (d_t.1), oX4 (q_t 0) q_t_0 (d_t_0.1), ((q_t_0 1), .inl (cs 0, 6, .inl (d_t_0.2 1))), ((q_t_0 2), .inl (cs 0, 6, .inl (d_t_0.2 2))), ((q_t_0 4), .inl (cs 0, 3, .inl (d_t_0.2 4))), ((q_t_0 5), .inl (cs 0, 3, .inl (d_t_0.2 5))), oX0 (q_t 1) q_t_1 (d_t_1.1), ((q_t_1 1), .inl (cs 0, 6, .inl (d_t_1.2 1))), ((q_t_1 2), .inl (cs 0, 6, .inl (d_t_1.2 2))), ((q_t_1 3), .inl (cs 0, 6, .inl (d_t_1.2 3))), ((q_t_1 4), .inl (cs 0, 6, .inl (d_t_1.2 4))), oX1 (q_t 8) q_t_8 (v.2.1), ((q_t_8 1), .inl (cs 0, 12, .inl (v.2.2 1))), ((q_t_8 2), .inl (cs 0, 12, .inl (v.2.2 2))), ((q_t_8 3), .inl (cs 0, 12, .inl (v.2.2 3)))] H → va_D A [oX6 h_t q_t (d_t.1), oX4 (q_t 0) q_t_0 (d_t_0.1), ((q_t_0 1), .inl (cs 0, 6, .inl (d_t_0.2 1))), ((q_t_0 2), .inl (cs 0, 6, .inl (d_t_0.2 2))), ((q_t_0 4), .inl (cs 0, 3, .inl (d_t_0.2 4))), ((q_t_0 5), .inl (cs 0, 3, .inl (d_t_0.2 5))), oX0 (q_t 1) q_t_1 (d_t_1.1), ((q_t_1 1), .inl (cs 0, 6, .inl (d_t_1.2 1))), ((q_t_1 2), .inl (cs 0, 6, .inl (d_t_1.2 2))), ((q_t_1 3), .inl (cs 0, 6, .inl (d_t_1.2 3))), ((q_t_1 4), .inl (cs 0, 6, .inl (d_t_1.2 4))), oX1 (q_t 8) q_t_8 (v.2.1), ((q_t_8 1), .inl (cs 0, 12, .inl (v.2.2 1))), ((q_t_8 2), .inl (cs 0, 12, .inl (v.2.2 2))), ((q_t_8 3), .inl (cs 0, 12, .inl (v.2.2 3)))] → va_S A s.heap H locs → lv_has ls 3 [(0, .ref h_t), (1, .int x1), (2, .int (v.1))] → W p l e rm_X6_isTogether s m args below meth c H locs 0 0 Q (F0 m 2 ls []) := by
  obtain ⟨hx, hb, hml, hT, hown, hlk, hrt, hK, hN, hSE⟩ := id M
  refine lp_ind (fun rec ih v hf H locs ls hP hD hS hl => ?_)
  unfold fX6_isTogether_B2 at hf
  refine lv_iload_n hx hb dX6_isTogether_2 rfl (lv_at hl 2 rfl) ?_
  refine lv_aload_n hx hb dX6_isTogether_3 rfl (lv_at hl 0 rfl) ?_
  refine va_get (D := D) (ci := 6) (v := .ref (q_t 0)) (C := RX6) (T := TX6) (N := 18) hx hb hT iX6 hown hK hP 0 rfl rfl 0 (by decide) (hT _ fw_X6_10) (fun _ h9 => h9) rfl dX6_isTogether_4 ?_
  refine va_get (D := D) (ci := 4) (v := .int (d_t_0.1 3)) (C := RX4) (T := TX4) (N := 11) hx hb hT iX4 hown hK hP 1 rfl rfl 3 (by decide) (hT _ fw_X6_111) (fun _ h9 => h9) rfl dX6_isTogether_7 ?_
  have g2 := ite_some hf
  refine lv_icmp_ge (tgt := 41) hx hb dX6_isTogether_10 (by decide) (fun c1 => ?_) (fun c1 => ?_)
  · replace hf := g2.1 c1
    exact hK41 _ hf _ _ _ hP hD hS (lv_sub hl [] rfl)
  · replace hf := g2.2 c1
    refine lv_aload_n hx hb dX6_isTogether_13 rfl (lv_at hl 0 rfl) ?_
    refine va_get (D := D) (ci := 6) (v := .ref (q_t 8)) (C := RX6) (T := TX6) (N := 18) hx hb hT iX6 hown hK hP 0 rfl rfl 8 (by decide) (hT _ fw_X6_47) (fun _ h9 => h9) rfl dX6_isTogether_14 ?_
    refine lv_aload_n hx hb dX6_isTogether_17 rfl (lv_at hl 0 rfl) ?_
    refine va_get (D := D) (ci := 6) (v := .ref (q_t 0)) (C := RX6) (T := TX6) (N := 18) hx hb hT iX6 hown hK hP 0 rfl rfl 0 (by decide) (hT _ fw_X6_10) (fun _ h9 => h9) rfl dX6_isTogether_18 ?_
    refine lv_aload_n hx hb dX6_isTogether_21 rfl (lv_at hl 0 rfl) ?_
    refine va_get (D := D) (ci := 6) (v := .ref (q_t 1)) (C := RX6) (T := TX6) (N := 18) hx hb hT iX6 hown hK hP 0 rfl rfl 1 (by decide) (hT _ fw_X6_19) (fun _ h9 => h9) rfl dX6_isTogether_22 ?_
    refine lv_iload_n hx hb dX6_isTogether_25 rfl (lv_at hl 2 rfl) ?_
    obtain ⟨r3, e4, hf⟩ := bind_some hf
    refine callVi (As := [.ref (q_t 0), .ref (q_t 1), .int (v.1)]) (rest := []) M (mX1_spreadAt l D cs sk (q_t 8) (q_t 0) (q_t 1) q_t_8 q_t_0 q_t_1 k (v.2.1, (va_up (va_up (va_up d_t_8.2 1 (v.2.2 1)) 2 (v.2.2 2)) 3 (v.2.2 3))) d_t_0 d_t_1 (v.1) e4) mw_X6_203 ln_X1_spreadAt ⟨rfl, rfl, Nat.le_of_ble_eq_true rfl, Nat.le_of_ble_eq_true rfl⟩ hP hD hS hA [11, 12, 13, 14, 1, 2, 3, 4, 5, 6, 7, 8, 9, 10] (by decide) rfl rfl (q0 := 0) rfl rfl rfl ⟨Nat.zero_le _, Nat.zero_le _⟩ hl.1 rfl (Nat.le_of_ble_eq_true rfl) dX6_isTogether_26 (fun H locs hP hD hS => ?_)
    replace hP : va_P D vwCl [oX6 h_t q_t (d_t.1), oX4 (q_t 0) q_t_0 (d_t_0.1), ((q_t_0 1), .inl (cs 0, 6, .inl (d_t_0.2 1))), ((q_t_0 2), .inl (cs 0, 6, .inl (d_t_0.2 2))), ((q_t_0 4), .inl (cs 0, 3, .inl (d_t_0.2 4))), ((q_t_0 5), .inl (cs 0, 3, .inl (d_t_0.2 5))), oX0 (q_t 1) q_t_1 (d_t_1.1), ((q_t_1 1), .inl (cs 0, 6, .inl (d_t_1.2 1))), ((q_t_1 2), .inl (cs 0, 6, .inl (d_t_1.2 2))), ((q_t_1 3), .inl (cs 0, 6, .inl (d_t_1.2 3))), ((q_t_1 4), .inl (cs 0, 6, .inl (d_t_1.2 4))), oX1 (q_t 8) q_t_8 (r3.2.1), ((q_t_8 1), .inl (cs 0, 12, .inl (r3.2.2 1))), ((q_t_8 2), .inl (cs 0, 12, .inl (r3.2.2 2))), ((q_t_8 3), .inl (cs 0, 12, .inl (r3.2.2 3)))] H := hP
    replace hD : va_D A [oX6 h_t q_t (d_t.1), oX4 (q_t 0) q_t_0 (d_t_0.1), ((q_t_0 1), .inl (cs 0, 6, .inl (d_t_0.2 1))), ((q_t_0 2), .inl (cs 0, 6, .inl (d_t_0.2 2))), ((q_t_0 4), .inl (cs 0, 3, .inl (d_t_0.2 4))), ((q_t_0 5), .inl (cs 0, 3, .inl (d_t_0.2 5))), oX0 (q_t 1) q_t_1 (d_t_1.1), ((q_t_1 1), .inl (cs 0, 6, .inl (d_t_1.2 1))), ((q_t_1 2), .inl (cs 0, 6, .inl (d_t_1.2 2))), ((q_t_1 3), .inl (cs 0, 6, .inl (d_t_1.2 3))), ((q_t_1 4), .inl (cs 0, 6, .inl (d_t_1.2 4))), oX1 (q_t 8) q_t_8 (r3.2.1), ((q_t_8 1), .inl (cs 0, 12, .inl (r3.2.2 1))), ((q_t_8 2), .inl (cs 0, 12, .inl (r3.2.2 2))), ((q_t_8 3), .inl (cs 0, 12, .inl (r3.2.2 3)))] := hD
    refine lv_iload_n hx hb dX6_isTogether_29 rfl (lv_at hl 1 rfl) ?_
    have g6 := ite_some hf
    refine lv_icmp_le (tgt := 35) hx hb dX6_isTogether_30 (by decide) (fun c5 => ?_) (fun c5 => ?_)
    · replace hf := g6.1 c5
      refine lv_iinc (v := ((v.1) + 1)) (lv' := [(2, .int ((v.1) + 1)), (0, .ref h_t), (1, .int x1)]) hx hb dX6_isTogether_35 hl (k := 2) rfl rfl (by decide) rfl (fun ls hl => ?_)
      refine lv_goto (tgt := 2) hx hb dX6_isTogether_38 (by decide) ?_
      exact ih _ hf _ _ _ hP hD hS (lv_sub hl [1, 2, 0] rfl)
    · replace hf := g6.2 c5
      exact hK33 _ hf _ _ _ hP hD hS (lv_sub hl [] rfl)
set_option maxHeartbeats 4000000 in
set_option maxRecDepth 100000 in
theorem mX6_isTogether (l : Launch) (D : va_G) (cs : Nat → ClassId) (sk : Nat → Nat) (h_t : Nat) (q_t : Nat → Nat) (q_t_0 : Nat → Nat) (q_t_1 : Nat → Nat) (q_t_8 : Nat → Nat) (k : Nat) (d_t : Dat) (d_t_0 : Dat) (d_t_1 : Dat) (d_t_8 : Dat) (x1 : Int32) {rv : Int32 × Dat} (hf : fX6_isTogether k d_t d_t_0 d_t_1 d_t_8 x1 = some rv) : CTi l yX6_isTogether (Cond.code yX6_isTogether cX6_isTogether 3 (some .boolean) :: gtbl) rm_X6_isTogether D cs sk [.ref h_t, .int x1] [oX6 h_t q_t (d_t.1), oX4 (q_t 0) q_t_0 (d_t_0.1), ((q_t_0 1), .inl (cs 0, 6, .inl (d_t_0.2 1))), ((q_t_0 2), .inl (cs 0, 6, .inl (d_t_0.2 2))), ((q_t_0 4), .inl (cs 0, 3, .inl (d_t_0.2 4))), ((q_t_0 5), .inl (cs 0, 3, .inl (d_t_0.2 5))), oX0 (q_t 1) q_t_1 (d_t_1.1), ((q_t_1 1), .inl (cs 0, 6, .inl (d_t_1.2 1))), ((q_t_1 2), .inl (cs 0, 6, .inl (d_t_1.2 2))), ((q_t_1 3), .inl (cs 0, 6, .inl (d_t_1.2 3))), ((q_t_1 4), .inl (cs 0, 6, .inl (d_t_1.2 4))), oX1 (q_t 8) q_t_8 (d_t_8.1), ((q_t_8 1), .inl (cs 0, 12, .inl (d_t_8.2 1))), ((q_t_8 2), .inl (cs 0, 12, .inl (d_t_8.2 2))), ((q_t_8 3), .inl (cs 0, 12, .inl (d_t_8.2 3)))] (rv.1) [oX6 h_t q_t (d_t.1), oX4 (q_t 0) q_t_0 (d_t_0.1), ((q_t_0 1), .inl (cs 0, 6, .inl (d_t_0.2 1))), ((q_t_0 2), .inl (cs 0, 6, .inl (d_t_0.2 2))), ((q_t_0 4), .inl (cs 0, 3, .inl (d_t_0.2 4))), ((q_t_0 5), .inl (cs 0, 3, .inl (d_t_0.2 5))), oX0 (q_t 1) q_t_1 (d_t_1.1), ((q_t_1 1), .inl (cs 0, 6, .inl (d_t_1.2 1))), ((q_t_1 2), .inl (cs 0, 6, .inl (d_t_1.2 2))), ((q_t_1 3), .inl (cs 0, 6, .inl (d_t_1.2 3))), ((q_t_1 4), .inl (cs 0, 6, .inl (d_t_1.2 4))), oX1 (q_t 8) q_t_8 (rv.2.1), ((q_t_8 1), .inl (cs 0, 12, .inl (rv.2.2 1))), ((q_t_8 2), .inl (cs 0, 12, .inl (rv.2.2 2))), ((q_t_8 3), .inl (cs 0, 12, .inl (rv.2.2 3)))] := by
  refine CTi.ofZ RX6 (by decide +kernel) rfl (Nat.le_of_ble_eq_true rfl) (fun p e s m args below meth c A Q ls M hA hR hl hP hD hS => ?_)
  obtain ⟨hx, hb, hml, hT, hown, hlk, hrt, hK, hN, hSE⟩ := id M
  replace hl : lv_has ls 3 [(0, .ref h_t), (1, .int x1)] := hl
  unfold fX6_isTogether at hf
  refine lv_iconst (v := 0) hx hb dX6_isTogether_0 rfl ?_
  refine lv_istore_n (lv' := [(2, .int 0), (0, .ref h_t), (1, .int x1)]) hx hb dX6_isTogether_1 rfl hl (by decide) rfl (fun ls hl => ?_)
  refine mX6_isTogether_B2 h_t q_t q_t_0 q_t_1 q_t_8 k x1 d_t d_t_0 d_t_1 d_t_8 _ _ M hA hR (fun w1 hf H locs ls hP hD hS hl => ?_) (fun w2 hf H locs ls hP hD hS hl => ?_) _ _ hf _ _ _ hP hD hS (lv_sub hl [1, 2, 0] rfl)
  · refine lv_iconst (v := 0) hx hb dX6_isTogether_33 rfl ?_
    have e9 := Option.some.inj hf
    subst e9
    exact hR _ _ _ _ dX6_isTogether_34 (Or.inl rfl) hP hS
  · refine lv_iconst (v := 1) hx hb dX6_isTogether_41 rfl ?_
    have e9 := Option.some.inj hf
    subst e9
    exact hR _ _ _ _ dX6_isTogether_42 (Or.inr rfl) hP hS
abbrev rm_X6_together : Room := { frames := 6, cells := 0, slots := 0, locals := 147 }
def fX6_together (k : Nat) (d_t : Dat) (d_t_0 : Dat) (d_t_1 : Dat) (d_t_8 : Dat) (x1 : Int32) : Option (Int32 × Dat × Dat) :=
  (fX6_isWithin k x1 0 999).bind (fun (r1 : Int32) => (if r1 = 0 then (fX6_refuseBad k d_t (-2)).bind (fun (r9 : Int32 × Dat) => some ((r9.1), (r9.2.1, d_t.2), d_t_8)) else (fX6_isTogether k d_t d_t_0 d_t_1 d_t_8 x1).bind (fun (r5 : Int32 × Dat) => (if (r5.1) = 0 then some (0, d_t, (r5.2.1, (va_up (va_up (va_up d_t_8.2 1 (r5.2.2 1)) 2 (r5.2.2 2)) 3 (r5.2.2 3)))) else some (1, d_t, (r5.2.1, (va_up (va_up (va_up d_t_8.2 1 (r5.2.2 1)) 2 (r5.2.2 2)) 3 (r5.2.2 3))))))))
set_option maxHeartbeats 4000000 in
set_option maxRecDepth 100000 in
theorem mX6_together (l : Launch) (D : va_G) (cs : Nat → ClassId) (sk : Nat → Nat) (h_t : Nat) (q_t : Nat → Nat) (q_t_0 : Nat → Nat) (q_t_1 : Nat → Nat) (q_t_8 : Nat → Nat) (k : Nat) (d_t : Dat) (d_t_0 : Dat) (d_t_1 : Dat) (d_t_8 : Dat) (x1 : Int32) {rv : Int32 × Dat × Dat} (hf : fX6_together k d_t d_t_0 d_t_1 d_t_8 x1 = some rv) : CTi l yX6_together (Cond.code yX6_together cX6_together 2 (some .int) :: gtbl) rm_X6_together D cs sk [.ref h_t, .int x1] [oX6 h_t q_t (d_t.1), oX4 (q_t 0) q_t_0 (d_t_0.1), ((q_t_0 1), .inl (cs 0, 6, .inl (d_t_0.2 1))), ((q_t_0 2), .inl (cs 0, 6, .inl (d_t_0.2 2))), ((q_t_0 4), .inl (cs 0, 3, .inl (d_t_0.2 4))), ((q_t_0 5), .inl (cs 0, 3, .inl (d_t_0.2 5))), oX0 (q_t 1) q_t_1 (d_t_1.1), ((q_t_1 1), .inl (cs 0, 6, .inl (d_t_1.2 1))), ((q_t_1 2), .inl (cs 0, 6, .inl (d_t_1.2 2))), ((q_t_1 3), .inl (cs 0, 6, .inl (d_t_1.2 3))), ((q_t_1 4), .inl (cs 0, 6, .inl (d_t_1.2 4))), oX1 (q_t 8) q_t_8 (d_t_8.1), ((q_t_8 1), .inl (cs 0, 12, .inl (d_t_8.2 1))), ((q_t_8 2), .inl (cs 0, 12, .inl (d_t_8.2 2))), ((q_t_8 3), .inl (cs 0, 12, .inl (d_t_8.2 3)))] (rv.1) [oX6 h_t q_t (rv.2.1.1), oX4 (q_t 0) q_t_0 (d_t_0.1), ((q_t_0 1), .inl (cs 0, 6, .inl (d_t_0.2 1))), ((q_t_0 2), .inl (cs 0, 6, .inl (d_t_0.2 2))), ((q_t_0 4), .inl (cs 0, 3, .inl (d_t_0.2 4))), ((q_t_0 5), .inl (cs 0, 3, .inl (d_t_0.2 5))), oX0 (q_t 1) q_t_1 (d_t_1.1), ((q_t_1 1), .inl (cs 0, 6, .inl (d_t_1.2 1))), ((q_t_1 2), .inl (cs 0, 6, .inl (d_t_1.2 2))), ((q_t_1 3), .inl (cs 0, 6, .inl (d_t_1.2 3))), ((q_t_1 4), .inl (cs 0, 6, .inl (d_t_1.2 4))), oX1 (q_t 8) q_t_8 (rv.2.2.1), ((q_t_8 1), .inl (cs 0, 12, .inl (rv.2.2.2 1))), ((q_t_8 2), .inl (cs 0, 12, .inl (rv.2.2.2 2))), ((q_t_8 3), .inl (cs 0, 12, .inl (rv.2.2.2 3)))] := by
  refine CTi.of RX6 (by decide +kernel) rfl (Nat.le_of_ble_eq_true rfl) (fun p e s m args below meth c A Q ls M hA hR hl hP hD hS => ?_)
  obtain ⟨hx, hb, hml, hT, hown, hlk, hrt, hK, hN, hSE⟩ := id M
  replace hl : lv_has ls 2 [(0, .ref h_t), (1, .int x1)] := hl
  unfold fX6_together at hf
  refine lv_iload_n hx hb dX6_together_0 rfl (lv_at hl 1 rfl) ?_
  refine lv_iconst (v := 0) hx hb dX6_together_1 rfl ?_
  refine lv_sipush (v := 999) hx hb dX6_together_2 rfl ?_
  obtain ⟨r1, e2, hf⟩ := bind_some hf
  refine callSi (As := [.int x1, .int 0, .int 999]) (rest := []) M (mX6_isWithin l D cs sk  k x1 0 999 e2) mw_X6_121 ln_X6_isWithin ⟨rfl, rfl, Nat.le_of_ble_eq_true rfl, Nat.le_of_ble_eq_true rfl⟩ hP hD hS hA [] (by decide) rfl rfl ⟨Nat.zero_le _, Nat.zero_le _⟩ hl.1 rfl (Nat.le_of_ble_eq_true rfl) dX6_together_5 (fun H locs hP hD hS => ?_)
  replace hP : va_P D vwCl [oX6 h_t q_t (d_t.1), oX4 (q_t 0) q_t_0 (d_t_0.1), ((q_t_0 1), .inl (cs 0, 6, .inl (d_t_0.2 1))), ((q_t_0 2), .inl (cs 0, 6, .inl (d_t_0.2 2))), ((q_t_0 4), .inl (cs 0, 3, .inl (d_t_0.2 4))), ((q_t_0 5), .inl (cs 0, 3, .inl (d_t_0.2 5))), oX0 (q_t 1) q_t_1 (d_t_1.1), ((q_t_1 1), .inl (cs 0, 6, .inl (d_t_1.2 1))), ((q_t_1 2), .inl (cs 0, 6, .inl (d_t_1.2 2))), ((q_t_1 3), .inl (cs 0, 6, .inl (d_t_1.2 3))), ((q_t_1 4), .inl (cs 0, 6, .inl (d_t_1.2 4))), oX1 (q_t 8) q_t_8 (d_t_8.1), ((q_t_8 1), .inl (cs 0, 12, .inl (d_t_8.2 1))), ((q_t_8 2), .inl (cs 0, 12, .inl (d_t_8.2 2))), ((q_t_8 3), .inl (cs 0, 12, .inl (d_t_8.2 3)))] H := hP
  replace hD : va_D A [oX6 h_t q_t (d_t.1), oX4 (q_t 0) q_t_0 (d_t_0.1), ((q_t_0 1), .inl (cs 0, 6, .inl (d_t_0.2 1))), ((q_t_0 2), .inl (cs 0, 6, .inl (d_t_0.2 2))), ((q_t_0 4), .inl (cs 0, 3, .inl (d_t_0.2 4))), ((q_t_0 5), .inl (cs 0, 3, .inl (d_t_0.2 5))), oX0 (q_t 1) q_t_1 (d_t_1.1), ((q_t_1 1), .inl (cs 0, 6, .inl (d_t_1.2 1))), ((q_t_1 2), .inl (cs 0, 6, .inl (d_t_1.2 2))), ((q_t_1 3), .inl (cs 0, 6, .inl (d_t_1.2 3))), ((q_t_1 4), .inl (cs 0, 6, .inl (d_t_1.2 4))), oX1 (q_t 8) q_t_8 (d_t_8.1), ((q_t_8 1), .inl (cs 0, 12, .inl (d_t_8.2 1))), ((q_t_8 2), .inl (cs 0, 12, .inl (d_t_8.2 2))), ((q_t_8 3), .inl (cs 0, 12, .inl (d_t_8.2 3)))] := hD
  have g4 := ite_some hf
  refine lv_if_ne (tgt := 18) hx hb dX6_together_8 (by decide) (fun c3 => ?_) (fun c3 => ?_)
  · replace hf := g4.2 c3
    refine lv_aload_n hx hb dX6_together_18 rfl (lv_at hl 0 rfl) ?_
    refine lv_iload_n hx hb dX6_together_19 rfl (lv_at hl 1 rfl) ?_
    obtain ⟨r5, e6, hf⟩ := bind_some hf
    refine callVi (As := [.int x1]) (rest := []) M (mX6_isTogether l D cs sk h_t q_t q_t_0 q_t_1 q_t_8 k d_t d_t_0 d_t_1 d_t_8 x1 e6) mw_X6_207 ln_X6_isTogether ⟨rfl, rfl, Nat.le_of_ble_eq_true rfl, Nat.le_of_ble_eq_true rfl⟩ hP hD hS hA [0, 1, 2, 3, 4, 5, 6, 7, 8, 9, 10, 11, 12, 13, 14] (by decide) rfl rfl (q0 := 0) rfl rfl rfl ⟨Nat.zero_le _, Nat.zero_le _⟩ hl.1 rfl (Nat.le_of_ble_eq_true rfl) dX6_together_20 (fun H locs hP hD hS => ?_)
    replace hP : va_P D vwCl [oX6 h_t q_t (d_t.1), oX4 (q_t 0) q_t_0 (d_t_0.1), ((q_t_0 1), .inl (cs 0, 6, .inl (d_t_0.2 1))), ((q_t_0 2), .inl (cs 0, 6, .inl (d_t_0.2 2))), ((q_t_0 4), .inl (cs 0, 3, .inl (d_t_0.2 4))), ((q_t_0 5), .inl (cs 0, 3, .inl (d_t_0.2 5))), oX0 (q_t 1) q_t_1 (d_t_1.1), ((q_t_1 1), .inl (cs 0, 6, .inl (d_t_1.2 1))), ((q_t_1 2), .inl (cs 0, 6, .inl (d_t_1.2 2))), ((q_t_1 3), .inl (cs 0, 6, .inl (d_t_1.2 3))), ((q_t_1 4), .inl (cs 0, 6, .inl (d_t_1.2 4))), oX1 (q_t 8) q_t_8 (r5.2.1), ((q_t_8 1), .inl (cs 0, 12, .inl (r5.2.2 1))), ((q_t_8 2), .inl (cs 0, 12, .inl (r5.2.2 2))), ((q_t_8 3), .inl (cs 0, 12, .inl (r5.2.2 3)))] H := hP
    replace hD : va_D A [oX6 h_t q_t (d_t.1), oX4 (q_t 0) q_t_0 (d_t_0.1), ((q_t_0 1), .inl (cs 0, 6, .inl (d_t_0.2 1))), ((q_t_0 2), .inl (cs 0, 6, .inl (d_t_0.2 2))), ((q_t_0 4), .inl (cs 0, 3, .inl (d_t_0.2 4))), ((q_t_0 5), .inl (cs 0, 3, .inl (d_t_0.2 5))), oX0 (q_t 1) q_t_1 (d_t_1.1), ((q_t_1 1), .inl (cs 0, 6, .inl (d_t_1.2 1))), ((q_t_1 2), .inl (cs 0, 6, .inl (d_t_1.2 2))), ((q_t_1 3), .inl (cs 0, 6, .inl (d_t_1.2 3))), ((q_t_1 4), .inl (cs 0, 6, .inl (d_t_1.2 4))), oX1 (q_t 8) q_t_8 (r5.2.1), ((q_t_8 1), .inl (cs 0, 12, .inl (r5.2.2 1))), ((q_t_8 2), .inl (cs 0, 12, .inl (r5.2.2 2))), ((q_t_8 3), .inl (cs 0, 12, .inl (r5.2.2 3)))] := hD
    have g8 := ite_some hf
    refine lv_if_eq (tgt := 30) hx hb dX6_together_23 (by decide) (fun c7 => ?_) (fun c7 => ?_)
    · replace hf := g8.1 c7
      refine lv_iconst (v := 0) hx hb dX6_together_30 rfl ?_
      have e9 := Option.some.inj hf
      subst e9
      exact hR _ _ _ _ dX6_together_31 hP hS
    · replace hf := g8.2 c7
      refine lv_iconst (v := 1) hx hb dX6_together_26 rfl ?_
      refine lv_goto (tgt := 31) hx hb dX6_together_27 (by decide) ?_
      have e9 := Option.some.inj hf
      subst e9
      exact hR _ _ _ _ dX6_together_31 hP hS
  · replace hf := g4.1 c3
    refine lv_aload_n hx hb dX6_together_11 rfl (lv_at hl 0 rfl) ?_
    refine lv_bipush (v := (-2)) hx hb dX6_together_12 rfl ?_
    obtain ⟨r9, e10, hf⟩ := bind_some hf
    refine callVi (As := [.int (-2)]) (rest := []) M (mX6_refuseBad l D cs sk h_t q_t k d_t (-2) e10) mw_X6_96 ln_X6_refuseBad ⟨rfl, rfl, Nat.le_of_ble_eq_true rfl, Nat.le_of_ble_eq_true rfl⟩ hP hD hS hA [0] (by decide) rfl rfl (q0 := 0) rfl rfl rfl ⟨Nat.zero_le _, Nat.zero_le _⟩ hl.1 rfl (Nat.le_of_ble_eq_true rfl) dX6_together_14 (fun H locs hP hD hS => ?_)
    replace hP : va_P D vwCl [oX6 h_t q_t (r9.2.1), oX4 (q_t 0) q_t_0 (d_t_0.1), ((q_t_0 1), .inl (cs 0, 6, .inl (d_t_0.2 1))), ((q_t_0 2), .inl (cs 0, 6, .inl (d_t_0.2 2))), ((q_t_0 4), .inl (cs 0, 3, .inl (d_t_0.2 4))), ((q_t_0 5), .inl (cs 0, 3, .inl (d_t_0.2 5))), oX0 (q_t 1) q_t_1 (d_t_1.1), ((q_t_1 1), .inl (cs 0, 6, .inl (d_t_1.2 1))), ((q_t_1 2), .inl (cs 0, 6, .inl (d_t_1.2 2))), ((q_t_1 3), .inl (cs 0, 6, .inl (d_t_1.2 3))), ((q_t_1 4), .inl (cs 0, 6, .inl (d_t_1.2 4))), oX1 (q_t 8) q_t_8 (d_t_8.1), ((q_t_8 1), .inl (cs 0, 12, .inl (d_t_8.2 1))), ((q_t_8 2), .inl (cs 0, 12, .inl (d_t_8.2 2))), ((q_t_8 3), .inl (cs 0, 12, .inl (d_t_8.2 3)))] H := hP
    replace hD : va_D A [oX6 h_t q_t (r9.2.1), oX4 (q_t 0) q_t_0 (d_t_0.1), ((q_t_0 1), .inl (cs 0, 6, .inl (d_t_0.2 1))), ((q_t_0 2), .inl (cs 0, 6, .inl (d_t_0.2 2))), ((q_t_0 4), .inl (cs 0, 3, .inl (d_t_0.2 4))), ((q_t_0 5), .inl (cs 0, 3, .inl (d_t_0.2 5))), oX0 (q_t 1) q_t_1 (d_t_1.1), ((q_t_1 1), .inl (cs 0, 6, .inl (d_t_1.2 1))), ((q_t_1 2), .inl (cs 0, 6, .inl (d_t_1.2 2))), ((q_t_1 3), .inl (cs 0, 6, .inl (d_t_1.2 3))), ((q_t_1 4), .inl (cs 0, 6, .inl (d_t_1.2 4))), oX1 (q_t 8) q_t_8 (d_t_8.1), ((q_t_8 1), .inl (cs 0, 12, .inl (d_t_8.2 1))), ((q_t_8 2), .inl (cs 0, 12, .inl (d_t_8.2 2))), ((q_t_8 3), .inl (cs 0, 12, .inl (d_t_8.2 3)))] := hD
    have e9 := Option.some.inj hf
    subst e9
    exact hR _ _ _ _ dX6_together_17 hP hS
abbrev rm_X6_everyPlayer : Room := { frames := 0, cells := 0, slots := 0, locals := 0 }
def fX6_everyPlayer (k : Nat) (d_t : Dat) (d_t_1 : Dat) : Option (Int32) :=
  some ((1 <<< ((d_t_1.1 0) &&& 31)) - 1)
set_option maxHeartbeats 4000000 in
set_option maxRecDepth 100000 in
theorem mX6_everyPlayer (l : Launch) (D : va_G) (cs : Nat → ClassId) (sk : Nat → Nat) (h_t : Nat) (q_t : Nat → Nat) (q_t_1 : Nat → Nat) (k : Nat) (d_t : Dat) (d_t_1 : Dat) {rv : Int32} (hf : fX6_everyPlayer k d_t d_t_1 = some rv) : CTi l yX6_everyPlayer (Cond.code yX6_everyPlayer cX6_everyPlayer 1 (some .int) :: gtbl) rm_X6_everyPlayer D cs sk [.ref h_t] [oX6 h_t q_t (d_t.1), oX0 (q_t 1) q_t_1 (d_t_1.1)] (rv) [oX6 h_t q_t (d_t.1), oX0 (q_t 1) q_t_1 (d_t_1.1)] := by
  refine CTi.of RX6 (by decide +kernel) rfl (Nat.le_of_ble_eq_true rfl) (fun p e s m args below meth c A Q ls M hA hR hl hP hD hS => ?_)
  obtain ⟨hx, hb, hml, hT, hown, hlk, hrt, hK, hN, hSE⟩ := id M
  replace hl : lv_has ls 1 [(0, .ref h_t)] := hl
  unfold fX6_everyPlayer at hf
  refine lv_iconst (v := 1) hx hb dX6_everyPlayer_0 rfl ?_
  refine lv_aload_n hx hb dX6_everyPlayer_1 rfl (lv_at hl 0 rfl) ?_
  refine va_get (D := D) (ci := 6) (v := .ref (q_t 1)) (C := RX6) (T := TX6) (N := 18) hx hb hT iX6 hown hK hP 0 rfl rfl 1 (by decide) (hT _ fw_X6_19) (fun _ h9 => h9) rfl dX6_everyPlayer_2 ?_
  refine va_get (D := D) (ci := 0) (v := .int (d_t_1.1 0)) (C := RX0) (T := TX0) (N := 10) hx hb hT iX0 hown hK hP 1 rfl rfl 0 (by decide) (hT _ fw_X6_144) (fun _ h9 => h9) rfl dX6_everyPlayer_5 ?_
  refine lv_ishl hx hb dX6_everyPlayer_8 ?_
  refine lv_iconst (v := 1) hx hb dX6_everyPlayer_9 rfl ?_
  refine lv_isub hx hb dX6_everyPlayer_10 ?_
  have e9 := Option.some.inj hf
  subst e9
  exact hR _ _ _ _ dX6_everyPlayer_11 hP hS
abbrev rm_X6_tuned : Room := { frames := 5, cells := 0, slots := 0, locals := 126 }
def fX6_tuned (k : Nat) (d_t : Dat) (d_t_0 : Dat) (d_t_1 : Dat) (d_t_8 : Dat) (d_t_9 : Dat) (x1 : Int32) (x2 : Int32) : Option (Int32 × Dat × Dat × Dat) :=
  (fX6_isWithin k x1 0 999).bind (fun (r1 : Int32) => (if r1 = 0 then (fX6_refuseBad k d_t (-2000)).bind (fun (r41 : Int32 × Dat) => some ((r41.1), (r41.2.1, d_t.2), d_t_8, d_t_9)) else (if x2 = (-1) then (fX5_weigh k d_t_9 d_t_0 d_t_1 d_t_8 x1).bind (fun (r7 : Dat × Dat) => (fX6_everyPlayer k d_t d_t_1).bind (fun (r9 : Int32) => (fX5_tunes k (d_t_9.1, (va_up d_t_9.2 0 (r7.1.2 0))) d_t_1 r9).bind (fun (r11 : Int32 × Dat) => (if x2 = (-1) then (if (r11.1) = 0 then some (0, d_t, (r7.2.1, (va_up (va_up (va_up d_t_8.2 1 (r7.2.2 1)) 2 (r7.2.2 2)) 3 (r7.2.2 3))), (d_t_9.1, (va_up (va_up d_t_9.2 0 (r7.1.2 0)) 1 (r11.2.2 1)))) else some (1, d_t, (r7.2.1, (va_up (va_up (va_up d_t_8.2 1 (r7.2.2 1)) 2 (r7.2.2 2)) 3 (r7.2.2 3))), (d_t_9.1, (va_up (va_up d_t_9.2 0 (r7.1.2 0)) 1 (r11.2.2 1))))) else (if (r11.1) = 0 then some ((-1000), d_t, (r7.2.1, (va_up (va_up (va_up d_t_8.2 1 (r7.2.2 1)) 2 (r7.2.2 2)) 3 (r7.2.2 3))), (d_t_9.1, (va_up (va_up d_t_9.2 0 (r7.1.2 0)) 1 (r11.2.2 1)))) else (fX5_leastOffset k (d_t_9.1, (va_up (va_up d_t_9.2 0 (r7.1.2 0)) 1 (r11.2.2 1))) d_t_1 x2).bind (fun (r17 : Int32) => some (r17, d_t, (r7.2.1, (va_up (va_up (va_up d_t_8.2 1 (r7.2.2 1)) 2 (r7.2.2 2)) 3 (r7.2.2 3))), (d_t_9.1, (va_up (va_up d_t_9.2 0 (r7.1.2 0)) 1 (r11.2.2 1)))))))))) else (fX6_hasPlayer k d_t d_t_1 x2).bind (fun (r21 : Int32) => (if r21 = 0 then (fX6_refuseBad k d_t (-2000)).bind (fun (r39 : Int32 × Dat) => some ((r39.1), (r39.2.1, d_t.2), d_t_8, d_t_9)) else (fX5_weigh k d_t_9 d_t_0 d_t_1 d_t_8 x1).bind (fun (r25 : Dat × Dat) => (fX6_everyPlayer k d_t d_t_1).bind (fun (r27 : Int32) => (fX5_tunes k (d_t_9.1, (va_up d_t_9.2 0 (r25.1.2 0))) d_t_1 r27).bind (fun (r29 : Int32 × Dat) => (if x2 = (-1) then (if (r29.1) = 0 then some (0, d_t, (r25.2.1, (va_up (va_up (va_up d_t_8.2 1 (r25.2.2 1)) 2 (r25.2.2 2)) 3 (r25.2.2 3))), (d_t_9.1, (va_up (va_up d_t_9.2 0 (r25.1.2 0)) 1 (r29.2.2 1)))) else some (1, d_t, (r25.2.1, (va_up (va_up (va_up d_t_8.2 1 (r25.2.2 1)) 2 (r25.2.2 2)) 3 (r25.2.2 3))), (d_t_9.1, (va_up (va_up d_t_9.2 0 (r25.1.2 0)) 1 (r29.2.2 1))))) else (if (r29.1) = 0 then some ((-1000), d_t, (r25.2.1, (va_up (va_up (va_up d_t_8.2 1 (r25.2.2 1)) 2 (r25.2.2 2)) 3 (r25.2.2 3))), (d_t_9.1, (va_up (va_up d_t_9.2 0 (r25.1.2 0)) 1 (r29.2.2 1)))) else (fX5_leastOffset k (d_t_9.1, (va_up (va_up d_t_9.2 0 (r25.1.2 0)) 1 (r29.2.2 1))) d_t_1 x2).bind (fun (r35 : Int32) => some (r35, d_t, (r25.2.1, (va_up (va_up (va_up d_t_8.2 1 (r25.2.2 1)) 2 (r25.2.2 2)) 3 (r25.2.2 3))), (d_t_9.1, (va_up (va_up d_t_9.2 0 (r25.1.2 0)) 1 (r29.2.2 1)))))))))))))))
set_option maxHeartbeats 4000000 in
set_option maxRecDepth 100000 in
theorem mX6_tuned (l : Launch) (D : va_G) (cs : Nat → ClassId) (sk : Nat → Nat) (h_t : Nat) (q_t : Nat → Nat) (q_t_0 : Nat → Nat) (q_t_1 : Nat → Nat) (q_t_8 : Nat → Nat) (q_t_9 : Nat → Nat) (k : Nat) (d_t : Dat) (d_t_0 : Dat) (d_t_1 : Dat) (d_t_8 : Dat) (d_t_9 : Dat) (x1 : Int32) (x2 : Int32) {rv : Int32 × Dat × Dat × Dat} (hf : fX6_tuned k d_t d_t_0 d_t_1 d_t_8 d_t_9 x1 x2 = some rv) : CTi l yX6_tuned (Cond.code yX6_tuned cX6_tuned 4 (some .int) :: gtbl) rm_X6_tuned D cs sk [.ref h_t, .int x1, .int x2] [oX6 h_t q_t (d_t.1), oX4 (q_t 0) q_t_0 (d_t_0.1), ((q_t_0 1), .inl (cs 0, 6, .inl (d_t_0.2 1))), ((q_t_0 2), .inl (cs 0, 6, .inl (d_t_0.2 2))), ((q_t_0 4), .inl (cs 0, 3, .inl (d_t_0.2 4))), ((q_t_0 5), .inl (cs 0, 3, .inl (d_t_0.2 5))), oX0 (q_t 1) q_t_1 (d_t_1.1), ((q_t_1 1), .inl (cs 0, 6, .inl (d_t_1.2 1))), ((q_t_1 2), .inl (cs 0, 6, .inl (d_t_1.2 2))), ((q_t_1 3), .inl (cs 0, 6, .inl (d_t_1.2 3))), oX1 (q_t 8) q_t_8 (d_t_8.1), ((q_t_8 1), .inl (cs 0, 12, .inl (d_t_8.2 1))), ((q_t_8 2), .inl (cs 0, 12, .inl (d_t_8.2 2))), ((q_t_8 3), .inl (cs 0, 12, .inl (d_t_8.2 3))), oX5 (q_t 9) q_t_9 (d_t_9.1), ((q_t_9 0), .inl (cs 0, 36, .inl (d_t_9.2 0))), ((q_t_9 1), .inl (cs 0, 6, .inl (d_t_9.2 1)))] (rv.1) [oX6 h_t q_t (rv.2.1.1), oX4 (q_t 0) q_t_0 (d_t_0.1), ((q_t_0 1), .inl (cs 0, 6, .inl (d_t_0.2 1))), ((q_t_0 2), .inl (cs 0, 6, .inl (d_t_0.2 2))), ((q_t_0 4), .inl (cs 0, 3, .inl (d_t_0.2 4))), ((q_t_0 5), .inl (cs 0, 3, .inl (d_t_0.2 5))), oX0 (q_t 1) q_t_1 (d_t_1.1), ((q_t_1 1), .inl (cs 0, 6, .inl (d_t_1.2 1))), ((q_t_1 2), .inl (cs 0, 6, .inl (d_t_1.2 2))), ((q_t_1 3), .inl (cs 0, 6, .inl (d_t_1.2 3))), oX1 (q_t 8) q_t_8 (rv.2.2.1.1), ((q_t_8 1), .inl (cs 0, 12, .inl (rv.2.2.1.2 1))), ((q_t_8 2), .inl (cs 0, 12, .inl (rv.2.2.1.2 2))), ((q_t_8 3), .inl (cs 0, 12, .inl (rv.2.2.1.2 3))), oX5 (q_t 9) q_t_9 (d_t_9.1), ((q_t_9 0), .inl (cs 0, 36, .inl (rv.2.2.2.2 0))), ((q_t_9 1), .inl (cs 0, 6, .inl (rv.2.2.2.2 1)))] := by
  refine CTi.of RX6 (by decide +kernel) rfl (Nat.le_of_ble_eq_true rfl) (fun p e s m args below meth c A Q ls M hA hR hl hP hD hS => ?_)
  obtain ⟨hx, hb, hml, hT, hown, hlk, hrt, hK, hN, hSE⟩ := id M
  replace hl : lv_has ls 4 [(0, .ref h_t), (1, .int x1), (2, .int x2)] := hl
  unfold fX6_tuned at hf
  refine lv_iload_n hx hb dX6_tuned_0 rfl (lv_at hl 1 rfl) ?_
  refine lv_iconst (v := 0) hx hb dX6_tuned_1 rfl ?_
  refine lv_sipush (v := 999) hx hb dX6_tuned_2 rfl ?_
  obtain ⟨r1, e2, hf⟩ := bind_some hf
  refine callSi (As := [.int x1, .int 0, .int 999]) (rest := []) M (mX6_isWithin l D cs sk  k x1 0 999 e2) mw_X6_121 ln_X6_isWithin ⟨rfl, rfl, Nat.le_of_ble_eq_true rfl, Nat.le_of_ble_eq_true rfl⟩ hP hD hS hA [] (by decide) rfl rfl ⟨Nat.zero_le _, Nat.zero_le _⟩ hl.1 rfl (Nat.le_of_ble_eq_true rfl) dX6_tuned_5 (fun H locs hP hD hS => ?_)
  replace hP : va_P D vwCl [oX6 h_t q_t (d_t.1), oX4 (q_t 0) q_t_0 (d_t_0.1), ((q_t_0 1), .inl (cs 0, 6, .inl (d_t_0.2 1))), ((q_t_0 2), .inl (cs 0, 6, .inl (d_t_0.2 2))), ((q_t_0 4), .inl (cs 0, 3, .inl (d_t_0.2 4))), ((q_t_0 5), .inl (cs 0, 3, .inl (d_t_0.2 5))), oX0 (q_t 1) q_t_1 (d_t_1.1), ((q_t_1 1), .inl (cs 0, 6, .inl (d_t_1.2 1))), ((q_t_1 2), .inl (cs 0, 6, .inl (d_t_1.2 2))), ((q_t_1 3), .inl (cs 0, 6, .inl (d_t_1.2 3))), oX1 (q_t 8) q_t_8 (d_t_8.1), ((q_t_8 1), .inl (cs 0, 12, .inl (d_t_8.2 1))), ((q_t_8 2), .inl (cs 0, 12, .inl (d_t_8.2 2))), ((q_t_8 3), .inl (cs 0, 12, .inl (d_t_8.2 3))), oX5 (q_t 9) q_t_9 (d_t_9.1), ((q_t_9 0), .inl (cs 0, 36, .inl (d_t_9.2 0))), ((q_t_9 1), .inl (cs 0, 6, .inl (d_t_9.2 1)))] H := hP
  replace hD : va_D A [oX6 h_t q_t (d_t.1), oX4 (q_t 0) q_t_0 (d_t_0.1), ((q_t_0 1), .inl (cs 0, 6, .inl (d_t_0.2 1))), ((q_t_0 2), .inl (cs 0, 6, .inl (d_t_0.2 2))), ((q_t_0 4), .inl (cs 0, 3, .inl (d_t_0.2 4))), ((q_t_0 5), .inl (cs 0, 3, .inl (d_t_0.2 5))), oX0 (q_t 1) q_t_1 (d_t_1.1), ((q_t_1 1), .inl (cs 0, 6, .inl (d_t_1.2 1))), ((q_t_1 2), .inl (cs 0, 6, .inl (d_t_1.2 2))), ((q_t_1 3), .inl (cs 0, 6, .inl (d_t_1.2 3))), oX1 (q_t 8) q_t_8 (d_t_8.1), ((q_t_8 1), .inl (cs 0, 12, .inl (d_t_8.2 1))), ((q_t_8 2), .inl (cs 0, 12, .inl (d_t_8.2 2))), ((q_t_8 3), .inl (cs 0, 12, .inl (d_t_8.2 3))), oX5 (q_t 9) q_t_9 (d_t_9.1), ((q_t_9 0), .inl (cs 0, 36, .inl (d_t_9.2 0))), ((q_t_9 1), .inl (cs 0, 6, .inl (d_t_9.2 1)))] := hD
  have g4 := ite_some hf
  refine lv_if_ne (tgt := 19) hx hb dX6_tuned_8 (by decide) (fun c3 => ?_) (fun c3 => ?_)
  · replace hf := g4.2 c3
    refine lv_iload_n hx hb dX6_tuned_19 rfl (lv_at hl 2 rfl) ?_
    refine lv_iconst (v := (-1)) hx hb dX6_tuned_20 rfl ?_
    have g6 := ite_some hf
    refine lv_icmp_eq (tgt := 40) hx hb dX6_tuned_21 (by decide) (fun c5 => ?_) (fun c5 => ?_)
    · replace hf := g6.1 c5
      refine lv_aload_n hx hb dX6_tuned_40 rfl (lv_at hl 0 rfl) ?_
      refine va_get (D := D) (ci := 6) (v := .ref (q_t 9)) (C := RX6) (T := TX6) (N := 18) hx hb hT iX6 hown hK hP 0 rfl rfl 9 (by decide) (hT _ fw_X6_54) (fun _ h9 => h9) rfl dX6_tuned_41 ?_
      refine lv_aload_n hx hb dX6_tuned_44 rfl (lv_at hl 0 rfl) ?_
      refine va_get (D := D) (ci := 6) (v := .ref (q_t 0)) (C := RX6) (T := TX6) (N := 18) hx hb hT iX6 hown hK hP 0 rfl rfl 0 (by decide) (hT _ fw_X6_10) (fun _ h9 => h9) rfl dX6_tuned_45 ?_
      refine lv_aload_n hx hb dX6_tuned_48 rfl (lv_at hl 0 rfl) ?_
      refine va_get (D := D) (ci := 6) (v := .ref (q_t 1)) (C := RX6) (T := TX6) (N := 18) hx hb hT iX6 hown hK hP 0 rfl rfl 1 (by decide) (hT _ fw_X6_19) (fun _ h9 => h9) rfl dX6_tuned_49 ?_
      refine lv_aload_n hx hb dX6_tuned_52 rfl (lv_at hl 0 rfl) ?_
      refine va_get (D := D) (ci := 6) (v := .ref (q_t 8)) (C := RX6) (T := TX6) (N := 18) hx hb hT iX6 hown hK hP 0 rfl rfl 8 (by decide) (hT _ fw_X6_47) (fun _ h9 => h9) rfl dX6_tuned_53 ?_
      refine lv_iload_n hx hb dX6_tuned_56 rfl (lv_at hl 1 rfl) ?_
      obtain ⟨r7, e8, hf⟩ := bind_some hf
      refine callVv (As := [.ref (q_t 0), .ref (q_t 1), .ref (q_t 8), .int x1]) (rest := []) M (mX5_weigh l D cs sk (q_t 9) (q_t 0) (q_t 1) (q_t 8) q_t_9 q_t_0 q_t_1 q_t_8 k d_t_9 d_t_0 d_t_1 d_t_8 x1 e8) mw_X6_210 ln_X5_weigh ⟨rfl, rfl, Nat.le_of_ble_eq_true rfl, Nat.le_of_ble_eq_true rfl⟩ hP hD hS hA [14, 15, 1, 2, 3, 4, 5, 6, 7, 8, 9, 10, 11, 12, 13] (by decide) rfl rfl (q0 := 0) rfl rfl rfl ⟨Nat.zero_le _, Nat.zero_le _⟩ hl.1 rfl (Nat.le_of_ble_eq_true rfl) dX6_tuned_57 (fun H locs hP hD hS => ?_)
      replace hP : va_P D vwCl [oX6 h_t q_t (d_t.1), oX4 (q_t 0) q_t_0 (d_t_0.1), ((q_t_0 1), .inl (cs 0, 6, .inl (d_t_0.2 1))), ((q_t_0 2), .inl (cs 0, 6, .inl (d_t_0.2 2))), ((q_t_0 4), .inl (cs 0, 3, .inl (d_t_0.2 4))), ((q_t_0 5), .inl (cs 0, 3, .inl (d_t_0.2 5))), oX0 (q_t 1) q_t_1 (d_t_1.1), ((q_t_1 1), .inl (cs 0, 6, .inl (d_t_1.2 1))), ((q_t_1 2), .inl (cs 0, 6, .inl (d_t_1.2 2))), ((q_t_1 3), .inl (cs 0, 6, .inl (d_t_1.2 3))), oX1 (q_t 8) q_t_8 (r7.2.1), ((q_t_8 1), .inl (cs 0, 12, .inl (r7.2.2 1))), ((q_t_8 2), .inl (cs 0, 12, .inl (r7.2.2 2))), ((q_t_8 3), .inl (cs 0, 12, .inl (r7.2.2 3))), oX5 (q_t 9) q_t_9 (d_t_9.1), ((q_t_9 0), .inl (cs 0, 36, .inl (r7.1.2 0))), ((q_t_9 1), .inl (cs 0, 6, .inl (d_t_9.2 1)))] H := hP
      replace hD : va_D A [oX6 h_t q_t (d_t.1), oX4 (q_t 0) q_t_0 (d_t_0.1), ((q_t_0 1), .inl (cs 0, 6, .inl (d_t_0.2 1))), ((q_t_0 2), .inl (cs 0, 6, .inl (d_t_0.2 2))), ((q_t_0 4), .inl (cs 0, 3, .inl (d_t_0.2 4))), ((q_t_0 5), .inl (cs 0, 3, .inl (d_t_0.2 5))), oX0 (q_t 1) q_t_1 (d_t_1.1), ((q_t_1 1), .inl (cs 0, 6, .inl (d_t_1.2 1))), ((q_t_1 2), .inl (cs 0, 6, .inl (d_t_1.2 2))), ((q_t_1 3), .inl (cs 0, 6, .inl (d_t_1.2 3))), oX1 (q_t 8) q_t_8 (r7.2.1), ((q_t_8 1), .inl (cs 0, 12, .inl (r7.2.2 1))), ((q_t_8 2), .inl (cs 0, 12, .inl (r7.2.2 2))), ((q_t_8 3), .inl (cs 0, 12, .inl (r7.2.2 3))), oX5 (q_t 9) q_t_9 (d_t_9.1), ((q_t_9 0), .inl (cs 0, 36, .inl (r7.1.2 0))), ((q_t_9 1), .inl (cs 0, 6, .inl (d_t_9.2 1)))] := hD
      refine lv_aload_n hx hb dX6_tuned_60 rfl (lv_at hl 0 rfl) ?_
      refine va_get (D := D) (ci := 6) (v := .ref (q_t 9)) (C := RX6) (T := TX6) (N := 18) hx hb hT iX6 hown hK hP 0 rfl rfl 9 (by decide) (hT _ fw_X6_54) (fun _ h9 => h9) rfl dX6_tuned_61 ?_
      refine lv_aload_n hx hb dX6_tuned_64 rfl (lv_at hl 0 rfl) ?_
      refine va_get (D := D) (ci := 6) (v := .ref (q_t 1)) (C := RX6) (T := TX6) (N := 18) hx hb hT iX6 hown hK hP 0 rfl rfl 1 (by decide) (hT _ fw_X6_19) (fun _ h9 => h9) rfl dX6_tuned_65 ?_
      refine lv_aload_n hx hb dX6_tuned_68 rfl (lv_at hl 0 rfl) ?_
      obtain ⟨r9, e10, hf⟩ := bind_some hf
      refine callVi (As := []) (rest := [.ref (q_t 1), .ref (q_t 9)]) M (mX6_everyPlayer l D cs sk h_t q_t q_t_1 k d_t d_t_1 e10) mw_X6_214 ln_X6_everyPlayer ⟨rfl, rfl, Nat.le_of_ble_eq_true rfl, Nat.le_of_ble_eq_true rfl⟩ hP hD hS hA [0, 6] (by decide) rfl rfl (q0 := 0) rfl rfl rfl ⟨Nat.zero_le _, Nat.zero_le _⟩ hl.1 rfl (Nat.le_of_ble_eq_true rfl) dX6_tuned_69 (fun H locs hP hD hS => ?_)
      replace hP : va_P D vwCl [oX6 h_t q_t (d_t.1), oX4 (q_t 0) q_t_0 (d_t_0.1), ((q_t_0 1), .inl (cs 0, 6, .inl (d_t_0.2 1))), ((q_t_0 2), .inl (cs 0, 6, .inl (d_t_0.2 2))), ((q_t_0 4), .inl (cs 0, 3, .inl (d_t_0.2 4))), ((q_t_0 5), .inl (cs 0, 3, .inl (d_t_0.2 5))), oX0 (q_t 1) q_t_1 (d_t_1.1), ((q_t_1 1), .inl (cs 0, 6, .inl (d_t_1.2 1))), ((q_t_1 2), .inl (cs 0, 6, .inl (d_t_1.2 2))), ((q_t_1 3), .inl (cs 0, 6, .inl (d_t_1.2 3))), oX1 (q_t 8) q_t_8 (r7.2.1), ((q_t_8 1), .inl (cs 0, 12, .inl (r7.2.2 1))), ((q_t_8 2), .inl (cs 0, 12, .inl (r7.2.2 2))), ((q_t_8 3), .inl (cs 0, 12, .inl (r7.2.2 3))), oX5 (q_t 9) q_t_9 (d_t_9.1), ((q_t_9 0), .inl (cs 0, 36, .inl (r7.1.2 0))), ((q_t_9 1), .inl (cs 0, 6, .inl (d_t_9.2 1)))] H := hP
      replace hD : va_D A [oX6 h_t q_t (d_t.1), oX4 (q_t 0) q_t_0 (d_t_0.1), ((q_t_0 1), .inl (cs 0, 6, .inl (d_t_0.2 1))), ((q_t_0 2), .inl (cs 0, 6, .inl (d_t_0.2 2))), ((q_t_0 4), .inl (cs 0, 3, .inl (d_t_0.2 4))), ((q_t_0 5), .inl (cs 0, 3, .inl (d_t_0.2 5))), oX0 (q_t 1) q_t_1 (d_t_1.1), ((q_t_1 1), .inl (cs 0, 6, .inl (d_t_1.2 1))), ((q_t_1 2), .inl (cs 0, 6, .inl (d_t_1.2 2))), ((q_t_1 3), .inl (cs 0, 6, .inl (d_t_1.2 3))), oX1 (q_t 8) q_t_8 (r7.2.1), ((q_t_8 1), .inl (cs 0, 12, .inl (r7.2.2 1))), ((q_t_8 2), .inl (cs 0, 12, .inl (r7.2.2 2))), ((q_t_8 3), .inl (cs 0, 12, .inl (r7.2.2 3))), oX5 (q_t 9) q_t_9 (d_t_9.1), ((q_t_9 0), .inl (cs 0, 36, .inl (r7.1.2 0))), ((q_t_9 1), .inl (cs 0, 6, .inl (d_t_9.2 1)))] := hD
      obtain ⟨r11, e12, hf⟩ := bind_some hf
      refine callVi (As := [.ref (q_t 1), .int r9]) (rest := []) M (mX5_tunes l D cs sk (q_t 9) (q_t 1) q_t_9 q_t_1 k (d_t_9.1, (va_up d_t_9.2 0 (r7.1.2 0))) d_t_1 r9 e12) mw_X6_217 ln_X5_tunes ⟨rfl, rfl, Nat.le_of_ble_eq_true rfl, Nat.le_of_ble_eq_true rfl⟩ hP hD hS hA [14, 15, 16, 6, 7] (by decide) rfl rfl (q0 := 0) rfl rfl rfl ⟨Nat.zero_le _, Nat.zero_le _⟩ hl.1 rfl (Nat.le_of_ble_eq_true rfl) dX6_tuned_72 (fun H locs hP hD hS => ?_)
      replace hP : va_P D vwCl [oX6 h_t q_t (d_t.1), oX4 (q_t 0) q_t_0 (d_t_0.1), ((q_t_0 1), .inl (cs 0, 6, .inl (d_t_0.2 1))), ((q_t_0 2), .inl (cs 0, 6, .inl (d_t_0.2 2))), ((q_t_0 4), .inl (cs 0, 3, .inl (d_t_0.2 4))), ((q_t_0 5), .inl (cs 0, 3, .inl (d_t_0.2 5))), oX0 (q_t 1) q_t_1 (d_t_1.1), ((q_t_1 1), .inl (cs 0, 6, .inl (d_t_1.2 1))), ((q_t_1 2), .inl (cs 0, 6, .inl (d_t_1.2 2))), ((q_t_1 3), .inl (cs 0, 6, .inl (d_t_1.2 3))), oX1 (q_t 8) q_t_8 (r7.2.1), ((q_t_8 1), .inl (cs 0, 12, .inl (r7.2.2 1))), ((q_t_8 2), .inl (cs 0, 12, .inl (r7.2.2 2))), ((q_t_8 3), .inl (cs 0, 12, .inl (r7.2.2 3))), oX5 (q_t 9) q_t_9 (d_t_9.1), ((q_t_9 0), .inl (cs 0, 36, .inl (r7.1.2 0))), ((q_t_9 1), .inl (cs 0, 6, .inl (r11.2.2 1)))] H := hP
      replace hD : va_D A [oX6 h_t q_t (d_t.1), oX4 (q_t 0) q_t_0 (d_t_0.1), ((q_t_0 1), .inl (cs 0, 6, .inl (d_t_0.2 1))), ((q_t_0 2), .inl (cs 0, 6, .inl (d_t_0.2 2))), ((q_t_0 4), .inl (cs 0, 3, .inl (d_t_0.2 4))), ((q_t_0 5), .inl (cs 0, 3, .inl (d_t_0.2 5))), oX0 (q_t 1) q_t_1 (d_t_1.1), ((q_t_1 1), .inl (cs 0, 6, .inl (d_t_1.2 1))), ((q_t_1 2), .inl (cs 0, 6, .inl (d_t_1.2 2))), ((q_t_1 3), .inl (cs 0, 6, .inl (d_t_1.2 3))), oX1 (q_t 8) q_t_8 (r7.2.1), ((q_t_8 1), .inl (cs 0, 12, .inl (r7.2.2 1))), ((q_t_8 2), .inl (cs 0, 12, .inl (r7.2.2 2))), ((q_t_8 3), .inl (cs 0, 12, .inl (r7.2.2 3))), oX5 (q_t 9) q_t_9 (d_t_9.1), ((q_t_9 0), .inl (cs 0, 36, .inl (r7.1.2 0))), ((q_t_9 1), .inl (cs 0, 6, .inl (r11.2.2 1)))] := hD
      refine lv_istore_n (lv' := [(3, .int (r11.1)), (0, .ref h_t), (1, .int x1), (2, .int x2)]) hx hb dX6_tuned_75 rfl hl (by decide) rfl (fun ls hl => ?_)
      refine lv_iload_n hx hb dX6_tuned_76 rfl (lv_at hl 3 rfl) ?_
      refine lv_iconst (v := (-1)) hx hb dX6_tuned_77 rfl ?_
      have g14 := ite_some hf
      refine lv_icmp_ne (tgt := 91) hx hb dX6_tuned_78 (by decide) (fun c13 => ?_) (fun c13 => ?_)
      · replace hf := g14.2 c13
        refine lv_iload_n hx hb dX6_tuned_91 rfl (lv_at hl 0 rfl) ?_
        have g16 := ite_some hf
        refine lv_if_eq (tgt := 110) hx hb dX6_tuned_92 (by decide) (fun c15 => ?_) (fun c15 => ?_)
        · replace hf := g16.1 c15
          refine lv_sipush (v := (-1000)) hx hb dX6_tuned_110 rfl ?_
          have e9 := Option.some.inj hf
          subst e9
          exact hR _ _ _ _ dX6_tuned_113 hP hS
        · replace hf := g16.2 c15
          refine lv_aload_n hx hb dX6_tuned_95 rfl (lv_at hl 1 rfl) ?_
          refine va_get (D := D) (ci := 6) (v := .ref (q_t 9)) (C := RX6) (T := TX6) (N := 18) hx hb hT iX6 hown hK hP 0 rfl rfl 9 (by decide) (hT _ fw_X6_54) (fun _ h9 => h9) rfl dX6_tuned_96 ?_
          refine lv_aload_n hx hb dX6_tuned_99 rfl (lv_at hl 1 rfl) ?_
          refine va_get (D := D) (ci := 6) (v := .ref (q_t 1)) (C := RX6) (T := TX6) (N := 18) hx hb hT iX6 hown hK hP 0 rfl rfl 1 (by decide) (hT _ fw_X6_19) (fun _ h9 => h9) rfl dX6_tuned_100 ?_
          refine lv_iload_n hx hb dX6_tuned_103 rfl (lv_at hl 3 rfl) ?_
          obtain ⟨r17, e18, hf⟩ := bind_some hf
          refine callVi (As := [.ref (q_t 1), .int x2]) (rest := []) M (mX5_leastOffset l D cs sk (q_t 9) (q_t 1) q_t_9 q_t_1 k (d_t_9.1, (va_up (va_up d_t_9.2 0 (r7.1.2 0)) 1 (r11.2.2 1))) d_t_1 x2 e18) mw_X6_221 ln_X5_leastOffset ⟨rfl, rfl, Nat.le_of_ble_eq_true rfl, Nat.le_of_ble_eq_true rfl⟩ hP hD hS hA [14, 16, 6, 7] (by decide) rfl rfl (q0 := 0) rfl rfl rfl ⟨Nat.zero_le _, Nat.zero_le _⟩ hl.1 rfl (Nat.le_of_ble_eq_true rfl) dX6_tuned_104 (fun H locs hP hD hS => ?_)
          replace hP : va_P D vwCl [oX6 h_t q_t (d_t.1), oX4 (q_t 0) q_t_0 (d_t_0.1), ((q_t_0 1), .inl (cs 0, 6, .inl (d_t_0.2 1))), ((q_t_0 2), .inl (cs 0, 6, .inl (d_t_0.2 2))), ((q_t_0 4), .inl (cs 0, 3, .inl (d_t_0.2 4))), ((q_t_0 5), .inl (cs 0, 3, .inl (d_t_0.2 5))), oX0 (q_t 1) q_t_1 (d_t_1.1), ((q_t_1 1), .inl (cs 0, 6, .inl (d_t_1.2 1))), ((q_t_1 2), .inl (cs 0, 6, .inl (d_t_1.2 2))), ((q_t_1 3), .inl (cs 0, 6, .inl (d_t_1.2 3))), oX1 (q_t 8) q_t_8 (r7.2.1), ((q_t_8 1), .inl (cs 0, 12, .inl (r7.2.2 1))), ((q_t_8 2), .inl (cs 0, 12, .inl (r7.2.2 2))), ((q_t_8 3), .inl (cs 0, 12, .inl (r7.2.2 3))), oX5 (q_t 9) q_t_9 (d_t_9.1), ((q_t_9 0), .inl (cs 0, 36, .inl (r7.1.2 0))), ((q_t_9 1), .inl (cs 0, 6, .inl (r11.2.2 1)))] H := hP
          replace hD : va_D A [oX6 h_t q_t (d_t.1), oX4 (q_t 0) q_t_0 (d_t_0.1), ((q_t_0 1), .inl (cs 0, 6, .inl (d_t_0.2 1))), ((q_t_0 2), .inl (cs 0, 6, .inl (d_t_0.2 2))), ((q_t_0 4), .inl (cs 0, 3, .inl (d_t_0.2 4))), ((q_t_0 5), .inl (cs 0, 3, .inl (d_t_0.2 5))), oX0 (q_t 1) q_t_1 (d_t_1.1), ((q_t_1 1), .inl (cs 0, 6, .inl (d_t_1.2 1))), ((q_t_1 2), .inl (cs 0, 6, .inl (d_t_1.2 2))), ((q_t_1 3), .inl (cs 0, 6, .inl (d_t_1.2 3))), oX1 (q_t 8) q_t_8 (r7.2.1), ((q_t_8 1), .inl (cs 0, 12, .inl (r7.2.2 1))), ((q_t_8 2), .inl (cs 0, 12, .inl (r7.2.2 2))), ((q_t_8 3), .inl (cs 0, 12, .inl (r7.2.2 3))), oX5 (q_t 9) q_t_9 (d_t_9.1), ((q_t_9 0), .inl (cs 0, 36, .inl (r7.1.2 0))), ((q_t_9 1), .inl (cs 0, 6, .inl (r11.2.2 1)))] := hD
          refine lv_goto (tgt := 113) hx hb dX6_tuned_107 (by decide) ?_
          have e9 := Option.some.inj hf
          subst e9
          exact hR _ _ _ _ dX6_tuned_113 hP hS
      · replace hf := g14.1 c13
        refine lv_iload_n hx hb dX6_tuned_81 rfl (lv_at hl 0 rfl) ?_
        have g20 := ite_some hf
        refine lv_if_eq (tgt := 89) hx hb dX6_tuned_82 (by decide) (fun c19 => ?_) (fun c19 => ?_)
        · replace hf := g20.1 c19
          refine lv_iconst (v := 0) hx hb dX6_tuned_89 rfl ?_
          have e9 := Option.some.inj hf
          subst e9
          exact hR _ _ _ _ dX6_tuned_90 hP hS
        · replace hf := g20.2 c19
          refine lv_iconst (v := 1) hx hb dX6_tuned_85 rfl ?_
          refine lv_goto (tgt := 90) hx hb dX6_tuned_86 (by decide) ?_
          have e9 := Option.some.inj hf
          subst e9
          exact hR _ _ _ _ dX6_tuned_90 hP hS
    · replace hf := g6.2 c5
      refine lv_aload_n hx hb dX6_tuned_24 rfl (lv_at hl 0 rfl) ?_
      refine lv_iload_n hx hb dX6_tuned_25 rfl (lv_at hl 2 rfl) ?_
      obtain ⟨r21, e22, hf⟩ := bind_some hf
      refine callVi (As := [.int x2]) (rest := []) M (mX6_hasPlayer l D cs sk h_t q_t q_t_1 k d_t d_t_1 x2 e22) mw_X6_151 ln_X6_hasPlayer ⟨rfl, rfl, Nat.le_of_ble_eq_true rfl, Nat.le_of_ble_eq_true rfl⟩ hP hD hS hA [0, 6] (by decide) rfl rfl (q0 := 0) rfl rfl rfl ⟨Nat.zero_le _, Nat.zero_le _⟩ hl.1 rfl (Nat.le_of_ble_eq_true rfl) dX6_tuned_26 (fun H locs hP hD hS => ?_)
      replace hP : va_P D vwCl [oX6 h_t q_t (d_t.1), oX4 (q_t 0) q_t_0 (d_t_0.1), ((q_t_0 1), .inl (cs 0, 6, .inl (d_t_0.2 1))), ((q_t_0 2), .inl (cs 0, 6, .inl (d_t_0.2 2))), ((q_t_0 4), .inl (cs 0, 3, .inl (d_t_0.2 4))), ((q_t_0 5), .inl (cs 0, 3, .inl (d_t_0.2 5))), oX0 (q_t 1) q_t_1 (d_t_1.1), ((q_t_1 1), .inl (cs 0, 6, .inl (d_t_1.2 1))), ((q_t_1 2), .inl (cs 0, 6, .inl (d_t_1.2 2))), ((q_t_1 3), .inl (cs 0, 6, .inl (d_t_1.2 3))), oX1 (q_t 8) q_t_8 (d_t_8.1), ((q_t_8 1), .inl (cs 0, 12, .inl (d_t_8.2 1))), ((q_t_8 2), .inl (cs 0, 12, .inl (d_t_8.2 2))), ((q_t_8 3), .inl (cs 0, 12, .inl (d_t_8.2 3))), oX5 (q_t 9) q_t_9 (d_t_9.1), ((q_t_9 0), .inl (cs 0, 36, .inl (d_t_9.2 0))), ((q_t_9 1), .inl (cs 0, 6, .inl (d_t_9.2 1)))] H := hP
      replace hD : va_D A [oX6 h_t q_t (d_t.1), oX4 (q_t 0) q_t_0 (d_t_0.1), ((q_t_0 1), .inl (cs 0, 6, .inl (d_t_0.2 1))), ((q_t_0 2), .inl (cs 0, 6, .inl (d_t_0.2 2))), ((q_t_0 4), .inl (cs 0, 3, .inl (d_t_0.2 4))), ((q_t_0 5), .inl (cs 0, 3, .inl (d_t_0.2 5))), oX0 (q_t 1) q_t_1 (d_t_1.1), ((q_t_1 1), .inl (cs 0, 6, .inl (d_t_1.2 1))), ((q_t_1 2), .inl (cs 0, 6, .inl (d_t_1.2 2))), ((q_t_1 3), .inl (cs 0, 6, .inl (d_t_1.2 3))), oX1 (q_t 8) q_t_8 (d_t_8.1), ((q_t_8 1), .inl (cs 0, 12, .inl (d_t_8.2 1))), ((q_t_8 2), .inl (cs 0, 12, .inl (d_t_8.2 2))), ((q_t_8 3), .inl (cs 0, 12, .inl (d_t_8.2 3))), oX5 (q_t 9) q_t_9 (d_t_9.1), ((q_t_9 0), .inl (cs 0, 36, .inl (d_t_9.2 0))), ((q_t_9 1), .inl (cs 0, 6, .inl (d_t_9.2 1)))] := hD
      have g24 := ite_some hf
      refine lv_if_ne (tgt := 40) hx hb dX6_tuned_29 (by decide) (fun c23 => ?_) (fun c23 => ?_)
      · replace hf := g24.2 c23
        refine lv_aload_n hx hb dX6_tuned_40 rfl (lv_at hl 0 rfl) ?_
        refine va_get (D := D) (ci := 6) (v := .ref (q_t 9)) (C := RX6) (T := TX6) (N := 18) hx hb hT iX6 hown hK hP 0 rfl rfl 9 (by decide) (hT _ fw_X6_54) (fun _ h9 => h9) rfl dX6_tuned_41 ?_
        refine lv_aload_n hx hb dX6_tuned_44 rfl (lv_at hl 0 rfl) ?_
        refine va_get (D := D) (ci := 6) (v := .ref (q_t 0)) (C := RX6) (T := TX6) (N := 18) hx hb hT iX6 hown hK hP 0 rfl rfl 0 (by decide) (hT _ fw_X6_10) (fun _ h9 => h9) rfl dX6_tuned_45 ?_
        refine lv_aload_n hx hb dX6_tuned_48 rfl (lv_at hl 0 rfl) ?_
        refine va_get (D := D) (ci := 6) (v := .ref (q_t 1)) (C := RX6) (T := TX6) (N := 18) hx hb hT iX6 hown hK hP 0 rfl rfl 1 (by decide) (hT _ fw_X6_19) (fun _ h9 => h9) rfl dX6_tuned_49 ?_
        refine lv_aload_n hx hb dX6_tuned_52 rfl (lv_at hl 0 rfl) ?_
        refine va_get (D := D) (ci := 6) (v := .ref (q_t 8)) (C := RX6) (T := TX6) (N := 18) hx hb hT iX6 hown hK hP 0 rfl rfl 8 (by decide) (hT _ fw_X6_47) (fun _ h9 => h9) rfl dX6_tuned_53 ?_
        refine lv_iload_n hx hb dX6_tuned_56 rfl (lv_at hl 1 rfl) ?_
        obtain ⟨r25, e26, hf⟩ := bind_some hf
        refine callVv (As := [.ref (q_t 0), .ref (q_t 1), .ref (q_t 8), .int x1]) (rest := []) M (mX5_weigh l D cs sk (q_t 9) (q_t 0) (q_t 1) (q_t 8) q_t_9 q_t_0 q_t_1 q_t_8 k d_t_9 d_t_0 d_t_1 d_t_8 x1 e26) mw_X6_210 ln_X5_weigh ⟨rfl, rfl, Nat.le_of_ble_eq_true rfl, Nat.le_of_ble_eq_true rfl⟩ hP hD hS hA [14, 15, 1, 2, 3, 4, 5, 6, 7, 8, 9, 10, 11, 12, 13] (by decide) rfl rfl (q0 := 0) rfl rfl rfl ⟨Nat.zero_le _, Nat.zero_le _⟩ hl.1 rfl (Nat.le_of_ble_eq_true rfl) dX6_tuned_57 (fun H locs hP hD hS => ?_)
        replace hP : va_P D vwCl [oX6 h_t q_t (d_t.1), oX4 (q_t 0) q_t_0 (d_t_0.1), ((q_t_0 1), .inl (cs 0, 6, .inl (d_t_0.2 1))), ((q_t_0 2), .inl (cs 0, 6, .inl (d_t_0.2 2))), ((q_t_0 4), .inl (cs 0, 3, .inl (d_t_0.2 4))), ((q_t_0 5), .inl (cs 0, 3, .inl (d_t_0.2 5))), oX0 (q_t 1) q_t_1 (d_t_1.1), ((q_t_1 1), .inl (cs 0, 6, .inl (d_t_1.2 1))), ((q_t_1 2), .inl (cs 0, 6, .inl (d_t_1.2 2))), ((q_t_1 3), .inl (cs 0, 6, .inl (d_t_1.2 3))), oX1 (q_t 8) q_t_8 (r25.2.1), ((q_t_8 1), .inl (cs 0, 12, .inl (r25.2.2 1))), ((q_t_8 2), .inl (cs 0, 12, .inl (r25.2.2 2))), ((q_t_8 3), .inl (cs 0, 12, .inl (r25.2.2 3))), oX5 (q_t 9) q_t_9 (d_t_9.1), ((q_t_9 0), .inl (cs 0, 36, .inl (r25.1.2 0))), ((q_t_9 1), .inl (cs 0, 6, .inl (d_t_9.2 1)))] H := hP
        replace hD : va_D A [oX6 h_t q_t (d_t.1), oX4 (q_t 0) q_t_0 (d_t_0.1), ((q_t_0 1), .inl (cs 0, 6, .inl (d_t_0.2 1))), ((q_t_0 2), .inl (cs 0, 6, .inl (d_t_0.2 2))), ((q_t_0 4), .inl (cs 0, 3, .inl (d_t_0.2 4))), ((q_t_0 5), .inl (cs 0, 3, .inl (d_t_0.2 5))), oX0 (q_t 1) q_t_1 (d_t_1.1), ((q_t_1 1), .inl (cs 0, 6, .inl (d_t_1.2 1))), ((q_t_1 2), .inl (cs 0, 6, .inl (d_t_1.2 2))), ((q_t_1 3), .inl (cs 0, 6, .inl (d_t_1.2 3))), oX1 (q_t 8) q_t_8 (r25.2.1), ((q_t_8 1), .inl (cs 0, 12, .inl (r25.2.2 1))), ((q_t_8 2), .inl (cs 0, 12, .inl (r25.2.2 2))), ((q_t_8 3), .inl (cs 0, 12, .inl (r25.2.2 3))), oX5 (q_t 9) q_t_9 (d_t_9.1), ((q_t_9 0), .inl (cs 0, 36, .inl (r25.1.2 0))), ((q_t_9 1), .inl (cs 0, 6, .inl (d_t_9.2 1)))] := hD
        refine lv_aload_n hx hb dX6_tuned_60 rfl (lv_at hl 0 rfl) ?_
        refine va_get (D := D) (ci := 6) (v := .ref (q_t 9)) (C := RX6) (T := TX6) (N := 18) hx hb hT iX6 hown hK hP 0 rfl rfl 9 (by decide) (hT _ fw_X6_54) (fun _ h9 => h9) rfl dX6_tuned_61 ?_
        refine lv_aload_n hx hb dX6_tuned_64 rfl (lv_at hl 0 rfl) ?_
        refine va_get (D := D) (ci := 6) (v := .ref (q_t 1)) (C := RX6) (T := TX6) (N := 18) hx hb hT iX6 hown hK hP 0 rfl rfl 1 (by decide) (hT _ fw_X6_19) (fun _ h9 => h9) rfl dX6_tuned_65 ?_
        refine lv_aload_n hx hb dX6_tuned_68 rfl (lv_at hl 0 rfl) ?_
        obtain ⟨r27, e28, hf⟩ := bind_some hf
        refine callVi (As := []) (rest := [.ref (q_t 1), .ref (q_t 9)]) M (mX6_everyPlayer l D cs sk h_t q_t q_t_1 k d_t d_t_1 e28) mw_X6_214 ln_X6_everyPlayer ⟨rfl, rfl, Nat.le_of_ble_eq_true rfl, Nat.le_of_ble_eq_true rfl⟩ hP hD hS hA [0, 6] (by decide) rfl rfl (q0 := 0) rfl rfl rfl ⟨Nat.zero_le _, Nat.zero_le _⟩ hl.1 rfl (Nat.le_of_ble_eq_true rfl) dX6_tuned_69 (fun H locs hP hD hS => ?_)
        replace hP : va_P D vwCl [oX6 h_t q_t (d_t.1), oX4 (q_t 0) q_t_0 (d_t_0.1), ((q_t_0 1), .inl (cs 0, 6, .inl (d_t_0.2 1))), ((q_t_0 2), .inl (cs 0, 6, .inl (d_t_0.2 2))), ((q_t_0 4), .inl (cs 0, 3, .inl (d_t_0.2 4))), ((q_t_0 5), .inl (cs 0, 3, .inl (d_t_0.2 5))), oX0 (q_t 1) q_t_1 (d_t_1.1), ((q_t_1 1), .inl (cs 0, 6, .inl (d_t_1.2 1))), ((q_t_1 2), .inl (cs 0, 6, .inl (d_t_1.2 2))), ((q_t_1 3), .inl (cs 0, 6, .inl (d_t_1.2 3))), oX1 (q_t 8) q_t_8 (r25.2.1), ((q_t_8 1), .inl (cs 0, 12, .inl (r25.2.2 1))), ((q_t_8 2), .inl (cs 0, 12, .inl (r25.2.2 2))), ((q_t_8 3), .inl (cs 0, 12, .inl (r25.2.2 3))), oX5 (q_t 9) q_t_9 (d_t_9.1), ((q_t_9 0), .inl (cs 0, 36, .inl (r25.1.2 0))), ((q_t_9 1), .inl (cs 0, 6, .inl (d_t_9.2 1)))] H := hP
        replace hD : va_D A [oX6 h_t q_t (d_t.1), oX4 (q_t 0) q_t_0 (d_t_0.1), ((q_t_0 1), .inl (cs 0, 6, .inl (d_t_0.2 1))), ((q_t_0 2), .inl (cs 0, 6, .inl (d_t_0.2 2))), ((q_t_0 4), .inl (cs 0, 3, .inl (d_t_0.2 4))), ((q_t_0 5), .inl (cs 0, 3, .inl (d_t_0.2 5))), oX0 (q_t 1) q_t_1 (d_t_1.1), ((q_t_1 1), .inl (cs 0, 6, .inl (d_t_1.2 1))), ((q_t_1 2), .inl (cs 0, 6, .inl (d_t_1.2 2))), ((q_t_1 3), .inl (cs 0, 6, .inl (d_t_1.2 3))), oX1 (q_t 8) q_t_8 (r25.2.1), ((q_t_8 1), .inl (cs 0, 12, .inl (r25.2.2 1))), ((q_t_8 2), .inl (cs 0, 12, .inl (r25.2.2 2))), ((q_t_8 3), .inl (cs 0, 12, .inl (r25.2.2 3))), oX5 (q_t 9) q_t_9 (d_t_9.1), ((q_t_9 0), .inl (cs 0, 36, .inl (r25.1.2 0))), ((q_t_9 1), .inl (cs 0, 6, .inl (d_t_9.2 1)))] := hD
        obtain ⟨r29, e30, hf⟩ := bind_some hf
        refine callVi (As := [.ref (q_t 1), .int r27]) (rest := []) M (mX5_tunes l D cs sk (q_t 9) (q_t 1) q_t_9 q_t_1 k (d_t_9.1, (va_up d_t_9.2 0 (r25.1.2 0))) d_t_1 r27 e30) mw_X6_217 ln_X5_tunes ⟨rfl, rfl, Nat.le_of_ble_eq_true rfl, Nat.le_of_ble_eq_true rfl⟩ hP hD hS hA [14, 15, 16, 6, 7] (by decide) rfl rfl (q0 := 0) rfl rfl rfl ⟨Nat.zero_le _, Nat.zero_le _⟩ hl.1 rfl (Nat.le_of_ble_eq_true rfl) dX6_tuned_72 (fun H locs hP hD hS => ?_)
        replace hP : va_P D vwCl [oX6 h_t q_t (d_t.1), oX4 (q_t 0) q_t_0 (d_t_0.1), ((q_t_0 1), .inl (cs 0, 6, .inl (d_t_0.2 1))), ((q_t_0 2), .inl (cs 0, 6, .inl (d_t_0.2 2))), ((q_t_0 4), .inl (cs 0, 3, .inl (d_t_0.2 4))), ((q_t_0 5), .inl (cs 0, 3, .inl (d_t_0.2 5))), oX0 (q_t 1) q_t_1 (d_t_1.1), ((q_t_1 1), .inl (cs 0, 6, .inl (d_t_1.2 1))), ((q_t_1 2), .inl (cs 0, 6, .inl (d_t_1.2 2))), ((q_t_1 3), .inl (cs 0, 6, .inl (d_t_1.2 3))), oX1 (q_t 8) q_t_8 (r25.2.1), ((q_t_8 1), .inl (cs 0, 12, .inl (r25.2.2 1))), ((q_t_8 2), .inl (cs 0, 12, .inl (r25.2.2 2))), ((q_t_8 3), .inl (cs 0, 12, .inl (r25.2.2 3))), oX5 (q_t 9) q_t_9 (d_t_9.1), ((q_t_9 0), .inl (cs 0, 36, .inl (r25.1.2 0))), ((q_t_9 1), .inl (cs 0, 6, .inl (r29.2.2 1)))] H := hP
        replace hD : va_D A [oX6 h_t q_t (d_t.1), oX4 (q_t 0) q_t_0 (d_t_0.1), ((q_t_0 1), .inl (cs 0, 6, .inl (d_t_0.2 1))), ((q_t_0 2), .inl (cs 0, 6, .inl (d_t_0.2 2))), ((q_t_0 4), .inl (cs 0, 3, .inl (d_t_0.2 4))), ((q_t_0 5), .inl (cs 0, 3, .inl (d_t_0.2 5))), oX0 (q_t 1) q_t_1 (d_t_1.1), ((q_t_1 1), .inl (cs 0, 6, .inl (d_t_1.2 1))), ((q_t_1 2), .inl (cs 0, 6, .inl (d_t_1.2 2))), ((q_t_1 3), .inl (cs 0, 6, .inl (d_t_1.2 3))), oX1 (q_t 8) q_t_8 (r25.2.1), ((q_t_8 1), .inl (cs 0, 12, .inl (r25.2.2 1))), ((q_t_8 2), .inl (cs 0, 12, .inl (r25.2.2 2))), ((q_t_8 3), .inl (cs 0, 12, .inl (r25.2.2 3))), oX5 (q_t 9) q_t_9 (d_t_9.1), ((q_t_9 0), .inl (cs 0, 36, .inl (r25.1.2 0))), ((q_t_9 1), .inl (cs 0, 6, .inl (r29.2.2 1)))] := hD
        refine lv_istore_n (lv' := [(3, .int (r29.1)), (0, .ref h_t), (1, .int x1), (2, .int x2)]) hx hb dX6_tuned_75 rfl hl (by decide) rfl (fun ls hl => ?_)
        refine lv_iload_n hx hb dX6_tuned_76 rfl (lv_at hl 3 rfl) ?_
        refine lv_iconst (v := (-1)) hx hb dX6_tuned_77 rfl ?_
        have g32 := ite_some hf
        refine lv_icmp_ne (tgt := 91) hx hb dX6_tuned_78 (by decide) (fun c31 => ?_) (fun c31 => ?_)
        · replace hf := g32.2 c31
          refine lv_iload_n hx hb dX6_tuned_91 rfl (lv_at hl 0 rfl) ?_
          have g34 := ite_some hf
          refine lv_if_eq (tgt := 110) hx hb dX6_tuned_92 (by decide) (fun c33 => ?_) (fun c33 => ?_)
          · replace hf := g34.1 c33
            refine lv_sipush (v := (-1000)) hx hb dX6_tuned_110 rfl ?_
            have e9 := Option.some.inj hf
            subst e9
            exact hR _ _ _ _ dX6_tuned_113 hP hS
          · replace hf := g34.2 c33
            refine lv_aload_n hx hb dX6_tuned_95 rfl (lv_at hl 1 rfl) ?_
            refine va_get (D := D) (ci := 6) (v := .ref (q_t 9)) (C := RX6) (T := TX6) (N := 18) hx hb hT iX6 hown hK hP 0 rfl rfl 9 (by decide) (hT _ fw_X6_54) (fun _ h9 => h9) rfl dX6_tuned_96 ?_
            refine lv_aload_n hx hb dX6_tuned_99 rfl (lv_at hl 1 rfl) ?_
            refine va_get (D := D) (ci := 6) (v := .ref (q_t 1)) (C := RX6) (T := TX6) (N := 18) hx hb hT iX6 hown hK hP 0 rfl rfl 1 (by decide) (hT _ fw_X6_19) (fun _ h9 => h9) rfl dX6_tuned_100 ?_
            refine lv_iload_n hx hb dX6_tuned_103 rfl (lv_at hl 3 rfl) ?_
            obtain ⟨r35, e36, hf⟩ := bind_some hf
            refine callVi (As := [.ref (q_t 1), .int x2]) (rest := []) M (mX5_leastOffset l D cs sk (q_t 9) (q_t 1) q_t_9 q_t_1 k (d_t_9.1, (va_up (va_up d_t_9.2 0 (r25.1.2 0)) 1 (r29.2.2 1))) d_t_1 x2 e36) mw_X6_221 ln_X5_leastOffset ⟨rfl, rfl, Nat.le_of_ble_eq_true rfl, Nat.le_of_ble_eq_true rfl⟩ hP hD hS hA [14, 16, 6, 7] (by decide) rfl rfl (q0 := 0) rfl rfl rfl ⟨Nat.zero_le _, Nat.zero_le _⟩ hl.1 rfl (Nat.le_of_ble_eq_true rfl) dX6_tuned_104 (fun H locs hP hD hS => ?_)
            replace hP : va_P D vwCl [oX6 h_t q_t (d_t.1), oX4 (q_t 0) q_t_0 (d_t_0.1), ((q_t_0 1), .inl (cs 0, 6, .inl (d_t_0.2 1))), ((q_t_0 2), .inl (cs 0, 6, .inl (d_t_0.2 2))), ((q_t_0 4), .inl (cs 0, 3, .inl (d_t_0.2 4))), ((q_t_0 5), .inl (cs 0, 3, .inl (d_t_0.2 5))), oX0 (q_t 1) q_t_1 (d_t_1.1), ((q_t_1 1), .inl (cs 0, 6, .inl (d_t_1.2 1))), ((q_t_1 2), .inl (cs 0, 6, .inl (d_t_1.2 2))), ((q_t_1 3), .inl (cs 0, 6, .inl (d_t_1.2 3))), oX1 (q_t 8) q_t_8 (r25.2.1), ((q_t_8 1), .inl (cs 0, 12, .inl (r25.2.2 1))), ((q_t_8 2), .inl (cs 0, 12, .inl (r25.2.2 2))), ((q_t_8 3), .inl (cs 0, 12, .inl (r25.2.2 3))), oX5 (q_t 9) q_t_9 (d_t_9.1), ((q_t_9 0), .inl (cs 0, 36, .inl (r25.1.2 0))), ((q_t_9 1), .inl (cs 0, 6, .inl (r29.2.2 1)))] H := hP
            replace hD : va_D A [oX6 h_t q_t (d_t.1), oX4 (q_t 0) q_t_0 (d_t_0.1), ((q_t_0 1), .inl (cs 0, 6, .inl (d_t_0.2 1))), ((q_t_0 2), .inl (cs 0, 6, .inl (d_t_0.2 2))), ((q_t_0 4), .inl (cs 0, 3, .inl (d_t_0.2 4))), ((q_t_0 5), .inl (cs 0, 3, .inl (d_t_0.2 5))), oX0 (q_t 1) q_t_1 (d_t_1.1), ((q_t_1 1), .inl (cs 0, 6, .inl (d_t_1.2 1))), ((q_t_1 2), .inl (cs 0, 6, .inl (d_t_1.2 2))), ((q_t_1 3), .inl (cs 0, 6, .inl (d_t_1.2 3))), oX1 (q_t 8) q_t_8 (r25.2.1), ((q_t_8 1), .inl (cs 0, 12, .inl (r25.2.2 1))), ((q_t_8 2), .inl (cs 0, 12, .inl (r25.2.2 2))), ((q_t_8 3), .inl (cs 0, 12, .inl (r25.2.2 3))), oX5 (q_t 9) q_t_9 (d_t_9.1), ((q_t_9 0), .inl (cs 0, 36, .inl (r25.1.2 0))), ((q_t_9 1), .inl (cs 0, 6, .inl (r29.2.2 1)))] := hD
            refine lv_goto (tgt := 113) hx hb dX6_tuned_107 (by decide) ?_
            have e9 := Option.some.inj hf
            subst e9
            exact hR _ _ _ _ dX6_tuned_113 hP hS
        · replace hf := g32.1 c31
          refine lv_iload_n hx hb dX6_tuned_81 rfl (lv_at hl 0 rfl) ?_
          have g38 := ite_some hf
          refine lv_if_eq (tgt := 89) hx hb dX6_tuned_82 (by decide) (fun c37 => ?_) (fun c37 => ?_)
          · replace hf := g38.1 c37
            refine lv_iconst (v := 0) hx hb dX6_tuned_89 rfl ?_
            have e9 := Option.some.inj hf
            subst e9
            exact hR _ _ _ _ dX6_tuned_90 hP hS
          · replace hf := g38.2 c37
            refine lv_iconst (v := 1) hx hb dX6_tuned_85 rfl ?_
            refine lv_goto (tgt := 90) hx hb dX6_tuned_86 (by decide) ?_
            have e9 := Option.some.inj hf
            subst e9
            exact hR _ _ _ _ dX6_tuned_90 hP hS
      · replace hf := g24.1 c23
        refine lv_aload_n hx hb dX6_tuned_32 rfl (lv_at hl 0 rfl) ?_
        refine lv_sipush (v := (-2000)) hx hb dX6_tuned_33 rfl ?_
        obtain ⟨r39, e40, hf⟩ := bind_some hf
        refine callVi (As := [.int (-2000)]) (rest := []) M (mX6_refuseBad l D cs sk h_t q_t k d_t (-2000) e40) mw_X6_96 ln_X6_refuseBad ⟨rfl, rfl, Nat.le_of_ble_eq_true rfl, Nat.le_of_ble_eq_true rfl⟩ hP hD hS hA [0] (by decide) rfl rfl (q0 := 0) rfl rfl rfl ⟨Nat.zero_le _, Nat.zero_le _⟩ hl.1 rfl (Nat.le_of_ble_eq_true rfl) dX6_tuned_36 (fun H locs hP hD hS => ?_)
        replace hP : va_P D vwCl [oX6 h_t q_t (r39.2.1), oX4 (q_t 0) q_t_0 (d_t_0.1), ((q_t_0 1), .inl (cs 0, 6, .inl (d_t_0.2 1))), ((q_t_0 2), .inl (cs 0, 6, .inl (d_t_0.2 2))), ((q_t_0 4), .inl (cs 0, 3, .inl (d_t_0.2 4))), ((q_t_0 5), .inl (cs 0, 3, .inl (d_t_0.2 5))), oX0 (q_t 1) q_t_1 (d_t_1.1), ((q_t_1 1), .inl (cs 0, 6, .inl (d_t_1.2 1))), ((q_t_1 2), .inl (cs 0, 6, .inl (d_t_1.2 2))), ((q_t_1 3), .inl (cs 0, 6, .inl (d_t_1.2 3))), oX1 (q_t 8) q_t_8 (d_t_8.1), ((q_t_8 1), .inl (cs 0, 12, .inl (d_t_8.2 1))), ((q_t_8 2), .inl (cs 0, 12, .inl (d_t_8.2 2))), ((q_t_8 3), .inl (cs 0, 12, .inl (d_t_8.2 3))), oX5 (q_t 9) q_t_9 (d_t_9.1), ((q_t_9 0), .inl (cs 0, 36, .inl (d_t_9.2 0))), ((q_t_9 1), .inl (cs 0, 6, .inl (d_t_9.2 1)))] H := hP
        replace hD : va_D A [oX6 h_t q_t (r39.2.1), oX4 (q_t 0) q_t_0 (d_t_0.1), ((q_t_0 1), .inl (cs 0, 6, .inl (d_t_0.2 1))), ((q_t_0 2), .inl (cs 0, 6, .inl (d_t_0.2 2))), ((q_t_0 4), .inl (cs 0, 3, .inl (d_t_0.2 4))), ((q_t_0 5), .inl (cs 0, 3, .inl (d_t_0.2 5))), oX0 (q_t 1) q_t_1 (d_t_1.1), ((q_t_1 1), .inl (cs 0, 6, .inl (d_t_1.2 1))), ((q_t_1 2), .inl (cs 0, 6, .inl (d_t_1.2 2))), ((q_t_1 3), .inl (cs 0, 6, .inl (d_t_1.2 3))), oX1 (q_t 8) q_t_8 (d_t_8.1), ((q_t_8 1), .inl (cs 0, 12, .inl (d_t_8.2 1))), ((q_t_8 2), .inl (cs 0, 12, .inl (d_t_8.2 2))), ((q_t_8 3), .inl (cs 0, 12, .inl (d_t_8.2 3))), oX5 (q_t 9) q_t_9 (d_t_9.1), ((q_t_9 0), .inl (cs 0, 36, .inl (d_t_9.2 0))), ((q_t_9 1), .inl (cs 0, 6, .inl (d_t_9.2 1)))] := hD
        have e9 := Option.some.inj hf
        subst e9
        exact hR _ _ _ _ dX6_tuned_39 hP hS
  · replace hf := g4.1 c3
    refine lv_aload_n hx hb dX6_tuned_11 rfl (lv_at hl 0 rfl) ?_
    refine lv_sipush (v := (-2000)) hx hb dX6_tuned_12 rfl ?_
    obtain ⟨r41, e42, hf⟩ := bind_some hf
    refine callVi (As := [.int (-2000)]) (rest := []) M (mX6_refuseBad l D cs sk h_t q_t k d_t (-2000) e42) mw_X6_96 ln_X6_refuseBad ⟨rfl, rfl, Nat.le_of_ble_eq_true rfl, Nat.le_of_ble_eq_true rfl⟩ hP hD hS hA [0] (by decide) rfl rfl (q0 := 0) rfl rfl rfl ⟨Nat.zero_le _, Nat.zero_le _⟩ hl.1 rfl (Nat.le_of_ble_eq_true rfl) dX6_tuned_15 (fun H locs hP hD hS => ?_)
    replace hP : va_P D vwCl [oX6 h_t q_t (r41.2.1), oX4 (q_t 0) q_t_0 (d_t_0.1), ((q_t_0 1), .inl (cs 0, 6, .inl (d_t_0.2 1))), ((q_t_0 2), .inl (cs 0, 6, .inl (d_t_0.2 2))), ((q_t_0 4), .inl (cs 0, 3, .inl (d_t_0.2 4))), ((q_t_0 5), .inl (cs 0, 3, .inl (d_t_0.2 5))), oX0 (q_t 1) q_t_1 (d_t_1.1), ((q_t_1 1), .inl (cs 0, 6, .inl (d_t_1.2 1))), ((q_t_1 2), .inl (cs 0, 6, .inl (d_t_1.2 2))), ((q_t_1 3), .inl (cs 0, 6, .inl (d_t_1.2 3))), oX1 (q_t 8) q_t_8 (d_t_8.1), ((q_t_8 1), .inl (cs 0, 12, .inl (d_t_8.2 1))), ((q_t_8 2), .inl (cs 0, 12, .inl (d_t_8.2 2))), ((q_t_8 3), .inl (cs 0, 12, .inl (d_t_8.2 3))), oX5 (q_t 9) q_t_9 (d_t_9.1), ((q_t_9 0), .inl (cs 0, 36, .inl (d_t_9.2 0))), ((q_t_9 1), .inl (cs 0, 6, .inl (d_t_9.2 1)))] H := hP
    replace hD : va_D A [oX6 h_t q_t (r41.2.1), oX4 (q_t 0) q_t_0 (d_t_0.1), ((q_t_0 1), .inl (cs 0, 6, .inl (d_t_0.2 1))), ((q_t_0 2), .inl (cs 0, 6, .inl (d_t_0.2 2))), ((q_t_0 4), .inl (cs 0, 3, .inl (d_t_0.2 4))), ((q_t_0 5), .inl (cs 0, 3, .inl (d_t_0.2 5))), oX0 (q_t 1) q_t_1 (d_t_1.1), ((q_t_1 1), .inl (cs 0, 6, .inl (d_t_1.2 1))), ((q_t_1 2), .inl (cs 0, 6, .inl (d_t_1.2 2))), ((q_t_1 3), .inl (cs 0, 6, .inl (d_t_1.2 3))), oX1 (q_t 8) q_t_8 (d_t_8.1), ((q_t_8 1), .inl (cs 0, 12, .inl (d_t_8.2 1))), ((q_t_8 2), .inl (cs 0, 12, .inl (d_t_8.2 2))), ((q_t_8 3), .inl (cs 0, 12, .inl (d_t_8.2 3))), oX5 (q_t 9) q_t_9 (d_t_9.1), ((q_t_9 0), .inl (cs 0, 36, .inl (d_t_9.2 0))), ((q_t_9 1), .inl (cs 0, 6, .inl (d_t_9.2 1)))] := hD
    have e9 := Option.some.inj hf
    subst e9
    exact hR _ _ _ _ dX6_tuned_18 hP hS
abbrev rm_X6_clash : Room := { frames := 5, cells := 0, slots := 0, locals := 126 }
def fX6_clash_B76 (k : Nat) (x2 : Int32) (x3 : Int32) (d_t_1 : Dat) (d_t_9 : Dat) (K107 : Int32 × Dat → Option (Int32 × Dat × Dat × Dat)) (K116 : Dat → Option (Int32 × Dat × Dat × Dat)) (rec : Int32 × Dat → Option (Int32 × Dat × Dat × Dat)) (v : Int32 × Dat) : Option (Int32 × Dat × Dat × Dat) :=
  (if x2 < (v.1) then K116 (d_t_9.1, (va_up d_t_9.2 1 (v.2.2 1))) else (fJ6_bitCount_0f7a4 k (v.1)).bind (fun (r3 : Int32) => (if r3 = x3 then (fX5_tunes k (d_t_9.1, (va_up d_t_9.2 1 (v.2.2 1))) d_t_1 (v.1)).bind (fun (r7 : Int32 × Dat) => (if (r7.1) = 0 then K107 ((v.1), (d_t_9.1, (va_up d_t_9.2 1 (r7.2.2 1)))) else rec (((v.1) + 1), (d_t_9.1, (va_up d_t_9.2 1 (r7.2.2 1)))))) else rec (((v.1) + 1), (d_t_9.1, (va_up d_t_9.2 1 (v.2.2 1)))))))
def fX6_clash_B62 (k : Nat) (x2 : Int32) (d_t_1 : Dat) (d_t_9 : Dat) (K107 : Int32 × Dat → Option (Int32 × Dat × Dat × Dat)) (K122 : Dat → Option (Int32 × Dat × Dat × Dat)) (rec : Int32 × Dat → Option (Int32 × Dat × Dat × Dat)) (v : Int32 × Dat) : Option (Int32 × Dat × Dat × Dat) :=
  (if (d_t_1.1 0) < (v.1) then K122 (d_t_9.1, (va_up d_t_9.2 1 (v.2.2 1))) else lp (fX6_clash_B76 k x2 (v.1) d_t_1 (d_t_9.1, (va_up d_t_9.2 1 (v.2.2 1))) (fun (w3 : Int32 × Dat) => K107 ((w3.1), (d_t_9.1, (va_up d_t_9.2 1 (w3.2.2 1))))) (fun (w4 : Dat) => rec (((v.1) + 1), (d_t_9.1, (va_up d_t_9.2 1 (w4.2 1)))))) k (1, (d_t_9.1, (va_up d_t_9.2 1 (v.2.2 1)))))
def fX6_clash (k : Nat) (d_t : Dat) (d_t_0 : Dat) (d_t_1 : Dat) (d_t_8 : Dat) (d_t_9 : Dat) (x1 : Int32) : Option (Int32 × Dat × Dat × Dat) :=
  (fX6_isWithin k x1 0 999).bind (fun (r1 : Int32) => (if r1 = 0 then (fX6_refuseBad k d_t (-2)).bind (fun (r15 : Int32 × Dat) => some ((r15.1), (r15.2.1, d_t.2), d_t_8, d_t_9)) else (fX5_weigh k d_t_9 d_t_0 d_t_1 d_t_8 x1).bind (fun (r5 : Dat × Dat) => (fX6_everyPlayer k d_t d_t_1).bind (fun (r7 : Int32) => (fX5_tunes k (d_t_9.1, (va_up d_t_9.2 0 (r5.1.2 0))) d_t_1 r7).bind (fun (r9 : Int32 × Dat) => (if (r9.1) = 0 then lp (fX6_clash_B62 k r7 d_t_1 (d_t_9.1, (va_up (va_up d_t_9.2 0 (r5.1.2 0)) 1 (r9.2.2 1))) (fun (w13 : Int32 × Dat) => some ((w13.1), d_t, (r5.2.1, (va_up (va_up (va_up d_t_8.2 1 (r5.2.2 1)) 2 (r5.2.2 2)) 3 (r5.2.2 3))), (d_t_9.1, (va_up (va_up d_t_9.2 0 (r5.1.2 0)) 1 (w13.2.2 1))))) (fun (w14 : Dat) => some ((-1), d_t, (r5.2.1, (va_up (va_up (va_up d_t_8.2 1 (r5.2.2 1)) 2 (r5.2.2 2)) 3 (r5.2.2 3))), (d_t_9.1, (va_up (va_up d_t_9.2 0 (r5.1.2 0)) 1 (w14.2 1)))))) k (1, (d_t_9.1, (va_up (va_up d_t_9.2 0 (r5.1.2 0)) 1 (r9.2.2 1)))) else some ((-1), d_t, (r5.2.1, (va_up (va_up (va_up d_t_8.2 1 (r5.2.2 1)) 2 (r5.2.2 2)) 3 (r5.2.2 3))), (d_t_9.1, (va_up (va_up d_t_9.2 0 (r5.1.2 0)) 1 (r9.2.2 1))))))))))
set_option maxHeartbeats 4000000 in
set_option maxRecDepth 100000 in
theorem mX6_clash_B76 {l : Launch} {p : Program} {e : Env} {s : State} {m : MethodId} {args : Array Value} {below : List Frame} {meth : Method} {c : Code} {D : va_G} {cs : Nat → ClassId} {sk : Nat → Nat} {A : Nat → Prop} {Q : State → Prop} (h_t : Nat) (q_t : Nat → Nat) (q_t_0 : Nat → Nat) (q_t_1 : Nat → Nat) (q_t_8 : Nat → Nat) (q_t_9 : Nat → Nat) (k : Nat) (x2 : Int32) (x3 : Int32) (d_t : Dat) (d_t_0 : Dat) (d_t_1 : Dat) (d_t_8 : Dat) (d_t_9 : Dat) {rv : Int32 × Dat × Dat × Dat}  (K107 : Int32 × Dat → Option (Int32 × Dat × Dat × Dat)) (K116 : Dat → Option (Int32 × Dat × Dat × Dat))
    (M : MC p s m args meth c D cs sk A RX6 cX6_clash 5 (some .int)) (hA : ∀ q, s.heap.size ≤ q → A q) (hR : RetI p l e rm_X6_clash s m args below meth c D cX6_clash A Q (rv.1) [oX6 h_t q_t (rv.2.1.1), oX4 (q_t 0) q_t_0 (d_t_0.1), ((q_t_0 1), .inl (cs 0, 6, .inl (d_t_0.2 1))), ((q_t_0 2), .inl (cs 0, 6, .inl (d_t_0.2 2))), ((q_t_0 4), .inl (cs 0, 3, .inl (d_t_0.2 4))), ((q_t_0 5), .inl (cs 0, 3, .inl (d_t_0.2 5))), oX0 (q_t 1) q_t_1 (d_t_1.1), ((q_t_1 1), .inl (cs 0, 6, .inl (d_t_1.2 1))), ((q_t_1 2), .inl (cs 0, 6, .inl (d_t_1.2 2))), ((q_t_1 3), .inl (cs 0, 6, .inl (d_t_1.2 3))), oX1 (q_t 8) q_t_8 (rv.2.2.1.1), ((q_t_8 1), .inl (cs 0, 12, .inl (rv.2.2.1.2 1))), ((q_t_8 2), .inl (cs 0, 12, .inl (rv.2.2.1.2 2))), ((q_t_8 3), .inl (cs 0, 12, .inl (rv.2.2.1.2 3))), oX5 (q_t 9) q_t_9 (d_t_9.1), ((q_t_9 0), .inl (cs 0, 36, .inl (rv.2.2.2.2 0))), ((q_t_9 1), .inl (cs 0, 6, .inl (rv.2.2.2.2 1)))])
    (hK107 : ∀ (w : Int32 × Dat), K107 w = some rv → ∀ (H : Heap) (locs : List Loc) (ls : Array Slot), va_P D vwCl [oX6 h_t q_t (d_t.1), oX4 (q_t 0) q_t_0 (d_t_0.1), ((q_t_0 1), .inl (cs 0, 6, .inl (d_t_0.2 1))), ((q_t_0 2), .inl (cs 0, 6, .inl (d_t_0.2 2))), ((q_t_0 4), .inl (cs 0, 3, .inl (d_t_0.2 4))), ((q_t_0 5), .inl (cs 0, 3, .inl (d_t_0.2 5))), oX0 (q_t 1) q_t_1 (d_t_1.1), ((q_t_1 1), .inl (cs 0, 6, .inl (d_t_1.2 1))), ((q_t_1 2), .inl (cs 0, 6, .inl (d_t_1.2 2))), ((q_t_1 3), .inl (cs 0, 6, .inl (d_t_1.2 3))), oX1 (q_t 8) q_t_8 (d_t_8.1), ((q_t_8 1), .inl (cs 0, 12, .inl (d_t_8.2 1))), ((q_t_8 2), .inl (cs 0, 12, .inl (d_t_8.2 2))), ((q_t_8 3), .inl (cs 0, 12, .inl (d_t_8.2 3))), oX5 (q_t 9) q_t_9 (d_t_9.1), ((q_t_9 0), .inl (cs 0, 36, .inl (d_t_9.2 0))), ((q_t_9 1), .inl (cs 0, 6, .inl (w.2.2 1)))] H → va_D A [oX6 h_t q_t (d_t.1), oX4 (q_t 0) q_t_0 (d_t_0.1), ((q_t_0 1), .inl (cs 0, 6, .inl (d_t_0.2 1))), ((q_t_0 2), .inl (cs 0, 6, .inl (d_t_0.2 2))), ((q_t_0 4), .inl (cs 0, 3, .inl (d_t_0.2 4))), ((q_t_0 5), .inl (cs 0, 3, .inl (d_t_0.2 5))), oX0 (q_t 1) q_t_1 (d_t_1.1), ((q_t_1 1), .inl (cs 0, 6, .inl (d_t_1.2 1))), ((q_t_1 2), .inl (cs 0, 6, .inl (d_t_1.2 2))), ((q_t_1 3), .inl (cs 0, 6, .inl (d_t_1.2 3))), oX1 (q_t 8) q_t_8 (d_t_8.1), ((q_t_8 1), .inl (cs 0, 12, .inl (d_t_8.2 1))), ((q_t_8 2), .inl (cs 0, 12, .inl (d_t_8.2 2))), ((q_t_8 3), .inl (cs 0, 12, .inl (d_t_8.2 3))), oX5 (q_t 9) q_t_9 (d_t_9.1), ((q_t_9 0), .inl (cs 0, 36, .inl (d_t_9.2 0))), ((q_t_9 1), .inl (cs 0, 6, .inl (w.2.2 1)))] → va_S A s.heap H locs → lv_has ls 5 [(4, .int (w.1))] → W p l e rm_X6_clash s m args below meth c H locs 0 0 Q (F0 m 107 ls []))
    (hK116 : ∀ (w : Dat), K116 w = some rv → ∀ (H : Heap) (locs : List Loc) (ls : Array Slot), va_P D vwCl [oX6 h_t q_t (d_t.1), oX4 (q_t 0) q_t_0 (d_t_0.1), ((q_t_0 1), .inl (cs 0, 6, .inl (d_t_0.2 1))), ((q_t_0 2), .inl (cs 0, 6, .inl (d_t_0.2 2))), ((q_t_0 4), .inl (cs 0, 3, .inl (d_t_0.2 4))), ((q_t_0 5), .inl (cs 0, 3, .inl (d_t_0.2 5))), oX0 (q_t 1) q_t_1 (d_t_1.1), ((q_t_1 1), .inl (cs 0, 6, .inl (d_t_1.2 1))), ((q_t_1 2), .inl (cs 0, 6, .inl (d_t_1.2 2))), ((q_t_1 3), .inl (cs 0, 6, .inl (d_t_1.2 3))), oX1 (q_t 8) q_t_8 (d_t_8.1), ((q_t_8 1), .inl (cs 0, 12, .inl (d_t_8.2 1))), ((q_t_8 2), .inl (cs 0, 12, .inl (d_t_8.2 2))), ((q_t_8 3), .inl (cs 0, 12, .inl (d_t_8.2 3))), oX5 (q_t 9) q_t_9 (d_t_9.1), ((q_t_9 0), .inl (cs 0, 36, .inl (d_t_9.2 0))), ((q_t_9 1), .inl (cs 0, 6, .inl (w.2 1)))] H → va_D A [oX6 h_t q_t (d_t.1), oX4 (q_t 0) q_t_0 (d_t_0.1), ((q_t_0 1), .inl (cs 0, 6, .inl (d_t_0.2 1))), ((q_t_0 2), .inl (cs 0, 6, .inl (d_t_0.2 2))), ((q_t_0 4), .inl (cs 0, 3, .inl (d_t_0.2 4))), ((q_t_0 5), .inl (cs 0, 3, .inl (d_t_0.2 5))), oX0 (q_t 1) q_t_1 (d_t_1.1), ((q_t_1 1), .inl (cs 0, 6, .inl (d_t_1.2 1))), ((q_t_1 2), .inl (cs 0, 6, .inl (d_t_1.2 2))), ((q_t_1 3), .inl (cs 0, 6, .inl (d_t_1.2 3))), oX1 (q_t 8) q_t_8 (d_t_8.1), ((q_t_8 1), .inl (cs 0, 12, .inl (d_t_8.2 1))), ((q_t_8 2), .inl (cs 0, 12, .inl (d_t_8.2 2))), ((q_t_8 3), .inl (cs 0, 12, .inl (d_t_8.2 3))), oX5 (q_t 9) q_t_9 (d_t_9.1), ((q_t_9 0), .inl (cs 0, 36, .inl (d_t_9.2 0))), ((q_t_9 1), .inl (cs 0, 6, .inl (w.2 1)))] → va_S A s.heap H locs → lv_has ls 5 [(0, .ref h_t), (2, .int x2), (3, .int x3)] → W p l e rm_X6_clash s m args below meth c H locs 0 0 Q (F0 m 116 ls []))
    : ∀ (n : Nat) (v : Int32 × Dat), lp (fX6_clash_B76 k x2 x3 d_t_1 d_t_9 K107 K116) n v = some rv → ∀ (H : Heap) (locs : List Loc) (ls : Array Slot), va_P D vwCl [oX6 h_t q_t (d_t.1), oX4 (q_t 0) q_t_0 (d_t_0.1), ((q_t_0 1), .inl (cs 0, 6, .inl (d_t_0.2 1))), ((q_t_0 2), .inl (cs 0, 6, .inl (d_t_0.2 2))), ((q_t_0 4), .inl (cs 0, 3, .inl (d_t_0.2 4))), ((q_t_0 5), .inl (cs 0, 3, .inl (d_t_0.2 5))), oX0 (q_t 1) q_t_1 (d_t_1.1), ((q_t_1 1), .inl (cs 0, 6, .inl (d_t_1.2 1))), ((q_t_1 2), .inl (cs 0, 6, .inl (d_t_1.2 2))), ((q_t_1 3), .inl (cs 0, 6, .inl (d_t_1.2 3))), oX1 (q_t 8) q_t_8 (d_t_8.1), ((q_t_8 1), .inl (cs 0, 12, .inl (d_t_8.2 1))), ((q_t_8 2), .inl (cs 0, 12, .inl (d_t_8.2 2))), ((q_t_8 3), .inl (cs 0, 12, .inl (d_t_8.2 3))), oX5 (q_t 9) q_t_9 (d_t_9.1), ((q_t_9 0), .inl (cs 0, 36, .inl (d_t_9.2 0))), ((q_t_9 1), .inl (cs 0, 6, .inl (v.2.2 1)))] H → va_D A [oX6 h_t q_t (d_t.1), oX4 (q_t 0) q_t_0 (d_t_0.1), ((q_t_0 1), .inl (cs 0, 6, .inl (d_t_0.2 1))), ((q_t_0 2), .inl (cs 0, 6, .inl (d_t_0.2 2))), ((q_t_0 4), .inl (cs 0, 3, .inl (d_t_0.2 4))), ((q_t_0 5), .inl (cs 0, 3, .inl (d_t_0.2 5))), oX0 (q_t 1) q_t_1 (d_t_1.1), ((q_t_1 1), .inl (cs 0, 6, .inl (d_t_1.2 1))), ((q_t_1 2), .inl (cs 0, 6, .inl (d_t_1.2 2))), ((q_t_1 3), .inl (cs 0, 6, .inl (d_t_1.2 3))), oX1 (q_t 8) q_t_8 (d_t_8.1), ((q_t_8 1), .inl (cs 0, 12, .inl (d_t_8.2 1))), ((q_t_8 2), .inl (cs 0, 12, .inl (d_t_8.2 2))), ((q_t_8 3), .inl (cs 0, 12, .inl (d_t_8.2 3))), oX5 (q_t 9) q_t_9 (d_t_9.1), ((q_t_9 0), .inl (cs 0, 36, .inl (d_t_9.2 0))), ((q_t_9 1), .inl (cs 0, 6, .inl (v.2.2 1)))] → va_S A s.heap H locs → lv_has ls 5 [(0, .ref h_t), (2, .int x2), (3, .int x3), (4, .int (v.1))] → W p l e rm_X6_clash s m args below meth c H locs 0 0 Q (F0 m 76 ls []) := by
  obtain ⟨hx, hb, hml, hT, hown, hlk, hrt, hK, hN, hSE⟩ := id M
  refine lp_ind (fun rec ih v hf H locs ls hP hD hS hl => ?_)
  unfold fX6_clash_B76 at hf
  refine lv_iload hx hb dX6_clash_76 (lv_at hl 3 rfl) ?_
  refine lv_iload_n hx hb dX6_clash_78 rfl (lv_at hl 1 rfl) ?_
  have g2 := ite_some hf
  refine lv_icmp_gt (tgt := 116) hx hb dX6_clash_79 (by decide) (fun c1 => ?_) (fun c1 => ?_)
  · replace hf := g2.1 c1
    exact hK116 _ hf _ _ _ hP hD hS (lv_sub hl [0, 1, 2] rfl)
  · replace hf := g2.2 c1
    refine lv_iload hx hb dX6_clash_82 (lv_at hl 3 rfl) ?_
    obtain ⟨r3, e4, hf⟩ := bind_some hf
    refine callSi (As := [.int (v.1)]) (rest := []) M (mJ6_bitCount_0f7a4 l D cs sk  k (v.1) e4) mw_X6_224 ln_J6_bitCount_0f7a4 ⟨rfl, rfl, Nat.le_of_ble_eq_true rfl, Nat.le_of_ble_eq_true rfl⟩ hP hD hS hA [] (by decide) rfl rfl ⟨Nat.zero_le _, Nat.zero_le _⟩ hl.1 rfl (Nat.le_of_ble_eq_true rfl) dX6_clash_84 (fun H locs hP hD hS => ?_)
    replace hP : va_P D vwCl [oX6 h_t q_t (d_t.1), oX4 (q_t 0) q_t_0 (d_t_0.1), ((q_t_0 1), .inl (cs 0, 6, .inl (d_t_0.2 1))), ((q_t_0 2), .inl (cs 0, 6, .inl (d_t_0.2 2))), ((q_t_0 4), .inl (cs 0, 3, .inl (d_t_0.2 4))), ((q_t_0 5), .inl (cs 0, 3, .inl (d_t_0.2 5))), oX0 (q_t 1) q_t_1 (d_t_1.1), ((q_t_1 1), .inl (cs 0, 6, .inl (d_t_1.2 1))), ((q_t_1 2), .inl (cs 0, 6, .inl (d_t_1.2 2))), ((q_t_1 3), .inl (cs 0, 6, .inl (d_t_1.2 3))), oX1 (q_t 8) q_t_8 (d_t_8.1), ((q_t_8 1), .inl (cs 0, 12, .inl (d_t_8.2 1))), ((q_t_8 2), .inl (cs 0, 12, .inl (d_t_8.2 2))), ((q_t_8 3), .inl (cs 0, 12, .inl (d_t_8.2 3))), oX5 (q_t 9) q_t_9 (d_t_9.1), ((q_t_9 0), .inl (cs 0, 36, .inl (d_t_9.2 0))), ((q_t_9 1), .inl (cs 0, 6, .inl (v.2.2 1)))] H := hP
    replace hD : va_D A [oX6 h_t q_t (d_t.1), oX4 (q_t 0) q_t_0 (d_t_0.1), ((q_t_0 1), .inl (cs 0, 6, .inl (d_t_0.2 1))), ((q_t_0 2), .inl (cs 0, 6, .inl (d_t_0.2 2))), ((q_t_0 4), .inl (cs 0, 3, .inl (d_t_0.2 4))), ((q_t_0 5), .inl (cs 0, 3, .inl (d_t_0.2 5))), oX0 (q_t 1) q_t_1 (d_t_1.1), ((q_t_1 1), .inl (cs 0, 6, .inl (d_t_1.2 1))), ((q_t_1 2), .inl (cs 0, 6, .inl (d_t_1.2 2))), ((q_t_1 3), .inl (cs 0, 6, .inl (d_t_1.2 3))), oX1 (q_t 8) q_t_8 (d_t_8.1), ((q_t_8 1), .inl (cs 0, 12, .inl (d_t_8.2 1))), ((q_t_8 2), .inl (cs 0, 12, .inl (d_t_8.2 2))), ((q_t_8 3), .inl (cs 0, 12, .inl (d_t_8.2 3))), oX5 (q_t 9) q_t_9 (d_t_9.1), ((q_t_9 0), .inl (cs 0, 36, .inl (d_t_9.2 0))), ((q_t_9 1), .inl (cs 0, 6, .inl (v.2.2 1)))] := hD
    refine lv_iload_n hx hb dX6_clash_87 rfl (lv_at hl 2 rfl) ?_
    have g6 := ite_some hf
    refine lv_icmp_ne (tgt := 110) hx hb dX6_clash_88 (by decide) (fun c5 => ?_) (fun c5 => ?_)
    · replace hf := g6.2 c5
      refine lv_iinc (v := ((v.1) + 1)) (lv' := [(4, .int ((v.1) + 1)), (0, .ref h_t), (2, .int x2), (3, .int x3)]) hx hb dX6_clash_110 hl (k := 3) rfl rfl (by decide) rfl (fun ls hl => ?_)
      refine lv_goto (tgt := 76) hx hb dX6_clash_113 (by decide) ?_
      exact ih _ hf _ _ _ hP hD hS (lv_sub hl [1, 2, 3, 0] rfl)
    · replace hf := g6.1 c5
      refine lv_aload_n hx hb dX6_clash_91 rfl (lv_at hl 0 rfl) ?_
      refine va_get (D := D) (ci := 6) (v := .ref (q_t 9)) (C := RX6) (T := TX6) (N := 18) hx hb hT iX6 hown hK hP 0 rfl rfl 9 (by decide) (hT _ fw_X6_54) (fun _ h9 => h9) rfl dX6_clash_92 ?_
      refine lv_aload_n hx hb dX6_clash_95 rfl (lv_at hl 0 rfl) ?_
      refine va_get (D := D) (ci := 6) (v := .ref (q_t 1)) (C := RX6) (T := TX6) (N := 18) hx hb hT iX6 hown hK hP 0 rfl rfl 1 (by decide) (hT _ fw_X6_19) (fun _ h9 => h9) rfl dX6_clash_96 ?_
      refine lv_iload hx hb dX6_clash_99 (lv_at hl 3 rfl) ?_
      obtain ⟨r7, e8, hf⟩ := bind_some hf
      refine callVi (As := [.ref (q_t 1), .int (v.1)]) (rest := []) M (mX5_tunes l D cs sk (q_t 9) (q_t 1) q_t_9 q_t_1 k (d_t_9.1, (va_up d_t_9.2 1 (v.2.2 1))) d_t_1 (v.1) e8) mw_X6_217 ln_X5_tunes ⟨rfl, rfl, Nat.le_of_ble_eq_true rfl, Nat.le_of_ble_eq_true rfl⟩ hP hD hS hA [14, 15, 16, 6, 7] (by decide) rfl rfl (q0 := 0) rfl rfl rfl ⟨Nat.zero_le _, Nat.zero_le _⟩ hl.1 rfl (Nat.le_of_ble_eq_true rfl) dX6_clash_101 (fun H locs hP hD hS => ?_)
      replace hP : va_P D vwCl [oX6 h_t q_t (d_t.1), oX4 (q_t 0) q_t_0 (d_t_0.1), ((q_t_0 1), .inl (cs 0, 6, .inl (d_t_0.2 1))), ((q_t_0 2), .inl (cs 0, 6, .inl (d_t_0.2 2))), ((q_t_0 4), .inl (cs 0, 3, .inl (d_t_0.2 4))), ((q_t_0 5), .inl (cs 0, 3, .inl (d_t_0.2 5))), oX0 (q_t 1) q_t_1 (d_t_1.1), ((q_t_1 1), .inl (cs 0, 6, .inl (d_t_1.2 1))), ((q_t_1 2), .inl (cs 0, 6, .inl (d_t_1.2 2))), ((q_t_1 3), .inl (cs 0, 6, .inl (d_t_1.2 3))), oX1 (q_t 8) q_t_8 (d_t_8.1), ((q_t_8 1), .inl (cs 0, 12, .inl (d_t_8.2 1))), ((q_t_8 2), .inl (cs 0, 12, .inl (d_t_8.2 2))), ((q_t_8 3), .inl (cs 0, 12, .inl (d_t_8.2 3))), oX5 (q_t 9) q_t_9 (d_t_9.1), ((q_t_9 0), .inl (cs 0, 36, .inl (d_t_9.2 0))), ((q_t_9 1), .inl (cs 0, 6, .inl (r7.2.2 1)))] H := hP
      replace hD : va_D A [oX6 h_t q_t (d_t.1), oX4 (q_t 0) q_t_0 (d_t_0.1), ((q_t_0 1), .inl (cs 0, 6, .inl (d_t_0.2 1))), ((q_t_0 2), .inl (cs 0, 6, .inl (d_t_0.2 2))), ((q_t_0 4), .inl (cs 0, 3, .inl (d_t_0.2 4))), ((q_t_0 5), .inl (cs 0, 3, .inl (d_t_0.2 5))), oX0 (q_t 1) q_t_1 (d_t_1.1), ((q_t_1 1), .inl (cs 0, 6, .inl (d_t_1.2 1))), ((q_t_1 2), .inl (cs 0, 6, .inl (d_t_1.2 2))), ((q_t_1 3), .inl (cs 0, 6, .inl (d_t_1.2 3))), oX1 (q_t 8) q_t_8 (d_t_8.1), ((q_t_8 1), .inl (cs 0, 12, .inl (d_t_8.2 1))), ((q_t_8 2), .inl (cs 0, 12, .inl (d_t_8.2 2))), ((q_t_8 3), .inl (cs 0, 12, .inl (d_t_8.2 3))), oX5 (q_t 9) q_t_9 (d_t_9.1), ((q_t_9 0), .inl (cs 0, 36, .inl (d_t_9.2 0))), ((q_t_9 1), .inl (cs 0, 6, .inl (r7.2.2 1)))] := hD
      have g10 := ite_some hf
      refine lv_if_ne (tgt := 110) hx hb dX6_clash_104 (by decide) (fun c9 => ?_) (fun c9 => ?_)
      · replace hf := g10.2 c9
        refine lv_iinc (v := ((v.1) + 1)) (lv' := [(4, .int ((v.1) + 1)), (0, .ref h_t), (2, .int x2), (3, .int x3)]) hx hb dX6_clash_110 hl (k := 3) rfl rfl (by decide) rfl (fun ls hl => ?_)
        refine lv_goto (tgt := 76) hx hb dX6_clash_113 (by decide) ?_
        exact ih _ hf _ _ _ hP hD hS (lv_sub hl [1, 2, 3, 0] rfl)
      · replace hf := g10.1 c9
        exact hK107 _ hf _ _ _ hP hD hS (lv_sub hl [3] rfl)
set_option maxHeartbeats 4000000 in
set_option maxRecDepth 100000 in
theorem mX6_clash_B62 {l : Launch} {p : Program} {e : Env} {s : State} {m : MethodId} {args : Array Value} {below : List Frame} {meth : Method} {c : Code} {D : va_G} {cs : Nat → ClassId} {sk : Nat → Nat} {A : Nat → Prop} {Q : State → Prop} (h_t : Nat) (q_t : Nat → Nat) (q_t_0 : Nat → Nat) (q_t_1 : Nat → Nat) (q_t_8 : Nat → Nat) (q_t_9 : Nat → Nat) (k : Nat) (x2 : Int32) (d_t : Dat) (d_t_0 : Dat) (d_t_1 : Dat) (d_t_8 : Dat) (d_t_9 : Dat) {rv : Int32 × Dat × Dat × Dat}  (K107 : Int32 × Dat → Option (Int32 × Dat × Dat × Dat)) (K122 : Dat → Option (Int32 × Dat × Dat × Dat))
    (M : MC p s m args meth c D cs sk A RX6 cX6_clash 5 (some .int)) (hA : ∀ q, s.heap.size ≤ q → A q) (hR : RetI p l e rm_X6_clash s m args below meth c D cX6_clash A Q (rv.1) [oX6 h_t q_t (rv.2.1.1), oX4 (q_t 0) q_t_0 (d_t_0.1), ((q_t_0 1), .inl (cs 0, 6, .inl (d_t_0.2 1))), ((q_t_0 2), .inl (cs 0, 6, .inl (d_t_0.2 2))), ((q_t_0 4), .inl (cs 0, 3, .inl (d_t_0.2 4))), ((q_t_0 5), .inl (cs 0, 3, .inl (d_t_0.2 5))), oX0 (q_t 1) q_t_1 (d_t_1.1), ((q_t_1 1), .inl (cs 0, 6, .inl (d_t_1.2 1))), ((q_t_1 2), .inl (cs 0, 6, .inl (d_t_1.2 2))), ((q_t_1 3), .inl (cs 0, 6, .inl (d_t_1.2 3))), oX1 (q_t 8) q_t_8 (rv.2.2.1.1), ((q_t_8 1), .inl (cs 0, 12, .inl (rv.2.2.1.2 1))), ((q_t_8 2), .inl (cs 0, 12, .inl (rv.2.2.1.2 2))), ((q_t_8 3), .inl (cs 0, 12, .inl (rv.2.2.1.2 3))), oX5 (q_t 9) q_t_9 (d_t_9.1), ((q_t_9 0), .inl (cs 0, 36, .inl (rv.2.2.2.2 0))), ((q_t_9 1), .inl (cs 0, 6, .inl (rv.2.2.2.2 1)))])
    (hK107 : ∀ (w : Int32 × Dat), K107 w = some rv → ∀ (H : Heap) (locs : List Loc) (ls : Array Slot), va_P D vwCl [oX6 h_t q_t (d_t.1), oX4 (q_t 0) q_t_0 (d_t_0.1), ((q_t_0 1), .inl (cs 0, 6, .inl (d_t_0.2 1))), ((q_t_0 2), .inl (cs 0, 6, .inl (d_t_0.2 2))), ((q_t_0 4), .inl (cs 0, 3, .inl (d_t_0.2 4))), ((q_t_0 5), .inl (cs 0, 3, .inl (d_t_0.2 5))), oX0 (q_t 1) q_t_1 (d_t_1.1), ((q_t_1 1), .inl (cs 0, 6, .inl (d_t_1.2 1))), ((q_t_1 2), .inl (cs 0, 6, .inl (d_t_1.2 2))), ((q_t_1 3), .inl (cs 0, 6, .inl (d_t_1.2 3))), oX1 (q_t 8) q_t_8 (d_t_8.1), ((q_t_8 1), .inl (cs 0, 12, .inl (d_t_8.2 1))), ((q_t_8 2), .inl (cs 0, 12, .inl (d_t_8.2 2))), ((q_t_8 3), .inl (cs 0, 12, .inl (d_t_8.2 3))), oX5 (q_t 9) q_t_9 (d_t_9.1), ((q_t_9 0), .inl (cs 0, 36, .inl (d_t_9.2 0))), ((q_t_9 1), .inl (cs 0, 6, .inl (w.2.2 1)))] H → va_D A [oX6 h_t q_t (d_t.1), oX4 (q_t 0) q_t_0 (d_t_0.1), ((q_t_0 1), .inl (cs 0, 6, .inl (d_t_0.2 1))), ((q_t_0 2), .inl (cs 0, 6, .inl (d_t_0.2 2))), ((q_t_0 4), .inl (cs 0, 3, .inl (d_t_0.2 4))), ((q_t_0 5), .inl (cs 0, 3, .inl (d_t_0.2 5))), oX0 (q_t 1) q_t_1 (d_t_1.1), ((q_t_1 1), .inl (cs 0, 6, .inl (d_t_1.2 1))), ((q_t_1 2), .inl (cs 0, 6, .inl (d_t_1.2 2))), ((q_t_1 3), .inl (cs 0, 6, .inl (d_t_1.2 3))), oX1 (q_t 8) q_t_8 (d_t_8.1), ((q_t_8 1), .inl (cs 0, 12, .inl (d_t_8.2 1))), ((q_t_8 2), .inl (cs 0, 12, .inl (d_t_8.2 2))), ((q_t_8 3), .inl (cs 0, 12, .inl (d_t_8.2 3))), oX5 (q_t 9) q_t_9 (d_t_9.1), ((q_t_9 0), .inl (cs 0, 36, .inl (d_t_9.2 0))), ((q_t_9 1), .inl (cs 0, 6, .inl (w.2.2 1)))] → va_S A s.heap H locs → lv_has ls 5 [(4, .int (w.1))] → W p l e rm_X6_clash s m args below meth c H locs 0 0 Q (F0 m 107 ls []))
    (hK122 : ∀ (w : Dat), K122 w = some rv → ∀ (H : Heap) (locs : List Loc) (ls : Array Slot), va_P D vwCl [oX6 h_t q_t (d_t.1), oX4 (q_t 0) q_t_0 (d_t_0.1), ((q_t_0 1), .inl (cs 0, 6, .inl (d_t_0.2 1))), ((q_t_0 2), .inl (cs 0, 6, .inl (d_t_0.2 2))), ((q_t_0 4), .inl (cs 0, 3, .inl (d_t_0.2 4))), ((q_t_0 5), .inl (cs 0, 3, .inl (d_t_0.2 5))), oX0 (q_t 1) q_t_1 (d_t_1.1), ((q_t_1 1), .inl (cs 0, 6, .inl (d_t_1.2 1))), ((q_t_1 2), .inl (cs 0, 6, .inl (d_t_1.2 2))), ((q_t_1 3), .inl (cs 0, 6, .inl (d_t_1.2 3))), oX1 (q_t 8) q_t_8 (d_t_8.1), ((q_t_8 1), .inl (cs 0, 12, .inl (d_t_8.2 1))), ((q_t_8 2), .inl (cs 0, 12, .inl (d_t_8.2 2))), ((q_t_8 3), .inl (cs 0, 12, .inl (d_t_8.2 3))), oX5 (q_t 9) q_t_9 (d_t_9.1), ((q_t_9 0), .inl (cs 0, 36, .inl (d_t_9.2 0))), ((q_t_9 1), .inl (cs 0, 6, .inl (w.2 1)))] H → va_D A [oX6 h_t q_t (d_t.1), oX4 (q_t 0) q_t_0 (d_t_0.1), ((q_t_0 1), .inl (cs 0, 6, .inl (d_t_0.2 1))), ((q_t_0 2), .inl (cs 0, 6, .inl (d_t_0.2 2))), ((q_t_0 4), .inl (cs 0, 3, .inl (d_t_0.2 4))), ((q_t_0 5), .inl (cs 0, 3, .inl (d_t_0.2 5))), oX0 (q_t 1) q_t_1 (d_t_1.1), ((q_t_1 1), .inl (cs 0, 6, .inl (d_t_1.2 1))), ((q_t_1 2), .inl (cs 0, 6, .inl (d_t_1.2 2))), ((q_t_1 3), .inl (cs 0, 6, .inl (d_t_1.2 3))), oX1 (q_t 8) q_t_8 (d_t_8.1), ((q_t_8 1), .inl (cs 0, 12, .inl (d_t_8.2 1))), ((q_t_8 2), .inl (cs 0, 12, .inl (d_t_8.2 2))), ((q_t_8 3), .inl (cs 0, 12, .inl (d_t_8.2 3))), oX5 (q_t 9) q_t_9 (d_t_9.1), ((q_t_9 0), .inl (cs 0, 36, .inl (d_t_9.2 0))), ((q_t_9 1), .inl (cs 0, 6, .inl (w.2 1)))] → va_S A s.heap H locs → lv_has ls 5 [] → W p l e rm_X6_clash s m args below meth c H locs 0 0 Q (F0 m 122 ls []))
    : ∀ (n : Nat) (v : Int32 × Dat), lp (fX6_clash_B62 k x2 d_t_1 d_t_9 K107 K122) n v = some rv → ∀ (H : Heap) (locs : List Loc) (ls : Array Slot), va_P D vwCl [oX6 h_t q_t (d_t.1), oX4 (q_t 0) q_t_0 (d_t_0.1), ((q_t_0 1), .inl (cs 0, 6, .inl (d_t_0.2 1))), ((q_t_0 2), .inl (cs 0, 6, .inl (d_t_0.2 2))), ((q_t_0 4), .inl (cs 0, 3, .inl (d_t_0.2 4))), ((q_t_0 5), .inl (cs 0, 3, .inl (d_t_0.2 5))), oX0 (q_t 1) q_t_1 (d_t_1.1), ((q_t_1 1), .inl (cs 0, 6, .inl (d_t_1.2 1))), ((q_t_1 2), .inl (cs 0, 6, .inl (d_t_1.2 2))), ((q_t_1 3), .inl (cs 0, 6, .inl (d_t_1.2 3))), oX1 (q_t 8) q_t_8 (d_t_8.1), ((q_t_8 1), .inl (cs 0, 12, .inl (d_t_8.2 1))), ((q_t_8 2), .inl (cs 0, 12, .inl (d_t_8.2 2))), ((q_t_8 3), .inl (cs 0, 12, .inl (d_t_8.2 3))), oX5 (q_t 9) q_t_9 (d_t_9.1), ((q_t_9 0), .inl (cs 0, 36, .inl (d_t_9.2 0))), ((q_t_9 1), .inl (cs 0, 6, .inl (v.2.2 1)))] H → va_D A [oX6 h_t q_t (d_t.1), oX4 (q_t 0) q_t_0 (d_t_0.1), ((q_t_0 1), .inl (cs 0, 6, .inl (d_t_0.2 1))), ((q_t_0 2), .inl (cs 0, 6, .inl (d_t_0.2 2))), ((q_t_0 4), .inl (cs 0, 3, .inl (d_t_0.2 4))), ((q_t_0 5), .inl (cs 0, 3, .inl (d_t_0.2 5))), oX0 (q_t 1) q_t_1 (d_t_1.1), ((q_t_1 1), .inl (cs 0, 6, .inl (d_t_1.2 1))), ((q_t_1 2), .inl (cs 0, 6, .inl (d_t_1.2 2))), ((q_t_1 3), .inl (cs 0, 6, .inl (d_t_1.2 3))), oX1 (q_t 8) q_t_8 (d_t_8.1), ((q_t_8 1), .inl (cs 0, 12, .inl (d_t_8.2 1))), ((q_t_8 2), .inl (cs 0, 12, .inl (d_t_8.2 2))), ((q_t_8 3), .inl (cs 0, 12, .inl (d_t_8.2 3))), oX5 (q_t 9) q_t_9 (d_t_9.1), ((q_t_9 0), .inl (cs 0, 36, .inl (d_t_9.2 0))), ((q_t_9 1), .inl (cs 0, 6, .inl (v.2.2 1)))] → va_S A s.heap H locs → lv_has ls 5 [(0, .ref h_t), (2, .int x2), (3, .int (v.1))] → W p l e rm_X6_clash s m args below meth c H locs 0 0 Q (F0 m 62 ls []) := by
  obtain ⟨hx, hb, hml, hT, hown, hlk, hrt, hK, hN, hSE⟩ := id M
  refine lp_ind (fun rec ih v hf H locs ls hP hD hS hl => ?_)
  unfold fX6_clash_B62 at hf
  refine lv_iload_n hx hb dX6_clash_62 rfl (lv_at hl 2 rfl) ?_
  refine lv_aload_n hx hb dX6_clash_63 rfl (lv_at hl 0 rfl) ?_
  refine va_get (D := D) (ci := 6) (v := .ref (q_t 1)) (C := RX6) (T := TX6) (N := 18) hx hb hT iX6 hown hK hP 0 rfl rfl 1 (by decide) (hT _ fw_X6_19) (fun _ h9 => h9) rfl dX6_clash_64 ?_
  refine va_get (D := D) (ci := 0) (v := .int (d_t_1.1 0)) (C := RX0) (T := TX0) (N := 10) hx hb hT iX0 hown hK hP 6 rfl rfl 0 (by decide) (hT _ fw_X6_144) (fun _ h9 => h9) rfl dX6_clash_67 ?_
  have g2 := ite_some hf
  refine lv_icmp_gt (tgt := 122) hx hb dX6_clash_70 (by decide) (fun c1 => ?_) (fun c1 => ?_)
  · replace hf := g2.1 c1
    exact hK122 _ hf _ _ _ hP hD hS (lv_sub hl [] rfl)
  · replace hf := g2.2 c1
    refine lv_iconst (v := 1) hx hb dX6_clash_73 rfl ?_
    refine lv_istore (lv' := [(4, .int 1), (0, .ref h_t), (2, .int x2), (3, .int (v.1))]) hx hb dX6_clash_74 hl (by decide) rfl (fun ls hl => ?_)
    refine mX6_clash_B76 h_t q_t q_t_0 q_t_1 q_t_8 q_t_9 k x2 (v.1) d_t d_t_0 d_t_1 d_t_8 (d_t_9.1, (va_up d_t_9.2 1 (v.2.2 1))) _ _ M hA hR (fun w3 hf H locs ls hP hD hS hl => ?_) (fun w4 hf H locs ls hP hD hS hl => ?_) _ _ hf _ _ _ hP hD hS (lv_sub hl [1, 2, 3, 0] rfl)
    · exact hK107 _ hf _ _ _ hP hD hS (lv_sub hl [0] rfl)
    · refine lv_iinc (v := ((v.1) + 1)) (lv' := [(3, .int ((v.1) + 1)), (0, .ref h_t), (2, .int x2)]) hx hb dX6_clash_116 hl (k := 2) rfl rfl (by decide) rfl (fun ls hl => ?_)
      refine lv_goto (tgt := 62) hx hb dX6_clash_119 (by decide) ?_
      exact ih _ hf _ _ _ hP hD hS (lv_sub hl [1, 2, 0] rfl)
set_option maxHeartbeats 4000000 in
set_option maxRecDepth 100000 in
theorem mX6_clash (l : Launch) (D : va_G) (cs : Nat → ClassId) (sk : Nat → Nat) (h_t : Nat) (q_t : Nat → Nat) (q_t_0 : Nat → Nat) (q_t_1 : Nat → Nat) (q_t_8 : Nat → Nat) (q_t_9 : Nat → Nat) (k : Nat) (d_t : Dat) (d_t_0 : Dat) (d_t_1 : Dat) (d_t_8 : Dat) (d_t_9 : Dat) (x1 : Int32) {rv : Int32 × Dat × Dat × Dat} (hf : fX6_clash k d_t d_t_0 d_t_1 d_t_8 d_t_9 x1 = some rv) : CTi l yX6_clash (Cond.code yX6_clash cX6_clash 5 (some .int) :: gtbl) rm_X6_clash D cs sk [.ref h_t, .int x1] [oX6 h_t q_t (d_t.1), oX4 (q_t 0) q_t_0 (d_t_0.1), ((q_t_0 1), .inl (cs 0, 6, .inl (d_t_0.2 1))), ((q_t_0 2), .inl (cs 0, 6, .inl (d_t_0.2 2))), ((q_t_0 4), .inl (cs 0, 3, .inl (d_t_0.2 4))), ((q_t_0 5), .inl (cs 0, 3, .inl (d_t_0.2 5))), oX0 (q_t 1) q_t_1 (d_t_1.1), ((q_t_1 1), .inl (cs 0, 6, .inl (d_t_1.2 1))), ((q_t_1 2), .inl (cs 0, 6, .inl (d_t_1.2 2))), ((q_t_1 3), .inl (cs 0, 6, .inl (d_t_1.2 3))), oX1 (q_t 8) q_t_8 (d_t_8.1), ((q_t_8 1), .inl (cs 0, 12, .inl (d_t_8.2 1))), ((q_t_8 2), .inl (cs 0, 12, .inl (d_t_8.2 2))), ((q_t_8 3), .inl (cs 0, 12, .inl (d_t_8.2 3))), oX5 (q_t 9) q_t_9 (d_t_9.1), ((q_t_9 0), .inl (cs 0, 36, .inl (d_t_9.2 0))), ((q_t_9 1), .inl (cs 0, 6, .inl (d_t_9.2 1)))] (rv.1) [oX6 h_t q_t (rv.2.1.1), oX4 (q_t 0) q_t_0 (d_t_0.1), ((q_t_0 1), .inl (cs 0, 6, .inl (d_t_0.2 1))), ((q_t_0 2), .inl (cs 0, 6, .inl (d_t_0.2 2))), ((q_t_0 4), .inl (cs 0, 3, .inl (d_t_0.2 4))), ((q_t_0 5), .inl (cs 0, 3, .inl (d_t_0.2 5))), oX0 (q_t 1) q_t_1 (d_t_1.1), ((q_t_1 1), .inl (cs 0, 6, .inl (d_t_1.2 1))), ((q_t_1 2), .inl (cs 0, 6, .inl (d_t_1.2 2))), ((q_t_1 3), .inl (cs 0, 6, .inl (d_t_1.2 3))), oX1 (q_t 8) q_t_8 (rv.2.2.1.1), ((q_t_8 1), .inl (cs 0, 12, .inl (rv.2.2.1.2 1))), ((q_t_8 2), .inl (cs 0, 12, .inl (rv.2.2.1.2 2))), ((q_t_8 3), .inl (cs 0, 12, .inl (rv.2.2.1.2 3))), oX5 (q_t 9) q_t_9 (d_t_9.1), ((q_t_9 0), .inl (cs 0, 36, .inl (rv.2.2.2.2 0))), ((q_t_9 1), .inl (cs 0, 6, .inl (rv.2.2.2.2 1)))] := by
  refine CTi.of RX6 (by decide +kernel) rfl (Nat.le_of_ble_eq_true rfl) (fun p e s m args below meth c A Q ls M hA hR hl hP hD hS => ?_)
  obtain ⟨hx, hb, hml, hT, hown, hlk, hrt, hK, hN, hSE⟩ := id M
  replace hl : lv_has ls 5 [(0, .ref h_t), (1, .int x1)] := hl
  unfold fX6_clash at hf
  refine lv_iload_n hx hb dX6_clash_0 rfl (lv_at hl 1 rfl) ?_
  refine lv_iconst (v := 0) hx hb dX6_clash_1 rfl ?_
  refine lv_sipush (v := 999) hx hb dX6_clash_2 rfl ?_
  obtain ⟨r1, e2, hf⟩ := bind_some hf
  refine callSi (As := [.int x1, .int 0, .int 999]) (rest := []) M (mX6_isWithin l D cs sk  k x1 0 999 e2) mw_X6_121 ln_X6_isWithin ⟨rfl, rfl, Nat.le_of_ble_eq_true rfl, Nat.le_of_ble_eq_true rfl⟩ hP hD hS hA [] (by decide) rfl rfl ⟨Nat.zero_le _, Nat.zero_le _⟩ hl.1 rfl (Nat.le_of_ble_eq_true rfl) dX6_clash_5 (fun H locs hP hD hS => ?_)
  replace hP : va_P D vwCl [oX6 h_t q_t (d_t.1), oX4 (q_t 0) q_t_0 (d_t_0.1), ((q_t_0 1), .inl (cs 0, 6, .inl (d_t_0.2 1))), ((q_t_0 2), .inl (cs 0, 6, .inl (d_t_0.2 2))), ((q_t_0 4), .inl (cs 0, 3, .inl (d_t_0.2 4))), ((q_t_0 5), .inl (cs 0, 3, .inl (d_t_0.2 5))), oX0 (q_t 1) q_t_1 (d_t_1.1), ((q_t_1 1), .inl (cs 0, 6, .inl (d_t_1.2 1))), ((q_t_1 2), .inl (cs 0, 6, .inl (d_t_1.2 2))), ((q_t_1 3), .inl (cs 0, 6, .inl (d_t_1.2 3))), oX1 (q_t 8) q_t_8 (d_t_8.1), ((q_t_8 1), .inl (cs 0, 12, .inl (d_t_8.2 1))), ((q_t_8 2), .inl (cs 0, 12, .inl (d_t_8.2 2))), ((q_t_8 3), .inl (cs 0, 12, .inl (d_t_8.2 3))), oX5 (q_t 9) q_t_9 (d_t_9.1), ((q_t_9 0), .inl (cs 0, 36, .inl (d_t_9.2 0))), ((q_t_9 1), .inl (cs 0, 6, .inl (d_t_9.2 1)))] H := hP
  replace hD : va_D A [oX6 h_t q_t (d_t.1), oX4 (q_t 0) q_t_0 (d_t_0.1), ((q_t_0 1), .inl (cs 0, 6, .inl (d_t_0.2 1))), ((q_t_0 2), .inl (cs 0, 6, .inl (d_t_0.2 2))), ((q_t_0 4), .inl (cs 0, 3, .inl (d_t_0.2 4))), ((q_t_0 5), .inl (cs 0, 3, .inl (d_t_0.2 5))), oX0 (q_t 1) q_t_1 (d_t_1.1), ((q_t_1 1), .inl (cs 0, 6, .inl (d_t_1.2 1))), ((q_t_1 2), .inl (cs 0, 6, .inl (d_t_1.2 2))), ((q_t_1 3), .inl (cs 0, 6, .inl (d_t_1.2 3))), oX1 (q_t 8) q_t_8 (d_t_8.1), ((q_t_8 1), .inl (cs 0, 12, .inl (d_t_8.2 1))), ((q_t_8 2), .inl (cs 0, 12, .inl (d_t_8.2 2))), ((q_t_8 3), .inl (cs 0, 12, .inl (d_t_8.2 3))), oX5 (q_t 9) q_t_9 (d_t_9.1), ((q_t_9 0), .inl (cs 0, 36, .inl (d_t_9.2 0))), ((q_t_9 1), .inl (cs 0, 6, .inl (d_t_9.2 1)))] := hD
  have g4 := ite_some hf
  refine lv_if_ne (tgt := 18) hx hb dX6_clash_8 (by decide) (fun c3 => ?_) (fun c3 => ?_)
  · replace hf := g4.2 c3
    refine lv_aload_n hx hb dX6_clash_18 rfl (lv_at hl 0 rfl) ?_
    refine va_get (D := D) (ci := 6) (v := .ref (q_t 9)) (C := RX6) (T := TX6) (N := 18) hx hb hT iX6 hown hK hP 0 rfl rfl 9 (by decide) (hT _ fw_X6_54) (fun _ h9 => h9) rfl dX6_clash_19 ?_
    refine lv_aload_n hx hb dX6_clash_22 rfl (lv_at hl 0 rfl) ?_
    refine va_get (D := D) (ci := 6) (v := .ref (q_t 0)) (C := RX6) (T := TX6) (N := 18) hx hb hT iX6 hown hK hP 0 rfl rfl 0 (by decide) (hT _ fw_X6_10) (fun _ h9 => h9) rfl dX6_clash_23 ?_
    refine lv_aload_n hx hb dX6_clash_26 rfl (lv_at hl 0 rfl) ?_
    refine va_get (D := D) (ci := 6) (v := .ref (q_t 1)) (C := RX6) (T := TX6) (N := 18) hx hb hT iX6 hown hK hP 0 rfl rfl 1 (by decide) (hT _ fw_X6_19) (fun _ h9 => h9) rfl dX6_clash_27 ?_
    refine lv_aload_n hx hb dX6_clash_30 rfl (lv_at hl 0 rfl) ?_
    refine va_get (D := D) (ci := 6) (v := .ref (q_t 8)) (C := RX6) (T := TX6) (N := 18) hx hb hT iX6 hown hK hP 0 rfl rfl 8 (by decide) (hT _ fw_X6_47) (fun _ h9 => h9) rfl dX6_clash_31 ?_
    refine lv_iload_n hx hb dX6_clash_34 rfl (lv_at hl 1 rfl) ?_
    obtain ⟨r5, e6, hf⟩ := bind_some hf
    refine callVv (As := [.ref (q_t 0), .ref (q_t 1), .ref (q_t 8), .int x1]) (rest := []) M (mX5_weigh l D cs sk (q_t 9) (q_t 0) (q_t 1) (q_t 8) q_t_9 q_t_0 q_t_1 q_t_8 k d_t_9 d_t_0 d_t_1 d_t_8 x1 e6) mw_X6_210 ln_X5_weigh ⟨rfl, rfl, Nat.le_of_ble_eq_true rfl, Nat.le_of_ble_eq_true rfl⟩ hP hD hS hA [14, 15, 1, 2, 3, 4, 5, 6, 7, 8, 9, 10, 11, 12, 13] (by decide) rfl rfl (q0 := 0) rfl rfl rfl ⟨Nat.zero_le _, Nat.zero_le _⟩ hl.1 rfl (Nat.le_of_ble_eq_true rfl) dX6_clash_35 (fun H locs hP hD hS => ?_)
    replace hP : va_P D vwCl [oX6 h_t q_t (d_t.1), oX4 (q_t 0) q_t_0 (d_t_0.1), ((q_t_0 1), .inl (cs 0, 6, .inl (d_t_0.2 1))), ((q_t_0 2), .inl (cs 0, 6, .inl (d_t_0.2 2))), ((q_t_0 4), .inl (cs 0, 3, .inl (d_t_0.2 4))), ((q_t_0 5), .inl (cs 0, 3, .inl (d_t_0.2 5))), oX0 (q_t 1) q_t_1 (d_t_1.1), ((q_t_1 1), .inl (cs 0, 6, .inl (d_t_1.2 1))), ((q_t_1 2), .inl (cs 0, 6, .inl (d_t_1.2 2))), ((q_t_1 3), .inl (cs 0, 6, .inl (d_t_1.2 3))), oX1 (q_t 8) q_t_8 (r5.2.1), ((q_t_8 1), .inl (cs 0, 12, .inl (r5.2.2 1))), ((q_t_8 2), .inl (cs 0, 12, .inl (r5.2.2 2))), ((q_t_8 3), .inl (cs 0, 12, .inl (r5.2.2 3))), oX5 (q_t 9) q_t_9 (d_t_9.1), ((q_t_9 0), .inl (cs 0, 36, .inl (r5.1.2 0))), ((q_t_9 1), .inl (cs 0, 6, .inl (d_t_9.2 1)))] H := hP
    replace hD : va_D A [oX6 h_t q_t (d_t.1), oX4 (q_t 0) q_t_0 (d_t_0.1), ((q_t_0 1), .inl (cs 0, 6, .inl (d_t_0.2 1))), ((q_t_0 2), .inl (cs 0, 6, .inl (d_t_0.2 2))), ((q_t_0 4), .inl (cs 0, 3, .inl (d_t_0.2 4))), ((q_t_0 5), .inl (cs 0, 3, .inl (d_t_0.2 5))), oX0 (q_t 1) q_t_1 (d_t_1.1), ((q_t_1 1), .inl (cs 0, 6, .inl (d_t_1.2 1))), ((q_t_1 2), .inl (cs 0, 6, .inl (d_t_1.2 2))), ((q_t_1 3), .inl (cs 0, 6, .inl (d_t_1.2 3))), oX1 (q_t 8) q_t_8 (r5.2.1), ((q_t_8 1), .inl (cs 0, 12, .inl (r5.2.2 1))), ((q_t_8 2), .inl (cs 0, 12, .inl (r5.2.2 2))), ((q_t_8 3), .inl (cs 0, 12, .inl (r5.2.2 3))), oX5 (q_t 9) q_t_9 (d_t_9.1), ((q_t_9 0), .inl (cs 0, 36, .inl (r5.1.2 0))), ((q_t_9 1), .inl (cs 0, 6, .inl (d_t_9.2 1)))] := hD
    refine lv_aload_n hx hb dX6_clash_38 rfl (lv_at hl 0 rfl) ?_
    obtain ⟨r7, e8, hf⟩ := bind_some hf
    refine callVi (As := []) (rest := []) M (mX6_everyPlayer l D cs sk h_t q_t q_t_1 k d_t d_t_1 e8) mw_X6_214 ln_X6_everyPlayer ⟨rfl, rfl, Nat.le_of_ble_eq_true rfl, Nat.le_of_ble_eq_true rfl⟩ hP hD hS hA [0, 6] (by decide) rfl rfl (q0 := 0) rfl rfl rfl ⟨Nat.zero_le _, Nat.zero_le _⟩ hl.1 rfl (Nat.le_of_ble_eq_true rfl) dX6_clash_39 (fun H locs hP hD hS => ?_)
    replace hP : va_P D vwCl [oX6 h_t q_t (d_t.1), oX4 (q_t 0) q_t_0 (d_t_0.1), ((q_t_0 1), .inl (cs 0, 6, .inl (d_t_0.2 1))), ((q_t_0 2), .inl (cs 0, 6, .inl (d_t_0.2 2))), ((q_t_0 4), .inl (cs 0, 3, .inl (d_t_0.2 4))), ((q_t_0 5), .inl (cs 0, 3, .inl (d_t_0.2 5))), oX0 (q_t 1) q_t_1 (d_t_1.1), ((q_t_1 1), .inl (cs 0, 6, .inl (d_t_1.2 1))), ((q_t_1 2), .inl (cs 0, 6, .inl (d_t_1.2 2))), ((q_t_1 3), .inl (cs 0, 6, .inl (d_t_1.2 3))), oX1 (q_t 8) q_t_8 (r5.2.1), ((q_t_8 1), .inl (cs 0, 12, .inl (r5.2.2 1))), ((q_t_8 2), .inl (cs 0, 12, .inl (r5.2.2 2))), ((q_t_8 3), .inl (cs 0, 12, .inl (r5.2.2 3))), oX5 (q_t 9) q_t_9 (d_t_9.1), ((q_t_9 0), .inl (cs 0, 36, .inl (r5.1.2 0))), ((q_t_9 1), .inl (cs 0, 6, .inl (d_t_9.2 1)))] H := hP
    replace hD : va_D A [oX6 h_t q_t (d_t.1), oX4 (q_t 0) q_t_0 (d_t_0.1), ((q_t_0 1), .inl (cs 0, 6, .inl (d_t_0.2 1))), ((q_t_0 2), .inl (cs 0, 6, .inl (d_t_0.2 2))), ((q_t_0 4), .inl (cs 0, 3, .inl (d_t_0.2 4))), ((q_t_0 5), .inl (cs 0, 3, .inl (d_t_0.2 5))), oX0 (q_t 1) q_t_1 (d_t_1.1), ((q_t_1 1), .inl (cs 0, 6, .inl (d_t_1.2 1))), ((q_t_1 2), .inl (cs 0, 6, .inl (d_t_1.2 2))), ((q_t_1 3), .inl (cs 0, 6, .inl (d_t_1.2 3))), oX1 (q_t 8) q_t_8 (r5.2.1), ((q_t_8 1), .inl (cs 0, 12, .inl (r5.2.2 1))), ((q_t_8 2), .inl (cs 0, 12, .inl (r5.2.2 2))), ((q_t_8 3), .inl (cs 0, 12, .inl (r5.2.2 3))), oX5 (q_t 9) q_t_9 (d_t_9.1), ((q_t_9 0), .inl (cs 0, 36, .inl (r5.1.2 0))), ((q_t_9 1), .inl (cs 0, 6, .inl (d_t_9.2 1)))] := hD
    refine lv_istore_n (lv' := [(2, .int r7), (0, .ref h_t), (1, .int x1)]) hx hb dX6_clash_42 rfl hl (by decide) rfl (fun ls hl => ?_)
    refine lv_aload_n hx hb dX6_clash_43 rfl (lv_at hl 1 rfl) ?_
    refine va_get (D := D) (ci := 6) (v := .ref (q_t 9)) (C := RX6) (T := TX6) (N := 18) hx hb hT iX6 hown hK hP 0 rfl rfl 9 (by decide) (hT _ fw_X6_54) (fun _ h9 => h9) rfl dX6_clash_44 ?_
    refine lv_aload_n hx hb dX6_clash_47 rfl (lv_at hl 1 rfl) ?_
    refine va_get (D := D) (ci := 6) (v := .ref (q_t 1)) (C := RX6) (T := TX6) (N := 18) hx hb hT iX6 hown hK hP 0 rfl rfl 1 (by decide) (hT _ fw_X6_19) (fun _ h9 => h9) rfl dX6_clash_48 ?_
    refine lv_iload_n hx hb dX6_clash_51 rfl (lv_at hl 0 rfl) ?_
    obtain ⟨r9, e10, hf⟩ := bind_some hf
    refine callVi (As := [.ref (q_t 1), .int r7]) (rest := []) M (mX5_tunes l D cs sk (q_t 9) (q_t 1) q_t_9 q_t_1 k (d_t_9.1, (va_up d_t_9.2 0 (r5.1.2 0))) d_t_1 r7 e10) mw_X6_217 ln_X5_tunes ⟨rfl, rfl, Nat.le_of_ble_eq_true rfl, Nat.le_of_ble_eq_true rfl⟩ hP hD hS hA [14, 15, 16, 6, 7] (by decide) rfl rfl (q0 := 0) rfl rfl rfl ⟨Nat.zero_le _, Nat.zero_le _⟩ hl.1 rfl (Nat.le_of_ble_eq_true rfl) dX6_clash_52 (fun H locs hP hD hS => ?_)
    replace hP : va_P D vwCl [oX6 h_t q_t (d_t.1), oX4 (q_t 0) q_t_0 (d_t_0.1), ((q_t_0 1), .inl (cs 0, 6, .inl (d_t_0.2 1))), ((q_t_0 2), .inl (cs 0, 6, .inl (d_t_0.2 2))), ((q_t_0 4), .inl (cs 0, 3, .inl (d_t_0.2 4))), ((q_t_0 5), .inl (cs 0, 3, .inl (d_t_0.2 5))), oX0 (q_t 1) q_t_1 (d_t_1.1), ((q_t_1 1), .inl (cs 0, 6, .inl (d_t_1.2 1))), ((q_t_1 2), .inl (cs 0, 6, .inl (d_t_1.2 2))), ((q_t_1 3), .inl (cs 0, 6, .inl (d_t_1.2 3))), oX1 (q_t 8) q_t_8 (r5.2.1), ((q_t_8 1), .inl (cs 0, 12, .inl (r5.2.2 1))), ((q_t_8 2), .inl (cs 0, 12, .inl (r5.2.2 2))), ((q_t_8 3), .inl (cs 0, 12, .inl (r5.2.2 3))), oX5 (q_t 9) q_t_9 (d_t_9.1), ((q_t_9 0), .inl (cs 0, 36, .inl (r5.1.2 0))), ((q_t_9 1), .inl (cs 0, 6, .inl (r9.2.2 1)))] H := hP
    replace hD : va_D A [oX6 h_t q_t (d_t.1), oX4 (q_t 0) q_t_0 (d_t_0.1), ((q_t_0 1), .inl (cs 0, 6, .inl (d_t_0.2 1))), ((q_t_0 2), .inl (cs 0, 6, .inl (d_t_0.2 2))), ((q_t_0 4), .inl (cs 0, 3, .inl (d_t_0.2 4))), ((q_t_0 5), .inl (cs 0, 3, .inl (d_t_0.2 5))), oX0 (q_t 1) q_t_1 (d_t_1.1), ((q_t_1 1), .inl (cs 0, 6, .inl (d_t_1.2 1))), ((q_t_1 2), .inl (cs 0, 6, .inl (d_t_1.2 2))), ((q_t_1 3), .inl (cs 0, 6, .inl (d_t_1.2 3))), oX1 (q_t 8) q_t_8 (r5.2.1), ((q_t_8 1), .inl (cs 0, 12, .inl (r5.2.2 1))), ((q_t_8 2), .inl (cs 0, 12, .inl (r5.2.2 2))), ((q_t_8 3), .inl (cs 0, 12, .inl (r5.2.2 3))), oX5 (q_t 9) q_t_9 (d_t_9.1), ((q_t_9 0), .inl (cs 0, 36, .inl (r5.1.2 0))), ((q_t_9 1), .inl (cs 0, 6, .inl (r9.2.2 1)))] := hD
    have g12 := ite_some hf
    refine lv_if_eq (tgt := 60) hx hb dX6_clash_55 (by decide) (fun c11 => ?_) (fun c11 => ?_)
    · replace hf := g12.1 c11
      refine lv_iconst (v := 1) hx hb dX6_clash_60 rfl ?_
      refine lv_istore_n (lv' := [(3, .int 1), (2, .int r7), (0, .ref h_t), (1, .int x1)]) hx hb dX6_clash_61 rfl hl (by decide) rfl (fun ls hl => ?_)
      refine mX6_clash_B62 h_t q_t q_t_0 q_t_1 q_t_8 q_t_9 k r7 d_t d_t_0 d_t_1 (r5.2.1, (va_up (va_up (va_up d_t_8.2 1 (r5.2.2 1)) 2 (r5.2.2 2)) 3 (r5.2.2 3))) (d_t_9.1, (va_up (va_up d_t_9.2 0 (r5.1.2 0)) 1 (r9.2.2 1))) _ _ M hA hR (fun w13 hf H locs ls hP hD hS hl => ?_) (fun w14 hf H locs ls hP hD hS hl => ?_) _ _ hf _ _ _ hP hD hS (lv_sub hl [2, 1, 0] rfl)
      · refine lv_iload hx hb dX6_clash_107 (lv_at hl 0 rfl) ?_
        have e9 := Option.some.inj hf
        subst e9
        exact hR _ _ _ _ dX6_clash_109 hP hS
      · refine lv_iconst (v := (-1)) hx hb dX6_clash_122 rfl ?_
        have e9 := Option.some.inj hf
        subst e9
        exact hR _ _ _ _ dX6_clash_123 hP hS
    · replace hf := g12.2 c11
      refine lv_iconst (v := (-1)) hx hb dX6_clash_58 rfl ?_
      have e9 := Option.some.inj hf
      subst e9
      exact hR _ _ _ _ dX6_clash_59 hP hS
  · replace hf := g4.1 c3
    refine lv_aload_n hx hb dX6_clash_11 rfl (lv_at hl 0 rfl) ?_
    refine lv_bipush (v := (-2)) hx hb dX6_clash_12 rfl ?_
    obtain ⟨r15, e16, hf⟩ := bind_some hf
    refine callVi (As := [.int (-2)]) (rest := []) M (mX6_refuseBad l D cs sk h_t q_t k d_t (-2) e16) mw_X6_96 ln_X6_refuseBad ⟨rfl, rfl, Nat.le_of_ble_eq_true rfl, Nat.le_of_ble_eq_true rfl⟩ hP hD hS hA [0] (by decide) rfl rfl (q0 := 0) rfl rfl rfl ⟨Nat.zero_le _, Nat.zero_le _⟩ hl.1 rfl (Nat.le_of_ble_eq_true rfl) dX6_clash_14 (fun H locs hP hD hS => ?_)
    replace hP : va_P D vwCl [oX6 h_t q_t (r15.2.1), oX4 (q_t 0) q_t_0 (d_t_0.1), ((q_t_0 1), .inl (cs 0, 6, .inl (d_t_0.2 1))), ((q_t_0 2), .inl (cs 0, 6, .inl (d_t_0.2 2))), ((q_t_0 4), .inl (cs 0, 3, .inl (d_t_0.2 4))), ((q_t_0 5), .inl (cs 0, 3, .inl (d_t_0.2 5))), oX0 (q_t 1) q_t_1 (d_t_1.1), ((q_t_1 1), .inl (cs 0, 6, .inl (d_t_1.2 1))), ((q_t_1 2), .inl (cs 0, 6, .inl (d_t_1.2 2))), ((q_t_1 3), .inl (cs 0, 6, .inl (d_t_1.2 3))), oX1 (q_t 8) q_t_8 (d_t_8.1), ((q_t_8 1), .inl (cs 0, 12, .inl (d_t_8.2 1))), ((q_t_8 2), .inl (cs 0, 12, .inl (d_t_8.2 2))), ((q_t_8 3), .inl (cs 0, 12, .inl (d_t_8.2 3))), oX5 (q_t 9) q_t_9 (d_t_9.1), ((q_t_9 0), .inl (cs 0, 36, .inl (d_t_9.2 0))), ((q_t_9 1), .inl (cs 0, 6, .inl (d_t_9.2 1)))] H := hP
    replace hD : va_D A [oX6 h_t q_t (r15.2.1), oX4 (q_t 0) q_t_0 (d_t_0.1), ((q_t_0 1), .inl (cs 0, 6, .inl (d_t_0.2 1))), ((q_t_0 2), .inl (cs 0, 6, .inl (d_t_0.2 2))), ((q_t_0 4), .inl (cs 0, 3, .inl (d_t_0.2 4))), ((q_t_0 5), .inl (cs 0, 3, .inl (d_t_0.2 5))), oX0 (q_t 1) q_t_1 (d_t_1.1), ((q_t_1 1), .inl (cs 0, 6, .inl (d_t_1.2 1))), ((q_t_1 2), .inl (cs 0, 6, .inl (d_t_1.2 2))), ((q_t_1 3), .inl (cs 0, 6, .inl (d_t_1.2 3))), oX1 (q_t 8) q_t_8 (d_t_8.1), ((q_t_8 1), .inl (cs 0, 12, .inl (d_t_8.2 1))), ((q_t_8 2), .inl (cs 0, 12, .inl (d_t_8.2 2))), ((q_t_8 3), .inl (cs 0, 12, .inl (d_t_8.2 3))), oX5 (q_t 9) q_t_9 (d_t_9.1), ((q_t_9 0), .inl (cs 0, 36, .inl (d_t_9.2 0))), ((q_t_9 1), .inl (cs 0, 6, .inl (d_t_9.2 1)))] := hD
    have e9 := Option.some.inj hf
    subst e9
    exact hR _ _ _ _ dX6_clash_17 hP hS
abbrev rm_X6_leftOut : Room := { frames := 5, cells := 0, slots := 0, locals := 126 }
def fX6_leftOut_B59 (k : Nat) (x2 : Int32) (x3 : Int32) (d_t_1 : Dat) (d_t_9 : Dat) (K94 : Int32 × Dat → Option (Int32 × Dat × Dat × Dat)) (K103 : Dat → Option (Int32 × Dat × Dat × Dat)) (rec : Int32 × Dat → Option (Int32 × Dat × Dat × Dat)) (v : Int32 × Dat) : Option (Int32 × Dat × Dat × Dat) :=
  (if x2 < (v.1) then K103 (d_t_9.1, (va_up d_t_9.2 1 (v.2.2 1))) else (fJ6_bitCount_0f7a4 k (v.1)).bind (fun (r3 : Int32) => (if r3 = x3 then (fX5_tunes k (d_t_9.1, (va_up d_t_9.2 1 (v.2.2 1))) d_t_1 (x2 &&& ((v.1) ^^^ (-1)))).bind (fun (r7 : Int32 × Dat) => (if (r7.1) = 0 then rec (((v.1) + 1), (d_t_9.1, (va_up d_t_9.2 1 (r7.2.2 1)))) else K94 ((v.1), (d_t_9.1, (va_up d_t_9.2 1 (r7.2.2 1)))))) else rec (((v.1) + 1), (d_t_9.1, (va_up d_t_9.2 1 (v.2.2 1)))))))
def fX6_leftOut_B45 (k : Nat) (x2 : Int32) (d_t_1 : Dat) (d_t_9 : Dat) (K94 : Int32 × Dat → Option (Int32 × Dat × Dat × Dat)) (K109 : Dat → Option (Int32 × Dat × Dat × Dat)) (rec : Int32 × Dat → Option (Int32 × Dat × Dat × Dat)) (v : Int32 × Dat) : Option (Int32 × Dat × Dat × Dat) :=
  (if (d_t_1.1 0) < (v.1) then K109 (d_t_9.1, (va_up d_t_9.2 1 (v.2.2 1))) else lp (fX6_leftOut_B59 k x2 (v.1) d_t_1 (d_t_9.1, (va_up d_t_9.2 1 (v.2.2 1))) (fun (w3 : Int32 × Dat) => K94 ((w3.1), (d_t_9.1, (va_up d_t_9.2 1 (w3.2.2 1))))) (fun (w4 : Dat) => rec (((v.1) + 1), (d_t_9.1, (va_up d_t_9.2 1 (w4.2 1)))))) k (0, (d_t_9.1, (va_up d_t_9.2 1 (v.2.2 1)))))
def fX6_leftOut (k : Nat) (d_t : Dat) (d_t_0 : Dat) (d_t_1 : Dat) (d_t_8 : Dat) (d_t_9 : Dat) (x1 : Int32) : Option (Int32 × Dat × Dat × Dat) :=
  (fX6_isWithin k x1 0 999).bind (fun (r1 : Int32) => (if r1 = 0 then (fX6_refuseBad k d_t (-2)).bind (fun (r11 : Int32 × Dat) => some ((r11.1), (r11.2.1, d_t.2), d_t_8, d_t_9)) else (fX5_weigh k d_t_9 d_t_0 d_t_1 d_t_8 x1).bind (fun (r5 : Dat × Dat) => (fX6_everyPlayer k d_t d_t_1).bind (fun (r7 : Int32) => lp (fX6_leftOut_B45 k r7 d_t_1 (d_t_9.1, (va_up d_t_9.2 0 (r5.1.2 0))) (fun (w9 : Int32 × Dat) => some ((w9.1), d_t, (r5.2.1, (va_up (va_up (va_up d_t_8.2 1 (r5.2.2 1)) 2 (r5.2.2 2)) 3 (r5.2.2 3))), (d_t_9.1, (va_up (va_up d_t_9.2 0 (r5.1.2 0)) 1 (w9.2.2 1))))) (fun (w10 : Dat) => some (r7, d_t, (r5.2.1, (va_up (va_up (va_up d_t_8.2 1 (r5.2.2 1)) 2 (r5.2.2 2)) 3 (r5.2.2 3))), (d_t_9.1, (va_up (va_up d_t_9.2 0 (r5.1.2 0)) 1 (w10.2 1)))))) k (0, (d_t_9.1, (va_up d_t_9.2 0 (r5.1.2 0))))))))
set_option maxHeartbeats 4000000 in
set_option maxRecDepth 100000 in
theorem mX6_leftOut_B59 {l : Launch} {p : Program} {e : Env} {s : State} {m : MethodId} {args : Array Value} {below : List Frame} {meth : Method} {c : Code} {D : va_G} {cs : Nat → ClassId} {sk : Nat → Nat} {A : Nat → Prop} {Q : State → Prop} (h_t : Nat) (q_t : Nat → Nat) (q_t_0 : Nat → Nat) (q_t_1 : Nat → Nat) (q_t_8 : Nat → Nat) (q_t_9 : Nat → Nat) (k : Nat) (x2 : Int32) (x3 : Int32) (d_t : Dat) (d_t_0 : Dat) (d_t_1 : Dat) (d_t_8 : Dat) (d_t_9 : Dat) {rv : Int32 × Dat × Dat × Dat}  (K94 : Int32 × Dat → Option (Int32 × Dat × Dat × Dat)) (K103 : Dat → Option (Int32 × Dat × Dat × Dat))
    (M : MC p s m args meth c D cs sk A RX6 cX6_leftOut 5 (some .int)) (hA : ∀ q, s.heap.size ≤ q → A q) (hR : RetI p l e rm_X6_leftOut s m args below meth c D cX6_leftOut A Q (rv.1) [oX6 h_t q_t (rv.2.1.1), oX4 (q_t 0) q_t_0 (d_t_0.1), ((q_t_0 1), .inl (cs 0, 6, .inl (d_t_0.2 1))), ((q_t_0 2), .inl (cs 0, 6, .inl (d_t_0.2 2))), ((q_t_0 4), .inl (cs 0, 3, .inl (d_t_0.2 4))), ((q_t_0 5), .inl (cs 0, 3, .inl (d_t_0.2 5))), oX0 (q_t 1) q_t_1 (d_t_1.1), ((q_t_1 1), .inl (cs 0, 6, .inl (d_t_1.2 1))), ((q_t_1 2), .inl (cs 0, 6, .inl (d_t_1.2 2))), ((q_t_1 3), .inl (cs 0, 6, .inl (d_t_1.2 3))), oX1 (q_t 8) q_t_8 (rv.2.2.1.1), ((q_t_8 1), .inl (cs 0, 12, .inl (rv.2.2.1.2 1))), ((q_t_8 2), .inl (cs 0, 12, .inl (rv.2.2.1.2 2))), ((q_t_8 3), .inl (cs 0, 12, .inl (rv.2.2.1.2 3))), oX5 (q_t 9) q_t_9 (d_t_9.1), ((q_t_9 0), .inl (cs 0, 36, .inl (rv.2.2.2.2 0))), ((q_t_9 1), .inl (cs 0, 6, .inl (rv.2.2.2.2 1)))])
    (hK94 : ∀ (w : Int32 × Dat), K94 w = some rv → ∀ (H : Heap) (locs : List Loc) (ls : Array Slot), va_P D vwCl [oX6 h_t q_t (d_t.1), oX4 (q_t 0) q_t_0 (d_t_0.1), ((q_t_0 1), .inl (cs 0, 6, .inl (d_t_0.2 1))), ((q_t_0 2), .inl (cs 0, 6, .inl (d_t_0.2 2))), ((q_t_0 4), .inl (cs 0, 3, .inl (d_t_0.2 4))), ((q_t_0 5), .inl (cs 0, 3, .inl (d_t_0.2 5))), oX0 (q_t 1) q_t_1 (d_t_1.1), ((q_t_1 1), .inl (cs 0, 6, .inl (d_t_1.2 1))), ((q_t_1 2), .inl (cs 0, 6, .inl (d_t_1.2 2))), ((q_t_1 3), .inl (cs 0, 6, .inl (d_t_1.2 3))), oX1 (q_t 8) q_t_8 (d_t_8.1), ((q_t_8 1), .inl (cs 0, 12, .inl (d_t_8.2 1))), ((q_t_8 2), .inl (cs 0, 12, .inl (d_t_8.2 2))), ((q_t_8 3), .inl (cs 0, 12, .inl (d_t_8.2 3))), oX5 (q_t 9) q_t_9 (d_t_9.1), ((q_t_9 0), .inl (cs 0, 36, .inl (d_t_9.2 0))), ((q_t_9 1), .inl (cs 0, 6, .inl (w.2.2 1)))] H → va_D A [oX6 h_t q_t (d_t.1), oX4 (q_t 0) q_t_0 (d_t_0.1), ((q_t_0 1), .inl (cs 0, 6, .inl (d_t_0.2 1))), ((q_t_0 2), .inl (cs 0, 6, .inl (d_t_0.2 2))), ((q_t_0 4), .inl (cs 0, 3, .inl (d_t_0.2 4))), ((q_t_0 5), .inl (cs 0, 3, .inl (d_t_0.2 5))), oX0 (q_t 1) q_t_1 (d_t_1.1), ((q_t_1 1), .inl (cs 0, 6, .inl (d_t_1.2 1))), ((q_t_1 2), .inl (cs 0, 6, .inl (d_t_1.2 2))), ((q_t_1 3), .inl (cs 0, 6, .inl (d_t_1.2 3))), oX1 (q_t 8) q_t_8 (d_t_8.1), ((q_t_8 1), .inl (cs 0, 12, .inl (d_t_8.2 1))), ((q_t_8 2), .inl (cs 0, 12, .inl (d_t_8.2 2))), ((q_t_8 3), .inl (cs 0, 12, .inl (d_t_8.2 3))), oX5 (q_t 9) q_t_9 (d_t_9.1), ((q_t_9 0), .inl (cs 0, 36, .inl (d_t_9.2 0))), ((q_t_9 1), .inl (cs 0, 6, .inl (w.2.2 1)))] → va_S A s.heap H locs → lv_has ls 5 [(4, .int (w.1))] → W p l e rm_X6_leftOut s m args below meth c H locs 0 0 Q (F0 m 94 ls []))
    (hK103 : ∀ (w : Dat), K103 w = some rv → ∀ (H : Heap) (locs : List Loc) (ls : Array Slot), va_P D vwCl [oX6 h_t q_t (d_t.1), oX4 (q_t 0) q_t_0 (d_t_0.1), ((q_t_0 1), .inl (cs 0, 6, .inl (d_t_0.2 1))), ((q_t_0 2), .inl (cs 0, 6, .inl (d_t_0.2 2))), ((q_t_0 4), .inl (cs 0, 3, .inl (d_t_0.2 4))), ((q_t_0 5), .inl (cs 0, 3, .inl (d_t_0.2 5))), oX0 (q_t 1) q_t_1 (d_t_1.1), ((q_t_1 1), .inl (cs 0, 6, .inl (d_t_1.2 1))), ((q_t_1 2), .inl (cs 0, 6, .inl (d_t_1.2 2))), ((q_t_1 3), .inl (cs 0, 6, .inl (d_t_1.2 3))), oX1 (q_t 8) q_t_8 (d_t_8.1), ((q_t_8 1), .inl (cs 0, 12, .inl (d_t_8.2 1))), ((q_t_8 2), .inl (cs 0, 12, .inl (d_t_8.2 2))), ((q_t_8 3), .inl (cs 0, 12, .inl (d_t_8.2 3))), oX5 (q_t 9) q_t_9 (d_t_9.1), ((q_t_9 0), .inl (cs 0, 36, .inl (d_t_9.2 0))), ((q_t_9 1), .inl (cs 0, 6, .inl (w.2 1)))] H → va_D A [oX6 h_t q_t (d_t.1), oX4 (q_t 0) q_t_0 (d_t_0.1), ((q_t_0 1), .inl (cs 0, 6, .inl (d_t_0.2 1))), ((q_t_0 2), .inl (cs 0, 6, .inl (d_t_0.2 2))), ((q_t_0 4), .inl (cs 0, 3, .inl (d_t_0.2 4))), ((q_t_0 5), .inl (cs 0, 3, .inl (d_t_0.2 5))), oX0 (q_t 1) q_t_1 (d_t_1.1), ((q_t_1 1), .inl (cs 0, 6, .inl (d_t_1.2 1))), ((q_t_1 2), .inl (cs 0, 6, .inl (d_t_1.2 2))), ((q_t_1 3), .inl (cs 0, 6, .inl (d_t_1.2 3))), oX1 (q_t 8) q_t_8 (d_t_8.1), ((q_t_8 1), .inl (cs 0, 12, .inl (d_t_8.2 1))), ((q_t_8 2), .inl (cs 0, 12, .inl (d_t_8.2 2))), ((q_t_8 3), .inl (cs 0, 12, .inl (d_t_8.2 3))), oX5 (q_t 9) q_t_9 (d_t_9.1), ((q_t_9 0), .inl (cs 0, 36, .inl (d_t_9.2 0))), ((q_t_9 1), .inl (cs 0, 6, .inl (w.2 1)))] → va_S A s.heap H locs → lv_has ls 5 [(0, .ref h_t), (2, .int x2), (3, .int x3)] → W p l e rm_X6_leftOut s m args below meth c H locs 0 0 Q (F0 m 103 ls []))
    : ∀ (n : Nat) (v : Int32 × Dat), lp (fX6_leftOut_B59 k x2 x3 d_t_1 d_t_9 K94 K103) n v = some rv → ∀ (H : Heap) (locs : List Loc) (ls : Array Slot), va_P D vwCl [oX6 h_t q_t (d_t.1), oX4 (q_t 0) q_t_0 (d_t_0.1), ((q_t_0 1), .inl (cs 0, 6, .inl (d_t_0.2 1))), ((q_t_0 2), .inl (cs 0, 6, .inl (d_t_0.2 2))), ((q_t_0 4), .inl (cs 0, 3, .inl (d_t_0.2 4))), ((q_t_0 5), .inl (cs 0, 3, .inl (d_t_0.2 5))), oX0 (q_t 1) q_t_1 (d_t_1.1), ((q_t_1 1), .inl (cs 0, 6, .inl (d_t_1.2 1))), ((q_t_1 2), .inl (cs 0, 6, .inl (d_t_1.2 2))), ((q_t_1 3), .inl (cs 0, 6, .inl (d_t_1.2 3))), oX1 (q_t 8) q_t_8 (d_t_8.1), ((q_t_8 1), .inl (cs 0, 12, .inl (d_t_8.2 1))), ((q_t_8 2), .inl (cs 0, 12, .inl (d_t_8.2 2))), ((q_t_8 3), .inl (cs 0, 12, .inl (d_t_8.2 3))), oX5 (q_t 9) q_t_9 (d_t_9.1), ((q_t_9 0), .inl (cs 0, 36, .inl (d_t_9.2 0))), ((q_t_9 1), .inl (cs 0, 6, .inl (v.2.2 1)))] H → va_D A [oX6 h_t q_t (d_t.1), oX4 (q_t 0) q_t_0 (d_t_0.1), ((q_t_0 1), .inl (cs 0, 6, .inl (d_t_0.2 1))), ((q_t_0 2), .inl (cs 0, 6, .inl (d_t_0.2 2))), ((q_t_0 4), .inl (cs 0, 3, .inl (d_t_0.2 4))), ((q_t_0 5), .inl (cs 0, 3, .inl (d_t_0.2 5))), oX0 (q_t 1) q_t_1 (d_t_1.1), ((q_t_1 1), .inl (cs 0, 6, .inl (d_t_1.2 1))), ((q_t_1 2), .inl (cs 0, 6, .inl (d_t_1.2 2))), ((q_t_1 3), .inl (cs 0, 6, .inl (d_t_1.2 3))), oX1 (q_t 8) q_t_8 (d_t_8.1), ((q_t_8 1), .inl (cs 0, 12, .inl (d_t_8.2 1))), ((q_t_8 2), .inl (cs 0, 12, .inl (d_t_8.2 2))), ((q_t_8 3), .inl (cs 0, 12, .inl (d_t_8.2 3))), oX5 (q_t 9) q_t_9 (d_t_9.1), ((q_t_9 0), .inl (cs 0, 36, .inl (d_t_9.2 0))), ((q_t_9 1), .inl (cs 0, 6, .inl (v.2.2 1)))] → va_S A s.heap H locs → lv_has ls 5 [(0, .ref h_t), (2, .int x2), (3, .int x3), (4, .int (v.1))] → W p l e rm_X6_leftOut s m args below meth c H locs 0 0 Q (F0 m 59 ls []) := by
  obtain ⟨hx, hb, hml, hT, hown, hlk, hrt, hK, hN, hSE⟩ := id M
  refine lp_ind (fun rec ih v hf H locs ls hP hD hS hl => ?_)
  unfold fX6_leftOut_B59 at hf
  refine lv_iload hx hb dX6_leftOut_59 (lv_at hl 3 rfl) ?_
  refine lv_iload_n hx hb dX6_leftOut_61 rfl (lv_at hl 1 rfl) ?_
  have g2 := ite_some hf
  refine lv_icmp_gt (tgt := 103) hx hb dX6_leftOut_62 (by decide) (fun c1 => ?_) (fun c1 => ?_)
  · replace hf := g2.1 c1
    exact hK103 _ hf _ _ _ hP hD hS (lv_sub hl [0, 1, 2] rfl)
  · replace hf := g2.2 c1
    refine lv_iload hx hb dX6_leftOut_65 (lv_at hl 3 rfl) ?_
    obtain ⟨r3, e4, hf⟩ := bind_some hf
    refine callSi (As := [.int (v.1)]) (rest := []) M (mJ6_bitCount_0f7a4 l D cs sk  k (v.1) e4) mw_X6_224 ln_J6_bitCount_0f7a4 ⟨rfl, rfl, Nat.le_of_ble_eq_true rfl, Nat.le_of_ble_eq_true rfl⟩ hP hD hS hA [] (by decide) rfl rfl ⟨Nat.zero_le _, Nat.zero_le _⟩ hl.1 rfl (Nat.le_of_ble_eq_true rfl) dX6_leftOut_67 (fun H locs hP hD hS => ?_)
    replace hP : va_P D vwCl [oX6 h_t q_t (d_t.1), oX4 (q_t 0) q_t_0 (d_t_0.1), ((q_t_0 1), .inl (cs 0, 6, .inl (d_t_0.2 1))), ((q_t_0 2), .inl (cs 0, 6, .inl (d_t_0.2 2))), ((q_t_0 4), .inl (cs 0, 3, .inl (d_t_0.2 4))), ((q_t_0 5), .inl (cs 0, 3, .inl (d_t_0.2 5))), oX0 (q_t 1) q_t_1 (d_t_1.1), ((q_t_1 1), .inl (cs 0, 6, .inl (d_t_1.2 1))), ((q_t_1 2), .inl (cs 0, 6, .inl (d_t_1.2 2))), ((q_t_1 3), .inl (cs 0, 6, .inl (d_t_1.2 3))), oX1 (q_t 8) q_t_8 (d_t_8.1), ((q_t_8 1), .inl (cs 0, 12, .inl (d_t_8.2 1))), ((q_t_8 2), .inl (cs 0, 12, .inl (d_t_8.2 2))), ((q_t_8 3), .inl (cs 0, 12, .inl (d_t_8.2 3))), oX5 (q_t 9) q_t_9 (d_t_9.1), ((q_t_9 0), .inl (cs 0, 36, .inl (d_t_9.2 0))), ((q_t_9 1), .inl (cs 0, 6, .inl (v.2.2 1)))] H := hP
    replace hD : va_D A [oX6 h_t q_t (d_t.1), oX4 (q_t 0) q_t_0 (d_t_0.1), ((q_t_0 1), .inl (cs 0, 6, .inl (d_t_0.2 1))), ((q_t_0 2), .inl (cs 0, 6, .inl (d_t_0.2 2))), ((q_t_0 4), .inl (cs 0, 3, .inl (d_t_0.2 4))), ((q_t_0 5), .inl (cs 0, 3, .inl (d_t_0.2 5))), oX0 (q_t 1) q_t_1 (d_t_1.1), ((q_t_1 1), .inl (cs 0, 6, .inl (d_t_1.2 1))), ((q_t_1 2), .inl (cs 0, 6, .inl (d_t_1.2 2))), ((q_t_1 3), .inl (cs 0, 6, .inl (d_t_1.2 3))), oX1 (q_t 8) q_t_8 (d_t_8.1), ((q_t_8 1), .inl (cs 0, 12, .inl (d_t_8.2 1))), ((q_t_8 2), .inl (cs 0, 12, .inl (d_t_8.2 2))), ((q_t_8 3), .inl (cs 0, 12, .inl (d_t_8.2 3))), oX5 (q_t 9) q_t_9 (d_t_9.1), ((q_t_9 0), .inl (cs 0, 36, .inl (d_t_9.2 0))), ((q_t_9 1), .inl (cs 0, 6, .inl (v.2.2 1)))] := hD
    refine lv_iload_n hx hb dX6_leftOut_70 rfl (lv_at hl 2 rfl) ?_
    have g6 := ite_some hf
    refine lv_icmp_ne (tgt := 97) hx hb dX6_leftOut_71 (by decide) (fun c5 => ?_) (fun c5 => ?_)
    · replace hf := g6.2 c5
      refine lv_iinc (v := ((v.1) + 1)) (lv' := [(4, .int ((v.1) + 1)), (0, .ref h_t), (2, .int x2), (3, .int x3)]) hx hb dX6_leftOut_97 hl (k := 3) rfl rfl (by decide) rfl (fun ls hl => ?_)
      refine lv_goto (tgt := 59) hx hb dX6_leftOut_100 (by decide) ?_
      exact ih _ hf _ _ _ hP hD hS (lv_sub hl [1, 2, 3, 0] rfl)
    · replace hf := g6.1 c5
      refine lv_aload_n hx hb dX6_leftOut_74 rfl (lv_at hl 0 rfl) ?_
      refine va_get (D := D) (ci := 6) (v := .ref (q_t 9)) (C := RX6) (T := TX6) (N := 18) hx hb hT iX6 hown hK hP 0 rfl rfl 9 (by decide) (hT _ fw_X6_54) (fun _ h9 => h9) rfl dX6_leftOut_75 ?_
      refine lv_aload_n hx hb dX6_leftOut_78 rfl (lv_at hl 0 rfl) ?_
      refine va_get (D := D) (ci := 6) (v := .ref (q_t 1)) (C := RX6) (T := TX6) (N := 18) hx hb hT iX6 hown hK hP 0 rfl rfl 1 (by decide) (hT _ fw_X6_19) (fun _ h9 => h9) rfl dX6_leftOut_79 ?_
      refine lv_iload_n hx hb dX6_leftOut_82 rfl (lv_at hl 1 rfl) ?_
      refine lv_iload hx hb dX6_leftOut_83 (lv_at hl 3 rfl) ?_
      refine lv_iconst (v := (-1)) hx hb dX6_leftOut_85 rfl ?_
      refine lv_ixor hx hb dX6_leftOut_86 ?_
      refine lv_iand hx hb dX6_leftOut_87 ?_
      obtain ⟨r7, e8, hf⟩ := bind_some hf
      refine callVi (As := [.ref (q_t 1), .int (x2 &&& ((v.1) ^^^ (-1)))]) (rest := []) M (mX5_tunes l D cs sk (q_t 9) (q_t 1) q_t_9 q_t_1 k (d_t_9.1, (va_up d_t_9.2 1 (v.2.2 1))) d_t_1 (x2 &&& ((v.1) ^^^ (-1))) e8) mw_X6_217 ln_X5_tunes ⟨rfl, rfl, Nat.le_of_ble_eq_true rfl, Nat.le_of_ble_eq_true rfl⟩ hP hD hS hA [14, 15, 16, 6, 7] (by decide) rfl rfl (q0 := 0) rfl rfl rfl ⟨Nat.zero_le _, Nat.zero_le _⟩ hl.1 rfl (Nat.le_of_ble_eq_true rfl) dX6_leftOut_88 (fun H locs hP hD hS => ?_)
      replace hP : va_P D vwCl [oX6 h_t q_t (d_t.1), oX4 (q_t 0) q_t_0 (d_t_0.1), ((q_t_0 1), .inl (cs 0, 6, .inl (d_t_0.2 1))), ((q_t_0 2), .inl (cs 0, 6, .inl (d_t_0.2 2))), ((q_t_0 4), .inl (cs 0, 3, .inl (d_t_0.2 4))), ((q_t_0 5), .inl (cs 0, 3, .inl (d_t_0.2 5))), oX0 (q_t 1) q_t_1 (d_t_1.1), ((q_t_1 1), .inl (cs 0, 6, .inl (d_t_1.2 1))), ((q_t_1 2), .inl (cs 0, 6, .inl (d_t_1.2 2))), ((q_t_1 3), .inl (cs 0, 6, .inl (d_t_1.2 3))), oX1 (q_t 8) q_t_8 (d_t_8.1), ((q_t_8 1), .inl (cs 0, 12, .inl (d_t_8.2 1))), ((q_t_8 2), .inl (cs 0, 12, .inl (d_t_8.2 2))), ((q_t_8 3), .inl (cs 0, 12, .inl (d_t_8.2 3))), oX5 (q_t 9) q_t_9 (d_t_9.1), ((q_t_9 0), .inl (cs 0, 36, .inl (d_t_9.2 0))), ((q_t_9 1), .inl (cs 0, 6, .inl (r7.2.2 1)))] H := hP
      replace hD : va_D A [oX6 h_t q_t (d_t.1), oX4 (q_t 0) q_t_0 (d_t_0.1), ((q_t_0 1), .inl (cs 0, 6, .inl (d_t_0.2 1))), ((q_t_0 2), .inl (cs 0, 6, .inl (d_t_0.2 2))), ((q_t_0 4), .inl (cs 0, 3, .inl (d_t_0.2 4))), ((q_t_0 5), .inl (cs 0, 3, .inl (d_t_0.2 5))), oX0 (q_t 1) q_t_1 (d_t_1.1), ((q_t_1 1), .inl (cs 0, 6, .inl (d_t_1.2 1))), ((q_t_1 2), .inl (cs 0, 6, .inl (d_t_1.2 2))), ((q_t_1 3), .inl (cs 0, 6, .inl (d_t_1.2 3))), oX1 (q_t 8) q_t_8 (d_t_8.1), ((q_t_8 1), .inl (cs 0, 12, .inl (d_t_8.2 1))), ((q_t_8 2), .inl (cs 0, 12, .inl (d_t_8.2 2))), ((q_t_8 3), .inl (cs 0, 12, .inl (d_t_8.2 3))), oX5 (q_t 9) q_t_9 (d_t_9.1), ((q_t_9 0), .inl (cs 0, 36, .inl (d_t_9.2 0))), ((q_t_9 1), .inl (cs 0, 6, .inl (r7.2.2 1)))] := hD
      have g10 := ite_some hf
      refine lv_if_eq (tgt := 97) hx hb dX6_leftOut_91 (by decide) (fun c9 => ?_) (fun c9 => ?_)
      · replace hf := g10.1 c9
        refine lv_iinc (v := ((v.1) + 1)) (lv' := [(4, .int ((v.1) + 1)), (0, .ref h_t), (2, .int x2), (3, .int x3)]) hx hb dX6_leftOut_97 hl (k := 3) rfl rfl (by decide) rfl (fun ls hl => ?_)
        refine lv_goto (tgt := 59) hx hb dX6_leftOut_100 (by decide) ?_
        exact ih _ hf _ _ _ hP hD hS (lv_sub hl [1, 2, 3, 0] rfl)
      · replace hf := g10.2 c9
        exact hK94 _ hf _ _ _ hP hD hS (lv_sub hl [3] rfl)
set_option maxHeartbeats 4000000 in
set_option maxRecDepth 100000 in
theorem mX6_leftOut_B45 {l : Launch} {p : Program} {e : Env} {s : State} {m : MethodId} {args : Array Value} {below : List Frame} {meth : Method} {c : Code} {D : va_G} {cs : Nat → ClassId} {sk : Nat → Nat} {A : Nat → Prop} {Q : State → Prop} (h_t : Nat) (q_t : Nat → Nat) (q_t_0 : Nat → Nat) (q_t_1 : Nat → Nat) (q_t_8 : Nat → Nat) (q_t_9 : Nat → Nat) (k : Nat) (x2 : Int32) (d_t : Dat) (d_t_0 : Dat) (d_t_1 : Dat) (d_t_8 : Dat) (d_t_9 : Dat) {rv : Int32 × Dat × Dat × Dat}  (K94 : Int32 × Dat → Option (Int32 × Dat × Dat × Dat)) (K109 : Dat → Option (Int32 × Dat × Dat × Dat))
    (M : MC p s m args meth c D cs sk A RX6 cX6_leftOut 5 (some .int)) (hA : ∀ q, s.heap.size ≤ q → A q) (hR : RetI p l e rm_X6_leftOut s m args below meth c D cX6_leftOut A Q (rv.1) [oX6 h_t q_t (rv.2.1.1), oX4 (q_t 0) q_t_0 (d_t_0.1), ((q_t_0 1), .inl (cs 0, 6, .inl (d_t_0.2 1))), ((q_t_0 2), .inl (cs 0, 6, .inl (d_t_0.2 2))), ((q_t_0 4), .inl (cs 0, 3, .inl (d_t_0.2 4))), ((q_t_0 5), .inl (cs 0, 3, .inl (d_t_0.2 5))), oX0 (q_t 1) q_t_1 (d_t_1.1), ((q_t_1 1), .inl (cs 0, 6, .inl (d_t_1.2 1))), ((q_t_1 2), .inl (cs 0, 6, .inl (d_t_1.2 2))), ((q_t_1 3), .inl (cs 0, 6, .inl (d_t_1.2 3))), oX1 (q_t 8) q_t_8 (rv.2.2.1.1), ((q_t_8 1), .inl (cs 0, 12, .inl (rv.2.2.1.2 1))), ((q_t_8 2), .inl (cs 0, 12, .inl (rv.2.2.1.2 2))), ((q_t_8 3), .inl (cs 0, 12, .inl (rv.2.2.1.2 3))), oX5 (q_t 9) q_t_9 (d_t_9.1), ((q_t_9 0), .inl (cs 0, 36, .inl (rv.2.2.2.2 0))), ((q_t_9 1), .inl (cs 0, 6, .inl (rv.2.2.2.2 1)))])
    (hK94 : ∀ (w : Int32 × Dat), K94 w = some rv → ∀ (H : Heap) (locs : List Loc) (ls : Array Slot), va_P D vwCl [oX6 h_t q_t (d_t.1), oX4 (q_t 0) q_t_0 (d_t_0.1), ((q_t_0 1), .inl (cs 0, 6, .inl (d_t_0.2 1))), ((q_t_0 2), .inl (cs 0, 6, .inl (d_t_0.2 2))), ((q_t_0 4), .inl (cs 0, 3, .inl (d_t_0.2 4))), ((q_t_0 5), .inl (cs 0, 3, .inl (d_t_0.2 5))), oX0 (q_t 1) q_t_1 (d_t_1.1), ((q_t_1 1), .inl (cs 0, 6, .inl (d_t_1.2 1))), ((q_t_1 2), .inl (cs 0, 6, .inl (d_t_1.2 2))), ((q_t_1 3), .inl (cs 0, 6, .inl (d_t_1.2 3))), oX1 (q_t 8) q_t_8 (d_t_8.1), ((q_t_8 1), .inl (cs 0, 12, .inl (d_t_8.2 1))), ((q_t_8 2), .inl (cs 0, 12, .inl (d_t_8.2 2))), ((q_t_8 3), .inl (cs 0, 12, .inl (d_t_8.2 3))), oX5 (q_t 9) q_t_9 (d_t_9.1), ((q_t_9 0), .inl (cs 0, 36, .inl (d_t_9.2 0))), ((q_t_9 1), .inl (cs 0, 6, .inl (w.2.2 1)))] H → va_D A [oX6 h_t q_t (d_t.1), oX4 (q_t 0) q_t_0 (d_t_0.1), ((q_t_0 1), .inl (cs 0, 6, .inl (d_t_0.2 1))), ((q_t_0 2), .inl (cs 0, 6, .inl (d_t_0.2 2))), ((q_t_0 4), .inl (cs 0, 3, .inl (d_t_0.2 4))), ((q_t_0 5), .inl (cs 0, 3, .inl (d_t_0.2 5))), oX0 (q_t 1) q_t_1 (d_t_1.1), ((q_t_1 1), .inl (cs 0, 6, .inl (d_t_1.2 1))), ((q_t_1 2), .inl (cs 0, 6, .inl (d_t_1.2 2))), ((q_t_1 3), .inl (cs 0, 6, .inl (d_t_1.2 3))), oX1 (q_t 8) q_t_8 (d_t_8.1), ((q_t_8 1), .inl (cs 0, 12, .inl (d_t_8.2 1))), ((q_t_8 2), .inl (cs 0, 12, .inl (d_t_8.2 2))), ((q_t_8 3), .inl (cs 0, 12, .inl (d_t_8.2 3))), oX5 (q_t 9) q_t_9 (d_t_9.1), ((q_t_9 0), .inl (cs 0, 36, .inl (d_t_9.2 0))), ((q_t_9 1), .inl (cs 0, 6, .inl (w.2.2 1)))] → va_S A s.heap H locs → lv_has ls 5 [(4, .int (w.1))] → W p l e rm_X6_leftOut s m args below meth c H locs 0 0 Q (F0 m 94 ls []))
    (hK109 : ∀ (w : Dat), K109 w = some rv → ∀ (H : Heap) (locs : List Loc) (ls : Array Slot), va_P D vwCl [oX6 h_t q_t (d_t.1), oX4 (q_t 0) q_t_0 (d_t_0.1), ((q_t_0 1), .inl (cs 0, 6, .inl (d_t_0.2 1))), ((q_t_0 2), .inl (cs 0, 6, .inl (d_t_0.2 2))), ((q_t_0 4), .inl (cs 0, 3, .inl (d_t_0.2 4))), ((q_t_0 5), .inl (cs 0, 3, .inl (d_t_0.2 5))), oX0 (q_t 1) q_t_1 (d_t_1.1), ((q_t_1 1), .inl (cs 0, 6, .inl (d_t_1.2 1))), ((q_t_1 2), .inl (cs 0, 6, .inl (d_t_1.2 2))), ((q_t_1 3), .inl (cs 0, 6, .inl (d_t_1.2 3))), oX1 (q_t 8) q_t_8 (d_t_8.1), ((q_t_8 1), .inl (cs 0, 12, .inl (d_t_8.2 1))), ((q_t_8 2), .inl (cs 0, 12, .inl (d_t_8.2 2))), ((q_t_8 3), .inl (cs 0, 12, .inl (d_t_8.2 3))), oX5 (q_t 9) q_t_9 (d_t_9.1), ((q_t_9 0), .inl (cs 0, 36, .inl (d_t_9.2 0))), ((q_t_9 1), .inl (cs 0, 6, .inl (w.2 1)))] H → va_D A [oX6 h_t q_t (d_t.1), oX4 (q_t 0) q_t_0 (d_t_0.1), ((q_t_0 1), .inl (cs 0, 6, .inl (d_t_0.2 1))), ((q_t_0 2), .inl (cs 0, 6, .inl (d_t_0.2 2))), ((q_t_0 4), .inl (cs 0, 3, .inl (d_t_0.2 4))), ((q_t_0 5), .inl (cs 0, 3, .inl (d_t_0.2 5))), oX0 (q_t 1) q_t_1 (d_t_1.1), ((q_t_1 1), .inl (cs 0, 6, .inl (d_t_1.2 1))), ((q_t_1 2), .inl (cs 0, 6, .inl (d_t_1.2 2))), ((q_t_1 3), .inl (cs 0, 6, .inl (d_t_1.2 3))), oX1 (q_t 8) q_t_8 (d_t_8.1), ((q_t_8 1), .inl (cs 0, 12, .inl (d_t_8.2 1))), ((q_t_8 2), .inl (cs 0, 12, .inl (d_t_8.2 2))), ((q_t_8 3), .inl (cs 0, 12, .inl (d_t_8.2 3))), oX5 (q_t 9) q_t_9 (d_t_9.1), ((q_t_9 0), .inl (cs 0, 36, .inl (d_t_9.2 0))), ((q_t_9 1), .inl (cs 0, 6, .inl (w.2 1)))] → va_S A s.heap H locs → lv_has ls 5 [(2, .int x2)] → W p l e rm_X6_leftOut s m args below meth c H locs 0 0 Q (F0 m 109 ls []))
    : ∀ (n : Nat) (v : Int32 × Dat), lp (fX6_leftOut_B45 k x2 d_t_1 d_t_9 K94 K109) n v = some rv → ∀ (H : Heap) (locs : List Loc) (ls : Array Slot), va_P D vwCl [oX6 h_t q_t (d_t.1), oX4 (q_t 0) q_t_0 (d_t_0.1), ((q_t_0 1), .inl (cs 0, 6, .inl (d_t_0.2 1))), ((q_t_0 2), .inl (cs 0, 6, .inl (d_t_0.2 2))), ((q_t_0 4), .inl (cs 0, 3, .inl (d_t_0.2 4))), ((q_t_0 5), .inl (cs 0, 3, .inl (d_t_0.2 5))), oX0 (q_t 1) q_t_1 (d_t_1.1), ((q_t_1 1), .inl (cs 0, 6, .inl (d_t_1.2 1))), ((q_t_1 2), .inl (cs 0, 6, .inl (d_t_1.2 2))), ((q_t_1 3), .inl (cs 0, 6, .inl (d_t_1.2 3))), oX1 (q_t 8) q_t_8 (d_t_8.1), ((q_t_8 1), .inl (cs 0, 12, .inl (d_t_8.2 1))), ((q_t_8 2), .inl (cs 0, 12, .inl (d_t_8.2 2))), ((q_t_8 3), .inl (cs 0, 12, .inl (d_t_8.2 3))), oX5 (q_t 9) q_t_9 (d_t_9.1), ((q_t_9 0), .inl (cs 0, 36, .inl (d_t_9.2 0))), ((q_t_9 1), .inl (cs 0, 6, .inl (v.2.2 1)))] H → va_D A [oX6 h_t q_t (d_t.1), oX4 (q_t 0) q_t_0 (d_t_0.1), ((q_t_0 1), .inl (cs 0, 6, .inl (d_t_0.2 1))), ((q_t_0 2), .inl (cs 0, 6, .inl (d_t_0.2 2))), ((q_t_0 4), .inl (cs 0, 3, .inl (d_t_0.2 4))), ((q_t_0 5), .inl (cs 0, 3, .inl (d_t_0.2 5))), oX0 (q_t 1) q_t_1 (d_t_1.1), ((q_t_1 1), .inl (cs 0, 6, .inl (d_t_1.2 1))), ((q_t_1 2), .inl (cs 0, 6, .inl (d_t_1.2 2))), ((q_t_1 3), .inl (cs 0, 6, .inl (d_t_1.2 3))), oX1 (q_t 8) q_t_8 (d_t_8.1), ((q_t_8 1), .inl (cs 0, 12, .inl (d_t_8.2 1))), ((q_t_8 2), .inl (cs 0, 12, .inl (d_t_8.2 2))), ((q_t_8 3), .inl (cs 0, 12, .inl (d_t_8.2 3))), oX5 (q_t 9) q_t_9 (d_t_9.1), ((q_t_9 0), .inl (cs 0, 36, .inl (d_t_9.2 0))), ((q_t_9 1), .inl (cs 0, 6, .inl (v.2.2 1)))] → va_S A s.heap H locs → lv_has ls 5 [(0, .ref h_t), (2, .int x2), (3, .int (v.1))] → W p l e rm_X6_leftOut s m args below meth c H locs 0 0 Q (F0 m 45 ls []) := by
  obtain ⟨hx, hb, hml, hT, hown, hlk, hrt, hK, hN, hSE⟩ := id M
  refine lp_ind (fun rec ih v hf H locs ls hP hD hS hl => ?_)
  unfold fX6_leftOut_B45 at hf
  refine lv_iload_n hx hb dX6_leftOut_45 rfl (lv_at hl 2 rfl) ?_
  refine lv_aload_n hx hb dX6_leftOut_46 rfl (lv_at hl 0 rfl) ?_
  refine va_get (D := D) (ci := 6) (v := .ref (q_t 1)) (C := RX6) (T := TX6) (N := 18) hx hb hT iX6 hown hK hP 0 rfl rfl 1 (by decide) (hT _ fw_X6_19) (fun _ h9 => h9) rfl dX6_leftOut_47 ?_
  refine va_get (D := D) (ci := 0) (v := .int (d_t_1.1 0)) (C := RX0) (T := TX0) (N := 10) hx hb hT iX0 hown hK hP 6 rfl rfl 0 (by decide) (hT _ fw_X6_144) (fun _ h9 => h9) rfl dX6_leftOut_50 ?_
  have g2 := ite_some hf
  refine lv_icmp_gt (tgt := 109) hx hb dX6_leftOut_53 (by decide) (fun c1 => ?_) (fun c1 => ?_)
  · replace hf := g2.1 c1
    exact hK109 _ hf _ _ _ hP hD hS (lv_sub hl [1] rfl)
  · replace hf := g2.2 c1
    refine lv_iconst (v := 0) hx hb dX6_leftOut_56 rfl ?_
    refine lv_istore (lv' := [(4, .int 0), (0, .ref h_t), (2, .int x2), (3, .int (v.1))]) hx hb dX6_leftOut_57 hl (by decide) rfl (fun ls hl => ?_)
    refine mX6_leftOut_B59 h_t q_t q_t_0 q_t_1 q_t_8 q_t_9 k x2 (v.1) d_t d_t_0 d_t_1 d_t_8 (d_t_9.1, (va_up d_t_9.2 1 (v.2.2 1))) _ _ M hA hR (fun w3 hf H locs ls hP hD hS hl => ?_) (fun w4 hf H locs ls hP hD hS hl => ?_) _ _ hf _ _ _ hP hD hS (lv_sub hl [1, 2, 3, 0] rfl)
    · exact hK94 _ hf _ _ _ hP hD hS (lv_sub hl [0] rfl)
    · refine lv_iinc (v := ((v.1) + 1)) (lv' := [(3, .int ((v.1) + 1)), (0, .ref h_t), (2, .int x2)]) hx hb dX6_leftOut_103 hl (k := 2) rfl rfl (by decide) rfl (fun ls hl => ?_)
      refine lv_goto (tgt := 45) hx hb dX6_leftOut_106 (by decide) ?_
      exact ih _ hf _ _ _ hP hD hS (lv_sub hl [1, 2, 0] rfl)
set_option maxHeartbeats 4000000 in
set_option maxRecDepth 100000 in
theorem mX6_leftOut (l : Launch) (D : va_G) (cs : Nat → ClassId) (sk : Nat → Nat) (h_t : Nat) (q_t : Nat → Nat) (q_t_0 : Nat → Nat) (q_t_1 : Nat → Nat) (q_t_8 : Nat → Nat) (q_t_9 : Nat → Nat) (k : Nat) (d_t : Dat) (d_t_0 : Dat) (d_t_1 : Dat) (d_t_8 : Dat) (d_t_9 : Dat) (x1 : Int32) {rv : Int32 × Dat × Dat × Dat} (hf : fX6_leftOut k d_t d_t_0 d_t_1 d_t_8 d_t_9 x1 = some rv) : CTi l yX6_leftOut (Cond.code yX6_leftOut cX6_leftOut 5 (some .int) :: gtbl) rm_X6_leftOut D cs sk [.ref h_t, .int x1] [oX6 h_t q_t (d_t.1), oX4 (q_t 0) q_t_0 (d_t_0.1), ((q_t_0 1), .inl (cs 0, 6, .inl (d_t_0.2 1))), ((q_t_0 2), .inl (cs 0, 6, .inl (d_t_0.2 2))), ((q_t_0 4), .inl (cs 0, 3, .inl (d_t_0.2 4))), ((q_t_0 5), .inl (cs 0, 3, .inl (d_t_0.2 5))), oX0 (q_t 1) q_t_1 (d_t_1.1), ((q_t_1 1), .inl (cs 0, 6, .inl (d_t_1.2 1))), ((q_t_1 2), .inl (cs 0, 6, .inl (d_t_1.2 2))), ((q_t_1 3), .inl (cs 0, 6, .inl (d_t_1.2 3))), oX1 (q_t 8) q_t_8 (d_t_8.1), ((q_t_8 1), .inl (cs 0, 12, .inl (d_t_8.2 1))), ((q_t_8 2), .inl (cs 0, 12, .inl (d_t_8.2 2))), ((q_t_8 3), .inl (cs 0, 12, .inl (d_t_8.2 3))), oX5 (q_t 9) q_t_9 (d_t_9.1), ((q_t_9 0), .inl (cs 0, 36, .inl (d_t_9.2 0))), ((q_t_9 1), .inl (cs 0, 6, .inl (d_t_9.2 1)))] (rv.1) [oX6 h_t q_t (rv.2.1.1), oX4 (q_t 0) q_t_0 (d_t_0.1), ((q_t_0 1), .inl (cs 0, 6, .inl (d_t_0.2 1))), ((q_t_0 2), .inl (cs 0, 6, .inl (d_t_0.2 2))), ((q_t_0 4), .inl (cs 0, 3, .inl (d_t_0.2 4))), ((q_t_0 5), .inl (cs 0, 3, .inl (d_t_0.2 5))), oX0 (q_t 1) q_t_1 (d_t_1.1), ((q_t_1 1), .inl (cs 0, 6, .inl (d_t_1.2 1))), ((q_t_1 2), .inl (cs 0, 6, .inl (d_t_1.2 2))), ((q_t_1 3), .inl (cs 0, 6, .inl (d_t_1.2 3))), oX1 (q_t 8) q_t_8 (rv.2.2.1.1), ((q_t_8 1), .inl (cs 0, 12, .inl (rv.2.2.1.2 1))), ((q_t_8 2), .inl (cs 0, 12, .inl (rv.2.2.1.2 2))), ((q_t_8 3), .inl (cs 0, 12, .inl (rv.2.2.1.2 3))), oX5 (q_t 9) q_t_9 (d_t_9.1), ((q_t_9 0), .inl (cs 0, 36, .inl (rv.2.2.2.2 0))), ((q_t_9 1), .inl (cs 0, 6, .inl (rv.2.2.2.2 1)))] := by
  refine CTi.of RX6 (by decide +kernel) rfl (Nat.le_of_ble_eq_true rfl) (fun p e s m args below meth c A Q ls M hA hR hl hP hD hS => ?_)
  obtain ⟨hx, hb, hml, hT, hown, hlk, hrt, hK, hN, hSE⟩ := id M
  replace hl : lv_has ls 5 [(0, .ref h_t), (1, .int x1)] := hl
  unfold fX6_leftOut at hf
  refine lv_iload_n hx hb dX6_leftOut_0 rfl (lv_at hl 1 rfl) ?_
  refine lv_iconst (v := 0) hx hb dX6_leftOut_1 rfl ?_
  refine lv_sipush (v := 999) hx hb dX6_leftOut_2 rfl ?_
  obtain ⟨r1, e2, hf⟩ := bind_some hf
  refine callSi (As := [.int x1, .int 0, .int 999]) (rest := []) M (mX6_isWithin l D cs sk  k x1 0 999 e2) mw_X6_121 ln_X6_isWithin ⟨rfl, rfl, Nat.le_of_ble_eq_true rfl, Nat.le_of_ble_eq_true rfl⟩ hP hD hS hA [] (by decide) rfl rfl ⟨Nat.zero_le _, Nat.zero_le _⟩ hl.1 rfl (Nat.le_of_ble_eq_true rfl) dX6_leftOut_5 (fun H locs hP hD hS => ?_)
  replace hP : va_P D vwCl [oX6 h_t q_t (d_t.1), oX4 (q_t 0) q_t_0 (d_t_0.1), ((q_t_0 1), .inl (cs 0, 6, .inl (d_t_0.2 1))), ((q_t_0 2), .inl (cs 0, 6, .inl (d_t_0.2 2))), ((q_t_0 4), .inl (cs 0, 3, .inl (d_t_0.2 4))), ((q_t_0 5), .inl (cs 0, 3, .inl (d_t_0.2 5))), oX0 (q_t 1) q_t_1 (d_t_1.1), ((q_t_1 1), .inl (cs 0, 6, .inl (d_t_1.2 1))), ((q_t_1 2), .inl (cs 0, 6, .inl (d_t_1.2 2))), ((q_t_1 3), .inl (cs 0, 6, .inl (d_t_1.2 3))), oX1 (q_t 8) q_t_8 (d_t_8.1), ((q_t_8 1), .inl (cs 0, 12, .inl (d_t_8.2 1))), ((q_t_8 2), .inl (cs 0, 12, .inl (d_t_8.2 2))), ((q_t_8 3), .inl (cs 0, 12, .inl (d_t_8.2 3))), oX5 (q_t 9) q_t_9 (d_t_9.1), ((q_t_9 0), .inl (cs 0, 36, .inl (d_t_9.2 0))), ((q_t_9 1), .inl (cs 0, 6, .inl (d_t_9.2 1)))] H := hP
  replace hD : va_D A [oX6 h_t q_t (d_t.1), oX4 (q_t 0) q_t_0 (d_t_0.1), ((q_t_0 1), .inl (cs 0, 6, .inl (d_t_0.2 1))), ((q_t_0 2), .inl (cs 0, 6, .inl (d_t_0.2 2))), ((q_t_0 4), .inl (cs 0, 3, .inl (d_t_0.2 4))), ((q_t_0 5), .inl (cs 0, 3, .inl (d_t_0.2 5))), oX0 (q_t 1) q_t_1 (d_t_1.1), ((q_t_1 1), .inl (cs 0, 6, .inl (d_t_1.2 1))), ((q_t_1 2), .inl (cs 0, 6, .inl (d_t_1.2 2))), ((q_t_1 3), .inl (cs 0, 6, .inl (d_t_1.2 3))), oX1 (q_t 8) q_t_8 (d_t_8.1), ((q_t_8 1), .inl (cs 0, 12, .inl (d_t_8.2 1))), ((q_t_8 2), .inl (cs 0, 12, .inl (d_t_8.2 2))), ((q_t_8 3), .inl (cs 0, 12, .inl (d_t_8.2 3))), oX5 (q_t 9) q_t_9 (d_t_9.1), ((q_t_9 0), .inl (cs 0, 36, .inl (d_t_9.2 0))), ((q_t_9 1), .inl (cs 0, 6, .inl (d_t_9.2 1)))] := hD
  have g4 := ite_some hf
  refine lv_if_ne (tgt := 18) hx hb dX6_leftOut_8 (by decide) (fun c3 => ?_) (fun c3 => ?_)
  · replace hf := g4.2 c3
    refine lv_aload_n hx hb dX6_leftOut_18 rfl (lv_at hl 0 rfl) ?_
    refine va_get (D := D) (ci := 6) (v := .ref (q_t 9)) (C := RX6) (T := TX6) (N := 18) hx hb hT iX6 hown hK hP 0 rfl rfl 9 (by decide) (hT _ fw_X6_54) (fun _ h9 => h9) rfl dX6_leftOut_19 ?_
    refine lv_aload_n hx hb dX6_leftOut_22 rfl (lv_at hl 0 rfl) ?_
    refine va_get (D := D) (ci := 6) (v := .ref (q_t 0)) (C := RX6) (T := TX6) (N := 18) hx hb hT iX6 hown hK hP 0 rfl rfl 0 (by decide) (hT _ fw_X6_10) (fun _ h9 => h9) rfl dX6_leftOut_23 ?_
    refine lv_aload_n hx hb dX6_leftOut_26 rfl (lv_at hl 0 rfl) ?_
    refine va_get (D := D) (ci := 6) (v := .ref (q_t 1)) (C := RX6) (T := TX6) (N := 18) hx hb hT iX6 hown hK hP 0 rfl rfl 1 (by decide) (hT _ fw_X6_19) (fun _ h9 => h9) rfl dX6_leftOut_27 ?_
    refine lv_aload_n hx hb dX6_leftOut_30 rfl (lv_at hl 0 rfl) ?_
    refine va_get (D := D) (ci := 6) (v := .ref (q_t 8)) (C := RX6) (T := TX6) (N := 18) hx hb hT iX6 hown hK hP 0 rfl rfl 8 (by decide) (hT _ fw_X6_47) (fun _ h9 => h9) rfl dX6_leftOut_31 ?_
    refine lv_iload_n hx hb dX6_leftOut_34 rfl (lv_at hl 1 rfl) ?_
    obtain ⟨r5, e6, hf⟩ := bind_some hf
    refine callVv (As := [.ref (q_t 0), .ref (q_t 1), .ref (q_t 8), .int x1]) (rest := []) M (mX5_weigh l D cs sk (q_t 9) (q_t 0) (q_t 1) (q_t 8) q_t_9 q_t_0 q_t_1 q_t_8 k d_t_9 d_t_0 d_t_1 d_t_8 x1 e6) mw_X6_210 ln_X5_weigh ⟨rfl, rfl, Nat.le_of_ble_eq_true rfl, Nat.le_of_ble_eq_true rfl⟩ hP hD hS hA [14, 15, 1, 2, 3, 4, 5, 6, 7, 8, 9, 10, 11, 12, 13] (by decide) rfl rfl (q0 := 0) rfl rfl rfl ⟨Nat.zero_le _, Nat.zero_le _⟩ hl.1 rfl (Nat.le_of_ble_eq_true rfl) dX6_leftOut_35 (fun H locs hP hD hS => ?_)
    replace hP : va_P D vwCl [oX6 h_t q_t (d_t.1), oX4 (q_t 0) q_t_0 (d_t_0.1), ((q_t_0 1), .inl (cs 0, 6, .inl (d_t_0.2 1))), ((q_t_0 2), .inl (cs 0, 6, .inl (d_t_0.2 2))), ((q_t_0 4), .inl (cs 0, 3, .inl (d_t_0.2 4))), ((q_t_0 5), .inl (cs 0, 3, .inl (d_t_0.2 5))), oX0 (q_t 1) q_t_1 (d_t_1.1), ((q_t_1 1), .inl (cs 0, 6, .inl (d_t_1.2 1))), ((q_t_1 2), .inl (cs 0, 6, .inl (d_t_1.2 2))), ((q_t_1 3), .inl (cs 0, 6, .inl (d_t_1.2 3))), oX1 (q_t 8) q_t_8 (r5.2.1), ((q_t_8 1), .inl (cs 0, 12, .inl (r5.2.2 1))), ((q_t_8 2), .inl (cs 0, 12, .inl (r5.2.2 2))), ((q_t_8 3), .inl (cs 0, 12, .inl (r5.2.2 3))), oX5 (q_t 9) q_t_9 (d_t_9.1), ((q_t_9 0), .inl (cs 0, 36, .inl (r5.1.2 0))), ((q_t_9 1), .inl (cs 0, 6, .inl (d_t_9.2 1)))] H := hP
    replace hD : va_D A [oX6 h_t q_t (d_t.1), oX4 (q_t 0) q_t_0 (d_t_0.1), ((q_t_0 1), .inl (cs 0, 6, .inl (d_t_0.2 1))), ((q_t_0 2), .inl (cs 0, 6, .inl (d_t_0.2 2))), ((q_t_0 4), .inl (cs 0, 3, .inl (d_t_0.2 4))), ((q_t_0 5), .inl (cs 0, 3, .inl (d_t_0.2 5))), oX0 (q_t 1) q_t_1 (d_t_1.1), ((q_t_1 1), .inl (cs 0, 6, .inl (d_t_1.2 1))), ((q_t_1 2), .inl (cs 0, 6, .inl (d_t_1.2 2))), ((q_t_1 3), .inl (cs 0, 6, .inl (d_t_1.2 3))), oX1 (q_t 8) q_t_8 (r5.2.1), ((q_t_8 1), .inl (cs 0, 12, .inl (r5.2.2 1))), ((q_t_8 2), .inl (cs 0, 12, .inl (r5.2.2 2))), ((q_t_8 3), .inl (cs 0, 12, .inl (r5.2.2 3))), oX5 (q_t 9) q_t_9 (d_t_9.1), ((q_t_9 0), .inl (cs 0, 36, .inl (r5.1.2 0))), ((q_t_9 1), .inl (cs 0, 6, .inl (d_t_9.2 1)))] := hD
    refine lv_aload_n hx hb dX6_leftOut_38 rfl (lv_at hl 0 rfl) ?_
    obtain ⟨r7, e8, hf⟩ := bind_some hf
    refine callVi (As := []) (rest := []) M (mX6_everyPlayer l D cs sk h_t q_t q_t_1 k d_t d_t_1 e8) mw_X6_214 ln_X6_everyPlayer ⟨rfl, rfl, Nat.le_of_ble_eq_true rfl, Nat.le_of_ble_eq_true rfl⟩ hP hD hS hA [0, 6] (by decide) rfl rfl (q0 := 0) rfl rfl rfl ⟨Nat.zero_le _, Nat.zero_le _⟩ hl.1 rfl (Nat.le_of_ble_eq_true rfl) dX6_leftOut_39 (fun H locs hP hD hS => ?_)
    replace hP : va_P D vwCl [oX6 h_t q_t (d_t.1), oX4 (q_t 0) q_t_0 (d_t_0.1), ((q_t_0 1), .inl (cs 0, 6, .inl (d_t_0.2 1))), ((q_t_0 2), .inl (cs 0, 6, .inl (d_t_0.2 2))), ((q_t_0 4), .inl (cs 0, 3, .inl (d_t_0.2 4))), ((q_t_0 5), .inl (cs 0, 3, .inl (d_t_0.2 5))), oX0 (q_t 1) q_t_1 (d_t_1.1), ((q_t_1 1), .inl (cs 0, 6, .inl (d_t_1.2 1))), ((q_t_1 2), .inl (cs 0, 6, .inl (d_t_1.2 2))), ((q_t_1 3), .inl (cs 0, 6, .inl (d_t_1.2 3))), oX1 (q_t 8) q_t_8 (r5.2.1), ((q_t_8 1), .inl (cs 0, 12, .inl (r5.2.2 1))), ((q_t_8 2), .inl (cs 0, 12, .inl (r5.2.2 2))), ((q_t_8 3), .inl (cs 0, 12, .inl (r5.2.2 3))), oX5 (q_t 9) q_t_9 (d_t_9.1), ((q_t_9 0), .inl (cs 0, 36, .inl (r5.1.2 0))), ((q_t_9 1), .inl (cs 0, 6, .inl (d_t_9.2 1)))] H := hP
    replace hD : va_D A [oX6 h_t q_t (d_t.1), oX4 (q_t 0) q_t_0 (d_t_0.1), ((q_t_0 1), .inl (cs 0, 6, .inl (d_t_0.2 1))), ((q_t_0 2), .inl (cs 0, 6, .inl (d_t_0.2 2))), ((q_t_0 4), .inl (cs 0, 3, .inl (d_t_0.2 4))), ((q_t_0 5), .inl (cs 0, 3, .inl (d_t_0.2 5))), oX0 (q_t 1) q_t_1 (d_t_1.1), ((q_t_1 1), .inl (cs 0, 6, .inl (d_t_1.2 1))), ((q_t_1 2), .inl (cs 0, 6, .inl (d_t_1.2 2))), ((q_t_1 3), .inl (cs 0, 6, .inl (d_t_1.2 3))), oX1 (q_t 8) q_t_8 (r5.2.1), ((q_t_8 1), .inl (cs 0, 12, .inl (r5.2.2 1))), ((q_t_8 2), .inl (cs 0, 12, .inl (r5.2.2 2))), ((q_t_8 3), .inl (cs 0, 12, .inl (r5.2.2 3))), oX5 (q_t 9) q_t_9 (d_t_9.1), ((q_t_9 0), .inl (cs 0, 36, .inl (r5.1.2 0))), ((q_t_9 1), .inl (cs 0, 6, .inl (d_t_9.2 1)))] := hD
    refine lv_istore_n (lv' := [(2, .int r7), (0, .ref h_t), (1, .int x1)]) hx hb dX6_leftOut_42 rfl hl (by decide) rfl (fun ls hl => ?_)
    refine lv_iconst (v := 0) hx hb dX6_leftOut_43 rfl ?_
    refine lv_istore_n (lv' := [(3, .int 0), (2, .int r7), (0, .ref h_t), (1, .int x1)]) hx hb dX6_leftOut_44 rfl hl (by decide) rfl (fun ls hl => ?_)
    refine mX6_leftOut_B45 h_t q_t q_t_0 q_t_1 q_t_8 q_t_9 k r7 d_t d_t_0 d_t_1 (r5.2.1, (va_up (va_up (va_up d_t_8.2 1 (r5.2.2 1)) 2 (r5.2.2 2)) 3 (r5.2.2 3))) (d_t_9.1, (va_up d_t_9.2 0 (r5.1.2 0))) _ _ M hA hR (fun w9 hf H locs ls hP hD hS hl => ?_) (fun w10 hf H locs ls hP hD hS hl => ?_) _ _ hf _ _ _ hP hD hS (lv_sub hl [2, 1, 0] rfl)
    · refine lv_iload hx hb dX6_leftOut_94 (lv_at hl 0 rfl) ?_
      have e9 := Option.some.inj hf
      subst e9
      exact hR _ _ _ _ dX6_leftOut_96 hP hS
    · refine lv_iload_n hx hb dX6_leftOut_109 rfl (lv_at hl 0 rfl) ?_
      have e9 := Option.some.inj hf
      subst e9
      exact hR _ _ _ _ dX6_leftOut_110 hP hS
  · replace hf := g4.1 c3
    refine lv_aload_n hx hb dX6_leftOut_11 rfl (lv_at hl 0 rfl) ?_
    refine lv_bipush (v := (-2)) hx hb dX6_leftOut_12 rfl ?_
    obtain ⟨r11, e12, hf⟩ := bind_some hf
    refine callVi (As := [.int (-2)]) (rest := []) M (mX6_refuseBad l D cs sk h_t q_t k d_t (-2) e12) mw_X6_96 ln_X6_refuseBad ⟨rfl, rfl, Nat.le_of_ble_eq_true rfl, Nat.le_of_ble_eq_true rfl⟩ hP hD hS hA [0] (by decide) rfl rfl (q0 := 0) rfl rfl rfl ⟨Nat.zero_le _, Nat.zero_le _⟩ hl.1 rfl (Nat.le_of_ble_eq_true rfl) dX6_leftOut_14 (fun H locs hP hD hS => ?_)
    replace hP : va_P D vwCl [oX6 h_t q_t (r11.2.1), oX4 (q_t 0) q_t_0 (d_t_0.1), ((q_t_0 1), .inl (cs 0, 6, .inl (d_t_0.2 1))), ((q_t_0 2), .inl (cs 0, 6, .inl (d_t_0.2 2))), ((q_t_0 4), .inl (cs 0, 3, .inl (d_t_0.2 4))), ((q_t_0 5), .inl (cs 0, 3, .inl (d_t_0.2 5))), oX0 (q_t 1) q_t_1 (d_t_1.1), ((q_t_1 1), .inl (cs 0, 6, .inl (d_t_1.2 1))), ((q_t_1 2), .inl (cs 0, 6, .inl (d_t_1.2 2))), ((q_t_1 3), .inl (cs 0, 6, .inl (d_t_1.2 3))), oX1 (q_t 8) q_t_8 (d_t_8.1), ((q_t_8 1), .inl (cs 0, 12, .inl (d_t_8.2 1))), ((q_t_8 2), .inl (cs 0, 12, .inl (d_t_8.2 2))), ((q_t_8 3), .inl (cs 0, 12, .inl (d_t_8.2 3))), oX5 (q_t 9) q_t_9 (d_t_9.1), ((q_t_9 0), .inl (cs 0, 36, .inl (d_t_9.2 0))), ((q_t_9 1), .inl (cs 0, 6, .inl (d_t_9.2 1)))] H := hP
    replace hD : va_D A [oX6 h_t q_t (r11.2.1), oX4 (q_t 0) q_t_0 (d_t_0.1), ((q_t_0 1), .inl (cs 0, 6, .inl (d_t_0.2 1))), ((q_t_0 2), .inl (cs 0, 6, .inl (d_t_0.2 2))), ((q_t_0 4), .inl (cs 0, 3, .inl (d_t_0.2 4))), ((q_t_0 5), .inl (cs 0, 3, .inl (d_t_0.2 5))), oX0 (q_t 1) q_t_1 (d_t_1.1), ((q_t_1 1), .inl (cs 0, 6, .inl (d_t_1.2 1))), ((q_t_1 2), .inl (cs 0, 6, .inl (d_t_1.2 2))), ((q_t_1 3), .inl (cs 0, 6, .inl (d_t_1.2 3))), oX1 (q_t 8) q_t_8 (d_t_8.1), ((q_t_8 1), .inl (cs 0, 12, .inl (d_t_8.2 1))), ((q_t_8 2), .inl (cs 0, 12, .inl (d_t_8.2 2))), ((q_t_8 3), .inl (cs 0, 12, .inl (d_t_8.2 3))), oX5 (q_t 9) q_t_9 (d_t_9.1), ((q_t_9 0), .inl (cs 0, 36, .inl (d_t_9.2 0))), ((q_t_9 1), .inl (cs 0, 6, .inl (d_t_9.2 1)))] := hD
    have e9 := Option.some.inj hf
    subst e9
    exact hR _ _ _ _ dX6_leftOut_17 hP hS
abbrev rm_X6_follow : Room := { frames := 1, cells := 0, slots := 0, locals := 21 }
def fX6_follow (k : Nat) (d_t : Dat) (d_t_1 : Dat) (x1 : Int32) (x2 : Int32) : Option (Int32 × Dat × Dat) :=
  (fX6_hasPlayer k d_t d_t_1 x1).bind (fun (r1 : Int32) => (if r1 = 0 then (fX6_refuseBad k d_t (-2)).bind (fun (r5 : Int32 × Dat) => some ((r5.1), (r5.2.1, d_t.2), d_t_1)) else (fX6_hasPlayer k d_t d_t_1 x2).bind (fun (r7 : Int32) => (if r7 = 0 then (fX6_refuseBad k d_t (-2)).bind (fun (r11 : Int32 × Dat) => some ((r11.1), (r11.2.1, d_t.2), d_t_1)) else chk 6 x1 (chk 6 x1 (some (((d_t_1.2 5) x1.toNatClampNeg), d_t, (d_t_1.1, (va_up d_t_1.2 5 (upd (d_t_1.2 5) x1.toNatClampNeg x2))))))))))
set_option maxHeartbeats 4000000 in
set_option maxRecDepth 100000 in
theorem mX6_follow (l : Launch) (D : va_G) (cs : Nat → ClassId) (sk : Nat → Nat) (h_t : Nat) (q_t : Nat → Nat) (q_t_1 : Nat → Nat) (k : Nat) (d_t : Dat) (d_t_1 : Dat) (x1 : Int32) (x2 : Int32) {rv : Int32 × Dat × Dat} (hf : fX6_follow k d_t d_t_1 x1 x2 = some rv) : CTi l yX6_follow (Cond.code yX6_follow cX6_follow 4 (some .int) :: gtbl) rm_X6_follow D cs sk [.ref h_t, .int x1, .int x2] [oX6 h_t q_t (d_t.1), oX0 (q_t 1) q_t_1 (d_t_1.1), ((q_t_1 5), .inl (cs 0, 6, .inl (d_t_1.2 5)))] (rv.1) [oX6 h_t q_t (rv.2.1.1), oX0 (q_t 1) q_t_1 (d_t_1.1), ((q_t_1 5), .inl (cs 0, 6, .inl (rv.2.2.2 5)))] := by
  refine CTi.of RX6 (by decide +kernel) rfl (Nat.le_of_ble_eq_true rfl) (fun p e s m args below meth c A Q ls M hA hR hl hP hD hS => ?_)
  obtain ⟨hx, hb, hml, hT, hown, hlk, hrt, hK, hN, hSE⟩ := id M
  replace hl : lv_has ls 4 [(0, .ref h_t), (1, .int x1), (2, .int x2)] := hl
  unfold fX6_follow at hf
  refine lv_aload_n hx hb dX6_follow_0 rfl (lv_at hl 0 rfl) ?_
  refine lv_iload_n hx hb dX6_follow_1 rfl (lv_at hl 1 rfl) ?_
  obtain ⟨r1, e2, hf⟩ := bind_some hf
  refine callVi (As := [.int x1]) (rest := []) M (mX6_hasPlayer l D cs sk h_t q_t q_t_1 k d_t d_t_1 x1 e2) mw_X6_151 ln_X6_hasPlayer ⟨rfl, rfl, Nat.le_of_ble_eq_true rfl, Nat.le_of_ble_eq_true rfl⟩ hP hD hS hA [0, 1] (by decide) rfl rfl (q0 := 0) rfl rfl rfl ⟨Nat.zero_le _, Nat.zero_le _⟩ hl.1 rfl (Nat.le_of_ble_eq_true rfl) dX6_follow_2 (fun H locs hP hD hS => ?_)
  replace hP : va_P D vwCl [oX6 h_t q_t (d_t.1), oX0 (q_t 1) q_t_1 (d_t_1.1), ((q_t_1 5), .inl (cs 0, 6, .inl (d_t_1.2 5)))] H := hP
  replace hD : va_D A [oX6 h_t q_t (d_t.1), oX0 (q_t 1) q_t_1 (d_t_1.1), ((q_t_1 5), .inl (cs 0, 6, .inl (d_t_1.2 5)))] := hD
  have g4 := ite_some hf
  refine lv_if_eq (tgt := 16) hx hb dX6_follow_5 (by decide) (fun c3 => ?_) (fun c3 => ?_)
  · replace hf := g4.1 c3
    refine lv_aload_n hx hb dX6_follow_16 rfl (lv_at hl 0 rfl) ?_
    refine lv_bipush (v := (-2)) hx hb dX6_follow_17 rfl ?_
    obtain ⟨r5, e6, hf⟩ := bind_some hf
    refine callVi (As := [.int (-2)]) (rest := []) M (mX6_refuseBad l D cs sk h_t q_t k d_t (-2) e6) mw_X6_96 ln_X6_refuseBad ⟨rfl, rfl, Nat.le_of_ble_eq_true rfl, Nat.le_of_ble_eq_true rfl⟩ hP hD hS hA [0] (by decide) rfl rfl (q0 := 0) rfl rfl rfl ⟨Nat.zero_le _, Nat.zero_le _⟩ hl.1 rfl (Nat.le_of_ble_eq_true rfl) dX6_follow_19 (fun H locs hP hD hS => ?_)
    replace hP : va_P D vwCl [oX6 h_t q_t (r5.2.1), oX0 (q_t 1) q_t_1 (d_t_1.1), ((q_t_1 5), .inl (cs 0, 6, .inl (d_t_1.2 5)))] H := hP
    replace hD : va_D A [oX6 h_t q_t (r5.2.1), oX0 (q_t 1) q_t_1 (d_t_1.1), ((q_t_1 5), .inl (cs 0, 6, .inl (d_t_1.2 5)))] := hD
    have e9 := Option.some.inj hf
    subst e9
    exact hR _ _ _ _ dX6_follow_22 hP hS
  · replace hf := g4.2 c3
    refine lv_aload_n hx hb dX6_follow_8 rfl (lv_at hl 0 rfl) ?_
    refine lv_iload_n hx hb dX6_follow_9 rfl (lv_at hl 2 rfl) ?_
    obtain ⟨r7, e8, hf⟩ := bind_some hf
    refine callVi (As := [.int x2]) (rest := []) M (mX6_hasPlayer l D cs sk h_t q_t q_t_1 k d_t d_t_1 x2 e8) mw_X6_151 ln_X6_hasPlayer ⟨rfl, rfl, Nat.le_of_ble_eq_true rfl, Nat.le_of_ble_eq_true rfl⟩ hP hD hS hA [0, 1] (by decide) rfl rfl (q0 := 0) rfl rfl rfl ⟨Nat.zero_le _, Nat.zero_le _⟩ hl.1 rfl (Nat.le_of_ble_eq_true rfl) dX6_follow_10 (fun H locs hP hD hS => ?_)
    replace hP : va_P D vwCl [oX6 h_t q_t (d_t.1), oX0 (q_t 1) q_t_1 (d_t_1.1), ((q_t_1 5), .inl (cs 0, 6, .inl (d_t_1.2 5)))] H := hP
    replace hD : va_D A [oX6 h_t q_t (d_t.1), oX0 (q_t 1) q_t_1 (d_t_1.1), ((q_t_1 5), .inl (cs 0, 6, .inl (d_t_1.2 5)))] := hD
    have g10 := ite_some hf
    refine lv_if_ne (tgt := 23) hx hb dX6_follow_13 (by decide) (fun c9 => ?_) (fun c9 => ?_)
    · replace hf := g10.2 c9
      refine lv_aload_n hx hb dX6_follow_23 rfl (lv_at hl 0 rfl) ?_
      refine va_get (D := D) (ci := 6) (v := .ref (q_t 1)) (C := RX6) (T := TX6) (N := 18) hx hb hT iX6 hown hK hP 0 rfl rfl 1 (by decide) (hT _ fw_X6_19) (fun _ h9 => h9) rfl dX6_follow_24 ?_
      refine va_get (D := D) (ci := 0) (v := .ref (q_t_1 5)) (C := RX0) (T := TX0) (N := 10) hx hb hT iX0 hown hK hP 1 rfl rfl 5 (by decide) (hT _ fw_X6_229) (fun _ h9 => h9) rfl dX6_follow_27 ?_
      refine lv_iload_n hx hb dX6_follow_30 rfl (lv_at hl 1 rfl) ?_
      obtain ⟨hi, hf⟩ := chk_some hf
      refine va_iald (D := D) hx hb hK hP 2 0 rfl rfl hi dX6_follow_31 ?_
      refine lv_istore_n (lv' := [(3, .int ((d_t_1.2 5) x1.toNatClampNeg)), (0, .ref h_t), (1, .int x1), (2, .int x2)]) hx hb dX6_follow_32 rfl hl (by decide) rfl (fun ls hl => ?_)
      refine lv_aload_n hx hb dX6_follow_33 rfl (lv_at hl 1 rfl) ?_
      refine va_get (D := D) (ci := 6) (v := .ref (q_t 1)) (C := RX6) (T := TX6) (N := 18) hx hb hT iX6 hown hK hP 0 rfl rfl 1 (by decide) (hT _ fw_X6_19) (fun _ h9 => h9) rfl dX6_follow_34 ?_
      refine va_get (D := D) (ci := 0) (v := .ref (q_t_1 5)) (C := RX0) (T := TX0) (N := 10) hx hb hT iX0 hown hK hP 1 rfl rfl 5 (by decide) (hT _ fw_X6_229) (fun _ h9 => h9) rfl dX6_follow_37 ?_
      refine lv_iload_n hx hb dX6_follow_40 rfl (lv_at hl 2 rfl) ?_
      refine lv_iload_n hx hb dX6_follow_41 rfl (lv_at hl 3 rfl) ?_
      obtain ⟨hi, hf⟩ := chk_some hf
      refine va_iast (D := D) hx hb hK hP hD hS 2 0 rfl rfl hi dX6_follow_42 (fun H locs hP hD hS => ?_)
      replace hP : va_P D vwCl [oX6 h_t q_t (d_t.1), oX0 (q_t 1) q_t_1 (d_t_1.1), ((q_t_1 5), .inl (cs 0, 6, .inl (upd (d_t_1.2 5) x1.toNatClampNeg x2)))] H := hP
      replace hD : va_D A [oX6 h_t q_t (d_t.1), oX0 (q_t 1) q_t_1 (d_t_1.1), ((q_t_1 5), .inl (cs 0, 6, .inl (upd (d_t_1.2 5) x1.toNatClampNeg x2)))] := hD
      refine lv_iload_n hx hb dX6_follow_43 rfl (lv_at hl 0 rfl) ?_
      have e9 := Option.some.inj hf
      subst e9
      exact hR _ _ _ _ dX6_follow_44 hP hS
    · replace hf := g10.1 c9
      refine lv_aload_n hx hb dX6_follow_16 rfl (lv_at hl 0 rfl) ?_
      refine lv_bipush (v := (-2)) hx hb dX6_follow_17 rfl ?_
      obtain ⟨r11, e12, hf⟩ := bind_some hf
      refine callVi (As := [.int (-2)]) (rest := []) M (mX6_refuseBad l D cs sk h_t q_t k d_t (-2) e12) mw_X6_96 ln_X6_refuseBad ⟨rfl, rfl, Nat.le_of_ble_eq_true rfl, Nat.le_of_ble_eq_true rfl⟩ hP hD hS hA [0] (by decide) rfl rfl (q0 := 0) rfl rfl rfl ⟨Nat.zero_le _, Nat.zero_le _⟩ hl.1 rfl (Nat.le_of_ble_eq_true rfl) dX6_follow_19 (fun H locs hP hD hS => ?_)
      replace hP : va_P D vwCl [oX6 h_t q_t (r11.2.1), oX0 (q_t 1) q_t_1 (d_t_1.1), ((q_t_1 5), .inl (cs 0, 6, .inl (d_t_1.2 5)))] H := hP
      replace hD : va_D A [oX6 h_t q_t (r11.2.1), oX0 (q_t 1) q_t_1 (d_t_1.1), ((q_t_1 5), .inl (cs 0, 6, .inl (d_t_1.2 5)))] := hD
      have e9 := Option.some.inj hf
      subst e9
      exact hR _ _ _ _ dX6_follow_22 hP hS
abbrev rm_X6_round : Room := { frames := 4, cells := 0, slots := 0, locals := 93 }
def fX6_round (k : Nat) (d_t : Dat) (d_t_0 : Dat) (d_t_1 : Dat) : Option (Int32 × Dat) :=
  (fX0_rememberOffsets k d_t_1).bind (fun (r1 : Dat) => (fX0_advance k (r1.1, (va_up d_t_1.2 9 (r1.2 9))) d_t_0).bind (fun (r3 : Int32 × Dat) => some ((r3.1), (r1.1, (va_up (va_up (va_up d_t_1.2 4 (r3.2.2 4)) 6 (r3.2.2 6)) 9 (r1.2 9))))))
set_option maxHeartbeats 4000000 in
set_option maxRecDepth 100000 in
theorem mX6_round (l : Launch) (D : va_G) (cs : Nat → ClassId) (sk : Nat → Nat) (h_t : Nat) (q_t : Nat → Nat) (q_t_0 : Nat → Nat) (q_t_1 : Nat → Nat) (k : Nat) (d_t : Dat) (d_t_0 : Dat) (d_t_1 : Dat) {rv : Int32 × Dat} (hf : fX6_round k d_t d_t_0 d_t_1 = some rv) : CTi l yX6_round (Cond.code yX6_round cX6_round 1 (some .int) :: gtbl) rm_X6_round D cs sk [.ref h_t] [oX6 h_t q_t (d_t.1), oX4 (q_t 0) q_t_0 (d_t_0.1), ((q_t_0 1), .inl (cs 0, 6, .inl (d_t_0.2 1))), ((q_t_0 2), .inl (cs 0, 6, .inl (d_t_0.2 2))), oX0 (q_t 1) q_t_1 (d_t_1.1), ((q_t_1 2), .inl (cs 0, 6, .inl (d_t_1.2 2))), ((q_t_1 4), .inl (cs 0, 6, .inl (d_t_1.2 4))), ((q_t_1 5), .inl (cs 0, 6, .inl (d_t_1.2 5))), ((q_t_1 6), .inl (cs 0, 6, .inl (d_t_1.2 6))), ((q_t_1 9), .inl (cs 0, 48, .inl (d_t_1.2 9)))] (rv.1) [oX6 h_t q_t (d_t.1), oX4 (q_t 0) q_t_0 (d_t_0.1), ((q_t_0 1), .inl (cs 0, 6, .inl (d_t_0.2 1))), ((q_t_0 2), .inl (cs 0, 6, .inl (d_t_0.2 2))), oX0 (q_t 1) q_t_1 (rv.2.1), ((q_t_1 2), .inl (cs 0, 6, .inl (d_t_1.2 2))), ((q_t_1 4), .inl (cs 0, 6, .inl (rv.2.2 4))), ((q_t_1 5), .inl (cs 0, 6, .inl (d_t_1.2 5))), ((q_t_1 6), .inl (cs 0, 6, .inl (rv.2.2 6))), ((q_t_1 9), .inl (cs 0, 48, .inl (rv.2.2 9)))] := by
  refine CTi.of RX6 (by decide +kernel) rfl (Nat.le_of_ble_eq_true rfl) (fun p e s m args below meth c A Q ls M hA hR hl hP hD hS => ?_)
  obtain ⟨hx, hb, hml, hT, hown, hlk, hrt, hK, hN, hSE⟩ := id M
  replace hl : lv_has ls 1 [(0, .ref h_t)] := hl
  unfold fX6_round at hf
  refine lv_aload_n hx hb dX6_round_0 rfl (lv_at hl 0 rfl) ?_
  refine va_get (D := D) (ci := 6) (v := .ref (q_t 1)) (C := RX6) (T := TX6) (N := 18) hx hb hT iX6 hown hK hP 0 rfl rfl 1 (by decide) (hT _ fw_X6_19) (fun _ h9 => h9) rfl dX6_round_1 ?_
  obtain ⟨r1, e2, hf⟩ := bind_some hf
  refine callVv (As := []) (rest := []) M (mX0_rememberOffsets l D cs sk (q_t 1) q_t_1 k d_t_1 e2) mw_X6_232 ln_X0_rememberOffsets ⟨rfl, rfl, Nat.le_of_ble_eq_true rfl, Nat.le_of_ble_eq_true rfl⟩ hP hD hS hA [4, 6, 9] (by decide) rfl rfl (q0 := 0) rfl rfl rfl ⟨Nat.zero_le _, Nat.zero_le _⟩ hl.1 rfl (Nat.le_of_ble_eq_true rfl) dX6_round_4 (fun H locs hP hD hS => ?_)
  replace hP : va_P D vwCl [oX6 h_t q_t (d_t.1), oX4 (q_t 0) q_t_0 (d_t_0.1), ((q_t_0 1), .inl (cs 0, 6, .inl (d_t_0.2 1))), ((q_t_0 2), .inl (cs 0, 6, .inl (d_t_0.2 2))), oX0 (q_t 1) q_t_1 (r1.1), ((q_t_1 2), .inl (cs 0, 6, .inl (d_t_1.2 2))), ((q_t_1 4), .inl (cs 0, 6, .inl (d_t_1.2 4))), ((q_t_1 5), .inl (cs 0, 6, .inl (d_t_1.2 5))), ((q_t_1 6), .inl (cs 0, 6, .inl (d_t_1.2 6))), ((q_t_1 9), .inl (cs 0, 48, .inl (r1.2 9)))] H := hP
  replace hD : va_D A [oX6 h_t q_t (d_t.1), oX4 (q_t 0) q_t_0 (d_t_0.1), ((q_t_0 1), .inl (cs 0, 6, .inl (d_t_0.2 1))), ((q_t_0 2), .inl (cs 0, 6, .inl (d_t_0.2 2))), oX0 (q_t 1) q_t_1 (r1.1), ((q_t_1 2), .inl (cs 0, 6, .inl (d_t_1.2 2))), ((q_t_1 4), .inl (cs 0, 6, .inl (d_t_1.2 4))), ((q_t_1 5), .inl (cs 0, 6, .inl (d_t_1.2 5))), ((q_t_1 6), .inl (cs 0, 6, .inl (d_t_1.2 6))), ((q_t_1 9), .inl (cs 0, 48, .inl (r1.2 9)))] := hD
  refine lv_aload_n hx hb dX6_round_7 rfl (lv_at hl 0 rfl) ?_
  refine va_get (D := D) (ci := 6) (v := .ref (q_t 1)) (C := RX6) (T := TX6) (N := 18) hx hb hT iX6 hown hK hP 0 rfl rfl 1 (by decide) (hT _ fw_X6_19) (fun _ h9 => h9) rfl dX6_round_8 ?_
  refine lv_aload_n hx hb dX6_round_11 rfl (lv_at hl 0 rfl) ?_
  refine va_get (D := D) (ci := 6) (v := .ref (q_t 0)) (C := RX6) (T := TX6) (N := 18) hx hb hT iX6 hown hK hP 0 rfl rfl 0 (by decide) (hT _ fw_X6_10) (fun _ h9 => h9) rfl dX6_round_12 ?_
  obtain ⟨r3, e4, hf⟩ := bind_some hf
  refine callVi (As := [.ref (q_t 0)]) (rest := []) M (mX0_advance l D cs sk (q_t 1) (q_t 0) q_t_1 q_t_0 k (r1.1, (va_up d_t_1.2 9 (r1.2 9))) d_t_0 e4) mw_X6_235 ln_X0_advance ⟨rfl, rfl, Nat.le_of_ble_eq_true rfl, Nat.le_of_ble_eq_true rfl⟩ hP hD hS hA [4, 5, 6, 7, 8, 1, 2, 3] (by decide) rfl rfl (q0 := 0) rfl rfl rfl ⟨Nat.zero_le _, Nat.zero_le _⟩ hl.1 rfl (Nat.le_of_ble_eq_true rfl) dX6_round_15 (fun H locs hP hD hS => ?_)
  replace hP : va_P D vwCl [oX6 h_t q_t (d_t.1), oX4 (q_t 0) q_t_0 (d_t_0.1), ((q_t_0 1), .inl (cs 0, 6, .inl (d_t_0.2 1))), ((q_t_0 2), .inl (cs 0, 6, .inl (d_t_0.2 2))), oX0 (q_t 1) q_t_1 (r1.1), ((q_t_1 2), .inl (cs 0, 6, .inl (d_t_1.2 2))), ((q_t_1 4), .inl (cs 0, 6, .inl (r3.2.2 4))), ((q_t_1 5), .inl (cs 0, 6, .inl (d_t_1.2 5))), ((q_t_1 6), .inl (cs 0, 6, .inl (r3.2.2 6))), ((q_t_1 9), .inl (cs 0, 48, .inl (r1.2 9)))] H := hP
  replace hD : va_D A [oX6 h_t q_t (d_t.1), oX4 (q_t 0) q_t_0 (d_t_0.1), ((q_t_0 1), .inl (cs 0, 6, .inl (d_t_0.2 1))), ((q_t_0 2), .inl (cs 0, 6, .inl (d_t_0.2 2))), oX0 (q_t 1) q_t_1 (r1.1), ((q_t_1 2), .inl (cs 0, 6, .inl (d_t_1.2 2))), ((q_t_1 4), .inl (cs 0, 6, .inl (r3.2.2 4))), ((q_t_1 5), .inl (cs 0, 6, .inl (d_t_1.2 5))), ((q_t_1 6), .inl (cs 0, 6, .inl (r3.2.2 6))), ((q_t_1 9), .inl (cs 0, 48, .inl (r1.2 9)))] := hD
  have e9 := Option.some.inj hf
  subst e9
  exact hR _ _ _ _ dX6_round_18 hP hS
abbrev rm_X6_refuseNo : Room := { frames := 0, cells := 0, slots := 0, locals := 0 }
def fX6_refuseNo (k : Nat) (d_t : Dat) : Option (Int32 × Dat) :=
  some ((-3), ((upd d_t.1 16 ((d_t.1 16) + 1)), d_t.2))
set_option maxHeartbeats 4000000 in
set_option maxRecDepth 100000 in
theorem mX6_refuseNo (l : Launch) (D : va_G) (cs : Nat → ClassId) (sk : Nat → Nat) (h_t : Nat) (q_t : Nat → Nat) (k : Nat) (d_t : Dat) {rv : Int32 × Dat} (hf : fX6_refuseNo k d_t = some rv) : CTi l yX6_refuseNo (Cond.code yX6_refuseNo cX6_refuseNo 1 (some .int) :: gtbl) rm_X6_refuseNo D cs sk [.ref h_t] [oX6 h_t q_t (d_t.1)] (rv.1) [oX6 h_t q_t (rv.2.1)] := by
  refine CTi.of RX6 (by decide +kernel) rfl (Nat.le_of_ble_eq_true rfl) (fun p e s m args below meth c A Q ls M hA hR hl hP hD hS => ?_)
  obtain ⟨hx, hb, hml, hT, hown, hlk, hrt, hK, hN, hSE⟩ := id M
  replace hl : lv_has ls 1 [(0, .ref h_t)] := hl
  unfold fX6_refuseNo at hf
  refine lv_aload_n hx hb dX6_refuseNo_0 rfl (lv_at hl 0 rfl) ?_
  refine lv_dup hx hb dX6_refuseNo_1 rfl ?_
  refine va_get (D := D) (ci := 6) (v := .int (d_t.1 16)) (C := RX6) (T := TX6) (N := 18) hx hb hT iX6 hown hK hP 0 rfl rfl 16 (by decide) (hT _ fw_X6_86) (fun _ h9 => h9) rfl dX6_refuseNo_2 ?_
  refine lv_iconst (v := 1) hx hb dX6_refuseNo_5 rfl ?_
  refine lv_iadd hx hb dX6_refuseNo_6 ?_
  refine va_put (D := D) (ci := 6) (v := .int ((d_t.1 16) + 1)) (ty := tyX6 16) (C := RX6) (T := TX6) (N := 18) hx hb hT iX6 tyX6 tyX6_ok nmX6 hown hK hP hD hS 0 rfl rfl 16 (by decide) (hT _ fw_X6_86) (fun _ h9 => h9) rfl (tyX6_ok 16 (by decide)) rfl rfl (Nat.le_of_ble_eq_true rfl) dX6_refuseNo_7 (fun H locs hP hD hS => ?_)
  replace hP : va_P D vwCl [oX6 h_t q_t (upd d_t.1 16 ((d_t.1 16) + 1))] H := hP
  replace hD : va_D A [oX6 h_t q_t (upd d_t.1 16 ((d_t.1 16) + 1))] := hD
  refine lv_bipush (v := (-3)) hx hb dX6_refuseNo_10 rfl ?_
  have e9 := Option.some.inj hf
  subst e9
  exact hR _ _ _ _ dX6_refuseNo_12 hP hS
abbrev rm_X6_undo : Room := { frames := 2, cells := 0, slots := 0, locals := 80 }
def fX6_undo (k : Nat) (d_t : Dat) (d_t_1 : Dat) : Option (Int32 × Dat × Dat) :=
  (if 0 < (d_t_1.1 8) then (fX0_recallOffsets k d_t_1).bind (fun (r3 : Dat) => some (1, d_t, (r3.1, (va_up d_t_1.2 4 (r3.2 4))))) else (fX6_refuseNo k d_t).bind (fun (r5 : Int32 × Dat) => some ((r5.1), (r5.2.1, d_t.2), d_t_1)))
set_option maxHeartbeats 4000000 in
set_option maxRecDepth 100000 in
theorem mX6_undo (l : Launch) (D : va_G) (cs : Nat → ClassId) (sk : Nat → Nat) (h_t : Nat) (q_t : Nat → Nat) (q_t_1 : Nat → Nat) (k : Nat) (d_t : Dat) (d_t_1 : Dat) {rv : Int32 × Dat × Dat} (hf : fX6_undo k d_t d_t_1 = some rv) : CTi l yX6_undo (Cond.code yX6_undo cX6_undo 1 (some .int) :: gtbl) rm_X6_undo D cs sk [.ref h_t] [oX6 h_t q_t (d_t.1), oX0 (q_t 1) q_t_1 (d_t_1.1), ((q_t_1 4), .inl (cs 0, 6, .inl (d_t_1.2 4))), ((q_t_1 9), .inl (cs 0, 48, .inl (d_t_1.2 9)))] (rv.1) [oX6 h_t q_t (rv.2.1.1), oX0 (q_t 1) q_t_1 (rv.2.2.1), ((q_t_1 4), .inl (cs 0, 6, .inl (rv.2.2.2 4))), ((q_t_1 9), .inl (cs 0, 48, .inl (d_t_1.2 9)))] := by
  refine CTi.of RX6 (by decide +kernel) rfl (Nat.le_of_ble_eq_true rfl) (fun p e s m args below meth c A Q ls M hA hR hl hP hD hS => ?_)
  obtain ⟨hx, hb, hml, hT, hown, hlk, hrt, hK, hN, hSE⟩ := id M
  replace hl : lv_has ls 1 [(0, .ref h_t)] := hl
  unfold fX6_undo at hf
  refine lv_aload_n hx hb dX6_undo_0 rfl (lv_at hl 0 rfl) ?_
  refine va_get (D := D) (ci := 6) (v := .ref (q_t 1)) (C := RX6) (T := TX6) (N := 18) hx hb hT iX6 hown hK hP 0 rfl rfl 1 (by decide) (hT _ fw_X6_19) (fun _ h9 => h9) rfl dX6_undo_1 ?_
  refine va_get (D := D) (ci := 0) (v := .int (d_t_1.1 8)) (C := RX0) (T := TX0) (N := 10) hx hb hT iX0 hown hK hP 1 rfl rfl 8 (by decide) (hT _ fw_X6_239) (fun _ h9 => h9) rfl dX6_undo_4 ?_
  have g2 := ite_some hf
  refine lv_if_gt (tgt := 15) hx hb dX6_undo_7 (by decide) (fun c1 => ?_) (fun c1 => ?_)
  · replace hf := g2.1 c1
    refine lv_aload_n hx hb dX6_undo_15 rfl (lv_at hl 0 rfl) ?_
    refine va_get (D := D) (ci := 6) (v := .ref (q_t 1)) (C := RX6) (T := TX6) (N := 18) hx hb hT iX6 hown hK hP 0 rfl rfl 1 (by decide) (hT _ fw_X6_19) (fun _ h9 => h9) rfl dX6_undo_16 ?_
    obtain ⟨r3, e4, hf⟩ := bind_some hf
    refine callVv (As := []) (rest := []) M (mX0_recallOffsets l D cs sk (q_t 1) q_t_1 k d_t_1 e4) mw_X6_245 ln_X0_recallOffsets ⟨rfl, rfl, Nat.le_of_ble_eq_true rfl, Nat.le_of_ble_eq_true rfl⟩ hP hD hS hA [1, 2, 3] (by decide) rfl rfl (q0 := 0) rfl rfl rfl ⟨Nat.zero_le _, Nat.zero_le _⟩ hl.1 rfl (Nat.le_of_ble_eq_true rfl) dX6_undo_19 (fun H locs hP hD hS => ?_)
    replace hP : va_P D vwCl [oX6 h_t q_t (d_t.1), oX0 (q_t 1) q_t_1 (r3.1), ((q_t_1 4), .inl (cs 0, 6, .inl (r3.2 4))), ((q_t_1 9), .inl (cs 0, 48, .inl (d_t_1.2 9)))] H := hP
    replace hD : va_D A [oX6 h_t q_t (d_t.1), oX0 (q_t 1) q_t_1 (r3.1), ((q_t_1 4), .inl (cs 0, 6, .inl (r3.2 4))), ((q_t_1 9), .inl (cs 0, 48, .inl (d_t_1.2 9)))] := hD
    refine lv_iconst (v := 1) hx hb dX6_undo_22 rfl ?_
    have e9 := Option.some.inj hf
    subst e9
    exact hR _ _ _ _ dX6_undo_23 hP hS
  · replace hf := g2.2 c1
    refine lv_aload_n hx hb dX6_undo_10 rfl (lv_at hl 0 rfl) ?_
    obtain ⟨r5, e6, hf⟩ := bind_some hf
    refine callVi (As := []) (rest := []) M (mX6_refuseNo l D cs sk h_t q_t k d_t e6) mw_X6_242 ln_X6_refuseNo ⟨rfl, rfl, Nat.le_of_ble_eq_true rfl, Nat.le_of_ble_eq_true rfl⟩ hP hD hS hA [0] (by decide) rfl rfl (q0 := 0) rfl rfl rfl ⟨Nat.zero_le _, Nat.zero_le _⟩ hl.1 rfl (Nat.le_of_ble_eq_true rfl) dX6_undo_11 (fun H locs hP hD hS => ?_)
    replace hP : va_P D vwCl [oX6 h_t q_t (r5.2.1), oX0 (q_t 1) q_t_1 (d_t_1.1), ((q_t_1 4), .inl (cs 0, 6, .inl (d_t_1.2 4))), ((q_t_1 9), .inl (cs 0, 48, .inl (d_t_1.2 9)))] H := hP
    replace hD : va_D A [oX6 h_t q_t (r5.2.1), oX0 (q_t 1) q_t_1 (d_t_1.1), ((q_t_1 4), .inl (cs 0, 6, .inl (d_t_1.2 4))), ((q_t_1 9), .inl (cs 0, 48, .inl (d_t_1.2 9)))] := hD
    have e9 := Option.some.inj hf
    subst e9
    exact hR _ _ _ _ dX6_undo_14 hP hS
abbrev rm_X6_settles : Room := { frames := 4, cells := 0, slots := 0, locals := 102 }
def fX6_settles_B13 (k : Nat) (d_t_0 : Dat) (d_t_6 : Dat) (K33 : Int32 × Dat → Option (Int32 × Dat)) (K41 : Dat → Option (Int32 × Dat)) (rec : Int32 × Dat → Option (Int32 × Dat)) (v : Int32 × Dat) : Option (Int32 × Dat) :=
  (if 20 < (v.1) then K41 (d_t_6.1, (va_up (va_up d_t_6.2 4 (v.2.2 4)) 6 (v.2.2 6))) else (fX0_advance k (d_t_6.1, (va_up (va_up d_t_6.2 4 (v.2.2 4)) 6 (v.2.2 6))) d_t_0).bind (fun (r3 : Int32 × Dat) => (if (r3.1) = 0 then K33 ((v.1), (d_t_6.1, (va_up (va_up d_t_6.2 4 (r3.2.2 4)) 6 (r3.2.2 6)))) else rec (((v.1) + 1), (d_t_6.1, (va_up (va_up d_t_6.2 4 (r3.2.2 4)) 6 (r3.2.2 6)))))))
def fX6_settles (k : Nat) (d_t : Dat) (d_t_0 : Dat) (d_t_1 : Dat) (d_t_6 : Dat) : Option (Int32 × Dat) :=
  (fX0_becomeLike k d_t_6 d_t_1).bind (fun (r1 : Dat) => lp (fX6_settles_B13 k d_t_0 (r1.1, (va_up (va_up (va_up (va_up (va_up (va_up d_t_6.2 1 (r1.2 1)) 2 (r1.2 2)) 3 (r1.2 3)) 4 (r1.2 4)) 5 (r1.2 5)) 9 (r1.2 9))) (fun (w3 : Int32 × Dat) => some ((w3.1), (r1.1, (va_up (va_up (va_up (va_up (va_up (va_up (va_up d_t_6.2 1 (r1.2 1)) 2 (r1.2 2)) 3 (r1.2 3)) 4 (w3.2.2 4)) 5 (r1.2 5)) 6 (w3.2.2 6)) 9 (r1.2 9))))) (fun (w4 : Dat) => some ((-1), (r1.1, (va_up (va_up (va_up (va_up (va_up (va_up (va_up d_t_6.2 1 (r1.2 1)) 2 (r1.2 2)) 3 (r1.2 3)) 4 (w4.2 4)) 5 (r1.2 5)) 6 (w4.2 6)) 9 (r1.2 9)))))) k (0, (r1.1, (va_up (va_up (va_up (va_up (va_up (va_up d_t_6.2 1 (r1.2 1)) 2 (r1.2 2)) 3 (r1.2 3)) 4 (r1.2 4)) 5 (r1.2 5)) 9 (r1.2 9)))))
set_option maxHeartbeats 4000000 in
set_option maxRecDepth 100000 in
theorem mX6_settles_B13 {l : Launch} {p : Program} {e : Env} {s : State} {m : MethodId} {args : Array Value} {below : List Frame} {meth : Method} {c : Code} {D : va_G} {cs : Nat → ClassId} {sk : Nat → Nat} {A : Nat → Prop} {Q : State → Prop} (h_t : Nat) (q_t : Nat → Nat) (q_t_0 : Nat → Nat) (q_t_1 : Nat → Nat) (q_t_6 : Nat → Nat) (k : Nat) (d_t : Dat) (d_t_0 : Dat) (d_t_1 : Dat) (d_t_6 : Dat) {rv : Int32 × Dat}  (K33 : Int32 × Dat → Option (Int32 × Dat)) (K41 : Dat → Option (Int32 × Dat))
    (M : MC p s m args meth c D cs sk A RX6 cX6_settles 2 (some .int)) (hA : ∀ q, s.heap.size ≤ q → A q) (hR : RetI p l e rm_X6_settles s m args below meth c D cX6_settles A Q (rv.1) [oX6 h_t q_t (d_t.1), oX4 (q_t 0) q_t_0 (d_t_0.1), ((q_t_0 1), .inl (cs 0, 6, .inl (d_t_0.2 1))), ((q_t_0 2), .inl (cs 0, 6, .inl (d_t_0.2 2))), oX0 (q_t 1) q_t_1 (d_t_1.1), ((q_t_1 1), .inl (cs 0, 6, .inl (d_t_1.2 1))), ((q_t_1 2), .inl (cs 0, 6, .inl (d_t_1.2 2))), ((q_t_1 3), .inl (cs 0, 6, .inl (d_t_1.2 3))), ((q_t_1 4), .inl (cs 0, 6, .inl (d_t_1.2 4))), ((q_t_1 5), .inl (cs 0, 6, .inl (d_t_1.2 5))), ((q_t_1 9), .inl (cs 0, 48, .inl (d_t_1.2 9))), oX0 (q_t 6) q_t_6 (rv.2.1), ((q_t_6 1), .inl (cs 0, 6, .inl (rv.2.2 1))), ((q_t_6 2), .inl (cs 0, 6, .inl (rv.2.2 2))), ((q_t_6 3), .inl (cs 0, 6, .inl (rv.2.2 3))), ((q_t_6 4), .inl (cs 0, 6, .inl (rv.2.2 4))), ((q_t_6 5), .inl (cs 0, 6, .inl (rv.2.2 5))), ((q_t_6 6), .inl (cs 0, 6, .inl (rv.2.2 6))), ((q_t_6 9), .inl (cs 0, 48, .inl (rv.2.2 9)))])
    (hK33 : ∀ (w : Int32 × Dat), K33 w = some rv → ∀ (H : Heap) (locs : List Loc) (ls : Array Slot), va_P D vwCl [oX6 h_t q_t (d_t.1), oX4 (q_t 0) q_t_0 (d_t_0.1), ((q_t_0 1), .inl (cs 0, 6, .inl (d_t_0.2 1))), ((q_t_0 2), .inl (cs 0, 6, .inl (d_t_0.2 2))), oX0 (q_t 1) q_t_1 (d_t_1.1), ((q_t_1 1), .inl (cs 0, 6, .inl (d_t_1.2 1))), ((q_t_1 2), .inl (cs 0, 6, .inl (d_t_1.2 2))), ((q_t_1 3), .inl (cs 0, 6, .inl (d_t_1.2 3))), ((q_t_1 4), .inl (cs 0, 6, .inl (d_t_1.2 4))), ((q_t_1 5), .inl (cs 0, 6, .inl (d_t_1.2 5))), ((q_t_1 9), .inl (cs 0, 48, .inl (d_t_1.2 9))), oX0 (q_t 6) q_t_6 (d_t_6.1), ((q_t_6 1), .inl (cs 0, 6, .inl (d_t_6.2 1))), ((q_t_6 2), .inl (cs 0, 6, .inl (d_t_6.2 2))), ((q_t_6 3), .inl (cs 0, 6, .inl (d_t_6.2 3))), ((q_t_6 4), .inl (cs 0, 6, .inl (w.2.2 4))), ((q_t_6 5), .inl (cs 0, 6, .inl (d_t_6.2 5))), ((q_t_6 6), .inl (cs 0, 6, .inl (w.2.2 6))), ((q_t_6 9), .inl (cs 0, 48, .inl (d_t_6.2 9)))] H → va_D A [oX6 h_t q_t (d_t.1), oX4 (q_t 0) q_t_0 (d_t_0.1), ((q_t_0 1), .inl (cs 0, 6, .inl (d_t_0.2 1))), ((q_t_0 2), .inl (cs 0, 6, .inl (d_t_0.2 2))), oX0 (q_t 1) q_t_1 (d_t_1.1), ((q_t_1 1), .inl (cs 0, 6, .inl (d_t_1.2 1))), ((q_t_1 2), .inl (cs 0, 6, .inl (d_t_1.2 2))), ((q_t_1 3), .inl (cs 0, 6, .inl (d_t_1.2 3))), ((q_t_1 4), .inl (cs 0, 6, .inl (d_t_1.2 4))), ((q_t_1 5), .inl (cs 0, 6, .inl (d_t_1.2 5))), ((q_t_1 9), .inl (cs 0, 48, .inl (d_t_1.2 9))), oX0 (q_t 6) q_t_6 (d_t_6.1), ((q_t_6 1), .inl (cs 0, 6, .inl (d_t_6.2 1))), ((q_t_6 2), .inl (cs 0, 6, .inl (d_t_6.2 2))), ((q_t_6 3), .inl (cs 0, 6, .inl (d_t_6.2 3))), ((q_t_6 4), .inl (cs 0, 6, .inl (w.2.2 4))), ((q_t_6 5), .inl (cs 0, 6, .inl (d_t_6.2 5))), ((q_t_6 6), .inl (cs 0, 6, .inl (w.2.2 6))), ((q_t_6 9), .inl (cs 0, 48, .inl (d_t_6.2 9)))] → va_S A s.heap H locs → lv_has ls 2 [(1, .int (w.1))] → W p l e rm_X6_settles s m args below meth c H locs 0 0 Q (F0 m 33 ls []))
    (hK41 : ∀ (w : Dat), K41 w = some rv → ∀ (H : Heap) (locs : List Loc) (ls : Array Slot), va_P D vwCl [oX6 h_t q_t (d_t.1), oX4 (q_t 0) q_t_0 (d_t_0.1), ((q_t_0 1), .inl (cs 0, 6, .inl (d_t_0.2 1))), ((q_t_0 2), .inl (cs 0, 6, .inl (d_t_0.2 2))), oX0 (q_t 1) q_t_1 (d_t_1.1), ((q_t_1 1), .inl (cs 0, 6, .inl (d_t_1.2 1))), ((q_t_1 2), .inl (cs 0, 6, .inl (d_t_1.2 2))), ((q_t_1 3), .inl (cs 0, 6, .inl (d_t_1.2 3))), ((q_t_1 4), .inl (cs 0, 6, .inl (d_t_1.2 4))), ((q_t_1 5), .inl (cs 0, 6, .inl (d_t_1.2 5))), ((q_t_1 9), .inl (cs 0, 48, .inl (d_t_1.2 9))), oX0 (q_t 6) q_t_6 (d_t_6.1), ((q_t_6 1), .inl (cs 0, 6, .inl (d_t_6.2 1))), ((q_t_6 2), .inl (cs 0, 6, .inl (d_t_6.2 2))), ((q_t_6 3), .inl (cs 0, 6, .inl (d_t_6.2 3))), ((q_t_6 4), .inl (cs 0, 6, .inl (w.2 4))), ((q_t_6 5), .inl (cs 0, 6, .inl (d_t_6.2 5))), ((q_t_6 6), .inl (cs 0, 6, .inl (w.2 6))), ((q_t_6 9), .inl (cs 0, 48, .inl (d_t_6.2 9)))] H → va_D A [oX6 h_t q_t (d_t.1), oX4 (q_t 0) q_t_0 (d_t_0.1), ((q_t_0 1), .inl (cs 0, 6, .inl (d_t_0.2 1))), ((q_t_0 2), .inl (cs 0, 6, .inl (d_t_0.2 2))), oX0 (q_t 1) q_t_1 (d_t_1.1), ((q_t_1 1), .inl (cs 0, 6, .inl (d_t_1.2 1))), ((q_t_1 2), .inl (cs 0, 6, .inl (d_t_1.2 2))), ((q_t_1 3), .inl (cs 0, 6, .inl (d_t_1.2 3))), ((q_t_1 4), .inl (cs 0, 6, .inl (d_t_1.2 4))), ((q_t_1 5), .inl (cs 0, 6, .inl (d_t_1.2 5))), ((q_t_1 9), .inl (cs 0, 48, .inl (d_t_1.2 9))), oX0 (q_t 6) q_t_6 (d_t_6.1), ((q_t_6 1), .inl (cs 0, 6, .inl (d_t_6.2 1))), ((q_t_6 2), .inl (cs 0, 6, .inl (d_t_6.2 2))), ((q_t_6 3), .inl (cs 0, 6, .inl (d_t_6.2 3))), ((q_t_6 4), .inl (cs 0, 6, .inl (w.2 4))), ((q_t_6 5), .inl (cs 0, 6, .inl (d_t_6.2 5))), ((q_t_6 6), .inl (cs 0, 6, .inl (w.2 6))), ((q_t_6 9), .inl (cs 0, 48, .inl (d_t_6.2 9)))] → va_S A s.heap H locs → lv_has ls 2 [] → W p l e rm_X6_settles s m args below meth c H locs 0 0 Q (F0 m 41 ls []))
    : ∀ (n : Nat) (v : Int32 × Dat), lp (fX6_settles_B13 k d_t_0 d_t_6 K33 K41) n v = some rv → ∀ (H : Heap) (locs : List Loc) (ls : Array Slot), va_P D vwCl [oX6 h_t q_t (d_t.1), oX4 (q_t 0) q_t_0 (d_t_0.1), ((q_t_0 1), .inl (cs 0, 6, .inl (d_t_0.2 1))), ((q_t_0 2), .inl (cs 0, 6, .inl (d_t_0.2 2))), oX0 (q_t 1) q_t_1 (d_t_1.1), ((q_t_1 1), .inl (cs 0, 6, .inl (d_t_1.2 1))), ((q_t_1 2), .inl (cs 0, 6, .inl (d_t_1.2 2))), ((q_t_1 3), .inl (cs 0, 6, .inl (d_t_1.2 3))), ((q_t_1 4), .inl (cs 0, 6, .inl (d_t_1.2 4))), ((q_t_1 5), .inl (cs 0, 6, .inl (d_t_1.2 5))), ((q_t_1 9), .inl (cs 0, 48, .inl (d_t_1.2 9))), oX0 (q_t 6) q_t_6 (d_t_6.1), ((q_t_6 1), .inl (cs 0, 6, .inl (d_t_6.2 1))), ((q_t_6 2), .inl (cs 0, 6, .inl (d_t_6.2 2))), ((q_t_6 3), .inl (cs 0, 6, .inl (d_t_6.2 3))), ((q_t_6 4), .inl (cs 0, 6, .inl (v.2.2 4))), ((q_t_6 5), .inl (cs 0, 6, .inl (d_t_6.2 5))), ((q_t_6 6), .inl (cs 0, 6, .inl (v.2.2 6))), ((q_t_6 9), .inl (cs 0, 48, .inl (d_t_6.2 9)))] H → va_D A [oX6 h_t q_t (d_t.1), oX4 (q_t 0) q_t_0 (d_t_0.1), ((q_t_0 1), .inl (cs 0, 6, .inl (d_t_0.2 1))), ((q_t_0 2), .inl (cs 0, 6, .inl (d_t_0.2 2))), oX0 (q_t 1) q_t_1 (d_t_1.1), ((q_t_1 1), .inl (cs 0, 6, .inl (d_t_1.2 1))), ((q_t_1 2), .inl (cs 0, 6, .inl (d_t_1.2 2))), ((q_t_1 3), .inl (cs 0, 6, .inl (d_t_1.2 3))), ((q_t_1 4), .inl (cs 0, 6, .inl (d_t_1.2 4))), ((q_t_1 5), .inl (cs 0, 6, .inl (d_t_1.2 5))), ((q_t_1 9), .inl (cs 0, 48, .inl (d_t_1.2 9))), oX0 (q_t 6) q_t_6 (d_t_6.1), ((q_t_6 1), .inl (cs 0, 6, .inl (d_t_6.2 1))), ((q_t_6 2), .inl (cs 0, 6, .inl (d_t_6.2 2))), ((q_t_6 3), .inl (cs 0, 6, .inl (d_t_6.2 3))), ((q_t_6 4), .inl (cs 0, 6, .inl (v.2.2 4))), ((q_t_6 5), .inl (cs 0, 6, .inl (d_t_6.2 5))), ((q_t_6 6), .inl (cs 0, 6, .inl (v.2.2 6))), ((q_t_6 9), .inl (cs 0, 48, .inl (d_t_6.2 9)))] → va_S A s.heap H locs → lv_has ls 2 [(0, .ref h_t), (1, .int (v.1))] → W p l e rm_X6_settles s m args below meth c H locs 0 0 Q (F0 m 13 ls []) := by
  obtain ⟨hx, hb, hml, hT, hown, hlk, hrt, hK, hN, hSE⟩ := id M
  refine lp_ind (fun rec ih v hf H locs ls hP hD hS hl => ?_)
  unfold fX6_settles_B13 at hf
  refine lv_iload_n hx hb dX6_settles_13 rfl (lv_at hl 1 rfl) ?_
  refine lv_bipush (v := 20) hx hb dX6_settles_14 rfl ?_
  have g2 := ite_some hf
  refine lv_icmp_gt (tgt := 41) hx hb dX6_settles_16 (by decide) (fun c1 => ?_) (fun c1 => ?_)
  · replace hf := g2.1 c1
    exact hK41 _ hf _ _ _ hP hD hS (lv_sub hl [] rfl)
  · replace hf := g2.2 c1
    refine lv_aload_n hx hb dX6_settles_19 rfl (lv_at hl 0 rfl) ?_
    refine va_get (D := D) (ci := 6) (v := .ref (q_t 6)) (C := RX6) (T := TX6) (N := 18) hx hb hT iX6 hown hK hP 0 rfl rfl 6 (by decide) (hT _ fw_X6_38) (fun _ h9 => h9) rfl dX6_settles_20 ?_
    refine lv_aload_n hx hb dX6_settles_23 rfl (lv_at hl 0 rfl) ?_
    refine va_get (D := D) (ci := 6) (v := .ref (q_t 0)) (C := RX6) (T := TX6) (N := 18) hx hb hT iX6 hown hK hP 0 rfl rfl 0 (by decide) (hT _ fw_X6_10) (fun _ h9 => h9) rfl dX6_settles_24 ?_
    obtain ⟨r3, e4, hf⟩ := bind_some hf
    refine callVi (As := [.ref (q_t 0)]) (rest := []) M (mX0_advance l D cs sk (q_t 6) (q_t 0) q_t_6 q_t_0 k (d_t_6.1, (va_up (va_up d_t_6.2 4 (v.2.2 4)) 6 (v.2.2 6))) d_t_0 e4) mw_X6_235 ln_X0_advance ⟨rfl, rfl, Nat.le_of_ble_eq_true rfl, Nat.le_of_ble_eq_true rfl⟩ hP hD hS hA [11, 13, 15, 16, 17, 1, 2, 3] (by decide) rfl rfl (q0 := 0) rfl rfl rfl ⟨Nat.zero_le _, Nat.zero_le _⟩ hl.1 rfl (Nat.le_of_ble_eq_true rfl) dX6_settles_27 (fun H locs hP hD hS => ?_)
    replace hP : va_P D vwCl [oX6 h_t q_t (d_t.1), oX4 (q_t 0) q_t_0 (d_t_0.1), ((q_t_0 1), .inl (cs 0, 6, .inl (d_t_0.2 1))), ((q_t_0 2), .inl (cs 0, 6, .inl (d_t_0.2 2))), oX0 (q_t 1) q_t_1 (d_t_1.1), ((q_t_1 1), .inl (cs 0, 6, .inl (d_t_1.2 1))), ((q_t_1 2), .inl (cs 0, 6, .inl (d_t_1.2 2))), ((q_t_1 3), .inl (cs 0, 6, .inl (d_t_1.2 3))), ((q_t_1 4), .inl (cs 0, 6, .inl (d_t_1.2 4))), ((q_t_1 5), .inl (cs 0, 6, .inl (d_t_1.2 5))), ((q_t_1 9), .inl (cs 0, 48, .inl (d_t_1.2 9))), oX0 (q_t 6) q_t_6 (d_t_6.1), ((q_t_6 1), .inl (cs 0, 6, .inl (d_t_6.2 1))), ((q_t_6 2), .inl (cs 0, 6, .inl (d_t_6.2 2))), ((q_t_6 3), .inl (cs 0, 6, .inl (d_t_6.2 3))), ((q_t_6 4), .inl (cs 0, 6, .inl (r3.2.2 4))), ((q_t_6 5), .inl (cs 0, 6, .inl (d_t_6.2 5))), ((q_t_6 6), .inl (cs 0, 6, .inl (r3.2.2 6))), ((q_t_6 9), .inl (cs 0, 48, .inl (d_t_6.2 9)))] H := hP
    replace hD : va_D A [oX6 h_t q_t (d_t.1), oX4 (q_t 0) q_t_0 (d_t_0.1), ((q_t_0 1), .inl (cs 0, 6, .inl (d_t_0.2 1))), ((q_t_0 2), .inl (cs 0, 6, .inl (d_t_0.2 2))), oX0 (q_t 1) q_t_1 (d_t_1.1), ((q_t_1 1), .inl (cs 0, 6, .inl (d_t_1.2 1))), ((q_t_1 2), .inl (cs 0, 6, .inl (d_t_1.2 2))), ((q_t_1 3), .inl (cs 0, 6, .inl (d_t_1.2 3))), ((q_t_1 4), .inl (cs 0, 6, .inl (d_t_1.2 4))), ((q_t_1 5), .inl (cs 0, 6, .inl (d_t_1.2 5))), ((q_t_1 9), .inl (cs 0, 48, .inl (d_t_1.2 9))), oX0 (q_t 6) q_t_6 (d_t_6.1), ((q_t_6 1), .inl (cs 0, 6, .inl (d_t_6.2 1))), ((q_t_6 2), .inl (cs 0, 6, .inl (d_t_6.2 2))), ((q_t_6 3), .inl (cs 0, 6, .inl (d_t_6.2 3))), ((q_t_6 4), .inl (cs 0, 6, .inl (r3.2.2 4))), ((q_t_6 5), .inl (cs 0, 6, .inl (d_t_6.2 5))), ((q_t_6 6), .inl (cs 0, 6, .inl (r3.2.2 6))), ((q_t_6 9), .inl (cs 0, 48, .inl (d_t_6.2 9)))] := hD
    have g6 := ite_some hf
    refine lv_if_ne (tgt := 35) hx hb dX6_settles_30 (by decide) (fun c5 => ?_) (fun c5 => ?_)
    · replace hf := g6.2 c5
      refine lv_iinc (v := ((v.1) + 1)) (lv' := [(1, .int ((v.1) + 1)), (0, .ref h_t)]) hx hb dX6_settles_35 hl (k := 1) rfl rfl (by decide) rfl (fun ls hl => ?_)
      refine lv_goto (tgt := 13) hx hb dX6_settles_38 (by decide) ?_
      exact ih _ hf _ _ _ hP hD hS (lv_sub hl [1, 0] rfl)
    · replace hf := g6.1 c5
      exact hK33 _ hf _ _ _ hP hD hS (lv_sub hl [1] rfl)
set_option maxHeartbeats 4000000 in
set_option maxRecDepth 100000 in
theorem mX6_settles (l : Launch) (D : va_G) (cs : Nat → ClassId) (sk : Nat → Nat) (h_t : Nat) (q_t : Nat → Nat) (q_t_0 : Nat → Nat) (q_t_1 : Nat → Nat) (q_t_6 : Nat → Nat) (k : Nat) (d_t : Dat) (d_t_0 : Dat) (d_t_1 : Dat) (d_t_6 : Dat) {rv : Int32 × Dat} (hf : fX6_settles k d_t d_t_0 d_t_1 d_t_6 = some rv) : CTi l yX6_settles (Cond.code yX6_settles cX6_settles 2 (some .int) :: gtbl) rm_X6_settles D cs sk [.ref h_t] [oX6 h_t q_t (d_t.1), oX4 (q_t 0) q_t_0 (d_t_0.1), ((q_t_0 1), .inl (cs 0, 6, .inl (d_t_0.2 1))), ((q_t_0 2), .inl (cs 0, 6, .inl (d_t_0.2 2))), oX0 (q_t 1) q_t_1 (d_t_1.1), ((q_t_1 1), .inl (cs 0, 6, .inl (d_t_1.2 1))), ((q_t_1 2), .inl (cs 0, 6, .inl (d_t_1.2 2))), ((q_t_1 3), .inl (cs 0, 6, .inl (d_t_1.2 3))), ((q_t_1 4), .inl (cs 0, 6, .inl (d_t_1.2 4))), ((q_t_1 5), .inl (cs 0, 6, .inl (d_t_1.2 5))), ((q_t_1 9), .inl (cs 0, 48, .inl (d_t_1.2 9))), oX0 (q_t 6) q_t_6 (d_t_6.1), ((q_t_6 1), .inl (cs 0, 6, .inl (d_t_6.2 1))), ((q_t_6 2), .inl (cs 0, 6, .inl (d_t_6.2 2))), ((q_t_6 3), .inl (cs 0, 6, .inl (d_t_6.2 3))), ((q_t_6 4), .inl (cs 0, 6, .inl (d_t_6.2 4))), ((q_t_6 5), .inl (cs 0, 6, .inl (d_t_6.2 5))), ((q_t_6 6), .inl (cs 0, 6, .inl (d_t_6.2 6))), ((q_t_6 9), .inl (cs 0, 48, .inl (d_t_6.2 9)))] (rv.1) [oX6 h_t q_t (d_t.1), oX4 (q_t 0) q_t_0 (d_t_0.1), ((q_t_0 1), .inl (cs 0, 6, .inl (d_t_0.2 1))), ((q_t_0 2), .inl (cs 0, 6, .inl (d_t_0.2 2))), oX0 (q_t 1) q_t_1 (d_t_1.1), ((q_t_1 1), .inl (cs 0, 6, .inl (d_t_1.2 1))), ((q_t_1 2), .inl (cs 0, 6, .inl (d_t_1.2 2))), ((q_t_1 3), .inl (cs 0, 6, .inl (d_t_1.2 3))), ((q_t_1 4), .inl (cs 0, 6, .inl (d_t_1.2 4))), ((q_t_1 5), .inl (cs 0, 6, .inl (d_t_1.2 5))), ((q_t_1 9), .inl (cs 0, 48, .inl (d_t_1.2 9))), oX0 (q_t 6) q_t_6 (rv.2.1), ((q_t_6 1), .inl (cs 0, 6, .inl (rv.2.2 1))), ((q_t_6 2), .inl (cs 0, 6, .inl (rv.2.2 2))), ((q_t_6 3), .inl (cs 0, 6, .inl (rv.2.2 3))), ((q_t_6 4), .inl (cs 0, 6, .inl (rv.2.2 4))), ((q_t_6 5), .inl (cs 0, 6, .inl (rv.2.2 5))), ((q_t_6 6), .inl (cs 0, 6, .inl (rv.2.2 6))), ((q_t_6 9), .inl (cs 0, 48, .inl (rv.2.2 9)))] := by
  refine CTi.of RX6 (by decide +kernel) rfl (Nat.le_of_ble_eq_true rfl) (fun p e s m args below meth c A Q ls M hA hR hl hP hD hS => ?_)
  obtain ⟨hx, hb, hml, hT, hown, hlk, hrt, hK, hN, hSE⟩ := id M
  replace hl : lv_has ls 2 [(0, .ref h_t)] := hl
  unfold fX6_settles at hf
  refine lv_aload_n hx hb dX6_settles_0 rfl (lv_at hl 0 rfl) ?_
  refine va_get (D := D) (ci := 6) (v := .ref (q_t 6)) (C := RX6) (T := TX6) (N := 18) hx hb hT iX6 hown hK hP 0 rfl rfl 6 (by decide) (hT _ fw_X6_38) (fun _ h9 => h9) rfl dX6_settles_1 ?_
  refine lv_aload_n hx hb dX6_settles_4 rfl (lv_at hl 0 rfl) ?_
  refine va_get (D := D) (ci := 6) (v := .ref (q_t 1)) (C := RX6) (T := TX6) (N := 18) hx hb hT iX6 hown hK hP 0 rfl rfl 1 (by decide) (hT _ fw_X6_19) (fun _ h9 => h9) rfl dX6_settles_5 ?_
  obtain ⟨r1, e2, hf⟩ := bind_some hf
  refine callVv (As := [.ref (q_t 1)]) (rest := []) M (mX0_becomeLike l D cs sk (q_t 6) (q_t 1) q_t_6 q_t_1 k d_t_6 d_t_1 e2) mw_X6_181 ln_X0_becomeLike ⟨rfl, rfl, Nat.le_of_ble_eq_true rfl, Nat.le_of_ble_eq_true rfl⟩ hP hD hS hA [11, 12, 13, 14, 15, 16, 18, 4, 5, 6, 7, 8, 9, 10] (by decide) rfl rfl (q0 := 0) rfl rfl rfl ⟨Nat.zero_le _, Nat.zero_le _⟩ hl.1 rfl (Nat.le_of_ble_eq_true rfl) dX6_settles_8 (fun H locs hP hD hS => ?_)
  replace hP : va_P D vwCl [oX6 h_t q_t (d_t.1), oX4 (q_t 0) q_t_0 (d_t_0.1), ((q_t_0 1), .inl (cs 0, 6, .inl (d_t_0.2 1))), ((q_t_0 2), .inl (cs 0, 6, .inl (d_t_0.2 2))), oX0 (q_t 1) q_t_1 (d_t_1.1), ((q_t_1 1), .inl (cs 0, 6, .inl (d_t_1.2 1))), ((q_t_1 2), .inl (cs 0, 6, .inl (d_t_1.2 2))), ((q_t_1 3), .inl (cs 0, 6, .inl (d_t_1.2 3))), ((q_t_1 4), .inl (cs 0, 6, .inl (d_t_1.2 4))), ((q_t_1 5), .inl (cs 0, 6, .inl (d_t_1.2 5))), ((q_t_1 9), .inl (cs 0, 48, .inl (d_t_1.2 9))), oX0 (q_t 6) q_t_6 (r1.1), ((q_t_6 1), .inl (cs 0, 6, .inl (r1.2 1))), ((q_t_6 2), .inl (cs 0, 6, .inl (r1.2 2))), ((q_t_6 3), .inl (cs 0, 6, .inl (r1.2 3))), ((q_t_6 4), .inl (cs 0, 6, .inl (r1.2 4))), ((q_t_6 5), .inl (cs 0, 6, .inl (r1.2 5))), ((q_t_6 6), .inl (cs 0, 6, .inl (d_t_6.2 6))), ((q_t_6 9), .inl (cs 0, 48, .inl (r1.2 9)))] H := hP
  replace hD : va_D A [oX6 h_t q_t (d_t.1), oX4 (q_t 0) q_t_0 (d_t_0.1), ((q_t_0 1), .inl (cs 0, 6, .inl (d_t_0.2 1))), ((q_t_0 2), .inl (cs 0, 6, .inl (d_t_0.2 2))), oX0 (q_t 1) q_t_1 (d_t_1.1), ((q_t_1 1), .inl (cs 0, 6, .inl (d_t_1.2 1))), ((q_t_1 2), .inl (cs 0, 6, .inl (d_t_1.2 2))), ((q_t_1 3), .inl (cs 0, 6, .inl (d_t_1.2 3))), ((q_t_1 4), .inl (cs 0, 6, .inl (d_t_1.2 4))), ((q_t_1 5), .inl (cs 0, 6, .inl (d_t_1.2 5))), ((q_t_1 9), .inl (cs 0, 48, .inl (d_t_1.2 9))), oX0 (q_t 6) q_t_6 (r1.1), ((q_t_6 1), .inl (cs 0, 6, .inl (r1.2 1))), ((q_t_6 2), .inl (cs 0, 6, .inl (r1.2 2))), ((q_t_6 3), .inl (cs 0, 6, .inl (r1.2 3))), ((q_t_6 4), .inl (cs 0, 6, .inl (r1.2 4))), ((q_t_6 5), .inl (cs 0, 6, .inl (r1.2 5))), ((q_t_6 6), .inl (cs 0, 6, .inl (d_t_6.2 6))), ((q_t_6 9), .inl (cs 0, 48, .inl (r1.2 9)))] := hD
  refine lv_iconst (v := 0) hx hb dX6_settles_11 rfl ?_
  refine lv_istore_n (lv' := [(1, .int 0), (0, .ref h_t)]) hx hb dX6_settles_12 rfl hl (by decide) rfl (fun ls hl => ?_)
  refine mX6_settles_B13 h_t q_t q_t_0 q_t_1 q_t_6 k d_t d_t_0 d_t_1 (r1.1, (va_up (va_up (va_up (va_up (va_up (va_up d_t_6.2 1 (r1.2 1)) 2 (r1.2 2)) 3 (r1.2 3)) 4 (r1.2 4)) 5 (r1.2 5)) 9 (r1.2 9))) _ _ M hA hR (fun w3 hf H locs ls hP hD hS hl => ?_) (fun w4 hf H locs ls hP hD hS hl => ?_) _ _ hf _ _ _ hP hD hS (lv_sub hl [1, 0] rfl)
  · refine lv_iload_n hx hb dX6_settles_33 rfl (lv_at hl 0 rfl) ?_
    have e9 := Option.some.inj hf
    subst e9
    exact hR _ _ _ _ dX6_settles_34 hP hS
  · refine lv_iconst (v := (-1)) hx hb dX6_settles_41 rfl ?_
    have e9 := Option.some.inj hf
    subst e9
    exact hR _ _ _ _ dX6_settles_42 hP hS
abbrev rm_X6_slip : Room := { frames := 4, cells := 0, slots := 0, locals := 102 }
def fX6_slip_B84 (k : Nat) (x3 : Int32) (d_t_0 : Dat) (d_t_6 : Dat) (d_t_7 : Dat) (K120 : Dat × Dat → Option (Int32 × Dat × Dat × Dat)) (rec : Int32 × Dat × Dat → Option (Int32 × Dat × Dat × Dat)) (v : Int32 × Dat × Dat) : Option (Int32 × Dat × Dat × Dat) :=
  (if x3 ≤ (v.1) then K120 ((d_t_6.1, (va_up (va_up d_t_6.2 4 (v.2.1.2 4)) 6 (v.2.1.2 6))), (d_t_7.1, (va_up (va_up d_t_7.2 4 (v.2.2.2 4)) 6 (v.2.2.2 6)))) else (fX0_advance k (d_t_6.1, (va_up (va_up d_t_6.2 4 (v.2.1.2 4)) 6 (v.2.1.2 6))) d_t_0).bind (fun (r3 : Int32 × Dat) => (fX0_advance k (d_t_7.1, (va_up (va_up d_t_7.2 4 (v.2.2.2 4)) 6 (v.2.2.2 6))) d_t_0).bind (fun (r5 : Int32 × Dat) => rec (((v.1) + 1), (d_t_6.1, (va_up (va_up d_t_6.2 4 (r3.2.2 4)) 6 (r3.2.2 6))), (d_t_7.1, (va_up (va_up d_t_7.2 4 (r5.2.2 4)) 6 (r5.2.2 6)))))))
def fX6_slip (k : Nat) (d_t : Dat) (d_t_0 : Dat) (d_t_1 : Dat) (d_t_6 : Dat) (d_t_7 : Dat) (x1 : Int32) (x2 : Int32) (x3 : Int32) : Option (Int32 × Dat × Dat × Dat) :=
  (fX6_hasPlayer k d_t d_t_1 x1).bind (fun (r1 : Int32) => (if r1 = 0 then (fX6_refuseBad k d_t (-2)).bind (fun (r5 : Int32 × Dat) => some ((r5.1), (r5.2.1, d_t.2), d_t_6, d_t_7)) else (fX6_isWithin k x2 (-99) 99).bind (fun (r7 : Int32) => (if r7 = 0 then (fX6_refuseBad k d_t (-2)).bind (fun (r11 : Int32 × Dat) => some ((r11.1), (r11.2.1, d_t.2), d_t_6, d_t_7)) else (fX6_isWithin k x3 0 20).bind (fun (r13 : Int32) => (if r13 = 0 then (fX6_refuseBad k d_t (-2)).bind (fun (r26 : Int32 × Dat) => some ((r26.1), (r26.2.1, d_t.2), d_t_6, d_t_7)) else (fX0_becomeLike k d_t_6 d_t_1).bind (fun (r17 : Dat) => (fX0_becomeLike k d_t_7 d_t_1).bind (fun (r19 : Dat) => chk 6 x1 ((fX6_heldOffset k (((d_t_1.2 4) x1.toNatClampNeg) + x2)).bind (fun (r21 : Int32) => chk 6 x1 (lp (fX6_slip_B84 k x3 d_t_0 (r17.1, (va_up (va_up (va_up (va_up (va_up (va_up d_t_6.2 1 (r17.2 1)) 2 (r17.2 2)) 3 (r17.2 3)) 4 (r17.2 4)) 5 (r17.2 5)) 9 (r17.2 9))) (r19.1, (va_up (va_up (va_up (va_up (va_up (va_up d_t_7.2 1 (r19.2 1)) 2 (r19.2 2)) 3 (r19.2 3)) 4 (upd (r19.2 4) x1.toNatClampNeg r21)) 5 (r19.2 5)) 9 (r19.2 9))) (fun (w23 : Dat × Dat) => (fX0_playersUnlike k (r17.1, (va_up (va_up (va_up (va_up (va_up (va_up (va_up d_t_6.2 1 (r17.2 1)) 2 (r17.2 2)) 3 (r17.2 3)) 4 (w23.1.2 4)) 5 (r17.2 5)) 6 (w23.1.2 6)) 9 (r17.2 9))) (r19.1, (va_up (va_up (va_up (va_up (va_up (va_up (va_up d_t_7.2 1 (r19.2 1)) 2 (r19.2 2)) 3 (r19.2 3)) 4 (w23.2.2 4)) 5 (r19.2 5)) 6 (w23.2.2 6)) 9 (r19.2 9)))).bind (fun (r24 : Int32) => some (r24, d_t, (r17.1, (va_up (va_up (va_up (va_up (va_up (va_up (va_up d_t_6.2 1 (r17.2 1)) 2 (r17.2 2)) 3 (r17.2 3)) 4 (w23.1.2 4)) 5 (r17.2 5)) 6 (w23.1.2 6)) 9 (r17.2 9))), (r19.1, (va_up (va_up (va_up (va_up (va_up (va_up (va_up d_t_7.2 1 (r19.2 1)) 2 (r19.2 2)) 3 (r19.2 3)) 4 (w23.2.2 4)) 5 (r19.2 5)) 6 (w23.2.2 6)) 9 (r19.2 9))))))) k (0, (r17.1, (va_up (va_up (va_up (va_up (va_up (va_up d_t_6.2 1 (r17.2 1)) 2 (r17.2 2)) 3 (r17.2 3)) 4 (r17.2 4)) 5 (r17.2 5)) 9 (r17.2 9))), (r19.1, (va_up (va_up (va_up (va_up (va_up (va_up d_t_7.2 1 (r19.2 1)) 2 (r19.2 2)) 3 (r19.2 3)) 4 (upd (r19.2 4) x1.toNatClampNeg r21)) 5 (r19.2 5)) 9 (r19.2 9)))))))))))))))
set_option maxHeartbeats 4000000 in
set_option maxRecDepth 100000 in
theorem mX6_slip_B84 {l : Launch} {p : Program} {e : Env} {s : State} {m : MethodId} {args : Array Value} {below : List Frame} {meth : Method} {c : Code} {D : va_G} {cs : Nat → ClassId} {sk : Nat → Nat} {A : Nat → Prop} {Q : State → Prop} (h_t : Nat) (q_t : Nat → Nat) (q_t_0 : Nat → Nat) (q_t_1 : Nat → Nat) (q_t_6 : Nat → Nat) (q_t_7 : Nat → Nat) (k : Nat) (x3 : Int32) (d_t : Dat) (d_t_0 : Dat) (d_t_1 : Dat) (d_t_6 : Dat) (d_t_7 : Dat) {rv : Int32 × Dat × Dat × Dat}  (K120 : Dat × Dat → Option (Int32 × Dat × Dat × Dat))
    (M : MC p s m args meth c D cs sk A RX6 cX6_slip 5 (some .int)) (hA : ∀ q, s.heap.size ≤ q → A q) (hR : RetI p l e rm_X6_slip s m args below meth c D cX6_slip A Q (rv.1) [oX6 h_t q_t (rv.2.1.1), oX4 (q_t 0) q_t_0 (d_t_0.1), ((q_t_0 1), .inl (cs 0, 6, .inl (d_t_0.2 1))), ((q_t_0 2), .inl (cs 0, 6, .inl (d_t_0.2 2))), oX0 (q_t 1) q_t_1 (d_t_1.1), ((q_t_1 1), .inl (cs 0, 6, .inl (d_t_1.2 1))), ((q_t_1 2), .inl (cs 0, 6, .inl (d_t_1.2 2))), ((q_t_1 3), .inl (cs 0, 6, .inl (d_t_1.2 3))), ((q_t_1 4), .inl (cs 0, 6, .inl (d_t_1.2 4))), ((q_t_1 5), .inl (cs 0, 6, .inl (d_t_1.2 5))), ((q_t_1 9), .inl (cs 0, 48, .inl (d_t_1.2 9))), oX0 (q_t 6) q_t_6 (rv.2.2.1.1), ((q_t_6 1), .inl (cs 0, 6, .inl (rv.2.2.1.2 1))), ((q_t_6 2), .inl (cs 0, 6, .inl (rv.2.2.1.2 2))), ((q_t_6 3), .inl (cs 0, 6, .inl (rv.2.2.1.2 3))), ((q_t_6 4), .inl (cs 0, 6, .inl (rv.2.2.1.2 4))), ((q_t_6 5), .inl (cs 0, 6, .inl (rv.2.2.1.2 5))), ((q_t_6 6), .inl (cs 0, 6, .inl (rv.2.2.1.2 6))), ((q_t_6 9), .inl (cs 0, 48, .inl (rv.2.2.1.2 9))), oX0 (q_t 7) q_t_7 (rv.2.2.2.1), ((q_t_7 1), .inl (cs 0, 6, .inl (rv.2.2.2.2 1))), ((q_t_7 2), .inl (cs 0, 6, .inl (rv.2.2.2.2 2))), ((q_t_7 3), .inl (cs 0, 6, .inl (rv.2.2.2.2 3))), ((q_t_7 4), .inl (cs 0, 6, .inl (rv.2.2.2.2 4))), ((q_t_7 5), .inl (cs 0, 6, .inl (rv.2.2.2.2 5))), ((q_t_7 6), .inl (cs 0, 6, .inl (rv.2.2.2.2 6))), ((q_t_7 9), .inl (cs 0, 48, .inl (rv.2.2.2.2 9)))])
    (hK120 : ∀ (w : Dat × Dat), K120 w = some rv → ∀ (H : Heap) (locs : List Loc) (ls : Array Slot), va_P D vwCl [oX6 h_t q_t (d_t.1), oX4 (q_t 0) q_t_0 (d_t_0.1), ((q_t_0 1), .inl (cs 0, 6, .inl (d_t_0.2 1))), ((q_t_0 2), .inl (cs 0, 6, .inl (d_t_0.2 2))), oX0 (q_t 1) q_t_1 (d_t_1.1), ((q_t_1 1), .inl (cs 0, 6, .inl (d_t_1.2 1))), ((q_t_1 2), .inl (cs 0, 6, .inl (d_t_1.2 2))), ((q_t_1 3), .inl (cs 0, 6, .inl (d_t_1.2 3))), ((q_t_1 4), .inl (cs 0, 6, .inl (d_t_1.2 4))), ((q_t_1 5), .inl (cs 0, 6, .inl (d_t_1.2 5))), ((q_t_1 9), .inl (cs 0, 48, .inl (d_t_1.2 9))), oX0 (q_t 6) q_t_6 (d_t_6.1), ((q_t_6 1), .inl (cs 0, 6, .inl (d_t_6.2 1))), ((q_t_6 2), .inl (cs 0, 6, .inl (d_t_6.2 2))), ((q_t_6 3), .inl (cs 0, 6, .inl (d_t_6.2 3))), ((q_t_6 4), .inl (cs 0, 6, .inl (w.1.2 4))), ((q_t_6 5), .inl (cs 0, 6, .inl (d_t_6.2 5))), ((q_t_6 6), .inl (cs 0, 6, .inl (w.1.2 6))), ((q_t_6 9), .inl (cs 0, 48, .inl (d_t_6.2 9))), oX0 (q_t 7) q_t_7 (d_t_7.1), ((q_t_7 1), .inl (cs 0, 6, .inl (d_t_7.2 1))), ((q_t_7 2), .inl (cs 0, 6, .inl (d_t_7.2 2))), ((q_t_7 3), .inl (cs 0, 6, .inl (d_t_7.2 3))), ((q_t_7 4), .inl (cs 0, 6, .inl (w.2.2 4))), ((q_t_7 5), .inl (cs 0, 6, .inl (d_t_7.2 5))), ((q_t_7 6), .inl (cs 0, 6, .inl (w.2.2 6))), ((q_t_7 9), .inl (cs 0, 48, .inl (d_t_7.2 9)))] H → va_D A [oX6 h_t q_t (d_t.1), oX4 (q_t 0) q_t_0 (d_t_0.1), ((q_t_0 1), .inl (cs 0, 6, .inl (d_t_0.2 1))), ((q_t_0 2), .inl (cs 0, 6, .inl (d_t_0.2 2))), oX0 (q_t 1) q_t_1 (d_t_1.1), ((q_t_1 1), .inl (cs 0, 6, .inl (d_t_1.2 1))), ((q_t_1 2), .inl (cs 0, 6, .inl (d_t_1.2 2))), ((q_t_1 3), .inl (cs 0, 6, .inl (d_t_1.2 3))), ((q_t_1 4), .inl (cs 0, 6, .inl (d_t_1.2 4))), ((q_t_1 5), .inl (cs 0, 6, .inl (d_t_1.2 5))), ((q_t_1 9), .inl (cs 0, 48, .inl (d_t_1.2 9))), oX0 (q_t 6) q_t_6 (d_t_6.1), ((q_t_6 1), .inl (cs 0, 6, .inl (d_t_6.2 1))), ((q_t_6 2), .inl (cs 0, 6, .inl (d_t_6.2 2))), ((q_t_6 3), .inl (cs 0, 6, .inl (d_t_6.2 3))), ((q_t_6 4), .inl (cs 0, 6, .inl (w.1.2 4))), ((q_t_6 5), .inl (cs 0, 6, .inl (d_t_6.2 5))), ((q_t_6 6), .inl (cs 0, 6, .inl (w.1.2 6))), ((q_t_6 9), .inl (cs 0, 48, .inl (d_t_6.2 9))), oX0 (q_t 7) q_t_7 (d_t_7.1), ((q_t_7 1), .inl (cs 0, 6, .inl (d_t_7.2 1))), ((q_t_7 2), .inl (cs 0, 6, .inl (d_t_7.2 2))), ((q_t_7 3), .inl (cs 0, 6, .inl (d_t_7.2 3))), ((q_t_7 4), .inl (cs 0, 6, .inl (w.2.2 4))), ((q_t_7 5), .inl (cs 0, 6, .inl (d_t_7.2 5))), ((q_t_7 6), .inl (cs 0, 6, .inl (w.2.2 6))), ((q_t_7 9), .inl (cs 0, 48, .inl (d_t_7.2 9)))] → va_S A s.heap H locs → lv_has ls 5 [(0, .ref h_t)] → W p l e rm_X6_slip s m args below meth c H locs 0 0 Q (F0 m 120 ls []))
    : ∀ (n : Nat) (v : Int32 × Dat × Dat), lp (fX6_slip_B84 k x3 d_t_0 d_t_6 d_t_7 K120) n v = some rv → ∀ (H : Heap) (locs : List Loc) (ls : Array Slot), va_P D vwCl [oX6 h_t q_t (d_t.1), oX4 (q_t 0) q_t_0 (d_t_0.1), ((q_t_0 1), .inl (cs 0, 6, .inl (d_t_0.2 1))), ((q_t_0 2), .inl (cs 0, 6, .inl (d_t_0.2 2))), oX0 (q_t 1) q_t_1 (d_t_1.1), ((q_t_1 1), .inl (cs 0, 6, .inl (d_t_1.2 1))), ((q_t_1 2), .inl (cs 0, 6, .inl (d_t_1.2 2))), ((q_t_1 3), .inl (cs 0, 6, .inl (d_t_1.2 3))), ((q_t_1 4), .inl (cs 0, 6, .inl (d_t_1.2 4))), ((q_t_1 5), .inl (cs 0, 6, .inl (d_t_1.2 5))), ((q_t_1 9), .inl (cs 0, 48, .inl (d_t_1.2 9))), oX0 (q_t 6) q_t_6 (d_t_6.1), ((q_t_6 1), .inl (cs 0, 6, .inl (d_t_6.2 1))), ((q_t_6 2), .inl (cs 0, 6, .inl (d_t_6.2 2))), ((q_t_6 3), .inl (cs 0, 6, .inl (d_t_6.2 3))), ((q_t_6 4), .inl (cs 0, 6, .inl (v.2.1.2 4))), ((q_t_6 5), .inl (cs 0, 6, .inl (d_t_6.2 5))), ((q_t_6 6), .inl (cs 0, 6, .inl (v.2.1.2 6))), ((q_t_6 9), .inl (cs 0, 48, .inl (d_t_6.2 9))), oX0 (q_t 7) q_t_7 (d_t_7.1), ((q_t_7 1), .inl (cs 0, 6, .inl (d_t_7.2 1))), ((q_t_7 2), .inl (cs 0, 6, .inl (d_t_7.2 2))), ((q_t_7 3), .inl (cs 0, 6, .inl (d_t_7.2 3))), ((q_t_7 4), .inl (cs 0, 6, .inl (v.2.2.2 4))), ((q_t_7 5), .inl (cs 0, 6, .inl (d_t_7.2 5))), ((q_t_7 6), .inl (cs 0, 6, .inl (v.2.2.2 6))), ((q_t_7 9), .inl (cs 0, 48, .inl (d_t_7.2 9)))] H → va_D A [oX6 h_t q_t (d_t.1), oX4 (q_t 0) q_t_0 (d_t_0.1), ((q_t_0 1), .inl (cs 0, 6, .inl (d_t_0.2 1))), ((q_t_0 2), .inl (cs 0, 6, .inl (d_t_0.2 2))), oX0 (q_t 1) q_t_1 (d_t_1.1), ((q_t_1 1), .inl (cs 0, 6, .inl (d_t_1.2 1))), ((q_t_1 2), .inl (cs 0, 6, .inl (d_t_1.2 2))), ((q_t_1 3), .inl (cs 0, 6, .inl (d_t_1.2 3))), ((q_t_1 4), .inl (cs 0, 6, .inl (d_t_1.2 4))), ((q_t_1 5), .inl (cs 0, 6, .inl (d_t_1.2 5))), ((q_t_1 9), .inl (cs 0, 48, .inl (d_t_1.2 9))), oX0 (q_t 6) q_t_6 (d_t_6.1), ((q_t_6 1), .inl (cs 0, 6, .inl (d_t_6.2 1))), ((q_t_6 2), .inl (cs 0, 6, .inl (d_t_6.2 2))), ((q_t_6 3), .inl (cs 0, 6, .inl (d_t_6.2 3))), ((q_t_6 4), .inl (cs 0, 6, .inl (v.2.1.2 4))), ((q_t_6 5), .inl (cs 0, 6, .inl (d_t_6.2 5))), ((q_t_6 6), .inl (cs 0, 6, .inl (v.2.1.2 6))), ((q_t_6 9), .inl (cs 0, 48, .inl (d_t_6.2 9))), oX0 (q_t 7) q_t_7 (d_t_7.1), ((q_t_7 1), .inl (cs 0, 6, .inl (d_t_7.2 1))), ((q_t_7 2), .inl (cs 0, 6, .inl (d_t_7.2 2))), ((q_t_7 3), .inl (cs 0, 6, .inl (d_t_7.2 3))), ((q_t_7 4), .inl (cs 0, 6, .inl (v.2.2.2 4))), ((q_t_7 5), .inl (cs 0, 6, .inl (d_t_7.2 5))), ((q_t_7 6), .inl (cs 0, 6, .inl (v.2.2.2 6))), ((q_t_7 9), .inl (cs 0, 48, .inl (d_t_7.2 9)))] → va_S A s.heap H locs → lv_has ls 5 [(0, .ref h_t), (3, .int x3), (4, .int (v.1))] → W p l e rm_X6_slip s m args below meth c H locs 0 0 Q (F0 m 84 ls []) := by
  obtain ⟨hx, hb, hml, hT, hown, hlk, hrt, hK, hN, hSE⟩ := id M
  refine lp_ind (fun rec ih v hf H locs ls hP hD hS hl => ?_)
  unfold fX6_slip_B84 at hf
  refine lv_iload hx hb dX6_slip_84 (lv_at hl 2 rfl) ?_
  refine lv_iload_n hx hb dX6_slip_86 rfl (lv_at hl 1 rfl) ?_
  have g2 := ite_some hf
  refine lv_icmp_ge (tgt := 120) hx hb dX6_slip_87 (by decide) (fun c1 => ?_) (fun c1 => ?_)
  · replace hf := g2.1 c1
    exact hK120 _ hf _ _ _ hP hD hS (lv_sub hl [0] rfl)
  · replace hf := g2.2 c1
    refine lv_aload_n hx hb dX6_slip_90 rfl (lv_at hl 0 rfl) ?_
    refine va_get (D := D) (ci := 6) (v := .ref (q_t 6)) (C := RX6) (T := TX6) (N := 18) hx hb hT iX6 hown hK hP 0 rfl rfl 6 (by decide) (hT _ fw_X6_38) (fun _ h9 => h9) rfl dX6_slip_91 ?_
    refine lv_aload_n hx hb dX6_slip_94 rfl (lv_at hl 0 rfl) ?_
    refine va_get (D := D) (ci := 6) (v := .ref (q_t 0)) (C := RX6) (T := TX6) (N := 18) hx hb hT iX6 hown hK hP 0 rfl rfl 0 (by decide) (hT _ fw_X6_10) (fun _ h9 => h9) rfl dX6_slip_95 ?_
    obtain ⟨r3, e4, hf⟩ := bind_some hf
    refine callVi (As := [.ref (q_t 0)]) (rest := []) M (mX0_advance l D cs sk (q_t 6) (q_t 0) q_t_6 q_t_0 k (d_t_6.1, (va_up (va_up d_t_6.2 4 (v.2.1.2 4)) 6 (v.2.1.2 6))) d_t_0 e4) mw_X6_235 ln_X0_advance ⟨rfl, rfl, Nat.le_of_ble_eq_true rfl, Nat.le_of_ble_eq_true rfl⟩ hP hD hS hA [11, 13, 15, 16, 17, 1, 2, 3] (by decide) rfl rfl (q0 := 0) rfl rfl rfl ⟨Nat.zero_le _, Nat.zero_le _⟩ hl.1 rfl (Nat.le_of_ble_eq_true rfl) dX6_slip_98 (fun H locs hP hD hS => ?_)
    replace hP : va_P D vwCl [oX6 h_t q_t (d_t.1), oX4 (q_t 0) q_t_0 (d_t_0.1), ((q_t_0 1), .inl (cs 0, 6, .inl (d_t_0.2 1))), ((q_t_0 2), .inl (cs 0, 6, .inl (d_t_0.2 2))), oX0 (q_t 1) q_t_1 (d_t_1.1), ((q_t_1 1), .inl (cs 0, 6, .inl (d_t_1.2 1))), ((q_t_1 2), .inl (cs 0, 6, .inl (d_t_1.2 2))), ((q_t_1 3), .inl (cs 0, 6, .inl (d_t_1.2 3))), ((q_t_1 4), .inl (cs 0, 6, .inl (d_t_1.2 4))), ((q_t_1 5), .inl (cs 0, 6, .inl (d_t_1.2 5))), ((q_t_1 9), .inl (cs 0, 48, .inl (d_t_1.2 9))), oX0 (q_t 6) q_t_6 (d_t_6.1), ((q_t_6 1), .inl (cs 0, 6, .inl (d_t_6.2 1))), ((q_t_6 2), .inl (cs 0, 6, .inl (d_t_6.2 2))), ((q_t_6 3), .inl (cs 0, 6, .inl (d_t_6.2 3))), ((q_t_6 4), .inl (cs 0, 6, .inl (r3.2.2 4))), ((q_t_6 5), .inl (cs 0, 6, .inl (d_t_6.2 5))), ((q_t_6 6), .inl (cs 0, 6, .inl (r3.2.2 6))), ((q_t_6 9), .inl (cs 0, 48, .inl (d_t_6.2 9))), oX0 (q_t 7) q_t_7 (d_t_7.1), ((q_t_7 1), .inl (cs 0, 6, .inl (d_t_7.2 1))), ((q_t_7 2), .inl (cs 0, 6, .inl (d_t_7.2 2))), ((q_t_7 3), .inl (cs 0, 6, .inl (d_t_7.2 3))), ((q_t_7 4), .inl (cs 0, 6, .inl (v.2.2.2 4))), ((q_t_7 5), .inl (cs 0, 6, .inl (d_t_7.2 5))), ((q_t_7 6), .inl (cs 0, 6, .inl (v.2.2.2 6))), ((q_t_7 9), .inl (cs 0, 48, .inl (d_t_7.2 9)))] H := hP
    replace hD : va_D A [oX6 h_t q_t (d_t.1), oX4 (q_t 0) q_t_0 (d_t_0.1), ((q_t_0 1), .inl (cs 0, 6, .inl (d_t_0.2 1))), ((q_t_0 2), .inl (cs 0, 6, .inl (d_t_0.2 2))), oX0 (q_t 1) q_t_1 (d_t_1.1), ((q_t_1 1), .inl (cs 0, 6, .inl (d_t_1.2 1))), ((q_t_1 2), .inl (cs 0, 6, .inl (d_t_1.2 2))), ((q_t_1 3), .inl (cs 0, 6, .inl (d_t_1.2 3))), ((q_t_1 4), .inl (cs 0, 6, .inl (d_t_1.2 4))), ((q_t_1 5), .inl (cs 0, 6, .inl (d_t_1.2 5))), ((q_t_1 9), .inl (cs 0, 48, .inl (d_t_1.2 9))), oX0 (q_t 6) q_t_6 (d_t_6.1), ((q_t_6 1), .inl (cs 0, 6, .inl (d_t_6.2 1))), ((q_t_6 2), .inl (cs 0, 6, .inl (d_t_6.2 2))), ((q_t_6 3), .inl (cs 0, 6, .inl (d_t_6.2 3))), ((q_t_6 4), .inl (cs 0, 6, .inl (r3.2.2 4))), ((q_t_6 5), .inl (cs 0, 6, .inl (d_t_6.2 5))), ((q_t_6 6), .inl (cs 0, 6, .inl (r3.2.2 6))), ((q_t_6 9), .inl (cs 0, 48, .inl (d_t_6.2 9))), oX0 (q_t 7) q_t_7 (d_t_7.1), ((q_t_7 1), .inl (cs 0, 6, .inl (d_t_7.2 1))), ((q_t_7 2), .inl (cs 0, 6, .inl (d_t_7.2 2))), ((q_t_7 3), .inl (cs 0, 6, .inl (d_t_7.2 3))), ((q_t_7 4), .inl (cs 0, 6, .inl (v.2.2.2 4))), ((q_t_7 5), .inl (cs 0, 6, .inl (d_t_7.2 5))), ((q_t_7 6), .inl (cs 0, 6, .inl (v.2.2.2 6))), ((q_t_7 9), .inl (cs 0, 48, .inl (d_t_7.2 9)))] := hD
    refine lv_pop hx hb dX6_slip_101 rfl ?_
    refine lv_aload_n hx hb dX6_slip_102 rfl (lv_at hl 0 rfl) ?_
    refine va_get (D := D) (ci := 6) (v := .ref (q_t 7)) (C := RX6) (T := TX6) (N := 18) hx hb hT iX6 hown hK hP 0 rfl rfl 7 (by decide) (hT _ fw_X6_41) (fun _ h9 => h9) rfl dX6_slip_103 ?_
    refine lv_aload_n hx hb dX6_slip_106 rfl (lv_at hl 0 rfl) ?_
    refine va_get (D := D) (ci := 6) (v := .ref (q_t 0)) (C := RX6) (T := TX6) (N := 18) hx hb hT iX6 hown hK hP 0 rfl rfl 0 (by decide) (hT _ fw_X6_10) (fun _ h9 => h9) rfl dX6_slip_107 ?_
    obtain ⟨r5, e6, hf⟩ := bind_some hf
    refine callVi (As := [.ref (q_t 0)]) (rest := []) M (mX0_advance l D cs sk (q_t 7) (q_t 0) q_t_7 q_t_0 k (d_t_7.1, (va_up (va_up d_t_7.2 4 (v.2.2.2 4)) 6 (v.2.2.2 6))) d_t_0 e6) mw_X6_235 ln_X0_advance ⟨rfl, rfl, Nat.le_of_ble_eq_true rfl, Nat.le_of_ble_eq_true rfl⟩ hP hD hS hA [19, 21, 23, 24, 25, 1, 2, 3] (by decide) rfl rfl (q0 := 0) rfl rfl rfl ⟨Nat.zero_le _, Nat.zero_le _⟩ hl.1 rfl (Nat.le_of_ble_eq_true rfl) dX6_slip_110 (fun H locs hP hD hS => ?_)
    replace hP : va_P D vwCl [oX6 h_t q_t (d_t.1), oX4 (q_t 0) q_t_0 (d_t_0.1), ((q_t_0 1), .inl (cs 0, 6, .inl (d_t_0.2 1))), ((q_t_0 2), .inl (cs 0, 6, .inl (d_t_0.2 2))), oX0 (q_t 1) q_t_1 (d_t_1.1), ((q_t_1 1), .inl (cs 0, 6, .inl (d_t_1.2 1))), ((q_t_1 2), .inl (cs 0, 6, .inl (d_t_1.2 2))), ((q_t_1 3), .inl (cs 0, 6, .inl (d_t_1.2 3))), ((q_t_1 4), .inl (cs 0, 6, .inl (d_t_1.2 4))), ((q_t_1 5), .inl (cs 0, 6, .inl (d_t_1.2 5))), ((q_t_1 9), .inl (cs 0, 48, .inl (d_t_1.2 9))), oX0 (q_t 6) q_t_6 (d_t_6.1), ((q_t_6 1), .inl (cs 0, 6, .inl (d_t_6.2 1))), ((q_t_6 2), .inl (cs 0, 6, .inl (d_t_6.2 2))), ((q_t_6 3), .inl (cs 0, 6, .inl (d_t_6.2 3))), ((q_t_6 4), .inl (cs 0, 6, .inl (r3.2.2 4))), ((q_t_6 5), .inl (cs 0, 6, .inl (d_t_6.2 5))), ((q_t_6 6), .inl (cs 0, 6, .inl (r3.2.2 6))), ((q_t_6 9), .inl (cs 0, 48, .inl (d_t_6.2 9))), oX0 (q_t 7) q_t_7 (d_t_7.1), ((q_t_7 1), .inl (cs 0, 6, .inl (d_t_7.2 1))), ((q_t_7 2), .inl (cs 0, 6, .inl (d_t_7.2 2))), ((q_t_7 3), .inl (cs 0, 6, .inl (d_t_7.2 3))), ((q_t_7 4), .inl (cs 0, 6, .inl (r5.2.2 4))), ((q_t_7 5), .inl (cs 0, 6, .inl (d_t_7.2 5))), ((q_t_7 6), .inl (cs 0, 6, .inl (r5.2.2 6))), ((q_t_7 9), .inl (cs 0, 48, .inl (d_t_7.2 9)))] H := hP
    replace hD : va_D A [oX6 h_t q_t (d_t.1), oX4 (q_t 0) q_t_0 (d_t_0.1), ((q_t_0 1), .inl (cs 0, 6, .inl (d_t_0.2 1))), ((q_t_0 2), .inl (cs 0, 6, .inl (d_t_0.2 2))), oX0 (q_t 1) q_t_1 (d_t_1.1), ((q_t_1 1), .inl (cs 0, 6, .inl (d_t_1.2 1))), ((q_t_1 2), .inl (cs 0, 6, .inl (d_t_1.2 2))), ((q_t_1 3), .inl (cs 0, 6, .inl (d_t_1.2 3))), ((q_t_1 4), .inl (cs 0, 6, .inl (d_t_1.2 4))), ((q_t_1 5), .inl (cs 0, 6, .inl (d_t_1.2 5))), ((q_t_1 9), .inl (cs 0, 48, .inl (d_t_1.2 9))), oX0 (q_t 6) q_t_6 (d_t_6.1), ((q_t_6 1), .inl (cs 0, 6, .inl (d_t_6.2 1))), ((q_t_6 2), .inl (cs 0, 6, .inl (d_t_6.2 2))), ((q_t_6 3), .inl (cs 0, 6, .inl (d_t_6.2 3))), ((q_t_6 4), .inl (cs 0, 6, .inl (r3.2.2 4))), ((q_t_6 5), .inl (cs 0, 6, .inl (d_t_6.2 5))), ((q_t_6 6), .inl (cs 0, 6, .inl (r3.2.2 6))), ((q_t_6 9), .inl (cs 0, 48, .inl (d_t_6.2 9))), oX0 (q_t 7) q_t_7 (d_t_7.1), ((q_t_7 1), .inl (cs 0, 6, .inl (d_t_7.2 1))), ((q_t_7 2), .inl (cs 0, 6, .inl (d_t_7.2 2))), ((q_t_7 3), .inl (cs 0, 6, .inl (d_t_7.2 3))), ((q_t_7 4), .inl (cs 0, 6, .inl (r5.2.2 4))), ((q_t_7 5), .inl (cs 0, 6, .inl (d_t_7.2 5))), ((q_t_7 6), .inl (cs 0, 6, .inl (r5.2.2 6))), ((q_t_7 9), .inl (cs 0, 48, .inl (d_t_7.2 9)))] := hD
    refine lv_pop hx hb dX6_slip_113 rfl ?_
    refine lv_iinc (v := ((v.1) + 1)) (lv' := [(4, .int ((v.1) + 1)), (0, .ref h_t), (3, .int x3)]) hx hb dX6_slip_114 hl (k := 2) rfl rfl (by decide) rfl (fun ls hl => ?_)
    refine lv_goto (tgt := 84) hx hb dX6_slip_117 (by decide) ?_
    exact ih _ hf _ _ _ hP hD hS (lv_sub hl [1, 2, 0] rfl)
set_option maxHeartbeats 4000000 in
set_option maxRecDepth 100000 in
theorem mX6_slip (l : Launch) (D : va_G) (cs : Nat → ClassId) (sk : Nat → Nat) (h_t : Nat) (q_t : Nat → Nat) (q_t_0 : Nat → Nat) (q_t_1 : Nat → Nat) (q_t_6 : Nat → Nat) (q_t_7 : Nat → Nat) (k : Nat) (d_t : Dat) (d_t_0 : Dat) (d_t_1 : Dat) (d_t_6 : Dat) (d_t_7 : Dat) (x1 : Int32) (x2 : Int32) (x3 : Int32) {rv : Int32 × Dat × Dat × Dat} (hf : fX6_slip k d_t d_t_0 d_t_1 d_t_6 d_t_7 x1 x2 x3 = some rv) : CTi l yX6_slip (Cond.code yX6_slip cX6_slip 5 (some .int) :: gtbl) rm_X6_slip D cs sk [.ref h_t, .int x1, .int x2, .int x3] [oX6 h_t q_t (d_t.1), oX4 (q_t 0) q_t_0 (d_t_0.1), ((q_t_0 1), .inl (cs 0, 6, .inl (d_t_0.2 1))), ((q_t_0 2), .inl (cs 0, 6, .inl (d_t_0.2 2))), oX0 (q_t 1) q_t_1 (d_t_1.1), ((q_t_1 1), .inl (cs 0, 6, .inl (d_t_1.2 1))), ((q_t_1 2), .inl (cs 0, 6, .inl (d_t_1.2 2))), ((q_t_1 3), .inl (cs 0, 6, .inl (d_t_1.2 3))), ((q_t_1 4), .inl (cs 0, 6, .inl (d_t_1.2 4))), ((q_t_1 5), .inl (cs 0, 6, .inl (d_t_1.2 5))), ((q_t_1 9), .inl (cs 0, 48, .inl (d_t_1.2 9))), oX0 (q_t 6) q_t_6 (d_t_6.1), ((q_t_6 1), .inl (cs 0, 6, .inl (d_t_6.2 1))), ((q_t_6 2), .inl (cs 0, 6, .inl (d_t_6.2 2))), ((q_t_6 3), .inl (cs 0, 6, .inl (d_t_6.2 3))), ((q_t_6 4), .inl (cs 0, 6, .inl (d_t_6.2 4))), ((q_t_6 5), .inl (cs 0, 6, .inl (d_t_6.2 5))), ((q_t_6 6), .inl (cs 0, 6, .inl (d_t_6.2 6))), ((q_t_6 9), .inl (cs 0, 48, .inl (d_t_6.2 9))), oX0 (q_t 7) q_t_7 (d_t_7.1), ((q_t_7 1), .inl (cs 0, 6, .inl (d_t_7.2 1))), ((q_t_7 2), .inl (cs 0, 6, .inl (d_t_7.2 2))), ((q_t_7 3), .inl (cs 0, 6, .inl (d_t_7.2 3))), ((q_t_7 4), .inl (cs 0, 6, .inl (d_t_7.2 4))), ((q_t_7 5), .inl (cs 0, 6, .inl (d_t_7.2 5))), ((q_t_7 6), .inl (cs 0, 6, .inl (d_t_7.2 6))), ((q_t_7 9), .inl (cs 0, 48, .inl (d_t_7.2 9)))] (rv.1) [oX6 h_t q_t (rv.2.1.1), oX4 (q_t 0) q_t_0 (d_t_0.1), ((q_t_0 1), .inl (cs 0, 6, .inl (d_t_0.2 1))), ((q_t_0 2), .inl (cs 0, 6, .inl (d_t_0.2 2))), oX0 (q_t 1) q_t_1 (d_t_1.1), ((q_t_1 1), .inl (cs 0, 6, .inl (d_t_1.2 1))), ((q_t_1 2), .inl (cs 0, 6, .inl (d_t_1.2 2))), ((q_t_1 3), .inl (cs 0, 6, .inl (d_t_1.2 3))), ((q_t_1 4), .inl (cs 0, 6, .inl (d_t_1.2 4))), ((q_t_1 5), .inl (cs 0, 6, .inl (d_t_1.2 5))), ((q_t_1 9), .inl (cs 0, 48, .inl (d_t_1.2 9))), oX0 (q_t 6) q_t_6 (rv.2.2.1.1), ((q_t_6 1), .inl (cs 0, 6, .inl (rv.2.2.1.2 1))), ((q_t_6 2), .inl (cs 0, 6, .inl (rv.2.2.1.2 2))), ((q_t_6 3), .inl (cs 0, 6, .inl (rv.2.2.1.2 3))), ((q_t_6 4), .inl (cs 0, 6, .inl (rv.2.2.1.2 4))), ((q_t_6 5), .inl (cs 0, 6, .inl (rv.2.2.1.2 5))), ((q_t_6 6), .inl (cs 0, 6, .inl (rv.2.2.1.2 6))), ((q_t_6 9), .inl (cs 0, 48, .inl (rv.2.2.1.2 9))), oX0 (q_t 7) q_t_7 (rv.2.2.2.1), ((q_t_7 1), .inl (cs 0, 6, .inl (rv.2.2.2.2 1))), ((q_t_7 2), .inl (cs 0, 6, .inl (rv.2.2.2.2 2))), ((q_t_7 3), .inl (cs 0, 6, .inl (rv.2.2.2.2 3))), ((q_t_7 4), .inl (cs 0, 6, .inl (rv.2.2.2.2 4))), ((q_t_7 5), .inl (cs 0, 6, .inl (rv.2.2.2.2 5))), ((q_t_7 6), .inl (cs 0, 6, .inl (rv.2.2.2.2 6))), ((q_t_7 9), .inl (cs 0, 48, .inl (rv.2.2.2.2 9)))] := by
  refine CTi.of RX6 (by decide +kernel) rfl (Nat.le_of_ble_eq_true rfl) (fun p e s m args below meth c A Q ls M hA hR hl hP hD hS => ?_)
  obtain ⟨hx, hb, hml, hT, hown, hlk, hrt, hK, hN, hSE⟩ := id M
  replace hl : lv_has ls 5 [(0, .ref h_t), (1, .int x1), (2, .int x2), (3, .int x3)] := hl
  unfold fX6_slip at hf
  refine lv_aload_n hx hb dX6_slip_0 rfl (lv_at hl 0 rfl) ?_
  refine lv_iload_n hx hb dX6_slip_1 rfl (lv_at hl 1 rfl) ?_
  obtain ⟨r1, e2, hf⟩ := bind_some hf
  refine callVi (As := [.int x1]) (rest := []) M (mX6_hasPlayer l D cs sk h_t q_t q_t_1 k d_t d_t_1 x1 e2) mw_X6_151 ln_X6_hasPlayer ⟨rfl, rfl, Nat.le_of_ble_eq_true rfl, Nat.le_of_ble_eq_true rfl⟩ hP hD hS hA [0, 4] (by decide) rfl rfl (q0 := 0) rfl rfl rfl ⟨Nat.zero_le _, Nat.zero_le _⟩ hl.1 rfl (Nat.le_of_ble_eq_true rfl) dX6_slip_2 (fun H locs hP hD hS => ?_)
  replace hP : va_P D vwCl [oX6 h_t q_t (d_t.1), oX4 (q_t 0) q_t_0 (d_t_0.1), ((q_t_0 1), .inl (cs 0, 6, .inl (d_t_0.2 1))), ((q_t_0 2), .inl (cs 0, 6, .inl (d_t_0.2 2))), oX0 (q_t 1) q_t_1 (d_t_1.1), ((q_t_1 1), .inl (cs 0, 6, .inl (d_t_1.2 1))), ((q_t_1 2), .inl (cs 0, 6, .inl (d_t_1.2 2))), ((q_t_1 3), .inl (cs 0, 6, .inl (d_t_1.2 3))), ((q_t_1 4), .inl (cs 0, 6, .inl (d_t_1.2 4))), ((q_t_1 5), .inl (cs 0, 6, .inl (d_t_1.2 5))), ((q_t_1 9), .inl (cs 0, 48, .inl (d_t_1.2 9))), oX0 (q_t 6) q_t_6 (d_t_6.1), ((q_t_6 1), .inl (cs 0, 6, .inl (d_t_6.2 1))), ((q_t_6 2), .inl (cs 0, 6, .inl (d_t_6.2 2))), ((q_t_6 3), .inl (cs 0, 6, .inl (d_t_6.2 3))), ((q_t_6 4), .inl (cs 0, 6, .inl (d_t_6.2 4))), ((q_t_6 5), .inl (cs 0, 6, .inl (d_t_6.2 5))), ((q_t_6 6), .inl (cs 0, 6, .inl (d_t_6.2 6))), ((q_t_6 9), .inl (cs 0, 48, .inl (d_t_6.2 9))), oX0 (q_t 7) q_t_7 (d_t_7.1), ((q_t_7 1), .inl (cs 0, 6, .inl (d_t_7.2 1))), ((q_t_7 2), .inl (cs 0, 6, .inl (d_t_7.2 2))), ((q_t_7 3), .inl (cs 0, 6, .inl (d_t_7.2 3))), ((q_t_7 4), .inl (cs 0, 6, .inl (d_t_7.2 4))), ((q_t_7 5), .inl (cs 0, 6, .inl (d_t_7.2 5))), ((q_t_7 6), .inl (cs 0, 6, .inl (d_t_7.2 6))), ((q_t_7 9), .inl (cs 0, 48, .inl (d_t_7.2 9)))] H := hP
  replace hD : va_D A [oX6 h_t q_t (d_t.1), oX4 (q_t 0) q_t_0 (d_t_0.1), ((q_t_0 1), .inl (cs 0, 6, .inl (d_t_0.2 1))), ((q_t_0 2), .inl (cs 0, 6, .inl (d_t_0.2 2))), oX0 (q_t 1) q_t_1 (d_t_1.1), ((q_t_1 1), .inl (cs 0, 6, .inl (d_t_1.2 1))), ((q_t_1 2), .inl (cs 0, 6, .inl (d_t_1.2 2))), ((q_t_1 3), .inl (cs 0, 6, .inl (d_t_1.2 3))), ((q_t_1 4), .inl (cs 0, 6, .inl (d_t_1.2 4))), ((q_t_1 5), .inl (cs 0, 6, .inl (d_t_1.2 5))), ((q_t_1 9), .inl (cs 0, 48, .inl (d_t_1.2 9))), oX0 (q_t 6) q_t_6 (d_t_6.1), ((q_t_6 1), .inl (cs 0, 6, .inl (d_t_6.2 1))), ((q_t_6 2), .inl (cs 0, 6, .inl (d_t_6.2 2))), ((q_t_6 3), .inl (cs 0, 6, .inl (d_t_6.2 3))), ((q_t_6 4), .inl (cs 0, 6, .inl (d_t_6.2 4))), ((q_t_6 5), .inl (cs 0, 6, .inl (d_t_6.2 5))), ((q_t_6 6), .inl (cs 0, 6, .inl (d_t_6.2 6))), ((q_t_6 9), .inl (cs 0, 48, .inl (d_t_6.2 9))), oX0 (q_t 7) q_t_7 (d_t_7.1), ((q_t_7 1), .inl (cs 0, 6, .inl (d_t_7.2 1))), ((q_t_7 2), .inl (cs 0, 6, .inl (d_t_7.2 2))), ((q_t_7 3), .inl (cs 0, 6, .inl (d_t_7.2 3))), ((q_t_7 4), .inl (cs 0, 6, .inl (d_t_7.2 4))), ((q_t_7 5), .inl (cs 0, 6, .inl (d_t_7.2 5))), ((q_t_7 6), .inl (cs 0, 6, .inl (d_t_7.2 6))), ((q_t_7 9), .inl (cs 0, 48, .inl (d_t_7.2 9)))] := hD
  have g4 := ite_some hf
  refine lv_if_eq (tgt := 29) hx hb dX6_slip_5 (by decide) (fun c3 => ?_) (fun c3 => ?_)
  · replace hf := g4.1 c3
    refine lv_aload_n hx hb dX6_slip_29 rfl (lv_at hl 0 rfl) ?_
    refine lv_bipush (v := (-2)) hx hb dX6_slip_30 rfl ?_
    obtain ⟨r5, e6, hf⟩ := bind_some hf
    refine callVi (As := [.int (-2)]) (rest := []) M (mX6_refuseBad l D cs sk h_t q_t k d_t (-2) e6) mw_X6_96 ln_X6_refuseBad ⟨rfl, rfl, Nat.le_of_ble_eq_true rfl, Nat.le_of_ble_eq_true rfl⟩ hP hD hS hA [0] (by decide) rfl rfl (q0 := 0) rfl rfl rfl ⟨Nat.zero_le _, Nat.zero_le _⟩ hl.1 rfl (Nat.le_of_ble_eq_true rfl) dX6_slip_32 (fun H locs hP hD hS => ?_)
    replace hP : va_P D vwCl [oX6 h_t q_t (r5.2.1), oX4 (q_t 0) q_t_0 (d_t_0.1), ((q_t_0 1), .inl (cs 0, 6, .inl (d_t_0.2 1))), ((q_t_0 2), .inl (cs 0, 6, .inl (d_t_0.2 2))), oX0 (q_t 1) q_t_1 (d_t_1.1), ((q_t_1 1), .inl (cs 0, 6, .inl (d_t_1.2 1))), ((q_t_1 2), .inl (cs 0, 6, .inl (d_t_1.2 2))), ((q_t_1 3), .inl (cs 0, 6, .inl (d_t_1.2 3))), ((q_t_1 4), .inl (cs 0, 6, .inl (d_t_1.2 4))), ((q_t_1 5), .inl (cs 0, 6, .inl (d_t_1.2 5))), ((q_t_1 9), .inl (cs 0, 48, .inl (d_t_1.2 9))), oX0 (q_t 6) q_t_6 (d_t_6.1), ((q_t_6 1), .inl (cs 0, 6, .inl (d_t_6.2 1))), ((q_t_6 2), .inl (cs 0, 6, .inl (d_t_6.2 2))), ((q_t_6 3), .inl (cs 0, 6, .inl (d_t_6.2 3))), ((q_t_6 4), .inl (cs 0, 6, .inl (d_t_6.2 4))), ((q_t_6 5), .inl (cs 0, 6, .inl (d_t_6.2 5))), ((q_t_6 6), .inl (cs 0, 6, .inl (d_t_6.2 6))), ((q_t_6 9), .inl (cs 0, 48, .inl (d_t_6.2 9))), oX0 (q_t 7) q_t_7 (d_t_7.1), ((q_t_7 1), .inl (cs 0, 6, .inl (d_t_7.2 1))), ((q_t_7 2), .inl (cs 0, 6, .inl (d_t_7.2 2))), ((q_t_7 3), .inl (cs 0, 6, .inl (d_t_7.2 3))), ((q_t_7 4), .inl (cs 0, 6, .inl (d_t_7.2 4))), ((q_t_7 5), .inl (cs 0, 6, .inl (d_t_7.2 5))), ((q_t_7 6), .inl (cs 0, 6, .inl (d_t_7.2 6))), ((q_t_7 9), .inl (cs 0, 48, .inl (d_t_7.2 9)))] H := hP
    replace hD : va_D A [oX6 h_t q_t (r5.2.1), oX4 (q_t 0) q_t_0 (d_t_0.1), ((q_t_0 1), .inl (cs 0, 6, .inl (d_t_0.2 1))), ((q_t_0 2), .inl (cs 0, 6, .inl (d_t_0.2 2))), oX0 (q_t 1) q_t_1 (d_t_1.1), ((q_t_1 1), .inl (cs 0, 6, .inl (d_t_1.2 1))), ((q_t_1 2), .inl (cs 0, 6, .inl (d_t_1.2 2))), ((q_t_1 3), .inl (cs 0, 6, .inl (d_t_1.2 3))), ((q_t_1 4), .inl (cs 0, 6, .inl (d_t_1.2 4))), ((q_t_1 5), .inl (cs 0, 6, .inl (d_t_1.2 5))), ((q_t_1 9), .inl (cs 0, 48, .inl (d_t_1.2 9))), oX0 (q_t 6) q_t_6 (d_t_6.1), ((q_t_6 1), .inl (cs 0, 6, .inl (d_t_6.2 1))), ((q_t_6 2), .inl (cs 0, 6, .inl (d_t_6.2 2))), ((q_t_6 3), .inl (cs 0, 6, .inl (d_t_6.2 3))), ((q_t_6 4), .inl (cs 0, 6, .inl (d_t_6.2 4))), ((q_t_6 5), .inl (cs 0, 6, .inl (d_t_6.2 5))), ((q_t_6 6), .inl (cs 0, 6, .inl (d_t_6.2 6))), ((q_t_6 9), .inl (cs 0, 48, .inl (d_t_6.2 9))), oX0 (q_t 7) q_t_7 (d_t_7.1), ((q_t_7 1), .inl (cs 0, 6, .inl (d_t_7.2 1))), ((q_t_7 2), .inl (cs 0, 6, .inl (d_t_7.2 2))), ((q_t_7 3), .inl (cs 0, 6, .inl (d_t_7.2 3))), ((q_t_7 4), .inl (cs 0, 6, .inl (d_t_7.2 4))), ((q_t_7 5), .inl (cs 0, 6, .inl (d_t_7.2 5))), ((q_t_7 6), .inl (cs 0, 6, .inl (d_t_7.2 6))), ((q_t_7 9), .inl (cs 0, 48, .inl (d_t_7.2 9)))] := hD
    have e9 := Option.some.inj hf
    subst e9
    exact hR _ _ _ _ dX6_slip_35 hP hS
  · replace hf := g4.2 c3
    refine lv_iload_n hx hb dX6_slip_8 rfl (lv_at hl 2 rfl) ?_
    refine lv_bipush (v := (-99)) hx hb dX6_slip_9 rfl ?_
    refine lv_bipush (v := 99) hx hb dX6_slip_11 rfl ?_
    obtain ⟨r7, e8, hf⟩ := bind_some hf
    refine callSi (As := [.int x2, .int (-99), .int 99]) (rest := []) M (mX6_isWithin l D cs sk  k x2 (-99) 99 e8) mw_X6_121 ln_X6_isWithin ⟨rfl, rfl, Nat.le_of_ble_eq_true rfl, Nat.le_of_ble_eq_true rfl⟩ hP hD hS hA [] (by decide) rfl rfl ⟨Nat.zero_le _, Nat.zero_le _⟩ hl.1 rfl (Nat.le_of_ble_eq_true rfl) dX6_slip_13 (fun H locs hP hD hS => ?_)
    replace hP : va_P D vwCl [oX6 h_t q_t (d_t.1), oX4 (q_t 0) q_t_0 (d_t_0.1), ((q_t_0 1), .inl (cs 0, 6, .inl (d_t_0.2 1))), ((q_t_0 2), .inl (cs 0, 6, .inl (d_t_0.2 2))), oX0 (q_t 1) q_t_1 (d_t_1.1), ((q_t_1 1), .inl (cs 0, 6, .inl (d_t_1.2 1))), ((q_t_1 2), .inl (cs 0, 6, .inl (d_t_1.2 2))), ((q_t_1 3), .inl (cs 0, 6, .inl (d_t_1.2 3))), ((q_t_1 4), .inl (cs 0, 6, .inl (d_t_1.2 4))), ((q_t_1 5), .inl (cs 0, 6, .inl (d_t_1.2 5))), ((q_t_1 9), .inl (cs 0, 48, .inl (d_t_1.2 9))), oX0 (q_t 6) q_t_6 (d_t_6.1), ((q_t_6 1), .inl (cs 0, 6, .inl (d_t_6.2 1))), ((q_t_6 2), .inl (cs 0, 6, .inl (d_t_6.2 2))), ((q_t_6 3), .inl (cs 0, 6, .inl (d_t_6.2 3))), ((q_t_6 4), .inl (cs 0, 6, .inl (d_t_6.2 4))), ((q_t_6 5), .inl (cs 0, 6, .inl (d_t_6.2 5))), ((q_t_6 6), .inl (cs 0, 6, .inl (d_t_6.2 6))), ((q_t_6 9), .inl (cs 0, 48, .inl (d_t_6.2 9))), oX0 (q_t 7) q_t_7 (d_t_7.1), ((q_t_7 1), .inl (cs 0, 6, .inl (d_t_7.2 1))), ((q_t_7 2), .inl (cs 0, 6, .inl (d_t_7.2 2))), ((q_t_7 3), .inl (cs 0, 6, .inl (d_t_7.2 3))), ((q_t_7 4), .inl (cs 0, 6, .inl (d_t_7.2 4))), ((q_t_7 5), .inl (cs 0, 6, .inl (d_t_7.2 5))), ((q_t_7 6), .inl (cs 0, 6, .inl (d_t_7.2 6))), ((q_t_7 9), .inl (cs 0, 48, .inl (d_t_7.2 9)))] H := hP
    replace hD : va_D A [oX6 h_t q_t (d_t.1), oX4 (q_t 0) q_t_0 (d_t_0.1), ((q_t_0 1), .inl (cs 0, 6, .inl (d_t_0.2 1))), ((q_t_0 2), .inl (cs 0, 6, .inl (d_t_0.2 2))), oX0 (q_t 1) q_t_1 (d_t_1.1), ((q_t_1 1), .inl (cs 0, 6, .inl (d_t_1.2 1))), ((q_t_1 2), .inl (cs 0, 6, .inl (d_t_1.2 2))), ((q_t_1 3), .inl (cs 0, 6, .inl (d_t_1.2 3))), ((q_t_1 4), .inl (cs 0, 6, .inl (d_t_1.2 4))), ((q_t_1 5), .inl (cs 0, 6, .inl (d_t_1.2 5))), ((q_t_1 9), .inl (cs 0, 48, .inl (d_t_1.2 9))), oX0 (q_t 6) q_t_6 (d_t_6.1), ((q_t_6 1), .inl (cs 0, 6, .inl (d_t_6.2 1))), ((q_t_6 2), .inl (cs 0, 6, .inl (d_t_6.2 2))), ((q_t_6 3), .inl (cs 0, 6, .inl (d_t_6.2 3))), ((q_t_6 4), .inl (cs 0, 6, .inl (d_t_6.2 4))), ((q_t_6 5), .inl (cs 0, 6, .inl (d_t_6.2 5))), ((q_t_6 6), .inl (cs 0, 6, .inl (d_t_6.2 6))), ((q_t_6 9), .inl (cs 0, 48, .inl (d_t_6.2 9))), oX0 (q_t 7) q_t_7 (d_t_7.1), ((q_t_7 1), .inl (cs 0, 6, .inl (d_t_7.2 1))), ((q_t_7 2), .inl (cs 0, 6, .inl (d_t_7.2 2))), ((q_t_7 3), .inl (cs 0, 6, .inl (d_t_7.2 3))), ((q_t_7 4), .inl (cs 0, 6, .inl (d_t_7.2 4))), ((q_t_7 5), .inl (cs 0, 6, .inl (d_t_7.2 5))), ((q_t_7 6), .inl (cs 0, 6, .inl (d_t_7.2 6))), ((q_t_7 9), .inl (cs 0, 48, .inl (d_t_7.2 9)))] := hD
    have g10 := ite_some hf
    refine lv_if_eq (tgt := 29) hx hb dX6_slip_16 (by decide) (fun c9 => ?_) (fun c9 => ?_)
    · replace hf := g10.1 c9
      refine lv_aload_n hx hb dX6_slip_29 rfl (lv_at hl 0 rfl) ?_
      refine lv_bipush (v := (-2)) hx hb dX6_slip_30 rfl ?_
      obtain ⟨r11, e12, hf⟩ := bind_some hf
      refine callVi (As := [.int (-2)]) (rest := []) M (mX6_refuseBad l D cs sk h_t q_t k d_t (-2) e12) mw_X6_96 ln_X6_refuseBad ⟨rfl, rfl, Nat.le_of_ble_eq_true rfl, Nat.le_of_ble_eq_true rfl⟩ hP hD hS hA [0] (by decide) rfl rfl (q0 := 0) rfl rfl rfl ⟨Nat.zero_le _, Nat.zero_le _⟩ hl.1 rfl (Nat.le_of_ble_eq_true rfl) dX6_slip_32 (fun H locs hP hD hS => ?_)
      replace hP : va_P D vwCl [oX6 h_t q_t (r11.2.1), oX4 (q_t 0) q_t_0 (d_t_0.1), ((q_t_0 1), .inl (cs 0, 6, .inl (d_t_0.2 1))), ((q_t_0 2), .inl (cs 0, 6, .inl (d_t_0.2 2))), oX0 (q_t 1) q_t_1 (d_t_1.1), ((q_t_1 1), .inl (cs 0, 6, .inl (d_t_1.2 1))), ((q_t_1 2), .inl (cs 0, 6, .inl (d_t_1.2 2))), ((q_t_1 3), .inl (cs 0, 6, .inl (d_t_1.2 3))), ((q_t_1 4), .inl (cs 0, 6, .inl (d_t_1.2 4))), ((q_t_1 5), .inl (cs 0, 6, .inl (d_t_1.2 5))), ((q_t_1 9), .inl (cs 0, 48, .inl (d_t_1.2 9))), oX0 (q_t 6) q_t_6 (d_t_6.1), ((q_t_6 1), .inl (cs 0, 6, .inl (d_t_6.2 1))), ((q_t_6 2), .inl (cs 0, 6, .inl (d_t_6.2 2))), ((q_t_6 3), .inl (cs 0, 6, .inl (d_t_6.2 3))), ((q_t_6 4), .inl (cs 0, 6, .inl (d_t_6.2 4))), ((q_t_6 5), .inl (cs 0, 6, .inl (d_t_6.2 5))), ((q_t_6 6), .inl (cs 0, 6, .inl (d_t_6.2 6))), ((q_t_6 9), .inl (cs 0, 48, .inl (d_t_6.2 9))), oX0 (q_t 7) q_t_7 (d_t_7.1), ((q_t_7 1), .inl (cs 0, 6, .inl (d_t_7.2 1))), ((q_t_7 2), .inl (cs 0, 6, .inl (d_t_7.2 2))), ((q_t_7 3), .inl (cs 0, 6, .inl (d_t_7.2 3))), ((q_t_7 4), .inl (cs 0, 6, .inl (d_t_7.2 4))), ((q_t_7 5), .inl (cs 0, 6, .inl (d_t_7.2 5))), ((q_t_7 6), .inl (cs 0, 6, .inl (d_t_7.2 6))), ((q_t_7 9), .inl (cs 0, 48, .inl (d_t_7.2 9)))] H := hP
      replace hD : va_D A [oX6 h_t q_t (r11.2.1), oX4 (q_t 0) q_t_0 (d_t_0.1), ((q_t_0 1), .inl (cs 0, 6, .inl (d_t_0.2 1))), ((q_t_0 2), .inl (cs 0, 6, .inl (d_t_0.2 2))), oX0 (q_t 1) q_t_1 (d_t_1.1), ((q_t_1 1), .inl (cs 0, 6, .inl (d_t_1.2 1))), ((q_t_1 2), .inl (cs 0, 6, .inl (d_t_1.2 2))), ((q_t_1 3), .inl (cs 0, 6, .inl (d_t_1.2 3))), ((q_t_1 4), .inl (cs 0, 6, .inl (d_t_1.2 4))), ((q_t_1 5), .inl (cs 0, 6, .inl (d_t_1.2 5))), ((q_t_1 9), .inl (cs 0, 48, .inl (d_t_1.2 9))), oX0 (q_t 6) q_t_6 (d_t_6.1), ((q_t_6 1), .inl (cs 0, 6, .inl (d_t_6.2 1))), ((q_t_6 2), .inl (cs 0, 6, .inl (d_t_6.2 2))), ((q_t_6 3), .inl (cs 0, 6, .inl (d_t_6.2 3))), ((q_t_6 4), .inl (cs 0, 6, .inl (d_t_6.2 4))), ((q_t_6 5), .inl (cs 0, 6, .inl (d_t_6.2 5))), ((q_t_6 6), .inl (cs 0, 6, .inl (d_t_6.2 6))), ((q_t_6 9), .inl (cs 0, 48, .inl (d_t_6.2 9))), oX0 (q_t 7) q_t_7 (d_t_7.1), ((q_t_7 1), .inl (cs 0, 6, .inl (d_t_7.2 1))), ((q_t_7 2), .inl (cs 0, 6, .inl (d_t_7.2 2))), ((q_t_7 3), .inl (cs 0, 6, .inl (d_t_7.2 3))), ((q_t_7 4), .inl (cs 0, 6, .inl (d_t_7.2 4))), ((q_t_7 5), .inl (cs 0, 6, .inl (d_t_7.2 5))), ((q_t_7 6), .inl (cs 0, 6, .inl (d_t_7.2 6))), ((q_t_7 9), .inl (cs 0, 48, .inl (d_t_7.2 9)))] := hD
      have e9 := Option.some.inj hf
      subst e9
      exact hR _ _ _ _ dX6_slip_35 hP hS
    · replace hf := g10.2 c9
      refine lv_iload_n hx hb dX6_slip_19 rfl (lv_at hl 3 rfl) ?_
      refine lv_iconst (v := 0) hx hb dX6_slip_20 rfl ?_
      refine lv_bipush (v := 20) hx hb dX6_slip_21 rfl ?_
      obtain ⟨r13, e14, hf⟩ := bind_some hf
      refine callSi (As := [.int x3, .int 0, .int 20]) (rest := []) M (mX6_isWithin l D cs sk  k x3 0 20 e14) mw_X6_121 ln_X6_isWithin ⟨rfl, rfl, Nat.le_of_ble_eq_true rfl, Nat.le_of_ble_eq_true rfl⟩ hP hD hS hA [] (by decide) rfl rfl ⟨Nat.zero_le _, Nat.zero_le _⟩ hl.1 rfl (Nat.le_of_ble_eq_true rfl) dX6_slip_23 (fun H locs hP hD hS => ?_)
      replace hP : va_P D vwCl [oX6 h_t q_t (d_t.1), oX4 (q_t 0) q_t_0 (d_t_0.1), ((q_t_0 1), .inl (cs 0, 6, .inl (d_t_0.2 1))), ((q_t_0 2), .inl (cs 0, 6, .inl (d_t_0.2 2))), oX0 (q_t 1) q_t_1 (d_t_1.1), ((q_t_1 1), .inl (cs 0, 6, .inl (d_t_1.2 1))), ((q_t_1 2), .inl (cs 0, 6, .inl (d_t_1.2 2))), ((q_t_1 3), .inl (cs 0, 6, .inl (d_t_1.2 3))), ((q_t_1 4), .inl (cs 0, 6, .inl (d_t_1.2 4))), ((q_t_1 5), .inl (cs 0, 6, .inl (d_t_1.2 5))), ((q_t_1 9), .inl (cs 0, 48, .inl (d_t_1.2 9))), oX0 (q_t 6) q_t_6 (d_t_6.1), ((q_t_6 1), .inl (cs 0, 6, .inl (d_t_6.2 1))), ((q_t_6 2), .inl (cs 0, 6, .inl (d_t_6.2 2))), ((q_t_6 3), .inl (cs 0, 6, .inl (d_t_6.2 3))), ((q_t_6 4), .inl (cs 0, 6, .inl (d_t_6.2 4))), ((q_t_6 5), .inl (cs 0, 6, .inl (d_t_6.2 5))), ((q_t_6 6), .inl (cs 0, 6, .inl (d_t_6.2 6))), ((q_t_6 9), .inl (cs 0, 48, .inl (d_t_6.2 9))), oX0 (q_t 7) q_t_7 (d_t_7.1), ((q_t_7 1), .inl (cs 0, 6, .inl (d_t_7.2 1))), ((q_t_7 2), .inl (cs 0, 6, .inl (d_t_7.2 2))), ((q_t_7 3), .inl (cs 0, 6, .inl (d_t_7.2 3))), ((q_t_7 4), .inl (cs 0, 6, .inl (d_t_7.2 4))), ((q_t_7 5), .inl (cs 0, 6, .inl (d_t_7.2 5))), ((q_t_7 6), .inl (cs 0, 6, .inl (d_t_7.2 6))), ((q_t_7 9), .inl (cs 0, 48, .inl (d_t_7.2 9)))] H := hP
      replace hD : va_D A [oX6 h_t q_t (d_t.1), oX4 (q_t 0) q_t_0 (d_t_0.1), ((q_t_0 1), .inl (cs 0, 6, .inl (d_t_0.2 1))), ((q_t_0 2), .inl (cs 0, 6, .inl (d_t_0.2 2))), oX0 (q_t 1) q_t_1 (d_t_1.1), ((q_t_1 1), .inl (cs 0, 6, .inl (d_t_1.2 1))), ((q_t_1 2), .inl (cs 0, 6, .inl (d_t_1.2 2))), ((q_t_1 3), .inl (cs 0, 6, .inl (d_t_1.2 3))), ((q_t_1 4), .inl (cs 0, 6, .inl (d_t_1.2 4))), ((q_t_1 5), .inl (cs 0, 6, .inl (d_t_1.2 5))), ((q_t_1 9), .inl (cs 0, 48, .inl (d_t_1.2 9))), oX0 (q_t 6) q_t_6 (d_t_6.1), ((q_t_6 1), .inl (cs 0, 6, .inl (d_t_6.2 1))), ((q_t_6 2), .inl (cs 0, 6, .inl (d_t_6.2 2))), ((q_t_6 3), .inl (cs 0, 6, .inl (d_t_6.2 3))), ((q_t_6 4), .inl (cs 0, 6, .inl (d_t_6.2 4))), ((q_t_6 5), .inl (cs 0, 6, .inl (d_t_6.2 5))), ((q_t_6 6), .inl (cs 0, 6, .inl (d_t_6.2 6))), ((q_t_6 9), .inl (cs 0, 48, .inl (d_t_6.2 9))), oX0 (q_t 7) q_t_7 (d_t_7.1), ((q_t_7 1), .inl (cs 0, 6, .inl (d_t_7.2 1))), ((q_t_7 2), .inl (cs 0, 6, .inl (d_t_7.2 2))), ((q_t_7 3), .inl (cs 0, 6, .inl (d_t_7.2 3))), ((q_t_7 4), .inl (cs 0, 6, .inl (d_t_7.2 4))), ((q_t_7 5), .inl (cs 0, 6, .inl (d_t_7.2 5))), ((q_t_7 6), .inl (cs 0, 6, .inl (d_t_7.2 6))), ((q_t_7 9), .inl (cs 0, 48, .inl (d_t_7.2 9)))] := hD
      have g16 := ite_some hf
      refine lv_if_ne (tgt := 36) hx hb dX6_slip_26 (by decide) (fun c15 => ?_) (fun c15 => ?_)
      · replace hf := g16.2 c15
        refine lv_aload_n hx hb dX6_slip_36 rfl (lv_at hl 0 rfl) ?_
        refine va_get (D := D) (ci := 6) (v := .ref (q_t 6)) (C := RX6) (T := TX6) (N := 18) hx hb hT iX6 hown hK hP 0 rfl rfl 6 (by decide) (hT _ fw_X6_38) (fun _ h9 => h9) rfl dX6_slip_37 ?_
        refine lv_aload_n hx hb dX6_slip_40 rfl (lv_at hl 0 rfl) ?_
        refine va_get (D := D) (ci := 6) (v := .ref (q_t 1)) (C := RX6) (T := TX6) (N := 18) hx hb hT iX6 hown hK hP 0 rfl rfl 1 (by decide) (hT _ fw_X6_19) (fun _ h9 => h9) rfl dX6_slip_41 ?_
        obtain ⟨r17, e18, hf⟩ := bind_some hf
        refine callVv (As := [.ref (q_t 1)]) (rest := []) M (mX0_becomeLike l D cs sk (q_t 6) (q_t 1) q_t_6 q_t_1 k d_t_6 d_t_1 e18) mw_X6_181 ln_X0_becomeLike ⟨rfl, rfl, Nat.le_of_ble_eq_true rfl, Nat.le_of_ble_eq_true rfl⟩ hP hD hS hA [11, 12, 13, 14, 15, 16, 18, 4, 5, 6, 7, 8, 9, 10] (by decide) rfl rfl (q0 := 0) rfl rfl rfl ⟨Nat.zero_le _, Nat.zero_le _⟩ hl.1 rfl (Nat.le_of_ble_eq_true rfl) dX6_slip_44 (fun H locs hP hD hS => ?_)
        replace hP : va_P D vwCl [oX6 h_t q_t (d_t.1), oX4 (q_t 0) q_t_0 (d_t_0.1), ((q_t_0 1), .inl (cs 0, 6, .inl (d_t_0.2 1))), ((q_t_0 2), .inl (cs 0, 6, .inl (d_t_0.2 2))), oX0 (q_t 1) q_t_1 (d_t_1.1), ((q_t_1 1), .inl (cs 0, 6, .inl (d_t_1.2 1))), ((q_t_1 2), .inl (cs 0, 6, .inl (d_t_1.2 2))), ((q_t_1 3), .inl (cs 0, 6, .inl (d_t_1.2 3))), ((q_t_1 4), .inl (cs 0, 6, .inl (d_t_1.2 4))), ((q_t_1 5), .inl (cs 0, 6, .inl (d_t_1.2 5))), ((q_t_1 9), .inl (cs 0, 48, .inl (d_t_1.2 9))), oX0 (q_t 6) q_t_6 (r17.1), ((q_t_6 1), .inl (cs 0, 6, .inl (r17.2 1))), ((q_t_6 2), .inl (cs 0, 6, .inl (r17.2 2))), ((q_t_6 3), .inl (cs 0, 6, .inl (r17.2 3))), ((q_t_6 4), .inl (cs 0, 6, .inl (r17.2 4))), ((q_t_6 5), .inl (cs 0, 6, .inl (r17.2 5))), ((q_t_6 6), .inl (cs 0, 6, .inl (d_t_6.2 6))), ((q_t_6 9), .inl (cs 0, 48, .inl (r17.2 9))), oX0 (q_t 7) q_t_7 (d_t_7.1), ((q_t_7 1), .inl (cs 0, 6, .inl (d_t_7.2 1))), ((q_t_7 2), .inl (cs 0, 6, .inl (d_t_7.2 2))), ((q_t_7 3), .inl (cs 0, 6, .inl (d_t_7.2 3))), ((q_t_7 4), .inl (cs 0, 6, .inl (d_t_7.2 4))), ((q_t_7 5), .inl (cs 0, 6, .inl (d_t_7.2 5))), ((q_t_7 6), .inl (cs 0, 6, .inl (d_t_7.2 6))), ((q_t_7 9), .inl (cs 0, 48, .inl (d_t_7.2 9)))] H := hP
        replace hD : va_D A [oX6 h_t q_t (d_t.1), oX4 (q_t 0) q_t_0 (d_t_0.1), ((q_t_0 1), .inl (cs 0, 6, .inl (d_t_0.2 1))), ((q_t_0 2), .inl (cs 0, 6, .inl (d_t_0.2 2))), oX0 (q_t 1) q_t_1 (d_t_1.1), ((q_t_1 1), .inl (cs 0, 6, .inl (d_t_1.2 1))), ((q_t_1 2), .inl (cs 0, 6, .inl (d_t_1.2 2))), ((q_t_1 3), .inl (cs 0, 6, .inl (d_t_1.2 3))), ((q_t_1 4), .inl (cs 0, 6, .inl (d_t_1.2 4))), ((q_t_1 5), .inl (cs 0, 6, .inl (d_t_1.2 5))), ((q_t_1 9), .inl (cs 0, 48, .inl (d_t_1.2 9))), oX0 (q_t 6) q_t_6 (r17.1), ((q_t_6 1), .inl (cs 0, 6, .inl (r17.2 1))), ((q_t_6 2), .inl (cs 0, 6, .inl (r17.2 2))), ((q_t_6 3), .inl (cs 0, 6, .inl (r17.2 3))), ((q_t_6 4), .inl (cs 0, 6, .inl (r17.2 4))), ((q_t_6 5), .inl (cs 0, 6, .inl (r17.2 5))), ((q_t_6 6), .inl (cs 0, 6, .inl (d_t_6.2 6))), ((q_t_6 9), .inl (cs 0, 48, .inl (r17.2 9))), oX0 (q_t 7) q_t_7 (d_t_7.1), ((q_t_7 1), .inl (cs 0, 6, .inl (d_t_7.2 1))), ((q_t_7 2), .inl (cs 0, 6, .inl (d_t_7.2 2))), ((q_t_7 3), .inl (cs 0, 6, .inl (d_t_7.2 3))), ((q_t_7 4), .inl (cs 0, 6, .inl (d_t_7.2 4))), ((q_t_7 5), .inl (cs 0, 6, .inl (d_t_7.2 5))), ((q_t_7 6), .inl (cs 0, 6, .inl (d_t_7.2 6))), ((q_t_7 9), .inl (cs 0, 48, .inl (d_t_7.2 9)))] := hD
        refine lv_aload_n hx hb dX6_slip_47 rfl (lv_at hl 0 rfl) ?_
        refine va_get (D := D) (ci := 6) (v := .ref (q_t 7)) (C := RX6) (T := TX6) (N := 18) hx hb hT iX6 hown hK hP 0 rfl rfl 7 (by decide) (hT _ fw_X6_41) (fun _ h9 => h9) rfl dX6_slip_48 ?_
        refine lv_aload_n hx hb dX6_slip_51 rfl (lv_at hl 0 rfl) ?_
        refine va_get (D := D) (ci := 6) (v := .ref (q_t 1)) (C := RX6) (T := TX6) (N := 18) hx hb hT iX6 hown hK hP 0 rfl rfl 1 (by decide) (hT _ fw_X6_19) (fun _ h9 => h9) rfl dX6_slip_52 ?_
        obtain ⟨r19, e20, hf⟩ := bind_some hf
        refine callVv (As := [.ref (q_t 1)]) (rest := []) M (mX0_becomeLike l D cs sk (q_t 7) (q_t 1) q_t_7 q_t_1 k d_t_7 d_t_1 e20) mw_X6_181 ln_X0_becomeLike ⟨rfl, rfl, Nat.le_of_ble_eq_true rfl, Nat.le_of_ble_eq_true rfl⟩ hP hD hS hA [19, 20, 21, 22, 23, 24, 26, 4, 5, 6, 7, 8, 9, 10] (by decide) rfl rfl (q0 := 0) rfl rfl rfl ⟨Nat.zero_le _, Nat.zero_le _⟩ hl.1 rfl (Nat.le_of_ble_eq_true rfl) dX6_slip_55 (fun H locs hP hD hS => ?_)
        replace hP : va_P D vwCl [oX6 h_t q_t (d_t.1), oX4 (q_t 0) q_t_0 (d_t_0.1), ((q_t_0 1), .inl (cs 0, 6, .inl (d_t_0.2 1))), ((q_t_0 2), .inl (cs 0, 6, .inl (d_t_0.2 2))), oX0 (q_t 1) q_t_1 (d_t_1.1), ((q_t_1 1), .inl (cs 0, 6, .inl (d_t_1.2 1))), ((q_t_1 2), .inl (cs 0, 6, .inl (d_t_1.2 2))), ((q_t_1 3), .inl (cs 0, 6, .inl (d_t_1.2 3))), ((q_t_1 4), .inl (cs 0, 6, .inl (d_t_1.2 4))), ((q_t_1 5), .inl (cs 0, 6, .inl (d_t_1.2 5))), ((q_t_1 9), .inl (cs 0, 48, .inl (d_t_1.2 9))), oX0 (q_t 6) q_t_6 (r17.1), ((q_t_6 1), .inl (cs 0, 6, .inl (r17.2 1))), ((q_t_6 2), .inl (cs 0, 6, .inl (r17.2 2))), ((q_t_6 3), .inl (cs 0, 6, .inl (r17.2 3))), ((q_t_6 4), .inl (cs 0, 6, .inl (r17.2 4))), ((q_t_6 5), .inl (cs 0, 6, .inl (r17.2 5))), ((q_t_6 6), .inl (cs 0, 6, .inl (d_t_6.2 6))), ((q_t_6 9), .inl (cs 0, 48, .inl (r17.2 9))), oX0 (q_t 7) q_t_7 (r19.1), ((q_t_7 1), .inl (cs 0, 6, .inl (r19.2 1))), ((q_t_7 2), .inl (cs 0, 6, .inl (r19.2 2))), ((q_t_7 3), .inl (cs 0, 6, .inl (r19.2 3))), ((q_t_7 4), .inl (cs 0, 6, .inl (r19.2 4))), ((q_t_7 5), .inl (cs 0, 6, .inl (r19.2 5))), ((q_t_7 6), .inl (cs 0, 6, .inl (d_t_7.2 6))), ((q_t_7 9), .inl (cs 0, 48, .inl (r19.2 9)))] H := hP
        replace hD : va_D A [oX6 h_t q_t (d_t.1), oX4 (q_t 0) q_t_0 (d_t_0.1), ((q_t_0 1), .inl (cs 0, 6, .inl (d_t_0.2 1))), ((q_t_0 2), .inl (cs 0, 6, .inl (d_t_0.2 2))), oX0 (q_t 1) q_t_1 (d_t_1.1), ((q_t_1 1), .inl (cs 0, 6, .inl (d_t_1.2 1))), ((q_t_1 2), .inl (cs 0, 6, .inl (d_t_1.2 2))), ((q_t_1 3), .inl (cs 0, 6, .inl (d_t_1.2 3))), ((q_t_1 4), .inl (cs 0, 6, .inl (d_t_1.2 4))), ((q_t_1 5), .inl (cs 0, 6, .inl (d_t_1.2 5))), ((q_t_1 9), .inl (cs 0, 48, .inl (d_t_1.2 9))), oX0 (q_t 6) q_t_6 (r17.1), ((q_t_6 1), .inl (cs 0, 6, .inl (r17.2 1))), ((q_t_6 2), .inl (cs 0, 6, .inl (r17.2 2))), ((q_t_6 3), .inl (cs 0, 6, .inl (r17.2 3))), ((q_t_6 4), .inl (cs 0, 6, .inl (r17.2 4))), ((q_t_6 5), .inl (cs 0, 6, .inl (r17.2 5))), ((q_t_6 6), .inl (cs 0, 6, .inl (d_t_6.2 6))), ((q_t_6 9), .inl (cs 0, 48, .inl (r17.2 9))), oX0 (q_t 7) q_t_7 (r19.1), ((q_t_7 1), .inl (cs 0, 6, .inl (r19.2 1))), ((q_t_7 2), .inl (cs 0, 6, .inl (r19.2 2))), ((q_t_7 3), .inl (cs 0, 6, .inl (r19.2 3))), ((q_t_7 4), .inl (cs 0, 6, .inl (r19.2 4))), ((q_t_7 5), .inl (cs 0, 6, .inl (r19.2 5))), ((q_t_7 6), .inl (cs 0, 6, .inl (d_t_7.2 6))), ((q_t_7 9), .inl (cs 0, 48, .inl (r19.2 9)))] := hD
        refine lv_aload_n hx hb dX6_slip_58 rfl (lv_at hl 0 rfl) ?_
        refine va_get (D := D) (ci := 6) (v := .ref (q_t 7)) (C := RX6) (T := TX6) (N := 18) hx hb hT iX6 hown hK hP 0 rfl rfl 7 (by decide) (hT _ fw_X6_41) (fun _ h9 => h9) rfl dX6_slip_59 ?_
        refine va_get (D := D) (ci := 0) (v := .ref (q_t_7 4)) (C := RX0) (T := TX0) (N := 10) hx hb hT iX0 hown hK hP 19 rfl rfl 4 (by decide) (hT _ fw_X6_154) (fun _ h9 => h9) rfl dX6_slip_62 ?_
        refine lv_iload_n hx hb dX6_slip_65 rfl (lv_at hl 1 rfl) ?_
        refine lv_aload_n hx hb dX6_slip_66 rfl (lv_at hl 0 rfl) ?_
        refine va_get (D := D) (ci := 6) (v := .ref (q_t 1)) (C := RX6) (T := TX6) (N := 18) hx hb hT iX6 hown hK hP 0 rfl rfl 1 (by decide) (hT _ fw_X6_19) (fun _ h9 => h9) rfl dX6_slip_67 ?_
        refine va_get (D := D) (ci := 0) (v := .ref (q_t_1 4)) (C := RX0) (T := TX0) (N := 10) hx hb hT iX0 hown hK hP 4 rfl rfl 4 (by decide) (hT _ fw_X6_154) (fun _ h9 => h9) rfl dX6_slip_70 ?_
        refine lv_iload_n hx hb dX6_slip_73 rfl (lv_at hl 1 rfl) ?_
        obtain ⟨hi, hf⟩ := chk_some hf
        refine va_iald (D := D) hx hb hK hP 8 0 rfl rfl hi dX6_slip_74 ?_
        refine lv_iload_n hx hb dX6_slip_75 rfl (lv_at hl 2 rfl) ?_
        refine lv_iadd hx hb dX6_slip_76 ?_
        obtain ⟨r21, e22, hf⟩ := bind_some hf
        refine callSi (As := [.int (((d_t_1.2 4) x1.toNatClampNeg) + x2)]) (rest := [.int x1, .ref (q_t_7 4)]) M (mX6_heldOffset l D cs sk  k (((d_t_1.2 4) x1.toNatClampNeg) + x2) e22) mw_X6_248 ln_X6_heldOffset ⟨rfl, rfl, Nat.le_of_ble_eq_true rfl, Nat.le_of_ble_eq_true rfl⟩ hP hD hS hA [] (by decide) rfl rfl ⟨Nat.zero_le _, Nat.zero_le _⟩ hl.1 rfl (Nat.le_of_ble_eq_true rfl) dX6_slip_77 (fun H locs hP hD hS => ?_)
        replace hP : va_P D vwCl [oX6 h_t q_t (d_t.1), oX4 (q_t 0) q_t_0 (d_t_0.1), ((q_t_0 1), .inl (cs 0, 6, .inl (d_t_0.2 1))), ((q_t_0 2), .inl (cs 0, 6, .inl (d_t_0.2 2))), oX0 (q_t 1) q_t_1 (d_t_1.1), ((q_t_1 1), .inl (cs 0, 6, .inl (d_t_1.2 1))), ((q_t_1 2), .inl (cs 0, 6, .inl (d_t_1.2 2))), ((q_t_1 3), .inl (cs 0, 6, .inl (d_t_1.2 3))), ((q_t_1 4), .inl (cs 0, 6, .inl (d_t_1.2 4))), ((q_t_1 5), .inl (cs 0, 6, .inl (d_t_1.2 5))), ((q_t_1 9), .inl (cs 0, 48, .inl (d_t_1.2 9))), oX0 (q_t 6) q_t_6 (r17.1), ((q_t_6 1), .inl (cs 0, 6, .inl (r17.2 1))), ((q_t_6 2), .inl (cs 0, 6, .inl (r17.2 2))), ((q_t_6 3), .inl (cs 0, 6, .inl (r17.2 3))), ((q_t_6 4), .inl (cs 0, 6, .inl (r17.2 4))), ((q_t_6 5), .inl (cs 0, 6, .inl (r17.2 5))), ((q_t_6 6), .inl (cs 0, 6, .inl (d_t_6.2 6))), ((q_t_6 9), .inl (cs 0, 48, .inl (r17.2 9))), oX0 (q_t 7) q_t_7 (r19.1), ((q_t_7 1), .inl (cs 0, 6, .inl (r19.2 1))), ((q_t_7 2), .inl (cs 0, 6, .inl (r19.2 2))), ((q_t_7 3), .inl (cs 0, 6, .inl (r19.2 3))), ((q_t_7 4), .inl (cs 0, 6, .inl (r19.2 4))), ((q_t_7 5), .inl (cs 0, 6, .inl (r19.2 5))), ((q_t_7 6), .inl (cs 0, 6, .inl (d_t_7.2 6))), ((q_t_7 9), .inl (cs 0, 48, .inl (r19.2 9)))] H := hP
        replace hD : va_D A [oX6 h_t q_t (d_t.1), oX4 (q_t 0) q_t_0 (d_t_0.1), ((q_t_0 1), .inl (cs 0, 6, .inl (d_t_0.2 1))), ((q_t_0 2), .inl (cs 0, 6, .inl (d_t_0.2 2))), oX0 (q_t 1) q_t_1 (d_t_1.1), ((q_t_1 1), .inl (cs 0, 6, .inl (d_t_1.2 1))), ((q_t_1 2), .inl (cs 0, 6, .inl (d_t_1.2 2))), ((q_t_1 3), .inl (cs 0, 6, .inl (d_t_1.2 3))), ((q_t_1 4), .inl (cs 0, 6, .inl (d_t_1.2 4))), ((q_t_1 5), .inl (cs 0, 6, .inl (d_t_1.2 5))), ((q_t_1 9), .inl (cs 0, 48, .inl (d_t_1.2 9))), oX0 (q_t 6) q_t_6 (r17.1), ((q_t_6 1), .inl (cs 0, 6, .inl (r17.2 1))), ((q_t_6 2), .inl (cs 0, 6, .inl (r17.2 2))), ((q_t_6 3), .inl (cs 0, 6, .inl (r17.2 3))), ((q_t_6 4), .inl (cs 0, 6, .inl (r17.2 4))), ((q_t_6 5), .inl (cs 0, 6, .inl (r17.2 5))), ((q_t_6 6), .inl (cs 0, 6, .inl (d_t_6.2 6))), ((q_t_6 9), .inl (cs 0, 48, .inl (r17.2 9))), oX0 (q_t 7) q_t_7 (r19.1), ((q_t_7 1), .inl (cs 0, 6, .inl (r19.2 1))), ((q_t_7 2), .inl (cs 0, 6, .inl (r19.2 2))), ((q_t_7 3), .inl (cs 0, 6, .inl (r19.2 3))), ((q_t_7 4), .inl (cs 0, 6, .inl (r19.2 4))), ((q_t_7 5), .inl (cs 0, 6, .inl (r19.2 5))), ((q_t_7 6), .inl (cs 0, 6, .inl (d_t_7.2 6))), ((q_t_7 9), .inl (cs 0, 48, .inl (r19.2 9)))] := hD
        obtain ⟨hi, hf⟩ := chk_some hf
        refine va_iast (D := D) hx hb hK hP hD hS 23 0 rfl rfl hi dX6_slip_80 (fun H locs hP hD hS => ?_)
        replace hP : va_P D vwCl [oX6 h_t q_t (d_t.1), oX4 (q_t 0) q_t_0 (d_t_0.1), ((q_t_0 1), .inl (cs 0, 6, .inl (d_t_0.2 1))), ((q_t_0 2), .inl (cs 0, 6, .inl (d_t_0.2 2))), oX0 (q_t 1) q_t_1 (d_t_1.1), ((q_t_1 1), .inl (cs 0, 6, .inl (d_t_1.2 1))), ((q_t_1 2), .inl (cs 0, 6, .inl (d_t_1.2 2))), ((q_t_1 3), .inl (cs 0, 6, .inl (d_t_1.2 3))), ((q_t_1 4), .inl (cs 0, 6, .inl (d_t_1.2 4))), ((q_t_1 5), .inl (cs 0, 6, .inl (d_t_1.2 5))), ((q_t_1 9), .inl (cs 0, 48, .inl (d_t_1.2 9))), oX0 (q_t 6) q_t_6 (r17.1), ((q_t_6 1), .inl (cs 0, 6, .inl (r17.2 1))), ((q_t_6 2), .inl (cs 0, 6, .inl (r17.2 2))), ((q_t_6 3), .inl (cs 0, 6, .inl (r17.2 3))), ((q_t_6 4), .inl (cs 0, 6, .inl (r17.2 4))), ((q_t_6 5), .inl (cs 0, 6, .inl (r17.2 5))), ((q_t_6 6), .inl (cs 0, 6, .inl (d_t_6.2 6))), ((q_t_6 9), .inl (cs 0, 48, .inl (r17.2 9))), oX0 (q_t 7) q_t_7 (r19.1), ((q_t_7 1), .inl (cs 0, 6, .inl (r19.2 1))), ((q_t_7 2), .inl (cs 0, 6, .inl (r19.2 2))), ((q_t_7 3), .inl (cs 0, 6, .inl (r19.2 3))), ((q_t_7 4), .inl (cs 0, 6, .inl (upd (r19.2 4) x1.toNatClampNeg r21))), ((q_t_7 5), .inl (cs 0, 6, .inl (r19.2 5))), ((q_t_7 6), .inl (cs 0, 6, .inl (d_t_7.2 6))), ((q_t_7 9), .inl (cs 0, 48, .inl (r19.2 9)))] H := hP
        replace hD : va_D A [oX6 h_t q_t (d_t.1), oX4 (q_t 0) q_t_0 (d_t_0.1), ((q_t_0 1), .inl (cs 0, 6, .inl (d_t_0.2 1))), ((q_t_0 2), .inl (cs 0, 6, .inl (d_t_0.2 2))), oX0 (q_t 1) q_t_1 (d_t_1.1), ((q_t_1 1), .inl (cs 0, 6, .inl (d_t_1.2 1))), ((q_t_1 2), .inl (cs 0, 6, .inl (d_t_1.2 2))), ((q_t_1 3), .inl (cs 0, 6, .inl (d_t_1.2 3))), ((q_t_1 4), .inl (cs 0, 6, .inl (d_t_1.2 4))), ((q_t_1 5), .inl (cs 0, 6, .inl (d_t_1.2 5))), ((q_t_1 9), .inl (cs 0, 48, .inl (d_t_1.2 9))), oX0 (q_t 6) q_t_6 (r17.1), ((q_t_6 1), .inl (cs 0, 6, .inl (r17.2 1))), ((q_t_6 2), .inl (cs 0, 6, .inl (r17.2 2))), ((q_t_6 3), .inl (cs 0, 6, .inl (r17.2 3))), ((q_t_6 4), .inl (cs 0, 6, .inl (r17.2 4))), ((q_t_6 5), .inl (cs 0, 6, .inl (r17.2 5))), ((q_t_6 6), .inl (cs 0, 6, .inl (d_t_6.2 6))), ((q_t_6 9), .inl (cs 0, 48, .inl (r17.2 9))), oX0 (q_t 7) q_t_7 (r19.1), ((q_t_7 1), .inl (cs 0, 6, .inl (r19.2 1))), ((q_t_7 2), .inl (cs 0, 6, .inl (r19.2 2))), ((q_t_7 3), .inl (cs 0, 6, .inl (r19.2 3))), ((q_t_7 4), .inl (cs 0, 6, .inl (upd (r19.2 4) x1.toNatClampNeg r21))), ((q_t_7 5), .inl (cs 0, 6, .inl (r19.2 5))), ((q_t_7 6), .inl (cs 0, 6, .inl (d_t_7.2 6))), ((q_t_7 9), .inl (cs 0, 48, .inl (r19.2 9)))] := hD
        refine lv_iconst (v := 0) hx hb dX6_slip_81 rfl ?_
        refine lv_istore (lv' := [(4, .int 0), (0, .ref h_t), (1, .int x1), (2, .int x2), (3, .int x3)]) hx hb dX6_slip_82 hl (by decide) rfl (fun ls hl => ?_)
        refine mX6_slip_B84 h_t q_t q_t_0 q_t_1 q_t_6 q_t_7 k x3 d_t d_t_0 d_t_1 (r17.1, (va_up (va_up (va_up (va_up (va_up (va_up d_t_6.2 1 (r17.2 1)) 2 (r17.2 2)) 3 (r17.2 3)) 4 (r17.2 4)) 5 (r17.2 5)) 9 (r17.2 9))) (r19.1, (va_up (va_up (va_up (va_up (va_up (va_up d_t_7.2 1 (r19.2 1)) 2 (r19.2 2)) 3 (r19.2 3)) 4 (upd (r19.2 4) x1.toNatClampNeg r21)) 5 (r19.2 5)) 9 (r19.2 9))) _ M hA hR (fun w23 hf H locs ls hP hD hS hl => ?_) _ _ hf _ _ _ hP hD hS (lv_sub hl [1, 4, 0] rfl)
        · refine lv_aload_n hx hb dX6_slip_120 rfl (lv_at hl 0 rfl) ?_
          refine va_get (D := D) (ci := 6) (v := .ref (q_t 6)) (C := RX6) (T := TX6) (N := 18) hx hb hT iX6 hown hK hP 0 rfl rfl 6 (by decide) (hT _ fw_X6_38) (fun _ h9 => h9) rfl dX6_slip_121 ?_
          refine lv_aload_n hx hb dX6_slip_124 rfl (lv_at hl 0 rfl) ?_
          refine va_get (D := D) (ci := 6) (v := .ref (q_t 7)) (C := RX6) (T := TX6) (N := 18) hx hb hT iX6 hown hK hP 0 rfl rfl 7 (by decide) (hT _ fw_X6_41) (fun _ h9 => h9) rfl dX6_slip_125 ?_
          obtain ⟨r24, e25, hf⟩ := bind_some hf
          refine callVi (As := [.ref (q_t 7)]) (rest := []) M (mX0_playersUnlike l D cs sk (q_t 6) (q_t 7) q_t_6 q_t_7 k (r17.1, (va_up (va_up (va_up (va_up (va_up (va_up (va_up d_t_6.2 1 (r17.2 1)) 2 (r17.2 2)) 3 (r17.2 3)) 4 (w23.1.2 4)) 5 (r17.2 5)) 6 (w23.1.2 6)) 9 (r17.2 9))) (r19.1, (va_up (va_up (va_up (va_up (va_up (va_up (va_up d_t_7.2 1 (r19.2 1)) 2 (r19.2 2)) 3 (r19.2 3)) 4 (w23.2.2 4)) 5 (r19.2 5)) 6 (w23.2.2 6)) 9 (r19.2 9))) e25) mw_X6_251 ln_X0_playersUnlike ⟨rfl, rfl, Nat.le_of_ble_eq_true rfl, Nat.le_of_ble_eq_true rfl⟩ hP hD hS hA [11, 15, 19, 23] (by decide) rfl rfl (q0 := 0) rfl rfl rfl ⟨Nat.zero_le _, Nat.zero_le _⟩ hl.1 rfl (Nat.le_of_ble_eq_true rfl) dX6_slip_128 (fun H locs hP hD hS => ?_)
          replace hP : va_P D vwCl [oX6 h_t q_t (d_t.1), oX4 (q_t 0) q_t_0 (d_t_0.1), ((q_t_0 1), .inl (cs 0, 6, .inl (d_t_0.2 1))), ((q_t_0 2), .inl (cs 0, 6, .inl (d_t_0.2 2))), oX0 (q_t 1) q_t_1 (d_t_1.1), ((q_t_1 1), .inl (cs 0, 6, .inl (d_t_1.2 1))), ((q_t_1 2), .inl (cs 0, 6, .inl (d_t_1.2 2))), ((q_t_1 3), .inl (cs 0, 6, .inl (d_t_1.2 3))), ((q_t_1 4), .inl (cs 0, 6, .inl (d_t_1.2 4))), ((q_t_1 5), .inl (cs 0, 6, .inl (d_t_1.2 5))), ((q_t_1 9), .inl (cs 0, 48, .inl (d_t_1.2 9))), oX0 (q_t 6) q_t_6 (r17.1), ((q_t_6 1), .inl (cs 0, 6, .inl (r17.2 1))), ((q_t_6 2), .inl (cs 0, 6, .inl (r17.2 2))), ((q_t_6 3), .inl (cs 0, 6, .inl (r17.2 3))), ((q_t_6 4), .inl (cs 0, 6, .inl (w23.1.2 4))), ((q_t_6 5), .inl (cs 0, 6, .inl (r17.2 5))), ((q_t_6 6), .inl (cs 0, 6, .inl (w23.1.2 6))), ((q_t_6 9), .inl (cs 0, 48, .inl (r17.2 9))), oX0 (q_t 7) q_t_7 (r19.1), ((q_t_7 1), .inl (cs 0, 6, .inl (r19.2 1))), ((q_t_7 2), .inl (cs 0, 6, .inl (r19.2 2))), ((q_t_7 3), .inl (cs 0, 6, .inl (r19.2 3))), ((q_t_7 4), .inl (cs 0, 6, .inl (w23.2.2 4))), ((q_t_7 5), .inl (cs 0, 6, .inl (r19.2 5))), ((q_t_7 6), .inl (cs 0, 6, .inl (w23.2.2 6))), ((q_t_7 9), .inl (cs 0, 48, .inl (r19.2 9)))] H := hP
          replace hD : va_D A [oX6 h_t q_t (d_t.1), oX4 (q_t 0) q_t_0 (d_t_0.1), ((q_t_0 1), .inl (cs 0, 6, .inl (d_t_0.2 1))), ((q_t_0 2), .inl (cs 0, 6, .inl (d_t_0.2 2))), oX0 (q_t 1) q_t_1 (d_t_1.1), ((q_t_1 1), .inl (cs 0, 6, .inl (d_t_1.2 1))), ((q_t_1 2), .inl (cs 0, 6, .inl (d_t_1.2 2))), ((q_t_1 3), .inl (cs 0, 6, .inl (d_t_1.2 3))), ((q_t_1 4), .inl (cs 0, 6, .inl (d_t_1.2 4))), ((q_t_1 5), .inl (cs 0, 6, .inl (d_t_1.2 5))), ((q_t_1 9), .inl (cs 0, 48, .inl (d_t_1.2 9))), oX0 (q_t 6) q_t_6 (r17.1), ((q_t_6 1), .inl (cs 0, 6, .inl (r17.2 1))), ((q_t_6 2), .inl (cs 0, 6, .inl (r17.2 2))), ((q_t_6 3), .inl (cs 0, 6, .inl (r17.2 3))), ((q_t_6 4), .inl (cs 0, 6, .inl (w23.1.2 4))), ((q_t_6 5), .inl (cs 0, 6, .inl (r17.2 5))), ((q_t_6 6), .inl (cs 0, 6, .inl (w23.1.2 6))), ((q_t_6 9), .inl (cs 0, 48, .inl (r17.2 9))), oX0 (q_t 7) q_t_7 (r19.1), ((q_t_7 1), .inl (cs 0, 6, .inl (r19.2 1))), ((q_t_7 2), .inl (cs 0, 6, .inl (r19.2 2))), ((q_t_7 3), .inl (cs 0, 6, .inl (r19.2 3))), ((q_t_7 4), .inl (cs 0, 6, .inl (w23.2.2 4))), ((q_t_7 5), .inl (cs 0, 6, .inl (r19.2 5))), ((q_t_7 6), .inl (cs 0, 6, .inl (w23.2.2 6))), ((q_t_7 9), .inl (cs 0, 48, .inl (r19.2 9)))] := hD
          have e9 := Option.some.inj hf
          subst e9
          exact hR _ _ _ _ dX6_slip_131 hP hS
      · replace hf := g16.1 c15
        refine lv_aload_n hx hb dX6_slip_29 rfl (lv_at hl 0 rfl) ?_
        refine lv_bipush (v := (-2)) hx hb dX6_slip_30 rfl ?_
        obtain ⟨r26, e27, hf⟩ := bind_some hf
        refine callVi (As := [.int (-2)]) (rest := []) M (mX6_refuseBad l D cs sk h_t q_t k d_t (-2) e27) mw_X6_96 ln_X6_refuseBad ⟨rfl, rfl, Nat.le_of_ble_eq_true rfl, Nat.le_of_ble_eq_true rfl⟩ hP hD hS hA [0] (by decide) rfl rfl (q0 := 0) rfl rfl rfl ⟨Nat.zero_le _, Nat.zero_le _⟩ hl.1 rfl (Nat.le_of_ble_eq_true rfl) dX6_slip_32 (fun H locs hP hD hS => ?_)
        replace hP : va_P D vwCl [oX6 h_t q_t (r26.2.1), oX4 (q_t 0) q_t_0 (d_t_0.1), ((q_t_0 1), .inl (cs 0, 6, .inl (d_t_0.2 1))), ((q_t_0 2), .inl (cs 0, 6, .inl (d_t_0.2 2))), oX0 (q_t 1) q_t_1 (d_t_1.1), ((q_t_1 1), .inl (cs 0, 6, .inl (d_t_1.2 1))), ((q_t_1 2), .inl (cs 0, 6, .inl (d_t_1.2 2))), ((q_t_1 3), .inl (cs 0, 6, .inl (d_t_1.2 3))), ((q_t_1 4), .inl (cs 0, 6, .inl (d_t_1.2 4))), ((q_t_1 5), .inl (cs 0, 6, .inl (d_t_1.2 5))), ((q_t_1 9), .inl (cs 0, 48, .inl (d_t_1.2 9))), oX0 (q_t 6) q_t_6 (d_t_6.1), ((q_t_6 1), .inl (cs 0, 6, .inl (d_t_6.2 1))), ((q_t_6 2), .inl (cs 0, 6, .inl (d_t_6.2 2))), ((q_t_6 3), .inl (cs 0, 6, .inl (d_t_6.2 3))), ((q_t_6 4), .inl (cs 0, 6, .inl (d_t_6.2 4))), ((q_t_6 5), .inl (cs 0, 6, .inl (d_t_6.2 5))), ((q_t_6 6), .inl (cs 0, 6, .inl (d_t_6.2 6))), ((q_t_6 9), .inl (cs 0, 48, .inl (d_t_6.2 9))), oX0 (q_t 7) q_t_7 (d_t_7.1), ((q_t_7 1), .inl (cs 0, 6, .inl (d_t_7.2 1))), ((q_t_7 2), .inl (cs 0, 6, .inl (d_t_7.2 2))), ((q_t_7 3), .inl (cs 0, 6, .inl (d_t_7.2 3))), ((q_t_7 4), .inl (cs 0, 6, .inl (d_t_7.2 4))), ((q_t_7 5), .inl (cs 0, 6, .inl (d_t_7.2 5))), ((q_t_7 6), .inl (cs 0, 6, .inl (d_t_7.2 6))), ((q_t_7 9), .inl (cs 0, 48, .inl (d_t_7.2 9)))] H := hP
        replace hD : va_D A [oX6 h_t q_t (r26.2.1), oX4 (q_t 0) q_t_0 (d_t_0.1), ((q_t_0 1), .inl (cs 0, 6, .inl (d_t_0.2 1))), ((q_t_0 2), .inl (cs 0, 6, .inl (d_t_0.2 2))), oX0 (q_t 1) q_t_1 (d_t_1.1), ((q_t_1 1), .inl (cs 0, 6, .inl (d_t_1.2 1))), ((q_t_1 2), .inl (cs 0, 6, .inl (d_t_1.2 2))), ((q_t_1 3), .inl (cs 0, 6, .inl (d_t_1.2 3))), ((q_t_1 4), .inl (cs 0, 6, .inl (d_t_1.2 4))), ((q_t_1 5), .inl (cs 0, 6, .inl (d_t_1.2 5))), ((q_t_1 9), .inl (cs 0, 48, .inl (d_t_1.2 9))), oX0 (q_t 6) q_t_6 (d_t_6.1), ((q_t_6 1), .inl (cs 0, 6, .inl (d_t_6.2 1))), ((q_t_6 2), .inl (cs 0, 6, .inl (d_t_6.2 2))), ((q_t_6 3), .inl (cs 0, 6, .inl (d_t_6.2 3))), ((q_t_6 4), .inl (cs 0, 6, .inl (d_t_6.2 4))), ((q_t_6 5), .inl (cs 0, 6, .inl (d_t_6.2 5))), ((q_t_6 6), .inl (cs 0, 6, .inl (d_t_6.2 6))), ((q_t_6 9), .inl (cs 0, 48, .inl (d_t_6.2 9))), oX0 (q_t 7) q_t_7 (d_t_7.1), ((q_t_7 1), .inl (cs 0, 6, .inl (d_t_7.2 1))), ((q_t_7 2), .inl (cs 0, 6, .inl (d_t_7.2 2))), ((q_t_7 3), .inl (cs 0, 6, .inl (d_t_7.2 3))), ((q_t_7 4), .inl (cs 0, 6, .inl (d_t_7.2 4))), ((q_t_7 5), .inl (cs 0, 6, .inl (d_t_7.2 5))), ((q_t_7 6), .inl (cs 0, 6, .inl (d_t_7.2 6))), ((q_t_7 9), .inl (cs 0, 48, .inl (d_t_7.2 9)))] := hD
        have e9 := Option.some.inj hf
        subst e9
        exact hR _ _ _ _ dX6_slip_35 hP hS
abbrev rm_X6_best : Room := { frames := 7, cells := 0, slots := 0, locals := 177 }
def fX6_best (k : Nat) (d_t : Dat) (d_t_0 : Dat) (d_t_1 : Dat) (d_t_6 : Dat) (d_t_8 : Dat) (d_t_10 : Dat) (x1 : Int32) : Option (Int32 × Dat × Dat × Dat × Dat) :=
  (fX6_hasPlayer k d_t d_t_1 x1).bind (fun (r1 : Int32) => (if r1 = 0 then (fX6_refuseBad k d_t (-2)).bind (fun (r13 : Int32 × Dat) => some ((r13.1), (r13.2.1, d_t.2), d_t_6, d_t_8, d_t_10)) else (if (d_t_0.1 0) < (d_t_1.1 0) then some ((-1), d_t, d_t_6, d_t_8, d_t_10) else (if (d_t_0.1 3) = 0 then some ((-1), d_t, d_t_6, d_t_8, d_t_10) else (fX0_becomeLike k d_t_6 d_t_1).bind (fun (r9 : Dat) => (fX3_search k d_t_10 d_t_0 (r9.1, (va_up (va_up (va_up (va_up (va_up (va_up d_t_6.2 1 (r9.2 1)) 2 (r9.2 2)) 3 (r9.2 3)) 4 (r9.2 4)) 5 (r9.2 5)) 9 (r9.2 9))) d_t_8).bind (fun (r11 : Dat × Dat × Dat) => chk 6 x1 (some (((r11.1.2 0) x1.toNatClampNeg), d_t, (r9.1, (va_up (va_up (va_up (va_up (va_up (va_up d_t_6.2 1 (r9.2 1)) 2 (r11.2.1.2 2)) 3 (r9.2 3)) 4 (r9.2 4)) 5 (r9.2 5)) 9 (r9.2 9))), (r11.2.2.1, (va_up (va_up (va_up d_t_8.2 1 (r11.2.2.2 1)) 2 (r11.2.2.2 2)) 3 (r11.2.2.2 3))), (r11.1.1, (va_up (va_up d_t_10.2 0 (r11.1.2 0)) 1 (r11.1.2 1)))))))))))
set_option maxHeartbeats 4000000 in
set_option maxRecDepth 100000 in
theorem mX6_best (l : Launch) (D : va_G) (cs : Nat → ClassId) (sk : Nat → Nat) (h_t : Nat) (q_t : Nat → Nat) (q_t_0 : Nat → Nat) (q_t_1 : Nat → Nat) (q_t_6 : Nat → Nat) (q_t_8 : Nat → Nat) (q_t_10 : Nat → Nat) (k : Nat) (d_t : Dat) (d_t_0 : Dat) (d_t_1 : Dat) (d_t_6 : Dat) (d_t_8 : Dat) (d_t_10 : Dat) (x1 : Int32) {rv : Int32 × Dat × Dat × Dat × Dat} (hf : fX6_best k d_t d_t_0 d_t_1 d_t_6 d_t_8 d_t_10 x1 = some rv) : CTi l yX6_best (Cond.code yX6_best cX6_best 2 (some .int) :: gtbl) rm_X6_best D cs sk [.ref h_t, .int x1] [oX6 h_t q_t (d_t.1), oX4 (q_t 0) q_t_0 (d_t_0.1), ((q_t_0 1), .inl (cs 0, 6, .inl (d_t_0.2 1))), ((q_t_0 2), .inl (cs 0, 6, .inl (d_t_0.2 2))), ((q_t_0 4), .inl (cs 0, 3, .inl (d_t_0.2 4))), ((q_t_0 5), .inl (cs 0, 3, .inl (d_t_0.2 5))), oX0 (q_t 1) q_t_1 (d_t_1.1), ((q_t_1 1), .inl (cs 0, 6, .inl (d_t_1.2 1))), ((q_t_1 2), .inl (cs 0, 6, .inl (d_t_1.2 2))), ((q_t_1 3), .inl (cs 0, 6, .inl (d_t_1.2 3))), ((q_t_1 4), .inl (cs 0, 6, .inl (d_t_1.2 4))), ((q_t_1 5), .inl (cs 0, 6, .inl (d_t_1.2 5))), ((q_t_1 9), .inl (cs 0, 48, .inl (d_t_1.2 9))), oX0 (q_t 6) q_t_6 (d_t_6.1), ((q_t_6 1), .inl (cs 0, 6, .inl (d_t_6.2 1))), ((q_t_6 2), .inl (cs 0, 6, .inl (d_t_6.2 2))), ((q_t_6 3), .inl (cs 0, 6, .inl (d_t_6.2 3))), ((q_t_6 4), .inl (cs 0, 6, .inl (d_t_6.2 4))), ((q_t_6 5), .inl (cs 0, 6, .inl (d_t_6.2 5))), ((q_t_6 9), .inl (cs 0, 48, .inl (d_t_6.2 9))), oX1 (q_t 8) q_t_8 (d_t_8.1), ((q_t_8 1), .inl (cs 0, 12, .inl (d_t_8.2 1))), ((q_t_8 2), .inl (cs 0, 12, .inl (d_t_8.2 2))), ((q_t_8 3), .inl (cs 0, 12, .inl (d_t_8.2 3))), oX3 (q_t 10) q_t_10 (d_t_10.1), ((q_t_10 0), .inl (cs 0, 6, .inl (d_t_10.2 0))), ((q_t_10 1), .inl (cs 0, 6, .inl (d_t_10.2 1)))] (rv.1) [oX6 h_t q_t (rv.2.1.1), oX4 (q_t 0) q_t_0 (d_t_0.1), ((q_t_0 1), .inl (cs 0, 6, .inl (d_t_0.2 1))), ((q_t_0 2), .inl (cs 0, 6, .inl (d_t_0.2 2))), ((q_t_0 4), .inl (cs 0, 3, .inl (d_t_0.2 4))), ((q_t_0 5), .inl (cs 0, 3, .inl (d_t_0.2 5))), oX0 (q_t 1) q_t_1 (d_t_1.1), ((q_t_1 1), .inl (cs 0, 6, .inl (d_t_1.2 1))), ((q_t_1 2), .inl (cs 0, 6, .inl (d_t_1.2 2))), ((q_t_1 3), .inl (cs 0, 6, .inl (d_t_1.2 3))), ((q_t_1 4), .inl (cs 0, 6, .inl (d_t_1.2 4))), ((q_t_1 5), .inl (cs 0, 6, .inl (d_t_1.2 5))), ((q_t_1 9), .inl (cs 0, 48, .inl (d_t_1.2 9))), oX0 (q_t 6) q_t_6 (rv.2.2.1.1), ((q_t_6 1), .inl (cs 0, 6, .inl (rv.2.2.1.2 1))), ((q_t_6 2), .inl (cs 0, 6, .inl (rv.2.2.1.2 2))), ((q_t_6 3), .inl (cs 0, 6, .inl (rv.2.2.1.2 3))), ((q_t_6 4), .inl (cs 0, 6, .inl (rv.2.2.1.2 4))), ((q_t_6 5), .inl (cs 0, 6, .inl (rv.2.2.1.2 5))), ((q_t_6 9), .inl (cs 0, 48, .inl (rv.2.2.1.2 9))), oX1 (q_t 8) q_t_8 (rv.2.2.2.1.1), ((q_t_8 1), .inl (cs 0, 12, .inl (rv.2.2.2.1.2 1))), ((q_t_8 2), .inl (cs 0, 12, .inl (rv.2.2.2.1.2 2))), ((q_t_8 3), .inl (cs 0, 12, .inl (rv.2.2.2.1.2 3))), oX3 (q_t 10) q_t_10 (rv.2.2.2.2.1), ((q_t_10 0), .inl (cs 0, 6, .inl (rv.2.2.2.2.2 0))), ((q_t_10 1), .inl (cs 0, 6, .inl (rv.2.2.2.2.2 1)))] := by
  refine CTi.of RX6 (by decide +kernel) rfl (Nat.le_of_ble_eq_true rfl) (fun p e s m args below meth c A Q ls M hA hR hl hP hD hS => ?_)
  obtain ⟨hx, hb, hml, hT, hown, hlk, hrt, hK, hN, hSE⟩ := id M
  replace hl : lv_has ls 2 [(0, .ref h_t), (1, .int x1)] := hl
  unfold fX6_best at hf
  refine lv_aload_n hx hb dX6_best_0 rfl (lv_at hl 0 rfl) ?_
  refine lv_iload_n hx hb dX6_best_1 rfl (lv_at hl 1 rfl) ?_
  obtain ⟨r1, e2, hf⟩ := bind_some hf
  refine callVi (As := [.int x1]) (rest := []) M (mX6_hasPlayer l D cs sk h_t q_t q_t_1 k d_t d_t_1 x1 e2) mw_X6_151 ln_X6_hasPlayer ⟨rfl, rfl, Nat.le_of_ble_eq_true rfl, Nat.le_of_ble_eq_true rfl⟩ hP hD hS hA [0, 6] (by decide) rfl rfl (q0 := 0) rfl rfl rfl ⟨Nat.zero_le _, Nat.zero_le _⟩ hl.1 rfl (Nat.le_of_ble_eq_true rfl) dX6_best_2 (fun H locs hP hD hS => ?_)
  replace hP : va_P D vwCl [oX6 h_t q_t (d_t.1), oX4 (q_t 0) q_t_0 (d_t_0.1), ((q_t_0 1), .inl (cs 0, 6, .inl (d_t_0.2 1))), ((q_t_0 2), .inl (cs 0, 6, .inl (d_t_0.2 2))), ((q_t_0 4), .inl (cs 0, 3, .inl (d_t_0.2 4))), ((q_t_0 5), .inl (cs 0, 3, .inl (d_t_0.2 5))), oX0 (q_t 1) q_t_1 (d_t_1.1), ((q_t_1 1), .inl (cs 0, 6, .inl (d_t_1.2 1))), ((q_t_1 2), .inl (cs 0, 6, .inl (d_t_1.2 2))), ((q_t_1 3), .inl (cs 0, 6, .inl (d_t_1.2 3))), ((q_t_1 4), .inl (cs 0, 6, .inl (d_t_1.2 4))), ((q_t_1 5), .inl (cs 0, 6, .inl (d_t_1.2 5))), ((q_t_1 9), .inl (cs 0, 48, .inl (d_t_1.2 9))), oX0 (q_t 6) q_t_6 (d_t_6.1), ((q_t_6 1), .inl (cs 0, 6, .inl (d_t_6.2 1))), ((q_t_6 2), .inl (cs 0, 6, .inl (d_t_6.2 2))), ((q_t_6 3), .inl (cs 0, 6, .inl (d_t_6.2 3))), ((q_t_6 4), .inl (cs 0, 6, .inl (d_t_6.2 4))), ((q_t_6 5), .inl (cs 0, 6, .inl (d_t_6.2 5))), ((q_t_6 9), .inl (cs 0, 48, .inl (d_t_6.2 9))), oX1 (q_t 8) q_t_8 (d_t_8.1), ((q_t_8 1), .inl (cs 0, 12, .inl (d_t_8.2 1))), ((q_t_8 2), .inl (cs 0, 12, .inl (d_t_8.2 2))), ((q_t_8 3), .inl (cs 0, 12, .inl (d_t_8.2 3))), oX3 (q_t 10) q_t_10 (d_t_10.1), ((q_t_10 0), .inl (cs 0, 6, .inl (d_t_10.2 0))), ((q_t_10 1), .inl (cs 0, 6, .inl (d_t_10.2 1)))] H := hP
  replace hD : va_D A [oX6 h_t q_t (d_t.1), oX4 (q_t 0) q_t_0 (d_t_0.1), ((q_t_0 1), .inl (cs 0, 6, .inl (d_t_0.2 1))), ((q_t_0 2), .inl (cs 0, 6, .inl (d_t_0.2 2))), ((q_t_0 4), .inl (cs 0, 3, .inl (d_t_0.2 4))), ((q_t_0 5), .inl (cs 0, 3, .inl (d_t_0.2 5))), oX0 (q_t 1) q_t_1 (d_t_1.1), ((q_t_1 1), .inl (cs 0, 6, .inl (d_t_1.2 1))), ((q_t_1 2), .inl (cs 0, 6, .inl (d_t_1.2 2))), ((q_t_1 3), .inl (cs 0, 6, .inl (d_t_1.2 3))), ((q_t_1 4), .inl (cs 0, 6, .inl (d_t_1.2 4))), ((q_t_1 5), .inl (cs 0, 6, .inl (d_t_1.2 5))), ((q_t_1 9), .inl (cs 0, 48, .inl (d_t_1.2 9))), oX0 (q_t 6) q_t_6 (d_t_6.1), ((q_t_6 1), .inl (cs 0, 6, .inl (d_t_6.2 1))), ((q_t_6 2), .inl (cs 0, 6, .inl (d_t_6.2 2))), ((q_t_6 3), .inl (cs 0, 6, .inl (d_t_6.2 3))), ((q_t_6 4), .inl (cs 0, 6, .inl (d_t_6.2 4))), ((q_t_6 5), .inl (cs 0, 6, .inl (d_t_6.2 5))), ((q_t_6 9), .inl (cs 0, 48, .inl (d_t_6.2 9))), oX1 (q_t 8) q_t_8 (d_t_8.1), ((q_t_8 1), .inl (cs 0, 12, .inl (d_t_8.2 1))), ((q_t_8 2), .inl (cs 0, 12, .inl (d_t_8.2 2))), ((q_t_8 3), .inl (cs 0, 12, .inl (d_t_8.2 3))), oX3 (q_t 10) q_t_10 (d_t_10.1), ((q_t_10 0), .inl (cs 0, 6, .inl (d_t_10.2 0))), ((q_t_10 1), .inl (cs 0, 6, .inl (d_t_10.2 1)))] := hD
  have g4 := ite_some hf
  refine lv_if_ne (tgt := 15) hx hb dX6_best_5 (by decide) (fun c3 => ?_) (fun c3 => ?_)
  · replace hf := g4.2 c3
    refine lv_aload_n hx hb dX6_best_15 rfl (lv_at hl 0 rfl) ?_
    refine va_get (D := D) (ci := 6) (v := .ref (q_t 0)) (C := RX6) (T := TX6) (N := 18) hx hb hT iX6 hown hK hP 0 rfl rfl 0 (by decide) (hT _ fw_X6_10) (fun _ h9 => h9) rfl dX6_best_16 ?_
    refine va_get (D := D) (ci := 4) (v := .int (d_t_0.1 0)) (C := RX4) (T := TX4) (N := 11) hx hb hT iX4 hown hK hP 1 rfl rfl 0 (by decide) (hT _ fw_X6_100) (fun _ h9 => h9) rfl dX6_best_19 ?_
    refine lv_aload_n hx hb dX6_best_22 rfl (lv_at hl 0 rfl) ?_
    refine va_get (D := D) (ci := 6) (v := .ref (q_t 1)) (C := RX6) (T := TX6) (N := 18) hx hb hT iX6 hown hK hP 0 rfl rfl 1 (by decide) (hT _ fw_X6_19) (fun _ h9 => h9) rfl dX6_best_23 ?_
    refine va_get (D := D) (ci := 0) (v := .int (d_t_1.1 0)) (C := RX0) (T := TX0) (N := 10) hx hb hT iX0 hown hK hP 6 rfl rfl 0 (by decide) (hT _ fw_X6_144) (fun _ h9 => h9) rfl dX6_best_26 ?_
    have g6 := ite_some hf
    refine lv_icmp_lt (tgt := 42) hx hb dX6_best_29 (by decide) (fun c5 => ?_) (fun c5 => ?_)
    · replace hf := g6.1 c5
      refine lv_iconst (v := (-1)) hx hb dX6_best_42 rfl ?_
      have e9 := Option.some.inj hf
      subst e9
      exact hR _ _ _ _ dX6_best_43 hP hS
    · replace hf := g6.2 c5
      refine lv_aload_n hx hb dX6_best_32 rfl (lv_at hl 0 rfl) ?_
      refine va_get (D := D) (ci := 6) (v := .ref (q_t 0)) (C := RX6) (T := TX6) (N := 18) hx hb hT iX6 hown hK hP 0 rfl rfl 0 (by decide) (hT _ fw_X6_10) (fun _ h9 => h9) rfl dX6_best_33 ?_
      refine va_get (D := D) (ci := 4) (v := .int (d_t_0.1 3)) (C := RX4) (T := TX4) (N := 11) hx hb hT iX4 hown hK hP 1 rfl rfl 3 (by decide) (hT _ fw_X6_111) (fun _ h9 => h9) rfl dX6_best_36 ?_
      have g8 := ite_some hf
      refine lv_if_ne (tgt := 44) hx hb dX6_best_39 (by decide) (fun c7 => ?_) (fun c7 => ?_)
      · replace hf := g8.2 c7
        refine lv_aload_n hx hb dX6_best_44 rfl (lv_at hl 0 rfl) ?_
        refine va_get (D := D) (ci := 6) (v := .ref (q_t 6)) (C := RX6) (T := TX6) (N := 18) hx hb hT iX6 hown hK hP 0 rfl rfl 6 (by decide) (hT _ fw_X6_38) (fun _ h9 => h9) rfl dX6_best_45 ?_
        refine lv_aload_n hx hb dX6_best_48 rfl (lv_at hl 0 rfl) ?_
        refine va_get (D := D) (ci := 6) (v := .ref (q_t 1)) (C := RX6) (T := TX6) (N := 18) hx hb hT iX6 hown hK hP 0 rfl rfl 1 (by decide) (hT _ fw_X6_19) (fun _ h9 => h9) rfl dX6_best_49 ?_
        obtain ⟨r9, e10, hf⟩ := bind_some hf
        refine callVv (As := [.ref (q_t 1)]) (rest := []) M (mX0_becomeLike l D cs sk (q_t 6) (q_t 1) q_t_6 q_t_1 k d_t_6 d_t_1 e10) mw_X6_181 ln_X0_becomeLike ⟨rfl, rfl, Nat.le_of_ble_eq_true rfl, Nat.le_of_ble_eq_true rfl⟩ hP hD hS hA [13, 14, 15, 16, 17, 18, 19, 6, 7, 8, 9, 10, 11, 12] (by decide) rfl rfl (q0 := 0) rfl rfl rfl ⟨Nat.zero_le _, Nat.zero_le _⟩ hl.1 rfl (Nat.le_of_ble_eq_true rfl) dX6_best_52 (fun H locs hP hD hS => ?_)
        replace hP : va_P D vwCl [oX6 h_t q_t (d_t.1), oX4 (q_t 0) q_t_0 (d_t_0.1), ((q_t_0 1), .inl (cs 0, 6, .inl (d_t_0.2 1))), ((q_t_0 2), .inl (cs 0, 6, .inl (d_t_0.2 2))), ((q_t_0 4), .inl (cs 0, 3, .inl (d_t_0.2 4))), ((q_t_0 5), .inl (cs 0, 3, .inl (d_t_0.2 5))), oX0 (q_t 1) q_t_1 (d_t_1.1), ((q_t_1 1), .inl (cs 0, 6, .inl (d_t_1.2 1))), ((q_t_1 2), .inl (cs 0, 6, .inl (d_t_1.2 2))), ((q_t_1 3), .inl (cs 0, 6, .inl (d_t_1.2 3))), ((q_t_1 4), .inl (cs 0, 6, .inl (d_t_1.2 4))), ((q_t_1 5), .inl (cs 0, 6, .inl (d_t_1.2 5))), ((q_t_1 9), .inl (cs 0, 48, .inl (d_t_1.2 9))), oX0 (q_t 6) q_t_6 (r9.1), ((q_t_6 1), .inl (cs 0, 6, .inl (r9.2 1))), ((q_t_6 2), .inl (cs 0, 6, .inl (r9.2 2))), ((q_t_6 3), .inl (cs 0, 6, .inl (r9.2 3))), ((q_t_6 4), .inl (cs 0, 6, .inl (r9.2 4))), ((q_t_6 5), .inl (cs 0, 6, .inl (r9.2 5))), ((q_t_6 9), .inl (cs 0, 48, .inl (r9.2 9))), oX1 (q_t 8) q_t_8 (d_t_8.1), ((q_t_8 1), .inl (cs 0, 12, .inl (d_t_8.2 1))), ((q_t_8 2), .inl (cs 0, 12, .inl (d_t_8.2 2))), ((q_t_8 3), .inl (cs 0, 12, .inl (d_t_8.2 3))), oX3 (q_t 10) q_t_10 (d_t_10.1), ((q_t_10 0), .inl (cs 0, 6, .inl (d_t_10.2 0))), ((q_t_10 1), .inl (cs 0, 6, .inl (d_t_10.2 1)))] H := hP
        replace hD : va_D A [oX6 h_t q_t (d_t.1), oX4 (q_t 0) q_t_0 (d_t_0.1), ((q_t_0 1), .inl (cs 0, 6, .inl (d_t_0.2 1))), ((q_t_0 2), .inl (cs 0, 6, .inl (d_t_0.2 2))), ((q_t_0 4), .inl (cs 0, 3, .inl (d_t_0.2 4))), ((q_t_0 5), .inl (cs 0, 3, .inl (d_t_0.2 5))), oX0 (q_t 1) q_t_1 (d_t_1.1), ((q_t_1 1), .inl (cs 0, 6, .inl (d_t_1.2 1))), ((q_t_1 2), .inl (cs 0, 6, .inl (d_t_1.2 2))), ((q_t_1 3), .inl (cs 0, 6, .inl (d_t_1.2 3))), ((q_t_1 4), .inl (cs 0, 6, .inl (d_t_1.2 4))), ((q_t_1 5), .inl (cs 0, 6, .inl (d_t_1.2 5))), ((q_t_1 9), .inl (cs 0, 48, .inl (d_t_1.2 9))), oX0 (q_t 6) q_t_6 (r9.1), ((q_t_6 1), .inl (cs 0, 6, .inl (r9.2 1))), ((q_t_6 2), .inl (cs 0, 6, .inl (r9.2 2))), ((q_t_6 3), .inl (cs 0, 6, .inl (r9.2 3))), ((q_t_6 4), .inl (cs 0, 6, .inl (r9.2 4))), ((q_t_6 5), .inl (cs 0, 6, .inl (r9.2 5))), ((q_t_6 9), .inl (cs 0, 48, .inl (r9.2 9))), oX1 (q_t 8) q_t_8 (d_t_8.1), ((q_t_8 1), .inl (cs 0, 12, .inl (d_t_8.2 1))), ((q_t_8 2), .inl (cs 0, 12, .inl (d_t_8.2 2))), ((q_t_8 3), .inl (cs 0, 12, .inl (d_t_8.2 3))), oX3 (q_t 10) q_t_10 (d_t_10.1), ((q_t_10 0), .inl (cs 0, 6, .inl (d_t_10.2 0))), ((q_t_10 1), .inl (cs 0, 6, .inl (d_t_10.2 1)))] := hD
        refine lv_aload_n hx hb dX6_best_55 rfl (lv_at hl 0 rfl) ?_
        refine va_get (D := D) (ci := 6) (v := .ref (q_t 10)) (C := RX6) (T := TX6) (N := 18) hx hb hT iX6 hown hK hP 0 rfl rfl 10 (by decide) (hT _ fw_X6_61) (fun _ h9 => h9) rfl dX6_best_56 ?_
        refine lv_aload_n hx hb dX6_best_59 rfl (lv_at hl 0 rfl) ?_
        refine va_get (D := D) (ci := 6) (v := .ref (q_t 0)) (C := RX6) (T := TX6) (N := 18) hx hb hT iX6 hown hK hP 0 rfl rfl 0 (by decide) (hT _ fw_X6_10) (fun _ h9 => h9) rfl dX6_best_60 ?_
        refine lv_aload_n hx hb dX6_best_63 rfl (lv_at hl 0 rfl) ?_
        refine va_get (D := D) (ci := 6) (v := .ref (q_t 6)) (C := RX6) (T := TX6) (N := 18) hx hb hT iX6 hown hK hP 0 rfl rfl 6 (by decide) (hT _ fw_X6_38) (fun _ h9 => h9) rfl dX6_best_64 ?_
        refine lv_aload_n hx hb dX6_best_67 rfl (lv_at hl 0 rfl) ?_
        refine va_get (D := D) (ci := 6) (v := .ref (q_t 8)) (C := RX6) (T := TX6) (N := 18) hx hb hT iX6 hown hK hP 0 rfl rfl 8 (by decide) (hT _ fw_X6_47) (fun _ h9 => h9) rfl dX6_best_68 ?_
        obtain ⟨r11, e12, hf⟩ := bind_some hf
        refine callVv (As := [.ref (q_t 0), .ref (q_t 6), .ref (q_t 8)]) (rest := []) M (mX3_search l D cs sk (q_t 10) (q_t 0) (q_t 6) (q_t 8) q_t_10 q_t_0 q_t_6 q_t_8 k d_t_10 d_t_0 (r9.1, (va_up (va_up (va_up (va_up (va_up (va_up d_t_6.2 1 (r9.2 1)) 2 (r9.2 2)) 3 (r9.2 3)) 4 (r9.2 4)) 5 (r9.2 5)) 9 (r9.2 9))) d_t_8 e12) mw_X6_255 ln_X3_search ⟨rfl, rfl, Nat.le_of_ble_eq_true rfl, Nat.le_of_ble_eq_true rfl⟩ hP hD hS hA [24, 25, 26, 1, 2, 3, 4, 5, 13, 14, 15, 16, 17, 20, 21, 22, 23] (by decide) rfl rfl (q0 := 0) rfl rfl rfl ⟨Nat.zero_le _, Nat.zero_le _⟩ hl.1 rfl (Nat.le_of_ble_eq_true rfl) dX6_best_71 (fun H locs hP hD hS => ?_)
        replace hP : va_P D vwCl [oX6 h_t q_t (d_t.1), oX4 (q_t 0) q_t_0 (d_t_0.1), ((q_t_0 1), .inl (cs 0, 6, .inl (d_t_0.2 1))), ((q_t_0 2), .inl (cs 0, 6, .inl (d_t_0.2 2))), ((q_t_0 4), .inl (cs 0, 3, .inl (d_t_0.2 4))), ((q_t_0 5), .inl (cs 0, 3, .inl (d_t_0.2 5))), oX0 (q_t 1) q_t_1 (d_t_1.1), ((q_t_1 1), .inl (cs 0, 6, .inl (d_t_1.2 1))), ((q_t_1 2), .inl (cs 0, 6, .inl (d_t_1.2 2))), ((q_t_1 3), .inl (cs 0, 6, .inl (d_t_1.2 3))), ((q_t_1 4), .inl (cs 0, 6, .inl (d_t_1.2 4))), ((q_t_1 5), .inl (cs 0, 6, .inl (d_t_1.2 5))), ((q_t_1 9), .inl (cs 0, 48, .inl (d_t_1.2 9))), oX0 (q_t 6) q_t_6 (r9.1), ((q_t_6 1), .inl (cs 0, 6, .inl (r9.2 1))), ((q_t_6 2), .inl (cs 0, 6, .inl (r11.2.1.2 2))), ((q_t_6 3), .inl (cs 0, 6, .inl (r9.2 3))), ((q_t_6 4), .inl (cs 0, 6, .inl (r9.2 4))), ((q_t_6 5), .inl (cs 0, 6, .inl (r9.2 5))), ((q_t_6 9), .inl (cs 0, 48, .inl (r9.2 9))), oX1 (q_t 8) q_t_8 (r11.2.2.1), ((q_t_8 1), .inl (cs 0, 12, .inl (r11.2.2.2 1))), ((q_t_8 2), .inl (cs 0, 12, .inl (r11.2.2.2 2))), ((q_t_8 3), .inl (cs 0, 12, .inl (r11.2.2.2 3))), oX3 (q_t 10) q_t_10 (r11.1.1), ((q_t_10 0), .inl (cs 0, 6, .inl (r11.1.2 0))), ((q_t_10 1), .inl (cs 0, 6, .inl (r11.1.2 1)))] H := hP
        replace hD : va_D A [oX6 h_t q_t (d_t.1), oX4 (q_t 0) q_t_0 (d_t_0.1), ((q_t_0 1), .inl (cs 0, 6, .inl (d_t_0.2 1))), ((q_t_0 2), .inl (cs 0, 6, .inl (d_t_0.2 2))), ((q_t_0 4), .inl (cs 0, 3, .inl (d_t_0.2 4))), ((q_t_0 5), .inl (cs 0, 3, .inl (d_t_0.2 5))), oX0 (q_t 1) q_t_1 (d_t_1.1), ((q_t_1 1), .inl (cs 0, 6, .inl (d_t_1.2 1))), ((q_t_1 2), .inl (cs 0, 6, .inl (d_t_1.2 2))), ((q_t_1 3), .inl (cs 0, 6, .inl (d_t_1.2 3))), ((q_t_1 4), .inl (cs 0, 6, .inl (d_t_1.2 4))), ((q_t_1 5), .inl (cs 0, 6, .inl (d_t_1.2 5))), ((q_t_1 9), .inl (cs 0, 48, .inl (d_t_1.2 9))), oX0 (q_t 6) q_t_6 (r9.1), ((q_t_6 1), .inl (cs 0, 6, .inl (r9.2 1))), ((q_t_6 2), .inl (cs 0, 6, .inl (r11.2.1.2 2))), ((q_t_6 3), .inl (cs 0, 6, .inl (r9.2 3))), ((q_t_6 4), .inl (cs 0, 6, .inl (r9.2 4))), ((q_t_6 5), .inl (cs 0, 6, .inl (r9.2 5))), ((q_t_6 9), .inl (cs 0, 48, .inl (r9.2 9))), oX1 (q_t 8) q_t_8 (r11.2.2.1), ((q_t_8 1), .inl (cs 0, 12, .inl (r11.2.2.2 1))), ((q_t_8 2), .inl (cs 0, 12, .inl (r11.2.2.2 2))), ((q_t_8 3), .inl (cs 0, 12, .inl (r11.2.2.2 3))), oX3 (q_t 10) q_t_10 (r11.1.1), ((q_t_10 0), .inl (cs 0, 6, .inl (r11.1.2 0))), ((q_t_10 1), .inl (cs 0, 6, .inl (r11.1.2 1)))] := hD
        refine lv_aload_n hx hb dX6_best_74 rfl (lv_at hl 0 rfl) ?_
        refine va_get (D := D) (ci := 6) (v := .ref (q_t 10)) (C := RX6) (T := TX6) (N := 18) hx hb hT iX6 hown hK hP 0 rfl rfl 10 (by decide) (hT _ fw_X6_61) (fun _ h9 => h9) rfl dX6_best_75 ?_
        refine va_get (D := D) (ci := 3) (v := .ref (q_t_10 0)) (C := RX3) (T := TX3) (N := 4) hx hb hT iX3 hown hK hP 24 rfl rfl 0 (by decide) (hT _ fw_X6_259) (fun _ h9 => h9) rfl dX6_best_78 ?_
        refine lv_iload_n hx hb dX6_best_81 rfl (lv_at hl 1 rfl) ?_
        obtain ⟨hi, hf⟩ := chk_some hf
        refine va_iald (D := D) hx hb hK hP 25 0 rfl rfl hi dX6_best_82 ?_
        have e9 := Option.some.inj hf
        subst e9
        exact hR _ _ _ _ dX6_best_83 hP hS
      · replace hf := g8.1 c7
        refine lv_iconst (v := (-1)) hx hb dX6_best_42 rfl ?_
        have e9 := Option.some.inj hf
        subst e9
        exact hR _ _ _ _ dX6_best_43 hP hS
  · replace hf := g4.1 c3
    refine lv_aload_n hx hb dX6_best_8 rfl (lv_at hl 0 rfl) ?_
    refine lv_bipush (v := (-2)) hx hb dX6_best_9 rfl ?_
    obtain ⟨r13, e14, hf⟩ := bind_some hf
    refine callVi (As := [.int (-2)]) (rest := []) M (mX6_refuseBad l D cs sk h_t q_t k d_t (-2) e14) mw_X6_96 ln_X6_refuseBad ⟨rfl, rfl, Nat.le_of_ble_eq_true rfl, Nat.le_of_ble_eq_true rfl⟩ hP hD hS hA [0] (by decide) rfl rfl (q0 := 0) rfl rfl rfl ⟨Nat.zero_le _, Nat.zero_le _⟩ hl.1 rfl (Nat.le_of_ble_eq_true rfl) dX6_best_11 (fun H locs hP hD hS => ?_)
    replace hP : va_P D vwCl [oX6 h_t q_t (r13.2.1), oX4 (q_t 0) q_t_0 (d_t_0.1), ((q_t_0 1), .inl (cs 0, 6, .inl (d_t_0.2 1))), ((q_t_0 2), .inl (cs 0, 6, .inl (d_t_0.2 2))), ((q_t_0 4), .inl (cs 0, 3, .inl (d_t_0.2 4))), ((q_t_0 5), .inl (cs 0, 3, .inl (d_t_0.2 5))), oX0 (q_t 1) q_t_1 (d_t_1.1), ((q_t_1 1), .inl (cs 0, 6, .inl (d_t_1.2 1))), ((q_t_1 2), .inl (cs 0, 6, .inl (d_t_1.2 2))), ((q_t_1 3), .inl (cs 0, 6, .inl (d_t_1.2 3))), ((q_t_1 4), .inl (cs 0, 6, .inl (d_t_1.2 4))), ((q_t_1 5), .inl (cs 0, 6, .inl (d_t_1.2 5))), ((q_t_1 9), .inl (cs 0, 48, .inl (d_t_1.2 9))), oX0 (q_t 6) q_t_6 (d_t_6.1), ((q_t_6 1), .inl (cs 0, 6, .inl (d_t_6.2 1))), ((q_t_6 2), .inl (cs 0, 6, .inl (d_t_6.2 2))), ((q_t_6 3), .inl (cs 0, 6, .inl (d_t_6.2 3))), ((q_t_6 4), .inl (cs 0, 6, .inl (d_t_6.2 4))), ((q_t_6 5), .inl (cs 0, 6, .inl (d_t_6.2 5))), ((q_t_6 9), .inl (cs 0, 48, .inl (d_t_6.2 9))), oX1 (q_t 8) q_t_8 (d_t_8.1), ((q_t_8 1), .inl (cs 0, 12, .inl (d_t_8.2 1))), ((q_t_8 2), .inl (cs 0, 12, .inl (d_t_8.2 2))), ((q_t_8 3), .inl (cs 0, 12, .inl (d_t_8.2 3))), oX3 (q_t 10) q_t_10 (d_t_10.1), ((q_t_10 0), .inl (cs 0, 6, .inl (d_t_10.2 0))), ((q_t_10 1), .inl (cs 0, 6, .inl (d_t_10.2 1)))] H := hP
    replace hD : va_D A [oX6 h_t q_t (r13.2.1), oX4 (q_t 0) q_t_0 (d_t_0.1), ((q_t_0 1), .inl (cs 0, 6, .inl (d_t_0.2 1))), ((q_t_0 2), .inl (cs 0, 6, .inl (d_t_0.2 2))), ((q_t_0 4), .inl (cs 0, 3, .inl (d_t_0.2 4))), ((q_t_0 5), .inl (cs 0, 3, .inl (d_t_0.2 5))), oX0 (q_t 1) q_t_1 (d_t_1.1), ((q_t_1 1), .inl (cs 0, 6, .inl (d_t_1.2 1))), ((q_t_1 2), .inl (cs 0, 6, .inl (d_t_1.2 2))), ((q_t_1 3), .inl (cs 0, 6, .inl (d_t_1.2 3))), ((q_t_1 4), .inl (cs 0, 6, .inl (d_t_1.2 4))), ((q_t_1 5), .inl (cs 0, 6, .inl (d_t_1.2 5))), ((q_t_1 9), .inl (cs 0, 48, .inl (d_t_1.2 9))), oX0 (q_t 6) q_t_6 (d_t_6.1), ((q_t_6 1), .inl (cs 0, 6, .inl (d_t_6.2 1))), ((q_t_6 2), .inl (cs 0, 6, .inl (d_t_6.2 2))), ((q_t_6 3), .inl (cs 0, 6, .inl (d_t_6.2 3))), ((q_t_6 4), .inl (cs 0, 6, .inl (d_t_6.2 4))), ((q_t_6 5), .inl (cs 0, 6, .inl (d_t_6.2 5))), ((q_t_6 9), .inl (cs 0, 48, .inl (d_t_6.2 9))), oX1 (q_t 8) q_t_8 (d_t_8.1), ((q_t_8 1), .inl (cs 0, 12, .inl (d_t_8.2 1))), ((q_t_8 2), .inl (cs 0, 12, .inl (d_t_8.2 2))), ((q_t_8 3), .inl (cs 0, 12, .inl (d_t_8.2 3))), oX3 (q_t 10) q_t_10 (d_t_10.1), ((q_t_10 0), .inl (cs 0, 6, .inl (d_t_10.2 0))), ((q_t_10 1), .inl (cs 0, 6, .inl (d_t_10.2 1)))] := hD
    have e9 := Option.some.inj hf
    subst e9
    exact hR _ _ _ _ dX6_best_14 hP hS
abbrev rm_X6_wrong : Room := { frames := 4, cells := 0, slots := 0, locals := 96 }
def fX6_wrong_B82 (k : Nat) (x1 : Int32) (d_t : Dat) (d_t_0 : Dat) (K126 : Int32 → Option (Int32 × Dat)) (rec : Int32 × Int32 → Option (Int32 × Dat)) (v : Int32 × Int32) : Option (Int32 × Dat) :=
  (if (d_t_0.1 0) ≤ (v.2) then K126 (v.1) else (fX4_mayComeFrom k d_t_0 3 (d_t.2 14) (v.2) x1).bind (fun (r3 : Int32) => (if r3 = 0 then rec ((v.1), ((v.2) + 1)) else rec (((v.1) ||| (1 <<< ((v.2) &&& 31))), ((v.2) + 1)))))
def fX6_wrong (k : Nat) (d_t : Dat) (d_t_0 : Dat) (x1 : Int32) (x2 : Int32) (x3 : Int32) (x4 : Int32) : Option (Int32 × Dat) :=
  (if x1 < 1 then (fX6_refuseBad k d_t (-2)).bind (fun (r3 : Int32 × Dat) => some ((r3.1), (r3.2.1, d_t.2))) else (if x1 < (1 <<< ((d_t_0.1 3) &&& 31)) then (fX6_isTime k x2).bind (fun (r7 : Int32) => (if r7 = 0 then (fX6_refuseBad k d_t (-2)).bind (fun (r11 : Int32 × Dat) => some ((r11.1), (r11.2.1, d_t.2))) else (fX6_isTime k x3).bind (fun (r13 : Int32) => (if r13 = 0 then (fX6_refuseBad k d_t (-2)).bind (fun (r17 : Int32 × Dat) => some ((r17.1), (r17.2.1, d_t.2))) else (fX6_isTime k x4).bind (fun (r19 : Int32) => (if r19 = 0 then (fX6_refuseBad k d_t (-2)).bind (fun (r26 : Int32 × Dat) => some ((r26.1), (r26.2.1, d_t.2))) else chk 3 0 (chk 3 1 (chk 3 2 (lp (fX6_wrong_B82 k x1 (d_t.1, (va_up d_t.2 14 (upd (upd (upd (d_t.2 14) (0 : Int32).toNatClampNeg x2) (1 : Int32).toNatClampNeg x3) (2 : Int32).toNatClampNeg x4))) d_t_0 (fun (w23 : Int32) => (if w23 = 0 then some ((-1), (d_t.1, (va_up d_t.2 14 (upd (upd (upd (d_t.2 14) (0 : Int32).toNatClampNeg x2) (1 : Int32).toNatClampNeg x3) (2 : Int32).toNatClampNeg x4)))) else some (w23, (d_t.1, (va_up d_t.2 14 (upd (upd (upd (d_t.2 14) (0 : Int32).toNatClampNeg x2) (1 : Int32).toNatClampNeg x3) (2 : Int32).toNatClampNeg x4))))))) k (0, 0)))))))))) else (fX6_refuseBad k d_t (-2)).bind (fun (r28 : Int32 × Dat) => some ((r28.1), (r28.2.1, d_t.2)))))
set_option maxHeartbeats 4000000 in
set_option maxRecDepth 100000 in
theorem mX6_wrong_B82 {l : Launch} {p : Program} {e : Env} {s : State} {m : MethodId} {args : Array Value} {below : List Frame} {meth : Method} {c : Code} {D : va_G} {cs : Nat → ClassId} {sk : Nat → Nat} {A : Nat → Prop} {Q : State → Prop} (h_t : Nat) (q_t : Nat → Nat) (q_t_0 : Nat → Nat) (k : Nat) (x1 : Int32) (d_t : Dat) (d_t_0 : Dat) {rv : Int32 × Dat}  (K126 : Int32 → Option (Int32 × Dat))
    (M : MC p s m args meth c D cs sk A RX6 cX6_wrong 7 (some .int)) (hA : ∀ q, s.heap.size ≤ q → A q) (hR : RetI p l e rm_X6_wrong s m args below meth c D cX6_wrong A Q (rv.1) [oX6 h_t q_t (rv.2.1), oX4 (q_t 0) q_t_0 (d_t_0.1), ((q_t_0 1), .inl (cs 0, 6, .inl (d_t_0.2 1))), ((q_t_0 2), .inl (cs 0, 6, .inl (d_t_0.2 2))), ((q_t_0 4), .inl (cs 0, 3, .inl (d_t_0.2 4))), ((q_t_0 5), .inl (cs 0, 3, .inl (d_t_0.2 5))), ((q_t 14), .inl (cs 0, 3, .inl (rv.2.2 14)))])
    (hK126 : ∀ (w : Int32), K126 w = some rv → ∀ (H : Heap) (locs : List Loc) (ls : Array Slot), va_P D vwCl [oX6 h_t q_t (d_t.1), oX4 (q_t 0) q_t_0 (d_t_0.1), ((q_t_0 1), .inl (cs 0, 6, .inl (d_t_0.2 1))), ((q_t_0 2), .inl (cs 0, 6, .inl (d_t_0.2 2))), ((q_t_0 4), .inl (cs 0, 3, .inl (d_t_0.2 4))), ((q_t_0 5), .inl (cs 0, 3, .inl (d_t_0.2 5))), ((q_t 14), .inl (cs 0, 3, .inl (d_t.2 14)))] H → va_D A [oX6 h_t q_t (d_t.1), oX4 (q_t 0) q_t_0 (d_t_0.1), ((q_t_0 1), .inl (cs 0, 6, .inl (d_t_0.2 1))), ((q_t_0 2), .inl (cs 0, 6, .inl (d_t_0.2 2))), ((q_t_0 4), .inl (cs 0, 3, .inl (d_t_0.2 4))), ((q_t_0 5), .inl (cs 0, 3, .inl (d_t_0.2 5))), ((q_t 14), .inl (cs 0, 3, .inl (d_t.2 14)))] → va_S A s.heap H locs → lv_has ls 7 [(5, .int w)] → W p l e rm_X6_wrong s m args below meth c H locs 0 0 Q (F0 m 126 ls []))
    : ∀ (n : Nat) (v : Int32 × Int32), lp (fX6_wrong_B82 k x1 d_t d_t_0 K126) n v = some rv → ∀ (H : Heap) (locs : List Loc) (ls : Array Slot), va_P D vwCl [oX6 h_t q_t (d_t.1), oX4 (q_t 0) q_t_0 (d_t_0.1), ((q_t_0 1), .inl (cs 0, 6, .inl (d_t_0.2 1))), ((q_t_0 2), .inl (cs 0, 6, .inl (d_t_0.2 2))), ((q_t_0 4), .inl (cs 0, 3, .inl (d_t_0.2 4))), ((q_t_0 5), .inl (cs 0, 3, .inl (d_t_0.2 5))), ((q_t 14), .inl (cs 0, 3, .inl (d_t.2 14)))] H → va_D A [oX6 h_t q_t (d_t.1), oX4 (q_t 0) q_t_0 (d_t_0.1), ((q_t_0 1), .inl (cs 0, 6, .inl (d_t_0.2 1))), ((q_t_0 2), .inl (cs 0, 6, .inl (d_t_0.2 2))), ((q_t_0 4), .inl (cs 0, 3, .inl (d_t_0.2 4))), ((q_t_0 5), .inl (cs 0, 3, .inl (d_t_0.2 5))), ((q_t 14), .inl (cs 0, 3, .inl (d_t.2 14)))] → va_S A s.heap H locs → lv_has ls 7 [(0, .ref h_t), (1, .int x1), (5, .int (v.1)), (6, .int (v.2))] → W p l e rm_X6_wrong s m args below meth c H locs 0 0 Q (F0 m 82 ls []) := by
  obtain ⟨hx, hb, hml, hT, hown, hlk, hrt, hK, hN, hSE⟩ := id M
  refine lp_ind (fun rec ih v hf H locs ls hP hD hS hl => ?_)
  unfold fX6_wrong_B82 at hf
  refine lv_iload hx hb dX6_wrong_82 (lv_at hl 3 rfl) ?_
  refine lv_aload_n hx hb dX6_wrong_84 rfl (lv_at hl 0 rfl) ?_
  refine va_get (D := D) (ci := 6) (v := .ref (q_t 0)) (C := RX6) (T := TX6) (N := 18) hx hb hT iX6 hown hK hP 0 rfl rfl 0 (by decide) (hT _ fw_X6_10) (fun _ h9 => h9) rfl dX6_wrong_85 ?_
  refine va_get (D := D) (ci := 4) (v := .int (d_t_0.1 0)) (C := RX4) (T := TX4) (N := 11) hx hb hT iX4 hown hK hP 1 rfl rfl 0 (by decide) (hT _ fw_X6_100) (fun _ h9 => h9) rfl dX6_wrong_88 ?_
  have g2 := ite_some hf
  refine lv_icmp_ge (tgt := 126) hx hb dX6_wrong_91 (by decide) (fun c1 => ?_) (fun c1 => ?_)
  · replace hf := g2.1 c1
    exact hK126 _ hf _ _ _ hP hD hS (lv_sub hl [2] rfl)
  · replace hf := g2.2 c1
    refine lv_aload_n hx hb dX6_wrong_94 rfl (lv_at hl 0 rfl) ?_
    refine va_get (D := D) (ci := 6) (v := .ref (q_t 0)) (C := RX6) (T := TX6) (N := 18) hx hb hT iX6 hown hK hP 0 rfl rfl 0 (by decide) (hT _ fw_X6_10) (fun _ h9 => h9) rfl dX6_wrong_95 ?_
    refine lv_iload hx hb dX6_wrong_98 (lv_at hl 3 rfl) ?_
    refine lv_iload_n hx hb dX6_wrong_100 rfl (lv_at hl 1 rfl) ?_
    refine lv_aload_n hx hb dX6_wrong_101 rfl (lv_at hl 0 rfl) ?_
    refine va_get (D := D) (ci := 6) (v := .ref (q_t 14)) (C := RX6) (T := TX6) (N := 18) hx hb hT iX6 hown hK hP 0 rfl rfl 14 (by decide) (hT _ fw_X6_80) (fun _ h9 => h9) rfl dX6_wrong_102 ?_
    obtain ⟨r3, e4, hf⟩ := bind_some hf
    refine callVi (As := [.int (v.2), .int x1, .ref (q_t 14)]) (rest := []) M (mX4_mayComeFrom l D cs sk (q_t 0) (q_t 14) q_t_0 k d_t_0 3 (d_t.2 14) (v.2) x1 e4) mw_X6_262 ln_X4_mayComeFrom ⟨rfl, rfl, Nat.le_of_ble_eq_true rfl, Nat.le_of_ble_eq_true rfl⟩ hP hD hS hA [1, 2, 3, 4, 5, 6] (by decide) rfl rfl (q0 := 0) rfl rfl rfl ⟨Nat.zero_le _, Nat.zero_le _⟩ hl.1 rfl (Nat.le_of_ble_eq_true rfl) dX6_wrong_105 (fun H locs hP hD hS => ?_)
    replace hP : va_P D vwCl [oX6 h_t q_t (d_t.1), oX4 (q_t 0) q_t_0 (d_t_0.1), ((q_t_0 1), .inl (cs 0, 6, .inl (d_t_0.2 1))), ((q_t_0 2), .inl (cs 0, 6, .inl (d_t_0.2 2))), ((q_t_0 4), .inl (cs 0, 3, .inl (d_t_0.2 4))), ((q_t_0 5), .inl (cs 0, 3, .inl (d_t_0.2 5))), ((q_t 14), .inl (cs 0, 3, .inl (d_t.2 14)))] H := hP
    replace hD : va_D A [oX6 h_t q_t (d_t.1), oX4 (q_t 0) q_t_0 (d_t_0.1), ((q_t_0 1), .inl (cs 0, 6, .inl (d_t_0.2 1))), ((q_t_0 2), .inl (cs 0, 6, .inl (d_t_0.2 2))), ((q_t_0 4), .inl (cs 0, 3, .inl (d_t_0.2 4))), ((q_t_0 5), .inl (cs 0, 3, .inl (d_t_0.2 5))), ((q_t 14), .inl (cs 0, 3, .inl (d_t.2 14)))] := hD
    have g6 := ite_some hf
    refine lv_if_eq (tgt := 120) hx hb dX6_wrong_108 (by decide) (fun c5 => ?_) (fun c5 => ?_)
    · replace hf := g6.1 c5
      refine lv_iinc (v := ((v.2) + 1)) (lv' := [(6, .int ((v.2) + 1)), (0, .ref h_t), (1, .int x1), (5, .int (v.1))]) hx hb dX6_wrong_120 hl (k := 3) rfl rfl (by decide) rfl (fun ls hl => ?_)
      refine lv_goto (tgt := 82) hx hb dX6_wrong_123 (by decide) ?_
      exact ih _ hf _ _ _ hP hD hS (lv_sub hl [1, 2, 3, 0] rfl)
    · replace hf := g6.2 c5
      refine lv_iload hx hb dX6_wrong_111 (lv_at hl 2 rfl) ?_
      refine lv_iconst (v := 1) hx hb dX6_wrong_113 rfl ?_
      refine lv_iload hx hb dX6_wrong_114 (lv_at hl 3 rfl) ?_
      refine lv_ishl hx hb dX6_wrong_116 ?_
      refine lv_ior hx hb dX6_wrong_117 ?_
      refine lv_istore (lv' := [(5, .int ((v.1) ||| (1 <<< ((v.2) &&& 31)))), (0, .ref h_t), (1, .int x1), (6, .int (v.2))]) hx hb dX6_wrong_118 hl (by decide) rfl (fun ls hl => ?_)
      refine lv_iinc (v := ((v.2) + 1)) (lv' := [(6, .int ((v.2) + 1)), (5, .int ((v.1) ||| (1 <<< ((v.2) &&& 31)))), (0, .ref h_t), (1, .int x1)]) hx hb dX6_wrong_120 hl (k := 3) rfl rfl (by decide) rfl (fun ls hl => ?_)
      refine lv_goto (tgt := 82) hx hb dX6_wrong_123 (by decide) ?_
      exact ih _ hf _ _ _ hP hD hS (lv_sub hl [2, 3, 1, 0] rfl)
set_option maxHeartbeats 4000000 in
set_option maxRecDepth 100000 in
theorem mX6_wrong (l : Launch) (D : va_G) (cs : Nat → ClassId) (sk : Nat → Nat) (h_t : Nat) (q_t : Nat → Nat) (q_t_0 : Nat → Nat) (k : Nat) (d_t : Dat) (d_t_0 : Dat) (x1 : Int32) (x2 : Int32) (x3 : Int32) (x4 : Int32) {rv : Int32 × Dat} (hf : fX6_wrong k d_t d_t_0 x1 x2 x3 x4 = some rv) : CTi l yX6_wrong (Cond.code yX6_wrong cX6_wrong 7 (some .int) :: gtbl) rm_X6_wrong D cs sk [.ref h_t, .int x1, .int x2, .int x3, .int x4] [oX6 h_t q_t (d_t.1), oX4 (q_t 0) q_t_0 (d_t_0.1), ((q_t_0 1), .inl (cs 0, 6, .inl (d_t_0.2 1))), ((q_t_0 2), .inl (cs 0, 6, .inl (d_t_0.2 2))), ((q_t_0 4), .inl (cs 0, 3, .inl (d_t_0.2 4))), ((q_t_0 5), .inl (cs 0, 3, .inl (d_t_0.2 5))), ((q_t 14), .inl (cs 0, 3, .inl (d_t.2 14)))] (rv.1) [oX6 h_t q_t (rv.2.1), oX4 (q_t 0) q_t_0 (d_t_0.1), ((q_t_0 1), .inl (cs 0, 6, .inl (d_t_0.2 1))), ((q_t_0 2), .inl (cs 0, 6, .inl (d_t_0.2 2))), ((q_t_0 4), .inl (cs 0, 3, .inl (d_t_0.2 4))), ((q_t_0 5), .inl (cs 0, 3, .inl (d_t_0.2 5))), ((q_t 14), .inl (cs 0, 3, .inl (rv.2.2 14)))] := by
  refine CTi.of RX6 (by decide +kernel) rfl (Nat.le_of_ble_eq_true rfl) (fun p e s m args below meth c A Q ls M hA hR hl hP hD hS => ?_)
  obtain ⟨hx, hb, hml, hT, hown, hlk, hrt, hK, hN, hSE⟩ := id M
  replace hl : lv_has ls 7 [(0, .ref h_t), (1, .int x1), (2, .int x2), (3, .int x3), (4, .int x4)] := hl
  unfold fX6_wrong at hf
  refine lv_iload_n hx hb dX6_wrong_0 rfl (lv_at hl 1 rfl) ?_
  refine lv_iconst (v := 1) hx hb dX6_wrong_1 rfl ?_
  have g2 := ite_some hf
  refine lv_icmp_lt (tgt := 18) hx hb dX6_wrong_2 (by decide) (fun c1 => ?_) (fun c1 => ?_)
  · replace hf := g2.1 c1
    refine lv_aload_n hx hb dX6_wrong_18 rfl (lv_at hl 0 rfl) ?_
    refine lv_bipush (v := (-2)) hx hb dX6_wrong_19 rfl ?_
    obtain ⟨r3, e4, hf⟩ := bind_some hf
    refine callVi (As := [.int (-2)]) (rest := []) M (mX6_refuseBad l D cs sk h_t q_t k d_t (-2) e4) mw_X6_96 ln_X6_refuseBad ⟨rfl, rfl, Nat.le_of_ble_eq_true rfl, Nat.le_of_ble_eq_true rfl⟩ hP hD hS hA [0] (by decide) rfl rfl (q0 := 0) rfl rfl rfl ⟨Nat.zero_le _, Nat.zero_le _⟩ hl.1 rfl (Nat.le_of_ble_eq_true rfl) dX6_wrong_21 (fun H locs hP hD hS => ?_)
    replace hP : va_P D vwCl [oX6 h_t q_t (r3.2.1), oX4 (q_t 0) q_t_0 (d_t_0.1), ((q_t_0 1), .inl (cs 0, 6, .inl (d_t_0.2 1))), ((q_t_0 2), .inl (cs 0, 6, .inl (d_t_0.2 2))), ((q_t_0 4), .inl (cs 0, 3, .inl (d_t_0.2 4))), ((q_t_0 5), .inl (cs 0, 3, .inl (d_t_0.2 5))), ((q_t 14), .inl (cs 0, 3, .inl (d_t.2 14)))] H := hP
    replace hD : va_D A [oX6 h_t q_t (r3.2.1), oX4 (q_t 0) q_t_0 (d_t_0.1), ((q_t_0 1), .inl (cs 0, 6, .inl (d_t_0.2 1))), ((q_t_0 2), .inl (cs 0, 6, .inl (d_t_0.2 2))), ((q_t_0 4), .inl (cs 0, 3, .inl (d_t_0.2 4))), ((q_t_0 5), .inl (cs 0, 3, .inl (d_t_0.2 5))), ((q_t 14), .inl (cs 0, 3, .inl (d_t.2 14)))] := hD
    have e9 := Option.some.inj hf
    subst e9
    exact hR _ _ _ _ dX6_wrong_24 hP hS
  · replace hf := g2.2 c1
    refine lv_iload_n hx hb dX6_wrong_5 rfl (lv_at hl 1 rfl) ?_
    refine lv_iconst (v := 1) hx hb dX6_wrong_6 rfl ?_
    refine lv_aload_n hx hb dX6_wrong_7 rfl (lv_at hl 0 rfl) ?_
    refine va_get (D := D) (ci := 6) (v := .ref (q_t 0)) (C := RX6) (T := TX6) (N := 18) hx hb hT iX6 hown hK hP 0 rfl rfl 0 (by decide) (hT _ fw_X6_10) (fun _ h9 => h9) rfl dX6_wrong_8 ?_
    refine va_get (D := D) (ci := 4) (v := .int (d_t_0.1 3)) (C := RX4) (T := TX4) (N := 11) hx hb hT iX4 hown hK hP 1 rfl rfl 3 (by decide) (hT _ fw_X6_111) (fun _ h9 => h9) rfl dX6_wrong_11 ?_
    refine lv_ishl hx hb dX6_wrong_14 ?_
    have g6 := ite_some hf
    refine lv_icmp_lt (tgt := 25) hx hb dX6_wrong_15 (by decide) (fun c5 => ?_) (fun c5 => ?_)
    · replace hf := g6.1 c5
      refine lv_iload_n hx hb dX6_wrong_25 rfl (lv_at hl 2 rfl) ?_
      obtain ⟨r7, e8, hf⟩ := bind_some hf
      refine callSi (As := [.int x2]) (rest := []) M (mX6_isTime l D cs sk  k x2 e8) mw_X6_184 ln_X6_isTime ⟨rfl, rfl, Nat.le_of_ble_eq_true rfl, Nat.le_of_ble_eq_true rfl⟩ hP hD hS hA [] (by decide) rfl rfl ⟨Nat.zero_le _, Nat.zero_le _⟩ hl.1 rfl (Nat.le_of_ble_eq_true rfl) dX6_wrong_26 (fun H locs hP hD hS => ?_)
      replace hP : va_P D vwCl [oX6 h_t q_t (d_t.1), oX4 (q_t 0) q_t_0 (d_t_0.1), ((q_t_0 1), .inl (cs 0, 6, .inl (d_t_0.2 1))), ((q_t_0 2), .inl (cs 0, 6, .inl (d_t_0.2 2))), ((q_t_0 4), .inl (cs 0, 3, .inl (d_t_0.2 4))), ((q_t_0 5), .inl (cs 0, 3, .inl (d_t_0.2 5))), ((q_t 14), .inl (cs 0, 3, .inl (d_t.2 14)))] H := hP
      replace hD : va_D A [oX6 h_t q_t (d_t.1), oX4 (q_t 0) q_t_0 (d_t_0.1), ((q_t_0 1), .inl (cs 0, 6, .inl (d_t_0.2 1))), ((q_t_0 2), .inl (cs 0, 6, .inl (d_t_0.2 2))), ((q_t_0 4), .inl (cs 0, 3, .inl (d_t_0.2 4))), ((q_t_0 5), .inl (cs 0, 3, .inl (d_t_0.2 5))), ((q_t 14), .inl (cs 0, 3, .inl (d_t.2 14)))] := hD
      have g10 := ite_some hf
      refine lv_if_eq (tgt := 47) hx hb dX6_wrong_29 (by decide) (fun c9 => ?_) (fun c9 => ?_)
      · replace hf := g10.1 c9
        refine lv_aload_n hx hb dX6_wrong_47 rfl (lv_at hl 0 rfl) ?_
        refine lv_bipush (v := (-2)) hx hb dX6_wrong_48 rfl ?_
        obtain ⟨r11, e12, hf⟩ := bind_some hf
        refine callVi (As := [.int (-2)]) (rest := []) M (mX6_refuseBad l D cs sk h_t q_t k d_t (-2) e12) mw_X6_96 ln_X6_refuseBad ⟨rfl, rfl, Nat.le_of_ble_eq_true rfl, Nat.le_of_ble_eq_true rfl⟩ hP hD hS hA [0] (by decide) rfl rfl (q0 := 0) rfl rfl rfl ⟨Nat.zero_le _, Nat.zero_le _⟩ hl.1 rfl (Nat.le_of_ble_eq_true rfl) dX6_wrong_50 (fun H locs hP hD hS => ?_)
        replace hP : va_P D vwCl [oX6 h_t q_t (r11.2.1), oX4 (q_t 0) q_t_0 (d_t_0.1), ((q_t_0 1), .inl (cs 0, 6, .inl (d_t_0.2 1))), ((q_t_0 2), .inl (cs 0, 6, .inl (d_t_0.2 2))), ((q_t_0 4), .inl (cs 0, 3, .inl (d_t_0.2 4))), ((q_t_0 5), .inl (cs 0, 3, .inl (d_t_0.2 5))), ((q_t 14), .inl (cs 0, 3, .inl (d_t.2 14)))] H := hP
        replace hD : va_D A [oX6 h_t q_t (r11.2.1), oX4 (q_t 0) q_t_0 (d_t_0.1), ((q_t_0 1), .inl (cs 0, 6, .inl (d_t_0.2 1))), ((q_t_0 2), .inl (cs 0, 6, .inl (d_t_0.2 2))), ((q_t_0 4), .inl (cs 0, 3, .inl (d_t_0.2 4))), ((q_t_0 5), .inl (cs 0, 3, .inl (d_t_0.2 5))), ((q_t 14), .inl (cs 0, 3, .inl (d_t.2 14)))] := hD
        have e9 := Option.some.inj hf
        subst e9
        exact hR _ _ _ _ dX6_wrong_53 hP hS
      · replace hf := g10.2 c9
        refine lv_iload_n hx hb dX6_wrong_32 rfl (lv_at hl 3 rfl) ?_
        obtain ⟨r13, e14, hf⟩ := bind_some hf
        refine callSi (As := [.int x3]) (rest := []) M (mX6_isTime l D cs sk  k x3 e14) mw_X6_184 ln_X6_isTime ⟨rfl, rfl, Nat.le_of_ble_eq_true rfl, Nat.le_of_ble_eq_true rfl⟩ hP hD hS hA [] (by decide) rfl rfl ⟨Nat.zero_le _, Nat.zero_le _⟩ hl.1 rfl (Nat.le_of_ble_eq_true rfl) dX6_wrong_33 (fun H locs hP hD hS => ?_)
        replace hP : va_P D vwCl [oX6 h_t q_t (d_t.1), oX4 (q_t 0) q_t_0 (d_t_0.1), ((q_t_0 1), .inl (cs 0, 6, .inl (d_t_0.2 1))), ((q_t_0 2), .inl (cs 0, 6, .inl (d_t_0.2 2))), ((q_t_0 4), .inl (cs 0, 3, .inl (d_t_0.2 4))), ((q_t_0 5), .inl (cs 0, 3, .inl (d_t_0.2 5))), ((q_t 14), .inl (cs 0, 3, .inl (d_t.2 14)))] H := hP
        replace hD : va_D A [oX6 h_t q_t (d_t.1), oX4 (q_t 0) q_t_0 (d_t_0.1), ((q_t_0 1), .inl (cs 0, 6, .inl (d_t_0.2 1))), ((q_t_0 2), .inl (cs 0, 6, .inl (d_t_0.2 2))), ((q_t_0 4), .inl (cs 0, 3, .inl (d_t_0.2 4))), ((q_t_0 5), .inl (cs 0, 3, .inl (d_t_0.2 5))), ((q_t 14), .inl (cs 0, 3, .inl (d_t.2 14)))] := hD
        have g16 := ite_some hf
        refine lv_if_eq (tgt := 47) hx hb dX6_wrong_36 (by decide) (fun c15 => ?_) (fun c15 => ?_)
        · replace hf := g16.1 c15
          refine lv_aload_n hx hb dX6_wrong_47 rfl (lv_at hl 0 rfl) ?_
          refine lv_bipush (v := (-2)) hx hb dX6_wrong_48 rfl ?_
          obtain ⟨r17, e18, hf⟩ := bind_some hf
          refine callVi (As := [.int (-2)]) (rest := []) M (mX6_refuseBad l D cs sk h_t q_t k d_t (-2) e18) mw_X6_96 ln_X6_refuseBad ⟨rfl, rfl, Nat.le_of_ble_eq_true rfl, Nat.le_of_ble_eq_true rfl⟩ hP hD hS hA [0] (by decide) rfl rfl (q0 := 0) rfl rfl rfl ⟨Nat.zero_le _, Nat.zero_le _⟩ hl.1 rfl (Nat.le_of_ble_eq_true rfl) dX6_wrong_50 (fun H locs hP hD hS => ?_)
          replace hP : va_P D vwCl [oX6 h_t q_t (r17.2.1), oX4 (q_t 0) q_t_0 (d_t_0.1), ((q_t_0 1), .inl (cs 0, 6, .inl (d_t_0.2 1))), ((q_t_0 2), .inl (cs 0, 6, .inl (d_t_0.2 2))), ((q_t_0 4), .inl (cs 0, 3, .inl (d_t_0.2 4))), ((q_t_0 5), .inl (cs 0, 3, .inl (d_t_0.2 5))), ((q_t 14), .inl (cs 0, 3, .inl (d_t.2 14)))] H := hP
          replace hD : va_D A [oX6 h_t q_t (r17.2.1), oX4 (q_t 0) q_t_0 (d_t_0.1), ((q_t_0 1), .inl (cs 0, 6, .inl (d_t_0.2 1))), ((q_t_0 2), .inl (cs 0, 6, .inl (d_t_0.2 2))), ((q_t_0 4), .inl (cs 0, 3, .inl (d_t_0.2 4))), ((q_t_0 5), .inl (cs 0, 3, .inl (d_t_0.2 5))), ((q_t 14), .inl (cs 0, 3, .inl (d_t.2 14)))] := hD
          have e9 := Option.some.inj hf
          subst e9
          exact hR _ _ _ _ dX6_wrong_53 hP hS
        · replace hf := g16.2 c15
          refine lv_iload hx hb dX6_wrong_39 (lv_at hl 4 rfl) ?_
          obtain ⟨r19, e20, hf⟩ := bind_some hf
          refine callSi (As := [.int x4]) (rest := []) M (mX6_isTime l D cs sk  k x4 e20) mw_X6_184 ln_X6_isTime ⟨rfl, rfl, Nat.le_of_ble_eq_true rfl, Nat.le_of_ble_eq_true rfl⟩ hP hD hS hA [] (by decide) rfl rfl ⟨Nat.zero_le _, Nat.zero_le _⟩ hl.1 rfl (Nat.le_of_ble_eq_true rfl) dX6_wrong_41 (fun H locs hP hD hS => ?_)
          replace hP : va_P D vwCl [oX6 h_t q_t (d_t.1), oX4 (q_t 0) q_t_0 (d_t_0.1), ((q_t_0 1), .inl (cs 0, 6, .inl (d_t_0.2 1))), ((q_t_0 2), .inl (cs 0, 6, .inl (d_t_0.2 2))), ((q_t_0 4), .inl (cs 0, 3, .inl (d_t_0.2 4))), ((q_t_0 5), .inl (cs 0, 3, .inl (d_t_0.2 5))), ((q_t 14), .inl (cs 0, 3, .inl (d_t.2 14)))] H := hP
          replace hD : va_D A [oX6 h_t q_t (d_t.1), oX4 (q_t 0) q_t_0 (d_t_0.1), ((q_t_0 1), .inl (cs 0, 6, .inl (d_t_0.2 1))), ((q_t_0 2), .inl (cs 0, 6, .inl (d_t_0.2 2))), ((q_t_0 4), .inl (cs 0, 3, .inl (d_t_0.2 4))), ((q_t_0 5), .inl (cs 0, 3, .inl (d_t_0.2 5))), ((q_t 14), .inl (cs 0, 3, .inl (d_t.2 14)))] := hD
          have g22 := ite_some hf
          refine lv_if_ne (tgt := 54) hx hb dX6_wrong_44 (by decide) (fun c21 => ?_) (fun c21 => ?_)
          · replace hf := g22.2 c21
            refine lv_aload_n hx hb dX6_wrong_54 rfl (lv_at hl 0 rfl) ?_
            refine va_get (D := D) (ci := 6) (v := .ref (q_t 14)) (C := RX6) (T := TX6) (N := 18) hx hb hT iX6 hown hK hP 0 rfl rfl 14 (by decide) (hT _ fw_X6_80) (fun _ h9 => h9) rfl dX6_wrong_55 ?_
            refine lv_iconst (v := 0) hx hb dX6_wrong_58 rfl ?_
            refine lv_iload_n hx hb dX6_wrong_59 rfl (lv_at hl 2 rfl) ?_
            obtain ⟨hi, hf⟩ := chk_some hf
            refine va_iast (D := D) hx hb hK hP hD hS 6 0 rfl rfl hi dX6_wrong_60 (fun H locs hP hD hS => ?_)
            replace hP : va_P D vwCl [oX6 h_t q_t (d_t.1), oX4 (q_t 0) q_t_0 (d_t_0.1), ((q_t_0 1), .inl (cs 0, 6, .inl (d_t_0.2 1))), ((q_t_0 2), .inl (cs 0, 6, .inl (d_t_0.2 2))), ((q_t_0 4), .inl (cs 0, 3, .inl (d_t_0.2 4))), ((q_t_0 5), .inl (cs 0, 3, .inl (d_t_0.2 5))), ((q_t 14), .inl (cs 0, 3, .inl (upd (d_t.2 14) (0 : Int32).toNatClampNeg x2)))] H := hP
            replace hD : va_D A [oX6 h_t q_t (d_t.1), oX4 (q_t 0) q_t_0 (d_t_0.1), ((q_t_0 1), .inl (cs 0, 6, .inl (d_t_0.2 1))), ((q_t_0 2), .inl (cs 0, 6, .inl (d_t_0.2 2))), ((q_t_0 4), .inl (cs 0, 3, .inl (d_t_0.2 4))), ((q_t_0 5), .inl (cs 0, 3, .inl (d_t_0.2 5))), ((q_t 14), .inl (cs 0, 3, .inl (upd (d_t.2 14) (0 : Int32).toNatClampNeg x2)))] := hD
            refine lv_aload_n hx hb dX6_wrong_61 rfl (lv_at hl 0 rfl) ?_
            refine va_get (D := D) (ci := 6) (v := .ref (q_t 14)) (C := RX6) (T := TX6) (N := 18) hx hb hT iX6 hown hK hP 0 rfl rfl 14 (by decide) (hT _ fw_X6_80) (fun _ h9 => h9) rfl dX6_wrong_62 ?_
            refine lv_iconst (v := 1) hx hb dX6_wrong_65 rfl ?_
            refine lv_iload_n hx hb dX6_wrong_66 rfl (lv_at hl 3 rfl) ?_
            obtain ⟨hi, hf⟩ := chk_some hf
            refine va_iast (D := D) hx hb hK hP hD hS 6 0 rfl rfl hi dX6_wrong_67 (fun H locs hP hD hS => ?_)
            replace hP : va_P D vwCl [oX6 h_t q_t (d_t.1), oX4 (q_t 0) q_t_0 (d_t_0.1), ((q_t_0 1), .inl (cs 0, 6, .inl (d_t_0.2 1))), ((q_t_0 2), .inl (cs 0, 6, .inl (d_t_0.2 2))), ((q_t_0 4), .inl (cs 0, 3, .inl (d_t_0.2 4))), ((q_t_0 5), .inl (cs 0, 3, .inl (d_t_0.2 5))), ((q_t 14), .inl (cs 0, 3, .inl (upd (upd (d_t.2 14) (0 : Int32).toNatClampNeg x2) (1 : Int32).toNatClampNeg x3)))] H := hP
            replace hD : va_D A [oX6 h_t q_t (d_t.1), oX4 (q_t 0) q_t_0 (d_t_0.1), ((q_t_0 1), .inl (cs 0, 6, .inl (d_t_0.2 1))), ((q_t_0 2), .inl (cs 0, 6, .inl (d_t_0.2 2))), ((q_t_0 4), .inl (cs 0, 3, .inl (d_t_0.2 4))), ((q_t_0 5), .inl (cs 0, 3, .inl (d_t_0.2 5))), ((q_t 14), .inl (cs 0, 3, .inl (upd (upd (d_t.2 14) (0 : Int32).toNatClampNeg x2) (1 : Int32).toNatClampNeg x3)))] := hD
            refine lv_aload_n hx hb dX6_wrong_68 rfl (lv_at hl 0 rfl) ?_
            refine va_get (D := D) (ci := 6) (v := .ref (q_t 14)) (C := RX6) (T := TX6) (N := 18) hx hb hT iX6 hown hK hP 0 rfl rfl 14 (by decide) (hT _ fw_X6_80) (fun _ h9 => h9) rfl dX6_wrong_69 ?_
            refine lv_iconst (v := 2) hx hb dX6_wrong_72 rfl ?_
            refine lv_iload hx hb dX6_wrong_73 (lv_at hl 4 rfl) ?_
            obtain ⟨hi, hf⟩ := chk_some hf
            refine va_iast (D := D) hx hb hK hP hD hS 6 0 rfl rfl hi dX6_wrong_75 (fun H locs hP hD hS => ?_)
            replace hP : va_P D vwCl [oX6 h_t q_t (d_t.1), oX4 (q_t 0) q_t_0 (d_t_0.1), ((q_t_0 1), .inl (cs 0, 6, .inl (d_t_0.2 1))), ((q_t_0 2), .inl (cs 0, 6, .inl (d_t_0.2 2))), ((q_t_0 4), .inl (cs 0, 3, .inl (d_t_0.2 4))), ((q_t_0 5), .inl (cs 0, 3, .inl (d_t_0.2 5))), ((q_t 14), .inl (cs 0, 3, .inl (upd (upd (upd (d_t.2 14) (0 : Int32).toNatClampNeg x2) (1 : Int32).toNatClampNeg x3) (2 : Int32).toNatClampNeg x4)))] H := hP
            replace hD : va_D A [oX6 h_t q_t (d_t.1), oX4 (q_t 0) q_t_0 (d_t_0.1), ((q_t_0 1), .inl (cs 0, 6, .inl (d_t_0.2 1))), ((q_t_0 2), .inl (cs 0, 6, .inl (d_t_0.2 2))), ((q_t_0 4), .inl (cs 0, 3, .inl (d_t_0.2 4))), ((q_t_0 5), .inl (cs 0, 3, .inl (d_t_0.2 5))), ((q_t 14), .inl (cs 0, 3, .inl (upd (upd (upd (d_t.2 14) (0 : Int32).toNatClampNeg x2) (1 : Int32).toNatClampNeg x3) (2 : Int32).toNatClampNeg x4)))] := hD
            refine lv_iconst (v := 0) hx hb dX6_wrong_76 rfl ?_
            refine lv_istore (lv' := [(5, .int 0), (0, .ref h_t), (1, .int x1), (2, .int x2), (3, .int x3), (4, .int x4)]) hx hb dX6_wrong_77 hl (by decide) rfl (fun ls hl => ?_)
            refine lv_iconst (v := 0) hx hb dX6_wrong_79 rfl ?_
            refine lv_istore (lv' := [(6, .int 0), (5, .int 0), (0, .ref h_t), (1, .int x1), (2, .int x2), (3, .int x3), (4, .int x4)]) hx hb dX6_wrong_80 hl (by decide) rfl (fun ls hl => ?_)
            refine mX6_wrong_B82 h_t q_t q_t_0 k x1 (d_t.1, (va_up d_t.2 14 (upd (upd (upd (d_t.2 14) (0 : Int32).toNatClampNeg x2) (1 : Int32).toNatClampNeg x3) (2 : Int32).toNatClampNeg x4))) d_t_0 _ M hA hR (fun w23 hf H locs ls hP hD hS hl => ?_) _ _ hf _ _ _ hP hD hS (lv_sub hl [2, 3, 1, 0] rfl)
            · refine lv_iload hx hb dX6_wrong_126 (lv_at hl 0 rfl) ?_
              have g25 := ite_some hf
              refine lv_if_ne (tgt := 135) hx hb dX6_wrong_128 (by decide) (fun c24 => ?_) (fun c24 => ?_)
              · replace hf := g25.2 c24
                refine lv_iload hx hb dX6_wrong_135 (lv_at hl 0 rfl) ?_
                have e9 := Option.some.inj hf
                subst e9
                exact hR _ _ _ _ dX6_wrong_137 hP hS
              · replace hf := g25.1 c24
                refine lv_iconst (v := (-1)) hx hb dX6_wrong_131 rfl ?_
                refine lv_goto (tgt := 137) hx hb dX6_wrong_132 (by decide) ?_
                have e9 := Option.some.inj hf
                subst e9
                exact hR _ _ _ _ dX6_wrong_137 hP hS
          · replace hf := g22.1 c21
            refine lv_aload_n hx hb dX6_wrong_47 rfl (lv_at hl 0 rfl) ?_
            refine lv_bipush (v := (-2)) hx hb dX6_wrong_48 rfl ?_
            obtain ⟨r26, e27, hf⟩ := bind_some hf
            refine callVi (As := [.int (-2)]) (rest := []) M (mX6_refuseBad l D cs sk h_t q_t k d_t (-2) e27) mw_X6_96 ln_X6_refuseBad ⟨rfl, rfl, Nat.le_of_ble_eq_true rfl, Nat.le_of_ble_eq_true rfl⟩ hP hD hS hA [0] (by decide) rfl rfl (q0 := 0) rfl rfl rfl ⟨Nat.zero_le _, Nat.zero_le _⟩ hl.1 rfl (Nat.le_of_ble_eq_true rfl) dX6_wrong_50 (fun H locs hP hD hS => ?_)
            replace hP : va_P D vwCl [oX6 h_t q_t (r26.2.1), oX4 (q_t 0) q_t_0 (d_t_0.1), ((q_t_0 1), .inl (cs 0, 6, .inl (d_t_0.2 1))), ((q_t_0 2), .inl (cs 0, 6, .inl (d_t_0.2 2))), ((q_t_0 4), .inl (cs 0, 3, .inl (d_t_0.2 4))), ((q_t_0 5), .inl (cs 0, 3, .inl (d_t_0.2 5))), ((q_t 14), .inl (cs 0, 3, .inl (d_t.2 14)))] H := hP
            replace hD : va_D A [oX6 h_t q_t (r26.2.1), oX4 (q_t 0) q_t_0 (d_t_0.1), ((q_t_0 1), .inl (cs 0, 6, .inl (d_t_0.2 1))), ((q_t_0 2), .inl (cs 0, 6, .inl (d_t_0.2 2))), ((q_t_0 4), .inl (cs 0, 3, .inl (d_t_0.2 4))), ((q_t_0 5), .inl (cs 0, 3, .inl (d_t_0.2 5))), ((q_t 14), .inl (cs 0, 3, .inl (d_t.2 14)))] := hD
            have e9 := Option.some.inj hf
            subst e9
            exact hR _ _ _ _ dX6_wrong_53 hP hS
    · replace hf := g6.2 c5
      refine lv_aload_n hx hb dX6_wrong_18 rfl (lv_at hl 0 rfl) ?_
      refine lv_bipush (v := (-2)) hx hb dX6_wrong_19 rfl ?_
      obtain ⟨r28, e29, hf⟩ := bind_some hf
      refine callVi (As := [.int (-2)]) (rest := []) M (mX6_refuseBad l D cs sk h_t q_t k d_t (-2) e29) mw_X6_96 ln_X6_refuseBad ⟨rfl, rfl, Nat.le_of_ble_eq_true rfl, Nat.le_of_ble_eq_true rfl⟩ hP hD hS hA [0] (by decide) rfl rfl (q0 := 0) rfl rfl rfl ⟨Nat.zero_le _, Nat.zero_le _⟩ hl.1 rfl (Nat.le_of_ble_eq_true rfl) dX6_wrong_21 (fun H locs hP hD hS => ?_)
      replace hP : va_P D vwCl [oX6 h_t q_t (r28.2.1), oX4 (q_t 0) q_t_0 (d_t_0.1), ((q_t_0 1), .inl (cs 0, 6, .inl (d_t_0.2 1))), ((q_t_0 2), .inl (cs 0, 6, .inl (d_t_0.2 2))), ((q_t_0 4), .inl (cs 0, 3, .inl (d_t_0.2 4))), ((q_t_0 5), .inl (cs 0, 3, .inl (d_t_0.2 5))), ((q_t 14), .inl (cs 0, 3, .inl (d_t.2 14)))] H := hP
      replace hD : va_D A [oX6 h_t q_t (r28.2.1), oX4 (q_t 0) q_t_0 (d_t_0.1), ((q_t_0 1), .inl (cs 0, 6, .inl (d_t_0.2 1))), ((q_t_0 2), .inl (cs 0, 6, .inl (d_t_0.2 2))), ((q_t_0 4), .inl (cs 0, 3, .inl (d_t_0.2 4))), ((q_t_0 5), .inl (cs 0, 3, .inl (d_t_0.2 5))), ((q_t 14), .inl (cs 0, 3, .inl (d_t.2 14)))] := hD
      have e9 := Option.some.inj hf
      subst e9
      exact hR _ _ _ _ dX6_wrong_24 hP hS
abbrev rm_X6_nextEar : Room := { frames := 4, cells := 0, slots := 0, locals := 96 }
def fX6_nextEar_B31 (k : Nat) (x1 : Int32) (d_t_0 : Dat) (K73 : Int32 → Option (Int32 × Dat)) (rec : Int32 × Int32 × Int32 → Option (Int32 × Dat)) (v : Int32 × Int32 × Int32) : Option (Int32 × Dat) :=
  (if (d_t_0.1 3) ≤ (v.2.2) then K73 (v.1) else (fX4_pairsParted k d_t_0 x1 (v.2.2)).bind (fun (r3 : Int32) => (if r3 ≤ (v.2.1) then rec ((v.1), (v.2.1), ((v.2.2) + 1)) else rec ((v.2.2), r3, ((v.2.2) + 1)))))
def fX6_nextEar (k : Nat) (d_t : Dat) (d_t_0 : Dat) (x1 : Int32) : Option (Int32 × Dat) :=
  (if x1 < 0 then (fX6_refuseBad k d_t (-2)).bind (fun (r3 : Int32 × Dat) => some ((r3.1), (r3.2.1, d_t.2))) else (if x1 < (1 <<< ((d_t_0.1 0) &&& 31)) then lp (fX6_nextEar_B31 k x1 d_t_0 (fun (w7 : Int32) => some (w7, d_t))) k ((-1), 0, 0) else (fX6_refuseBad k d_t (-2)).bind (fun (r8 : Int32 × Dat) => some ((r8.1), (r8.2.1, d_t.2)))))
set_option maxHeartbeats 4000000 in
set_option maxRecDepth 100000 in
theorem mX6_nextEar_B31 {l : Launch} {p : Program} {e : Env} {s : State} {m : MethodId} {args : Array Value} {below : List Frame} {meth : Method} {c : Code} {D : va_G} {cs : Nat → ClassId} {sk : Nat → Nat} {A : Nat → Prop} {Q : State → Prop} (h_t : Nat) (q_t : Nat → Nat) (q_t_0 : Nat → Nat) (k : Nat) (x1 : Int32) (d_t : Dat) (d_t_0 : Dat) {rv : Int32 × Dat}  (K73 : Int32 → Option (Int32 × Dat))
    (M : MC p s m args meth c D cs sk A RX6 cX6_nextEar 6 (some .int)) (hA : ∀ q, s.heap.size ≤ q → A q) (hR : RetI p l e rm_X6_nextEar s m args below meth c D cX6_nextEar A Q (rv.1) [oX6 h_t q_t (rv.2.1), oX4 (q_t 0) q_t_0 (d_t_0.1), ((q_t_0 1), .inl (cs 0, 6, .inl (d_t_0.2 1))), ((q_t_0 2), .inl (cs 0, 6, .inl (d_t_0.2 2))), ((q_t_0 4), .inl (cs 0, 3, .inl (d_t_0.2 4))), ((q_t_0 5), .inl (cs 0, 3, .inl (d_t_0.2 5)))])
    (hK73 : ∀ (w : Int32), K73 w = some rv → ∀ (H : Heap) (locs : List Loc) (ls : Array Slot), va_P D vwCl [oX6 h_t q_t (d_t.1), oX4 (q_t 0) q_t_0 (d_t_0.1), ((q_t_0 1), .inl (cs 0, 6, .inl (d_t_0.2 1))), ((q_t_0 2), .inl (cs 0, 6, .inl (d_t_0.2 2))), ((q_t_0 4), .inl (cs 0, 3, .inl (d_t_0.2 4))), ((q_t_0 5), .inl (cs 0, 3, .inl (d_t_0.2 5)))] H → va_D A [oX6 h_t q_t (d_t.1), oX4 (q_t 0) q_t_0 (d_t_0.1), ((q_t_0 1), .inl (cs 0, 6, .inl (d_t_0.2 1))), ((q_t_0 2), .inl (cs 0, 6, .inl (d_t_0.2 2))), ((q_t_0 4), .inl (cs 0, 3, .inl (d_t_0.2 4))), ((q_t_0 5), .inl (cs 0, 3, .inl (d_t_0.2 5)))] → va_S A s.heap H locs → lv_has ls 6 [(2, .int w)] → W p l e rm_X6_nextEar s m args below meth c H locs 0 0 Q (F0 m 73 ls []))
    : ∀ (n : Nat) (v : Int32 × Int32 × Int32), lp (fX6_nextEar_B31 k x1 d_t_0 K73) n v = some rv → ∀ (H : Heap) (locs : List Loc) (ls : Array Slot), va_P D vwCl [oX6 h_t q_t (d_t.1), oX4 (q_t 0) q_t_0 (d_t_0.1), ((q_t_0 1), .inl (cs 0, 6, .inl (d_t_0.2 1))), ((q_t_0 2), .inl (cs 0, 6, .inl (d_t_0.2 2))), ((q_t_0 4), .inl (cs 0, 3, .inl (d_t_0.2 4))), ((q_t_0 5), .inl (cs 0, 3, .inl (d_t_0.2 5)))] H → va_D A [oX6 h_t q_t (d_t.1), oX4 (q_t 0) q_t_0 (d_t_0.1), ((q_t_0 1), .inl (cs 0, 6, .inl (d_t_0.2 1))), ((q_t_0 2), .inl (cs 0, 6, .inl (d_t_0.2 2))), ((q_t_0 4), .inl (cs 0, 3, .inl (d_t_0.2 4))), ((q_t_0 5), .inl (cs 0, 3, .inl (d_t_0.2 5)))] → va_S A s.heap H locs → lv_has ls 6 [(0, .ref h_t), (1, .int x1), (2, .int (v.1)), (3, .int (v.2.1)), (4, .int (v.2.2))] → W p l e rm_X6_nextEar s m args below meth c H locs 0 0 Q (F0 m 31 ls []) := by
  obtain ⟨hx, hb, hml, hT, hown, hlk, hrt, hK, hN, hSE⟩ := id M
  refine lp_ind (fun rec ih v hf H locs ls hP hD hS hl => ?_)
  unfold fX6_nextEar_B31 at hf
  refine lv_iload hx hb dX6_nextEar_31 (lv_at hl 4 rfl) ?_
  refine lv_aload_n hx hb dX6_nextEar_33 rfl (lv_at hl 0 rfl) ?_
  refine va_get (D := D) (ci := 6) (v := .ref (q_t 0)) (C := RX6) (T := TX6) (N := 18) hx hb hT iX6 hown hK hP 0 rfl rfl 0 (by decide) (hT _ fw_X6_10) (fun _ h9 => h9) rfl dX6_nextEar_34 ?_
  refine va_get (D := D) (ci := 4) (v := .int (d_t_0.1 3)) (C := RX4) (T := TX4) (N := 11) hx hb hT iX4 hown hK hP 1 rfl rfl 3 (by decide) (hT _ fw_X6_111) (fun _ h9 => h9) rfl dX6_nextEar_37 ?_
  have g2 := ite_some hf
  refine lv_icmp_ge (tgt := 73) hx hb dX6_nextEar_40 (by decide) (fun c1 => ?_) (fun c1 => ?_)
  · replace hf := g2.1 c1
    exact hK73 _ hf _ _ _ hP hD hS (lv_sub hl [2] rfl)
  · replace hf := g2.2 c1
    refine lv_aload_n hx hb dX6_nextEar_43 rfl (lv_at hl 0 rfl) ?_
    refine va_get (D := D) (ci := 6) (v := .ref (q_t 0)) (C := RX6) (T := TX6) (N := 18) hx hb hT iX6 hown hK hP 0 rfl rfl 0 (by decide) (hT _ fw_X6_10) (fun _ h9 => h9) rfl dX6_nextEar_44 ?_
    refine lv_iload_n hx hb dX6_nextEar_47 rfl (lv_at hl 1 rfl) ?_
    refine lv_iload hx hb dX6_nextEar_48 (lv_at hl 4 rfl) ?_
    obtain ⟨r3, e4, hf⟩ := bind_some hf
    refine callVi (As := [.int x1, .int (v.2.2)]) (rest := []) M (mX4_pairsParted l D cs sk (q_t 0) q_t_0 k d_t_0 x1 (v.2.2) e4) mw_X6_266 ln_X4_pairsParted ⟨rfl, rfl, Nat.le_of_ble_eq_true rfl, Nat.le_of_ble_eq_true rfl⟩ hP hD hS hA [1, 2, 3, 4, 5] (by decide) rfl rfl (q0 := 0) rfl rfl rfl ⟨Nat.zero_le _, Nat.zero_le _⟩ hl.1 rfl (Nat.le_of_ble_eq_true rfl) dX6_nextEar_50 (fun H locs hP hD hS => ?_)
    replace hP : va_P D vwCl [oX6 h_t q_t (d_t.1), oX4 (q_t 0) q_t_0 (d_t_0.1), ((q_t_0 1), .inl (cs 0, 6, .inl (d_t_0.2 1))), ((q_t_0 2), .inl (cs 0, 6, .inl (d_t_0.2 2))), ((q_t_0 4), .inl (cs 0, 3, .inl (d_t_0.2 4))), ((q_t_0 5), .inl (cs 0, 3, .inl (d_t_0.2 5)))] H := hP
    replace hD : va_D A [oX6 h_t q_t (d_t.1), oX4 (q_t 0) q_t_0 (d_t_0.1), ((q_t_0 1), .inl (cs 0, 6, .inl (d_t_0.2 1))), ((q_t_0 2), .inl (cs 0, 6, .inl (d_t_0.2 2))), ((q_t_0 4), .inl (cs 0, 3, .inl (d_t_0.2 4))), ((q_t_0 5), .inl (cs 0, 3, .inl (d_t_0.2 5)))] := hD
    refine lv_istore (lv' := [(5, .int r3), (0, .ref h_t), (1, .int x1), (2, .int (v.1)), (3, .int (v.2.1)), (4, .int (v.2.2))]) hx hb dX6_nextEar_53 hl (by decide) rfl (fun ls hl => ?_)
    refine lv_iload hx hb dX6_nextEar_55 (lv_at hl 0 rfl) ?_
    refine lv_iload_n hx hb dX6_nextEar_57 rfl (lv_at hl 4 rfl) ?_
    have g6 := ite_some hf
    refine lv_icmp_le (tgt := 67) hx hb dX6_nextEar_58 (by decide) (fun c5 => ?_) (fun c5 => ?_)
    · replace hf := g6.1 c5
      refine lv_iinc (v := ((v.2.2) + 1)) (lv' := [(4, .int ((v.2.2) + 1)), (5, .int r3), (0, .ref h_t), (1, .int x1), (2, .int (v.1)), (3, .int (v.2.1))]) hx hb dX6_nextEar_67 hl (k := 5) rfl rfl (by decide) rfl (fun ls hl => ?_)
      refine lv_goto (tgt := 31) hx hb dX6_nextEar_70 (by decide) ?_
      exact ih _ hf _ _ _ hP hD hS (lv_sub hl [2, 3, 4, 5, 0] rfl)
    · replace hf := g6.2 c5
      refine lv_iload hx hb dX6_nextEar_61 (lv_at hl 0 rfl) ?_
      refine lv_istore_n (lv' := [(3, .int r3), (5, .int r3), (0, .ref h_t), (1, .int x1), (2, .int (v.1)), (4, .int (v.2.2))]) hx hb dX6_nextEar_63 rfl hl (by decide) rfl (fun ls hl => ?_)
      refine lv_iload hx hb dX6_nextEar_64 (lv_at hl 5 rfl) ?_
      refine lv_istore_n (lv' := [(2, .int (v.2.2)), (3, .int r3), (5, .int r3), (0, .ref h_t), (1, .int x1), (4, .int (v.2.2))]) hx hb dX6_nextEar_66 rfl hl (by decide) rfl (fun ls hl => ?_)
      refine lv_iinc (v := ((v.2.2) + 1)) (lv' := [(4, .int ((v.2.2) + 1)), (2, .int (v.2.2)), (3, .int r3), (5, .int r3), (0, .ref h_t), (1, .int x1)]) hx hb dX6_nextEar_67 hl (k := 5) rfl rfl (by decide) rfl (fun ls hl => ?_)
      refine lv_goto (tgt := 31) hx hb dX6_nextEar_70 (by decide) ?_
      exact ih _ hf _ _ _ hP hD hS (lv_sub hl [4, 5, 1, 2, 0] rfl)
set_option maxHeartbeats 4000000 in
set_option maxRecDepth 100000 in
theorem mX6_nextEar (l : Launch) (D : va_G) (cs : Nat → ClassId) (sk : Nat → Nat) (h_t : Nat) (q_t : Nat → Nat) (q_t_0 : Nat → Nat) (k : Nat) (d_t : Dat) (d_t_0 : Dat) (x1 : Int32) {rv : Int32 × Dat} (hf : fX6_nextEar k d_t d_t_0 x1 = some rv) : CTi l yX6_nextEar (Cond.code yX6_nextEar cX6_nextEar 6 (some .int) :: gtbl) rm_X6_nextEar D cs sk [.ref h_t, .int x1] [oX6 h_t q_t (d_t.1), oX4 (q_t 0) q_t_0 (d_t_0.1), ((q_t_0 1), .inl (cs 0, 6, .inl (d_t_0.2 1))), ((q_t_0 2), .inl (cs 0, 6, .inl (d_t_0.2 2))), ((q_t_0 4), .inl (cs 0, 3, .inl (d_t_0.2 4))), ((q_t_0 5), .inl (cs 0, 3, .inl (d_t_0.2 5)))] (rv.1) [oX6 h_t q_t (rv.2.1), oX4 (q_t 0) q_t_0 (d_t_0.1), ((q_t_0 1), .inl (cs 0, 6, .inl (d_t_0.2 1))), ((q_t_0 2), .inl (cs 0, 6, .inl (d_t_0.2 2))), ((q_t_0 4), .inl (cs 0, 3, .inl (d_t_0.2 4))), ((q_t_0 5), .inl (cs 0, 3, .inl (d_t_0.2 5)))] := by
  refine CTi.of RX6 (by decide +kernel) rfl (Nat.le_of_ble_eq_true rfl) (fun p e s m args below meth c A Q ls M hA hR hl hP hD hS => ?_)
  obtain ⟨hx, hb, hml, hT, hown, hlk, hrt, hK, hN, hSE⟩ := id M
  replace hl : lv_has ls 6 [(0, .ref h_t), (1, .int x1)] := hl
  unfold fX6_nextEar at hf
  refine lv_iload_n hx hb dX6_nextEar_0 rfl (lv_at hl 1 rfl) ?_
  have g2 := ite_some hf
  refine lv_if_lt (tgt := 17) hx hb dX6_nextEar_1 (by decide) (fun c1 => ?_) (fun c1 => ?_)
  · replace hf := g2.1 c1
    refine lv_aload_n hx hb dX6_nextEar_17 rfl (lv_at hl 0 rfl) ?_
    refine lv_bipush (v := (-2)) hx hb dX6_nextEar_18 rfl ?_
    obtain ⟨r3, e4, hf⟩ := bind_some hf
    refine callVi (As := [.int (-2)]) (rest := []) M (mX6_refuseBad l D cs sk h_t q_t k d_t (-2) e4) mw_X6_96 ln_X6_refuseBad ⟨rfl, rfl, Nat.le_of_ble_eq_true rfl, Nat.le_of_ble_eq_true rfl⟩ hP hD hS hA [0] (by decide) rfl rfl (q0 := 0) rfl rfl rfl ⟨Nat.zero_le _, Nat.zero_le _⟩ hl.1 rfl (Nat.le_of_ble_eq_true rfl) dX6_nextEar_20 (fun H locs hP hD hS => ?_)
    replace hP : va_P D vwCl [oX6 h_t q_t (r3.2.1), oX4 (q_t 0) q_t_0 (d_t_0.1), ((q_t_0 1), .inl (cs 0, 6, .inl (d_t_0.2 1))), ((q_t_0 2), .inl (cs 0, 6, .inl (d_t_0.2 2))), ((q_t_0 4), .inl (cs 0, 3, .inl (d_t_0.2 4))), ((q_t_0 5), .inl (cs 0, 3, .inl (d_t_0.2 5)))] H := hP
    replace hD : va_D A [oX6 h_t q_t (r3.2.1), oX4 (q_t 0) q_t_0 (d_t_0.1), ((q_t_0 1), .inl (cs 0, 6, .inl (d_t_0.2 1))), ((q_t_0 2), .inl (cs 0, 6, .inl (d_t_0.2 2))), ((q_t_0 4), .inl (cs 0, 3, .inl (d_t_0.2 4))), ((q_t_0 5), .inl (cs 0, 3, .inl (d_t_0.2 5)))] := hD
    have e9 := Option.some.inj hf
    subst e9
    exact hR _ _ _ _ dX6_nextEar_23 hP hS
  · replace hf := g2.2 c1
    refine lv_iload_n hx hb dX6_nextEar_4 rfl (lv_at hl 1 rfl) ?_
    refine lv_iconst (v := 1) hx hb dX6_nextEar_5 rfl ?_
    refine lv_aload_n hx hb dX6_nextEar_6 rfl (lv_at hl 0 rfl) ?_
    refine va_get (D := D) (ci := 6) (v := .ref (q_t 0)) (C := RX6) (T := TX6) (N := 18) hx hb hT iX6 hown hK hP 0 rfl rfl 0 (by decide) (hT _ fw_X6_10) (fun _ h9 => h9) rfl dX6_nextEar_7 ?_
    refine va_get (D := D) (ci := 4) (v := .int (d_t_0.1 0)) (C := RX4) (T := TX4) (N := 11) hx hb hT iX4 hown hK hP 1 rfl rfl 0 (by decide) (hT _ fw_X6_100) (fun _ h9 => h9) rfl dX6_nextEar_10 ?_
    refine lv_ishl hx hb dX6_nextEar_13 ?_
    have g6 := ite_some hf
    refine lv_icmp_lt (tgt := 24) hx hb dX6_nextEar_14 (by decide) (fun c5 => ?_) (fun c5 => ?_)
    · replace hf := g6.1 c5
      refine lv_iconst (v := (-1)) hx hb dX6_nextEar_24 rfl ?_
      refine lv_istore_n (lv' := [(2, .int (-1)), (0, .ref h_t), (1, .int x1)]) hx hb dX6_nextEar_25 rfl hl (by decide) rfl (fun ls hl => ?_)
      refine lv_iconst (v := 0) hx hb dX6_nextEar_26 rfl ?_
      refine lv_istore_n (lv' := [(3, .int 0), (2, .int (-1)), (0, .ref h_t), (1, .int x1)]) hx hb dX6_nextEar_27 rfl hl (by decide) rfl (fun ls hl => ?_)
      refine lv_iconst (v := 0) hx hb dX6_nextEar_28 rfl ?_
      refine lv_istore (lv' := [(4, .int 0), (3, .int 0), (2, .int (-1)), (0, .ref h_t), (1, .int x1)]) hx hb dX6_nextEar_29 hl (by decide) rfl (fun ls hl => ?_)
      refine mX6_nextEar_B31 h_t q_t q_t_0 k x1 d_t d_t_0 _ M hA hR (fun w7 hf H locs ls hP hD hS hl => ?_) _ _ hf _ _ _ hP hD hS (lv_sub hl [3, 4, 2, 1, 0] rfl)
      · refine lv_iload_n hx hb dX6_nextEar_73 rfl (lv_at hl 0 rfl) ?_
        have e9 := Option.some.inj hf
        subst e9
        exact hR _ _ _ _ dX6_nextEar_74 hP hS
    · replace hf := g6.2 c5
      refine lv_aload_n hx hb dX6_nextEar_17 rfl (lv_at hl 0 rfl) ?_
      refine lv_bipush (v := (-2)) hx hb dX6_nextEar_18 rfl ?_
      obtain ⟨r8, e9, hf⟩ := bind_some hf
      refine callVi (As := [.int (-2)]) (rest := []) M (mX6_refuseBad l D cs sk h_t q_t k d_t (-2) e9) mw_X6_96 ln_X6_refuseBad ⟨rfl, rfl, Nat.le_of_ble_eq_true rfl, Nat.le_of_ble_eq_true rfl⟩ hP hD hS hA [0] (by decide) rfl rfl (q0 := 0) rfl rfl rfl ⟨Nat.zero_le _, Nat.zero_le _⟩ hl.1 rfl (Nat.le_of_ble_eq_true rfl) dX6_nextEar_20 (fun H locs hP hD hS => ?_)
      replace hP : va_P D vwCl [oX6 h_t q_t (r8.2.1), oX4 (q_t 0) q_t_0 (d_t_0.1), ((q_t_0 1), .inl (cs 0, 6, .inl (d_t_0.2 1))), ((q_t_0 2), .inl (cs 0, 6, .inl (d_t_0.2 2))), ((q_t_0 4), .inl (cs 0, 3, .inl (d_t_0.2 4))), ((q_t_0 5), .inl (cs 0, 3, .inl (d_t_0.2 5)))] H := hP
      replace hD : va_D A [oX6 h_t q_t (r8.2.1), oX4 (q_t 0) q_t_0 (d_t_0.1), ((q_t_0 1), .inl (cs 0, 6, .inl (d_t_0.2 1))), ((q_t_0 2), .inl (cs 0, 6, .inl (d_t_0.2 2))), ((q_t_0 4), .inl (cs 0, 3, .inl (d_t_0.2 4))), ((q_t_0 5), .inl (cs 0, 3, .inl (d_t_0.2 5)))] := hD
      have e9 := Option.some.inj hf
      subst e9
      exact hR _ _ _ _ dX6_nextEar_23 hP hS
abbrev rm_X6_drawn : Room := { frames := 6, cells := 0, slots := 0, locals := 147 }
def fX6_drawn_B32 (k : Nat) (x1 : Int32) (d_t : Dat) (d_t_0 : Dat) (d_t_1 : Dat) (d_t_8 : Dat) (K64 : Int32 × Dat × Dat → Option (Int32 × Dat × Dat × Dat)) (rec : Int32 × Int32 × Dat × Dat → Option (Int32 × Dat × Dat × Dat)) (v : Int32 × Int32 × Dat × Dat) : Option (Int32 × Dat × Dat × Dat) :=
  (if 2 < (v.2.1) then K64 ((v.1), (v.2.2.1.1, d_t_0.2), (v.2.2.2.1, (va_up (va_up (va_up d_t_8.2 1 (v.2.2.2.2 1)) 2 (v.2.2.2.2 2)) 3 (v.2.2.2.2 3)))) else (fX6_isTogether k d_t ((upd v.2.2.1.1 9 (v.2.1)), d_t_0.2) d_t_1 (v.2.2.2.1, (va_up (va_up (va_up d_t_8.2 1 (v.2.2.2.2 1)) 2 (v.2.2.2.2 2)) 3 (v.2.2.2.2 3))) x1).bind (fun (r3 : Int32 × Dat) => (if (r3.1) = 0 then rec ((v.1), ((v.2.1) + 1), ((upd v.2.2.1.1 9 (v.2.1)), d_t_0.2), (r3.2.1, (va_up (va_up (va_up d_t_8.2 1 (r3.2.2 1)) 2 (r3.2.2 2)) 3 (r3.2.2 3)))) else rec (((v.1) + 1), ((v.2.1) + 1), ((upd v.2.2.1.1 9 (v.2.1)), d_t_0.2), (r3.2.1, (va_up (va_up (va_up d_t_8.2 1 (r3.2.2 1)) 2 (r3.2.2 2)) 3 (r3.2.2 3)))))))
def fX6_drawn (k : Nat) (d_t : Dat) (d_t_0 : Dat) (d_t_1 : Dat) (d_t_8 : Dat) (x1 : Int32) : Option (Int32 × Dat × Dat × Dat) :=
  (fX6_isWithin k x1 0 999).bind (fun (r1 : Int32) => (if r1 = 0 then (fX6_refuseBad k d_t (-2)).bind (fun (r6 : Int32 × Dat) => some ((r6.1), (r6.2.1, d_t.2), d_t_0, d_t_8)) else lp (fX6_drawn_B32 k x1 d_t d_t_0 d_t_1 d_t_8 (fun (w5 : Int32 × Dat × Dat) => some ((w5.1), d_t, ((upd w5.2.1.1 9 (d_t_0.1 9)), d_t_0.2), (w5.2.2.1, (va_up (va_up (va_up d_t_8.2 1 (w5.2.2.2 1)) 2 (w5.2.2.2 2)) 3 (w5.2.2.2 3)))))) k (0, (-2), d_t_0, d_t_8)))
set_option maxHeartbeats 4000000 in
set_option maxRecDepth 100000 in
theorem mX6_drawn_B32 {l : Launch} {p : Program} {e : Env} {s : State} {m : MethodId} {args : Array Value} {below : List Frame} {meth : Method} {c : Code} {D : va_G} {cs : Nat → ClassId} {sk : Nat → Nat} {A : Nat → Prop} {Q : State → Prop} (h_t : Nat) (q_t : Nat → Nat) (q_t_0 : Nat → Nat) (q_t_1 : Nat → Nat) (q_t_8 : Nat → Nat) (k : Nat) (x1 : Int32) (x2 : Int32) (d_t : Dat) (d_t_0 : Dat) (d_t_1 : Dat) (d_t_8 : Dat) {rv : Int32 × Dat × Dat × Dat}  (K64 : Int32 × Dat × Dat → Option (Int32 × Dat × Dat × Dat))
    (M : MC p s m args meth c D cs sk A RX6 cX6_drawn 5 (some .int)) (hA : ∀ q, s.heap.size ≤ q → A q) (hR : RetI p l e rm_X6_drawn s m args below meth c D cX6_drawn A Q (rv.1) [oX6 h_t q_t (rv.2.1.1), oX4 (q_t 0) q_t_0 (rv.2.2.1.1), ((q_t_0 1), .inl (cs 0, 6, .inl (d_t_0.2 1))), ((q_t_0 2), .inl (cs 0, 6, .inl (d_t_0.2 2))), ((q_t_0 4), .inl (cs 0, 3, .inl (d_t_0.2 4))), ((q_t_0 5), .inl (cs 0, 3, .inl (d_t_0.2 5))), oX0 (q_t 1) q_t_1 (d_t_1.1), ((q_t_1 1), .inl (cs 0, 6, .inl (d_t_1.2 1))), ((q_t_1 2), .inl (cs 0, 6, .inl (d_t_1.2 2))), ((q_t_1 3), .inl (cs 0, 6, .inl (d_t_1.2 3))), ((q_t_1 4), .inl (cs 0, 6, .inl (d_t_1.2 4))), oX1 (q_t 8) q_t_8 (rv.2.2.2.1), ((q_t_8 1), .inl (cs 0, 12, .inl (rv.2.2.2.2 1))), ((q_t_8 2), .inl (cs 0, 12, .inl (rv.2.2.2.2 2))), ((q_t_8 3), .inl (cs 0, 12, .inl (rv.2.2.2.2 3)))])
    (hK64 : ∀ (w : Int32 × Dat × Dat), K64 w = some rv → ∀ (H : Heap) (locs : List Loc) (ls : Array Slot), va_P D vwCl [oX6 h_t q_t (d_t.1), oX4 (q_t 0) q_t_0 (w.2.1.1), ((q_t_0 1), .inl (cs 0, 6, .inl (d_t_0.2 1))), ((q_t_0 2), .inl (cs 0, 6, .inl (d_t_0.2 2))), ((q_t_0 4), .inl (cs 0, 3, .inl (d_t_0.2 4))), ((q_t_0 5), .inl (cs 0, 3, .inl (d_t_0.2 5))), oX0 (q_t 1) q_t_1 (d_t_1.1), ((q_t_1 1), .inl (cs 0, 6, .inl (d_t_1.2 1))), ((q_t_1 2), .inl (cs 0, 6, .inl (d_t_1.2 2))), ((q_t_1 3), .inl (cs 0, 6, .inl (d_t_1.2 3))), ((q_t_1 4), .inl (cs 0, 6, .inl (d_t_1.2 4))), oX1 (q_t 8) q_t_8 (w.2.2.1), ((q_t_8 1), .inl (cs 0, 12, .inl (w.2.2.2 1))), ((q_t_8 2), .inl (cs 0, 12, .inl (w.2.2.2 2))), ((q_t_8 3), .inl (cs 0, 12, .inl (w.2.2.2 3)))] H → va_D A [oX6 h_t q_t (d_t.1), oX4 (q_t 0) q_t_0 (w.2.1.1), ((q_t_0 1), .inl (cs 0, 6, .inl (d_t_0.2 1))), ((q_t_0 2), .inl (cs 0, 6, .inl (d_t_0.2 2))), ((q_t_0 4), .inl (cs 0, 3, .inl (d_t_0.2 4))), ((q_t_0 5), .inl (cs 0, 3, .inl (d_t_0.2 5))), oX0 (q_t 1) q_t_1 (d_t_1.1), ((q_t_1 1), .inl (cs 0, 6, .inl (d_t_1.2 1))), ((q_t_1 2), .inl (cs 0, 6, .inl (d_t_1.2 2))), ((q_t_1 3), .inl (cs 0, 6, .inl (d_t_1.2 3))), ((q_t_1 4), .inl (cs 0, 6, .inl (d_t_1.2 4))), oX1 (q_t 8) q_t_8 (w.2.2.1), ((q_t_8 1), .inl (cs 0, 12, .inl (w.2.2.2 1))), ((q_t_8 2), .inl (cs 0, 12, .inl (w.2.2.2 2))), ((q_t_8 3), .inl (cs 0, 12, .inl (w.2.2.2 3)))] → va_S A s.heap H locs → lv_has ls 5 [(0, .ref h_t), (2, .int x2), (3, .int (w.1))] → W p l e rm_X6_drawn s m args below meth c H locs 0 0 Q (F0 m 64 ls []))
    : ∀ (n : Nat) (v : Int32 × Int32 × Dat × Dat), lp (fX6_drawn_B32 k x1 d_t d_t_0 d_t_1 d_t_8 K64) n v = some rv → ∀ (H : Heap) (locs : List Loc) (ls : Array Slot), va_P D vwCl [oX6 h_t q_t (d_t.1), oX4 (q_t 0) q_t_0 (v.2.2.1.1), ((q_t_0 1), .inl (cs 0, 6, .inl (d_t_0.2 1))), ((q_t_0 2), .inl (cs 0, 6, .inl (d_t_0.2 2))), ((q_t_0 4), .inl (cs 0, 3, .inl (d_t_0.2 4))), ((q_t_0 5), .inl (cs 0, 3, .inl (d_t_0.2 5))), oX0 (q_t 1) q_t_1 (d_t_1.1), ((q_t_1 1), .inl (cs 0, 6, .inl (d_t_1.2 1))), ((q_t_1 2), .inl (cs 0, 6, .inl (d_t_1.2 2))), ((q_t_1 3), .inl (cs 0, 6, .inl (d_t_1.2 3))), ((q_t_1 4), .inl (cs 0, 6, .inl (d_t_1.2 4))), oX1 (q_t 8) q_t_8 (v.2.2.2.1), ((q_t_8 1), .inl (cs 0, 12, .inl (v.2.2.2.2 1))), ((q_t_8 2), .inl (cs 0, 12, .inl (v.2.2.2.2 2))), ((q_t_8 3), .inl (cs 0, 12, .inl (v.2.2.2.2 3)))] H → va_D A [oX6 h_t q_t (d_t.1), oX4 (q_t 0) q_t_0 (v.2.2.1.1), ((q_t_0 1), .inl (cs 0, 6, .inl (d_t_0.2 1))), ((q_t_0 2), .inl (cs 0, 6, .inl (d_t_0.2 2))), ((q_t_0 4), .inl (cs 0, 3, .inl (d_t_0.2 4))), ((q_t_0 5), .inl (cs 0, 3, .inl (d_t_0.2 5))), oX0 (q_t 1) q_t_1 (d_t_1.1), ((q_t_1 1), .inl (cs 0, 6, .inl (d_t_1.2 1))), ((q_t_1 2), .inl (cs 0, 6, .inl (d_t_1.2 2))), ((q_t_1 3), .inl (cs 0, 6, .inl (d_t_1.2 3))), ((q_t_1 4), .inl (cs 0, 6, .inl (d_t_1.2 4))), oX1 (q_t 8) q_t_8 (v.2.2.2.1), ((q_t_8 1), .inl (cs 0, 12, .inl (v.2.2.2.2 1))), ((q_t_8 2), .inl (cs 0, 12, .inl (v.2.2.2.2 2))), ((q_t_8 3), .inl (cs 0, 12, .inl (v.2.2.2.2 3)))] → va_S A s.heap H locs → lv_has ls 5 [(0, .ref h_t), (1, .int x1), (2, .int x2), (3, .int (v.1)), (4, .int (v.2.1))] → W p l e rm_X6_drawn s m args below meth c H locs 0 0 Q (F0 m 32 ls []) := by
  obtain ⟨hx, hb, hml, hT, hown, hlk, hrt, hK, hN, hSE⟩ := id M
  refine lp_ind (fun rec ih v hf H locs ls hP hD hS hl => ?_)
  unfold fX6_drawn_B32 at hf
  refine lv_iload hx hb dX6_drawn_32 (lv_at hl 4 rfl) ?_
  refine lv_iconst (v := 2) hx hb dX6_drawn_34 rfl ?_
  have g2 := ite_some hf
  refine lv_icmp_gt (tgt := 64) hx hb dX6_drawn_35 (by decide) (fun c1 => ?_) (fun c1 => ?_)
  · replace hf := g2.1 c1
    exact hK64 _ hf _ _ _ hP hD hS (lv_sub hl [0, 2, 3] rfl)
  · replace hf := g2.2 c1
    refine lv_aload_n hx hb dX6_drawn_38 rfl (lv_at hl 0 rfl) ?_
    refine va_get (D := D) (ci := 6) (v := .ref (q_t 0)) (C := RX6) (T := TX6) (N := 18) hx hb hT iX6 hown hK hP 0 rfl rfl 0 (by decide) (hT _ fw_X6_10) (fun _ h9 => h9) rfl dX6_drawn_39 ?_
    refine lv_iload hx hb dX6_drawn_42 (lv_at hl 4 rfl) ?_
    refine va_put (D := D) (ci := 4) (v := .int (v.2.1)) (ty := tyX4 9) (C := RX4) (T := TX4) (N := 11) hx hb hT iX4 tyX4 tyX4_ok nmX4 hown hK hP hD hS 1 rfl rfl 9 (by decide) (hT _ fw_X6_128) (fun _ h9 => h9) rfl (tyX4_ok 9 (by decide)) rfl rfl (Nat.le_of_ble_eq_true rfl) dX6_drawn_44 (fun H locs hP hD hS => ?_)
    replace hP : va_P D vwCl [oX6 h_t q_t (d_t.1), oX4 (q_t 0) q_t_0 (upd v.2.2.1.1 9 (v.2.1)), ((q_t_0 1), .inl (cs 0, 6, .inl (d_t_0.2 1))), ((q_t_0 2), .inl (cs 0, 6, .inl (d_t_0.2 2))), ((q_t_0 4), .inl (cs 0, 3, .inl (d_t_0.2 4))), ((q_t_0 5), .inl (cs 0, 3, .inl (d_t_0.2 5))), oX0 (q_t 1) q_t_1 (d_t_1.1), ((q_t_1 1), .inl (cs 0, 6, .inl (d_t_1.2 1))), ((q_t_1 2), .inl (cs 0, 6, .inl (d_t_1.2 2))), ((q_t_1 3), .inl (cs 0, 6, .inl (d_t_1.2 3))), ((q_t_1 4), .inl (cs 0, 6, .inl (d_t_1.2 4))), oX1 (q_t 8) q_t_8 (v.2.2.2.1), ((q_t_8 1), .inl (cs 0, 12, .inl (v.2.2.2.2 1))), ((q_t_8 2), .inl (cs 0, 12, .inl (v.2.2.2.2 2))), ((q_t_8 3), .inl (cs 0, 12, .inl (v.2.2.2.2 3)))] H := hP
    replace hD : va_D A [oX6 h_t q_t (d_t.1), oX4 (q_t 0) q_t_0 (upd v.2.2.1.1 9 (v.2.1)), ((q_t_0 1), .inl (cs 0, 6, .inl (d_t_0.2 1))), ((q_t_0 2), .inl (cs 0, 6, .inl (d_t_0.2 2))), ((q_t_0 4), .inl (cs 0, 3, .inl (d_t_0.2 4))), ((q_t_0 5), .inl (cs 0, 3, .inl (d_t_0.2 5))), oX0 (q_t 1) q_t_1 (d_t_1.1), ((q_t_1 1), .inl (cs 0, 6, .inl (d_t_1.2 1))), ((q_t_1 2), .inl (cs 0, 6, .inl (d_t_1.2 2))), ((q_t_1 3), .inl (cs 0, 6, .inl (d_t_1.2 3))), ((q_t_1 4), .inl (cs 0, 6, .inl (d_t_1.2 4))), oX1 (q_t 8) q_t_8 (v.2.2.2.1), ((q_t_8 1), .inl (cs 0, 12, .inl (v.2.2.2.2 1))), ((q_t_8 2), .inl (cs 0, 12, .inl (v.2.2.2.2 2))), ((q_t_8 3), .inl (cs 0, 12, .inl (v.2.2.2.2 3)))] := hD
    refine lv_aload_n hx hb dX6_drawn_47 rfl (lv_at hl 0 rfl) ?_
    refine lv_iload_n hx hb dX6_drawn_48 rfl (lv_at hl 1 rfl) ?_
    obtain ⟨r3, e4, hf⟩ := bind_some hf
    refine callVi (As := [.int x1]) (rest := []) M (mX6_isTogether l D cs sk h_t q_t q_t_0 q_t_1 q_t_8 k d_t ((upd v.2.2.1.1 9 (v.2.1)), d_t_0.2) d_t_1 (v.2.2.2.1, (va_up (va_up (va_up d_t_8.2 1 (v.2.2.2.2 1)) 2 (v.2.2.2.2 2)) 3 (v.2.2.2.2 3))) x1 e4) mw_X6_207 ln_X6_isTogether ⟨rfl, rfl, Nat.le_of_ble_eq_true rfl, Nat.le_of_ble_eq_true rfl⟩ hP hD hS hA [0, 1, 2, 3, 4, 5, 6, 7, 8, 9, 10, 11, 12, 13, 14] (by decide) rfl rfl (q0 := 0) rfl rfl rfl ⟨Nat.zero_le _, Nat.zero_le _⟩ hl.1 rfl (Nat.le_of_ble_eq_true rfl) dX6_drawn_49 (fun H locs hP hD hS => ?_)
    replace hP : va_P D vwCl [oX6 h_t q_t (d_t.1), oX4 (q_t 0) q_t_0 (upd v.2.2.1.1 9 (v.2.1)), ((q_t_0 1), .inl (cs 0, 6, .inl (d_t_0.2 1))), ((q_t_0 2), .inl (cs 0, 6, .inl (d_t_0.2 2))), ((q_t_0 4), .inl (cs 0, 3, .inl (d_t_0.2 4))), ((q_t_0 5), .inl (cs 0, 3, .inl (d_t_0.2 5))), oX0 (q_t 1) q_t_1 (d_t_1.1), ((q_t_1 1), .inl (cs 0, 6, .inl (d_t_1.2 1))), ((q_t_1 2), .inl (cs 0, 6, .inl (d_t_1.2 2))), ((q_t_1 3), .inl (cs 0, 6, .inl (d_t_1.2 3))), ((q_t_1 4), .inl (cs 0, 6, .inl (d_t_1.2 4))), oX1 (q_t 8) q_t_8 (r3.2.1), ((q_t_8 1), .inl (cs 0, 12, .inl (r3.2.2 1))), ((q_t_8 2), .inl (cs 0, 12, .inl (r3.2.2 2))), ((q_t_8 3), .inl (cs 0, 12, .inl (r3.2.2 3)))] H := hP
    replace hD : va_D A [oX6 h_t q_t (d_t.1), oX4 (q_t 0) q_t_0 (upd v.2.2.1.1 9 (v.2.1)), ((q_t_0 1), .inl (cs 0, 6, .inl (d_t_0.2 1))), ((q_t_0 2), .inl (cs 0, 6, .inl (d_t_0.2 2))), ((q_t_0 4), .inl (cs 0, 3, .inl (d_t_0.2 4))), ((q_t_0 5), .inl (cs 0, 3, .inl (d_t_0.2 5))), oX0 (q_t 1) q_t_1 (d_t_1.1), ((q_t_1 1), .inl (cs 0, 6, .inl (d_t_1.2 1))), ((q_t_1 2), .inl (cs 0, 6, .inl (d_t_1.2 2))), ((q_t_1 3), .inl (cs 0, 6, .inl (d_t_1.2 3))), ((q_t_1 4), .inl (cs 0, 6, .inl (d_t_1.2 4))), oX1 (q_t 8) q_t_8 (r3.2.1), ((q_t_8 1), .inl (cs 0, 12, .inl (r3.2.2 1))), ((q_t_8 2), .inl (cs 0, 12, .inl (r3.2.2 2))), ((q_t_8 3), .inl (cs 0, 12, .inl (r3.2.2 3)))] := hD
    have g6 := ite_some hf
    refine lv_if_eq (tgt := 58) hx hb dX6_drawn_52 (by decide) (fun c5 => ?_) (fun c5 => ?_)
    · replace hf := g6.1 c5
      refine lv_iinc (v := ((v.2.1) + 1)) (lv' := [(4, .int ((v.2.1) + 1)), (0, .ref h_t), (1, .int x1), (2, .int x2), (3, .int (v.1))]) hx hb dX6_drawn_58 hl (k := 4) rfl rfl (by decide) rfl (fun ls hl => ?_)
      refine lv_goto (tgt := 32) hx hb dX6_drawn_61 (by decide) ?_
      exact ih _ hf _ _ _ hP hD hS (lv_sub hl [1, 2, 3, 4, 0] rfl)
    · replace hf := g6.2 c5
      refine lv_iinc (v := ((v.1) + 1)) (lv' := [(3, .int ((v.1) + 1)), (0, .ref h_t), (1, .int x1), (2, .int x2), (4, .int (v.2.1))]) hx hb dX6_drawn_55 hl (k := 3) rfl rfl (by decide) rfl (fun ls hl => ?_)
      refine lv_iinc (v := ((v.2.1) + 1)) (lv' := [(4, .int ((v.2.1) + 1)), (3, .int ((v.1) + 1)), (0, .ref h_t), (1, .int x1), (2, .int x2)]) hx hb dX6_drawn_58 hl (k := 4) rfl rfl (by decide) rfl (fun ls hl => ?_)
      refine lv_goto (tgt := 32) hx hb dX6_drawn_61 (by decide) ?_
      exact ih _ hf _ _ _ hP hD hS (lv_sub hl [2, 3, 4, 1, 0] rfl)
set_option maxHeartbeats 4000000 in
set_option maxRecDepth 100000 in
theorem mX6_drawn (l : Launch) (D : va_G) (cs : Nat → ClassId) (sk : Nat → Nat) (h_t : Nat) (q_t : Nat → Nat) (q_t_0 : Nat → Nat) (q_t_1 : Nat → Nat) (q_t_8 : Nat → Nat) (k : Nat) (d_t : Dat) (d_t_0 : Dat) (d_t_1 : Dat) (d_t_8 : Dat) (x1 : Int32) {rv : Int32 × Dat × Dat × Dat} (hf : fX6_drawn k d_t d_t_0 d_t_1 d_t_8 x1 = some rv) : CTi l yX6_drawn (Cond.code yX6_drawn cX6_drawn 5 (some .int) :: gtbl) rm_X6_drawn D cs sk [.ref h_t, .int x1] [oX6 h_t q_t (d_t.1), oX4 (q_t 0) q_t_0 (d_t_0.1), ((q_t_0 1), .inl (cs 0, 6, .inl (d_t_0.2 1))), ((q_t_0 2), .inl (cs 0, 6, .inl (d_t_0.2 2))), ((q_t_0 4), .inl (cs 0, 3, .inl (d_t_0.2 4))), ((q_t_0 5), .inl (cs 0, 3, .inl (d_t_0.2 5))), oX0 (q_t 1) q_t_1 (d_t_1.1), ((q_t_1 1), .inl (cs 0, 6, .inl (d_t_1.2 1))), ((q_t_1 2), .inl (cs 0, 6, .inl (d_t_1.2 2))), ((q_t_1 3), .inl (cs 0, 6, .inl (d_t_1.2 3))), ((q_t_1 4), .inl (cs 0, 6, .inl (d_t_1.2 4))), oX1 (q_t 8) q_t_8 (d_t_8.1), ((q_t_8 1), .inl (cs 0, 12, .inl (d_t_8.2 1))), ((q_t_8 2), .inl (cs 0, 12, .inl (d_t_8.2 2))), ((q_t_8 3), .inl (cs 0, 12, .inl (d_t_8.2 3)))] (rv.1) [oX6 h_t q_t (rv.2.1.1), oX4 (q_t 0) q_t_0 (rv.2.2.1.1), ((q_t_0 1), .inl (cs 0, 6, .inl (d_t_0.2 1))), ((q_t_0 2), .inl (cs 0, 6, .inl (d_t_0.2 2))), ((q_t_0 4), .inl (cs 0, 3, .inl (d_t_0.2 4))), ((q_t_0 5), .inl (cs 0, 3, .inl (d_t_0.2 5))), oX0 (q_t 1) q_t_1 (d_t_1.1), ((q_t_1 1), .inl (cs 0, 6, .inl (d_t_1.2 1))), ((q_t_1 2), .inl (cs 0, 6, .inl (d_t_1.2 2))), ((q_t_1 3), .inl (cs 0, 6, .inl (d_t_1.2 3))), ((q_t_1 4), .inl (cs 0, 6, .inl (d_t_1.2 4))), oX1 (q_t 8) q_t_8 (rv.2.2.2.1), ((q_t_8 1), .inl (cs 0, 12, .inl (rv.2.2.2.2 1))), ((q_t_8 2), .inl (cs 0, 12, .inl (rv.2.2.2.2 2))), ((q_t_8 3), .inl (cs 0, 12, .inl (rv.2.2.2.2 3)))] := by
  refine CTi.of RX6 (by decide +kernel) rfl (Nat.le_of_ble_eq_true rfl) (fun p e s m args below meth c A Q ls M hA hR hl hP hD hS => ?_)
  obtain ⟨hx, hb, hml, hT, hown, hlk, hrt, hK, hN, hSE⟩ := id M
  replace hl : lv_has ls 5 [(0, .ref h_t), (1, .int x1)] := hl
  unfold fX6_drawn at hf
  refine lv_iload_n hx hb dX6_drawn_0 rfl (lv_at hl 1 rfl) ?_
  refine lv_iconst (v := 0) hx hb dX6_drawn_1 rfl ?_
  refine lv_sipush (v := 999) hx hb dX6_drawn_2 rfl ?_
  obtain ⟨r1, e2, hf⟩ := bind_some hf
  refine callSi (As := [.int x1, .int 0, .int 999]) (rest := []) M (mX6_isWithin l D cs sk  k x1 0 999 e2) mw_X6_121 ln_X6_isWithin ⟨rfl, rfl, Nat.le_of_ble_eq_true rfl, Nat.le_of_ble_eq_true rfl⟩ hP hD hS hA [] (by decide) rfl rfl ⟨Nat.zero_le _, Nat.zero_le _⟩ hl.1 rfl (Nat.le_of_ble_eq_true rfl) dX6_drawn_5 (fun H locs hP hD hS => ?_)
  replace hP : va_P D vwCl [oX6 h_t q_t (d_t.1), oX4 (q_t 0) q_t_0 (d_t_0.1), ((q_t_0 1), .inl (cs 0, 6, .inl (d_t_0.2 1))), ((q_t_0 2), .inl (cs 0, 6, .inl (d_t_0.2 2))), ((q_t_0 4), .inl (cs 0, 3, .inl (d_t_0.2 4))), ((q_t_0 5), .inl (cs 0, 3, .inl (d_t_0.2 5))), oX0 (q_t 1) q_t_1 (d_t_1.1), ((q_t_1 1), .inl (cs 0, 6, .inl (d_t_1.2 1))), ((q_t_1 2), .inl (cs 0, 6, .inl (d_t_1.2 2))), ((q_t_1 3), .inl (cs 0, 6, .inl (d_t_1.2 3))), ((q_t_1 4), .inl (cs 0, 6, .inl (d_t_1.2 4))), oX1 (q_t 8) q_t_8 (d_t_8.1), ((q_t_8 1), .inl (cs 0, 12, .inl (d_t_8.2 1))), ((q_t_8 2), .inl (cs 0, 12, .inl (d_t_8.2 2))), ((q_t_8 3), .inl (cs 0, 12, .inl (d_t_8.2 3)))] H := hP
  replace hD : va_D A [oX6 h_t q_t (d_t.1), oX4 (q_t 0) q_t_0 (d_t_0.1), ((q_t_0 1), .inl (cs 0, 6, .inl (d_t_0.2 1))), ((q_t_0 2), .inl (cs 0, 6, .inl (d_t_0.2 2))), ((q_t_0 4), .inl (cs 0, 3, .inl (d_t_0.2 4))), ((q_t_0 5), .inl (cs 0, 3, .inl (d_t_0.2 5))), oX0 (q_t 1) q_t_1 (d_t_1.1), ((q_t_1 1), .inl (cs 0, 6, .inl (d_t_1.2 1))), ((q_t_1 2), .inl (cs 0, 6, .inl (d_t_1.2 2))), ((q_t_1 3), .inl (cs 0, 6, .inl (d_t_1.2 3))), ((q_t_1 4), .inl (cs 0, 6, .inl (d_t_1.2 4))), oX1 (q_t 8) q_t_8 (d_t_8.1), ((q_t_8 1), .inl (cs 0, 12, .inl (d_t_8.2 1))), ((q_t_8 2), .inl (cs 0, 12, .inl (d_t_8.2 2))), ((q_t_8 3), .inl (cs 0, 12, .inl (d_t_8.2 3)))] := hD
  have g4 := ite_some hf
  refine lv_if_ne (tgt := 18) hx hb dX6_drawn_8 (by decide) (fun c3 => ?_) (fun c3 => ?_)
  · replace hf := g4.2 c3
    refine lv_aload_n hx hb dX6_drawn_18 rfl (lv_at hl 0 rfl) ?_
    refine va_get (D := D) (ci := 6) (v := .ref (q_t 0)) (C := RX6) (T := TX6) (N := 18) hx hb hT iX6 hown hK hP 0 rfl rfl 0 (by decide) (hT _ fw_X6_10) (fun _ h9 => h9) rfl dX6_drawn_19 ?_
    refine va_get (D := D) (ci := 4) (v := .int (d_t_0.1 9)) (C := RX4) (T := TX4) (N := 11) hx hb hT iX4 hown hK hP 1 rfl rfl 9 (by decide) (hT _ fw_X6_128) (fun _ h9 => h9) rfl dX6_drawn_22 ?_
    refine lv_istore_n (lv' := [(2, .int (d_t_0.1 9)), (0, .ref h_t), (1, .int x1)]) hx hb dX6_drawn_25 rfl hl (by decide) rfl (fun ls hl => ?_)
    refine lv_iconst (v := 0) hx hb dX6_drawn_26 rfl ?_
    refine lv_istore_n (lv' := [(3, .int 0), (2, .int (d_t_0.1 9)), (0, .ref h_t), (1, .int x1)]) hx hb dX6_drawn_27 rfl hl (by decide) rfl (fun ls hl => ?_)
    refine lv_bipush (v := (-2)) hx hb dX6_drawn_28 rfl ?_
    refine lv_istore (lv' := [(4, .int (-2)), (3, .int 0), (2, .int (d_t_0.1 9)), (0, .ref h_t), (1, .int x1)]) hx hb dX6_drawn_30 hl (by decide) rfl (fun ls hl => ?_)
    refine mX6_drawn_B32 h_t q_t q_t_0 q_t_1 q_t_8 k x1 (d_t_0.1 9) d_t d_t_0 d_t_1 d_t_8 _ M hA hR (fun w5 hf H locs ls hP hD hS hl => ?_) _ _ hf _ _ _ hP hD hS (lv_sub hl [3, 4, 2, 1, 0] rfl)
    · refine lv_aload_n hx hb dX6_drawn_64 rfl (lv_at hl 0 rfl) ?_
      refine va_get (D := D) (ci := 6) (v := .ref (q_t 0)) (C := RX6) (T := TX6) (N := 18) hx hb hT iX6 hown hK hP 0 rfl rfl 0 (by decide) (hT _ fw_X6_10) (fun _ h9 => h9) rfl dX6_drawn_65 ?_
      refine lv_iload_n hx hb dX6_drawn_68 rfl (lv_at hl 1 rfl) ?_
      refine va_put (D := D) (ci := 4) (v := .int (d_t_0.1 9)) (ty := tyX4 9) (C := RX4) (T := TX4) (N := 11) hx hb hT iX4 tyX4 tyX4_ok nmX4 hown hK hP hD hS 1 rfl rfl 9 (by decide) (hT _ fw_X6_128) (fun _ h9 => h9) rfl (tyX4_ok 9 (by decide)) rfl rfl (Nat.le_of_ble_eq_true rfl) dX6_drawn_69 (fun H locs hP hD hS => ?_)
      replace hP : va_P D vwCl [oX6 h_t q_t (d_t.1), oX4 (q_t 0) q_t_0 (upd w5.2.1.1 9 (d_t_0.1 9)), ((q_t_0 1), .inl (cs 0, 6, .inl (d_t_0.2 1))), ((q_t_0 2), .inl (cs 0, 6, .inl (d_t_0.2 2))), ((q_t_0 4), .inl (cs 0, 3, .inl (d_t_0.2 4))), ((q_t_0 5), .inl (cs 0, 3, .inl (d_t_0.2 5))), oX0 (q_t 1) q_t_1 (d_t_1.1), ((q_t_1 1), .inl (cs 0, 6, .inl (d_t_1.2 1))), ((q_t_1 2), .inl (cs 0, 6, .inl (d_t_1.2 2))), ((q_t_1 3), .inl (cs 0, 6, .inl (d_t_1.2 3))), ((q_t_1 4), .inl (cs 0, 6, .inl (d_t_1.2 4))), oX1 (q_t 8) q_t_8 (w5.2.2.1), ((q_t_8 1), .inl (cs 0, 12, .inl (w5.2.2.2 1))), ((q_t_8 2), .inl (cs 0, 12, .inl (w5.2.2.2 2))), ((q_t_8 3), .inl (cs 0, 12, .inl (w5.2.2.2 3)))] H := hP
      replace hD : va_D A [oX6 h_t q_t (d_t.1), oX4 (q_t 0) q_t_0 (upd w5.2.1.1 9 (d_t_0.1 9)), ((q_t_0 1), .inl (cs 0, 6, .inl (d_t_0.2 1))), ((q_t_0 2), .inl (cs 0, 6, .inl (d_t_0.2 2))), ((q_t_0 4), .inl (cs 0, 3, .inl (d_t_0.2 4))), ((q_t_0 5), .inl (cs 0, 3, .inl (d_t_0.2 5))), oX0 (q_t 1) q_t_1 (d_t_1.1), ((q_t_1 1), .inl (cs 0, 6, .inl (d_t_1.2 1))), ((q_t_1 2), .inl (cs 0, 6, .inl (d_t_1.2 2))), ((q_t_1 3), .inl (cs 0, 6, .inl (d_t_1.2 3))), ((q_t_1 4), .inl (cs 0, 6, .inl (d_t_1.2 4))), oX1 (q_t 8) q_t_8 (w5.2.2.1), ((q_t_8 1), .inl (cs 0, 12, .inl (w5.2.2.2 1))), ((q_t_8 2), .inl (cs 0, 12, .inl (w5.2.2.2 2))), ((q_t_8 3), .inl (cs 0, 12, .inl (w5.2.2.2 3)))] := hD
      refine lv_iload_n hx hb dX6_drawn_72 rfl (lv_at hl 2 rfl) ?_
      have e9 := Option.some.inj hf
      subst e9
      exact hR _ _ _ _ dX6_drawn_73 hP hS
  · replace hf := g4.1 c3
    refine lv_aload_n hx hb dX6_drawn_11 rfl (lv_at hl 0 rfl) ?_
    refine lv_bipush (v := (-2)) hx hb dX6_drawn_12 rfl ?_
    obtain ⟨r6, e7, hf⟩ := bind_some hf
    refine callVi (As := [.int (-2)]) (rest := []) M (mX6_refuseBad l D cs sk h_t q_t k d_t (-2) e7) mw_X6_96 ln_X6_refuseBad ⟨rfl, rfl, Nat.le_of_ble_eq_true rfl, Nat.le_of_ble_eq_true rfl⟩ hP hD hS hA [0] (by decide) rfl rfl (q0 := 0) rfl rfl rfl ⟨Nat.zero_le _, Nat.zero_le _⟩ hl.1 rfl (Nat.le_of_ble_eq_true rfl) dX6_drawn_14 (fun H locs hP hD hS => ?_)
    replace hP : va_P D vwCl [oX6 h_t q_t (r6.2.1), oX4 (q_t 0) q_t_0 (d_t_0.1), ((q_t_0 1), .inl (cs 0, 6, .inl (d_t_0.2 1))), ((q_t_0 2), .inl (cs 0, 6, .inl (d_t_0.2 2))), ((q_t_0 4), .inl (cs 0, 3, .inl (d_t_0.2 4))), ((q_t_0 5), .inl (cs 0, 3, .inl (d_t_0.2 5))), oX0 (q_t 1) q_t_1 (d_t_1.1), ((q_t_1 1), .inl (cs 0, 6, .inl (d_t_1.2 1))), ((q_t_1 2), .inl (cs 0, 6, .inl (d_t_1.2 2))), ((q_t_1 3), .inl (cs 0, 6, .inl (d_t_1.2 3))), ((q_t_1 4), .inl (cs 0, 6, .inl (d_t_1.2 4))), oX1 (q_t 8) q_t_8 (d_t_8.1), ((q_t_8 1), .inl (cs 0, 12, .inl (d_t_8.2 1))), ((q_t_8 2), .inl (cs 0, 12, .inl (d_t_8.2 2))), ((q_t_8 3), .inl (cs 0, 12, .inl (d_t_8.2 3)))] H := hP
    replace hD : va_D A [oX6 h_t q_t (r6.2.1), oX4 (q_t 0) q_t_0 (d_t_0.1), ((q_t_0 1), .inl (cs 0, 6, .inl (d_t_0.2 1))), ((q_t_0 2), .inl (cs 0, 6, .inl (d_t_0.2 2))), ((q_t_0 4), .inl (cs 0, 3, .inl (d_t_0.2 4))), ((q_t_0 5), .inl (cs 0, 3, .inl (d_t_0.2 5))), oX0 (q_t 1) q_t_1 (d_t_1.1), ((q_t_1 1), .inl (cs 0, 6, .inl (d_t_1.2 1))), ((q_t_1 2), .inl (cs 0, 6, .inl (d_t_1.2 2))), ((q_t_1 3), .inl (cs 0, 6, .inl (d_t_1.2 3))), ((q_t_1 4), .inl (cs 0, 6, .inl (d_t_1.2 4))), oX1 (q_t 8) q_t_8 (d_t_8.1), ((q_t_8 1), .inl (cs 0, 12, .inl (d_t_8.2 1))), ((q_t_8 2), .inl (cs 0, 12, .inl (d_t_8.2 2))), ((q_t_8 3), .inl (cs 0, 12, .inl (d_t_8.2 3)))] := hD
    have e9 := Option.some.inj hf
    subst e9
    exact hR _ _ _ _ dX6_drawn_17 hP hS
abbrev rm_X6_image_0 : Room := { frames := 3, cells := 0, slots := 0, locals := 102 }
def fX6_image_0 (k : Nat) (d_t : Dat) (d_t_0 : Dat) (d_t_1 : Dat) (d_t_2_0 : Dat) (d_t_3_0 : Dat) (x1 : Int32) : Option (Int32 × Dat × Dat × Dat) :=
  (fX6_isWithin k 0 0 1).bind (fun (r1 : Int32) => (if r1 = 0 then (fX6_refuseBad k d_t (-2)).bind (fun (r9 : Int32 × Dat) => some ((r9.1), (r9.2.1, d_t.2), d_t_2_0, d_t_3_0)) else (fX4_becomeLike k d_t_2_0 d_t_0).bind (fun (r5 : Dat) => (fX0_becomeLike k d_t_3_0 d_t_1).bind (fun (r7 : Dat) => chk 2 0 (some (1, (d_t.1, (va_up d_t.2 4 (upd (d_t.2 4) (0 : Int32).toNatClampNeg 1))), (r5.1, (va_up (va_up (va_up (va_up d_t_2_0.2 1 (r5.2 1)) 2 (r5.2 2)) 4 (r5.2 4)) 5 (r5.2 5))), (r7.1, (va_up (va_up (va_up (va_up (va_up (va_up d_t_3_0.2 1 (r7.2 1)) 2 (r7.2 2)) 3 (r7.2 3)) 4 (r7.2 4)) 5 (r7.2 5)) 9 (r7.2 9)))))))))
set_option maxHeartbeats 4000000 in
set_option maxRecDepth 100000 in
theorem mX6_image_0 (l : Launch) (D : va_G) (cs : Nat → ClassId) (sk : Nat → Nat) (h_t : Nat) (q_t : Nat → Nat) (q_t_0 : Nat → Nat) (q_t_1 : Nat → Nat) (q_t_2 : Nat → Nat) (q_t_2_0 : Nat → Nat) (q_t_3 : Nat → Nat) (q_t_3_0 : Nat → Nat) (k : Nat) (d_t : Dat) (d_t_0 : Dat) (d_t_1 : Dat) (d_t_2_0 : Dat) (d_t_3_0 : Dat) (x1 : Int32) {rv : Int32 × Dat × Dat × Dat} (hx1 : x1 = 0) (hf : fX6_image_0 k d_t d_t_0 d_t_1 d_t_2_0 d_t_3_0 x1 = some rv) : CTi l yX6_image (Cond.code yX6_image cX6_image 2 (some .int) :: gtbl) rm_X6_image_0 D cs sk [.ref h_t, .int x1] [oX6 h_t q_t (d_t.1), oX4 (q_t 0) q_t_0 (d_t_0.1), ((q_t_0 1), .inl (cs 0, 6, .inl (d_t_0.2 1))), ((q_t_0 2), .inl (cs 0, 6, .inl (d_t_0.2 2))), ((q_t_0 4), .inl (cs 0, 3, .inl (d_t_0.2 4))), ((q_t_0 5), .inl (cs 0, 3, .inl (d_t_0.2 5))), oX0 (q_t 1) q_t_1 (d_t_1.1), ((q_t_1 1), .inl (cs 0, 6, .inl (d_t_1.2 1))), ((q_t_1 2), .inl (cs 0, 6, .inl (d_t_1.2 2))), ((q_t_1 3), .inl (cs 0, 6, .inl (d_t_1.2 3))), ((q_t_1 4), .inl (cs 0, 6, .inl (d_t_1.2 4))), ((q_t_1 5), .inl (cs 0, 6, .inl (d_t_1.2 5))), ((q_t_1 9), .inl (cs 0, 48, .inl (d_t_1.2 9))), ((q_t 2), .inl (cs 3, 2, .inr (.inr (.inr (.inr (fun j => some (q_t_2 j))))))), oX4 (q_t_2 0) q_t_2_0 (d_t_2_0.1), ((q_t_2_0 1), .inl (cs 0, 6, .inl (d_t_2_0.2 1))), ((q_t_2_0 2), .inl (cs 0, 6, .inl (d_t_2_0.2 2))), ((q_t_2_0 4), .inl (cs 0, 3, .inl (d_t_2_0.2 4))), ((q_t_2_0 5), .inl (cs 0, 3, .inl (d_t_2_0.2 5))), ((q_t 3), .inl (cs 4, 2, .inr (.inr (.inr (.inr (fun j => some (q_t_3 j))))))), oX0 (q_t_3 0) q_t_3_0 (d_t_3_0.1), ((q_t_3_0 1), .inl (cs 0, 6, .inl (d_t_3_0.2 1))), ((q_t_3_0 2), .inl (cs 0, 6, .inl (d_t_3_0.2 2))), ((q_t_3_0 3), .inl (cs 0, 6, .inl (d_t_3_0.2 3))), ((q_t_3_0 4), .inl (cs 0, 6, .inl (d_t_3_0.2 4))), ((q_t_3_0 5), .inl (cs 0, 6, .inl (d_t_3_0.2 5))), ((q_t_3_0 9), .inl (cs 0, 48, .inl (d_t_3_0.2 9))), ((q_t 4), .inl (cs 0, 2, .inl (d_t.2 4)))] (rv.1) [oX6 h_t q_t (rv.2.1.1), oX4 (q_t 0) q_t_0 (d_t_0.1), ((q_t_0 1), .inl (cs 0, 6, .inl (d_t_0.2 1))), ((q_t_0 2), .inl (cs 0, 6, .inl (d_t_0.2 2))), ((q_t_0 4), .inl (cs 0, 3, .inl (d_t_0.2 4))), ((q_t_0 5), .inl (cs 0, 3, .inl (d_t_0.2 5))), oX0 (q_t 1) q_t_1 (d_t_1.1), ((q_t_1 1), .inl (cs 0, 6, .inl (d_t_1.2 1))), ((q_t_1 2), .inl (cs 0, 6, .inl (d_t_1.2 2))), ((q_t_1 3), .inl (cs 0, 6, .inl (d_t_1.2 3))), ((q_t_1 4), .inl (cs 0, 6, .inl (d_t_1.2 4))), ((q_t_1 5), .inl (cs 0, 6, .inl (d_t_1.2 5))), ((q_t_1 9), .inl (cs 0, 48, .inl (d_t_1.2 9))), ((q_t 2), .inl (cs 3, 2, .inr (.inr (.inr (.inr (fun j => some (q_t_2 j))))))), oX4 (q_t_2 0) q_t_2_0 (rv.2.2.1.1), ((q_t_2_0 1), .inl (cs 0, 6, .inl (rv.2.2.1.2 1))), ((q_t_2_0 2), .inl (cs 0, 6, .inl (rv.2.2.1.2 2))), ((q_t_2_0 4), .inl (cs 0, 3, .inl (rv.2.2.1.2 4))), ((q_t_2_0 5), .inl (cs 0, 3, .inl (rv.2.2.1.2 5))), ((q_t 3), .inl (cs 4, 2, .inr (.inr (.inr (.inr (fun j => some (q_t_3 j))))))), oX0 (q_t_3 0) q_t_3_0 (rv.2.2.2.1), ((q_t_3_0 1), .inl (cs 0, 6, .inl (rv.2.2.2.2 1))), ((q_t_3_0 2), .inl (cs 0, 6, .inl (rv.2.2.2.2 2))), ((q_t_3_0 3), .inl (cs 0, 6, .inl (rv.2.2.2.2 3))), ((q_t_3_0 4), .inl (cs 0, 6, .inl (rv.2.2.2.2 4))), ((q_t_3_0 5), .inl (cs 0, 6, .inl (rv.2.2.2.2 5))), ((q_t_3_0 9), .inl (cs 0, 48, .inl (rv.2.2.2.2 9))), ((q_t 4), .inl (cs 0, 2, .inl (rv.2.1.2 4)))] := by
  subst hx1
  refine CTi.of RX6 (by decide +kernel) rfl (Nat.le_of_ble_eq_true rfl) (fun p e s m args below meth c A Q ls M hA hR hl hP hD hS => ?_)
  obtain ⟨hx, hb, hml, hT, hown, hlk, hrt, hK, hN, hSE⟩ := id M
  replace hl : lv_has ls 2 [(0, .ref h_t), (1, .int 0)] := hl
  unfold fX6_image_0 at hf
  refine lv_iload_n hx hb dX6_image_0 rfl (lv_at hl 1 rfl) ?_
  refine lv_iconst (v := 0) hx hb dX6_image_1 rfl ?_
  refine lv_iconst (v := 1) hx hb dX6_image_2 rfl ?_
  obtain ⟨r1, e2, hf⟩ := bind_some hf
  refine callSi (As := [.int 0, .int 0, .int 1]) (rest := []) M (mX6_isWithin l D cs sk  k 0 0 1 e2) mw_X6_121 ln_X6_isWithin ⟨rfl, rfl, Nat.le_of_ble_eq_true rfl, Nat.le_of_ble_eq_true rfl⟩ hP hD hS hA [] (by decide) rfl rfl ⟨Nat.zero_le _, Nat.zero_le _⟩ hl.1 rfl (Nat.le_of_ble_eq_true rfl) dX6_image_3 (fun H locs hP hD hS => ?_)
  replace hP : va_P D vwCl [oX6 h_t q_t (d_t.1), oX4 (q_t 0) q_t_0 (d_t_0.1), ((q_t_0 1), .inl (cs 0, 6, .inl (d_t_0.2 1))), ((q_t_0 2), .inl (cs 0, 6, .inl (d_t_0.2 2))), ((q_t_0 4), .inl (cs 0, 3, .inl (d_t_0.2 4))), ((q_t_0 5), .inl (cs 0, 3, .inl (d_t_0.2 5))), oX0 (q_t 1) q_t_1 (d_t_1.1), ((q_t_1 1), .inl (cs 0, 6, .inl (d_t_1.2 1))), ((q_t_1 2), .inl (cs 0, 6, .inl (d_t_1.2 2))), ((q_t_1 3), .inl (cs 0, 6, .inl (d_t_1.2 3))), ((q_t_1 4), .inl (cs 0, 6, .inl (d_t_1.2 4))), ((q_t_1 5), .inl (cs 0, 6, .inl (d_t_1.2 5))), ((q_t_1 9), .inl (cs 0, 48, .inl (d_t_1.2 9))), ((q_t 2), .inl (cs 3, 2, .inr (.inr (.inr (.inr (fun j => some (q_t_2 j))))))), oX4 (q_t_2 0) q_t_2_0 (d_t_2_0.1), ((q_t_2_0 1), .inl (cs 0, 6, .inl (d_t_2_0.2 1))), ((q_t_2_0 2), .inl (cs 0, 6, .inl (d_t_2_0.2 2))), ((q_t_2_0 4), .inl (cs 0, 3, .inl (d_t_2_0.2 4))), ((q_t_2_0 5), .inl (cs 0, 3, .inl (d_t_2_0.2 5))), ((q_t 3), .inl (cs 4, 2, .inr (.inr (.inr (.inr (fun j => some (q_t_3 j))))))), oX0 (q_t_3 0) q_t_3_0 (d_t_3_0.1), ((q_t_3_0 1), .inl (cs 0, 6, .inl (d_t_3_0.2 1))), ((q_t_3_0 2), .inl (cs 0, 6, .inl (d_t_3_0.2 2))), ((q_t_3_0 3), .inl (cs 0, 6, .inl (d_t_3_0.2 3))), ((q_t_3_0 4), .inl (cs 0, 6, .inl (d_t_3_0.2 4))), ((q_t_3_0 5), .inl (cs 0, 6, .inl (d_t_3_0.2 5))), ((q_t_3_0 9), .inl (cs 0, 48, .inl (d_t_3_0.2 9))), ((q_t 4), .inl (cs 0, 2, .inl (d_t.2 4)))] H := hP
  replace hD : va_D A [oX6 h_t q_t (d_t.1), oX4 (q_t 0) q_t_0 (d_t_0.1), ((q_t_0 1), .inl (cs 0, 6, .inl (d_t_0.2 1))), ((q_t_0 2), .inl (cs 0, 6, .inl (d_t_0.2 2))), ((q_t_0 4), .inl (cs 0, 3, .inl (d_t_0.2 4))), ((q_t_0 5), .inl (cs 0, 3, .inl (d_t_0.2 5))), oX0 (q_t 1) q_t_1 (d_t_1.1), ((q_t_1 1), .inl (cs 0, 6, .inl (d_t_1.2 1))), ((q_t_1 2), .inl (cs 0, 6, .inl (d_t_1.2 2))), ((q_t_1 3), .inl (cs 0, 6, .inl (d_t_1.2 3))), ((q_t_1 4), .inl (cs 0, 6, .inl (d_t_1.2 4))), ((q_t_1 5), .inl (cs 0, 6, .inl (d_t_1.2 5))), ((q_t_1 9), .inl (cs 0, 48, .inl (d_t_1.2 9))), ((q_t 2), .inl (cs 3, 2, .inr (.inr (.inr (.inr (fun j => some (q_t_2 j))))))), oX4 (q_t_2 0) q_t_2_0 (d_t_2_0.1), ((q_t_2_0 1), .inl (cs 0, 6, .inl (d_t_2_0.2 1))), ((q_t_2_0 2), .inl (cs 0, 6, .inl (d_t_2_0.2 2))), ((q_t_2_0 4), .inl (cs 0, 3, .inl (d_t_2_0.2 4))), ((q_t_2_0 5), .inl (cs 0, 3, .inl (d_t_2_0.2 5))), ((q_t 3), .inl (cs 4, 2, .inr (.inr (.inr (.inr (fun j => some (q_t_3 j))))))), oX0 (q_t_3 0) q_t_3_0 (d_t_3_0.1), ((q_t_3_0 1), .inl (cs 0, 6, .inl (d_t_3_0.2 1))), ((q_t_3_0 2), .inl (cs 0, 6, .inl (d_t_3_0.2 2))), ((q_t_3_0 3), .inl (cs 0, 6, .inl (d_t_3_0.2 3))), ((q_t_3_0 4), .inl (cs 0, 6, .inl (d_t_3_0.2 4))), ((q_t_3_0 5), .inl (cs 0, 6, .inl (d_t_3_0.2 5))), ((q_t_3_0 9), .inl (cs 0, 48, .inl (d_t_3_0.2 9))), ((q_t 4), .inl (cs 0, 2, .inl (d_t.2 4)))] := hD
  have g4 := ite_some hf
  refine lv_if_ne (tgt := 16) hx hb dX6_image_6 (by decide) (fun c3 => ?_) (fun c3 => ?_)
  · replace hf := g4.2 c3
    refine lv_aload_n hx hb dX6_image_16 rfl (lv_at hl 0 rfl) ?_
    refine va_get (D := D) (ci := 6) (v := .ref (q_t 2)) (C := RX6) (T := TX6) (N := 18) hx hb hT iX6 hown hK hP 0 rfl rfl 2 (by decide) (hT _ fw_X6_23) (fun _ h9 => h9) rfl dX6_image_17 ?_
    refine lv_iload_n hx hb dX6_image_20 rfl (lv_at hl 1 rfl) ?_
    refine va_aldq (D := D) (C := "TownPlayers$Streets") hx hb hK hP 13 3 rfl rfl (by unfold vp_in; decide) dX6_image_21 ?_
    refine W.eq (g2 := F0 m 22 ls [.ref (q_t_2 0)]) rfl ?_
    refine lv_aload_n hx hb dX6_image_22 rfl (lv_at hl 0 rfl) ?_
    refine va_get (D := D) (ci := 6) (v := .ref (q_t 0)) (C := RX6) (T := TX6) (N := 18) hx hb hT iX6 hown hK hP 0 rfl rfl 0 (by decide) (hT _ fw_X6_10) (fun _ h9 => h9) rfl dX6_image_23 ?_
    obtain ⟨r5, e6, hf⟩ := bind_some hf
    refine callVv (As := [.ref (q_t 0)]) (rest := []) M (mX4_becomeLike l D cs sk (q_t_2 0) (q_t 0) q_t_2_0 q_t_0 k d_t_2_0 d_t_0 e6) mw_X6_166 ln_X4_becomeLike ⟨rfl, rfl, Nat.le_of_ble_eq_true rfl, Nat.le_of_ble_eq_true rfl⟩ hP hD hS hA [14, 15, 16, 17, 18, 1, 2, 3, 4, 5] (by decide) rfl rfl (q0 := 0) rfl rfl rfl ⟨Nat.zero_le _, Nat.zero_le _⟩ hl.1 rfl (Nat.le_of_ble_eq_true rfl) dX6_image_26 (fun H locs hP hD hS => ?_)
    replace hP : va_P D vwCl [oX6 h_t q_t (d_t.1), oX4 (q_t 0) q_t_0 (d_t_0.1), ((q_t_0 1), .inl (cs 0, 6, .inl (d_t_0.2 1))), ((q_t_0 2), .inl (cs 0, 6, .inl (d_t_0.2 2))), ((q_t_0 4), .inl (cs 0, 3, .inl (d_t_0.2 4))), ((q_t_0 5), .inl (cs 0, 3, .inl (d_t_0.2 5))), oX0 (q_t 1) q_t_1 (d_t_1.1), ((q_t_1 1), .inl (cs 0, 6, .inl (d_t_1.2 1))), ((q_t_1 2), .inl (cs 0, 6, .inl (d_t_1.2 2))), ((q_t_1 3), .inl (cs 0, 6, .inl (d_t_1.2 3))), ((q_t_1 4), .inl (cs 0, 6, .inl (d_t_1.2 4))), ((q_t_1 5), .inl (cs 0, 6, .inl (d_t_1.2 5))), ((q_t_1 9), .inl (cs 0, 48, .inl (d_t_1.2 9))), ((q_t 2), .inl (cs 3, 2, .inr (.inr (.inr (.inr (fun j => some (q_t_2 j))))))), oX4 (q_t_2 0) q_t_2_0 (r5.1), ((q_t_2_0 1), .inl (cs 0, 6, .inl (r5.2 1))), ((q_t_2_0 2), .inl (cs 0, 6, .inl (r5.2 2))), ((q_t_2_0 4), .inl (cs 0, 3, .inl (r5.2 4))), ((q_t_2_0 5), .inl (cs 0, 3, .inl (r5.2 5))), ((q_t 3), .inl (cs 4, 2, .inr (.inr (.inr (.inr (fun j => some (q_t_3 j))))))), oX0 (q_t_3 0) q_t_3_0 (d_t_3_0.1), ((q_t_3_0 1), .inl (cs 0, 6, .inl (d_t_3_0.2 1))), ((q_t_3_0 2), .inl (cs 0, 6, .inl (d_t_3_0.2 2))), ((q_t_3_0 3), .inl (cs 0, 6, .inl (d_t_3_0.2 3))), ((q_t_3_0 4), .inl (cs 0, 6, .inl (d_t_3_0.2 4))), ((q_t_3_0 5), .inl (cs 0, 6, .inl (d_t_3_0.2 5))), ((q_t_3_0 9), .inl (cs 0, 48, .inl (d_t_3_0.2 9))), ((q_t 4), .inl (cs 0, 2, .inl (d_t.2 4)))] H := hP
    replace hD : va_D A [oX6 h_t q_t (d_t.1), oX4 (q_t 0) q_t_0 (d_t_0.1), ((q_t_0 1), .inl (cs 0, 6, .inl (d_t_0.2 1))), ((q_t_0 2), .inl (cs 0, 6, .inl (d_t_0.2 2))), ((q_t_0 4), .inl (cs 0, 3, .inl (d_t_0.2 4))), ((q_t_0 5), .inl (cs 0, 3, .inl (d_t_0.2 5))), oX0 (q_t 1) q_t_1 (d_t_1.1), ((q_t_1 1), .inl (cs 0, 6, .inl (d_t_1.2 1))), ((q_t_1 2), .inl (cs 0, 6, .inl (d_t_1.2 2))), ((q_t_1 3), .inl (cs 0, 6, .inl (d_t_1.2 3))), ((q_t_1 4), .inl (cs 0, 6, .inl (d_t_1.2 4))), ((q_t_1 5), .inl (cs 0, 6, .inl (d_t_1.2 5))), ((q_t_1 9), .inl (cs 0, 48, .inl (d_t_1.2 9))), ((q_t 2), .inl (cs 3, 2, .inr (.inr (.inr (.inr (fun j => some (q_t_2 j))))))), oX4 (q_t_2 0) q_t_2_0 (r5.1), ((q_t_2_0 1), .inl (cs 0, 6, .inl (r5.2 1))), ((q_t_2_0 2), .inl (cs 0, 6, .inl (r5.2 2))), ((q_t_2_0 4), .inl (cs 0, 3, .inl (r5.2 4))), ((q_t_2_0 5), .inl (cs 0, 3, .inl (r5.2 5))), ((q_t 3), .inl (cs 4, 2, .inr (.inr (.inr (.inr (fun j => some (q_t_3 j))))))), oX0 (q_t_3 0) q_t_3_0 (d_t_3_0.1), ((q_t_3_0 1), .inl (cs 0, 6, .inl (d_t_3_0.2 1))), ((q_t_3_0 2), .inl (cs 0, 6, .inl (d_t_3_0.2 2))), ((q_t_3_0 3), .inl (cs 0, 6, .inl (d_t_3_0.2 3))), ((q_t_3_0 4), .inl (cs 0, 6, .inl (d_t_3_0.2 4))), ((q_t_3_0 5), .inl (cs 0, 6, .inl (d_t_3_0.2 5))), ((q_t_3_0 9), .inl (cs 0, 48, .inl (d_t_3_0.2 9))), ((q_t 4), .inl (cs 0, 2, .inl (d_t.2 4)))] := hD
    refine lv_aload_n hx hb dX6_image_29 rfl (lv_at hl 0 rfl) ?_
    refine va_get (D := D) (ci := 6) (v := .ref (q_t 3)) (C := RX6) (T := TX6) (N := 18) hx hb hT iX6 hown hK hP 0 rfl rfl 3 (by decide) (hT _ fw_X6_27) (fun _ h9 => h9) rfl dX6_image_30 ?_
    refine lv_iload_n hx hb dX6_image_33 rfl (lv_at hl 1 rfl) ?_
    refine va_aldq (D := D) (C := "TownPlayers$Band") hx hb hK hP 19 4 rfl rfl (by unfold vp_in; decide) dX6_image_34 ?_
    refine W.eq (g2 := F0 m 35 ls [.ref (q_t_3 0)]) rfl ?_
    refine lv_aload_n hx hb dX6_image_35 rfl (lv_at hl 0 rfl) ?_
    refine va_get (D := D) (ci := 6) (v := .ref (q_t 1)) (C := RX6) (T := TX6) (N := 18) hx hb hT iX6 hown hK hP 0 rfl rfl 1 (by decide) (hT _ fw_X6_19) (fun _ h9 => h9) rfl dX6_image_36 ?_
    obtain ⟨r7, e8, hf⟩ := bind_some hf
    refine callVv (As := [.ref (q_t 1)]) (rest := []) M (mX0_becomeLike l D cs sk (q_t_3 0) (q_t 1) q_t_3_0 q_t_1 k d_t_3_0 d_t_1 e8) mw_X6_181 ln_X0_becomeLike ⟨rfl, rfl, Nat.le_of_ble_eq_true rfl, Nat.le_of_ble_eq_true rfl⟩ hP hD hS hA [20, 21, 22, 23, 24, 25, 26, 6, 7, 8, 9, 10, 11, 12] (by decide) rfl rfl (q0 := 0) rfl rfl rfl ⟨Nat.zero_le _, Nat.zero_le _⟩ hl.1 rfl (Nat.le_of_ble_eq_true rfl) dX6_image_39 (fun H locs hP hD hS => ?_)
    replace hP : va_P D vwCl [oX6 h_t q_t (d_t.1), oX4 (q_t 0) q_t_0 (d_t_0.1), ((q_t_0 1), .inl (cs 0, 6, .inl (d_t_0.2 1))), ((q_t_0 2), .inl (cs 0, 6, .inl (d_t_0.2 2))), ((q_t_0 4), .inl (cs 0, 3, .inl (d_t_0.2 4))), ((q_t_0 5), .inl (cs 0, 3, .inl (d_t_0.2 5))), oX0 (q_t 1) q_t_1 (d_t_1.1), ((q_t_1 1), .inl (cs 0, 6, .inl (d_t_1.2 1))), ((q_t_1 2), .inl (cs 0, 6, .inl (d_t_1.2 2))), ((q_t_1 3), .inl (cs 0, 6, .inl (d_t_1.2 3))), ((q_t_1 4), .inl (cs 0, 6, .inl (d_t_1.2 4))), ((q_t_1 5), .inl (cs 0, 6, .inl (d_t_1.2 5))), ((q_t_1 9), .inl (cs 0, 48, .inl (d_t_1.2 9))), ((q_t 2), .inl (cs 3, 2, .inr (.inr (.inr (.inr (fun j => some (q_t_2 j))))))), oX4 (q_t_2 0) q_t_2_0 (r5.1), ((q_t_2_0 1), .inl (cs 0, 6, .inl (r5.2 1))), ((q_t_2_0 2), .inl (cs 0, 6, .inl (r5.2 2))), ((q_t_2_0 4), .inl (cs 0, 3, .inl (r5.2 4))), ((q_t_2_0 5), .inl (cs 0, 3, .inl (r5.2 5))), ((q_t 3), .inl (cs 4, 2, .inr (.inr (.inr (.inr (fun j => some (q_t_3 j))))))), oX0 (q_t_3 0) q_t_3_0 (r7.1), ((q_t_3_0 1), .inl (cs 0, 6, .inl (r7.2 1))), ((q_t_3_0 2), .inl (cs 0, 6, .inl (r7.2 2))), ((q_t_3_0 3), .inl (cs 0, 6, .inl (r7.2 3))), ((q_t_3_0 4), .inl (cs 0, 6, .inl (r7.2 4))), ((q_t_3_0 5), .inl (cs 0, 6, .inl (r7.2 5))), ((q_t_3_0 9), .inl (cs 0, 48, .inl (r7.2 9))), ((q_t 4), .inl (cs 0, 2, .inl (d_t.2 4)))] H := hP
    replace hD : va_D A [oX6 h_t q_t (d_t.1), oX4 (q_t 0) q_t_0 (d_t_0.1), ((q_t_0 1), .inl (cs 0, 6, .inl (d_t_0.2 1))), ((q_t_0 2), .inl (cs 0, 6, .inl (d_t_0.2 2))), ((q_t_0 4), .inl (cs 0, 3, .inl (d_t_0.2 4))), ((q_t_0 5), .inl (cs 0, 3, .inl (d_t_0.2 5))), oX0 (q_t 1) q_t_1 (d_t_1.1), ((q_t_1 1), .inl (cs 0, 6, .inl (d_t_1.2 1))), ((q_t_1 2), .inl (cs 0, 6, .inl (d_t_1.2 2))), ((q_t_1 3), .inl (cs 0, 6, .inl (d_t_1.2 3))), ((q_t_1 4), .inl (cs 0, 6, .inl (d_t_1.2 4))), ((q_t_1 5), .inl (cs 0, 6, .inl (d_t_1.2 5))), ((q_t_1 9), .inl (cs 0, 48, .inl (d_t_1.2 9))), ((q_t 2), .inl (cs 3, 2, .inr (.inr (.inr (.inr (fun j => some (q_t_2 j))))))), oX4 (q_t_2 0) q_t_2_0 (r5.1), ((q_t_2_0 1), .inl (cs 0, 6, .inl (r5.2 1))), ((q_t_2_0 2), .inl (cs 0, 6, .inl (r5.2 2))), ((q_t_2_0 4), .inl (cs 0, 3, .inl (r5.2 4))), ((q_t_2_0 5), .inl (cs 0, 3, .inl (r5.2 5))), ((q_t 3), .inl (cs 4, 2, .inr (.inr (.inr (.inr (fun j => some (q_t_3 j))))))), oX0 (q_t_3 0) q_t_3_0 (r7.1), ((q_t_3_0 1), .inl (cs 0, 6, .inl (r7.2 1))), ((q_t_3_0 2), .inl (cs 0, 6, .inl (r7.2 2))), ((q_t_3_0 3), .inl (cs 0, 6, .inl (r7.2 3))), ((q_t_3_0 4), .inl (cs 0, 6, .inl (r7.2 4))), ((q_t_3_0 5), .inl (cs 0, 6, .inl (r7.2 5))), ((q_t_3_0 9), .inl (cs 0, 48, .inl (r7.2 9))), ((q_t 4), .inl (cs 0, 2, .inl (d_t.2 4)))] := hD
    refine lv_aload_n hx hb dX6_image_42 rfl (lv_at hl 0 rfl) ?_
    refine va_get (D := D) (ci := 6) (v := .ref (q_t 4)) (C := RX6) (T := TX6) (N := 18) hx hb hT iX6 hown hK hP 0 rfl rfl 4 (by decide) (hT _ fw_X6_31) (fun _ h9 => h9) rfl dX6_image_43 ?_
    refine lv_iload_n hx hb dX6_image_46 rfl (lv_at hl 1 rfl) ?_
    refine lv_iconst (v := 1) hx hb dX6_image_47 rfl ?_
    obtain ⟨hi, hf⟩ := chk_some hf
    refine va_iast (D := D) hx hb hK hP hD hS 27 0 rfl rfl hi dX6_image_48 (fun H locs hP hD hS => ?_)
    replace hP : va_P D vwCl [oX6 h_t q_t (d_t.1), oX4 (q_t 0) q_t_0 (d_t_0.1), ((q_t_0 1), .inl (cs 0, 6, .inl (d_t_0.2 1))), ((q_t_0 2), .inl (cs 0, 6, .inl (d_t_0.2 2))), ((q_t_0 4), .inl (cs 0, 3, .inl (d_t_0.2 4))), ((q_t_0 5), .inl (cs 0, 3, .inl (d_t_0.2 5))), oX0 (q_t 1) q_t_1 (d_t_1.1), ((q_t_1 1), .inl (cs 0, 6, .inl (d_t_1.2 1))), ((q_t_1 2), .inl (cs 0, 6, .inl (d_t_1.2 2))), ((q_t_1 3), .inl (cs 0, 6, .inl (d_t_1.2 3))), ((q_t_1 4), .inl (cs 0, 6, .inl (d_t_1.2 4))), ((q_t_1 5), .inl (cs 0, 6, .inl (d_t_1.2 5))), ((q_t_1 9), .inl (cs 0, 48, .inl (d_t_1.2 9))), ((q_t 2), .inl (cs 3, 2, .inr (.inr (.inr (.inr (fun j => some (q_t_2 j))))))), oX4 (q_t_2 0) q_t_2_0 (r5.1), ((q_t_2_0 1), .inl (cs 0, 6, .inl (r5.2 1))), ((q_t_2_0 2), .inl (cs 0, 6, .inl (r5.2 2))), ((q_t_2_0 4), .inl (cs 0, 3, .inl (r5.2 4))), ((q_t_2_0 5), .inl (cs 0, 3, .inl (r5.2 5))), ((q_t 3), .inl (cs 4, 2, .inr (.inr (.inr (.inr (fun j => some (q_t_3 j))))))), oX0 (q_t_3 0) q_t_3_0 (r7.1), ((q_t_3_0 1), .inl (cs 0, 6, .inl (r7.2 1))), ((q_t_3_0 2), .inl (cs 0, 6, .inl (r7.2 2))), ((q_t_3_0 3), .inl (cs 0, 6, .inl (r7.2 3))), ((q_t_3_0 4), .inl (cs 0, 6, .inl (r7.2 4))), ((q_t_3_0 5), .inl (cs 0, 6, .inl (r7.2 5))), ((q_t_3_0 9), .inl (cs 0, 48, .inl (r7.2 9))), ((q_t 4), .inl (cs 0, 2, .inl (upd (d_t.2 4) (0 : Int32).toNatClampNeg 1)))] H := hP
    replace hD : va_D A [oX6 h_t q_t (d_t.1), oX4 (q_t 0) q_t_0 (d_t_0.1), ((q_t_0 1), .inl (cs 0, 6, .inl (d_t_0.2 1))), ((q_t_0 2), .inl (cs 0, 6, .inl (d_t_0.2 2))), ((q_t_0 4), .inl (cs 0, 3, .inl (d_t_0.2 4))), ((q_t_0 5), .inl (cs 0, 3, .inl (d_t_0.2 5))), oX0 (q_t 1) q_t_1 (d_t_1.1), ((q_t_1 1), .inl (cs 0, 6, .inl (d_t_1.2 1))), ((q_t_1 2), .inl (cs 0, 6, .inl (d_t_1.2 2))), ((q_t_1 3), .inl (cs 0, 6, .inl (d_t_1.2 3))), ((q_t_1 4), .inl (cs 0, 6, .inl (d_t_1.2 4))), ((q_t_1 5), .inl (cs 0, 6, .inl (d_t_1.2 5))), ((q_t_1 9), .inl (cs 0, 48, .inl (d_t_1.2 9))), ((q_t 2), .inl (cs 3, 2, .inr (.inr (.inr (.inr (fun j => some (q_t_2 j))))))), oX4 (q_t_2 0) q_t_2_0 (r5.1), ((q_t_2_0 1), .inl (cs 0, 6, .inl (r5.2 1))), ((q_t_2_0 2), .inl (cs 0, 6, .inl (r5.2 2))), ((q_t_2_0 4), .inl (cs 0, 3, .inl (r5.2 4))), ((q_t_2_0 5), .inl (cs 0, 3, .inl (r5.2 5))), ((q_t 3), .inl (cs 4, 2, .inr (.inr (.inr (.inr (fun j => some (q_t_3 j))))))), oX0 (q_t_3 0) q_t_3_0 (r7.1), ((q_t_3_0 1), .inl (cs 0, 6, .inl (r7.2 1))), ((q_t_3_0 2), .inl (cs 0, 6, .inl (r7.2 2))), ((q_t_3_0 3), .inl (cs 0, 6, .inl (r7.2 3))), ((q_t_3_0 4), .inl (cs 0, 6, .inl (r7.2 4))), ((q_t_3_0 5), .inl (cs 0, 6, .inl (r7.2 5))), ((q_t_3_0 9), .inl (cs 0, 48, .inl (r7.2 9))), ((q_t 4), .inl (cs 0, 2, .inl (upd (d_t.2 4) (0 : Int32).toNatClampNeg 1)))] := hD
    refine lv_iconst (v := 1) hx hb dX6_image_49 rfl ?_
    have e9 := Option.some.inj hf
    subst e9
    exact hR _ _ _ _ dX6_image_50 hP hS
  · replace hf := g4.1 c3
    refine lv_aload_n hx hb dX6_image_9 rfl (lv_at hl 0 rfl) ?_
    refine lv_bipush (v := (-2)) hx hb dX6_image_10 rfl ?_
    obtain ⟨r9, e10, hf⟩ := bind_some hf
    refine callVi (As := [.int (-2)]) (rest := []) M (mX6_refuseBad l D cs sk h_t q_t k d_t (-2) e10) mw_X6_96 ln_X6_refuseBad ⟨rfl, rfl, Nat.le_of_ble_eq_true rfl, Nat.le_of_ble_eq_true rfl⟩ hP hD hS hA [0] (by decide) rfl rfl (q0 := 0) rfl rfl rfl ⟨Nat.zero_le _, Nat.zero_le _⟩ hl.1 rfl (Nat.le_of_ble_eq_true rfl) dX6_image_12 (fun H locs hP hD hS => ?_)
    replace hP : va_P D vwCl [oX6 h_t q_t (r9.2.1), oX4 (q_t 0) q_t_0 (d_t_0.1), ((q_t_0 1), .inl (cs 0, 6, .inl (d_t_0.2 1))), ((q_t_0 2), .inl (cs 0, 6, .inl (d_t_0.2 2))), ((q_t_0 4), .inl (cs 0, 3, .inl (d_t_0.2 4))), ((q_t_0 5), .inl (cs 0, 3, .inl (d_t_0.2 5))), oX0 (q_t 1) q_t_1 (d_t_1.1), ((q_t_1 1), .inl (cs 0, 6, .inl (d_t_1.2 1))), ((q_t_1 2), .inl (cs 0, 6, .inl (d_t_1.2 2))), ((q_t_1 3), .inl (cs 0, 6, .inl (d_t_1.2 3))), ((q_t_1 4), .inl (cs 0, 6, .inl (d_t_1.2 4))), ((q_t_1 5), .inl (cs 0, 6, .inl (d_t_1.2 5))), ((q_t_1 9), .inl (cs 0, 48, .inl (d_t_1.2 9))), ((q_t 2), .inl (cs 3, 2, .inr (.inr (.inr (.inr (fun j => some (q_t_2 j))))))), oX4 (q_t_2 0) q_t_2_0 (d_t_2_0.1), ((q_t_2_0 1), .inl (cs 0, 6, .inl (d_t_2_0.2 1))), ((q_t_2_0 2), .inl (cs 0, 6, .inl (d_t_2_0.2 2))), ((q_t_2_0 4), .inl (cs 0, 3, .inl (d_t_2_0.2 4))), ((q_t_2_0 5), .inl (cs 0, 3, .inl (d_t_2_0.2 5))), ((q_t 3), .inl (cs 4, 2, .inr (.inr (.inr (.inr (fun j => some (q_t_3 j))))))), oX0 (q_t_3 0) q_t_3_0 (d_t_3_0.1), ((q_t_3_0 1), .inl (cs 0, 6, .inl (d_t_3_0.2 1))), ((q_t_3_0 2), .inl (cs 0, 6, .inl (d_t_3_0.2 2))), ((q_t_3_0 3), .inl (cs 0, 6, .inl (d_t_3_0.2 3))), ((q_t_3_0 4), .inl (cs 0, 6, .inl (d_t_3_0.2 4))), ((q_t_3_0 5), .inl (cs 0, 6, .inl (d_t_3_0.2 5))), ((q_t_3_0 9), .inl (cs 0, 48, .inl (d_t_3_0.2 9))), ((q_t 4), .inl (cs 0, 2, .inl (d_t.2 4)))] H := hP
    replace hD : va_D A [oX6 h_t q_t (r9.2.1), oX4 (q_t 0) q_t_0 (d_t_0.1), ((q_t_0 1), .inl (cs 0, 6, .inl (d_t_0.2 1))), ((q_t_0 2), .inl (cs 0, 6, .inl (d_t_0.2 2))), ((q_t_0 4), .inl (cs 0, 3, .inl (d_t_0.2 4))), ((q_t_0 5), .inl (cs 0, 3, .inl (d_t_0.2 5))), oX0 (q_t 1) q_t_1 (d_t_1.1), ((q_t_1 1), .inl (cs 0, 6, .inl (d_t_1.2 1))), ((q_t_1 2), .inl (cs 0, 6, .inl (d_t_1.2 2))), ((q_t_1 3), .inl (cs 0, 6, .inl (d_t_1.2 3))), ((q_t_1 4), .inl (cs 0, 6, .inl (d_t_1.2 4))), ((q_t_1 5), .inl (cs 0, 6, .inl (d_t_1.2 5))), ((q_t_1 9), .inl (cs 0, 48, .inl (d_t_1.2 9))), ((q_t 2), .inl (cs 3, 2, .inr (.inr (.inr (.inr (fun j => some (q_t_2 j))))))), oX4 (q_t_2 0) q_t_2_0 (d_t_2_0.1), ((q_t_2_0 1), .inl (cs 0, 6, .inl (d_t_2_0.2 1))), ((q_t_2_0 2), .inl (cs 0, 6, .inl (d_t_2_0.2 2))), ((q_t_2_0 4), .inl (cs 0, 3, .inl (d_t_2_0.2 4))), ((q_t_2_0 5), .inl (cs 0, 3, .inl (d_t_2_0.2 5))), ((q_t 3), .inl (cs 4, 2, .inr (.inr (.inr (.inr (fun j => some (q_t_3 j))))))), oX0 (q_t_3 0) q_t_3_0 (d_t_3_0.1), ((q_t_3_0 1), .inl (cs 0, 6, .inl (d_t_3_0.2 1))), ((q_t_3_0 2), .inl (cs 0, 6, .inl (d_t_3_0.2 2))), ((q_t_3_0 3), .inl (cs 0, 6, .inl (d_t_3_0.2 3))), ((q_t_3_0 4), .inl (cs 0, 6, .inl (d_t_3_0.2 4))), ((q_t_3_0 5), .inl (cs 0, 6, .inl (d_t_3_0.2 5))), ((q_t_3_0 9), .inl (cs 0, 48, .inl (d_t_3_0.2 9))), ((q_t 4), .inl (cs 0, 2, .inl (d_t.2 4)))] := hD
    have e9 := Option.some.inj hf
    subst e9
    exact hR _ _ _ _ dX6_image_15 hP hS
abbrev rm_X6_image_1 : Room := { frames := 3, cells := 0, slots := 0, locals := 102 }
def fX6_image_1 (k : Nat) (d_t : Dat) (d_t_0 : Dat) (d_t_1 : Dat) (d_t_2_1 : Dat) (d_t_3_1 : Dat) (x1 : Int32) : Option (Int32 × Dat × Dat × Dat) :=
  (fX6_isWithin k 1 0 1).bind (fun (r1 : Int32) => (if r1 = 0 then (fX6_refuseBad k d_t (-2)).bind (fun (r9 : Int32 × Dat) => some ((r9.1), (r9.2.1, d_t.2), d_t_2_1, d_t_3_1)) else (fX4_becomeLike k d_t_2_1 d_t_0).bind (fun (r5 : Dat) => (fX0_becomeLike k d_t_3_1 d_t_1).bind (fun (r7 : Dat) => chk 2 1 (some (1, (d_t.1, (va_up d_t.2 4 (upd (d_t.2 4) (1 : Int32).toNatClampNeg 1))), (r5.1, (va_up (va_up (va_up (va_up d_t_2_1.2 1 (r5.2 1)) 2 (r5.2 2)) 4 (r5.2 4)) 5 (r5.2 5))), (r7.1, (va_up (va_up (va_up (va_up (va_up (va_up d_t_3_1.2 1 (r7.2 1)) 2 (r7.2 2)) 3 (r7.2 3)) 4 (r7.2 4)) 5 (r7.2 5)) 9 (r7.2 9)))))))))
set_option maxHeartbeats 4000000 in
set_option maxRecDepth 100000 in
theorem mX6_image_1 (l : Launch) (D : va_G) (cs : Nat → ClassId) (sk : Nat → Nat) (h_t : Nat) (q_t : Nat → Nat) (q_t_0 : Nat → Nat) (q_t_1 : Nat → Nat) (q_t_2 : Nat → Nat) (q_t_2_1 : Nat → Nat) (q_t_3 : Nat → Nat) (q_t_3_1 : Nat → Nat) (k : Nat) (d_t : Dat) (d_t_0 : Dat) (d_t_1 : Dat) (d_t_2_1 : Dat) (d_t_3_1 : Dat) (x1 : Int32) {rv : Int32 × Dat × Dat × Dat} (hx1 : x1 = 1) (hf : fX6_image_1 k d_t d_t_0 d_t_1 d_t_2_1 d_t_3_1 x1 = some rv) : CTi l yX6_image (Cond.code yX6_image cX6_image 2 (some .int) :: gtbl) rm_X6_image_1 D cs sk [.ref h_t, .int x1] [oX6 h_t q_t (d_t.1), oX4 (q_t 0) q_t_0 (d_t_0.1), ((q_t_0 1), .inl (cs 0, 6, .inl (d_t_0.2 1))), ((q_t_0 2), .inl (cs 0, 6, .inl (d_t_0.2 2))), ((q_t_0 4), .inl (cs 0, 3, .inl (d_t_0.2 4))), ((q_t_0 5), .inl (cs 0, 3, .inl (d_t_0.2 5))), oX0 (q_t 1) q_t_1 (d_t_1.1), ((q_t_1 1), .inl (cs 0, 6, .inl (d_t_1.2 1))), ((q_t_1 2), .inl (cs 0, 6, .inl (d_t_1.2 2))), ((q_t_1 3), .inl (cs 0, 6, .inl (d_t_1.2 3))), ((q_t_1 4), .inl (cs 0, 6, .inl (d_t_1.2 4))), ((q_t_1 5), .inl (cs 0, 6, .inl (d_t_1.2 5))), ((q_t_1 9), .inl (cs 0, 48, .inl (d_t_1.2 9))), ((q_t 2), .inl (cs 3, 2, .inr (.inr (.inr (.inr (fun j => some (q_t_2 j))))))), oX4 (q_t_2 1) q_t_2_1 (d_t_2_1.1), ((q_t_2_1 1), .inl (cs 0, 6, .inl (d_t_2_1.2 1))), ((q_t_2_1 2), .inl (cs 0, 6, .inl (d_t_2_1.2 2))), ((q_t_2_1 4), .inl (cs 0, 3, .inl (d_t_2_1.2 4))), ((q_t_2_1 5), .inl (cs 0, 3, .inl (d_t_2_1.2 5))), ((q_t 3), .inl (cs 4, 2, .inr (.inr (.inr (.inr (fun j => some (q_t_3 j))))))), oX0 (q_t_3 1) q_t_3_1 (d_t_3_1.1), ((q_t_3_1 1), .inl (cs 0, 6, .inl (d_t_3_1.2 1))), ((q_t_3_1 2), .inl (cs 0, 6, .inl (d_t_3_1.2 2))), ((q_t_3_1 3), .inl (cs 0, 6, .inl (d_t_3_1.2 3))), ((q_t_3_1 4), .inl (cs 0, 6, .inl (d_t_3_1.2 4))), ((q_t_3_1 5), .inl (cs 0, 6, .inl (d_t_3_1.2 5))), ((q_t_3_1 9), .inl (cs 0, 48, .inl (d_t_3_1.2 9))), ((q_t 4), .inl (cs 0, 2, .inl (d_t.2 4)))] (rv.1) [oX6 h_t q_t (rv.2.1.1), oX4 (q_t 0) q_t_0 (d_t_0.1), ((q_t_0 1), .inl (cs 0, 6, .inl (d_t_0.2 1))), ((q_t_0 2), .inl (cs 0, 6, .inl (d_t_0.2 2))), ((q_t_0 4), .inl (cs 0, 3, .inl (d_t_0.2 4))), ((q_t_0 5), .inl (cs 0, 3, .inl (d_t_0.2 5))), oX0 (q_t 1) q_t_1 (d_t_1.1), ((q_t_1 1), .inl (cs 0, 6, .inl (d_t_1.2 1))), ((q_t_1 2), .inl (cs 0, 6, .inl (d_t_1.2 2))), ((q_t_1 3), .inl (cs 0, 6, .inl (d_t_1.2 3))), ((q_t_1 4), .inl (cs 0, 6, .inl (d_t_1.2 4))), ((q_t_1 5), .inl (cs 0, 6, .inl (d_t_1.2 5))), ((q_t_1 9), .inl (cs 0, 48, .inl (d_t_1.2 9))), ((q_t 2), .inl (cs 3, 2, .inr (.inr (.inr (.inr (fun j => some (q_t_2 j))))))), oX4 (q_t_2 1) q_t_2_1 (rv.2.2.1.1), ((q_t_2_1 1), .inl (cs 0, 6, .inl (rv.2.2.1.2 1))), ((q_t_2_1 2), .inl (cs 0, 6, .inl (rv.2.2.1.2 2))), ((q_t_2_1 4), .inl (cs 0, 3, .inl (rv.2.2.1.2 4))), ((q_t_2_1 5), .inl (cs 0, 3, .inl (rv.2.2.1.2 5))), ((q_t 3), .inl (cs 4, 2, .inr (.inr (.inr (.inr (fun j => some (q_t_3 j))))))), oX0 (q_t_3 1) q_t_3_1 (rv.2.2.2.1), ((q_t_3_1 1), .inl (cs 0, 6, .inl (rv.2.2.2.2 1))), ((q_t_3_1 2), .inl (cs 0, 6, .inl (rv.2.2.2.2 2))), ((q_t_3_1 3), .inl (cs 0, 6, .inl (rv.2.2.2.2 3))), ((q_t_3_1 4), .inl (cs 0, 6, .inl (rv.2.2.2.2 4))), ((q_t_3_1 5), .inl (cs 0, 6, .inl (rv.2.2.2.2 5))), ((q_t_3_1 9), .inl (cs 0, 48, .inl (rv.2.2.2.2 9))), ((q_t 4), .inl (cs 0, 2, .inl (rv.2.1.2 4)))] := by
  subst hx1
  refine CTi.of RX6 (by decide +kernel) rfl (Nat.le_of_ble_eq_true rfl) (fun p e s m args below meth c A Q ls M hA hR hl hP hD hS => ?_)
  obtain ⟨hx, hb, hml, hT, hown, hlk, hrt, hK, hN, hSE⟩ := id M
  replace hl : lv_has ls 2 [(0, .ref h_t), (1, .int 1)] := hl
  unfold fX6_image_1 at hf
  refine lv_iload_n hx hb dX6_image_0 rfl (lv_at hl 1 rfl) ?_
  refine lv_iconst (v := 0) hx hb dX6_image_1 rfl ?_
  refine lv_iconst (v := 1) hx hb dX6_image_2 rfl ?_
  obtain ⟨r1, e2, hf⟩ := bind_some hf
  refine callSi (As := [.int 1, .int 0, .int 1]) (rest := []) M (mX6_isWithin l D cs sk  k 1 0 1 e2) mw_X6_121 ln_X6_isWithin ⟨rfl, rfl, Nat.le_of_ble_eq_true rfl, Nat.le_of_ble_eq_true rfl⟩ hP hD hS hA [] (by decide) rfl rfl ⟨Nat.zero_le _, Nat.zero_le _⟩ hl.1 rfl (Nat.le_of_ble_eq_true rfl) dX6_image_3 (fun H locs hP hD hS => ?_)
  replace hP : va_P D vwCl [oX6 h_t q_t (d_t.1), oX4 (q_t 0) q_t_0 (d_t_0.1), ((q_t_0 1), .inl (cs 0, 6, .inl (d_t_0.2 1))), ((q_t_0 2), .inl (cs 0, 6, .inl (d_t_0.2 2))), ((q_t_0 4), .inl (cs 0, 3, .inl (d_t_0.2 4))), ((q_t_0 5), .inl (cs 0, 3, .inl (d_t_0.2 5))), oX0 (q_t 1) q_t_1 (d_t_1.1), ((q_t_1 1), .inl (cs 0, 6, .inl (d_t_1.2 1))), ((q_t_1 2), .inl (cs 0, 6, .inl (d_t_1.2 2))), ((q_t_1 3), .inl (cs 0, 6, .inl (d_t_1.2 3))), ((q_t_1 4), .inl (cs 0, 6, .inl (d_t_1.2 4))), ((q_t_1 5), .inl (cs 0, 6, .inl (d_t_1.2 5))), ((q_t_1 9), .inl (cs 0, 48, .inl (d_t_1.2 9))), ((q_t 2), .inl (cs 3, 2, .inr (.inr (.inr (.inr (fun j => some (q_t_2 j))))))), oX4 (q_t_2 1) q_t_2_1 (d_t_2_1.1), ((q_t_2_1 1), .inl (cs 0, 6, .inl (d_t_2_1.2 1))), ((q_t_2_1 2), .inl (cs 0, 6, .inl (d_t_2_1.2 2))), ((q_t_2_1 4), .inl (cs 0, 3, .inl (d_t_2_1.2 4))), ((q_t_2_1 5), .inl (cs 0, 3, .inl (d_t_2_1.2 5))), ((q_t 3), .inl (cs 4, 2, .inr (.inr (.inr (.inr (fun j => some (q_t_3 j))))))), oX0 (q_t_3 1) q_t_3_1 (d_t_3_1.1), ((q_t_3_1 1), .inl (cs 0, 6, .inl (d_t_3_1.2 1))), ((q_t_3_1 2), .inl (cs 0, 6, .inl (d_t_3_1.2 2))), ((q_t_3_1 3), .inl (cs 0, 6, .inl (d_t_3_1.2 3))), ((q_t_3_1 4), .inl (cs 0, 6, .inl (d_t_3_1.2 4))), ((q_t_3_1 5), .inl (cs 0, 6, .inl (d_t_3_1.2 5))), ((q_t_3_1 9), .inl (cs 0, 48, .inl (d_t_3_1.2 9))), ((q_t 4), .inl (cs 0, 2, .inl (d_t.2 4)))] H := hP
  replace hD : va_D A [oX6 h_t q_t (d_t.1), oX4 (q_t 0) q_t_0 (d_t_0.1), ((q_t_0 1), .inl (cs 0, 6, .inl (d_t_0.2 1))), ((q_t_0 2), .inl (cs 0, 6, .inl (d_t_0.2 2))), ((q_t_0 4), .inl (cs 0, 3, .inl (d_t_0.2 4))), ((q_t_0 5), .inl (cs 0, 3, .inl (d_t_0.2 5))), oX0 (q_t 1) q_t_1 (d_t_1.1), ((q_t_1 1), .inl (cs 0, 6, .inl (d_t_1.2 1))), ((q_t_1 2), .inl (cs 0, 6, .inl (d_t_1.2 2))), ((q_t_1 3), .inl (cs 0, 6, .inl (d_t_1.2 3))), ((q_t_1 4), .inl (cs 0, 6, .inl (d_t_1.2 4))), ((q_t_1 5), .inl (cs 0, 6, .inl (d_t_1.2 5))), ((q_t_1 9), .inl (cs 0, 48, .inl (d_t_1.2 9))), ((q_t 2), .inl (cs 3, 2, .inr (.inr (.inr (.inr (fun j => some (q_t_2 j))))))), oX4 (q_t_2 1) q_t_2_1 (d_t_2_1.1), ((q_t_2_1 1), .inl (cs 0, 6, .inl (d_t_2_1.2 1))), ((q_t_2_1 2), .inl (cs 0, 6, .inl (d_t_2_1.2 2))), ((q_t_2_1 4), .inl (cs 0, 3, .inl (d_t_2_1.2 4))), ((q_t_2_1 5), .inl (cs 0, 3, .inl (d_t_2_1.2 5))), ((q_t 3), .inl (cs 4, 2, .inr (.inr (.inr (.inr (fun j => some (q_t_3 j))))))), oX0 (q_t_3 1) q_t_3_1 (d_t_3_1.1), ((q_t_3_1 1), .inl (cs 0, 6, .inl (d_t_3_1.2 1))), ((q_t_3_1 2), .inl (cs 0, 6, .inl (d_t_3_1.2 2))), ((q_t_3_1 3), .inl (cs 0, 6, .inl (d_t_3_1.2 3))), ((q_t_3_1 4), .inl (cs 0, 6, .inl (d_t_3_1.2 4))), ((q_t_3_1 5), .inl (cs 0, 6, .inl (d_t_3_1.2 5))), ((q_t_3_1 9), .inl (cs 0, 48, .inl (d_t_3_1.2 9))), ((q_t 4), .inl (cs 0, 2, .inl (d_t.2 4)))] := hD
  have g4 := ite_some hf
  refine lv_if_ne (tgt := 16) hx hb dX6_image_6 (by decide) (fun c3 => ?_) (fun c3 => ?_)
  · replace hf := g4.2 c3
    refine lv_aload_n hx hb dX6_image_16 rfl (lv_at hl 0 rfl) ?_
    refine va_get (D := D) (ci := 6) (v := .ref (q_t 2)) (C := RX6) (T := TX6) (N := 18) hx hb hT iX6 hown hK hP 0 rfl rfl 2 (by decide) (hT _ fw_X6_23) (fun _ h9 => h9) rfl dX6_image_17 ?_
    refine lv_iload_n hx hb dX6_image_20 rfl (lv_at hl 1 rfl) ?_
    refine va_aldq (D := D) (C := "TownPlayers$Streets") hx hb hK hP 13 3 rfl rfl (by unfold vp_in; decide) dX6_image_21 ?_
    refine W.eq (g2 := F0 m 22 ls [.ref (q_t_2 1)]) rfl ?_
    refine lv_aload_n hx hb dX6_image_22 rfl (lv_at hl 0 rfl) ?_
    refine va_get (D := D) (ci := 6) (v := .ref (q_t 0)) (C := RX6) (T := TX6) (N := 18) hx hb hT iX6 hown hK hP 0 rfl rfl 0 (by decide) (hT _ fw_X6_10) (fun _ h9 => h9) rfl dX6_image_23 ?_
    obtain ⟨r5, e6, hf⟩ := bind_some hf
    refine callVv (As := [.ref (q_t 0)]) (rest := []) M (mX4_becomeLike l D cs sk (q_t_2 1) (q_t 0) q_t_2_1 q_t_0 k d_t_2_1 d_t_0 e6) mw_X6_166 ln_X4_becomeLike ⟨rfl, rfl, Nat.le_of_ble_eq_true rfl, Nat.le_of_ble_eq_true rfl⟩ hP hD hS hA [14, 15, 16, 17, 18, 1, 2, 3, 4, 5] (by decide) rfl rfl (q0 := 0) rfl rfl rfl ⟨Nat.zero_le _, Nat.zero_le _⟩ hl.1 rfl (Nat.le_of_ble_eq_true rfl) dX6_image_26 (fun H locs hP hD hS => ?_)
    replace hP : va_P D vwCl [oX6 h_t q_t (d_t.1), oX4 (q_t 0) q_t_0 (d_t_0.1), ((q_t_0 1), .inl (cs 0, 6, .inl (d_t_0.2 1))), ((q_t_0 2), .inl (cs 0, 6, .inl (d_t_0.2 2))), ((q_t_0 4), .inl (cs 0, 3, .inl (d_t_0.2 4))), ((q_t_0 5), .inl (cs 0, 3, .inl (d_t_0.2 5))), oX0 (q_t 1) q_t_1 (d_t_1.1), ((q_t_1 1), .inl (cs 0, 6, .inl (d_t_1.2 1))), ((q_t_1 2), .inl (cs 0, 6, .inl (d_t_1.2 2))), ((q_t_1 3), .inl (cs 0, 6, .inl (d_t_1.2 3))), ((q_t_1 4), .inl (cs 0, 6, .inl (d_t_1.2 4))), ((q_t_1 5), .inl (cs 0, 6, .inl (d_t_1.2 5))), ((q_t_1 9), .inl (cs 0, 48, .inl (d_t_1.2 9))), ((q_t 2), .inl (cs 3, 2, .inr (.inr (.inr (.inr (fun j => some (q_t_2 j))))))), oX4 (q_t_2 1) q_t_2_1 (r5.1), ((q_t_2_1 1), .inl (cs 0, 6, .inl (r5.2 1))), ((q_t_2_1 2), .inl (cs 0, 6, .inl (r5.2 2))), ((q_t_2_1 4), .inl (cs 0, 3, .inl (r5.2 4))), ((q_t_2_1 5), .inl (cs 0, 3, .inl (r5.2 5))), ((q_t 3), .inl (cs 4, 2, .inr (.inr (.inr (.inr (fun j => some (q_t_3 j))))))), oX0 (q_t_3 1) q_t_3_1 (d_t_3_1.1), ((q_t_3_1 1), .inl (cs 0, 6, .inl (d_t_3_1.2 1))), ((q_t_3_1 2), .inl (cs 0, 6, .inl (d_t_3_1.2 2))), ((q_t_3_1 3), .inl (cs 0, 6, .inl (d_t_3_1.2 3))), ((q_t_3_1 4), .inl (cs 0, 6, .inl (d_t_3_1.2 4))), ((q_t_3_1 5), .inl (cs 0, 6, .inl (d_t_3_1.2 5))), ((q_t_3_1 9), .inl (cs 0, 48, .inl (d_t_3_1.2 9))), ((q_t 4), .inl (cs 0, 2, .inl (d_t.2 4)))] H := hP
    replace hD : va_D A [oX6 h_t q_t (d_t.1), oX4 (q_t 0) q_t_0 (d_t_0.1), ((q_t_0 1), .inl (cs 0, 6, .inl (d_t_0.2 1))), ((q_t_0 2), .inl (cs 0, 6, .inl (d_t_0.2 2))), ((q_t_0 4), .inl (cs 0, 3, .inl (d_t_0.2 4))), ((q_t_0 5), .inl (cs 0, 3, .inl (d_t_0.2 5))), oX0 (q_t 1) q_t_1 (d_t_1.1), ((q_t_1 1), .inl (cs 0, 6, .inl (d_t_1.2 1))), ((q_t_1 2), .inl (cs 0, 6, .inl (d_t_1.2 2))), ((q_t_1 3), .inl (cs 0, 6, .inl (d_t_1.2 3))), ((q_t_1 4), .inl (cs 0, 6, .inl (d_t_1.2 4))), ((q_t_1 5), .inl (cs 0, 6, .inl (d_t_1.2 5))), ((q_t_1 9), .inl (cs 0, 48, .inl (d_t_1.2 9))), ((q_t 2), .inl (cs 3, 2, .inr (.inr (.inr (.inr (fun j => some (q_t_2 j))))))), oX4 (q_t_2 1) q_t_2_1 (r5.1), ((q_t_2_1 1), .inl (cs 0, 6, .inl (r5.2 1))), ((q_t_2_1 2), .inl (cs 0, 6, .inl (r5.2 2))), ((q_t_2_1 4), .inl (cs 0, 3, .inl (r5.2 4))), ((q_t_2_1 5), .inl (cs 0, 3, .inl (r5.2 5))), ((q_t 3), .inl (cs 4, 2, .inr (.inr (.inr (.inr (fun j => some (q_t_3 j))))))), oX0 (q_t_3 1) q_t_3_1 (d_t_3_1.1), ((q_t_3_1 1), .inl (cs 0, 6, .inl (d_t_3_1.2 1))), ((q_t_3_1 2), .inl (cs 0, 6, .inl (d_t_3_1.2 2))), ((q_t_3_1 3), .inl (cs 0, 6, .inl (d_t_3_1.2 3))), ((q_t_3_1 4), .inl (cs 0, 6, .inl (d_t_3_1.2 4))), ((q_t_3_1 5), .inl (cs 0, 6, .inl (d_t_3_1.2 5))), ((q_t_3_1 9), .inl (cs 0, 48, .inl (d_t_3_1.2 9))), ((q_t 4), .inl (cs 0, 2, .inl (d_t.2 4)))] := hD
    refine lv_aload_n hx hb dX6_image_29 rfl (lv_at hl 0 rfl) ?_
    refine va_get (D := D) (ci := 6) (v := .ref (q_t 3)) (C := RX6) (T := TX6) (N := 18) hx hb hT iX6 hown hK hP 0 rfl rfl 3 (by decide) (hT _ fw_X6_27) (fun _ h9 => h9) rfl dX6_image_30 ?_
    refine lv_iload_n hx hb dX6_image_33 rfl (lv_at hl 1 rfl) ?_
    refine va_aldq (D := D) (C := "TownPlayers$Band") hx hb hK hP 19 4 rfl rfl (by unfold vp_in; decide) dX6_image_34 ?_
    refine W.eq (g2 := F0 m 35 ls [.ref (q_t_3 1)]) rfl ?_
    refine lv_aload_n hx hb dX6_image_35 rfl (lv_at hl 0 rfl) ?_
    refine va_get (D := D) (ci := 6) (v := .ref (q_t 1)) (C := RX6) (T := TX6) (N := 18) hx hb hT iX6 hown hK hP 0 rfl rfl 1 (by decide) (hT _ fw_X6_19) (fun _ h9 => h9) rfl dX6_image_36 ?_
    obtain ⟨r7, e8, hf⟩ := bind_some hf
    refine callVv (As := [.ref (q_t 1)]) (rest := []) M (mX0_becomeLike l D cs sk (q_t_3 1) (q_t 1) q_t_3_1 q_t_1 k d_t_3_1 d_t_1 e8) mw_X6_181 ln_X0_becomeLike ⟨rfl, rfl, Nat.le_of_ble_eq_true rfl, Nat.le_of_ble_eq_true rfl⟩ hP hD hS hA [20, 21, 22, 23, 24, 25, 26, 6, 7, 8, 9, 10, 11, 12] (by decide) rfl rfl (q0 := 0) rfl rfl rfl ⟨Nat.zero_le _, Nat.zero_le _⟩ hl.1 rfl (Nat.le_of_ble_eq_true rfl) dX6_image_39 (fun H locs hP hD hS => ?_)
    replace hP : va_P D vwCl [oX6 h_t q_t (d_t.1), oX4 (q_t 0) q_t_0 (d_t_0.1), ((q_t_0 1), .inl (cs 0, 6, .inl (d_t_0.2 1))), ((q_t_0 2), .inl (cs 0, 6, .inl (d_t_0.2 2))), ((q_t_0 4), .inl (cs 0, 3, .inl (d_t_0.2 4))), ((q_t_0 5), .inl (cs 0, 3, .inl (d_t_0.2 5))), oX0 (q_t 1) q_t_1 (d_t_1.1), ((q_t_1 1), .inl (cs 0, 6, .inl (d_t_1.2 1))), ((q_t_1 2), .inl (cs 0, 6, .inl (d_t_1.2 2))), ((q_t_1 3), .inl (cs 0, 6, .inl (d_t_1.2 3))), ((q_t_1 4), .inl (cs 0, 6, .inl (d_t_1.2 4))), ((q_t_1 5), .inl (cs 0, 6, .inl (d_t_1.2 5))), ((q_t_1 9), .inl (cs 0, 48, .inl (d_t_1.2 9))), ((q_t 2), .inl (cs 3, 2, .inr (.inr (.inr (.inr (fun j => some (q_t_2 j))))))), oX4 (q_t_2 1) q_t_2_1 (r5.1), ((q_t_2_1 1), .inl (cs 0, 6, .inl (r5.2 1))), ((q_t_2_1 2), .inl (cs 0, 6, .inl (r5.2 2))), ((q_t_2_1 4), .inl (cs 0, 3, .inl (r5.2 4))), ((q_t_2_1 5), .inl (cs 0, 3, .inl (r5.2 5))), ((q_t 3), .inl (cs 4, 2, .inr (.inr (.inr (.inr (fun j => some (q_t_3 j))))))), oX0 (q_t_3 1) q_t_3_1 (r7.1), ((q_t_3_1 1), .inl (cs 0, 6, .inl (r7.2 1))), ((q_t_3_1 2), .inl (cs 0, 6, .inl (r7.2 2))), ((q_t_3_1 3), .inl (cs 0, 6, .inl (r7.2 3))), ((q_t_3_1 4), .inl (cs 0, 6, .inl (r7.2 4))), ((q_t_3_1 5), .inl (cs 0, 6, .inl (r7.2 5))), ((q_t_3_1 9), .inl (cs 0, 48, .inl (r7.2 9))), ((q_t 4), .inl (cs 0, 2, .inl (d_t.2 4)))] H := hP
    replace hD : va_D A [oX6 h_t q_t (d_t.1), oX4 (q_t 0) q_t_0 (d_t_0.1), ((q_t_0 1), .inl (cs 0, 6, .inl (d_t_0.2 1))), ((q_t_0 2), .inl (cs 0, 6, .inl (d_t_0.2 2))), ((q_t_0 4), .inl (cs 0, 3, .inl (d_t_0.2 4))), ((q_t_0 5), .inl (cs 0, 3, .inl (d_t_0.2 5))), oX0 (q_t 1) q_t_1 (d_t_1.1), ((q_t_1 1), .inl (cs 0, 6, .inl (d_t_1.2 1))), ((q_t_1 2), .inl (cs 0, 6, .inl (d_t_1.2 2))), ((q_t_1 3), .inl (cs 0, 6, .inl (d_t_1.2 3))), ((q_t_1 4), .inl (cs 0, 6, .inl (d_t_1.2 4))), ((q_t_1 5), .inl (cs 0, 6, .inl (d_t_1.2 5))), ((q_t_1 9), .inl (cs 0, 48, .inl (d_t_1.2 9))), ((q_t 2), .inl (cs 3, 2, .inr (.inr (.inr (.inr (fun j => some (q_t_2 j))))))), oX4 (q_t_2 1) q_t_2_1 (r5.1), ((q_t_2_1 1), .inl (cs 0, 6, .inl (r5.2 1))), ((q_t_2_1 2), .inl (cs 0, 6, .inl (r5.2 2))), ((q_t_2_1 4), .inl (cs 0, 3, .inl (r5.2 4))), ((q_t_2_1 5), .inl (cs 0, 3, .inl (r5.2 5))), ((q_t 3), .inl (cs 4, 2, .inr (.inr (.inr (.inr (fun j => some (q_t_3 j))))))), oX0 (q_t_3 1) q_t_3_1 (r7.1), ((q_t_3_1 1), .inl (cs 0, 6, .inl (r7.2 1))), ((q_t_3_1 2), .inl (cs 0, 6, .inl (r7.2 2))), ((q_t_3_1 3), .inl (cs 0, 6, .inl (r7.2 3))), ((q_t_3_1 4), .inl (cs 0, 6, .inl (r7.2 4))), ((q_t_3_1 5), .inl (cs 0, 6, .inl (r7.2 5))), ((q_t_3_1 9), .inl (cs 0, 48, .inl (r7.2 9))), ((q_t 4), .inl (cs 0, 2, .inl (d_t.2 4)))] := hD
    refine lv_aload_n hx hb dX6_image_42 rfl (lv_at hl 0 rfl) ?_
    refine va_get (D := D) (ci := 6) (v := .ref (q_t 4)) (C := RX6) (T := TX6) (N := 18) hx hb hT iX6 hown hK hP 0 rfl rfl 4 (by decide) (hT _ fw_X6_31) (fun _ h9 => h9) rfl dX6_image_43 ?_
    refine lv_iload_n hx hb dX6_image_46 rfl (lv_at hl 1 rfl) ?_
    refine lv_iconst (v := 1) hx hb dX6_image_47 rfl ?_
    obtain ⟨hi, hf⟩ := chk_some hf
    refine va_iast (D := D) hx hb hK hP hD hS 27 0 rfl rfl hi dX6_image_48 (fun H locs hP hD hS => ?_)
    replace hP : va_P D vwCl [oX6 h_t q_t (d_t.1), oX4 (q_t 0) q_t_0 (d_t_0.1), ((q_t_0 1), .inl (cs 0, 6, .inl (d_t_0.2 1))), ((q_t_0 2), .inl (cs 0, 6, .inl (d_t_0.2 2))), ((q_t_0 4), .inl (cs 0, 3, .inl (d_t_0.2 4))), ((q_t_0 5), .inl (cs 0, 3, .inl (d_t_0.2 5))), oX0 (q_t 1) q_t_1 (d_t_1.1), ((q_t_1 1), .inl (cs 0, 6, .inl (d_t_1.2 1))), ((q_t_1 2), .inl (cs 0, 6, .inl (d_t_1.2 2))), ((q_t_1 3), .inl (cs 0, 6, .inl (d_t_1.2 3))), ((q_t_1 4), .inl (cs 0, 6, .inl (d_t_1.2 4))), ((q_t_1 5), .inl (cs 0, 6, .inl (d_t_1.2 5))), ((q_t_1 9), .inl (cs 0, 48, .inl (d_t_1.2 9))), ((q_t 2), .inl (cs 3, 2, .inr (.inr (.inr (.inr (fun j => some (q_t_2 j))))))), oX4 (q_t_2 1) q_t_2_1 (r5.1), ((q_t_2_1 1), .inl (cs 0, 6, .inl (r5.2 1))), ((q_t_2_1 2), .inl (cs 0, 6, .inl (r5.2 2))), ((q_t_2_1 4), .inl (cs 0, 3, .inl (r5.2 4))), ((q_t_2_1 5), .inl (cs 0, 3, .inl (r5.2 5))), ((q_t 3), .inl (cs 4, 2, .inr (.inr (.inr (.inr (fun j => some (q_t_3 j))))))), oX0 (q_t_3 1) q_t_3_1 (r7.1), ((q_t_3_1 1), .inl (cs 0, 6, .inl (r7.2 1))), ((q_t_3_1 2), .inl (cs 0, 6, .inl (r7.2 2))), ((q_t_3_1 3), .inl (cs 0, 6, .inl (r7.2 3))), ((q_t_3_1 4), .inl (cs 0, 6, .inl (r7.2 4))), ((q_t_3_1 5), .inl (cs 0, 6, .inl (r7.2 5))), ((q_t_3_1 9), .inl (cs 0, 48, .inl (r7.2 9))), ((q_t 4), .inl (cs 0, 2, .inl (upd (d_t.2 4) (1 : Int32).toNatClampNeg 1)))] H := hP
    replace hD : va_D A [oX6 h_t q_t (d_t.1), oX4 (q_t 0) q_t_0 (d_t_0.1), ((q_t_0 1), .inl (cs 0, 6, .inl (d_t_0.2 1))), ((q_t_0 2), .inl (cs 0, 6, .inl (d_t_0.2 2))), ((q_t_0 4), .inl (cs 0, 3, .inl (d_t_0.2 4))), ((q_t_0 5), .inl (cs 0, 3, .inl (d_t_0.2 5))), oX0 (q_t 1) q_t_1 (d_t_1.1), ((q_t_1 1), .inl (cs 0, 6, .inl (d_t_1.2 1))), ((q_t_1 2), .inl (cs 0, 6, .inl (d_t_1.2 2))), ((q_t_1 3), .inl (cs 0, 6, .inl (d_t_1.2 3))), ((q_t_1 4), .inl (cs 0, 6, .inl (d_t_1.2 4))), ((q_t_1 5), .inl (cs 0, 6, .inl (d_t_1.2 5))), ((q_t_1 9), .inl (cs 0, 48, .inl (d_t_1.2 9))), ((q_t 2), .inl (cs 3, 2, .inr (.inr (.inr (.inr (fun j => some (q_t_2 j))))))), oX4 (q_t_2 1) q_t_2_1 (r5.1), ((q_t_2_1 1), .inl (cs 0, 6, .inl (r5.2 1))), ((q_t_2_1 2), .inl (cs 0, 6, .inl (r5.2 2))), ((q_t_2_1 4), .inl (cs 0, 3, .inl (r5.2 4))), ((q_t_2_1 5), .inl (cs 0, 3, .inl (r5.2 5))), ((q_t 3), .inl (cs 4, 2, .inr (.inr (.inr (.inr (fun j => some (q_t_3 j))))))), oX0 (q_t_3 1) q_t_3_1 (r7.1), ((q_t_3_1 1), .inl (cs 0, 6, .inl (r7.2 1))), ((q_t_3_1 2), .inl (cs 0, 6, .inl (r7.2 2))), ((q_t_3_1 3), .inl (cs 0, 6, .inl (r7.2 3))), ((q_t_3_1 4), .inl (cs 0, 6, .inl (r7.2 4))), ((q_t_3_1 5), .inl (cs 0, 6, .inl (r7.2 5))), ((q_t_3_1 9), .inl (cs 0, 48, .inl (r7.2 9))), ((q_t 4), .inl (cs 0, 2, .inl (upd (d_t.2 4) (1 : Int32).toNatClampNeg 1)))] := hD
    refine lv_iconst (v := 1) hx hb dX6_image_49 rfl ?_
    have e9 := Option.some.inj hf
    subst e9
    exact hR _ _ _ _ dX6_image_50 hP hS
  · replace hf := g4.1 c3
    refine lv_aload_n hx hb dX6_image_9 rfl (lv_at hl 0 rfl) ?_
    refine lv_bipush (v := (-2)) hx hb dX6_image_10 rfl ?_
    obtain ⟨r9, e10, hf⟩ := bind_some hf
    refine callVi (As := [.int (-2)]) (rest := []) M (mX6_refuseBad l D cs sk h_t q_t k d_t (-2) e10) mw_X6_96 ln_X6_refuseBad ⟨rfl, rfl, Nat.le_of_ble_eq_true rfl, Nat.le_of_ble_eq_true rfl⟩ hP hD hS hA [0] (by decide) rfl rfl (q0 := 0) rfl rfl rfl ⟨Nat.zero_le _, Nat.zero_le _⟩ hl.1 rfl (Nat.le_of_ble_eq_true rfl) dX6_image_12 (fun H locs hP hD hS => ?_)
    replace hP : va_P D vwCl [oX6 h_t q_t (r9.2.1), oX4 (q_t 0) q_t_0 (d_t_0.1), ((q_t_0 1), .inl (cs 0, 6, .inl (d_t_0.2 1))), ((q_t_0 2), .inl (cs 0, 6, .inl (d_t_0.2 2))), ((q_t_0 4), .inl (cs 0, 3, .inl (d_t_0.2 4))), ((q_t_0 5), .inl (cs 0, 3, .inl (d_t_0.2 5))), oX0 (q_t 1) q_t_1 (d_t_1.1), ((q_t_1 1), .inl (cs 0, 6, .inl (d_t_1.2 1))), ((q_t_1 2), .inl (cs 0, 6, .inl (d_t_1.2 2))), ((q_t_1 3), .inl (cs 0, 6, .inl (d_t_1.2 3))), ((q_t_1 4), .inl (cs 0, 6, .inl (d_t_1.2 4))), ((q_t_1 5), .inl (cs 0, 6, .inl (d_t_1.2 5))), ((q_t_1 9), .inl (cs 0, 48, .inl (d_t_1.2 9))), ((q_t 2), .inl (cs 3, 2, .inr (.inr (.inr (.inr (fun j => some (q_t_2 j))))))), oX4 (q_t_2 1) q_t_2_1 (d_t_2_1.1), ((q_t_2_1 1), .inl (cs 0, 6, .inl (d_t_2_1.2 1))), ((q_t_2_1 2), .inl (cs 0, 6, .inl (d_t_2_1.2 2))), ((q_t_2_1 4), .inl (cs 0, 3, .inl (d_t_2_1.2 4))), ((q_t_2_1 5), .inl (cs 0, 3, .inl (d_t_2_1.2 5))), ((q_t 3), .inl (cs 4, 2, .inr (.inr (.inr (.inr (fun j => some (q_t_3 j))))))), oX0 (q_t_3 1) q_t_3_1 (d_t_3_1.1), ((q_t_3_1 1), .inl (cs 0, 6, .inl (d_t_3_1.2 1))), ((q_t_3_1 2), .inl (cs 0, 6, .inl (d_t_3_1.2 2))), ((q_t_3_1 3), .inl (cs 0, 6, .inl (d_t_3_1.2 3))), ((q_t_3_1 4), .inl (cs 0, 6, .inl (d_t_3_1.2 4))), ((q_t_3_1 5), .inl (cs 0, 6, .inl (d_t_3_1.2 5))), ((q_t_3_1 9), .inl (cs 0, 48, .inl (d_t_3_1.2 9))), ((q_t 4), .inl (cs 0, 2, .inl (d_t.2 4)))] H := hP
    replace hD : va_D A [oX6 h_t q_t (r9.2.1), oX4 (q_t 0) q_t_0 (d_t_0.1), ((q_t_0 1), .inl (cs 0, 6, .inl (d_t_0.2 1))), ((q_t_0 2), .inl (cs 0, 6, .inl (d_t_0.2 2))), ((q_t_0 4), .inl (cs 0, 3, .inl (d_t_0.2 4))), ((q_t_0 5), .inl (cs 0, 3, .inl (d_t_0.2 5))), oX0 (q_t 1) q_t_1 (d_t_1.1), ((q_t_1 1), .inl (cs 0, 6, .inl (d_t_1.2 1))), ((q_t_1 2), .inl (cs 0, 6, .inl (d_t_1.2 2))), ((q_t_1 3), .inl (cs 0, 6, .inl (d_t_1.2 3))), ((q_t_1 4), .inl (cs 0, 6, .inl (d_t_1.2 4))), ((q_t_1 5), .inl (cs 0, 6, .inl (d_t_1.2 5))), ((q_t_1 9), .inl (cs 0, 48, .inl (d_t_1.2 9))), ((q_t 2), .inl (cs 3, 2, .inr (.inr (.inr (.inr (fun j => some (q_t_2 j))))))), oX4 (q_t_2 1) q_t_2_1 (d_t_2_1.1), ((q_t_2_1 1), .inl (cs 0, 6, .inl (d_t_2_1.2 1))), ((q_t_2_1 2), .inl (cs 0, 6, .inl (d_t_2_1.2 2))), ((q_t_2_1 4), .inl (cs 0, 3, .inl (d_t_2_1.2 4))), ((q_t_2_1 5), .inl (cs 0, 3, .inl (d_t_2_1.2 5))), ((q_t 3), .inl (cs 4, 2, .inr (.inr (.inr (.inr (fun j => some (q_t_3 j))))))), oX0 (q_t_3 1) q_t_3_1 (d_t_3_1.1), ((q_t_3_1 1), .inl (cs 0, 6, .inl (d_t_3_1.2 1))), ((q_t_3_1 2), .inl (cs 0, 6, .inl (d_t_3_1.2 2))), ((q_t_3_1 3), .inl (cs 0, 6, .inl (d_t_3_1.2 3))), ((q_t_3_1 4), .inl (cs 0, 6, .inl (d_t_3_1.2 4))), ((q_t_3_1 5), .inl (cs 0, 6, .inl (d_t_3_1.2 5))), ((q_t_3_1 9), .inl (cs 0, 48, .inl (d_t_3_1.2 9))), ((q_t 4), .inl (cs 0, 2, .inl (d_t.2 4)))] := hD
    have e9 := Option.some.inj hf
    subst e9
    exact hR _ _ _ _ dX6_image_15 hP hS
abbrev rm_X6_image_x : Room := { frames := 3, cells := 0, slots := 0, locals := 102 }
def fX6_image_x (k : Nat) (d_t : Dat) (x1 : Int32) : Option (Int32 × Dat) :=
  (fX6_isWithin k x1 0 1).bind (fun (r1 : Int32) => (if r1 = 0 then (fX6_refuseBad k d_t (-2)).bind (fun (r5 : Int32 × Dat) => some ((r5.1), (r5.2.1, d_t.2))) else (none : Option (Int32 × Dat))))
set_option maxHeartbeats 4000000 in
set_option maxRecDepth 100000 in
theorem mX6_image_x (l : Launch) (D : va_G) (cs : Nat → ClassId) (sk : Nat → Nat) (h_t : Nat) (q_t : Nat → Nat) (k : Nat) (d_t : Dat) (x1 : Int32) {rv : Int32 × Dat} (hf : fX6_image_x k d_t x1 = some rv) : CTi l yX6_image (Cond.code yX6_image cX6_image 2 (some .int) :: gtbl) rm_X6_image_x D cs sk [.ref h_t, .int x1] [oX6 h_t q_t (d_t.1)] (rv.1) [oX6 h_t q_t (rv.2.1)] := by
  refine CTi.of RX6 (by decide +kernel) rfl (Nat.le_of_ble_eq_true rfl) (fun p e s m args below meth c A Q ls M hA hR hl hP hD hS => ?_)
  obtain ⟨hx, hb, hml, hT, hown, hlk, hrt, hK, hN, hSE⟩ := id M
  replace hl : lv_has ls 2 [(0, .ref h_t), (1, .int x1)] := hl
  unfold fX6_image_x at hf
  refine lv_iload_n hx hb dX6_image_0 rfl (lv_at hl 1 rfl) ?_
  refine lv_iconst (v := 0) hx hb dX6_image_1 rfl ?_
  refine lv_iconst (v := 1) hx hb dX6_image_2 rfl ?_
  obtain ⟨r1, e2, hf⟩ := bind_some hf
  refine callSi (As := [.int x1, .int 0, .int 1]) (rest := []) M (mX6_isWithin l D cs sk  k x1 0 1 e2) mw_X6_121 ln_X6_isWithin ⟨rfl, rfl, Nat.le_of_ble_eq_true rfl, Nat.le_of_ble_eq_true rfl⟩ hP hD hS hA [] (by decide) rfl rfl ⟨Nat.zero_le _, Nat.zero_le _⟩ hl.1 rfl (Nat.le_of_ble_eq_true rfl) dX6_image_3 (fun H locs hP hD hS => ?_)
  replace hP : va_P D vwCl [oX6 h_t q_t (d_t.1)] H := hP
  replace hD : va_D A [oX6 h_t q_t (d_t.1)] := hD
  have g4 := ite_some hf
  refine lv_if_ne (tgt := 16) hx hb dX6_image_6 (by decide) (fun c3 => ?_) (fun c3 => ?_)
  · replace hf := g4.2 c3
    refine lv_aload_n hx hb dX6_image_16 rfl (lv_at hl 0 rfl) ?_
    refine va_get (D := D) (ci := 6) (v := .ref (q_t 2)) (C := RX6) (T := TX6) (N := 18) hx hb hT iX6 hown hK hP 0 rfl rfl 2 (by decide) (hT _ fw_X6_23) (fun _ h9 => h9) rfl dX6_image_17 ?_
    refine lv_iload_n hx hb dX6_image_20 rfl (lv_at hl 1 rfl) ?_
    exact none_some hf
  · replace hf := g4.1 c3
    refine lv_aload_n hx hb dX6_image_9 rfl (lv_at hl 0 rfl) ?_
    refine lv_bipush (v := (-2)) hx hb dX6_image_10 rfl ?_
    obtain ⟨r5, e6, hf⟩ := bind_some hf
    refine callVi (As := [.int (-2)]) (rest := []) M (mX6_refuseBad l D cs sk h_t q_t k d_t (-2) e6) mw_X6_96 ln_X6_refuseBad ⟨rfl, rfl, Nat.le_of_ble_eq_true rfl, Nat.le_of_ble_eq_true rfl⟩ hP hD hS hA [0] (by decide) rfl rfl (q0 := 0) rfl rfl rfl ⟨Nat.zero_le _, Nat.zero_le _⟩ hl.1 rfl (Nat.le_of_ble_eq_true rfl) dX6_image_12 (fun H locs hP hD hS => ?_)
    replace hP : va_P D vwCl [oX6 h_t q_t (r5.2.1)] H := hP
    replace hD : va_D A [oX6 h_t q_t (r5.2.1)] := hD
    have e9 := Option.some.inj hf
    subst e9
    exact hR _ _ _ _ dX6_image_15 hP hS
abbrev rm_X6_from_0 : Room := { frames := 3, cells := 0, slots := 0, locals := 102 }
def fX6_from_0 (k : Nat) (d_t : Dat) (d_t_0 : Dat) (d_t_1 : Dat) (d_t_2_0 : Dat) (d_t_3_0 : Dat) (x1 : Int32) : Option (Int32 × Dat × Dat × Dat) :=
  (fX6_isWithin k 0 0 1).bind (fun (r1 : Int32) => (if r1 = 0 then (fX6_refuseBad k d_t (-2)).bind (fun (r13 : Int32 × Dat) => some ((r13.1), (r13.2.1, d_t.2), d_t_0, d_t_1)) else chk 2 0 ((if ((d_t.2 4) (0 : Int32).toNatClampNeg) = 0 then (fX6_refuseNo k d_t).bind (fun (r11 : Int32 × Dat) => some ((r11.1), (r11.2.1, d_t.2), d_t_0, d_t_1)) else (fX4_becomeLike k d_t_0 d_t_2_0).bind (fun (r7 : Dat) => (fX0_becomeLike k d_t_1 d_t_3_0).bind (fun (r9 : Dat) => some (1, d_t, (r7.1, (va_up (va_up (va_up (va_up d_t_0.2 1 (r7.2 1)) 2 (r7.2 2)) 4 (r7.2 4)) 5 (r7.2 5))), (r9.1, (va_up (va_up (va_up (va_up (va_up (va_up d_t_1.2 1 (r9.2 1)) 2 (r9.2 2)) 3 (r9.2 3)) 4 (r9.2 4)) 5 (r9.2 5)) 9 (r9.2 9))))))))))
set_option maxHeartbeats 4000000 in
set_option maxRecDepth 100000 in
theorem mX6_from_0 (l : Launch) (D : va_G) (cs : Nat → ClassId) (sk : Nat → Nat) (h_t : Nat) (q_t : Nat → Nat) (q_t_0 : Nat → Nat) (q_t_1 : Nat → Nat) (q_t_2 : Nat → Nat) (q_t_2_0 : Nat → Nat) (q_t_3 : Nat → Nat) (q_t_3_0 : Nat → Nat) (k : Nat) (d_t : Dat) (d_t_0 : Dat) (d_t_1 : Dat) (d_t_2_0 : Dat) (d_t_3_0 : Dat) (x1 : Int32) {rv : Int32 × Dat × Dat × Dat} (hx1 : x1 = 0) (hf : fX6_from_0 k d_t d_t_0 d_t_1 d_t_2_0 d_t_3_0 x1 = some rv) : CTi l yX6_from (Cond.code yX6_from cX6_from 2 (some .int) :: gtbl) rm_X6_from_0 D cs sk [.ref h_t, .int x1] [oX6 h_t q_t (d_t.1), oX4 (q_t 0) q_t_0 (d_t_0.1), ((q_t_0 1), .inl (cs 0, 6, .inl (d_t_0.2 1))), ((q_t_0 2), .inl (cs 0, 6, .inl (d_t_0.2 2))), ((q_t_0 4), .inl (cs 0, 3, .inl (d_t_0.2 4))), ((q_t_0 5), .inl (cs 0, 3, .inl (d_t_0.2 5))), oX0 (q_t 1) q_t_1 (d_t_1.1), ((q_t_1 1), .inl (cs 0, 6, .inl (d_t_1.2 1))), ((q_t_1 2), .inl (cs 0, 6, .inl (d_t_1.2 2))), ((q_t_1 3), .inl (cs 0, 6, .inl (d_t_1.2 3))), ((q_t_1 4), .inl (cs 0, 6, .inl (d_t_1.2 4))), ((q_t_1 5), .inl (cs 0, 6, .inl (d_t_1.2 5))), ((q_t_1 9), .inl (cs 0, 48, .inl (d_t_1.2 9))), ((q_t 2), .inl (cs 3, 2, .inr (.inr (.inr (.inr (fun j => some (q_t_2 j))))))), oX4 (q_t_2 0) q_t_2_0 (d_t_2_0.1), ((q_t_2_0 1), .inl (cs 0, 6, .inl (d_t_2_0.2 1))), ((q_t_2_0 2), .inl (cs 0, 6, .inl (d_t_2_0.2 2))), ((q_t_2_0 4), .inl (cs 0, 3, .inl (d_t_2_0.2 4))), ((q_t_2_0 5), .inl (cs 0, 3, .inl (d_t_2_0.2 5))), ((q_t 3), .inl (cs 4, 2, .inr (.inr (.inr (.inr (fun j => some (q_t_3 j))))))), oX0 (q_t_3 0) q_t_3_0 (d_t_3_0.1), ((q_t_3_0 1), .inl (cs 0, 6, .inl (d_t_3_0.2 1))), ((q_t_3_0 2), .inl (cs 0, 6, .inl (d_t_3_0.2 2))), ((q_t_3_0 3), .inl (cs 0, 6, .inl (d_t_3_0.2 3))), ((q_t_3_0 4), .inl (cs 0, 6, .inl (d_t_3_0.2 4))), ((q_t_3_0 5), .inl (cs 0, 6, .inl (d_t_3_0.2 5))), ((q_t_3_0 9), .inl (cs 0, 48, .inl (d_t_3_0.2 9))), ((q_t 4), .inl (cs 0, 2, .inl (d_t.2 4)))] (rv.1) [oX6 h_t q_t (rv.2.1.1), oX4 (q_t 0) q_t_0 (rv.2.2.1.1), ((q_t_0 1), .inl (cs 0, 6, .inl (rv.2.2.1.2 1))), ((q_t_0 2), .inl (cs 0, 6, .inl (rv.2.2.1.2 2))), ((q_t_0 4), .inl (cs 0, 3, .inl (rv.2.2.1.2 4))), ((q_t_0 5), .inl (cs 0, 3, .inl (rv.2.2.1.2 5))), oX0 (q_t 1) q_t_1 (rv.2.2.2.1), ((q_t_1 1), .inl (cs 0, 6, .inl (rv.2.2.2.2 1))), ((q_t_1 2), .inl (cs 0, 6, .inl (rv.2.2.2.2 2))), ((q_t_1 3), .inl (cs 0, 6, .inl (rv.2.2.2.2 3))), ((q_t_1 4), .inl (cs 0, 6, .inl (rv.2.2.2.2 4))), ((q_t_1 5), .inl (cs 0, 6, .inl (rv.2.2.2.2 5))), ((q_t_1 9), .inl (cs 0, 48, .inl (rv.2.2.2.2 9))), ((q_t 2), .inl (cs 3, 2, .inr (.inr (.inr (.inr (fun j => some (q_t_2 j))))))), oX4 (q_t_2 0) q_t_2_0 (d_t_2_0.1), ((q_t_2_0 1), .inl (cs 0, 6, .inl (d_t_2_0.2 1))), ((q_t_2_0 2), .inl (cs 0, 6, .inl (d_t_2_0.2 2))), ((q_t_2_0 4), .inl (cs 0, 3, .inl (d_t_2_0.2 4))), ((q_t_2_0 5), .inl (cs 0, 3, .inl (d_t_2_0.2 5))), ((q_t 3), .inl (cs 4, 2, .inr (.inr (.inr (.inr (fun j => some (q_t_3 j))))))), oX0 (q_t_3 0) q_t_3_0 (d_t_3_0.1), ((q_t_3_0 1), .inl (cs 0, 6, .inl (d_t_3_0.2 1))), ((q_t_3_0 2), .inl (cs 0, 6, .inl (d_t_3_0.2 2))), ((q_t_3_0 3), .inl (cs 0, 6, .inl (d_t_3_0.2 3))), ((q_t_3_0 4), .inl (cs 0, 6, .inl (d_t_3_0.2 4))), ((q_t_3_0 5), .inl (cs 0, 6, .inl (d_t_3_0.2 5))), ((q_t_3_0 9), .inl (cs 0, 48, .inl (d_t_3_0.2 9))), ((q_t 4), .inl (cs 0, 2, .inl (d_t.2 4)))] := by
  subst hx1
  refine CTi.of RX6 (by decide +kernel) rfl (Nat.le_of_ble_eq_true rfl) (fun p e s m args below meth c A Q ls M hA hR hl hP hD hS => ?_)
  obtain ⟨hx, hb, hml, hT, hown, hlk, hrt, hK, hN, hSE⟩ := id M
  replace hl : lv_has ls 2 [(0, .ref h_t), (1, .int 0)] := hl
  unfold fX6_from_0 at hf
  refine lv_iload_n hx hb dX6_from_0 rfl (lv_at hl 1 rfl) ?_
  refine lv_iconst (v := 0) hx hb dX6_from_1 rfl ?_
  refine lv_iconst (v := 1) hx hb dX6_from_2 rfl ?_
  obtain ⟨r1, e2, hf⟩ := bind_some hf
  refine callSi (As := [.int 0, .int 0, .int 1]) (rest := []) M (mX6_isWithin l D cs sk  k 0 0 1 e2) mw_X6_121 ln_X6_isWithin ⟨rfl, rfl, Nat.le_of_ble_eq_true rfl, Nat.le_of_ble_eq_true rfl⟩ hP hD hS hA [] (by decide) rfl rfl ⟨Nat.zero_le _, Nat.zero_le _⟩ hl.1 rfl (Nat.le_of_ble_eq_true rfl) dX6_from_3 (fun H locs hP hD hS => ?_)
  replace hP : va_P D vwCl [oX6 h_t q_t (d_t.1), oX4 (q_t 0) q_t_0 (d_t_0.1), ((q_t_0 1), .inl (cs 0, 6, .inl (d_t_0.2 1))), ((q_t_0 2), .inl (cs 0, 6, .inl (d_t_0.2 2))), ((q_t_0 4), .inl (cs 0, 3, .inl (d_t_0.2 4))), ((q_t_0 5), .inl (cs 0, 3, .inl (d_t_0.2 5))), oX0 (q_t 1) q_t_1 (d_t_1.1), ((q_t_1 1), .inl (cs 0, 6, .inl (d_t_1.2 1))), ((q_t_1 2), .inl (cs 0, 6, .inl (d_t_1.2 2))), ((q_t_1 3), .inl (cs 0, 6, .inl (d_t_1.2 3))), ((q_t_1 4), .inl (cs 0, 6, .inl (d_t_1.2 4))), ((q_t_1 5), .inl (cs 0, 6, .inl (d_t_1.2 5))), ((q_t_1 9), .inl (cs 0, 48, .inl (d_t_1.2 9))), ((q_t 2), .inl (cs 3, 2, .inr (.inr (.inr (.inr (fun j => some (q_t_2 j))))))), oX4 (q_t_2 0) q_t_2_0 (d_t_2_0.1), ((q_t_2_0 1), .inl (cs 0, 6, .inl (d_t_2_0.2 1))), ((q_t_2_0 2), .inl (cs 0, 6, .inl (d_t_2_0.2 2))), ((q_t_2_0 4), .inl (cs 0, 3, .inl (d_t_2_0.2 4))), ((q_t_2_0 5), .inl (cs 0, 3, .inl (d_t_2_0.2 5))), ((q_t 3), .inl (cs 4, 2, .inr (.inr (.inr (.inr (fun j => some (q_t_3 j))))))), oX0 (q_t_3 0) q_t_3_0 (d_t_3_0.1), ((q_t_3_0 1), .inl (cs 0, 6, .inl (d_t_3_0.2 1))), ((q_t_3_0 2), .inl (cs 0, 6, .inl (d_t_3_0.2 2))), ((q_t_3_0 3), .inl (cs 0, 6, .inl (d_t_3_0.2 3))), ((q_t_3_0 4), .inl (cs 0, 6, .inl (d_t_3_0.2 4))), ((q_t_3_0 5), .inl (cs 0, 6, .inl (d_t_3_0.2 5))), ((q_t_3_0 9), .inl (cs 0, 48, .inl (d_t_3_0.2 9))), ((q_t 4), .inl (cs 0, 2, .inl (d_t.2 4)))] H := hP
  replace hD : va_D A [oX6 h_t q_t (d_t.1), oX4 (q_t 0) q_t_0 (d_t_0.1), ((q_t_0 1), .inl (cs 0, 6, .inl (d_t_0.2 1))), ((q_t_0 2), .inl (cs 0, 6, .inl (d_t_0.2 2))), ((q_t_0 4), .inl (cs 0, 3, .inl (d_t_0.2 4))), ((q_t_0 5), .inl (cs 0, 3, .inl (d_t_0.2 5))), oX0 (q_t 1) q_t_1 (d_t_1.1), ((q_t_1 1), .inl (cs 0, 6, .inl (d_t_1.2 1))), ((q_t_1 2), .inl (cs 0, 6, .inl (d_t_1.2 2))), ((q_t_1 3), .inl (cs 0, 6, .inl (d_t_1.2 3))), ((q_t_1 4), .inl (cs 0, 6, .inl (d_t_1.2 4))), ((q_t_1 5), .inl (cs 0, 6, .inl (d_t_1.2 5))), ((q_t_1 9), .inl (cs 0, 48, .inl (d_t_1.2 9))), ((q_t 2), .inl (cs 3, 2, .inr (.inr (.inr (.inr (fun j => some (q_t_2 j))))))), oX4 (q_t_2 0) q_t_2_0 (d_t_2_0.1), ((q_t_2_0 1), .inl (cs 0, 6, .inl (d_t_2_0.2 1))), ((q_t_2_0 2), .inl (cs 0, 6, .inl (d_t_2_0.2 2))), ((q_t_2_0 4), .inl (cs 0, 3, .inl (d_t_2_0.2 4))), ((q_t_2_0 5), .inl (cs 0, 3, .inl (d_t_2_0.2 5))), ((q_t 3), .inl (cs 4, 2, .inr (.inr (.inr (.inr (fun j => some (q_t_3 j))))))), oX0 (q_t_3 0) q_t_3_0 (d_t_3_0.1), ((q_t_3_0 1), .inl (cs 0, 6, .inl (d_t_3_0.2 1))), ((q_t_3_0 2), .inl (cs 0, 6, .inl (d_t_3_0.2 2))), ((q_t_3_0 3), .inl (cs 0, 6, .inl (d_t_3_0.2 3))), ((q_t_3_0 4), .inl (cs 0, 6, .inl (d_t_3_0.2 4))), ((q_t_3_0 5), .inl (cs 0, 6, .inl (d_t_3_0.2 5))), ((q_t_3_0 9), .inl (cs 0, 48, .inl (d_t_3_0.2 9))), ((q_t 4), .inl (cs 0, 2, .inl (d_t.2 4)))] := hD
  have g4 := ite_some hf
  refine lv_if_ne (tgt := 16) hx hb dX6_from_6 (by decide) (fun c3 => ?_) (fun c3 => ?_)
  · replace hf := g4.2 c3
    refine lv_aload_n hx hb dX6_from_16 rfl (lv_at hl 0 rfl) ?_
    refine va_get (D := D) (ci := 6) (v := .ref (q_t 4)) (C := RX6) (T := TX6) (N := 18) hx hb hT iX6 hown hK hP 0 rfl rfl 4 (by decide) (hT _ fw_X6_31) (fun _ h9 => h9) rfl dX6_from_17 ?_
    refine lv_iload_n hx hb dX6_from_20 rfl (lv_at hl 1 rfl) ?_
    obtain ⟨hi, hf⟩ := chk_some hf
    refine va_iald (D := D) hx hb hK hP 27 0 rfl rfl hi dX6_from_21 ?_
    have g6 := ite_some hf
    refine lv_if_ne (tgt := 30) hx hb dX6_from_22 (by decide) (fun c5 => ?_) (fun c5 => ?_)
    · replace hf := g6.2 c5
      refine lv_aload_n hx hb dX6_from_30 rfl (lv_at hl 0 rfl) ?_
      refine va_get (D := D) (ci := 6) (v := .ref (q_t 0)) (C := RX6) (T := TX6) (N := 18) hx hb hT iX6 hown hK hP 0 rfl rfl 0 (by decide) (hT _ fw_X6_10) (fun _ h9 => h9) rfl dX6_from_31 ?_
      refine lv_aload_n hx hb dX6_from_34 rfl (lv_at hl 0 rfl) ?_
      refine va_get (D := D) (ci := 6) (v := .ref (q_t 2)) (C := RX6) (T := TX6) (N := 18) hx hb hT iX6 hown hK hP 0 rfl rfl 2 (by decide) (hT _ fw_X6_23) (fun _ h9 => h9) rfl dX6_from_35 ?_
      refine lv_iload_n hx hb dX6_from_38 rfl (lv_at hl 1 rfl) ?_
      refine va_aldq (D := D) (C := "TownPlayers$Streets") hx hb hK hP 13 3 rfl rfl (by unfold vp_in; decide) dX6_from_39 ?_
      refine W.eq (g2 := F0 m 40 ls [.ref (q_t_2 0), .ref (q_t 0)]) rfl ?_
      obtain ⟨r7, e8, hf⟩ := bind_some hf
      refine callVv (As := [.ref (q_t_2 0)]) (rest := []) M (mX4_becomeLike l D cs sk (q_t 0) (q_t_2 0) q_t_0 q_t_2_0 k d_t_0 d_t_2_0 e8) mw_X6_166 ln_X4_becomeLike ⟨rfl, rfl, Nat.le_of_ble_eq_true rfl, Nat.le_of_ble_eq_true rfl⟩ hP hD hS hA [1, 2, 3, 4, 5, 14, 15, 16, 17, 18] (by decide) rfl rfl (q0 := 0) rfl rfl rfl ⟨Nat.zero_le _, Nat.zero_le _⟩ hl.1 rfl (Nat.le_of_ble_eq_true rfl) dX6_from_40 (fun H locs hP hD hS => ?_)
      replace hP : va_P D vwCl [oX6 h_t q_t (d_t.1), oX4 (q_t 0) q_t_0 (r7.1), ((q_t_0 1), .inl (cs 0, 6, .inl (r7.2 1))), ((q_t_0 2), .inl (cs 0, 6, .inl (r7.2 2))), ((q_t_0 4), .inl (cs 0, 3, .inl (r7.2 4))), ((q_t_0 5), .inl (cs 0, 3, .inl (r7.2 5))), oX0 (q_t 1) q_t_1 (d_t_1.1), ((q_t_1 1), .inl (cs 0, 6, .inl (d_t_1.2 1))), ((q_t_1 2), .inl (cs 0, 6, .inl (d_t_1.2 2))), ((q_t_1 3), .inl (cs 0, 6, .inl (d_t_1.2 3))), ((q_t_1 4), .inl (cs 0, 6, .inl (d_t_1.2 4))), ((q_t_1 5), .inl (cs 0, 6, .inl (d_t_1.2 5))), ((q_t_1 9), .inl (cs 0, 48, .inl (d_t_1.2 9))), ((q_t 2), .inl (cs 3, 2, .inr (.inr (.inr (.inr (fun j => some (q_t_2 j))))))), oX4 (q_t_2 0) q_t_2_0 (d_t_2_0.1), ((q_t_2_0 1), .inl (cs 0, 6, .inl (d_t_2_0.2 1))), ((q_t_2_0 2), .inl (cs 0, 6, .inl (d_t_2_0.2 2))), ((q_t_2_0 4), .inl (cs 0, 3, .inl (d_t_2_0.2 4))), ((q_t_2_0 5), .inl (cs 0, 3, .inl (d_t_2_0.2 5))), ((q_t 3), .inl (cs 4, 2, .inr (.inr (.inr (.inr (fun j => some (q_t_3 j))))))), oX0 (q_t_3 0) q_t_3_0 (d_t_3_0.1), ((q_t_3_0 1), .inl (cs 0, 6, .inl (d_t_3_0.2 1))), ((q_t_3_0 2), .inl (cs 0, 6, .inl (d_t_3_0.2 2))), ((q_t_3_0 3), .inl (cs 0, 6, .inl (d_t_3_0.2 3))), ((q_t_3_0 4), .inl (cs 0, 6, .inl (d_t_3_0.2 4))), ((q_t_3_0 5), .inl (cs 0, 6, .inl (d_t_3_0.2 5))), ((q_t_3_0 9), .inl (cs 0, 48, .inl (d_t_3_0.2 9))), ((q_t 4), .inl (cs 0, 2, .inl (d_t.2 4)))] H := hP
      replace hD : va_D A [oX6 h_t q_t (d_t.1), oX4 (q_t 0) q_t_0 (r7.1), ((q_t_0 1), .inl (cs 0, 6, .inl (r7.2 1))), ((q_t_0 2), .inl (cs 0, 6, .inl (r7.2 2))), ((q_t_0 4), .inl (cs 0, 3, .inl (r7.2 4))), ((q_t_0 5), .inl (cs 0, 3, .inl (r7.2 5))), oX0 (q_t 1) q_t_1 (d_t_1.1), ((q_t_1 1), .inl (cs 0, 6, .inl (d_t_1.2 1))), ((q_t_1 2), .inl (cs 0, 6, .inl (d_t_1.2 2))), ((q_t_1 3), .inl (cs 0, 6, .inl (d_t_1.2 3))), ((q_t_1 4), .inl (cs 0, 6, .inl (d_t_1.2 4))), ((q_t_1 5), .inl (cs 0, 6, .inl (d_t_1.2 5))), ((q_t_1 9), .inl (cs 0, 48, .inl (d_t_1.2 9))), ((q_t 2), .inl (cs 3, 2, .inr (.inr (.inr (.inr (fun j => some (q_t_2 j))))))), oX4 (q_t_2 0) q_t_2_0 (d_t_2_0.1), ((q_t_2_0 1), .inl (cs 0, 6, .inl (d_t_2_0.2 1))), ((q_t_2_0 2), .inl (cs 0, 6, .inl (d_t_2_0.2 2))), ((q_t_2_0 4), .inl (cs 0, 3, .inl (d_t_2_0.2 4))), ((q_t_2_0 5), .inl (cs 0, 3, .inl (d_t_2_0.2 5))), ((q_t 3), .inl (cs 4, 2, .inr (.inr (.inr (.inr (fun j => some (q_t_3 j))))))), oX0 (q_t_3 0) q_t_3_0 (d_t_3_0.1), ((q_t_3_0 1), .inl (cs 0, 6, .inl (d_t_3_0.2 1))), ((q_t_3_0 2), .inl (cs 0, 6, .inl (d_t_3_0.2 2))), ((q_t_3_0 3), .inl (cs 0, 6, .inl (d_t_3_0.2 3))), ((q_t_3_0 4), .inl (cs 0, 6, .inl (d_t_3_0.2 4))), ((q_t_3_0 5), .inl (cs 0, 6, .inl (d_t_3_0.2 5))), ((q_t_3_0 9), .inl (cs 0, 48, .inl (d_t_3_0.2 9))), ((q_t 4), .inl (cs 0, 2, .inl (d_t.2 4)))] := hD
      refine lv_aload_n hx hb dX6_from_43 rfl (lv_at hl 0 rfl) ?_
      refine va_get (D := D) (ci := 6) (v := .ref (q_t 1)) (C := RX6) (T := TX6) (N := 18) hx hb hT iX6 hown hK hP 0 rfl rfl 1 (by decide) (hT _ fw_X6_19) (fun _ h9 => h9) rfl dX6_from_44 ?_
      refine lv_aload_n hx hb dX6_from_47 rfl (lv_at hl 0 rfl) ?_
      refine va_get (D := D) (ci := 6) (v := .ref (q_t 3)) (C := RX6) (T := TX6) (N := 18) hx hb hT iX6 hown hK hP 0 rfl rfl 3 (by decide) (hT _ fw_X6_27) (fun _ h9 => h9) rfl dX6_from_48 ?_
      refine lv_iload_n hx hb dX6_from_51 rfl (lv_at hl 1 rfl) ?_
      refine va_aldq (D := D) (C := "TownPlayers$Band") hx hb hK hP 19 4 rfl rfl (by unfold vp_in; decide) dX6_from_52 ?_
      refine W.eq (g2 := F0 m 53 ls [.ref (q_t_3 0), .ref (q_t 1)]) rfl ?_
      obtain ⟨r9, e10, hf⟩ := bind_some hf
      refine callVv (As := [.ref (q_t_3 0)]) (rest := []) M (mX0_becomeLike l D cs sk (q_t 1) (q_t_3 0) q_t_1 q_t_3_0 k d_t_1 d_t_3_0 e10) mw_X6_181 ln_X0_becomeLike ⟨rfl, rfl, Nat.le_of_ble_eq_true rfl, Nat.le_of_ble_eq_true rfl⟩ hP hD hS hA [6, 7, 8, 9, 10, 11, 12, 20, 21, 22, 23, 24, 25, 26] (by decide) rfl rfl (q0 := 0) rfl rfl rfl ⟨Nat.zero_le _, Nat.zero_le _⟩ hl.1 rfl (Nat.le_of_ble_eq_true rfl) dX6_from_53 (fun H locs hP hD hS => ?_)
      replace hP : va_P D vwCl [oX6 h_t q_t (d_t.1), oX4 (q_t 0) q_t_0 (r7.1), ((q_t_0 1), .inl (cs 0, 6, .inl (r7.2 1))), ((q_t_0 2), .inl (cs 0, 6, .inl (r7.2 2))), ((q_t_0 4), .inl (cs 0, 3, .inl (r7.2 4))), ((q_t_0 5), .inl (cs 0, 3, .inl (r7.2 5))), oX0 (q_t 1) q_t_1 (r9.1), ((q_t_1 1), .inl (cs 0, 6, .inl (r9.2 1))), ((q_t_1 2), .inl (cs 0, 6, .inl (r9.2 2))), ((q_t_1 3), .inl (cs 0, 6, .inl (r9.2 3))), ((q_t_1 4), .inl (cs 0, 6, .inl (r9.2 4))), ((q_t_1 5), .inl (cs 0, 6, .inl (r9.2 5))), ((q_t_1 9), .inl (cs 0, 48, .inl (r9.2 9))), ((q_t 2), .inl (cs 3, 2, .inr (.inr (.inr (.inr (fun j => some (q_t_2 j))))))), oX4 (q_t_2 0) q_t_2_0 (d_t_2_0.1), ((q_t_2_0 1), .inl (cs 0, 6, .inl (d_t_2_0.2 1))), ((q_t_2_0 2), .inl (cs 0, 6, .inl (d_t_2_0.2 2))), ((q_t_2_0 4), .inl (cs 0, 3, .inl (d_t_2_0.2 4))), ((q_t_2_0 5), .inl (cs 0, 3, .inl (d_t_2_0.2 5))), ((q_t 3), .inl (cs 4, 2, .inr (.inr (.inr (.inr (fun j => some (q_t_3 j))))))), oX0 (q_t_3 0) q_t_3_0 (d_t_3_0.1), ((q_t_3_0 1), .inl (cs 0, 6, .inl (d_t_3_0.2 1))), ((q_t_3_0 2), .inl (cs 0, 6, .inl (d_t_3_0.2 2))), ((q_t_3_0 3), .inl (cs 0, 6, .inl (d_t_3_0.2 3))), ((q_t_3_0 4), .inl (cs 0, 6, .inl (d_t_3_0.2 4))), ((q_t_3_0 5), .inl (cs 0, 6, .inl (d_t_3_0.2 5))), ((q_t_3_0 9), .inl (cs 0, 48, .inl (d_t_3_0.2 9))), ((q_t 4), .inl (cs 0, 2, .inl (d_t.2 4)))] H := hP
      replace hD : va_D A [oX6 h_t q_t (d_t.1), oX4 (q_t 0) q_t_0 (r7.1), ((q_t_0 1), .inl (cs 0, 6, .inl (r7.2 1))), ((q_t_0 2), .inl (cs 0, 6, .inl (r7.2 2))), ((q_t_0 4), .inl (cs 0, 3, .inl (r7.2 4))), ((q_t_0 5), .inl (cs 0, 3, .inl (r7.2 5))), oX0 (q_t 1) q_t_1 (r9.1), ((q_t_1 1), .inl (cs 0, 6, .inl (r9.2 1))), ((q_t_1 2), .inl (cs 0, 6, .inl (r9.2 2))), ((q_t_1 3), .inl (cs 0, 6, .inl (r9.2 3))), ((q_t_1 4), .inl (cs 0, 6, .inl (r9.2 4))), ((q_t_1 5), .inl (cs 0, 6, .inl (r9.2 5))), ((q_t_1 9), .inl (cs 0, 48, .inl (r9.2 9))), ((q_t 2), .inl (cs 3, 2, .inr (.inr (.inr (.inr (fun j => some (q_t_2 j))))))), oX4 (q_t_2 0) q_t_2_0 (d_t_2_0.1), ((q_t_2_0 1), .inl (cs 0, 6, .inl (d_t_2_0.2 1))), ((q_t_2_0 2), .inl (cs 0, 6, .inl (d_t_2_0.2 2))), ((q_t_2_0 4), .inl (cs 0, 3, .inl (d_t_2_0.2 4))), ((q_t_2_0 5), .inl (cs 0, 3, .inl (d_t_2_0.2 5))), ((q_t 3), .inl (cs 4, 2, .inr (.inr (.inr (.inr (fun j => some (q_t_3 j))))))), oX0 (q_t_3 0) q_t_3_0 (d_t_3_0.1), ((q_t_3_0 1), .inl (cs 0, 6, .inl (d_t_3_0.2 1))), ((q_t_3_0 2), .inl (cs 0, 6, .inl (d_t_3_0.2 2))), ((q_t_3_0 3), .inl (cs 0, 6, .inl (d_t_3_0.2 3))), ((q_t_3_0 4), .inl (cs 0, 6, .inl (d_t_3_0.2 4))), ((q_t_3_0 5), .inl (cs 0, 6, .inl (d_t_3_0.2 5))), ((q_t_3_0 9), .inl (cs 0, 48, .inl (d_t_3_0.2 9))), ((q_t 4), .inl (cs 0, 2, .inl (d_t.2 4)))] := hD
      refine lv_iconst (v := 1) hx hb dX6_from_56 rfl ?_
      have e9 := Option.some.inj hf
      subst e9
      exact hR _ _ _ _ dX6_from_57 hP hS
    · replace hf := g6.1 c5
      refine lv_aload_n hx hb dX6_from_25 rfl (lv_at hl 0 rfl) ?_
      obtain ⟨r11, e12, hf⟩ := bind_some hf
      refine callVi (As := []) (rest := []) M (mX6_refuseNo l D cs sk h_t q_t k d_t e12) mw_X6_242 ln_X6_refuseNo ⟨rfl, rfl, Nat.le_of_ble_eq_true rfl, Nat.le_of_ble_eq_true rfl⟩ hP hD hS hA [0] (by decide) rfl rfl (q0 := 0) rfl rfl rfl ⟨Nat.zero_le _, Nat.zero_le _⟩ hl.1 rfl (Nat.le_of_ble_eq_true rfl) dX6_from_26 (fun H locs hP hD hS => ?_)
      replace hP : va_P D vwCl [oX6 h_t q_t (r11.2.1), oX4 (q_t 0) q_t_0 (d_t_0.1), ((q_t_0 1), .inl (cs 0, 6, .inl (d_t_0.2 1))), ((q_t_0 2), .inl (cs 0, 6, .inl (d_t_0.2 2))), ((q_t_0 4), .inl (cs 0, 3, .inl (d_t_0.2 4))), ((q_t_0 5), .inl (cs 0, 3, .inl (d_t_0.2 5))), oX0 (q_t 1) q_t_1 (d_t_1.1), ((q_t_1 1), .inl (cs 0, 6, .inl (d_t_1.2 1))), ((q_t_1 2), .inl (cs 0, 6, .inl (d_t_1.2 2))), ((q_t_1 3), .inl (cs 0, 6, .inl (d_t_1.2 3))), ((q_t_1 4), .inl (cs 0, 6, .inl (d_t_1.2 4))), ((q_t_1 5), .inl (cs 0, 6, .inl (d_t_1.2 5))), ((q_t_1 9), .inl (cs 0, 48, .inl (d_t_1.2 9))), ((q_t 2), .inl (cs 3, 2, .inr (.inr (.inr (.inr (fun j => some (q_t_2 j))))))), oX4 (q_t_2 0) q_t_2_0 (d_t_2_0.1), ((q_t_2_0 1), .inl (cs 0, 6, .inl (d_t_2_0.2 1))), ((q_t_2_0 2), .inl (cs 0, 6, .inl (d_t_2_0.2 2))), ((q_t_2_0 4), .inl (cs 0, 3, .inl (d_t_2_0.2 4))), ((q_t_2_0 5), .inl (cs 0, 3, .inl (d_t_2_0.2 5))), ((q_t 3), .inl (cs 4, 2, .inr (.inr (.inr (.inr (fun j => some (q_t_3 j))))))), oX0 (q_t_3 0) q_t_3_0 (d_t_3_0.1), ((q_t_3_0 1), .inl (cs 0, 6, .inl (d_t_3_0.2 1))), ((q_t_3_0 2), .inl (cs 0, 6, .inl (d_t_3_0.2 2))), ((q_t_3_0 3), .inl (cs 0, 6, .inl (d_t_3_0.2 3))), ((q_t_3_0 4), .inl (cs 0, 6, .inl (d_t_3_0.2 4))), ((q_t_3_0 5), .inl (cs 0, 6, .inl (d_t_3_0.2 5))), ((q_t_3_0 9), .inl (cs 0, 48, .inl (d_t_3_0.2 9))), ((q_t 4), .inl (cs 0, 2, .inl (d_t.2 4)))] H := hP
      replace hD : va_D A [oX6 h_t q_t (r11.2.1), oX4 (q_t 0) q_t_0 (d_t_0.1), ((q_t_0 1), .inl (cs 0, 6, .inl (d_t_0.2 1))), ((q_t_0 2), .inl (cs 0, 6, .inl (d_t_0.2 2))), ((q_t_0 4), .inl (cs 0, 3, .inl (d_t_0.2 4))), ((q_t_0 5), .inl (cs 0, 3, .inl (d_t_0.2 5))), oX0 (q_t 1) q_t_1 (d_t_1.1), ((q_t_1 1), .inl (cs 0, 6, .inl (d_t_1.2 1))), ((q_t_1 2), .inl (cs 0, 6, .inl (d_t_1.2 2))), ((q_t_1 3), .inl (cs 0, 6, .inl (d_t_1.2 3))), ((q_t_1 4), .inl (cs 0, 6, .inl (d_t_1.2 4))), ((q_t_1 5), .inl (cs 0, 6, .inl (d_t_1.2 5))), ((q_t_1 9), .inl (cs 0, 48, .inl (d_t_1.2 9))), ((q_t 2), .inl (cs 3, 2, .inr (.inr (.inr (.inr (fun j => some (q_t_2 j))))))), oX4 (q_t_2 0) q_t_2_0 (d_t_2_0.1), ((q_t_2_0 1), .inl (cs 0, 6, .inl (d_t_2_0.2 1))), ((q_t_2_0 2), .inl (cs 0, 6, .inl (d_t_2_0.2 2))), ((q_t_2_0 4), .inl (cs 0, 3, .inl (d_t_2_0.2 4))), ((q_t_2_0 5), .inl (cs 0, 3, .inl (d_t_2_0.2 5))), ((q_t 3), .inl (cs 4, 2, .inr (.inr (.inr (.inr (fun j => some (q_t_3 j))))))), oX0 (q_t_3 0) q_t_3_0 (d_t_3_0.1), ((q_t_3_0 1), .inl (cs 0, 6, .inl (d_t_3_0.2 1))), ((q_t_3_0 2), .inl (cs 0, 6, .inl (d_t_3_0.2 2))), ((q_t_3_0 3), .inl (cs 0, 6, .inl (d_t_3_0.2 3))), ((q_t_3_0 4), .inl (cs 0, 6, .inl (d_t_3_0.2 4))), ((q_t_3_0 5), .inl (cs 0, 6, .inl (d_t_3_0.2 5))), ((q_t_3_0 9), .inl (cs 0, 48, .inl (d_t_3_0.2 9))), ((q_t 4), .inl (cs 0, 2, .inl (d_t.2 4)))] := hD
      have e9 := Option.some.inj hf
      subst e9
      exact hR _ _ _ _ dX6_from_29 hP hS
  · replace hf := g4.1 c3
    refine lv_aload_n hx hb dX6_from_9 rfl (lv_at hl 0 rfl) ?_
    refine lv_bipush (v := (-2)) hx hb dX6_from_10 rfl ?_
    obtain ⟨r13, e14, hf⟩ := bind_some hf
    refine callVi (As := [.int (-2)]) (rest := []) M (mX6_refuseBad l D cs sk h_t q_t k d_t (-2) e14) mw_X6_96 ln_X6_refuseBad ⟨rfl, rfl, Nat.le_of_ble_eq_true rfl, Nat.le_of_ble_eq_true rfl⟩ hP hD hS hA [0] (by decide) rfl rfl (q0 := 0) rfl rfl rfl ⟨Nat.zero_le _, Nat.zero_le _⟩ hl.1 rfl (Nat.le_of_ble_eq_true rfl) dX6_from_12 (fun H locs hP hD hS => ?_)
    replace hP : va_P D vwCl [oX6 h_t q_t (r13.2.1), oX4 (q_t 0) q_t_0 (d_t_0.1), ((q_t_0 1), .inl (cs 0, 6, .inl (d_t_0.2 1))), ((q_t_0 2), .inl (cs 0, 6, .inl (d_t_0.2 2))), ((q_t_0 4), .inl (cs 0, 3, .inl (d_t_0.2 4))), ((q_t_0 5), .inl (cs 0, 3, .inl (d_t_0.2 5))), oX0 (q_t 1) q_t_1 (d_t_1.1), ((q_t_1 1), .inl (cs 0, 6, .inl (d_t_1.2 1))), ((q_t_1 2), .inl (cs 0, 6, .inl (d_t_1.2 2))), ((q_t_1 3), .inl (cs 0, 6, .inl (d_t_1.2 3))), ((q_t_1 4), .inl (cs 0, 6, .inl (d_t_1.2 4))), ((q_t_1 5), .inl (cs 0, 6, .inl (d_t_1.2 5))), ((q_t_1 9), .inl (cs 0, 48, .inl (d_t_1.2 9))), ((q_t 2), .inl (cs 3, 2, .inr (.inr (.inr (.inr (fun j => some (q_t_2 j))))))), oX4 (q_t_2 0) q_t_2_0 (d_t_2_0.1), ((q_t_2_0 1), .inl (cs 0, 6, .inl (d_t_2_0.2 1))), ((q_t_2_0 2), .inl (cs 0, 6, .inl (d_t_2_0.2 2))), ((q_t_2_0 4), .inl (cs 0, 3, .inl (d_t_2_0.2 4))), ((q_t_2_0 5), .inl (cs 0, 3, .inl (d_t_2_0.2 5))), ((q_t 3), .inl (cs 4, 2, .inr (.inr (.inr (.inr (fun j => some (q_t_3 j))))))), oX0 (q_t_3 0) q_t_3_0 (d_t_3_0.1), ((q_t_3_0 1), .inl (cs 0, 6, .inl (d_t_3_0.2 1))), ((q_t_3_0 2), .inl (cs 0, 6, .inl (d_t_3_0.2 2))), ((q_t_3_0 3), .inl (cs 0, 6, .inl (d_t_3_0.2 3))), ((q_t_3_0 4), .inl (cs 0, 6, .inl (d_t_3_0.2 4))), ((q_t_3_0 5), .inl (cs 0, 6, .inl (d_t_3_0.2 5))), ((q_t_3_0 9), .inl (cs 0, 48, .inl (d_t_3_0.2 9))), ((q_t 4), .inl (cs 0, 2, .inl (d_t.2 4)))] H := hP
    replace hD : va_D A [oX6 h_t q_t (r13.2.1), oX4 (q_t 0) q_t_0 (d_t_0.1), ((q_t_0 1), .inl (cs 0, 6, .inl (d_t_0.2 1))), ((q_t_0 2), .inl (cs 0, 6, .inl (d_t_0.2 2))), ((q_t_0 4), .inl (cs 0, 3, .inl (d_t_0.2 4))), ((q_t_0 5), .inl (cs 0, 3, .inl (d_t_0.2 5))), oX0 (q_t 1) q_t_1 (d_t_1.1), ((q_t_1 1), .inl (cs 0, 6, .inl (d_t_1.2 1))), ((q_t_1 2), .inl (cs 0, 6, .inl (d_t_1.2 2))), ((q_t_1 3), .inl (cs 0, 6, .inl (d_t_1.2 3))), ((q_t_1 4), .inl (cs 0, 6, .inl (d_t_1.2 4))), ((q_t_1 5), .inl (cs 0, 6, .inl (d_t_1.2 5))), ((q_t_1 9), .inl (cs 0, 48, .inl (d_t_1.2 9))), ((q_t 2), .inl (cs 3, 2, .inr (.inr (.inr (.inr (fun j => some (q_t_2 j))))))), oX4 (q_t_2 0) q_t_2_0 (d_t_2_0.1), ((q_t_2_0 1), .inl (cs 0, 6, .inl (d_t_2_0.2 1))), ((q_t_2_0 2), .inl (cs 0, 6, .inl (d_t_2_0.2 2))), ((q_t_2_0 4), .inl (cs 0, 3, .inl (d_t_2_0.2 4))), ((q_t_2_0 5), .inl (cs 0, 3, .inl (d_t_2_0.2 5))), ((q_t 3), .inl (cs 4, 2, .inr (.inr (.inr (.inr (fun j => some (q_t_3 j))))))), oX0 (q_t_3 0) q_t_3_0 (d_t_3_0.1), ((q_t_3_0 1), .inl (cs 0, 6, .inl (d_t_3_0.2 1))), ((q_t_3_0 2), .inl (cs 0, 6, .inl (d_t_3_0.2 2))), ((q_t_3_0 3), .inl (cs 0, 6, .inl (d_t_3_0.2 3))), ((q_t_3_0 4), .inl (cs 0, 6, .inl (d_t_3_0.2 4))), ((q_t_3_0 5), .inl (cs 0, 6, .inl (d_t_3_0.2 5))), ((q_t_3_0 9), .inl (cs 0, 48, .inl (d_t_3_0.2 9))), ((q_t 4), .inl (cs 0, 2, .inl (d_t.2 4)))] := hD
    have e9 := Option.some.inj hf
    subst e9
    exact hR _ _ _ _ dX6_from_15 hP hS
abbrev rm_X6_from_1 : Room := { frames := 3, cells := 0, slots := 0, locals := 102 }
def fX6_from_1 (k : Nat) (d_t : Dat) (d_t_0 : Dat) (d_t_1 : Dat) (d_t_2_1 : Dat) (d_t_3_1 : Dat) (x1 : Int32) : Option (Int32 × Dat × Dat × Dat) :=
  (fX6_isWithin k 1 0 1).bind (fun (r1 : Int32) => (if r1 = 0 then (fX6_refuseBad k d_t (-2)).bind (fun (r13 : Int32 × Dat) => some ((r13.1), (r13.2.1, d_t.2), d_t_0, d_t_1)) else chk 2 1 ((if ((d_t.2 4) (1 : Int32).toNatClampNeg) = 0 then (fX6_refuseNo k d_t).bind (fun (r11 : Int32 × Dat) => some ((r11.1), (r11.2.1, d_t.2), d_t_0, d_t_1)) else (fX4_becomeLike k d_t_0 d_t_2_1).bind (fun (r7 : Dat) => (fX0_becomeLike k d_t_1 d_t_3_1).bind (fun (r9 : Dat) => some (1, d_t, (r7.1, (va_up (va_up (va_up (va_up d_t_0.2 1 (r7.2 1)) 2 (r7.2 2)) 4 (r7.2 4)) 5 (r7.2 5))), (r9.1, (va_up (va_up (va_up (va_up (va_up (va_up d_t_1.2 1 (r9.2 1)) 2 (r9.2 2)) 3 (r9.2 3)) 4 (r9.2 4)) 5 (r9.2 5)) 9 (r9.2 9))))))))))
set_option maxHeartbeats 4000000 in
set_option maxRecDepth 100000 in
theorem mX6_from_1 (l : Launch) (D : va_G) (cs : Nat → ClassId) (sk : Nat → Nat) (h_t : Nat) (q_t : Nat → Nat) (q_t_0 : Nat → Nat) (q_t_1 : Nat → Nat) (q_t_2 : Nat → Nat) (q_t_2_1 : Nat → Nat) (q_t_3 : Nat → Nat) (q_t_3_1 : Nat → Nat) (k : Nat) (d_t : Dat) (d_t_0 : Dat) (d_t_1 : Dat) (d_t_2_1 : Dat) (d_t_3_1 : Dat) (x1 : Int32) {rv : Int32 × Dat × Dat × Dat} (hx1 : x1 = 1) (hf : fX6_from_1 k d_t d_t_0 d_t_1 d_t_2_1 d_t_3_1 x1 = some rv) : CTi l yX6_from (Cond.code yX6_from cX6_from 2 (some .int) :: gtbl) rm_X6_from_1 D cs sk [.ref h_t, .int x1] [oX6 h_t q_t (d_t.1), oX4 (q_t 0) q_t_0 (d_t_0.1), ((q_t_0 1), .inl (cs 0, 6, .inl (d_t_0.2 1))), ((q_t_0 2), .inl (cs 0, 6, .inl (d_t_0.2 2))), ((q_t_0 4), .inl (cs 0, 3, .inl (d_t_0.2 4))), ((q_t_0 5), .inl (cs 0, 3, .inl (d_t_0.2 5))), oX0 (q_t 1) q_t_1 (d_t_1.1), ((q_t_1 1), .inl (cs 0, 6, .inl (d_t_1.2 1))), ((q_t_1 2), .inl (cs 0, 6, .inl (d_t_1.2 2))), ((q_t_1 3), .inl (cs 0, 6, .inl (d_t_1.2 3))), ((q_t_1 4), .inl (cs 0, 6, .inl (d_t_1.2 4))), ((q_t_1 5), .inl (cs 0, 6, .inl (d_t_1.2 5))), ((q_t_1 9), .inl (cs 0, 48, .inl (d_t_1.2 9))), ((q_t 2), .inl (cs 3, 2, .inr (.inr (.inr (.inr (fun j => some (q_t_2 j))))))), oX4 (q_t_2 1) q_t_2_1 (d_t_2_1.1), ((q_t_2_1 1), .inl (cs 0, 6, .inl (d_t_2_1.2 1))), ((q_t_2_1 2), .inl (cs 0, 6, .inl (d_t_2_1.2 2))), ((q_t_2_1 4), .inl (cs 0, 3, .inl (d_t_2_1.2 4))), ((q_t_2_1 5), .inl (cs 0, 3, .inl (d_t_2_1.2 5))), ((q_t 3), .inl (cs 4, 2, .inr (.inr (.inr (.inr (fun j => some (q_t_3 j))))))), oX0 (q_t_3 1) q_t_3_1 (d_t_3_1.1), ((q_t_3_1 1), .inl (cs 0, 6, .inl (d_t_3_1.2 1))), ((q_t_3_1 2), .inl (cs 0, 6, .inl (d_t_3_1.2 2))), ((q_t_3_1 3), .inl (cs 0, 6, .inl (d_t_3_1.2 3))), ((q_t_3_1 4), .inl (cs 0, 6, .inl (d_t_3_1.2 4))), ((q_t_3_1 5), .inl (cs 0, 6, .inl (d_t_3_1.2 5))), ((q_t_3_1 9), .inl (cs 0, 48, .inl (d_t_3_1.2 9))), ((q_t 4), .inl (cs 0, 2, .inl (d_t.2 4)))] (rv.1) [oX6 h_t q_t (rv.2.1.1), oX4 (q_t 0) q_t_0 (rv.2.2.1.1), ((q_t_0 1), .inl (cs 0, 6, .inl (rv.2.2.1.2 1))), ((q_t_0 2), .inl (cs 0, 6, .inl (rv.2.2.1.2 2))), ((q_t_0 4), .inl (cs 0, 3, .inl (rv.2.2.1.2 4))), ((q_t_0 5), .inl (cs 0, 3, .inl (rv.2.2.1.2 5))), oX0 (q_t 1) q_t_1 (rv.2.2.2.1), ((q_t_1 1), .inl (cs 0, 6, .inl (rv.2.2.2.2 1))), ((q_t_1 2), .inl (cs 0, 6, .inl (rv.2.2.2.2 2))), ((q_t_1 3), .inl (cs 0, 6, .inl (rv.2.2.2.2 3))), ((q_t_1 4), .inl (cs 0, 6, .inl (rv.2.2.2.2 4))), ((q_t_1 5), .inl (cs 0, 6, .inl (rv.2.2.2.2 5))), ((q_t_1 9), .inl (cs 0, 48, .inl (rv.2.2.2.2 9))), ((q_t 2), .inl (cs 3, 2, .inr (.inr (.inr (.inr (fun j => some (q_t_2 j))))))), oX4 (q_t_2 1) q_t_2_1 (d_t_2_1.1), ((q_t_2_1 1), .inl (cs 0, 6, .inl (d_t_2_1.2 1))), ((q_t_2_1 2), .inl (cs 0, 6, .inl (d_t_2_1.2 2))), ((q_t_2_1 4), .inl (cs 0, 3, .inl (d_t_2_1.2 4))), ((q_t_2_1 5), .inl (cs 0, 3, .inl (d_t_2_1.2 5))), ((q_t 3), .inl (cs 4, 2, .inr (.inr (.inr (.inr (fun j => some (q_t_3 j))))))), oX0 (q_t_3 1) q_t_3_1 (d_t_3_1.1), ((q_t_3_1 1), .inl (cs 0, 6, .inl (d_t_3_1.2 1))), ((q_t_3_1 2), .inl (cs 0, 6, .inl (d_t_3_1.2 2))), ((q_t_3_1 3), .inl (cs 0, 6, .inl (d_t_3_1.2 3))), ((q_t_3_1 4), .inl (cs 0, 6, .inl (d_t_3_1.2 4))), ((q_t_3_1 5), .inl (cs 0, 6, .inl (d_t_3_1.2 5))), ((q_t_3_1 9), .inl (cs 0, 48, .inl (d_t_3_1.2 9))), ((q_t 4), .inl (cs 0, 2, .inl (d_t.2 4)))] := by
  subst hx1
  refine CTi.of RX6 (by decide +kernel) rfl (Nat.le_of_ble_eq_true rfl) (fun p e s m args below meth c A Q ls M hA hR hl hP hD hS => ?_)
  obtain ⟨hx, hb, hml, hT, hown, hlk, hrt, hK, hN, hSE⟩ := id M
  replace hl : lv_has ls 2 [(0, .ref h_t), (1, .int 1)] := hl
  unfold fX6_from_1 at hf
  refine lv_iload_n hx hb dX6_from_0 rfl (lv_at hl 1 rfl) ?_
  refine lv_iconst (v := 0) hx hb dX6_from_1 rfl ?_
  refine lv_iconst (v := 1) hx hb dX6_from_2 rfl ?_
  obtain ⟨r1, e2, hf⟩ := bind_some hf
  refine callSi (As := [.int 1, .int 0, .int 1]) (rest := []) M (mX6_isWithin l D cs sk  k 1 0 1 e2) mw_X6_121 ln_X6_isWithin ⟨rfl, rfl, Nat.le_of_ble_eq_true rfl, Nat.le_of_ble_eq_true rfl⟩ hP hD hS hA [] (by decide) rfl rfl ⟨Nat.zero_le _, Nat.zero_le _⟩ hl.1 rfl (Nat.le_of_ble_eq_true rfl) dX6_from_3 (fun H locs hP hD hS => ?_)
  replace hP : va_P D vwCl [oX6 h_t q_t (d_t.1), oX4 (q_t 0) q_t_0 (d_t_0.1), ((q_t_0 1), .inl (cs 0, 6, .inl (d_t_0.2 1))), ((q_t_0 2), .inl (cs 0, 6, .inl (d_t_0.2 2))), ((q_t_0 4), .inl (cs 0, 3, .inl (d_t_0.2 4))), ((q_t_0 5), .inl (cs 0, 3, .inl (d_t_0.2 5))), oX0 (q_t 1) q_t_1 (d_t_1.1), ((q_t_1 1), .inl (cs 0, 6, .inl (d_t_1.2 1))), ((q_t_1 2), .inl (cs 0, 6, .inl (d_t_1.2 2))), ((q_t_1 3), .inl (cs 0, 6, .inl (d_t_1.2 3))), ((q_t_1 4), .inl (cs 0, 6, .inl (d_t_1.2 4))), ((q_t_1 5), .inl (cs 0, 6, .inl (d_t_1.2 5))), ((q_t_1 9), .inl (cs 0, 48, .inl (d_t_1.2 9))), ((q_t 2), .inl (cs 3, 2, .inr (.inr (.inr (.inr (fun j => some (q_t_2 j))))))), oX4 (q_t_2 1) q_t_2_1 (d_t_2_1.1), ((q_t_2_1 1), .inl (cs 0, 6, .inl (d_t_2_1.2 1))), ((q_t_2_1 2), .inl (cs 0, 6, .inl (d_t_2_1.2 2))), ((q_t_2_1 4), .inl (cs 0, 3, .inl (d_t_2_1.2 4))), ((q_t_2_1 5), .inl (cs 0, 3, .inl (d_t_2_1.2 5))), ((q_t 3), .inl (cs 4, 2, .inr (.inr (.inr (.inr (fun j => some (q_t_3 j))))))), oX0 (q_t_3 1) q_t_3_1 (d_t_3_1.1), ((q_t_3_1 1), .inl (cs 0, 6, .inl (d_t_3_1.2 1))), ((q_t_3_1 2), .inl (cs 0, 6, .inl (d_t_3_1.2 2))), ((q_t_3_1 3), .inl (cs 0, 6, .inl (d_t_3_1.2 3))), ((q_t_3_1 4), .inl (cs 0, 6, .inl (d_t_3_1.2 4))), ((q_t_3_1 5), .inl (cs 0, 6, .inl (d_t_3_1.2 5))), ((q_t_3_1 9), .inl (cs 0, 48, .inl (d_t_3_1.2 9))), ((q_t 4), .inl (cs 0, 2, .inl (d_t.2 4)))] H := hP
  replace hD : va_D A [oX6 h_t q_t (d_t.1), oX4 (q_t 0) q_t_0 (d_t_0.1), ((q_t_0 1), .inl (cs 0, 6, .inl (d_t_0.2 1))), ((q_t_0 2), .inl (cs 0, 6, .inl (d_t_0.2 2))), ((q_t_0 4), .inl (cs 0, 3, .inl (d_t_0.2 4))), ((q_t_0 5), .inl (cs 0, 3, .inl (d_t_0.2 5))), oX0 (q_t 1) q_t_1 (d_t_1.1), ((q_t_1 1), .inl (cs 0, 6, .inl (d_t_1.2 1))), ((q_t_1 2), .inl (cs 0, 6, .inl (d_t_1.2 2))), ((q_t_1 3), .inl (cs 0, 6, .inl (d_t_1.2 3))), ((q_t_1 4), .inl (cs 0, 6, .inl (d_t_1.2 4))), ((q_t_1 5), .inl (cs 0, 6, .inl (d_t_1.2 5))), ((q_t_1 9), .inl (cs 0, 48, .inl (d_t_1.2 9))), ((q_t 2), .inl (cs 3, 2, .inr (.inr (.inr (.inr (fun j => some (q_t_2 j))))))), oX4 (q_t_2 1) q_t_2_1 (d_t_2_1.1), ((q_t_2_1 1), .inl (cs 0, 6, .inl (d_t_2_1.2 1))), ((q_t_2_1 2), .inl (cs 0, 6, .inl (d_t_2_1.2 2))), ((q_t_2_1 4), .inl (cs 0, 3, .inl (d_t_2_1.2 4))), ((q_t_2_1 5), .inl (cs 0, 3, .inl (d_t_2_1.2 5))), ((q_t 3), .inl (cs 4, 2, .inr (.inr (.inr (.inr (fun j => some (q_t_3 j))))))), oX0 (q_t_3 1) q_t_3_1 (d_t_3_1.1), ((q_t_3_1 1), .inl (cs 0, 6, .inl (d_t_3_1.2 1))), ((q_t_3_1 2), .inl (cs 0, 6, .inl (d_t_3_1.2 2))), ((q_t_3_1 3), .inl (cs 0, 6, .inl (d_t_3_1.2 3))), ((q_t_3_1 4), .inl (cs 0, 6, .inl (d_t_3_1.2 4))), ((q_t_3_1 5), .inl (cs 0, 6, .inl (d_t_3_1.2 5))), ((q_t_3_1 9), .inl (cs 0, 48, .inl (d_t_3_1.2 9))), ((q_t 4), .inl (cs 0, 2, .inl (d_t.2 4)))] := hD
  have g4 := ite_some hf
  refine lv_if_ne (tgt := 16) hx hb dX6_from_6 (by decide) (fun c3 => ?_) (fun c3 => ?_)
  · replace hf := g4.2 c3
    refine lv_aload_n hx hb dX6_from_16 rfl (lv_at hl 0 rfl) ?_
    refine va_get (D := D) (ci := 6) (v := .ref (q_t 4)) (C := RX6) (T := TX6) (N := 18) hx hb hT iX6 hown hK hP 0 rfl rfl 4 (by decide) (hT _ fw_X6_31) (fun _ h9 => h9) rfl dX6_from_17 ?_
    refine lv_iload_n hx hb dX6_from_20 rfl (lv_at hl 1 rfl) ?_
    obtain ⟨hi, hf⟩ := chk_some hf
    refine va_iald (D := D) hx hb hK hP 27 0 rfl rfl hi dX6_from_21 ?_
    have g6 := ite_some hf
    refine lv_if_ne (tgt := 30) hx hb dX6_from_22 (by decide) (fun c5 => ?_) (fun c5 => ?_)
    · replace hf := g6.2 c5
      refine lv_aload_n hx hb dX6_from_30 rfl (lv_at hl 0 rfl) ?_
      refine va_get (D := D) (ci := 6) (v := .ref (q_t 0)) (C := RX6) (T := TX6) (N := 18) hx hb hT iX6 hown hK hP 0 rfl rfl 0 (by decide) (hT _ fw_X6_10) (fun _ h9 => h9) rfl dX6_from_31 ?_
      refine lv_aload_n hx hb dX6_from_34 rfl (lv_at hl 0 rfl) ?_
      refine va_get (D := D) (ci := 6) (v := .ref (q_t 2)) (C := RX6) (T := TX6) (N := 18) hx hb hT iX6 hown hK hP 0 rfl rfl 2 (by decide) (hT _ fw_X6_23) (fun _ h9 => h9) rfl dX6_from_35 ?_
      refine lv_iload_n hx hb dX6_from_38 rfl (lv_at hl 1 rfl) ?_
      refine va_aldq (D := D) (C := "TownPlayers$Streets") hx hb hK hP 13 3 rfl rfl (by unfold vp_in; decide) dX6_from_39 ?_
      refine W.eq (g2 := F0 m 40 ls [.ref (q_t_2 1), .ref (q_t 0)]) rfl ?_
      obtain ⟨r7, e8, hf⟩ := bind_some hf
      refine callVv (As := [.ref (q_t_2 1)]) (rest := []) M (mX4_becomeLike l D cs sk (q_t 0) (q_t_2 1) q_t_0 q_t_2_1 k d_t_0 d_t_2_1 e8) mw_X6_166 ln_X4_becomeLike ⟨rfl, rfl, Nat.le_of_ble_eq_true rfl, Nat.le_of_ble_eq_true rfl⟩ hP hD hS hA [1, 2, 3, 4, 5, 14, 15, 16, 17, 18] (by decide) rfl rfl (q0 := 0) rfl rfl rfl ⟨Nat.zero_le _, Nat.zero_le _⟩ hl.1 rfl (Nat.le_of_ble_eq_true rfl) dX6_from_40 (fun H locs hP hD hS => ?_)
      replace hP : va_P D vwCl [oX6 h_t q_t (d_t.1), oX4 (q_t 0) q_t_0 (r7.1), ((q_t_0 1), .inl (cs 0, 6, .inl (r7.2 1))), ((q_t_0 2), .inl (cs 0, 6, .inl (r7.2 2))), ((q_t_0 4), .inl (cs 0, 3, .inl (r7.2 4))), ((q_t_0 5), .inl (cs 0, 3, .inl (r7.2 5))), oX0 (q_t 1) q_t_1 (d_t_1.1), ((q_t_1 1), .inl (cs 0, 6, .inl (d_t_1.2 1))), ((q_t_1 2), .inl (cs 0, 6, .inl (d_t_1.2 2))), ((q_t_1 3), .inl (cs 0, 6, .inl (d_t_1.2 3))), ((q_t_1 4), .inl (cs 0, 6, .inl (d_t_1.2 4))), ((q_t_1 5), .inl (cs 0, 6, .inl (d_t_1.2 5))), ((q_t_1 9), .inl (cs 0, 48, .inl (d_t_1.2 9))), ((q_t 2), .inl (cs 3, 2, .inr (.inr (.inr (.inr (fun j => some (q_t_2 j))))))), oX4 (q_t_2 1) q_t_2_1 (d_t_2_1.1), ((q_t_2_1 1), .inl (cs 0, 6, .inl (d_t_2_1.2 1))), ((q_t_2_1 2), .inl (cs 0, 6, .inl (d_t_2_1.2 2))), ((q_t_2_1 4), .inl (cs 0, 3, .inl (d_t_2_1.2 4))), ((q_t_2_1 5), .inl (cs 0, 3, .inl (d_t_2_1.2 5))), ((q_t 3), .inl (cs 4, 2, .inr (.inr (.inr (.inr (fun j => some (q_t_3 j))))))), oX0 (q_t_3 1) q_t_3_1 (d_t_3_1.1), ((q_t_3_1 1), .inl (cs 0, 6, .inl (d_t_3_1.2 1))), ((q_t_3_1 2), .inl (cs 0, 6, .inl (d_t_3_1.2 2))), ((q_t_3_1 3), .inl (cs 0, 6, .inl (d_t_3_1.2 3))), ((q_t_3_1 4), .inl (cs 0, 6, .inl (d_t_3_1.2 4))), ((q_t_3_1 5), .inl (cs 0, 6, .inl (d_t_3_1.2 5))), ((q_t_3_1 9), .inl (cs 0, 48, .inl (d_t_3_1.2 9))), ((q_t 4), .inl (cs 0, 2, .inl (d_t.2 4)))] H := hP
      replace hD : va_D A [oX6 h_t q_t (d_t.1), oX4 (q_t 0) q_t_0 (r7.1), ((q_t_0 1), .inl (cs 0, 6, .inl (r7.2 1))), ((q_t_0 2), .inl (cs 0, 6, .inl (r7.2 2))), ((q_t_0 4), .inl (cs 0, 3, .inl (r7.2 4))), ((q_t_0 5), .inl (cs 0, 3, .inl (r7.2 5))), oX0 (q_t 1) q_t_1 (d_t_1.1), ((q_t_1 1), .inl (cs 0, 6, .inl (d_t_1.2 1))), ((q_t_1 2), .inl (cs 0, 6, .inl (d_t_1.2 2))), ((q_t_1 3), .inl (cs 0, 6, .inl (d_t_1.2 3))), ((q_t_1 4), .inl (cs 0, 6, .inl (d_t_1.2 4))), ((q_t_1 5), .inl (cs 0, 6, .inl (d_t_1.2 5))), ((q_t_1 9), .inl (cs 0, 48, .inl (d_t_1.2 9))), ((q_t 2), .inl (cs 3, 2, .inr (.inr (.inr (.inr (fun j => some (q_t_2 j))))))), oX4 (q_t_2 1) q_t_2_1 (d_t_2_1.1), ((q_t_2_1 1), .inl (cs 0, 6, .inl (d_t_2_1.2 1))), ((q_t_2_1 2), .inl (cs 0, 6, .inl (d_t_2_1.2 2))), ((q_t_2_1 4), .inl (cs 0, 3, .inl (d_t_2_1.2 4))), ((q_t_2_1 5), .inl (cs 0, 3, .inl (d_t_2_1.2 5))), ((q_t 3), .inl (cs 4, 2, .inr (.inr (.inr (.inr (fun j => some (q_t_3 j))))))), oX0 (q_t_3 1) q_t_3_1 (d_t_3_1.1), ((q_t_3_1 1), .inl (cs 0, 6, .inl (d_t_3_1.2 1))), ((q_t_3_1 2), .inl (cs 0, 6, .inl (d_t_3_1.2 2))), ((q_t_3_1 3), .inl (cs 0, 6, .inl (d_t_3_1.2 3))), ((q_t_3_1 4), .inl (cs 0, 6, .inl (d_t_3_1.2 4))), ((q_t_3_1 5), .inl (cs 0, 6, .inl (d_t_3_1.2 5))), ((q_t_3_1 9), .inl (cs 0, 48, .inl (d_t_3_1.2 9))), ((q_t 4), .inl (cs 0, 2, .inl (d_t.2 4)))] := hD
      refine lv_aload_n hx hb dX6_from_43 rfl (lv_at hl 0 rfl) ?_
      refine va_get (D := D) (ci := 6) (v := .ref (q_t 1)) (C := RX6) (T := TX6) (N := 18) hx hb hT iX6 hown hK hP 0 rfl rfl 1 (by decide) (hT _ fw_X6_19) (fun _ h9 => h9) rfl dX6_from_44 ?_
      refine lv_aload_n hx hb dX6_from_47 rfl (lv_at hl 0 rfl) ?_
      refine va_get (D := D) (ci := 6) (v := .ref (q_t 3)) (C := RX6) (T := TX6) (N := 18) hx hb hT iX6 hown hK hP 0 rfl rfl 3 (by decide) (hT _ fw_X6_27) (fun _ h9 => h9) rfl dX6_from_48 ?_
      refine lv_iload_n hx hb dX6_from_51 rfl (lv_at hl 1 rfl) ?_
      refine va_aldq (D := D) (C := "TownPlayers$Band") hx hb hK hP 19 4 rfl rfl (by unfold vp_in; decide) dX6_from_52 ?_
      refine W.eq (g2 := F0 m 53 ls [.ref (q_t_3 1), .ref (q_t 1)]) rfl ?_
      obtain ⟨r9, e10, hf⟩ := bind_some hf
      refine callVv (As := [.ref (q_t_3 1)]) (rest := []) M (mX0_becomeLike l D cs sk (q_t 1) (q_t_3 1) q_t_1 q_t_3_1 k d_t_1 d_t_3_1 e10) mw_X6_181 ln_X0_becomeLike ⟨rfl, rfl, Nat.le_of_ble_eq_true rfl, Nat.le_of_ble_eq_true rfl⟩ hP hD hS hA [6, 7, 8, 9, 10, 11, 12, 20, 21, 22, 23, 24, 25, 26] (by decide) rfl rfl (q0 := 0) rfl rfl rfl ⟨Nat.zero_le _, Nat.zero_le _⟩ hl.1 rfl (Nat.le_of_ble_eq_true rfl) dX6_from_53 (fun H locs hP hD hS => ?_)
      replace hP : va_P D vwCl [oX6 h_t q_t (d_t.1), oX4 (q_t 0) q_t_0 (r7.1), ((q_t_0 1), .inl (cs 0, 6, .inl (r7.2 1))), ((q_t_0 2), .inl (cs 0, 6, .inl (r7.2 2))), ((q_t_0 4), .inl (cs 0, 3, .inl (r7.2 4))), ((q_t_0 5), .inl (cs 0, 3, .inl (r7.2 5))), oX0 (q_t 1) q_t_1 (r9.1), ((q_t_1 1), .inl (cs 0, 6, .inl (r9.2 1))), ((q_t_1 2), .inl (cs 0, 6, .inl (r9.2 2))), ((q_t_1 3), .inl (cs 0, 6, .inl (r9.2 3))), ((q_t_1 4), .inl (cs 0, 6, .inl (r9.2 4))), ((q_t_1 5), .inl (cs 0, 6, .inl (r9.2 5))), ((q_t_1 9), .inl (cs 0, 48, .inl (r9.2 9))), ((q_t 2), .inl (cs 3, 2, .inr (.inr (.inr (.inr (fun j => some (q_t_2 j))))))), oX4 (q_t_2 1) q_t_2_1 (d_t_2_1.1), ((q_t_2_1 1), .inl (cs 0, 6, .inl (d_t_2_1.2 1))), ((q_t_2_1 2), .inl (cs 0, 6, .inl (d_t_2_1.2 2))), ((q_t_2_1 4), .inl (cs 0, 3, .inl (d_t_2_1.2 4))), ((q_t_2_1 5), .inl (cs 0, 3, .inl (d_t_2_1.2 5))), ((q_t 3), .inl (cs 4, 2, .inr (.inr (.inr (.inr (fun j => some (q_t_3 j))))))), oX0 (q_t_3 1) q_t_3_1 (d_t_3_1.1), ((q_t_3_1 1), .inl (cs 0, 6, .inl (d_t_3_1.2 1))), ((q_t_3_1 2), .inl (cs 0, 6, .inl (d_t_3_1.2 2))), ((q_t_3_1 3), .inl (cs 0, 6, .inl (d_t_3_1.2 3))), ((q_t_3_1 4), .inl (cs 0, 6, .inl (d_t_3_1.2 4))), ((q_t_3_1 5), .inl (cs 0, 6, .inl (d_t_3_1.2 5))), ((q_t_3_1 9), .inl (cs 0, 48, .inl (d_t_3_1.2 9))), ((q_t 4), .inl (cs 0, 2, .inl (d_t.2 4)))] H := hP
      replace hD : va_D A [oX6 h_t q_t (d_t.1), oX4 (q_t 0) q_t_0 (r7.1), ((q_t_0 1), .inl (cs 0, 6, .inl (r7.2 1))), ((q_t_0 2), .inl (cs 0, 6, .inl (r7.2 2))), ((q_t_0 4), .inl (cs 0, 3, .inl (r7.2 4))), ((q_t_0 5), .inl (cs 0, 3, .inl (r7.2 5))), oX0 (q_t 1) q_t_1 (r9.1), ((q_t_1 1), .inl (cs 0, 6, .inl (r9.2 1))), ((q_t_1 2), .inl (cs 0, 6, .inl (r9.2 2))), ((q_t_1 3), .inl (cs 0, 6, .inl (r9.2 3))), ((q_t_1 4), .inl (cs 0, 6, .inl (r9.2 4))), ((q_t_1 5), .inl (cs 0, 6, .inl (r9.2 5))), ((q_t_1 9), .inl (cs 0, 48, .inl (r9.2 9))), ((q_t 2), .inl (cs 3, 2, .inr (.inr (.inr (.inr (fun j => some (q_t_2 j))))))), oX4 (q_t_2 1) q_t_2_1 (d_t_2_1.1), ((q_t_2_1 1), .inl (cs 0, 6, .inl (d_t_2_1.2 1))), ((q_t_2_1 2), .inl (cs 0, 6, .inl (d_t_2_1.2 2))), ((q_t_2_1 4), .inl (cs 0, 3, .inl (d_t_2_1.2 4))), ((q_t_2_1 5), .inl (cs 0, 3, .inl (d_t_2_1.2 5))), ((q_t 3), .inl (cs 4, 2, .inr (.inr (.inr (.inr (fun j => some (q_t_3 j))))))), oX0 (q_t_3 1) q_t_3_1 (d_t_3_1.1), ((q_t_3_1 1), .inl (cs 0, 6, .inl (d_t_3_1.2 1))), ((q_t_3_1 2), .inl (cs 0, 6, .inl (d_t_3_1.2 2))), ((q_t_3_1 3), .inl (cs 0, 6, .inl (d_t_3_1.2 3))), ((q_t_3_1 4), .inl (cs 0, 6, .inl (d_t_3_1.2 4))), ((q_t_3_1 5), .inl (cs 0, 6, .inl (d_t_3_1.2 5))), ((q_t_3_1 9), .inl (cs 0, 48, .inl (d_t_3_1.2 9))), ((q_t 4), .inl (cs 0, 2, .inl (d_t.2 4)))] := hD
      refine lv_iconst (v := 1) hx hb dX6_from_56 rfl ?_
      have e9 := Option.some.inj hf
      subst e9
      exact hR _ _ _ _ dX6_from_57 hP hS
    · replace hf := g6.1 c5
      refine lv_aload_n hx hb dX6_from_25 rfl (lv_at hl 0 rfl) ?_
      obtain ⟨r11, e12, hf⟩ := bind_some hf
      refine callVi (As := []) (rest := []) M (mX6_refuseNo l D cs sk h_t q_t k d_t e12) mw_X6_242 ln_X6_refuseNo ⟨rfl, rfl, Nat.le_of_ble_eq_true rfl, Nat.le_of_ble_eq_true rfl⟩ hP hD hS hA [0] (by decide) rfl rfl (q0 := 0) rfl rfl rfl ⟨Nat.zero_le _, Nat.zero_le _⟩ hl.1 rfl (Nat.le_of_ble_eq_true rfl) dX6_from_26 (fun H locs hP hD hS => ?_)
      replace hP : va_P D vwCl [oX6 h_t q_t (r11.2.1), oX4 (q_t 0) q_t_0 (d_t_0.1), ((q_t_0 1), .inl (cs 0, 6, .inl (d_t_0.2 1))), ((q_t_0 2), .inl (cs 0, 6, .inl (d_t_0.2 2))), ((q_t_0 4), .inl (cs 0, 3, .inl (d_t_0.2 4))), ((q_t_0 5), .inl (cs 0, 3, .inl (d_t_0.2 5))), oX0 (q_t 1) q_t_1 (d_t_1.1), ((q_t_1 1), .inl (cs 0, 6, .inl (d_t_1.2 1))), ((q_t_1 2), .inl (cs 0, 6, .inl (d_t_1.2 2))), ((q_t_1 3), .inl (cs 0, 6, .inl (d_t_1.2 3))), ((q_t_1 4), .inl (cs 0, 6, .inl (d_t_1.2 4))), ((q_t_1 5), .inl (cs 0, 6, .inl (d_t_1.2 5))), ((q_t_1 9), .inl (cs 0, 48, .inl (d_t_1.2 9))), ((q_t 2), .inl (cs 3, 2, .inr (.inr (.inr (.inr (fun j => some (q_t_2 j))))))), oX4 (q_t_2 1) q_t_2_1 (d_t_2_1.1), ((q_t_2_1 1), .inl (cs 0, 6, .inl (d_t_2_1.2 1))), ((q_t_2_1 2), .inl (cs 0, 6, .inl (d_t_2_1.2 2))), ((q_t_2_1 4), .inl (cs 0, 3, .inl (d_t_2_1.2 4))), ((q_t_2_1 5), .inl (cs 0, 3, .inl (d_t_2_1.2 5))), ((q_t 3), .inl (cs 4, 2, .inr (.inr (.inr (.inr (fun j => some (q_t_3 j))))))), oX0 (q_t_3 1) q_t_3_1 (d_t_3_1.1), ((q_t_3_1 1), .inl (cs 0, 6, .inl (d_t_3_1.2 1))), ((q_t_3_1 2), .inl (cs 0, 6, .inl (d_t_3_1.2 2))), ((q_t_3_1 3), .inl (cs 0, 6, .inl (d_t_3_1.2 3))), ((q_t_3_1 4), .inl (cs 0, 6, .inl (d_t_3_1.2 4))), ((q_t_3_1 5), .inl (cs 0, 6, .inl (d_t_3_1.2 5))), ((q_t_3_1 9), .inl (cs 0, 48, .inl (d_t_3_1.2 9))), ((q_t 4), .inl (cs 0, 2, .inl (d_t.2 4)))] H := hP
      replace hD : va_D A [oX6 h_t q_t (r11.2.1), oX4 (q_t 0) q_t_0 (d_t_0.1), ((q_t_0 1), .inl (cs 0, 6, .inl (d_t_0.2 1))), ((q_t_0 2), .inl (cs 0, 6, .inl (d_t_0.2 2))), ((q_t_0 4), .inl (cs 0, 3, .inl (d_t_0.2 4))), ((q_t_0 5), .inl (cs 0, 3, .inl (d_t_0.2 5))), oX0 (q_t 1) q_t_1 (d_t_1.1), ((q_t_1 1), .inl (cs 0, 6, .inl (d_t_1.2 1))), ((q_t_1 2), .inl (cs 0, 6, .inl (d_t_1.2 2))), ((q_t_1 3), .inl (cs 0, 6, .inl (d_t_1.2 3))), ((q_t_1 4), .inl (cs 0, 6, .inl (d_t_1.2 4))), ((q_t_1 5), .inl (cs 0, 6, .inl (d_t_1.2 5))), ((q_t_1 9), .inl (cs 0, 48, .inl (d_t_1.2 9))), ((q_t 2), .inl (cs 3, 2, .inr (.inr (.inr (.inr (fun j => some (q_t_2 j))))))), oX4 (q_t_2 1) q_t_2_1 (d_t_2_1.1), ((q_t_2_1 1), .inl (cs 0, 6, .inl (d_t_2_1.2 1))), ((q_t_2_1 2), .inl (cs 0, 6, .inl (d_t_2_1.2 2))), ((q_t_2_1 4), .inl (cs 0, 3, .inl (d_t_2_1.2 4))), ((q_t_2_1 5), .inl (cs 0, 3, .inl (d_t_2_1.2 5))), ((q_t 3), .inl (cs 4, 2, .inr (.inr (.inr (.inr (fun j => some (q_t_3 j))))))), oX0 (q_t_3 1) q_t_3_1 (d_t_3_1.1), ((q_t_3_1 1), .inl (cs 0, 6, .inl (d_t_3_1.2 1))), ((q_t_3_1 2), .inl (cs 0, 6, .inl (d_t_3_1.2 2))), ((q_t_3_1 3), .inl (cs 0, 6, .inl (d_t_3_1.2 3))), ((q_t_3_1 4), .inl (cs 0, 6, .inl (d_t_3_1.2 4))), ((q_t_3_1 5), .inl (cs 0, 6, .inl (d_t_3_1.2 5))), ((q_t_3_1 9), .inl (cs 0, 48, .inl (d_t_3_1.2 9))), ((q_t 4), .inl (cs 0, 2, .inl (d_t.2 4)))] := hD
      have e9 := Option.some.inj hf
      subst e9
      exact hR _ _ _ _ dX6_from_29 hP hS
  · replace hf := g4.1 c3
    refine lv_aload_n hx hb dX6_from_9 rfl (lv_at hl 0 rfl) ?_
    refine lv_bipush (v := (-2)) hx hb dX6_from_10 rfl ?_
    obtain ⟨r13, e14, hf⟩ := bind_some hf
    refine callVi (As := [.int (-2)]) (rest := []) M (mX6_refuseBad l D cs sk h_t q_t k d_t (-2) e14) mw_X6_96 ln_X6_refuseBad ⟨rfl, rfl, Nat.le_of_ble_eq_true rfl, Nat.le_of_ble_eq_true rfl⟩ hP hD hS hA [0] (by decide) rfl rfl (q0 := 0) rfl rfl rfl ⟨Nat.zero_le _, Nat.zero_le _⟩ hl.1 rfl (Nat.le_of_ble_eq_true rfl) dX6_from_12 (fun H locs hP hD hS => ?_)
    replace hP : va_P D vwCl [oX6 h_t q_t (r13.2.1), oX4 (q_t 0) q_t_0 (d_t_0.1), ((q_t_0 1), .inl (cs 0, 6, .inl (d_t_0.2 1))), ((q_t_0 2), .inl (cs 0, 6, .inl (d_t_0.2 2))), ((q_t_0 4), .inl (cs 0, 3, .inl (d_t_0.2 4))), ((q_t_0 5), .inl (cs 0, 3, .inl (d_t_0.2 5))), oX0 (q_t 1) q_t_1 (d_t_1.1), ((q_t_1 1), .inl (cs 0, 6, .inl (d_t_1.2 1))), ((q_t_1 2), .inl (cs 0, 6, .inl (d_t_1.2 2))), ((q_t_1 3), .inl (cs 0, 6, .inl (d_t_1.2 3))), ((q_t_1 4), .inl (cs 0, 6, .inl (d_t_1.2 4))), ((q_t_1 5), .inl (cs 0, 6, .inl (d_t_1.2 5))), ((q_t_1 9), .inl (cs 0, 48, .inl (d_t_1.2 9))), ((q_t 2), .inl (cs 3, 2, .inr (.inr (.inr (.inr (fun j => some (q_t_2 j))))))), oX4 (q_t_2 1) q_t_2_1 (d_t_2_1.1), ((q_t_2_1 1), .inl (cs 0, 6, .inl (d_t_2_1.2 1))), ((q_t_2_1 2), .inl (cs 0, 6, .inl (d_t_2_1.2 2))), ((q_t_2_1 4), .inl (cs 0, 3, .inl (d_t_2_1.2 4))), ((q_t_2_1 5), .inl (cs 0, 3, .inl (d_t_2_1.2 5))), ((q_t 3), .inl (cs 4, 2, .inr (.inr (.inr (.inr (fun j => some (q_t_3 j))))))), oX0 (q_t_3 1) q_t_3_1 (d_t_3_1.1), ((q_t_3_1 1), .inl (cs 0, 6, .inl (d_t_3_1.2 1))), ((q_t_3_1 2), .inl (cs 0, 6, .inl (d_t_3_1.2 2))), ((q_t_3_1 3), .inl (cs 0, 6, .inl (d_t_3_1.2 3))), ((q_t_3_1 4), .inl (cs 0, 6, .inl (d_t_3_1.2 4))), ((q_t_3_1 5), .inl (cs 0, 6, .inl (d_t_3_1.2 5))), ((q_t_3_1 9), .inl (cs 0, 48, .inl (d_t_3_1.2 9))), ((q_t 4), .inl (cs 0, 2, .inl (d_t.2 4)))] H := hP
    replace hD : va_D A [oX6 h_t q_t (r13.2.1), oX4 (q_t 0) q_t_0 (d_t_0.1), ((q_t_0 1), .inl (cs 0, 6, .inl (d_t_0.2 1))), ((q_t_0 2), .inl (cs 0, 6, .inl (d_t_0.2 2))), ((q_t_0 4), .inl (cs 0, 3, .inl (d_t_0.2 4))), ((q_t_0 5), .inl (cs 0, 3, .inl (d_t_0.2 5))), oX0 (q_t 1) q_t_1 (d_t_1.1), ((q_t_1 1), .inl (cs 0, 6, .inl (d_t_1.2 1))), ((q_t_1 2), .inl (cs 0, 6, .inl (d_t_1.2 2))), ((q_t_1 3), .inl (cs 0, 6, .inl (d_t_1.2 3))), ((q_t_1 4), .inl (cs 0, 6, .inl (d_t_1.2 4))), ((q_t_1 5), .inl (cs 0, 6, .inl (d_t_1.2 5))), ((q_t_1 9), .inl (cs 0, 48, .inl (d_t_1.2 9))), ((q_t 2), .inl (cs 3, 2, .inr (.inr (.inr (.inr (fun j => some (q_t_2 j))))))), oX4 (q_t_2 1) q_t_2_1 (d_t_2_1.1), ((q_t_2_1 1), .inl (cs 0, 6, .inl (d_t_2_1.2 1))), ((q_t_2_1 2), .inl (cs 0, 6, .inl (d_t_2_1.2 2))), ((q_t_2_1 4), .inl (cs 0, 3, .inl (d_t_2_1.2 4))), ((q_t_2_1 5), .inl (cs 0, 3, .inl (d_t_2_1.2 5))), ((q_t 3), .inl (cs 4, 2, .inr (.inr (.inr (.inr (fun j => some (q_t_3 j))))))), oX0 (q_t_3 1) q_t_3_1 (d_t_3_1.1), ((q_t_3_1 1), .inl (cs 0, 6, .inl (d_t_3_1.2 1))), ((q_t_3_1 2), .inl (cs 0, 6, .inl (d_t_3_1.2 2))), ((q_t_3_1 3), .inl (cs 0, 6, .inl (d_t_3_1.2 3))), ((q_t_3_1 4), .inl (cs 0, 6, .inl (d_t_3_1.2 4))), ((q_t_3_1 5), .inl (cs 0, 6, .inl (d_t_3_1.2 5))), ((q_t_3_1 9), .inl (cs 0, 48, .inl (d_t_3_1.2 9))), ((q_t 4), .inl (cs 0, 2, .inl (d_t.2 4)))] := hD
    have e9 := Option.some.inj hf
    subst e9
    exact hR _ _ _ _ dX6_from_15 hP hS
abbrev rm_X6_from_x : Room := { frames := 3, cells := 0, slots := 0, locals := 102 }
def fX6_from_x (k : Nat) (d_t : Dat) (x1 : Int32) : Option (Int32 × Dat) :=
  (fX6_isWithin k x1 0 1).bind (fun (r1 : Int32) => (if r1 = 0 then (fX6_refuseBad k d_t (-2)).bind (fun (r9 : Int32 × Dat) => some ((r9.1), (r9.2.1, d_t.2))) else chk 2 x1 ((if ((d_t.2 4) x1.toNatClampNeg) = 0 then (fX6_refuseNo k d_t).bind (fun (r7 : Int32 × Dat) => some ((r7.1), (r7.2.1, d_t.2))) else (none : Option (Int32 × Dat))))))
set_option maxHeartbeats 4000000 in
set_option maxRecDepth 100000 in
theorem mX6_from_x (l : Launch) (D : va_G) (cs : Nat → ClassId) (sk : Nat → Nat) (h_t : Nat) (q_t : Nat → Nat) (k : Nat) (d_t : Dat) (x1 : Int32) {rv : Int32 × Dat} (hf : fX6_from_x k d_t x1 = some rv) : CTi l yX6_from (Cond.code yX6_from cX6_from 2 (some .int) :: gtbl) rm_X6_from_x D cs sk [.ref h_t, .int x1] [oX6 h_t q_t (d_t.1), ((q_t 4), .inl (cs 0, 2, .inl (d_t.2 4)))] (rv.1) [oX6 h_t q_t (rv.2.1), ((q_t 4), .inl (cs 0, 2, .inl (d_t.2 4)))] := by
  refine CTi.of RX6 (by decide +kernel) rfl (Nat.le_of_ble_eq_true rfl) (fun p e s m args below meth c A Q ls M hA hR hl hP hD hS => ?_)
  obtain ⟨hx, hb, hml, hT, hown, hlk, hrt, hK, hN, hSE⟩ := id M
  replace hl : lv_has ls 2 [(0, .ref h_t), (1, .int x1)] := hl
  unfold fX6_from_x at hf
  refine lv_iload_n hx hb dX6_from_0 rfl (lv_at hl 1 rfl) ?_
  refine lv_iconst (v := 0) hx hb dX6_from_1 rfl ?_
  refine lv_iconst (v := 1) hx hb dX6_from_2 rfl ?_
  obtain ⟨r1, e2, hf⟩ := bind_some hf
  refine callSi (As := [.int x1, .int 0, .int 1]) (rest := []) M (mX6_isWithin l D cs sk  k x1 0 1 e2) mw_X6_121 ln_X6_isWithin ⟨rfl, rfl, Nat.le_of_ble_eq_true rfl, Nat.le_of_ble_eq_true rfl⟩ hP hD hS hA [] (by decide) rfl rfl ⟨Nat.zero_le _, Nat.zero_le _⟩ hl.1 rfl (Nat.le_of_ble_eq_true rfl) dX6_from_3 (fun H locs hP hD hS => ?_)
  replace hP : va_P D vwCl [oX6 h_t q_t (d_t.1), ((q_t 4), .inl (cs 0, 2, .inl (d_t.2 4)))] H := hP
  replace hD : va_D A [oX6 h_t q_t (d_t.1), ((q_t 4), .inl (cs 0, 2, .inl (d_t.2 4)))] := hD
  have g4 := ite_some hf
  refine lv_if_ne (tgt := 16) hx hb dX6_from_6 (by decide) (fun c3 => ?_) (fun c3 => ?_)
  · replace hf := g4.2 c3
    refine lv_aload_n hx hb dX6_from_16 rfl (lv_at hl 0 rfl) ?_
    refine va_get (D := D) (ci := 6) (v := .ref (q_t 4)) (C := RX6) (T := TX6) (N := 18) hx hb hT iX6 hown hK hP 0 rfl rfl 4 (by decide) (hT _ fw_X6_31) (fun _ h9 => h9) rfl dX6_from_17 ?_
    refine lv_iload_n hx hb dX6_from_20 rfl (lv_at hl 1 rfl) ?_
    obtain ⟨hi, hf⟩ := chk_some hf
    refine va_iald (D := D) hx hb hK hP 1 0 rfl rfl hi dX6_from_21 ?_
    have g6 := ite_some hf
    refine lv_if_ne (tgt := 30) hx hb dX6_from_22 (by decide) (fun c5 => ?_) (fun c5 => ?_)
    · replace hf := g6.2 c5
      refine lv_aload_n hx hb dX6_from_30 rfl (lv_at hl 0 rfl) ?_
      refine va_get (D := D) (ci := 6) (v := .ref (q_t 0)) (C := RX6) (T := TX6) (N := 18) hx hb hT iX6 hown hK hP 0 rfl rfl 0 (by decide) (hT _ fw_X6_10) (fun _ h9 => h9) rfl dX6_from_31 ?_
      refine lv_aload_n hx hb dX6_from_34 rfl (lv_at hl 0 rfl) ?_
      refine va_get (D := D) (ci := 6) (v := .ref (q_t 2)) (C := RX6) (T := TX6) (N := 18) hx hb hT iX6 hown hK hP 0 rfl rfl 2 (by decide) (hT _ fw_X6_23) (fun _ h9 => h9) rfl dX6_from_35 ?_
      refine lv_iload_n hx hb dX6_from_38 rfl (lv_at hl 1 rfl) ?_
      exact none_some hf
    · replace hf := g6.1 c5
      refine lv_aload_n hx hb dX6_from_25 rfl (lv_at hl 0 rfl) ?_
      obtain ⟨r7, e8, hf⟩ := bind_some hf
      refine callVi (As := []) (rest := []) M (mX6_refuseNo l D cs sk h_t q_t k d_t e8) mw_X6_242 ln_X6_refuseNo ⟨rfl, rfl, Nat.le_of_ble_eq_true rfl, Nat.le_of_ble_eq_true rfl⟩ hP hD hS hA [0] (by decide) rfl rfl (q0 := 0) rfl rfl rfl ⟨Nat.zero_le _, Nat.zero_le _⟩ hl.1 rfl (Nat.le_of_ble_eq_true rfl) dX6_from_26 (fun H locs hP hD hS => ?_)
      replace hP : va_P D vwCl [oX6 h_t q_t (r7.2.1), ((q_t 4), .inl (cs 0, 2, .inl (d_t.2 4)))] H := hP
      replace hD : va_D A [oX6 h_t q_t (r7.2.1), ((q_t 4), .inl (cs 0, 2, .inl (d_t.2 4)))] := hD
      have e9 := Option.some.inj hf
      subst e9
      exact hR _ _ _ _ dX6_from_29 hP hS
  · replace hf := g4.1 c3
    refine lv_aload_n hx hb dX6_from_9 rfl (lv_at hl 0 rfl) ?_
    refine lv_bipush (v := (-2)) hx hb dX6_from_10 rfl ?_
    obtain ⟨r9, e10, hf⟩ := bind_some hf
    refine callVi (As := [.int (-2)]) (rest := []) M (mX6_refuseBad l D cs sk h_t q_t k d_t (-2) e10) mw_X6_96 ln_X6_refuseBad ⟨rfl, rfl, Nat.le_of_ble_eq_true rfl, Nat.le_of_ble_eq_true rfl⟩ hP hD hS hA [0] (by decide) rfl rfl (q0 := 0) rfl rfl rfl ⟨Nat.zero_le _, Nat.zero_le _⟩ hl.1 rfl (Nat.le_of_ble_eq_true rfl) dX6_from_12 (fun H locs hP hD hS => ?_)
    replace hP : va_P D vwCl [oX6 h_t q_t (r9.2.1), ((q_t 4), .inl (cs 0, 2, .inl (d_t.2 4)))] H := hP
    replace hD : va_D A [oX6 h_t q_t (r9.2.1), ((q_t 4), .inl (cs 0, 2, .inl (d_t.2 4)))] := hD
    have e9 := Option.some.inj hf
    subst e9
    exact hR _ _ _ _ dX6_from_15 hP hS
abbrev rm_X6_status : Room := { frames := 1, cells := 0, slots := 0, locals := 21 }
def fX6_status (k : Nat) (d_t : Dat) (x1 : Int32) : Option (Int32 × Dat) :=
  (if x1 = 0 then some ((d_t.1 15), d_t) else (if x1 = 1 then some ((d_t.1 16), d_t) else (if x1 = 2 then some ((d_t.1 17), d_t) else (fX6_refuseBad k d_t (-1)).bind (fun (r7 : Int32 × Dat) => some ((r7.1), (r7.2.1, d_t.2))))))
set_option maxHeartbeats 4000000 in
set_option maxRecDepth 100000 in
theorem mX6_status (l : Launch) (D : va_G) (cs : Nat → ClassId) (sk : Nat → Nat) (h_t : Nat) (q_t : Nat → Nat) (k : Nat) (d_t : Dat) (x1 : Int32) {rv : Int32 × Dat} (hf : fX6_status k d_t x1 = some rv) : CTi l yX6_status (Cond.code yX6_status cX6_status 2 (some .int) :: gtbl) rm_X6_status D cs sk [.ref h_t, .int x1] [oX6 h_t q_t (d_t.1)] (rv.1) [oX6 h_t q_t (rv.2.1)] := by
  refine CTi.of RX6 (by decide +kernel) rfl (Nat.le_of_ble_eq_true rfl) (fun p e s m args below meth c A Q ls M hA hR hl hP hD hS => ?_)
  obtain ⟨hx, hb, hml, hT, hown, hlk, hrt, hK, hN, hSE⟩ := id M
  replace hl : lv_has ls 2 [(0, .ref h_t), (1, .int x1)] := hl
  unfold fX6_status at hf
  refine lv_iload_n hx hb dX6_status_0 rfl (lv_at hl 1 rfl) ?_
  have g2 := ite_some hf
  by_cases c1 : x1 = 0
  · replace hf := g2.1 c1
    refine lv_tableIn (off := 27) (tgt := 28) hx hb dX6_status_1 (by rw [c1]; decide) (by rw [c1]; decide) (by rw [c1]; rfl) (by decide) ?_
    refine lv_aload_n hx hb dX6_status_28 rfl (lv_at hl 0 rfl) ?_
    refine va_get (D := D) (ci := 6) (v := .int (d_t.1 15)) (C := RX6) (T := TX6) (N := 18) hx hb hT iX6 hown hK hP 0 rfl rfl 15 (by decide) (hT _ fw_X6_83) (fun _ h9 => h9) rfl dX6_status_29 ?_
    have e9 := Option.some.inj hf
    subst e9
    exact hR _ _ _ _ dX6_status_32 hP hS
  · replace hf := g2.2 c1
    have g4 := ite_some hf
    by_cases c3 : x1 = 1
    · replace hf := g4.1 c3
      refine lv_tableIn (off := 32) (tgt := 33) hx hb dX6_status_1 (by rw [c3]; decide) (by rw [c3]; decide) (by rw [c3]; rfl) (by decide) ?_
      refine lv_aload_n hx hb dX6_status_33 rfl (lv_at hl 0 rfl) ?_
      refine va_get (D := D) (ci := 6) (v := .int (d_t.1 16)) (C := RX6) (T := TX6) (N := 18) hx hb hT iX6 hown hK hP 0 rfl rfl 16 (by decide) (hT _ fw_X6_86) (fun _ h9 => h9) rfl dX6_status_34 ?_
      have e9 := Option.some.inj hf
      subst e9
      exact hR _ _ _ _ dX6_status_37 hP hS
    · replace hf := g4.2 c3
      have g6 := ite_some hf
      by_cases c5 : x1 = 2
      · replace hf := g6.1 c5
        refine lv_tableIn (off := 37) (tgt := 38) hx hb dX6_status_1 (by rw [c5]; decide) (by rw [c5]; decide) (by rw [c5]; rfl) (by decide) ?_
        refine lv_aload_n hx hb dX6_status_38 rfl (lv_at hl 0 rfl) ?_
        refine va_get (D := D) (ci := 6) (v := .int (d_t.1 17)) (C := RX6) (T := TX6) (N := 18) hx hb hT iX6 hown hK hP 0 rfl rfl 17 (by decide) (hT _ fw_X6_89) (fun _ h9 => h9) rfl dX6_status_39 ?_
        have e9 := Option.some.inj hf
        subst e9
        exact hR _ _ _ _ dX6_status_42 hP hS
      · replace hf := g6.2 c5
        refine lv_tableOut (tgt := 43) hx hb dX6_status_1 (tsw_out3 c1 c3 c5) (by decide) ?_
        refine lv_aload_n hx hb dX6_status_43 rfl (lv_at hl 0 rfl) ?_
        refine lv_iconst (v := (-1)) hx hb dX6_status_44 rfl ?_
        obtain ⟨r7, e8, hf⟩ := bind_some hf
        refine callVi (As := [.int (-1)]) (rest := []) M (mX6_refuseBad l D cs sk h_t q_t k d_t (-1) e8) mw_X6_96 ln_X6_refuseBad ⟨rfl, rfl, Nat.le_of_ble_eq_true rfl, Nat.le_of_ble_eq_true rfl⟩ hP hD hS hA [0] (by decide) rfl rfl (q0 := 0) rfl rfl rfl ⟨Nat.zero_le _, Nat.zero_le _⟩ hl.1 rfl (Nat.le_of_ble_eq_true rfl) dX6_status_45 (fun H locs hP hD hS => ?_)
        replace hP : va_P D vwCl [oX6 h_t q_t (r7.2.1)] H := hP
        replace hD : va_D A [oX6 h_t q_t (r7.2.1)] := hD
        have e9 := Option.some.inj hf
        subst e9
        exact hR _ _ _ _ dX6_status_48 hP hS
abbrev rm_X6_howMany : Room := { frames := 0, cells := 0, slots := 0, locals := 0 }
def fX6_howMany (k : Nat) (d_t : Dat) (d_t_0 : Dat) (d_t_1 : Dat) (x1 : Int32) : Option (Int32) :=
  (if x1 = 0 then some (d_t_0.1 0) else (if x1 = 1 then some (d_t_0.1 3) else (if x1 = 2 then some (d_t_1.1 0) else (if x1 = 3 then some (d_t_1.1 8) else some (d_t.1 13)))))
set_option maxHeartbeats 4000000 in
set_option maxRecDepth 100000 in
theorem mX6_howMany (l : Launch) (D : va_G) (cs : Nat → ClassId) (sk : Nat → Nat) (h_t : Nat) (q_t : Nat → Nat) (q_t_0 : Nat → Nat) (q_t_1 : Nat → Nat) (k : Nat) (d_t : Dat) (d_t_0 : Dat) (d_t_1 : Dat) (x1 : Int32) {rv : Int32} (hf : fX6_howMany k d_t d_t_0 d_t_1 x1 = some rv) : CTi l yX6_howMany (Cond.code yX6_howMany cX6_howMany 2 (some .int) :: gtbl) rm_X6_howMany D cs sk [.ref h_t, .int x1] [oX6 h_t q_t (d_t.1), oX4 (q_t 0) q_t_0 (d_t_0.1), oX0 (q_t 1) q_t_1 (d_t_1.1)] (rv) [oX6 h_t q_t (d_t.1), oX4 (q_t 0) q_t_0 (d_t_0.1), oX0 (q_t 1) q_t_1 (d_t_1.1)] := by
  refine CTi.of RX6 (by decide +kernel) rfl (Nat.le_of_ble_eq_true rfl) (fun p e s m args below meth c A Q ls M hA hR hl hP hD hS => ?_)
  obtain ⟨hx, hb, hml, hT, hown, hlk, hrt, hK, hN, hSE⟩ := id M
  replace hl : lv_has ls 2 [(0, .ref h_t), (1, .int x1)] := hl
  unfold fX6_howMany at hf
  refine lv_iload_n hx hb dX6_howMany_0 rfl (lv_at hl 1 rfl) ?_
  have g2 := ite_some hf
  by_cases c1 : x1 = 0
  · replace hf := g2.1 c1
    refine lv_tableIn (off := 31) (tgt := 32) hx hb dX6_howMany_1 (by rw [c1]; decide) (by rw [c1]; decide) (by rw [c1]; rfl) (by decide) ?_
    refine lv_aload_n hx hb dX6_howMany_32 rfl (lv_at hl 0 rfl) ?_
    refine va_get (D := D) (ci := 6) (v := .ref (q_t 0)) (C := RX6) (T := TX6) (N := 18) hx hb hT iX6 hown hK hP 0 rfl rfl 0 (by decide) (hT _ fw_X6_10) (fun _ h9 => h9) rfl dX6_howMany_33 ?_
    refine va_get (D := D) (ci := 4) (v := .int (d_t_0.1 0)) (C := RX4) (T := TX4) (N := 11) hx hb hT iX4 hown hK hP 1 rfl rfl 0 (by decide) (hT _ fw_X6_100) (fun _ h9 => h9) rfl dX6_howMany_36 ?_
    have e9 := Option.some.inj hf
    subst e9
    exact hR _ _ _ _ dX6_howMany_39 hP hS
  · replace hf := g2.2 c1
    have g4 := ite_some hf
    by_cases c3 : x1 = 1
    · replace hf := g4.1 c3
      refine lv_tableIn (off := 39) (tgt := 40) hx hb dX6_howMany_1 (by rw [c3]; decide) (by rw [c3]; decide) (by rw [c3]; rfl) (by decide) ?_
      refine lv_aload_n hx hb dX6_howMany_40 rfl (lv_at hl 0 rfl) ?_
      refine va_get (D := D) (ci := 6) (v := .ref (q_t 0)) (C := RX6) (T := TX6) (N := 18) hx hb hT iX6 hown hK hP 0 rfl rfl 0 (by decide) (hT _ fw_X6_10) (fun _ h9 => h9) rfl dX6_howMany_41 ?_
      refine va_get (D := D) (ci := 4) (v := .int (d_t_0.1 3)) (C := RX4) (T := TX4) (N := 11) hx hb hT iX4 hown hK hP 1 rfl rfl 3 (by decide) (hT _ fw_X6_111) (fun _ h9 => h9) rfl dX6_howMany_44 ?_
      have e9 := Option.some.inj hf
      subst e9
      exact hR _ _ _ _ dX6_howMany_47 hP hS
    · replace hf := g4.2 c3
      have g6 := ite_some hf
      by_cases c5 : x1 = 2
      · replace hf := g6.1 c5
        refine lv_tableIn (off := 47) (tgt := 48) hx hb dX6_howMany_1 (by rw [c5]; decide) (by rw [c5]; decide) (by rw [c5]; rfl) (by decide) ?_
        refine lv_aload_n hx hb dX6_howMany_48 rfl (lv_at hl 0 rfl) ?_
        refine va_get (D := D) (ci := 6) (v := .ref (q_t 1)) (C := RX6) (T := TX6) (N := 18) hx hb hT iX6 hown hK hP 0 rfl rfl 1 (by decide) (hT _ fw_X6_19) (fun _ h9 => h9) rfl dX6_howMany_49 ?_
        refine va_get (D := D) (ci := 0) (v := .int (d_t_1.1 0)) (C := RX0) (T := TX0) (N := 10) hx hb hT iX0 hown hK hP 2 rfl rfl 0 (by decide) (hT _ fw_X6_144) (fun _ h9 => h9) rfl dX6_howMany_52 ?_
        have e9 := Option.some.inj hf
        subst e9
        exact hR _ _ _ _ dX6_howMany_55 hP hS
      · replace hf := g6.2 c5
        have g8 := ite_some hf
        by_cases c7 : x1 = 3
        · replace hf := g8.1 c7
          refine lv_tableIn (off := 55) (tgt := 56) hx hb dX6_howMany_1 (by rw [c7]; decide) (by rw [c7]; decide) (by rw [c7]; rfl) (by decide) ?_
          refine lv_aload_n hx hb dX6_howMany_56 rfl (lv_at hl 0 rfl) ?_
          refine va_get (D := D) (ci := 6) (v := .ref (q_t 1)) (C := RX6) (T := TX6) (N := 18) hx hb hT iX6 hown hK hP 0 rfl rfl 1 (by decide) (hT _ fw_X6_19) (fun _ h9 => h9) rfl dX6_howMany_57 ?_
          refine va_get (D := D) (ci := 0) (v := .int (d_t_1.1 8)) (C := RX0) (T := TX0) (N := 10) hx hb hT iX0 hown hK hP 2 rfl rfl 8 (by decide) (hT _ fw_X6_239) (fun _ h9 => h9) rfl dX6_howMany_60 ?_
          have e9 := Option.some.inj hf
          subst e9
          exact hR _ _ _ _ dX6_howMany_63 hP hS
        · replace hf := g8.2 c7
          refine lv_tableOut (tgt := 64) hx hb dX6_howMany_1 (tsw_out4 c1 c3 c5 c7) (by decide) ?_
          refine lv_aload_n hx hb dX6_howMany_64 rfl (lv_at hl 0 rfl) ?_
          refine va_get (D := D) (ci := 6) (v := .int (d_t.1 13)) (C := RX6) (T := TX6) (N := 18) hx hb hT iX6 hown hK hP 0 rfl rfl 13 (by decide) (hT _ fw_X6_76) (fun _ h9 => h9) rfl dX6_howMany_65 ?_
          have e9 := Option.some.inj hf
          subst e9
          exact hR _ _ _ _ dX6_howMany_68 hP hS
abbrev rm_X6_count : Room := { frames := 1, cells := 0, slots := 0, locals := 22 }
def fX6_count (k : Nat) (d_t : Dat) (d_t_0 : Dat) (d_t_1 : Dat) (x1 : Int32) : Option (Int32 × Dat) :=
  (fX6_isWithin k x1 0 4).bind (fun (r1 : Int32) => (if r1 = 0 then (fX6_refuseBad k d_t (-2)).bind (fun (r7 : Int32 × Dat) => some ((r7.1), (r7.2.1, d_t.2))) else (fX6_howMany k d_t d_t_0 d_t_1 x1).bind (fun (r5 : Int32) => some (r5, d_t))))
set_option maxHeartbeats 4000000 in
set_option maxRecDepth 100000 in
theorem mX6_count (l : Launch) (D : va_G) (cs : Nat → ClassId) (sk : Nat → Nat) (h_t : Nat) (q_t : Nat → Nat) (q_t_0 : Nat → Nat) (q_t_1 : Nat → Nat) (k : Nat) (d_t : Dat) (d_t_0 : Dat) (d_t_1 : Dat) (x1 : Int32) {rv : Int32 × Dat} (hf : fX6_count k d_t d_t_0 d_t_1 x1 = some rv) : CTi l yX6_count (Cond.code yX6_count cX6_count 2 (some .int) :: gtbl) rm_X6_count D cs sk [.ref h_t, .int x1] [oX6 h_t q_t (d_t.1), oX4 (q_t 0) q_t_0 (d_t_0.1), oX0 (q_t 1) q_t_1 (d_t_1.1)] (rv.1) [oX6 h_t q_t (rv.2.1), oX4 (q_t 0) q_t_0 (d_t_0.1), oX0 (q_t 1) q_t_1 (d_t_1.1)] := by
  refine CTi.of RX6 (by decide +kernel) rfl (Nat.le_of_ble_eq_true rfl) (fun p e s m args below meth c A Q ls M hA hR hl hP hD hS => ?_)
  obtain ⟨hx, hb, hml, hT, hown, hlk, hrt, hK, hN, hSE⟩ := id M
  replace hl : lv_has ls 2 [(0, .ref h_t), (1, .int x1)] := hl
  unfold fX6_count at hf
  refine lv_iload_n hx hb dX6_count_0 rfl (lv_at hl 1 rfl) ?_
  refine lv_iconst (v := 0) hx hb dX6_count_1 rfl ?_
  refine lv_iconst (v := 4) hx hb dX6_count_2 rfl ?_
  obtain ⟨r1, e2, hf⟩ := bind_some hf
  refine callSi (As := [.int x1, .int 0, .int 4]) (rest := []) M (mX6_isWithin l D cs sk  k x1 0 4 e2) mw_X6_121 ln_X6_isWithin ⟨rfl, rfl, Nat.le_of_ble_eq_true rfl, Nat.le_of_ble_eq_true rfl⟩ hP hD hS hA [] (by decide) rfl rfl ⟨Nat.zero_le _, Nat.zero_le _⟩ hl.1 rfl (Nat.le_of_ble_eq_true rfl) dX6_count_3 (fun H locs hP hD hS => ?_)
  replace hP : va_P D vwCl [oX6 h_t q_t (d_t.1), oX4 (q_t 0) q_t_0 (d_t_0.1), oX0 (q_t 1) q_t_1 (d_t_1.1)] H := hP
  replace hD : va_D A [oX6 h_t q_t (d_t.1), oX4 (q_t 0) q_t_0 (d_t_0.1), oX0 (q_t 1) q_t_1 (d_t_1.1)] := hD
  have g4 := ite_some hf
  refine lv_if_ne (tgt := 16) hx hb dX6_count_6 (by decide) (fun c3 => ?_) (fun c3 => ?_)
  · replace hf := g4.2 c3
    refine lv_aload_n hx hb dX6_count_16 rfl (lv_at hl 0 rfl) ?_
    refine lv_iload_n hx hb dX6_count_17 rfl (lv_at hl 1 rfl) ?_
    obtain ⟨r5, e6, hf⟩ := bind_some hf
    refine callVi (As := [.int x1]) (rest := []) M (mX6_howMany l D cs sk h_t q_t q_t_0 q_t_1 k d_t d_t_0 d_t_1 x1 e6) mw_X6_269 ln_X6_howMany ⟨rfl, rfl, Nat.le_of_ble_eq_true rfl, Nat.le_of_ble_eq_true rfl⟩ hP hD hS hA [0, 1, 2] (by decide) rfl rfl (q0 := 0) rfl rfl rfl ⟨Nat.zero_le _, Nat.zero_le _⟩ hl.1 rfl (Nat.le_of_ble_eq_true rfl) dX6_count_18 (fun H locs hP hD hS => ?_)
    replace hP : va_P D vwCl [oX6 h_t q_t (d_t.1), oX4 (q_t 0) q_t_0 (d_t_0.1), oX0 (q_t 1) q_t_1 (d_t_1.1)] H := hP
    replace hD : va_D A [oX6 h_t q_t (d_t.1), oX4 (q_t 0) q_t_0 (d_t_0.1), oX0 (q_t 1) q_t_1 (d_t_1.1)] := hD
    have e9 := Option.some.inj hf
    subst e9
    exact hR _ _ _ _ dX6_count_21 hP hS
  · replace hf := g4.1 c3
    refine lv_aload_n hx hb dX6_count_9 rfl (lv_at hl 0 rfl) ?_
    refine lv_bipush (v := (-2)) hx hb dX6_count_10 rfl ?_
    obtain ⟨r7, e8, hf⟩ := bind_some hf
    refine callVi (As := [.int (-2)]) (rest := []) M (mX6_refuseBad l D cs sk h_t q_t k d_t (-2) e8) mw_X6_96 ln_X6_refuseBad ⟨rfl, rfl, Nat.le_of_ble_eq_true rfl, Nat.le_of_ble_eq_true rfl⟩ hP hD hS hA [0] (by decide) rfl rfl (q0 := 0) rfl rfl rfl ⟨Nat.zero_le _, Nat.zero_le _⟩ hl.1 rfl (Nat.le_of_ble_eq_true rfl) dX6_count_12 (fun H locs hP hD hS => ?_)
    replace hP : va_P D vwCl [oX6 h_t q_t (r7.2.1), oX4 (q_t 0) q_t_0 (d_t_0.1), oX0 (q_t 1) q_t_1 (d_t_1.1)] H := hP
    replace hD : va_D A [oX6 h_t q_t (r7.2.1), oX4 (q_t 0) q_t_0 (d_t_0.1), oX0 (q_t 1) q_t_1 (d_t_1.1)] := hD
    have e9 := Option.some.inj hf
    subst e9
    exact hR _ _ _ _ dX6_count_15 hP hS
abbrev rm_X6_digest : Room := { frames := 1, cells := 0, slots := 0, locals := 26 }
def fX6_digest_B6 (k : Nat) (d_t : Dat) (d_t_0 : Dat) (d_t_1 : Dat) (K30 : Int64 → Option (Int64)) (rec : Int64 × Int32 → Option (Int64)) (v : Int64 × Int32) : Option (Int64) :=
  (if 4 < (v.2) then K30 (v.1) else (fX6_howMany k d_t d_t_0 d_t_1 (v.2)).bind (fun (r3 : Int32) => rec (((31 * (v.1)) + r3.toInt64), ((v.2) + 1))))
def fX6_digest (k : Nat) (d_t : Dat) (d_t_0 : Dat) (d_t_1 : Dat) : Option (Int64) :=
  lp (fX6_digest_B6 k d_t d_t_0 d_t_1 (fun (w1 : Int64) => (fX4_digestOn k d_t_0 w1).bind (fun (r2 : Int64) => (fX0_digestOn k d_t_1 d_t_0 r2).bind (fun (r4 : Int64) => some r4)))) k (677, 0)
set_option maxHeartbeats 4000000 in
set_option maxRecDepth 100000 in
theorem mX6_digest_B6 {l : Launch} {p : Program} {e : Env} {s : State} {m : MethodId} {args : Array Value} {below : List Frame} {meth : Method} {c : Code} {D : va_G} {cs : Nat → ClassId} {sk : Nat → Nat} {A : Nat → Prop} {Q : State → Prop} (h_t : Nat) (q_t : Nat → Nat) (q_t_0 : Nat → Nat) (q_t_1 : Nat → Nat) (k : Nat) (d_t : Dat) (d_t_0 : Dat) (d_t_1 : Dat) {rv : Int64}  (K30 : Int64 → Option (Int64))
    (M : MC p s m args meth c D cs sk A RX6 cX6_digest 4 (some .long)) (hA : ∀ q, s.heap.size ≤ q → A q) (hR : RetL p l e rm_X6_digest s m args below meth c D cX6_digest A Q (rv) [oX6 h_t q_t (d_t.1), oX4 (q_t 0) q_t_0 (d_t_0.1), ((q_t_0 1), .inl (cs 0, 6, .inl (d_t_0.2 1))), ((q_t_0 2), .inl (cs 0, 6, .inl (d_t_0.2 2))), ((q_t_0 4), .inl (cs 0, 3, .inl (d_t_0.2 4))), ((q_t_0 5), .inl (cs 0, 3, .inl (d_t_0.2 5))), oX0 (q_t 1) q_t_1 (d_t_1.1), ((q_t_1 1), .inl (cs 0, 6, .inl (d_t_1.2 1))), ((q_t_1 2), .inl (cs 0, 6, .inl (d_t_1.2 2))), ((q_t_1 3), .inl (cs 0, 6, .inl (d_t_1.2 3))), ((q_t_1 4), .inl (cs 0, 6, .inl (d_t_1.2 4))), ((q_t_1 5), .inl (cs 0, 6, .inl (d_t_1.2 5)))])
    (hK30 : ∀ (w : Int64), K30 w = some rv → ∀ (H : Heap) (locs : List Loc) (ls : Array Slot), va_P D vwCl [oX6 h_t q_t (d_t.1), oX4 (q_t 0) q_t_0 (d_t_0.1), ((q_t_0 1), .inl (cs 0, 6, .inl (d_t_0.2 1))), ((q_t_0 2), .inl (cs 0, 6, .inl (d_t_0.2 2))), ((q_t_0 4), .inl (cs 0, 3, .inl (d_t_0.2 4))), ((q_t_0 5), .inl (cs 0, 3, .inl (d_t_0.2 5))), oX0 (q_t 1) q_t_1 (d_t_1.1), ((q_t_1 1), .inl (cs 0, 6, .inl (d_t_1.2 1))), ((q_t_1 2), .inl (cs 0, 6, .inl (d_t_1.2 2))), ((q_t_1 3), .inl (cs 0, 6, .inl (d_t_1.2 3))), ((q_t_1 4), .inl (cs 0, 6, .inl (d_t_1.2 4))), ((q_t_1 5), .inl (cs 0, 6, .inl (d_t_1.2 5)))] H → va_D A [oX6 h_t q_t (d_t.1), oX4 (q_t 0) q_t_0 (d_t_0.1), ((q_t_0 1), .inl (cs 0, 6, .inl (d_t_0.2 1))), ((q_t_0 2), .inl (cs 0, 6, .inl (d_t_0.2 2))), ((q_t_0 4), .inl (cs 0, 3, .inl (d_t_0.2 4))), ((q_t_0 5), .inl (cs 0, 3, .inl (d_t_0.2 5))), oX0 (q_t 1) q_t_1 (d_t_1.1), ((q_t_1 1), .inl (cs 0, 6, .inl (d_t_1.2 1))), ((q_t_1 2), .inl (cs 0, 6, .inl (d_t_1.2 2))), ((q_t_1 3), .inl (cs 0, 6, .inl (d_t_1.2 3))), ((q_t_1 4), .inl (cs 0, 6, .inl (d_t_1.2 4))), ((q_t_1 5), .inl (cs 0, 6, .inl (d_t_1.2 5)))] → va_S A s.heap H locs → lv_has ls 4 [(0, .ref h_t), (1, .long w)] → W p l e rm_X6_digest s m args below meth c H locs 0 0 Q (F0 m 30 ls []))
    : ∀ (n : Nat) (v : Int64 × Int32), lp (fX6_digest_B6 k d_t d_t_0 d_t_1 K30) n v = some rv → ∀ (H : Heap) (locs : List Loc) (ls : Array Slot), va_P D vwCl [oX6 h_t q_t (d_t.1), oX4 (q_t 0) q_t_0 (d_t_0.1), ((q_t_0 1), .inl (cs 0, 6, .inl (d_t_0.2 1))), ((q_t_0 2), .inl (cs 0, 6, .inl (d_t_0.2 2))), ((q_t_0 4), .inl (cs 0, 3, .inl (d_t_0.2 4))), ((q_t_0 5), .inl (cs 0, 3, .inl (d_t_0.2 5))), oX0 (q_t 1) q_t_1 (d_t_1.1), ((q_t_1 1), .inl (cs 0, 6, .inl (d_t_1.2 1))), ((q_t_1 2), .inl (cs 0, 6, .inl (d_t_1.2 2))), ((q_t_1 3), .inl (cs 0, 6, .inl (d_t_1.2 3))), ((q_t_1 4), .inl (cs 0, 6, .inl (d_t_1.2 4))), ((q_t_1 5), .inl (cs 0, 6, .inl (d_t_1.2 5)))] H → va_D A [oX6 h_t q_t (d_t.1), oX4 (q_t 0) q_t_0 (d_t_0.1), ((q_t_0 1), .inl (cs 0, 6, .inl (d_t_0.2 1))), ((q_t_0 2), .inl (cs 0, 6, .inl (d_t_0.2 2))), ((q_t_0 4), .inl (cs 0, 3, .inl (d_t_0.2 4))), ((q_t_0 5), .inl (cs 0, 3, .inl (d_t_0.2 5))), oX0 (q_t 1) q_t_1 (d_t_1.1), ((q_t_1 1), .inl (cs 0, 6, .inl (d_t_1.2 1))), ((q_t_1 2), .inl (cs 0, 6, .inl (d_t_1.2 2))), ((q_t_1 3), .inl (cs 0, 6, .inl (d_t_1.2 3))), ((q_t_1 4), .inl (cs 0, 6, .inl (d_t_1.2 4))), ((q_t_1 5), .inl (cs 0, 6, .inl (d_t_1.2 5)))] → va_S A s.heap H locs → lv_has ls 4 [(0, .ref h_t), (1, .long (v.1)), (3, .int (v.2))] → W p l e rm_X6_digest s m args below meth c H locs 0 0 Q (F0 m 6 ls []) := by
  obtain ⟨hx, hb, hml, hT, hown, hlk, hrt, hK, hN, hSE⟩ := id M
  refine lp_ind (fun rec ih v hf H locs ls hP hD hS hl => ?_)
  unfold fX6_digest_B6 at hf
  refine lv_iload_n hx hb dX6_digest_6 rfl (lv_at hl 2 rfl) ?_
  refine lv_iconst (v := 4) hx hb dX6_digest_7 rfl ?_
  have g2 := ite_some hf
  refine lv_icmp_gt (tgt := 30) hx hb dX6_digest_8 (by decide) (fun c1 => ?_) (fun c1 => ?_)
  · replace hf := g2.1 c1
    exact hK30 _ hf _ _ _ hP hD hS (lv_sub hl [0, 1] rfl)
  · replace hf := g2.2 c1
    refine W.ldc2 (v := 31) hx hb hown (hT _ kw_X6_274) rfl dX6_digest_11 ?_
    refine W.eq (g2 := F0 m 14 ls [.long 31]) rfl ?_
    refine lv_lload_n hx hb dX6_digest_14 rfl (lv_at hl 1 rfl) ?_
    refine lv_lmul hx hb dX6_digest_15 ?_
    refine lv_aload_n hx hb dX6_digest_16 rfl (lv_at hl 0 rfl) ?_
    refine lv_iload_n hx hb dX6_digest_17 rfl (lv_at hl 2 rfl) ?_
    obtain ⟨r3, e4, hf⟩ := bind_some hf
    refine callVi (As := [.int (v.2)]) (rest := [.long (31 * (v.1))]) M (mX6_howMany l D cs sk h_t q_t q_t_0 q_t_1 k d_t d_t_0 d_t_1 (v.2) e4) mw_X6_269 ln_X6_howMany ⟨rfl, rfl, Nat.le_of_ble_eq_true rfl, Nat.le_of_ble_eq_true rfl⟩ hP hD hS hA [0, 1, 6] (by decide) rfl rfl (q0 := 0) rfl rfl rfl ⟨Nat.zero_le _, Nat.zero_le _⟩ hl.1 rfl (Nat.le_of_ble_eq_true rfl) dX6_digest_18 (fun H locs hP hD hS => ?_)
    replace hP : va_P D vwCl [oX6 h_t q_t (d_t.1), oX4 (q_t 0) q_t_0 (d_t_0.1), ((q_t_0 1), .inl (cs 0, 6, .inl (d_t_0.2 1))), ((q_t_0 2), .inl (cs 0, 6, .inl (d_t_0.2 2))), ((q_t_0 4), .inl (cs 0, 3, .inl (d_t_0.2 4))), ((q_t_0 5), .inl (cs 0, 3, .inl (d_t_0.2 5))), oX0 (q_t 1) q_t_1 (d_t_1.1), ((q_t_1 1), .inl (cs 0, 6, .inl (d_t_1.2 1))), ((q_t_1 2), .inl (cs 0, 6, .inl (d_t_1.2 2))), ((q_t_1 3), .inl (cs 0, 6, .inl (d_t_1.2 3))), ((q_t_1 4), .inl (cs 0, 6, .inl (d_t_1.2 4))), ((q_t_1 5), .inl (cs 0, 6, .inl (d_t_1.2 5)))] H := hP
    replace hD : va_D A [oX6 h_t q_t (d_t.1), oX4 (q_t 0) q_t_0 (d_t_0.1), ((q_t_0 1), .inl (cs 0, 6, .inl (d_t_0.2 1))), ((q_t_0 2), .inl (cs 0, 6, .inl (d_t_0.2 2))), ((q_t_0 4), .inl (cs 0, 3, .inl (d_t_0.2 4))), ((q_t_0 5), .inl (cs 0, 3, .inl (d_t_0.2 5))), oX0 (q_t 1) q_t_1 (d_t_1.1), ((q_t_1 1), .inl (cs 0, 6, .inl (d_t_1.2 1))), ((q_t_1 2), .inl (cs 0, 6, .inl (d_t_1.2 2))), ((q_t_1 3), .inl (cs 0, 6, .inl (d_t_1.2 3))), ((q_t_1 4), .inl (cs 0, 6, .inl (d_t_1.2 4))), ((q_t_1 5), .inl (cs 0, 6, .inl (d_t_1.2 5)))] := hD
    refine lv_i2l (v := r3.toInt64) hx hb dX6_digest_21 rfl ?_
    refine lv_ladd hx hb dX6_digest_22 ?_
    refine lv_lstore_n (lv' := [(1, .long ((31 * (v.1)) + r3.toInt64)), (0, .ref h_t), (3, .int (v.2))]) hx hb dX6_digest_23 rfl hl (by decide) rfl (fun ls hl => ?_)
    refine lv_iinc (v := ((v.2) + 1)) (lv' := [(3, .int ((v.2) + 1)), (1, .long ((31 * (v.1)) + r3.toInt64)), (0, .ref h_t)]) hx hb dX6_digest_24 hl (k := 2) rfl rfl (by decide) rfl (fun ls hl => ?_)
    refine lv_goto (tgt := 6) hx hb dX6_digest_27 (by decide) ?_
    exact ih _ hf _ _ _ hP hD hS (lv_sub hl [2, 1, 0] rfl)
set_option maxHeartbeats 4000000 in
set_option maxRecDepth 100000 in
theorem mX6_digest (l : Launch) (D : va_G) (cs : Nat → ClassId) (sk : Nat → Nat) (h_t : Nat) (q_t : Nat → Nat) (q_t_0 : Nat → Nat) (q_t_1 : Nat → Nat) (k : Nat) (d_t : Dat) (d_t_0 : Dat) (d_t_1 : Dat) {rv : Int64} (hf : fX6_digest k d_t d_t_0 d_t_1 = some rv) : CTl l yX6_digest (Cond.code yX6_digest cX6_digest 4 (some .long) :: gtbl) rm_X6_digest D cs sk [.ref h_t] [oX6 h_t q_t (d_t.1), oX4 (q_t 0) q_t_0 (d_t_0.1), ((q_t_0 1), .inl (cs 0, 6, .inl (d_t_0.2 1))), ((q_t_0 2), .inl (cs 0, 6, .inl (d_t_0.2 2))), ((q_t_0 4), .inl (cs 0, 3, .inl (d_t_0.2 4))), ((q_t_0 5), .inl (cs 0, 3, .inl (d_t_0.2 5))), oX0 (q_t 1) q_t_1 (d_t_1.1), ((q_t_1 1), .inl (cs 0, 6, .inl (d_t_1.2 1))), ((q_t_1 2), .inl (cs 0, 6, .inl (d_t_1.2 2))), ((q_t_1 3), .inl (cs 0, 6, .inl (d_t_1.2 3))), ((q_t_1 4), .inl (cs 0, 6, .inl (d_t_1.2 4))), ((q_t_1 5), .inl (cs 0, 6, .inl (d_t_1.2 5)))] (rv) [oX6 h_t q_t (d_t.1), oX4 (q_t 0) q_t_0 (d_t_0.1), ((q_t_0 1), .inl (cs 0, 6, .inl (d_t_0.2 1))), ((q_t_0 2), .inl (cs 0, 6, .inl (d_t_0.2 2))), ((q_t_0 4), .inl (cs 0, 3, .inl (d_t_0.2 4))), ((q_t_0 5), .inl (cs 0, 3, .inl (d_t_0.2 5))), oX0 (q_t 1) q_t_1 (d_t_1.1), ((q_t_1 1), .inl (cs 0, 6, .inl (d_t_1.2 1))), ((q_t_1 2), .inl (cs 0, 6, .inl (d_t_1.2 2))), ((q_t_1 3), .inl (cs 0, 6, .inl (d_t_1.2 3))), ((q_t_1 4), .inl (cs 0, 6, .inl (d_t_1.2 4))), ((q_t_1 5), .inl (cs 0, 6, .inl (d_t_1.2 5)))] := by
  refine CTl.of RX6 (by decide +kernel) rfl (Nat.le_of_ble_eq_true rfl) (fun p e s m args below meth c A Q ls M hA hR hl hP hD hS => ?_)
  obtain ⟨hx, hb, hml, hT, hown, hlk, hrt, hK, hN, hSE⟩ := id M
  replace hl : lv_has ls 4 [(0, .ref h_t)] := hl
  unfold fX6_digest at hf
  refine W.ldc2 (v := 677) hx hb hown (hT _ kw_X6_272) rfl dX6_digest_0 ?_
  refine W.eq (g2 := F0 m 3 ls [.long 677]) rfl ?_
  refine lv_lstore_n (lv' := [(1, .long 677), (0, .ref h_t)]) hx hb dX6_digest_3 rfl hl (by decide) rfl (fun ls hl => ?_)
  refine lv_iconst (v := 0) hx hb dX6_digest_4 rfl ?_
  refine lv_istore_n (lv' := [(3, .int 0), (1, .long 677), (0, .ref h_t)]) hx hb dX6_digest_5 rfl hl (by decide) rfl (fun ls hl => ?_)
  refine mX6_digest_B6 h_t q_t q_t_0 q_t_1 k d_t d_t_0 d_t_1 _ M hA hR (fun w1 hf H locs ls hP hD hS hl => ?_) _ _ hf _ _ _ hP hD hS (lv_sub hl [2, 1, 0] rfl)
  · refine lv_aload_n hx hb dX6_digest_30 rfl (lv_at hl 0 rfl) ?_
    refine va_get (D := D) (ci := 6) (v := .ref (q_t 1)) (C := RX6) (T := TX6) (N := 18) hx hb hT iX6 hown hK hP 0 rfl rfl 1 (by decide) (hT _ fw_X6_19) (fun _ h9 => h9) rfl dX6_digest_31 ?_
    refine lv_aload_n hx hb dX6_digest_34 rfl (lv_at hl 0 rfl) ?_
    refine va_get (D := D) (ci := 6) (v := .ref (q_t 0)) (C := RX6) (T := TX6) (N := 18) hx hb hT iX6 hown hK hP 0 rfl rfl 0 (by decide) (hT _ fw_X6_10) (fun _ h9 => h9) rfl dX6_digest_35 ?_
    refine lv_lload_n hx hb dX6_digest_38 rfl (lv_at hl 1 rfl) ?_
    obtain ⟨r2, e3, hf⟩ := bind_some hf
    refine callVl (As := [.long w1]) (rest := [.ref (q_t 1)]) M (mX4_digestOn l D cs sk (q_t 0) q_t_0 k d_t_0 w1 e3) mw_X6_276 ln_X4_digestOn ⟨rfl, rfl, Nat.le_of_ble_eq_true rfl, Nat.le_of_ble_eq_true rfl⟩ hP hD hS hA [1, 2, 3, 4, 5] (by decide) rfl rfl (q0 := 0) rfl rfl rfl ⟨Nat.zero_le _, Nat.zero_le _⟩ hl.1 rfl (Nat.le_of_ble_eq_true rfl) dX6_digest_39 (fun H locs hP hD hS => ?_)
    replace hP : va_P D vwCl [oX6 h_t q_t (d_t.1), oX4 (q_t 0) q_t_0 (d_t_0.1), ((q_t_0 1), .inl (cs 0, 6, .inl (d_t_0.2 1))), ((q_t_0 2), .inl (cs 0, 6, .inl (d_t_0.2 2))), ((q_t_0 4), .inl (cs 0, 3, .inl (d_t_0.2 4))), ((q_t_0 5), .inl (cs 0, 3, .inl (d_t_0.2 5))), oX0 (q_t 1) q_t_1 (d_t_1.1), ((q_t_1 1), .inl (cs 0, 6, .inl (d_t_1.2 1))), ((q_t_1 2), .inl (cs 0, 6, .inl (d_t_1.2 2))), ((q_t_1 3), .inl (cs 0, 6, .inl (d_t_1.2 3))), ((q_t_1 4), .inl (cs 0, 6, .inl (d_t_1.2 4))), ((q_t_1 5), .inl (cs 0, 6, .inl (d_t_1.2 5)))] H := hP
    replace hD : va_D A [oX6 h_t q_t (d_t.1), oX4 (q_t 0) q_t_0 (d_t_0.1), ((q_t_0 1), .inl (cs 0, 6, .inl (d_t_0.2 1))), ((q_t_0 2), .inl (cs 0, 6, .inl (d_t_0.2 2))), ((q_t_0 4), .inl (cs 0, 3, .inl (d_t_0.2 4))), ((q_t_0 5), .inl (cs 0, 3, .inl (d_t_0.2 5))), oX0 (q_t 1) q_t_1 (d_t_1.1), ((q_t_1 1), .inl (cs 0, 6, .inl (d_t_1.2 1))), ((q_t_1 2), .inl (cs 0, 6, .inl (d_t_1.2 2))), ((q_t_1 3), .inl (cs 0, 6, .inl (d_t_1.2 3))), ((q_t_1 4), .inl (cs 0, 6, .inl (d_t_1.2 4))), ((q_t_1 5), .inl (cs 0, 6, .inl (d_t_1.2 5)))] := hD
    refine lv_aload_n hx hb dX6_digest_42 rfl (lv_at hl 0 rfl) ?_
    refine va_get (D := D) (ci := 6) (v := .ref (q_t 0)) (C := RX6) (T := TX6) (N := 18) hx hb hT iX6 hown hK hP 0 rfl rfl 0 (by decide) (hT _ fw_X6_10) (fun _ h9 => h9) rfl dX6_digest_43 ?_
    obtain ⟨r4, e5, hf⟩ := bind_some hf
    refine callVl (As := [.long r2, .ref (q_t 0)]) (rest := []) M (mX0_digestOn l D cs sk (q_t 1) (q_t 0) q_t_1 q_t_0 k d_t_1 d_t_0 r2 e5) mw_X6_280 ln_X0_digestOn ⟨rfl, rfl, Nat.le_of_ble_eq_true rfl, Nat.le_of_ble_eq_true rfl⟩ hP hD hS hA [6, 7, 8, 9, 10, 11, 1] (by decide) rfl rfl (q0 := 0) rfl rfl rfl ⟨Nat.zero_le _, Nat.zero_le _⟩ hl.1 rfl (Nat.le_of_ble_eq_true rfl) dX6_digest_46 (fun H locs hP hD hS => ?_)
    replace hP : va_P D vwCl [oX6 h_t q_t (d_t.1), oX4 (q_t 0) q_t_0 (d_t_0.1), ((q_t_0 1), .inl (cs 0, 6, .inl (d_t_0.2 1))), ((q_t_0 2), .inl (cs 0, 6, .inl (d_t_0.2 2))), ((q_t_0 4), .inl (cs 0, 3, .inl (d_t_0.2 4))), ((q_t_0 5), .inl (cs 0, 3, .inl (d_t_0.2 5))), oX0 (q_t 1) q_t_1 (d_t_1.1), ((q_t_1 1), .inl (cs 0, 6, .inl (d_t_1.2 1))), ((q_t_1 2), .inl (cs 0, 6, .inl (d_t_1.2 2))), ((q_t_1 3), .inl (cs 0, 6, .inl (d_t_1.2 3))), ((q_t_1 4), .inl (cs 0, 6, .inl (d_t_1.2 4))), ((q_t_1 5), .inl (cs 0, 6, .inl (d_t_1.2 5)))] H := hP
    replace hD : va_D A [oX6 h_t q_t (d_t.1), oX4 (q_t 0) q_t_0 (d_t_0.1), ((q_t_0 1), .inl (cs 0, 6, .inl (d_t_0.2 1))), ((q_t_0 2), .inl (cs 0, 6, .inl (d_t_0.2 2))), ((q_t_0 4), .inl (cs 0, 3, .inl (d_t_0.2 4))), ((q_t_0 5), .inl (cs 0, 3, .inl (d_t_0.2 5))), oX0 (q_t 1) q_t_1 (d_t_1.1), ((q_t_1 1), .inl (cs 0, 6, .inl (d_t_1.2 1))), ((q_t_1 2), .inl (cs 0, 6, .inl (d_t_1.2 2))), ((q_t_1 3), .inl (cs 0, 6, .inl (d_t_1.2 3))), ((q_t_1 4), .inl (cs 0, 6, .inl (d_t_1.2 4))), ((q_t_1 5), .inl (cs 0, 6, .inl (d_t_1.2 5)))] := hD
    have e9 := Option.some.inj hf
    subst e9
    exact hR _ _ _ _ dX6_digest_49 hP hS
