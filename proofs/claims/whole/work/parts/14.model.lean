abbrev rm_X7_takes : Room := { frames := 4, cells := 0, slots := 0, locals := 89 }
def fX7_takes (k : Nat) (d_t : Dat) (x1 : Int32) (x2 : Int32) : Option (Int32 × Dat) :=
  (if (d_t.1 19) = 2 then (fX7_in k (d_t.1 20).toInt64 x1.toInt64 x2.toInt64).bind (fun (r3 : Int32) => (if r3 = 0 then some (0, d_t) else (fX7_goOn k ((upd d_t.1 22 (d_t.1 20)), d_t.2)).bind (fun (r7 : Dat) => some (1, (r7.1, d_t.2))))) else some (0, d_t))
set_option maxHeartbeats 4000000 in
set_option maxRecDepth 100000 in
theorem mX7_takes (l : Launch) (D : va_G) (cs : Nat → ClassId) (sk : Nat → Nat) (h_t : Nat) (q_t : Nat → Nat) (k : Nat) (d_t : Dat) (x1 : Int32) (x2 : Int32) {rv : Int32 × Dat} (hf : fX7_takes k d_t x1 x2 = some rv) : CTi l yX7_takes (Cond.code yX7_takes cX7_takes 3 (some .boolean) :: gtbl) rm_X7_takes D cs sk [.ref h_t, .int x1, .int x2] [oX7 h_t q_t (d_t.1), ((q_t 15), .inl (cs 0, 250, .inl (d_t.2 15)))] (rv.1) [oX7 h_t q_t (rv.2.1), ((q_t 15), .inl (cs 0, 250, .inl (d_t.2 15)))] := by
  refine CTi.ofZ RX7 (by decide +kernel) rfl (Nat.le_of_ble_eq_true rfl) (fun p e s m args below meth c A Q ls M hA hR hl hP hD hS => ?_)
  obtain ⟨hx, hb, hml, hT, hown, hlk, hrt, hK, hN, hSE⟩ := id M
  replace hl : lv_has ls 3 [(0, .ref h_t), (1, .int x1), (2, .int x2)] := hl
  unfold fX7_takes at hf
  refine lv_aload_n hx hb dX7_takes_0 rfl (lv_at hl 0 rfl) ?_
  refine va_get (D := D) (ci := 7) (v := .int (d_t.1 19)) (C := RX7) (T := TX7) (N := 23) hx hb hT iX7 hown hK hP 0 rfl rfl 19 (by decide) (hT _ fw_X7_236) (fun _ h9 => h9) rfl dX7_takes_1 ?_
  refine lv_iconst (v := 2) hx hb dX7_takes_4 rfl ?_
  have g2 := ite_some hf
  refine lv_icmp_ne (tgt := 23) hx hb dX7_takes_5 (by decide) (fun c1 => ?_) (fun c1 => ?_)
  · replace hf := g2.2 c1
    refine lv_iconst (v := 0) hx hb dX7_takes_23 rfl ?_
    have e9 := Option.some.inj hf
    subst e9
    exact hR _ _ _ _ dX7_takes_24 (Or.inl rfl) hP hS
  · replace hf := g2.1 c1
    refine lv_aload_n hx hb dX7_takes_8 rfl (lv_at hl 0 rfl) ?_
    refine va_get (D := D) (ci := 7) (v := .int (d_t.1 20)) (C := RX7) (T := TX7) (N := 23) hx hb hT iX7 hown hK hP 0 rfl rfl 20 (by decide) (hT _ fw_X7_239) (fun _ h9 => h9) rfl dX7_takes_9 ?_
    refine lv_i2l (v := (d_t.1 20).toInt64) hx hb dX7_takes_12 rfl ?_
    refine lv_iload_n hx hb dX7_takes_13 rfl (lv_at hl 1 rfl) ?_
    refine lv_i2l (v := x1.toInt64) hx hb dX7_takes_14 rfl ?_
    refine lv_iload_n hx hb dX7_takes_15 rfl (lv_at hl 2 rfl) ?_
    refine lv_i2l (v := x2.toInt64) hx hb dX7_takes_16 rfl ?_
    obtain ⟨r3, e4, hf⟩ := bind_some hf
    refine callSi (As := [.long (d_t.1 20).toInt64, .long x1.toInt64, .long x2.toInt64]) (rest := []) M (mX7_in l D cs sk  k (d_t.1 20).toInt64 x1.toInt64 x2.toInt64 e4) mw_X7_60 ln_X7_in ⟨rfl, rfl, Nat.le_of_ble_eq_true rfl, Nat.le_of_ble_eq_true rfl⟩ hP hD hS hA [] (by decide) rfl rfl ⟨Nat.zero_le _, Nat.zero_le _⟩ hl.1 rfl (Nat.le_of_ble_eq_true rfl) dX7_takes_17 (fun H locs hP hD hS => ?_)
    replace hP : va_P D vwCl [oX7 h_t q_t (d_t.1), ((q_t 15), .inl (cs 0, 250, .inl (d_t.2 15)))] H := hP
    replace hD : va_D A [oX7 h_t q_t (d_t.1), ((q_t 15), .inl (cs 0, 250, .inl (d_t.2 15)))] := hD
    have g6 := ite_some hf
    refine lv_if_ne (tgt := 25) hx hb dX7_takes_20 (by decide) (fun c5 => ?_) (fun c5 => ?_)
    · replace hf := g6.2 c5
      refine lv_aload_n hx hb dX7_takes_25 rfl (lv_at hl 0 rfl) ?_
      refine lv_aload_n hx hb dX7_takes_26 rfl (lv_at hl 0 rfl) ?_
      refine va_get (D := D) (ci := 7) (v := .int (d_t.1 20)) (C := RX7) (T := TX7) (N := 23) hx hb hT iX7 hown hK hP 0 rfl rfl 20 (by decide) (hT _ fw_X7_239) (fun _ h9 => h9) rfl dX7_takes_27 ?_
      refine va_put (D := D) (ci := 7) (v := .int (d_t.1 20)) (ty := tyX7 22) (C := RX7) (T := TX7) (N := 23) hx hb hT iX7 tyX7 tyX7_ok nmX7 hown hK hP hD hS 0 rfl rfl 22 (by decide) (hT _ fw_X7_251) (fun _ h9 => h9) rfl (tyX7_ok 22 (by decide)) rfl rfl (Nat.le_of_ble_eq_true rfl) dX7_takes_30 (fun H locs hP hD hS => ?_)
      replace hP : va_P D vwCl [oX7 h_t q_t (upd d_t.1 22 (d_t.1 20)), ((q_t 15), .inl (cs 0, 250, .inl (d_t.2 15)))] H := hP
      replace hD : va_D A [oX7 h_t q_t (upd d_t.1 22 (d_t.1 20)), ((q_t 15), .inl (cs 0, 250, .inl (d_t.2 15)))] := hD
      refine lv_aload_n hx hb dX7_takes_33 rfl (lv_at hl 0 rfl) ?_
      obtain ⟨r7, e8, hf⟩ := bind_some hf
      refine callVv (As := []) (rest := []) M (mX7_goOn l D cs sk h_t q_t k ((upd d_t.1 22 (d_t.1 20)), d_t.2) e8) mw_X7_254 ln_X7_goOn ⟨rfl, rfl, Nat.le_of_ble_eq_true rfl, Nat.le_of_ble_eq_true rfl⟩ hP hD hS hA [0, 1] (by decide) rfl rfl (q0 := 0) rfl rfl rfl ⟨Nat.zero_le _, Nat.zero_le _⟩ hl.1 rfl (Nat.le_of_ble_eq_true rfl) dX7_takes_34 (fun H locs hP hD hS => ?_)
      replace hP : va_P D vwCl [oX7 h_t q_t (r7.1), ((q_t 15), .inl (cs 0, 250, .inl (d_t.2 15)))] H := hP
      replace hD : va_D A [oX7 h_t q_t (r7.1), ((q_t 15), .inl (cs 0, 250, .inl (d_t.2 15)))] := hD
      refine lv_iconst (v := 1) hx hb dX7_takes_37 rfl ?_
      have e9 := Option.some.inj hf
      subst e9
      exact hR _ _ _ _ dX7_takes_38 (Or.inr rfl) hP hS
    · replace hf := g6.1 c5
      refine lv_iconst (v := 0) hx hb dX7_takes_23 rfl ?_
      have e9 := Option.some.inj hf
      subst e9
      exact hR _ _ _ _ dX7_takes_24 (Or.inl rfl) hP hS
abbrev rm_X7_readsPlace : Room := { frames := 5, cells := 0, slots := 0, locals := 111 }
def fX7_readsPlace (k : Nat) (d_t : Dat) (x1 : Int32) : Option (Int32 × Dat) :=
  (fX7_goOn k d_t).bind (fun (r1 : Dat) => (fX7_takes k (r1.1, d_t.2) 0 99).bind (fun (r3 : Int32 × Dat) => (if (r3.1) = 0 then some (0, (r3.2.1, d_t.2)) else chk 58 x1 ((fX7_takes k (r3.2.1, (va_up d_t.2 21 (upd (d_t.2 21) x1.toNatClampNeg (r3.2.1 22)))) 0 99).bind (fun (r7 : Int32 × Dat) => (if (r7.1) = 0 then some (0, (r7.2.1, (va_up d_t.2 21 (upd (d_t.2 21) x1.toNatClampNeg (r3.2.1 22))))) else chk 58 (x1 + 1) (some (1, (r7.2.1, (va_up d_t.2 21 (upd (upd (d_t.2 21) x1.toNatClampNeg (r3.2.1 22)) (x1 + 1).toNatClampNeg (r7.2.1 22))))))))))))
set_option maxHeartbeats 4000000 in
set_option maxRecDepth 100000 in
theorem mX7_readsPlace (l : Launch) (D : va_G) (cs : Nat → ClassId) (sk : Nat → Nat) (h_t : Nat) (q_t : Nat → Nat) (k : Nat) (d_t : Dat) (x1 : Int32) {rv : Int32 × Dat} (hf : fX7_readsPlace k d_t x1 = some rv) : CTi l yX7_readsPlace (Cond.code yX7_readsPlace cX7_readsPlace 2 (some .boolean) :: gtbl) rm_X7_readsPlace D cs sk [.ref h_t, .int x1] [oX7 h_t q_t (d_t.1), ((q_t 15), .inl (cs 0, 250, .inl (d_t.2 15))), ((q_t 21), .inl (cs 0, 58, .inl (d_t.2 21)))] (rv.1) [oX7 h_t q_t (rv.2.1), ((q_t 15), .inl (cs 0, 250, .inl (d_t.2 15))), ((q_t 21), .inl (cs 0, 58, .inl (rv.2.2 21)))] := by
  refine CTi.ofZ RX7 (by decide +kernel) rfl (Nat.le_of_ble_eq_true rfl) (fun p e s m args below meth c A Q ls M hA hR hl hP hD hS => ?_)
  obtain ⟨hx, hb, hml, hT, hown, hlk, hrt, hK, hN, hSE⟩ := id M
  replace hl : lv_has ls 2 [(0, .ref h_t), (1, .int x1)] := hl
  unfold fX7_readsPlace at hf
  refine lv_aload_n hx hb dX7_readsPlace_0 rfl (lv_at hl 0 rfl) ?_
  obtain ⟨r1, e2, hf⟩ := bind_some hf
  refine callVv (As := []) (rest := []) M (mX7_goOn l D cs sk h_t q_t k d_t e2) mw_X7_254 ln_X7_goOn ⟨rfl, rfl, Nat.le_of_ble_eq_true rfl, Nat.le_of_ble_eq_true rfl⟩ hP hD hS hA [0, 1] (by decide) rfl rfl (q0 := 0) rfl rfl rfl ⟨Nat.zero_le _, Nat.zero_le _⟩ hl.1 rfl (Nat.le_of_ble_eq_true rfl) dX7_readsPlace_1 (fun H locs hP hD hS => ?_)
  replace hP : va_P D vwCl [oX7 h_t q_t (r1.1), ((q_t 15), .inl (cs 0, 250, .inl (d_t.2 15))), ((q_t 21), .inl (cs 0, 58, .inl (d_t.2 21)))] H := hP
  replace hD : va_D A [oX7 h_t q_t (r1.1), ((q_t 15), .inl (cs 0, 250, .inl (d_t.2 15))), ((q_t 21), .inl (cs 0, 58, .inl (d_t.2 21)))] := hD
  refine lv_aload_n hx hb dX7_readsPlace_4 rfl (lv_at hl 0 rfl) ?_
  refine lv_iconst (v := 0) hx hb dX7_readsPlace_5 rfl ?_
  refine lv_bipush (v := 99) hx hb dX7_readsPlace_6 rfl ?_
  obtain ⟨r3, e4, hf⟩ := bind_some hf
  refine callVi (As := [.int 0, .int 99]) (rest := []) M (mX7_takes l D cs sk h_t q_t k (r1.1, d_t.2) 0 99 e4) mw_X7_257 ln_X7_takes ⟨rfl, rfl, Nat.le_of_ble_eq_true rfl, Nat.le_of_ble_eq_true rfl⟩ hP hD hS hA [0, 1] (by decide) rfl rfl (q0 := 0) rfl rfl rfl ⟨Nat.zero_le _, Nat.zero_le _⟩ hl.1 rfl (Nat.le_of_ble_eq_true rfl) dX7_readsPlace_8 (fun H locs hP hD hS => ?_)
  replace hP : va_P D vwCl [oX7 h_t q_t (r3.2.1), ((q_t 15), .inl (cs 0, 250, .inl (d_t.2 15))), ((q_t 21), .inl (cs 0, 58, .inl (d_t.2 21)))] H := hP
  replace hD : va_D A [oX7 h_t q_t (r3.2.1), ((q_t 15), .inl (cs 0, 250, .inl (d_t.2 15))), ((q_t 21), .inl (cs 0, 58, .inl (d_t.2 21)))] := hD
  have g6 := ite_some hf
  refine lv_if_ne (tgt := 16) hx hb dX7_readsPlace_11 (by decide) (fun c5 => ?_) (fun c5 => ?_)
  · replace hf := g6.2 c5
    refine lv_aload_n hx hb dX7_readsPlace_16 rfl (lv_at hl 0 rfl) ?_
    refine va_get (D := D) (ci := 7) (v := .ref (q_t 21)) (C := RX7) (T := TX7) (N := 23) hx hb hT iX7 hown hK hP 0 rfl rfl 21 (by decide) (hT _ fw_X7_53) (fun _ h9 => h9) rfl dX7_readsPlace_17 ?_
    refine lv_iload_n hx hb dX7_readsPlace_20 rfl (lv_at hl 1 rfl) ?_
    refine lv_aload_n hx hb dX7_readsPlace_21 rfl (lv_at hl 0 rfl) ?_
    refine va_get (D := D) (ci := 7) (v := .int (r3.2.1 22)) (C := RX7) (T := TX7) (N := 23) hx hb hT iX7 hown hK hP 0 rfl rfl 22 (by decide) (hT _ fw_X7_251) (fun _ h9 => h9) rfl dX7_readsPlace_22 ?_
    obtain ⟨hi, hf⟩ := chk_some hf
    refine va_iast (D := D) hx hb hK hP hD hS 2 0 rfl rfl hi dX7_readsPlace_25 (fun H locs hP hD hS => ?_)
    replace hP : va_P D vwCl [oX7 h_t q_t (r3.2.1), ((q_t 15), .inl (cs 0, 250, .inl (d_t.2 15))), ((q_t 21), .inl (cs 0, 58, .inl (upd (d_t.2 21) x1.toNatClampNeg (r3.2.1 22))))] H := hP
    replace hD : va_D A [oX7 h_t q_t (r3.2.1), ((q_t 15), .inl (cs 0, 250, .inl (d_t.2 15))), ((q_t 21), .inl (cs 0, 58, .inl (upd (d_t.2 21) x1.toNatClampNeg (r3.2.1 22))))] := hD
    refine lv_aload_n hx hb dX7_readsPlace_26 rfl (lv_at hl 0 rfl) ?_
    refine lv_iconst (v := 0) hx hb dX7_readsPlace_27 rfl ?_
    refine lv_bipush (v := 99) hx hb dX7_readsPlace_28 rfl ?_
    obtain ⟨r7, e8, hf⟩ := bind_some hf
    refine callVi (As := [.int 0, .int 99]) (rest := []) M (mX7_takes l D cs sk h_t q_t k (r3.2.1, (va_up d_t.2 21 (upd (d_t.2 21) x1.toNatClampNeg (r3.2.1 22)))) 0 99 e8) mw_X7_257 ln_X7_takes ⟨rfl, rfl, Nat.le_of_ble_eq_true rfl, Nat.le_of_ble_eq_true rfl⟩ hP hD hS hA [0, 1] (by decide) rfl rfl (q0 := 0) rfl rfl rfl ⟨Nat.zero_le _, Nat.zero_le _⟩ hl.1 rfl (Nat.le_of_ble_eq_true rfl) dX7_readsPlace_30 (fun H locs hP hD hS => ?_)
    replace hP : va_P D vwCl [oX7 h_t q_t (r7.2.1), ((q_t 15), .inl (cs 0, 250, .inl (d_t.2 15))), ((q_t 21), .inl (cs 0, 58, .inl (upd (d_t.2 21) x1.toNatClampNeg (r3.2.1 22))))] H := hP
    replace hD : va_D A [oX7 h_t q_t (r7.2.1), ((q_t 15), .inl (cs 0, 250, .inl (d_t.2 15))), ((q_t 21), .inl (cs 0, 58, .inl (upd (d_t.2 21) x1.toNatClampNeg (r3.2.1 22))))] := hD
    have g10 := ite_some hf
    refine lv_if_ne (tgt := 38) hx hb dX7_readsPlace_33 (by decide) (fun c9 => ?_) (fun c9 => ?_)
    · replace hf := g10.2 c9
      refine lv_aload_n hx hb dX7_readsPlace_38 rfl (lv_at hl 0 rfl) ?_
      refine va_get (D := D) (ci := 7) (v := .ref (q_t 21)) (C := RX7) (T := TX7) (N := 23) hx hb hT iX7 hown hK hP 0 rfl rfl 21 (by decide) (hT _ fw_X7_53) (fun _ h9 => h9) rfl dX7_readsPlace_39 ?_
      refine lv_iload_n hx hb dX7_readsPlace_42 rfl (lv_at hl 1 rfl) ?_
      refine lv_iconst (v := 1) hx hb dX7_readsPlace_43 rfl ?_
      refine lv_iadd hx hb dX7_readsPlace_44 ?_
      refine lv_aload_n hx hb dX7_readsPlace_45 rfl (lv_at hl 0 rfl) ?_
      refine va_get (D := D) (ci := 7) (v := .int (r7.2.1 22)) (C := RX7) (T := TX7) (N := 23) hx hb hT iX7 hown hK hP 0 rfl rfl 22 (by decide) (hT _ fw_X7_251) (fun _ h9 => h9) rfl dX7_readsPlace_46 ?_
      obtain ⟨hi, hf⟩ := chk_some hf
      refine va_iast (D := D) hx hb hK hP hD hS 2 0 rfl rfl hi dX7_readsPlace_49 (fun H locs hP hD hS => ?_)
      replace hP : va_P D vwCl [oX7 h_t q_t (r7.2.1), ((q_t 15), .inl (cs 0, 250, .inl (d_t.2 15))), ((q_t 21), .inl (cs 0, 58, .inl (upd (upd (d_t.2 21) x1.toNatClampNeg (r3.2.1 22)) (x1 + 1).toNatClampNeg (r7.2.1 22))))] H := hP
      replace hD : va_D A [oX7 h_t q_t (r7.2.1), ((q_t 15), .inl (cs 0, 250, .inl (d_t.2 15))), ((q_t 21), .inl (cs 0, 58, .inl (upd (upd (d_t.2 21) x1.toNatClampNeg (r3.2.1 22)) (x1 + 1).toNatClampNeg (r7.2.1 22))))] := hD
      refine lv_iconst (v := 1) hx hb dX7_readsPlace_50 rfl ?_
      have e9 := Option.some.inj hf
      subst e9
      exact hR _ _ _ _ dX7_readsPlace_51 (Or.inr rfl) hP hS
    · replace hf := g10.1 c9
      refine lv_iconst (v := 0) hx hb dX7_readsPlace_36 rfl ?_
      have e9 := Option.some.inj hf
      subst e9
      exact hR _ _ _ _ dX7_readsPlace_37 (Or.inl rfl) hP hS
  · replace hf := g6.1 c5
    refine lv_iconst (v := 0) hx hb dX7_readsPlace_14 rfl ?_
    have e9 := Option.some.inj hf
    subst e9
    exact hR _ _ _ _ dX7_readsPlace_15 (Or.inl rfl) hP hS
abbrev rm_X7_readsOneOf : Room := { frames := 6, cells := 0, slots := 0, locals := 132 }
def fX7_readsOneOf (k : Nat) (d_t : Dat) (x1 : Int32) (x2 : Int32) (x3 : Int32) : Option (Int32 × Dat) :=
  chk 58 (54 + x1) ((if ((d_t.2 21) (54 + x1).toNatClampNeg) = x3 then some (0, d_t) else chk 58 (54 + x1) (chk 58 (54 + x1) (chk 58 (54 + x1) ((fX7_readsPlace k (d_t.1, (va_up d_t.2 21 (upd (d_t.2 21) (54 + x1).toNatClampNeg (((d_t.2 21) (54 + x1).toNatClampNeg) + 1)))) (x2 + (2 * (((upd (d_t.2 21) (54 + x1).toNatClampNeg (((d_t.2 21) (54 + x1).toNatClampNeg) + 1)) (54 + x1).toNatClampNeg) - 1)))).bind (fun (r3 : Int32 × Dat) => chb (r3.1) (some ((r3.1), (r3.2.1, (va_up d_t.2 21 (r3.2.2 21)))))))))))
set_option maxHeartbeats 4000000 in
set_option maxRecDepth 100000 in
theorem mX7_readsOneOf (l : Launch) (D : va_G) (cs : Nat → ClassId) (sk : Nat → Nat) (h_t : Nat) (q_t : Nat → Nat) (k : Nat) (d_t : Dat) (x1 : Int32) (x2 : Int32) (x3 : Int32) {rv : Int32 × Dat} (hf : fX7_readsOneOf k d_t x1 x2 x3 = some rv) : CTi l yX7_readsOneOf (Cond.code yX7_readsOneOf cX7_readsOneOf 4 (some .boolean) :: gtbl) rm_X7_readsOneOf D cs sk [.ref h_t, .int x1, .int x2, .int x3] [oX7 h_t q_t (d_t.1), ((q_t 15), .inl (cs 0, 250, .inl (d_t.2 15))), ((q_t 21), .inl (cs 0, 58, .inl (d_t.2 21)))] (rv.1) [oX7 h_t q_t (rv.2.1), ((q_t 15), .inl (cs 0, 250, .inl (d_t.2 15))), ((q_t 21), .inl (cs 0, 58, .inl (rv.2.2 21)))] := by
  refine CTi.ofZ RX7 (by decide +kernel) rfl (Nat.le_of_ble_eq_true rfl) (fun p e s m args below meth c A Q ls M hA hR hl hP hD hS => ?_)
  obtain ⟨hx, hb, hml, hT, hown, hlk, hrt, hK, hN, hSE⟩ := id M
  replace hl : lv_has ls 4 [(0, .ref h_t), (1, .int x1), (2, .int x2), (3, .int x3)] := hl
  unfold fX7_readsOneOf at hf
  refine lv_aload_n hx hb dX7_readsOneOf_0 rfl (lv_at hl 0 rfl) ?_
  refine va_get (D := D) (ci := 7) (v := .ref (q_t 21)) (C := RX7) (T := TX7) (N := 23) hx hb hT iX7 hown hK hP 0 rfl rfl 21 (by decide) (hT _ fw_X7_53) (fun _ h9 => h9) rfl dX7_readsOneOf_1 ?_
  refine lv_bipush (v := 54) hx hb dX7_readsOneOf_4 rfl ?_
  refine lv_iload_n hx hb dX7_readsOneOf_6 rfl (lv_at hl 1 rfl) ?_
  refine lv_iadd hx hb dX7_readsOneOf_7 ?_
  obtain ⟨hi, hf⟩ := chk_some hf
  refine va_iald (D := D) hx hb hK hP 2 0 rfl rfl hi dX7_readsOneOf_8 ?_
  refine lv_iload_n hx hb dX7_readsOneOf_9 rfl (lv_at hl 3 rfl) ?_
  have g2 := ite_some hf
  refine lv_icmp_ne (tgt := 15) hx hb dX7_readsOneOf_10 (by decide) (fun c1 => ?_) (fun c1 => ?_)
  · replace hf := g2.2 c1
    refine lv_aload_n hx hb dX7_readsOneOf_15 rfl (lv_at hl 0 rfl) ?_
    refine va_get (D := D) (ci := 7) (v := .ref (q_t 21)) (C := RX7) (T := TX7) (N := 23) hx hb hT iX7 hown hK hP 0 rfl rfl 21 (by decide) (hT _ fw_X7_53) (fun _ h9 => h9) rfl dX7_readsOneOf_16 ?_
    refine lv_bipush (v := 54) hx hb dX7_readsOneOf_19 rfl ?_
    refine lv_iload_n hx hb dX7_readsOneOf_21 rfl (lv_at hl 1 rfl) ?_
    refine lv_iadd hx hb dX7_readsOneOf_22 ?_
    refine lv_dup2_11 hx hb dX7_readsOneOf_23 rfl rfl ?_
    obtain ⟨hi, hf⟩ := chk_some hf
    refine va_iald (D := D) hx hb hK hP 2 0 rfl rfl hi dX7_readsOneOf_24 ?_
    refine lv_iconst (v := 1) hx hb dX7_readsOneOf_25 rfl ?_
    refine lv_iadd hx hb dX7_readsOneOf_26 ?_
    obtain ⟨hi, hf⟩ := chk_some hf
    refine va_iast (D := D) hx hb hK hP hD hS 2 0 rfl rfl hi dX7_readsOneOf_27 (fun H locs hP hD hS => ?_)
    replace hP : va_P D vwCl [oX7 h_t q_t (d_t.1), ((q_t 15), .inl (cs 0, 250, .inl (d_t.2 15))), ((q_t 21), .inl (cs 0, 58, .inl (upd (d_t.2 21) (54 + x1).toNatClampNeg (((d_t.2 21) (54 + x1).toNatClampNeg) + 1))))] H := hP
    replace hD : va_D A [oX7 h_t q_t (d_t.1), ((q_t 15), .inl (cs 0, 250, .inl (d_t.2 15))), ((q_t 21), .inl (cs 0, 58, .inl (upd (d_t.2 21) (54 + x1).toNatClampNeg (((d_t.2 21) (54 + x1).toNatClampNeg) + 1))))] := hD
    refine lv_aload_n hx hb dX7_readsOneOf_28 rfl (lv_at hl 0 rfl) ?_
    refine lv_iload_n hx hb dX7_readsOneOf_29 rfl (lv_at hl 2 rfl) ?_
    refine lv_iconst (v := 2) hx hb dX7_readsOneOf_30 rfl ?_
    refine lv_aload_n hx hb dX7_readsOneOf_31 rfl (lv_at hl 0 rfl) ?_
    refine va_get (D := D) (ci := 7) (v := .ref (q_t 21)) (C := RX7) (T := TX7) (N := 23) hx hb hT iX7 hown hK hP 0 rfl rfl 21 (by decide) (hT _ fw_X7_53) (fun _ h9 => h9) rfl dX7_readsOneOf_32 ?_
    refine lv_bipush (v := 54) hx hb dX7_readsOneOf_35 rfl ?_
    refine lv_iload_n hx hb dX7_readsOneOf_37 rfl (lv_at hl 1 rfl) ?_
    refine lv_iadd hx hb dX7_readsOneOf_38 ?_
    obtain ⟨hi, hf⟩ := chk_some hf
    refine va_iald (D := D) hx hb hK hP 2 0 rfl rfl hi dX7_readsOneOf_39 ?_
    refine lv_iconst (v := 1) hx hb dX7_readsOneOf_40 rfl ?_
    refine lv_isub hx hb dX7_readsOneOf_41 ?_
    refine lv_imul hx hb dX7_readsOneOf_42 ?_
    refine lv_iadd hx hb dX7_readsOneOf_43 ?_
    obtain ⟨r3, e4, hf⟩ := bind_some hf
    refine callVi (As := [.int (x2 + (2 * (((upd (d_t.2 21) (54 + x1).toNatClampNeg (((d_t.2 21) (54 + x1).toNatClampNeg) + 1)) (54 + x1).toNatClampNeg) - 1)))]) (rest := []) M (mX7_readsPlace l D cs sk h_t q_t k (d_t.1, (va_up d_t.2 21 (upd (d_t.2 21) (54 + x1).toNatClampNeg (((d_t.2 21) (54 + x1).toNatClampNeg) + 1)))) (x2 + (2 * (((upd (d_t.2 21) (54 + x1).toNatClampNeg (((d_t.2 21) (54 + x1).toNatClampNeg) + 1)) (54 + x1).toNatClampNeg) - 1))) e4) mw_X7_260 ln_X7_readsPlace ⟨rfl, rfl, Nat.le_of_ble_eq_true rfl, Nat.le_of_ble_eq_true rfl⟩ hP hD hS hA [0, 1, 2] (by decide) rfl rfl (q0 := 0) rfl rfl rfl ⟨Nat.zero_le _, Nat.zero_le _⟩ hl.1 rfl (Nat.le_of_ble_eq_true rfl) dX7_readsOneOf_44 (fun H locs hP hD hS => ?_)
    replace hP : va_P D vwCl [oX7 h_t q_t (r3.2.1), ((q_t 15), .inl (cs 0, 250, .inl (d_t.2 15))), ((q_t 21), .inl (cs 0, 58, .inl (r3.2.2 21)))] H := hP
    replace hD : va_D A [oX7 h_t q_t (r3.2.1), ((q_t 15), .inl (cs 0, 250, .inl (d_t.2 15))), ((q_t 21), .inl (cs 0, 58, .inl (r3.2.2 21)))] := hD
    obtain ⟨h01, hf⟩ := chb_some hf
    have e9 := Option.some.inj hf
    subst e9
    exact hR _ _ _ _ dX7_readsOneOf_47 h01 hP hS
  · replace hf := g2.1 c1
    refine lv_iconst (v := 0) hx hb dX7_readsOneOf_13 rfl ?_
    have e9 := Option.some.inj hf
    subst e9
    exact hR _ _ _ _ dX7_readsOneOf_14 (Or.inl rfl) hP hS
abbrev rm_X7_isTakenThen : Room := { frames := 0, cells := 0, slots := 0, locals := 0 }
def fX7_isTakenThen_B4 (k : Nat) (x1 : Int32) (d_t : Dat) (K48 : Int32 → Option (Int32)) (rec : Int32 × Int32 → Option (Int32)) (v : Int32 × Int32) : Option (Int32) :=
  chk 58 56 ((if ((d_t.2 21) (56 : Int32).toNatClampNeg) ≤ (v.2) then K48 (v.1) else (if (v.1) = 0 then chk 58 ((24 + (5 * (v.2))) + 1) ((if ((d_t.2 21) ((24 + (5 * (v.2))) + 1).toNatClampNeg) = x1 then rec (1, ((v.2) + 1)) else rec (0, ((v.2) + 1)))) else rec (1, ((v.2) + 1)))))
def fX7_isTakenThen (k : Nat) (d_t : Dat) (x1 : Int32) : Option (Int32) :=
  lp (fX7_isTakenThen_B4 k x1 d_t (fun (w1 : Int32) => chb w1 (some w1))) k (0, 0)
set_option maxHeartbeats 4000000 in
set_option maxRecDepth 100000 in
theorem mX7_isTakenThen_B4 {l : Launch} {p : Program} {e : Env} {s : State} {m : MethodId} {args : Array Value} {below : List Frame} {meth : Method} {c : Code} {D : va_G} {cs : Nat → ClassId} {sk : Nat → Nat} {A : Nat → Prop} {Q : State → Prop} (h_t : Nat) (q_t : Nat → Nat) (k : Nat) (x1 : Int32) (d_t : Dat) {rv : Int32}  (K48 : Int32 → Option (Int32))
    (M : MC p s m args meth c D cs sk A RX7 cX7_isTakenThen 4 (some .boolean)) (hA : ∀ q, s.heap.size ≤ q → A q) (hR : RetZ p l e rm_X7_isTakenThen s m args below meth c D cX7_isTakenThen A Q (rv) [oX7 h_t q_t (d_t.1), ((q_t 21), .inl (cs 0, 58, .inl (d_t.2 21)))])
    (hK48 : ∀ (w : Int32), K48 w = some rv → ∀ (H : Heap) (locs : List Loc) (ls : Array Slot), va_P D vwCl [oX7 h_t q_t (d_t.1), ((q_t 21), .inl (cs 0, 58, .inl (d_t.2 21)))] H → va_D A [oX7 h_t q_t (d_t.1), ((q_t 21), .inl (cs 0, 58, .inl (d_t.2 21)))] → va_S A s.heap H locs → lv_has ls 4 [(2, .int w)] → W p l e rm_X7_isTakenThen s m args below meth c H locs 0 0 Q (F0 m 48 ls []))
    : ∀ (n : Nat) (v : Int32 × Int32), lp (fX7_isTakenThen_B4 k x1 d_t K48) n v = some rv → ∀ (H : Heap) (locs : List Loc) (ls : Array Slot), va_P D vwCl [oX7 h_t q_t (d_t.1), ((q_t 21), .inl (cs 0, 58, .inl (d_t.2 21)))] H → va_D A [oX7 h_t q_t (d_t.1), ((q_t 21), .inl (cs 0, 58, .inl (d_t.2 21)))] → va_S A s.heap H locs → lv_has ls 4 [(0, .ref h_t), (1, .int x1), (2, .int (v.1)), (3, .int (v.2))] → W p l e rm_X7_isTakenThen s m args below meth c H locs 0 0 Q (F0 m 4 ls []) := by
  obtain ⟨hx, hb, hml, hT, hown, hlk, hrt, hK, hN, hSE⟩ := id M
  refine lp_ind (fun rec ih v hf H locs ls hP hD hS hl => ?_)
  unfold fX7_isTakenThen_B4 at hf
  refine lv_iload_n hx hb dX7_isTakenThen_4 rfl (lv_at hl 3 rfl) ?_
  refine lv_aload_n hx hb dX7_isTakenThen_5 rfl (lv_at hl 0 rfl) ?_
  refine va_get (D := D) (ci := 7) (v := .ref (q_t 21)) (C := RX7) (T := TX7) (N := 23) hx hb hT iX7 hown hK hP 0 rfl rfl 21 (by decide) (hT _ fw_X7_53) (fun _ h9 => h9) rfl dX7_isTakenThen_6 ?_
  refine lv_bipush (v := 56) hx hb dX7_isTakenThen_9 rfl ?_
  obtain ⟨hi, hf⟩ := chk_some hf
  refine va_iald (D := D) hx hb hK hP 1 0 rfl rfl hi dX7_isTakenThen_11 ?_
  have g2 := ite_some hf
  refine lv_icmp_ge (tgt := 48) hx hb dX7_isTakenThen_12 (by decide) (fun c1 => ?_) (fun c1 => ?_)
  · replace hf := g2.1 c1
    exact hK48 _ hf _ _ _ hP hD hS (lv_sub hl [2] rfl)
  · replace hf := g2.2 c1
    refine lv_iload_n hx hb dX7_isTakenThen_15 rfl (lv_at hl 2 rfl) ?_
    have g4 := ite_some hf
    refine lv_if_ne (tgt := 36) hx hb dX7_isTakenThen_16 (by decide) (fun c3 => ?_) (fun c3 => ?_)
    · replace hf := g4.2 c3
      refine lv_iconst (v := 1) hx hb dX7_isTakenThen_36 rfl ?_
      refine lv_goto (tgt := 41) hx hb dX7_isTakenThen_37 (by decide) ?_
      refine lv_istore_n (lv' := [(2, .int 1), (0, .ref h_t), (1, .int x1), (3, .int (v.2))]) hx hb dX7_isTakenThen_41 rfl hl (by decide) rfl (fun ls hl => ?_)
      refine lv_iinc (v := ((v.2) + 1)) (lv' := [(3, .int ((v.2) + 1)), (2, .int 1), (0, .ref h_t), (1, .int x1)]) hx hb dX7_isTakenThen_42 hl (k := 3) rfl rfl (by decide) rfl (fun ls hl => ?_)
      refine lv_goto (tgt := 4) hx hb dX7_isTakenThen_45 (by decide) ?_
      exact ih _ hf _ _ _ hP hD hS (lv_sub hl [2, 3, 1, 0] rfl)
    · replace hf := g4.1 c3
      refine lv_aload_n hx hb dX7_isTakenThen_19 rfl (lv_at hl 0 rfl) ?_
      refine va_get (D := D) (ci := 7) (v := .ref (q_t 21)) (C := RX7) (T := TX7) (N := 23) hx hb hT iX7 hown hK hP 0 rfl rfl 21 (by decide) (hT _ fw_X7_53) (fun _ h9 => h9) rfl dX7_isTakenThen_20 ?_
      refine lv_bipush (v := 24) hx hb dX7_isTakenThen_23 rfl ?_
      refine lv_iconst (v := 5) hx hb dX7_isTakenThen_25 rfl ?_
      refine lv_iload_n hx hb dX7_isTakenThen_26 rfl (lv_at hl 3 rfl) ?_
      refine lv_imul hx hb dX7_isTakenThen_27 ?_
      refine lv_iadd hx hb dX7_isTakenThen_28 ?_
      refine lv_iconst (v := 1) hx hb dX7_isTakenThen_29 rfl ?_
      refine lv_iadd hx hb dX7_isTakenThen_30 ?_
      obtain ⟨hi, hf⟩ := chk_some hf
      refine va_iald (D := D) hx hb hK hP 1 0 rfl rfl hi dX7_isTakenThen_31 ?_
      refine lv_iload_n hx hb dX7_isTakenThen_32 rfl (lv_at hl 1 rfl) ?_
      have g6 := ite_some hf
      refine lv_icmp_ne (tgt := 40) hx hb dX7_isTakenThen_33 (by decide) (fun c5 => ?_) (fun c5 => ?_)
      · replace hf := g6.2 c5
        refine lv_iconst (v := 0) hx hb dX7_isTakenThen_40 rfl ?_
        refine lv_istore_n (lv' := [(2, .int 0), (0, .ref h_t), (1, .int x1), (3, .int (v.2))]) hx hb dX7_isTakenThen_41 rfl hl (by decide) rfl (fun ls hl => ?_)
        refine lv_iinc (v := ((v.2) + 1)) (lv' := [(3, .int ((v.2) + 1)), (2, .int 0), (0, .ref h_t), (1, .int x1)]) hx hb dX7_isTakenThen_42 hl (k := 3) rfl rfl (by decide) rfl (fun ls hl => ?_)
        refine lv_goto (tgt := 4) hx hb dX7_isTakenThen_45 (by decide) ?_
        exact ih _ hf _ _ _ hP hD hS (lv_sub hl [2, 3, 1, 0] rfl)
      · replace hf := g6.1 c5
        refine lv_iconst (v := 1) hx hb dX7_isTakenThen_36 rfl ?_
        refine lv_goto (tgt := 41) hx hb dX7_isTakenThen_37 (by decide) ?_
        refine lv_istore_n (lv' := [(2, .int 1), (0, .ref h_t), (1, .int x1), (3, .int (v.2))]) hx hb dX7_isTakenThen_41 rfl hl (by decide) rfl (fun ls hl => ?_)
        refine lv_iinc (v := ((v.2) + 1)) (lv' := [(3, .int ((v.2) + 1)), (2, .int 1), (0, .ref h_t), (1, .int x1)]) hx hb dX7_isTakenThen_42 hl (k := 3) rfl rfl (by decide) rfl (fun ls hl => ?_)
        refine lv_goto (tgt := 4) hx hb dX7_isTakenThen_45 (by decide) ?_
        exact ih _ hf _ _ _ hP hD hS (lv_sub hl [2, 3, 1, 0] rfl)
set_option maxHeartbeats 4000000 in
set_option maxRecDepth 100000 in
theorem mX7_isTakenThen (l : Launch) (D : va_G) (cs : Nat → ClassId) (sk : Nat → Nat) (h_t : Nat) (q_t : Nat → Nat) (k : Nat) (d_t : Dat) (x1 : Int32) {rv : Int32} (hf : fX7_isTakenThen k d_t x1 = some rv) : CTi l yX7_isTakenThen (Cond.code yX7_isTakenThen cX7_isTakenThen 4 (some .boolean) :: gtbl) rm_X7_isTakenThen D cs sk [.ref h_t, .int x1] [oX7 h_t q_t (d_t.1), ((q_t 21), .inl (cs 0, 58, .inl (d_t.2 21)))] (rv) [oX7 h_t q_t (d_t.1), ((q_t 21), .inl (cs 0, 58, .inl (d_t.2 21)))] := by
  refine CTi.ofZ RX7 (by decide +kernel) rfl (Nat.le_of_ble_eq_true rfl) (fun p e s m args below meth c A Q ls M hA hR hl hP hD hS => ?_)
  obtain ⟨hx, hb, hml, hT, hown, hlk, hrt, hK, hN, hSE⟩ := id M
  replace hl : lv_has ls 4 [(0, .ref h_t), (1, .int x1)] := hl
  unfold fX7_isTakenThen at hf
  refine lv_iconst (v := 0) hx hb dX7_isTakenThen_0 rfl ?_
  refine lv_istore_n (lv' := [(2, .int 0), (0, .ref h_t), (1, .int x1)]) hx hb dX7_isTakenThen_1 rfl hl (by decide) rfl (fun ls hl => ?_)
  refine lv_iconst (v := 0) hx hb dX7_isTakenThen_2 rfl ?_
  refine lv_istore_n (lv' := [(3, .int 0), (2, .int 0), (0, .ref h_t), (1, .int x1)]) hx hb dX7_isTakenThen_3 rfl hl (by decide) rfl (fun ls hl => ?_)
  refine mX7_isTakenThen_B4 h_t q_t k x1 d_t _ M hA hR (fun w1 hf H locs ls hP hD hS hl => ?_) _ _ hf _ _ _ hP hD hS (lv_sub hl [2, 3, 1, 0] rfl)
  · refine lv_iload_n hx hb dX7_isTakenThen_48 rfl (lv_at hl 0 rfl) ?_
    obtain ⟨h01, hf⟩ := chb_some hf
    have e9 := Option.some.inj hf
    subst e9
    exact hR _ _ _ _ dX7_isTakenThen_49 h01 hP hS
abbrev rm_X7_readsPlayer : Room := { frames := 5, cells := 0, slots := 0, locals := 111 }
def fX7_readsPlayer (k : Nat) (d_t : Dat) : Option (Int32 × Dat) :=
  chk 58 56 ((if ((d_t.2 21) (56 : Int32).toNatClampNeg) = 6 then some (0, d_t) else (fX7_goOn k d_t).bind (fun (r3 : Dat) => (fX7_takes k (r3.1, d_t.2) 0 5).bind (fun (r5 : Int32 × Dat) => (if (r5.1) = 0 then some (0, (r5.2.1, d_t.2)) else (if (r5.2.1 19) = 2 then (fX7_isTakenThen k (r5.2.1, d_t.2) (r5.2.1 20)).bind (fun (r11 : Int32) => (if r11 = 0 then chk 58 54 ((fX7_takes k (r5.2.1, d_t.2) 0 (((d_t.2 21) (54 : Int32).toNatClampNeg) - 1)).bind (fun (r15 : Int32 × Dat) => (if (r15.1) = 0 then some (0, (r15.2.1, d_t.2)) else (fX7_takes k (r15.2.1, d_t.2) 1 99).bind (fun (r19 : Int32 × Dat) => (if (r19.1) = 0 then some (0, (r19.2.1, d_t.2)) else (fX7_layPlayer k 58 (d_t.2 21) (24 + (5 * ((d_t.2 21) (56 : Int32).toNatClampNeg))) (r5.2.1 22) (r15.2.1 22) (r19.2.1 22) ((d_t.2 21) (56 : Int32).toNatClampNeg)).bind (fun (r23 : (Nat → Int32)) => chk 58 56 (chk 58 56 (some (1, (r19.2.1, (va_up d_t.2 21 (upd r23 (56 : Int32).toNatClampNeg ((r23 (56 : Int32).toNatClampNeg) + 1))))))))))))) else some (0, (r5.2.1, d_t.2)))) else some (0, (r5.2.1, d_t.2))))))))
set_option maxHeartbeats 4000000 in
set_option maxRecDepth 100000 in
theorem mX7_readsPlayer (l : Launch) (D : va_G) (cs : Nat → ClassId) (sk : Nat → Nat) (h_t : Nat) (q_t : Nat → Nat) (k : Nat) (d_t : Dat) {rv : Int32 × Dat} (hf : fX7_readsPlayer k d_t = some rv) : CTi l yX7_readsPlayer (Cond.code yX7_readsPlayer cX7_readsPlayer 4 (some .boolean) :: gtbl) rm_X7_readsPlayer D cs sk [.ref h_t] [oX7 h_t q_t (d_t.1), ((q_t 15), .inl (cs 0, 250, .inl (d_t.2 15))), ((q_t 21), .inl (cs 0, 58, .inl (d_t.2 21)))] (rv.1) [oX7 h_t q_t (rv.2.1), ((q_t 15), .inl (cs 0, 250, .inl (d_t.2 15))), ((q_t 21), .inl (cs 0, 58, .inl (rv.2.2 21)))] := by
  refine CTi.ofZ RX7 (by decide +kernel) rfl (Nat.le_of_ble_eq_true rfl) (fun p e s m args below meth c A Q ls M hA hR hl hP hD hS => ?_)
  obtain ⟨hx, hb, hml, hT, hown, hlk, hrt, hK, hN, hSE⟩ := id M
  replace hl : lv_has ls 4 [(0, .ref h_t)] := hl
  unfold fX7_readsPlayer at hf
  refine lv_aload_n hx hb dX7_readsPlayer_0 rfl (lv_at hl 0 rfl) ?_
  refine va_get (D := D) (ci := 7) (v := .ref (q_t 21)) (C := RX7) (T := TX7) (N := 23) hx hb hT iX7 hown hK hP 0 rfl rfl 21 (by decide) (hT _ fw_X7_53) (fun _ h9 => h9) rfl dX7_readsPlayer_1 ?_
  refine lv_bipush (v := 56) hx hb dX7_readsPlayer_4 rfl ?_
  obtain ⟨hi, hf⟩ := chk_some hf
  refine va_iald (D := D) hx hb hK hP 2 0 rfl rfl hi dX7_readsPlayer_6 ?_
  refine lv_istore_n (lv' := [(1, .int ((d_t.2 21) (56 : Int32).toNatClampNeg)), (0, .ref h_t)]) hx hb dX7_readsPlayer_7 rfl hl (by decide) rfl (fun ls hl => ?_)
  refine lv_iload_n hx hb dX7_readsPlayer_8 rfl (lv_at hl 0 rfl) ?_
  refine lv_bipush (v := 6) hx hb dX7_readsPlayer_9 rfl ?_
  have g2 := ite_some hf
  refine lv_icmp_ne (tgt := 16) hx hb dX7_readsPlayer_11 (by decide) (fun c1 => ?_) (fun c1 => ?_)
  · replace hf := g2.2 c1
    refine lv_aload_n hx hb dX7_readsPlayer_16 rfl (lv_at hl 1 rfl) ?_
    obtain ⟨r3, e4, hf⟩ := bind_some hf
    refine callVv (As := []) (rest := []) M (mX7_goOn l D cs sk h_t q_t k d_t e4) mw_X7_254 ln_X7_goOn ⟨rfl, rfl, Nat.le_of_ble_eq_true rfl, Nat.le_of_ble_eq_true rfl⟩ hP hD hS hA [0, 1] (by decide) rfl rfl (q0 := 0) rfl rfl rfl ⟨Nat.zero_le _, Nat.zero_le _⟩ hl.1 rfl (Nat.le_of_ble_eq_true rfl) dX7_readsPlayer_17 (fun H locs hP hD hS => ?_)
    replace hP : va_P D vwCl [oX7 h_t q_t (r3.1), ((q_t 15), .inl (cs 0, 250, .inl (d_t.2 15))), ((q_t 21), .inl (cs 0, 58, .inl (d_t.2 21)))] H := hP
    replace hD : va_D A [oX7 h_t q_t (r3.1), ((q_t 15), .inl (cs 0, 250, .inl (d_t.2 15))), ((q_t 21), .inl (cs 0, 58, .inl (d_t.2 21)))] := hD
    refine lv_aload_n hx hb dX7_readsPlayer_20 rfl (lv_at hl 1 rfl) ?_
    refine lv_iconst (v := 0) hx hb dX7_readsPlayer_21 rfl ?_
    refine lv_iconst (v := 5) hx hb dX7_readsPlayer_22 rfl ?_
    obtain ⟨r5, e6, hf⟩ := bind_some hf
    refine callVi (As := [.int 0, .int 5]) (rest := []) M (mX7_takes l D cs sk h_t q_t k (r3.1, d_t.2) 0 5 e6) mw_X7_257 ln_X7_takes ⟨rfl, rfl, Nat.le_of_ble_eq_true rfl, Nat.le_of_ble_eq_true rfl⟩ hP hD hS hA [0, 1] (by decide) rfl rfl (q0 := 0) rfl rfl rfl ⟨Nat.zero_le _, Nat.zero_le _⟩ hl.1 rfl (Nat.le_of_ble_eq_true rfl) dX7_readsPlayer_23 (fun H locs hP hD hS => ?_)
    replace hP : va_P D vwCl [oX7 h_t q_t (r5.2.1), ((q_t 15), .inl (cs 0, 250, .inl (d_t.2 15))), ((q_t 21), .inl (cs 0, 58, .inl (d_t.2 21)))] H := hP
    replace hD : va_D A [oX7 h_t q_t (r5.2.1), ((q_t 15), .inl (cs 0, 250, .inl (d_t.2 15))), ((q_t 21), .inl (cs 0, 58, .inl (d_t.2 21)))] := hD
    have g8 := ite_some hf
    refine lv_if_ne (tgt := 31) hx hb dX7_readsPlayer_26 (by decide) (fun c7 => ?_) (fun c7 => ?_)
    · replace hf := g8.2 c7
      refine lv_aload_n hx hb dX7_readsPlayer_31 rfl (lv_at hl 1 rfl) ?_
      refine va_get (D := D) (ci := 7) (v := .int (r5.2.1 22)) (C := RX7) (T := TX7) (N := 23) hx hb hT iX7 hown hK hP 0 rfl rfl 22 (by decide) (hT _ fw_X7_251) (fun _ h9 => h9) rfl dX7_readsPlayer_32 ?_
      refine lv_istore_n (lv' := [(2, .int (r5.2.1 22)), (1, .int ((d_t.2 21) (56 : Int32).toNatClampNeg)), (0, .ref h_t)]) hx hb dX7_readsPlayer_35 rfl hl (by decide) rfl (fun ls hl => ?_)
      refine lv_aload_n hx hb dX7_readsPlayer_36 rfl (lv_at hl 2 rfl) ?_
      refine va_get (D := D) (ci := 7) (v := .int (r5.2.1 19)) (C := RX7) (T := TX7) (N := 23) hx hb hT iX7 hown hK hP 0 rfl rfl 19 (by decide) (hT _ fw_X7_236) (fun _ h9 => h9) rfl dX7_readsPlayer_37 ?_
      refine lv_iconst (v := 2) hx hb dX7_readsPlayer_40 rfl ?_
      have g10 := ite_some hf
      refine lv_icmp_ne (tgt := 72) hx hb dX7_readsPlayer_41 (by decide) (fun c9 => ?_) (fun c9 => ?_)
      · replace hf := g10.2 c9
        refine lv_iconst (v := 0) hx hb dX7_readsPlayer_72 rfl ?_
        have e9 := Option.some.inj hf
        subst e9
        exact hR _ _ _ _ dX7_readsPlayer_73 (Or.inl rfl) hP hS
      · replace hf := g10.1 c9
        refine lv_aload_n hx hb dX7_readsPlayer_44 rfl (lv_at hl 2 rfl) ?_
        refine lv_aload_n hx hb dX7_readsPlayer_45 rfl (lv_at hl 2 rfl) ?_
        refine va_get (D := D) (ci := 7) (v := .int (r5.2.1 20)) (C := RX7) (T := TX7) (N := 23) hx hb hT iX7 hown hK hP 0 rfl rfl 20 (by decide) (hT _ fw_X7_239) (fun _ h9 => h9) rfl dX7_readsPlayer_46 ?_
        obtain ⟨r11, e12, hf⟩ := bind_some hf
        refine callVi (As := [.int (r5.2.1 20)]) (rest := []) M (mX7_isTakenThen l D cs sk h_t q_t k (r5.2.1, d_t.2) (r5.2.1 20) e12) mw_X7_263 ln_X7_isTakenThen ⟨rfl, rfl, Nat.le_of_ble_eq_true rfl, Nat.le_of_ble_eq_true rfl⟩ hP hD hS hA [0, 2] (by decide) rfl rfl (q0 := 0) rfl rfl rfl ⟨Nat.zero_le _, Nat.zero_le _⟩ hl.1 rfl (Nat.le_of_ble_eq_true rfl) dX7_readsPlayer_49 (fun H locs hP hD hS => ?_)
        replace hP : va_P D vwCl [oX7 h_t q_t (r5.2.1), ((q_t 15), .inl (cs 0, 250, .inl (d_t.2 15))), ((q_t 21), .inl (cs 0, 58, .inl (d_t.2 21)))] H := hP
        replace hD : va_D A [oX7 h_t q_t (r5.2.1), ((q_t 15), .inl (cs 0, 250, .inl (d_t.2 15))), ((q_t 21), .inl (cs 0, 58, .inl (d_t.2 21)))] := hD
        have g14 := ite_some hf
        refine lv_if_ne (tgt := 72) hx hb dX7_readsPlayer_52 (by decide) (fun c13 => ?_) (fun c13 => ?_)
        · replace hf := g14.2 c13
          refine lv_iconst (v := 0) hx hb dX7_readsPlayer_72 rfl ?_
          have e9 := Option.some.inj hf
          subst e9
          exact hR _ _ _ _ dX7_readsPlayer_73 (Or.inl rfl) hP hS
        · replace hf := g14.1 c13
          refine lv_aload_n hx hb dX7_readsPlayer_55 rfl (lv_at hl 2 rfl) ?_
          refine lv_iconst (v := 0) hx hb dX7_readsPlayer_56 rfl ?_
          refine lv_aload_n hx hb dX7_readsPlayer_57 rfl (lv_at hl 2 rfl) ?_
          refine va_get (D := D) (ci := 7) (v := .ref (q_t 21)) (C := RX7) (T := TX7) (N := 23) hx hb hT iX7 hown hK hP 0 rfl rfl 21 (by decide) (hT _ fw_X7_53) (fun _ h9 => h9) rfl dX7_readsPlayer_58 ?_
          refine lv_bipush (v := 54) hx hb dX7_readsPlayer_61 rfl ?_
          obtain ⟨hi, hf⟩ := chk_some hf
          refine va_iald (D := D) hx hb hK hP 2 0 rfl rfl hi dX7_readsPlayer_63 ?_
          refine lv_iconst (v := 1) hx hb dX7_readsPlayer_64 rfl ?_
          refine lv_isub hx hb dX7_readsPlayer_65 ?_
          obtain ⟨r15, e16, hf⟩ := bind_some hf
          refine callVi (As := [.int 0, .int (((d_t.2 21) (54 : Int32).toNatClampNeg) - 1)]) (rest := []) M (mX7_takes l D cs sk h_t q_t k (r5.2.1, d_t.2) 0 (((d_t.2 21) (54 : Int32).toNatClampNeg) - 1) e16) mw_X7_257 ln_X7_takes ⟨rfl, rfl, Nat.le_of_ble_eq_true rfl, Nat.le_of_ble_eq_true rfl⟩ hP hD hS hA [0, 1] (by decide) rfl rfl (q0 := 0) rfl rfl rfl ⟨Nat.zero_le _, Nat.zero_le _⟩ hl.1 rfl (Nat.le_of_ble_eq_true rfl) dX7_readsPlayer_66 (fun H locs hP hD hS => ?_)
          replace hP : va_P D vwCl [oX7 h_t q_t (r15.2.1), ((q_t 15), .inl (cs 0, 250, .inl (d_t.2 15))), ((q_t 21), .inl (cs 0, 58, .inl (d_t.2 21)))] H := hP
          replace hD : va_D A [oX7 h_t q_t (r15.2.1), ((q_t 15), .inl (cs 0, 250, .inl (d_t.2 15))), ((q_t 21), .inl (cs 0, 58, .inl (d_t.2 21)))] := hD
          have g18 := ite_some hf
          refine lv_if_ne (tgt := 74) hx hb dX7_readsPlayer_69 (by decide) (fun c17 => ?_) (fun c17 => ?_)
          · replace hf := g18.2 c17
            refine lv_aload_n hx hb dX7_readsPlayer_74 rfl (lv_at hl 2 rfl) ?_
            refine va_get (D := D) (ci := 7) (v := .int (r15.2.1 22)) (C := RX7) (T := TX7) (N := 23) hx hb hT iX7 hown hK hP 0 rfl rfl 22 (by decide) (hT _ fw_X7_251) (fun _ h9 => h9) rfl dX7_readsPlayer_75 ?_
            refine lv_istore_n (lv' := [(3, .int (r15.2.1 22)), (2, .int (r5.2.1 22)), (1, .int ((d_t.2 21) (56 : Int32).toNatClampNeg)), (0, .ref h_t)]) hx hb dX7_readsPlayer_78 rfl hl (by decide) rfl (fun ls hl => ?_)
            refine lv_aload_n hx hb dX7_readsPlayer_79 rfl (lv_at hl 3 rfl) ?_
            refine lv_iconst (v := 1) hx hb dX7_readsPlayer_80 rfl ?_
            refine lv_bipush (v := 99) hx hb dX7_readsPlayer_81 rfl ?_
            obtain ⟨r19, e20, hf⟩ := bind_some hf
            refine callVi (As := [.int 1, .int 99]) (rest := []) M (mX7_takes l D cs sk h_t q_t k (r15.2.1, d_t.2) 1 99 e20) mw_X7_257 ln_X7_takes ⟨rfl, rfl, Nat.le_of_ble_eq_true rfl, Nat.le_of_ble_eq_true rfl⟩ hP hD hS hA [0, 1] (by decide) rfl rfl (q0 := 0) rfl rfl rfl ⟨Nat.zero_le _, Nat.zero_le _⟩ hl.1 rfl (Nat.le_of_ble_eq_true rfl) dX7_readsPlayer_83 (fun H locs hP hD hS => ?_)
            replace hP : va_P D vwCl [oX7 h_t q_t (r19.2.1), ((q_t 15), .inl (cs 0, 250, .inl (d_t.2 15))), ((q_t 21), .inl (cs 0, 58, .inl (d_t.2 21)))] H := hP
            replace hD : va_D A [oX7 h_t q_t (r19.2.1), ((q_t 15), .inl (cs 0, 250, .inl (d_t.2 15))), ((q_t 21), .inl (cs 0, 58, .inl (d_t.2 21)))] := hD
            have g22 := ite_some hf
            refine lv_if_ne (tgt := 91) hx hb dX7_readsPlayer_86 (by decide) (fun c21 => ?_) (fun c21 => ?_)
            · replace hf := g22.2 c21
              refine lv_aload_n hx hb dX7_readsPlayer_91 rfl (lv_at hl 3 rfl) ?_
              refine va_get (D := D) (ci := 7) (v := .ref (q_t 21)) (C := RX7) (T := TX7) (N := 23) hx hb hT iX7 hown hK hP 0 rfl rfl 21 (by decide) (hT _ fw_X7_53) (fun _ h9 => h9) rfl dX7_readsPlayer_92 ?_
              refine lv_bipush (v := 24) hx hb dX7_readsPlayer_95 rfl ?_
              refine lv_iconst (v := 5) hx hb dX7_readsPlayer_97 rfl ?_
              refine lv_iload_n hx hb dX7_readsPlayer_98 rfl (lv_at hl 2 rfl) ?_
              refine lv_imul hx hb dX7_readsPlayer_99 ?_
              refine lv_iadd hx hb dX7_readsPlayer_100 ?_
              refine lv_iload_n hx hb dX7_readsPlayer_101 rfl (lv_at hl 1 rfl) ?_
              refine lv_iload_n hx hb dX7_readsPlayer_102 rfl (lv_at hl 0 rfl) ?_
              refine lv_aload_n hx hb dX7_readsPlayer_103 rfl (lv_at hl 3 rfl) ?_
              refine va_get (D := D) (ci := 7) (v := .int (r19.2.1 22)) (C := RX7) (T := TX7) (N := 23) hx hb hT iX7 hown hK hP 0 rfl rfl 22 (by decide) (hT _ fw_X7_251) (fun _ h9 => h9) rfl dX7_readsPlayer_104 ?_
              refine lv_iload_n hx hb dX7_readsPlayer_107 rfl (lv_at hl 2 rfl) ?_
              obtain ⟨r23, e24, hf⟩ := bind_some hf
              refine callSv (As := [.ref (q_t 21), .int (24 + (5 * ((d_t.2 21) (56 : Int32).toNatClampNeg))), .int (r5.2.1 22), .int (r15.2.1 22), .int (r19.2.1 22), .int ((d_t.2 21) (56 : Int32).toNatClampNeg)]) (rest := []) M (mX7_layPlayer l D cs sk (q_t 21) k 58 (d_t.2 21) (24 + (5 * ((d_t.2 21) (56 : Int32).toNatClampNeg))) (r5.2.1 22) (r15.2.1 22) (r19.2.1 22) ((d_t.2 21) (56 : Int32).toNatClampNeg) e24) mw_X7_107 ln_X7_layPlayer ⟨rfl, rfl, Nat.le_of_ble_eq_true rfl, Nat.le_of_ble_eq_true rfl⟩ hP hD hS hA [2] (by decide) rfl rfl ⟨Nat.zero_le _, Nat.zero_le _⟩ hl.1 rfl (Nat.le_of_ble_eq_true rfl) dX7_readsPlayer_108 (fun H locs hP hD hS => ?_)
              replace hP : va_P D vwCl [oX7 h_t q_t (r19.2.1), ((q_t 15), .inl (cs 0, 250, .inl (d_t.2 15))), ((q_t 21), .inl (cs 0, 58, .inl r23))] H := hP
              replace hD : va_D A [oX7 h_t q_t (r19.2.1), ((q_t 15), .inl (cs 0, 250, .inl (d_t.2 15))), ((q_t 21), .inl (cs 0, 58, .inl r23))] := hD
              refine lv_aload_n hx hb dX7_readsPlayer_111 rfl (lv_at hl 3 rfl) ?_
              refine va_get (D := D) (ci := 7) (v := .ref (q_t 21)) (C := RX7) (T := TX7) (N := 23) hx hb hT iX7 hown hK hP 0 rfl rfl 21 (by decide) (hT _ fw_X7_53) (fun _ h9 => h9) rfl dX7_readsPlayer_112 ?_
              refine lv_bipush (v := 56) hx hb dX7_readsPlayer_115 rfl ?_
              refine lv_dup2_11 hx hb dX7_readsPlayer_117 rfl rfl ?_
              obtain ⟨hi, hf⟩ := chk_some hf
              refine va_iald (D := D) hx hb hK hP 2 0 rfl rfl hi dX7_readsPlayer_118 ?_
              refine lv_iconst (v := 1) hx hb dX7_readsPlayer_119 rfl ?_
              refine lv_iadd hx hb dX7_readsPlayer_120 ?_
              obtain ⟨hi, hf⟩ := chk_some hf
              refine va_iast (D := D) hx hb hK hP hD hS 2 0 rfl rfl hi dX7_readsPlayer_121 (fun H locs hP hD hS => ?_)
              replace hP : va_P D vwCl [oX7 h_t q_t (r19.2.1), ((q_t 15), .inl (cs 0, 250, .inl (d_t.2 15))), ((q_t 21), .inl (cs 0, 58, .inl (upd r23 (56 : Int32).toNatClampNeg ((r23 (56 : Int32).toNatClampNeg) + 1))))] H := hP
              replace hD : va_D A [oX7 h_t q_t (r19.2.1), ((q_t 15), .inl (cs 0, 250, .inl (d_t.2 15))), ((q_t 21), .inl (cs 0, 58, .inl (upd r23 (56 : Int32).toNatClampNeg ((r23 (56 : Int32).toNatClampNeg) + 1))))] := hD
              refine lv_iconst (v := 1) hx hb dX7_readsPlayer_122 rfl ?_
              have e9 := Option.some.inj hf
              subst e9
              exact hR _ _ _ _ dX7_readsPlayer_123 (Or.inr rfl) hP hS
            · replace hf := g22.1 c21
              refine lv_iconst (v := 0) hx hb dX7_readsPlayer_89 rfl ?_
              have e9 := Option.some.inj hf
              subst e9
              exact hR _ _ _ _ dX7_readsPlayer_90 (Or.inl rfl) hP hS
          · replace hf := g18.1 c17
            refine lv_iconst (v := 0) hx hb dX7_readsPlayer_72 rfl ?_
            have e9 := Option.some.inj hf
            subst e9
            exact hR _ _ _ _ dX7_readsPlayer_73 (Or.inl rfl) hP hS
    · replace hf := g8.1 c7
      refine lv_iconst (v := 0) hx hb dX7_readsPlayer_29 rfl ?_
      have e9 := Option.some.inj hf
      subst e9
      exact hR _ _ _ _ dX7_readsPlayer_30 (Or.inl rfl) hP hS
  · replace hf := g2.1 c1
    refine lv_iconst (v := 0) hx hb dX7_readsPlayer_14 rfl ?_
    have e9 := Option.some.inj hf
    subst e9
    exact hR _ _ _ _ dX7_readsPlayer_15 (Or.inl rfl) hP hS
abbrev rm_X7_readsOffset : Room := { frames := 5, cells := 0, slots := 0, locals := 111 }
def fX7_readsOffset (k : Nat) (d_t : Dat) : Option (Int32 × Dat) :=
  (fX7_goOn k d_t).bind (fun (r1 : Dat) => chk 58 56 ((fX7_takes k (r1.1, d_t.2) 0 (((d_t.2 21) (56 : Int32).toNatClampNeg) - 1)).bind (fun (r3 : Int32 × Dat) => (if (r3.1) = 0 then some (0, (r3.2.1, d_t.2)) else (if (r3.2.1 19) = 5 then (if (1 : Int32) = 0 then (fX7_takes k (r3.2.1, d_t.2) 0 500).bind (fun (r27 : Int32 × Dat) => (if (r27.1) = 0 then some (0, (r27.2.1, d_t.2)) else (if (1 : Int32) = 0 then chk 58 ((24 + (5 * (r3.2.1 22))) + 3) (some (1, (r27.2.1, (va_up d_t.2 21 (upd (d_t.2 21) ((24 + (5 * (r3.2.1 22))) + 3).toNatClampNeg (r27.2.1 22)))))) else chk 58 ((24 + (5 * (r3.2.1 22))) + 3) (some (1, (r27.2.1, (va_up d_t.2 21 (upd (d_t.2 21) ((24 + (5 * (r3.2.1 22))) + 3).toNatClampNeg (-(r27.2.1 22)))))))))) else (fX7_goOn k (r3.2.1, d_t.2)).bind (fun (r33 : Dat) => (fX7_takes k (r33.1, d_t.2) 0 500).bind (fun (r35 : Int32 × Dat) => (if (r35.1) = 0 then some (0, (r35.2.1, d_t.2)) else (if (1 : Int32) = 0 then chk 58 ((24 + (5 * (r3.2.1 22))) + 3) (some (1, (r35.2.1, (va_up d_t.2 21 (upd (d_t.2 21) ((24 + (5 * (r3.2.1 22))) + 3).toNatClampNeg (r35.2.1 22)))))) else chk 58 ((24 + (5 * (r3.2.1 22))) + 3) (some (1, (r35.2.1, (va_up d_t.2 21 (upd (d_t.2 21) ((24 + (5 * (r3.2.1 22))) + 3).toNatClampNeg (-(r35.2.1 22)))))))))))) else (if (0 : Int32) = 0 then (fX7_takes k (r3.2.1, d_t.2) 0 500).bind (fun (r11 : Int32 × Dat) => (if (r11.1) = 0 then some (0, (r11.2.1, d_t.2)) else (if (0 : Int32) = 0 then chk 58 ((24 + (5 * (r3.2.1 22))) + 3) (some (1, (r11.2.1, (va_up d_t.2 21 (upd (d_t.2 21) ((24 + (5 * (r3.2.1 22))) + 3).toNatClampNeg (r11.2.1 22)))))) else chk 58 ((24 + (5 * (r3.2.1 22))) + 3) (some (1, (r11.2.1, (va_up d_t.2 21 (upd (d_t.2 21) ((24 + (5 * (r3.2.1 22))) + 3).toNatClampNeg (-(r11.2.1 22)))))))))) else (fX7_goOn k (r3.2.1, d_t.2)).bind (fun (r17 : Dat) => (fX7_takes k (r17.1, d_t.2) 0 500).bind (fun (r19 : Int32 × Dat) => (if (r19.1) = 0 then some (0, (r19.2.1, d_t.2)) else (if (0 : Int32) = 0 then chk 58 ((24 + (5 * (r3.2.1 22))) + 3) (some (1, (r19.2.1, (va_up d_t.2 21 (upd (d_t.2 21) ((24 + (5 * (r3.2.1 22))) + 3).toNatClampNeg (r19.2.1 22)))))) else chk 58 ((24 + (5 * (r3.2.1 22))) + 3) (some (1, (r19.2.1, (va_up d_t.2 21 (upd (d_t.2 21) ((24 + (5 * (r3.2.1 22))) + 3).toNatClampNeg (-(r19.2.1 22)))))))))))))))))
set_option maxHeartbeats 4000000 in
set_option maxRecDepth 100000 in
theorem mX7_readsOffset (l : Launch) (D : va_G) (cs : Nat → ClassId) (sk : Nat → Nat) (h_t : Nat) (q_t : Nat → Nat) (k : Nat) (d_t : Dat) {rv : Int32 × Dat} (hf : fX7_readsOffset k d_t = some rv) : CTi l yX7_readsOffset (Cond.code yX7_readsOffset cX7_readsOffset 3 (some .boolean) :: gtbl) rm_X7_readsOffset D cs sk [.ref h_t] [oX7 h_t q_t (d_t.1), ((q_t 15), .inl (cs 0, 250, .inl (d_t.2 15))), ((q_t 21), .inl (cs 0, 58, .inl (d_t.2 21)))] (rv.1) [oX7 h_t q_t (rv.2.1), ((q_t 15), .inl (cs 0, 250, .inl (d_t.2 15))), ((q_t 21), .inl (cs 0, 58, .inl (rv.2.2 21)))] := by
  refine CTi.ofZ RX7 (by decide +kernel) rfl (Nat.le_of_ble_eq_true rfl) (fun p e s m args below meth c A Q ls M hA hR hl hP hD hS => ?_)
  obtain ⟨hx, hb, hml, hT, hown, hlk, hrt, hK, hN, hSE⟩ := id M
  replace hl : lv_has ls 3 [(0, .ref h_t)] := hl
  unfold fX7_readsOffset at hf
  refine lv_aload_n hx hb dX7_readsOffset_0 rfl (lv_at hl 0 rfl) ?_
  obtain ⟨r1, e2, hf⟩ := bind_some hf
  refine callVv (As := []) (rest := []) M (mX7_goOn l D cs sk h_t q_t k d_t e2) mw_X7_254 ln_X7_goOn ⟨rfl, rfl, Nat.le_of_ble_eq_true rfl, Nat.le_of_ble_eq_true rfl⟩ hP hD hS hA [0, 1] (by decide) rfl rfl (q0 := 0) rfl rfl rfl ⟨Nat.zero_le _, Nat.zero_le _⟩ hl.1 rfl (Nat.le_of_ble_eq_true rfl) dX7_readsOffset_1 (fun H locs hP hD hS => ?_)
  replace hP : va_P D vwCl [oX7 h_t q_t (r1.1), ((q_t 15), .inl (cs 0, 250, .inl (d_t.2 15))), ((q_t 21), .inl (cs 0, 58, .inl (d_t.2 21)))] H := hP
  replace hD : va_D A [oX7 h_t q_t (r1.1), ((q_t 15), .inl (cs 0, 250, .inl (d_t.2 15))), ((q_t 21), .inl (cs 0, 58, .inl (d_t.2 21)))] := hD
  refine lv_aload_n hx hb dX7_readsOffset_4 rfl (lv_at hl 0 rfl) ?_
  refine lv_iconst (v := 0) hx hb dX7_readsOffset_5 rfl ?_
  refine lv_aload_n hx hb dX7_readsOffset_6 rfl (lv_at hl 0 rfl) ?_
  refine va_get (D := D) (ci := 7) (v := .ref (q_t 21)) (C := RX7) (T := TX7) (N := 23) hx hb hT iX7 hown hK hP 0 rfl rfl 21 (by decide) (hT _ fw_X7_53) (fun _ h9 => h9) rfl dX7_readsOffset_7 ?_
  refine lv_bipush (v := 56) hx hb dX7_readsOffset_10 rfl ?_
  obtain ⟨hi, hf⟩ := chk_some hf
  refine va_iald (D := D) hx hb hK hP 2 0 rfl rfl hi dX7_readsOffset_12 ?_
  refine lv_iconst (v := 1) hx hb dX7_readsOffset_13 rfl ?_
  refine lv_isub hx hb dX7_readsOffset_14 ?_
  obtain ⟨r3, e4, hf⟩ := bind_some hf
  refine callVi (As := [.int 0, .int (((d_t.2 21) (56 : Int32).toNatClampNeg) - 1)]) (rest := []) M (mX7_takes l D cs sk h_t q_t k (r1.1, d_t.2) 0 (((d_t.2 21) (56 : Int32).toNatClampNeg) - 1) e4) mw_X7_257 ln_X7_takes ⟨rfl, rfl, Nat.le_of_ble_eq_true rfl, Nat.le_of_ble_eq_true rfl⟩ hP hD hS hA [0, 1] (by decide) rfl rfl (q0 := 0) rfl rfl rfl ⟨Nat.zero_le _, Nat.zero_le _⟩ hl.1 rfl (Nat.le_of_ble_eq_true rfl) dX7_readsOffset_15 (fun H locs hP hD hS => ?_)
  replace hP : va_P D vwCl [oX7 h_t q_t (r3.2.1), ((q_t 15), .inl (cs 0, 250, .inl (d_t.2 15))), ((q_t 21), .inl (cs 0, 58, .inl (d_t.2 21)))] H := hP
  replace hD : va_D A [oX7 h_t q_t (r3.2.1), ((q_t 15), .inl (cs 0, 250, .inl (d_t.2 15))), ((q_t 21), .inl (cs 0, 58, .inl (d_t.2 21)))] := hD
  have g6 := ite_some hf
  refine lv_if_ne (tgt := 23) hx hb dX7_readsOffset_18 (by decide) (fun c5 => ?_) (fun c5 => ?_)
  · replace hf := g6.2 c5
    refine lv_aload_n hx hb dX7_readsOffset_23 rfl (lv_at hl 0 rfl) ?_
    refine va_get (D := D) (ci := 7) (v := .int (r3.2.1 22)) (C := RX7) (T := TX7) (N := 23) hx hb hT iX7 hown hK hP 0 rfl rfl 22 (by decide) (hT _ fw_X7_251) (fun _ h9 => h9) rfl dX7_readsOffset_24 ?_
    refine lv_istore_n (lv' := [(1, .int (r3.2.1 22)), (0, .ref h_t)]) hx hb dX7_readsOffset_27 rfl hl (by decide) rfl (fun ls hl => ?_)
    refine lv_aload_n hx hb dX7_readsOffset_28 rfl (lv_at hl 1 rfl) ?_
    refine va_get (D := D) (ci := 7) (v := .int (r3.2.1 19)) (C := RX7) (T := TX7) (N := 23) hx hb hT iX7 hown hK hP 0 rfl rfl 19 (by decide) (hT _ fw_X7_236) (fun _ h9 => h9) rfl dX7_readsOffset_29 ?_
    refine lv_iconst (v := 5) hx hb dX7_readsOffset_32 rfl ?_
    have g8 := ite_some hf
    refine lv_icmp_ne (tgt := 40) hx hb dX7_readsOffset_33 (by decide) (fun c7 => ?_) (fun c7 => ?_)
    · replace hf := g8.2 c7
      refine lv_iconst (v := 0) hx hb dX7_readsOffset_40 rfl ?_
      refine lv_istore_n (lv' := [(2, .int 0), (1, .int (r3.2.1 22)), (0, .ref h_t)]) hx hb dX7_readsOffset_41 rfl hl (by decide) rfl (fun ls hl => ?_)
      refine lv_iload_n hx hb dX7_readsOffset_42 rfl (lv_at hl 0 rfl) ?_
      have g10 := ite_some hf
      refine lv_if_eq (tgt := 50) hx hb dX7_readsOffset_43 (by decide) (fun c9 => ?_) (fun c9 => ?_)
      · replace hf := g10.1 c9
        refine lv_aload_n hx hb dX7_readsOffset_50 rfl (lv_at hl 2 rfl) ?_
        refine lv_iconst (v := 0) hx hb dX7_readsOffset_51 rfl ?_
        refine lv_sipush (v := 500) hx hb dX7_readsOffset_52 rfl ?_
        obtain ⟨r11, e12, hf⟩ := bind_some hf
        refine callVi (As := [.int 0, .int 500]) (rest := []) M (mX7_takes l D cs sk h_t q_t k (r3.2.1, d_t.2) 0 500 e12) mw_X7_257 ln_X7_takes ⟨rfl, rfl, Nat.le_of_ble_eq_true rfl, Nat.le_of_ble_eq_true rfl⟩ hP hD hS hA [0, 1] (by decide) rfl rfl (q0 := 0) rfl rfl rfl ⟨Nat.zero_le _, Nat.zero_le _⟩ hl.1 rfl (Nat.le_of_ble_eq_true rfl) dX7_readsOffset_55 (fun H locs hP hD hS => ?_)
        replace hP : va_P D vwCl [oX7 h_t q_t (r11.2.1), ((q_t 15), .inl (cs 0, 250, .inl (d_t.2 15))), ((q_t 21), .inl (cs 0, 58, .inl (d_t.2 21)))] H := hP
        replace hD : va_D A [oX7 h_t q_t (r11.2.1), ((q_t 15), .inl (cs 0, 250, .inl (d_t.2 15))), ((q_t 21), .inl (cs 0, 58, .inl (d_t.2 21)))] := hD
        have g14 := ite_some hf
        refine lv_if_ne (tgt := 63) hx hb dX7_readsOffset_58 (by decide) (fun c13 => ?_) (fun c13 => ?_)
        · replace hf := g14.2 c13
          refine lv_aload_n hx hb dX7_readsOffset_63 rfl (lv_at hl 2 rfl) ?_
          refine va_get (D := D) (ci := 7) (v := .ref (q_t 21)) (C := RX7) (T := TX7) (N := 23) hx hb hT iX7 hown hK hP 0 rfl rfl 21 (by decide) (hT _ fw_X7_53) (fun _ h9 => h9) rfl dX7_readsOffset_64 ?_
          refine lv_bipush (v := 24) hx hb dX7_readsOffset_67 rfl ?_
          refine lv_iconst (v := 5) hx hb dX7_readsOffset_69 rfl ?_
          refine lv_iload_n hx hb dX7_readsOffset_70 rfl (lv_at hl 1 rfl) ?_
          refine lv_imul hx hb dX7_readsOffset_71 ?_
          refine lv_iadd hx hb dX7_readsOffset_72 ?_
          refine lv_iconst (v := 3) hx hb dX7_readsOffset_73 rfl ?_
          refine lv_iadd hx hb dX7_readsOffset_74 ?_
          refine lv_iload_n hx hb dX7_readsOffset_75 rfl (lv_at hl 0 rfl) ?_
          have g16 := ite_some hf
          refine lv_if_eq (tgt := 87) hx hb dX7_readsOffset_76 (by decide) (fun c15 => ?_) (fun c15 => ?_)
          · replace hf := g16.1 c15
            refine lv_aload_n hx hb dX7_readsOffset_87 rfl (lv_at hl 2 rfl) ?_
            refine va_get (D := D) (ci := 7) (v := .int (r11.2.1 22)) (C := RX7) (T := TX7) (N := 23) hx hb hT iX7 hown hK hP 0 rfl rfl 22 (by decide) (hT _ fw_X7_251) (fun _ h9 => h9) rfl dX7_readsOffset_88 ?_
            obtain ⟨hi, hf⟩ := chk_some hf
            refine va_iast (D := D) hx hb hK hP hD hS 2 0 rfl rfl hi dX7_readsOffset_91 (fun H locs hP hD hS => ?_)
            replace hP : va_P D vwCl [oX7 h_t q_t (r11.2.1), ((q_t 15), .inl (cs 0, 250, .inl (d_t.2 15))), ((q_t 21), .inl (cs 0, 58, .inl (upd (d_t.2 21) ((24 + (5 * (r3.2.1 22))) + 3).toNatClampNeg (r11.2.1 22))))] H := hP
            replace hD : va_D A [oX7 h_t q_t (r11.2.1), ((q_t 15), .inl (cs 0, 250, .inl (d_t.2 15))), ((q_t 21), .inl (cs 0, 58, .inl (upd (d_t.2 21) ((24 + (5 * (r3.2.1 22))) + 3).toNatClampNeg (r11.2.1 22))))] := hD
            refine lv_iconst (v := 1) hx hb dX7_readsOffset_92 rfl ?_
            have e9 := Option.some.inj hf
            subst e9
            exact hR _ _ _ _ dX7_readsOffset_93 (Or.inr rfl) hP hS
          · replace hf := g16.2 c15
            refine lv_aload_n hx hb dX7_readsOffset_79 rfl (lv_at hl 2 rfl) ?_
            refine va_get (D := D) (ci := 7) (v := .int (r11.2.1 22)) (C := RX7) (T := TX7) (N := 23) hx hb hT iX7 hown hK hP 0 rfl rfl 22 (by decide) (hT _ fw_X7_251) (fun _ h9 => h9) rfl dX7_readsOffset_80 ?_
            refine lv_ineg hx hb dX7_readsOffset_83 ?_
            refine lv_goto (tgt := 91) hx hb dX7_readsOffset_84 (by decide) ?_
            obtain ⟨hi, hf⟩ := chk_some hf
            refine va_iast (D := D) hx hb hK hP hD hS 2 0 rfl rfl hi dX7_readsOffset_91 (fun H locs hP hD hS => ?_)
            replace hP : va_P D vwCl [oX7 h_t q_t (r11.2.1), ((q_t 15), .inl (cs 0, 250, .inl (d_t.2 15))), ((q_t 21), .inl (cs 0, 58, .inl (upd (d_t.2 21) ((24 + (5 * (r3.2.1 22))) + 3).toNatClampNeg (-(r11.2.1 22)))))] H := hP
            replace hD : va_D A [oX7 h_t q_t (r11.2.1), ((q_t 15), .inl (cs 0, 250, .inl (d_t.2 15))), ((q_t 21), .inl (cs 0, 58, .inl (upd (d_t.2 21) ((24 + (5 * (r3.2.1 22))) + 3).toNatClampNeg (-(r11.2.1 22)))))] := hD
            refine lv_iconst (v := 1) hx hb dX7_readsOffset_92 rfl ?_
            have e9 := Option.some.inj hf
            subst e9
            exact hR _ _ _ _ dX7_readsOffset_93 (Or.inr rfl) hP hS
        · replace hf := g14.1 c13
          refine lv_iconst (v := 0) hx hb dX7_readsOffset_61 rfl ?_
          have e9 := Option.some.inj hf
          subst e9
          exact hR _ _ _ _ dX7_readsOffset_62 (Or.inl rfl) hP hS
      · replace hf := g10.2 c9
        refine lv_aload_n hx hb dX7_readsOffset_46 rfl (lv_at hl 2 rfl) ?_
        obtain ⟨r17, e18, hf⟩ := bind_some hf
        refine callVv (As := []) (rest := []) M (mX7_goOn l D cs sk h_t q_t k (r3.2.1, d_t.2) e18) mw_X7_254 ln_X7_goOn ⟨rfl, rfl, Nat.le_of_ble_eq_true rfl, Nat.le_of_ble_eq_true rfl⟩ hP hD hS hA [0, 1] (by decide) rfl rfl (q0 := 0) rfl rfl rfl ⟨Nat.zero_le _, Nat.zero_le _⟩ hl.1 rfl (Nat.le_of_ble_eq_true rfl) dX7_readsOffset_47 (fun H locs hP hD hS => ?_)
        replace hP : va_P D vwCl [oX7 h_t q_t (r17.1), ((q_t 15), .inl (cs 0, 250, .inl (d_t.2 15))), ((q_t 21), .inl (cs 0, 58, .inl (d_t.2 21)))] H := hP
        replace hD : va_D A [oX7 h_t q_t (r17.1), ((q_t 15), .inl (cs 0, 250, .inl (d_t.2 15))), ((q_t 21), .inl (cs 0, 58, .inl (d_t.2 21)))] := hD
        refine lv_aload_n hx hb dX7_readsOffset_50 rfl (lv_at hl 2 rfl) ?_
        refine lv_iconst (v := 0) hx hb dX7_readsOffset_51 rfl ?_
        refine lv_sipush (v := 500) hx hb dX7_readsOffset_52 rfl ?_
        obtain ⟨r19, e20, hf⟩ := bind_some hf
        refine callVi (As := [.int 0, .int 500]) (rest := []) M (mX7_takes l D cs sk h_t q_t k (r17.1, d_t.2) 0 500 e20) mw_X7_257 ln_X7_takes ⟨rfl, rfl, Nat.le_of_ble_eq_true rfl, Nat.le_of_ble_eq_true rfl⟩ hP hD hS hA [0, 1] (by decide) rfl rfl (q0 := 0) rfl rfl rfl ⟨Nat.zero_le _, Nat.zero_le _⟩ hl.1 rfl (Nat.le_of_ble_eq_true rfl) dX7_readsOffset_55 (fun H locs hP hD hS => ?_)
        replace hP : va_P D vwCl [oX7 h_t q_t (r19.2.1), ((q_t 15), .inl (cs 0, 250, .inl (d_t.2 15))), ((q_t 21), .inl (cs 0, 58, .inl (d_t.2 21)))] H := hP
        replace hD : va_D A [oX7 h_t q_t (r19.2.1), ((q_t 15), .inl (cs 0, 250, .inl (d_t.2 15))), ((q_t 21), .inl (cs 0, 58, .inl (d_t.2 21)))] := hD
        have g22 := ite_some hf
        refine lv_if_ne (tgt := 63) hx hb dX7_readsOffset_58 (by decide) (fun c21 => ?_) (fun c21 => ?_)
        · replace hf := g22.2 c21
          refine lv_aload_n hx hb dX7_readsOffset_63 rfl (lv_at hl 2 rfl) ?_
          refine va_get (D := D) (ci := 7) (v := .ref (q_t 21)) (C := RX7) (T := TX7) (N := 23) hx hb hT iX7 hown hK hP 0 rfl rfl 21 (by decide) (hT _ fw_X7_53) (fun _ h9 => h9) rfl dX7_readsOffset_64 ?_
          refine lv_bipush (v := 24) hx hb dX7_readsOffset_67 rfl ?_
          refine lv_iconst (v := 5) hx hb dX7_readsOffset_69 rfl ?_
          refine lv_iload_n hx hb dX7_readsOffset_70 rfl (lv_at hl 1 rfl) ?_
          refine lv_imul hx hb dX7_readsOffset_71 ?_
          refine lv_iadd hx hb dX7_readsOffset_72 ?_
          refine lv_iconst (v := 3) hx hb dX7_readsOffset_73 rfl ?_
          refine lv_iadd hx hb dX7_readsOffset_74 ?_
          refine lv_iload_n hx hb dX7_readsOffset_75 rfl (lv_at hl 0 rfl) ?_
          have g24 := ite_some hf
          refine lv_if_eq (tgt := 87) hx hb dX7_readsOffset_76 (by decide) (fun c23 => ?_) (fun c23 => ?_)
          · replace hf := g24.1 c23
            refine lv_aload_n hx hb dX7_readsOffset_87 rfl (lv_at hl 2 rfl) ?_
            refine va_get (D := D) (ci := 7) (v := .int (r19.2.1 22)) (C := RX7) (T := TX7) (N := 23) hx hb hT iX7 hown hK hP 0 rfl rfl 22 (by decide) (hT _ fw_X7_251) (fun _ h9 => h9) rfl dX7_readsOffset_88 ?_
            obtain ⟨hi, hf⟩ := chk_some hf
            refine va_iast (D := D) hx hb hK hP hD hS 2 0 rfl rfl hi dX7_readsOffset_91 (fun H locs hP hD hS => ?_)
            replace hP : va_P D vwCl [oX7 h_t q_t (r19.2.1), ((q_t 15), .inl (cs 0, 250, .inl (d_t.2 15))), ((q_t 21), .inl (cs 0, 58, .inl (upd (d_t.2 21) ((24 + (5 * (r3.2.1 22))) + 3).toNatClampNeg (r19.2.1 22))))] H := hP
            replace hD : va_D A [oX7 h_t q_t (r19.2.1), ((q_t 15), .inl (cs 0, 250, .inl (d_t.2 15))), ((q_t 21), .inl (cs 0, 58, .inl (upd (d_t.2 21) ((24 + (5 * (r3.2.1 22))) + 3).toNatClampNeg (r19.2.1 22))))] := hD
            refine lv_iconst (v := 1) hx hb dX7_readsOffset_92 rfl ?_
            have e9 := Option.some.inj hf
            subst e9
            exact hR _ _ _ _ dX7_readsOffset_93 (Or.inr rfl) hP hS
          · replace hf := g24.2 c23
            refine lv_aload_n hx hb dX7_readsOffset_79 rfl (lv_at hl 2 rfl) ?_
            refine va_get (D := D) (ci := 7) (v := .int (r19.2.1 22)) (C := RX7) (T := TX7) (N := 23) hx hb hT iX7 hown hK hP 0 rfl rfl 22 (by decide) (hT _ fw_X7_251) (fun _ h9 => h9) rfl dX7_readsOffset_80 ?_
            refine lv_ineg hx hb dX7_readsOffset_83 ?_
            refine lv_goto (tgt := 91) hx hb dX7_readsOffset_84 (by decide) ?_
            obtain ⟨hi, hf⟩ := chk_some hf
            refine va_iast (D := D) hx hb hK hP hD hS 2 0 rfl rfl hi dX7_readsOffset_91 (fun H locs hP hD hS => ?_)
            replace hP : va_P D vwCl [oX7 h_t q_t (r19.2.1), ((q_t 15), .inl (cs 0, 250, .inl (d_t.2 15))), ((q_t 21), .inl (cs 0, 58, .inl (upd (d_t.2 21) ((24 + (5 * (r3.2.1 22))) + 3).toNatClampNeg (-(r19.2.1 22)))))] H := hP
            replace hD : va_D A [oX7 h_t q_t (r19.2.1), ((q_t 15), .inl (cs 0, 250, .inl (d_t.2 15))), ((q_t 21), .inl (cs 0, 58, .inl (upd (d_t.2 21) ((24 + (5 * (r3.2.1 22))) + 3).toNatClampNeg (-(r19.2.1 22)))))] := hD
            refine lv_iconst (v := 1) hx hb dX7_readsOffset_92 rfl ?_
            have e9 := Option.some.inj hf
            subst e9
            exact hR _ _ _ _ dX7_readsOffset_93 (Or.inr rfl) hP hS
        · replace hf := g22.1 c21
          refine lv_iconst (v := 0) hx hb dX7_readsOffset_61 rfl ?_
          have e9 := Option.some.inj hf
          subst e9
          exact hR _ _ _ _ dX7_readsOffset_62 (Or.inl rfl) hP hS
    · replace hf := g8.1 c7
      refine lv_iconst (v := 1) hx hb dX7_readsOffset_36 rfl ?_
      refine lv_goto (tgt := 41) hx hb dX7_readsOffset_37 (by decide) ?_
      refine lv_istore_n (lv' := [(2, .int 1), (1, .int (r3.2.1 22)), (0, .ref h_t)]) hx hb dX7_readsOffset_41 rfl hl (by decide) rfl (fun ls hl => ?_)
      refine lv_iload_n hx hb dX7_readsOffset_42 rfl (lv_at hl 0 rfl) ?_
      have g26 := ite_some hf
      refine lv_if_eq (tgt := 50) hx hb dX7_readsOffset_43 (by decide) (fun c25 => ?_) (fun c25 => ?_)
      · replace hf := g26.1 c25
        refine lv_aload_n hx hb dX7_readsOffset_50 rfl (lv_at hl 2 rfl) ?_
        refine lv_iconst (v := 0) hx hb dX7_readsOffset_51 rfl ?_
        refine lv_sipush (v := 500) hx hb dX7_readsOffset_52 rfl ?_
        obtain ⟨r27, e28, hf⟩ := bind_some hf
        refine callVi (As := [.int 0, .int 500]) (rest := []) M (mX7_takes l D cs sk h_t q_t k (r3.2.1, d_t.2) 0 500 e28) mw_X7_257 ln_X7_takes ⟨rfl, rfl, Nat.le_of_ble_eq_true rfl, Nat.le_of_ble_eq_true rfl⟩ hP hD hS hA [0, 1] (by decide) rfl rfl (q0 := 0) rfl rfl rfl ⟨Nat.zero_le _, Nat.zero_le _⟩ hl.1 rfl (Nat.le_of_ble_eq_true rfl) dX7_readsOffset_55 (fun H locs hP hD hS => ?_)
        replace hP : va_P D vwCl [oX7 h_t q_t (r27.2.1), ((q_t 15), .inl (cs 0, 250, .inl (d_t.2 15))), ((q_t 21), .inl (cs 0, 58, .inl (d_t.2 21)))] H := hP
        replace hD : va_D A [oX7 h_t q_t (r27.2.1), ((q_t 15), .inl (cs 0, 250, .inl (d_t.2 15))), ((q_t 21), .inl (cs 0, 58, .inl (d_t.2 21)))] := hD
        have g30 := ite_some hf
        refine lv_if_ne (tgt := 63) hx hb dX7_readsOffset_58 (by decide) (fun c29 => ?_) (fun c29 => ?_)
        · replace hf := g30.2 c29
          refine lv_aload_n hx hb dX7_readsOffset_63 rfl (lv_at hl 2 rfl) ?_
          refine va_get (D := D) (ci := 7) (v := .ref (q_t 21)) (C := RX7) (T := TX7) (N := 23) hx hb hT iX7 hown hK hP 0 rfl rfl 21 (by decide) (hT _ fw_X7_53) (fun _ h9 => h9) rfl dX7_readsOffset_64 ?_
          refine lv_bipush (v := 24) hx hb dX7_readsOffset_67 rfl ?_
          refine lv_iconst (v := 5) hx hb dX7_readsOffset_69 rfl ?_
          refine lv_iload_n hx hb dX7_readsOffset_70 rfl (lv_at hl 1 rfl) ?_
          refine lv_imul hx hb dX7_readsOffset_71 ?_
          refine lv_iadd hx hb dX7_readsOffset_72 ?_
          refine lv_iconst (v := 3) hx hb dX7_readsOffset_73 rfl ?_
          refine lv_iadd hx hb dX7_readsOffset_74 ?_
          refine lv_iload_n hx hb dX7_readsOffset_75 rfl (lv_at hl 0 rfl) ?_
          have g32 := ite_some hf
          refine lv_if_eq (tgt := 87) hx hb dX7_readsOffset_76 (by decide) (fun c31 => ?_) (fun c31 => ?_)
          · replace hf := g32.1 c31
            refine lv_aload_n hx hb dX7_readsOffset_87 rfl (lv_at hl 2 rfl) ?_
            refine va_get (D := D) (ci := 7) (v := .int (r27.2.1 22)) (C := RX7) (T := TX7) (N := 23) hx hb hT iX7 hown hK hP 0 rfl rfl 22 (by decide) (hT _ fw_X7_251) (fun _ h9 => h9) rfl dX7_readsOffset_88 ?_
            obtain ⟨hi, hf⟩ := chk_some hf
            refine va_iast (D := D) hx hb hK hP hD hS 2 0 rfl rfl hi dX7_readsOffset_91 (fun H locs hP hD hS => ?_)
            replace hP : va_P D vwCl [oX7 h_t q_t (r27.2.1), ((q_t 15), .inl (cs 0, 250, .inl (d_t.2 15))), ((q_t 21), .inl (cs 0, 58, .inl (upd (d_t.2 21) ((24 + (5 * (r3.2.1 22))) + 3).toNatClampNeg (r27.2.1 22))))] H := hP
            replace hD : va_D A [oX7 h_t q_t (r27.2.1), ((q_t 15), .inl (cs 0, 250, .inl (d_t.2 15))), ((q_t 21), .inl (cs 0, 58, .inl (upd (d_t.2 21) ((24 + (5 * (r3.2.1 22))) + 3).toNatClampNeg (r27.2.1 22))))] := hD
            refine lv_iconst (v := 1) hx hb dX7_readsOffset_92 rfl ?_
            have e9 := Option.some.inj hf
            subst e9
            exact hR _ _ _ _ dX7_readsOffset_93 (Or.inr rfl) hP hS
          · replace hf := g32.2 c31
            refine lv_aload_n hx hb dX7_readsOffset_79 rfl (lv_at hl 2 rfl) ?_
            refine va_get (D := D) (ci := 7) (v := .int (r27.2.1 22)) (C := RX7) (T := TX7) (N := 23) hx hb hT iX7 hown hK hP 0 rfl rfl 22 (by decide) (hT _ fw_X7_251) (fun _ h9 => h9) rfl dX7_readsOffset_80 ?_
            refine lv_ineg hx hb dX7_readsOffset_83 ?_
            refine lv_goto (tgt := 91) hx hb dX7_readsOffset_84 (by decide) ?_
            obtain ⟨hi, hf⟩ := chk_some hf
            refine va_iast (D := D) hx hb hK hP hD hS 2 0 rfl rfl hi dX7_readsOffset_91 (fun H locs hP hD hS => ?_)
            replace hP : va_P D vwCl [oX7 h_t q_t (r27.2.1), ((q_t 15), .inl (cs 0, 250, .inl (d_t.2 15))), ((q_t 21), .inl (cs 0, 58, .inl (upd (d_t.2 21) ((24 + (5 * (r3.2.1 22))) + 3).toNatClampNeg (-(r27.2.1 22)))))] H := hP
            replace hD : va_D A [oX7 h_t q_t (r27.2.1), ((q_t 15), .inl (cs 0, 250, .inl (d_t.2 15))), ((q_t 21), .inl (cs 0, 58, .inl (upd (d_t.2 21) ((24 + (5 * (r3.2.1 22))) + 3).toNatClampNeg (-(r27.2.1 22)))))] := hD
            refine lv_iconst (v := 1) hx hb dX7_readsOffset_92 rfl ?_
            have e9 := Option.some.inj hf
            subst e9
            exact hR _ _ _ _ dX7_readsOffset_93 (Or.inr rfl) hP hS
        · replace hf := g30.1 c29
          refine lv_iconst (v := 0) hx hb dX7_readsOffset_61 rfl ?_
          have e9 := Option.some.inj hf
          subst e9
          exact hR _ _ _ _ dX7_readsOffset_62 (Or.inl rfl) hP hS
      · replace hf := g26.2 c25
        refine lv_aload_n hx hb dX7_readsOffset_46 rfl (lv_at hl 2 rfl) ?_
        obtain ⟨r33, e34, hf⟩ := bind_some hf
        refine callVv (As := []) (rest := []) M (mX7_goOn l D cs sk h_t q_t k (r3.2.1, d_t.2) e34) mw_X7_254 ln_X7_goOn ⟨rfl, rfl, Nat.le_of_ble_eq_true rfl, Nat.le_of_ble_eq_true rfl⟩ hP hD hS hA [0, 1] (by decide) rfl rfl (q0 := 0) rfl rfl rfl ⟨Nat.zero_le _, Nat.zero_le _⟩ hl.1 rfl (Nat.le_of_ble_eq_true rfl) dX7_readsOffset_47 (fun H locs hP hD hS => ?_)
        replace hP : va_P D vwCl [oX7 h_t q_t (r33.1), ((q_t 15), .inl (cs 0, 250, .inl (d_t.2 15))), ((q_t 21), .inl (cs 0, 58, .inl (d_t.2 21)))] H := hP
        replace hD : va_D A [oX7 h_t q_t (r33.1), ((q_t 15), .inl (cs 0, 250, .inl (d_t.2 15))), ((q_t 21), .inl (cs 0, 58, .inl (d_t.2 21)))] := hD
        refine lv_aload_n hx hb dX7_readsOffset_50 rfl (lv_at hl 2 rfl) ?_
        refine lv_iconst (v := 0) hx hb dX7_readsOffset_51 rfl ?_
        refine lv_sipush (v := 500) hx hb dX7_readsOffset_52 rfl ?_
        obtain ⟨r35, e36, hf⟩ := bind_some hf
        refine callVi (As := [.int 0, .int 500]) (rest := []) M (mX7_takes l D cs sk h_t q_t k (r33.1, d_t.2) 0 500 e36) mw_X7_257 ln_X7_takes ⟨rfl, rfl, Nat.le_of_ble_eq_true rfl, Nat.le_of_ble_eq_true rfl⟩ hP hD hS hA [0, 1] (by decide) rfl rfl (q0 := 0) rfl rfl rfl ⟨Nat.zero_le _, Nat.zero_le _⟩ hl.1 rfl (Nat.le_of_ble_eq_true rfl) dX7_readsOffset_55 (fun H locs hP hD hS => ?_)
        replace hP : va_P D vwCl [oX7 h_t q_t (r35.2.1), ((q_t 15), .inl (cs 0, 250, .inl (d_t.2 15))), ((q_t 21), .inl (cs 0, 58, .inl (d_t.2 21)))] H := hP
        replace hD : va_D A [oX7 h_t q_t (r35.2.1), ((q_t 15), .inl (cs 0, 250, .inl (d_t.2 15))), ((q_t 21), .inl (cs 0, 58, .inl (d_t.2 21)))] := hD
        have g38 := ite_some hf
        refine lv_if_ne (tgt := 63) hx hb dX7_readsOffset_58 (by decide) (fun c37 => ?_) (fun c37 => ?_)
        · replace hf := g38.2 c37
          refine lv_aload_n hx hb dX7_readsOffset_63 rfl (lv_at hl 2 rfl) ?_
          refine va_get (D := D) (ci := 7) (v := .ref (q_t 21)) (C := RX7) (T := TX7) (N := 23) hx hb hT iX7 hown hK hP 0 rfl rfl 21 (by decide) (hT _ fw_X7_53) (fun _ h9 => h9) rfl dX7_readsOffset_64 ?_
          refine lv_bipush (v := 24) hx hb dX7_readsOffset_67 rfl ?_
          refine lv_iconst (v := 5) hx hb dX7_readsOffset_69 rfl ?_
          refine lv_iload_n hx hb dX7_readsOffset_70 rfl (lv_at hl 1 rfl) ?_
          refine lv_imul hx hb dX7_readsOffset_71 ?_
          refine lv_iadd hx hb dX7_readsOffset_72 ?_
          refine lv_iconst (v := 3) hx hb dX7_readsOffset_73 rfl ?_
          refine lv_iadd hx hb dX7_readsOffset_74 ?_
          refine lv_iload_n hx hb dX7_readsOffset_75 rfl (lv_at hl 0 rfl) ?_
          have g40 := ite_some hf
          refine lv_if_eq (tgt := 87) hx hb dX7_readsOffset_76 (by decide) (fun c39 => ?_) (fun c39 => ?_)
          · replace hf := g40.1 c39
            refine lv_aload_n hx hb dX7_readsOffset_87 rfl (lv_at hl 2 rfl) ?_
            refine va_get (D := D) (ci := 7) (v := .int (r35.2.1 22)) (C := RX7) (T := TX7) (N := 23) hx hb hT iX7 hown hK hP 0 rfl rfl 22 (by decide) (hT _ fw_X7_251) (fun _ h9 => h9) rfl dX7_readsOffset_88 ?_
            obtain ⟨hi, hf⟩ := chk_some hf
            refine va_iast (D := D) hx hb hK hP hD hS 2 0 rfl rfl hi dX7_readsOffset_91 (fun H locs hP hD hS => ?_)
            replace hP : va_P D vwCl [oX7 h_t q_t (r35.2.1), ((q_t 15), .inl (cs 0, 250, .inl (d_t.2 15))), ((q_t 21), .inl (cs 0, 58, .inl (upd (d_t.2 21) ((24 + (5 * (r3.2.1 22))) + 3).toNatClampNeg (r35.2.1 22))))] H := hP
            replace hD : va_D A [oX7 h_t q_t (r35.2.1), ((q_t 15), .inl (cs 0, 250, .inl (d_t.2 15))), ((q_t 21), .inl (cs 0, 58, .inl (upd (d_t.2 21) ((24 + (5 * (r3.2.1 22))) + 3).toNatClampNeg (r35.2.1 22))))] := hD
            refine lv_iconst (v := 1) hx hb dX7_readsOffset_92 rfl ?_
            have e9 := Option.some.inj hf
            subst e9
            exact hR _ _ _ _ dX7_readsOffset_93 (Or.inr rfl) hP hS
          · replace hf := g40.2 c39
            refine lv_aload_n hx hb dX7_readsOffset_79 rfl (lv_at hl 2 rfl) ?_
            refine va_get (D := D) (ci := 7) (v := .int (r35.2.1 22)) (C := RX7) (T := TX7) (N := 23) hx hb hT iX7 hown hK hP 0 rfl rfl 22 (by decide) (hT _ fw_X7_251) (fun _ h9 => h9) rfl dX7_readsOffset_80 ?_
            refine lv_ineg hx hb dX7_readsOffset_83 ?_
            refine lv_goto (tgt := 91) hx hb dX7_readsOffset_84 (by decide) ?_
            obtain ⟨hi, hf⟩ := chk_some hf
            refine va_iast (D := D) hx hb hK hP hD hS 2 0 rfl rfl hi dX7_readsOffset_91 (fun H locs hP hD hS => ?_)
            replace hP : va_P D vwCl [oX7 h_t q_t (r35.2.1), ((q_t 15), .inl (cs 0, 250, .inl (d_t.2 15))), ((q_t 21), .inl (cs 0, 58, .inl (upd (d_t.2 21) ((24 + (5 * (r3.2.1 22))) + 3).toNatClampNeg (-(r35.2.1 22)))))] H := hP
            replace hD : va_D A [oX7 h_t q_t (r35.2.1), ((q_t 15), .inl (cs 0, 250, .inl (d_t.2 15))), ((q_t 21), .inl (cs 0, 58, .inl (upd (d_t.2 21) ((24 + (5 * (r3.2.1 22))) + 3).toNatClampNeg (-(r35.2.1 22)))))] := hD
            refine lv_iconst (v := 1) hx hb dX7_readsOffset_92 rfl ?_
            have e9 := Option.some.inj hf
            subst e9
            exact hR _ _ _ _ dX7_readsOffset_93 (Or.inr rfl) hP hS
        · replace hf := g38.1 c37
          refine lv_iconst (v := 0) hx hb dX7_readsOffset_61 rfl ?_
          have e9 := Option.some.inj hf
          subst e9
          exact hR _ _ _ _ dX7_readsOffset_62 (Or.inl rfl) hP hS
  · replace hf := g6.1 c5
    refine lv_iconst (v := 0) hx hb dX7_readsOffset_21 rfl ?_
    have e9 := Option.some.inj hf
    subst e9
    exact hR _ _ _ _ dX7_readsOffset_22 (Or.inl rfl) hP hS
abbrev rm_X7_readsItem : Room := { frames := 7, cells := 0, slots := 0, locals := 155 }
def fX7_readsItem (k : Nat) (d_t : Dat) : Option (Int32 × Dat) :=
  (fX7_isWord k d_t 119 105 110 100 111 119).bind (fun (r1 : Int32) => (if r1 = 0 then (fX7_isWord k d_t 101 97 114 0 0 0).bind (fun (r5 : Int32) => (if r5 = 0 then (fX7_isWord k d_t 109 105 108 108 0 0).bind (fun (r9 : Int32) => (if r9 = 0 then (fX7_isWord k d_t 112 108 97 121 101 114).bind (fun (r13 : Int32) => (if r13 = 0 then (fX7_isWord k d_t 111 102 102 115 101 116).bind (fun (r17 : Int32) => (if r17 = 0 then (fX7_isWord k d_t 115 108 111 119 0 0).bind (fun (r21 : Int32) => (if r21 = 0 then some (0, d_t) else (fX7_goOn k d_t).bind (fun (r25 : Dat) => (fX7_takes k (r25.1, d_t.2) 1 9).bind (fun (r27 : Int32 × Dat) => chk 58 20 (chb (r27.1) (some ((r27.1), (r27.2.1, (va_up d_t.2 21 (upd (d_t.2 21) (20 : Int32).toNatClampNeg (r27.2.1 22))))))))))) else (fX7_readsOffset k d_t).bind (fun (r29 : Int32 × Dat) => chb (r29.1) (some ((r29.1), (r29.2.1, (va_up d_t.2 21 (r29.2.2 21)))))))) else (fX7_readsPlayer k d_t).bind (fun (r31 : Int32 × Dat) => chb (r31.1) (some ((r31.1), (r31.2.1, (va_up d_t.2 21 (r31.2.2 21)))))))) else (fX7_readsPlace k d_t 18).bind (fun (r33 : Int32 × Dat) => chb (r33.1) (some ((r33.1), (r33.2.1, (va_up d_t.2 21 (r33.2.2 21)))))))) else (fX7_readsOneOf k d_t 1 12 3).bind (fun (r35 : Int32 × Dat) => chb (r35.1) (some ((r35.1), (r35.2.1, (va_up d_t.2 21 (r35.2.2 21)))))))) else (fX7_readsOneOf k d_t 0 0 6).bind (fun (r37 : Int32 × Dat) => chb (r37.1) (some ((r37.1), (r37.2.1, (va_up d_t.2 21 (r37.2.2 21))))))))
set_option maxHeartbeats 4000000 in
set_option maxRecDepth 100000 in
theorem mX7_readsItem (l : Launch) (D : va_G) (cs : Nat → ClassId) (sk : Nat → Nat) (h_t : Nat) (q_t : Nat → Nat) (k : Nat) (d_t : Dat) {rv : Int32 × Dat} (hf : fX7_readsItem k d_t = some rv) : CTi l yX7_readsItem (Cond.code yX7_readsItem cX7_readsItem 2 (some .boolean) :: gtbl) rm_X7_readsItem D cs sk [.ref h_t] [oX7 h_t q_t (d_t.1), ((q_t 15), .inl (cs 0, 250, .inl (d_t.2 15))), ((q_t 21), .inl (cs 0, 58, .inl (d_t.2 21)))] (rv.1) [oX7 h_t q_t (rv.2.1), ((q_t 15), .inl (cs 0, 250, .inl (d_t.2 15))), ((q_t 21), .inl (cs 0, 58, .inl (rv.2.2 21)))] := by
  refine CTi.ofZ RX7 (by decide +kernel) rfl (Nat.le_of_ble_eq_true rfl) (fun p e s m args below meth c A Q ls M hA hR hl hP hD hS => ?_)
  obtain ⟨hx, hb, hml, hT, hown, hlk, hrt, hK, hN, hSE⟩ := id M
  replace hl : lv_has ls 2 [(0, .ref h_t)] := hl
  unfold fX7_readsItem at hf
  refine lv_aload_n hx hb dX7_readsItem_0 rfl (lv_at hl 0 rfl) ?_
  refine lv_bipush (v := 119) hx hb dX7_readsItem_1 rfl ?_
  refine lv_bipush (v := 105) hx hb dX7_readsItem_3 rfl ?_
  refine lv_bipush (v := 110) hx hb dX7_readsItem_5 rfl ?_
  refine lv_bipush (v := 100) hx hb dX7_readsItem_7 rfl ?_
  refine lv_bipush (v := 111) hx hb dX7_readsItem_9 rfl ?_
  refine lv_bipush (v := 119) hx hb dX7_readsItem_11 rfl ?_
  obtain ⟨r1, e2, hf⟩ := bind_some hf
  refine callVi (As := [.int 119, .int 105, .int 110, .int 100, .int 111, .int 119]) (rest := []) M (mX7_isWord l D cs sk h_t q_t k d_t 119 105 110 100 111 119 e2) mw_X7_266 ln_X7_isWord ⟨rfl, rfl, Nat.le_of_ble_eq_true rfl, Nat.le_of_ble_eq_true rfl⟩ hP hD hS hA [0, 1] (by decide) rfl rfl (q0 := 0) rfl rfl rfl ⟨Nat.zero_le _, Nat.zero_le _⟩ hl.1 rfl (Nat.le_of_ble_eq_true rfl) dX7_readsItem_13 (fun H locs hP hD hS => ?_)
  replace hP : va_P D vwCl [oX7 h_t q_t (d_t.1), ((q_t 15), .inl (cs 0, 250, .inl (d_t.2 15))), ((q_t 21), .inl (cs 0, 58, .inl (d_t.2 21)))] H := hP
  replace hD : va_D A [oX7 h_t q_t (d_t.1), ((q_t 15), .inl (cs 0, 250, .inl (d_t.2 15))), ((q_t 21), .inl (cs 0, 58, .inl (d_t.2 21)))] := hD
  have g4 := ite_some hf
  refine lv_if_eq (tgt := 28) hx hb dX7_readsItem_16 (by decide) (fun c3 => ?_) (fun c3 => ?_)
  · replace hf := g4.1 c3
    refine lv_aload_n hx hb dX7_readsItem_28 rfl (lv_at hl 0 rfl) ?_
    refine lv_bipush (v := 101) hx hb dX7_readsItem_29 rfl ?_
    refine lv_bipush (v := 97) hx hb dX7_readsItem_31 rfl ?_
    refine lv_bipush (v := 114) hx hb dX7_readsItem_33 rfl ?_
    refine lv_iconst (v := 0) hx hb dX7_readsItem_35 rfl ?_
    refine lv_iconst (v := 0) hx hb dX7_readsItem_36 rfl ?_
    refine lv_iconst (v := 0) hx hb dX7_readsItem_37 rfl ?_
    obtain ⟨r5, e6, hf⟩ := bind_some hf
    refine callVi (As := [.int 101, .int 97, .int 114, .int 0, .int 0, .int 0]) (rest := []) M (mX7_isWord l D cs sk h_t q_t k d_t 101 97 114 0 0 0 e6) mw_X7_266 ln_X7_isWord ⟨rfl, rfl, Nat.le_of_ble_eq_true rfl, Nat.le_of_ble_eq_true rfl⟩ hP hD hS hA [0, 1] (by decide) rfl rfl (q0 := 0) rfl rfl rfl ⟨Nat.zero_le _, Nat.zero_le _⟩ hl.1 rfl (Nat.le_of_ble_eq_true rfl) dX7_readsItem_38 (fun H locs hP hD hS => ?_)
    replace hP : va_P D vwCl [oX7 h_t q_t (d_t.1), ((q_t 15), .inl (cs 0, 250, .inl (d_t.2 15))), ((q_t 21), .inl (cs 0, 58, .inl (d_t.2 21)))] H := hP
    replace hD : va_D A [oX7 h_t q_t (d_t.1), ((q_t 15), .inl (cs 0, 250, .inl (d_t.2 15))), ((q_t 21), .inl (cs 0, 58, .inl (d_t.2 21)))] := hD
    have g8 := ite_some hf
    refine lv_if_eq (tgt := 53) hx hb dX7_readsItem_41 (by decide) (fun c7 => ?_) (fun c7 => ?_)
    · replace hf := g8.1 c7
      refine lv_aload_n hx hb dX7_readsItem_53 rfl (lv_at hl 0 rfl) ?_
      refine lv_bipush (v := 109) hx hb dX7_readsItem_54 rfl ?_
      refine lv_bipush (v := 105) hx hb dX7_readsItem_56 rfl ?_
      refine lv_bipush (v := 108) hx hb dX7_readsItem_58 rfl ?_
      refine lv_bipush (v := 108) hx hb dX7_readsItem_60 rfl ?_
      refine lv_iconst (v := 0) hx hb dX7_readsItem_62 rfl ?_
      refine lv_iconst (v := 0) hx hb dX7_readsItem_63 rfl ?_
      obtain ⟨r9, e10, hf⟩ := bind_some hf
      refine callVi (As := [.int 109, .int 105, .int 108, .int 108, .int 0, .int 0]) (rest := []) M (mX7_isWord l D cs sk h_t q_t k d_t 109 105 108 108 0 0 e10) mw_X7_266 ln_X7_isWord ⟨rfl, rfl, Nat.le_of_ble_eq_true rfl, Nat.le_of_ble_eq_true rfl⟩ hP hD hS hA [0, 1] (by decide) rfl rfl (q0 := 0) rfl rfl rfl ⟨Nat.zero_le _, Nat.zero_le _⟩ hl.1 rfl (Nat.le_of_ble_eq_true rfl) dX7_readsItem_64 (fun H locs hP hD hS => ?_)
      replace hP : va_P D vwCl [oX7 h_t q_t (d_t.1), ((q_t 15), .inl (cs 0, 250, .inl (d_t.2 15))), ((q_t 21), .inl (cs 0, 58, .inl (d_t.2 21)))] H := hP
      replace hD : va_D A [oX7 h_t q_t (d_t.1), ((q_t 15), .inl (cs 0, 250, .inl (d_t.2 15))), ((q_t 21), .inl (cs 0, 58, .inl (d_t.2 21)))] := hD
      have g12 := ite_some hf
      refine lv_if_eq (tgt := 77) hx hb dX7_readsItem_67 (by decide) (fun c11 => ?_) (fun c11 => ?_)
      · replace hf := g12.1 c11
        refine lv_aload_n hx hb dX7_readsItem_77 rfl (lv_at hl 0 rfl) ?_
        refine lv_bipush (v := 112) hx hb dX7_readsItem_78 rfl ?_
        refine lv_bipush (v := 108) hx hb dX7_readsItem_80 rfl ?_
        refine lv_bipush (v := 97) hx hb dX7_readsItem_82 rfl ?_
        refine lv_bipush (v := 121) hx hb dX7_readsItem_84 rfl ?_
        refine lv_bipush (v := 101) hx hb dX7_readsItem_86 rfl ?_
        refine lv_bipush (v := 114) hx hb dX7_readsItem_88 rfl ?_
        obtain ⟨r13, e14, hf⟩ := bind_some hf
        refine callVi (As := [.int 112, .int 108, .int 97, .int 121, .int 101, .int 114]) (rest := []) M (mX7_isWord l D cs sk h_t q_t k d_t 112 108 97 121 101 114 e14) mw_X7_266 ln_X7_isWord ⟨rfl, rfl, Nat.le_of_ble_eq_true rfl, Nat.le_of_ble_eq_true rfl⟩ hP hD hS hA [0, 1] (by decide) rfl rfl (q0 := 0) rfl rfl rfl ⟨Nat.zero_le _, Nat.zero_le _⟩ hl.1 rfl (Nat.le_of_ble_eq_true rfl) dX7_readsItem_90 (fun H locs hP hD hS => ?_)
        replace hP : va_P D vwCl [oX7 h_t q_t (d_t.1), ((q_t 15), .inl (cs 0, 250, .inl (d_t.2 15))), ((q_t 21), .inl (cs 0, 58, .inl (d_t.2 21)))] H := hP
        replace hD : va_D A [oX7 h_t q_t (d_t.1), ((q_t 15), .inl (cs 0, 250, .inl (d_t.2 15))), ((q_t 21), .inl (cs 0, 58, .inl (d_t.2 21)))] := hD
        have g16 := ite_some hf
        refine lv_if_eq (tgt := 101) hx hb dX7_readsItem_93 (by decide) (fun c15 => ?_) (fun c15 => ?_)
        · replace hf := g16.1 c15
          refine lv_aload_n hx hb dX7_readsItem_101 rfl (lv_at hl 0 rfl) ?_
          refine lv_bipush (v := 111) hx hb dX7_readsItem_102 rfl ?_
          refine lv_bipush (v := 102) hx hb dX7_readsItem_104 rfl ?_
          refine lv_bipush (v := 102) hx hb dX7_readsItem_106 rfl ?_
          refine lv_bipush (v := 115) hx hb dX7_readsItem_108 rfl ?_
          refine lv_bipush (v := 101) hx hb dX7_readsItem_110 rfl ?_
          refine lv_bipush (v := 116) hx hb dX7_readsItem_112 rfl ?_
          obtain ⟨r17, e18, hf⟩ := bind_some hf
          refine callVi (As := [.int 111, .int 102, .int 102, .int 115, .int 101, .int 116]) (rest := []) M (mX7_isWord l D cs sk h_t q_t k d_t 111 102 102 115 101 116 e18) mw_X7_266 ln_X7_isWord ⟨rfl, rfl, Nat.le_of_ble_eq_true rfl, Nat.le_of_ble_eq_true rfl⟩ hP hD hS hA [0, 1] (by decide) rfl rfl (q0 := 0) rfl rfl rfl ⟨Nat.zero_le _, Nat.zero_le _⟩ hl.1 rfl (Nat.le_of_ble_eq_true rfl) dX7_readsItem_114 (fun H locs hP hD hS => ?_)
          replace hP : va_P D vwCl [oX7 h_t q_t (d_t.1), ((q_t 15), .inl (cs 0, 250, .inl (d_t.2 15))), ((q_t 21), .inl (cs 0, 58, .inl (d_t.2 21)))] H := hP
          replace hD : va_D A [oX7 h_t q_t (d_t.1), ((q_t 15), .inl (cs 0, 250, .inl (d_t.2 15))), ((q_t 21), .inl (cs 0, 58, .inl (d_t.2 21)))] := hD
          have g20 := ite_some hf
          refine lv_if_eq (tgt := 125) hx hb dX7_readsItem_117 (by decide) (fun c19 => ?_) (fun c19 => ?_)
          · replace hf := g20.1 c19
            refine lv_aload_n hx hb dX7_readsItem_125 rfl (lv_at hl 0 rfl) ?_
            refine lv_bipush (v := 115) hx hb dX7_readsItem_126 rfl ?_
            refine lv_bipush (v := 108) hx hb dX7_readsItem_128 rfl ?_
            refine lv_bipush (v := 111) hx hb dX7_readsItem_130 rfl ?_
            refine lv_bipush (v := 119) hx hb dX7_readsItem_132 rfl ?_
            refine lv_iconst (v := 0) hx hb dX7_readsItem_134 rfl ?_
            refine lv_iconst (v := 0) hx hb dX7_readsItem_135 rfl ?_
            obtain ⟨r21, e22, hf⟩ := bind_some hf
            refine callVi (As := [.int 115, .int 108, .int 111, .int 119, .int 0, .int 0]) (rest := []) M (mX7_isWord l D cs sk h_t q_t k d_t 115 108 111 119 0 0 e22) mw_X7_266 ln_X7_isWord ⟨rfl, rfl, Nat.le_of_ble_eq_true rfl, Nat.le_of_ble_eq_true rfl⟩ hP hD hS hA [0, 1] (by decide) rfl rfl (q0 := 0) rfl rfl rfl ⟨Nat.zero_le _, Nat.zero_le _⟩ hl.1 rfl (Nat.le_of_ble_eq_true rfl) dX7_readsItem_136 (fun H locs hP hD hS => ?_)
            replace hP : va_P D vwCl [oX7 h_t q_t (d_t.1), ((q_t 15), .inl (cs 0, 250, .inl (d_t.2 15))), ((q_t 21), .inl (cs 0, 58, .inl (d_t.2 21)))] H := hP
            replace hD : va_D A [oX7 h_t q_t (d_t.1), ((q_t 15), .inl (cs 0, 250, .inl (d_t.2 15))), ((q_t 21), .inl (cs 0, 58, .inl (d_t.2 21)))] := hD
            have g24 := ite_some hf
            refine lv_if_ne (tgt := 144) hx hb dX7_readsItem_139 (by decide) (fun c23 => ?_) (fun c23 => ?_)
            · replace hf := g24.2 c23
              refine lv_aload_n hx hb dX7_readsItem_144 rfl (lv_at hl 0 rfl) ?_
              obtain ⟨r25, e26, hf⟩ := bind_some hf
              refine callVv (As := []) (rest := []) M (mX7_goOn l D cs sk h_t q_t k d_t e26) mw_X7_254 ln_X7_goOn ⟨rfl, rfl, Nat.le_of_ble_eq_true rfl, Nat.le_of_ble_eq_true rfl⟩ hP hD hS hA [0, 1] (by decide) rfl rfl (q0 := 0) rfl rfl rfl ⟨Nat.zero_le _, Nat.zero_le _⟩ hl.1 rfl (Nat.le_of_ble_eq_true rfl) dX7_readsItem_145 (fun H locs hP hD hS => ?_)
              replace hP : va_P D vwCl [oX7 h_t q_t (r25.1), ((q_t 15), .inl (cs 0, 250, .inl (d_t.2 15))), ((q_t 21), .inl (cs 0, 58, .inl (d_t.2 21)))] H := hP
              replace hD : va_D A [oX7 h_t q_t (r25.1), ((q_t 15), .inl (cs 0, 250, .inl (d_t.2 15))), ((q_t 21), .inl (cs 0, 58, .inl (d_t.2 21)))] := hD
              refine lv_aload_n hx hb dX7_readsItem_148 rfl (lv_at hl 0 rfl) ?_
              refine lv_iconst (v := 1) hx hb dX7_readsItem_149 rfl ?_
              refine lv_bipush (v := 9) hx hb dX7_readsItem_150 rfl ?_
              obtain ⟨r27, e28, hf⟩ := bind_some hf
              refine callVi (As := [.int 1, .int 9]) (rest := []) M (mX7_takes l D cs sk h_t q_t k (r25.1, d_t.2) 1 9 e28) mw_X7_257 ln_X7_takes ⟨rfl, rfl, Nat.le_of_ble_eq_true rfl, Nat.le_of_ble_eq_true rfl⟩ hP hD hS hA [0, 1] (by decide) rfl rfl (q0 := 0) rfl rfl rfl ⟨Nat.zero_le _, Nat.zero_le _⟩ hl.1 rfl (Nat.le_of_ble_eq_true rfl) dX7_readsItem_152 (fun H locs hP hD hS => ?_)
              replace hP : va_P D vwCl [oX7 h_t q_t (r27.2.1), ((q_t 15), .inl (cs 0, 250, .inl (d_t.2 15))), ((q_t 21), .inl (cs 0, 58, .inl (d_t.2 21)))] H := hP
              replace hD : va_D A [oX7 h_t q_t (r27.2.1), ((q_t 15), .inl (cs 0, 250, .inl (d_t.2 15))), ((q_t 21), .inl (cs 0, 58, .inl (d_t.2 21)))] := hD
              refine lv_istore_n (lv' := [(1, .int (r27.1)), (0, .ref h_t)]) hx hb dX7_readsItem_155 rfl hl (by decide) rfl (fun ls hl => ?_)
              refine lv_aload_n hx hb dX7_readsItem_156 rfl (lv_at hl 1 rfl) ?_
              refine va_get (D := D) (ci := 7) (v := .ref (q_t 21)) (C := RX7) (T := TX7) (N := 23) hx hb hT iX7 hown hK hP 0 rfl rfl 21 (by decide) (hT _ fw_X7_53) (fun _ h9 => h9) rfl dX7_readsItem_157 ?_
              refine lv_bipush (v := 20) hx hb dX7_readsItem_160 rfl ?_
              refine lv_aload_n hx hb dX7_readsItem_162 rfl (lv_at hl 1 rfl) ?_
              refine va_get (D := D) (ci := 7) (v := .int (r27.2.1 22)) (C := RX7) (T := TX7) (N := 23) hx hb hT iX7 hown hK hP 0 rfl rfl 22 (by decide) (hT _ fw_X7_251) (fun _ h9 => h9) rfl dX7_readsItem_163 ?_
              obtain ⟨hi, hf⟩ := chk_some hf
              refine va_iast (D := D) hx hb hK hP hD hS 2 0 rfl rfl hi dX7_readsItem_166 (fun H locs hP hD hS => ?_)
              replace hP : va_P D vwCl [oX7 h_t q_t (r27.2.1), ((q_t 15), .inl (cs 0, 250, .inl (d_t.2 15))), ((q_t 21), .inl (cs 0, 58, .inl (upd (d_t.2 21) (20 : Int32).toNatClampNeg (r27.2.1 22))))] H := hP
              replace hD : va_D A [oX7 h_t q_t (r27.2.1), ((q_t 15), .inl (cs 0, 250, .inl (d_t.2 15))), ((q_t 21), .inl (cs 0, 58, .inl (upd (d_t.2 21) (20 : Int32).toNatClampNeg (r27.2.1 22))))] := hD
              refine lv_iload_n hx hb dX7_readsItem_167 rfl (lv_at hl 0 rfl) ?_
              obtain ⟨h01, hf⟩ := chb_some hf
              have e9 := Option.some.inj hf
              subst e9
              exact hR _ _ _ _ dX7_readsItem_168 h01 hP hS
            · replace hf := g24.1 c23
              refine lv_iconst (v := 0) hx hb dX7_readsItem_142 rfl ?_
              have e9 := Option.some.inj hf
              subst e9
              exact hR _ _ _ _ dX7_readsItem_143 (Or.inl rfl) hP hS
          · replace hf := g20.2 c19
            refine lv_aload_n hx hb dX7_readsItem_120 rfl (lv_at hl 0 rfl) ?_
            obtain ⟨r29, e30, hf⟩ := bind_some hf
            refine callVi (As := []) (rest := []) M (mX7_readsOffset l D cs sk h_t q_t k d_t e30) mw_X7_278 ln_X7_readsOffset ⟨rfl, rfl, Nat.le_of_ble_eq_true rfl, Nat.le_of_ble_eq_true rfl⟩ hP hD hS hA [0, 1, 2] (by decide) rfl rfl (q0 := 0) rfl rfl rfl ⟨Nat.zero_le _, Nat.zero_le _⟩ hl.1 rfl (Nat.le_of_ble_eq_true rfl) dX7_readsItem_121 (fun H locs hP hD hS => ?_)
            replace hP : va_P D vwCl [oX7 h_t q_t (r29.2.1), ((q_t 15), .inl (cs 0, 250, .inl (d_t.2 15))), ((q_t 21), .inl (cs 0, 58, .inl (r29.2.2 21)))] H := hP
            replace hD : va_D A [oX7 h_t q_t (r29.2.1), ((q_t 15), .inl (cs 0, 250, .inl (d_t.2 15))), ((q_t 21), .inl (cs 0, 58, .inl (r29.2.2 21)))] := hD
            obtain ⟨h01, hf⟩ := chb_some hf
            have e9 := Option.some.inj hf
            subst e9
            exact hR _ _ _ _ dX7_readsItem_124 h01 hP hS
        · replace hf := g16.2 c15
          refine lv_aload_n hx hb dX7_readsItem_96 rfl (lv_at hl 0 rfl) ?_
          obtain ⟨r31, e32, hf⟩ := bind_some hf
          refine callVi (As := []) (rest := []) M (mX7_readsPlayer l D cs sk h_t q_t k d_t e32) mw_X7_274 ln_X7_readsPlayer ⟨rfl, rfl, Nat.le_of_ble_eq_true rfl, Nat.le_of_ble_eq_true rfl⟩ hP hD hS hA [0, 1, 2] (by decide) rfl rfl (q0 := 0) rfl rfl rfl ⟨Nat.zero_le _, Nat.zero_le _⟩ hl.1 rfl (Nat.le_of_ble_eq_true rfl) dX7_readsItem_97 (fun H locs hP hD hS => ?_)
          replace hP : va_P D vwCl [oX7 h_t q_t (r31.2.1), ((q_t 15), .inl (cs 0, 250, .inl (d_t.2 15))), ((q_t 21), .inl (cs 0, 58, .inl (r31.2.2 21)))] H := hP
          replace hD : va_D A [oX7 h_t q_t (r31.2.1), ((q_t 15), .inl (cs 0, 250, .inl (d_t.2 15))), ((q_t 21), .inl (cs 0, 58, .inl (r31.2.2 21)))] := hD
          obtain ⟨h01, hf⟩ := chb_some hf
          have e9 := Option.some.inj hf
          subst e9
          exact hR _ _ _ _ dX7_readsItem_100 h01 hP hS
      · replace hf := g12.2 c11
        refine lv_aload_n hx hb dX7_readsItem_70 rfl (lv_at hl 0 rfl) ?_
        refine lv_bipush (v := 18) hx hb dX7_readsItem_71 rfl ?_
        obtain ⟨r33, e34, hf⟩ := bind_some hf
        refine callVi (As := [.int 18]) (rest := []) M (mX7_readsPlace l D cs sk h_t q_t k d_t 18 e34) mw_X7_260 ln_X7_readsPlace ⟨rfl, rfl, Nat.le_of_ble_eq_true rfl, Nat.le_of_ble_eq_true rfl⟩ hP hD hS hA [0, 1, 2] (by decide) rfl rfl (q0 := 0) rfl rfl rfl ⟨Nat.zero_le _, Nat.zero_le _⟩ hl.1 rfl (Nat.le_of_ble_eq_true rfl) dX7_readsItem_73 (fun H locs hP hD hS => ?_)
        replace hP : va_P D vwCl [oX7 h_t q_t (r33.2.1), ((q_t 15), .inl (cs 0, 250, .inl (d_t.2 15))), ((q_t 21), .inl (cs 0, 58, .inl (r33.2.2 21)))] H := hP
        replace hD : va_D A [oX7 h_t q_t (r33.2.1), ((q_t 15), .inl (cs 0, 250, .inl (d_t.2 15))), ((q_t 21), .inl (cs 0, 58, .inl (r33.2.2 21)))] := hD
        obtain ⟨h01, hf⟩ := chb_some hf
        have e9 := Option.some.inj hf
        subst e9
        exact hR _ _ _ _ dX7_readsItem_76 h01 hP hS
    · replace hf := g8.2 c7
      refine lv_aload_n hx hb dX7_readsItem_44 rfl (lv_at hl 0 rfl) ?_
      refine lv_iconst (v := 1) hx hb dX7_readsItem_45 rfl ?_
      refine lv_bipush (v := 12) hx hb dX7_readsItem_46 rfl ?_
      refine lv_iconst (v := 3) hx hb dX7_readsItem_48 rfl ?_
      obtain ⟨r35, e36, hf⟩ := bind_some hf
      refine callVi (As := [.int 1, .int 12, .int 3]) (rest := []) M (mX7_readsOneOf l D cs sk h_t q_t k d_t 1 12 3 e36) mw_X7_270 ln_X7_readsOneOf ⟨rfl, rfl, Nat.le_of_ble_eq_true rfl, Nat.le_of_ble_eq_true rfl⟩ hP hD hS hA [0, 1, 2] (by decide) rfl rfl (q0 := 0) rfl rfl rfl ⟨Nat.zero_le _, Nat.zero_le _⟩ hl.1 rfl (Nat.le_of_ble_eq_true rfl) dX7_readsItem_49 (fun H locs hP hD hS => ?_)
      replace hP : va_P D vwCl [oX7 h_t q_t (r35.2.1), ((q_t 15), .inl (cs 0, 250, .inl (d_t.2 15))), ((q_t 21), .inl (cs 0, 58, .inl (r35.2.2 21)))] H := hP
      replace hD : va_D A [oX7 h_t q_t (r35.2.1), ((q_t 15), .inl (cs 0, 250, .inl (d_t.2 15))), ((q_t 21), .inl (cs 0, 58, .inl (r35.2.2 21)))] := hD
      obtain ⟨h01, hf⟩ := chb_some hf
      have e9 := Option.some.inj hf
      subst e9
      exact hR _ _ _ _ dX7_readsItem_52 h01 hP hS
  · replace hf := g4.2 c3
    refine lv_aload_n hx hb dX7_readsItem_19 rfl (lv_at hl 0 rfl) ?_
    refine lv_iconst (v := 0) hx hb dX7_readsItem_20 rfl ?_
    refine lv_iconst (v := 0) hx hb dX7_readsItem_21 rfl ?_
    refine lv_bipush (v := 6) hx hb dX7_readsItem_22 rfl ?_
    obtain ⟨r37, e38, hf⟩ := bind_some hf
    refine callVi (As := [.int 0, .int 0, .int 6]) (rest := []) M (mX7_readsOneOf l D cs sk h_t q_t k d_t 0 0 6 e38) mw_X7_270 ln_X7_readsOneOf ⟨rfl, rfl, Nat.le_of_ble_eq_true rfl, Nat.le_of_ble_eq_true rfl⟩ hP hD hS hA [0, 1, 2] (by decide) rfl rfl (q0 := 0) rfl rfl rfl ⟨Nat.zero_le _, Nat.zero_le _⟩ hl.1 rfl (Nat.le_of_ble_eq_true rfl) dX7_readsItem_24 (fun H locs hP hD hS => ?_)
    replace hP : va_P D vwCl [oX7 h_t q_t (r37.2.1), ((q_t 15), .inl (cs 0, 250, .inl (d_t.2 15))), ((q_t 21), .inl (cs 0, 58, .inl (r37.2.2 21)))] H := hP
    replace hD : va_D A [oX7 h_t q_t (r37.2.1), ((q_t 15), .inl (cs 0, 250, .inl (d_t.2 15))), ((q_t 21), .inl (cs 0, 58, .inl (r37.2.2 21)))] := hD
    obtain ⟨h01, hf⟩ := chb_some hf
    have e9 := Option.some.inj hf
    subst e9
    exact hR _ _ _ _ dX7_readsItem_27 h01 hP hS
abbrev rm_X7_read : Room := { frames := 8, cells := 0, slots := 0, locals := 176 }
def fX7_read_B2 (k : Nat) (d_t : Dat) (K21 : Dat → Option (Int32 × Dat)) (rec : Int32 × Dat → Option (Int32 × Dat)) (v : Int32 × Dat) : Option (Int32 × Dat) :=
  (if 58 ≤ (v.1) then K21 (d_t.1, (va_up d_t.2 21 (v.2.2 21))) else chk 58 (v.1) (rec (((v.1) + 1), (d_t.1, (va_up d_t.2 21 (upd (v.2.2 21) (v.1).toNatClampNeg 0))))))
def fX7_read_B52 (k : Nat) (d_t : Dat) (K74 : Dat → Option (Int32 × Dat)) (K92 : Int32 × Dat → Option (Int32 × Dat)) (rec : Int32 × Dat → Option (Int32 × Dat)) (v : Int32 × Dat) : Option (Int32 × Dat) :=
  (if (v.2.1 19) = 0 then K92 ((v.1), (v.2.1, (va_up d_t.2 21 (v.2.2 21)))) else (fX7_readsItem k (v.2.1, (va_up d_t.2 21 (v.2.2 21)))).bind (fun (r3 : Int32 × Dat) => (if (r3.1) = 0 then K74 (r3.2.1, (va_up d_t.2 21 (r3.2.2 21))) else (if (r3.2.1 19) = 3 then (fX7_goOn k (r3.2.1, (va_up d_t.2 21 (r3.2.2 21)))).bind (fun (r9 : Dat) => rec (((v.1) + 1), (r9.1, (va_up d_t.2 21 (r3.2.2 21))))) else K74 (r3.2.1, (va_up d_t.2 21 (r3.2.2 21)))))))
def fX7_read_B122 (k : Nat) (d_t : Dat) (K146 : Dat → Option (Int32 × Dat)) (rec : Int32 × Dat → Option (Int32 × Dat)) (v : Int32 × Dat) : Option (Int32 × Dat) :=
  (if 58 ≤ (v.1) then K146 (d_t.1, (va_up d_t.2 0 (v.2.2 0))) else chk 58 (v.1) (chk 106 (v.1) (rec (((v.1) + 1), (d_t.1, (va_up d_t.2 0 (upd (v.2.2 0) (v.1).toNatClampNeg ((d_t.2 21) (v.1).toNatClampNeg))))))))
def fX7_read (k : Nat) (d_t : Dat) : Option (Int32 × Dat) :=
  lp (fX7_read_B2 k d_t (fun (w1 : Dat) => chk 58 18 (chk 58 19 (chk 58 20 ((fX7_look k (d_t.1, (va_up d_t.2 21 (upd (upd (upd (w1.2 21) (18 : Int32).toNatClampNeg (-1)) (19 : Int32).toNatClampNeg (-1)) (20 : Int32).toNatClampNeg 3))) 0).bind (fun (r2 : Dat) => lp (fX7_read_B52 k (r2.1, (va_up d_t.2 21 (upd (upd (upd (w1.2 21) (18 : Int32).toNatClampNeg (-1)) (19 : Int32).toNatClampNeg (-1)) (20 : Int32).toNatClampNeg 3))) (fun (w4 : Dat) => some (((-10) - (w4.1 17)), (w4.1, (va_up d_t.2 21 (w4.2 21))))) (fun (w5 : Int32 × Dat) => chk 106 21 (chk 58 21 (chk 106 22 (chk 58 22 (lp (fX7_read_B122 k (w5.2.1, (va_up d_t.2 21 (upd (upd (w5.2.2 21) (21 : Int32).toNatClampNeg ((d_t.2 0) (21 : Int32).toNatClampNeg)) (22 : Int32).toNatClampNeg ((d_t.2 0) (22 : Int32).toNatClampNeg)))) (fun (w6 : Dat) => some ((w5.1), (w5.2.1, (va_up (va_up d_t.2 0 (w6.2 0)) 21 (upd (upd (w5.2.2 21) (21 : Int32).toNatClampNeg ((d_t.2 0) (21 : Int32).toNatClampNeg)) (22 : Int32).toNatClampNeg ((d_t.2 0) (22 : Int32).toNatClampNeg))))))) k (0, (w5.2.1, (va_up d_t.2 21 (upd (upd (w5.2.2 21) (21 : Int32).toNatClampNeg ((d_t.2 0) (21 : Int32).toNatClampNeg)) (22 : Int32).toNatClampNeg ((d_t.2 0) (22 : Int32).toNatClampNeg))))))))))) k (0, (r2.1, (va_up d_t.2 21 (upd (upd (upd (w1.2 21) (18 : Int32).toNatClampNeg (-1)) (19 : Int32).toNatClampNeg (-1)) (20 : Int32).toNatClampNeg 3)))))))))) k (0, d_t)
set_option maxHeartbeats 4000000 in
set_option maxRecDepth 100000 in
theorem mX7_read_B2 {l : Launch} {p : Program} {e : Env} {s : State} {m : MethodId} {args : Array Value} {below : List Frame} {meth : Method} {c : Code} {D : va_G} {cs : Nat → ClassId} {sk : Nat → Nat} {A : Nat → Prop} {Q : State → Prop} (h_t : Nat) (q_t : Nat → Nat) (k : Nat) (d_t : Dat) {rv : Int32 × Dat}  (K21 : Dat → Option (Int32 × Dat))
    (M : MC p s m args meth c D cs sk A RX7 cX7_read 3 (some .int)) (hA : ∀ q, s.heap.size ≤ q → A q) (hR : RetI p l e rm_X7_read s m args below meth c D cX7_read A Q (rv.1) [oX7 h_t q_t (rv.2.1), ((q_t 0), .inl (cs 0, 106, .inl (rv.2.2 0))), ((q_t 15), .inl (cs 0, 250, .inl (d_t.2 15))), ((q_t 21), .inl (cs 0, 58, .inl (rv.2.2 21)))])
    (hK21 : ∀ (w : Dat), K21 w = some rv → ∀ (H : Heap) (locs : List Loc) (ls : Array Slot), va_P D vwCl [oX7 h_t q_t (d_t.1), ((q_t 0), .inl (cs 0, 106, .inl (d_t.2 0))), ((q_t 15), .inl (cs 0, 250, .inl (d_t.2 15))), ((q_t 21), .inl (cs 0, 58, .inl (w.2 21)))] H → va_D A [oX7 h_t q_t (d_t.1), ((q_t 0), .inl (cs 0, 106, .inl (d_t.2 0))), ((q_t 15), .inl (cs 0, 250, .inl (d_t.2 15))), ((q_t 21), .inl (cs 0, 58, .inl (w.2 21)))] → va_S A s.heap H locs → lv_has ls 3 [(0, .ref h_t)] → W p l e rm_X7_read s m args below meth c H locs 0 0 Q (F0 m 21 ls []))
    : ∀ (n : Nat) (v : Int32 × Dat), lp (fX7_read_B2 k d_t K21) n v = some rv → ∀ (H : Heap) (locs : List Loc) (ls : Array Slot), va_P D vwCl [oX7 h_t q_t (d_t.1), ((q_t 0), .inl (cs 0, 106, .inl (d_t.2 0))), ((q_t 15), .inl (cs 0, 250, .inl (d_t.2 15))), ((q_t 21), .inl (cs 0, 58, .inl (v.2.2 21)))] H → va_D A [oX7 h_t q_t (d_t.1), ((q_t 0), .inl (cs 0, 106, .inl (d_t.2 0))), ((q_t 15), .inl (cs 0, 250, .inl (d_t.2 15))), ((q_t 21), .inl (cs 0, 58, .inl (v.2.2 21)))] → va_S A s.heap H locs → lv_has ls 3 [(0, .ref h_t), (1, .int (v.1))] → W p l e rm_X7_read s m args below meth c H locs 0 0 Q (F0 m 2 ls []) := by
  obtain ⟨hx, hb, hml, hT, hown, hlk, hrt, hK, hN, hSE⟩ := id M
  refine lp_ind (fun rec ih v hf H locs ls hP hD hS hl => ?_)
  unfold fX7_read_B2 at hf
  refine lv_iload_n hx hb dX7_read_2 rfl (lv_at hl 1 rfl) ?_
  refine lv_bipush (v := 58) hx hb dX7_read_3 rfl ?_
  have g2 := ite_some hf
  refine lv_icmp_ge (tgt := 21) hx hb dX7_read_5 (by decide) (fun c1 => ?_) (fun c1 => ?_)
  · replace hf := g2.1 c1
    exact hK21 _ hf _ _ _ hP hD hS (lv_sub hl [0] rfl)
  · replace hf := g2.2 c1
    refine lv_aload_n hx hb dX7_read_8 rfl (lv_at hl 0 rfl) ?_
    refine va_get (D := D) (ci := 7) (v := .ref (q_t 21)) (C := RX7) (T := TX7) (N := 23) hx hb hT iX7 hown hK hP 0 rfl rfl 21 (by decide) (hT _ fw_X7_53) (fun _ h9 => h9) rfl dX7_read_9 ?_
    refine lv_iload_n hx hb dX7_read_12 rfl (lv_at hl 1 rfl) ?_
    refine lv_iconst (v := 0) hx hb dX7_read_13 rfl ?_
    obtain ⟨hi, hf⟩ := chk_some hf
    refine va_iast (D := D) hx hb hK hP hD hS 3 0 rfl rfl hi dX7_read_14 (fun H locs hP hD hS => ?_)
    replace hP : va_P D vwCl [oX7 h_t q_t (d_t.1), ((q_t 0), .inl (cs 0, 106, .inl (d_t.2 0))), ((q_t 15), .inl (cs 0, 250, .inl (d_t.2 15))), ((q_t 21), .inl (cs 0, 58, .inl (upd (v.2.2 21) (v.1).toNatClampNeg 0)))] H := hP
    replace hD : va_D A [oX7 h_t q_t (d_t.1), ((q_t 0), .inl (cs 0, 106, .inl (d_t.2 0))), ((q_t 15), .inl (cs 0, 250, .inl (d_t.2 15))), ((q_t 21), .inl (cs 0, 58, .inl (upd (v.2.2 21) (v.1).toNatClampNeg 0)))] := hD
    refine lv_iinc (v := ((v.1) + 1)) (lv' := [(1, .int ((v.1) + 1)), (0, .ref h_t)]) hx hb dX7_read_15 hl (k := 1) rfl rfl (by decide) rfl (fun ls hl => ?_)
    refine lv_goto (tgt := 2) hx hb dX7_read_18 (by decide) ?_
    exact ih _ hf _ _ _ hP hD hS (lv_sub hl [1, 0] rfl)
set_option maxHeartbeats 4000000 in
set_option maxRecDepth 100000 in
theorem mX7_read_B52 {l : Launch} {p : Program} {e : Env} {s : State} {m : MethodId} {args : Array Value} {below : List Frame} {meth : Method} {c : Code} {D : va_G} {cs : Nat → ClassId} {sk : Nat → Nat} {A : Nat → Prop} {Q : State → Prop} (h_t : Nat) (q_t : Nat → Nat) (k : Nat) (d_t : Dat) {rv : Int32 × Dat}  (K74 : Dat → Option (Int32 × Dat)) (K92 : Int32 × Dat → Option (Int32 × Dat))
    (M : MC p s m args meth c D cs sk A RX7 cX7_read 3 (some .int)) (hA : ∀ q, s.heap.size ≤ q → A q) (hR : RetI p l e rm_X7_read s m args below meth c D cX7_read A Q (rv.1) [oX7 h_t q_t (rv.2.1), ((q_t 0), .inl (cs 0, 106, .inl (rv.2.2 0))), ((q_t 15), .inl (cs 0, 250, .inl (d_t.2 15))), ((q_t 21), .inl (cs 0, 58, .inl (rv.2.2 21)))])
    (hK74 : ∀ (w : Dat), K74 w = some rv → ∀ (H : Heap) (locs : List Loc) (ls : Array Slot), va_P D vwCl [oX7 h_t q_t (w.1), ((q_t 0), .inl (cs 0, 106, .inl (d_t.2 0))), ((q_t 15), .inl (cs 0, 250, .inl (d_t.2 15))), ((q_t 21), .inl (cs 0, 58, .inl (w.2 21)))] H → va_D A [oX7 h_t q_t (w.1), ((q_t 0), .inl (cs 0, 106, .inl (d_t.2 0))), ((q_t 15), .inl (cs 0, 250, .inl (d_t.2 15))), ((q_t 21), .inl (cs 0, 58, .inl (w.2 21)))] → va_S A s.heap H locs → lv_has ls 3 [(0, .ref h_t)] → W p l e rm_X7_read s m args below meth c H locs 0 0 Q (F0 m 74 ls []))
    (hK92 : ∀ (w : Int32 × Dat), K92 w = some rv → ∀ (H : Heap) (locs : List Loc) (ls : Array Slot), va_P D vwCl [oX7 h_t q_t (w.2.1), ((q_t 0), .inl (cs 0, 106, .inl (d_t.2 0))), ((q_t 15), .inl (cs 0, 250, .inl (d_t.2 15))), ((q_t 21), .inl (cs 0, 58, .inl (w.2.2 21)))] H → va_D A [oX7 h_t q_t (w.2.1), ((q_t 0), .inl (cs 0, 106, .inl (d_t.2 0))), ((q_t 15), .inl (cs 0, 250, .inl (d_t.2 15))), ((q_t 21), .inl (cs 0, 58, .inl (w.2.2 21)))] → va_S A s.heap H locs → lv_has ls 3 [(0, .ref h_t), (1, .int (w.1))] → W p l e rm_X7_read s m args below meth c H locs 0 0 Q (F0 m 92 ls []))
    : ∀ (n : Nat) (v : Int32 × Dat), lp (fX7_read_B52 k d_t K74 K92) n v = some rv → ∀ (H : Heap) (locs : List Loc) (ls : Array Slot), va_P D vwCl [oX7 h_t q_t (v.2.1), ((q_t 0), .inl (cs 0, 106, .inl (d_t.2 0))), ((q_t 15), .inl (cs 0, 250, .inl (d_t.2 15))), ((q_t 21), .inl (cs 0, 58, .inl (v.2.2 21)))] H → va_D A [oX7 h_t q_t (v.2.1), ((q_t 0), .inl (cs 0, 106, .inl (d_t.2 0))), ((q_t 15), .inl (cs 0, 250, .inl (d_t.2 15))), ((q_t 21), .inl (cs 0, 58, .inl (v.2.2 21)))] → va_S A s.heap H locs → lv_has ls 3 [(0, .ref h_t), (1, .int (v.1))] → W p l e rm_X7_read s m args below meth c H locs 0 0 Q (F0 m 52 ls []) := by
  obtain ⟨hx, hb, hml, hT, hown, hlk, hrt, hK, hN, hSE⟩ := id M
  refine lp_ind (fun rec ih v hf H locs ls hP hD hS hl => ?_)
  unfold fX7_read_B52 at hf
  refine lv_aload_n hx hb dX7_read_52 rfl (lv_at hl 0 rfl) ?_
  refine va_get (D := D) (ci := 7) (v := .int (v.2.1 19)) (C := RX7) (T := TX7) (N := 23) hx hb hT iX7 hown hK hP 0 rfl rfl 19 (by decide) (hT _ fw_X7_236) (fun _ h9 => h9) rfl dX7_read_53 ?_
  have g2 := ite_some hf
  refine lv_if_eq (tgt := 92) hx hb dX7_read_56 (by decide) (fun c1 => ?_) (fun c1 => ?_)
  · replace hf := g2.1 c1
    exact hK92 _ hf _ _ _ hP hD hS (lv_sub hl [0, 1] rfl)
  · replace hf := g2.2 c1
    refine lv_aload_n hx hb dX7_read_59 rfl (lv_at hl 0 rfl) ?_
    obtain ⟨r3, e4, hf⟩ := bind_some hf
    refine callVi (As := []) (rest := []) M (mX7_readsItem l D cs sk h_t q_t k (v.2.1, (va_up d_t.2 21 (v.2.2 21))) e4) mw_X7_281 ln_X7_readsItem ⟨rfl, rfl, Nat.le_of_ble_eq_true rfl, Nat.le_of_ble_eq_true rfl⟩ hP hD hS hA [0, 2, 3] (by decide) rfl rfl (q0 := 0) rfl rfl rfl ⟨Nat.zero_le _, Nat.zero_le _⟩ hl.1 rfl (Nat.le_of_ble_eq_true rfl) dX7_read_60 (fun H locs hP hD hS => ?_)
    replace hP : va_P D vwCl [oX7 h_t q_t (r3.2.1), ((q_t 0), .inl (cs 0, 106, .inl (d_t.2 0))), ((q_t 15), .inl (cs 0, 250, .inl (d_t.2 15))), ((q_t 21), .inl (cs 0, 58, .inl (r3.2.2 21)))] H := hP
    replace hD : va_D A [oX7 h_t q_t (r3.2.1), ((q_t 0), .inl (cs 0, 106, .inl (d_t.2 0))), ((q_t 15), .inl (cs 0, 250, .inl (d_t.2 15))), ((q_t 21), .inl (cs 0, 58, .inl (r3.2.2 21)))] := hD
    have g6 := ite_some hf
    refine lv_if_eq (tgt := 74) hx hb dX7_read_63 (by decide) (fun c5 => ?_) (fun c5 => ?_)
    · replace hf := g6.1 c5
      exact hK74 _ hf _ _ _ hP hD hS (lv_sub hl [0] rfl)
    · replace hf := g6.2 c5
      refine lv_aload_n hx hb dX7_read_66 rfl (lv_at hl 0 rfl) ?_
      refine va_get (D := D) (ci := 7) (v := .int (r3.2.1 19)) (C := RX7) (T := TX7) (N := 23) hx hb hT iX7 hown hK hP 0 rfl rfl 19 (by decide) (hT _ fw_X7_236) (fun _ h9 => h9) rfl dX7_read_67 ?_
      refine lv_iconst (v := 3) hx hb dX7_read_70 rfl ?_
      have g8 := ite_some hf
      refine lv_icmp_eq (tgt := 82) hx hb dX7_read_71 (by decide) (fun c7 => ?_) (fun c7 => ?_)
      · replace hf := g8.1 c7
        refine lv_aload_n hx hb dX7_read_82 rfl (lv_at hl 0 rfl) ?_
        obtain ⟨r9, e10, hf⟩ := bind_some hf
        refine callVv (As := []) (rest := []) M (mX7_goOn l D cs sk h_t q_t k (r3.2.1, (va_up d_t.2 21 (r3.2.2 21))) e10) mw_X7_254 ln_X7_goOn ⟨rfl, rfl, Nat.le_of_ble_eq_true rfl, Nat.le_of_ble_eq_true rfl⟩ hP hD hS hA [0, 2] (by decide) rfl rfl (q0 := 0) rfl rfl rfl ⟨Nat.zero_le _, Nat.zero_le _⟩ hl.1 rfl (Nat.le_of_ble_eq_true rfl) dX7_read_83 (fun H locs hP hD hS => ?_)
        replace hP : va_P D vwCl [oX7 h_t q_t (r9.1), ((q_t 0), .inl (cs 0, 106, .inl (d_t.2 0))), ((q_t 15), .inl (cs 0, 250, .inl (d_t.2 15))), ((q_t 21), .inl (cs 0, 58, .inl (r3.2.2 21)))] H := hP
        replace hD : va_D A [oX7 h_t q_t (r9.1), ((q_t 0), .inl (cs 0, 106, .inl (d_t.2 0))), ((q_t 15), .inl (cs 0, 250, .inl (d_t.2 15))), ((q_t 21), .inl (cs 0, 58, .inl (r3.2.2 21)))] := hD
        refine lv_iinc (v := ((v.1) + 1)) (lv' := [(1, .int ((v.1) + 1)), (0, .ref h_t)]) hx hb dX7_read_86 hl (k := 1) rfl rfl (by decide) rfl (fun ls hl => ?_)
        refine lv_goto (tgt := 52) hx hb dX7_read_89 (by decide) ?_
        exact ih _ hf _ _ _ hP hD hS (lv_sub hl [1, 0] rfl)
      · replace hf := g8.2 c7
        exact hK74 _ hf _ _ _ hP hD hS (lv_sub hl [0] rfl)
set_option maxHeartbeats 4000000 in
set_option maxRecDepth 100000 in
theorem mX7_read_B122 {l : Launch} {p : Program} {e : Env} {s : State} {m : MethodId} {args : Array Value} {below : List Frame} {meth : Method} {c : Code} {D : va_G} {cs : Nat → ClassId} {sk : Nat → Nat} {A : Nat → Prop} {Q : State → Prop} (h_t : Nat) (q_t : Nat → Nat) (k : Nat) (x1 : Int32) (d_t : Dat) {rv : Int32 × Dat}  (K146 : Dat → Option (Int32 × Dat))
    (M : MC p s m args meth c D cs sk A RX7 cX7_read 3 (some .int)) (hA : ∀ q, s.heap.size ≤ q → A q) (hR : RetI p l e rm_X7_read s m args below meth c D cX7_read A Q (rv.1) [oX7 h_t q_t (rv.2.1), ((q_t 0), .inl (cs 0, 106, .inl (rv.2.2 0))), ((q_t 15), .inl (cs 0, 250, .inl (d_t.2 15))), ((q_t 21), .inl (cs 0, 58, .inl (rv.2.2 21)))])
    (hK146 : ∀ (w : Dat), K146 w = some rv → ∀ (H : Heap) (locs : List Loc) (ls : Array Slot), va_P D vwCl [oX7 h_t q_t (d_t.1), ((q_t 0), .inl (cs 0, 106, .inl (w.2 0))), ((q_t 15), .inl (cs 0, 250, .inl (d_t.2 15))), ((q_t 21), .inl (cs 0, 58, .inl (d_t.2 21)))] H → va_D A [oX7 h_t q_t (d_t.1), ((q_t 0), .inl (cs 0, 106, .inl (w.2 0))), ((q_t 15), .inl (cs 0, 250, .inl (d_t.2 15))), ((q_t 21), .inl (cs 0, 58, .inl (d_t.2 21)))] → va_S A s.heap H locs → lv_has ls 3 [(1, .int x1)] → W p l e rm_X7_read s m args below meth c H locs 0 0 Q (F0 m 146 ls []))
    : ∀ (n : Nat) (v : Int32 × Dat), lp (fX7_read_B122 k d_t K146) n v = some rv → ∀ (H : Heap) (locs : List Loc) (ls : Array Slot), va_P D vwCl [oX7 h_t q_t (d_t.1), ((q_t 0), .inl (cs 0, 106, .inl (v.2.2 0))), ((q_t 15), .inl (cs 0, 250, .inl (d_t.2 15))), ((q_t 21), .inl (cs 0, 58, .inl (d_t.2 21)))] H → va_D A [oX7 h_t q_t (d_t.1), ((q_t 0), .inl (cs 0, 106, .inl (v.2.2 0))), ((q_t 15), .inl (cs 0, 250, .inl (d_t.2 15))), ((q_t 21), .inl (cs 0, 58, .inl (d_t.2 21)))] → va_S A s.heap H locs → lv_has ls 3 [(0, .ref h_t), (1, .int x1), (2, .int (v.1))] → W p l e rm_X7_read s m args below meth c H locs 0 0 Q (F0 m 122 ls []) := by
  obtain ⟨hx, hb, hml, hT, hown, hlk, hrt, hK, hN, hSE⟩ := id M
  refine lp_ind (fun rec ih v hf H locs ls hP hD hS hl => ?_)
  unfold fX7_read_B122 at hf
  refine lv_iload_n hx hb dX7_read_122 rfl (lv_at hl 2 rfl) ?_
  refine lv_bipush (v := 58) hx hb dX7_read_123 rfl ?_
  have g2 := ite_some hf
  refine lv_icmp_ge (tgt := 146) hx hb dX7_read_125 (by decide) (fun c1 => ?_) (fun c1 => ?_)
  · replace hf := g2.1 c1
    exact hK146 _ hf _ _ _ hP hD hS (lv_sub hl [1] rfl)
  · replace hf := g2.2 c1
    refine lv_aload_n hx hb dX7_read_128 rfl (lv_at hl 0 rfl) ?_
    refine va_get (D := D) (ci := 7) (v := .ref (q_t 0)) (C := RX7) (T := TX7) (N := 23) hx hb hT iX7 hown hK hP 0 rfl rfl 0 (by decide) (hT _ fw_X7_7) (fun _ h9 => h9) rfl dX7_read_129 ?_
    refine lv_iload_n hx hb dX7_read_132 rfl (lv_at hl 2 rfl) ?_
    refine lv_aload_n hx hb dX7_read_133 rfl (lv_at hl 0 rfl) ?_
    refine va_get (D := D) (ci := 7) (v := .ref (q_t 21)) (C := RX7) (T := TX7) (N := 23) hx hb hT iX7 hown hK hP 0 rfl rfl 21 (by decide) (hT _ fw_X7_53) (fun _ h9 => h9) rfl dX7_read_134 ?_
    refine lv_iload_n hx hb dX7_read_137 rfl (lv_at hl 2 rfl) ?_
    obtain ⟨hi, hf⟩ := chk_some hf
    refine va_iald (D := D) hx hb hK hP 3 0 rfl rfl hi dX7_read_138 ?_
    obtain ⟨hi, hf⟩ := chk_some hf
    refine va_iast (D := D) hx hb hK hP hD hS 1 0 rfl rfl hi dX7_read_139 (fun H locs hP hD hS => ?_)
    replace hP : va_P D vwCl [oX7 h_t q_t (d_t.1), ((q_t 0), .inl (cs 0, 106, .inl (upd (v.2.2 0) (v.1).toNatClampNeg ((d_t.2 21) (v.1).toNatClampNeg)))), ((q_t 15), .inl (cs 0, 250, .inl (d_t.2 15))), ((q_t 21), .inl (cs 0, 58, .inl (d_t.2 21)))] H := hP
    replace hD : va_D A [oX7 h_t q_t (d_t.1), ((q_t 0), .inl (cs 0, 106, .inl (upd (v.2.2 0) (v.1).toNatClampNeg ((d_t.2 21) (v.1).toNatClampNeg)))), ((q_t 15), .inl (cs 0, 250, .inl (d_t.2 15))), ((q_t 21), .inl (cs 0, 58, .inl (d_t.2 21)))] := hD
    refine lv_iinc (v := ((v.1) + 1)) (lv' := [(2, .int ((v.1) + 1)), (0, .ref h_t), (1, .int x1)]) hx hb dX7_read_140 hl (k := 2) rfl rfl (by decide) rfl (fun ls hl => ?_)
    refine lv_goto (tgt := 122) hx hb dX7_read_143 (by decide) ?_
    exact ih _ hf _ _ _ hP hD hS (lv_sub hl [1, 2, 0] rfl)
set_option maxHeartbeats 4000000 in
set_option maxRecDepth 100000 in
theorem mX7_read (l : Launch) (D : va_G) (cs : Nat → ClassId) (sk : Nat → Nat) (h_t : Nat) (q_t : Nat → Nat) (k : Nat) (d_t : Dat) {rv : Int32 × Dat} (hf : fX7_read k d_t = some rv) : CTi l yX7_read (Cond.code yX7_read cX7_read 3 (some .int) :: gtbl) rm_X7_read D cs sk [.ref h_t] [oX7 h_t q_t (d_t.1), ((q_t 0), .inl (cs 0, 106, .inl (d_t.2 0))), ((q_t 15), .inl (cs 0, 250, .inl (d_t.2 15))), ((q_t 21), .inl (cs 0, 58, .inl (d_t.2 21)))] (rv.1) [oX7 h_t q_t (rv.2.1), ((q_t 0), .inl (cs 0, 106, .inl (rv.2.2 0))), ((q_t 15), .inl (cs 0, 250, .inl (d_t.2 15))), ((q_t 21), .inl (cs 0, 58, .inl (rv.2.2 21)))] := by
  refine CTi.of RX7 (by decide +kernel) rfl (Nat.le_of_ble_eq_true rfl) (fun p e s m args below meth c A Q ls M hA hR hl hP hD hS => ?_)
  obtain ⟨hx, hb, hml, hT, hown, hlk, hrt, hK, hN, hSE⟩ := id M
  replace hl : lv_has ls 3 [(0, .ref h_t)] := hl
  unfold fX7_read at hf
  refine lv_iconst (v := 0) hx hb dX7_read_0 rfl ?_
  refine lv_istore_n (lv' := [(1, .int 0), (0, .ref h_t)]) hx hb dX7_read_1 rfl hl (by decide) rfl (fun ls hl => ?_)
  refine mX7_read_B2 h_t q_t k d_t _ M hA hR (fun w1 hf H locs ls hP hD hS hl => ?_) _ _ hf _ _ _ hP hD hS (lv_sub hl [1, 0] rfl)
  · refine lv_aload_n hx hb dX7_read_21 rfl (lv_at hl 0 rfl) ?_
    refine va_get (D := D) (ci := 7) (v := .ref (q_t 21)) (C := RX7) (T := TX7) (N := 23) hx hb hT iX7 hown hK hP 0 rfl rfl 21 (by decide) (hT _ fw_X7_53) (fun _ h9 => h9) rfl dX7_read_22 ?_
    refine lv_bipush (v := 18) hx hb dX7_read_25 rfl ?_
    refine lv_iconst (v := (-1)) hx hb dX7_read_27 rfl ?_
    obtain ⟨hi, hf⟩ := chk_some hf
    refine va_iast (D := D) hx hb hK hP hD hS 3 0 rfl rfl hi dX7_read_28 (fun H locs hP hD hS => ?_)
    replace hP : va_P D vwCl [oX7 h_t q_t (d_t.1), ((q_t 0), .inl (cs 0, 106, .inl (d_t.2 0))), ((q_t 15), .inl (cs 0, 250, .inl (d_t.2 15))), ((q_t 21), .inl (cs 0, 58, .inl (upd (w1.2 21) (18 : Int32).toNatClampNeg (-1))))] H := hP
    replace hD : va_D A [oX7 h_t q_t (d_t.1), ((q_t 0), .inl (cs 0, 106, .inl (d_t.2 0))), ((q_t 15), .inl (cs 0, 250, .inl (d_t.2 15))), ((q_t 21), .inl (cs 0, 58, .inl (upd (w1.2 21) (18 : Int32).toNatClampNeg (-1))))] := hD
    refine lv_aload_n hx hb dX7_read_29 rfl (lv_at hl 0 rfl) ?_
    refine va_get (D := D) (ci := 7) (v := .ref (q_t 21)) (C := RX7) (T := TX7) (N := 23) hx hb hT iX7 hown hK hP 0 rfl rfl 21 (by decide) (hT _ fw_X7_53) (fun _ h9 => h9) rfl dX7_read_30 ?_
    refine lv_bipush (v := 19) hx hb dX7_read_33 rfl ?_
    refine lv_iconst (v := (-1)) hx hb dX7_read_35 rfl ?_
    obtain ⟨hi, hf⟩ := chk_some hf
    refine va_iast (D := D) hx hb hK hP hD hS 3 0 rfl rfl hi dX7_read_36 (fun H locs hP hD hS => ?_)
    replace hP : va_P D vwCl [oX7 h_t q_t (d_t.1), ((q_t 0), .inl (cs 0, 106, .inl (d_t.2 0))), ((q_t 15), .inl (cs 0, 250, .inl (d_t.2 15))), ((q_t 21), .inl (cs 0, 58, .inl (upd (upd (w1.2 21) (18 : Int32).toNatClampNeg (-1)) (19 : Int32).toNatClampNeg (-1))))] H := hP
    replace hD : va_D A [oX7 h_t q_t (d_t.1), ((q_t 0), .inl (cs 0, 106, .inl (d_t.2 0))), ((q_t 15), .inl (cs 0, 250, .inl (d_t.2 15))), ((q_t 21), .inl (cs 0, 58, .inl (upd (upd (w1.2 21) (18 : Int32).toNatClampNeg (-1)) (19 : Int32).toNatClampNeg (-1))))] := hD
    refine lv_aload_n hx hb dX7_read_37 rfl (lv_at hl 0 rfl) ?_
    refine va_get (D := D) (ci := 7) (v := .ref (q_t 21)) (C := RX7) (T := TX7) (N := 23) hx hb hT iX7 hown hK hP 0 rfl rfl 21 (by decide) (hT _ fw_X7_53) (fun _ h9 => h9) rfl dX7_read_38 ?_
    refine lv_bipush (v := 20) hx hb dX7_read_41 rfl ?_
    refine lv_iconst (v := 3) hx hb dX7_read_43 rfl ?_
    obtain ⟨hi, hf⟩ := chk_some hf
    refine va_iast (D := D) hx hb hK hP hD hS 3 0 rfl rfl hi dX7_read_44 (fun H locs hP hD hS => ?_)
    replace hP : va_P D vwCl [oX7 h_t q_t (d_t.1), ((q_t 0), .inl (cs 0, 106, .inl (d_t.2 0))), ((q_t 15), .inl (cs 0, 250, .inl (d_t.2 15))), ((q_t 21), .inl (cs 0, 58, .inl (upd (upd (upd (w1.2 21) (18 : Int32).toNatClampNeg (-1)) (19 : Int32).toNatClampNeg (-1)) (20 : Int32).toNatClampNeg 3)))] H := hP
    replace hD : va_D A [oX7 h_t q_t (d_t.1), ((q_t 0), .inl (cs 0, 106, .inl (d_t.2 0))), ((q_t 15), .inl (cs 0, 250, .inl (d_t.2 15))), ((q_t 21), .inl (cs 0, 58, .inl (upd (upd (upd (w1.2 21) (18 : Int32).toNatClampNeg (-1)) (19 : Int32).toNatClampNeg (-1)) (20 : Int32).toNatClampNeg 3)))] := hD
    refine lv_iconst (v := 0) hx hb dX7_read_45 rfl ?_
    refine lv_istore_n (lv' := [(1, .int 0), (0, .ref h_t)]) hx hb dX7_read_46 rfl hl (by decide) rfl (fun ls hl => ?_)
    refine lv_aload_n hx hb dX7_read_47 rfl (lv_at hl 1 rfl) ?_
    refine lv_iconst (v := 0) hx hb dX7_read_48 rfl ?_
    obtain ⟨r2, e3, hf⟩ := bind_some hf
    refine callVv (As := [.int 0]) (rest := []) M (mX7_look l D cs sk h_t q_t k (d_t.1, (va_up d_t.2 21 (upd (upd (upd (w1.2 21) (18 : Int32).toNatClampNeg (-1)) (19 : Int32).toNatClampNeg (-1)) (20 : Int32).toNatClampNeg 3))) 0 e3) mw_X7_248 ln_X7_look ⟨rfl, rfl, Nat.le_of_ble_eq_true rfl, Nat.le_of_ble_eq_true rfl⟩ hP hD hS hA [0, 2] (by decide) rfl rfl (q0 := 0) rfl rfl rfl ⟨Nat.zero_le _, Nat.zero_le _⟩ hl.1 rfl (Nat.le_of_ble_eq_true rfl) dX7_read_49 (fun H locs hP hD hS => ?_)
    replace hP : va_P D vwCl [oX7 h_t q_t (r2.1), ((q_t 0), .inl (cs 0, 106, .inl (d_t.2 0))), ((q_t 15), .inl (cs 0, 250, .inl (d_t.2 15))), ((q_t 21), .inl (cs 0, 58, .inl (upd (upd (upd (w1.2 21) (18 : Int32).toNatClampNeg (-1)) (19 : Int32).toNatClampNeg (-1)) (20 : Int32).toNatClampNeg 3)))] H := hP
    replace hD : va_D A [oX7 h_t q_t (r2.1), ((q_t 0), .inl (cs 0, 106, .inl (d_t.2 0))), ((q_t 15), .inl (cs 0, 250, .inl (d_t.2 15))), ((q_t 21), .inl (cs 0, 58, .inl (upd (upd (upd (w1.2 21) (18 : Int32).toNatClampNeg (-1)) (19 : Int32).toNatClampNeg (-1)) (20 : Int32).toNatClampNeg 3)))] := hD
    refine mX7_read_B52 h_t q_t k (r2.1, (va_up d_t.2 21 (upd (upd (upd (w1.2 21) (18 : Int32).toNatClampNeg (-1)) (19 : Int32).toNatClampNeg (-1)) (20 : Int32).toNatClampNeg 3))) _ _ M hA hR (fun w4 hf H locs ls hP hD hS hl => ?_) (fun w5 hf H locs ls hP hD hS hl => ?_) _ _ hf _ _ _ hP hD hS (lv_sub hl [1, 0] rfl)
    · refine lv_bipush (v := (-10)) hx hb dX7_read_74 rfl ?_
      refine lv_aload_n hx hb dX7_read_76 rfl (lv_at hl 0 rfl) ?_
      refine va_get (D := D) (ci := 7) (v := .int (w4.1 17)) (C := RX7) (T := TX7) (N := 23) hx hb hT iX7 hown hK hP 0 rfl rfl 17 (by decide) (hT _ fw_X7_230) (fun _ h9 => h9) rfl dX7_read_77 ?_
      refine lv_isub hx hb dX7_read_80 ?_
      have e9 := Option.some.inj hf
      subst e9
      exact hR _ _ _ _ dX7_read_81 hP hS
    · refine lv_aload_n hx hb dX7_read_92 rfl (lv_at hl 0 rfl) ?_
      refine va_get (D := D) (ci := 7) (v := .ref (q_t 21)) (C := RX7) (T := TX7) (N := 23) hx hb hT iX7 hown hK hP 0 rfl rfl 21 (by decide) (hT _ fw_X7_53) (fun _ h9 => h9) rfl dX7_read_93 ?_
      refine lv_bipush (v := 21) hx hb dX7_read_96 rfl ?_
      refine lv_aload_n hx hb dX7_read_98 rfl (lv_at hl 0 rfl) ?_
      refine va_get (D := D) (ci := 7) (v := .ref (q_t 0)) (C := RX7) (T := TX7) (N := 23) hx hb hT iX7 hown hK hP 0 rfl rfl 0 (by decide) (hT _ fw_X7_7) (fun _ h9 => h9) rfl dX7_read_99 ?_
      refine lv_bipush (v := 21) hx hb dX7_read_102 rfl ?_
      obtain ⟨hi, hf⟩ := chk_some hf
      refine va_iald (D := D) hx hb hK hP 1 0 rfl rfl hi dX7_read_104 ?_
      obtain ⟨hi, hf⟩ := chk_some hf
      refine va_iast (D := D) hx hb hK hP hD hS 3 0 rfl rfl hi dX7_read_105 (fun H locs hP hD hS => ?_)
      replace hP : va_P D vwCl [oX7 h_t q_t (w5.2.1), ((q_t 0), .inl (cs 0, 106, .inl (d_t.2 0))), ((q_t 15), .inl (cs 0, 250, .inl (d_t.2 15))), ((q_t 21), .inl (cs 0, 58, .inl (upd (w5.2.2 21) (21 : Int32).toNatClampNeg ((d_t.2 0) (21 : Int32).toNatClampNeg))))] H := hP
      replace hD : va_D A [oX7 h_t q_t (w5.2.1), ((q_t 0), .inl (cs 0, 106, .inl (d_t.2 0))), ((q_t 15), .inl (cs 0, 250, .inl (d_t.2 15))), ((q_t 21), .inl (cs 0, 58, .inl (upd (w5.2.2 21) (21 : Int32).toNatClampNeg ((d_t.2 0) (21 : Int32).toNatClampNeg))))] := hD
      refine lv_aload_n hx hb dX7_read_106 rfl (lv_at hl 0 rfl) ?_
      refine va_get (D := D) (ci := 7) (v := .ref (q_t 21)) (C := RX7) (T := TX7) (N := 23) hx hb hT iX7 hown hK hP 0 rfl rfl 21 (by decide) (hT _ fw_X7_53) (fun _ h9 => h9) rfl dX7_read_107 ?_
      refine lv_bipush (v := 22) hx hb dX7_read_110 rfl ?_
      refine lv_aload_n hx hb dX7_read_112 rfl (lv_at hl 0 rfl) ?_
      refine va_get (D := D) (ci := 7) (v := .ref (q_t 0)) (C := RX7) (T := TX7) (N := 23) hx hb hT iX7 hown hK hP 0 rfl rfl 0 (by decide) (hT _ fw_X7_7) (fun _ h9 => h9) rfl dX7_read_113 ?_
      refine lv_bipush (v := 22) hx hb dX7_read_116 rfl ?_
      obtain ⟨hi, hf⟩ := chk_some hf
      refine va_iald (D := D) hx hb hK hP 1 0 rfl rfl hi dX7_read_118 ?_
      obtain ⟨hi, hf⟩ := chk_some hf
      refine va_iast (D := D) hx hb hK hP hD hS 3 0 rfl rfl hi dX7_read_119 (fun H locs hP hD hS => ?_)
      replace hP : va_P D vwCl [oX7 h_t q_t (w5.2.1), ((q_t 0), .inl (cs 0, 106, .inl (d_t.2 0))), ((q_t 15), .inl (cs 0, 250, .inl (d_t.2 15))), ((q_t 21), .inl (cs 0, 58, .inl (upd (upd (w5.2.2 21) (21 : Int32).toNatClampNeg ((d_t.2 0) (21 : Int32).toNatClampNeg)) (22 : Int32).toNatClampNeg ((d_t.2 0) (22 : Int32).toNatClampNeg))))] H := hP
      replace hD : va_D A [oX7 h_t q_t (w5.2.1), ((q_t 0), .inl (cs 0, 106, .inl (d_t.2 0))), ((q_t 15), .inl (cs 0, 250, .inl (d_t.2 15))), ((q_t 21), .inl (cs 0, 58, .inl (upd (upd (w5.2.2 21) (21 : Int32).toNatClampNeg ((d_t.2 0) (21 : Int32).toNatClampNeg)) (22 : Int32).toNatClampNeg ((d_t.2 0) (22 : Int32).toNatClampNeg))))] := hD
      refine lv_iconst (v := 0) hx hb dX7_read_120 rfl ?_
      refine lv_istore_n (lv' := [(2, .int 0), (0, .ref h_t), (1, .int (w5.1))]) hx hb dX7_read_121 rfl hl (by decide) rfl (fun ls hl => ?_)
      refine mX7_read_B122 h_t q_t k (w5.1) (w5.2.1, (va_up d_t.2 21 (upd (upd (w5.2.2 21) (21 : Int32).toNatClampNeg ((d_t.2 0) (21 : Int32).toNatClampNeg)) (22 : Int32).toNatClampNeg ((d_t.2 0) (22 : Int32).toNatClampNeg)))) _ M hA hR (fun w6 hf H locs ls hP hD hS hl => ?_) _ _ hf _ _ _ hP hD hS (lv_sub hl [1, 2, 0] rfl)
      · refine lv_iload_n hx hb dX7_read_146 rfl (lv_at hl 0 rfl) ?_
        have e9 := Option.some.inj hf
        subst e9
        exact hR _ _ _ _ dX7_read_147 hP hS
abbrev rm_X7_image : Room := { frames := 1, cells := 0, slots := 0, locals := 25 }
def fX7_image_B19 (k : Nat) (x1 : Int32) (d_t : Dat) (K48 : Dat → Option (Int32 × Dat)) (rec : Int32 × Dat → Option (Int32 × Dat)) (v : Int32 × Dat) : Option (Int32 × Dat) :=
  (if 106 ≤ (v.1) then K48 (d_t.1, (va_up d_t.2 1 (v.2.2 1))) else chk 106 (v.1) (chk 212 ((106 * x1) + (v.1)) (rec (((v.1) + 1), (d_t.1, (va_up d_t.2 1 (upd (v.2.2 1) ((106 * x1) + (v.1)).toNatClampNeg ((d_t.2 0) (v.1).toNatClampNeg))))))))
def fX7_image (k : Nat) (d_t : Dat) (x1 : Int32) : Option (Int32 × Dat) :=
  (fX7_in k x1.toInt64 0 1).bind (fun (r1 : Int32) => (if r1 = 0 then (fX7_bad k d_t (-2)).bind (fun (r6 : Int32 × Dat) => some ((r6.1), (d_t.1, (va_up d_t.2 3 (r6.2.2 3))))) else lp (fX7_image_B19 k x1 d_t (fun (w5 : Dat) => chk 2 x1 (some (1, (d_t.1, (va_up (va_up d_t.2 1 (w5.2 1)) 2 (upd (d_t.2 2) x1.toNatClampNeg (vp_nar .boolean 1)))))))) k (0, d_t)))
set_option maxHeartbeats 4000000 in
set_option maxRecDepth 100000 in
theorem mX7_image_B19 {l : Launch} {p : Program} {e : Env} {s : State} {m : MethodId} {args : Array Value} {below : List Frame} {meth : Method} {c : Code} {D : va_G} {cs : Nat → ClassId} {sk : Nat → Nat} {A : Nat → Prop} {Q : State → Prop} (h_t : Nat) (q_t : Nat → Nat) (k : Nat) (x1 : Int32) (d_t : Dat) {rv : Int32 × Dat}  (K48 : Dat → Option (Int32 × Dat))
    (M : MC p s m args meth c D cs sk A RX7 cX7_image 3 (some .int)) (hA : ∀ q, s.heap.size ≤ q → A q) (hR : RetI p l e rm_X7_image s m args below meth c D cX7_image A Q (rv.1) [oX7 h_t q_t (d_t.1), ((q_t 0), .inl (cs 0, 106, .inl (d_t.2 0))), ((q_t 1), .inl (cs 0, 212, .inl (rv.2.2 1))), ((q_t 2), .inl (cs 2, 2, .inl (rv.2.2 2))), ((q_t 3), .inl (cs 0, 3, .inl (rv.2.2 3)))])
    (hK48 : ∀ (w : Dat), K48 w = some rv → ∀ (H : Heap) (locs : List Loc) (ls : Array Slot), va_P D vwCl [oX7 h_t q_t (d_t.1), ((q_t 0), .inl (cs 0, 106, .inl (d_t.2 0))), ((q_t 1), .inl (cs 0, 212, .inl (w.2 1))), ((q_t 2), .inl (cs 2, 2, .inl (d_t.2 2))), ((q_t 3), .inl (cs 0, 3, .inl (d_t.2 3)))] H → va_D A [oX7 h_t q_t (d_t.1), ((q_t 0), .inl (cs 0, 106, .inl (d_t.2 0))), ((q_t 1), .inl (cs 0, 212, .inl (w.2 1))), ((q_t 2), .inl (cs 2, 2, .inl (d_t.2 2))), ((q_t 3), .inl (cs 0, 3, .inl (d_t.2 3)))] → va_S A s.heap H locs → lv_has ls 3 [(0, .ref h_t), (1, .int x1)] → W p l e rm_X7_image s m args below meth c H locs 0 0 Q (F0 m 48 ls []))
    : ∀ (n : Nat) (v : Int32 × Dat), lp (fX7_image_B19 k x1 d_t K48) n v = some rv → ∀ (H : Heap) (locs : List Loc) (ls : Array Slot), va_P D vwCl [oX7 h_t q_t (d_t.1), ((q_t 0), .inl (cs 0, 106, .inl (d_t.2 0))), ((q_t 1), .inl (cs 0, 212, .inl (v.2.2 1))), ((q_t 2), .inl (cs 2, 2, .inl (d_t.2 2))), ((q_t 3), .inl (cs 0, 3, .inl (d_t.2 3)))] H → va_D A [oX7 h_t q_t (d_t.1), ((q_t 0), .inl (cs 0, 106, .inl (d_t.2 0))), ((q_t 1), .inl (cs 0, 212, .inl (v.2.2 1))), ((q_t 2), .inl (cs 2, 2, .inl (d_t.2 2))), ((q_t 3), .inl (cs 0, 3, .inl (d_t.2 3)))] → va_S A s.heap H locs → lv_has ls 3 [(0, .ref h_t), (1, .int x1), (2, .int (v.1))] → W p l e rm_X7_image s m args below meth c H locs 0 0 Q (F0 m 19 ls []) := by
  obtain ⟨hx, hb, hml, hT, hown, hlk, hrt, hK, hN, hSE⟩ := id M
  refine lp_ind (fun rec ih v hf H locs ls hP hD hS hl => ?_)
  unfold fX7_image_B19 at hf
  refine lv_iload_n hx hb dX7_image_19 rfl (lv_at hl 2 rfl) ?_
  refine lv_bipush (v := 106) hx hb dX7_image_20 rfl ?_
  have g2 := ite_some hf
  refine lv_icmp_ge (tgt := 48) hx hb dX7_image_22 (by decide) (fun c1 => ?_) (fun c1 => ?_)
  · replace hf := g2.1 c1
    exact hK48 _ hf _ _ _ hP hD hS (lv_sub hl [0, 1] rfl)
  · replace hf := g2.2 c1
    refine lv_aload_n hx hb dX7_image_25 rfl (lv_at hl 0 rfl) ?_
    refine va_get (D := D) (ci := 7) (v := .ref (q_t 1)) (C := RX7) (T := TX7) (N := 23) hx hb hT iX7 hown hK hP 0 rfl rfl 1 (by decide) (hT _ fw_X7_13) (fun _ h9 => h9) rfl dX7_image_26 ?_
    refine lv_bipush (v := 106) hx hb dX7_image_29 rfl ?_
    refine lv_iload_n hx hb dX7_image_31 rfl (lv_at hl 1 rfl) ?_
    refine lv_imul hx hb dX7_image_32 ?_
    refine lv_iload_n hx hb dX7_image_33 rfl (lv_at hl 2 rfl) ?_
    refine lv_iadd hx hb dX7_image_34 ?_
    refine lv_aload_n hx hb dX7_image_35 rfl (lv_at hl 0 rfl) ?_
    refine va_get (D := D) (ci := 7) (v := .ref (q_t 0)) (C := RX7) (T := TX7) (N := 23) hx hb hT iX7 hown hK hP 0 rfl rfl 0 (by decide) (hT _ fw_X7_7) (fun _ h9 => h9) rfl dX7_image_36 ?_
    refine lv_iload_n hx hb dX7_image_39 rfl (lv_at hl 2 rfl) ?_
    obtain ⟨hi, hf⟩ := chk_some hf
    refine va_iald (D := D) hx hb hK hP 1 0 rfl rfl hi dX7_image_40 ?_
    obtain ⟨hi, hf⟩ := chk_some hf
    refine va_iast (D := D) hx hb hK hP hD hS 2 0 rfl rfl hi dX7_image_41 (fun H locs hP hD hS => ?_)
    replace hP : va_P D vwCl [oX7 h_t q_t (d_t.1), ((q_t 0), .inl (cs 0, 106, .inl (d_t.2 0))), ((q_t 1), .inl (cs 0, 212, .inl (upd (v.2.2 1) ((106 * x1) + (v.1)).toNatClampNeg ((d_t.2 0) (v.1).toNatClampNeg)))), ((q_t 2), .inl (cs 2, 2, .inl (d_t.2 2))), ((q_t 3), .inl (cs 0, 3, .inl (d_t.2 3)))] H := hP
    replace hD : va_D A [oX7 h_t q_t (d_t.1), ((q_t 0), .inl (cs 0, 106, .inl (d_t.2 0))), ((q_t 1), .inl (cs 0, 212, .inl (upd (v.2.2 1) ((106 * x1) + (v.1)).toNatClampNeg ((d_t.2 0) (v.1).toNatClampNeg)))), ((q_t 2), .inl (cs 2, 2, .inl (d_t.2 2))), ((q_t 3), .inl (cs 0, 3, .inl (d_t.2 3)))] := hD
    refine lv_iinc (v := ((v.1) + 1)) (lv' := [(2, .int ((v.1) + 1)), (0, .ref h_t), (1, .int x1)]) hx hb dX7_image_42 hl (k := 2) rfl rfl (by decide) rfl (fun ls hl => ?_)
    refine lv_goto (tgt := 19) hx hb dX7_image_45 (by decide) ?_
    exact ih _ hf _ _ _ hP hD hS (lv_sub hl [1, 2, 0] rfl)
set_option maxHeartbeats 4000000 in
set_option maxRecDepth 100000 in
theorem mX7_image (l : Launch) (D : va_G) (cs : Nat → ClassId) (sk : Nat → Nat) (h_t : Nat) (q_t : Nat → Nat) (k : Nat) (d_t : Dat) (x1 : Int32) {rv : Int32 × Dat} (hf : fX7_image k d_t x1 = some rv) : CTi l yX7_image (Cond.code yX7_image cX7_image 3 (some .int) :: gtbl) rm_X7_image D cs sk [.ref h_t, .int x1] [oX7 h_t q_t (d_t.1), ((q_t 0), .inl (cs 0, 106, .inl (d_t.2 0))), ((q_t 1), .inl (cs 0, 212, .inl (d_t.2 1))), ((q_t 2), .inl (cs 2, 2, .inl (d_t.2 2))), ((q_t 3), .inl (cs 0, 3, .inl (d_t.2 3)))] (rv.1) [oX7 h_t q_t (d_t.1), ((q_t 0), .inl (cs 0, 106, .inl (d_t.2 0))), ((q_t 1), .inl (cs 0, 212, .inl (rv.2.2 1))), ((q_t 2), .inl (cs 2, 2, .inl (rv.2.2 2))), ((q_t 3), .inl (cs 0, 3, .inl (rv.2.2 3)))] := by
  refine CTi.of RX7 (by decide +kernel) rfl (Nat.le_of_ble_eq_true rfl) (fun p e s m args below meth c A Q ls M hA hR hl hP hD hS => ?_)
  obtain ⟨hx, hb, hml, hT, hown, hlk, hrt, hK, hN, hSE⟩ := id M
  replace hl : lv_has ls 3 [(0, .ref h_t), (1, .int x1)] := hl
  unfold fX7_image at hf
  refine lv_iload_n hx hb dX7_image_0 rfl (lv_at hl 1 rfl) ?_
  refine lv_i2l (v := x1.toInt64) hx hb dX7_image_1 rfl ?_
  refine lv_lconst (v := 0) hx hb dX7_image_2 rfl ?_
  refine lv_lconst (v := 1) hx hb dX7_image_3 rfl ?_
  obtain ⟨r1, e2, hf⟩ := bind_some hf
  refine callSi (As := [.long x1.toInt64, .long 0, .long 1]) (rest := []) M (mX7_in l D cs sk  k x1.toInt64 0 1 e2) mw_X7_60 ln_X7_in ⟨rfl, rfl, Nat.le_of_ble_eq_true rfl, Nat.le_of_ble_eq_true rfl⟩ hP hD hS hA [] (by decide) rfl rfl ⟨Nat.zero_le _, Nat.zero_le _⟩ hl.1 rfl (Nat.le_of_ble_eq_true rfl) dX7_image_4 (fun H locs hP hD hS => ?_)
  replace hP : va_P D vwCl [oX7 h_t q_t (d_t.1), ((q_t 0), .inl (cs 0, 106, .inl (d_t.2 0))), ((q_t 1), .inl (cs 0, 212, .inl (d_t.2 1))), ((q_t 2), .inl (cs 2, 2, .inl (d_t.2 2))), ((q_t 3), .inl (cs 0, 3, .inl (d_t.2 3)))] H := hP
  replace hD : va_D A [oX7 h_t q_t (d_t.1), ((q_t 0), .inl (cs 0, 106, .inl (d_t.2 0))), ((q_t 1), .inl (cs 0, 212, .inl (d_t.2 1))), ((q_t 2), .inl (cs 2, 2, .inl (d_t.2 2))), ((q_t 3), .inl (cs 0, 3, .inl (d_t.2 3)))] := hD
  have g4 := ite_some hf
  refine lv_if_ne (tgt := 17) hx hb dX7_image_7 (by decide) (fun c3 => ?_) (fun c3 => ?_)
  · replace hf := g4.2 c3
    refine lv_iconst (v := 0) hx hb dX7_image_17 rfl ?_
    refine lv_istore_n (lv' := [(2, .int 0), (0, .ref h_t), (1, .int x1)]) hx hb dX7_image_18 rfl hl (by decide) rfl (fun ls hl => ?_)
    refine mX7_image_B19 h_t q_t k x1 d_t _ M hA hR (fun w5 hf H locs ls hP hD hS hl => ?_) _ _ hf _ _ _ hP hD hS (lv_sub hl [1, 2, 0] rfl)
    · refine lv_aload_n hx hb dX7_image_48 rfl (lv_at hl 0 rfl) ?_
      refine va_get (D := D) (ci := 7) (v := .ref (q_t 2)) (C := RX7) (T := TX7) (N := 23) hx hb hT iX7 hown hK hP 0 rfl rfl 2 (by decide) (hT _ fw_X7_16) (fun _ h9 => h9) rfl dX7_image_49 ?_
      refine lv_iload_n hx hb dX7_image_52 rfl (lv_at hl 1 rfl) ?_
      refine lv_iconst (v := 1) hx hb dX7_image_53 rfl ?_
      obtain ⟨hi, hf⟩ := chk_some hf
      refine va_zast (D := D) hx hb hK hP hD hS 3 2 rfl rfl hi dX7_image_54 (fun H locs hP hD hS => ?_)
      replace hP : va_P D vwCl [oX7 h_t q_t (d_t.1), ((q_t 0), .inl (cs 0, 106, .inl (d_t.2 0))), ((q_t 1), .inl (cs 0, 212, .inl (w5.2 1))), ((q_t 2), .inl (cs 2, 2, .inl (upd (d_t.2 2) x1.toNatClampNeg (vp_nar .boolean 1)))), ((q_t 3), .inl (cs 0, 3, .inl (d_t.2 3)))] H := hP
      replace hD : va_D A [oX7 h_t q_t (d_t.1), ((q_t 0), .inl (cs 0, 106, .inl (d_t.2 0))), ((q_t 1), .inl (cs 0, 212, .inl (w5.2 1))), ((q_t 2), .inl (cs 2, 2, .inl (upd (d_t.2 2) x1.toNatClampNeg (vp_nar .boolean 1)))), ((q_t 3), .inl (cs 0, 3, .inl (d_t.2 3)))] := hD
      refine lv_iconst (v := 1) hx hb dX7_image_55 rfl ?_
      have e9 := Option.some.inj hf
      subst e9
      exact hR _ _ _ _ dX7_image_56 hP hS
  · replace hf := g4.1 c3
    refine lv_aload_n hx hb dX7_image_10 rfl (lv_at hl 0 rfl) ?_
    refine lv_bipush (v := (-2)) hx hb dX7_image_11 rfl ?_
    obtain ⟨r6, e7, hf⟩ := bind_some hf
    refine callVi (As := [.int (-2)]) (rest := []) M (mX7_bad l D cs sk h_t q_t k d_t (-2) e7) mw_X7_76 ln_X7_bad ⟨rfl, rfl, Nat.le_of_ble_eq_true rfl, Nat.le_of_ble_eq_true rfl⟩ hP hD hS hA [0, 4] (by decide) rfl rfl (q0 := 0) rfl rfl rfl ⟨Nat.zero_le _, Nat.zero_le _⟩ hl.1 rfl (Nat.le_of_ble_eq_true rfl) dX7_image_13 (fun H locs hP hD hS => ?_)
    replace hP : va_P D vwCl [oX7 h_t q_t (d_t.1), ((q_t 0), .inl (cs 0, 106, .inl (d_t.2 0))), ((q_t 1), .inl (cs 0, 212, .inl (d_t.2 1))), ((q_t 2), .inl (cs 2, 2, .inl (d_t.2 2))), ((q_t 3), .inl (cs 0, 3, .inl (r6.2.2 3)))] H := hP
    replace hD : va_D A [oX7 h_t q_t (d_t.1), ((q_t 0), .inl (cs 0, 106, .inl (d_t.2 0))), ((q_t 1), .inl (cs 0, 212, .inl (d_t.2 1))), ((q_t 2), .inl (cs 2, 2, .inl (d_t.2 2))), ((q_t 3), .inl (cs 0, 3, .inl (r6.2.2 3)))] := hD
    have e9 := Option.some.inj hf
    subst e9
    exact hR _ _ _ _ dX7_image_16 hP hS
abbrev rm_X7_from : Room := { frames := 1, cells := 0, slots := 0, locals := 25 }
def fX7_from_B33 (k : Nat) (x1 : Int32) (d_t : Dat) (K62 : Dat → Option (Int32 × Dat)) (rec : Int32 × Dat → Option (Int32 × Dat)) (v : Int32 × Dat) : Option (Int32 × Dat) :=
  (if 106 ≤ (v.1) then K62 (d_t.1, (va_up d_t.2 0 (v.2.2 0))) else chk 212 ((106 * x1) + (v.1)) (chk 106 (v.1) (rec (((v.1) + 1), (d_t.1, (va_up d_t.2 0 (upd (v.2.2 0) (v.1).toNatClampNeg ((d_t.2 1) ((106 * x1) + (v.1)).toNatClampNeg))))))))
def fX7_from (k : Nat) (d_t : Dat) (x1 : Int32) : Option (Int32 × Dat) :=
  (fX7_in k x1.toInt64 0 1).bind (fun (r1 : Int32) => (if r1 = 0 then (fX7_bad k d_t (-2)).bind (fun (r10 : Int32 × Dat) => some ((r10.1), (d_t.1, (va_up d_t.2 3 (r10.2.2 3))))) else chk 2 x1 ((if ((d_t.2 2) x1.toNatClampNeg) = 0 then (fX7_no k d_t).bind (fun (r8 : Int32 × Dat) => some ((r8.1), (d_t.1, (va_up d_t.2 3 (r8.2.2 3))))) else lp (fX7_from_B33 k x1 d_t (fun (w7 : Dat) => some (1, (d_t.1, (va_up d_t.2 0 (w7.2 0)))))) k (0, d_t)))))
set_option maxHeartbeats 4000000 in
set_option maxRecDepth 100000 in
theorem mX7_from_B33 {l : Launch} {p : Program} {e : Env} {s : State} {m : MethodId} {args : Array Value} {below : List Frame} {meth : Method} {c : Code} {D : va_G} {cs : Nat → ClassId} {sk : Nat → Nat} {A : Nat → Prop} {Q : State → Prop} (h_t : Nat) (q_t : Nat → Nat) (k : Nat) (x1 : Int32) (d_t : Dat) {rv : Int32 × Dat}  (K62 : Dat → Option (Int32 × Dat))
    (M : MC p s m args meth c D cs sk A RX7 cX7_from 3 (some .int)) (hA : ∀ q, s.heap.size ≤ q → A q) (hR : RetI p l e rm_X7_from s m args below meth c D cX7_from A Q (rv.1) [oX7 h_t q_t (d_t.1), ((q_t 0), .inl (cs 0, 106, .inl (rv.2.2 0))), ((q_t 1), .inl (cs 0, 212, .inl (d_t.2 1))), ((q_t 2), .inl (cs 2, 2, .inl (d_t.2 2))), ((q_t 3), .inl (cs 0, 3, .inl (rv.2.2 3)))])
    (hK62 : ∀ (w : Dat), K62 w = some rv → ∀ (H : Heap) (locs : List Loc) (ls : Array Slot), va_P D vwCl [oX7 h_t q_t (d_t.1), ((q_t 0), .inl (cs 0, 106, .inl (w.2 0))), ((q_t 1), .inl (cs 0, 212, .inl (d_t.2 1))), ((q_t 2), .inl (cs 2, 2, .inl (d_t.2 2))), ((q_t 3), .inl (cs 0, 3, .inl (d_t.2 3)))] H → va_D A [oX7 h_t q_t (d_t.1), ((q_t 0), .inl (cs 0, 106, .inl (w.2 0))), ((q_t 1), .inl (cs 0, 212, .inl (d_t.2 1))), ((q_t 2), .inl (cs 2, 2, .inl (d_t.2 2))), ((q_t 3), .inl (cs 0, 3, .inl (d_t.2 3)))] → va_S A s.heap H locs → lv_has ls 3 [] → W p l e rm_X7_from s m args below meth c H locs 0 0 Q (F0 m 62 ls []))
    : ∀ (n : Nat) (v : Int32 × Dat), lp (fX7_from_B33 k x1 d_t K62) n v = some rv → ∀ (H : Heap) (locs : List Loc) (ls : Array Slot), va_P D vwCl [oX7 h_t q_t (d_t.1), ((q_t 0), .inl (cs 0, 106, .inl (v.2.2 0))), ((q_t 1), .inl (cs 0, 212, .inl (d_t.2 1))), ((q_t 2), .inl (cs 2, 2, .inl (d_t.2 2))), ((q_t 3), .inl (cs 0, 3, .inl (d_t.2 3)))] H → va_D A [oX7 h_t q_t (d_t.1), ((q_t 0), .inl (cs 0, 106, .inl (v.2.2 0))), ((q_t 1), .inl (cs 0, 212, .inl (d_t.2 1))), ((q_t 2), .inl (cs 2, 2, .inl (d_t.2 2))), ((q_t 3), .inl (cs 0, 3, .inl (d_t.2 3)))] → va_S A s.heap H locs → lv_has ls 3 [(0, .ref h_t), (1, .int x1), (2, .int (v.1))] → W p l e rm_X7_from s m args below meth c H locs 0 0 Q (F0 m 33 ls []) := by
  obtain ⟨hx, hb, hml, hT, hown, hlk, hrt, hK, hN, hSE⟩ := id M
  refine lp_ind (fun rec ih v hf H locs ls hP hD hS hl => ?_)
  unfold fX7_from_B33 at hf
  refine lv_iload_n hx hb dX7_from_33 rfl (lv_at hl 2 rfl) ?_
  refine lv_bipush (v := 106) hx hb dX7_from_34 rfl ?_
  have g2 := ite_some hf
  refine lv_icmp_ge (tgt := 62) hx hb dX7_from_36 (by decide) (fun c1 => ?_) (fun c1 => ?_)
  · replace hf := g2.1 c1
    exact hK62 _ hf _ _ _ hP hD hS (lv_sub hl [] rfl)
  · replace hf := g2.2 c1
    refine lv_aload_n hx hb dX7_from_39 rfl (lv_at hl 0 rfl) ?_
    refine va_get (D := D) (ci := 7) (v := .ref (q_t 0)) (C := RX7) (T := TX7) (N := 23) hx hb hT iX7 hown hK hP 0 rfl rfl 0 (by decide) (hT _ fw_X7_7) (fun _ h9 => h9) rfl dX7_from_40 ?_
    refine lv_iload_n hx hb dX7_from_43 rfl (lv_at hl 2 rfl) ?_
    refine lv_aload_n hx hb dX7_from_44 rfl (lv_at hl 0 rfl) ?_
    refine va_get (D := D) (ci := 7) (v := .ref (q_t 1)) (C := RX7) (T := TX7) (N := 23) hx hb hT iX7 hown hK hP 0 rfl rfl 1 (by decide) (hT _ fw_X7_13) (fun _ h9 => h9) rfl dX7_from_45 ?_
    refine lv_bipush (v := 106) hx hb dX7_from_48 rfl ?_
    refine lv_iload_n hx hb dX7_from_50 rfl (lv_at hl 1 rfl) ?_
    refine lv_imul hx hb dX7_from_51 ?_
    refine lv_iload_n hx hb dX7_from_52 rfl (lv_at hl 2 rfl) ?_
    refine lv_iadd hx hb dX7_from_53 ?_
    obtain ⟨hi, hf⟩ := chk_some hf
    refine va_iald (D := D) hx hb hK hP 2 0 rfl rfl hi dX7_from_54 ?_
    obtain ⟨hi, hf⟩ := chk_some hf
    refine va_iast (D := D) hx hb hK hP hD hS 1 0 rfl rfl hi dX7_from_55 (fun H locs hP hD hS => ?_)
    replace hP : va_P D vwCl [oX7 h_t q_t (d_t.1), ((q_t 0), .inl (cs 0, 106, .inl (upd (v.2.2 0) (v.1).toNatClampNeg ((d_t.2 1) ((106 * x1) + (v.1)).toNatClampNeg)))), ((q_t 1), .inl (cs 0, 212, .inl (d_t.2 1))), ((q_t 2), .inl (cs 2, 2, .inl (d_t.2 2))), ((q_t 3), .inl (cs 0, 3, .inl (d_t.2 3)))] H := hP
    replace hD : va_D A [oX7 h_t q_t (d_t.1), ((q_t 0), .inl (cs 0, 106, .inl (upd (v.2.2 0) (v.1).toNatClampNeg ((d_t.2 1) ((106 * x1) + (v.1)).toNatClampNeg)))), ((q_t 1), .inl (cs 0, 212, .inl (d_t.2 1))), ((q_t 2), .inl (cs 2, 2, .inl (d_t.2 2))), ((q_t 3), .inl (cs 0, 3, .inl (d_t.2 3)))] := hD
    refine lv_iinc (v := ((v.1) + 1)) (lv' := [(2, .int ((v.1) + 1)), (0, .ref h_t), (1, .int x1)]) hx hb dX7_from_56 hl (k := 2) rfl rfl (by decide) rfl (fun ls hl => ?_)
    refine lv_goto (tgt := 33) hx hb dX7_from_59 (by decide) ?_
    exact ih _ hf _ _ _ hP hD hS (lv_sub hl [1, 2, 0] rfl)
set_option maxHeartbeats 4000000 in
set_option maxRecDepth 100000 in
theorem mX7_from (l : Launch) (D : va_G) (cs : Nat → ClassId) (sk : Nat → Nat) (h_t : Nat) (q_t : Nat → Nat) (k : Nat) (d_t : Dat) (x1 : Int32) {rv : Int32 × Dat} (hf : fX7_from k d_t x1 = some rv) : CTi l yX7_from (Cond.code yX7_from cX7_from 3 (some .int) :: gtbl) rm_X7_from D cs sk [.ref h_t, .int x1] [oX7 h_t q_t (d_t.1), ((q_t 0), .inl (cs 0, 106, .inl (d_t.2 0))), ((q_t 1), .inl (cs 0, 212, .inl (d_t.2 1))), ((q_t 2), .inl (cs 2, 2, .inl (d_t.2 2))), ((q_t 3), .inl (cs 0, 3, .inl (d_t.2 3)))] (rv.1) [oX7 h_t q_t (d_t.1), ((q_t 0), .inl (cs 0, 106, .inl (rv.2.2 0))), ((q_t 1), .inl (cs 0, 212, .inl (d_t.2 1))), ((q_t 2), .inl (cs 2, 2, .inl (d_t.2 2))), ((q_t 3), .inl (cs 0, 3, .inl (rv.2.2 3)))] := by
  refine CTi.of RX7 (by decide +kernel) rfl (Nat.le_of_ble_eq_true rfl) (fun p e s m args below meth c A Q ls M hA hR hl hP hD hS => ?_)
  obtain ⟨hx, hb, hml, hT, hown, hlk, hrt, hK, hN, hSE⟩ := id M
  replace hl : lv_has ls 3 [(0, .ref h_t), (1, .int x1)] := hl
  unfold fX7_from at hf
  refine lv_iload_n hx hb dX7_from_0 rfl (lv_at hl 1 rfl) ?_
  refine lv_i2l (v := x1.toInt64) hx hb dX7_from_1 rfl ?_
  refine lv_lconst (v := 0) hx hb dX7_from_2 rfl ?_
  refine lv_lconst (v := 1) hx hb dX7_from_3 rfl ?_
  obtain ⟨r1, e2, hf⟩ := bind_some hf
  refine callSi (As := [.long x1.toInt64, .long 0, .long 1]) (rest := []) M (mX7_in l D cs sk  k x1.toInt64 0 1 e2) mw_X7_60 ln_X7_in ⟨rfl, rfl, Nat.le_of_ble_eq_true rfl, Nat.le_of_ble_eq_true rfl⟩ hP hD hS hA [] (by decide) rfl rfl ⟨Nat.zero_le _, Nat.zero_le _⟩ hl.1 rfl (Nat.le_of_ble_eq_true rfl) dX7_from_4 (fun H locs hP hD hS => ?_)
  replace hP : va_P D vwCl [oX7 h_t q_t (d_t.1), ((q_t 0), .inl (cs 0, 106, .inl (d_t.2 0))), ((q_t 1), .inl (cs 0, 212, .inl (d_t.2 1))), ((q_t 2), .inl (cs 2, 2, .inl (d_t.2 2))), ((q_t 3), .inl (cs 0, 3, .inl (d_t.2 3)))] H := hP
  replace hD : va_D A [oX7 h_t q_t (d_t.1), ((q_t 0), .inl (cs 0, 106, .inl (d_t.2 0))), ((q_t 1), .inl (cs 0, 212, .inl (d_t.2 1))), ((q_t 2), .inl (cs 2, 2, .inl (d_t.2 2))), ((q_t 3), .inl (cs 0, 3, .inl (d_t.2 3)))] := hD
  have g4 := ite_some hf
  refine lv_if_ne (tgt := 17) hx hb dX7_from_7 (by decide) (fun c3 => ?_) (fun c3 => ?_)
  · replace hf := g4.2 c3
    refine lv_aload_n hx hb dX7_from_17 rfl (lv_at hl 0 rfl) ?_
    refine va_get (D := D) (ci := 7) (v := .ref (q_t 2)) (C := RX7) (T := TX7) (N := 23) hx hb hT iX7 hown hK hP 0 rfl rfl 2 (by decide) (hT _ fw_X7_16) (fun _ h9 => h9) rfl dX7_from_18 ?_
    refine lv_iload_n hx hb dX7_from_21 rfl (lv_at hl 1 rfl) ?_
    obtain ⟨hi, hf⟩ := chk_some hf
    refine va_zald (D := D) hx hb hK hP 3 2 rfl rfl hi dX7_from_22 ?_
    have g6 := ite_some hf
    refine lv_if_ne (tgt := 31) hx hb dX7_from_23 (by decide) (fun c5 => ?_) (fun c5 => ?_)
    · replace hf := g6.2 c5
      refine lv_iconst (v := 0) hx hb dX7_from_31 rfl ?_
      refine lv_istore_n (lv' := [(2, .int 0), (0, .ref h_t), (1, .int x1)]) hx hb dX7_from_32 rfl hl (by decide) rfl (fun ls hl => ?_)
      refine mX7_from_B33 h_t q_t k x1 d_t _ M hA hR (fun w7 hf H locs ls hP hD hS hl => ?_) _ _ hf _ _ _ hP hD hS (lv_sub hl [1, 2, 0] rfl)
      · refine lv_iconst (v := 1) hx hb dX7_from_62 rfl ?_
        have e9 := Option.some.inj hf
        subst e9
        exact hR _ _ _ _ dX7_from_63 hP hS
    · replace hf := g6.1 c5
      refine lv_aload_n hx hb dX7_from_26 rfl (lv_at hl 0 rfl) ?_
      obtain ⟨r8, e9, hf⟩ := bind_some hf
      refine callVi (As := []) (rest := []) M (mX7_no l D cs sk h_t q_t k d_t e9) mw_X7_199 ln_X7_no ⟨rfl, rfl, Nat.le_of_ble_eq_true rfl, Nat.le_of_ble_eq_true rfl⟩ hP hD hS hA [0, 4] (by decide) rfl rfl (q0 := 0) rfl rfl rfl ⟨Nat.zero_le _, Nat.zero_le _⟩ hl.1 rfl (Nat.le_of_ble_eq_true rfl) dX7_from_27 (fun H locs hP hD hS => ?_)
      replace hP : va_P D vwCl [oX7 h_t q_t (d_t.1), ((q_t 0), .inl (cs 0, 106, .inl (d_t.2 0))), ((q_t 1), .inl (cs 0, 212, .inl (d_t.2 1))), ((q_t 2), .inl (cs 2, 2, .inl (d_t.2 2))), ((q_t 3), .inl (cs 0, 3, .inl (r8.2.2 3)))] H := hP
      replace hD : va_D A [oX7 h_t q_t (d_t.1), ((q_t 0), .inl (cs 0, 106, .inl (d_t.2 0))), ((q_t 1), .inl (cs 0, 212, .inl (d_t.2 1))), ((q_t 2), .inl (cs 2, 2, .inl (d_t.2 2))), ((q_t 3), .inl (cs 0, 3, .inl (r8.2.2 3)))] := hD
      have e9 := Option.some.inj hf
      subst e9
      exact hR _ _ _ _ dX7_from_30 hP hS
  · replace hf := g4.1 c3
    refine lv_aload_n hx hb dX7_from_10 rfl (lv_at hl 0 rfl) ?_
    refine lv_bipush (v := (-2)) hx hb dX7_from_11 rfl ?_
    obtain ⟨r10, e11, hf⟩ := bind_some hf
    refine callVi (As := [.int (-2)]) (rest := []) M (mX7_bad l D cs sk h_t q_t k d_t (-2) e11) mw_X7_76 ln_X7_bad ⟨rfl, rfl, Nat.le_of_ble_eq_true rfl, Nat.le_of_ble_eq_true rfl⟩ hP hD hS hA [0, 4] (by decide) rfl rfl (q0 := 0) rfl rfl rfl ⟨Nat.zero_le _, Nat.zero_le _⟩ hl.1 rfl (Nat.le_of_ble_eq_true rfl) dX7_from_13 (fun H locs hP hD hS => ?_)
    replace hP : va_P D vwCl [oX7 h_t q_t (d_t.1), ((q_t 0), .inl (cs 0, 106, .inl (d_t.2 0))), ((q_t 1), .inl (cs 0, 212, .inl (d_t.2 1))), ((q_t 2), .inl (cs 2, 2, .inl (d_t.2 2))), ((q_t 3), .inl (cs 0, 3, .inl (r10.2.2 3)))] H := hP
    replace hD : va_D A [oX7 h_t q_t (d_t.1), ((q_t 0), .inl (cs 0, 106, .inl (d_t.2 0))), ((q_t 1), .inl (cs 0, 212, .inl (d_t.2 1))), ((q_t 2), .inl (cs 2, 2, .inl (d_t.2 2))), ((q_t 3), .inl (cs 0, 3, .inl (r10.2.2 3)))] := hD
    have e9 := Option.some.inj hf
    subst e9
    exact hR _ _ _ _ dX7_from_16 hP hS
abbrev rm_X7_status : Room := { frames := 1, cells := 0, slots := 0, locals := 25 }
def fX7_status (k : Nat) (d_t : Dat) (x1 : Int32) : Option (Int32 × Dat) :=
  (fX7_in k x1.toInt64 0 2).bind (fun (r1 : Int32) => (if r1 = 0 then (fX7_bad k d_t (-1)).bind (fun (r5 : Int32 × Dat) => some ((r5.1), (d_t.1, (va_up d_t.2 3 (r5.2.2 3))))) else chk 3 x1 (some (((d_t.2 3) x1.toNatClampNeg), d_t))))
set_option maxHeartbeats 4000000 in
set_option maxRecDepth 100000 in
theorem mX7_status (l : Launch) (D : va_G) (cs : Nat → ClassId) (sk : Nat → Nat) (h_t : Nat) (q_t : Nat → Nat) (k : Nat) (d_t : Dat) (x1 : Int32) {rv : Int32 × Dat} (hf : fX7_status k d_t x1 = some rv) : CTi l yX7_status (Cond.code yX7_status cX7_status 2 (some .int) :: gtbl) rm_X7_status D cs sk [.ref h_t, .int x1] [oX7 h_t q_t (d_t.1), ((q_t 3), .inl (cs 0, 3, .inl (d_t.2 3)))] (rv.1) [oX7 h_t q_t (d_t.1), ((q_t 3), .inl (cs 0, 3, .inl (rv.2.2 3)))] := by
  refine CTi.of RX7 (by decide +kernel) rfl (Nat.le_of_ble_eq_true rfl) (fun p e s m args below meth c A Q ls M hA hR hl hP hD hS => ?_)
  obtain ⟨hx, hb, hml, hT, hown, hlk, hrt, hK, hN, hSE⟩ := id M
  replace hl : lv_has ls 2 [(0, .ref h_t), (1, .int x1)] := hl
  unfold fX7_status at hf
  refine lv_iload_n hx hb dX7_status_0 rfl (lv_at hl 1 rfl) ?_
  refine lv_i2l (v := x1.toInt64) hx hb dX7_status_1 rfl ?_
  refine lv_lconst (v := 0) hx hb dX7_status_2 rfl ?_
  refine W.ldc2 (v := 2) hx hb hown (hT _ kw_X7_87) rfl dX7_status_3 ?_
  refine W.eq (g2 := F0 m 6 ls [.long 2, .long 0, .long x1.toInt64]) rfl ?_
  obtain ⟨r1, e2, hf⟩ := bind_some hf
  refine callSi (As := [.long x1.toInt64, .long 0, .long 2]) (rest := []) M (mX7_in l D cs sk  k x1.toInt64 0 2 e2) mw_X7_60 ln_X7_in ⟨rfl, rfl, Nat.le_of_ble_eq_true rfl, Nat.le_of_ble_eq_true rfl⟩ hP hD hS hA [] (by decide) rfl rfl ⟨Nat.zero_le _, Nat.zero_le _⟩ hl.1 rfl (Nat.le_of_ble_eq_true rfl) dX7_status_6 (fun H locs hP hD hS => ?_)
  replace hP : va_P D vwCl [oX7 h_t q_t (d_t.1), ((q_t 3), .inl (cs 0, 3, .inl (d_t.2 3)))] H := hP
  replace hD : va_D A [oX7 h_t q_t (d_t.1), ((q_t 3), .inl (cs 0, 3, .inl (d_t.2 3)))] := hD
  have g4 := ite_some hf
  refine lv_if_eq (tgt := 21) hx hb dX7_status_9 (by decide) (fun c3 => ?_) (fun c3 => ?_)
  · replace hf := g4.1 c3
    refine lv_aload_n hx hb dX7_status_21 rfl (lv_at hl 0 rfl) ?_
    refine lv_iconst (v := (-1)) hx hb dX7_status_22 rfl ?_
    obtain ⟨r5, e6, hf⟩ := bind_some hf
    refine callVi (As := [.int (-1)]) (rest := []) M (mX7_bad l D cs sk h_t q_t k d_t (-1) e6) mw_X7_76 ln_X7_bad ⟨rfl, rfl, Nat.le_of_ble_eq_true rfl, Nat.le_of_ble_eq_true rfl⟩ hP hD hS hA [0, 1] (by decide) rfl rfl (q0 := 0) rfl rfl rfl ⟨Nat.zero_le _, Nat.zero_le _⟩ hl.1 rfl (Nat.le_of_ble_eq_true rfl) dX7_status_23 (fun H locs hP hD hS => ?_)
    replace hP : va_P D vwCl [oX7 h_t q_t (d_t.1), ((q_t 3), .inl (cs 0, 3, .inl (r5.2.2 3)))] H := hP
    replace hD : va_D A [oX7 h_t q_t (d_t.1), ((q_t 3), .inl (cs 0, 3, .inl (r5.2.2 3)))] := hD
    have e9 := Option.some.inj hf
    subst e9
    exact hR _ _ _ _ dX7_status_26 hP hS
  · replace hf := g4.2 c3
    refine lv_aload_n hx hb dX7_status_12 rfl (lv_at hl 0 rfl) ?_
    refine va_get (D := D) (ci := 7) (v := .ref (q_t 3)) (C := RX7) (T := TX7) (N := 23) hx hb hT iX7 hown hK hP 0 rfl rfl 3 (by decide) (hT _ fw_X7_20) (fun _ h9 => h9) rfl dX7_status_13 ?_
    refine lv_iload_n hx hb dX7_status_16 rfl (lv_at hl 1 rfl) ?_
    obtain ⟨hi, hf⟩ := chk_some hf
    refine va_iald (D := D) hx hb hK hP 1 0 rfl rfl hi dX7_status_17 ?_
    refine lv_goto (tgt := 26) hx hb dX7_status_18 (by decide) ?_
    have e9 := Option.some.inj hf
    subst e9
    exact hR _ _ _ _ dX7_status_26 hP hS
abbrev rm_X7_counted : Room := { frames := 0, cells := 0, slots := 0, locals := 0 }
def fX7_counted (k : Nat) (d_t : Dat) (x1 : Int32) : Option (Int32) :=
  (if x1 = 4 then some (d_t.1 16) else chk 106 (54 + x1) (some ((d_t.2 0) (54 + x1).toNatClampNeg)))
set_option maxHeartbeats 4000000 in
set_option maxRecDepth 100000 in
theorem mX7_counted (l : Launch) (D : va_G) (cs : Nat → ClassId) (sk : Nat → Nat) (h_t : Nat) (q_t : Nat → Nat) (k : Nat) (d_t : Dat) (x1 : Int32) {rv : Int32} (hf : fX7_counted k d_t x1 = some rv) : CTi l yX7_counted (Cond.code yX7_counted cX7_counted 2 (some .int) :: gtbl) rm_X7_counted D cs sk [.ref h_t, .int x1] [oX7 h_t q_t (d_t.1), ((q_t 0), .inl (cs 0, 106, .inl (d_t.2 0)))] (rv) [oX7 h_t q_t (d_t.1), ((q_t 0), .inl (cs 0, 106, .inl (d_t.2 0)))] := by
  refine CTi.of RX7 (by decide +kernel) rfl (Nat.le_of_ble_eq_true rfl) (fun p e s m args below meth c A Q ls M hA hR hl hP hD hS => ?_)
  obtain ⟨hx, hb, hml, hT, hown, hlk, hrt, hK, hN, hSE⟩ := id M
  replace hl : lv_has ls 2 [(0, .ref h_t), (1, .int x1)] := hl
  unfold fX7_counted at hf
  refine lv_iload_n hx hb dX7_counted_0 rfl (lv_at hl 1 rfl) ?_
  refine lv_iconst (v := 4) hx hb dX7_counted_1 rfl ?_
  have g2 := ite_some hf
  refine lv_icmp_ne (tgt := 12) hx hb dX7_counted_2 (by decide) (fun c1 => ?_) (fun c1 => ?_)
  · replace hf := g2.2 c1
    refine lv_aload_n hx hb dX7_counted_12 rfl (lv_at hl 0 rfl) ?_
    refine va_get (D := D) (ci := 7) (v := .ref (q_t 0)) (C := RX7) (T := TX7) (N := 23) hx hb hT iX7 hown hK hP 0 rfl rfl 0 (by decide) (hT _ fw_X7_7) (fun _ h9 => h9) rfl dX7_counted_13 ?_
    refine lv_bipush (v := 54) hx hb dX7_counted_16 rfl ?_
    refine lv_iload_n hx hb dX7_counted_18 rfl (lv_at hl 1 rfl) ?_
    refine lv_iadd hx hb dX7_counted_19 ?_
    obtain ⟨hi, hf⟩ := chk_some hf
    refine va_iald (D := D) hx hb hK hP 1 0 rfl rfl hi dX7_counted_20 ?_
    have e9 := Option.some.inj hf
    subst e9
    exact hR _ _ _ _ dX7_counted_21 hP hS
  · replace hf := g2.1 c1
    refine lv_aload_n hx hb dX7_counted_5 rfl (lv_at hl 0 rfl) ?_
    refine va_get (D := D) (ci := 7) (v := .int (d_t.1 16)) (C := RX7) (T := TX7) (N := 23) hx hb hT iX7 hown hK hP 0 rfl rfl 16 (by decide) (hT _ fw_X7_217) (fun _ h9 => h9) rfl dX7_counted_6 ?_
    refine lv_goto (tgt := 21) hx hb dX7_counted_9 (by decide) ?_
    have e9 := Option.some.inj hf
    subst e9
    exact hR _ _ _ _ dX7_counted_21 hP hS
abbrev rm_X7_count : Room := { frames := 1, cells := 0, slots := 0, locals := 25 }
def fX7_count (k : Nat) (d_t : Dat) (x1 : Int32) : Option (Int32 × Dat) :=
  (fX7_in k x1.toInt64 0 4).bind (fun (r1 : Int32) => (if r1 = 0 then (fX7_bad k d_t (-2)).bind (fun (r5 : Int32 × Dat) => some ((r5.1), (d_t.1, (va_up d_t.2 3 (r5.2.2 3))))) else (fX7_counted k d_t x1).bind (fun (r7 : Int32) => some (r7, d_t))))
set_option maxHeartbeats 4000000 in
set_option maxRecDepth 100000 in
theorem mX7_count (l : Launch) (D : va_G) (cs : Nat → ClassId) (sk : Nat → Nat) (h_t : Nat) (q_t : Nat → Nat) (k : Nat) (d_t : Dat) (x1 : Int32) {rv : Int32 × Dat} (hf : fX7_count k d_t x1 = some rv) : CTi l yX7_count (Cond.code yX7_count cX7_count 2 (some .int) :: gtbl) rm_X7_count D cs sk [.ref h_t, .int x1] [oX7 h_t q_t (d_t.1), ((q_t 0), .inl (cs 0, 106, .inl (d_t.2 0))), ((q_t 3), .inl (cs 0, 3, .inl (d_t.2 3)))] (rv.1) [oX7 h_t q_t (d_t.1), ((q_t 0), .inl (cs 0, 106, .inl (d_t.2 0))), ((q_t 3), .inl (cs 0, 3, .inl (rv.2.2 3)))] := by
  refine CTi.of RX7 (by decide +kernel) rfl (Nat.le_of_ble_eq_true rfl) (fun p e s m args below meth c A Q ls M hA hR hl hP hD hS => ?_)
  obtain ⟨hx, hb, hml, hT, hown, hlk, hrt, hK, hN, hSE⟩ := id M
  replace hl : lv_has ls 2 [(0, .ref h_t), (1, .int x1)] := hl
  unfold fX7_count at hf
  refine lv_iload_n hx hb dX7_count_0 rfl (lv_at hl 1 rfl) ?_
  refine lv_i2l (v := x1.toInt64) hx hb dX7_count_1 rfl ?_
  refine lv_lconst (v := 0) hx hb dX7_count_2 rfl ?_
  refine W.ldc2 (v := 4) hx hb hown (hT _ kw_X7_284) rfl dX7_count_3 ?_
  refine W.eq (g2 := F0 m 6 ls [.long 4, .long 0, .long x1.toInt64]) rfl ?_
  obtain ⟨r1, e2, hf⟩ := bind_some hf
  refine callSi (As := [.long x1.toInt64, .long 0, .long 4]) (rest := []) M (mX7_in l D cs sk  k x1.toInt64 0 4 e2) mw_X7_60 ln_X7_in ⟨rfl, rfl, Nat.le_of_ble_eq_true rfl, Nat.le_of_ble_eq_true rfl⟩ hP hD hS hA [] (by decide) rfl rfl ⟨Nat.zero_le _, Nat.zero_le _⟩ hl.1 rfl (Nat.le_of_ble_eq_true rfl) dX7_count_6 (fun H locs hP hD hS => ?_)
  replace hP : va_P D vwCl [oX7 h_t q_t (d_t.1), ((q_t 0), .inl (cs 0, 106, .inl (d_t.2 0))), ((q_t 3), .inl (cs 0, 3, .inl (d_t.2 3)))] H := hP
  replace hD : va_D A [oX7 h_t q_t (d_t.1), ((q_t 0), .inl (cs 0, 106, .inl (d_t.2 0))), ((q_t 3), .inl (cs 0, 3, .inl (d_t.2 3)))] := hD
  have g4 := ite_some hf
  refine lv_if_eq (tgt := 20) hx hb dX7_count_9 (by decide) (fun c3 => ?_) (fun c3 => ?_)
  · replace hf := g4.1 c3
    refine lv_aload_n hx hb dX7_count_20 rfl (lv_at hl 0 rfl) ?_
    refine lv_bipush (v := (-2)) hx hb dX7_count_21 rfl ?_
    obtain ⟨r5, e6, hf⟩ := bind_some hf
    refine callVi (As := [.int (-2)]) (rest := []) M (mX7_bad l D cs sk h_t q_t k d_t (-2) e6) mw_X7_76 ln_X7_bad ⟨rfl, rfl, Nat.le_of_ble_eq_true rfl, Nat.le_of_ble_eq_true rfl⟩ hP hD hS hA [0, 2] (by decide) rfl rfl (q0 := 0) rfl rfl rfl ⟨Nat.zero_le _, Nat.zero_le _⟩ hl.1 rfl (Nat.le_of_ble_eq_true rfl) dX7_count_23 (fun H locs hP hD hS => ?_)
    replace hP : va_P D vwCl [oX7 h_t q_t (d_t.1), ((q_t 0), .inl (cs 0, 106, .inl (d_t.2 0))), ((q_t 3), .inl (cs 0, 3, .inl (r5.2.2 3)))] H := hP
    replace hD : va_D A [oX7 h_t q_t (d_t.1), ((q_t 0), .inl (cs 0, 106, .inl (d_t.2 0))), ((q_t 3), .inl (cs 0, 3, .inl (r5.2.2 3)))] := hD
    have e9 := Option.some.inj hf
    subst e9
    exact hR _ _ _ _ dX7_count_26 hP hS
  · replace hf := g4.2 c3
    refine lv_aload_n hx hb dX7_count_12 rfl (lv_at hl 0 rfl) ?_
    refine lv_iload_n hx hb dX7_count_13 rfl (lv_at hl 1 rfl) ?_
    obtain ⟨r7, e8, hf⟩ := bind_some hf
    refine callVi (As := [.int x1]) (rest := []) M (mX7_counted l D cs sk h_t q_t k d_t x1 e8) mw_X7_286 ln_X7_counted ⟨rfl, rfl, Nat.le_of_ble_eq_true rfl, Nat.le_of_ble_eq_true rfl⟩ hP hD hS hA [0, 1] (by decide) rfl rfl (q0 := 0) rfl rfl rfl ⟨Nat.zero_le _, Nat.zero_le _⟩ hl.1 rfl (Nat.le_of_ble_eq_true rfl) dX7_count_14 (fun H locs hP hD hS => ?_)
    replace hP : va_P D vwCl [oX7 h_t q_t (d_t.1), ((q_t 0), .inl (cs 0, 106, .inl (d_t.2 0))), ((q_t 3), .inl (cs 0, 3, .inl (d_t.2 3)))] H := hP
    replace hD : va_D A [oX7 h_t q_t (d_t.1), ((q_t 0), .inl (cs 0, 106, .inl (d_t.2 0))), ((q_t 3), .inl (cs 0, 3, .inl (d_t.2 3)))] := hD
    refine lv_goto (tgt := 26) hx hb dX7_count_17 (by decide) ?_
    have e9 := Option.some.inj hf
    subst e9
    exact hR _ _ _ _ dX7_count_26 hP hS
abbrev rm_X7_sums : Room := { frames := 0, cells := 0, slots := 0, locals := 0 }
def fX7_sums_B6 (k : Nat) (x3 : Int32) (x4 : Int32) (d_t : Dat) (K38 : Int64 → Option (Int64)) (rec : Int64 × Int32 → Option (Int64)) (v : Int64 × Int32) : Option (Int64) :=
  (if x4 ≤ (v.2) then K38 (v.1) else chk 106 (x3 + (v.2)) (rec (((31 * (v.1)) + ((d_t.2 0) (x3 + (v.2)).toNatClampNeg).toInt64), ((v.2) + 1))))
def fX7_sums (k : Nat) (d_t : Dat) (x1 : Int64) (x3 : Int32) (x4 : Int32) : Option (Int64) :=
  lp (fX7_sums_B6 k x3 x4 d_t (fun (w1 : Int64) => some w1)) k (x1, 0)
set_option maxHeartbeats 4000000 in
set_option maxRecDepth 100000 in
theorem mX7_sums_B6 {l : Launch} {p : Program} {e : Env} {s : State} {m : MethodId} {args : Array Value} {below : List Frame} {meth : Method} {c : Code} {D : va_G} {cs : Nat → ClassId} {sk : Nat → Nat} {A : Nat → Prop} {Q : State → Prop} (h_t : Nat) (q_t : Nat → Nat) (k : Nat) (x3 : Int32) (x4 : Int32) (d_t : Dat) {rv : Int64}  (K38 : Int64 → Option (Int64))
    (M : MC p s m args meth c D cs sk A RX7 cX7_sums 8 (some .long)) (hA : ∀ q, s.heap.size ≤ q → A q) (hR : RetL p l e rm_X7_sums s m args below meth c D cX7_sums A Q (rv) [oX7 h_t q_t (d_t.1), ((q_t 0), .inl (cs 0, 106, .inl (d_t.2 0)))])
    (hK38 : ∀ (w : Int64), K38 w = some rv → ∀ (H : Heap) (locs : List Loc) (ls : Array Slot), va_P D vwCl [oX7 h_t q_t (d_t.1), ((q_t 0), .inl (cs 0, 106, .inl (d_t.2 0)))] H → va_D A [oX7 h_t q_t (d_t.1), ((q_t 0), .inl (cs 0, 106, .inl (d_t.2 0)))] → va_S A s.heap H locs → lv_has ls 8 [(5, .long w)] → W p l e rm_X7_sums s m args below meth c H locs 0 0 Q (F0 m 38 ls []))
    : ∀ (n : Nat) (v : Int64 × Int32), lp (fX7_sums_B6 k x3 x4 d_t K38) n v = some rv → ∀ (H : Heap) (locs : List Loc) (ls : Array Slot), va_P D vwCl [oX7 h_t q_t (d_t.1), ((q_t 0), .inl (cs 0, 106, .inl (d_t.2 0)))] H → va_D A [oX7 h_t q_t (d_t.1), ((q_t 0), .inl (cs 0, 106, .inl (d_t.2 0)))] → va_S A s.heap H locs → lv_has ls 8 [(0, .ref h_t), (3, .int x3), (4, .int x4), (5, .long (v.1)), (7, .int (v.2))] → W p l e rm_X7_sums s m args below meth c H locs 0 0 Q (F0 m 6 ls []) := by
  obtain ⟨hx, hb, hml, hT, hown, hlk, hrt, hK, hN, hSE⟩ := id M
  refine lp_ind (fun rec ih v hf H locs ls hP hD hS hl => ?_)
  unfold fX7_sums_B6 at hf
  refine lv_iload hx hb dX7_sums_6 (lv_at hl 4 rfl) ?_
  refine lv_iload hx hb dX7_sums_8 (lv_at hl 2 rfl) ?_
  have g2 := ite_some hf
  refine lv_icmp_ge (tgt := 38) hx hb dX7_sums_10 (by decide) (fun c1 => ?_) (fun c1 => ?_)
  · replace hf := g2.1 c1
    exact hK38 _ hf _ _ _ hP hD hS (lv_sub hl [3] rfl)
  · replace hf := g2.2 c1
    refine W.ldc2 (v := 31) hx hb hown (hT _ kw_X7_289) rfl dX7_sums_13 ?_
    refine W.eq (g2 := F0 m 16 ls [.long 31]) rfl ?_
    refine lv_lload hx hb dX7_sums_16 (lv_at hl 3 rfl) ?_
    refine lv_lmul hx hb dX7_sums_18 ?_
    refine lv_aload_n hx hb dX7_sums_19 rfl (lv_at hl 0 rfl) ?_
    refine va_get (D := D) (ci := 7) (v := .ref (q_t 0)) (C := RX7) (T := TX7) (N := 23) hx hb hT iX7 hown hK hP 0 rfl rfl 0 (by decide) (hT _ fw_X7_7) (fun _ h9 => h9) rfl dX7_sums_20 ?_
    refine lv_iload_n hx hb dX7_sums_23 rfl (lv_at hl 1 rfl) ?_
    refine lv_iload hx hb dX7_sums_24 (lv_at hl 4 rfl) ?_
    refine lv_iadd hx hb dX7_sums_26 ?_
    obtain ⟨hi, hf⟩ := chk_some hf
    refine va_iald (D := D) hx hb hK hP 1 0 rfl rfl hi dX7_sums_27 ?_
    refine lv_i2l (v := ((d_t.2 0) (x3 + (v.2)).toNatClampNeg).toInt64) hx hb dX7_sums_28 rfl ?_
    refine lv_ladd hx hb dX7_sums_29 ?_
    refine lv_lstore (lv' := [(5, .long ((31 * (v.1)) + ((d_t.2 0) (x3 + (v.2)).toNatClampNeg).toInt64)), (0, .ref h_t), (3, .int x3), (4, .int x4), (7, .int (v.2))]) hx hb dX7_sums_30 hl (by decide) rfl (fun ls hl => ?_)
    refine lv_iinc (v := ((v.2) + 1)) (lv' := [(7, .int ((v.2) + 1)), (5, .long ((31 * (v.1)) + ((d_t.2 0) (x3 + (v.2)).toNatClampNeg).toInt64)), (0, .ref h_t), (3, .int x3), (4, .int x4)]) hx hb dX7_sums_32 hl (k := 4) rfl rfl (by decide) rfl (fun ls hl => ?_)
    refine lv_goto (tgt := 6) hx hb dX7_sums_35 (by decide) ?_
    exact ih _ hf _ _ _ hP hD hS (lv_sub hl [2, 3, 4, 1, 0] rfl)
set_option maxHeartbeats 4000000 in
set_option maxRecDepth 100000 in
theorem mX7_sums (l : Launch) (D : va_G) (cs : Nat → ClassId) (sk : Nat → Nat) (h_t : Nat) (q_t : Nat → Nat) (k : Nat) (d_t : Dat) (x1 : Int64) (x3 : Int32) (x4 : Int32) {rv : Int64} (hf : fX7_sums k d_t x1 x3 x4 = some rv) : CTl l yX7_sums (Cond.code yX7_sums cX7_sums 8 (some .long) :: gtbl) rm_X7_sums D cs sk [.ref h_t, .long x1, .int x3, .int x4] [oX7 h_t q_t (d_t.1), ((q_t 0), .inl (cs 0, 106, .inl (d_t.2 0)))] (rv) [oX7 h_t q_t (d_t.1), ((q_t 0), .inl (cs 0, 106, .inl (d_t.2 0)))] := by
  refine CTl.of RX7 (by decide +kernel) rfl (Nat.le_of_ble_eq_true rfl) (fun p e s m args below meth c A Q ls M hA hR hl hP hD hS => ?_)
  obtain ⟨hx, hb, hml, hT, hown, hlk, hrt, hK, hN, hSE⟩ := id M
  replace hl : lv_has ls 8 [(0, .ref h_t), (1, .long x1), (3, .int x3), (4, .int x4)] := hl
  unfold fX7_sums at hf
  refine lv_lload_n hx hb dX7_sums_0 rfl (lv_at hl 1 rfl) ?_
  refine lv_lstore (lv' := [(5, .long x1), (0, .ref h_t), (1, .long x1), (3, .int x3), (4, .int x4)]) hx hb dX7_sums_1 hl (by decide) rfl (fun ls hl => ?_)
  refine lv_iconst (v := 0) hx hb dX7_sums_3 rfl ?_
  refine lv_istore (lv' := [(7, .int 0), (5, .long x1), (0, .ref h_t), (1, .long x1), (3, .int x3), (4, .int x4)]) hx hb dX7_sums_4 hl (by decide) rfl (fun ls hl => ?_)
  refine mX7_sums_B6 h_t q_t k x3 x4 d_t _ M hA hR (fun w1 hf H locs ls hP hD hS hl => ?_) _ _ hf _ _ _ hP hD hS (lv_sub hl [2, 4, 5, 1, 0] rfl)
  · refine lv_lload hx hb dX7_sums_38 (lv_at hl 0 rfl) ?_
    have e9 := Option.some.inj hf
    subst e9
    exact hR _ _ _ _ dX7_sums_40 hP hS
abbrev rm_X7_digest : Room := { frames := 1, cells := 0, slots := 0, locals := 27 }
def fX7_digest_B6 (k : Nat) (d_t : Dat) (K30 : Int64 → Option (Int64)) (rec : Int64 × Int32 → Option (Int64)) (v : Int64 × Int32) : Option (Int64) :=
  (if 5 ≤ (v.2) then K30 (v.1) else (fX7_counted k d_t (v.2)).bind (fun (r3 : Int32) => rec (((31 * (v.1)) + r3.toInt64), ((v.2) + 1))))
def fX7_digest (k : Nat) (d_t : Dat) : Option (Int64) :=
  lp (fX7_digest_B6 k d_t (fun (w1 : Int64) => (fX7_windows k d_t).bind (fun (r2 : Int32) => (fX7_sums k d_t w1 0 (2 * r2)).bind (fun (r4 : Int64) => (fX7_ears k d_t).bind (fun (r6 : Int32) => (fX7_sums k d_t r4 12 (2 * r6)).bind (fun (r8 : Int64) => (fX7_sums k d_t r8 18 6).bind (fun (r10 : Int64) => (fX7_players k d_t).bind (fun (r12 : Int32) => (fX7_sums k d_t r10 24 (5 * r12)).bind (fun (r14 : Int64) => some r14))))))))) k (677, 0)
set_option maxHeartbeats 4000000 in
set_option maxRecDepth 100000 in
theorem mX7_digest_B6 {l : Launch} {p : Program} {e : Env} {s : State} {m : MethodId} {args : Array Value} {below : List Frame} {meth : Method} {c : Code} {D : va_G} {cs : Nat → ClassId} {sk : Nat → Nat} {A : Nat → Prop} {Q : State → Prop} (h_t : Nat) (q_t : Nat → Nat) (k : Nat) (d_t : Dat) {rv : Int64}  (K30 : Int64 → Option (Int64))
    (M : MC p s m args meth c D cs sk A RX7 cX7_digest 4 (some .long)) (hA : ∀ q, s.heap.size ≤ q → A q) (hR : RetL p l e rm_X7_digest s m args below meth c D cX7_digest A Q (rv) [oX7 h_t q_t (d_t.1), ((q_t 0), .inl (cs 0, 106, .inl (d_t.2 0)))])
    (hK30 : ∀ (w : Int64), K30 w = some rv → ∀ (H : Heap) (locs : List Loc) (ls : Array Slot), va_P D vwCl [oX7 h_t q_t (d_t.1), ((q_t 0), .inl (cs 0, 106, .inl (d_t.2 0)))] H → va_D A [oX7 h_t q_t (d_t.1), ((q_t 0), .inl (cs 0, 106, .inl (d_t.2 0)))] → va_S A s.heap H locs → lv_has ls 4 [(0, .ref h_t), (1, .long w)] → W p l e rm_X7_digest s m args below meth c H locs 0 0 Q (F0 m 30 ls []))
    : ∀ (n : Nat) (v : Int64 × Int32), lp (fX7_digest_B6 k d_t K30) n v = some rv → ∀ (H : Heap) (locs : List Loc) (ls : Array Slot), va_P D vwCl [oX7 h_t q_t (d_t.1), ((q_t 0), .inl (cs 0, 106, .inl (d_t.2 0)))] H → va_D A [oX7 h_t q_t (d_t.1), ((q_t 0), .inl (cs 0, 106, .inl (d_t.2 0)))] → va_S A s.heap H locs → lv_has ls 4 [(0, .ref h_t), (1, .long (v.1)), (3, .int (v.2))] → W p l e rm_X7_digest s m args below meth c H locs 0 0 Q (F0 m 6 ls []) := by
  obtain ⟨hx, hb, hml, hT, hown, hlk, hrt, hK, hN, hSE⟩ := id M
  refine lp_ind (fun rec ih v hf H locs ls hP hD hS hl => ?_)
  unfold fX7_digest_B6 at hf
  refine lv_iload_n hx hb dX7_digest_6 rfl (lv_at hl 2 rfl) ?_
  refine lv_iconst (v := 5) hx hb dX7_digest_7 rfl ?_
  have g2 := ite_some hf
  refine lv_icmp_ge (tgt := 30) hx hb dX7_digest_8 (by decide) (fun c1 => ?_) (fun c1 => ?_)
  · replace hf := g2.1 c1
    exact hK30 _ hf _ _ _ hP hD hS (lv_sub hl [0, 1] rfl)
  · replace hf := g2.2 c1
    refine W.ldc2 (v := 31) hx hb hown (hT _ kw_X7_289) rfl dX7_digest_11 ?_
    refine W.eq (g2 := F0 m 14 ls [.long 31]) rfl ?_
    refine lv_lload_n hx hb dX7_digest_14 rfl (lv_at hl 1 rfl) ?_
    refine lv_lmul hx hb dX7_digest_15 ?_
    refine lv_aload_n hx hb dX7_digest_16 rfl (lv_at hl 0 rfl) ?_
    refine lv_iload_n hx hb dX7_digest_17 rfl (lv_at hl 2 rfl) ?_
    obtain ⟨r3, e4, hf⟩ := bind_some hf
    refine callVi (As := [.int (v.2)]) (rest := [.long (31 * (v.1))]) M (mX7_counted l D cs sk h_t q_t k d_t (v.2) e4) mw_X7_286 ln_X7_counted ⟨rfl, rfl, Nat.le_of_ble_eq_true rfl, Nat.le_of_ble_eq_true rfl⟩ hP hD hS hA [0, 1] (by decide) rfl rfl (q0 := 0) rfl rfl rfl ⟨Nat.zero_le _, Nat.zero_le _⟩ hl.1 rfl (Nat.le_of_ble_eq_true rfl) dX7_digest_18 (fun H locs hP hD hS => ?_)
    replace hP : va_P D vwCl [oX7 h_t q_t (d_t.1), ((q_t 0), .inl (cs 0, 106, .inl (d_t.2 0)))] H := hP
    replace hD : va_D A [oX7 h_t q_t (d_t.1), ((q_t 0), .inl (cs 0, 106, .inl (d_t.2 0)))] := hD
    refine lv_i2l (v := r3.toInt64) hx hb dX7_digest_21 rfl ?_
    refine lv_ladd hx hb dX7_digest_22 ?_
    refine lv_lstore_n (lv' := [(1, .long ((31 * (v.1)) + r3.toInt64)), (0, .ref h_t), (3, .int (v.2))]) hx hb dX7_digest_23 rfl hl (by decide) rfl (fun ls hl => ?_)
    refine lv_iinc (v := ((v.2) + 1)) (lv' := [(3, .int ((v.2) + 1)), (1, .long ((31 * (v.1)) + r3.toInt64)), (0, .ref h_t)]) hx hb dX7_digest_24 hl (k := 2) rfl rfl (by decide) rfl (fun ls hl => ?_)
    refine lv_goto (tgt := 6) hx hb dX7_digest_27 (by decide) ?_
    exact ih _ hf _ _ _ hP hD hS (lv_sub hl [2, 1, 0] rfl)
set_option maxHeartbeats 4000000 in
set_option maxRecDepth 100000 in
theorem mX7_digest (l : Launch) (D : va_G) (cs : Nat → ClassId) (sk : Nat → Nat) (h_t : Nat) (q_t : Nat → Nat) (k : Nat) (d_t : Dat) {rv : Int64} (hf : fX7_digest k d_t = some rv) : CTl l yX7_digest (Cond.code yX7_digest cX7_digest 4 (some .long) :: gtbl) rm_X7_digest D cs sk [.ref h_t] [oX7 h_t q_t (d_t.1), ((q_t 0), .inl (cs 0, 106, .inl (d_t.2 0)))] (rv) [oX7 h_t q_t (d_t.1), ((q_t 0), .inl (cs 0, 106, .inl (d_t.2 0)))] := by
  refine CTl.of RX7 (by decide +kernel) rfl (Nat.le_of_ble_eq_true rfl) (fun p e s m args below meth c A Q ls M hA hR hl hP hD hS => ?_)
  obtain ⟨hx, hb, hml, hT, hown, hlk, hrt, hK, hN, hSE⟩ := id M
  replace hl : lv_has ls 4 [(0, .ref h_t)] := hl
  unfold fX7_digest at hf
  refine W.ldc2 (v := 677) hx hb hown (hT _ kw_X7_291) rfl dX7_digest_0 ?_
  refine W.eq (g2 := F0 m 3 ls [.long 677]) rfl ?_
  refine lv_lstore_n (lv' := [(1, .long 677), (0, .ref h_t)]) hx hb dX7_digest_3 rfl hl (by decide) rfl (fun ls hl => ?_)
  refine lv_iconst (v := 0) hx hb dX7_digest_4 rfl ?_
  refine lv_istore_n (lv' := [(3, .int 0), (1, .long 677), (0, .ref h_t)]) hx hb dX7_digest_5 rfl hl (by decide) rfl (fun ls hl => ?_)
  refine mX7_digest_B6 h_t q_t k d_t _ M hA hR (fun w1 hf H locs ls hP hD hS hl => ?_) _ _ hf _ _ _ hP hD hS (lv_sub hl [2, 1, 0] rfl)
  · refine lv_aload_n hx hb dX7_digest_30 rfl (lv_at hl 0 rfl) ?_
    refine lv_lload_n hx hb dX7_digest_31 rfl (lv_at hl 1 rfl) ?_
    refine lv_iconst (v := 0) hx hb dX7_digest_32 rfl ?_
    refine lv_iconst (v := 2) hx hb dX7_digest_33 rfl ?_
    refine lv_aload_n hx hb dX7_digest_34 rfl (lv_at hl 0 rfl) ?_
    obtain ⟨r2, e3, hf⟩ := bind_some hf
    refine callVi (As := []) (rest := [.int 2, .int 0, .long w1, .ref h_t]) M (mX7_windows l D cs sk h_t q_t k d_t e3) mw_X7_56 ln_X7_windows ⟨rfl, rfl, Nat.le_of_ble_eq_true rfl, Nat.le_of_ble_eq_true rfl⟩ hP hD hS hA [0, 1] (by decide) rfl rfl (q0 := 0) rfl rfl rfl ⟨Nat.zero_le _, Nat.zero_le _⟩ hl.1 rfl (Nat.le_of_ble_eq_true rfl) dX7_digest_35 (fun H locs hP hD hS => ?_)
    replace hP : va_P D vwCl [oX7 h_t q_t (d_t.1), ((q_t 0), .inl (cs 0, 106, .inl (d_t.2 0)))] H := hP
    replace hD : va_D A [oX7 h_t q_t (d_t.1), ((q_t 0), .inl (cs 0, 106, .inl (d_t.2 0)))] := hD
    refine lv_imul hx hb dX7_digest_38 ?_
    obtain ⟨r4, e5, hf⟩ := bind_some hf
    refine callVl (As := [.long w1, .int 0, .int (2 * r2)]) (rest := []) M (mX7_sums l D cs sk h_t q_t k d_t w1 0 (2 * r2) e5) mw_X7_293 ln_X7_sums ⟨rfl, rfl, Nat.le_of_ble_eq_true rfl, Nat.le_of_ble_eq_true rfl⟩ hP hD hS hA [0, 1] (by decide) rfl rfl (q0 := 0) rfl rfl rfl ⟨Nat.zero_le _, Nat.zero_le _⟩ hl.1 rfl (Nat.le_of_ble_eq_true rfl) dX7_digest_39 (fun H locs hP hD hS => ?_)
    replace hP : va_P D vwCl [oX7 h_t q_t (d_t.1), ((q_t 0), .inl (cs 0, 106, .inl (d_t.2 0)))] H := hP
    replace hD : va_D A [oX7 h_t q_t (d_t.1), ((q_t 0), .inl (cs 0, 106, .inl (d_t.2 0)))] := hD
    refine lv_lstore_n (lv' := [(1, .long r4), (0, .ref h_t)]) hx hb dX7_digest_42 rfl hl (by decide) rfl (fun ls hl => ?_)
    refine lv_aload_n hx hb dX7_digest_43 rfl (lv_at hl 1 rfl) ?_
    refine lv_lload_n hx hb dX7_digest_44 rfl (lv_at hl 0 rfl) ?_
    refine lv_bipush (v := 12) hx hb dX7_digest_45 rfl ?_
    refine lv_iconst (v := 2) hx hb dX7_digest_47 rfl ?_
    refine lv_aload_n hx hb dX7_digest_48 rfl (lv_at hl 1 rfl) ?_
    obtain ⟨r6, e7, hf⟩ := bind_some hf
    refine callVi (As := []) (rest := [.int 2, .int 12, .long r4, .ref h_t]) M (mX7_ears l D cs sk h_t q_t k d_t e7) mw_X7_64 ln_X7_ears ⟨rfl, rfl, Nat.le_of_ble_eq_true rfl, Nat.le_of_ble_eq_true rfl⟩ hP hD hS hA [0, 1] (by decide) rfl rfl (q0 := 0) rfl rfl rfl ⟨Nat.zero_le _, Nat.zero_le _⟩ hl.1 rfl (Nat.le_of_ble_eq_true rfl) dX7_digest_49 (fun H locs hP hD hS => ?_)
    replace hP : va_P D vwCl [oX7 h_t q_t (d_t.1), ((q_t 0), .inl (cs 0, 106, .inl (d_t.2 0)))] H := hP
    replace hD : va_D A [oX7 h_t q_t (d_t.1), ((q_t 0), .inl (cs 0, 106, .inl (d_t.2 0)))] := hD
    refine lv_imul hx hb dX7_digest_52 ?_
    obtain ⟨r8, e9, hf⟩ := bind_some hf
    refine callVl (As := [.long r4, .int 12, .int (2 * r6)]) (rest := []) M (mX7_sums l D cs sk h_t q_t k d_t r4 12 (2 * r6) e9) mw_X7_293 ln_X7_sums ⟨rfl, rfl, Nat.le_of_ble_eq_true rfl, Nat.le_of_ble_eq_true rfl⟩ hP hD hS hA [0, 1] (by decide) rfl rfl (q0 := 0) rfl rfl rfl ⟨Nat.zero_le _, Nat.zero_le _⟩ hl.1 rfl (Nat.le_of_ble_eq_true rfl) dX7_digest_53 (fun H locs hP hD hS => ?_)
    replace hP : va_P D vwCl [oX7 h_t q_t (d_t.1), ((q_t 0), .inl (cs 0, 106, .inl (d_t.2 0)))] H := hP
    replace hD : va_D A [oX7 h_t q_t (d_t.1), ((q_t 0), .inl (cs 0, 106, .inl (d_t.2 0)))] := hD
    refine lv_lstore_n (lv' := [(1, .long r8), (0, .ref h_t)]) hx hb dX7_digest_56 rfl hl (by decide) rfl (fun ls hl => ?_)
    refine lv_aload_n hx hb dX7_digest_57 rfl (lv_at hl 1 rfl) ?_
    refine lv_lload_n hx hb dX7_digest_58 rfl (lv_at hl 0 rfl) ?_
    refine lv_bipush (v := 18) hx hb dX7_digest_59 rfl ?_
    refine lv_bipush (v := 6) hx hb dX7_digest_61 rfl ?_
    obtain ⟨r10, e11, hf⟩ := bind_some hf
    refine callVl (As := [.long r8, .int 18, .int 6]) (rest := []) M (mX7_sums l D cs sk h_t q_t k d_t r8 18 6 e11) mw_X7_293 ln_X7_sums ⟨rfl, rfl, Nat.le_of_ble_eq_true rfl, Nat.le_of_ble_eq_true rfl⟩ hP hD hS hA [0, 1] (by decide) rfl rfl (q0 := 0) rfl rfl rfl ⟨Nat.zero_le _, Nat.zero_le _⟩ hl.1 rfl (Nat.le_of_ble_eq_true rfl) dX7_digest_63 (fun H locs hP hD hS => ?_)
    replace hP : va_P D vwCl [oX7 h_t q_t (d_t.1), ((q_t 0), .inl (cs 0, 106, .inl (d_t.2 0)))] H := hP
    replace hD : va_D A [oX7 h_t q_t (d_t.1), ((q_t 0), .inl (cs 0, 106, .inl (d_t.2 0)))] := hD
    refine lv_lstore_n (lv' := [(1, .long r10), (0, .ref h_t)]) hx hb dX7_digest_66 rfl hl (by decide) rfl (fun ls hl => ?_)
    refine lv_aload_n hx hb dX7_digest_67 rfl (lv_at hl 1 rfl) ?_
    refine lv_lload_n hx hb dX7_digest_68 rfl (lv_at hl 0 rfl) ?_
    refine lv_bipush (v := 24) hx hb dX7_digest_69 rfl ?_
    refine lv_iconst (v := 5) hx hb dX7_digest_71 rfl ?_
    refine lv_aload_n hx hb dX7_digest_72 rfl (lv_at hl 1 rfl) ?_
    obtain ⟨r12, e13, hf⟩ := bind_some hf
    refine callVi (As := []) (rest := [.int 5, .int 24, .long r10, .ref h_t]) M (mX7_players l D cs sk h_t q_t k d_t e13) mw_X7_67 ln_X7_players ⟨rfl, rfl, Nat.le_of_ble_eq_true rfl, Nat.le_of_ble_eq_true rfl⟩ hP hD hS hA [0, 1] (by decide) rfl rfl (q0 := 0) rfl rfl rfl ⟨Nat.zero_le _, Nat.zero_le _⟩ hl.1 rfl (Nat.le_of_ble_eq_true rfl) dX7_digest_73 (fun H locs hP hD hS => ?_)
    replace hP : va_P D vwCl [oX7 h_t q_t (d_t.1), ((q_t 0), .inl (cs 0, 106, .inl (d_t.2 0)))] H := hP
    replace hD : va_D A [oX7 h_t q_t (d_t.1), ((q_t 0), .inl (cs 0, 106, .inl (d_t.2 0)))] := hD
    refine lv_imul hx hb dX7_digest_76 ?_
    obtain ⟨r14, e15, hf⟩ := bind_some hf
    refine callVl (As := [.long r10, .int 24, .int (5 * r12)]) (rest := []) M (mX7_sums l D cs sk h_t q_t k d_t r10 24 (5 * r12) e15) mw_X7_293 ln_X7_sums ⟨rfl, rfl, Nat.le_of_ble_eq_true rfl, Nat.le_of_ble_eq_true rfl⟩ hP hD hS hA [0, 1] (by decide) rfl rfl (q0 := 0) rfl rfl rfl ⟨Nat.zero_le _, Nat.zero_le _⟩ hl.1 rfl (Nat.le_of_ble_eq_true rfl) dX7_digest_77 (fun H locs hP hD hS => ?_)
    replace hP : va_P D vwCl [oX7 h_t q_t (d_t.1), ((q_t 0), .inl (cs 0, 106, .inl (d_t.2 0)))] H := hP
    replace hD : va_D A [oX7 h_t q_t (d_t.1), ((q_t 0), .inl (cs 0, 106, .inl (d_t.2 0)))] := hD
    have e9 := Option.some.inj hf
    subst e9
    exact hR _ _ _ _ dX7_digest_80 hP hS
