abbrev rm_X7_in : Room := { frames := 0, cells := 0, slots := 0, locals := 0 }
def fX7_in (k : Nat) (x0 : Int64) (x2 : Int64) (x4 : Int64) : Option (Int32) :=
  (if (lg_cmp x0 x2) < 0 then some 0 else (if 0 < (lg_cmp x0 x4) then some 0 else some 1))
set_option maxHeartbeats 4000000 in
set_option maxRecDepth 100000 in
theorem mX7_in (l : Launch) (D : va_G) (cs : Nat → ClassId) (sk : Nat → Nat)  (k : Nat) (x0 : Int64) (x2 : Int64) (x4 : Int64) {rv : Int32} (hf : fX7_in k x0 x2 x4 = some rv) : CTi l yX7_in (Cond.code yX7_in cX7_in 6 (some .boolean) :: gtbl) rm_X7_in D cs sk [.long x0, .long x2, .long x4] [] (rv) [] := by
  refine CTi.ofZ RX7 (by decide +kernel) rfl (Nat.le_of_ble_eq_true rfl) (fun p e s m args below meth c A Q ls M hA hR hl hP hD hS => ?_)
  obtain ⟨hx, hb, hml, hT, hown, hlk, hrt, hK, hN, hSE⟩ := id M
  replace hl : lv_has ls 6 [(0, .long x0), (2, .long x2), (4, .long x4)] := hl
  unfold fX7_in at hf
  refine lv_lload_n hx hb dX7_in_0 rfl (lv_at hl 0 rfl) ?_
  refine lv_lload_n hx hb dX7_in_1 rfl (lv_at hl 1 rfl) ?_
  refine W.lcmp hx hb dX7_in_2 ?_
  have g2 := ite_some hf
  refine lv_if_lt (tgt := 17) hx hb dX7_in_3 (by decide) (fun c1 => ?_) (fun c1 => ?_)
  · replace hf := g2.1 c1
    refine lv_iconst (v := 0) hx hb dX7_in_17 rfl ?_
    have e9 := Option.some.inj hf
    subst e9
    exact hR _ _ _ _ dX7_in_18 (Or.inl rfl) hP hS
  · replace hf := g2.2 c1
    refine lv_lload_n hx hb dX7_in_6 rfl (lv_at hl 0 rfl) ?_
    refine lv_lload hx hb dX7_in_7 (lv_at hl 2 rfl) ?_
    refine W.lcmp hx hb dX7_in_9 ?_
    have g4 := ite_some hf
    refine lv_if_gt (tgt := 17) hx hb dX7_in_10 (by decide) (fun c3 => ?_) (fun c3 => ?_)
    · replace hf := g4.1 c3
      refine lv_iconst (v := 0) hx hb dX7_in_17 rfl ?_
      have e9 := Option.some.inj hf
      subst e9
      exact hR _ _ _ _ dX7_in_18 (Or.inl rfl) hP hS
    · replace hf := g4.2 c3
      refine lv_iconst (v := 1) hx hb dX7_in_13 rfl ?_
      refine lv_goto (tgt := 18) hx hb dX7_in_14 (by decide) ?_
      have e9 := Option.some.inj hf
      subst e9
      exact hR _ _ _ _ dX7_in_18 (Or.inr rfl) hP hS
abbrev rm_X7_bad : Room := { frames := 0, cells := 0, slots := 0, locals := 0 }
def fX7_bad (k : Nat) (d_t : Dat) (x1 : Int32) : Option (Int32 × Dat) :=
  chk 3 0 (chk 3 0 (some (x1, (d_t.1, (va_up d_t.2 3 (upd (d_t.2 3) (0 : Int32).toNatClampNeg (((d_t.2 3) (0 : Int32).toNatClampNeg) + 1)))))))
set_option maxHeartbeats 4000000 in
set_option maxRecDepth 100000 in
theorem mX7_bad (l : Launch) (D : va_G) (cs : Nat → ClassId) (sk : Nat → Nat) (h_t : Nat) (q_t : Nat → Nat) (k : Nat) (d_t : Dat) (x1 : Int32) {rv : Int32 × Dat} (hf : fX7_bad k d_t x1 = some rv) : CTi l yX7_bad (Cond.code yX7_bad cX7_bad 2 (some .int) :: gtbl) rm_X7_bad D cs sk [.ref h_t, .int x1] [oX7 h_t q_t (d_t.1), ((q_t 3), .inl (cs 0, 3, .inl (d_t.2 3)))] (rv.1) [oX7 h_t q_t (d_t.1), ((q_t 3), .inl (cs 0, 3, .inl (rv.2.2 3)))] := by
  refine CTi.of RX7 (by decide +kernel) rfl (Nat.le_of_ble_eq_true rfl) (fun p e s m args below meth c A Q ls M hA hR hl hP hD hS => ?_)
  obtain ⟨hx, hb, hml, hT, hown, hlk, hrt, hK, hN, hSE⟩ := id M
  replace hl : lv_has ls 2 [(0, .ref h_t), (1, .int x1)] := hl
  unfold fX7_bad at hf
  refine lv_aload_n hx hb dX7_bad_0 rfl (lv_at hl 0 rfl) ?_
  refine va_get (D := D) (ci := 7) (v := .ref (q_t 3)) (C := RX7) (T := TX7) (N := 23) hx hb hT iX7 hown hK hP 0 rfl rfl 3 (by decide) (hT _ fw_X7_20) (fun _ h9 => h9) rfl dX7_bad_1 ?_
  refine lv_iconst (v := 0) hx hb dX7_bad_4 rfl ?_
  refine lv_dup2_11 hx hb dX7_bad_5 rfl rfl ?_
  obtain ⟨hi, hf⟩ := chk_some hf
  refine va_iald (D := D) hx hb hK hP 1 0 rfl rfl hi dX7_bad_6 ?_
  refine lv_iconst (v := 1) hx hb dX7_bad_7 rfl ?_
  refine lv_iadd hx hb dX7_bad_8 ?_
  obtain ⟨hi, hf⟩ := chk_some hf
  refine va_iast (D := D) hx hb hK hP hD hS 1 0 rfl rfl hi dX7_bad_9 (fun H locs hP hD hS => ?_)
  replace hP : va_P D vwCl [oX7 h_t q_t (d_t.1), ((q_t 3), .inl (cs 0, 3, .inl (upd (d_t.2 3) (0 : Int32).toNatClampNeg (((d_t.2 3) (0 : Int32).toNatClampNeg) + 1))))] H := hP
  replace hD : va_D A [oX7 h_t q_t (d_t.1), ((q_t 3), .inl (cs 0, 3, .inl (upd (d_t.2 3) (0 : Int32).toNatClampNeg (((d_t.2 3) (0 : Int32).toNatClampNeg) + 1))))] := hD
  refine lv_iload_n hx hb dX7_bad_10 rfl (lv_at hl 1 rfl) ?_
  have e9 := Option.some.inj hf
  subst e9
  exact hR _ _ _ _ dX7_bad_11 hP hS
abbrev rm_X7_no : Room := { frames := 0, cells := 0, slots := 0, locals := 0 }
def fX7_no (k : Nat) (d_t : Dat) : Option (Int32 × Dat) :=
  chk 3 1 (chk 3 1 (some ((-3), (d_t.1, (va_up d_t.2 3 (upd (d_t.2 3) (1 : Int32).toNatClampNeg (((d_t.2 3) (1 : Int32).toNatClampNeg) + 1)))))))
set_option maxHeartbeats 4000000 in
set_option maxRecDepth 100000 in
theorem mX7_no (l : Launch) (D : va_G) (cs : Nat → ClassId) (sk : Nat → Nat) (h_t : Nat) (q_t : Nat → Nat) (k : Nat) (d_t : Dat) {rv : Int32 × Dat} (hf : fX7_no k d_t = some rv) : CTi l yX7_no (Cond.code yX7_no cX7_no 1 (some .int) :: gtbl) rm_X7_no D cs sk [.ref h_t] [oX7 h_t q_t (d_t.1), ((q_t 3), .inl (cs 0, 3, .inl (d_t.2 3)))] (rv.1) [oX7 h_t q_t (d_t.1), ((q_t 3), .inl (cs 0, 3, .inl (rv.2.2 3)))] := by
  refine CTi.of RX7 (by decide +kernel) rfl (Nat.le_of_ble_eq_true rfl) (fun p e s m args below meth c A Q ls M hA hR hl hP hD hS => ?_)
  obtain ⟨hx, hb, hml, hT, hown, hlk, hrt, hK, hN, hSE⟩ := id M
  replace hl : lv_has ls 1 [(0, .ref h_t)] := hl
  unfold fX7_no at hf
  refine lv_aload_n hx hb dX7_no_0 rfl (lv_at hl 0 rfl) ?_
  refine va_get (D := D) (ci := 7) (v := .ref (q_t 3)) (C := RX7) (T := TX7) (N := 23) hx hb hT iX7 hown hK hP 0 rfl rfl 3 (by decide) (hT _ fw_X7_20) (fun _ h9 => h9) rfl dX7_no_1 ?_
  refine lv_iconst (v := 1) hx hb dX7_no_4 rfl ?_
  refine lv_dup2_11 hx hb dX7_no_5 rfl rfl ?_
  obtain ⟨hi, hf⟩ := chk_some hf
  refine va_iald (D := D) hx hb hK hP 1 0 rfl rfl hi dX7_no_6 ?_
  refine lv_iconst (v := 1) hx hb dX7_no_7 rfl ?_
  refine lv_iadd hx hb dX7_no_8 ?_
  obtain ⟨hi, hf⟩ := chk_some hf
  refine va_iast (D := D) hx hb hK hP hD hS 1 0 rfl rfl hi dX7_no_9 (fun H locs hP hD hS => ?_)
  replace hP : va_P D vwCl [oX7 h_t q_t (d_t.1), ((q_t 3), .inl (cs 0, 3, .inl (upd (d_t.2 3) (1 : Int32).toNatClampNeg (((d_t.2 3) (1 : Int32).toNatClampNeg) + 1))))] H := hP
  replace hD : va_D A [oX7 h_t q_t (d_t.1), ((q_t 3), .inl (cs 0, 3, .inl (upd (d_t.2 3) (1 : Int32).toNatClampNeg (((d_t.2 3) (1 : Int32).toNatClampNeg) + 1))))] := hD
  refine lv_bipush (v := (-3)) hx hb dX7_no_10 rfl ?_
  have e9 := Option.some.inj hf
  subst e9
  exact hR _ _ _ _ dX7_no_12 hP hS
abbrev rm_X7_full : Room := { frames := 0, cells := 0, slots := 0, locals := 0 }
def fX7_full (k : Nat) (d_t : Dat) : Option (Int32 × Dat) :=
  chk 3 2 (chk 3 2 (some ((-4), (d_t.1, (va_up d_t.2 3 (upd (d_t.2 3) (2 : Int32).toNatClampNeg (((d_t.2 3) (2 : Int32).toNatClampNeg) + 1)))))))
set_option maxHeartbeats 4000000 in
set_option maxRecDepth 100000 in
theorem mX7_full (l : Launch) (D : va_G) (cs : Nat → ClassId) (sk : Nat → Nat) (h_t : Nat) (q_t : Nat → Nat) (k : Nat) (d_t : Dat) {rv : Int32 × Dat} (hf : fX7_full k d_t = some rv) : CTi l yX7_full (Cond.code yX7_full cX7_full 1 (some .int) :: gtbl) rm_X7_full D cs sk [.ref h_t] [oX7 h_t q_t (d_t.1), ((q_t 3), .inl (cs 0, 3, .inl (d_t.2 3)))] (rv.1) [oX7 h_t q_t (d_t.1), ((q_t 3), .inl (cs 0, 3, .inl (rv.2.2 3)))] := by
  refine CTi.of RX7 (by decide +kernel) rfl (Nat.le_of_ble_eq_true rfl) (fun p e s m args below meth c A Q ls M hA hR hl hP hD hS => ?_)
  obtain ⟨hx, hb, hml, hT, hown, hlk, hrt, hK, hN, hSE⟩ := id M
  replace hl : lv_has ls 1 [(0, .ref h_t)] := hl
  unfold fX7_full at hf
  refine lv_aload_n hx hb dX7_full_0 rfl (lv_at hl 0 rfl) ?_
  refine va_get (D := D) (ci := 7) (v := .ref (q_t 3)) (C := RX7) (T := TX7) (N := 23) hx hb hT iX7 hown hK hP 0 rfl rfl 3 (by decide) (hT _ fw_X7_20) (fun _ h9 => h9) rfl dX7_full_1 ?_
  refine lv_iconst (v := 2) hx hb dX7_full_4 rfl ?_
  refine lv_dup2_11 hx hb dX7_full_5 rfl rfl ?_
  obtain ⟨hi, hf⟩ := chk_some hf
  refine va_iald (D := D) hx hb hK hP 1 0 rfl rfl hi dX7_full_6 ?_
  refine lv_iconst (v := 1) hx hb dX7_full_7 rfl ?_
  refine lv_iadd hx hb dX7_full_8 ?_
  obtain ⟨hi, hf⟩ := chk_some hf
  refine va_iast (D := D) hx hb hK hP hD hS 1 0 rfl rfl hi dX7_full_9 (fun H locs hP hD hS => ?_)
  replace hP : va_P D vwCl [oX7 h_t q_t (d_t.1), ((q_t 3), .inl (cs 0, 3, .inl (upd (d_t.2 3) (2 : Int32).toNatClampNeg (((d_t.2 3) (2 : Int32).toNatClampNeg) + 1))))] H := hP
  replace hD : va_D A [oX7 h_t q_t (d_t.1), ((q_t 3), .inl (cs 0, 3, .inl (upd (d_t.2 3) (2 : Int32).toNatClampNeg (((d_t.2 3) (2 : Int32).toNatClampNeg) + 1))))] := hD
  refine lv_bipush (v := (-4)) hx hb dX7_full_10 rfl ?_
  have e9 := Option.some.inj hf
  subst e9
  exact hR _ _ _ _ dX7_full_12 hP hS
abbrev rm_X7_windows : Room := { frames := 0, cells := 0, slots := 0, locals := 0 }
def fX7_windows (k : Nat) (d_t : Dat) : Option (Int32) :=
  chk 106 54 (some ((d_t.2 0) (54 : Int32).toNatClampNeg))
set_option maxHeartbeats 4000000 in
set_option maxRecDepth 100000 in
theorem mX7_windows (l : Launch) (D : va_G) (cs : Nat → ClassId) (sk : Nat → Nat) (h_t : Nat) (q_t : Nat → Nat) (k : Nat) (d_t : Dat) {rv : Int32} (hf : fX7_windows k d_t = some rv) : CTi l yX7_windows (Cond.code yX7_windows cX7_windows 1 (some .int) :: gtbl) rm_X7_windows D cs sk [.ref h_t] [oX7 h_t q_t (d_t.1), ((q_t 0), .inl (cs 0, 106, .inl (d_t.2 0)))] (rv) [oX7 h_t q_t (d_t.1), ((q_t 0), .inl (cs 0, 106, .inl (d_t.2 0)))] := by
  refine CTi.of RX7 (by decide +kernel) rfl (Nat.le_of_ble_eq_true rfl) (fun p e s m args below meth c A Q ls M hA hR hl hP hD hS => ?_)
  obtain ⟨hx, hb, hml, hT, hown, hlk, hrt, hK, hN, hSE⟩ := id M
  replace hl : lv_has ls 1 [(0, .ref h_t)] := hl
  unfold fX7_windows at hf
  refine lv_aload_n hx hb dX7_windows_0 rfl (lv_at hl 0 rfl) ?_
  refine va_get (D := D) (ci := 7) (v := .ref (q_t 0)) (C := RX7) (T := TX7) (N := 23) hx hb hT iX7 hown hK hP 0 rfl rfl 0 (by decide) (hT _ fw_X7_7) (fun _ h9 => h9) rfl dX7_windows_1 ?_
  refine lv_bipush (v := 54) hx hb dX7_windows_4 rfl ?_
  obtain ⟨hi, hf⟩ := chk_some hf
  refine va_iald (D := D) hx hb hK hP 1 0 rfl rfl hi dX7_windows_6 ?_
  have e9 := Option.some.inj hf
  subst e9
  exact hR _ _ _ _ dX7_windows_7 hP hS
abbrev rm_X7_ears : Room := { frames := 0, cells := 0, slots := 0, locals := 0 }
def fX7_ears (k : Nat) (d_t : Dat) : Option (Int32) :=
  chk 106 55 (some ((d_t.2 0) (55 : Int32).toNatClampNeg))
set_option maxHeartbeats 4000000 in
set_option maxRecDepth 100000 in
theorem mX7_ears (l : Launch) (D : va_G) (cs : Nat → ClassId) (sk : Nat → Nat) (h_t : Nat) (q_t : Nat → Nat) (k : Nat) (d_t : Dat) {rv : Int32} (hf : fX7_ears k d_t = some rv) : CTi l yX7_ears (Cond.code yX7_ears cX7_ears 1 (some .int) :: gtbl) rm_X7_ears D cs sk [.ref h_t] [oX7 h_t q_t (d_t.1), ((q_t 0), .inl (cs 0, 106, .inl (d_t.2 0)))] (rv) [oX7 h_t q_t (d_t.1), ((q_t 0), .inl (cs 0, 106, .inl (d_t.2 0)))] := by
  refine CTi.of RX7 (by decide +kernel) rfl (Nat.le_of_ble_eq_true rfl) (fun p e s m args below meth c A Q ls M hA hR hl hP hD hS => ?_)
  obtain ⟨hx, hb, hml, hT, hown, hlk, hrt, hK, hN, hSE⟩ := id M
  replace hl : lv_has ls 1 [(0, .ref h_t)] := hl
  unfold fX7_ears at hf
  refine lv_aload_n hx hb dX7_ears_0 rfl (lv_at hl 0 rfl) ?_
  refine va_get (D := D) (ci := 7) (v := .ref (q_t 0)) (C := RX7) (T := TX7) (N := 23) hx hb hT iX7 hown hK hP 0 rfl rfl 0 (by decide) (hT _ fw_X7_7) (fun _ h9 => h9) rfl dX7_ears_1 ?_
  refine lv_bipush (v := 55) hx hb dX7_ears_4 rfl ?_
  obtain ⟨hi, hf⟩ := chk_some hf
  refine va_iald (D := D) hx hb hK hP 1 0 rfl rfl hi dX7_ears_6 ?_
  have e9 := Option.some.inj hf
  subst e9
  exact hR _ _ _ _ dX7_ears_7 hP hS
abbrev rm_X7_players : Room := { frames := 0, cells := 0, slots := 0, locals := 0 }
def fX7_players (k : Nat) (d_t : Dat) : Option (Int32) :=
  chk 106 56 (some ((d_t.2 0) (56 : Int32).toNatClampNeg))
set_option maxHeartbeats 4000000 in
set_option maxRecDepth 100000 in
theorem mX7_players (l : Launch) (D : va_G) (cs : Nat → ClassId) (sk : Nat → Nat) (h_t : Nat) (q_t : Nat → Nat) (k : Nat) (d_t : Dat) {rv : Int32} (hf : fX7_players k d_t = some rv) : CTi l yX7_players (Cond.code yX7_players cX7_players 1 (some .int) :: gtbl) rm_X7_players D cs sk [.ref h_t] [oX7 h_t q_t (d_t.1), ((q_t 0), .inl (cs 0, 106, .inl (d_t.2 0)))] (rv) [oX7 h_t q_t (d_t.1), ((q_t 0), .inl (cs 0, 106, .inl (d_t.2 0)))] := by
  refine CTi.of RX7 (by decide +kernel) rfl (Nat.le_of_ble_eq_true rfl) (fun p e s m args below meth c A Q ls M hA hR hl hP hD hS => ?_)
  obtain ⟨hx, hb, hml, hT, hown, hlk, hrt, hK, hN, hSE⟩ := id M
  replace hl : lv_has ls 1 [(0, .ref h_t)] := hl
  unfold fX7_players at hf
  refine lv_aload_n hx hb dX7_players_0 rfl (lv_at hl 0 rfl) ?_
  refine va_get (D := D) (ci := 7) (v := .ref (q_t 0)) (C := RX7) (T := TX7) (N := 23) hx hb hT iX7 hown hK hP 0 rfl rfl 0 (by decide) (hT _ fw_X7_7) (fun _ h9 => h9) rfl dX7_players_1 ?_
  refine lv_bipush (v := 56) hx hb dX7_players_4 rfl ?_
  obtain ⟨hi, hf⟩ := chk_some hf
  refine va_iald (D := D) hx hb hK hP 1 0 rfl rfl hi dX7_players_6 ?_
  have e9 := Option.some.inj hf
  subst e9
  exact hR _ _ _ _ dX7_players_7 hP hS
abbrev rm_X7_isWindow : Room := { frames := 1, cells := 0, slots := 0, locals := 25 }
def fX7_isWindow (k : Nat) (d_t : Dat) (x1 : Int32) : Option (Int32) :=
  (fX7_windows k d_t).bind (fun (r1 : Int32) => (fX7_in k x1.toInt64 0 (r1 - 1).toInt64).bind (fun (r3 : Int32) => chb r3 (some r3)))
set_option maxHeartbeats 4000000 in
set_option maxRecDepth 100000 in
theorem mX7_isWindow (l : Launch) (D : va_G) (cs : Nat → ClassId) (sk : Nat → Nat) (h_t : Nat) (q_t : Nat → Nat) (k : Nat) (d_t : Dat) (x1 : Int32) {rv : Int32} (hf : fX7_isWindow k d_t x1 = some rv) : CTi l yX7_isWindow (Cond.code yX7_isWindow cX7_isWindow 2 (some .boolean) :: gtbl) rm_X7_isWindow D cs sk [.ref h_t, .int x1] [oX7 h_t q_t (d_t.1), ((q_t 0), .inl (cs 0, 106, .inl (d_t.2 0)))] (rv) [oX7 h_t q_t (d_t.1), ((q_t 0), .inl (cs 0, 106, .inl (d_t.2 0)))] := by
  refine CTi.ofZ RX7 (by decide +kernel) rfl (Nat.le_of_ble_eq_true rfl) (fun p e s m args below meth c A Q ls M hA hR hl hP hD hS => ?_)
  obtain ⟨hx, hb, hml, hT, hown, hlk, hrt, hK, hN, hSE⟩ := id M
  replace hl : lv_has ls 2 [(0, .ref h_t), (1, .int x1)] := hl
  unfold fX7_isWindow at hf
  refine lv_iload_n hx hb dX7_isWindow_0 rfl (lv_at hl 1 rfl) ?_
  refine lv_i2l (v := x1.toInt64) hx hb dX7_isWindow_1 rfl ?_
  refine lv_lconst (v := 0) hx hb dX7_isWindow_2 rfl ?_
  refine lv_aload_n hx hb dX7_isWindow_3 rfl (lv_at hl 0 rfl) ?_
  obtain ⟨r1, e2, hf⟩ := bind_some hf
  refine callVi (As := []) (rest := [.long 0, .long x1.toInt64]) M (mX7_windows l D cs sk h_t q_t k d_t e2) mw_X7_56 ln_X7_windows ⟨rfl, rfl, Nat.le_of_ble_eq_true rfl, Nat.le_of_ble_eq_true rfl⟩ hP hD hS hA [0, 1] (by decide) rfl rfl (q0 := 0) rfl rfl rfl ⟨Nat.zero_le _, Nat.zero_le _⟩ hl.1 rfl (Nat.le_of_ble_eq_true rfl) dX7_isWindow_4 (fun H locs hP hD hS => ?_)
  replace hP : va_P D vwCl [oX7 h_t q_t (d_t.1), ((q_t 0), .inl (cs 0, 106, .inl (d_t.2 0)))] H := hP
  replace hD : va_D A [oX7 h_t q_t (d_t.1), ((q_t 0), .inl (cs 0, 106, .inl (d_t.2 0)))] := hD
  refine lv_iconst (v := 1) hx hb dX7_isWindow_7 rfl ?_
  refine lv_isub hx hb dX7_isWindow_8 ?_
  refine lv_i2l (v := (r1 - 1).toInt64) hx hb dX7_isWindow_9 rfl ?_
  obtain ⟨r3, e4, hf⟩ := bind_some hf
  refine callSi (As := [.long x1.toInt64, .long 0, .long (r1 - 1).toInt64]) (rest := []) M (mX7_in l D cs sk  k x1.toInt64 0 (r1 - 1).toInt64 e4) mw_X7_60 ln_X7_in ⟨rfl, rfl, Nat.le_of_ble_eq_true rfl, Nat.le_of_ble_eq_true rfl⟩ hP hD hS hA [] (by decide) rfl rfl ⟨Nat.zero_le _, Nat.zero_le _⟩ hl.1 rfl (Nat.le_of_ble_eq_true rfl) dX7_isWindow_10 (fun H locs hP hD hS => ?_)
  replace hP : va_P D vwCl [oX7 h_t q_t (d_t.1), ((q_t 0), .inl (cs 0, 106, .inl (d_t.2 0)))] H := hP
  replace hD : va_D A [oX7 h_t q_t (d_t.1), ((q_t 0), .inl (cs 0, 106, .inl (d_t.2 0)))] := hD
  obtain ⟨h01, hf⟩ := chb_some hf
  have e9 := Option.some.inj hf
  subst e9
  exact hR _ _ _ _ dX7_isWindow_13 h01 hP hS
abbrev rm_X7_isEar : Room := { frames := 1, cells := 0, slots := 0, locals := 25 }
def fX7_isEar (k : Nat) (d_t : Dat) (x1 : Int32) : Option (Int32) :=
  (fX7_ears k d_t).bind (fun (r1 : Int32) => (fX7_in k x1.toInt64 0 (r1 - 1).toInt64).bind (fun (r3 : Int32) => chb r3 (some r3)))
set_option maxHeartbeats 4000000 in
set_option maxRecDepth 100000 in
theorem mX7_isEar (l : Launch) (D : va_G) (cs : Nat → ClassId) (sk : Nat → Nat) (h_t : Nat) (q_t : Nat → Nat) (k : Nat) (d_t : Dat) (x1 : Int32) {rv : Int32} (hf : fX7_isEar k d_t x1 = some rv) : CTi l yX7_isEar (Cond.code yX7_isEar cX7_isEar 2 (some .boolean) :: gtbl) rm_X7_isEar D cs sk [.ref h_t, .int x1] [oX7 h_t q_t (d_t.1), ((q_t 0), .inl (cs 0, 106, .inl (d_t.2 0)))] (rv) [oX7 h_t q_t (d_t.1), ((q_t 0), .inl (cs 0, 106, .inl (d_t.2 0)))] := by
  refine CTi.ofZ RX7 (by decide +kernel) rfl (Nat.le_of_ble_eq_true rfl) (fun p e s m args below meth c A Q ls M hA hR hl hP hD hS => ?_)
  obtain ⟨hx, hb, hml, hT, hown, hlk, hrt, hK, hN, hSE⟩ := id M
  replace hl : lv_has ls 2 [(0, .ref h_t), (1, .int x1)] := hl
  unfold fX7_isEar at hf
  refine lv_iload_n hx hb dX7_isEar_0 rfl (lv_at hl 1 rfl) ?_
  refine lv_i2l (v := x1.toInt64) hx hb dX7_isEar_1 rfl ?_
  refine lv_lconst (v := 0) hx hb dX7_isEar_2 rfl ?_
  refine lv_aload_n hx hb dX7_isEar_3 rfl (lv_at hl 0 rfl) ?_
  obtain ⟨r1, e2, hf⟩ := bind_some hf
  refine callVi (As := []) (rest := [.long 0, .long x1.toInt64]) M (mX7_ears l D cs sk h_t q_t k d_t e2) mw_X7_64 ln_X7_ears ⟨rfl, rfl, Nat.le_of_ble_eq_true rfl, Nat.le_of_ble_eq_true rfl⟩ hP hD hS hA [0, 1] (by decide) rfl rfl (q0 := 0) rfl rfl rfl ⟨Nat.zero_le _, Nat.zero_le _⟩ hl.1 rfl (Nat.le_of_ble_eq_true rfl) dX7_isEar_4 (fun H locs hP hD hS => ?_)
  replace hP : va_P D vwCl [oX7 h_t q_t (d_t.1), ((q_t 0), .inl (cs 0, 106, .inl (d_t.2 0)))] H := hP
  replace hD : va_D A [oX7 h_t q_t (d_t.1), ((q_t 0), .inl (cs 0, 106, .inl (d_t.2 0)))] := hD
  refine lv_iconst (v := 1) hx hb dX7_isEar_7 rfl ?_
  refine lv_isub hx hb dX7_isEar_8 ?_
  refine lv_i2l (v := (r1 - 1).toInt64) hx hb dX7_isEar_9 rfl ?_
  obtain ⟨r3, e4, hf⟩ := bind_some hf
  refine callSi (As := [.long x1.toInt64, .long 0, .long (r1 - 1).toInt64]) (rest := []) M (mX7_in l D cs sk  k x1.toInt64 0 (r1 - 1).toInt64 e4) mw_X7_60 ln_X7_in ⟨rfl, rfl, Nat.le_of_ble_eq_true rfl, Nat.le_of_ble_eq_true rfl⟩ hP hD hS hA [] (by decide) rfl rfl ⟨Nat.zero_le _, Nat.zero_le _⟩ hl.1 rfl (Nat.le_of_ble_eq_true rfl) dX7_isEar_10 (fun H locs hP hD hS => ?_)
  replace hP : va_P D vwCl [oX7 h_t q_t (d_t.1), ((q_t 0), .inl (cs 0, 106, .inl (d_t.2 0)))] H := hP
  replace hD : va_D A [oX7 h_t q_t (d_t.1), ((q_t 0), .inl (cs 0, 106, .inl (d_t.2 0)))] := hD
  obtain ⟨h01, hf⟩ := chb_some hf
  have e9 := Option.some.inj hf
  subst e9
  exact hR _ _ _ _ dX7_isEar_13 h01 hP hS
abbrev rm_X7_isPlayer : Room := { frames := 1, cells := 0, slots := 0, locals := 25 }
def fX7_isPlayer (k : Nat) (d_t : Dat) (x1 : Int32) : Option (Int32) :=
  (fX7_players k d_t).bind (fun (r1 : Int32) => (fX7_in k x1.toInt64 0 (r1 - 1).toInt64).bind (fun (r3 : Int32) => chb r3 (some r3)))
set_option maxHeartbeats 4000000 in
set_option maxRecDepth 100000 in
theorem mX7_isPlayer (l : Launch) (D : va_G) (cs : Nat → ClassId) (sk : Nat → Nat) (h_t : Nat) (q_t : Nat → Nat) (k : Nat) (d_t : Dat) (x1 : Int32) {rv : Int32} (hf : fX7_isPlayer k d_t x1 = some rv) : CTi l yX7_isPlayer (Cond.code yX7_isPlayer cX7_isPlayer 2 (some .boolean) :: gtbl) rm_X7_isPlayer D cs sk [.ref h_t, .int x1] [oX7 h_t q_t (d_t.1), ((q_t 0), .inl (cs 0, 106, .inl (d_t.2 0)))] (rv) [oX7 h_t q_t (d_t.1), ((q_t 0), .inl (cs 0, 106, .inl (d_t.2 0)))] := by
  refine CTi.ofZ RX7 (by decide +kernel) rfl (Nat.le_of_ble_eq_true rfl) (fun p e s m args below meth c A Q ls M hA hR hl hP hD hS => ?_)
  obtain ⟨hx, hb, hml, hT, hown, hlk, hrt, hK, hN, hSE⟩ := id M
  replace hl : lv_has ls 2 [(0, .ref h_t), (1, .int x1)] := hl
  unfold fX7_isPlayer at hf
  refine lv_iload_n hx hb dX7_isPlayer_0 rfl (lv_at hl 1 rfl) ?_
  refine lv_i2l (v := x1.toInt64) hx hb dX7_isPlayer_1 rfl ?_
  refine lv_lconst (v := 0) hx hb dX7_isPlayer_2 rfl ?_
  refine lv_aload_n hx hb dX7_isPlayer_3 rfl (lv_at hl 0 rfl) ?_
  obtain ⟨r1, e2, hf⟩ := bind_some hf
  refine callVi (As := []) (rest := [.long 0, .long x1.toInt64]) M (mX7_players l D cs sk h_t q_t k d_t e2) mw_X7_67 ln_X7_players ⟨rfl, rfl, Nat.le_of_ble_eq_true rfl, Nat.le_of_ble_eq_true rfl⟩ hP hD hS hA [0, 1] (by decide) rfl rfl (q0 := 0) rfl rfl rfl ⟨Nat.zero_le _, Nat.zero_le _⟩ hl.1 rfl (Nat.le_of_ble_eq_true rfl) dX7_isPlayer_4 (fun H locs hP hD hS => ?_)
  replace hP : va_P D vwCl [oX7 h_t q_t (d_t.1), ((q_t 0), .inl (cs 0, 106, .inl (d_t.2 0)))] H := hP
  replace hD : va_D A [oX7 h_t q_t (d_t.1), ((q_t 0), .inl (cs 0, 106, .inl (d_t.2 0)))] := hD
  refine lv_iconst (v := 1) hx hb dX7_isPlayer_7 rfl ?_
  refine lv_isub hx hb dX7_isPlayer_8 ?_
  refine lv_i2l (v := (r1 - 1).toInt64) hx hb dX7_isPlayer_9 rfl ?_
  obtain ⟨r3, e4, hf⟩ := bind_some hf
  refine callSi (As := [.long x1.toInt64, .long 0, .long (r1 - 1).toInt64]) (rest := []) M (mX7_in l D cs sk  k x1.toInt64 0 (r1 - 1).toInt64 e4) mw_X7_60 ln_X7_in ⟨rfl, rfl, Nat.le_of_ble_eq_true rfl, Nat.le_of_ble_eq_true rfl⟩ hP hD hS hA [] (by decide) rfl rfl ⟨Nat.zero_le _, Nat.zero_le _⟩ hl.1 rfl (Nat.le_of_ble_eq_true rfl) dX7_isPlayer_10 (fun H locs hP hD hS => ?_)
  replace hP : va_P D vwCl [oX7 h_t q_t (d_t.1), ((q_t 0), .inl (cs 0, 106, .inl (d_t.2 0)))] H := hP
  replace hD : va_D A [oX7 h_t q_t (d_t.1), ((q_t 0), .inl (cs 0, 106, .inl (d_t.2 0)))] := hD
  obtain ⟨h01, hf⟩ := chb_some hf
  have e9 := Option.some.inj hf
  subst e9
  exact hR _ _ _ _ dX7_isPlayer_13 h01 hP hS
abbrev rm_X7_isPlace : Room := { frames := 1, cells := 0, slots := 0, locals := 25 }
def fX7_isPlace (k : Nat) (x0 : Int32) (x1 : Int32) : Option (Int32) :=
  (fX7_in k x0.toInt64 0 99).bind (fun (r1 : Int32) => (if r1 = 0 then some 0 else (fX7_in k x1.toInt64 0 99).bind (fun (r5 : Int32) => (if r5 = 0 then some 0 else some 1))))
set_option maxHeartbeats 4000000 in
set_option maxRecDepth 100000 in
theorem mX7_isPlace (l : Launch) (D : va_G) (cs : Nat → ClassId) (sk : Nat → Nat)  (k : Nat) (x0 : Int32) (x1 : Int32) {rv : Int32} (hf : fX7_isPlace k x0 x1 = some rv) : CTi l yX7_isPlace (Cond.code yX7_isPlace cX7_isPlace 2 (some .boolean) :: gtbl) rm_X7_isPlace D cs sk [.int x0, .int x1] [] (rv) [] := by
  refine CTi.ofZ RX7 (by decide +kernel) rfl (Nat.le_of_ble_eq_true rfl) (fun p e s m args below meth c A Q ls M hA hR hl hP hD hS => ?_)
  obtain ⟨hx, hb, hml, hT, hown, hlk, hrt, hK, hN, hSE⟩ := id M
  replace hl : lv_has ls 2 [(0, .int x0), (1, .int x1)] := hl
  unfold fX7_isPlace at hf
  refine lv_iload_n hx hb dX7_isPlace_0 rfl (lv_at hl 0 rfl) ?_
  refine lv_i2l (v := x0.toInt64) hx hb dX7_isPlace_1 rfl ?_
  refine lv_lconst (v := 0) hx hb dX7_isPlace_2 rfl ?_
  refine W.ldc2 (v := 99) hx hb hown (hT _ kw_X7_70) rfl dX7_isPlace_3 ?_
  refine W.eq (g2 := F0 m 6 ls [.long 99, .long 0, .long x0.toInt64]) rfl ?_
  obtain ⟨r1, e2, hf⟩ := bind_some hf
  refine callSi (As := [.long x0.toInt64, .long 0, .long 99]) (rest := []) M (mX7_in l D cs sk  k x0.toInt64 0 99 e2) mw_X7_60 ln_X7_in ⟨rfl, rfl, Nat.le_of_ble_eq_true rfl, Nat.le_of_ble_eq_true rfl⟩ hP hD hS hA [] (by decide) rfl rfl ⟨Nat.zero_le _, Nat.zero_le _⟩ hl.1 rfl (Nat.le_of_ble_eq_true rfl) dX7_isPlace_6 (fun H locs hP hD hS => ?_)
  replace hP : va_P D vwCl [] H := hP
  replace hD : va_D A [] := hD
  have g4 := ite_some hf
  refine lv_if_eq (tgt := 28) hx hb dX7_isPlace_9 (by decide) (fun c3 => ?_) (fun c3 => ?_)
  · replace hf := g4.1 c3
    refine lv_iconst (v := 0) hx hb dX7_isPlace_28 rfl ?_
    have e9 := Option.some.inj hf
    subst e9
    exact hR _ _ _ _ dX7_isPlace_29 (Or.inl rfl) hP hS
  · replace hf := g4.2 c3
    refine lv_iload_n hx hb dX7_isPlace_12 rfl (lv_at hl 1 rfl) ?_
    refine lv_i2l (v := x1.toInt64) hx hb dX7_isPlace_13 rfl ?_
    refine lv_lconst (v := 0) hx hb dX7_isPlace_14 rfl ?_
    refine W.ldc2 (v := 99) hx hb hown (hT _ kw_X7_70) rfl dX7_isPlace_15 ?_
    refine W.eq (g2 := F0 m 18 ls [.long 99, .long 0, .long x1.toInt64]) rfl ?_
    obtain ⟨r5, e6, hf⟩ := bind_some hf
    refine callSi (As := [.long x1.toInt64, .long 0, .long 99]) (rest := []) M (mX7_in l D cs sk  k x1.toInt64 0 99 e6) mw_X7_60 ln_X7_in ⟨rfl, rfl, Nat.le_of_ble_eq_true rfl, Nat.le_of_ble_eq_true rfl⟩ hP hD hS hA [] (by decide) rfl rfl ⟨Nat.zero_le _, Nat.zero_le _⟩ hl.1 rfl (Nat.le_of_ble_eq_true rfl) dX7_isPlace_18 (fun H locs hP hD hS => ?_)
    replace hP : va_P D vwCl [] H := hP
    replace hD : va_D A [] := hD
    have g8 := ite_some hf
    refine lv_if_eq (tgt := 28) hx hb dX7_isPlace_21 (by decide) (fun c7 => ?_) (fun c7 => ?_)
    · replace hf := g8.1 c7
      refine lv_iconst (v := 0) hx hb dX7_isPlace_28 rfl ?_
      have e9 := Option.some.inj hf
      subst e9
      exact hR _ _ _ _ dX7_isPlace_29 (Or.inl rfl) hP hS
    · replace hf := g8.2 c7
      refine lv_iconst (v := 1) hx hb dX7_isPlace_24 rfl ?_
      refine lv_goto (tgt := 29) hx hb dX7_isPlace_25 (by decide) ?_
      have e9 := Option.some.inj hf
      subst e9
      exact hR _ _ _ _ dX7_isPlace_29 (Or.inr rfl) hP hS
abbrev rm_X7_of : Room := { frames := 0, cells := 0, slots := 0, locals := 0 }
def fX7_of (k : Nat) (d_t : Dat) (x1 : Int32) (x2 : Int32) : Option (Int32) :=
  chk 106 ((24 + (5 * x1)) + x2) (some ((d_t.2 0) ((24 + (5 * x1)) + x2).toNatClampNeg))
set_option maxHeartbeats 4000000 in
set_option maxRecDepth 100000 in
theorem mX7_of (l : Launch) (D : va_G) (cs : Nat → ClassId) (sk : Nat → Nat) (h_t : Nat) (q_t : Nat → Nat) (k : Nat) (d_t : Dat) (x1 : Int32) (x2 : Int32) {rv : Int32} (hf : fX7_of k d_t x1 x2 = some rv) : CTi l yX7_of (Cond.code yX7_of cX7_of 3 (some .int) :: gtbl) rm_X7_of D cs sk [.ref h_t, .int x1, .int x2] [oX7 h_t q_t (d_t.1), ((q_t 0), .inl (cs 0, 106, .inl (d_t.2 0)))] (rv) [oX7 h_t q_t (d_t.1), ((q_t 0), .inl (cs 0, 106, .inl (d_t.2 0)))] := by
  refine CTi.of RX7 (by decide +kernel) rfl (Nat.le_of_ble_eq_true rfl) (fun p e s m args below meth c A Q ls M hA hR hl hP hD hS => ?_)
  obtain ⟨hx, hb, hml, hT, hown, hlk, hrt, hK, hN, hSE⟩ := id M
  replace hl : lv_has ls 3 [(0, .ref h_t), (1, .int x1), (2, .int x2)] := hl
  unfold fX7_of at hf
  refine lv_aload_n hx hb dX7_of_0 rfl (lv_at hl 0 rfl) ?_
  refine va_get (D := D) (ci := 7) (v := .ref (q_t 0)) (C := RX7) (T := TX7) (N := 23) hx hb hT iX7 hown hK hP 0 rfl rfl 0 (by decide) (hT _ fw_X7_7) (fun _ h9 => h9) rfl dX7_of_1 ?_
  refine lv_bipush (v := 24) hx hb dX7_of_4 rfl ?_
  refine lv_iconst (v := 5) hx hb dX7_of_6 rfl ?_
  refine lv_iload_n hx hb dX7_of_7 rfl (lv_at hl 1 rfl) ?_
  refine lv_imul hx hb dX7_of_8 ?_
  refine lv_iadd hx hb dX7_of_9 ?_
  refine lv_iload_n hx hb dX7_of_10 rfl (lv_at hl 2 rfl) ?_
  refine lv_iadd hx hb dX7_of_11 ?_
  obtain ⟨hi, hf⟩ := chk_some hf
  refine va_iald (D := D) hx hb hK hP 1 0 rfl rfl hi dX7_of_12 ?_
  have e9 := Option.some.inj hf
  subst e9
  exact hR _ _ _ _ dX7_of_13 hP hS
abbrev rm_X7_window : Room := { frames := 2, cells := 0, slots := 0, locals := 46 }
def fX7_window (k : Nat) (d_t : Dat) (x1 : Int32) (x2 : Int32) : Option (Int32 × Dat) :=
  (fX7_isPlace k x1 x2).bind (fun (r1 : Int32) => (if r1 = 0 then (fX7_bad k d_t (-2)).bind (fun (r11 : Int32 × Dat) => some ((r11.1), (d_t.1, (va_up d_t.2 3 (r11.2.2 3))))) else (fX7_windows k d_t).bind (fun (r5 : Int32) => (if r5 = 6 then (fX7_full k d_t).bind (fun (r9 : Int32 × Dat) => some ((r9.1), (d_t.1, (va_up d_t.2 3 (r9.2.2 3))))) else chk 106 (0 + (2 * r5)) (chk 106 ((0 + (2 * r5)) + 1) (chk 106 54 (chk 106 54 (some (r5, (d_t.1, (va_up d_t.2 0 (upd (upd (upd (d_t.2 0) (0 + (2 * r5)).toNatClampNeg x1) ((0 + (2 * r5)) + 1).toNatClampNeg x2) (54 : Int32).toNatClampNeg (((upd (upd (d_t.2 0) (0 + (2 * r5)).toNatClampNeg x1) ((0 + (2 * r5)) + 1).toNatClampNeg x2) (54 : Int32).toNatClampNeg) + 1)))))))))))))
set_option maxHeartbeats 4000000 in
set_option maxRecDepth 100000 in
theorem mX7_window (l : Launch) (D : va_G) (cs : Nat → ClassId) (sk : Nat → Nat) (h_t : Nat) (q_t : Nat → Nat) (k : Nat) (d_t : Dat) (x1 : Int32) (x2 : Int32) {rv : Int32 × Dat} (hf : fX7_window k d_t x1 x2 = some rv) : CTi l yX7_window (Cond.code yX7_window cX7_window 4 (some .int) :: gtbl) rm_X7_window D cs sk [.ref h_t, .int x1, .int x2] [oX7 h_t q_t (d_t.1), ((q_t 0), .inl (cs 0, 106, .inl (d_t.2 0))), ((q_t 3), .inl (cs 0, 3, .inl (d_t.2 3)))] (rv.1) [oX7 h_t q_t (d_t.1), ((q_t 0), .inl (cs 0, 106, .inl (rv.2.2 0))), ((q_t 3), .inl (cs 0, 3, .inl (rv.2.2 3)))] := by
  refine CTi.of RX7 (by decide +kernel) rfl (Nat.le_of_ble_eq_true rfl) (fun p e s m args below meth c A Q ls M hA hR hl hP hD hS => ?_)
  obtain ⟨hx, hb, hml, hT, hown, hlk, hrt, hK, hN, hSE⟩ := id M
  replace hl : lv_has ls 4 [(0, .ref h_t), (1, .int x1), (2, .int x2)] := hl
  unfold fX7_window at hf
  refine lv_iload_n hx hb dX7_window_0 rfl (lv_at hl 1 rfl) ?_
  refine lv_iload_n hx hb dX7_window_1 rfl (lv_at hl 2 rfl) ?_
  obtain ⟨r1, e2, hf⟩ := bind_some hf
  refine callSi (As := [.int x1, .int x2]) (rest := []) M (mX7_isPlace l D cs sk  k x1 x2 e2) mw_X7_72 ln_X7_isPlace ⟨rfl, rfl, Nat.le_of_ble_eq_true rfl, Nat.le_of_ble_eq_true rfl⟩ hP hD hS hA [] (by decide) rfl rfl ⟨Nat.zero_le _, Nat.zero_le _⟩ hl.1 rfl (Nat.le_of_ble_eq_true rfl) dX7_window_2 (fun H locs hP hD hS => ?_)
  replace hP : va_P D vwCl [oX7 h_t q_t (d_t.1), ((q_t 0), .inl (cs 0, 106, .inl (d_t.2 0))), ((q_t 3), .inl (cs 0, 3, .inl (d_t.2 3)))] H := hP
  replace hD : va_D A [oX7 h_t q_t (d_t.1), ((q_t 0), .inl (cs 0, 106, .inl (d_t.2 0))), ((q_t 3), .inl (cs 0, 3, .inl (d_t.2 3)))] := hD
  have g4 := ite_some hf
  refine lv_if_ne (tgt := 15) hx hb dX7_window_5 (by decide) (fun c3 => ?_) (fun c3 => ?_)
  · replace hf := g4.2 c3
    refine lv_aload_n hx hb dX7_window_15 rfl (lv_at hl 0 rfl) ?_
    obtain ⟨r5, e6, hf⟩ := bind_some hf
    refine callVi (As := []) (rest := []) M (mX7_windows l D cs sk h_t q_t k d_t e6) mw_X7_56 ln_X7_windows ⟨rfl, rfl, Nat.le_of_ble_eq_true rfl, Nat.le_of_ble_eq_true rfl⟩ hP hD hS hA [0, 1] (by decide) rfl rfl (q0 := 0) rfl rfl rfl ⟨Nat.zero_le _, Nat.zero_le _⟩ hl.1 rfl (Nat.le_of_ble_eq_true rfl) dX7_window_16 (fun H locs hP hD hS => ?_)
    replace hP : va_P D vwCl [oX7 h_t q_t (d_t.1), ((q_t 0), .inl (cs 0, 106, .inl (d_t.2 0))), ((q_t 3), .inl (cs 0, 3, .inl (d_t.2 3)))] H := hP
    replace hD : va_D A [oX7 h_t q_t (d_t.1), ((q_t 0), .inl (cs 0, 106, .inl (d_t.2 0))), ((q_t 3), .inl (cs 0, 3, .inl (d_t.2 3)))] := hD
    refine lv_istore_n (lv' := [(3, .int r5), (0, .ref h_t), (1, .int x1), (2, .int x2)]) hx hb dX7_window_19 rfl hl (by decide) rfl (fun ls hl => ?_)
    refine lv_iload_n hx hb dX7_window_20 rfl (lv_at hl 0 rfl) ?_
    refine lv_bipush (v := 6) hx hb dX7_window_21 rfl ?_
    have g8 := ite_some hf
    refine lv_icmp_ne (tgt := 31) hx hb dX7_window_23 (by decide) (fun c7 => ?_) (fun c7 => ?_)
    · replace hf := g8.2 c7
      refine lv_aload_n hx hb dX7_window_31 rfl (lv_at hl 1 rfl) ?_
      refine va_get (D := D) (ci := 7) (v := .ref (q_t 0)) (C := RX7) (T := TX7) (N := 23) hx hb hT iX7 hown hK hP 0 rfl rfl 0 (by decide) (hT _ fw_X7_7) (fun _ h9 => h9) rfl dX7_window_32 ?_
      refine lv_iconst (v := 0) hx hb dX7_window_35 rfl ?_
      refine lv_iconst (v := 2) hx hb dX7_window_36 rfl ?_
      refine lv_iload_n hx hb dX7_window_37 rfl (lv_at hl 0 rfl) ?_
      refine lv_imul hx hb dX7_window_38 ?_
      refine lv_iadd hx hb dX7_window_39 ?_
      refine lv_iload_n hx hb dX7_window_40 rfl (lv_at hl 2 rfl) ?_
      obtain ⟨hi, hf⟩ := chk_some hf
      refine va_iast (D := D) hx hb hK hP hD hS 1 0 rfl rfl hi dX7_window_41 (fun H locs hP hD hS => ?_)
      replace hP : va_P D vwCl [oX7 h_t q_t (d_t.1), ((q_t 0), .inl (cs 0, 106, .inl (upd (d_t.2 0) (0 + (2 * r5)).toNatClampNeg x1))), ((q_t 3), .inl (cs 0, 3, .inl (d_t.2 3)))] H := hP
      replace hD : va_D A [oX7 h_t q_t (d_t.1), ((q_t 0), .inl (cs 0, 106, .inl (upd (d_t.2 0) (0 + (2 * r5)).toNatClampNeg x1))), ((q_t 3), .inl (cs 0, 3, .inl (d_t.2 3)))] := hD
      refine lv_aload_n hx hb dX7_window_42 rfl (lv_at hl 1 rfl) ?_
      refine va_get (D := D) (ci := 7) (v := .ref (q_t 0)) (C := RX7) (T := TX7) (N := 23) hx hb hT iX7 hown hK hP 0 rfl rfl 0 (by decide) (hT _ fw_X7_7) (fun _ h9 => h9) rfl dX7_window_43 ?_
      refine lv_iconst (v := 0) hx hb dX7_window_46 rfl ?_
      refine lv_iconst (v := 2) hx hb dX7_window_47 rfl ?_
      refine lv_iload_n hx hb dX7_window_48 rfl (lv_at hl 0 rfl) ?_
      refine lv_imul hx hb dX7_window_49 ?_
      refine lv_iadd hx hb dX7_window_50 ?_
      refine lv_iconst (v := 1) hx hb dX7_window_51 rfl ?_
      refine lv_iadd hx hb dX7_window_52 ?_
      refine lv_iload_n hx hb dX7_window_53 rfl (lv_at hl 3 rfl) ?_
      obtain ⟨hi, hf⟩ := chk_some hf
      refine va_iast (D := D) hx hb hK hP hD hS 1 0 rfl rfl hi dX7_window_54 (fun H locs hP hD hS => ?_)
      replace hP : va_P D vwCl [oX7 h_t q_t (d_t.1), ((q_t 0), .inl (cs 0, 106, .inl (upd (upd (d_t.2 0) (0 + (2 * r5)).toNatClampNeg x1) ((0 + (2 * r5)) + 1).toNatClampNeg x2))), ((q_t 3), .inl (cs 0, 3, .inl (d_t.2 3)))] H := hP
      replace hD : va_D A [oX7 h_t q_t (d_t.1), ((q_t 0), .inl (cs 0, 106, .inl (upd (upd (d_t.2 0) (0 + (2 * r5)).toNatClampNeg x1) ((0 + (2 * r5)) + 1).toNatClampNeg x2))), ((q_t 3), .inl (cs 0, 3, .inl (d_t.2 3)))] := hD
      refine lv_aload_n hx hb dX7_window_55 rfl (lv_at hl 1 rfl) ?_
      refine va_get (D := D) (ci := 7) (v := .ref (q_t 0)) (C := RX7) (T := TX7) (N := 23) hx hb hT iX7 hown hK hP 0 rfl rfl 0 (by decide) (hT _ fw_X7_7) (fun _ h9 => h9) rfl dX7_window_56 ?_
      refine lv_bipush (v := 54) hx hb dX7_window_59 rfl ?_
      refine lv_dup2_11 hx hb dX7_window_61 rfl rfl ?_
      obtain ⟨hi, hf⟩ := chk_some hf
      refine va_iald (D := D) hx hb hK hP 1 0 rfl rfl hi dX7_window_62 ?_
      refine lv_iconst (v := 1) hx hb dX7_window_63 rfl ?_
      refine lv_iadd hx hb dX7_window_64 ?_
      obtain ⟨hi, hf⟩ := chk_some hf
      refine va_iast (D := D) hx hb hK hP hD hS 1 0 rfl rfl hi dX7_window_65 (fun H locs hP hD hS => ?_)
      replace hP : va_P D vwCl [oX7 h_t q_t (d_t.1), ((q_t 0), .inl (cs 0, 106, .inl (upd (upd (upd (d_t.2 0) (0 + (2 * r5)).toNatClampNeg x1) ((0 + (2 * r5)) + 1).toNatClampNeg x2) (54 : Int32).toNatClampNeg (((upd (upd (d_t.2 0) (0 + (2 * r5)).toNatClampNeg x1) ((0 + (2 * r5)) + 1).toNatClampNeg x2) (54 : Int32).toNatClampNeg) + 1)))), ((q_t 3), .inl (cs 0, 3, .inl (d_t.2 3)))] H := hP
      replace hD : va_D A [oX7 h_t q_t (d_t.1), ((q_t 0), .inl (cs 0, 106, .inl (upd (upd (upd (d_t.2 0) (0 + (2 * r5)).toNatClampNeg x1) ((0 + (2 * r5)) + 1).toNatClampNeg x2) (54 : Int32).toNatClampNeg (((upd (upd (d_t.2 0) (0 + (2 * r5)).toNatClampNeg x1) ((0 + (2 * r5)) + 1).toNatClampNeg x2) (54 : Int32).toNatClampNeg) + 1)))), ((q_t 3), .inl (cs 0, 3, .inl (d_t.2 3)))] := hD
      refine lv_iload_n hx hb dX7_window_66 rfl (lv_at hl 0 rfl) ?_
      have e9 := Option.some.inj hf
      subst e9
      exact hR _ _ _ _ dX7_window_67 hP hS
    · replace hf := g8.1 c7
      refine lv_aload_n hx hb dX7_window_26 rfl (lv_at hl 1 rfl) ?_
      obtain ⟨r9, e10, hf⟩ := bind_some hf
      refine callVi (As := []) (rest := []) M (mX7_full l D cs sk h_t q_t k d_t e10) mw_X7_80 ln_X7_full ⟨rfl, rfl, Nat.le_of_ble_eq_true rfl, Nat.le_of_ble_eq_true rfl⟩ hP hD hS hA [0, 2] (by decide) rfl rfl (q0 := 0) rfl rfl rfl ⟨Nat.zero_le _, Nat.zero_le _⟩ hl.1 rfl (Nat.le_of_ble_eq_true rfl) dX7_window_27 (fun H locs hP hD hS => ?_)
      replace hP : va_P D vwCl [oX7 h_t q_t (d_t.1), ((q_t 0), .inl (cs 0, 106, .inl (d_t.2 0))), ((q_t 3), .inl (cs 0, 3, .inl (r9.2.2 3)))] H := hP
      replace hD : va_D A [oX7 h_t q_t (d_t.1), ((q_t 0), .inl (cs 0, 106, .inl (d_t.2 0))), ((q_t 3), .inl (cs 0, 3, .inl (r9.2.2 3)))] := hD
      have e9 := Option.some.inj hf
      subst e9
      exact hR _ _ _ _ dX7_window_30 hP hS
  · replace hf := g4.1 c3
    refine lv_aload_n hx hb dX7_window_8 rfl (lv_at hl 0 rfl) ?_
    refine lv_bipush (v := (-2)) hx hb dX7_window_9 rfl ?_
    obtain ⟨r11, e12, hf⟩ := bind_some hf
    refine callVi (As := [.int (-2)]) (rest := []) M (mX7_bad l D cs sk h_t q_t k d_t (-2) e12) mw_X7_76 ln_X7_bad ⟨rfl, rfl, Nat.le_of_ble_eq_true rfl, Nat.le_of_ble_eq_true rfl⟩ hP hD hS hA [0, 2] (by decide) rfl rfl (q0 := 0) rfl rfl rfl ⟨Nat.zero_le _, Nat.zero_le _⟩ hl.1 rfl (Nat.le_of_ble_eq_true rfl) dX7_window_11 (fun H locs hP hD hS => ?_)
    replace hP : va_P D vwCl [oX7 h_t q_t (d_t.1), ((q_t 0), .inl (cs 0, 106, .inl (d_t.2 0))), ((q_t 3), .inl (cs 0, 3, .inl (r11.2.2 3)))] H := hP
    replace hD : va_D A [oX7 h_t q_t (d_t.1), ((q_t 0), .inl (cs 0, 106, .inl (d_t.2 0))), ((q_t 3), .inl (cs 0, 3, .inl (r11.2.2 3)))] := hD
    have e9 := Option.some.inj hf
    subst e9
    exact hR _ _ _ _ dX7_window_14 hP hS
abbrev rm_X7_ear : Room := { frames := 2, cells := 0, slots := 0, locals := 46 }
def fX7_ear (k : Nat) (d_t : Dat) (x1 : Int32) (x2 : Int32) : Option (Int32 × Dat) :=
  (fX7_isPlace k x1 x2).bind (fun (r1 : Int32) => (if r1 = 0 then (fX7_bad k d_t (-2)).bind (fun (r11 : Int32 × Dat) => some ((r11.1), (d_t.1, (va_up d_t.2 3 (r11.2.2 3))))) else (fX7_ears k d_t).bind (fun (r5 : Int32) => (if r5 = 3 then (fX7_full k d_t).bind (fun (r9 : Int32 × Dat) => some ((r9.1), (d_t.1, (va_up d_t.2 3 (r9.2.2 3))))) else chk 106 (12 + (2 * r5)) (chk 106 ((12 + (2 * r5)) + 1) (chk 106 55 (chk 106 55 (some (r5, (d_t.1, (va_up d_t.2 0 (upd (upd (upd (d_t.2 0) (12 + (2 * r5)).toNatClampNeg x1) ((12 + (2 * r5)) + 1).toNatClampNeg x2) (55 : Int32).toNatClampNeg (((upd (upd (d_t.2 0) (12 + (2 * r5)).toNatClampNeg x1) ((12 + (2 * r5)) + 1).toNatClampNeg x2) (55 : Int32).toNatClampNeg) + 1)))))))))))))
set_option maxHeartbeats 4000000 in
set_option maxRecDepth 100000 in
theorem mX7_ear (l : Launch) (D : va_G) (cs : Nat → ClassId) (sk : Nat → Nat) (h_t : Nat) (q_t : Nat → Nat) (k : Nat) (d_t : Dat) (x1 : Int32) (x2 : Int32) {rv : Int32 × Dat} (hf : fX7_ear k d_t x1 x2 = some rv) : CTi l yX7_ear (Cond.code yX7_ear cX7_ear 4 (some .int) :: gtbl) rm_X7_ear D cs sk [.ref h_t, .int x1, .int x2] [oX7 h_t q_t (d_t.1), ((q_t 0), .inl (cs 0, 106, .inl (d_t.2 0))), ((q_t 3), .inl (cs 0, 3, .inl (d_t.2 3)))] (rv.1) [oX7 h_t q_t (d_t.1), ((q_t 0), .inl (cs 0, 106, .inl (rv.2.2 0))), ((q_t 3), .inl (cs 0, 3, .inl (rv.2.2 3)))] := by
  refine CTi.of RX7 (by decide +kernel) rfl (Nat.le_of_ble_eq_true rfl) (fun p e s m args below meth c A Q ls M hA hR hl hP hD hS => ?_)
  obtain ⟨hx, hb, hml, hT, hown, hlk, hrt, hK, hN, hSE⟩ := id M
  replace hl : lv_has ls 4 [(0, .ref h_t), (1, .int x1), (2, .int x2)] := hl
  unfold fX7_ear at hf
  refine lv_iload_n hx hb dX7_ear_0 rfl (lv_at hl 1 rfl) ?_
  refine lv_iload_n hx hb dX7_ear_1 rfl (lv_at hl 2 rfl) ?_
  obtain ⟨r1, e2, hf⟩ := bind_some hf
  refine callSi (As := [.int x1, .int x2]) (rest := []) M (mX7_isPlace l D cs sk  k x1 x2 e2) mw_X7_72 ln_X7_isPlace ⟨rfl, rfl, Nat.le_of_ble_eq_true rfl, Nat.le_of_ble_eq_true rfl⟩ hP hD hS hA [] (by decide) rfl rfl ⟨Nat.zero_le _, Nat.zero_le _⟩ hl.1 rfl (Nat.le_of_ble_eq_true rfl) dX7_ear_2 (fun H locs hP hD hS => ?_)
  replace hP : va_P D vwCl [oX7 h_t q_t (d_t.1), ((q_t 0), .inl (cs 0, 106, .inl (d_t.2 0))), ((q_t 3), .inl (cs 0, 3, .inl (d_t.2 3)))] H := hP
  replace hD : va_D A [oX7 h_t q_t (d_t.1), ((q_t 0), .inl (cs 0, 106, .inl (d_t.2 0))), ((q_t 3), .inl (cs 0, 3, .inl (d_t.2 3)))] := hD
  have g4 := ite_some hf
  refine lv_if_ne (tgt := 15) hx hb dX7_ear_5 (by decide) (fun c3 => ?_) (fun c3 => ?_)
  · replace hf := g4.2 c3
    refine lv_aload_n hx hb dX7_ear_15 rfl (lv_at hl 0 rfl) ?_
    obtain ⟨r5, e6, hf⟩ := bind_some hf
    refine callVi (As := []) (rest := []) M (mX7_ears l D cs sk h_t q_t k d_t e6) mw_X7_64 ln_X7_ears ⟨rfl, rfl, Nat.le_of_ble_eq_true rfl, Nat.le_of_ble_eq_true rfl⟩ hP hD hS hA [0, 1] (by decide) rfl rfl (q0 := 0) rfl rfl rfl ⟨Nat.zero_le _, Nat.zero_le _⟩ hl.1 rfl (Nat.le_of_ble_eq_true rfl) dX7_ear_16 (fun H locs hP hD hS => ?_)
    replace hP : va_P D vwCl [oX7 h_t q_t (d_t.1), ((q_t 0), .inl (cs 0, 106, .inl (d_t.2 0))), ((q_t 3), .inl (cs 0, 3, .inl (d_t.2 3)))] H := hP
    replace hD : va_D A [oX7 h_t q_t (d_t.1), ((q_t 0), .inl (cs 0, 106, .inl (d_t.2 0))), ((q_t 3), .inl (cs 0, 3, .inl (d_t.2 3)))] := hD
    refine lv_istore_n (lv' := [(3, .int r5), (0, .ref h_t), (1, .int x1), (2, .int x2)]) hx hb dX7_ear_19 rfl hl (by decide) rfl (fun ls hl => ?_)
    refine lv_iload_n hx hb dX7_ear_20 rfl (lv_at hl 0 rfl) ?_
    refine lv_iconst (v := 3) hx hb dX7_ear_21 rfl ?_
    have g8 := ite_some hf
    refine lv_icmp_ne (tgt := 30) hx hb dX7_ear_22 (by decide) (fun c7 => ?_) (fun c7 => ?_)
    · replace hf := g8.2 c7
      refine lv_aload_n hx hb dX7_ear_30 rfl (lv_at hl 1 rfl) ?_
      refine va_get (D := D) (ci := 7) (v := .ref (q_t 0)) (C := RX7) (T := TX7) (N := 23) hx hb hT iX7 hown hK hP 0 rfl rfl 0 (by decide) (hT _ fw_X7_7) (fun _ h9 => h9) rfl dX7_ear_31 ?_
      refine lv_bipush (v := 12) hx hb dX7_ear_34 rfl ?_
      refine lv_iconst (v := 2) hx hb dX7_ear_36 rfl ?_
      refine lv_iload_n hx hb dX7_ear_37 rfl (lv_at hl 0 rfl) ?_
      refine lv_imul hx hb dX7_ear_38 ?_
      refine lv_iadd hx hb dX7_ear_39 ?_
      refine lv_iload_n hx hb dX7_ear_40 rfl (lv_at hl 2 rfl) ?_
      obtain ⟨hi, hf⟩ := chk_some hf
      refine va_iast (D := D) hx hb hK hP hD hS 1 0 rfl rfl hi dX7_ear_41 (fun H locs hP hD hS => ?_)
      replace hP : va_P D vwCl [oX7 h_t q_t (d_t.1), ((q_t 0), .inl (cs 0, 106, .inl (upd (d_t.2 0) (12 + (2 * r5)).toNatClampNeg x1))), ((q_t 3), .inl (cs 0, 3, .inl (d_t.2 3)))] H := hP
      replace hD : va_D A [oX7 h_t q_t (d_t.1), ((q_t 0), .inl (cs 0, 106, .inl (upd (d_t.2 0) (12 + (2 * r5)).toNatClampNeg x1))), ((q_t 3), .inl (cs 0, 3, .inl (d_t.2 3)))] := hD
      refine lv_aload_n hx hb dX7_ear_42 rfl (lv_at hl 1 rfl) ?_
      refine va_get (D := D) (ci := 7) (v := .ref (q_t 0)) (C := RX7) (T := TX7) (N := 23) hx hb hT iX7 hown hK hP 0 rfl rfl 0 (by decide) (hT _ fw_X7_7) (fun _ h9 => h9) rfl dX7_ear_43 ?_
      refine lv_bipush (v := 12) hx hb dX7_ear_46 rfl ?_
      refine lv_iconst (v := 2) hx hb dX7_ear_48 rfl ?_
      refine lv_iload_n hx hb dX7_ear_49 rfl (lv_at hl 0 rfl) ?_
      refine lv_imul hx hb dX7_ear_50 ?_
      refine lv_iadd hx hb dX7_ear_51 ?_
      refine lv_iconst (v := 1) hx hb dX7_ear_52 rfl ?_
      refine lv_iadd hx hb dX7_ear_53 ?_
      refine lv_iload_n hx hb dX7_ear_54 rfl (lv_at hl 3 rfl) ?_
      obtain ⟨hi, hf⟩ := chk_some hf
      refine va_iast (D := D) hx hb hK hP hD hS 1 0 rfl rfl hi dX7_ear_55 (fun H locs hP hD hS => ?_)
      replace hP : va_P D vwCl [oX7 h_t q_t (d_t.1), ((q_t 0), .inl (cs 0, 106, .inl (upd (upd (d_t.2 0) (12 + (2 * r5)).toNatClampNeg x1) ((12 + (2 * r5)) + 1).toNatClampNeg x2))), ((q_t 3), .inl (cs 0, 3, .inl (d_t.2 3)))] H := hP
      replace hD : va_D A [oX7 h_t q_t (d_t.1), ((q_t 0), .inl (cs 0, 106, .inl (upd (upd (d_t.2 0) (12 + (2 * r5)).toNatClampNeg x1) ((12 + (2 * r5)) + 1).toNatClampNeg x2))), ((q_t 3), .inl (cs 0, 3, .inl (d_t.2 3)))] := hD
      refine lv_aload_n hx hb dX7_ear_56 rfl (lv_at hl 1 rfl) ?_
      refine va_get (D := D) (ci := 7) (v := .ref (q_t 0)) (C := RX7) (T := TX7) (N := 23) hx hb hT iX7 hown hK hP 0 rfl rfl 0 (by decide) (hT _ fw_X7_7) (fun _ h9 => h9) rfl dX7_ear_57 ?_
      refine lv_bipush (v := 55) hx hb dX7_ear_60 rfl ?_
      refine lv_dup2_11 hx hb dX7_ear_62 rfl rfl ?_
      obtain ⟨hi, hf⟩ := chk_some hf
      refine va_iald (D := D) hx hb hK hP 1 0 rfl rfl hi dX7_ear_63 ?_
      refine lv_iconst (v := 1) hx hb dX7_ear_64 rfl ?_
      refine lv_iadd hx hb dX7_ear_65 ?_
      obtain ⟨hi, hf⟩ := chk_some hf
      refine va_iast (D := D) hx hb hK hP hD hS 1 0 rfl rfl hi dX7_ear_66 (fun H locs hP hD hS => ?_)
      replace hP : va_P D vwCl [oX7 h_t q_t (d_t.1), ((q_t 0), .inl (cs 0, 106, .inl (upd (upd (upd (d_t.2 0) (12 + (2 * r5)).toNatClampNeg x1) ((12 + (2 * r5)) + 1).toNatClampNeg x2) (55 : Int32).toNatClampNeg (((upd (upd (d_t.2 0) (12 + (2 * r5)).toNatClampNeg x1) ((12 + (2 * r5)) + 1).toNatClampNeg x2) (55 : Int32).toNatClampNeg) + 1)))), ((q_t 3), .inl (cs 0, 3, .inl (d_t.2 3)))] H := hP
      replace hD : va_D A [oX7 h_t q_t (d_t.1), ((q_t 0), .inl (cs 0, 106, .inl (upd (upd (upd (d_t.2 0) (12 + (2 * r5)).toNatClampNeg x1) ((12 + (2 * r5)) + 1).toNatClampNeg x2) (55 : Int32).toNatClampNeg (((upd (upd (d_t.2 0) (12 + (2 * r5)).toNatClampNeg x1) ((12 + (2 * r5)) + 1).toNatClampNeg x2) (55 : Int32).toNatClampNeg) + 1)))), ((q_t 3), .inl (cs 0, 3, .inl (d_t.2 3)))] := hD
      refine lv_iload_n hx hb dX7_ear_67 rfl (lv_at hl 0 rfl) ?_
      have e9 := Option.some.inj hf
      subst e9
      exact hR _ _ _ _ dX7_ear_68 hP hS
    · replace hf := g8.1 c7
      refine lv_aload_n hx hb dX7_ear_25 rfl (lv_at hl 1 rfl) ?_
      obtain ⟨r9, e10, hf⟩ := bind_some hf
      refine callVi (As := []) (rest := []) M (mX7_full l D cs sk h_t q_t k d_t e10) mw_X7_80 ln_X7_full ⟨rfl, rfl, Nat.le_of_ble_eq_true rfl, Nat.le_of_ble_eq_true rfl⟩ hP hD hS hA [0, 2] (by decide) rfl rfl (q0 := 0) rfl rfl rfl ⟨Nat.zero_le _, Nat.zero_le _⟩ hl.1 rfl (Nat.le_of_ble_eq_true rfl) dX7_ear_26 (fun H locs hP hD hS => ?_)
      replace hP : va_P D vwCl [oX7 h_t q_t (d_t.1), ((q_t 0), .inl (cs 0, 106, .inl (d_t.2 0))), ((q_t 3), .inl (cs 0, 3, .inl (r9.2.2 3)))] H := hP
      replace hD : va_D A [oX7 h_t q_t (d_t.1), ((q_t 0), .inl (cs 0, 106, .inl (d_t.2 0))), ((q_t 3), .inl (cs 0, 3, .inl (r9.2.2 3)))] := hD
      have e9 := Option.some.inj hf
      subst e9
      exact hR _ _ _ _ dX7_ear_29 hP hS
  · replace hf := g4.1 c3
    refine lv_aload_n hx hb dX7_ear_8 rfl (lv_at hl 0 rfl) ?_
    refine lv_bipush (v := (-2)) hx hb dX7_ear_9 rfl ?_
    obtain ⟨r11, e12, hf⟩ := bind_some hf
    refine callVi (As := [.int (-2)]) (rest := []) M (mX7_bad l D cs sk h_t q_t k d_t (-2) e12) mw_X7_76 ln_X7_bad ⟨rfl, rfl, Nat.le_of_ble_eq_true rfl, Nat.le_of_ble_eq_true rfl⟩ hP hD hS hA [0, 2] (by decide) rfl rfl (q0 := 0) rfl rfl rfl ⟨Nat.zero_le _, Nat.zero_le _⟩ hl.1 rfl (Nat.le_of_ble_eq_true rfl) dX7_ear_11 (fun H locs hP hD hS => ?_)
    replace hP : va_P D vwCl [oX7 h_t q_t (d_t.1), ((q_t 0), .inl (cs 0, 106, .inl (d_t.2 0))), ((q_t 3), .inl (cs 0, 3, .inl (r11.2.2 3)))] H := hP
    replace hD : va_D A [oX7 h_t q_t (d_t.1), ((q_t 0), .inl (cs 0, 106, .inl (d_t.2 0))), ((q_t 3), .inl (cs 0, 3, .inl (r11.2.2 3)))] := hD
    have e9 := Option.some.inj hf
    subst e9
    exact hR _ _ _ _ dX7_ear_14 hP hS
abbrev rm_X7_mill : Room := { frames := 2, cells := 0, slots := 0, locals := 46 }
def fX7_mill (k : Nat) (d_t : Dat) (x1 : Int32) (x2 : Int32) : Option (Int32 × Dat) :=
  (fX7_isPlace k x1 x2).bind (fun (r1 : Int32) => (if r1 = 0 then (fX7_bad k d_t (-2)).bind (fun (r5 : Int32 × Dat) => some ((r5.1), (d_t.1, (va_up d_t.2 3 (r5.2.2 3))))) else chk 106 18 (chk 106 19 (some (1, (d_t.1, (va_up d_t.2 0 (upd (upd (d_t.2 0) (18 : Int32).toNatClampNeg x1) (19 : Int32).toNatClampNeg x2))))))))
set_option maxHeartbeats 4000000 in
set_option maxRecDepth 100000 in
theorem mX7_mill (l : Launch) (D : va_G) (cs : Nat → ClassId) (sk : Nat → Nat) (h_t : Nat) (q_t : Nat → Nat) (k : Nat) (d_t : Dat) (x1 : Int32) (x2 : Int32) {rv : Int32 × Dat} (hf : fX7_mill k d_t x1 x2 = some rv) : CTi l yX7_mill (Cond.code yX7_mill cX7_mill 3 (some .int) :: gtbl) rm_X7_mill D cs sk [.ref h_t, .int x1, .int x2] [oX7 h_t q_t (d_t.1), ((q_t 0), .inl (cs 0, 106, .inl (d_t.2 0))), ((q_t 3), .inl (cs 0, 3, .inl (d_t.2 3)))] (rv.1) [oX7 h_t q_t (d_t.1), ((q_t 0), .inl (cs 0, 106, .inl (rv.2.2 0))), ((q_t 3), .inl (cs 0, 3, .inl (rv.2.2 3)))] := by
  refine CTi.of RX7 (by decide +kernel) rfl (Nat.le_of_ble_eq_true rfl) (fun p e s m args below meth c A Q ls M hA hR hl hP hD hS => ?_)
  obtain ⟨hx, hb, hml, hT, hown, hlk, hrt, hK, hN, hSE⟩ := id M
  replace hl : lv_has ls 3 [(0, .ref h_t), (1, .int x1), (2, .int x2)] := hl
  unfold fX7_mill at hf
  refine lv_iload_n hx hb dX7_mill_0 rfl (lv_at hl 1 rfl) ?_
  refine lv_iload_n hx hb dX7_mill_1 rfl (lv_at hl 2 rfl) ?_
  obtain ⟨r1, e2, hf⟩ := bind_some hf
  refine callSi (As := [.int x1, .int x2]) (rest := []) M (mX7_isPlace l D cs sk  k x1 x2 e2) mw_X7_72 ln_X7_isPlace ⟨rfl, rfl, Nat.le_of_ble_eq_true rfl, Nat.le_of_ble_eq_true rfl⟩ hP hD hS hA [] (by decide) rfl rfl ⟨Nat.zero_le _, Nat.zero_le _⟩ hl.1 rfl (Nat.le_of_ble_eq_true rfl) dX7_mill_2 (fun H locs hP hD hS => ?_)
  replace hP : va_P D vwCl [oX7 h_t q_t (d_t.1), ((q_t 0), .inl (cs 0, 106, .inl (d_t.2 0))), ((q_t 3), .inl (cs 0, 3, .inl (d_t.2 3)))] H := hP
  replace hD : va_D A [oX7 h_t q_t (d_t.1), ((q_t 0), .inl (cs 0, 106, .inl (d_t.2 0))), ((q_t 3), .inl (cs 0, 3, .inl (d_t.2 3)))] := hD
  have g4 := ite_some hf
  refine lv_if_ne (tgt := 15) hx hb dX7_mill_5 (by decide) (fun c3 => ?_) (fun c3 => ?_)
  · replace hf := g4.2 c3
    refine lv_aload_n hx hb dX7_mill_15 rfl (lv_at hl 0 rfl) ?_
    refine va_get (D := D) (ci := 7) (v := .ref (q_t 0)) (C := RX7) (T := TX7) (N := 23) hx hb hT iX7 hown hK hP 0 rfl rfl 0 (by decide) (hT _ fw_X7_7) (fun _ h9 => h9) rfl dX7_mill_16 ?_
    refine lv_bipush (v := 18) hx hb dX7_mill_19 rfl ?_
    refine lv_iload_n hx hb dX7_mill_21 rfl (lv_at hl 1 rfl) ?_
    obtain ⟨hi, hf⟩ := chk_some hf
    refine va_iast (D := D) hx hb hK hP hD hS 1 0 rfl rfl hi dX7_mill_22 (fun H locs hP hD hS => ?_)
    replace hP : va_P D vwCl [oX7 h_t q_t (d_t.1), ((q_t 0), .inl (cs 0, 106, .inl (upd (d_t.2 0) (18 : Int32).toNatClampNeg x1))), ((q_t 3), .inl (cs 0, 3, .inl (d_t.2 3)))] H := hP
    replace hD : va_D A [oX7 h_t q_t (d_t.1), ((q_t 0), .inl (cs 0, 106, .inl (upd (d_t.2 0) (18 : Int32).toNatClampNeg x1))), ((q_t 3), .inl (cs 0, 3, .inl (d_t.2 3)))] := hD
    refine lv_aload_n hx hb dX7_mill_23 rfl (lv_at hl 0 rfl) ?_
    refine va_get (D := D) (ci := 7) (v := .ref (q_t 0)) (C := RX7) (T := TX7) (N := 23) hx hb hT iX7 hown hK hP 0 rfl rfl 0 (by decide) (hT _ fw_X7_7) (fun _ h9 => h9) rfl dX7_mill_24 ?_
    refine lv_bipush (v := 19) hx hb dX7_mill_27 rfl ?_
    refine lv_iload_n hx hb dX7_mill_29 rfl (lv_at hl 2 rfl) ?_
    obtain ⟨hi, hf⟩ := chk_some hf
    refine va_iast (D := D) hx hb hK hP hD hS 1 0 rfl rfl hi dX7_mill_30 (fun H locs hP hD hS => ?_)
    replace hP : va_P D vwCl [oX7 h_t q_t (d_t.1), ((q_t 0), .inl (cs 0, 106, .inl (upd (upd (d_t.2 0) (18 : Int32).toNatClampNeg x1) (19 : Int32).toNatClampNeg x2))), ((q_t 3), .inl (cs 0, 3, .inl (d_t.2 3)))] H := hP
    replace hD : va_D A [oX7 h_t q_t (d_t.1), ((q_t 0), .inl (cs 0, 106, .inl (upd (upd (d_t.2 0) (18 : Int32).toNatClampNeg x1) (19 : Int32).toNatClampNeg x2))), ((q_t 3), .inl (cs 0, 3, .inl (d_t.2 3)))] := hD
    refine lv_iconst (v := 1) hx hb dX7_mill_31 rfl ?_
    have e9 := Option.some.inj hf
    subst e9
    exact hR _ _ _ _ dX7_mill_32 hP hS
  · replace hf := g4.1 c3
    refine lv_aload_n hx hb dX7_mill_8 rfl (lv_at hl 0 rfl) ?_
    refine lv_bipush (v := (-2)) hx hb dX7_mill_9 rfl ?_
    obtain ⟨r5, e6, hf⟩ := bind_some hf
    refine callVi (As := [.int (-2)]) (rest := []) M (mX7_bad l D cs sk h_t q_t k d_t (-2) e6) mw_X7_76 ln_X7_bad ⟨rfl, rfl, Nat.le_of_ble_eq_true rfl, Nat.le_of_ble_eq_true rfl⟩ hP hD hS hA [0, 2] (by decide) rfl rfl (q0 := 0) rfl rfl rfl ⟨Nat.zero_le _, Nat.zero_le _⟩ hl.1 rfl (Nat.le_of_ble_eq_true rfl) dX7_mill_11 (fun H locs hP hD hS => ?_)
    replace hP : va_P D vwCl [oX7 h_t q_t (d_t.1), ((q_t 0), .inl (cs 0, 106, .inl (d_t.2 0))), ((q_t 3), .inl (cs 0, 3, .inl (r5.2.2 3)))] H := hP
    replace hD : va_D A [oX7 h_t q_t (d_t.1), ((q_t 0), .inl (cs 0, 106, .inl (d_t.2 0))), ((q_t 3), .inl (cs 0, 3, .inl (r5.2.2 3)))] := hD
    have e9 := Option.some.inj hf
    subst e9
    exact hR _ _ _ _ dX7_mill_14 hP hS
abbrev rm_X7_isNumber : Room := { frames := 1, cells := 0, slots := 0, locals := 25 }
def fX7_isNumber (k : Nat) (x0 : Int32) (x1 : Int32) : Option (Int32) :=
  (if x0 = 0 then (fX7_in k x1.toInt64 1 9).bind (fun (r3 : Int32) => chb r3 (some r3)) else (if x0 = 1 then (fX7_in k x1.toInt64 (-2) 2).bind (fun (r7 : Int32) => chb r7 (some r7)) else (if x0 = 2 then (fX7_in k x1.toInt64 (-2) 2).bind (fun (r11 : Int32) => chb r11 (some r11)) else (if x0 = 3 then (fX7_in k x1.toInt64 0 999).bind (fun (r15 : Int32) => (if r15 = 0 then some 0 else some 1)) else some 0))))
set_option maxHeartbeats 4000000 in
set_option maxRecDepth 100000 in
theorem mX7_isNumber (l : Launch) (D : va_G) (cs : Nat → ClassId) (sk : Nat → Nat)  (k : Nat) (x0 : Int32) (x1 : Int32) {rv : Int32} (hf : fX7_isNumber k x0 x1 = some rv) : CTi l yX7_isNumber (Cond.code yX7_isNumber cX7_isNumber 2 (some .boolean) :: gtbl) rm_X7_isNumber D cs sk [.int x0, .int x1] [] (rv) [] := by
  refine CTi.ofZ RX7 (by decide +kernel) rfl (Nat.le_of_ble_eq_true rfl) (fun p e s m args below meth c A Q ls M hA hR hl hP hD hS => ?_)
  obtain ⟨hx, hb, hml, hT, hown, hlk, hrt, hK, hN, hSE⟩ := id M
  replace hl : lv_has ls 2 [(0, .int x0), (1, .int x1)] := hl
  unfold fX7_isNumber at hf
  refine lv_iload_n hx hb dX7_isNumber_0 rfl (lv_at hl 0 rfl) ?_
  have g2 := ite_some hf
  by_cases c1 : x0 = 0
  · replace hf := g2.1 c1
    refine lv_tableIn (off := 27) (tgt := 28) hx hb dX7_isNumber_1 (by rw [c1]; decide) (by rw [c1]; decide) (by rw [c1]; rfl) (by decide) ?_
    refine lv_iload_n hx hb dX7_isNumber_28 rfl (lv_at hl 1 rfl) ?_
    refine lv_i2l (v := x1.toInt64) hx hb dX7_isNumber_29 rfl ?_
    refine lv_lconst (v := 1) hx hb dX7_isNumber_30 rfl ?_
    refine W.ldc2 (v := 9) hx hb hown (hT _ kw_X7_83) rfl dX7_isNumber_31 ?_
    refine W.eq (g2 := F0 m 34 ls [.long 9, .long 1, .long x1.toInt64]) rfl ?_
    obtain ⟨r3, e4, hf⟩ := bind_some hf
    refine callSi (As := [.long x1.toInt64, .long 1, .long 9]) (rest := []) M (mX7_in l D cs sk  k x1.toInt64 1 9 e4) mw_X7_60 ln_X7_in ⟨rfl, rfl, Nat.le_of_ble_eq_true rfl, Nat.le_of_ble_eq_true rfl⟩ hP hD hS hA [] (by decide) rfl rfl ⟨Nat.zero_le _, Nat.zero_le _⟩ hl.1 rfl (Nat.le_of_ble_eq_true rfl) dX7_isNumber_34 (fun H locs hP hD hS => ?_)
    replace hP : va_P D vwCl [] H := hP
    replace hD : va_D A [] := hD
    obtain ⟨h01, hf⟩ := chb_some hf
    have e9 := Option.some.inj hf
    subst e9
    exact hR _ _ _ _ dX7_isNumber_37 h01 hP hS
  · replace hf := g2.2 c1
    have g6 := ite_some hf
    by_cases c5 : x0 = 1
    · replace hf := g6.1 c5
      refine lv_tableIn (off := 37) (tgt := 38) hx hb dX7_isNumber_1 (by rw [c5]; decide) (by rw [c5]; decide) (by rw [c5]; rfl) (by decide) ?_
      refine lv_iload_n hx hb dX7_isNumber_38 rfl (lv_at hl 1 rfl) ?_
      refine lv_i2l (v := x1.toInt64) hx hb dX7_isNumber_39 rfl ?_
      refine W.ldc2 (v := (-2)) hx hb hown (hT _ kw_X7_85) rfl dX7_isNumber_40 ?_
      refine W.eq (g2 := F0 m 43 ls [.long (-2), .long x1.toInt64]) rfl ?_
      refine W.ldc2 (v := 2) hx hb hown (hT _ kw_X7_87) rfl dX7_isNumber_43 ?_
      refine W.eq (g2 := F0 m 46 ls [.long 2, .long (-2), .long x1.toInt64]) rfl ?_
      obtain ⟨r7, e8, hf⟩ := bind_some hf
      refine callSi (As := [.long x1.toInt64, .long (-2), .long 2]) (rest := []) M (mX7_in l D cs sk  k x1.toInt64 (-2) 2 e8) mw_X7_60 ln_X7_in ⟨rfl, rfl, Nat.le_of_ble_eq_true rfl, Nat.le_of_ble_eq_true rfl⟩ hP hD hS hA [] (by decide) rfl rfl ⟨Nat.zero_le _, Nat.zero_le _⟩ hl.1 rfl (Nat.le_of_ble_eq_true rfl) dX7_isNumber_46 (fun H locs hP hD hS => ?_)
      replace hP : va_P D vwCl [] H := hP
      replace hD : va_D A [] := hD
      obtain ⟨h01, hf⟩ := chb_some hf
      have e9 := Option.some.inj hf
      subst e9
      exact hR _ _ _ _ dX7_isNumber_49 h01 hP hS
    · replace hf := g6.2 c5
      have g10 := ite_some hf
      by_cases c9 : x0 = 2
      · replace hf := g10.1 c9
        refine lv_tableIn (off := 37) (tgt := 38) hx hb dX7_isNumber_1 (by rw [c9]; decide) (by rw [c9]; decide) (by rw [c9]; rfl) (by decide) ?_
        refine lv_iload_n hx hb dX7_isNumber_38 rfl (lv_at hl 1 rfl) ?_
        refine lv_i2l (v := x1.toInt64) hx hb dX7_isNumber_39 rfl ?_
        refine W.ldc2 (v := (-2)) hx hb hown (hT _ kw_X7_85) rfl dX7_isNumber_40 ?_
        refine W.eq (g2 := F0 m 43 ls [.long (-2), .long x1.toInt64]) rfl ?_
        refine W.ldc2 (v := 2) hx hb hown (hT _ kw_X7_87) rfl dX7_isNumber_43 ?_
        refine W.eq (g2 := F0 m 46 ls [.long 2, .long (-2), .long x1.toInt64]) rfl ?_
        obtain ⟨r11, e12, hf⟩ := bind_some hf
        refine callSi (As := [.long x1.toInt64, .long (-2), .long 2]) (rest := []) M (mX7_in l D cs sk  k x1.toInt64 (-2) 2 e12) mw_X7_60 ln_X7_in ⟨rfl, rfl, Nat.le_of_ble_eq_true rfl, Nat.le_of_ble_eq_true rfl⟩ hP hD hS hA [] (by decide) rfl rfl ⟨Nat.zero_le _, Nat.zero_le _⟩ hl.1 rfl (Nat.le_of_ble_eq_true rfl) dX7_isNumber_46 (fun H locs hP hD hS => ?_)
        replace hP : va_P D vwCl [] H := hP
        replace hD : va_D A [] := hD
        obtain ⟨h01, hf⟩ := chb_some hf
        have e9 := Option.some.inj hf
        subst e9
        exact hR _ _ _ _ dX7_isNumber_49 h01 hP hS
      · replace hf := g10.2 c9
        refine lv_tableOut (tgt := 50) hx hb dX7_isNumber_1 (tsw_out3 c1 c5 c9) (by decide) ?_
        refine lv_iload_n hx hb dX7_isNumber_50 rfl (lv_at hl 0 rfl) ?_
        refine lv_iconst (v := 3) hx hb dX7_isNumber_51 rfl ?_
        have g14 := ite_some hf
        refine lv_icmp_ne (tgt := 71) hx hb dX7_isNumber_52 (by decide) (fun c13 => ?_) (fun c13 => ?_)
        · replace hf := g14.2 c13
          refine lv_iconst (v := 0) hx hb dX7_isNumber_71 rfl ?_
          have e9 := Option.some.inj hf
          subst e9
          exact hR _ _ _ _ dX7_isNumber_72 (Or.inl rfl) hP hS
        · replace hf := g14.1 c13
          refine lv_iload_n hx hb dX7_isNumber_55 rfl (lv_at hl 1 rfl) ?_
          refine lv_i2l (v := x1.toInt64) hx hb dX7_isNumber_56 rfl ?_
          refine lv_lconst (v := 0) hx hb dX7_isNumber_57 rfl ?_
          refine W.ldc2 (v := 999) hx hb hown (hT _ kw_X7_89) rfl dX7_isNumber_58 ?_
          refine W.eq (g2 := F0 m 61 ls [.long 999, .long 0, .long x1.toInt64]) rfl ?_
          obtain ⟨r15, e16, hf⟩ := bind_some hf
          refine callSi (As := [.long x1.toInt64, .long 0, .long 999]) (rest := []) M (mX7_in l D cs sk  k x1.toInt64 0 999 e16) mw_X7_60 ln_X7_in ⟨rfl, rfl, Nat.le_of_ble_eq_true rfl, Nat.le_of_ble_eq_true rfl⟩ hP hD hS hA [] (by decide) rfl rfl ⟨Nat.zero_le _, Nat.zero_le _⟩ hl.1 rfl (Nat.le_of_ble_eq_true rfl) dX7_isNumber_61 (fun H locs hP hD hS => ?_)
          replace hP : va_P D vwCl [] H := hP
          replace hD : va_D A [] := hD
          have g18 := ite_some hf
          refine lv_if_eq (tgt := 71) hx hb dX7_isNumber_64 (by decide) (fun c17 => ?_) (fun c17 => ?_)
          · replace hf := g18.1 c17
            refine lv_iconst (v := 0) hx hb dX7_isNumber_71 rfl ?_
            have e9 := Option.some.inj hf
            subst e9
            exact hR _ _ _ _ dX7_isNumber_72 (Or.inl rfl) hP hS
          · replace hf := g18.2 c17
            refine lv_iconst (v := 1) hx hb dX7_isNumber_67 rfl ?_
            refine lv_goto (tgt := 72) hx hb dX7_isNumber_68 (by decide) ?_
            have e9 := Option.some.inj hf
            subst e9
            exact hR _ _ _ _ dX7_isNumber_72 (Or.inr rfl) hP hS
abbrev rm_X7_put : Room := { frames := 2, cells := 0, slots := 0, locals := 46 }
def fX7_put (k : Nat) (d_t : Dat) (x1 : Int32) (x2 : Int32) : Option (Int32 × Dat) :=
  (fX7_isNumber k x1 x2).bind (fun (r1 : Int32) => (if r1 = 0 then (fX7_bad k d_t (-10)).bind (fun (r5 : Int32 × Dat) => some ((r5.1), (d_t.1, (va_up d_t.2 3 (r5.2.2 3))))) else chk 106 (20 + x1) (chk 106 (20 + x1) (some (((d_t.2 0) (20 + x1).toNatClampNeg), (d_t.1, (va_up d_t.2 0 (upd (d_t.2 0) (20 + x1).toNatClampNeg x2))))))))
set_option maxHeartbeats 4000000 in
set_option maxRecDepth 100000 in
theorem mX7_put (l : Launch) (D : va_G) (cs : Nat → ClassId) (sk : Nat → Nat) (h_t : Nat) (q_t : Nat → Nat) (k : Nat) (d_t : Dat) (x1 : Int32) (x2 : Int32) {rv : Int32 × Dat} (hf : fX7_put k d_t x1 x2 = some rv) : CTi l yX7_put (Cond.code yX7_put cX7_put 4 (some .int) :: gtbl) rm_X7_put D cs sk [.ref h_t, .int x1, .int x2] [oX7 h_t q_t (d_t.1), ((q_t 0), .inl (cs 0, 106, .inl (d_t.2 0))), ((q_t 3), .inl (cs 0, 3, .inl (d_t.2 3)))] (rv.1) [oX7 h_t q_t (d_t.1), ((q_t 0), .inl (cs 0, 106, .inl (rv.2.2 0))), ((q_t 3), .inl (cs 0, 3, .inl (rv.2.2 3)))] := by
  refine CTi.of RX7 (by decide +kernel) rfl (Nat.le_of_ble_eq_true rfl) (fun p e s m args below meth c A Q ls M hA hR hl hP hD hS => ?_)
  obtain ⟨hx, hb, hml, hT, hown, hlk, hrt, hK, hN, hSE⟩ := id M
  replace hl : lv_has ls 4 [(0, .ref h_t), (1, .int x1), (2, .int x2)] := hl
  unfold fX7_put at hf
  refine lv_iload_n hx hb dX7_put_0 rfl (lv_at hl 1 rfl) ?_
  refine lv_iload_n hx hb dX7_put_1 rfl (lv_at hl 2 rfl) ?_
  obtain ⟨r1, e2, hf⟩ := bind_some hf
  refine callSi (As := [.int x1, .int x2]) (rest := []) M (mX7_isNumber l D cs sk  k x1 x2 e2) mw_X7_91 ln_X7_isNumber ⟨rfl, rfl, Nat.le_of_ble_eq_true rfl, Nat.le_of_ble_eq_true rfl⟩ hP hD hS hA [] (by decide) rfl rfl ⟨Nat.zero_le _, Nat.zero_le _⟩ hl.1 rfl (Nat.le_of_ble_eq_true rfl) dX7_put_2 (fun H locs hP hD hS => ?_)
  replace hP : va_P D vwCl [oX7 h_t q_t (d_t.1), ((q_t 0), .inl (cs 0, 106, .inl (d_t.2 0))), ((q_t 3), .inl (cs 0, 3, .inl (d_t.2 3)))] H := hP
  replace hD : va_D A [oX7 h_t q_t (d_t.1), ((q_t 0), .inl (cs 0, 106, .inl (d_t.2 0))), ((q_t 3), .inl (cs 0, 3, .inl (d_t.2 3)))] := hD
  have g4 := ite_some hf
  refine lv_if_ne (tgt := 15) hx hb dX7_put_5 (by decide) (fun c3 => ?_) (fun c3 => ?_)
  · replace hf := g4.2 c3
    refine lv_aload_n hx hb dX7_put_15 rfl (lv_at hl 0 rfl) ?_
    refine va_get (D := D) (ci := 7) (v := .ref (q_t 0)) (C := RX7) (T := TX7) (N := 23) hx hb hT iX7 hown hK hP 0 rfl rfl 0 (by decide) (hT _ fw_X7_7) (fun _ h9 => h9) rfl dX7_put_16 ?_
    refine lv_bipush (v := 20) hx hb dX7_put_19 rfl ?_
    refine lv_iload_n hx hb dX7_put_21 rfl (lv_at hl 1 rfl) ?_
    refine lv_iadd hx hb dX7_put_22 ?_
    obtain ⟨hi, hf⟩ := chk_some hf
    refine va_iald (D := D) hx hb hK hP 1 0 rfl rfl hi dX7_put_23 ?_
    refine lv_istore_n (lv' := [(3, .int ((d_t.2 0) (20 + x1).toNatClampNeg)), (0, .ref h_t), (1, .int x1), (2, .int x2)]) hx hb dX7_put_24 rfl hl (by decide) rfl (fun ls hl => ?_)
    refine lv_aload_n hx hb dX7_put_25 rfl (lv_at hl 1 rfl) ?_
    refine va_get (D := D) (ci := 7) (v := .ref (q_t 0)) (C := RX7) (T := TX7) (N := 23) hx hb hT iX7 hown hK hP 0 rfl rfl 0 (by decide) (hT _ fw_X7_7) (fun _ h9 => h9) rfl dX7_put_26 ?_
    refine lv_bipush (v := 20) hx hb dX7_put_29 rfl ?_
    refine lv_iload_n hx hb dX7_put_31 rfl (lv_at hl 2 rfl) ?_
    refine lv_iadd hx hb dX7_put_32 ?_
    refine lv_iload_n hx hb dX7_put_33 rfl (lv_at hl 3 rfl) ?_
    obtain ⟨hi, hf⟩ := chk_some hf
    refine va_iast (D := D) hx hb hK hP hD hS 1 0 rfl rfl hi dX7_put_34 (fun H locs hP hD hS => ?_)
    replace hP : va_P D vwCl [oX7 h_t q_t (d_t.1), ((q_t 0), .inl (cs 0, 106, .inl (upd (d_t.2 0) (20 + x1).toNatClampNeg x2))), ((q_t 3), .inl (cs 0, 3, .inl (d_t.2 3)))] H := hP
    replace hD : va_D A [oX7 h_t q_t (d_t.1), ((q_t 0), .inl (cs 0, 106, .inl (upd (d_t.2 0) (20 + x1).toNatClampNeg x2))), ((q_t 3), .inl (cs 0, 3, .inl (d_t.2 3)))] := hD
    refine lv_iload_n hx hb dX7_put_35 rfl (lv_at hl 0 rfl) ?_
    have e9 := Option.some.inj hf
    subst e9
    exact hR _ _ _ _ dX7_put_36 hP hS
  · replace hf := g4.1 c3
    refine lv_aload_n hx hb dX7_put_8 rfl (lv_at hl 0 rfl) ?_
    refine lv_bipush (v := (-10)) hx hb dX7_put_9 rfl ?_
    obtain ⟨r5, e6, hf⟩ := bind_some hf
    refine callVi (As := [.int (-10)]) (rest := []) M (mX7_bad l D cs sk h_t q_t k d_t (-10) e6) mw_X7_76 ln_X7_bad ⟨rfl, rfl, Nat.le_of_ble_eq_true rfl, Nat.le_of_ble_eq_true rfl⟩ hP hD hS hA [0, 2] (by decide) rfl rfl (q0 := 0) rfl rfl rfl ⟨Nat.zero_le _, Nat.zero_le _⟩ hl.1 rfl (Nat.le_of_ble_eq_true rfl) dX7_put_11 (fun H locs hP hD hS => ?_)
    replace hP : va_P D vwCl [oX7 h_t q_t (d_t.1), ((q_t 0), .inl (cs 0, 106, .inl (d_t.2 0))), ((q_t 3), .inl (cs 0, 3, .inl (r5.2.2 3)))] H := hP
    replace hD : va_D A [oX7 h_t q_t (d_t.1), ((q_t 0), .inl (cs 0, 106, .inl (d_t.2 0))), ((q_t 3), .inl (cs 0, 3, .inl (r5.2.2 3)))] := hD
    have e9 := Option.some.inj hf
    subst e9
    exact hR _ _ _ _ dX7_put_14 hP hS
abbrev rm_X7_isTaken : Room := { frames := 1, cells := 0, slots := 0, locals := 22 }
def fX7_isTaken_B4 (k : Nat) (x1 : Int32) (d_t : Dat) (K38 : Int32 → Option (Int32)) (rec : Int32 × Int32 → Option (Int32)) (v : Int32 × Int32) : Option (Int32) :=
  (fX7_players k d_t).bind (fun (r1 : Int32) => (if r1 ≤ (v.2) then K38 (v.1) else (if (v.1) = 0 then (fX7_of k d_t (v.2) 1).bind (fun (r7 : Int32) => (if r7 = x1 then rec (1, ((v.2) + 1)) else rec (0, ((v.2) + 1)))) else rec (1, ((v.2) + 1)))))
def fX7_isTaken (k : Nat) (d_t : Dat) (x1 : Int32) : Option (Int32) :=
  lp (fX7_isTaken_B4 k x1 d_t (fun (w1 : Int32) => chb w1 (some w1))) k (0, 0)
set_option maxHeartbeats 4000000 in
set_option maxRecDepth 100000 in
theorem mX7_isTaken_B4 {l : Launch} {p : Program} {e : Env} {s : State} {m : MethodId} {args : Array Value} {below : List Frame} {meth : Method} {c : Code} {D : va_G} {cs : Nat → ClassId} {sk : Nat → Nat} {A : Nat → Prop} {Q : State → Prop} (h_t : Nat) (q_t : Nat → Nat) (k : Nat) (x1 : Int32) (d_t : Dat) {rv : Int32}  (K38 : Int32 → Option (Int32))
    (M : MC p s m args meth c D cs sk A RX7 cX7_isTaken 4 (some .boolean)) (hA : ∀ q, s.heap.size ≤ q → A q) (hR : RetZ p l e rm_X7_isTaken s m args below meth c D cX7_isTaken A Q (rv) [oX7 h_t q_t (d_t.1), ((q_t 0), .inl (cs 0, 106, .inl (d_t.2 0)))])
    (hK38 : ∀ (w : Int32), K38 w = some rv → ∀ (H : Heap) (locs : List Loc) (ls : Array Slot), va_P D vwCl [oX7 h_t q_t (d_t.1), ((q_t 0), .inl (cs 0, 106, .inl (d_t.2 0)))] H → va_D A [oX7 h_t q_t (d_t.1), ((q_t 0), .inl (cs 0, 106, .inl (d_t.2 0)))] → va_S A s.heap H locs → lv_has ls 4 [(2, .int w)] → W p l e rm_X7_isTaken s m args below meth c H locs 0 0 Q (F0 m 38 ls []))
    : ∀ (n : Nat) (v : Int32 × Int32), lp (fX7_isTaken_B4 k x1 d_t K38) n v = some rv → ∀ (H : Heap) (locs : List Loc) (ls : Array Slot), va_P D vwCl [oX7 h_t q_t (d_t.1), ((q_t 0), .inl (cs 0, 106, .inl (d_t.2 0)))] H → va_D A [oX7 h_t q_t (d_t.1), ((q_t 0), .inl (cs 0, 106, .inl (d_t.2 0)))] → va_S A s.heap H locs → lv_has ls 4 [(0, .ref h_t), (1, .int x1), (2, .int (v.1)), (3, .int (v.2))] → W p l e rm_X7_isTaken s m args below meth c H locs 0 0 Q (F0 m 4 ls []) := by
  obtain ⟨hx, hb, hml, hT, hown, hlk, hrt, hK, hN, hSE⟩ := id M
  refine lp_ind (fun rec ih v hf H locs ls hP hD hS hl => ?_)
  unfold fX7_isTaken_B4 at hf
  refine lv_iload_n hx hb dX7_isTaken_4 rfl (lv_at hl 3 rfl) ?_
  refine lv_aload_n hx hb dX7_isTaken_5 rfl (lv_at hl 0 rfl) ?_
  obtain ⟨r1, e2, hf⟩ := bind_some hf
  refine callVi (As := []) (rest := [.int (v.2)]) M (mX7_players l D cs sk h_t q_t k d_t e2) mw_X7_67 ln_X7_players ⟨rfl, rfl, Nat.le_of_ble_eq_true rfl, Nat.le_of_ble_eq_true rfl⟩ hP hD hS hA [0, 1] (by decide) rfl rfl (q0 := 0) rfl rfl rfl ⟨Nat.zero_le _, Nat.zero_le _⟩ hl.1 rfl (Nat.le_of_ble_eq_true rfl) dX7_isTaken_6 (fun H locs hP hD hS => ?_)
  replace hP : va_P D vwCl [oX7 h_t q_t (d_t.1), ((q_t 0), .inl (cs 0, 106, .inl (d_t.2 0)))] H := hP
  replace hD : va_D A [oX7 h_t q_t (d_t.1), ((q_t 0), .inl (cs 0, 106, .inl (d_t.2 0)))] := hD
  have g4 := ite_some hf
  refine lv_icmp_ge (tgt := 38) hx hb dX7_isTaken_9 (by decide) (fun c3 => ?_) (fun c3 => ?_)
  · replace hf := g4.1 c3
    exact hK38 _ hf _ _ _ hP hD hS (lv_sub hl [2] rfl)
  · replace hf := g4.2 c3
    refine lv_iload_n hx hb dX7_isTaken_12 rfl (lv_at hl 2 rfl) ?_
    have g6 := ite_some hf
    refine lv_if_ne (tgt := 26) hx hb dX7_isTaken_13 (by decide) (fun c5 => ?_) (fun c5 => ?_)
    · replace hf := g6.2 c5
      refine lv_iconst (v := 1) hx hb dX7_isTaken_26 rfl ?_
      refine lv_goto (tgt := 31) hx hb dX7_isTaken_27 (by decide) ?_
      refine lv_istore_n (lv' := [(2, .int 1), (0, .ref h_t), (1, .int x1), (3, .int (v.2))]) hx hb dX7_isTaken_31 rfl hl (by decide) rfl (fun ls hl => ?_)
      refine lv_iinc (v := ((v.2) + 1)) (lv' := [(3, .int ((v.2) + 1)), (2, .int 1), (0, .ref h_t), (1, .int x1)]) hx hb dX7_isTaken_32 hl (k := 3) rfl rfl (by decide) rfl (fun ls hl => ?_)
      refine lv_goto (tgt := 4) hx hb dX7_isTaken_35 (by decide) ?_
      exact ih _ hf _ _ _ hP hD hS (lv_sub hl [2, 3, 1, 0] rfl)
    · replace hf := g6.1 c5
      refine lv_aload_n hx hb dX7_isTaken_16 rfl (lv_at hl 0 rfl) ?_
      refine lv_iload_n hx hb dX7_isTaken_17 rfl (lv_at hl 3 rfl) ?_
      refine lv_iconst (v := 1) hx hb dX7_isTaken_18 rfl ?_
      obtain ⟨r7, e8, hf⟩ := bind_some hf
      refine callVi (As := [.int (v.2), .int 1]) (rest := []) M (mX7_of l D cs sk h_t q_t k d_t (v.2) 1 e8) mw_X7_94 ln_X7_of ⟨rfl, rfl, Nat.le_of_ble_eq_true rfl, Nat.le_of_ble_eq_true rfl⟩ hP hD hS hA [0, 1] (by decide) rfl rfl (q0 := 0) rfl rfl rfl ⟨Nat.zero_le _, Nat.zero_le _⟩ hl.1 rfl (Nat.le_of_ble_eq_true rfl) dX7_isTaken_19 (fun H locs hP hD hS => ?_)
      replace hP : va_P D vwCl [oX7 h_t q_t (d_t.1), ((q_t 0), .inl (cs 0, 106, .inl (d_t.2 0)))] H := hP
      replace hD : va_D A [oX7 h_t q_t (d_t.1), ((q_t 0), .inl (cs 0, 106, .inl (d_t.2 0)))] := hD
      refine lv_iload_n hx hb dX7_isTaken_22 rfl (lv_at hl 1 rfl) ?_
      have g10 := ite_some hf
      refine lv_icmp_ne (tgt := 30) hx hb dX7_isTaken_23 (by decide) (fun c9 => ?_) (fun c9 => ?_)
      · replace hf := g10.2 c9
        refine lv_iconst (v := 0) hx hb dX7_isTaken_30 rfl ?_
        refine lv_istore_n (lv' := [(2, .int 0), (0, .ref h_t), (1, .int x1), (3, .int (v.2))]) hx hb dX7_isTaken_31 rfl hl (by decide) rfl (fun ls hl => ?_)
        refine lv_iinc (v := ((v.2) + 1)) (lv' := [(3, .int ((v.2) + 1)), (2, .int 0), (0, .ref h_t), (1, .int x1)]) hx hb dX7_isTaken_32 hl (k := 3) rfl rfl (by decide) rfl (fun ls hl => ?_)
        refine lv_goto (tgt := 4) hx hb dX7_isTaken_35 (by decide) ?_
        exact ih _ hf _ _ _ hP hD hS (lv_sub hl [2, 3, 1, 0] rfl)
      · replace hf := g10.1 c9
        refine lv_iconst (v := 1) hx hb dX7_isTaken_26 rfl ?_
        refine lv_goto (tgt := 31) hx hb dX7_isTaken_27 (by decide) ?_
        refine lv_istore_n (lv' := [(2, .int 1), (0, .ref h_t), (1, .int x1), (3, .int (v.2))]) hx hb dX7_isTaken_31 rfl hl (by decide) rfl (fun ls hl => ?_)
        refine lv_iinc (v := ((v.2) + 1)) (lv' := [(3, .int ((v.2) + 1)), (2, .int 1), (0, .ref h_t), (1, .int x1)]) hx hb dX7_isTaken_32 hl (k := 3) rfl rfl (by decide) rfl (fun ls hl => ?_)
        refine lv_goto (tgt := 4) hx hb dX7_isTaken_35 (by decide) ?_
        exact ih _ hf _ _ _ hP hD hS (lv_sub hl [2, 3, 1, 0] rfl)
set_option maxHeartbeats 4000000 in
set_option maxRecDepth 100000 in
theorem mX7_isTaken (l : Launch) (D : va_G) (cs : Nat → ClassId) (sk : Nat → Nat) (h_t : Nat) (q_t : Nat → Nat) (k : Nat) (d_t : Dat) (x1 : Int32) {rv : Int32} (hf : fX7_isTaken k d_t x1 = some rv) : CTi l yX7_isTaken (Cond.code yX7_isTaken cX7_isTaken 4 (some .boolean) :: gtbl) rm_X7_isTaken D cs sk [.ref h_t, .int x1] [oX7 h_t q_t (d_t.1), ((q_t 0), .inl (cs 0, 106, .inl (d_t.2 0)))] (rv) [oX7 h_t q_t (d_t.1), ((q_t 0), .inl (cs 0, 106, .inl (d_t.2 0)))] := by
  refine CTi.ofZ RX7 (by decide +kernel) rfl (Nat.le_of_ble_eq_true rfl) (fun p e s m args below meth c A Q ls M hA hR hl hP hD hS => ?_)
  obtain ⟨hx, hb, hml, hT, hown, hlk, hrt, hK, hN, hSE⟩ := id M
  replace hl : lv_has ls 4 [(0, .ref h_t), (1, .int x1)] := hl
  unfold fX7_isTaken at hf
  refine lv_iconst (v := 0) hx hb dX7_isTaken_0 rfl ?_
  refine lv_istore_n (lv' := [(2, .int 0), (0, .ref h_t), (1, .int x1)]) hx hb dX7_isTaken_1 rfl hl (by decide) rfl (fun ls hl => ?_)
  refine lv_iconst (v := 0) hx hb dX7_isTaken_2 rfl ?_
  refine lv_istore_n (lv' := [(3, .int 0), (2, .int 0), (0, .ref h_t), (1, .int x1)]) hx hb dX7_isTaken_3 rfl hl (by decide) rfl (fun ls hl => ?_)
  refine mX7_isTaken_B4 h_t q_t k x1 d_t _ M hA hR (fun w1 hf H locs ls hP hD hS hl => ?_) _ _ hf _ _ _ hP hD hS (lv_sub hl [2, 3, 1, 0] rfl)
  · refine lv_iload_n hx hb dX7_isTaken_38 rfl (lv_at hl 0 rfl) ?_
    obtain ⟨h01, hf⟩ := chb_some hf
    have e9 := Option.some.inj hf
    subst e9
    exact hR _ _ _ _ dX7_isTaken_39 h01 hP hS
abbrev rm_X7_layPlayer : Room := { frames := 0, cells := 0, slots := 0, locals := 0 }
def fX7_layPlayer (k : Nat) (n_a0 : Nat) (f_a0 : Nat → Int32) (x1 : Int32) (x2 : Int32) (x3 : Int32) (x4 : Int32) (x5 : Int32) : Option ((Nat → Int32)) :=
  chk n_a0 (x1 + 0) (chk n_a0 (x1 + 1) (chk n_a0 (x1 + 2) (chk n_a0 (x1 + 3) (chk n_a0 (x1 + 4) (some (upd (upd (upd (upd (upd f_a0 (x1 + 0).toNatClampNeg x2) (x1 + 1).toNatClampNeg x3) (x1 + 2).toNatClampNeg x4) (x1 + 3).toNatClampNeg 0) (x1 + 4).toNatClampNeg x5))))))
set_option maxHeartbeats 4000000 in
set_option maxRecDepth 100000 in
theorem mX7_layPlayer (l : Launch) (D : va_G) (cs : Nat → ClassId) (sk : Nat → Nat) (h_a0 : Nat) (k : Nat) (n_a0 : Nat) (f_a0 : Nat → Int32) (x1 : Int32) (x2 : Int32) (x3 : Int32) (x4 : Int32) (x5 : Int32) {rv : (Nat → Int32)} (hf : fX7_layPlayer k n_a0 f_a0 x1 x2 x3 x4 x5 = some rv) : CTv l yX7_layPlayer (Cond.code yX7_layPlayer cX7_layPlayer 6 none :: gtbl) rm_X7_layPlayer D cs sk [.ref h_a0, .int x1, .int x2, .int x3, .int x4, .int x5] [(h_a0, .inl (cs 0, n_a0, .inl f_a0))] [(h_a0, .inl (cs 0, n_a0, .inl rv))] := by
  refine CTv.of RX7 (by decide +kernel) rfl (Nat.le_of_ble_eq_true rfl) (fun p e s m args below meth c A Q ls M hA hR hl hP hD hS => ?_)
  obtain ⟨hx, hb, hml, hT, hown, hlk, hrt, hK, hN, hSE⟩ := id M
  replace hl : lv_has ls 6 [(0, .ref h_a0), (1, .int x1), (2, .int x2), (3, .int x3), (4, .int x4), (5, .int x5)] := hl
  unfold fX7_layPlayer at hf
  refine lv_aload_n hx hb dX7_layPlayer_0 rfl (lv_at hl 0 rfl) ?_
  refine lv_iload_n hx hb dX7_layPlayer_1 rfl (lv_at hl 1 rfl) ?_
  refine lv_iconst (v := 0) hx hb dX7_layPlayer_2 rfl ?_
  refine lv_iadd hx hb dX7_layPlayer_3 ?_
  refine lv_iload_n hx hb dX7_layPlayer_4 rfl (lv_at hl 2 rfl) ?_
  obtain ⟨hi, hf⟩ := chk_some hf
  refine va_iast (D := D) hx hb hK hP hD hS 0 0 rfl rfl hi dX7_layPlayer_5 (fun H locs hP hD hS => ?_)
  replace hP : va_P D vwCl [(h_a0, .inl (cs 0, n_a0, .inl (upd f_a0 (x1 + 0).toNatClampNeg x2)))] H := hP
  replace hD : va_D A [(h_a0, .inl (cs 0, n_a0, .inl (upd f_a0 (x1 + 0).toNatClampNeg x2)))] := hD
  refine lv_aload_n hx hb dX7_layPlayer_6 rfl (lv_at hl 0 rfl) ?_
  refine lv_iload_n hx hb dX7_layPlayer_7 rfl (lv_at hl 1 rfl) ?_
  refine lv_iconst (v := 1) hx hb dX7_layPlayer_8 rfl ?_
  refine lv_iadd hx hb dX7_layPlayer_9 ?_
  refine lv_iload_n hx hb dX7_layPlayer_10 rfl (lv_at hl 3 rfl) ?_
  obtain ⟨hi, hf⟩ := chk_some hf
  refine va_iast (D := D) hx hb hK hP hD hS 0 0 rfl rfl hi dX7_layPlayer_11 (fun H locs hP hD hS => ?_)
  replace hP : va_P D vwCl [(h_a0, .inl (cs 0, n_a0, .inl (upd (upd f_a0 (x1 + 0).toNatClampNeg x2) (x1 + 1).toNatClampNeg x3)))] H := hP
  replace hD : va_D A [(h_a0, .inl (cs 0, n_a0, .inl (upd (upd f_a0 (x1 + 0).toNatClampNeg x2) (x1 + 1).toNatClampNeg x3)))] := hD
  refine lv_aload_n hx hb dX7_layPlayer_12 rfl (lv_at hl 0 rfl) ?_
  refine lv_iload_n hx hb dX7_layPlayer_13 rfl (lv_at hl 1 rfl) ?_
  refine lv_iconst (v := 2) hx hb dX7_layPlayer_14 rfl ?_
  refine lv_iadd hx hb dX7_layPlayer_15 ?_
  refine lv_iload hx hb dX7_layPlayer_16 (lv_at hl 4 rfl) ?_
  obtain ⟨hi, hf⟩ := chk_some hf
  refine va_iast (D := D) hx hb hK hP hD hS 0 0 rfl rfl hi dX7_layPlayer_18 (fun H locs hP hD hS => ?_)
  replace hP : va_P D vwCl [(h_a0, .inl (cs 0, n_a0, .inl (upd (upd (upd f_a0 (x1 + 0).toNatClampNeg x2) (x1 + 1).toNatClampNeg x3) (x1 + 2).toNatClampNeg x4)))] H := hP
  replace hD : va_D A [(h_a0, .inl (cs 0, n_a0, .inl (upd (upd (upd f_a0 (x1 + 0).toNatClampNeg x2) (x1 + 1).toNatClampNeg x3) (x1 + 2).toNatClampNeg x4)))] := hD
  refine lv_aload_n hx hb dX7_layPlayer_19 rfl (lv_at hl 0 rfl) ?_
  refine lv_iload_n hx hb dX7_layPlayer_20 rfl (lv_at hl 1 rfl) ?_
  refine lv_iconst (v := 3) hx hb dX7_layPlayer_21 rfl ?_
  refine lv_iadd hx hb dX7_layPlayer_22 ?_
  refine lv_iconst (v := 0) hx hb dX7_layPlayer_23 rfl ?_
  obtain ⟨hi, hf⟩ := chk_some hf
  refine va_iast (D := D) hx hb hK hP hD hS 0 0 rfl rfl hi dX7_layPlayer_24 (fun H locs hP hD hS => ?_)
  replace hP : va_P D vwCl [(h_a0, .inl (cs 0, n_a0, .inl (upd (upd (upd (upd f_a0 (x1 + 0).toNatClampNeg x2) (x1 + 1).toNatClampNeg x3) (x1 + 2).toNatClampNeg x4) (x1 + 3).toNatClampNeg 0)))] H := hP
  replace hD : va_D A [(h_a0, .inl (cs 0, n_a0, .inl (upd (upd (upd (upd f_a0 (x1 + 0).toNatClampNeg x2) (x1 + 1).toNatClampNeg x3) (x1 + 2).toNatClampNeg x4) (x1 + 3).toNatClampNeg 0)))] := hD
  refine lv_aload_n hx hb dX7_layPlayer_25 rfl (lv_at hl 0 rfl) ?_
  refine lv_iload_n hx hb dX7_layPlayer_26 rfl (lv_at hl 1 rfl) ?_
  refine lv_iconst (v := 4) hx hb dX7_layPlayer_27 rfl ?_
  refine lv_iadd hx hb dX7_layPlayer_28 ?_
  refine lv_iload hx hb dX7_layPlayer_29 (lv_at hl 5 rfl) ?_
  obtain ⟨hi, hf⟩ := chk_some hf
  refine va_iast (D := D) hx hb hK hP hD hS 0 0 rfl rfl hi dX7_layPlayer_31 (fun H locs hP hD hS => ?_)
  replace hP : va_P D vwCl [(h_a0, .inl (cs 0, n_a0, .inl (upd (upd (upd (upd (upd f_a0 (x1 + 0).toNatClampNeg x2) (x1 + 1).toNatClampNeg x3) (x1 + 2).toNatClampNeg x4) (x1 + 3).toNatClampNeg 0) (x1 + 4).toNatClampNeg x5)))] H := hP
  replace hD : va_D A [(h_a0, .inl (cs 0, n_a0, .inl (upd (upd (upd (upd (upd f_a0 (x1 + 0).toNatClampNeg x2) (x1 + 1).toNatClampNeg x3) (x1 + 2).toNatClampNeg x4) (x1 + 3).toNatClampNeg 0) (x1 + 4).toNatClampNeg x5)))] := hD
  have e9 := Option.some.inj hf
  subst e9
  exact hR _ _ _ _ dX7_layPlayer_32 hP hS
abbrev rm_X7_player : Room := { frames := 2, cells := 0, slots := 0, locals := 46 }
def fX7_player (k : Nat) (d_t : Dat) (x1 : Int32) (x2 : Int32) (x3 : Int32) : Option (Int32 × Dat) :=
  (fX7_in k x1.toInt64 0 5).bind (fun (r1 : Int32) => (if r1 = 0 then (fX7_bad k d_t (-2)).bind (fun (r5 : Int32 × Dat) => some ((r5.1), (d_t.1, (va_up d_t.2 3 (r5.2.2 3))))) else (fX7_isWindow k d_t x2).bind (fun (r7 : Int32) => (if r7 = 0 then (fX7_bad k d_t (-2)).bind (fun (r11 : Int32 × Dat) => some ((r11.1), (d_t.1, (va_up d_t.2 3 (r11.2.2 3))))) else (fX7_in k x3.toInt64 1 99).bind (fun (r13 : Int32) => (if r13 = 0 then (fX7_bad k d_t (-2)).bind (fun (r17 : Int32 × Dat) => some ((r17.1), (d_t.1, (va_up d_t.2 3 (r17.2.2 3))))) else (fX7_isTaken k d_t x2).bind (fun (r19 : Int32) => (if r19 = 0 then (fX7_players k d_t).bind (fun (r23 : Int32) => (if r23 = 6 then (fX7_full k d_t).bind (fun (r29 : Int32 × Dat) => some ((r29.1), (d_t.1, (va_up d_t.2 3 (r29.2.2 3))))) else (fX7_layPlayer k 106 (d_t.2 0) (24 + (5 * r23)) x1 x2 x3 r23).bind (fun (r27 : (Nat → Int32)) => chk 106 56 (chk 106 56 (chk 106 57 (some (r23, (d_t.1, (va_up d_t.2 0 (upd (upd r27 (56 : Int32).toNatClampNeg ((r27 (56 : Int32).toNatClampNeg) + 1)) (57 : Int32).toNatClampNeg 0)))))))))) else (fX7_bad k d_t (-2)).bind (fun (r31 : Int32 × Dat) => some ((r31.1), (d_t.1, (va_up d_t.2 3 (r31.2.2 3)))))))))))))
set_option maxHeartbeats 4000000 in
set_option maxRecDepth 100000 in
theorem mX7_player (l : Launch) (D : va_G) (cs : Nat → ClassId) (sk : Nat → Nat) (h_t : Nat) (q_t : Nat → Nat) (k : Nat) (d_t : Dat) (x1 : Int32) (x2 : Int32) (x3 : Int32) {rv : Int32 × Dat} (hf : fX7_player k d_t x1 x2 x3 = some rv) : CTi l yX7_player (Cond.code yX7_player cX7_player 5 (some .int) :: gtbl) rm_X7_player D cs sk [.ref h_t, .int x1, .int x2, .int x3] [oX7 h_t q_t (d_t.1), ((q_t 0), .inl (cs 0, 106, .inl (d_t.2 0))), ((q_t 3), .inl (cs 0, 3, .inl (d_t.2 3)))] (rv.1) [oX7 h_t q_t (d_t.1), ((q_t 0), .inl (cs 0, 106, .inl (rv.2.2 0))), ((q_t 3), .inl (cs 0, 3, .inl (rv.2.2 3)))] := by
  refine CTi.of RX7 (by decide +kernel) rfl (Nat.le_of_ble_eq_true rfl) (fun p e s m args below meth c A Q ls M hA hR hl hP hD hS => ?_)
  obtain ⟨hx, hb, hml, hT, hown, hlk, hrt, hK, hN, hSE⟩ := id M
  replace hl : lv_has ls 5 [(0, .ref h_t), (1, .int x1), (2, .int x2), (3, .int x3)] := hl
  unfold fX7_player at hf
  refine lv_iload_n hx hb dX7_player_0 rfl (lv_at hl 1 rfl) ?_
  refine lv_i2l (v := x1.toInt64) hx hb dX7_player_1 rfl ?_
  refine lv_lconst (v := 0) hx hb dX7_player_2 rfl ?_
  refine W.ldc2 (v := 5) hx hb hown (hT _ kw_X7_98) rfl dX7_player_3 ?_
  refine W.eq (g2 := F0 m 6 ls [.long 5, .long 0, .long x1.toInt64]) rfl ?_
  obtain ⟨r1, e2, hf⟩ := bind_some hf
  refine callSi (As := [.long x1.toInt64, .long 0, .long 5]) (rest := []) M (mX7_in l D cs sk  k x1.toInt64 0 5 e2) mw_X7_60 ln_X7_in ⟨rfl, rfl, Nat.le_of_ble_eq_true rfl, Nat.le_of_ble_eq_true rfl⟩ hP hD hS hA [] (by decide) rfl rfl ⟨Nat.zero_le _, Nat.zero_le _⟩ hl.1 rfl (Nat.le_of_ble_eq_true rfl) dX7_player_6 (fun H locs hP hD hS => ?_)
  replace hP : va_P D vwCl [oX7 h_t q_t (d_t.1), ((q_t 0), .inl (cs 0, 106, .inl (d_t.2 0))), ((q_t 3), .inl (cs 0, 3, .inl (d_t.2 3)))] H := hP
  replace hD : va_D A [oX7 h_t q_t (d_t.1), ((q_t 0), .inl (cs 0, 106, .inl (d_t.2 0))), ((q_t 3), .inl (cs 0, 3, .inl (d_t.2 3)))] := hD
  have g4 := ite_some hf
  refine lv_if_eq (tgt := 40) hx hb dX7_player_9 (by decide) (fun c3 => ?_) (fun c3 => ?_)
  · replace hf := g4.1 c3
    refine lv_aload_n hx hb dX7_player_40 rfl (lv_at hl 0 rfl) ?_
    refine lv_bipush (v := (-2)) hx hb dX7_player_41 rfl ?_
    obtain ⟨r5, e6, hf⟩ := bind_some hf
    refine callVi (As := [.int (-2)]) (rest := []) M (mX7_bad l D cs sk h_t q_t k d_t (-2) e6) mw_X7_76 ln_X7_bad ⟨rfl, rfl, Nat.le_of_ble_eq_true rfl, Nat.le_of_ble_eq_true rfl⟩ hP hD hS hA [0, 2] (by decide) rfl rfl (q0 := 0) rfl rfl rfl ⟨Nat.zero_le _, Nat.zero_le _⟩ hl.1 rfl (Nat.le_of_ble_eq_true rfl) dX7_player_43 (fun H locs hP hD hS => ?_)
    replace hP : va_P D vwCl [oX7 h_t q_t (d_t.1), ((q_t 0), .inl (cs 0, 106, .inl (d_t.2 0))), ((q_t 3), .inl (cs 0, 3, .inl (r5.2.2 3)))] H := hP
    replace hD : va_D A [oX7 h_t q_t (d_t.1), ((q_t 0), .inl (cs 0, 106, .inl (d_t.2 0))), ((q_t 3), .inl (cs 0, 3, .inl (r5.2.2 3)))] := hD
    have e9 := Option.some.inj hf
    subst e9
    exact hR _ _ _ _ dX7_player_46 hP hS
  · replace hf := g4.2 c3
    refine lv_aload_n hx hb dX7_player_12 rfl (lv_at hl 0 rfl) ?_
    refine lv_iload_n hx hb dX7_player_13 rfl (lv_at hl 2 rfl) ?_
    obtain ⟨r7, e8, hf⟩ := bind_some hf
    refine callVi (As := [.int x2]) (rest := []) M (mX7_isWindow l D cs sk h_t q_t k d_t x2 e8) mw_X7_100 ln_X7_isWindow ⟨rfl, rfl, Nat.le_of_ble_eq_true rfl, Nat.le_of_ble_eq_true rfl⟩ hP hD hS hA [0, 1] (by decide) rfl rfl (q0 := 0) rfl rfl rfl ⟨Nat.zero_le _, Nat.zero_le _⟩ hl.1 rfl (Nat.le_of_ble_eq_true rfl) dX7_player_14 (fun H locs hP hD hS => ?_)
    replace hP : va_P D vwCl [oX7 h_t q_t (d_t.1), ((q_t 0), .inl (cs 0, 106, .inl (d_t.2 0))), ((q_t 3), .inl (cs 0, 3, .inl (d_t.2 3)))] H := hP
    replace hD : va_D A [oX7 h_t q_t (d_t.1), ((q_t 0), .inl (cs 0, 106, .inl (d_t.2 0))), ((q_t 3), .inl (cs 0, 3, .inl (d_t.2 3)))] := hD
    have g10 := ite_some hf
    refine lv_if_eq (tgt := 40) hx hb dX7_player_17 (by decide) (fun c9 => ?_) (fun c9 => ?_)
    · replace hf := g10.1 c9
      refine lv_aload_n hx hb dX7_player_40 rfl (lv_at hl 0 rfl) ?_
      refine lv_bipush (v := (-2)) hx hb dX7_player_41 rfl ?_
      obtain ⟨r11, e12, hf⟩ := bind_some hf
      refine callVi (As := [.int (-2)]) (rest := []) M (mX7_bad l D cs sk h_t q_t k d_t (-2) e12) mw_X7_76 ln_X7_bad ⟨rfl, rfl, Nat.le_of_ble_eq_true rfl, Nat.le_of_ble_eq_true rfl⟩ hP hD hS hA [0, 2] (by decide) rfl rfl (q0 := 0) rfl rfl rfl ⟨Nat.zero_le _, Nat.zero_le _⟩ hl.1 rfl (Nat.le_of_ble_eq_true rfl) dX7_player_43 (fun H locs hP hD hS => ?_)
      replace hP : va_P D vwCl [oX7 h_t q_t (d_t.1), ((q_t 0), .inl (cs 0, 106, .inl (d_t.2 0))), ((q_t 3), .inl (cs 0, 3, .inl (r11.2.2 3)))] H := hP
      replace hD : va_D A [oX7 h_t q_t (d_t.1), ((q_t 0), .inl (cs 0, 106, .inl (d_t.2 0))), ((q_t 3), .inl (cs 0, 3, .inl (r11.2.2 3)))] := hD
      have e9 := Option.some.inj hf
      subst e9
      exact hR _ _ _ _ dX7_player_46 hP hS
    · replace hf := g10.2 c9
      refine lv_iload_n hx hb dX7_player_20 rfl (lv_at hl 3 rfl) ?_
      refine lv_i2l (v := x3.toInt64) hx hb dX7_player_21 rfl ?_
      refine lv_lconst (v := 1) hx hb dX7_player_22 rfl ?_
      refine W.ldc2 (v := 99) hx hb hown (hT _ kw_X7_70) rfl dX7_player_23 ?_
      refine W.eq (g2 := F0 m 26 ls [.long 99, .long 1, .long x3.toInt64]) rfl ?_
      obtain ⟨r13, e14, hf⟩ := bind_some hf
      refine callSi (As := [.long x3.toInt64, .long 1, .long 99]) (rest := []) M (mX7_in l D cs sk  k x3.toInt64 1 99 e14) mw_X7_60 ln_X7_in ⟨rfl, rfl, Nat.le_of_ble_eq_true rfl, Nat.le_of_ble_eq_true rfl⟩ hP hD hS hA [] (by decide) rfl rfl ⟨Nat.zero_le _, Nat.zero_le _⟩ hl.1 rfl (Nat.le_of_ble_eq_true rfl) dX7_player_26 (fun H locs hP hD hS => ?_)
      replace hP : va_P D vwCl [oX7 h_t q_t (d_t.1), ((q_t 0), .inl (cs 0, 106, .inl (d_t.2 0))), ((q_t 3), .inl (cs 0, 3, .inl (d_t.2 3)))] H := hP
      replace hD : va_D A [oX7 h_t q_t (d_t.1), ((q_t 0), .inl (cs 0, 106, .inl (d_t.2 0))), ((q_t 3), .inl (cs 0, 3, .inl (d_t.2 3)))] := hD
      have g16 := ite_some hf
      refine lv_if_eq (tgt := 40) hx hb dX7_player_29 (by decide) (fun c15 => ?_) (fun c15 => ?_)
      · replace hf := g16.1 c15
        refine lv_aload_n hx hb dX7_player_40 rfl (lv_at hl 0 rfl) ?_
        refine lv_bipush (v := (-2)) hx hb dX7_player_41 rfl ?_
        obtain ⟨r17, e18, hf⟩ := bind_some hf
        refine callVi (As := [.int (-2)]) (rest := []) M (mX7_bad l D cs sk h_t q_t k d_t (-2) e18) mw_X7_76 ln_X7_bad ⟨rfl, rfl, Nat.le_of_ble_eq_true rfl, Nat.le_of_ble_eq_true rfl⟩ hP hD hS hA [0, 2] (by decide) rfl rfl (q0 := 0) rfl rfl rfl ⟨Nat.zero_le _, Nat.zero_le _⟩ hl.1 rfl (Nat.le_of_ble_eq_true rfl) dX7_player_43 (fun H locs hP hD hS => ?_)
        replace hP : va_P D vwCl [oX7 h_t q_t (d_t.1), ((q_t 0), .inl (cs 0, 106, .inl (d_t.2 0))), ((q_t 3), .inl (cs 0, 3, .inl (r17.2.2 3)))] H := hP
        replace hD : va_D A [oX7 h_t q_t (d_t.1), ((q_t 0), .inl (cs 0, 106, .inl (d_t.2 0))), ((q_t 3), .inl (cs 0, 3, .inl (r17.2.2 3)))] := hD
        have e9 := Option.some.inj hf
        subst e9
        exact hR _ _ _ _ dX7_player_46 hP hS
      · replace hf := g16.2 c15
        refine lv_aload_n hx hb dX7_player_32 rfl (lv_at hl 0 rfl) ?_
        refine lv_iload_n hx hb dX7_player_33 rfl (lv_at hl 2 rfl) ?_
        obtain ⟨r19, e20, hf⟩ := bind_some hf
        refine callVi (As := [.int x2]) (rest := []) M (mX7_isTaken l D cs sk h_t q_t k d_t x2 e20) mw_X7_104 ln_X7_isTaken ⟨rfl, rfl, Nat.le_of_ble_eq_true rfl, Nat.le_of_ble_eq_true rfl⟩ hP hD hS hA [0, 1] (by decide) rfl rfl (q0 := 0) rfl rfl rfl ⟨Nat.zero_le _, Nat.zero_le _⟩ hl.1 rfl (Nat.le_of_ble_eq_true rfl) dX7_player_34 (fun H locs hP hD hS => ?_)
        replace hP : va_P D vwCl [oX7 h_t q_t (d_t.1), ((q_t 0), .inl (cs 0, 106, .inl (d_t.2 0))), ((q_t 3), .inl (cs 0, 3, .inl (d_t.2 3)))] H := hP
        replace hD : va_D A [oX7 h_t q_t (d_t.1), ((q_t 0), .inl (cs 0, 106, .inl (d_t.2 0))), ((q_t 3), .inl (cs 0, 3, .inl (d_t.2 3)))] := hD
        have g22 := ite_some hf
        refine lv_if_eq (tgt := 47) hx hb dX7_player_37 (by decide) (fun c21 => ?_) (fun c21 => ?_)
        · replace hf := g22.1 c21
          refine lv_aload_n hx hb dX7_player_47 rfl (lv_at hl 0 rfl) ?_
          obtain ⟨r23, e24, hf⟩ := bind_some hf
          refine callVi (As := []) (rest := []) M (mX7_players l D cs sk h_t q_t k d_t e24) mw_X7_67 ln_X7_players ⟨rfl, rfl, Nat.le_of_ble_eq_true rfl, Nat.le_of_ble_eq_true rfl⟩ hP hD hS hA [0, 1] (by decide) rfl rfl (q0 := 0) rfl rfl rfl ⟨Nat.zero_le _, Nat.zero_le _⟩ hl.1 rfl (Nat.le_of_ble_eq_true rfl) dX7_player_48 (fun H locs hP hD hS => ?_)
          replace hP : va_P D vwCl [oX7 h_t q_t (d_t.1), ((q_t 0), .inl (cs 0, 106, .inl (d_t.2 0))), ((q_t 3), .inl (cs 0, 3, .inl (d_t.2 3)))] H := hP
          replace hD : va_D A [oX7 h_t q_t (d_t.1), ((q_t 0), .inl (cs 0, 106, .inl (d_t.2 0))), ((q_t 3), .inl (cs 0, 3, .inl (d_t.2 3)))] := hD
          refine lv_istore (lv' := [(4, .int r23), (0, .ref h_t), (1, .int x1), (2, .int x2), (3, .int x3)]) hx hb dX7_player_51 hl (by decide) rfl (fun ls hl => ?_)
          refine lv_iload hx hb dX7_player_53 (lv_at hl 0 rfl) ?_
          refine lv_bipush (v := 6) hx hb dX7_player_55 rfl ?_
          have g26 := ite_some hf
          refine lv_icmp_ne (tgt := 65) hx hb dX7_player_57 (by decide) (fun c25 => ?_) (fun c25 => ?_)
          · replace hf := g26.2 c25
            refine lv_aload_n hx hb dX7_player_65 rfl (lv_at hl 1 rfl) ?_
            refine va_get (D := D) (ci := 7) (v := .ref (q_t 0)) (C := RX7) (T := TX7) (N := 23) hx hb hT iX7 hown hK hP 0 rfl rfl 0 (by decide) (hT _ fw_X7_7) (fun _ h9 => h9) rfl dX7_player_66 ?_
            refine lv_bipush (v := 24) hx hb dX7_player_69 rfl ?_
            refine lv_iconst (v := 5) hx hb dX7_player_71 rfl ?_
            refine lv_iload hx hb dX7_player_72 (lv_at hl 0 rfl) ?_
            refine lv_imul hx hb dX7_player_74 ?_
            refine lv_iadd hx hb dX7_player_75 ?_
            refine lv_iload_n hx hb dX7_player_76 rfl (lv_at hl 2 rfl) ?_
            refine lv_iload_n hx hb dX7_player_77 rfl (lv_at hl 3 rfl) ?_
            refine lv_iload_n hx hb dX7_player_78 rfl (lv_at hl 4 rfl) ?_
            refine lv_iload hx hb dX7_player_79 (lv_at hl 0 rfl) ?_
            obtain ⟨r27, e28, hf⟩ := bind_some hf
            refine callSv (As := [.ref (q_t 0), .int (24 + (5 * r23)), .int x1, .int x2, .int x3, .int r23]) (rest := []) M (mX7_layPlayer l D cs sk (q_t 0) k 106 (d_t.2 0) (24 + (5 * r23)) x1 x2 x3 r23 e28) mw_X7_107 ln_X7_layPlayer ⟨rfl, rfl, Nat.le_of_ble_eq_true rfl, Nat.le_of_ble_eq_true rfl⟩ hP hD hS hA [1] (by decide) rfl rfl ⟨Nat.zero_le _, Nat.zero_le _⟩ hl.1 rfl (Nat.le_of_ble_eq_true rfl) dX7_player_81 (fun H locs hP hD hS => ?_)
            replace hP : va_P D vwCl [oX7 h_t q_t (d_t.1), ((q_t 0), .inl (cs 0, 106, .inl r27)), ((q_t 3), .inl (cs 0, 3, .inl (d_t.2 3)))] H := hP
            replace hD : va_D A [oX7 h_t q_t (d_t.1), ((q_t 0), .inl (cs 0, 106, .inl r27)), ((q_t 3), .inl (cs 0, 3, .inl (d_t.2 3)))] := hD
            refine lv_aload_n hx hb dX7_player_84 rfl (lv_at hl 1 rfl) ?_
            refine va_get (D := D) (ci := 7) (v := .ref (q_t 0)) (C := RX7) (T := TX7) (N := 23) hx hb hT iX7 hown hK hP 0 rfl rfl 0 (by decide) (hT _ fw_X7_7) (fun _ h9 => h9) rfl dX7_player_85 ?_
            refine lv_bipush (v := 56) hx hb dX7_player_88 rfl ?_
            refine lv_dup2_11 hx hb dX7_player_90 rfl rfl ?_
            obtain ⟨hi, hf⟩ := chk_some hf
            refine va_iald (D := D) hx hb hK hP 1 0 rfl rfl hi dX7_player_91 ?_
            refine lv_iconst (v := 1) hx hb dX7_player_92 rfl ?_
            refine lv_iadd hx hb dX7_player_93 ?_
            obtain ⟨hi, hf⟩ := chk_some hf
            refine va_iast (D := D) hx hb hK hP hD hS 1 0 rfl rfl hi dX7_player_94 (fun H locs hP hD hS => ?_)
            replace hP : va_P D vwCl [oX7 h_t q_t (d_t.1), ((q_t 0), .inl (cs 0, 106, .inl (upd r27 (56 : Int32).toNatClampNeg ((r27 (56 : Int32).toNatClampNeg) + 1)))), ((q_t 3), .inl (cs 0, 3, .inl (d_t.2 3)))] H := hP
            replace hD : va_D A [oX7 h_t q_t (d_t.1), ((q_t 0), .inl (cs 0, 106, .inl (upd r27 (56 : Int32).toNatClampNeg ((r27 (56 : Int32).toNatClampNeg) + 1)))), ((q_t 3), .inl (cs 0, 3, .inl (d_t.2 3)))] := hD
            refine lv_aload_n hx hb dX7_player_95 rfl (lv_at hl 1 rfl) ?_
            refine va_get (D := D) (ci := 7) (v := .ref (q_t 0)) (C := RX7) (T := TX7) (N := 23) hx hb hT iX7 hown hK hP 0 rfl rfl 0 (by decide) (hT _ fw_X7_7) (fun _ h9 => h9) rfl dX7_player_96 ?_
            refine lv_bipush (v := 57) hx hb dX7_player_99 rfl ?_
            refine lv_iconst (v := 0) hx hb dX7_player_101 rfl ?_
            obtain ⟨hi, hf⟩ := chk_some hf
            refine va_iast (D := D) hx hb hK hP hD hS 1 0 rfl rfl hi dX7_player_102 (fun H locs hP hD hS => ?_)
            replace hP : va_P D vwCl [oX7 h_t q_t (d_t.1), ((q_t 0), .inl (cs 0, 106, .inl (upd (upd r27 (56 : Int32).toNatClampNeg ((r27 (56 : Int32).toNatClampNeg) + 1)) (57 : Int32).toNatClampNeg 0))), ((q_t 3), .inl (cs 0, 3, .inl (d_t.2 3)))] H := hP
            replace hD : va_D A [oX7 h_t q_t (d_t.1), ((q_t 0), .inl (cs 0, 106, .inl (upd (upd r27 (56 : Int32).toNatClampNeg ((r27 (56 : Int32).toNatClampNeg) + 1)) (57 : Int32).toNatClampNeg 0))), ((q_t 3), .inl (cs 0, 3, .inl (d_t.2 3)))] := hD
            refine lv_iload hx hb dX7_player_103 (lv_at hl 0 rfl) ?_
            have e9 := Option.some.inj hf
            subst e9
            exact hR _ _ _ _ dX7_player_105 hP hS
          · replace hf := g26.1 c25
            refine lv_aload_n hx hb dX7_player_60 rfl (lv_at hl 1 rfl) ?_
            obtain ⟨r29, e30, hf⟩ := bind_some hf
            refine callVi (As := []) (rest := []) M (mX7_full l D cs sk h_t q_t k d_t e30) mw_X7_80 ln_X7_full ⟨rfl, rfl, Nat.le_of_ble_eq_true rfl, Nat.le_of_ble_eq_true rfl⟩ hP hD hS hA [0, 2] (by decide) rfl rfl (q0 := 0) rfl rfl rfl ⟨Nat.zero_le _, Nat.zero_le _⟩ hl.1 rfl (Nat.le_of_ble_eq_true rfl) dX7_player_61 (fun H locs hP hD hS => ?_)
            replace hP : va_P D vwCl [oX7 h_t q_t (d_t.1), ((q_t 0), .inl (cs 0, 106, .inl (d_t.2 0))), ((q_t 3), .inl (cs 0, 3, .inl (r29.2.2 3)))] H := hP
            replace hD : va_D A [oX7 h_t q_t (d_t.1), ((q_t 0), .inl (cs 0, 106, .inl (d_t.2 0))), ((q_t 3), .inl (cs 0, 3, .inl (r29.2.2 3)))] := hD
            have e9 := Option.some.inj hf
            subst e9
            exact hR _ _ _ _ dX7_player_64 hP hS
        · replace hf := g22.2 c21
          refine lv_aload_n hx hb dX7_player_40 rfl (lv_at hl 0 rfl) ?_
          refine lv_bipush (v := (-2)) hx hb dX7_player_41 rfl ?_
          obtain ⟨r31, e32, hf⟩ := bind_some hf
          refine callVi (As := [.int (-2)]) (rest := []) M (mX7_bad l D cs sk h_t q_t k d_t (-2) e32) mw_X7_76 ln_X7_bad ⟨rfl, rfl, Nat.le_of_ble_eq_true rfl, Nat.le_of_ble_eq_true rfl⟩ hP hD hS hA [0, 2] (by decide) rfl rfl (q0 := 0) rfl rfl rfl ⟨Nat.zero_le _, Nat.zero_le _⟩ hl.1 rfl (Nat.le_of_ble_eq_true rfl) dX7_player_43 (fun H locs hP hD hS => ?_)
          replace hP : va_P D vwCl [oX7 h_t q_t (d_t.1), ((q_t 0), .inl (cs 0, 106, .inl (d_t.2 0))), ((q_t 3), .inl (cs 0, 3, .inl (r31.2.2 3)))] H := hP
          replace hD : va_D A [oX7 h_t q_t (d_t.1), ((q_t 0), .inl (cs 0, 106, .inl (d_t.2 0))), ((q_t 3), .inl (cs 0, 3, .inl (r31.2.2 3)))] := hD
          have e9 := Option.some.inj hf
          subst e9
          exact hR _ _ _ _ dX7_player_46 hP hS
abbrev rm_X7_isOffset : Room := { frames := 1, cells := 0, slots := 0, locals := 25 }
def fX7_isOffset (k : Nat) (x0 : Int32) : Option (Int32) :=
  (fX7_in k x0.toInt64 (-500) 500).bind (fun (r1 : Int32) => chb r1 (some r1))
set_option maxHeartbeats 4000000 in
set_option maxRecDepth 100000 in
theorem mX7_isOffset (l : Launch) (D : va_G) (cs : Nat → ClassId) (sk : Nat → Nat)  (k : Nat) (x0 : Int32) {rv : Int32} (hf : fX7_isOffset k x0 = some rv) : CTi l yX7_isOffset (Cond.code yX7_isOffset cX7_isOffset 1 (some .boolean) :: gtbl) rm_X7_isOffset D cs sk [.int x0] [] (rv) [] := by
  refine CTi.ofZ RX7 (by decide +kernel) rfl (Nat.le_of_ble_eq_true rfl) (fun p e s m args below meth c A Q ls M hA hR hl hP hD hS => ?_)
  obtain ⟨hx, hb, hml, hT, hown, hlk, hrt, hK, hN, hSE⟩ := id M
  replace hl : lv_has ls 1 [(0, .int x0)] := hl
  unfold fX7_isOffset at hf
  refine lv_iload_n hx hb dX7_isOffset_0 rfl (lv_at hl 0 rfl) ?_
  refine lv_i2l (v := x0.toInt64) hx hb dX7_isOffset_1 rfl ?_
  refine W.ldc2 (v := (-500)) hx hb hown (hT _ kw_X7_111) rfl dX7_isOffset_2 ?_
  refine W.eq (g2 := F0 m 5 ls [.long (-500), .long x0.toInt64]) rfl ?_
  refine W.ldc2 (v := 500) hx hb hown (hT _ kw_X7_113) rfl dX7_isOffset_5 ?_
  refine W.eq (g2 := F0 m 8 ls [.long 500, .long (-500), .long x0.toInt64]) rfl ?_
  obtain ⟨r1, e2, hf⟩ := bind_some hf
  refine callSi (As := [.long x0.toInt64, .long (-500), .long 500]) (rest := []) M (mX7_in l D cs sk  k x0.toInt64 (-500) 500 e2) mw_X7_60 ln_X7_in ⟨rfl, rfl, Nat.le_of_ble_eq_true rfl, Nat.le_of_ble_eq_true rfl⟩ hP hD hS hA [] (by decide) rfl rfl ⟨Nat.zero_le _, Nat.zero_le _⟩ hl.1 rfl (Nat.le_of_ble_eq_true rfl) dX7_isOffset_8 (fun H locs hP hD hS => ?_)
  replace hP : va_P D vwCl [] H := hP
  replace hD : va_D A [] := hD
  obtain ⟨h01, hf⟩ := chb_some hf
  have e9 := Option.some.inj hf
  subst e9
  exact hR _ _ _ _ dX7_isOffset_11 h01 hP hS
abbrev rm_X7_offset : Room := { frames := 2, cells := 0, slots := 0, locals := 46 }
def fX7_offset (k : Nat) (d_t : Dat) (x1 : Int32) (x2 : Int32) : Option (Int32 × Dat) :=
  (fX7_isPlayer k d_t x1).bind (fun (r1 : Int32) => (if r1 = 0 then (fX7_bad k d_t (-1000)).bind (fun (r5 : Int32 × Dat) => some ((r5.1), (d_t.1, (va_up d_t.2 3 (r5.2.2 3))))) else (fX7_isOffset k x2).bind (fun (r7 : Int32) => (if r7 = 0 then (fX7_bad k d_t (-1000)).bind (fun (r13 : Int32 × Dat) => some ((r13.1), (d_t.1, (va_up d_t.2 3 (r13.2.2 3))))) else (fX7_of k d_t x1 3).bind (fun (r11 : Int32) => chk 106 ((24 + (5 * x1)) + 3) (some (r11, (d_t.1, (va_up d_t.2 0 (upd (d_t.2 0) ((24 + (5 * x1)) + 3).toNatClampNeg x2))))))))))
set_option maxHeartbeats 4000000 in
set_option maxRecDepth 100000 in
theorem mX7_offset (l : Launch) (D : va_G) (cs : Nat → ClassId) (sk : Nat → Nat) (h_t : Nat) (q_t : Nat → Nat) (k : Nat) (d_t : Dat) (x1 : Int32) (x2 : Int32) {rv : Int32 × Dat} (hf : fX7_offset k d_t x1 x2 = some rv) : CTi l yX7_offset (Cond.code yX7_offset cX7_offset 4 (some .int) :: gtbl) rm_X7_offset D cs sk [.ref h_t, .int x1, .int x2] [oX7 h_t q_t (d_t.1), ((q_t 0), .inl (cs 0, 106, .inl (d_t.2 0))), ((q_t 3), .inl (cs 0, 3, .inl (d_t.2 3)))] (rv.1) [oX7 h_t q_t (d_t.1), ((q_t 0), .inl (cs 0, 106, .inl (rv.2.2 0))), ((q_t 3), .inl (cs 0, 3, .inl (rv.2.2 3)))] := by
  refine CTi.of RX7 (by decide +kernel) rfl (Nat.le_of_ble_eq_true rfl) (fun p e s m args below meth c A Q ls M hA hR hl hP hD hS => ?_)
  obtain ⟨hx, hb, hml, hT, hown, hlk, hrt, hK, hN, hSE⟩ := id M
  replace hl : lv_has ls 4 [(0, .ref h_t), (1, .int x1), (2, .int x2)] := hl
  unfold fX7_offset at hf
  refine lv_aload_n hx hb dX7_offset_0 rfl (lv_at hl 0 rfl) ?_
  refine lv_iload_n hx hb dX7_offset_1 rfl (lv_at hl 1 rfl) ?_
  obtain ⟨r1, e2, hf⟩ := bind_some hf
  refine callVi (As := [.int x1]) (rest := []) M (mX7_isPlayer l D cs sk h_t q_t k d_t x1 e2) mw_X7_115 ln_X7_isPlayer ⟨rfl, rfl, Nat.le_of_ble_eq_true rfl, Nat.le_of_ble_eq_true rfl⟩ hP hD hS hA [0, 1] (by decide) rfl rfl (q0 := 0) rfl rfl rfl ⟨Nat.zero_le _, Nat.zero_le _⟩ hl.1 rfl (Nat.le_of_ble_eq_true rfl) dX7_offset_2 (fun H locs hP hD hS => ?_)
  replace hP : va_P D vwCl [oX7 h_t q_t (d_t.1), ((q_t 0), .inl (cs 0, 106, .inl (d_t.2 0))), ((q_t 3), .inl (cs 0, 3, .inl (d_t.2 3)))] H := hP
  replace hD : va_D A [oX7 h_t q_t (d_t.1), ((q_t 0), .inl (cs 0, 106, .inl (d_t.2 0))), ((q_t 3), .inl (cs 0, 3, .inl (d_t.2 3)))] := hD
  have g4 := ite_some hf
  refine lv_if_eq (tgt := 15) hx hb dX7_offset_5 (by decide) (fun c3 => ?_) (fun c3 => ?_)
  · replace hf := g4.1 c3
    refine lv_aload_n hx hb dX7_offset_15 rfl (lv_at hl 0 rfl) ?_
    refine lv_sipush (v := (-1000)) hx hb dX7_offset_16 rfl ?_
    obtain ⟨r5, e6, hf⟩ := bind_some hf
    refine callVi (As := [.int (-1000)]) (rest := []) M (mX7_bad l D cs sk h_t q_t k d_t (-1000) e6) mw_X7_76 ln_X7_bad ⟨rfl, rfl, Nat.le_of_ble_eq_true rfl, Nat.le_of_ble_eq_true rfl⟩ hP hD hS hA [0, 2] (by decide) rfl rfl (q0 := 0) rfl rfl rfl ⟨Nat.zero_le _, Nat.zero_le _⟩ hl.1 rfl (Nat.le_of_ble_eq_true rfl) dX7_offset_19 (fun H locs hP hD hS => ?_)
    replace hP : va_P D vwCl [oX7 h_t q_t (d_t.1), ((q_t 0), .inl (cs 0, 106, .inl (d_t.2 0))), ((q_t 3), .inl (cs 0, 3, .inl (r5.2.2 3)))] H := hP
    replace hD : va_D A [oX7 h_t q_t (d_t.1), ((q_t 0), .inl (cs 0, 106, .inl (d_t.2 0))), ((q_t 3), .inl (cs 0, 3, .inl (r5.2.2 3)))] := hD
    have e9 := Option.some.inj hf
    subst e9
    exact hR _ _ _ _ dX7_offset_22 hP hS
  · replace hf := g4.2 c3
    refine lv_iload_n hx hb dX7_offset_8 rfl (lv_at hl 2 rfl) ?_
    obtain ⟨r7, e8, hf⟩ := bind_some hf
    refine callSi (As := [.int x2]) (rest := []) M (mX7_isOffset l D cs sk  k x2 e8) mw_X7_118 ln_X7_isOffset ⟨rfl, rfl, Nat.le_of_ble_eq_true rfl, Nat.le_of_ble_eq_true rfl⟩ hP hD hS hA [] (by decide) rfl rfl ⟨Nat.zero_le _, Nat.zero_le _⟩ hl.1 rfl (Nat.le_of_ble_eq_true rfl) dX7_offset_9 (fun H locs hP hD hS => ?_)
    replace hP : va_P D vwCl [oX7 h_t q_t (d_t.1), ((q_t 0), .inl (cs 0, 106, .inl (d_t.2 0))), ((q_t 3), .inl (cs 0, 3, .inl (d_t.2 3)))] H := hP
    replace hD : va_D A [oX7 h_t q_t (d_t.1), ((q_t 0), .inl (cs 0, 106, .inl (d_t.2 0))), ((q_t 3), .inl (cs 0, 3, .inl (d_t.2 3)))] := hD
    have g10 := ite_some hf
    refine lv_if_ne (tgt := 23) hx hb dX7_offset_12 (by decide) (fun c9 => ?_) (fun c9 => ?_)
    · replace hf := g10.2 c9
      refine lv_aload_n hx hb dX7_offset_23 rfl (lv_at hl 0 rfl) ?_
      refine lv_iload_n hx hb dX7_offset_24 rfl (lv_at hl 1 rfl) ?_
      refine lv_iconst (v := 3) hx hb dX7_offset_25 rfl ?_
      obtain ⟨r11, e12, hf⟩ := bind_some hf
      refine callVi (As := [.int x1, .int 3]) (rest := []) M (mX7_of l D cs sk h_t q_t k d_t x1 3 e12) mw_X7_94 ln_X7_of ⟨rfl, rfl, Nat.le_of_ble_eq_true rfl, Nat.le_of_ble_eq_true rfl⟩ hP hD hS hA [0, 1] (by decide) rfl rfl (q0 := 0) rfl rfl rfl ⟨Nat.zero_le _, Nat.zero_le _⟩ hl.1 rfl (Nat.le_of_ble_eq_true rfl) dX7_offset_26 (fun H locs hP hD hS => ?_)
      replace hP : va_P D vwCl [oX7 h_t q_t (d_t.1), ((q_t 0), .inl (cs 0, 106, .inl (d_t.2 0))), ((q_t 3), .inl (cs 0, 3, .inl (d_t.2 3)))] H := hP
      replace hD : va_D A [oX7 h_t q_t (d_t.1), ((q_t 0), .inl (cs 0, 106, .inl (d_t.2 0))), ((q_t 3), .inl (cs 0, 3, .inl (d_t.2 3)))] := hD
      refine lv_istore_n (lv' := [(3, .int r11), (0, .ref h_t), (1, .int x1), (2, .int x2)]) hx hb dX7_offset_29 rfl hl (by decide) rfl (fun ls hl => ?_)
      refine lv_aload_n hx hb dX7_offset_30 rfl (lv_at hl 1 rfl) ?_
      refine va_get (D := D) (ci := 7) (v := .ref (q_t 0)) (C := RX7) (T := TX7) (N := 23) hx hb hT iX7 hown hK hP 0 rfl rfl 0 (by decide) (hT _ fw_X7_7) (fun _ h9 => h9) rfl dX7_offset_31 ?_
      refine lv_bipush (v := 24) hx hb dX7_offset_34 rfl ?_
      refine lv_iconst (v := 5) hx hb dX7_offset_36 rfl ?_
      refine lv_iload_n hx hb dX7_offset_37 rfl (lv_at hl 2 rfl) ?_
      refine lv_imul hx hb dX7_offset_38 ?_
      refine lv_iadd hx hb dX7_offset_39 ?_
      refine lv_iconst (v := 3) hx hb dX7_offset_40 rfl ?_
      refine lv_iadd hx hb dX7_offset_41 ?_
      refine lv_iload_n hx hb dX7_offset_42 rfl (lv_at hl 3 rfl) ?_
      obtain ⟨hi, hf⟩ := chk_some hf
      refine va_iast (D := D) hx hb hK hP hD hS 1 0 rfl rfl hi dX7_offset_43 (fun H locs hP hD hS => ?_)
      replace hP : va_P D vwCl [oX7 h_t q_t (d_t.1), ((q_t 0), .inl (cs 0, 106, .inl (upd (d_t.2 0) ((24 + (5 * x1)) + 3).toNatClampNeg x2))), ((q_t 3), .inl (cs 0, 3, .inl (d_t.2 3)))] H := hP
      replace hD : va_D A [oX7 h_t q_t (d_t.1), ((q_t 0), .inl (cs 0, 106, .inl (upd (d_t.2 0) ((24 + (5 * x1)) + 3).toNatClampNeg x2))), ((q_t 3), .inl (cs 0, 3, .inl (d_t.2 3)))] := hD
      refine lv_iload_n hx hb dX7_offset_44 rfl (lv_at hl 0 rfl) ?_
      have e9 := Option.some.inj hf
      subst e9
      exact hR _ _ _ _ dX7_offset_45 hP hS
    · replace hf := g10.1 c9
      refine lv_aload_n hx hb dX7_offset_15 rfl (lv_at hl 0 rfl) ?_
      refine lv_sipush (v := (-1000)) hx hb dX7_offset_16 rfl ?_
      obtain ⟨r13, e14, hf⟩ := bind_some hf
      refine callVi (As := [.int (-1000)]) (rest := []) M (mX7_bad l D cs sk h_t q_t k d_t (-1000) e14) mw_X7_76 ln_X7_bad ⟨rfl, rfl, Nat.le_of_ble_eq_true rfl, Nat.le_of_ble_eq_true rfl⟩ hP hD hS hA [0, 2] (by decide) rfl rfl (q0 := 0) rfl rfl rfl ⟨Nat.zero_le _, Nat.zero_le _⟩ hl.1 rfl (Nat.le_of_ble_eq_true rfl) dX7_offset_19 (fun H locs hP hD hS => ?_)
      replace hP : va_P D vwCl [oX7 h_t q_t (d_t.1), ((q_t 0), .inl (cs 0, 106, .inl (d_t.2 0))), ((q_t 3), .inl (cs 0, 3, .inl (r13.2.2 3)))] H := hP
      replace hD : va_D A [oX7 h_t q_t (d_t.1), ((q_t 0), .inl (cs 0, 106, .inl (d_t.2 0))), ((q_t 3), .inl (cs 0, 3, .inl (r13.2.2 3)))] := hD
      have e9 := Option.some.inj hf
      subst e9
      exact hR _ _ _ _ dX7_offset_22 hP hS
abbrev rm_X7_lateBy : Room := { frames := 0, cells := 0, slots := 0, locals := 0 }
def fX7_lateBy (k : Nat) (x0 : Int32) (x1 : Int32) : Option (Int32) :=
  (if x0 = 1 then some (x1 - 20) else (if x0 = 3 then some ((x1 / 10) * 10) else some x1))
set_option maxHeartbeats 4000000 in
set_option maxRecDepth 100000 in
theorem mX7_lateBy (l : Launch) (D : va_G) (cs : Nat → ClassId) (sk : Nat → Nat)  (k : Nat) (x0 : Int32) (x1 : Int32) {rv : Int32} (hf : fX7_lateBy k x0 x1 = some rv) : CTi l yX7_lateBy (Cond.code yX7_lateBy cX7_lateBy 2 (some .int) :: gtbl) rm_X7_lateBy D cs sk [.int x0, .int x1] [] (rv) [] := by
  refine CTi.of RX7 (by decide +kernel) rfl (Nat.le_of_ble_eq_true rfl) (fun p e s m args below meth c A Q ls M hA hR hl hP hD hS => ?_)
  obtain ⟨hx, hb, hml, hT, hown, hlk, hrt, hK, hN, hSE⟩ := id M
  replace hl : lv_has ls 2 [(0, .int x0), (1, .int x1)] := hl
  unfold fX7_lateBy at hf
  refine lv_iload_n hx hb dX7_lateBy_0 rfl (lv_at hl 0 rfl) ?_
  refine lv_iconst (v := 1) hx hb dX7_lateBy_1 rfl ?_
  have g2 := ite_some hf
  refine lv_icmp_ne (tgt := 12) hx hb dX7_lateBy_2 (by decide) (fun c1 => ?_) (fun c1 => ?_)
  · replace hf := g2.2 c1
    refine lv_iload_n hx hb dX7_lateBy_12 rfl (lv_at hl 0 rfl) ?_
    refine lv_iconst (v := 3) hx hb dX7_lateBy_13 rfl ?_
    have g4 := ite_some hf
    refine lv_icmp_ne (tgt := 27) hx hb dX7_lateBy_14 (by decide) (fun c3 => ?_) (fun c3 => ?_)
    · replace hf := g4.2 c3
      refine lv_iload_n hx hb dX7_lateBy_27 rfl (lv_at hl 1 rfl) ?_
      have e9 := Option.some.inj hf
      subst e9
      exact hR _ _ _ _ dX7_lateBy_28 hP hS
    · replace hf := g4.1 c3
      refine lv_iload_n hx hb dX7_lateBy_17 rfl (lv_at hl 1 rfl) ?_
      refine lv_bipush (v := 10) hx hb dX7_lateBy_18 rfl ?_
      refine lv_idiv hx hb dX7_lateBy_20 (by decide) ?_
      refine lv_bipush (v := 10) hx hb dX7_lateBy_21 rfl ?_
      refine lv_imul hx hb dX7_lateBy_23 ?_
      refine lv_goto (tgt := 28) hx hb dX7_lateBy_24 (by decide) ?_
      have e9 := Option.some.inj hf
      subst e9
      exact hR _ _ _ _ dX7_lateBy_28 hP hS
  · replace hf := g2.1 c1
    refine lv_iload_n hx hb dX7_lateBy_5 rfl (lv_at hl 1 rfl) ?_
    refine lv_bipush (v := 20) hx hb dX7_lateBy_6 rfl ?_
    refine lv_isub hx hb dX7_lateBy_8 ?_
    refine lv_goto (tgt := 28) hx hb dX7_lateBy_9 (by decide) ?_
    have e9 := Option.some.inj hf
    subst e9
    exact hR _ _ _ _ dX7_lateBy_28 hP hS
abbrev rm_X7_lateOf : Room := { frames := 1, cells := 0, slots := 0, locals := 22 }
def fX7_lateOf (k : Nat) (d_t : Dat) (x1 : Int32) : Option (Int32) :=
  (fX7_of k d_t x1 0).bind (fun (r1 : Int32) => (fX7_of k d_t x1 3).bind (fun (r3 : Int32) => (fX7_lateBy k r1 r3).bind (fun (r5 : Int32) => some r5)))
set_option maxHeartbeats 4000000 in
set_option maxRecDepth 100000 in
theorem mX7_lateOf (l : Launch) (D : va_G) (cs : Nat → ClassId) (sk : Nat → Nat) (h_t : Nat) (q_t : Nat → Nat) (k : Nat) (d_t : Dat) (x1 : Int32) {rv : Int32} (hf : fX7_lateOf k d_t x1 = some rv) : CTi l yX7_lateOf (Cond.code yX7_lateOf cX7_lateOf 2 (some .int) :: gtbl) rm_X7_lateOf D cs sk [.ref h_t, .int x1] [oX7 h_t q_t (d_t.1), ((q_t 0), .inl (cs 0, 106, .inl (d_t.2 0)))] (rv) [oX7 h_t q_t (d_t.1), ((q_t 0), .inl (cs 0, 106, .inl (d_t.2 0)))] := by
  refine CTi.of RX7 (by decide +kernel) rfl (Nat.le_of_ble_eq_true rfl) (fun p e s m args below meth c A Q ls M hA hR hl hP hD hS => ?_)
  obtain ⟨hx, hb, hml, hT, hown, hlk, hrt, hK, hN, hSE⟩ := id M
  replace hl : lv_has ls 2 [(0, .ref h_t), (1, .int x1)] := hl
  unfold fX7_lateOf at hf
  refine lv_aload_n hx hb dX7_lateOf_0 rfl (lv_at hl 0 rfl) ?_
  refine lv_iload_n hx hb dX7_lateOf_1 rfl (lv_at hl 1 rfl) ?_
  refine lv_iconst (v := 0) hx hb dX7_lateOf_2 rfl ?_
  obtain ⟨r1, e2, hf⟩ := bind_some hf
  refine callVi (As := [.int x1, .int 0]) (rest := []) M (mX7_of l D cs sk h_t q_t k d_t x1 0 e2) mw_X7_94 ln_X7_of ⟨rfl, rfl, Nat.le_of_ble_eq_true rfl, Nat.le_of_ble_eq_true rfl⟩ hP hD hS hA [0, 1] (by decide) rfl rfl (q0 := 0) rfl rfl rfl ⟨Nat.zero_le _, Nat.zero_le _⟩ hl.1 rfl (Nat.le_of_ble_eq_true rfl) dX7_lateOf_3 (fun H locs hP hD hS => ?_)
  replace hP : va_P D vwCl [oX7 h_t q_t (d_t.1), ((q_t 0), .inl (cs 0, 106, .inl (d_t.2 0)))] H := hP
  replace hD : va_D A [oX7 h_t q_t (d_t.1), ((q_t 0), .inl (cs 0, 106, .inl (d_t.2 0)))] := hD
  refine lv_aload_n hx hb dX7_lateOf_6 rfl (lv_at hl 0 rfl) ?_
  refine lv_iload_n hx hb dX7_lateOf_7 rfl (lv_at hl 1 rfl) ?_
  refine lv_iconst (v := 3) hx hb dX7_lateOf_8 rfl ?_
  obtain ⟨r3, e4, hf⟩ := bind_some hf
  refine callVi (As := [.int x1, .int 3]) (rest := [.int r1]) M (mX7_of l D cs sk h_t q_t k d_t x1 3 e4) mw_X7_94 ln_X7_of ⟨rfl, rfl, Nat.le_of_ble_eq_true rfl, Nat.le_of_ble_eq_true rfl⟩ hP hD hS hA [0, 1] (by decide) rfl rfl (q0 := 0) rfl rfl rfl ⟨Nat.zero_le _, Nat.zero_le _⟩ hl.1 rfl (Nat.le_of_ble_eq_true rfl) dX7_lateOf_9 (fun H locs hP hD hS => ?_)
  replace hP : va_P D vwCl [oX7 h_t q_t (d_t.1), ((q_t 0), .inl (cs 0, 106, .inl (d_t.2 0)))] H := hP
  replace hD : va_D A [oX7 h_t q_t (d_t.1), ((q_t 0), .inl (cs 0, 106, .inl (d_t.2 0)))] := hD
  obtain ⟨r5, e6, hf⟩ := bind_some hf
  refine callSi (As := [.int r1, .int r3]) (rest := []) M (mX7_lateBy l D cs sk  k r1 r3 e6) mw_X7_121 ln_X7_lateBy ⟨rfl, rfl, Nat.le_of_ble_eq_true rfl, Nat.le_of_ble_eq_true rfl⟩ hP hD hS hA [] (by decide) rfl rfl ⟨Nat.zero_le _, Nat.zero_le _⟩ hl.1 rfl (Nat.le_of_ble_eq_true rfl) dX7_lateOf_12 (fun H locs hP hD hS => ?_)
  replace hP : va_P D vwCl [oX7 h_t q_t (d_t.1), ((q_t 0), .inl (cs 0, 106, .inl (d_t.2 0)))] H := hP
  replace hD : va_D A [oX7 h_t q_t (d_t.1), ((q_t 0), .inl (cs 0, 106, .inl (d_t.2 0)))] := hD
  have e9 := Option.some.inj hf
  subst e9
  exact hR _ _ _ _ dX7_lateOf_15 hP hS
abbrev rm_X7_late : Room := { frames := 2, cells := 0, slots := 0, locals := 46 }
def fX7_late (k : Nat) (d_t : Dat) (x1 : Int32) (x2 : Int32) : Option (Int32 × Dat) :=
  (fX7_isPlayer k d_t x1).bind (fun (r1 : Int32) => (if r1 = 0 then (fX7_bad k d_t (-1000)).bind (fun (r5 : Int32 × Dat) => some ((r5.1), (d_t.1, (va_up d_t.2 3 (r5.2.2 3))))) else (fX7_in k x2.toInt64 0 1).bind (fun (r7 : Int32) => (if r7 = 0 then (fX7_bad k d_t (-1000)).bind (fun (r17 : Int32 × Dat) => some ((r17.1), (d_t.1, (va_up d_t.2 3 (r17.2.2 3))))) else (if x2 = 0 then (fX7_of k d_t x1 3).bind (fun (r15 : Int32) => some (r15, d_t)) else (fX7_lateOf k d_t x1).bind (fun (r13 : Int32) => some (r13, d_t)))))))
set_option maxHeartbeats 4000000 in
set_option maxRecDepth 100000 in
theorem mX7_late (l : Launch) (D : va_G) (cs : Nat → ClassId) (sk : Nat → Nat) (h_t : Nat) (q_t : Nat → Nat) (k : Nat) (d_t : Dat) (x1 : Int32) (x2 : Int32) {rv : Int32 × Dat} (hf : fX7_late k d_t x1 x2 = some rv) : CTi l yX7_late (Cond.code yX7_late cX7_late 3 (some .int) :: gtbl) rm_X7_late D cs sk [.ref h_t, .int x1, .int x2] [oX7 h_t q_t (d_t.1), ((q_t 0), .inl (cs 0, 106, .inl (d_t.2 0))), ((q_t 3), .inl (cs 0, 3, .inl (d_t.2 3)))] (rv.1) [oX7 h_t q_t (d_t.1), ((q_t 0), .inl (cs 0, 106, .inl (d_t.2 0))), ((q_t 3), .inl (cs 0, 3, .inl (rv.2.2 3)))] := by
  refine CTi.of RX7 (by decide +kernel) rfl (Nat.le_of_ble_eq_true rfl) (fun p e s m args below meth c A Q ls M hA hR hl hP hD hS => ?_)
  obtain ⟨hx, hb, hml, hT, hown, hlk, hrt, hK, hN, hSE⟩ := id M
  replace hl : lv_has ls 3 [(0, .ref h_t), (1, .int x1), (2, .int x2)] := hl
  unfold fX7_late at hf
  refine lv_aload_n hx hb dX7_late_0 rfl (lv_at hl 0 rfl) ?_
  refine lv_iload_n hx hb dX7_late_1 rfl (lv_at hl 1 rfl) ?_
  obtain ⟨r1, e2, hf⟩ := bind_some hf
  refine callVi (As := [.int x1]) (rest := []) M (mX7_isPlayer l D cs sk h_t q_t k d_t x1 e2) mw_X7_115 ln_X7_isPlayer ⟨rfl, rfl, Nat.le_of_ble_eq_true rfl, Nat.le_of_ble_eq_true rfl⟩ hP hD hS hA [0, 1] (by decide) rfl rfl (q0 := 0) rfl rfl rfl ⟨Nat.zero_le _, Nat.zero_le _⟩ hl.1 rfl (Nat.le_of_ble_eq_true rfl) dX7_late_2 (fun H locs hP hD hS => ?_)
  replace hP : va_P D vwCl [oX7 h_t q_t (d_t.1), ((q_t 0), .inl (cs 0, 106, .inl (d_t.2 0))), ((q_t 3), .inl (cs 0, 3, .inl (d_t.2 3)))] H := hP
  replace hD : va_D A [oX7 h_t q_t (d_t.1), ((q_t 0), .inl (cs 0, 106, .inl (d_t.2 0))), ((q_t 3), .inl (cs 0, 3, .inl (d_t.2 3)))] := hD
  have g4 := ite_some hf
  refine lv_if_eq (tgt := 18) hx hb dX7_late_5 (by decide) (fun c3 => ?_) (fun c3 => ?_)
  · replace hf := g4.1 c3
    refine lv_aload_n hx hb dX7_late_18 rfl (lv_at hl 0 rfl) ?_
    refine lv_sipush (v := (-1000)) hx hb dX7_late_19 rfl ?_
    obtain ⟨r5, e6, hf⟩ := bind_some hf
    refine callVi (As := [.int (-1000)]) (rest := []) M (mX7_bad l D cs sk h_t q_t k d_t (-1000) e6) mw_X7_76 ln_X7_bad ⟨rfl, rfl, Nat.le_of_ble_eq_true rfl, Nat.le_of_ble_eq_true rfl⟩ hP hD hS hA [0, 2] (by decide) rfl rfl (q0 := 0) rfl rfl rfl ⟨Nat.zero_le _, Nat.zero_le _⟩ hl.1 rfl (Nat.le_of_ble_eq_true rfl) dX7_late_22 (fun H locs hP hD hS => ?_)
    replace hP : va_P D vwCl [oX7 h_t q_t (d_t.1), ((q_t 0), .inl (cs 0, 106, .inl (d_t.2 0))), ((q_t 3), .inl (cs 0, 3, .inl (r5.2.2 3)))] H := hP
    replace hD : va_D A [oX7 h_t q_t (d_t.1), ((q_t 0), .inl (cs 0, 106, .inl (d_t.2 0))), ((q_t 3), .inl (cs 0, 3, .inl (r5.2.2 3)))] := hD
    have e9 := Option.some.inj hf
    subst e9
    exact hR _ _ _ _ dX7_late_25 hP hS
  · replace hf := g4.2 c3
    refine lv_iload_n hx hb dX7_late_8 rfl (lv_at hl 2 rfl) ?_
    refine lv_i2l (v := x2.toInt64) hx hb dX7_late_9 rfl ?_
    refine lv_lconst (v := 0) hx hb dX7_late_10 rfl ?_
    refine lv_lconst (v := 1) hx hb dX7_late_11 rfl ?_
    obtain ⟨r7, e8, hf⟩ := bind_some hf
    refine callSi (As := [.long x2.toInt64, .long 0, .long 1]) (rest := []) M (mX7_in l D cs sk  k x2.toInt64 0 1 e8) mw_X7_60 ln_X7_in ⟨rfl, rfl, Nat.le_of_ble_eq_true rfl, Nat.le_of_ble_eq_true rfl⟩ hP hD hS hA [] (by decide) rfl rfl ⟨Nat.zero_le _, Nat.zero_le _⟩ hl.1 rfl (Nat.le_of_ble_eq_true rfl) dX7_late_12 (fun H locs hP hD hS => ?_)
    replace hP : va_P D vwCl [oX7 h_t q_t (d_t.1), ((q_t 0), .inl (cs 0, 106, .inl (d_t.2 0))), ((q_t 3), .inl (cs 0, 3, .inl (d_t.2 3)))] H := hP
    replace hD : va_D A [oX7 h_t q_t (d_t.1), ((q_t 0), .inl (cs 0, 106, .inl (d_t.2 0))), ((q_t 3), .inl (cs 0, 3, .inl (d_t.2 3)))] := hD
    have g10 := ite_some hf
    refine lv_if_ne (tgt := 26) hx hb dX7_late_15 (by decide) (fun c9 => ?_) (fun c9 => ?_)
    · replace hf := g10.2 c9
      refine lv_iload_n hx hb dX7_late_26 rfl (lv_at hl 2 rfl) ?_
      have g12 := ite_some hf
      refine lv_if_ne (tgt := 39) hx hb dX7_late_27 (by decide) (fun c11 => ?_) (fun c11 => ?_)
      · replace hf := g12.2 c11
        refine lv_aload_n hx hb dX7_late_39 rfl (lv_at hl 0 rfl) ?_
        refine lv_iload_n hx hb dX7_late_40 rfl (lv_at hl 1 rfl) ?_
        obtain ⟨r13, e14, hf⟩ := bind_some hf
        refine callVi (As := [.int x1]) (rest := []) M (mX7_lateOf l D cs sk h_t q_t k d_t x1 e14) mw_X7_124 ln_X7_lateOf ⟨rfl, rfl, Nat.le_of_ble_eq_true rfl, Nat.le_of_ble_eq_true rfl⟩ hP hD hS hA [0, 1] (by decide) rfl rfl (q0 := 0) rfl rfl rfl ⟨Nat.zero_le _, Nat.zero_le _⟩ hl.1 rfl (Nat.le_of_ble_eq_true rfl) dX7_late_41 (fun H locs hP hD hS => ?_)
        replace hP : va_P D vwCl [oX7 h_t q_t (d_t.1), ((q_t 0), .inl (cs 0, 106, .inl (d_t.2 0))), ((q_t 3), .inl (cs 0, 3, .inl (d_t.2 3)))] H := hP
        replace hD : va_D A [oX7 h_t q_t (d_t.1), ((q_t 0), .inl (cs 0, 106, .inl (d_t.2 0))), ((q_t 3), .inl (cs 0, 3, .inl (d_t.2 3)))] := hD
        have e9 := Option.some.inj hf
        subst e9
        exact hR _ _ _ _ dX7_late_44 hP hS
      · replace hf := g12.1 c11
        refine lv_aload_n hx hb dX7_late_30 rfl (lv_at hl 0 rfl) ?_
        refine lv_iload_n hx hb dX7_late_31 rfl (lv_at hl 1 rfl) ?_
        refine lv_iconst (v := 3) hx hb dX7_late_32 rfl ?_
        obtain ⟨r15, e16, hf⟩ := bind_some hf
        refine callVi (As := [.int x1, .int 3]) (rest := []) M (mX7_of l D cs sk h_t q_t k d_t x1 3 e16) mw_X7_94 ln_X7_of ⟨rfl, rfl, Nat.le_of_ble_eq_true rfl, Nat.le_of_ble_eq_true rfl⟩ hP hD hS hA [0, 1] (by decide) rfl rfl (q0 := 0) rfl rfl rfl ⟨Nat.zero_le _, Nat.zero_le _⟩ hl.1 rfl (Nat.le_of_ble_eq_true rfl) dX7_late_33 (fun H locs hP hD hS => ?_)
        replace hP : va_P D vwCl [oX7 h_t q_t (d_t.1), ((q_t 0), .inl (cs 0, 106, .inl (d_t.2 0))), ((q_t 3), .inl (cs 0, 3, .inl (d_t.2 3)))] H := hP
        replace hD : va_D A [oX7 h_t q_t (d_t.1), ((q_t 0), .inl (cs 0, 106, .inl (d_t.2 0))), ((q_t 3), .inl (cs 0, 3, .inl (d_t.2 3)))] := hD
        refine lv_goto (tgt := 44) hx hb dX7_late_36 (by decide) ?_
        have e9 := Option.some.inj hf
        subst e9
        exact hR _ _ _ _ dX7_late_44 hP hS
    · replace hf := g10.1 c9
      refine lv_aload_n hx hb dX7_late_18 rfl (lv_at hl 0 rfl) ?_
      refine lv_sipush (v := (-1000)) hx hb dX7_late_19 rfl ?_
      obtain ⟨r17, e18, hf⟩ := bind_some hf
      refine callVi (As := [.int (-1000)]) (rest := []) M (mX7_bad l D cs sk h_t q_t k d_t (-1000) e18) mw_X7_76 ln_X7_bad ⟨rfl, rfl, Nat.le_of_ble_eq_true rfl, Nat.le_of_ble_eq_true rfl⟩ hP hD hS hA [0, 2] (by decide) rfl rfl (q0 := 0) rfl rfl rfl ⟨Nat.zero_le _, Nat.zero_le _⟩ hl.1 rfl (Nat.le_of_ble_eq_true rfl) dX7_late_22 (fun H locs hP hD hS => ?_)
      replace hP : va_P D vwCl [oX7 h_t q_t (d_t.1), ((q_t 0), .inl (cs 0, 106, .inl (d_t.2 0))), ((q_t 3), .inl (cs 0, 3, .inl (r17.2.2 3)))] H := hP
      replace hD : va_D A [oX7 h_t q_t (d_t.1), ((q_t 0), .inl (cs 0, 106, .inl (d_t.2 0))), ((q_t 3), .inl (cs 0, 3, .inl (r17.2.2 3)))] := hD
      have e9 := Option.some.inj hf
      subst e9
      exact hR _ _ _ _ dX7_late_25 hP hS
abbrev rm_X7_far : Room := { frames := 0, cells := 0, slots := 0, locals := 0 }
def fX7_far (k : Nat) (x0 : Int32) (x1 : Int32) : Option (Int32) :=
  (if x0 ≤ x1 then some (x1 - x0) else some (x0 - x1))
set_option maxHeartbeats 4000000 in
set_option maxRecDepth 100000 in
theorem mX7_far (l : Launch) (D : va_G) (cs : Nat → ClassId) (sk : Nat → Nat)  (k : Nat) (x0 : Int32) (x1 : Int32) {rv : Int32} (hf : fX7_far k x0 x1 = some rv) : CTi l yX7_far (Cond.code yX7_far cX7_far 2 (some .int) :: gtbl) rm_X7_far D cs sk [.int x0, .int x1] [] (rv) [] := by
  refine CTi.of RX7 (by decide +kernel) rfl (Nat.le_of_ble_eq_true rfl) (fun p e s m args below meth c A Q ls M hA hR hl hP hD hS => ?_)
  obtain ⟨hx, hb, hml, hT, hown, hlk, hrt, hK, hN, hSE⟩ := id M
  replace hl : lv_has ls 2 [(0, .int x0), (1, .int x1)] := hl
  unfold fX7_far at hf
  refine lv_iload_n hx hb dX7_far_0 rfl (lv_at hl 0 rfl) ?_
  refine lv_iload_n hx hb dX7_far_1 rfl (lv_at hl 1 rfl) ?_
  have g2 := ite_some hf
  refine lv_icmp_le (tgt := 11) hx hb dX7_far_2 (by decide) (fun c1 => ?_) (fun c1 => ?_)
  · replace hf := g2.1 c1
    refine lv_iload_n hx hb dX7_far_11 rfl (lv_at hl 1 rfl) ?_
    refine lv_iload_n hx hb dX7_far_12 rfl (lv_at hl 0 rfl) ?_
    refine lv_isub hx hb dX7_far_13 ?_
    have e9 := Option.some.inj hf
    subst e9
    exact hR _ _ _ _ dX7_far_14 hP hS
  · replace hf := g2.2 c1
    refine lv_iload_n hx hb dX7_far_5 rfl (lv_at hl 0 rfl) ?_
    refine lv_iload_n hx hb dX7_far_6 rfl (lv_at hl 1 rfl) ?_
    refine lv_isub hx hb dX7_far_7 ?_
    refine lv_goto (tgt := 14) hx hb dX7_far_8 (by decide) ?_
    have e9 := Option.some.inj hf
    subst e9
    exact hR _ _ _ _ dX7_far_14 hP hS
abbrev rm_X7_paces : Room := { frames := 1, cells := 0, slots := 0, locals := 21 }
def fX7_paces (k : Nat) (d_t : Dat) (x1 : Int32) (x2 : Int32) : Option (Int32) :=
  chk 106 x1 (chk 106 x2 ((fX7_far k ((d_t.2 0) x1.toNatClampNeg) ((d_t.2 0) x2.toNatClampNeg)).bind (fun (r1 : Int32) => chk 106 (x1 + 1) (chk 106 (x2 + 1) ((fX7_far k ((d_t.2 0) (x1 + 1).toNatClampNeg) ((d_t.2 0) (x2 + 1).toNatClampNeg)).bind (fun (r3 : Int32) => some (r1 + r3)))))))
set_option maxHeartbeats 4000000 in
set_option maxRecDepth 100000 in
theorem mX7_paces (l : Launch) (D : va_G) (cs : Nat → ClassId) (sk : Nat → Nat) (h_t : Nat) (q_t : Nat → Nat) (k : Nat) (d_t : Dat) (x1 : Int32) (x2 : Int32) {rv : Int32} (hf : fX7_paces k d_t x1 x2 = some rv) : CTi l yX7_paces (Cond.code yX7_paces cX7_paces 3 (some .int) :: gtbl) rm_X7_paces D cs sk [.ref h_t, .int x1, .int x2] [oX7 h_t q_t (d_t.1), ((q_t 0), .inl (cs 0, 106, .inl (d_t.2 0)))] (rv) [oX7 h_t q_t (d_t.1), ((q_t 0), .inl (cs 0, 106, .inl (d_t.2 0)))] := by
  refine CTi.of RX7 (by decide +kernel) rfl (Nat.le_of_ble_eq_true rfl) (fun p e s m args below meth c A Q ls M hA hR hl hP hD hS => ?_)
  obtain ⟨hx, hb, hml, hT, hown, hlk, hrt, hK, hN, hSE⟩ := id M
  replace hl : lv_has ls 3 [(0, .ref h_t), (1, .int x1), (2, .int x2)] := hl
  unfold fX7_paces at hf
  refine lv_aload_n hx hb dX7_paces_0 rfl (lv_at hl 0 rfl) ?_
  refine va_get (D := D) (ci := 7) (v := .ref (q_t 0)) (C := RX7) (T := TX7) (N := 23) hx hb hT iX7 hown hK hP 0 rfl rfl 0 (by decide) (hT _ fw_X7_7) (fun _ h9 => h9) rfl dX7_paces_1 ?_
  refine lv_iload_n hx hb dX7_paces_4 rfl (lv_at hl 1 rfl) ?_
  obtain ⟨hi, hf⟩ := chk_some hf
  refine va_iald (D := D) hx hb hK hP 1 0 rfl rfl hi dX7_paces_5 ?_
  refine lv_aload_n hx hb dX7_paces_6 rfl (lv_at hl 0 rfl) ?_
  refine va_get (D := D) (ci := 7) (v := .ref (q_t 0)) (C := RX7) (T := TX7) (N := 23) hx hb hT iX7 hown hK hP 0 rfl rfl 0 (by decide) (hT _ fw_X7_7) (fun _ h9 => h9) rfl dX7_paces_7 ?_
  refine lv_iload_n hx hb dX7_paces_10 rfl (lv_at hl 2 rfl) ?_
  obtain ⟨hi, hf⟩ := chk_some hf
  refine va_iald (D := D) hx hb hK hP 1 0 rfl rfl hi dX7_paces_11 ?_
  obtain ⟨r1, e2, hf⟩ := bind_some hf
  refine callSi (As := [.int ((d_t.2 0) x1.toNatClampNeg), .int ((d_t.2 0) x2.toNatClampNeg)]) (rest := []) M (mX7_far l D cs sk  k ((d_t.2 0) x1.toNatClampNeg) ((d_t.2 0) x2.toNatClampNeg) e2) mw_X7_127 ln_X7_far ⟨rfl, rfl, Nat.le_of_ble_eq_true rfl, Nat.le_of_ble_eq_true rfl⟩ hP hD hS hA [] (by decide) rfl rfl ⟨Nat.zero_le _, Nat.zero_le _⟩ hl.1 rfl (Nat.le_of_ble_eq_true rfl) dX7_paces_12 (fun H locs hP hD hS => ?_)
  replace hP : va_P D vwCl [oX7 h_t q_t (d_t.1), ((q_t 0), .inl (cs 0, 106, .inl (d_t.2 0)))] H := hP
  replace hD : va_D A [oX7 h_t q_t (d_t.1), ((q_t 0), .inl (cs 0, 106, .inl (d_t.2 0)))] := hD
  refine lv_aload_n hx hb dX7_paces_15 rfl (lv_at hl 0 rfl) ?_
  refine va_get (D := D) (ci := 7) (v := .ref (q_t 0)) (C := RX7) (T := TX7) (N := 23) hx hb hT iX7 hown hK hP 0 rfl rfl 0 (by decide) (hT _ fw_X7_7) (fun _ h9 => h9) rfl dX7_paces_16 ?_
  refine lv_iload_n hx hb dX7_paces_19 rfl (lv_at hl 1 rfl) ?_
  refine lv_iconst (v := 1) hx hb dX7_paces_20 rfl ?_
  refine lv_iadd hx hb dX7_paces_21 ?_
  obtain ⟨hi, hf⟩ := chk_some hf
  refine va_iald (D := D) hx hb hK hP 1 0 rfl rfl hi dX7_paces_22 ?_
  refine lv_aload_n hx hb dX7_paces_23 rfl (lv_at hl 0 rfl) ?_
  refine va_get (D := D) (ci := 7) (v := .ref (q_t 0)) (C := RX7) (T := TX7) (N := 23) hx hb hT iX7 hown hK hP 0 rfl rfl 0 (by decide) (hT _ fw_X7_7) (fun _ h9 => h9) rfl dX7_paces_24 ?_
  refine lv_iload_n hx hb dX7_paces_27 rfl (lv_at hl 2 rfl) ?_
  refine lv_iconst (v := 1) hx hb dX7_paces_28 rfl ?_
  refine lv_iadd hx hb dX7_paces_29 ?_
  obtain ⟨hi, hf⟩ := chk_some hf
  refine va_iald (D := D) hx hb hK hP 1 0 rfl rfl hi dX7_paces_30 ?_
  obtain ⟨r3, e4, hf⟩ := bind_some hf
  refine callSi (As := [.int ((d_t.2 0) (x1 + 1).toNatClampNeg), .int ((d_t.2 0) (x2 + 1).toNatClampNeg)]) (rest := [.int r1]) M (mX7_far l D cs sk  k ((d_t.2 0) (x1 + 1).toNatClampNeg) ((d_t.2 0) (x2 + 1).toNatClampNeg) e4) mw_X7_127 ln_X7_far ⟨rfl, rfl, Nat.le_of_ble_eq_true rfl, Nat.le_of_ble_eq_true rfl⟩ hP hD hS hA [] (by decide) rfl rfl ⟨Nat.zero_le _, Nat.zero_le _⟩ hl.1 rfl (Nat.le_of_ble_eq_true rfl) dX7_paces_31 (fun H locs hP hD hS => ?_)
  replace hP : va_P D vwCl [oX7 h_t q_t (d_t.1), ((q_t 0), .inl (cs 0, 106, .inl (d_t.2 0)))] H := hP
  replace hD : va_D A [oX7 h_t q_t (d_t.1), ((q_t 0), .inl (cs 0, 106, .inl (d_t.2 0)))] := hD
  refine lv_iadd hx hb dX7_paces_34 ?_
  have e9 := Option.some.inj hf
  subst e9
  exact hR _ _ _ _ dX7_paces_35 hP hS
abbrev rm_X7_soundOf : Room := { frames := 2, cells := 0, slots := 0, locals := 43 }
def fX7_soundOf (k : Nat) (d_t : Dat) (x1 : Int32) (x2 : Int32) : Option (Int32) :=
  (fX7_paces k d_t (0 + (2 * x1)) (12 + (2 * x2))).bind (fun (r1 : Int32) => chk 106 20 (chk 106 21 (chk 106 (0 + (2 * x1)) (chk 106 (12 + (2 * x2)) (chk 106 22 (chk 106 ((0 + (2 * x1)) + 1) (chk 106 ((12 + (2 * x2)) + 1) ((if 0 ≤ ((r1 * ((d_t.2 0) (20 : Int32).toNatClampNeg)) + ((((d_t.2 0) (21 : Int32).toNatClampNeg) * (((d_t.2 0) (0 + (2 * x1)).toNatClampNeg) - ((d_t.2 0) (12 + (2 * x2)).toNatClampNeg))) + (((d_t.2 0) (22 : Int32).toNatClampNeg) * (((d_t.2 0) ((0 + (2 * x1)) + 1).toNatClampNeg) - ((d_t.2 0) ((12 + (2 * x2)) + 1).toNatClampNeg))))) then some ((r1 * ((d_t.2 0) (20 : Int32).toNatClampNeg)) + ((((d_t.2 0) (21 : Int32).toNatClampNeg) * (((d_t.2 0) (0 + (2 * x1)).toNatClampNeg) - ((d_t.2 0) (12 + (2 * x2)).toNatClampNeg))) + (((d_t.2 0) (22 : Int32).toNatClampNeg) * (((d_t.2 0) ((0 + (2 * x1)) + 1).toNatClampNeg) - ((d_t.2 0) ((12 + (2 * x2)) + 1).toNatClampNeg))))) else some 0)))))))))
set_option maxHeartbeats 4000000 in
set_option maxRecDepth 100000 in
theorem mX7_soundOf (l : Launch) (D : va_G) (cs : Nat → ClassId) (sk : Nat → Nat) (h_t : Nat) (q_t : Nat → Nat) (k : Nat) (d_t : Dat) (x1 : Int32) (x2 : Int32) {rv : Int32} (hf : fX7_soundOf k d_t x1 x2 = some rv) : CTi l yX7_soundOf (Cond.code yX7_soundOf cX7_soundOf 6 (some .int) :: gtbl) rm_X7_soundOf D cs sk [.ref h_t, .int x1, .int x2] [oX7 h_t q_t (d_t.1), ((q_t 0), .inl (cs 0, 106, .inl (d_t.2 0)))] (rv) [oX7 h_t q_t (d_t.1), ((q_t 0), .inl (cs 0, 106, .inl (d_t.2 0)))] := by
  refine CTi.of RX7 (by decide +kernel) rfl (Nat.le_of_ble_eq_true rfl) (fun p e s m args below meth c A Q ls M hA hR hl hP hD hS => ?_)
  obtain ⟨hx, hb, hml, hT, hown, hlk, hrt, hK, hN, hSE⟩ := id M
  replace hl : lv_has ls 6 [(0, .ref h_t), (1, .int x1), (2, .int x2)] := hl
  unfold fX7_soundOf at hf
  refine lv_iconst (v := 0) hx hb dX7_soundOf_0 rfl ?_
  refine lv_iconst (v := 2) hx hb dX7_soundOf_1 rfl ?_
  refine lv_iload_n hx hb dX7_soundOf_2 rfl (lv_at hl 1 rfl) ?_
  refine lv_imul hx hb dX7_soundOf_3 ?_
  refine lv_iadd hx hb dX7_soundOf_4 ?_
  refine lv_istore_n (lv' := [(3, .int (0 + (2 * x1))), (0, .ref h_t), (1, .int x1), (2, .int x2)]) hx hb dX7_soundOf_5 rfl hl (by decide) rfl (fun ls hl => ?_)
  refine lv_bipush (v := 12) hx hb dX7_soundOf_6 rfl ?_
  refine lv_iconst (v := 2) hx hb dX7_soundOf_8 rfl ?_
  refine lv_iload_n hx hb dX7_soundOf_9 rfl (lv_at hl 3 rfl) ?_
  refine lv_imul hx hb dX7_soundOf_10 ?_
  refine lv_iadd hx hb dX7_soundOf_11 ?_
  refine lv_istore (lv' := [(4, .int (12 + (2 * x2))), (3, .int (0 + (2 * x1))), (0, .ref h_t), (1, .int x1), (2, .int x2)]) hx hb dX7_soundOf_12 hl (by decide) rfl (fun ls hl => ?_)
  refine lv_aload_n hx hb dX7_soundOf_14 rfl (lv_at hl 2 rfl) ?_
  refine lv_iload_n hx hb dX7_soundOf_15 rfl (lv_at hl 1 rfl) ?_
  refine lv_iload hx hb dX7_soundOf_16 (lv_at hl 0 rfl) ?_
  obtain ⟨r1, e2, hf⟩ := bind_some hf
  refine callVi (As := [.int (0 + (2 * x1)), .int (12 + (2 * x2))]) (rest := []) M (mX7_paces l D cs sk h_t q_t k d_t (0 + (2 * x1)) (12 + (2 * x2)) e2) mw_X7_130 ln_X7_paces ⟨rfl, rfl, Nat.le_of_ble_eq_true rfl, Nat.le_of_ble_eq_true rfl⟩ hP hD hS hA [0, 1] (by decide) rfl rfl (q0 := 0) rfl rfl rfl ⟨Nat.zero_le _, Nat.zero_le _⟩ hl.1 rfl (Nat.le_of_ble_eq_true rfl) dX7_soundOf_18 (fun H locs hP hD hS => ?_)
  replace hP : va_P D vwCl [oX7 h_t q_t (d_t.1), ((q_t 0), .inl (cs 0, 106, .inl (d_t.2 0)))] H := hP
  replace hD : va_D A [oX7 h_t q_t (d_t.1), ((q_t 0), .inl (cs 0, 106, .inl (d_t.2 0)))] := hD
  refine lv_aload_n hx hb dX7_soundOf_21 rfl (lv_at hl 2 rfl) ?_
  refine va_get (D := D) (ci := 7) (v := .ref (q_t 0)) (C := RX7) (T := TX7) (N := 23) hx hb hT iX7 hown hK hP 0 rfl rfl 0 (by decide) (hT _ fw_X7_7) (fun _ h9 => h9) rfl dX7_soundOf_22 ?_
  refine lv_bipush (v := 20) hx hb dX7_soundOf_25 rfl ?_
  obtain ⟨hi, hf⟩ := chk_some hf
  refine va_iald (D := D) hx hb hK hP 1 0 rfl rfl hi dX7_soundOf_27 ?_
  refine lv_imul hx hb dX7_soundOf_28 ?_
  refine lv_istore (lv' := [(5, .int (r1 * ((d_t.2 0) (20 : Int32).toNatClampNeg))), (4, .int (12 + (2 * x2))), (3, .int (0 + (2 * x1))), (0, .ref h_t), (1, .int x1), (2, .int x2)]) hx hb dX7_soundOf_29 hl (by decide) rfl (fun ls hl => ?_)
  refine lv_iload hx hb dX7_soundOf_31 (lv_at hl 0 rfl) ?_
  refine lv_aload_n hx hb dX7_soundOf_33 rfl (lv_at hl 3 rfl) ?_
  refine va_get (D := D) (ci := 7) (v := .ref (q_t 0)) (C := RX7) (T := TX7) (N := 23) hx hb hT iX7 hown hK hP 0 rfl rfl 0 (by decide) (hT _ fw_X7_7) (fun _ h9 => h9) rfl dX7_soundOf_34 ?_
  refine lv_bipush (v := 21) hx hb dX7_soundOf_37 rfl ?_
  obtain ⟨hi, hf⟩ := chk_some hf
  refine va_iald (D := D) hx hb hK hP 1 0 rfl rfl hi dX7_soundOf_39 ?_
  refine lv_aload_n hx hb dX7_soundOf_40 rfl (lv_at hl 3 rfl) ?_
  refine va_get (D := D) (ci := 7) (v := .ref (q_t 0)) (C := RX7) (T := TX7) (N := 23) hx hb hT iX7 hown hK hP 0 rfl rfl 0 (by decide) (hT _ fw_X7_7) (fun _ h9 => h9) rfl dX7_soundOf_41 ?_
  refine lv_iload_n hx hb dX7_soundOf_44 rfl (lv_at hl 2 rfl) ?_
  obtain ⟨hi, hf⟩ := chk_some hf
  refine va_iald (D := D) hx hb hK hP 1 0 rfl rfl hi dX7_soundOf_45 ?_
  refine lv_aload_n hx hb dX7_soundOf_46 rfl (lv_at hl 3 rfl) ?_
  refine va_get (D := D) (ci := 7) (v := .ref (q_t 0)) (C := RX7) (T := TX7) (N := 23) hx hb hT iX7 hown hK hP 0 rfl rfl 0 (by decide) (hT _ fw_X7_7) (fun _ h9 => h9) rfl dX7_soundOf_47 ?_
  refine lv_iload hx hb dX7_soundOf_50 (lv_at hl 1 rfl) ?_
  obtain ⟨hi, hf⟩ := chk_some hf
  refine va_iald (D := D) hx hb hK hP 1 0 rfl rfl hi dX7_soundOf_52 ?_
  refine lv_isub hx hb dX7_soundOf_53 ?_
  refine lv_imul hx hb dX7_soundOf_54 ?_
  refine lv_aload_n hx hb dX7_soundOf_55 rfl (lv_at hl 3 rfl) ?_
  refine va_get (D := D) (ci := 7) (v := .ref (q_t 0)) (C := RX7) (T := TX7) (N := 23) hx hb hT iX7 hown hK hP 0 rfl rfl 0 (by decide) (hT _ fw_X7_7) (fun _ h9 => h9) rfl dX7_soundOf_56 ?_
  refine lv_bipush (v := 22) hx hb dX7_soundOf_59 rfl ?_
  obtain ⟨hi, hf⟩ := chk_some hf
  refine va_iald (D := D) hx hb hK hP 1 0 rfl rfl hi dX7_soundOf_61 ?_
  refine lv_aload_n hx hb dX7_soundOf_62 rfl (lv_at hl 3 rfl) ?_
  refine va_get (D := D) (ci := 7) (v := .ref (q_t 0)) (C := RX7) (T := TX7) (N := 23) hx hb hT iX7 hown hK hP 0 rfl rfl 0 (by decide) (hT _ fw_X7_7) (fun _ h9 => h9) rfl dX7_soundOf_63 ?_
  refine lv_iload_n hx hb dX7_soundOf_66 rfl (lv_at hl 2 rfl) ?_
  refine lv_iconst (v := 1) hx hb dX7_soundOf_67 rfl ?_
  refine lv_iadd hx hb dX7_soundOf_68 ?_
  obtain ⟨hi, hf⟩ := chk_some hf
  refine va_iald (D := D) hx hb hK hP 1 0 rfl rfl hi dX7_soundOf_69 ?_
  refine lv_aload_n hx hb dX7_soundOf_70 rfl (lv_at hl 3 rfl) ?_
  refine va_get (D := D) (ci := 7) (v := .ref (q_t 0)) (C := RX7) (T := TX7) (N := 23) hx hb hT iX7 hown hK hP 0 rfl rfl 0 (by decide) (hT _ fw_X7_7) (fun _ h9 => h9) rfl dX7_soundOf_71 ?_
  refine lv_iload hx hb dX7_soundOf_74 (lv_at hl 1 rfl) ?_
  refine lv_iconst (v := 1) hx hb dX7_soundOf_76 rfl ?_
  refine lv_iadd hx hb dX7_soundOf_77 ?_
  obtain ⟨hi, hf⟩ := chk_some hf
  refine va_iald (D := D) hx hb hK hP 1 0 rfl rfl hi dX7_soundOf_78 ?_
  refine lv_isub hx hb dX7_soundOf_79 ?_
  refine lv_imul hx hb dX7_soundOf_80 ?_
  refine lv_iadd hx hb dX7_soundOf_81 ?_
  refine lv_iadd hx hb dX7_soundOf_82 ?_
  refine lv_istore (lv' := [(5, .int ((r1 * ((d_t.2 0) (20 : Int32).toNatClampNeg)) + ((((d_t.2 0) (21 : Int32).toNatClampNeg) * (((d_t.2 0) (0 + (2 * x1)).toNatClampNeg) - ((d_t.2 0) (12 + (2 * x2)).toNatClampNeg))) + (((d_t.2 0) (22 : Int32).toNatClampNeg) * (((d_t.2 0) ((0 + (2 * x1)) + 1).toNatClampNeg) - ((d_t.2 0) ((12 + (2 * x2)) + 1).toNatClampNeg)))))), (4, .int (12 + (2 * x2))), (3, .int (0 + (2 * x1))), (0, .ref h_t), (1, .int x1), (2, .int x2)]) hx hb dX7_soundOf_83 hl (by decide) rfl (fun ls hl => ?_)
  refine lv_iload hx hb dX7_soundOf_85 (lv_at hl 0 rfl) ?_
  have g4 := ite_some hf
  refine lv_if_ge (tgt := 94) hx hb dX7_soundOf_87 (by decide) (fun c3 => ?_) (fun c3 => ?_)
  · replace hf := g4.1 c3
    refine lv_iload hx hb dX7_soundOf_94 (lv_at hl 0 rfl) ?_
    have e9 := Option.some.inj hf
    subst e9
    exact hR _ _ _ _ dX7_soundOf_96 hP hS
  · replace hf := g4.2 c3
    refine lv_iconst (v := 0) hx hb dX7_soundOf_90 rfl ?_
    refine lv_goto (tgt := 96) hx hb dX7_soundOf_91 (by decide) ?_
    have e9 := Option.some.inj hf
    subst e9
    exact hR _ _ _ _ dX7_soundOf_96 hP hS
abbrev rm_X7_sound : Room := { frames := 3, cells := 0, slots := 0, locals := 68 }
def fX7_sound (k : Nat) (d_t : Dat) (x1 : Int32) (x2 : Int32) : Option (Int32 × Dat) :=
  (fX7_isWindow k d_t x1).bind (fun (r1 : Int32) => (if r1 = 0 then (fX7_bad k d_t (-2)).bind (fun (r5 : Int32 × Dat) => some ((r5.1), (d_t.1, (va_up d_t.2 3 (r5.2.2 3))))) else (fX7_isEar k d_t x2).bind (fun (r7 : Int32) => (if r7 = 0 then (fX7_bad k d_t (-2)).bind (fun (r11 : Int32 × Dat) => some ((r11.1), (d_t.1, (va_up d_t.2 3 (r11.2.2 3))))) else (fX7_soundOf k d_t x1 x2).bind (fun (r13 : Int32) => some (r13, d_t))))))
set_option maxHeartbeats 4000000 in
set_option maxRecDepth 100000 in
theorem mX7_sound (l : Launch) (D : va_G) (cs : Nat → ClassId) (sk : Nat → Nat) (h_t : Nat) (q_t : Nat → Nat) (k : Nat) (d_t : Dat) (x1 : Int32) (x2 : Int32) {rv : Int32 × Dat} (hf : fX7_sound k d_t x1 x2 = some rv) : CTi l yX7_sound (Cond.code yX7_sound cX7_sound 3 (some .int) :: gtbl) rm_X7_sound D cs sk [.ref h_t, .int x1, .int x2] [oX7 h_t q_t (d_t.1), ((q_t 0), .inl (cs 0, 106, .inl (d_t.2 0))), ((q_t 3), .inl (cs 0, 3, .inl (d_t.2 3)))] (rv.1) [oX7 h_t q_t (d_t.1), ((q_t 0), .inl (cs 0, 106, .inl (d_t.2 0))), ((q_t 3), .inl (cs 0, 3, .inl (rv.2.2 3)))] := by
  refine CTi.of RX7 (by decide +kernel) rfl (Nat.le_of_ble_eq_true rfl) (fun p e s m args below meth c A Q ls M hA hR hl hP hD hS => ?_)
  obtain ⟨hx, hb, hml, hT, hown, hlk, hrt, hK, hN, hSE⟩ := id M
  replace hl : lv_has ls 3 [(0, .ref h_t), (1, .int x1), (2, .int x2)] := hl
  unfold fX7_sound at hf
  refine lv_aload_n hx hb dX7_sound_0 rfl (lv_at hl 0 rfl) ?_
  refine lv_iload_n hx hb dX7_sound_1 rfl (lv_at hl 1 rfl) ?_
  obtain ⟨r1, e2, hf⟩ := bind_some hf
  refine callVi (As := [.int x1]) (rest := []) M (mX7_isWindow l D cs sk h_t q_t k d_t x1 e2) mw_X7_100 ln_X7_isWindow ⟨rfl, rfl, Nat.le_of_ble_eq_true rfl, Nat.le_of_ble_eq_true rfl⟩ hP hD hS hA [0, 1] (by decide) rfl rfl (q0 := 0) rfl rfl rfl ⟨Nat.zero_le _, Nat.zero_le _⟩ hl.1 rfl (Nat.le_of_ble_eq_true rfl) dX7_sound_2 (fun H locs hP hD hS => ?_)
  replace hP : va_P D vwCl [oX7 h_t q_t (d_t.1), ((q_t 0), .inl (cs 0, 106, .inl (d_t.2 0))), ((q_t 3), .inl (cs 0, 3, .inl (d_t.2 3)))] H := hP
  replace hD : va_D A [oX7 h_t q_t (d_t.1), ((q_t 0), .inl (cs 0, 106, .inl (d_t.2 0))), ((q_t 3), .inl (cs 0, 3, .inl (d_t.2 3)))] := hD
  have g4 := ite_some hf
  refine lv_if_eq (tgt := 25) hx hb dX7_sound_5 (by decide) (fun c3 => ?_) (fun c3 => ?_)
  · replace hf := g4.1 c3
    refine lv_aload_n hx hb dX7_sound_25 rfl (lv_at hl 0 rfl) ?_
    refine lv_bipush (v := (-2)) hx hb dX7_sound_26 rfl ?_
    obtain ⟨r5, e6, hf⟩ := bind_some hf
    refine callVi (As := [.int (-2)]) (rest := []) M (mX7_bad l D cs sk h_t q_t k d_t (-2) e6) mw_X7_76 ln_X7_bad ⟨rfl, rfl, Nat.le_of_ble_eq_true rfl, Nat.le_of_ble_eq_true rfl⟩ hP hD hS hA [0, 2] (by decide) rfl rfl (q0 := 0) rfl rfl rfl ⟨Nat.zero_le _, Nat.zero_le _⟩ hl.1 rfl (Nat.le_of_ble_eq_true rfl) dX7_sound_28 (fun H locs hP hD hS => ?_)
    replace hP : va_P D vwCl [oX7 h_t q_t (d_t.1), ((q_t 0), .inl (cs 0, 106, .inl (d_t.2 0))), ((q_t 3), .inl (cs 0, 3, .inl (r5.2.2 3)))] H := hP
    replace hD : va_D A [oX7 h_t q_t (d_t.1), ((q_t 0), .inl (cs 0, 106, .inl (d_t.2 0))), ((q_t 3), .inl (cs 0, 3, .inl (r5.2.2 3)))] := hD
    have e9 := Option.some.inj hf
    subst e9
    exact hR _ _ _ _ dX7_sound_31 hP hS
  · replace hf := g4.2 c3
    refine lv_aload_n hx hb dX7_sound_8 rfl (lv_at hl 0 rfl) ?_
    refine lv_iload_n hx hb dX7_sound_9 rfl (lv_at hl 2 rfl) ?_
    obtain ⟨r7, e8, hf⟩ := bind_some hf
    refine callVi (As := [.int x2]) (rest := []) M (mX7_isEar l D cs sk h_t q_t k d_t x2 e8) mw_X7_133 ln_X7_isEar ⟨rfl, rfl, Nat.le_of_ble_eq_true rfl, Nat.le_of_ble_eq_true rfl⟩ hP hD hS hA [0, 1] (by decide) rfl rfl (q0 := 0) rfl rfl rfl ⟨Nat.zero_le _, Nat.zero_le _⟩ hl.1 rfl (Nat.le_of_ble_eq_true rfl) dX7_sound_10 (fun H locs hP hD hS => ?_)
    replace hP : va_P D vwCl [oX7 h_t q_t (d_t.1), ((q_t 0), .inl (cs 0, 106, .inl (d_t.2 0))), ((q_t 3), .inl (cs 0, 3, .inl (d_t.2 3)))] H := hP
    replace hD : va_D A [oX7 h_t q_t (d_t.1), ((q_t 0), .inl (cs 0, 106, .inl (d_t.2 0))), ((q_t 3), .inl (cs 0, 3, .inl (d_t.2 3)))] := hD
    have g10 := ite_some hf
    refine lv_if_eq (tgt := 25) hx hb dX7_sound_13 (by decide) (fun c9 => ?_) (fun c9 => ?_)
    · replace hf := g10.1 c9
      refine lv_aload_n hx hb dX7_sound_25 rfl (lv_at hl 0 rfl) ?_
      refine lv_bipush (v := (-2)) hx hb dX7_sound_26 rfl ?_
      obtain ⟨r11, e12, hf⟩ := bind_some hf
      refine callVi (As := [.int (-2)]) (rest := []) M (mX7_bad l D cs sk h_t q_t k d_t (-2) e12) mw_X7_76 ln_X7_bad ⟨rfl, rfl, Nat.le_of_ble_eq_true rfl, Nat.le_of_ble_eq_true rfl⟩ hP hD hS hA [0, 2] (by decide) rfl rfl (q0 := 0) rfl rfl rfl ⟨Nat.zero_le _, Nat.zero_le _⟩ hl.1 rfl (Nat.le_of_ble_eq_true rfl) dX7_sound_28 (fun H locs hP hD hS => ?_)
      replace hP : va_P D vwCl [oX7 h_t q_t (d_t.1), ((q_t 0), .inl (cs 0, 106, .inl (d_t.2 0))), ((q_t 3), .inl (cs 0, 3, .inl (r11.2.2 3)))] H := hP
      replace hD : va_D A [oX7 h_t q_t (d_t.1), ((q_t 0), .inl (cs 0, 106, .inl (d_t.2 0))), ((q_t 3), .inl (cs 0, 3, .inl (r11.2.2 3)))] := hD
      have e9 := Option.some.inj hf
      subst e9
      exact hR _ _ _ _ dX7_sound_31 hP hS
    · replace hf := g10.2 c9
      refine lv_aload_n hx hb dX7_sound_16 rfl (lv_at hl 0 rfl) ?_
      refine lv_iload_n hx hb dX7_sound_17 rfl (lv_at hl 1 rfl) ?_
      refine lv_iload_n hx hb dX7_sound_18 rfl (lv_at hl 2 rfl) ?_
      obtain ⟨r13, e14, hf⟩ := bind_some hf
      refine callVi (As := [.int x1, .int x2]) (rest := []) M (mX7_soundOf l D cs sk h_t q_t k d_t x1 x2 e14) mw_X7_136 ln_X7_soundOf ⟨rfl, rfl, Nat.le_of_ble_eq_true rfl, Nat.le_of_ble_eq_true rfl⟩ hP hD hS hA [0, 1] (by decide) rfl rfl (q0 := 0) rfl rfl rfl ⟨Nat.zero_le _, Nat.zero_le _⟩ hl.1 rfl (Nat.le_of_ble_eq_true rfl) dX7_sound_19 (fun H locs hP hD hS => ?_)
      replace hP : va_P D vwCl [oX7 h_t q_t (d_t.1), ((q_t 0), .inl (cs 0, 106, .inl (d_t.2 0))), ((q_t 3), .inl (cs 0, 3, .inl (d_t.2 3)))] H := hP
      replace hD : va_D A [oX7 h_t q_t (d_t.1), ((q_t 0), .inl (cs 0, 106, .inl (d_t.2 0))), ((q_t 3), .inl (cs 0, 3, .inl (d_t.2 3)))] := hD
      refine lv_goto (tgt := 31) hx hb dX7_sound_22 (by decide) ?_
      have e9 := Option.some.inj hf
      subst e9
      exact hR _ _ _ _ dX7_sound_31 hP hS
abbrev rm_X7_laySound : Room := { frames := 0, cells := 0, slots := 0, locals := 0 }
def fX7_laySound (k : Nat) (d_t : Dat) (x1 : Int32) (x2 : Int32) (x3 : Int32) : Option (Dat) :=
  (if x3 ≤ 0 then some d_t else chk 12 (d_t.1 7) (chk 12 (d_t.1 7) (chk 12 (d_t.1 7) (some ((upd d_t.1 7 ((d_t.1 7) + 1)), (va_up (va_up (va_up d_t.2 4 (upd (d_t.2 4) (d_t.1 7).toNatClampNeg x1)) 5 (upd (d_t.2 5) (d_t.1 7).toNatClampNeg x2)) 6 (upd (d_t.2 6) (d_t.1 7).toNatClampNeg x3)))))))
set_option maxHeartbeats 4000000 in
set_option maxRecDepth 100000 in
theorem mX7_laySound (l : Launch) (D : va_G) (cs : Nat → ClassId) (sk : Nat → Nat) (h_t : Nat) (q_t : Nat → Nat) (k : Nat) (d_t : Dat) (x1 : Int32) (x2 : Int32) (x3 : Int32) {rv : Dat} (hf : fX7_laySound k d_t x1 x2 x3 = some rv) : CTv l yX7_laySound (Cond.code yX7_laySound cX7_laySound 4 none :: gtbl) rm_X7_laySound D cs sk [.ref h_t, .int x1, .int x2, .int x3] [oX7 h_t q_t (d_t.1), ((q_t 4), .inl (cs 0, 12, .inl (d_t.2 4))), ((q_t 5), .inl (cs 0, 12, .inl (d_t.2 5))), ((q_t 6), .inl (cs 0, 12, .inl (d_t.2 6)))] [oX7 h_t q_t (rv.1), ((q_t 4), .inl (cs 0, 12, .inl (rv.2 4))), ((q_t 5), .inl (cs 0, 12, .inl (rv.2 5))), ((q_t 6), .inl (cs 0, 12, .inl (rv.2 6)))] := by
  refine CTv.of RX7 (by decide +kernel) rfl (Nat.le_of_ble_eq_true rfl) (fun p e s m args below meth c A Q ls M hA hR hl hP hD hS => ?_)
  obtain ⟨hx, hb, hml, hT, hown, hlk, hrt, hK, hN, hSE⟩ := id M
  replace hl : lv_has ls 4 [(0, .ref h_t), (1, .int x1), (2, .int x2), (3, .int x3)] := hl
  unfold fX7_laySound at hf
  refine lv_iload_n hx hb dX7_laySound_0 rfl (lv_at hl 3 rfl) ?_
  have g2 := ite_some hf
  refine lv_if_le (tgt := 44) hx hb dX7_laySound_1 (by decide) (fun c1 => ?_) (fun c1 => ?_)
  · replace hf := g2.1 c1
    have e9 := Option.some.inj hf
    subst e9
    exact hR _ _ _ _ dX7_laySound_44 hP hS
  · replace hf := g2.2 c1
    refine lv_aload_n hx hb dX7_laySound_4 rfl (lv_at hl 0 rfl) ?_
    refine va_get (D := D) (ci := 7) (v := .ref (q_t 4)) (C := RX7) (T := TX7) (N := 23) hx hb hT iX7 hown hK hP 0 rfl rfl 4 (by decide) (hT _ fw_X7_23) (fun _ h9 => h9) rfl dX7_laySound_5 ?_
    refine lv_aload_n hx hb dX7_laySound_8 rfl (lv_at hl 0 rfl) ?_
    refine va_get (D := D) (ci := 7) (v := .int (d_t.1 7)) (C := RX7) (T := TX7) (N := 23) hx hb hT iX7 hown hK hP 0 rfl rfl 7 (by decide) (hT _ fw_X7_139) (fun _ h9 => h9) rfl dX7_laySound_9 ?_
    refine lv_iload_n hx hb dX7_laySound_12 rfl (lv_at hl 1 rfl) ?_
    obtain ⟨hi, hf⟩ := chk_some hf
    refine va_iast (D := D) hx hb hK hP hD hS 1 0 rfl rfl hi dX7_laySound_13 (fun H locs hP hD hS => ?_)
    replace hP : va_P D vwCl [oX7 h_t q_t (d_t.1), ((q_t 4), .inl (cs 0, 12, .inl (upd (d_t.2 4) (d_t.1 7).toNatClampNeg x1))), ((q_t 5), .inl (cs 0, 12, .inl (d_t.2 5))), ((q_t 6), .inl (cs 0, 12, .inl (d_t.2 6)))] H := hP
    replace hD : va_D A [oX7 h_t q_t (d_t.1), ((q_t 4), .inl (cs 0, 12, .inl (upd (d_t.2 4) (d_t.1 7).toNatClampNeg x1))), ((q_t 5), .inl (cs 0, 12, .inl (d_t.2 5))), ((q_t 6), .inl (cs 0, 12, .inl (d_t.2 6)))] := hD
    refine lv_aload_n hx hb dX7_laySound_14 rfl (lv_at hl 0 rfl) ?_
    refine va_get (D := D) (ci := 7) (v := .ref (q_t 5)) (C := RX7) (T := TX7) (N := 23) hx hb hT iX7 hown hK hP 0 rfl rfl 5 (by decide) (hT _ fw_X7_26) (fun _ h9 => h9) rfl dX7_laySound_15 ?_
    refine lv_aload_n hx hb dX7_laySound_18 rfl (lv_at hl 0 rfl) ?_
    refine va_get (D := D) (ci := 7) (v := .int (d_t.1 7)) (C := RX7) (T := TX7) (N := 23) hx hb hT iX7 hown hK hP 0 rfl rfl 7 (by decide) (hT _ fw_X7_139) (fun _ h9 => h9) rfl dX7_laySound_19 ?_
    refine lv_iload_n hx hb dX7_laySound_22 rfl (lv_at hl 2 rfl) ?_
    obtain ⟨hi, hf⟩ := chk_some hf
    refine va_iast (D := D) hx hb hK hP hD hS 2 0 rfl rfl hi dX7_laySound_23 (fun H locs hP hD hS => ?_)
    replace hP : va_P D vwCl [oX7 h_t q_t (d_t.1), ((q_t 4), .inl (cs 0, 12, .inl (upd (d_t.2 4) (d_t.1 7).toNatClampNeg x1))), ((q_t 5), .inl (cs 0, 12, .inl (upd (d_t.2 5) (d_t.1 7).toNatClampNeg x2))), ((q_t 6), .inl (cs 0, 12, .inl (d_t.2 6)))] H := hP
    replace hD : va_D A [oX7 h_t q_t (d_t.1), ((q_t 4), .inl (cs 0, 12, .inl (upd (d_t.2 4) (d_t.1 7).toNatClampNeg x1))), ((q_t 5), .inl (cs 0, 12, .inl (upd (d_t.2 5) (d_t.1 7).toNatClampNeg x2))), ((q_t 6), .inl (cs 0, 12, .inl (d_t.2 6)))] := hD
    refine lv_aload_n hx hb dX7_laySound_24 rfl (lv_at hl 0 rfl) ?_
    refine va_get (D := D) (ci := 7) (v := .ref (q_t 6)) (C := RX7) (T := TX7) (N := 23) hx hb hT iX7 hown hK hP 0 rfl rfl 6 (by decide) (hT _ fw_X7_29) (fun _ h9 => h9) rfl dX7_laySound_25 ?_
    refine lv_aload_n hx hb dX7_laySound_28 rfl (lv_at hl 0 rfl) ?_
    refine va_get (D := D) (ci := 7) (v := .int (d_t.1 7)) (C := RX7) (T := TX7) (N := 23) hx hb hT iX7 hown hK hP 0 rfl rfl 7 (by decide) (hT _ fw_X7_139) (fun _ h9 => h9) rfl dX7_laySound_29 ?_
    refine lv_iload_n hx hb dX7_laySound_32 rfl (lv_at hl 3 rfl) ?_
    obtain ⟨hi, hf⟩ := chk_some hf
    refine va_iast (D := D) hx hb hK hP hD hS 3 0 rfl rfl hi dX7_laySound_33 (fun H locs hP hD hS => ?_)
    replace hP : va_P D vwCl [oX7 h_t q_t (d_t.1), ((q_t 4), .inl (cs 0, 12, .inl (upd (d_t.2 4) (d_t.1 7).toNatClampNeg x1))), ((q_t 5), .inl (cs 0, 12, .inl (upd (d_t.2 5) (d_t.1 7).toNatClampNeg x2))), ((q_t 6), .inl (cs 0, 12, .inl (upd (d_t.2 6) (d_t.1 7).toNatClampNeg x3)))] H := hP
    replace hD : va_D A [oX7 h_t q_t (d_t.1), ((q_t 4), .inl (cs 0, 12, .inl (upd (d_t.2 4) (d_t.1 7).toNatClampNeg x1))), ((q_t 5), .inl (cs 0, 12, .inl (upd (d_t.2 5) (d_t.1 7).toNatClampNeg x2))), ((q_t 6), .inl (cs 0, 12, .inl (upd (d_t.2 6) (d_t.1 7).toNatClampNeg x3)))] := hD
    refine lv_aload_n hx hb dX7_laySound_34 rfl (lv_at hl 0 rfl) ?_
    refine lv_dup hx hb dX7_laySound_35 rfl ?_
    refine va_get (D := D) (ci := 7) (v := .int (d_t.1 7)) (C := RX7) (T := TX7) (N := 23) hx hb hT iX7 hown hK hP 0 rfl rfl 7 (by decide) (hT _ fw_X7_139) (fun _ h9 => h9) rfl dX7_laySound_36 ?_
    refine lv_iconst (v := 1) hx hb dX7_laySound_39 rfl ?_
    refine lv_iadd hx hb dX7_laySound_40 ?_
    refine va_put (D := D) (ci := 7) (v := .int ((d_t.1 7) + 1)) (ty := tyX7 7) (C := RX7) (T := TX7) (N := 23) hx hb hT iX7 tyX7 tyX7_ok nmX7 hown hK hP hD hS 0 rfl rfl 7 (by decide) (hT _ fw_X7_139) (fun _ h9 => h9) rfl (tyX7_ok 7 (by decide)) rfl rfl (Nat.le_of_ble_eq_true rfl) dX7_laySound_41 (fun H locs hP hD hS => ?_)
    replace hP : va_P D vwCl [oX7 h_t q_t (upd d_t.1 7 ((d_t.1 7) + 1)), ((q_t 4), .inl (cs 0, 12, .inl (upd (d_t.2 4) (d_t.1 7).toNatClampNeg x1))), ((q_t 5), .inl (cs 0, 12, .inl (upd (d_t.2 5) (d_t.1 7).toNatClampNeg x2))), ((q_t 6), .inl (cs 0, 12, .inl (upd (d_t.2 6) (d_t.1 7).toNatClampNeg x3)))] H := hP
    replace hD : va_D A [oX7 h_t q_t (upd d_t.1 7 ((d_t.1 7) + 1)), ((q_t 4), .inl (cs 0, 12, .inl (upd (d_t.2 4) (d_t.1 7).toNatClampNeg x1))), ((q_t 5), .inl (cs 0, 12, .inl (upd (d_t.2 5) (d_t.1 7).toNatClampNeg x2))), ((q_t 6), .inl (cs 0, 12, .inl (upd (d_t.2 6) (d_t.1 7).toNatClampNeg x3)))] := hD
    have e9 := Option.some.inj hf
    subst e9
    exact hR _ _ _ _ dX7_laySound_44 hP hS
abbrev rm_X7_isAwake : Room := { frames := 1, cells := 0, slots := 0, locals := 22 }
def fX7_isAwake (k : Nat) (d_t : Dat) (x1 : Int32) : Option (Int32) :=
  (fX7_of k d_t x1 0).bind (fun (r1 : Int32) => (if r1 = 5 then some 0 else (if (((d_t.1 8) >>> (x1 &&& 31)) &&& 1) = 0 then some 1 else some 0)))
set_option maxHeartbeats 4000000 in
set_option maxRecDepth 100000 in
theorem mX7_isAwake (l : Launch) (D : va_G) (cs : Nat → ClassId) (sk : Nat → Nat) (h_t : Nat) (q_t : Nat → Nat) (k : Nat) (d_t : Dat) (x1 : Int32) {rv : Int32} (hf : fX7_isAwake k d_t x1 = some rv) : CTi l yX7_isAwake (Cond.code yX7_isAwake cX7_isAwake 2 (some .boolean) :: gtbl) rm_X7_isAwake D cs sk [.ref h_t, .int x1] [oX7 h_t q_t (d_t.1), ((q_t 0), .inl (cs 0, 106, .inl (d_t.2 0)))] (rv) [oX7 h_t q_t (d_t.1), ((q_t 0), .inl (cs 0, 106, .inl (d_t.2 0)))] := by
  refine CTi.ofZ RX7 (by decide +kernel) rfl (Nat.le_of_ble_eq_true rfl) (fun p e s m args below meth c A Q ls M hA hR hl hP hD hS => ?_)
  obtain ⟨hx, hb, hml, hT, hown, hlk, hrt, hK, hN, hSE⟩ := id M
  replace hl : lv_has ls 2 [(0, .ref h_t), (1, .int x1)] := hl
  unfold fX7_isAwake at hf
  refine lv_aload_n hx hb dX7_isAwake_0 rfl (lv_at hl 0 rfl) ?_
  refine lv_iload_n hx hb dX7_isAwake_1 rfl (lv_at hl 1 rfl) ?_
  refine lv_iconst (v := 0) hx hb dX7_isAwake_2 rfl ?_
  obtain ⟨r1, e2, hf⟩ := bind_some hf
  refine callVi (As := [.int x1, .int 0]) (rest := []) M (mX7_of l D cs sk h_t q_t k d_t x1 0 e2) mw_X7_94 ln_X7_of ⟨rfl, rfl, Nat.le_of_ble_eq_true rfl, Nat.le_of_ble_eq_true rfl⟩ hP hD hS hA [0, 1] (by decide) rfl rfl (q0 := 0) rfl rfl rfl ⟨Nat.zero_le _, Nat.zero_le _⟩ hl.1 rfl (Nat.le_of_ble_eq_true rfl) dX7_isAwake_3 (fun H locs hP hD hS => ?_)
  replace hP : va_P D vwCl [oX7 h_t q_t (d_t.1), ((q_t 0), .inl (cs 0, 106, .inl (d_t.2 0)))] H := hP
  replace hD : va_D A [oX7 h_t q_t (d_t.1), ((q_t 0), .inl (cs 0, 106, .inl (d_t.2 0)))] := hD
  refine lv_iconst (v := 5) hx hb dX7_isAwake_6 rfl ?_
  have g4 := ite_some hf
  refine lv_icmp_eq (tgt := 25) hx hb dX7_isAwake_7 (by decide) (fun c3 => ?_) (fun c3 => ?_)
  · replace hf := g4.1 c3
    refine lv_iconst (v := 0) hx hb dX7_isAwake_25 rfl ?_
    have e9 := Option.some.inj hf
    subst e9
    exact hR _ _ _ _ dX7_isAwake_26 (Or.inl rfl) hP hS
  · replace hf := g4.2 c3
    refine lv_aload_n hx hb dX7_isAwake_10 rfl (lv_at hl 0 rfl) ?_
    refine va_get (D := D) (ci := 7) (v := .int (d_t.1 8)) (C := RX7) (T := TX7) (N := 23) hx hb hT iX7 hown hK hP 0 rfl rfl 8 (by decide) (hT _ fw_X7_143) (fun _ h9 => h9) rfl dX7_isAwake_11 ?_
    refine lv_iload_n hx hb dX7_isAwake_14 rfl (lv_at hl 1 rfl) ?_
    refine lv_ishr hx hb dX7_isAwake_15 ?_
    refine lv_iconst (v := 1) hx hb dX7_isAwake_16 rfl ?_
    refine lv_iand hx hb dX7_isAwake_17 ?_
    have g6 := ite_some hf
    refine lv_if_ne (tgt := 25) hx hb dX7_isAwake_18 (by decide) (fun c5 => ?_) (fun c5 => ?_)
    · replace hf := g6.2 c5
      refine lv_iconst (v := 0) hx hb dX7_isAwake_25 rfl ?_
      have e9 := Option.some.inj hf
      subst e9
      exact hR _ _ _ _ dX7_isAwake_26 (Or.inl rfl) hP hS
    · replace hf := g6.1 c5
      refine lv_iconst (v := 1) hx hb dX7_isAwake_21 rfl ?_
      refine lv_goto (tgt := 26) hx hb dX7_isAwake_22 (by decide) ?_
      have e9 := Option.some.inj hf
      subst e9
      exact hR _ _ _ _ dX7_isAwake_26 (Or.inr rfl) hP hS
abbrev rm_X7_layOf : Room := { frames := 3, cells := 0, slots := 0, locals := 68 }
def fX7_layOf (k : Nat) (d_t : Dat) (x1 : Int32) (x2 : Int32) : Option (Dat) :=
  (fX7_of k d_t x1 1).bind (fun (r1 : Int32) => (fX7_soundOf k d_t r1 x2).bind (fun (r3 : Int32) => (fX7_of k d_t x1 2).bind (fun (r5 : Int32) => (fX7_paces k d_t (0 + (2 * r1)) (12 + (2 * x2))).bind (fun (r7 : Int32) => (fX7_laySound k d_t x1 r3 (r5 - r7)).bind (fun (r9 : Dat) => (fX7_of k (r9.1, (va_up (va_up (va_up d_t.2 4 (r9.2 4)) 5 (r9.2 5)) 6 (r9.2 6))) x1 0).bind (fun (r11 : Int32) => (if r11 = 2 then chk 106 18 ((if ((d_t.2 0) (18 : Int32).toNatClampNeg) = (-1) then (fX7_of k (r9.1, (va_up (va_up (va_up d_t.2 4 (r9.2 4)) 5 (r9.2 5)) 6 (r9.2 6))) x1 0).bind (fun (r31 : Int32) => (if r31 = 4 then (fX7_windows k (r9.1, (va_up (va_up (va_up d_t.2 4 (r9.2 4)) 5 (r9.2 5)) 6 (r9.2 6)))).bind (fun (r35 : Int32) => chz r35 ((fX7_soundOf k (r9.1, (va_up (va_up (va_up d_t.2 4 (r9.2 4)) 5 (r9.2 5)) 6 (r9.2 6))) ((r1 + 1) - (r1 + 1) / r35 * r35) x2).bind (fun (r37 : Int32) => (fX7_of k (r9.1, (va_up (va_up (va_up d_t.2 4 (r9.2 4)) 5 (r9.2 5)) 6 (r9.2 6))) x1 2).bind (fun (r39 : Int32) => (fX7_paces k (r9.1, (va_up (va_up (va_up d_t.2 4 (r9.2 4)) 5 (r9.2 5)) 6 (r9.2 6))) (0 + (2 * ((r1 + 1) - (r1 + 1) / r35 * r35))) (12 + (2 * x2))).bind (fun (r41 : Int32) => (fX7_laySound k (r9.1, (va_up (va_up (va_up d_t.2 4 (r9.2 4)) 5 (r9.2 5)) 6 (r9.2 6))) x1 r37 (r39 - r41)).bind (fun (r43 : Dat) => some (r43.1, (va_up (va_up (va_up d_t.2 4 (r43.2 4)) 5 (r43.2 5)) 6 (r43.2 6))))))))) else some (r9.1, (va_up (va_up (va_up d_t.2 4 (r9.2 4)) 5 (r9.2 5)) 6 (r9.2 6))))) else (fX7_paces k (r9.1, (va_up (va_up (va_up d_t.2 4 (r9.2 4)) 5 (r9.2 5)) 6 (r9.2 6))) (0 + (2 * r1)) 18).bind (fun (r45 : Int32) => (fX7_paces k (r9.1, (va_up (va_up (va_up d_t.2 4 (r9.2 4)) 5 (r9.2 5)) 6 (r9.2 6))) 18 (12 + (2 * x2))).bind (fun (r47 : Int32) => chk 106 20 ((fX7_of k (r9.1, (va_up (va_up (va_up d_t.2 4 (r9.2 4)) 5 (r9.2 5)) 6 (r9.2 6))) x1 2).bind (fun (r49 : Int32) => (fX7_laySound k (r9.1, (va_up (va_up (va_up d_t.2 4 (r9.2 4)) 5 (r9.2 5)) 6 (r9.2 6))) x1 ((r45 + r47) * ((d_t.2 0) (20 : Int32).toNatClampNeg)) ((r49 / 2) - (r45 + r47))).bind (fun (r51 : Dat) => (fX7_of k (r51.1, (va_up (va_up (va_up d_t.2 4 (r51.2 4)) 5 (r51.2 5)) 6 (r51.2 6))) x1 0).bind (fun (r53 : Int32) => (if r53 = 4 then (fX7_windows k (r51.1, (va_up (va_up (va_up d_t.2 4 (r51.2 4)) 5 (r51.2 5)) 6 (r51.2 6)))).bind (fun (r57 : Int32) => chz r57 ((fX7_soundOf k (r51.1, (va_up (va_up (va_up d_t.2 4 (r51.2 4)) 5 (r51.2 5)) 6 (r51.2 6))) ((r1 + 1) - (r1 + 1) / r57 * r57) x2).bind (fun (r59 : Int32) => (fX7_of k (r51.1, (va_up (va_up (va_up d_t.2 4 (r51.2 4)) 5 (r51.2 5)) 6 (r51.2 6))) x1 2).bind (fun (r61 : Int32) => (fX7_paces k (r51.1, (va_up (va_up (va_up d_t.2 4 (r51.2 4)) 5 (r51.2 5)) 6 (r51.2 6))) (0 + (2 * ((r1 + 1) - (r1 + 1) / r57 * r57))) (12 + (2 * x2))).bind (fun (r63 : Int32) => (fX7_laySound k (r51.1, (va_up (va_up (va_up d_t.2 4 (r51.2 4)) 5 (r51.2 5)) 6 (r51.2 6))) x1 r59 (r61 - r63)).bind (fun (r65 : Dat) => some (r65.1, (va_up (va_up (va_up d_t.2 4 (r65.2 4)) 5 (r65.2 5)) 6 (r65.2 6))))))))) else some (r51.1, (va_up (va_up (va_up d_t.2 4 (r51.2 4)) 5 (r51.2 5)) 6 (r51.2 6)))))))))))) else (fX7_of k (r9.1, (va_up (va_up (va_up d_t.2 4 (r9.2 4)) 5 (r9.2 5)) 6 (r9.2 6))) x1 0).bind (fun (r15 : Int32) => (if r15 = 4 then (fX7_windows k (r9.1, (va_up (va_up (va_up d_t.2 4 (r9.2 4)) 5 (r9.2 5)) 6 (r9.2 6)))).bind (fun (r19 : Int32) => chz r19 ((fX7_soundOf k (r9.1, (va_up (va_up (va_up d_t.2 4 (r9.2 4)) 5 (r9.2 5)) 6 (r9.2 6))) ((r1 + 1) - (r1 + 1) / r19 * r19) x2).bind (fun (r21 : Int32) => (fX7_of k (r9.1, (va_up (va_up (va_up d_t.2 4 (r9.2 4)) 5 (r9.2 5)) 6 (r9.2 6))) x1 2).bind (fun (r23 : Int32) => (fX7_paces k (r9.1, (va_up (va_up (va_up d_t.2 4 (r9.2 4)) 5 (r9.2 5)) 6 (r9.2 6))) (0 + (2 * ((r1 + 1) - (r1 + 1) / r19 * r19))) (12 + (2 * x2))).bind (fun (r25 : Int32) => (fX7_laySound k (r9.1, (va_up (va_up (va_up d_t.2 4 (r9.2 4)) 5 (r9.2 5)) 6 (r9.2 6))) x1 r21 (r23 - r25)).bind (fun (r27 : Dat) => some (r27.1, (va_up (va_up (va_up d_t.2 4 (r27.2 4)) 5 (r27.2 5)) 6 (r27.2 6))))))))) else some (r9.1, (va_up (va_up (va_up d_t.2 4 (r9.2 4)) 5 (r9.2 5)) 6 (r9.2 6))))))))))))
set_option maxHeartbeats 4000000 in
set_option maxRecDepth 100000 in
theorem mX7_layOf (l : Launch) (D : va_G) (cs : Nat → ClassId) (sk : Nat → Nat) (h_t : Nat) (q_t : Nat → Nat) (k : Nat) (d_t : Dat) (x1 : Int32) (x2 : Int32) {rv : Dat} (hf : fX7_layOf k d_t x1 x2 = some rv) : CTv l yX7_layOf (Cond.code yX7_layOf cX7_layOf 6 none :: gtbl) rm_X7_layOf D cs sk [.ref h_t, .int x1, .int x2] [oX7 h_t q_t (d_t.1), ((q_t 0), .inl (cs 0, 106, .inl (d_t.2 0))), ((q_t 4), .inl (cs 0, 12, .inl (d_t.2 4))), ((q_t 5), .inl (cs 0, 12, .inl (d_t.2 5))), ((q_t 6), .inl (cs 0, 12, .inl (d_t.2 6)))] [oX7 h_t q_t (rv.1), ((q_t 0), .inl (cs 0, 106, .inl (d_t.2 0))), ((q_t 4), .inl (cs 0, 12, .inl (rv.2 4))), ((q_t 5), .inl (cs 0, 12, .inl (rv.2 5))), ((q_t 6), .inl (cs 0, 12, .inl (rv.2 6)))] := by
  refine CTv.of RX7 (by decide +kernel) rfl (Nat.le_of_ble_eq_true rfl) (fun p e s m args below meth c A Q ls M hA hR hl hP hD hS => ?_)
  obtain ⟨hx, hb, hml, hT, hown, hlk, hrt, hK, hN, hSE⟩ := id M
  replace hl : lv_has ls 6 [(0, .ref h_t), (1, .int x1), (2, .int x2)] := hl
  unfold fX7_layOf at hf
  refine lv_aload_n hx hb dX7_layOf_0 rfl (lv_at hl 0 rfl) ?_
  refine lv_iload_n hx hb dX7_layOf_1 rfl (lv_at hl 1 rfl) ?_
  refine lv_iconst (v := 1) hx hb dX7_layOf_2 rfl ?_
  obtain ⟨r1, e2, hf⟩ := bind_some hf
  refine callVi (As := [.int x1, .int 1]) (rest := []) M (mX7_of l D cs sk h_t q_t k d_t x1 1 e2) mw_X7_94 ln_X7_of ⟨rfl, rfl, Nat.le_of_ble_eq_true rfl, Nat.le_of_ble_eq_true rfl⟩ hP hD hS hA [0, 1] (by decide) rfl rfl (q0 := 0) rfl rfl rfl ⟨Nat.zero_le _, Nat.zero_le _⟩ hl.1 rfl (Nat.le_of_ble_eq_true rfl) dX7_layOf_3 (fun H locs hP hD hS => ?_)
  replace hP : va_P D vwCl [oX7 h_t q_t (d_t.1), ((q_t 0), .inl (cs 0, 106, .inl (d_t.2 0))), ((q_t 4), .inl (cs 0, 12, .inl (d_t.2 4))), ((q_t 5), .inl (cs 0, 12, .inl (d_t.2 5))), ((q_t 6), .inl (cs 0, 12, .inl (d_t.2 6)))] H := hP
  replace hD : va_D A [oX7 h_t q_t (d_t.1), ((q_t 0), .inl (cs 0, 106, .inl (d_t.2 0))), ((q_t 4), .inl (cs 0, 12, .inl (d_t.2 4))), ((q_t 5), .inl (cs 0, 12, .inl (d_t.2 5))), ((q_t 6), .inl (cs 0, 12, .inl (d_t.2 6)))] := hD
  refine lv_istore_n (lv' := [(3, .int r1), (0, .ref h_t), (1, .int x1), (2, .int x2)]) hx hb dX7_layOf_6 rfl hl (by decide) rfl (fun ls hl => ?_)
  refine lv_bipush (v := 12) hx hb dX7_layOf_7 rfl ?_
  refine lv_iconst (v := 2) hx hb dX7_layOf_9 rfl ?_
  refine lv_iload_n hx hb dX7_layOf_10 rfl (lv_at hl 3 rfl) ?_
  refine lv_imul hx hb dX7_layOf_11 ?_
  refine lv_iadd hx hb dX7_layOf_12 ?_
  refine lv_istore (lv' := [(4, .int (12 + (2 * x2))), (3, .int r1), (0, .ref h_t), (1, .int x1), (2, .int x2)]) hx hb dX7_layOf_13 hl (by decide) rfl (fun ls hl => ?_)
  refine lv_aload_n hx hb dX7_layOf_15 rfl (lv_at hl 2 rfl) ?_
  refine lv_iload_n hx hb dX7_layOf_16 rfl (lv_at hl 3 rfl) ?_
  refine lv_aload_n hx hb dX7_layOf_17 rfl (lv_at hl 2 rfl) ?_
  refine lv_iload_n hx hb dX7_layOf_18 rfl (lv_at hl 1 rfl) ?_
  refine lv_iload_n hx hb dX7_layOf_19 rfl (lv_at hl 4 rfl) ?_
  obtain ⟨r3, e4, hf⟩ := bind_some hf
  refine callVi (As := [.int r1, .int x2]) (rest := [.int x1, .ref h_t]) M (mX7_soundOf l D cs sk h_t q_t k d_t r1 x2 e4) mw_X7_136 ln_X7_soundOf ⟨rfl, rfl, Nat.le_of_ble_eq_true rfl, Nat.le_of_ble_eq_true rfl⟩ hP hD hS hA [0, 1] (by decide) rfl rfl (q0 := 0) rfl rfl rfl ⟨Nat.zero_le _, Nat.zero_le _⟩ hl.1 rfl (Nat.le_of_ble_eq_true rfl) dX7_layOf_20 (fun H locs hP hD hS => ?_)
  replace hP : va_P D vwCl [oX7 h_t q_t (d_t.1), ((q_t 0), .inl (cs 0, 106, .inl (d_t.2 0))), ((q_t 4), .inl (cs 0, 12, .inl (d_t.2 4))), ((q_t 5), .inl (cs 0, 12, .inl (d_t.2 5))), ((q_t 6), .inl (cs 0, 12, .inl (d_t.2 6)))] H := hP
  replace hD : va_D A [oX7 h_t q_t (d_t.1), ((q_t 0), .inl (cs 0, 106, .inl (d_t.2 0))), ((q_t 4), .inl (cs 0, 12, .inl (d_t.2 4))), ((q_t 5), .inl (cs 0, 12, .inl (d_t.2 5))), ((q_t 6), .inl (cs 0, 12, .inl (d_t.2 6)))] := hD
  refine lv_aload_n hx hb dX7_layOf_23 rfl (lv_at hl 2 rfl) ?_
  refine lv_iload_n hx hb dX7_layOf_24 rfl (lv_at hl 3 rfl) ?_
  refine lv_iconst (v := 2) hx hb dX7_layOf_25 rfl ?_
  obtain ⟨r5, e6, hf⟩ := bind_some hf
  refine callVi (As := [.int x1, .int 2]) (rest := [.int r3, .int x1, .ref h_t]) M (mX7_of l D cs sk h_t q_t k d_t x1 2 e6) mw_X7_94 ln_X7_of ⟨rfl, rfl, Nat.le_of_ble_eq_true rfl, Nat.le_of_ble_eq_true rfl⟩ hP hD hS hA [0, 1] (by decide) rfl rfl (q0 := 0) rfl rfl rfl ⟨Nat.zero_le _, Nat.zero_le _⟩ hl.1 rfl (Nat.le_of_ble_eq_true rfl) dX7_layOf_26 (fun H locs hP hD hS => ?_)
  replace hP : va_P D vwCl [oX7 h_t q_t (d_t.1), ((q_t 0), .inl (cs 0, 106, .inl (d_t.2 0))), ((q_t 4), .inl (cs 0, 12, .inl (d_t.2 4))), ((q_t 5), .inl (cs 0, 12, .inl (d_t.2 5))), ((q_t 6), .inl (cs 0, 12, .inl (d_t.2 6)))] H := hP
  replace hD : va_D A [oX7 h_t q_t (d_t.1), ((q_t 0), .inl (cs 0, 106, .inl (d_t.2 0))), ((q_t 4), .inl (cs 0, 12, .inl (d_t.2 4))), ((q_t 5), .inl (cs 0, 12, .inl (d_t.2 5))), ((q_t 6), .inl (cs 0, 12, .inl (d_t.2 6)))] := hD
  refine lv_aload_n hx hb dX7_layOf_29 rfl (lv_at hl 2 rfl) ?_
  refine lv_iconst (v := 0) hx hb dX7_layOf_30 rfl ?_
  refine lv_iconst (v := 2) hx hb dX7_layOf_31 rfl ?_
  refine lv_iload_n hx hb dX7_layOf_32 rfl (lv_at hl 1 rfl) ?_
  refine lv_imul hx hb dX7_layOf_33 ?_
  refine lv_iadd hx hb dX7_layOf_34 ?_
  refine lv_iload hx hb dX7_layOf_35 (lv_at hl 0 rfl) ?_
  obtain ⟨r7, e8, hf⟩ := bind_some hf
  refine callVi (As := [.int (0 + (2 * r1)), .int (12 + (2 * x2))]) (rest := [.int r5, .int r3, .int x1, .ref h_t]) M (mX7_paces l D cs sk h_t q_t k d_t (0 + (2 * r1)) (12 + (2 * x2)) e8) mw_X7_130 ln_X7_paces ⟨rfl, rfl, Nat.le_of_ble_eq_true rfl, Nat.le_of_ble_eq_true rfl⟩ hP hD hS hA [0, 1] (by decide) rfl rfl (q0 := 0) rfl rfl rfl ⟨Nat.zero_le _, Nat.zero_le _⟩ hl.1 rfl (Nat.le_of_ble_eq_true rfl) dX7_layOf_37 (fun H locs hP hD hS => ?_)
  replace hP : va_P D vwCl [oX7 h_t q_t (d_t.1), ((q_t 0), .inl (cs 0, 106, .inl (d_t.2 0))), ((q_t 4), .inl (cs 0, 12, .inl (d_t.2 4))), ((q_t 5), .inl (cs 0, 12, .inl (d_t.2 5))), ((q_t 6), .inl (cs 0, 12, .inl (d_t.2 6)))] H := hP
  replace hD : va_D A [oX7 h_t q_t (d_t.1), ((q_t 0), .inl (cs 0, 106, .inl (d_t.2 0))), ((q_t 4), .inl (cs 0, 12, .inl (d_t.2 4))), ((q_t 5), .inl (cs 0, 12, .inl (d_t.2 5))), ((q_t 6), .inl (cs 0, 12, .inl (d_t.2 6)))] := hD
  refine lv_isub hx hb dX7_layOf_40 ?_
  obtain ⟨r9, e10, hf⟩ := bind_some hf
  refine callVv (As := [.int x1, .int r3, .int (r5 - r7)]) (rest := []) M (mX7_laySound l D cs sk h_t q_t k d_t x1 r3 (r5 - r7) e10) mw_X7_153 ln_X7_laySound ⟨rfl, rfl, Nat.le_of_ble_eq_true rfl, Nat.le_of_ble_eq_true rfl⟩ hP hD hS hA [0, 2, 3, 4] (by decide) rfl rfl (q0 := 0) rfl rfl rfl ⟨Nat.zero_le _, Nat.zero_le _⟩ hl.1 rfl (Nat.le_of_ble_eq_true rfl) dX7_layOf_41 (fun H locs hP hD hS => ?_)
  replace hP : va_P D vwCl [oX7 h_t q_t (r9.1), ((q_t 0), .inl (cs 0, 106, .inl (d_t.2 0))), ((q_t 4), .inl (cs 0, 12, .inl (r9.2 4))), ((q_t 5), .inl (cs 0, 12, .inl (r9.2 5))), ((q_t 6), .inl (cs 0, 12, .inl (r9.2 6)))] H := hP
  replace hD : va_D A [oX7 h_t q_t (r9.1), ((q_t 0), .inl (cs 0, 106, .inl (d_t.2 0))), ((q_t 4), .inl (cs 0, 12, .inl (r9.2 4))), ((q_t 5), .inl (cs 0, 12, .inl (r9.2 5))), ((q_t 6), .inl (cs 0, 12, .inl (r9.2 6)))] := hD
  refine lv_aload_n hx hb dX7_layOf_44 rfl (lv_at hl 2 rfl) ?_
  refine lv_iload_n hx hb dX7_layOf_45 rfl (lv_at hl 3 rfl) ?_
  refine lv_iconst (v := 0) hx hb dX7_layOf_46 rfl ?_
  obtain ⟨r11, e12, hf⟩ := bind_some hf
  refine callVi (As := [.int x1, .int 0]) (rest := []) M (mX7_of l D cs sk h_t q_t k (r9.1, (va_up (va_up (va_up d_t.2 4 (r9.2 4)) 5 (r9.2 5)) 6 (r9.2 6))) x1 0 e12) mw_X7_94 ln_X7_of ⟨rfl, rfl, Nat.le_of_ble_eq_true rfl, Nat.le_of_ble_eq_true rfl⟩ hP hD hS hA [0, 1] (by decide) rfl rfl (q0 := 0) rfl rfl rfl ⟨Nat.zero_le _, Nat.zero_le _⟩ hl.1 rfl (Nat.le_of_ble_eq_true rfl) dX7_layOf_47 (fun H locs hP hD hS => ?_)
  replace hP : va_P D vwCl [oX7 h_t q_t (r9.1), ((q_t 0), .inl (cs 0, 106, .inl (d_t.2 0))), ((q_t 4), .inl (cs 0, 12, .inl (r9.2 4))), ((q_t 5), .inl (cs 0, 12, .inl (r9.2 5))), ((q_t 6), .inl (cs 0, 12, .inl (r9.2 6)))] H := hP
  replace hD : va_D A [oX7 h_t q_t (r9.1), ((q_t 0), .inl (cs 0, 106, .inl (d_t.2 0))), ((q_t 4), .inl (cs 0, 12, .inl (r9.2 4))), ((q_t 5), .inl (cs 0, 12, .inl (r9.2 5))), ((q_t 6), .inl (cs 0, 12, .inl (r9.2 6)))] := hD
  refine lv_iconst (v := 2) hx hb dX7_layOf_50 rfl ?_
  have g14 := ite_some hf
  refine lv_icmp_ne (tgt := 113) hx hb dX7_layOf_51 (by decide) (fun c13 => ?_) (fun c13 => ?_)
  · replace hf := g14.2 c13
    refine lv_aload_n hx hb dX7_layOf_113 rfl (lv_at hl 2 rfl) ?_
    refine lv_iload_n hx hb dX7_layOf_114 rfl (lv_at hl 3 rfl) ?_
    refine lv_iconst (v := 0) hx hb dX7_layOf_115 rfl ?_
    obtain ⟨r15, e16, hf⟩ := bind_some hf
    refine callVi (As := [.int x1, .int 0]) (rest := []) M (mX7_of l D cs sk h_t q_t k (r9.1, (va_up (va_up (va_up d_t.2 4 (r9.2 4)) 5 (r9.2 5)) 6 (r9.2 6))) x1 0 e16) mw_X7_94 ln_X7_of ⟨rfl, rfl, Nat.le_of_ble_eq_true rfl, Nat.le_of_ble_eq_true rfl⟩ hP hD hS hA [0, 1] (by decide) rfl rfl (q0 := 0) rfl rfl rfl ⟨Nat.zero_le _, Nat.zero_le _⟩ hl.1 rfl (Nat.le_of_ble_eq_true rfl) dX7_layOf_116 (fun H locs hP hD hS => ?_)
    replace hP : va_P D vwCl [oX7 h_t q_t (r9.1), ((q_t 0), .inl (cs 0, 106, .inl (d_t.2 0))), ((q_t 4), .inl (cs 0, 12, .inl (r9.2 4))), ((q_t 5), .inl (cs 0, 12, .inl (r9.2 5))), ((q_t 6), .inl (cs 0, 12, .inl (r9.2 6)))] H := hP
    replace hD : va_D A [oX7 h_t q_t (r9.1), ((q_t 0), .inl (cs 0, 106, .inl (d_t.2 0))), ((q_t 4), .inl (cs 0, 12, .inl (r9.2 4))), ((q_t 5), .inl (cs 0, 12, .inl (r9.2 5))), ((q_t 6), .inl (cs 0, 12, .inl (r9.2 6)))] := hD
    refine lv_iconst (v := 4) hx hb dX7_layOf_119 rfl ?_
    have g18 := ite_some hf
    refine lv_icmp_ne (tgt := 164) hx hb dX7_layOf_120 (by decide) (fun c17 => ?_) (fun c17 => ?_)
    · replace hf := g18.2 c17
      have e9 := Option.some.inj hf
      subst e9
      exact hR _ _ _ _ dX7_layOf_164 hP hS
    · replace hf := g18.1 c17
      refine lv_iload_n hx hb dX7_layOf_123 rfl (lv_at hl 1 rfl) ?_
      refine lv_iconst (v := 1) hx hb dX7_layOf_124 rfl ?_
      refine lv_iadd hx hb dX7_layOf_125 ?_
      refine lv_aload_n hx hb dX7_layOf_126 rfl (lv_at hl 2 rfl) ?_
      obtain ⟨r19, e20, hf⟩ := bind_some hf
      refine callVi (As := []) (rest := [.int (r1 + 1)]) M (mX7_windows l D cs sk h_t q_t k (r9.1, (va_up (va_up (va_up d_t.2 4 (r9.2 4)) 5 (r9.2 5)) 6 (r9.2 6))) e20) mw_X7_56 ln_X7_windows ⟨rfl, rfl, Nat.le_of_ble_eq_true rfl, Nat.le_of_ble_eq_true rfl⟩ hP hD hS hA [0, 1] (by decide) rfl rfl (q0 := 0) rfl rfl rfl ⟨Nat.zero_le _, Nat.zero_le _⟩ hl.1 rfl (Nat.le_of_ble_eq_true rfl) dX7_layOf_127 (fun H locs hP hD hS => ?_)
      replace hP : va_P D vwCl [oX7 h_t q_t (r9.1), ((q_t 0), .inl (cs 0, 106, .inl (d_t.2 0))), ((q_t 4), .inl (cs 0, 12, .inl (r9.2 4))), ((q_t 5), .inl (cs 0, 12, .inl (r9.2 5))), ((q_t 6), .inl (cs 0, 12, .inl (r9.2 6)))] H := hP
      replace hD : va_D A [oX7 h_t q_t (r9.1), ((q_t 0), .inl (cs 0, 106, .inl (d_t.2 0))), ((q_t 4), .inl (cs 0, 12, .inl (r9.2 4))), ((q_t 5), .inl (cs 0, 12, .inl (r9.2 5))), ((q_t 6), .inl (cs 0, 12, .inl (r9.2 6)))] := hD
      obtain ⟨hz, hf⟩ := chz_some hf
      refine lv_irem hx hb dX7_layOf_130 hz ?_
      refine lv_istore (lv' := [(5, .int ((r1 + 1) - (r1 + 1) / r19 * r19)), (4, .int (12 + (2 * x2))), (3, .int r1), (0, .ref h_t), (1, .int x1), (2, .int x2)]) hx hb dX7_layOf_131 hl (by decide) rfl (fun ls hl => ?_)
      refine lv_aload_n hx hb dX7_layOf_133 rfl (lv_at hl 3 rfl) ?_
      refine lv_iload_n hx hb dX7_layOf_134 rfl (lv_at hl 4 rfl) ?_
      refine lv_aload_n hx hb dX7_layOf_135 rfl (lv_at hl 3 rfl) ?_
      refine lv_iload hx hb dX7_layOf_136 (lv_at hl 0 rfl) ?_
      refine lv_iload_n hx hb dX7_layOf_138 rfl (lv_at hl 5 rfl) ?_
      obtain ⟨r21, e22, hf⟩ := bind_some hf
      refine callVi (As := [.int ((r1 + 1) - (r1 + 1) / r19 * r19), .int x2]) (rest := [.int x1, .ref h_t]) M (mX7_soundOf l D cs sk h_t q_t k (r9.1, (va_up (va_up (va_up d_t.2 4 (r9.2 4)) 5 (r9.2 5)) 6 (r9.2 6))) ((r1 + 1) - (r1 + 1) / r19 * r19) x2 e22) mw_X7_136 ln_X7_soundOf ⟨rfl, rfl, Nat.le_of_ble_eq_true rfl, Nat.le_of_ble_eq_true rfl⟩ hP hD hS hA [0, 1] (by decide) rfl rfl (q0 := 0) rfl rfl rfl ⟨Nat.zero_le _, Nat.zero_le _⟩ hl.1 rfl (Nat.le_of_ble_eq_true rfl) dX7_layOf_139 (fun H locs hP hD hS => ?_)
      replace hP : va_P D vwCl [oX7 h_t q_t (r9.1), ((q_t 0), .inl (cs 0, 106, .inl (d_t.2 0))), ((q_t 4), .inl (cs 0, 12, .inl (r9.2 4))), ((q_t 5), .inl (cs 0, 12, .inl (r9.2 5))), ((q_t 6), .inl (cs 0, 12, .inl (r9.2 6)))] H := hP
      replace hD : va_D A [oX7 h_t q_t (r9.1), ((q_t 0), .inl (cs 0, 106, .inl (d_t.2 0))), ((q_t 4), .inl (cs 0, 12, .inl (r9.2 4))), ((q_t 5), .inl (cs 0, 12, .inl (r9.2 5))), ((q_t 6), .inl (cs 0, 12, .inl (r9.2 6)))] := hD
      refine lv_aload_n hx hb dX7_layOf_142 rfl (lv_at hl 3 rfl) ?_
      refine lv_iload_n hx hb dX7_layOf_143 rfl (lv_at hl 4 rfl) ?_
      refine lv_iconst (v := 2) hx hb dX7_layOf_144 rfl ?_
      obtain ⟨r23, e24, hf⟩ := bind_some hf
      refine callVi (As := [.int x1, .int 2]) (rest := [.int r21, .int x1, .ref h_t]) M (mX7_of l D cs sk h_t q_t k (r9.1, (va_up (va_up (va_up d_t.2 4 (r9.2 4)) 5 (r9.2 5)) 6 (r9.2 6))) x1 2 e24) mw_X7_94 ln_X7_of ⟨rfl, rfl, Nat.le_of_ble_eq_true rfl, Nat.le_of_ble_eq_true rfl⟩ hP hD hS hA [0, 1] (by decide) rfl rfl (q0 := 0) rfl rfl rfl ⟨Nat.zero_le _, Nat.zero_le _⟩ hl.1 rfl (Nat.le_of_ble_eq_true rfl) dX7_layOf_145 (fun H locs hP hD hS => ?_)
      replace hP : va_P D vwCl [oX7 h_t q_t (r9.1), ((q_t 0), .inl (cs 0, 106, .inl (d_t.2 0))), ((q_t 4), .inl (cs 0, 12, .inl (r9.2 4))), ((q_t 5), .inl (cs 0, 12, .inl (r9.2 5))), ((q_t 6), .inl (cs 0, 12, .inl (r9.2 6)))] H := hP
      replace hD : va_D A [oX7 h_t q_t (r9.1), ((q_t 0), .inl (cs 0, 106, .inl (d_t.2 0))), ((q_t 4), .inl (cs 0, 12, .inl (r9.2 4))), ((q_t 5), .inl (cs 0, 12, .inl (r9.2 5))), ((q_t 6), .inl (cs 0, 12, .inl (r9.2 6)))] := hD
      refine lv_aload_n hx hb dX7_layOf_148 rfl (lv_at hl 3 rfl) ?_
      refine lv_iconst (v := 0) hx hb dX7_layOf_149 rfl ?_
      refine lv_iconst (v := 2) hx hb dX7_layOf_150 rfl ?_
      refine lv_iload hx hb dX7_layOf_151 (lv_at hl 0 rfl) ?_
      refine lv_imul hx hb dX7_layOf_153 ?_
      refine lv_iadd hx hb dX7_layOf_154 ?_
      refine lv_iload hx hb dX7_layOf_155 (lv_at hl 1 rfl) ?_
      obtain ⟨r25, e26, hf⟩ := bind_some hf
      refine callVi (As := [.int (0 + (2 * ((r1 + 1) - (r1 + 1) / r19 * r19))), .int (12 + (2 * x2))]) (rest := [.int r23, .int r21, .int x1, .ref h_t]) M (mX7_paces l D cs sk h_t q_t k (r9.1, (va_up (va_up (va_up d_t.2 4 (r9.2 4)) 5 (r9.2 5)) 6 (r9.2 6))) (0 + (2 * ((r1 + 1) - (r1 + 1) / r19 * r19))) (12 + (2 * x2)) e26) mw_X7_130 ln_X7_paces ⟨rfl, rfl, Nat.le_of_ble_eq_true rfl, Nat.le_of_ble_eq_true rfl⟩ hP hD hS hA [0, 1] (by decide) rfl rfl (q0 := 0) rfl rfl rfl ⟨Nat.zero_le _, Nat.zero_le _⟩ hl.1 rfl (Nat.le_of_ble_eq_true rfl) dX7_layOf_157 (fun H locs hP hD hS => ?_)
      replace hP : va_P D vwCl [oX7 h_t q_t (r9.1), ((q_t 0), .inl (cs 0, 106, .inl (d_t.2 0))), ((q_t 4), .inl (cs 0, 12, .inl (r9.2 4))), ((q_t 5), .inl (cs 0, 12, .inl (r9.2 5))), ((q_t 6), .inl (cs 0, 12, .inl (r9.2 6)))] H := hP
      replace hD : va_D A [oX7 h_t q_t (r9.1), ((q_t 0), .inl (cs 0, 106, .inl (d_t.2 0))), ((q_t 4), .inl (cs 0, 12, .inl (r9.2 4))), ((q_t 5), .inl (cs 0, 12, .inl (r9.2 5))), ((q_t 6), .inl (cs 0, 12, .inl (r9.2 6)))] := hD
      refine lv_isub hx hb dX7_layOf_160 ?_
      obtain ⟨r27, e28, hf⟩ := bind_some hf
      refine callVv (As := [.int x1, .int r21, .int (r23 - r25)]) (rest := []) M (mX7_laySound l D cs sk h_t q_t k (r9.1, (va_up (va_up (va_up d_t.2 4 (r9.2 4)) 5 (r9.2 5)) 6 (r9.2 6))) x1 r21 (r23 - r25) e28) mw_X7_153 ln_X7_laySound ⟨rfl, rfl, Nat.le_of_ble_eq_true rfl, Nat.le_of_ble_eq_true rfl⟩ hP hD hS hA [0, 2, 3, 4] (by decide) rfl rfl (q0 := 0) rfl rfl rfl ⟨Nat.zero_le _, Nat.zero_le _⟩ hl.1 rfl (Nat.le_of_ble_eq_true rfl) dX7_layOf_161 (fun H locs hP hD hS => ?_)
      replace hP : va_P D vwCl [oX7 h_t q_t (r27.1), ((q_t 0), .inl (cs 0, 106, .inl (d_t.2 0))), ((q_t 4), .inl (cs 0, 12, .inl (r27.2 4))), ((q_t 5), .inl (cs 0, 12, .inl (r27.2 5))), ((q_t 6), .inl (cs 0, 12, .inl (r27.2 6)))] H := hP
      replace hD : va_D A [oX7 h_t q_t (r27.1), ((q_t 0), .inl (cs 0, 106, .inl (d_t.2 0))), ((q_t 4), .inl (cs 0, 12, .inl (r27.2 4))), ((q_t 5), .inl (cs 0, 12, .inl (r27.2 5))), ((q_t 6), .inl (cs 0, 12, .inl (r27.2 6)))] := hD
      have e9 := Option.some.inj hf
      subst e9
      exact hR _ _ _ _ dX7_layOf_164 hP hS
  · replace hf := g14.1 c13
    refine lv_aload_n hx hb dX7_layOf_54 rfl (lv_at hl 2 rfl) ?_
    refine va_get (D := D) (ci := 7) (v := .ref (q_t 0)) (C := RX7) (T := TX7) (N := 23) hx hb hT iX7 hown hK hP 0 rfl rfl 0 (by decide) (hT _ fw_X7_7) (fun _ h9 => h9) rfl dX7_layOf_55 ?_
    refine lv_bipush (v := 18) hx hb dX7_layOf_58 rfl ?_
    obtain ⟨hi, hf⟩ := chk_some hf
    refine va_iald (D := D) hx hb hK hP 1 0 rfl rfl hi dX7_layOf_60 ?_
    refine lv_iconst (v := (-1)) hx hb dX7_layOf_61 rfl ?_
    have g30 := ite_some hf
    refine lv_icmp_eq (tgt := 113) hx hb dX7_layOf_62 (by decide) (fun c29 => ?_) (fun c29 => ?_)
    · replace hf := g30.1 c29
      refine lv_aload_n hx hb dX7_layOf_113 rfl (lv_at hl 2 rfl) ?_
      refine lv_iload_n hx hb dX7_layOf_114 rfl (lv_at hl 3 rfl) ?_
      refine lv_iconst (v := 0) hx hb dX7_layOf_115 rfl ?_
      obtain ⟨r31, e32, hf⟩ := bind_some hf
      refine callVi (As := [.int x1, .int 0]) (rest := []) M (mX7_of l D cs sk h_t q_t k (r9.1, (va_up (va_up (va_up d_t.2 4 (r9.2 4)) 5 (r9.2 5)) 6 (r9.2 6))) x1 0 e32) mw_X7_94 ln_X7_of ⟨rfl, rfl, Nat.le_of_ble_eq_true rfl, Nat.le_of_ble_eq_true rfl⟩ hP hD hS hA [0, 1] (by decide) rfl rfl (q0 := 0) rfl rfl rfl ⟨Nat.zero_le _, Nat.zero_le _⟩ hl.1 rfl (Nat.le_of_ble_eq_true rfl) dX7_layOf_116 (fun H locs hP hD hS => ?_)
      replace hP : va_P D vwCl [oX7 h_t q_t (r9.1), ((q_t 0), .inl (cs 0, 106, .inl (d_t.2 0))), ((q_t 4), .inl (cs 0, 12, .inl (r9.2 4))), ((q_t 5), .inl (cs 0, 12, .inl (r9.2 5))), ((q_t 6), .inl (cs 0, 12, .inl (r9.2 6)))] H := hP
      replace hD : va_D A [oX7 h_t q_t (r9.1), ((q_t 0), .inl (cs 0, 106, .inl (d_t.2 0))), ((q_t 4), .inl (cs 0, 12, .inl (r9.2 4))), ((q_t 5), .inl (cs 0, 12, .inl (r9.2 5))), ((q_t 6), .inl (cs 0, 12, .inl (r9.2 6)))] := hD
      refine lv_iconst (v := 4) hx hb dX7_layOf_119 rfl ?_
      have g34 := ite_some hf
      refine lv_icmp_ne (tgt := 164) hx hb dX7_layOf_120 (by decide) (fun c33 => ?_) (fun c33 => ?_)
      · replace hf := g34.2 c33
        have e9 := Option.some.inj hf
        subst e9
        exact hR _ _ _ _ dX7_layOf_164 hP hS
      · replace hf := g34.1 c33
        refine lv_iload_n hx hb dX7_layOf_123 rfl (lv_at hl 1 rfl) ?_
        refine lv_iconst (v := 1) hx hb dX7_layOf_124 rfl ?_
        refine lv_iadd hx hb dX7_layOf_125 ?_
        refine lv_aload_n hx hb dX7_layOf_126 rfl (lv_at hl 2 rfl) ?_
        obtain ⟨r35, e36, hf⟩ := bind_some hf
        refine callVi (As := []) (rest := [.int (r1 + 1)]) M (mX7_windows l D cs sk h_t q_t k (r9.1, (va_up (va_up (va_up d_t.2 4 (r9.2 4)) 5 (r9.2 5)) 6 (r9.2 6))) e36) mw_X7_56 ln_X7_windows ⟨rfl, rfl, Nat.le_of_ble_eq_true rfl, Nat.le_of_ble_eq_true rfl⟩ hP hD hS hA [0, 1] (by decide) rfl rfl (q0 := 0) rfl rfl rfl ⟨Nat.zero_le _, Nat.zero_le _⟩ hl.1 rfl (Nat.le_of_ble_eq_true rfl) dX7_layOf_127 (fun H locs hP hD hS => ?_)
        replace hP : va_P D vwCl [oX7 h_t q_t (r9.1), ((q_t 0), .inl (cs 0, 106, .inl (d_t.2 0))), ((q_t 4), .inl (cs 0, 12, .inl (r9.2 4))), ((q_t 5), .inl (cs 0, 12, .inl (r9.2 5))), ((q_t 6), .inl (cs 0, 12, .inl (r9.2 6)))] H := hP
        replace hD : va_D A [oX7 h_t q_t (r9.1), ((q_t 0), .inl (cs 0, 106, .inl (d_t.2 0))), ((q_t 4), .inl (cs 0, 12, .inl (r9.2 4))), ((q_t 5), .inl (cs 0, 12, .inl (r9.2 5))), ((q_t 6), .inl (cs 0, 12, .inl (r9.2 6)))] := hD
        obtain ⟨hz, hf⟩ := chz_some hf
        refine lv_irem hx hb dX7_layOf_130 hz ?_
        refine lv_istore (lv' := [(5, .int ((r1 + 1) - (r1 + 1) / r35 * r35)), (4, .int (12 + (2 * x2))), (3, .int r1), (0, .ref h_t), (1, .int x1), (2, .int x2)]) hx hb dX7_layOf_131 hl (by decide) rfl (fun ls hl => ?_)
        refine lv_aload_n hx hb dX7_layOf_133 rfl (lv_at hl 3 rfl) ?_
        refine lv_iload_n hx hb dX7_layOf_134 rfl (lv_at hl 4 rfl) ?_
        refine lv_aload_n hx hb dX7_layOf_135 rfl (lv_at hl 3 rfl) ?_
        refine lv_iload hx hb dX7_layOf_136 (lv_at hl 0 rfl) ?_
        refine lv_iload_n hx hb dX7_layOf_138 rfl (lv_at hl 5 rfl) ?_
        obtain ⟨r37, e38, hf⟩ := bind_some hf
        refine callVi (As := [.int ((r1 + 1) - (r1 + 1) / r35 * r35), .int x2]) (rest := [.int x1, .ref h_t]) M (mX7_soundOf l D cs sk h_t q_t k (r9.1, (va_up (va_up (va_up d_t.2 4 (r9.2 4)) 5 (r9.2 5)) 6 (r9.2 6))) ((r1 + 1) - (r1 + 1) / r35 * r35) x2 e38) mw_X7_136 ln_X7_soundOf ⟨rfl, rfl, Nat.le_of_ble_eq_true rfl, Nat.le_of_ble_eq_true rfl⟩ hP hD hS hA [0, 1] (by decide) rfl rfl (q0 := 0) rfl rfl rfl ⟨Nat.zero_le _, Nat.zero_le _⟩ hl.1 rfl (Nat.le_of_ble_eq_true rfl) dX7_layOf_139 (fun H locs hP hD hS => ?_)
        replace hP : va_P D vwCl [oX7 h_t q_t (r9.1), ((q_t 0), .inl (cs 0, 106, .inl (d_t.2 0))), ((q_t 4), .inl (cs 0, 12, .inl (r9.2 4))), ((q_t 5), .inl (cs 0, 12, .inl (r9.2 5))), ((q_t 6), .inl (cs 0, 12, .inl (r9.2 6)))] H := hP
        replace hD : va_D A [oX7 h_t q_t (r9.1), ((q_t 0), .inl (cs 0, 106, .inl (d_t.2 0))), ((q_t 4), .inl (cs 0, 12, .inl (r9.2 4))), ((q_t 5), .inl (cs 0, 12, .inl (r9.2 5))), ((q_t 6), .inl (cs 0, 12, .inl (r9.2 6)))] := hD
        refine lv_aload_n hx hb dX7_layOf_142 rfl (lv_at hl 3 rfl) ?_
        refine lv_iload_n hx hb dX7_layOf_143 rfl (lv_at hl 4 rfl) ?_
        refine lv_iconst (v := 2) hx hb dX7_layOf_144 rfl ?_
        obtain ⟨r39, e40, hf⟩ := bind_some hf
        refine callVi (As := [.int x1, .int 2]) (rest := [.int r37, .int x1, .ref h_t]) M (mX7_of l D cs sk h_t q_t k (r9.1, (va_up (va_up (va_up d_t.2 4 (r9.2 4)) 5 (r9.2 5)) 6 (r9.2 6))) x1 2 e40) mw_X7_94 ln_X7_of ⟨rfl, rfl, Nat.le_of_ble_eq_true rfl, Nat.le_of_ble_eq_true rfl⟩ hP hD hS hA [0, 1] (by decide) rfl rfl (q0 := 0) rfl rfl rfl ⟨Nat.zero_le _, Nat.zero_le _⟩ hl.1 rfl (Nat.le_of_ble_eq_true rfl) dX7_layOf_145 (fun H locs hP hD hS => ?_)
        replace hP : va_P D vwCl [oX7 h_t q_t (r9.1), ((q_t 0), .inl (cs 0, 106, .inl (d_t.2 0))), ((q_t 4), .inl (cs 0, 12, .inl (r9.2 4))), ((q_t 5), .inl (cs 0, 12, .inl (r9.2 5))), ((q_t 6), .inl (cs 0, 12, .inl (r9.2 6)))] H := hP
        replace hD : va_D A [oX7 h_t q_t (r9.1), ((q_t 0), .inl (cs 0, 106, .inl (d_t.2 0))), ((q_t 4), .inl (cs 0, 12, .inl (r9.2 4))), ((q_t 5), .inl (cs 0, 12, .inl (r9.2 5))), ((q_t 6), .inl (cs 0, 12, .inl (r9.2 6)))] := hD
        refine lv_aload_n hx hb dX7_layOf_148 rfl (lv_at hl 3 rfl) ?_
        refine lv_iconst (v := 0) hx hb dX7_layOf_149 rfl ?_
        refine lv_iconst (v := 2) hx hb dX7_layOf_150 rfl ?_
        refine lv_iload hx hb dX7_layOf_151 (lv_at hl 0 rfl) ?_
        refine lv_imul hx hb dX7_layOf_153 ?_
        refine lv_iadd hx hb dX7_layOf_154 ?_
        refine lv_iload hx hb dX7_layOf_155 (lv_at hl 1 rfl) ?_
        obtain ⟨r41, e42, hf⟩ := bind_some hf
        refine callVi (As := [.int (0 + (2 * ((r1 + 1) - (r1 + 1) / r35 * r35))), .int (12 + (2 * x2))]) (rest := [.int r39, .int r37, .int x1, .ref h_t]) M (mX7_paces l D cs sk h_t q_t k (r9.1, (va_up (va_up (va_up d_t.2 4 (r9.2 4)) 5 (r9.2 5)) 6 (r9.2 6))) (0 + (2 * ((r1 + 1) - (r1 + 1) / r35 * r35))) (12 + (2 * x2)) e42) mw_X7_130 ln_X7_paces ⟨rfl, rfl, Nat.le_of_ble_eq_true rfl, Nat.le_of_ble_eq_true rfl⟩ hP hD hS hA [0, 1] (by decide) rfl rfl (q0 := 0) rfl rfl rfl ⟨Nat.zero_le _, Nat.zero_le _⟩ hl.1 rfl (Nat.le_of_ble_eq_true rfl) dX7_layOf_157 (fun H locs hP hD hS => ?_)
        replace hP : va_P D vwCl [oX7 h_t q_t (r9.1), ((q_t 0), .inl (cs 0, 106, .inl (d_t.2 0))), ((q_t 4), .inl (cs 0, 12, .inl (r9.2 4))), ((q_t 5), .inl (cs 0, 12, .inl (r9.2 5))), ((q_t 6), .inl (cs 0, 12, .inl (r9.2 6)))] H := hP
        replace hD : va_D A [oX7 h_t q_t (r9.1), ((q_t 0), .inl (cs 0, 106, .inl (d_t.2 0))), ((q_t 4), .inl (cs 0, 12, .inl (r9.2 4))), ((q_t 5), .inl (cs 0, 12, .inl (r9.2 5))), ((q_t 6), .inl (cs 0, 12, .inl (r9.2 6)))] := hD
        refine lv_isub hx hb dX7_layOf_160 ?_
        obtain ⟨r43, e44, hf⟩ := bind_some hf
        refine callVv (As := [.int x1, .int r37, .int (r39 - r41)]) (rest := []) M (mX7_laySound l D cs sk h_t q_t k (r9.1, (va_up (va_up (va_up d_t.2 4 (r9.2 4)) 5 (r9.2 5)) 6 (r9.2 6))) x1 r37 (r39 - r41) e44) mw_X7_153 ln_X7_laySound ⟨rfl, rfl, Nat.le_of_ble_eq_true rfl, Nat.le_of_ble_eq_true rfl⟩ hP hD hS hA [0, 2, 3, 4] (by decide) rfl rfl (q0 := 0) rfl rfl rfl ⟨Nat.zero_le _, Nat.zero_le _⟩ hl.1 rfl (Nat.le_of_ble_eq_true rfl) dX7_layOf_161 (fun H locs hP hD hS => ?_)
        replace hP : va_P D vwCl [oX7 h_t q_t (r43.1), ((q_t 0), .inl (cs 0, 106, .inl (d_t.2 0))), ((q_t 4), .inl (cs 0, 12, .inl (r43.2 4))), ((q_t 5), .inl (cs 0, 12, .inl (r43.2 5))), ((q_t 6), .inl (cs 0, 12, .inl (r43.2 6)))] H := hP
        replace hD : va_D A [oX7 h_t q_t (r43.1), ((q_t 0), .inl (cs 0, 106, .inl (d_t.2 0))), ((q_t 4), .inl (cs 0, 12, .inl (r43.2 4))), ((q_t 5), .inl (cs 0, 12, .inl (r43.2 5))), ((q_t 6), .inl (cs 0, 12, .inl (r43.2 6)))] := hD
        have e9 := Option.some.inj hf
        subst e9
        exact hR _ _ _ _ dX7_layOf_164 hP hS
    · replace hf := g30.2 c29
      refine lv_aload_n hx hb dX7_layOf_65 rfl (lv_at hl 2 rfl) ?_
      refine lv_iconst (v := 0) hx hb dX7_layOf_66 rfl ?_
      refine lv_iconst (v := 2) hx hb dX7_layOf_67 rfl ?_
      refine lv_iload_n hx hb dX7_layOf_68 rfl (lv_at hl 1 rfl) ?_
      refine lv_imul hx hb dX7_layOf_69 ?_
      refine lv_iadd hx hb dX7_layOf_70 ?_
      refine lv_bipush (v := 18) hx hb dX7_layOf_71 rfl ?_
      obtain ⟨r45, e46, hf⟩ := bind_some hf
      refine callVi (As := [.int (0 + (2 * r1)), .int 18]) (rest := []) M (mX7_paces l D cs sk h_t q_t k (r9.1, (va_up (va_up (va_up d_t.2 4 (r9.2 4)) 5 (r9.2 5)) 6 (r9.2 6))) (0 + (2 * r1)) 18 e46) mw_X7_130 ln_X7_paces ⟨rfl, rfl, Nat.le_of_ble_eq_true rfl, Nat.le_of_ble_eq_true rfl⟩ hP hD hS hA [0, 1] (by decide) rfl rfl (q0 := 0) rfl rfl rfl ⟨Nat.zero_le _, Nat.zero_le _⟩ hl.1 rfl (Nat.le_of_ble_eq_true rfl) dX7_layOf_73 (fun H locs hP hD hS => ?_)
      replace hP : va_P D vwCl [oX7 h_t q_t (r9.1), ((q_t 0), .inl (cs 0, 106, .inl (d_t.2 0))), ((q_t 4), .inl (cs 0, 12, .inl (r9.2 4))), ((q_t 5), .inl (cs 0, 12, .inl (r9.2 5))), ((q_t 6), .inl (cs 0, 12, .inl (r9.2 6)))] H := hP
      replace hD : va_D A [oX7 h_t q_t (r9.1), ((q_t 0), .inl (cs 0, 106, .inl (d_t.2 0))), ((q_t 4), .inl (cs 0, 12, .inl (r9.2 4))), ((q_t 5), .inl (cs 0, 12, .inl (r9.2 5))), ((q_t 6), .inl (cs 0, 12, .inl (r9.2 6)))] := hD
      refine lv_aload_n hx hb dX7_layOf_76 rfl (lv_at hl 2 rfl) ?_
      refine lv_bipush (v := 18) hx hb dX7_layOf_77 rfl ?_
      refine lv_iload hx hb dX7_layOf_79 (lv_at hl 0 rfl) ?_
      obtain ⟨r47, e48, hf⟩ := bind_some hf
      refine callVi (As := [.int 18, .int (12 + (2 * x2))]) (rest := [.int r45]) M (mX7_paces l D cs sk h_t q_t k (r9.1, (va_up (va_up (va_up d_t.2 4 (r9.2 4)) 5 (r9.2 5)) 6 (r9.2 6))) 18 (12 + (2 * x2)) e48) mw_X7_130 ln_X7_paces ⟨rfl, rfl, Nat.le_of_ble_eq_true rfl, Nat.le_of_ble_eq_true rfl⟩ hP hD hS hA [0, 1] (by decide) rfl rfl (q0 := 0) rfl rfl rfl ⟨Nat.zero_le _, Nat.zero_le _⟩ hl.1 rfl (Nat.le_of_ble_eq_true rfl) dX7_layOf_81 (fun H locs hP hD hS => ?_)
      replace hP : va_P D vwCl [oX7 h_t q_t (r9.1), ((q_t 0), .inl (cs 0, 106, .inl (d_t.2 0))), ((q_t 4), .inl (cs 0, 12, .inl (r9.2 4))), ((q_t 5), .inl (cs 0, 12, .inl (r9.2 5))), ((q_t 6), .inl (cs 0, 12, .inl (r9.2 6)))] H := hP
      replace hD : va_D A [oX7 h_t q_t (r9.1), ((q_t 0), .inl (cs 0, 106, .inl (d_t.2 0))), ((q_t 4), .inl (cs 0, 12, .inl (r9.2 4))), ((q_t 5), .inl (cs 0, 12, .inl (r9.2 5))), ((q_t 6), .inl (cs 0, 12, .inl (r9.2 6)))] := hD
      refine lv_iadd hx hb dX7_layOf_84 ?_
      refine lv_istore (lv' := [(5, .int (r45 + r47)), (4, .int (12 + (2 * x2))), (3, .int r1), (0, .ref h_t), (1, .int x1), (2, .int x2)]) hx hb dX7_layOf_85 hl (by decide) rfl (fun ls hl => ?_)
      refine lv_aload_n hx hb dX7_layOf_87 rfl (lv_at hl 3 rfl) ?_
      refine lv_iload_n hx hb dX7_layOf_88 rfl (lv_at hl 4 rfl) ?_
      refine lv_iload hx hb dX7_layOf_89 (lv_at hl 0 rfl) ?_
      refine lv_aload_n hx hb dX7_layOf_91 rfl (lv_at hl 3 rfl) ?_
      refine va_get (D := D) (ci := 7) (v := .ref (q_t 0)) (C := RX7) (T := TX7) (N := 23) hx hb hT iX7 hown hK hP 0 rfl rfl 0 (by decide) (hT _ fw_X7_7) (fun _ h9 => h9) rfl dX7_layOf_92 ?_
      refine lv_bipush (v := 20) hx hb dX7_layOf_95 rfl ?_
      obtain ⟨hi, hf⟩ := chk_some hf
      refine va_iald (D := D) hx hb hK hP 1 0 rfl rfl hi dX7_layOf_97 ?_
      refine lv_imul hx hb dX7_layOf_98 ?_
      refine lv_aload_n hx hb dX7_layOf_99 rfl (lv_at hl 3 rfl) ?_
      refine lv_iload_n hx hb dX7_layOf_100 rfl (lv_at hl 4 rfl) ?_
      refine lv_iconst (v := 2) hx hb dX7_layOf_101 rfl ?_
      obtain ⟨r49, e50, hf⟩ := bind_some hf
      refine callVi (As := [.int x1, .int 2]) (rest := [.int ((r45 + r47) * ((d_t.2 0) (20 : Int32).toNatClampNeg)), .int x1, .ref h_t]) M (mX7_of l D cs sk h_t q_t k (r9.1, (va_up (va_up (va_up d_t.2 4 (r9.2 4)) 5 (r9.2 5)) 6 (r9.2 6))) x1 2 e50) mw_X7_94 ln_X7_of ⟨rfl, rfl, Nat.le_of_ble_eq_true rfl, Nat.le_of_ble_eq_true rfl⟩ hP hD hS hA [0, 1] (by decide) rfl rfl (q0 := 0) rfl rfl rfl ⟨Nat.zero_le _, Nat.zero_le _⟩ hl.1 rfl (Nat.le_of_ble_eq_true rfl) dX7_layOf_102 (fun H locs hP hD hS => ?_)
      replace hP : va_P D vwCl [oX7 h_t q_t (r9.1), ((q_t 0), .inl (cs 0, 106, .inl (d_t.2 0))), ((q_t 4), .inl (cs 0, 12, .inl (r9.2 4))), ((q_t 5), .inl (cs 0, 12, .inl (r9.2 5))), ((q_t 6), .inl (cs 0, 12, .inl (r9.2 6)))] H := hP
      replace hD : va_D A [oX7 h_t q_t (r9.1), ((q_t 0), .inl (cs 0, 106, .inl (d_t.2 0))), ((q_t 4), .inl (cs 0, 12, .inl (r9.2 4))), ((q_t 5), .inl (cs 0, 12, .inl (r9.2 5))), ((q_t 6), .inl (cs 0, 12, .inl (r9.2 6)))] := hD
      refine lv_iconst (v := 2) hx hb dX7_layOf_105 rfl ?_
      refine lv_idiv hx hb dX7_layOf_106 (by decide) ?_
      refine lv_iload hx hb dX7_layOf_107 (lv_at hl 0 rfl) ?_
      refine lv_isub hx hb dX7_layOf_109 ?_
      obtain ⟨r51, e52, hf⟩ := bind_some hf
      refine callVv (As := [.int x1, .int ((r45 + r47) * ((d_t.2 0) (20 : Int32).toNatClampNeg)), .int ((r49 / 2) - (r45 + r47))]) (rest := []) M (mX7_laySound l D cs sk h_t q_t k (r9.1, (va_up (va_up (va_up d_t.2 4 (r9.2 4)) 5 (r9.2 5)) 6 (r9.2 6))) x1 ((r45 + r47) * ((d_t.2 0) (20 : Int32).toNatClampNeg)) ((r49 / 2) - (r45 + r47)) e52) mw_X7_153 ln_X7_laySound ⟨rfl, rfl, Nat.le_of_ble_eq_true rfl, Nat.le_of_ble_eq_true rfl⟩ hP hD hS hA [0, 2, 3, 4] (by decide) rfl rfl (q0 := 0) rfl rfl rfl ⟨Nat.zero_le _, Nat.zero_le _⟩ hl.1 rfl (Nat.le_of_ble_eq_true rfl) dX7_layOf_110 (fun H locs hP hD hS => ?_)
      replace hP : va_P D vwCl [oX7 h_t q_t (r51.1), ((q_t 0), .inl (cs 0, 106, .inl (d_t.2 0))), ((q_t 4), .inl (cs 0, 12, .inl (r51.2 4))), ((q_t 5), .inl (cs 0, 12, .inl (r51.2 5))), ((q_t 6), .inl (cs 0, 12, .inl (r51.2 6)))] H := hP
      replace hD : va_D A [oX7 h_t q_t (r51.1), ((q_t 0), .inl (cs 0, 106, .inl (d_t.2 0))), ((q_t 4), .inl (cs 0, 12, .inl (r51.2 4))), ((q_t 5), .inl (cs 0, 12, .inl (r51.2 5))), ((q_t 6), .inl (cs 0, 12, .inl (r51.2 6)))] := hD
      refine lv_aload_n hx hb dX7_layOf_113 rfl (lv_at hl 3 rfl) ?_
      refine lv_iload_n hx hb dX7_layOf_114 rfl (lv_at hl 4 rfl) ?_
      refine lv_iconst (v := 0) hx hb dX7_layOf_115 rfl ?_
      obtain ⟨r53, e54, hf⟩ := bind_some hf
      refine callVi (As := [.int x1, .int 0]) (rest := []) M (mX7_of l D cs sk h_t q_t k (r51.1, (va_up (va_up (va_up d_t.2 4 (r51.2 4)) 5 (r51.2 5)) 6 (r51.2 6))) x1 0 e54) mw_X7_94 ln_X7_of ⟨rfl, rfl, Nat.le_of_ble_eq_true rfl, Nat.le_of_ble_eq_true rfl⟩ hP hD hS hA [0, 1] (by decide) rfl rfl (q0 := 0) rfl rfl rfl ⟨Nat.zero_le _, Nat.zero_le _⟩ hl.1 rfl (Nat.le_of_ble_eq_true rfl) dX7_layOf_116 (fun H locs hP hD hS => ?_)
      replace hP : va_P D vwCl [oX7 h_t q_t (r51.1), ((q_t 0), .inl (cs 0, 106, .inl (d_t.2 0))), ((q_t 4), .inl (cs 0, 12, .inl (r51.2 4))), ((q_t 5), .inl (cs 0, 12, .inl (r51.2 5))), ((q_t 6), .inl (cs 0, 12, .inl (r51.2 6)))] H := hP
      replace hD : va_D A [oX7 h_t q_t (r51.1), ((q_t 0), .inl (cs 0, 106, .inl (d_t.2 0))), ((q_t 4), .inl (cs 0, 12, .inl (r51.2 4))), ((q_t 5), .inl (cs 0, 12, .inl (r51.2 5))), ((q_t 6), .inl (cs 0, 12, .inl (r51.2 6)))] := hD
      refine lv_iconst (v := 4) hx hb dX7_layOf_119 rfl ?_
      have g56 := ite_some hf
      refine lv_icmp_ne (tgt := 164) hx hb dX7_layOf_120 (by decide) (fun c55 => ?_) (fun c55 => ?_)
      · replace hf := g56.2 c55
        have e9 := Option.some.inj hf
        subst e9
        exact hR _ _ _ _ dX7_layOf_164 hP hS
      · replace hf := g56.1 c55
        refine lv_iload_n hx hb dX7_layOf_123 rfl (lv_at hl 2 rfl) ?_
        refine lv_iconst (v := 1) hx hb dX7_layOf_124 rfl ?_
        refine lv_iadd hx hb dX7_layOf_125 ?_
        refine lv_aload_n hx hb dX7_layOf_126 rfl (lv_at hl 3 rfl) ?_
        obtain ⟨r57, e58, hf⟩ := bind_some hf
        refine callVi (As := []) (rest := [.int (r1 + 1)]) M (mX7_windows l D cs sk h_t q_t k (r51.1, (va_up (va_up (va_up d_t.2 4 (r51.2 4)) 5 (r51.2 5)) 6 (r51.2 6))) e58) mw_X7_56 ln_X7_windows ⟨rfl, rfl, Nat.le_of_ble_eq_true rfl, Nat.le_of_ble_eq_true rfl⟩ hP hD hS hA [0, 1] (by decide) rfl rfl (q0 := 0) rfl rfl rfl ⟨Nat.zero_le _, Nat.zero_le _⟩ hl.1 rfl (Nat.le_of_ble_eq_true rfl) dX7_layOf_127 (fun H locs hP hD hS => ?_)
        replace hP : va_P D vwCl [oX7 h_t q_t (r51.1), ((q_t 0), .inl (cs 0, 106, .inl (d_t.2 0))), ((q_t 4), .inl (cs 0, 12, .inl (r51.2 4))), ((q_t 5), .inl (cs 0, 12, .inl (r51.2 5))), ((q_t 6), .inl (cs 0, 12, .inl (r51.2 6)))] H := hP
        replace hD : va_D A [oX7 h_t q_t (r51.1), ((q_t 0), .inl (cs 0, 106, .inl (d_t.2 0))), ((q_t 4), .inl (cs 0, 12, .inl (r51.2 4))), ((q_t 5), .inl (cs 0, 12, .inl (r51.2 5))), ((q_t 6), .inl (cs 0, 12, .inl (r51.2 6)))] := hD
        obtain ⟨hz, hf⟩ := chz_some hf
        refine lv_irem hx hb dX7_layOf_130 hz ?_
        refine lv_istore (lv' := [(5, .int ((r1 + 1) - (r1 + 1) / r57 * r57)), (4, .int (12 + (2 * x2))), (3, .int r1), (0, .ref h_t), (1, .int x1), (2, .int x2)]) hx hb dX7_layOf_131 hl (by decide) rfl (fun ls hl => ?_)
        refine lv_aload_n hx hb dX7_layOf_133 rfl (lv_at hl 3 rfl) ?_
        refine lv_iload_n hx hb dX7_layOf_134 rfl (lv_at hl 4 rfl) ?_
        refine lv_aload_n hx hb dX7_layOf_135 rfl (lv_at hl 3 rfl) ?_
        refine lv_iload hx hb dX7_layOf_136 (lv_at hl 0 rfl) ?_
        refine lv_iload_n hx hb dX7_layOf_138 rfl (lv_at hl 5 rfl) ?_
        obtain ⟨r59, e60, hf⟩ := bind_some hf
        refine callVi (As := [.int ((r1 + 1) - (r1 + 1) / r57 * r57), .int x2]) (rest := [.int x1, .ref h_t]) M (mX7_soundOf l D cs sk h_t q_t k (r51.1, (va_up (va_up (va_up d_t.2 4 (r51.2 4)) 5 (r51.2 5)) 6 (r51.2 6))) ((r1 + 1) - (r1 + 1) / r57 * r57) x2 e60) mw_X7_136 ln_X7_soundOf ⟨rfl, rfl, Nat.le_of_ble_eq_true rfl, Nat.le_of_ble_eq_true rfl⟩ hP hD hS hA [0, 1] (by decide) rfl rfl (q0 := 0) rfl rfl rfl ⟨Nat.zero_le _, Nat.zero_le _⟩ hl.1 rfl (Nat.le_of_ble_eq_true rfl) dX7_layOf_139 (fun H locs hP hD hS => ?_)
        replace hP : va_P D vwCl [oX7 h_t q_t (r51.1), ((q_t 0), .inl (cs 0, 106, .inl (d_t.2 0))), ((q_t 4), .inl (cs 0, 12, .inl (r51.2 4))), ((q_t 5), .inl (cs 0, 12, .inl (r51.2 5))), ((q_t 6), .inl (cs 0, 12, .inl (r51.2 6)))] H := hP
        replace hD : va_D A [oX7 h_t q_t (r51.1), ((q_t 0), .inl (cs 0, 106, .inl (d_t.2 0))), ((q_t 4), .inl (cs 0, 12, .inl (r51.2 4))), ((q_t 5), .inl (cs 0, 12, .inl (r51.2 5))), ((q_t 6), .inl (cs 0, 12, .inl (r51.2 6)))] := hD
        refine lv_aload_n hx hb dX7_layOf_142 rfl (lv_at hl 3 rfl) ?_
        refine lv_iload_n hx hb dX7_layOf_143 rfl (lv_at hl 4 rfl) ?_
        refine lv_iconst (v := 2) hx hb dX7_layOf_144 rfl ?_
        obtain ⟨r61, e62, hf⟩ := bind_some hf
        refine callVi (As := [.int x1, .int 2]) (rest := [.int r59, .int x1, .ref h_t]) M (mX7_of l D cs sk h_t q_t k (r51.1, (va_up (va_up (va_up d_t.2 4 (r51.2 4)) 5 (r51.2 5)) 6 (r51.2 6))) x1 2 e62) mw_X7_94 ln_X7_of ⟨rfl, rfl, Nat.le_of_ble_eq_true rfl, Nat.le_of_ble_eq_true rfl⟩ hP hD hS hA [0, 1] (by decide) rfl rfl (q0 := 0) rfl rfl rfl ⟨Nat.zero_le _, Nat.zero_le _⟩ hl.1 rfl (Nat.le_of_ble_eq_true rfl) dX7_layOf_145 (fun H locs hP hD hS => ?_)
        replace hP : va_P D vwCl [oX7 h_t q_t (r51.1), ((q_t 0), .inl (cs 0, 106, .inl (d_t.2 0))), ((q_t 4), .inl (cs 0, 12, .inl (r51.2 4))), ((q_t 5), .inl (cs 0, 12, .inl (r51.2 5))), ((q_t 6), .inl (cs 0, 12, .inl (r51.2 6)))] H := hP
        replace hD : va_D A [oX7 h_t q_t (r51.1), ((q_t 0), .inl (cs 0, 106, .inl (d_t.2 0))), ((q_t 4), .inl (cs 0, 12, .inl (r51.2 4))), ((q_t 5), .inl (cs 0, 12, .inl (r51.2 5))), ((q_t 6), .inl (cs 0, 12, .inl (r51.2 6)))] := hD
        refine lv_aload_n hx hb dX7_layOf_148 rfl (lv_at hl 3 rfl) ?_
        refine lv_iconst (v := 0) hx hb dX7_layOf_149 rfl ?_
        refine lv_iconst (v := 2) hx hb dX7_layOf_150 rfl ?_
        refine lv_iload hx hb dX7_layOf_151 (lv_at hl 0 rfl) ?_
        refine lv_imul hx hb dX7_layOf_153 ?_
        refine lv_iadd hx hb dX7_layOf_154 ?_
        refine lv_iload hx hb dX7_layOf_155 (lv_at hl 1 rfl) ?_
        obtain ⟨r63, e64, hf⟩ := bind_some hf
        refine callVi (As := [.int (0 + (2 * ((r1 + 1) - (r1 + 1) / r57 * r57))), .int (12 + (2 * x2))]) (rest := [.int r61, .int r59, .int x1, .ref h_t]) M (mX7_paces l D cs sk h_t q_t k (r51.1, (va_up (va_up (va_up d_t.2 4 (r51.2 4)) 5 (r51.2 5)) 6 (r51.2 6))) (0 + (2 * ((r1 + 1) - (r1 + 1) / r57 * r57))) (12 + (2 * x2)) e64) mw_X7_130 ln_X7_paces ⟨rfl, rfl, Nat.le_of_ble_eq_true rfl, Nat.le_of_ble_eq_true rfl⟩ hP hD hS hA [0, 1] (by decide) rfl rfl (q0 := 0) rfl rfl rfl ⟨Nat.zero_le _, Nat.zero_le _⟩ hl.1 rfl (Nat.le_of_ble_eq_true rfl) dX7_layOf_157 (fun H locs hP hD hS => ?_)
        replace hP : va_P D vwCl [oX7 h_t q_t (r51.1), ((q_t 0), .inl (cs 0, 106, .inl (d_t.2 0))), ((q_t 4), .inl (cs 0, 12, .inl (r51.2 4))), ((q_t 5), .inl (cs 0, 12, .inl (r51.2 5))), ((q_t 6), .inl (cs 0, 12, .inl (r51.2 6)))] H := hP
        replace hD : va_D A [oX7 h_t q_t (r51.1), ((q_t 0), .inl (cs 0, 106, .inl (d_t.2 0))), ((q_t 4), .inl (cs 0, 12, .inl (r51.2 4))), ((q_t 5), .inl (cs 0, 12, .inl (r51.2 5))), ((q_t 6), .inl (cs 0, 12, .inl (r51.2 6)))] := hD
        refine lv_isub hx hb dX7_layOf_160 ?_
        obtain ⟨r65, e66, hf⟩ := bind_some hf
        refine callVv (As := [.int x1, .int r59, .int (r61 - r63)]) (rest := []) M (mX7_laySound l D cs sk h_t q_t k (r51.1, (va_up (va_up (va_up d_t.2 4 (r51.2 4)) 5 (r51.2 5)) 6 (r51.2 6))) x1 r59 (r61 - r63) e66) mw_X7_153 ln_X7_laySound ⟨rfl, rfl, Nat.le_of_ble_eq_true rfl, Nat.le_of_ble_eq_true rfl⟩ hP hD hS hA [0, 2, 3, 4] (by decide) rfl rfl (q0 := 0) rfl rfl rfl ⟨Nat.zero_le _, Nat.zero_le _⟩ hl.1 rfl (Nat.le_of_ble_eq_true rfl) dX7_layOf_161 (fun H locs hP hD hS => ?_)
        replace hP : va_P D vwCl [oX7 h_t q_t (r65.1), ((q_t 0), .inl (cs 0, 106, .inl (d_t.2 0))), ((q_t 4), .inl (cs 0, 12, .inl (r65.2 4))), ((q_t 5), .inl (cs 0, 12, .inl (r65.2 5))), ((q_t 6), .inl (cs 0, 12, .inl (r65.2 6)))] H := hP
        replace hD : va_D A [oX7 h_t q_t (r65.1), ((q_t 0), .inl (cs 0, 106, .inl (d_t.2 0))), ((q_t 4), .inl (cs 0, 12, .inl (r65.2 4))), ((q_t 5), .inl (cs 0, 12, .inl (r65.2 5))), ((q_t 6), .inl (cs 0, 12, .inl (r65.2 6)))] := hD
        have e9 := Option.some.inj hf
        subst e9
        exact hR _ _ _ _ dX7_layOf_164 hP hS
