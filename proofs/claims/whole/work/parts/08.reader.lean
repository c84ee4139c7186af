abbrev rm_X2_isLetter : Room := { frames := 0, cells := 0, slots := 0, locals := 0 }
def fX2_isLetter (k : Nat) (x0 : Int32) : Option (Int32) :=
  (if x0 < 97 then some 0 else (if 122 < x0 then some 0 else some 1))
set_option maxHeartbeats 4000000 in
set_option maxRecDepth 100000 in
theorem mX2_isLetter (l : Launch) (D : va_G) (cs : Nat → ClassId) (sk : Nat → Nat)  (k : Nat) (x0 : Int32) {rv : Int32} (hf : fX2_isLetter k x0 = some rv) : CTi l yX2_isLetter (Cond.code yX2_isLetter cX2_isLetter 1 (some .boolean) :: gtbl) rm_X2_isLetter D cs sk [.int x0] [] (rv) [] := by
  refine CTi.ofZ RX2 (by decide +kernel) rfl (Nat.le_of_ble_eq_true rfl) (fun p e s m args below meth c A Q ls M hA hR hl hP hD hS => ?_)
  obtain ⟨hx, hb, hml, hT, hown, hlk, hrt, hK, hN, hSE⟩ := id M
  replace hl : lv_has ls 1 [(0, .int x0)] := hl
  unfold fX2_isLetter at hf
  refine lv_iload_n hx hb dX2_isLetter_0 rfl (lv_at hl 0 rfl) ?_
  refine lv_bipush (v := 97) hx hb dX2_isLetter_1 rfl ?_
  have g2 := ite_some hf
  refine lv_icmp_lt (tgt := 16) hx hb dX2_isLetter_3 (by decide) (fun c1 => ?_) (fun c1 => ?_)
  · replace hf := g2.1 c1
    refine lv_iconst (v := 0) hx hb dX2_isLetter_16 rfl ?_
    have e9 := Option.some.inj hf
    subst e9
    exact hR _ _ _ _ dX2_isLetter_17 (Or.inl rfl) hP hS
  · replace hf := g2.2 c1
    refine lv_iload_n hx hb dX2_isLetter_6 rfl (lv_at hl 0 rfl) ?_
    refine lv_bipush (v := 122) hx hb dX2_isLetter_7 rfl ?_
    have g4 := ite_some hf
    refine lv_icmp_gt (tgt := 16) hx hb dX2_isLetter_9 (by decide) (fun c3 => ?_) (fun c3 => ?_)
    · replace hf := g4.1 c3
      refine lv_iconst (v := 0) hx hb dX2_isLetter_16 rfl ?_
      have e9 := Option.some.inj hf
      subst e9
      exact hR _ _ _ _ dX2_isLetter_17 (Or.inl rfl) hP hS
    · replace hf := g4.2 c3
      refine lv_iconst (v := 1) hx hb dX2_isLetter_12 rfl ?_
      refine lv_goto (tgt := 17) hx hb dX2_isLetter_13 (by decide) ?_
      have e9 := Option.some.inj hf
      subst e9
      exact hR _ _ _ _ dX2_isLetter_17 (Or.inr rfl) hP hS
abbrev rm_X2_takeWord : Room := { frames := 1, cells := 0, slots := 0, locals := 20 }
def fX2_takeWord_B5 (k : Nat) (d_t : Dat) (K44 : Dat → Option (Dat)) (rec : Dat → Option (Dat)) (v : Dat) : Option (Dat) :=
  (if (v.1 1) ≤ (v.1 2) then K44 (v.1, d_t.2) else chk 250 (v.1 2) ((fX2_isLetter k ((d_t.2 0) (v.1 2).toNatClampNeg)).bind (fun (r3 : Int32) => (if r3 = 0 then K44 (v.1, d_t.2) else rec ((upd v.1 2 ((v.1 2) + 1)), d_t.2)))))
def fX2_takeWord (k : Nat) (d_t : Dat) : Option (Dat) :=
  lp (fX2_takeWord_B5 k ((upd d_t.1 4 1), d_t.2) (fun (w1 : Dat) => some (w1.1, d_t.2))) k ((upd d_t.1 4 1), d_t.2)
set_option maxHeartbeats 4000000 in
set_option maxRecDepth 100000 in
theorem mX2_takeWord_B5 {l : Launch} {p : Program} {e : Env} {s : State} {m : MethodId} {args : Array Value} {below : List Frame} {meth : Method} {c : Code} {D : va_G} {cs : Nat → ClassId} {sk : Nat → Nat} {A : Nat → Prop} {Q : State → Prop} (h_t : Nat) (q_t : Nat → Nat) (k : Nat) (d_t : Dat) {rv : Dat}  (K44 : Dat → Option (Dat))
    (M : MC p s m args meth c D cs sk A RX2 cX2_takeWord 1 none) (hA : ∀ q, s.heap.size ≤ q → A q) (hR : RetV p l e rm_X2_takeWord s m args below meth c D cX2_takeWord A Q [oX2 h_t q_t (rv.1), ((q_t 0), .inl (cs 1, 250, .inl (d_t.2 0)))])
    (hK44 : ∀ (w : Dat), K44 w = some rv → ∀ (H : Heap) (locs : List Loc) (ls : Array Slot), va_P D vwCl [oX2 h_t q_t (w.1), ((q_t 0), .inl (cs 1, 250, .inl (d_t.2 0)))] H → va_D A [oX2 h_t q_t (w.1), ((q_t 0), .inl (cs 1, 250, .inl (d_t.2 0)))] → va_S A s.heap H locs → lv_has ls 1 [] → W p l e rm_X2_takeWord s m args below meth c H locs 0 0 Q (F0 m 44 ls []))
    : ∀ (n : Nat) (v : Dat), lp (fX2_takeWord_B5 k d_t K44) n v = some rv → ∀ (H : Heap) (locs : List Loc) (ls : Array Slot), va_P D vwCl [oX2 h_t q_t (v.1), ((q_t 0), .inl (cs 1, 250, .inl (d_t.2 0)))] H → va_D A [oX2 h_t q_t (v.1), ((q_t 0), .inl (cs 1, 250, .inl (d_t.2 0)))] → va_S A s.heap H locs → lv_has ls 1 [(0, .ref h_t)] → W p l e rm_X2_takeWord s m args below meth c H locs 0 0 Q (F0 m 5 ls []) := by
  obtain ⟨hx, hb, hml, hT, hown, hlk, hrt, hK, hN, hSE⟩ := id M
  refine lp_ind (fun rec ih v hf H locs ls hP hD hS hl => ?_)
  unfold fX2_takeWord_B5 at hf
  refine lv_aload_n hx hb dX2_takeWord_5 rfl (lv_at hl 0 rfl) ?_
  refine va_get (D := D) (ci := 2) (v := .int (v.1 2)) (C := RX2) (T := TX2) (N := 7) hx hb hT iX2 hown hK hP 0 rfl rfl 2 (by decide) (hT _ fw_X2_19) (fun _ h9 => h9) rfl dX2_takeWord_6 ?_
  refine lv_aload_n hx hb dX2_takeWord_9 rfl (lv_at hl 0 rfl) ?_
  refine va_get (D := D) (ci := 2) (v := .int (v.1 1)) (C := RX2) (T := TX2) (N := 7) hx hb hT iX2 hown hK hP 0 rfl rfl 1 (by decide) (hT _ fw_X2_15) (fun _ h9 => h9) rfl dX2_takeWord_10 ?_
  have g2 := ite_some hf
  refine lv_icmp_ge (tgt := 44) hx hb dX2_takeWord_13 (by decide) (fun c1 => ?_) (fun c1 => ?_)
  · replace hf := g2.1 c1
    exact hK44 _ hf _ _ _ hP hD hS (lv_sub hl [] rfl)
  · replace hf := g2.2 c1
    refine lv_aload_n hx hb dX2_takeWord_16 rfl (lv_at hl 0 rfl) ?_
    refine va_get (D := D) (ci := 2) (v := .ref (q_t 0)) (C := RX2) (T := TX2) (N := 7) hx hb hT iX2 hown hK hP 0 rfl rfl 0 (by decide) (hT _ fw_X2_9) (fun _ h9 => h9) rfl dX2_takeWord_17 ?_
    refine lv_aload_n hx hb dX2_takeWord_20 rfl (lv_at hl 0 rfl) ?_
    refine va_get (D := D) (ci := 2) (v := .int (v.1 2)) (C := RX2) (T := TX2) (N := 7) hx hb hT iX2 hown hK hP 0 rfl rfl 2 (by decide) (hT _ fw_X2_19) (fun _ h9 => h9) rfl dX2_takeWord_21 ?_
    obtain ⟨hi, hf⟩ := chk_some hf
    refine va_bald (D := D) hx hb hK hP 1 1 rfl rfl hi dX2_takeWord_24 ?_
    obtain ⟨r3, e4, hf⟩ := bind_some hf
    refine callSi (As := [.int ((d_t.2 0) (v.1 2).toNatClampNeg)]) (rest := []) M (mX2_isLetter l D cs sk  k ((d_t.2 0) (v.1 2).toNatClampNeg) e4) mw_X2_135 ln_X2_isLetter ⟨rfl, rfl, Nat.le_of_ble_eq_true rfl, Nat.le_of_ble_eq_true rfl⟩ hP hD hS hA [] (by decide) rfl rfl ⟨Nat.zero_le _, Nat.zero_le _⟩ hl.1 rfl (Nat.le_of_ble_eq_true rfl) dX2_takeWord_25 (fun H locs hP hD hS => ?_)
    replace hP : va_P D vwCl [oX2 h_t q_t (v.1), ((q_t 0), .inl (cs 1, 250, .inl (d_t.2 0)))] H := hP
    replace hD : va_D A [oX2 h_t q_t (v.1), ((q_t 0), .inl (cs 1, 250, .inl (d_t.2 0)))] := hD
    have g6 := ite_some hf
    refine lv_if_eq (tgt := 44) hx hb dX2_takeWord_28 (by decide) (fun c5 => ?_) (fun c5 => ?_)
    · replace hf := g6.1 c5
      exact hK44 _ hf _ _ _ hP hD hS (lv_sub hl [] rfl)
    · replace hf := g6.2 c5
      refine lv_aload_n hx hb dX2_takeWord_31 rfl (lv_at hl 0 rfl) ?_
      refine lv_dup hx hb dX2_takeWord_32 rfl ?_
      refine va_get (D := D) (ci := 2) (v := .int (v.1 2)) (C := RX2) (T := TX2) (N := 7) hx hb hT iX2 hown hK hP 0 rfl rfl 2 (by decide) (hT _ fw_X2_19) (fun _ h9 => h9) rfl dX2_takeWord_33 ?_
      refine lv_iconst (v := 1) hx hb dX2_takeWord_36 rfl ?_
      refine lv_iadd hx hb dX2_takeWord_37 ?_
      refine va_put (D := D) (ci := 2) (v := .int ((v.1 2) + 1)) (ty := tyX2 2) (C := RX2) (T := TX2) (N := 7) hx hb hT iX2 tyX2 tyX2_ok nmX2 hown hK hP hD hS 0 rfl rfl 2 (by decide) (hT _ fw_X2_19) (fun _ h9 => h9) rfl (tyX2_ok 2 (by decide)) rfl rfl (Nat.le_of_ble_eq_true rfl) dX2_takeWord_38 (fun H locs hP hD hS => ?_)
      replace hP : va_P D vwCl [oX2 h_t q_t (upd v.1 2 ((v.1 2) + 1)), ((q_t 0), .inl (cs 1, 250, .inl (d_t.2 0)))] H := hP
      replace hD : va_D A [oX2 h_t q_t (upd v.1 2 ((v.1 2) + 1)), ((q_t 0), .inl (cs 1, 250, .inl (d_t.2 0)))] := hD
      refine lv_goto (tgt := 5) hx hb dX2_takeWord_41 (by decide) ?_
      exact ih _ hf _ _ _ hP hD hS (lv_sub hl [0] rfl)
set_option maxHeartbeats 4000000 in
set_option maxRecDepth 100000 in
theorem mX2_takeWord (l : Launch) (D : va_G) (cs : Nat → ClassId) (sk : Nat → Nat) (h_t : Nat) (q_t : Nat → Nat) (k : Nat) (d_t : Dat) {rv : Dat} (hf : fX2_takeWord k d_t = some rv) : CTv l yX2_takeWord (Cond.code yX2_takeWord cX2_takeWord 1 none :: gtbl) rm_X2_takeWord D cs sk [.ref h_t] [oX2 h_t q_t (d_t.1), ((q_t 0), .inl (cs 1, 250, .inl (d_t.2 0)))] [oX2 h_t q_t (rv.1), ((q_t 0), .inl (cs 1, 250, .inl (d_t.2 0)))] := by
  refine CTv.of RX2 (by decide +kernel) rfl (Nat.le_of_ble_eq_true rfl) (fun p e s m args below meth c A Q ls M hA hR hl hP hD hS => ?_)
  obtain ⟨hx, hb, hml, hT, hown, hlk, hrt, hK, hN, hSE⟩ := id M
  replace hl : lv_has ls 1 [(0, .ref h_t)] := hl
  unfold fX2_takeWord at hf
  refine lv_aload_n hx hb dX2_takeWord_0 rfl (lv_at hl 0 rfl) ?_
  refine lv_iconst (v := 1) hx hb dX2_takeWord_1 rfl ?_
  refine va_put (D := D) (ci := 2) (v := .int 1) (ty := tyX2 4) (C := RX2) (T := TX2) (N := 7) hx hb hT iX2 tyX2 tyX2_ok nmX2 hown hK hP hD hS 0 rfl rfl 4 (by decide) (hT _ fw_X2_25) (fun _ h9 => h9) rfl (tyX2_ok 4 (by decide)) rfl rfl (Nat.le_of_ble_eq_true rfl) dX2_takeWord_2 (fun H locs hP hD hS => ?_)
  replace hP : va_P D vwCl [oX2 h_t q_t (upd d_t.1 4 1), ((q_t 0), .inl (cs 1, 250, .inl (d_t.2 0)))] H := hP
  replace hD : va_D A [oX2 h_t q_t (upd d_t.1 4 1), ((q_t 0), .inl (cs 1, 250, .inl (d_t.2 0)))] := hD
  refine mX2_takeWord_B5 h_t q_t k ((upd d_t.1 4 1), d_t.2) _ M hA hR (fun w1 hf H locs ls hP hD hS hl => ?_) _ _ hf _ _ _ hP hD hS (lv_sub hl [0] rfl)
  · have e9 := Option.some.inj hf
    subst e9
    exact hR _ _ _ _ dX2_takeWord_44 hP hS
abbrev rm_X2_isFigure : Room := { frames := 0, cells := 0, slots := 0, locals := 0 }
def fX2_isFigure (k : Nat) (x0 : Int32) : Option (Int32) :=
  (if x0 < 48 then some 0 else (if 57 < x0 then some 0 else some 1))
set_option maxHeartbeats 4000000 in
set_option maxRecDepth 100000 in
theorem mX2_isFigure (l : Launch) (D : va_G) (cs : Nat → ClassId) (sk : Nat → Nat)  (k : Nat) (x0 : Int32) {rv : Int32} (hf : fX2_isFigure k x0 = some rv) : CTi l yX2_isFigure (Cond.code yX2_isFigure cX2_isFigure 1 (some .boolean) :: gtbl) rm_X2_isFigure D cs sk [.int x0] [] (rv) [] := by
  refine CTi.ofZ RX2 (by decide +kernel) rfl (Nat.le_of_ble_eq_true rfl) (fun p e s m args below meth c A Q ls M hA hR hl hP hD hS => ?_)
  obtain ⟨hx, hb, hml, hT, hown, hlk, hrt, hK, hN, hSE⟩ := id M
  replace hl : lv_has ls 1 [(0, .int x0)] := hl
  unfold fX2_isFigure at hf
  refine lv_iload_n hx hb dX2_isFigure_0 rfl (lv_at hl 0 rfl) ?_
  refine lv_bipush (v := 48) hx hb dX2_isFigure_1 rfl ?_
  have g2 := ite_some hf
  refine lv_icmp_lt (tgt := 16) hx hb dX2_isFigure_3 (by decide) (fun c1 => ?_) (fun c1 => ?_)
  · replace hf := g2.1 c1
    refine lv_iconst (v := 0) hx hb dX2_isFigure_16 rfl ?_
    have e9 := Option.some.inj hf
    subst e9
    exact hR _ _ _ _ dX2_isFigure_17 (Or.inl rfl) hP hS
  · replace hf := g2.2 c1
    refine lv_iload_n hx hb dX2_isFigure_6 rfl (lv_at hl 0 rfl) ?_
    refine lv_bipush (v := 57) hx hb dX2_isFigure_7 rfl ?_
    have g4 := ite_some hf
    refine lv_icmp_gt (tgt := 16) hx hb dX2_isFigure_9 (by decide) (fun c3 => ?_) (fun c3 => ?_)
    · replace hf := g4.1 c3
      refine lv_iconst (v := 0) hx hb dX2_isFigure_16 rfl ?_
      have e9 := Option.some.inj hf
      subst e9
      exact hR _ _ _ _ dX2_isFigure_17 (Or.inl rfl) hP hS
    · replace hf := g4.2 c3
      refine lv_iconst (v := 1) hx hb dX2_isFigure_12 rfl ?_
      refine lv_goto (tgt := 17) hx hb dX2_isFigure_13 (by decide) ?_
      have e9 := Option.some.inj hf
      subst e9
      exact hR _ _ _ _ dX2_isFigure_17 (Or.inr rfl) hP hS
abbrev rm_X2_takeFigures : Room := { frames := 1, cells := 0, slots := 0, locals := 20 }
def fX2_takeFigures_B5 (k : Nat) (d_t : Dat) (K81 : Dat → Option (Dat)) (rec : Dat → Option (Dat)) (v : Dat) : Option (Dat) :=
  (if (v.1 1) ≤ (v.1 2) then K81 (v.1, d_t.2) else chk 250 (v.1 2) ((fX2_isFigure k ((d_t.2 0) (v.1 2).toNatClampNeg)).bind (fun (r3 : Int32) => (if r3 = 0 then K81 (v.1, d_t.2) else (if 3 ≤ ((v.1 2) - (v.1 3)) then rec ((upd v.1 2 ((v.1 2) + 1)), d_t.2) else chk 250 (v.1 2) (rec ((upd (upd v.1 2 ((v.1 2) + 1)) 5 (((v.1 5) * 10) + (((d_t.2 0) (v.1 2).toNatClampNeg) - 48))), d_t.2)))))))
def fX2_takeFigures (k : Nat) (d_t : Dat) : Option (Dat) :=
  lp (fX2_takeFigures_B5 k ((upd d_t.1 5 0), d_t.2) (fun (w1 : Dat) => (if 3 < ((w1.1 2) - (w1.1 3)) then some ((upd w1.1 4 5), d_t.2) else some ((upd w1.1 4 2), d_t.2)))) k ((upd d_t.1 5 0), d_t.2)
set_option maxHeartbeats 4000000 in
set_option maxRecDepth 100000 in
theorem mX2_takeFigures_B5 {l : Launch} {p : Program} {e : Env} {s : State} {m : MethodId} {args : Array Value} {below : List Frame} {meth : Method} {c : Code} {D : va_G} {cs : Nat → ClassId} {sk : Nat → Nat} {A : Nat → Prop} {Q : State → Prop} (h_t : Nat) (q_t : Nat → Nat) (k : Nat) (d_t : Dat) {rv : Dat}  (K81 : Dat → Option (Dat))
    (M : MC p s m args meth c D cs sk A RX2 cX2_takeFigures 1 none) (hA : ∀ q, s.heap.size ≤ q → A q) (hR : RetV p l e rm_X2_takeFigures s m args below meth c D cX2_takeFigures A Q [oX2 h_t q_t (rv.1), ((q_t 0), .inl (cs 1, 250, .inl (d_t.2 0)))])
    (hK81 : ∀ (w : Dat), K81 w = some rv → ∀ (H : Heap) (locs : List Loc) (ls : Array Slot), va_P D vwCl [oX2 h_t q_t (w.1), ((q_t 0), .inl (cs 1, 250, .inl (d_t.2 0)))] H → va_D A [oX2 h_t q_t (w.1), ((q_t 0), .inl (cs 1, 250, .inl (d_t.2 0)))] → va_S A s.heap H locs → lv_has ls 1 [(0, .ref h_t)] → W p l e rm_X2_takeFigures s m args below meth c H locs 0 0 Q (F0 m 81 ls []))
    : ∀ (n : Nat) (v : Dat), lp (fX2_takeFigures_B5 k d_t K81) n v = some rv → ∀ (H : Heap) (locs : List Loc) (ls : Array Slot), va_P D vwCl [oX2 h_t q_t (v.1), ((q_t 0), .inl (cs 1, 250, .inl (d_t.2 0)))] H → va_D A [oX2 h_t q_t (v.1), ((q_t 0), .inl (cs 1, 250, .inl (d_t.2 0)))] → va_S A s.heap H locs → lv_has ls 1 [(0, .ref h_t)] → W p l e rm_X2_takeFigures s m args below meth c H locs 0 0 Q (F0 m 5 ls []) := by
  obtain ⟨hx, hb, hml, hT, hown, hlk, hrt, hK, hN, hSE⟩ := id M
  refine lp_ind (fun rec ih v hf H locs ls hP hD hS hl => ?_)
  unfold fX2_takeFigures_B5 at hf
  refine lv_aload_n hx hb dX2_takeFigures_5 rfl (lv_at hl 0 rfl) ?_
  refine va_get (D := D) (ci := 2) (v := .int (v.1 2)) (C := RX2) (T := TX2) (N := 7) hx hb hT iX2 hown hK hP 0 rfl rfl 2 (by decide) (hT _ fw_X2_19) (fun _ h9 => h9) rfl dX2_takeFigures_6 ?_
  refine lv_aload_n hx hb dX2_takeFigures_9 rfl (lv_at hl 0 rfl) ?_
  refine va_get (D := D) (ci := 2) (v := .int (v.1 1)) (C := RX2) (T := TX2) (N := 7) hx hb hT iX2 hown hK hP 0 rfl rfl 1 (by decide) (hT _ fw_X2_15) (fun _ h9 => h9) rfl dX2_takeFigures_10 ?_
  have g2 := ite_some hf
  refine lv_icmp_ge (tgt := 81) hx hb dX2_takeFigures_13 (by decide) (fun c1 => ?_) (fun c1 => ?_)
  · replace hf := g2.1 c1
    exact hK81 _ hf _ _ _ hP hD hS (lv_sub hl [0] rfl)
  · replace hf := g2.2 c1
    refine lv_aload_n hx hb dX2_takeFigures_16 rfl (lv_at hl 0 rfl) ?_
    refine va_get (D := D) (ci := 2) (v := .ref (q_t 0)) (C := RX2) (T := TX2) (N := 7) hx hb hT iX2 hown hK hP 0 rfl rfl 0 (by decide) (hT _ fw_X2_9) (fun _ h9 => h9) rfl dX2_takeFigures_17 ?_
    refine lv_aload_n hx hb dX2_takeFigures_20 rfl (lv_at hl 0 rfl) ?_
    refine va_get (D := D) (ci := 2) (v := .int (v.1 2)) (C := RX2) (T := TX2) (N := 7) hx hb hT iX2 hown hK hP 0 rfl rfl 2 (by decide) (hT _ fw_X2_19) (fun _ h9 => h9) rfl dX2_takeFigures_21 ?_
    obtain ⟨hi, hf⟩ := chk_some hf
    refine va_bald (D := D) hx hb hK hP 1 1 rfl rfl hi dX2_takeFigures_24 ?_
    obtain ⟨r3, e4, hf⟩ := bind_some hf
    refine callSi (As := [.int ((d_t.2 0) (v.1 2).toNatClampNeg)]) (rest := []) M (mX2_isFigure l D cs sk  k ((d_t.2 0) (v.1 2).toNatClampNeg) e4) mw_X2_142 ln_X2_isFigure ⟨rfl, rfl, Nat.le_of_ble_eq_true rfl, Nat.le_of_ble_eq_true rfl⟩ hP hD hS hA [] (by decide) rfl rfl ⟨Nat.zero_le _, Nat.zero_le _⟩ hl.1 rfl (Nat.le_of_ble_eq_true rfl) dX2_takeFigures_25 (fun H locs hP hD hS => ?_)
    replace hP : va_P D vwCl [oX2 h_t q_t (v.1), ((q_t 0), .inl (cs 1, 250, .inl (d_t.2 0)))] H := hP
    replace hD : va_D A [oX2 h_t q_t (v.1), ((q_t 0), .inl (cs 1, 250, .inl (d_t.2 0)))] := hD
    have g6 := ite_some hf
    refine lv_if_eq (tgt := 81) hx hb dX2_takeFigures_28 (by decide) (fun c5 => ?_) (fun c5 => ?_)
    · replace hf := g6.1 c5
      exact hK81 _ hf _ _ _ hP hD hS (lv_sub hl [0] rfl)
    · replace hf := g6.2 c5
      refine lv_aload_n hx hb dX2_takeFigures_31 rfl (lv_at hl 0 rfl) ?_
      refine va_get (D := D) (ci := 2) (v := .int (v.1 2)) (C := RX2) (T := TX2) (N := 7) hx hb hT iX2 hown hK hP 0 rfl rfl 2 (by decide) (hT _ fw_X2_19) (fun _ h9 => h9) rfl dX2_takeFigures_32 ?_
      refine lv_aload_n hx hb dX2_takeFigures_35 rfl (lv_at hl 0 rfl) ?_
      refine va_get (D := D) (ci := 2) (v := .int (v.1 3)) (C := RX2) (T := TX2) (N := 7) hx hb hT iX2 hown hK hP 0 rfl rfl 3 (by decide) (hT _ fw_X2_22) (fun _ h9 => h9) rfl dX2_takeFigures_36 ?_
      refine lv_isub hx hb dX2_takeFigures_39 ?_
      refine lv_iconst (v := 3) hx hb dX2_takeFigures_40 rfl ?_
      have g8 := ite_some hf
      refine lv_icmp_ge (tgt := 68) hx hb dX2_takeFigures_41 (by decide) (fun c7 => ?_) (fun c7 => ?_)
      · replace hf := g8.1 c7
        refine lv_aload_n hx hb dX2_takeFigures_68 rfl (lv_at hl 0 rfl) ?_
        refine lv_dup hx hb dX2_takeFigures_69 rfl ?_
        refine va_get (D := D) (ci := 2) (v := .int (v.1 2)) (C := RX2) (T := TX2) (N := 7) hx hb hT iX2 hown hK hP 0 rfl rfl 2 (by decide) (hT _ fw_X2_19) (fun _ h9 => h9) rfl dX2_takeFigures_70 ?_
        refine lv_iconst (v := 1) hx hb dX2_takeFigures_73 rfl ?_
        refine lv_iadd hx hb dX2_takeFigures_74 ?_
        refine va_put (D := D) (ci := 2) (v := .int ((v.1 2) + 1)) (ty := tyX2 2) (C := RX2) (T := TX2) (N := 7) hx hb hT iX2 tyX2 tyX2_ok nmX2 hown hK hP hD hS 0 rfl rfl 2 (by decide) (hT _ fw_X2_19) (fun _ h9 => h9) rfl (tyX2_ok 2 (by decide)) rfl rfl (Nat.le_of_ble_eq_true rfl) dX2_takeFigures_75 (fun H locs hP hD hS => ?_)
        replace hP : va_P D vwCl [oX2 h_t q_t (upd v.1 2 ((v.1 2) + 1)), ((q_t 0), .inl (cs 1, 250, .inl (d_t.2 0)))] H := hP
        replace hD : va_D A [oX2 h_t q_t (upd v.1 2 ((v.1 2) + 1)), ((q_t 0), .inl (cs 1, 250, .inl (d_t.2 0)))] := hD
        refine lv_goto (tgt := 5) hx hb dX2_takeFigures_78 (by decide) ?_
        exact ih _ hf _ _ _ hP hD hS (lv_sub hl [0] rfl)
      · replace hf := g8.2 c7
        refine lv_aload_n hx hb dX2_takeFigures_44 rfl (lv_at hl 0 rfl) ?_
        refine lv_aload_n hx hb dX2_takeFigures_45 rfl (lv_at hl 0 rfl) ?_
        refine va_get (D := D) (ci := 2) (v := .int (v.1 5)) (C := RX2) (T := TX2) (N := 7) hx hb hT iX2 hown hK hP 0 rfl rfl 5 (by decide) (hT _ fw_X2_28) (fun _ h9 => h9) rfl dX2_takeFigures_46 ?_
        refine lv_bipush (v := 10) hx hb dX2_takeFigures_49 rfl ?_
        refine lv_imul hx hb dX2_takeFigures_51 ?_
        refine lv_aload_n hx hb dX2_takeFigures_52 rfl (lv_at hl 0 rfl) ?_
        refine va_get (D := D) (ci := 2) (v := .ref (q_t 0)) (C := RX2) (T := TX2) (N := 7) hx hb hT iX2 hown hK hP 0 rfl rfl 0 (by decide) (hT _ fw_X2_9) (fun _ h9 => h9) rfl dX2_takeFigures_53 ?_
        refine lv_aload_n hx hb dX2_takeFigures_56 rfl (lv_at hl 0 rfl) ?_
        refine va_get (D := D) (ci := 2) (v := .int (v.1 2)) (C := RX2) (T := TX2) (N := 7) hx hb hT iX2 hown hK hP 0 rfl rfl 2 (by decide) (hT _ fw_X2_19) (fun _ h9 => h9) rfl dX2_takeFigures_57 ?_
        obtain ⟨hi, hf⟩ := chk_some hf
        refine va_bald (D := D) hx hb hK hP 1 1 rfl rfl hi dX2_takeFigures_60 ?_
        refine lv_bipush (v := 48) hx hb dX2_takeFigures_61 rfl ?_
        refine lv_isub hx hb dX2_takeFigures_63 ?_
        refine lv_iadd hx hb dX2_takeFigures_64 ?_
        refine va_put (D := D) (ci := 2) (v := .int (((v.1 5) * 10) + (((d_t.2 0) (v.1 2).toNatClampNeg) - 48))) (ty := tyX2 5) (C := RX2) (T := TX2) (N := 7) hx hb hT iX2 tyX2 tyX2_ok nmX2 hown hK hP hD hS 0 rfl rfl 5 (by decide) (hT _ fw_X2_28) (fun _ h9 => h9) rfl (tyX2_ok 5 (by decide)) rfl rfl (Nat.le_of_ble_eq_true rfl) dX2_takeFigures_65 (fun H locs hP hD hS => ?_)
        replace hP : va_P D vwCl [oX2 h_t q_t (upd v.1 5 (((v.1 5) * 10) + (((d_t.2 0) (v.1 2).toNatClampNeg) - 48))), ((q_t 0), .inl (cs 1, 250, .inl (d_t.2 0)))] H := hP
        replace hD : va_D A [oX2 h_t q_t (upd v.1 5 (((v.1 5) * 10) + (((d_t.2 0) (v.1 2).toNatClampNeg) - 48))), ((q_t 0), .inl (cs 1, 250, .inl (d_t.2 0)))] := hD
        refine lv_aload_n hx hb dX2_takeFigures_68 rfl (lv_at hl 0 rfl) ?_
        refine lv_dup hx hb dX2_takeFigures_69 rfl ?_
        refine va_get (D := D) (ci := 2) (v := .int (v.1 2)) (C := RX2) (T := TX2) (N := 7) hx hb hT iX2 hown hK hP 0 rfl rfl 2 (by decide) (hT _ fw_X2_19) (fun _ h9 => h9) rfl dX2_takeFigures_70 ?_
        refine lv_iconst (v := 1) hx hb dX2_takeFigures_73 rfl ?_
        refine lv_iadd hx hb dX2_takeFigures_74 ?_
        refine va_put (D := D) (ci := 2) (v := .int ((v.1 2) + 1)) (ty := tyX2 2) (C := RX2) (T := TX2) (N := 7) hx hb hT iX2 tyX2 tyX2_ok nmX2 hown hK hP hD hS 0 rfl rfl 2 (by decide) (hT _ fw_X2_19) (fun _ h9 => h9) rfl (tyX2_ok 2 (by decide)) rfl rfl (Nat.le_of_ble_eq_true rfl) dX2_takeFigures_75 (fun H locs hP hD hS => ?_)
        replace hP : va_P D vwCl [oX2 h_t q_t (upd (upd v.1 2 ((v.1 2) + 1)) 5 (((v.1 5) * 10) + (((d_t.2 0) (v.1 2).toNatClampNeg) - 48))), ((q_t 0), .inl (cs 1, 250, .inl (d_t.2 0)))] H := hP
        replace hD : va_D A [oX2 h_t q_t (upd (upd v.1 2 ((v.1 2) + 1)) 5 (((v.1 5) * 10) + (((d_t.2 0) (v.1 2).toNatClampNeg) - 48))), ((q_t 0), .inl (cs 1, 250, .inl (d_t.2 0)))] := hD
        refine lv_goto (tgt := 5) hx hb dX2_takeFigures_78 (by decide) ?_
        exact ih _ hf _ _ _ hP hD hS (lv_sub hl [0] rfl)
set_option maxHeartbeats 4000000 in
set_option maxRecDepth 100000 in
theorem mX2_takeFigures (l : Launch) (D : va_G) (cs : Nat → ClassId) (sk : Nat → Nat) (h_t : Nat) (q_t : Nat → Nat) (k : Nat) (d_t : Dat) {rv : Dat} (hf : fX2_takeFigures k d_t = some rv) : CTv l yX2_takeFigures (Cond.code yX2_takeFigures cX2_takeFigures 1 none :: gtbl) rm_X2_takeFigures D cs sk [.ref h_t] [oX2 h_t q_t (d_t.1), ((q_t 0), .inl (cs 1, 250, .inl (d_t.2 0)))] [oX2 h_t q_t (rv.1), ((q_t 0), .inl (cs 1, 250, .inl (d_t.2 0)))] := by
  refine CTv.of RX2 (by decide +kernel) rfl (Nat.le_of_ble_eq_true rfl) (fun p e s m args below meth c A Q ls M hA hR hl hP hD hS => ?_)
  obtain ⟨hx, hb, hml, hT, hown, hlk, hrt, hK, hN, hSE⟩ := id M
  replace hl : lv_has ls 1 [(0, .ref h_t)] := hl
  unfold fX2_takeFigures at hf
  refine lv_aload_n hx hb dX2_takeFigures_0 rfl (lv_at hl 0 rfl) ?_
  refine lv_iconst (v := 0) hx hb dX2_takeFigures_1 rfl ?_
  refine va_put (D := D) (ci := 2) (v := .int 0) (ty := tyX2 5) (C := RX2) (T := TX2) (N := 7) hx hb hT iX2 tyX2 tyX2_ok nmX2 hown hK hP hD hS 0 rfl rfl 5 (by decide) (hT _ fw_X2_28) (fun _ h9 => h9) rfl (tyX2_ok 5 (by decide)) rfl rfl (Nat.le_of_ble_eq_true rfl) dX2_takeFigures_2 (fun H locs hP hD hS => ?_)
  replace hP : va_P D vwCl [oX2 h_t q_t (upd d_t.1 5 0), ((q_t 0), .inl (cs 1, 250, .inl (d_t.2 0)))] H := hP
  replace hD : va_D A [oX2 h_t q_t (upd d_t.1 5 0), ((q_t 0), .inl (cs 1, 250, .inl (d_t.2 0)))] := hD
  refine mX2_takeFigures_B5 h_t q_t k ((upd d_t.1 5 0), d_t.2) _ M hA hR (fun w1 hf H locs ls hP hD hS hl => ?_) _ _ hf _ _ _ hP hD hS (lv_sub hl [0] rfl)
  · refine lv_aload_n hx hb dX2_takeFigures_81 rfl (lv_at hl 0 rfl) ?_
    refine lv_aload_n hx hb dX2_takeFigures_82 rfl (lv_at hl 0 rfl) ?_
    refine va_get (D := D) (ci := 2) (v := .int (w1.1 2)) (C := RX2) (T := TX2) (N := 7) hx hb hT iX2 hown hK hP 0 rfl rfl 2 (by decide) (hT _ fw_X2_19) (fun _ h9 => h9) rfl dX2_takeFigures_83 ?_
    refine lv_aload_n hx hb dX2_takeFigures_86 rfl (lv_at hl 0 rfl) ?_
    refine va_get (D := D) (ci := 2) (v := .int (w1.1 3)) (C := RX2) (T := TX2) (N := 7) hx hb hT iX2 hown hK hP 0 rfl rfl 3 (by decide) (hT _ fw_X2_22) (fun _ h9 => h9) rfl dX2_takeFigures_87 ?_
    refine lv_isub hx hb dX2_takeFigures_90 ?_
    refine lv_iconst (v := 3) hx hb dX2_takeFigures_91 rfl ?_
    have g3 := ite_some hf
    refine lv_icmp_gt (tgt := 99) hx hb dX2_takeFigures_92 (by decide) (fun c2 => ?_) (fun c2 => ?_)
    · replace hf := g3.1 c2
      refine lv_iconst (v := 5) hx hb dX2_takeFigures_99 rfl ?_
      refine va_put (D := D) (ci := 2) (v := .int 5) (ty := tyX2 4) (C := RX2) (T := TX2) (N := 7) hx hb hT iX2 tyX2 tyX2_ok nmX2 hown hK hP hD hS 0 rfl rfl 4 (by decide) (hT _ fw_X2_25) (fun _ h9 => h9) rfl (tyX2_ok 4 (by decide)) rfl rfl (Nat.le_of_ble_eq_true rfl) dX2_takeFigures_100 (fun H locs hP hD hS => ?_)
      replace hP : va_P D vwCl [oX2 h_t q_t (upd w1.1 4 5), ((q_t 0), .inl (cs 1, 250, .inl (d_t.2 0)))] H := hP
      replace hD : va_D A [oX2 h_t q_t (upd w1.1 4 5), ((q_t 0), .inl (cs 1, 250, .inl (d_t.2 0)))] := hD
      have e9 := Option.some.inj hf
      subst e9
      exact hR _ _ _ _ dX2_takeFigures_103 hP hS
    · replace hf := g3.2 c2
      refine lv_iconst (v := 2) hx hb dX2_takeFigures_95 rfl ?_
      refine lv_goto (tgt := 100) hx hb dX2_takeFigures_96 (by decide) ?_
      refine va_put (D := D) (ci := 2) (v := .int 2) (ty := tyX2 4) (C := RX2) (T := TX2) (N := 7) hx hb hT iX2 tyX2 tyX2_ok nmX2 hown hK hP hD hS 0 rfl rfl 4 (by decide) (hT _ fw_X2_25) (fun _ h9 => h9) rfl (tyX2_ok 4 (by decide)) rfl rfl (Nat.le_of_ble_eq_true rfl) dX2_takeFigures_100 (fun H locs hP hD hS => ?_)
      replace hP : va_P D vwCl [oX2 h_t q_t (upd w1.1 4 2), ((q_t 0), .inl (cs 1, 250, .inl (d_t.2 0)))] H := hP
      replace hD : va_D A [oX2 h_t q_t (upd w1.1 4 2), ((q_t 0), .inl (cs 1, 250, .inl (d_t.2 0)))] := hD
      have e9 := Option.some.inj hf
      subst e9
      exact hR _ _ _ _ dX2_takeFigures_103 hP hS
abbrev rm_X2_takeSign : Room := { frames := 0, cells := 0, slots := 0, locals := 0 }
def fX2_takeSign (k : Nat) (d_t : Dat) : Option (Dat) :=
  chk 250 (d_t.1 2) ((if ((d_t.2 0) (d_t.1 2).toNatClampNeg) = 45 then some ((upd (upd d_t.1 2 ((d_t.1 2) + 1)) 4 3), d_t.2) else chk 250 (d_t.1 2) ((if ((d_t.2 0) (d_t.1 2).toNatClampNeg) = 59 then some ((upd (upd d_t.1 2 ((d_t.1 2) + 1)) 4 4), d_t.2) else some ((upd (upd d_t.1 2 ((d_t.1 2) + 1)) 4 5), d_t.2)))))
set_option maxHeartbeats 4000000 in
set_option maxRecDepth 100000 in
theorem mX2_takeSign (l : Launch) (D : va_G) (cs : Nat → ClassId) (sk : Nat → Nat) (h_t : Nat) (q_t : Nat → Nat) (k : Nat) (d_t : Dat) {rv : Dat} (hf : fX2_takeSign k d_t = some rv) : CTv l yX2_takeSign (Cond.code yX2_takeSign cX2_takeSign 1 none :: gtbl) rm_X2_takeSign D cs sk [.ref h_t] [oX2 h_t q_t (d_t.1), ((q_t 0), .inl (cs 1, 250, .inl (d_t.2 0)))] [oX2 h_t q_t (rv.1), ((q_t 0), .inl (cs 1, 250, .inl (d_t.2 0)))] := by
  refine CTv.of RX2 (by decide +kernel) rfl (Nat.le_of_ble_eq_true rfl) (fun p e s m args below meth c A Q ls M hA hR hl hP hD hS => ?_)
  obtain ⟨hx, hb, hml, hT, hown, hlk, hrt, hK, hN, hSE⟩ := id M
  replace hl : lv_has ls 1 [(0, .ref h_t)] := hl
  unfold fX2_takeSign at hf
  refine lv_aload_n hx hb dX2_takeSign_0 rfl (lv_at hl 0 rfl) ?_
  refine lv_aload_n hx hb dX2_takeSign_1 rfl (lv_at hl 0 rfl) ?_
  refine va_get (D := D) (ci := 2) (v := .ref (q_t 0)) (C := RX2) (T := TX2) (N := 7) hx hb hT iX2 hown hK hP 0 rfl rfl 0 (by decide) (hT _ fw_X2_9) (fun _ h9 => h9) rfl dX2_takeSign_2 ?_
  refine lv_aload_n hx hb dX2_takeSign_5 rfl (lv_at hl 0 rfl) ?_
  refine va_get (D := D) (ci := 2) (v := .int (d_t.1 2)) (C := RX2) (T := TX2) (N := 7) hx hb hT iX2 hown hK hP 0 rfl rfl 2 (by decide) (hT _ fw_X2_19) (fun _ h9 => h9) rfl dX2_takeSign_6 ?_
  obtain ⟨hi, hf⟩ := chk_some hf
  refine va_bald (D := D) hx hb hK hP 1 1 rfl rfl hi dX2_takeSign_9 ?_
  refine lv_bipush (v := 45) hx hb dX2_takeSign_10 rfl ?_
  have g2 := ite_some hf
  refine lv_icmp_ne (tgt := 19) hx hb dX2_takeSign_12 (by decide) (fun c1 => ?_) (fun c1 => ?_)
  · replace hf := g2.2 c1
    refine lv_aload_n hx hb dX2_takeSign_19 rfl (lv_at hl 0 rfl) ?_
    refine va_get (D := D) (ci := 2) (v := .ref (q_t 0)) (C := RX2) (T := TX2) (N := 7) hx hb hT iX2 hown hK hP 0 rfl rfl 0 (by decide) (hT _ fw_X2_9) (fun _ h9 => h9) rfl dX2_takeSign_20 ?_
    refine lv_aload_n hx hb dX2_takeSign_23 rfl (lv_at hl 0 rfl) ?_
    refine va_get (D := D) (ci := 2) (v := .int (d_t.1 2)) (C := RX2) (T := TX2) (N := 7) hx hb hT iX2 hown hK hP 0 rfl rfl 2 (by decide) (hT _ fw_X2_19) (fun _ h9 => h9) rfl dX2_takeSign_24 ?_
    obtain ⟨hi, hf⟩ := chk_some hf
    refine va_bald (D := D) hx hb hK hP 1 1 rfl rfl hi dX2_takeSign_27 ?_
    refine lv_bipush (v := 59) hx hb dX2_takeSign_28 rfl ?_
    have g4 := ite_some hf
    refine lv_icmp_ne (tgt := 37) hx hb dX2_takeSign_30 (by decide) (fun c3 => ?_) (fun c3 => ?_)
    · replace hf := g4.2 c3
      refine lv_iconst (v := 5) hx hb dX2_takeSign_37 rfl ?_
      refine va_put (D := D) (ci := 2) (v := .int 5) (ty := tyX2 4) (C := RX2) (T := TX2) (N := 7) hx hb hT iX2 tyX2 tyX2_ok nmX2 hown hK hP hD hS 0 rfl rfl 4 (by decide) (hT _ fw_X2_25) (fun _ h9 => h9) rfl (tyX2_ok 4 (by decide)) rfl rfl (Nat.le_of_ble_eq_true rfl) dX2_takeSign_38 (fun H locs hP hD hS => ?_)
      replace hP : va_P D vwCl [oX2 h_t q_t (upd d_t.1 4 5), ((q_t 0), .inl (cs 1, 250, .inl (d_t.2 0)))] H := hP
      replace hD : va_D A [oX2 h_t q_t (upd d_t.1 4 5), ((q_t 0), .inl (cs 1, 250, .inl (d_t.2 0)))] := hD
      refine lv_aload_n hx hb dX2_takeSign_41 rfl (lv_at hl 0 rfl) ?_
      refine lv_dup hx hb dX2_takeSign_42 rfl ?_
      refine va_get (D := D) (ci := 2) (v := .int (d_t.1 2)) (C := RX2) (T := TX2) (N := 7) hx hb hT iX2 hown hK hP 0 rfl rfl 2 (by decide) (hT _ fw_X2_19) (fun _ h9 => h9) rfl dX2_takeSign_43 ?_
      refine lv_iconst (v := 1) hx hb dX2_takeSign_46 rfl ?_
      refine lv_iadd hx hb dX2_takeSign_47 ?_
      refine va_put (D := D) (ci := 2) (v := .int ((d_t.1 2) + 1)) (ty := tyX2 2) (C := RX2) (T := TX2) (N := 7) hx hb hT iX2 tyX2 tyX2_ok nmX2 hown hK hP hD hS 0 rfl rfl 2 (by decide) (hT _ fw_X2_19) (fun _ h9 => h9) rfl (tyX2_ok 2 (by decide)) rfl rfl (Nat.le_of_ble_eq_true rfl) dX2_takeSign_48 (fun H locs hP hD hS => ?_)
      replace hP : va_P D vwCl [oX2 h_t q_t (upd (upd d_t.1 2 ((d_t.1 2) + 1)) 4 5), ((q_t 0), .inl (cs 1, 250, .inl (d_t.2 0)))] H := hP
      replace hD : va_D A [oX2 h_t q_t (upd (upd d_t.1 2 ((d_t.1 2) + 1)) 4 5), ((q_t 0), .inl (cs 1, 250, .inl (d_t.2 0)))] := hD
      have e9 := Option.some.inj hf
      subst e9
      exact hR _ _ _ _ dX2_takeSign_51 hP hS
    · replace hf := g4.1 c3
      refine lv_iconst (v := 4) hx hb dX2_takeSign_33 rfl ?_
      refine lv_goto (tgt := 38) hx hb dX2_takeSign_34 (by decide) ?_
      refine va_put (D := D) (ci := 2) (v := .int 4) (ty := tyX2 4) (C := RX2) (T := TX2) (N := 7) hx hb hT iX2 tyX2 tyX2_ok nmX2 hown hK hP hD hS 0 rfl rfl 4 (by decide) (hT _ fw_X2_25) (fun _ h9 => h9) rfl (tyX2_ok 4 (by decide)) rfl rfl (Nat.le_of_ble_eq_true rfl) dX2_takeSign_38 (fun H locs hP hD hS => ?_)
      replace hP : va_P D vwCl [oX2 h_t q_t (upd d_t.1 4 4), ((q_t 0), .inl (cs 1, 250, .inl (d_t.2 0)))] H := hP
      replace hD : va_D A [oX2 h_t q_t (upd d_t.1 4 4), ((q_t 0), .inl (cs 1, 250, .inl (d_t.2 0)))] := hD
      refine lv_aload_n hx hb dX2_takeSign_41 rfl (lv_at hl 0 rfl) ?_
      refine lv_dup hx hb dX2_takeSign_42 rfl ?_
      refine va_get (D := D) (ci := 2) (v := .int (d_t.1 2)) (C := RX2) (T := TX2) (N := 7) hx hb hT iX2 hown hK hP 0 rfl rfl 2 (by decide) (hT _ fw_X2_19) (fun _ h9 => h9) rfl dX2_takeSign_43 ?_
      refine lv_iconst (v := 1) hx hb dX2_takeSign_46 rfl ?_
      refine lv_iadd hx hb dX2_takeSign_47 ?_
      refine va_put (D := D) (ci := 2) (v := .int ((d_t.1 2) + 1)) (ty := tyX2 2) (C := RX2) (T := TX2) (N := 7) hx hb hT iX2 tyX2 tyX2_ok nmX2 hown hK hP hD hS 0 rfl rfl 2 (by decide) (hT _ fw_X2_19) (fun _ h9 => h9) rfl (tyX2_ok 2 (by decide)) rfl rfl (Nat.le_of_ble_eq_true rfl) dX2_takeSign_48 (fun H locs hP hD hS => ?_)
      replace hP : va_P D vwCl [oX2 h_t q_t (upd (upd d_t.1 2 ((d_t.1 2) + 1)) 4 4), ((q_t 0), .inl (cs 1, 250, .inl (d_t.2 0)))] H := hP
      replace hD : va_D A [oX2 h_t q_t (upd (upd d_t.1 2 ((d_t.1 2) + 1)) 4 4), ((q_t 0), .inl (cs 1, 250, .inl (d_t.2 0)))] := hD
      have e9 := Option.some.inj hf
      subst e9
      exact hR _ _ _ _ dX2_takeSign_51 hP hS
  · replace hf := g2.1 c1
    refine lv_iconst (v := 3) hx hb dX2_takeSign_15 rfl ?_
    refine lv_goto (tgt := 38) hx hb dX2_takeSign_16 (by decide) ?_
    refine va_put (D := D) (ci := 2) (v := .int 3) (ty := tyX2 4) (C := RX2) (T := TX2) (N := 7) hx hb hT iX2 tyX2 tyX2_ok nmX2 hown hK hP hD hS 0 rfl rfl 4 (by decide) (hT _ fw_X2_25) (fun _ h9 => h9) rfl (tyX2_ok 4 (by decide)) rfl rfl (Nat.le_of_ble_eq_true rfl) dX2_takeSign_38 (fun H locs hP hD hS => ?_)
    replace hP : va_P D vwCl [oX2 h_t q_t (upd d_t.1 4 3), ((q_t 0), .inl (cs 1, 250, .inl (d_t.2 0)))] H := hP
    replace hD : va_D A [oX2 h_t q_t (upd d_t.1 4 3), ((q_t 0), .inl (cs 1, 250, .inl (d_t.2 0)))] := hD
    refine lv_aload_n hx hb dX2_takeSign_41 rfl (lv_at hl 0 rfl) ?_
    refine lv_dup hx hb dX2_takeSign_42 rfl ?_
    refine va_get (D := D) (ci := 2) (v := .int (d_t.1 2)) (C := RX2) (T := TX2) (N := 7) hx hb hT iX2 hown hK hP 0 rfl rfl 2 (by decide) (hT _ fw_X2_19) (fun _ h9 => h9) rfl dX2_takeSign_43 ?_
    refine lv_iconst (v := 1) hx hb dX2_takeSign_46 rfl ?_
    refine lv_iadd hx hb dX2_takeSign_47 ?_
    refine va_put (D := D) (ci := 2) (v := .int ((d_t.1 2) + 1)) (ty := tyX2 2) (C := RX2) (T := TX2) (N := 7) hx hb hT iX2 tyX2 tyX2_ok nmX2 hown hK hP hD hS 0 rfl rfl 2 (by decide) (hT _ fw_X2_19) (fun _ h9 => h9) rfl (tyX2_ok 2 (by decide)) rfl rfl (Nat.le_of_ble_eq_true rfl) dX2_takeSign_48 (fun H locs hP hD hS => ?_)
    replace hP : va_P D vwCl [oX2 h_t q_t (upd (upd d_t.1 2 ((d_t.1 2) + 1)) 4 3), ((q_t 0), .inl (cs 1, 250, .inl (d_t.2 0)))] H := hP
    replace hD : va_D A [oX2 h_t q_t (upd (upd d_t.1 2 ((d_t.1 2) + 1)) 4 3), ((q_t 0), .inl (cs 1, 250, .inl (d_t.2 0)))] := hD
    have e9 := Option.some.inj hf
    subst e9
    exact hR _ _ _ _ dX2_takeSign_51 hP hS
abbrev rm_X2_takeToken : Room := { frames := 2, cells := 0, slots := 0, locals := 40 }
def fX2_takeToken_B0 (k : Nat) (d_t : Dat) (K38 : Dat → Option (Dat)) (rec : Dat → Option (Dat)) (v : Dat) : Option (Dat) :=
  (if (v.1 1) ≤ (v.1 2) then K38 (v.1, d_t.2) else chk 250 (v.1 2) ((if ((d_t.2 0) (v.1 2).toNatClampNeg) = 32 then rec ((upd v.1 2 ((v.1 2) + 1)), d_t.2) else K38 (v.1, d_t.2))))
def fX2_takeToken (k : Nat) (d_t : Dat) : Option (Dat) :=
  lp (fX2_takeToken_B0 k d_t (fun (w1 : Dat) => (if (w1.1 2) < (w1.1 1) then chk 250 (w1.1 2) ((fX2_isLetter k ((d_t.2 0) (w1.1 2).toNatClampNeg)).bind (fun (r4 : Int32) => (if r4 = 0 then chk 250 (w1.1 2) ((fX2_isFigure k ((d_t.2 0) (w1.1 2).toNatClampNeg)).bind (fun (r8 : Int32) => (if r8 = 0 then (fX2_takeSign k ((upd w1.1 3 (w1.1 2)), d_t.2)).bind (fun (r12 : Dat) => some (r12.1, d_t.2)) else (fX2_takeFigures k ((upd w1.1 3 (w1.1 2)), d_t.2)).bind (fun (r14 : Dat) => some (r14.1, d_t.2))))) else (fX2_takeWord k ((upd w1.1 3 (w1.1 2)), d_t.2)).bind (fun (r16 : Dat) => some (r16.1, d_t.2))))) else some ((upd (upd w1.1 3 (w1.1 2)) 4 0), d_t.2)))) k d_t
set_option maxHeartbeats 4000000 in
set_option maxRecDepth 100000 in
theorem mX2_takeToken_B0 {l : Launch} {p : Program} {e : Env} {s : State} {m : MethodId} {args : Array Value} {below : List Frame} {meth : Method} {c : Code} {D : va_G} {cs : Nat → ClassId} {sk : Nat → Nat} {A : Nat → Prop} {Q : State → Prop} (h_t : Nat) (q_t : Nat → Nat) (k : Nat) (d_t : Dat) {rv : Dat}  (K38 : Dat → Option (Dat))
    (M : MC p s m args meth c D cs sk A RX2 cX2_takeToken 1 none) (hA : ∀ q, s.heap.size ≤ q → A q) (hR : RetV p l e rm_X2_takeToken s m args below meth c D cX2_takeToken A Q [oX2 h_t q_t (rv.1), ((q_t 0), .inl (cs 1, 250, .inl (d_t.2 0)))])
    (hK38 : ∀ (w : Dat), K38 w = some rv → ∀ (H : Heap) (locs : List Loc) (ls : Array Slot), va_P D vwCl [oX2 h_t q_t (w.1), ((q_t 0), .inl (cs 1, 250, .inl (d_t.2 0)))] H → va_D A [oX2 h_t q_t (w.1), ((q_t 0), .inl (cs 1, 250, .inl (d_t.2 0)))] → va_S A s.heap H locs → lv_has ls 1 [(0, .ref h_t)] → W p l e rm_X2_takeToken s m args below meth c H locs 0 0 Q (F0 m 38 ls []))
    : ∀ (n : Nat) (v : Dat), lp (fX2_takeToken_B0 k d_t K38) n v = some rv → ∀ (H : Heap) (locs : List Loc) (ls : Array Slot), va_P D vwCl [oX2 h_t q_t (v.1), ((q_t 0), .inl (cs 1, 250, .inl (d_t.2 0)))] H → va_D A [oX2 h_t q_t (v.1), ((q_t 0), .inl (cs 1, 250, .inl (d_t.2 0)))] → va_S A s.heap H locs → lv_has ls 1 [(0, .ref h_t)] → W p l e rm_X2_takeToken s m args below meth c H locs 0 0 Q (F0 m 0 ls []) := by
  obtain ⟨hx, hb, hml, hT, hown, hlk, hrt, hK, hN, hSE⟩ := id M
  refine lp_ind (fun rec ih v hf H locs ls hP hD hS hl => ?_)
  unfold fX2_takeToken_B0 at hf
  refine lv_aload_n hx hb dX2_takeToken_0 rfl (lv_at hl 0 rfl) ?_
  refine va_get (D := D) (ci := 2) (v := .int (v.1 2)) (C := RX2) (T := TX2) (N := 7) hx hb hT iX2 hown hK hP 0 rfl rfl 2 (by decide) (hT _ fw_X2_19) (fun _ h9 => h9) rfl dX2_takeToken_1 ?_
  refine lv_aload_n hx hb dX2_takeToken_4 rfl (lv_at hl 0 rfl) ?_
  refine va_get (D := D) (ci := 2) (v := .int (v.1 1)) (C := RX2) (T := TX2) (N := 7) hx hb hT iX2 hown hK hP 0 rfl rfl 1 (by decide) (hT _ fw_X2_15) (fun _ h9 => h9) rfl dX2_takeToken_5 ?_
  have g2 := ite_some hf
  refine lv_icmp_ge (tgt := 38) hx hb dX2_takeToken_8 (by decide) (fun c1 => ?_) (fun c1 => ?_)
  · replace hf := g2.1 c1
    exact hK38 _ hf _ _ _ hP hD hS (lv_sub hl [0] rfl)
  · replace hf := g2.2 c1
    refine lv_aload_n hx hb dX2_takeToken_11 rfl (lv_at hl 0 rfl) ?_
    refine va_get (D := D) (ci := 2) (v := .ref (q_t 0)) (C := RX2) (T := TX2) (N := 7) hx hb hT iX2 hown hK hP 0 rfl rfl 0 (by decide) (hT _ fw_X2_9) (fun _ h9 => h9) rfl dX2_takeToken_12 ?_
    refine lv_aload_n hx hb dX2_takeToken_15 rfl (lv_at hl 0 rfl) ?_
    refine va_get (D := D) (ci := 2) (v := .int (v.1 2)) (C := RX2) (T := TX2) (N := 7) hx hb hT iX2 hown hK hP 0 rfl rfl 2 (by decide) (hT _ fw_X2_19) (fun _ h9 => h9) rfl dX2_takeToken_16 ?_
    obtain ⟨hi, hf⟩ := chk_some hf
    refine va_bald (D := D) hx hb hK hP 1 1 rfl rfl hi dX2_takeToken_19 ?_
    refine lv_bipush (v := 32) hx hb dX2_takeToken_20 rfl ?_
    have g4 := ite_some hf
    refine lv_icmp_ne (tgt := 38) hx hb dX2_takeToken_22 (by decide) (fun c3 => ?_) (fun c3 => ?_)
    · replace hf := g4.2 c3
      exact hK38 _ hf _ _ _ hP hD hS (lv_sub hl [0] rfl)
    · replace hf := g4.1 c3
      refine lv_aload_n hx hb dX2_takeToken_25 rfl (lv_at hl 0 rfl) ?_
      refine lv_dup hx hb dX2_takeToken_26 rfl ?_
      refine va_get (D := D) (ci := 2) (v := .int (v.1 2)) (C := RX2) (T := TX2) (N := 7) hx hb hT iX2 hown hK hP 0 rfl rfl 2 (by decide) (hT _ fw_X2_19) (fun _ h9 => h9) rfl dX2_takeToken_27 ?_
      refine lv_iconst (v := 1) hx hb dX2_takeToken_30 rfl ?_
      refine lv_iadd hx hb dX2_takeToken_31 ?_
      refine va_put (D := D) (ci := 2) (v := .int ((v.1 2) + 1)) (ty := tyX2 2) (C := RX2) (T := TX2) (N := 7) hx hb hT iX2 tyX2 tyX2_ok nmX2 hown hK hP hD hS 0 rfl rfl 2 (by decide) (hT _ fw_X2_19) (fun _ h9 => h9) rfl (tyX2_ok 2 (by decide)) rfl rfl (Nat.le_of_ble_eq_true rfl) dX2_takeToken_32 (fun H locs hP hD hS => ?_)
      replace hP : va_P D vwCl [oX2 h_t q_t (upd v.1 2 ((v.1 2) + 1)), ((q_t 0), .inl (cs 1, 250, .inl (d_t.2 0)))] H := hP
      replace hD : va_D A [oX2 h_t q_t (upd v.1 2 ((v.1 2) + 1)), ((q_t 0), .inl (cs 1, 250, .inl (d_t.2 0)))] := hD
      refine lv_goto (tgt := 0) hx hb dX2_takeToken_35 (by decide) ?_
      exact ih _ hf _ _ _ hP hD hS (lv_sub hl [0] rfl)
set_option maxHeartbeats 4000000 in
set_option maxRecDepth 100000 in
theorem mX2_takeToken (l : Launch) (D : va_G) (cs : Nat → ClassId) (sk : Nat → Nat) (h_t : Nat) (q_t : Nat → Nat) (k : Nat) (d_t : Dat) {rv : Dat} (hf : fX2_takeToken k d_t = some rv) : CTv l yX2_takeToken (Cond.code yX2_takeToken cX2_takeToken 1 none :: gtbl) rm_X2_takeToken D cs sk [.ref h_t] [oX2 h_t q_t (d_t.1), ((q_t 0), .inl (cs 1, 250, .inl (d_t.2 0)))] [oX2 h_t q_t (rv.1), ((q_t 0), .inl (cs 1, 250, .inl (d_t.2 0)))] := by
  refine CTv.of RX2 (by decide +kernel) rfl (Nat.le_of_ble_eq_true rfl) (fun p e s m args below meth c A Q ls M hA hR hl hP hD hS => ?_)
  obtain ⟨hx, hb, hml, hT, hown, hlk, hrt, hK, hN, hSE⟩ := id M
  replace hl : lv_has ls 1 [(0, .ref h_t)] := hl
  unfold fX2_takeToken at hf
  refine mX2_takeToken_B0 h_t q_t k d_t _ M hA hR (fun w1 hf H locs ls hP hD hS hl => ?_) _ _ hf _ _ _ hP hD hS (lv_sub hl [0] rfl)
  · refine lv_aload_n hx hb dX2_takeToken_38 rfl (lv_at hl 0 rfl) ?_
    refine lv_aload_n hx hb dX2_takeToken_39 rfl (lv_at hl 0 rfl) ?_
    refine va_get (D := D) (ci := 2) (v := .int (w1.1 2)) (C := RX2) (T := TX2) (N := 7) hx hb hT iX2 hown hK hP 0 rfl rfl 2 (by decide) (hT _ fw_X2_19) (fun _ h9 => h9) rfl dX2_takeToken_40 ?_
    refine va_put (D := D) (ci := 2) (v := .int (w1.1 2)) (ty := tyX2 3) (C := RX2) (T := TX2) (N := 7) hx hb hT iX2 tyX2 tyX2_ok nmX2 hown hK hP hD hS 0 rfl rfl 3 (by decide) (hT _ fw_X2_22) (fun _ h9 => h9) rfl (tyX2_ok 3 (by decide)) rfl rfl (Nat.le_of_ble_eq_true rfl) dX2_takeToken_43 (fun H locs hP hD hS => ?_)
    replace hP : va_P D vwCl [oX2 h_t q_t (upd w1.1 3 (w1.1 2)), ((q_t 0), .inl (cs 1, 250, .inl (d_t.2 0)))] H := hP
    replace hD : va_D A [oX2 h_t q_t (upd w1.1 3 (w1.1 2)), ((q_t 0), .inl (cs 1, 250, .inl (d_t.2 0)))] := hD
    refine lv_aload_n hx hb dX2_takeToken_46 rfl (lv_at hl 0 rfl) ?_
    refine va_get (D := D) (ci := 2) (v := .int (w1.1 2)) (C := RX2) (T := TX2) (N := 7) hx hb hT iX2 hown hK hP 0 rfl rfl 2 (by decide) (hT _ fw_X2_19) (fun _ h9 => h9) rfl dX2_takeToken_47 ?_
    refine lv_aload_n hx hb dX2_takeToken_50 rfl (lv_at hl 0 rfl) ?_
    refine va_get (D := D) (ci := 2) (v := .int (w1.1 1)) (C := RX2) (T := TX2) (N := 7) hx hb hT iX2 hown hK hP 0 rfl rfl 1 (by decide) (hT _ fw_X2_15) (fun _ h9 => h9) rfl dX2_takeToken_51 ?_
    have g3 := ite_some hf
    refine lv_icmp_lt (tgt := 65) hx hb dX2_takeToken_54 (by decide) (fun c2 => ?_) (fun c2 => ?_)
    · replace hf := g3.1 c2
      refine lv_aload_n hx hb dX2_takeToken_65 rfl (lv_at hl 0 rfl) ?_
      refine va_get (D := D) (ci := 2) (v := .ref (q_t 0)) (C := RX2) (T := TX2) (N := 7) hx hb hT iX2 hown hK hP 0 rfl rfl 0 (by decide) (hT _ fw_X2_9) (fun _ h9 => h9) rfl dX2_takeToken_66 ?_
      refine lv_aload_n hx hb dX2_takeToken_69 rfl (lv_at hl 0 rfl) ?_
      refine va_get (D := D) (ci := 2) (v := .int (w1.1 2)) (C := RX2) (T := TX2) (N := 7) hx hb hT iX2 hown hK hP 0 rfl rfl 2 (by decide) (hT _ fw_X2_19) (fun _ h9 => h9) rfl dX2_takeToken_70 ?_
      obtain ⟨hi, hf⟩ := chk_some hf
      refine va_bald (D := D) hx hb hK hP 1 1 rfl rfl hi dX2_takeToken_73 ?_
      obtain ⟨r4, e5, hf⟩ := bind_some hf
      refine callSi (As := [.int ((d_t.2 0) (w1.1 2).toNatClampNeg)]) (rest := []) M (mX2_isLetter l D cs sk  k ((d_t.2 0) (w1.1 2).toNatClampNeg) e5) mw_X2_135 ln_X2_isLetter ⟨rfl, rfl, Nat.le_of_ble_eq_true rfl, Nat.le_of_ble_eq_true rfl⟩ hP hD hS hA [] (by decide) rfl rfl ⟨Nat.zero_le _, Nat.zero_le _⟩ hl.1 rfl (Nat.le_of_ble_eq_true rfl) dX2_takeToken_74 (fun H locs hP hD hS => ?_)
      replace hP : va_P D vwCl [oX2 h_t q_t (upd w1.1 3 (w1.1 2)), ((q_t 0), .inl (cs 1, 250, .inl (d_t.2 0)))] H := hP
      replace hD : va_D A [oX2 h_t q_t (upd w1.1 3 (w1.1 2)), ((q_t 0), .inl (cs 1, 250, .inl (d_t.2 0)))] := hD
      have g7 := ite_some hf
      refine lv_if_eq (tgt := 87) hx hb dX2_takeToken_77 (by decide) (fun c6 => ?_) (fun c6 => ?_)
      · replace hf := g7.1 c6
        refine lv_aload_n hx hb dX2_takeToken_87 rfl (lv_at hl 0 rfl) ?_
        refine va_get (D := D) (ci := 2) (v := .ref (q_t 0)) (C := RX2) (T := TX2) (N := 7) hx hb hT iX2 hown hK hP 0 rfl rfl 0 (by decide) (hT _ fw_X2_9) (fun _ h9 => h9) rfl dX2_takeToken_88 ?_
        refine lv_aload_n hx hb dX2_takeToken_91 rfl (lv_at hl 0 rfl) ?_
        refine va_get (D := D) (ci := 2) (v := .int (w1.1 2)) (C := RX2) (T := TX2) (N := 7) hx hb hT iX2 hown hK hP 0 rfl rfl 2 (by decide) (hT _ fw_X2_19) (fun _ h9 => h9) rfl dX2_takeToken_92 ?_
        obtain ⟨hi, hf⟩ := chk_some hf
        refine va_bald (D := D) hx hb hK hP 1 1 rfl rfl hi dX2_takeToken_95 ?_
        obtain ⟨r8, e9, hf⟩ := bind_some hf
        refine callSi (As := [.int ((d_t.2 0) (w1.1 2).toNatClampNeg)]) (rest := []) M (mX2_isFigure l D cs sk  k ((d_t.2 0) (w1.1 2).toNatClampNeg) e9) mw_X2_142 ln_X2_isFigure ⟨rfl, rfl, Nat.le_of_ble_eq_true rfl, Nat.le_of_ble_eq_true rfl⟩ hP hD hS hA [] (by decide) rfl rfl ⟨Nat.zero_le _, Nat.zero_le _⟩ hl.1 rfl (Nat.le_of_ble_eq_true rfl) dX2_takeToken_96 (fun H locs hP hD hS => ?_)
        replace hP : va_P D vwCl [oX2 h_t q_t (upd w1.1 3 (w1.1 2)), ((q_t 0), .inl (cs 1, 250, .inl (d_t.2 0)))] H := hP
        replace hD : va_D A [oX2 h_t q_t (upd w1.1 3 (w1.1 2)), ((q_t 0), .inl (cs 1, 250, .inl (d_t.2 0)))] := hD
        have g11 := ite_some hf
        refine lv_if_eq (tgt := 109) hx hb dX2_takeToken_99 (by decide) (fun c10 => ?_) (fun c10 => ?_)
        · replace hf := g11.1 c10
          refine lv_aload_n hx hb dX2_takeToken_109 rfl (lv_at hl 0 rfl) ?_
          obtain ⟨r12, e13, hf⟩ := bind_some hf
          refine callVv (As := []) (rest := []) M (mX2_takeSign l D cs sk h_t q_t k ((upd w1.1 3 (w1.1 2)), d_t.2) e13) mw_X2_148 ln_X2_takeSign ⟨rfl, rfl, Nat.le_of_ble_eq_true rfl, Nat.le_of_ble_eq_true rfl⟩ hP hD hS hA [0, 1] (by decide) rfl rfl (q0 := 0) rfl rfl rfl ⟨Nat.zero_le _, Nat.zero_le _⟩ hl.1 rfl (Nat.le_of_ble_eq_true rfl) dX2_takeToken_110 (fun H locs hP hD hS => ?_)
          replace hP : va_P D vwCl [oX2 h_t q_t (r12.1), ((q_t 0), .inl (cs 1, 250, .inl (d_t.2 0)))] H := hP
          replace hD : va_D A [oX2 h_t q_t (r12.1), ((q_t 0), .inl (cs 1, 250, .inl (d_t.2 0)))] := hD
          have e9 := Option.some.inj hf
          subst e9
          exact hR _ _ _ _ dX2_takeToken_113 hP hS
        · replace hf := g11.2 c10
          refine lv_aload_n hx hb dX2_takeToken_102 rfl (lv_at hl 0 rfl) ?_
          obtain ⟨r14, e15, hf⟩ := bind_some hf
          refine callVv (As := []) (rest := []) M (mX2_takeFigures l D cs sk h_t q_t k ((upd w1.1 3 (w1.1 2)), d_t.2) e15) mw_X2_145 ln_X2_takeFigures ⟨rfl, rfl, Nat.le_of_ble_eq_true rfl, Nat.le_of_ble_eq_true rfl⟩ hP hD hS hA [0, 1] (by decide) rfl rfl (q0 := 0) rfl rfl rfl ⟨Nat.zero_le _, Nat.zero_le _⟩ hl.1 rfl (Nat.le_of_ble_eq_true rfl) dX2_takeToken_103 (fun H locs hP hD hS => ?_)
          replace hP : va_P D vwCl [oX2 h_t q_t (r14.1), ((q_t 0), .inl (cs 1, 250, .inl (d_t.2 0)))] H := hP
          replace hD : va_D A [oX2 h_t q_t (r14.1), ((q_t 0), .inl (cs 1, 250, .inl (d_t.2 0)))] := hD
          refine lv_goto (tgt := 113) hx hb dX2_takeToken_106 (by decide) ?_
          have e9 := Option.some.inj hf
          subst e9
          exact hR _ _ _ _ dX2_takeToken_113 hP hS
      · replace hf := g7.2 c6
        refine lv_aload_n hx hb dX2_takeToken_80 rfl (lv_at hl 0 rfl) ?_
        obtain ⟨r16, e17, hf⟩ := bind_some hf
        refine callVv (As := []) (rest := []) M (mX2_takeWord l D cs sk h_t q_t k ((upd w1.1 3 (w1.1 2)), d_t.2) e17) mw_X2_139 ln_X2_takeWord ⟨rfl, rfl, Nat.le_of_ble_eq_true rfl, Nat.le_of_ble_eq_true rfl⟩ hP hD hS hA [0, 1] (by decide) rfl rfl (q0 := 0) rfl rfl rfl ⟨Nat.zero_le _, Nat.zero_le _⟩ hl.1 rfl (Nat.le_of_ble_eq_true rfl) dX2_takeToken_81 (fun H locs hP hD hS => ?_)
        replace hP : va_P D vwCl [oX2 h_t q_t (r16.1), ((q_t 0), .inl (cs 1, 250, .inl (d_t.2 0)))] H := hP
        replace hD : va_D A [oX2 h_t q_t (r16.1), ((q_t 0), .inl (cs 1, 250, .inl (d_t.2 0)))] := hD
        refine lv_goto (tgt := 113) hx hb dX2_takeToken_84 (by decide) ?_
        have e9 := Option.some.inj hf
        subst e9
        exact hR _ _ _ _ dX2_takeToken_113 hP hS
    · replace hf := g3.2 c2
      refine lv_aload_n hx hb dX2_takeToken_57 rfl (lv_at hl 0 rfl) ?_
      refine lv_iconst (v := 0) hx hb dX2_takeToken_58 rfl ?_
      refine va_put (D := D) (ci := 2) (v := .int 0) (ty := tyX2 4) (C := RX2) (T := TX2) (N := 7) hx hb hT iX2 tyX2 tyX2_ok nmX2 hown hK hP hD hS 0 rfl rfl 4 (by decide) (hT _ fw_X2_25) (fun _ h9 => h9) rfl (tyX2_ok 4 (by decide)) rfl rfl (Nat.le_of_ble_eq_true rfl) dX2_takeToken_59 (fun H locs hP hD hS => ?_)
      replace hP : va_P D vwCl [oX2 h_t q_t (upd (upd w1.1 3 (w1.1 2)) 4 0), ((q_t 0), .inl (cs 1, 250, .inl (d_t.2 0)))] H := hP
      replace hD : va_D A [oX2 h_t q_t (upd (upd w1.1 3 (w1.1 2)) 4 0), ((q_t 0), .inl (cs 1, 250, .inl (d_t.2 0)))] := hD
      refine lv_goto (tgt := 113) hx hb dX2_takeToken_62 (by decide) ?_
      have e9 := Option.some.inj hf
      subst e9
      exact hR _ _ _ _ dX2_takeToken_113 hP hS
abbrev rm_X2_isWord : Room := { frames := 4, cells := 0, slots := 0, locals := 90 }
def fX2_isWord_B20 (k : Nat) (i1 : Nat) (d_t : Dat) (K47 : Unit → Option (Int32)) (K55 : Unit → Option (Int32)) (rec : Int32 → Option (Int32)) (v : Int32) : Option (Int32) :=
  (if (sL i1) ≤ v then K55 () else chk 250 ((d_t.1 3) + v) (chk (sLen.getD i1 0) v ((if ((d_t.2 0) ((d_t.1 3) + v).toNatClampNeg) = (sC i1 v) then rec (v + 1) else K47 ()))))
def fX2_isWord (k : Nat) (d_t : Dat) (i1 : Nat) : Option (Int32) :=
  (if ((d_t.1 2) - (d_t.1 3)) = (sL i1) then lp (fX2_isWord_B20 k i1 d_t (fun (w3 : Unit) => some 0) (fun (w4 : Unit) => some 1)) k 0 else some 0)
set_option maxHeartbeats 4000000 in
set_option maxRecDepth 100000 in
theorem mX2_isWord_B20 {l : Launch} {p : Program} {e : Env} {s : State} {m : MethodId} {args : Array Value} {below : List Frame} {meth : Method} {c : Code} {D : va_G} {cs : Nat → ClassId} {sk : Nat → Nat} {A : Nat → Prop} {Q : State → Prop} (h_t : Nat) (q_t : Nat → Nat) (k : Nat) (i1 : Nat) (d_t : Dat) {rv : Int32} (hi1 : i1 < 6) (K47 : Unit → Option (Int32)) (K55 : Unit → Option (Int32))
    (M : MC p s m args meth c D cs sk A RX2 cX2_isWord 3 (some .boolean)) (hA : ∀ q, s.heap.size ≤ q → A q) (hR : RetZ p l e rm_X2_isWord s m args below meth c D cX2_isWord A Q (rv) [oX2 h_t q_t (d_t.1), ((q_t 0), .inl (cs 1, 250, .inl (d_t.2 0)))])
    (hK47 : ∀ (w : Unit), K47 w = some rv → ∀ (H : Heap) (locs : List Loc) (ls : Array Slot), va_P D vwCl [oX2 h_t q_t (d_t.1), ((q_t 0), .inl (cs 1, 250, .inl (d_t.2 0)))] H → va_D A [oX2 h_t q_t (d_t.1), ((q_t 0), .inl (cs 1, 250, .inl (d_t.2 0)))] → va_S A s.heap H locs → lv_has ls 3 [] → W p l e rm_X2_isWord s m args below meth c H locs 0 0 Q (F0 m 47 ls []))
    (hK55 : ∀ (w : Unit), K55 w = some rv → ∀ (H : Heap) (locs : List Loc) (ls : Array Slot), va_P D vwCl [oX2 h_t q_t (d_t.1), ((q_t 0), .inl (cs 1, 250, .inl (d_t.2 0)))] H → va_D A [oX2 h_t q_t (d_t.1), ((q_t 0), .inl (cs 1, 250, .inl (d_t.2 0)))] → va_S A s.heap H locs → lv_has ls 3 [] → W p l e rm_X2_isWord s m args below meth c H locs 0 0 Q (F0 m 55 ls []))
    : ∀ (n : Nat) (v : Int32), lp (fX2_isWord_B20 k i1 d_t K47 K55) n v = some rv → ∀ (H : Heap) (locs : List Loc) (ls : Array Slot), va_P D vwCl [oX2 h_t q_t (d_t.1), ((q_t 0), .inl (cs 1, 250, .inl (d_t.2 0)))] H → va_D A [oX2 h_t q_t (d_t.1), ((q_t 0), .inl (cs 1, 250, .inl (d_t.2 0)))] → va_S A s.heap H locs → lv_has ls 3 [(0, .ref h_t), (1, .ref (sk i1)), (2, .int v)] → W p l e rm_X2_isWord s m args below meth c H locs 0 0 Q (F0 m 20 ls []) := by
  obtain ⟨hx, hb, hml, hT, hown, hlk, hrt, hK, hN, hSE⟩ := id M
  refine lp_ind (fun rec ih v hf H locs ls hP hD hS hl => ?_)
  unfold fX2_isWord_B20 at hf
  refine lv_iload_n hx hb dX2_isWord_20 rfl (lv_at hl 2 rfl) ?_
  refine lv_aload_n hx hb dX2_isWord_21 rfl (lv_at hl 1 rfl) ?_
  refine callVsi hi1 (As := []) (rest := [.int v]) M (mJ0_length l D cs sk hi1) mw_X2_151 ln_J0_length_8abf5 ⟨rfl, rfl, Nat.le_of_ble_eq_true rfl, Nat.le_of_ble_eq_true rfl⟩ hP hD hS hA [] (by decide) rfl rfl ⟨Nat.zero_le _, Nat.zero_le _⟩ hl.1 rfl (Nat.le_of_ble_eq_true rfl) dX2_isWord_22 (fun H locs hP hD hS => ?_)
  replace hP : va_P D vwCl [oX2 h_t q_t (d_t.1), ((q_t 0), .inl (cs 1, 250, .inl (d_t.2 0)))] H := hP
  replace hD : va_D A [oX2 h_t q_t (d_t.1), ((q_t 0), .inl (cs 1, 250, .inl (d_t.2 0)))] := hD
  have g2 := ite_some hf
  refine lv_icmp_ge (tgt := 55) hx hb dX2_isWord_25 (by decide) (fun c1 => ?_) (fun c1 => ?_)
  · replace hf := g2.1 c1
    exact hK55 _ hf _ _ _ hP hD hS (lv_sub hl [] rfl)
  · replace hf := g2.2 c1
    refine lv_aload_n hx hb dX2_isWord_28 rfl (lv_at hl 0 rfl) ?_
    refine va_get (D := D) (ci := 2) (v := .ref (q_t 0)) (C := RX2) (T := TX2) (N := 7) hx hb hT iX2 hown hK hP 0 rfl rfl 0 (by decide) (hT _ fw_X2_9) (fun _ h9 => h9) rfl dX2_isWord_29 ?_
    refine lv_aload_n hx hb dX2_isWord_32 rfl (lv_at hl 0 rfl) ?_
    refine va_get (D := D) (ci := 2) (v := .int (d_t.1 3)) (C := RX2) (T := TX2) (N := 7) hx hb hT iX2 hown hK hP 0 rfl rfl 3 (by decide) (hT _ fw_X2_22) (fun _ h9 => h9) rfl dX2_isWord_33 ?_
    refine lv_iload_n hx hb dX2_isWord_36 rfl (lv_at hl 2 rfl) ?_
    refine lv_iadd hx hb dX2_isWord_37 ?_
    obtain ⟨hi, hf⟩ := chk_some hf
    refine va_bald (D := D) hx hb hK hP 1 1 rfl rfl hi dX2_isWord_38 ?_
    refine lv_aload_n hx hb dX2_isWord_39 rfl (lv_at hl 1 rfl) ?_
    refine lv_iload_n hx hb dX2_isWord_40 rfl (lv_at hl 2 rfl) ?_
    obtain ⟨hi, hf⟩ := chk_some hf
    refine callVsi hi1 (As := [.int v]) (rest := [.int ((d_t.2 0) ((d_t.1 3) + v).toNatClampNeg)]) M (mJ0_charAt l D cs sk hi1 v hi) mw_X2_157 ln_J0_charAt_5068e ⟨rfl, rfl, Nat.le_of_ble_eq_true rfl, Nat.le_of_ble_eq_true rfl⟩ hP hD hS hA [] (by decide) rfl rfl ⟨Nat.zero_le _, Nat.zero_le _⟩ hl.1 rfl (Nat.le_of_ble_eq_true rfl) dX2_isWord_41 (fun H locs hP hD hS => ?_)
    replace hP : va_P D vwCl [oX2 h_t q_t (d_t.1), ((q_t 0), .inl (cs 1, 250, .inl (d_t.2 0)))] H := hP
    replace hD : va_D A [oX2 h_t q_t (d_t.1), ((q_t 0), .inl (cs 1, 250, .inl (d_t.2 0)))] := hD
    have g4 := ite_some hf
    refine lv_icmp_eq (tgt := 49) hx hb dX2_isWord_44 (by decide) (fun c3 => ?_) (fun c3 => ?_)
    · replace hf := g4.1 c3
      refine lv_iinc (v := (v + 1)) (lv' := [(2, .int (v + 1)), (0, .ref h_t), (1, .ref (sk i1))]) hx hb dX2_isWord_49 hl (k := 2) rfl rfl (by decide) rfl (fun ls hl => ?_)
      refine lv_goto (tgt := 20) hx hb dX2_isWord_52 (by decide) ?_
      exact ih _ hf _ _ _ hP hD hS (lv_sub hl [1, 2, 0] rfl)
    · replace hf := g4.2 c3
      exact hK47 _ hf _ _ _ hP hD hS (lv_sub hl [] rfl)
set_option maxHeartbeats 4000000 in
set_option maxRecDepth 100000 in
theorem mX2_isWord (l : Launch) (D : va_G) (cs : Nat → ClassId) (sk : Nat → Nat) (h_t : Nat) (q_t : Nat → Nat) (k : Nat) (d_t : Dat) (i1 : Nat) {rv : Int32} (hi1 : i1 < 6) (hf : fX2_isWord k d_t i1 = some rv) : CTi l yX2_isWord (Cond.code yX2_isWord cX2_isWord 3 (some .boolean) :: gtbl) rm_X2_isWord D cs sk [.ref h_t, .ref (sk i1)] [oX2 h_t q_t (d_t.1), ((q_t 0), .inl (cs 1, 250, .inl (d_t.2 0)))] (rv) [oX2 h_t q_t (d_t.1), ((q_t 0), .inl (cs 1, 250, .inl (d_t.2 0)))] := by
  refine CTi.ofZ RX2 (by decide +kernel) rfl (Nat.le_of_ble_eq_true rfl) (fun p e s m args below meth c A Q ls M hA hR hl hP hD hS => ?_)
  obtain ⟨hx, hb, hml, hT, hown, hlk, hrt, hK, hN, hSE⟩ := id M
  replace hl : lv_has ls 3 [(0, .ref h_t), (1, .ref (sk i1))] := hl
  unfold fX2_isWord at hf
  refine lv_aload_n hx hb dX2_isWord_0 rfl (lv_at hl 0 rfl) ?_
  refine va_get (D := D) (ci := 2) (v := .int (d_t.1 2)) (C := RX2) (T := TX2) (N := 7) hx hb hT iX2 hown hK hP 0 rfl rfl 2 (by decide) (hT _ fw_X2_19) (fun _ h9 => h9) rfl dX2_isWord_1 ?_
  refine lv_aload_n hx hb dX2_isWord_4 rfl (lv_at hl 0 rfl) ?_
  refine va_get (D := D) (ci := 2) (v := .int (d_t.1 3)) (C := RX2) (T := TX2) (N := 7) hx hb hT iX2 hown hK hP 0 rfl rfl 3 (by decide) (hT _ fw_X2_22) (fun _ h9 => h9) rfl dX2_isWord_5 ?_
  refine lv_isub hx hb dX2_isWord_8 ?_
  refine lv_aload_n hx hb dX2_isWord_9 rfl (lv_at hl 1 rfl) ?_
  refine callVsi hi1 (As := []) (rest := [.int ((d_t.1 2) - (d_t.1 3))]) M (mJ0_length l D cs sk hi1) mw_X2_151 ln_J0_length_8abf5 ⟨rfl, rfl, Nat.le_of_ble_eq_true rfl, Nat.le_of_ble_eq_true rfl⟩ hP hD hS hA [] (by decide) rfl rfl ⟨Nat.zero_le _, Nat.zero_le _⟩ hl.1 rfl (Nat.le_of_ble_eq_true rfl) dX2_isWord_10 (fun H locs hP hD hS => ?_)
  replace hP : va_P D vwCl [oX2 h_t q_t (d_t.1), ((q_t 0), .inl (cs 1, 250, .inl (d_t.2 0)))] H := hP
  replace hD : va_D A [oX2 h_t q_t (d_t.1), ((q_t 0), .inl (cs 1, 250, .inl (d_t.2 0)))] := hD
  have g2 := ite_some hf
  refine lv_icmp_eq (tgt := 18) hx hb dX2_isWord_13 (by decide) (fun c1 => ?_) (fun c1 => ?_)
  · replace hf := g2.1 c1
    refine lv_iconst (v := 0) hx hb dX2_isWord_18 rfl ?_
    refine lv_istore_n (lv' := [(2, .int 0), (0, .ref h_t), (1, .ref (sk i1))]) hx hb dX2_isWord_19 rfl hl (by decide) rfl (fun ls hl => ?_)
    refine mX2_isWord_B20 h_t q_t k i1 d_t hi1 _ _ M hA hR (fun w3 hf H locs ls hP hD hS hl => ?_) (fun w4 hf H locs ls hP hD hS hl => ?_) _ _ hf _ _ _ hP hD hS (lv_sub hl [1, 2, 0] rfl)
    · refine lv_iconst (v := 0) hx hb dX2_isWord_47 rfl ?_
      have e9 := Option.some.inj hf
      subst e9
      exact hR _ _ _ _ dX2_isWord_48 (Or.inl rfl) hP hS
    · refine lv_iconst (v := 1) hx hb dX2_isWord_55 rfl ?_
      have e9 := Option.some.inj hf
      subst e9
      exact hR _ _ _ _ dX2_isWord_56 (Or.inr rfl) hP hS
  · replace hf := g2.2 c1
    refine lv_iconst (v := 0) hx hb dX2_isWord_16 rfl ?_
    have e9 := Option.some.inj hf
    subst e9
    exact hR _ _ _ _ dX2_isWord_17 (Or.inl rfl) hP hS
abbrev rm_X2_isNumber : Room := { frames := 1, cells := 0, slots := 0, locals := 22 }
def fX2_isNumber (k : Nat) (d_t : Dat) (x1 : Int32) (x2 : Int32) : Option (Int32) :=
  (if (d_t.1 4) = 2 then (fX6_isWithin k (d_t.1 5) x1 x2).bind (fun (r3 : Int32) => (if r3 = 0 then some 0 else some 1)) else some 0)
set_option maxHeartbeats 4000000 in
set_option maxRecDepth 100000 in
theorem mX2_isNumber (l : Launch) (D : va_G) (cs : Nat → ClassId) (sk : Nat → Nat) (h_t : Nat) (q_t : Nat → Nat) (k : Nat) (d_t : Dat) (x1 : Int32) (x2 : Int32) {rv : Int32} (hf : fX2_isNumber k d_t x1 x2 = some rv) : CTi l yX2_isNumber (Cond.code yX2_isNumber cX2_isNumber 3 (some .boolean) :: gtbl) rm_X2_isNumber D cs sk [.ref h_t, .int x1, .int x2] [oX2 h_t q_t (d_t.1)] (rv) [oX2 h_t q_t (d_t.1)] := by
  refine CTi.ofZ RX2 (by decide +kernel) rfl (Nat.le_of_ble_eq_true rfl) (fun p e s m args below meth c A Q ls M hA hR hl hP hD hS => ?_)
  obtain ⟨hx, hb, hml, hT, hown, hlk, hrt, hK, hN, hSE⟩ := id M
  replace hl : lv_has ls 3 [(0, .ref h_t), (1, .int x1), (2, .int x2)] := hl
  unfold fX2_isNumber at hf
  refine lv_aload_n hx hb dX2_isNumber_0 rfl (lv_at hl 0 rfl) ?_
  refine va_get (D := D) (ci := 2) (v := .int (d_t.1 4)) (C := RX2) (T := TX2) (N := 7) hx hb hT iX2 hown hK hP 0 rfl rfl 4 (by decide) (hT _ fw_X2_25) (fun _ h9 => h9) rfl dX2_isNumber_1 ?_
  refine lv_iconst (v := 2) hx hb dX2_isNumber_4 rfl ?_
  have g2 := ite_some hf
  refine lv_icmp_ne (tgt := 24) hx hb dX2_isNumber_5 (by decide) (fun c1 => ?_) (fun c1 => ?_)
  · replace hf := g2.2 c1
    refine lv_iconst (v := 0) hx hb dX2_isNumber_24 rfl ?_
    have e9 := Option.some.inj hf
    subst e9
    exact hR _ _ _ _ dX2_isNumber_25 (Or.inl rfl) hP hS
  · replace hf := g2.1 c1
    refine lv_aload_n hx hb dX2_isNumber_8 rfl (lv_at hl 0 rfl) ?_
    refine va_get (D := D) (ci := 2) (v := .int (d_t.1 5)) (C := RX2) (T := TX2) (N := 7) hx hb hT iX2 hown hK hP 0 rfl rfl 5 (by decide) (hT _ fw_X2_28) (fun _ h9 => h9) rfl dX2_isNumber_9 ?_
    refine lv_iload_n hx hb dX2_isNumber_12 rfl (lv_at hl 1 rfl) ?_
    refine lv_iload_n hx hb dX2_isNumber_13 rfl (lv_at hl 2 rfl) ?_
    obtain ⟨r3, e4, hf⟩ := bind_some hf
    refine callSNi (As := [.int (d_t.1 5), .int x1, .int x2]) (rest := []) M (mX6_isWithin l D cs sk  k (d_t.1 5) x1 x2 e4) mw_X2_131 ln_X6_isWithin ⟨rfl, rfl, Nat.le_of_ble_eq_true rfl, Nat.le_of_ble_eq_true rfl⟩ hP hD hS hA [] (by decide) rfl rfl ⟨Nat.zero_le _, Nat.zero_le _⟩ hl.1 rfl (Nat.le_of_ble_eq_true rfl) dX2_isNumber_14 (fun H locs hP hD hS => ?_)
    replace hP : va_P D vwCl [oX2 h_t q_t (d_t.1)] H := hP
    replace hD : va_D A [oX2 h_t q_t (d_t.1)] := hD
    have g6 := ite_some hf
    refine lv_if_eq (tgt := 24) hx hb dX2_isNumber_17 (by decide) (fun c5 => ?_) (fun c5 => ?_)
    · replace hf := g6.1 c5
      refine lv_iconst (v := 0) hx hb dX2_isNumber_24 rfl ?_
      have e9 := Option.some.inj hf
      subst e9
      exact hR _ _ _ _ dX2_isNumber_25 (Or.inl rfl) hP hS
    · replace hf := g6.2 c5
      refine lv_iconst (v := 1) hx hb dX2_isNumber_20 rfl ?_
      refine lv_goto (tgt := 25) hx hb dX2_isNumber_21 (by decide) ?_
      have e9 := Option.some.inj hf
      subst e9
      exact hR _ _ _ _ dX2_isNumber_25 (Or.inr rfl) hP hS
abbrev rm_X2_takeNumber : Room := { frames := 3, cells := 0, slots := 0, locals := 60 }
def fX2_takeNumber (k : Nat) (d_t : Dat) (x1 : Int32) (x2 : Int32) : Option (Int32 × Dat) :=
  (fX2_takeToken k d_t).bind (fun (r1 : Dat) => (fX2_isNumber k (r1.1, d_t.2) x1 x2).bind (fun (r3 : Int32) => chb r3 (some (r3, (r1.1, d_t.2)))))
set_option maxHeartbeats 4000000 in
set_option maxRecDepth 100000 in
theorem mX2_takeNumber (l : Launch) (D : va_G) (cs : Nat → ClassId) (sk : Nat → Nat) (h_t : Nat) (q_t : Nat → Nat) (k : Nat) (d_t : Dat) (x1 : Int32) (x2 : Int32) {rv : Int32 × Dat} (hf : fX2_takeNumber k d_t x1 x2 = some rv) : CTi l yX2_takeNumber (Cond.code yX2_takeNumber cX2_takeNumber 3 (some .boolean) :: gtbl) rm_X2_takeNumber D cs sk [.ref h_t, .int x1, .int x2] [oX2 h_t q_t (d_t.1), ((q_t 0), .inl (cs 1, 250, .inl (d_t.2 0)))] (rv.1) [oX2 h_t q_t (rv.2.1), ((q_t 0), .inl (cs 1, 250, .inl (d_t.2 0)))] := by
  refine CTi.ofZ RX2 (by decide +kernel) rfl (Nat.le_of_ble_eq_true rfl) (fun p e s m args below meth c A Q ls M hA hR hl hP hD hS => ?_)
  obtain ⟨hx, hb, hml, hT, hown, hlk, hrt, hK, hN, hSE⟩ := id M
  replace hl : lv_has ls 3 [(0, .ref h_t), (1, .int x1), (2, .int x2)] := hl
  unfold fX2_takeNumber at hf
  refine lv_aload_n hx hb dX2_takeNumber_0 rfl (lv_at hl 0 rfl) ?_
  obtain ⟨r1, e2, hf⟩ := bind_some hf
  refine callVv (As := []) (rest := []) M (mX2_takeToken l D cs sk h_t q_t k d_t e2) mw_X2_40 ln_X2_takeToken ⟨rfl, rfl, Nat.le_of_ble_eq_true rfl, Nat.le_of_ble_eq_true rfl⟩ hP hD hS hA [0, 1] (by decide) rfl rfl (q0 := 0) rfl rfl rfl ⟨Nat.zero_le _, Nat.zero_le _⟩ hl.1 rfl (Nat.le_of_ble_eq_true rfl) dX2_takeNumber_1 (fun H locs hP hD hS => ?_)
  replace hP : va_P D vwCl [oX2 h_t q_t (r1.1), ((q_t 0), .inl (cs 1, 250, .inl (d_t.2 0)))] H := hP
  replace hD : va_D A [oX2 h_t q_t (r1.1), ((q_t 0), .inl (cs 1, 250, .inl (d_t.2 0)))] := hD
  refine lv_aload_n hx hb dX2_takeNumber_4 rfl (lv_at hl 0 rfl) ?_
  refine lv_iload_n hx hb dX2_takeNumber_5 rfl (lv_at hl 1 rfl) ?_
  refine lv_iload_n hx hb dX2_takeNumber_6 rfl (lv_at hl 2 rfl) ?_
  obtain ⟨r3, e4, hf⟩ := bind_some hf
  refine callVi (As := [.int x1, .int x2]) (rest := []) M (mX2_isNumber l D cs sk h_t q_t k (r1.1, d_t.2) x1 x2 e4) mw_X2_124 ln_X2_isNumber ⟨rfl, rfl, Nat.le_of_ble_eq_true rfl, Nat.le_of_ble_eq_true rfl⟩ hP hD hS hA [0] (by decide) rfl rfl (q0 := 0) rfl rfl rfl ⟨Nat.zero_le _, Nat.zero_le _⟩ hl.1 rfl (Nat.le_of_ble_eq_true rfl) dX2_takeNumber_7 (fun H locs hP hD hS => ?_)
  replace hP : va_P D vwCl [oX2 h_t q_t (r1.1), ((q_t 0), .inl (cs 1, 250, .inl (d_t.2 0)))] H := hP
  replace hD : va_D A [oX2 h_t q_t (r1.1), ((q_t 0), .inl (cs 1, 250, .inl (d_t.2 0)))] := hD
  obtain ⟨h01, hf⟩ := chb_some hf
  have e9 := Option.some.inj hf
  subst e9
  exact hR _ _ _ _ dX2_takeNumber_10 h01 hP hS
abbrev rm_X2_takeStop : Room := { frames := 3, cells := 0, slots := 0, locals := 60 }
def fX2_takeStop (k : Nat) (d_t : Dat) : Option (Int32 × Dat) :=
  (fX2_takeToken k d_t).bind (fun (r1 : Dat) => (if (r1.1 4) = 4 then some (1, (r1.1, d_t.2)) else some (0, (r1.1, d_t.2))))
set_option maxHeartbeats 4000000 in
set_option maxRecDepth 100000 in
theorem mX2_takeStop (l : Launch) (D : va_G) (cs : Nat → ClassId) (sk : Nat → Nat) (h_t : Nat) (q_t : Nat → Nat) (k : Nat) (d_t : Dat) {rv : Int32 × Dat} (hf : fX2_takeStop k d_t = some rv) : CTi l yX2_takeStop (Cond.code yX2_takeStop cX2_takeStop 1 (some .boolean) :: gtbl) rm_X2_takeStop D cs sk [.ref h_t] [oX2 h_t q_t (d_t.1), ((q_t 0), .inl (cs 1, 250, .inl (d_t.2 0)))] (rv.1) [oX2 h_t q_t (rv.2.1), ((q_t 0), .inl (cs 1, 250, .inl (d_t.2 0)))] := by
  refine CTi.ofZ RX2 (by decide +kernel) rfl (Nat.le_of_ble_eq_true rfl) (fun p e s m args below meth c A Q ls M hA hR hl hP hD hS => ?_)
  obtain ⟨hx, hb, hml, hT, hown, hlk, hrt, hK, hN, hSE⟩ := id M
  replace hl : lv_has ls 1 [(0, .ref h_t)] := hl
  unfold fX2_takeStop at hf
  refine lv_aload_n hx hb dX2_takeStop_0 rfl (lv_at hl 0 rfl) ?_
  obtain ⟨r1, e2, hf⟩ := bind_some hf
  refine callVv (As := []) (rest := []) M (mX2_takeToken l D cs sk h_t q_t k d_t e2) mw_X2_40 ln_X2_takeToken ⟨rfl, rfl, Nat.le_of_ble_eq_true rfl, Nat.le_of_ble_eq_true rfl⟩ hP hD hS hA [0, 1] (by decide) rfl rfl (q0 := 0) rfl rfl rfl ⟨Nat.zero_le _, Nat.zero_le _⟩ hl.1 rfl (Nat.le_of_ble_eq_true rfl) dX2_takeStop_1 (fun H locs hP hD hS => ?_)
  replace hP : va_P D vwCl [oX2 h_t q_t (r1.1), ((q_t 0), .inl (cs 1, 250, .inl (d_t.2 0)))] H := hP
  replace hD : va_D A [oX2 h_t q_t (r1.1), ((q_t 0), .inl (cs 1, 250, .inl (d_t.2 0)))] := hD
  refine lv_aload_n hx hb dX2_takeStop_4 rfl (lv_at hl 0 rfl) ?_
  refine va_get (D := D) (ci := 2) (v := .int (r1.1 4)) (C := RX2) (T := TX2) (N := 7) hx hb hT iX2 hown hK hP 0 rfl rfl 4 (by decide) (hT _ fw_X2_25) (fun _ h9 => h9) rfl dX2_takeStop_5 ?_
  refine lv_iconst (v := 4) hx hb dX2_takeStop_8 rfl ?_
  have g4 := ite_some hf
  refine lv_icmp_ne (tgt := 16) hx hb dX2_takeStop_9 (by decide) (fun c3 => ?_) (fun c3 => ?_)
  · replace hf := g4.2 c3
    refine lv_iconst (v := 0) hx hb dX2_takeStop_16 rfl ?_
    have e9 := Option.some.inj hf
    subst e9
    exact hR _ _ _ _ dX2_takeStop_17 (Or.inl rfl) hP hS
  · replace hf := g4.1 c3
    refine lv_iconst (v := 1) hx hb dX2_takeStop_12 rfl ?_
    refine lv_goto (tgt := 17) hx hb dX2_takeStop_13 (by decide) ?_
    have e9 := Option.some.inj hf
    subst e9
    exact hR _ _ _ _ dX2_takeStop_17 (Or.inr rfl) hP hS
abbrev rm_X2_readWindow : Room := { frames := 4, cells := 0, slots := 0, locals := 82 }
def fX2_readWindow (k : Nat) (d_t : Dat) (d_a1 : Dat) : Option (Int32 × Dat × Dat) :=
  (if 6 ≤ (d_a1.1 0) then some (0, d_t, d_a1) else (fX2_takeNumber k d_t 0 99).bind (fun (r3 : Int32 × Dat) => (if (r3.1) = 0 then some (0, (r3.2.1, d_t.2), d_a1) else (fX2_takeNumber k (r3.2.1, d_t.2) 0 99).bind (fun (r7 : Int32 × Dat) => (if (r7.1) = 0 then some (0, (r7.2.1, d_t.2), d_a1) else (fX4_addWindow k d_a1 (r3.2.1 5) (r7.2.1 5)).bind (fun (r11 : Int32 × Dat) => (fX2_takeStop k (r7.2.1, d_t.2)).bind (fun (r13 : Int32 × Dat) => chb (r13.1) (some ((r13.1), (r13.2.1, d_t.2), (r11.2.1, (va_up (va_up d_a1.2 1 (r11.2.2 1)) 2 (r11.2.2 2))))))))))))
set_option maxHeartbeats 4000000 in
set_option maxRecDepth 100000 in
theorem mX2_readWindow (l : Launch) (D : va_G) (cs : Nat → ClassId) (sk : Nat → Nat) (h_t : Nat) (h_a1 : Nat) (q_t : Nat → Nat) (q_a1 : Nat → Nat) (k : Nat) (d_t : Dat) (d_a1 : Dat) {rv : Int32 × Dat × Dat} (hf : fX2_readWindow k d_t d_a1 = some rv) : CTi l yX2_readWindow (Cond.code yX2_readWindow cX2_readWindow 3 (some .boolean) :: gtbl) rm_X2_readWindow D cs sk [.ref h_t, .ref h_a1] [oX2 h_t q_t (d_t.1), ((q_t 0), .inl (cs 1, 250, .inl (d_t.2 0))), oX4 h_a1 q_a1 (d_a1.1), ((q_a1 1), .inl (cs 0, 6, .inl (d_a1.2 1))), ((q_a1 2), .inl (cs 0, 6, .inl (d_a1.2 2)))] (rv.1) [oX2 h_t q_t (rv.2.1.1), ((q_t 0), .inl (cs 1, 250, .inl (d_t.2 0))), oX4 h_a1 q_a1 (rv.2.2.1), ((q_a1 1), .inl (cs 0, 6, .inl (rv.2.2.2 1))), ((q_a1 2), .inl (cs 0, 6, .inl (rv.2.2.2 2)))] := by
  refine CTi.ofZ RX2 (by decide +kernel) rfl (Nat.le_of_ble_eq_true rfl) (fun p e s m args below meth c A Q ls M hA hR hl hP hD hS => ?_)
  obtain ⟨hx, hb, hml, hT, hown, hlk, hrt, hK, hN, hSE⟩ := id M
  replace hl : lv_has ls 3 [(0, .ref h_t), (1, .ref h_a1)] := hl
  unfold fX2_readWindow at hf
  refine lv_aload_n hx hb dX2_readWindow_0 rfl (lv_at hl 1 rfl) ?_
  refine va_get (D := D) (ci := 4) (v := .int (d_a1.1 0)) (C := RX4) (T := TX4) (N := 11) hx hb hT iX4 hown hK hP 2 rfl rfl 0 (by decide) (hT _ fw_X2_83) (fun _ h9 => h9) rfl dX2_readWindow_1 ?_
  refine lv_bipush (v := 6) hx hb dX2_readWindow_4 rfl ?_
  have g2 := ite_some hf
  refine lv_icmp_ge (tgt := 19) hx hb dX2_readWindow_6 (by decide) (fun c1 => ?_) (fun c1 => ?_)
  · replace hf := g2.1 c1
    refine lv_iconst (v := 0) hx hb dX2_readWindow_19 rfl ?_
    have e9 := Option.some.inj hf
    subst e9
    exact hR _ _ _ _ dX2_readWindow_20 (Or.inl rfl) hP hS
  · replace hf := g2.2 c1
    refine lv_aload_n hx hb dX2_readWindow_9 rfl (lv_at hl 0 rfl) ?_
    refine lv_iconst (v := 0) hx hb dX2_readWindow_10 rfl ?_
    refine lv_bipush (v := 99) hx hb dX2_readWindow_11 rfl ?_
    obtain ⟨r3, e4, hf⟩ := bind_some hf
    refine callVi (As := [.int 0, .int 99]) (rest := []) M (mX2_takeNumber l D cs sk h_t q_t k d_t 0 99 e4) mw_X2_88 ln_X2_takeNumber ⟨rfl, rfl, Nat.le_of_ble_eq_true rfl, Nat.le_of_ble_eq_true rfl⟩ hP hD hS hA [0, 1] (by decide) rfl rfl (q0 := 0) rfl rfl rfl ⟨Nat.zero_le _, Nat.zero_le _⟩ hl.1 rfl (Nat.le_of_ble_eq_true rfl) dX2_readWindow_13 (fun H locs hP hD hS => ?_)
    replace hP : va_P D vwCl [oX2 h_t q_t (r3.2.1), ((q_t 0), .inl (cs 1, 250, .inl (d_t.2 0))), oX4 h_a1 q_a1 (d_a1.1), ((q_a1 1), .inl (cs 0, 6, .inl (d_a1.2 1))), ((q_a1 2), .inl (cs 0, 6, .inl (d_a1.2 2)))] H := hP
    replace hD : va_D A [oX2 h_t q_t (r3.2.1), ((q_t 0), .inl (cs 1, 250, .inl (d_t.2 0))), oX4 h_a1 q_a1 (d_a1.1), ((q_a1 1), .inl (cs 0, 6, .inl (d_a1.2 1))), ((q_a1 2), .inl (cs 0, 6, .inl (d_a1.2 2)))] := hD
    have g6 := ite_some hf
    refine lv_if_ne (tgt := 21) hx hb dX2_readWindow_16 (by decide) (fun c5 => ?_) (fun c5 => ?_)
    · replace hf := g6.2 c5
      refine lv_aload_n hx hb dX2_readWindow_21 rfl (lv_at hl 0 rfl) ?_
      refine va_get (D := D) (ci := 2) (v := .int (r3.2.1 5)) (C := RX2) (T := TX2) (N := 7) hx hb hT iX2 hown hK hP 0 rfl rfl 5 (by decide) (hT _ fw_X2_28) (fun _ h9 => h9) rfl dX2_readWindow_22 ?_
      refine lv_istore_n (lv' := [(2, .int (r3.2.1 5)), (0, .ref h_t), (1, .ref h_a1)]) hx hb dX2_readWindow_25 rfl hl (by decide) rfl (fun ls hl => ?_)
      refine lv_aload_n hx hb dX2_readWindow_26 rfl (lv_at hl 1 rfl) ?_
      refine lv_iconst (v := 0) hx hb dX2_readWindow_27 rfl ?_
      refine lv_bipush (v := 99) hx hb dX2_readWindow_28 rfl ?_
      obtain ⟨r7, e8, hf⟩ := bind_some hf
      refine callVi (As := [.int 0, .int 99]) (rest := []) M (mX2_takeNumber l D cs sk h_t q_t k (r3.2.1, d_t.2) 0 99 e8) mw_X2_88 ln_X2_takeNumber ⟨rfl, rfl, Nat.le_of_ble_eq_true rfl, Nat.le_of_ble_eq_true rfl⟩ hP hD hS hA [0, 1] (by decide) rfl rfl (q0 := 0) rfl rfl rfl ⟨Nat.zero_le _, Nat.zero_le _⟩ hl.1 rfl (Nat.le_of_ble_eq_true rfl) dX2_readWindow_30 (fun H locs hP hD hS => ?_)
      replace hP : va_P D vwCl [oX2 h_t q_t (r7.2.1), ((q_t 0), .inl (cs 1, 250, .inl (d_t.2 0))), oX4 h_a1 q_a1 (d_a1.1), ((q_a1 1), .inl (cs 0, 6, .inl (d_a1.2 1))), ((q_a1 2), .inl (cs 0, 6, .inl (d_a1.2 2)))] H := hP
      replace hD : va_D A [oX2 h_t q_t (r7.2.1), ((q_t 0), .inl (cs 1, 250, .inl (d_t.2 0))), oX4 h_a1 q_a1 (d_a1.1), ((q_a1 1), .inl (cs 0, 6, .inl (d_a1.2 1))), ((q_a1 2), .inl (cs 0, 6, .inl (d_a1.2 2)))] := hD
      have g10 := ite_some hf
      refine lv_if_ne (tgt := 38) hx hb dX2_readWindow_33 (by decide) (fun c9 => ?_) (fun c9 => ?_)
      · replace hf := g10.2 c9
        refine lv_aload_n hx hb dX2_readWindow_38 rfl (lv_at hl 2 rfl) ?_
        refine lv_iload_n hx hb dX2_readWindow_39 rfl (lv_at hl 0 rfl) ?_
        refine lv_aload_n hx hb dX2_readWindow_40 rfl (lv_at hl 1 rfl) ?_
        refine va_get (D := D) (ci := 2) (v := .int (r7.2.1 5)) (C := RX2) (T := TX2) (N := 7) hx hb hT iX2 hown hK hP 0 rfl rfl 5 (by decide) (hT _ fw_X2_28) (fun _ h9 => h9) rfl dX2_readWindow_41 ?_
        obtain ⟨r11, e12, hf⟩ := bind_some hf
        refine callVi (As := [.int (r3.2.1 5), .int (r7.2.1 5)]) (rest := []) M (mX4_addWindow l D cs sk h_a1 q_a1 k d_a1 (r3.2.1 5) (r7.2.1 5) e12) mw_X2_92 ln_X4_addWindow ⟨rfl, rfl, Nat.le_of_ble_eq_true rfl, Nat.le_of_ble_eq_true rfl⟩ hP hD hS hA [2, 3, 4] (by decide) rfl rfl (q0 := 0) rfl rfl rfl ⟨Nat.zero_le _, Nat.zero_le _⟩ hl.1 rfl (Nat.le_of_ble_eq_true rfl) dX2_readWindow_44 (fun H locs hP hD hS => ?_)
        replace hP : va_P D vwCl [oX2 h_t q_t (r7.2.1), ((q_t 0), .inl (cs 1, 250, .inl (d_t.2 0))), oX4 h_a1 q_a1 (r11.2.1), ((q_a1 1), .inl (cs 0, 6, .inl (r11.2.2 1))), ((q_a1 2), .inl (cs 0, 6, .inl (r11.2.2 2)))] H := hP
        replace hD : va_D A [oX2 h_t q_t (r7.2.1), ((q_t 0), .inl (cs 1, 250, .inl (d_t.2 0))), oX4 h_a1 q_a1 (r11.2.1), ((q_a1 1), .inl (cs 0, 6, .inl (r11.2.2 1))), ((q_a1 2), .inl (cs 0, 6, .inl (r11.2.2 2)))] := hD
        refine lv_pop hx hb dX2_readWindow_47 rfl ?_
        refine lv_aload_n hx hb dX2_readWindow_48 rfl (lv_at hl 1 rfl) ?_
        obtain ⟨r13, e14, hf⟩ := bind_some hf
        refine callVi (As := []) (rest := []) M (mX2_takeStop l D cs sk h_t q_t k (r7.2.1, d_t.2) e14) mw_X2_95 ln_X2_takeStop ⟨rfl, rfl, Nat.le_of_ble_eq_true rfl, Nat.le_of_ble_eq_true rfl⟩ hP hD hS hA [0, 1] (by decide) rfl rfl (q0 := 0) rfl rfl rfl ⟨Nat.zero_le _, Nat.zero_le _⟩ hl.1 rfl (Nat.le_of_ble_eq_true rfl) dX2_readWindow_49 (fun H locs hP hD hS => ?_)
        replace hP : va_P D vwCl [oX2 h_t q_t (r13.2.1), ((q_t 0), .inl (cs 1, 250, .inl (d_t.2 0))), oX4 h_a1 q_a1 (r11.2.1), ((q_a1 1), .inl (cs 0, 6, .inl (r11.2.2 1))), ((q_a1 2), .inl (cs 0, 6, .inl (r11.2.2 2)))] H := hP
        replace hD : va_D A [oX2 h_t q_t (r13.2.1), ((q_t 0), .inl (cs 1, 250, .inl (d_t.2 0))), oX4 h_a1 q_a1 (r11.2.1), ((q_a1 1), .inl (cs 0, 6, .inl (r11.2.2 1))), ((q_a1 2), .inl (cs 0, 6, .inl (r11.2.2 2)))] := hD
        obtain ⟨h01, hf⟩ := chb_some hf
        have e9 := Option.some.inj hf
        subst e9
        exact hR _ _ _ _ dX2_readWindow_52 h01 hP hS
      · replace hf := g10.1 c9
        refine lv_iconst (v := 0) hx hb dX2_readWindow_36 rfl ?_
        have e9 := Option.some.inj hf
        subst e9
        exact hR _ _ _ _ dX2_readWindow_37 (Or.inl rfl) hP hS
    · replace hf := g6.1 c5
      refine lv_iconst (v := 0) hx hb dX2_readWindow_19 rfl ?_
      have e9 := Option.some.inj hf
      subst e9
      exact hR _ _ _ _ dX2_readWindow_20 (Or.inl rfl) hP hS
abbrev rm_X2_readEar : Room := { frames := 4, cells := 0, slots := 0, locals := 82 }
def fX2_readEar (k : Nat) (d_t : Dat) (d_a1 : Dat) : Option (Int32 × Dat × Dat) :=
  (if 3 ≤ (d_a1.1 3) then some (0, d_t, d_a1) else (fX2_takeNumber k d_t 0 99).bind (fun (r3 : Int32 × Dat) => (if (r3.1) = 0 then some (0, (r3.2.1, d_t.2), d_a1) else (fX2_takeNumber k (r3.2.1, d_t.2) 0 99).bind (fun (r7 : Int32 × Dat) => (if (r7.1) = 0 then some (0, (r7.2.1, d_t.2), d_a1) else (fX4_addEar k d_a1 (r3.2.1 5) (r7.2.1 5)).bind (fun (r11 : Int32 × Dat) => (fX2_takeStop k (r7.2.1, d_t.2)).bind (fun (r13 : Int32 × Dat) => chb (r13.1) (some ((r13.1), (r13.2.1, d_t.2), (r11.2.1, (va_up (va_up d_a1.2 4 (r11.2.2 4)) 5 (r11.2.2 5))))))))))))
set_option maxHeartbeats 4000000 in
set_option maxRecDepth 100000 in
theorem mX2_readEar (l : Launch) (D : va_G) (cs : Nat → ClassId) (sk : Nat → Nat) (h_t : Nat) (h_a1 : Nat) (q_t : Nat → Nat) (q_a1 : Nat → Nat) (k : Nat) (d_t : Dat) (d_a1 : Dat) {rv : Int32 × Dat × Dat} (hf : fX2_readEar k d_t d_a1 = some rv) : CTi l yX2_readEar (Cond.code yX2_readEar cX2_readEar 3 (some .boolean) :: gtbl) rm_X2_readEar D cs sk [.ref h_t, .ref h_a1] [oX2 h_t q_t (d_t.1), ((q_t 0), .inl (cs 1, 250, .inl (d_t.2 0))), oX4 h_a1 q_a1 (d_a1.1), ((q_a1 4), .inl (cs 0, 3, .inl (d_a1.2 4))), ((q_a1 5), .inl (cs 0, 3, .inl (d_a1.2 5)))] (rv.1) [oX2 h_t q_t (rv.2.1.1), ((q_t 0), .inl (cs 1, 250, .inl (d_t.2 0))), oX4 h_a1 q_a1 (rv.2.2.1), ((q_a1 4), .inl (cs 0, 3, .inl (rv.2.2.2 4))), ((q_a1 5), .inl (cs 0, 3, .inl (rv.2.2.2 5)))] := by
  refine CTi.ofZ RX2 (by decide +kernel) rfl (Nat.le_of_ble_eq_true rfl) (fun p e s m args below meth c A Q ls M hA hR hl hP hD hS => ?_)
  obtain ⟨hx, hb, hml, hT, hown, hlk, hrt, hK, hN, hSE⟩ := id M
  replace hl : lv_has ls 3 [(0, .ref h_t), (1, .ref h_a1)] := hl
  unfold fX2_readEar at hf
  refine lv_aload_n hx hb dX2_readEar_0 rfl (lv_at hl 1 rfl) ?_
  refine va_get (D := D) (ci := 4) (v := .int (d_a1.1 3)) (C := RX4) (T := TX4) (N := 11) hx hb hT iX4 hown hK hP 2 rfl rfl 3 (by decide) (hT _ fw_X2_99) (fun _ h9 => h9) rfl dX2_readEar_1 ?_
  refine lv_iconst (v := 3) hx hb dX2_readEar_4 rfl ?_
  have g2 := ite_some hf
  refine lv_icmp_ge (tgt := 18) hx hb dX2_readEar_5 (by decide) (fun c1 => ?_) (fun c1 => ?_)
  · replace hf := g2.1 c1
    refine lv_iconst (v := 0) hx hb dX2_readEar_18 rfl ?_
    have e9 := Option.some.inj hf
    subst e9
    exact hR _ _ _ _ dX2_readEar_19 (Or.inl rfl) hP hS
  · replace hf := g2.2 c1
    refine lv_aload_n hx hb dX2_readEar_8 rfl (lv_at hl 0 rfl) ?_
    refine lv_iconst (v := 0) hx hb dX2_readEar_9 rfl ?_
    refine lv_bipush (v := 99) hx hb dX2_readEar_10 rfl ?_
    obtain ⟨r3, e4, hf⟩ := bind_some hf
    refine callVi (As := [.int 0, .int 99]) (rest := []) M (mX2_takeNumber l D cs sk h_t q_t k d_t 0 99 e4) mw_X2_88 ln_X2_takeNumber ⟨rfl, rfl, Nat.le_of_ble_eq_true rfl, Nat.le_of_ble_eq_true rfl⟩ hP hD hS hA [0, 1] (by decide) rfl rfl (q0 := 0) rfl rfl rfl ⟨Nat.zero_le _, Nat.zero_le _⟩ hl.1 rfl (Nat.le_of_ble_eq_true rfl) dX2_readEar_12 (fun H locs hP hD hS => ?_)
    replace hP : va_P D vwCl [oX2 h_t q_t (r3.2.1), ((q_t 0), .inl (cs 1, 250, .inl (d_t.2 0))), oX4 h_a1 q_a1 (d_a1.1), ((q_a1 4), .inl (cs 0, 3, .inl (d_a1.2 4))), ((q_a1 5), .inl (cs 0, 3, .inl (d_a1.2 5)))] H := hP
    replace hD : va_D A [oX2 h_t q_t (r3.2.1), ((q_t 0), .inl (cs 1, 250, .inl (d_t.2 0))), oX4 h_a1 q_a1 (d_a1.1), ((q_a1 4), .inl (cs 0, 3, .inl (d_a1.2 4))), ((q_a1 5), .inl (cs 0, 3, .inl (d_a1.2 5)))] := hD
    have g6 := ite_some hf
    refine lv_if_ne (tgt := 20) hx hb dX2_readEar_15 (by decide) (fun c5 => ?_) (fun c5 => ?_)
    · replace hf := g6.2 c5
      refine lv_aload_n hx hb dX2_readEar_20 rfl (lv_at hl 0 rfl) ?_
      refine va_get (D := D) (ci := 2) (v := .int (r3.2.1 5)) (C := RX2) (T := TX2) (N := 7) hx hb hT iX2 hown hK hP 0 rfl rfl 5 (by decide) (hT _ fw_X2_28) (fun _ h9 => h9) rfl dX2_readEar_21 ?_
      refine lv_istore_n (lv' := [(2, .int (r3.2.1 5)), (0, .ref h_t), (1, .ref h_a1)]) hx hb dX2_readEar_24 rfl hl (by decide) rfl (fun ls hl => ?_)
      refine lv_aload_n hx hb dX2_readEar_25 rfl (lv_at hl 1 rfl) ?_
      refine lv_iconst (v := 0) hx hb dX2_readEar_26 rfl ?_
      refine lv_bipush (v := 99) hx hb dX2_readEar_27 rfl ?_
      obtain ⟨r7, e8, hf⟩ := bind_some hf
      refine callVi (As := [.int 0, .int 99]) (rest := []) M (mX2_takeNumber l D cs sk h_t q_t k (r3.2.1, d_t.2) 0 99 e8) mw_X2_88 ln_X2_takeNumber ⟨rfl, rfl, Nat.le_of_ble_eq_true rfl, Nat.le_of_ble_eq_true rfl⟩ hP hD hS hA [0, 1] (by decide) rfl rfl (q0 := 0) rfl rfl rfl ⟨Nat.zero_le _, Nat.zero_le _⟩ hl.1 rfl (Nat.le_of_ble_eq_true rfl) dX2_readEar_29 (fun H locs hP hD hS => ?_)
      replace hP : va_P D vwCl [oX2 h_t q_t (r7.2.1), ((q_t 0), .inl (cs 1, 250, .inl (d_t.2 0))), oX4 h_a1 q_a1 (d_a1.1), ((q_a1 4), .inl (cs 0, 3, .inl (d_a1.2 4))), ((q_a1 5), .inl (cs 0, 3, .inl (d_a1.2 5)))] H := hP
      replace hD : va_D A [oX2 h_t q_t (r7.2.1), ((q_t 0), .inl (cs 1, 250, .inl (d_t.2 0))), oX4 h_a1 q_a1 (d_a1.1), ((q_a1 4), .inl (cs 0, 3, .inl (d_a1.2 4))), ((q_a1 5), .inl (cs 0, 3, .inl (d_a1.2 5)))] := hD
      have g10 := ite_some hf
      refine lv_if_ne (tgt := 37) hx hb dX2_readEar_32 (by decide) (fun c9 => ?_) (fun c9 => ?_)
      · replace hf := g10.2 c9
        refine lv_aload_n hx hb dX2_readEar_37 rfl (lv_at hl 2 rfl) ?_
        refine lv_iload_n hx hb dX2_readEar_38 rfl (lv_at hl 0 rfl) ?_
        refine lv_aload_n hx hb dX2_readEar_39 rfl (lv_at hl 1 rfl) ?_
        refine va_get (D := D) (ci := 2) (v := .int (r7.2.1 5)) (C := RX2) (T := TX2) (N := 7) hx hb hT iX2 hown hK hP 0 rfl rfl 5 (by decide) (hT _ fw_X2_28) (fun _ h9 => h9) rfl dX2_readEar_40 ?_
        obtain ⟨r11, e12, hf⟩ := bind_some hf
        refine callVi (As := [.int (r3.2.1 5), .int (r7.2.1 5)]) (rest := []) M (mX4_addEar l D cs sk h_a1 q_a1 k d_a1 (r3.2.1 5) (r7.2.1 5) e12) mw_X2_102 ln_X4_addEar ⟨rfl, rfl, Nat.le_of_ble_eq_true rfl, Nat.le_of_ble_eq_true rfl⟩ hP hD hS hA [2, 3, 4] (by decide) rfl rfl (q0 := 0) rfl rfl rfl ⟨Nat.zero_le _, Nat.zero_le _⟩ hl.1 rfl (Nat.le_of_ble_eq_true rfl) dX2_readEar_43 (fun H locs hP hD hS => ?_)
        replace hP : va_P D vwCl [oX2 h_t q_t (r7.2.1), ((q_t 0), .inl (cs 1, 250, .inl (d_t.2 0))), oX4 h_a1 q_a1 (r11.2.1), ((q_a1 4), .inl (cs 0, 3, .inl (r11.2.2 4))), ((q_a1 5), .inl (cs 0, 3, .inl (r11.2.2 5)))] H := hP
        replace hD : va_D A [oX2 h_t q_t (r7.2.1), ((q_t 0), .inl (cs 1, 250, .inl (d_t.2 0))), oX4 h_a1 q_a1 (r11.2.1), ((q_a1 4), .inl (cs 0, 3, .inl (r11.2.2 4))), ((q_a1 5), .inl (cs 0, 3, .inl (r11.2.2 5)))] := hD
        refine lv_pop hx hb dX2_readEar_46 rfl ?_
        refine lv_aload_n hx hb dX2_readEar_47 rfl (lv_at hl 1 rfl) ?_
        obtain ⟨r13, e14, hf⟩ := bind_some hf
        refine callVi (As := []) (rest := []) M (mX2_takeStop l D cs sk h_t q_t k (r7.2.1, d_t.2) e14) mw_X2_95 ln_X2_takeStop ⟨rfl, rfl, Nat.le_of_ble_eq_true rfl, Nat.le_of_ble_eq_true rfl⟩ hP hD hS hA [0, 1] (by decide) rfl rfl (q0 := 0) rfl rfl rfl ⟨Nat.zero_le _, Nat.zero_le _⟩ hl.1 rfl (Nat.le_of_ble_eq_true rfl) dX2_readEar_48 (fun H locs hP hD hS => ?_)
        replace hP : va_P D vwCl [oX2 h_t q_t (r13.2.1), ((q_t 0), .inl (cs 1, 250, .inl (d_t.2 0))), oX4 h_a1 q_a1 (r11.2.1), ((q_a1 4), .inl (cs 0, 3, .inl (r11.2.2 4))), ((q_a1 5), .inl (cs 0, 3, .inl (r11.2.2 5)))] H := hP
        replace hD : va_D A [oX2 h_t q_t (r13.2.1), ((q_t 0), .inl (cs 1, 250, .inl (d_t.2 0))), oX4 h_a1 q_a1 (r11.2.1), ((q_a1 4), .inl (cs 0, 3, .inl (r11.2.2 4))), ((q_a1 5), .inl (cs 0, 3, .inl (r11.2.2 5)))] := hD
        obtain ⟨h01, hf⟩ := chb_some hf
        have e9 := Option.some.inj hf
        subst e9
        exact hR _ _ _ _ dX2_readEar_51 h01 hP hS
      · replace hf := g10.1 c9
        refine lv_iconst (v := 0) hx hb dX2_readEar_35 rfl ?_
        have e9 := Option.some.inj hf
        subst e9
        exact hR _ _ _ _ dX2_readEar_36 (Or.inl rfl) hP hS
    · replace hf := g6.1 c5
      refine lv_iconst (v := 0) hx hb dX2_readEar_18 rfl ?_
      have e9 := Option.some.inj hf
      subst e9
      exact hR _ _ _ _ dX2_readEar_19 (Or.inl rfl) hP hS
abbrev rm_X2_readMill : Room := { frames := 4, cells := 0, slots := 0, locals := 82 }
def fX2_readMill (k : Nat) (d_t : Dat) (d_a1 : Dat) : Option (Int32 × Dat × Dat) :=
  (fX2_takeNumber k d_t 0 99).bind (fun (r1 : Int32 × Dat) => (if (r1.1) = 0 then some (0, (r1.2.1, d_t.2), d_a1) else (fX2_takeNumber k (r1.2.1, d_t.2) 0 99).bind (fun (r5 : Int32 × Dat) => (if (r5.1) = 0 then some (0, (r5.2.1, d_t.2), d_a1) else (fX4_buildMill k d_a1 (r1.2.1 5) (r5.2.1 5)).bind (fun (r9 : Dat) => (fX2_takeStop k (r5.2.1, d_t.2)).bind (fun (r11 : Int32 × Dat) => chb (r11.1) (some ((r11.1), (r11.2.1, d_t.2), (r9.1, d_a1.2)))))))))
set_option maxHeartbeats 4000000 in
set_option maxRecDepth 100000 in
theorem mX2_readMill (l : Launch) (D : va_G) (cs : Nat → ClassId) (sk : Nat → Nat) (h_t : Nat) (h_a1 : Nat) (q_t : Nat → Nat) (q_a1 : Nat → Nat) (k : Nat) (d_t : Dat) (d_a1 : Dat) {rv : Int32 × Dat × Dat} (hf : fX2_readMill k d_t d_a1 = some rv) : CTi l yX2_readMill (Cond.code yX2_readMill cX2_readMill 3 (some .boolean) :: gtbl) rm_X2_readMill D cs sk [.ref h_t, .ref h_a1] [oX2 h_t q_t (d_t.1), ((q_t 0), .inl (cs 1, 250, .inl (d_t.2 0))), oX4 h_a1 q_a1 (d_a1.1)] (rv.1) [oX2 h_t q_t (rv.2.1.1), ((q_t 0), .inl (cs 1, 250, .inl (d_t.2 0))), oX4 h_a1 q_a1 (rv.2.2.1)] := by
  refine CTi.ofZ RX2 (by decide +kernel) rfl (Nat.le_of_ble_eq_true rfl) (fun p e s m args below meth c A Q ls M hA hR hl hP hD hS => ?_)
  obtain ⟨hx, hb, hml, hT, hown, hlk, hrt, hK, hN, hSE⟩ := id M
  replace hl : lv_has ls 3 [(0, .ref h_t), (1, .ref h_a1)] := hl
  unfold fX2_readMill at hf
  refine lv_aload_n hx hb dX2_readMill_0 rfl (lv_at hl 0 rfl) ?_
  refine lv_iconst (v := 0) hx hb dX2_readMill_1 rfl ?_
  refine lv_bipush (v := 99) hx hb dX2_readMill_2 rfl ?_
  obtain ⟨r1, e2, hf⟩ := bind_some hf
  refine callVi (As := [.int 0, .int 99]) (rest := []) M (mX2_takeNumber l D cs sk h_t q_t k d_t 0 99 e2) mw_X2_88 ln_X2_takeNumber ⟨rfl, rfl, Nat.le_of_ble_eq_true rfl, Nat.le_of_ble_eq_true rfl⟩ hP hD hS hA [0, 1] (by decide) rfl rfl (q0 := 0) rfl rfl rfl ⟨Nat.zero_le _, Nat.zero_le _⟩ hl.1 rfl (Nat.le_of_ble_eq_true rfl) dX2_readMill_4 (fun H locs hP hD hS => ?_)
  replace hP : va_P D vwCl [oX2 h_t q_t (r1.2.1), ((q_t 0), .inl (cs 1, 250, .inl (d_t.2 0))), oX4 h_a1 q_a1 (d_a1.1)] H := hP
  replace hD : va_D A [oX2 h_t q_t (r1.2.1), ((q_t 0), .inl (cs 1, 250, .inl (d_t.2 0))), oX4 h_a1 q_a1 (d_a1.1)] := hD
  have g4 := ite_some hf
  refine lv_if_ne (tgt := 12) hx hb dX2_readMill_7 (by decide) (fun c3 => ?_) (fun c3 => ?_)
  · replace hf := g4.2 c3
    refine lv_aload_n hx hb dX2_readMill_12 rfl (lv_at hl 0 rfl) ?_
    refine va_get (D := D) (ci := 2) (v := .int (r1.2.1 5)) (C := RX2) (T := TX2) (N := 7) hx hb hT iX2 hown hK hP 0 rfl rfl 5 (by decide) (hT _ fw_X2_28) (fun _ h9 => h9) rfl dX2_readMill_13 ?_
    refine lv_istore_n (lv' := [(2, .int (r1.2.1 5)), (0, .ref h_t), (1, .ref h_a1)]) hx hb dX2_readMill_16 rfl hl (by decide) rfl (fun ls hl => ?_)
    refine lv_aload_n hx hb dX2_readMill_17 rfl (lv_at hl 1 rfl) ?_
    refine lv_iconst (v := 0) hx hb dX2_readMill_18 rfl ?_
    refine lv_bipush (v := 99) hx hb dX2_readMill_19 rfl ?_
    obtain ⟨r5, e6, hf⟩ := bind_some hf
    refine callVi (As := [.int 0, .int 99]) (rest := []) M (mX2_takeNumber l D cs sk h_t q_t k (r1.2.1, d_t.2) 0 99 e6) mw_X2_88 ln_X2_takeNumber ⟨rfl, rfl, Nat.le_of_ble_eq_true rfl, Nat.le_of_ble_eq_true rfl⟩ hP hD hS hA [0, 1] (by decide) rfl rfl (q0 := 0) rfl rfl rfl ⟨Nat.zero_le _, Nat.zero_le _⟩ hl.1 rfl (Nat.le_of_ble_eq_true rfl) dX2_readMill_21 (fun H locs hP hD hS => ?_)
    replace hP : va_P D vwCl [oX2 h_t q_t (r5.2.1), ((q_t 0), .inl (cs 1, 250, .inl (d_t.2 0))), oX4 h_a1 q_a1 (d_a1.1)] H := hP
    replace hD : va_D A [oX2 h_t q_t (r5.2.1), ((q_t 0), .inl (cs 1, 250, .inl (d_t.2 0))), oX4 h_a1 q_a1 (d_a1.1)] := hD
    have g8 := ite_some hf
    refine lv_if_ne (tgt := 29) hx hb dX2_readMill_24 (by decide) (fun c7 => ?_) (fun c7 => ?_)
    · replace hf := g8.2 c7
      refine lv_aload_n hx hb dX2_readMill_29 rfl (lv_at hl 2 rfl) ?_
      refine lv_iload_n hx hb dX2_readMill_30 rfl (lv_at hl 0 rfl) ?_
      refine lv_aload_n hx hb dX2_readMill_31 rfl (lv_at hl 1 rfl) ?_
      refine va_get (D := D) (ci := 2) (v := .int (r5.2.1 5)) (C := RX2) (T := TX2) (N := 7) hx hb hT iX2 hown hK hP 0 rfl rfl 5 (by decide) (hT _ fw_X2_28) (fun _ h9 => h9) rfl dX2_readMill_32 ?_
      obtain ⟨r9, e10, hf⟩ := bind_some hf
      refine callVv (As := [.int (r1.2.1 5), .int (r5.2.1 5)]) (rest := []) M (mX4_buildMill l D cs sk h_a1 q_a1 k d_a1 (r1.2.1 5) (r5.2.1 5) e10) mw_X2_105 ln_X4_buildMill ⟨rfl, rfl, Nat.le_of_ble_eq_true rfl, Nat.le_of_ble_eq_true rfl⟩ hP hD hS hA [2] (by decide) rfl rfl (q0 := 0) rfl rfl rfl ⟨Nat.zero_le _, Nat.zero_le _⟩ hl.1 rfl (Nat.le_of_ble_eq_true rfl) dX2_readMill_35 (fun H locs hP hD hS => ?_)
      replace hP : va_P D vwCl [oX2 h_t q_t (r5.2.1), ((q_t 0), .inl (cs 1, 250, .inl (d_t.2 0))), oX4 h_a1 q_a1 (r9.1)] H := hP
      replace hD : va_D A [oX2 h_t q_t (r5.2.1), ((q_t 0), .inl (cs 1, 250, .inl (d_t.2 0))), oX4 h_a1 q_a1 (r9.1)] := hD
      refine lv_aload_n hx hb dX2_readMill_38 rfl (lv_at hl 1 rfl) ?_
      obtain ⟨r11, e12, hf⟩ := bind_some hf
      refine callVi (As := []) (rest := []) M (mX2_takeStop l D cs sk h_t q_t k (r5.2.1, d_t.2) e12) mw_X2_95 ln_X2_takeStop ⟨rfl, rfl, Nat.le_of_ble_eq_true rfl, Nat.le_of_ble_eq_true rfl⟩ hP hD hS hA [0, 1] (by decide) rfl rfl (q0 := 0) rfl rfl rfl ⟨Nat.zero_le _, Nat.zero_le _⟩ hl.1 rfl (Nat.le_of_ble_eq_true rfl) dX2_readMill_39 (fun H locs hP hD hS => ?_)
      replace hP : va_P D vwCl [oX2 h_t q_t (r11.2.1), ((q_t 0), .inl (cs 1, 250, .inl (d_t.2 0))), oX4 h_a1 q_a1 (r9.1)] H := hP
      replace hD : va_D A [oX2 h_t q_t (r11.2.1), ((q_t 0), .inl (cs 1, 250, .inl (d_t.2 0))), oX4 h_a1 q_a1 (r9.1)] := hD
      obtain ⟨h01, hf⟩ := chb_some hf
      have e9 := Option.some.inj hf
      subst e9
      exact hR _ _ _ _ dX2_readMill_42 h01 hP hS
    · replace hf := g8.1 c7
      refine lv_iconst (v := 0) hx hb dX2_readMill_27 rfl ?_
      have e9 := Option.some.inj hf
      subst e9
      exact hR _ _ _ _ dX2_readMill_28 (Or.inl rfl) hP hS
  · replace hf := g4.1 c3
    refine lv_iconst (v := 0) hx hb dX2_readMill_10 rfl ?_
    have e9 := Option.some.inj hf
    subst e9
    exact hR _ _ _ _ dX2_readMill_11 (Or.inl rfl) hP hS
abbrev rm_X2_readSlow : Room := { frames := 4, cells := 0, slots := 0, locals := 82 }
def fX2_readSlow (k : Nat) (d_t : Dat) (d_a1 : Dat) : Option (Int32 × Dat × Dat) :=
  (fX2_takeNumber k d_t 1 9).bind (fun (r1 : Int32 × Dat) => (if (r1.1) = 0 then some (0, (r1.2.1, d_t.2), d_a1) else (fX2_takeStop k (r1.2.1, d_t.2)).bind (fun (r5 : Int32 × Dat) => chb (r5.1) (some ((r5.1), (r5.2.1, d_t.2), ((upd d_a1.1 8 (r1.2.1 5)), d_a1.2))))))
set_option maxHeartbeats 4000000 in
set_option maxRecDepth 100000 in
theorem mX2_readSlow (l : Launch) (D : va_G) (cs : Nat → ClassId) (sk : Nat → Nat) (h_t : Nat) (h_a1 : Nat) (q_t : Nat → Nat) (q_a1 : Nat → Nat) (k : Nat) (d_t : Dat) (d_a1 : Dat) {rv : Int32 × Dat × Dat} (hf : fX2_readSlow k d_t d_a1 = some rv) : CTi l yX2_readSlow (Cond.code yX2_readSlow cX2_readSlow 2 (some .boolean) :: gtbl) rm_X2_readSlow D cs sk [.ref h_t, .ref h_a1] [oX2 h_t q_t (d_t.1), ((q_t 0), .inl (cs 1, 250, .inl (d_t.2 0))), oX4 h_a1 q_a1 (d_a1.1)] (rv.1) [oX2 h_t q_t (rv.2.1.1), ((q_t 0), .inl (cs 1, 250, .inl (d_t.2 0))), oX4 h_a1 q_a1 (rv.2.2.1)] := by
  refine CTi.ofZ RX2 (by decide +kernel) rfl (Nat.le_of_ble_eq_true rfl) (fun p e s m args below meth c A Q ls M hA hR hl hP hD hS => ?_)
  obtain ⟨hx, hb, hml, hT, hown, hlk, hrt, hK, hN, hSE⟩ := id M
  replace hl : lv_has ls 2 [(0, .ref h_t), (1, .ref h_a1)] := hl
  unfold fX2_readSlow at hf
  refine lv_aload_n hx hb dX2_readSlow_0 rfl (lv_at hl 0 rfl) ?_
  refine lv_iconst (v := 1) hx hb dX2_readSlow_1 rfl ?_
  refine lv_bipush (v := 9) hx hb dX2_readSlow_2 rfl ?_
  obtain ⟨r1, e2, hf⟩ := bind_some hf
  refine callVi (As := [.int 1, .int 9]) (rest := []) M (mX2_takeNumber l D cs sk h_t q_t k d_t 1 9 e2) mw_X2_88 ln_X2_takeNumber ⟨rfl, rfl, Nat.le_of_ble_eq_true rfl, Nat.le_of_ble_eq_true rfl⟩ hP hD hS hA [0, 1] (by decide) rfl rfl (q0 := 0) rfl rfl rfl ⟨Nat.zero_le _, Nat.zero_le _⟩ hl.1 rfl (Nat.le_of_ble_eq_true rfl) dX2_readSlow_4 (fun H locs hP hD hS => ?_)
  replace hP : va_P D vwCl [oX2 h_t q_t (r1.2.1), ((q_t 0), .inl (cs 1, 250, .inl (d_t.2 0))), oX4 h_a1 q_a1 (d_a1.1)] H := hP
  replace hD : va_D A [oX2 h_t q_t (r1.2.1), ((q_t 0), .inl (cs 1, 250, .inl (d_t.2 0))), oX4 h_a1 q_a1 (d_a1.1)] := hD
  have g4 := ite_some hf
  refine lv_if_ne (tgt := 12) hx hb dX2_readSlow_7 (by decide) (fun c3 => ?_) (fun c3 => ?_)
  · replace hf := g4.2 c3
    refine lv_aload_n hx hb dX2_readSlow_12 rfl (lv_at hl 1 rfl) ?_
    refine lv_aload_n hx hb dX2_readSlow_13 rfl (lv_at hl 0 rfl) ?_
    refine va_get (D := D) (ci := 2) (v := .int (r1.2.1 5)) (C := RX2) (T := TX2) (N := 7) hx hb hT iX2 hown hK hP 0 rfl rfl 5 (by decide) (hT _ fw_X2_28) (fun _ h9 => h9) rfl dX2_readSlow_14 ?_
    refine va_put (D := D) (ci := 4) (v := .int (r1.2.1 5)) (ty := tyX4 8) (C := RX4) (T := TX4) (N := 11) hx hb hT iX4 tyX4 tyX4_ok nmX4 hown hK hP hD hS 2 rfl rfl 8 (by decide) (hT _ fw_X2_109) (fun _ h9 => h9) rfl (tyX4_ok 8 (by decide)) rfl rfl (Nat.le_of_ble_eq_true rfl) dX2_readSlow_17 (fun H locs hP hD hS => ?_)
    replace hP : va_P D vwCl [oX2 h_t q_t (r1.2.1), ((q_t 0), .inl (cs 1, 250, .inl (d_t.2 0))), oX4 h_a1 q_a1 (upd d_a1.1 8 (r1.2.1 5))] H := hP
    replace hD : va_D A [oX2 h_t q_t (r1.2.1), ((q_t 0), .inl (cs 1, 250, .inl (d_t.2 0))), oX4 h_a1 q_a1 (upd d_a1.1 8 (r1.2.1 5))] := hD
    refine lv_aload_n hx hb dX2_readSlow_20 rfl (lv_at hl 0 rfl) ?_
    obtain ⟨r5, e6, hf⟩ := bind_some hf
    refine callVi (As := []) (rest := []) M (mX2_takeStop l D cs sk h_t q_t k (r1.2.1, d_t.2) e6) mw_X2_95 ln_X2_takeStop ⟨rfl, rfl, Nat.le_of_ble_eq_true rfl, Nat.le_of_ble_eq_true rfl⟩ hP hD hS hA [0, 1] (by decide) rfl rfl (q0 := 0) rfl rfl rfl ⟨Nat.zero_le _, Nat.zero_le _⟩ hl.1 rfl (Nat.le_of_ble_eq_true rfl) dX2_readSlow_21 (fun H locs hP hD hS => ?_)
    replace hP : va_P D vwCl [oX2 h_t q_t (r5.2.1), ((q_t 0), .inl (cs 1, 250, .inl (d_t.2 0))), oX4 h_a1 q_a1 (upd d_a1.1 8 (r1.2.1 5))] H := hP
    replace hD : va_D A [oX2 h_t q_t (r5.2.1), ((q_t 0), .inl (cs 1, 250, .inl (d_t.2 0))), oX4 h_a1 q_a1 (upd d_a1.1 8 (r1.2.1 5))] := hD
    obtain ⟨h01, hf⟩ := chb_some hf
    have e9 := Option.some.inj hf
    subst e9
    exact hR _ _ _ _ dX2_readSlow_24 h01 hP hS
  · replace hf := g4.1 c3
    refine lv_iconst (v := 0) hx hb dX2_readSlow_10 rfl ?_
    have e9 := Option.some.inj hf
    subst e9
    exact hR _ _ _ _ dX2_readSlow_11 (Or.inl rfl) hP hS
abbrev rm_X2_readPlayer : Room := { frames := 4, cells := 0, slots := 0, locals := 82 }
def fX2_readPlayer (k : Nat) (d_t : Dat) (d_a1 : Dat) (d_a2 : Dat) : Option (Int32 × Dat × Dat) :=
  (if 6 ≤ (d_a2.1 0) then some (0, d_t, d_a2) else (fX2_takeNumber k d_t 0 5).bind (fun (r3 : Int32 × Dat) => (if (r3.1) = 0 then some (0, (r3.2.1, d_t.2), d_a2) else (fX2_takeNumber k (r3.2.1, d_t.2) 0 ((d_a1.1 0) - 1)).bind (fun (r7 : Int32 × Dat) => (if (r7.1) = 0 then some (0, (r7.2.1, d_t.2), d_a2) else (fX0_playsAt k d_a2 (r7.2.1 5)).bind (fun (r11 : Int32) => (if r11 = 0 then (fX2_takeNumber k (r7.2.1, d_t.2) 1 99).bind (fun (r15 : Int32 × Dat) => (if (r15.1) = 0 then some (0, (r15.2.1, d_t.2), d_a2) else (fX0_addPlayer k d_a2 (r3.2.1 5) (r7.2.1 5) (r15.2.1 5)).bind (fun (r19 : Int32 × Dat) => (fX2_takeStop k (r15.2.1, d_t.2)).bind (fun (r21 : Int32 × Dat) => chb (r21.1) (some ((r21.1), (r21.2.1, d_t.2), (r19.2.1, (va_up (va_up (va_up (va_up (va_up d_a2.2 1 (r19.2.2 1)) 2 (r19.2.2 2)) 3 (r19.2.2 3)) 4 (r19.2.2 4)) 5 (r19.2.2 5))))))))) else some (0, (r7.2.1, d_t.2), d_a2))))))))
set_option maxHeartbeats 4000000 in
set_option maxRecDepth 100000 in
theorem mX2_readPlayer (l : Launch) (D : va_G) (cs : Nat → ClassId) (sk : Nat → Nat) (h_t : Nat) (h_a1 : Nat) (h_a2 : Nat) (q_t : Nat → Nat) (q_a1 : Nat → Nat) (q_a2 : Nat → Nat) (k : Nat) (d_t : Dat) (d_a1 : Dat) (d_a2 : Dat) {rv : Int32 × Dat × Dat} (hf : fX2_readPlayer k d_t d_a1 d_a2 = some rv) : CTi l yX2_readPlayer (Cond.code yX2_readPlayer cX2_readPlayer 5 (some .boolean) :: gtbl) rm_X2_readPlayer D cs sk [.ref h_t, .ref h_a1, .ref h_a2] [oX2 h_t q_t (d_t.1), ((q_t 0), .inl (cs 1, 250, .inl (d_t.2 0))), oX4 h_a1 q_a1 (d_a1.1), oX0 h_a2 q_a2 (d_a2.1), ((q_a2 1), .inl (cs 0, 6, .inl (d_a2.2 1))), ((q_a2 2), .inl (cs 0, 6, .inl (d_a2.2 2))), ((q_a2 3), .inl (cs 0, 6, .inl (d_a2.2 3))), ((q_a2 4), .inl (cs 0, 6, .inl (d_a2.2 4))), ((q_a2 5), .inl (cs 0, 6, .inl (d_a2.2 5)))] (rv.1) [oX2 h_t q_t (rv.2.1.1), ((q_t 0), .inl (cs 1, 250, .inl (d_t.2 0))), oX4 h_a1 q_a1 (d_a1.1), oX0 h_a2 q_a2 (rv.2.2.1), ((q_a2 1), .inl (cs 0, 6, .inl (rv.2.2.2 1))), ((q_a2 2), .inl (cs 0, 6, .inl (rv.2.2.2 2))), ((q_a2 3), .inl (cs 0, 6, .inl (rv.2.2.2 3))), ((q_a2 4), .inl (cs 0, 6, .inl (rv.2.2.2 4))), ((q_a2 5), .inl (cs 0, 6, .inl (rv.2.2.2 5)))] := by
  refine CTi.ofZ RX2 (by decide +kernel) rfl (Nat.le_of_ble_eq_true rfl) (fun p e s m args below meth c A Q ls M hA hR hl hP hD hS => ?_)
  obtain ⟨hx, hb, hml, hT, hown, hlk, hrt, hK, hN, hSE⟩ := id M
  replace hl : lv_has ls 5 [(0, .ref h_t), (1, .ref h_a1), (2, .ref h_a2)] := hl
  unfold fX2_readPlayer at hf
  refine lv_aload_n hx hb dX2_readPlayer_0 rfl (lv_at hl 2 rfl) ?_
  refine va_get (D := D) (ci := 0) (v := .int (d_a2.1 0)) (C := RX0) (T := TX0) (N := 10) hx hb hT iX0 hown hK hP 3 rfl rfl 0 (by decide) (hT _ fw_X2_111) (fun _ h9 => h9) rfl dX2_readPlayer_1 ?_
  refine lv_bipush (v := 6) hx hb dX2_readPlayer_4 rfl ?_
  have g2 := ite_some hf
  refine lv_icmp_ge (tgt := 18) hx hb dX2_readPlayer_6 (by decide) (fun c1 => ?_) (fun c1 => ?_)
  · replace hf := g2.1 c1
    refine lv_iconst (v := 0) hx hb dX2_readPlayer_18 rfl ?_
    have e9 := Option.some.inj hf
    subst e9
    exact hR _ _ _ _ dX2_readPlayer_19 (Or.inl rfl) hP hS
  · replace hf := g2.2 c1
    refine lv_aload_n hx hb dX2_readPlayer_9 rfl (lv_at hl 0 rfl) ?_
    refine lv_iconst (v := 0) hx hb dX2_readPlayer_10 rfl ?_
    refine lv_iconst (v := 5) hx hb dX2_readPlayer_11 rfl ?_
    obtain ⟨r3, e4, hf⟩ := bind_some hf
    refine callVi (As := [.int 0, .int 5]) (rest := []) M (mX2_takeNumber l D cs sk h_t q_t k d_t 0 5 e4) mw_X2_88 ln_X2_takeNumber ⟨rfl, rfl, Nat.le_of_ble_eq_true rfl, Nat.le_of_ble_eq_true rfl⟩ hP hD hS hA [0, 1] (by decide) rfl rfl (q0 := 0) rfl rfl rfl ⟨Nat.zero_le _, Nat.zero_le _⟩ hl.1 rfl (Nat.le_of_ble_eq_true rfl) dX2_readPlayer_12 (fun H locs hP hD hS => ?_)
    replace hP : va_P D vwCl [oX2 h_t q_t (r3.2.1), ((q_t 0), .inl (cs 1, 250, .inl (d_t.2 0))), oX4 h_a1 q_a1 (d_a1.1), oX0 h_a2 q_a2 (d_a2.1), ((q_a2 1), .inl (cs 0, 6, .inl (d_a2.2 1))), ((q_a2 2), .inl (cs 0, 6, .inl (d_a2.2 2))), ((q_a2 3), .inl (cs 0, 6, .inl (d_a2.2 3))), ((q_a2 4), .inl (cs 0, 6, .inl (d_a2.2 4))), ((q_a2 5), .inl (cs 0, 6, .inl (d_a2.2 5)))] H := hP
    replace hD : va_D A [oX2 h_t q_t (r3.2.1), ((q_t 0), .inl (cs 1, 250, .inl (d_t.2 0))), oX4 h_a1 q_a1 (d_a1.1), oX0 h_a2 q_a2 (d_a2.1), ((q_a2 1), .inl (cs 0, 6, .inl (d_a2.2 1))), ((q_a2 2), .inl (cs 0, 6, .inl (d_a2.2 2))), ((q_a2 3), .inl (cs 0, 6, .inl (d_a2.2 3))), ((q_a2 4), .inl (cs 0, 6, .inl (d_a2.2 4))), ((q_a2 5), .inl (cs 0, 6, .inl (d_a2.2 5)))] := hD
    have g6 := ite_some hf
    refine lv_if_ne (tgt := 20) hx hb dX2_readPlayer_15 (by decide) (fun c5 => ?_) (fun c5 => ?_)
    · replace hf := g6.2 c5
      refine lv_aload_n hx hb dX2_readPlayer_20 rfl (lv_at hl 0 rfl) ?_
      refine va_get (D := D) (ci := 2) (v := .int (r3.2.1 5)) (C := RX2) (T := TX2) (N := 7) hx hb hT iX2 hown hK hP 0 rfl rfl 5 (by decide) (hT _ fw_X2_28) (fun _ h9 => h9) rfl dX2_readPlayer_21 ?_
      refine lv_istore_n (lv' := [(3, .int (r3.2.1 5)), (0, .ref h_t), (1, .ref h_a1), (2, .ref h_a2)]) hx hb dX2_readPlayer_24 rfl hl (by decide) rfl (fun ls hl => ?_)
      refine lv_aload_n hx hb dX2_readPlayer_25 rfl (lv_at hl 1 rfl) ?_
      refine lv_iconst (v := 0) hx hb dX2_readPlayer_26 rfl ?_
      refine lv_aload_n hx hb dX2_readPlayer_27 rfl (lv_at hl 2 rfl) ?_
      refine va_get (D := D) (ci := 4) (v := .int (d_a1.1 0)) (C := RX4) (T := TX4) (N := 11) hx hb hT iX4 hown hK hP 2 rfl rfl 0 (by decide) (hT _ fw_X2_83) (fun _ h9 => h9) rfl dX2_readPlayer_28 ?_
      refine lv_iconst (v := 1) hx hb dX2_readPlayer_31 rfl ?_
      refine lv_isub hx hb dX2_readPlayer_32 ?_
      obtain ⟨r7, e8, hf⟩ := bind_some hf
      refine callVi (As := [.int 0, .int ((d_a1.1 0) - 1)]) (rest := []) M (mX2_takeNumber l D cs sk h_t q_t k (r3.2.1, d_t.2) 0 ((d_a1.1 0) - 1) e8) mw_X2_88 ln_X2_takeNumber ⟨rfl, rfl, Nat.le_of_ble_eq_true rfl, Nat.le_of_ble_eq_true rfl⟩ hP hD hS hA [0, 1] (by decide) rfl rfl (q0 := 0) rfl rfl rfl ⟨Nat.zero_le _, Nat.zero_le _⟩ hl.1 rfl (Nat.le_of_ble_eq_true rfl) dX2_readPlayer_33 (fun H locs hP hD hS => ?_)
      replace hP : va_P D vwCl [oX2 h_t q_t (r7.2.1), ((q_t 0), .inl (cs 1, 250, .inl (d_t.2 0))), oX4 h_a1 q_a1 (d_a1.1), oX0 h_a2 q_a2 (d_a2.1), ((q_a2 1), .inl (cs 0, 6, .inl (d_a2.2 1))), ((q_a2 2), .inl (cs 0, 6, .inl (d_a2.2 2))), ((q_a2 3), .inl (cs 0, 6, .inl (d_a2.2 3))), ((q_a2 4), .inl (cs 0, 6, .inl (d_a2.2 4))), ((q_a2 5), .inl (cs 0, 6, .inl (d_a2.2 5)))] H := hP
      replace hD : va_D A [oX2 h_t q_t (r7.2.1), ((q_t 0), .inl (cs 1, 250, .inl (d_t.2 0))), oX4 h_a1 q_a1 (d_a1.1), oX0 h_a2 q_a2 (d_a2.1), ((q_a2 1), .inl (cs 0, 6, .inl (d_a2.2 1))), ((q_a2 2), .inl (cs 0, 6, .inl (d_a2.2 2))), ((q_a2 3), .inl (cs 0, 6, .inl (d_a2.2 3))), ((q_a2 4), .inl (cs 0, 6, .inl (d_a2.2 4))), ((q_a2 5), .inl (cs 0, 6, .inl (d_a2.2 5)))] := hD
      have g10 := ite_some hf
      refine lv_if_eq (tgt := 50) hx hb dX2_readPlayer_36 (by decide) (fun c9 => ?_) (fun c9 => ?_)
      · replace hf := g10.1 c9
        refine lv_iconst (v := 0) hx hb dX2_readPlayer_50 rfl ?_
        have e9 := Option.some.inj hf
        subst e9
        exact hR _ _ _ _ dX2_readPlayer_51 (Or.inl rfl) hP hS
      · replace hf := g10.2 c9
        refine lv_aload_n hx hb dX2_readPlayer_39 rfl (lv_at hl 3 rfl) ?_
        refine lv_aload_n hx hb dX2_readPlayer_40 rfl (lv_at hl 1 rfl) ?_
        refine va_get (D := D) (ci := 2) (v := .int (r7.2.1 5)) (C := RX2) (T := TX2) (N := 7) hx hb hT iX2 hown hK hP 0 rfl rfl 5 (by decide) (hT _ fw_X2_28) (fun _ h9 => h9) rfl dX2_readPlayer_41 ?_
        obtain ⟨r11, e12, hf⟩ := bind_some hf
        refine callVi (As := [.int (r7.2.1 5)]) (rest := []) M (mX0_playsAt l D cs sk h_a2 q_a2 k d_a2 (r7.2.1 5) e12) mw_X2_116 ln_X0_playsAt ⟨rfl, rfl, Nat.le_of_ble_eq_true rfl, Nat.le_of_ble_eq_true rfl⟩ hP hD hS hA [3, 5] (by decide) rfl rfl (q0 := 0) rfl rfl rfl ⟨Nat.zero_le _, Nat.zero_le _⟩ hl.1 rfl (Nat.le_of_ble_eq_true rfl) dX2_readPlayer_44 (fun H locs hP hD hS => ?_)
        replace hP : va_P D vwCl [oX2 h_t q_t (r7.2.1), ((q_t 0), .inl (cs 1, 250, .inl (d_t.2 0))), oX4 h_a1 q_a1 (d_a1.1), oX0 h_a2 q_a2 (d_a2.1), ((q_a2 1), .inl (cs 0, 6, .inl (d_a2.2 1))), ((q_a2 2), .inl (cs 0, 6, .inl (d_a2.2 2))), ((q_a2 3), .inl (cs 0, 6, .inl (d_a2.2 3))), ((q_a2 4), .inl (cs 0, 6, .inl (d_a2.2 4))), ((q_a2 5), .inl (cs 0, 6, .inl (d_a2.2 5)))] H := hP
        replace hD : va_D A [oX2 h_t q_t (r7.2.1), ((q_t 0), .inl (cs 1, 250, .inl (d_t.2 0))), oX4 h_a1 q_a1 (d_a1.1), oX0 h_a2 q_a2 (d_a2.1), ((q_a2 1), .inl (cs 0, 6, .inl (d_a2.2 1))), ((q_a2 2), .inl (cs 0, 6, .inl (d_a2.2 2))), ((q_a2 3), .inl (cs 0, 6, .inl (d_a2.2 3))), ((q_a2 4), .inl (cs 0, 6, .inl (d_a2.2 4))), ((q_a2 5), .inl (cs 0, 6, .inl (d_a2.2 5)))] := hD
        have g14 := ite_some hf
        refine lv_if_eq (tgt := 52) hx hb dX2_readPlayer_47 (by decide) (fun c13 => ?_) (fun c13 => ?_)
        · replace hf := g14.1 c13
          refine lv_aload_n hx hb dX2_readPlayer_52 rfl (lv_at hl 1 rfl) ?_
          refine va_get (D := D) (ci := 2) (v := .int (r7.2.1 5)) (C := RX2) (T := TX2) (N := 7) hx hb hT iX2 hown hK hP 0 rfl rfl 5 (by decide) (hT _ fw_X2_28) (fun _ h9 => h9) rfl dX2_readPlayer_53 ?_
          refine lv_istore (lv' := [(4, .int (r7.2.1 5)), (3, .int (r3.2.1 5)), (0, .ref h_t), (1, .ref h_a1), (2, .ref h_a2)]) hx hb dX2_readPlayer_56 hl (by decide) rfl (fun ls hl => ?_)
          refine lv_aload_n hx hb dX2_readPlayer_58 rfl (lv_at hl 2 rfl) ?_
          refine lv_iconst (v := 1) hx hb dX2_readPlayer_59 rfl ?_
          refine lv_bipush (v := 99) hx hb dX2_readPlayer_60 rfl ?_
          obtain ⟨r15, e16, hf⟩ := bind_some hf
          refine callVi (As := [.int 1, .int 99]) (rest := []) M (mX2_takeNumber l D cs sk h_t q_t k (r7.2.1, d_t.2) 1 99 e16) mw_X2_88 ln_X2_takeNumber ⟨rfl, rfl, Nat.le_of_ble_eq_true rfl, Nat.le_of_ble_eq_true rfl⟩ hP hD hS hA [0, 1] (by decide) rfl rfl (q0 := 0) rfl rfl rfl ⟨Nat.zero_le _, Nat.zero_le _⟩ hl.1 rfl (Nat.le_of_ble_eq_true rfl) dX2_readPlayer_62 (fun H locs hP hD hS => ?_)
          replace hP : va_P D vwCl [oX2 h_t q_t (r15.2.1), ((q_t 0), .inl (cs 1, 250, .inl (d_t.2 0))), oX4 h_a1 q_a1 (d_a1.1), oX0 h_a2 q_a2 (d_a2.1), ((q_a2 1), .inl (cs 0, 6, .inl (d_a2.2 1))), ((q_a2 2), .inl (cs 0, 6, .inl (d_a2.2 2))), ((q_a2 3), .inl (cs 0, 6, .inl (d_a2.2 3))), ((q_a2 4), .inl (cs 0, 6, .inl (d_a2.2 4))), ((q_a2 5), .inl (cs 0, 6, .inl (d_a2.2 5)))] H := hP
          replace hD : va_D A [oX2 h_t q_t (r15.2.1), ((q_t 0), .inl (cs 1, 250, .inl (d_t.2 0))), oX4 h_a1 q_a1 (d_a1.1), oX0 h_a2 q_a2 (d_a2.1), ((q_a2 1), .inl (cs 0, 6, .inl (d_a2.2 1))), ((q_a2 2), .inl (cs 0, 6, .inl (d_a2.2 2))), ((q_a2 3), .inl (cs 0, 6, .inl (d_a2.2 3))), ((q_a2 4), .inl (cs 0, 6, .inl (d_a2.2 4))), ((q_a2 5), .inl (cs 0, 6, .inl (d_a2.2 5)))] := hD
          have g18 := ite_some hf
          refine lv_if_ne (tgt := 70) hx hb dX2_readPlayer_65 (by decide) (fun c17 => ?_) (fun c17 => ?_)
          · replace hf := g18.2 c17
            refine lv_aload_n hx hb dX2_readPlayer_70 rfl (lv_at hl 4 rfl) ?_
            refine lv_iload_n hx hb dX2_readPlayer_71 rfl (lv_at hl 1 rfl) ?_
            refine lv_iload hx hb dX2_readPlayer_72 (lv_at hl 0 rfl) ?_
            refine lv_aload_n hx hb dX2_readPlayer_74 rfl (lv_at hl 2 rfl) ?_
            refine va_get (D := D) (ci := 2) (v := .int (r15.2.1 5)) (C := RX2) (T := TX2) (N := 7) hx hb hT iX2 hown hK hP 0 rfl rfl 5 (by decide) (hT _ fw_X2_28) (fun _ h9 => h9) rfl dX2_readPlayer_75 ?_
            obtain ⟨r19, e20, hf⟩ := bind_some hf
            refine callVi (As := [.int (r3.2.1 5), .int (r7.2.1 5), .int (r15.2.1 5)]) (rest := []) M (mX0_addPlayer l D cs sk h_a2 q_a2 k d_a2 (r3.2.1 5) (r7.2.1 5) (r15.2.1 5) e20) mw_X2_120 ln_X0_addPlayer ⟨rfl, rfl, Nat.le_of_ble_eq_true rfl, Nat.le_of_ble_eq_true rfl⟩ hP hD hS hA [3, 4, 5, 6, 7, 8] (by decide) rfl rfl (q0 := 0) rfl rfl rfl ⟨Nat.zero_le _, Nat.zero_le _⟩ hl.1 rfl (Nat.le_of_ble_eq_true rfl) dX2_readPlayer_78 (fun H locs hP hD hS => ?_)
            replace hP : va_P D vwCl [oX2 h_t q_t (r15.2.1), ((q_t 0), .inl (cs 1, 250, .inl (d_t.2 0))), oX4 h_a1 q_a1 (d_a1.1), oX0 h_a2 q_a2 (r19.2.1), ((q_a2 1), .inl (cs 0, 6, .inl (r19.2.2 1))), ((q_a2 2), .inl (cs 0, 6, .inl (r19.2.2 2))), ((q_a2 3), .inl (cs 0, 6, .inl (r19.2.2 3))), ((q_a2 4), .inl (cs 0, 6, .inl (r19.2.2 4))), ((q_a2 5), .inl (cs 0, 6, .inl (r19.2.2 5)))] H := hP
            replace hD : va_D A [oX2 h_t q_t (r15.2.1), ((q_t 0), .inl (cs 1, 250, .inl (d_t.2 0))), oX4 h_a1 q_a1 (d_a1.1), oX0 h_a2 q_a2 (r19.2.1), ((q_a2 1), .inl (cs 0, 6, .inl (r19.2.2 1))), ((q_a2 2), .inl (cs 0, 6, .inl (r19.2.2 2))), ((q_a2 3), .inl (cs 0, 6, .inl (r19.2.2 3))), ((q_a2 4), .inl (cs 0, 6, .inl (r19.2.2 4))), ((q_a2 5), .inl (cs 0, 6, .inl (r19.2.2 5)))] := hD
            refine lv_pop hx hb dX2_readPlayer_81 rfl ?_
            refine lv_aload_n hx hb dX2_readPlayer_82 rfl (lv_at hl 2 rfl) ?_
            obtain ⟨r21, e22, hf⟩ := bind_some hf
            refine callVi (As := []) (rest := []) M (mX2_takeStop l D cs sk h_t q_t k (r15.2.1, d_t.2) e22) mw_X2_95 ln_X2_takeStop ⟨rfl, rfl, Nat.le_of_ble_eq_true rfl, Nat.le_of_ble_eq_true rfl⟩ hP hD hS hA [0, 1] (by decide) rfl rfl (q0 := 0) rfl rfl rfl ⟨Nat.zero_le _, Nat.zero_le _⟩ hl.1 rfl (Nat.le_of_ble_eq_true rfl) dX2_readPlayer_83 (fun H locs hP hD hS => ?_)
            replace hP : va_P D vwCl [oX2 h_t q_t (r21.2.1), ((q_t 0), .inl (cs 1, 250, .inl (d_t.2 0))), oX4 h_a1 q_a1 (d_a1.1), oX0 h_a2 q_a2 (r19.2.1), ((q_a2 1), .inl (cs 0, 6, .inl (r19.2.2 1))), ((q_a2 2), .inl (cs 0, 6, .inl (r19.2.2 2))), ((q_a2 3), .inl (cs 0, 6, .inl (r19.2.2 3))), ((q_a2 4), .inl (cs 0, 6, .inl (r19.2.2 4))), ((q_a2 5), .inl (cs 0, 6, .inl (r19.2.2 5)))] H := hP
            replace hD : va_D A [oX2 h_t q_t (r21.2.1), ((q_t 0), .inl (cs 1, 250, .inl (d_t.2 0))), oX4 h_a1 q_a1 (d_a1.1), oX0 h_a2 q_a2 (r19.2.1), ((q_a2 1), .inl (cs 0, 6, .inl (r19.2.2 1))), ((q_a2 2), .inl (cs 0, 6, .inl (r19.2.2 2))), ((q_a2 3), .inl (cs 0, 6, .inl (r19.2.2 3))), ((q_a2 4), .inl (cs 0, 6, .inl (r19.2.2 4))), ((q_a2 5), .inl (cs 0, 6, .inl (r19.2.2 5)))] := hD
            obtain ⟨h01, hf⟩ := chb_some hf
            have e9 := Option.some.inj hf
            subst e9
            exact hR _ _ _ _ dX2_readPlayer_86 h01 hP hS
          · replace hf := g18.1 c17
            refine lv_iconst (v := 0) hx hb dX2_readPlayer_68 rfl ?_
            have e9 := Option.some.inj hf
            subst e9
            exact hR _ _ _ _ dX2_readPlayer_69 (Or.inl rfl) hP hS
        · replace hf := g14.2 c13
          refine lv_iconst (v := 0) hx hb dX2_readPlayer_50 rfl ?_
          have e9 := Option.some.inj hf
          subst e9
          exact hR _ _ _ _ dX2_readPlayer_51 (Or.inl rfl) hP hS
    · replace hf := g6.1 c5
      refine lv_iconst (v := 0) hx hb dX2_readPlayer_18 rfl ?_
      have e9 := Option.some.inj hf
      subst e9
      exact hR _ _ _ _ dX2_readPlayer_19 (Or.inl rfl) hP hS
abbrev rm_X2_readOffset : Room := { frames := 4, cells := 0, slots := 0, locals := 82 }
def fX2_readOffset (k : Nat) (d_t : Dat) (d_a1 : Dat) : Option (Int32 × Dat × Dat) :=
  (fX2_takeNumber k d_t 0 ((d_a1.1 0) - 1)).bind (fun (r1 : Int32 × Dat) => (if (r1.1) = 0 then some (0, (r1.2.1, d_t.2), d_a1) else (fX2_takeToken k (r1.2.1, d_t.2)).bind (fun (r5 : Dat) => (if (r5.1 4) = 3 then (if (1 : Int32) = 0 then (fX2_isNumber k (r5.1, d_t.2) 0 500).bind (fun (r35 : Int32) => (if r35 = 0 then some (0, (r5.1, d_t.2), d_a1) else (if (1 : Int32) = 0 then chk 6 (r1.2.1 5) ((fX2_takeStop k (r5.1, d_t.2)).bind (fun (r41 : Int32 × Dat) => chb (r41.1) (some ((r41.1), (r41.2.1, d_t.2), (d_a1.1, (va_up d_a1.2 4 (upd (d_a1.2 4) (r1.2.1 5).toNatClampNeg (r5.1 5)))))))) else chk 6 (r1.2.1 5) ((fX2_takeStop k (r5.1, d_t.2)).bind (fun (r43 : Int32 × Dat) => chb (r43.1) (some ((r43.1), (r43.2.1, d_t.2), (d_a1.1, (va_up d_a1.2 4 (upd (d_a1.2 4) (r1.2.1 5).toNatClampNeg (-(r5.1 5)))))))))))) else (fX2_takeToken k (r5.1, d_t.2)).bind (fun (r45 : Dat) => (fX2_isNumber k (r45.1, d_t.2) 0 500).bind (fun (r47 : Int32) => (if r47 = 0 then some (0, (r45.1, d_t.2), d_a1) else (if (1 : Int32) = 0 then chk 6 (r1.2.1 5) ((fX2_takeStop k (r45.1, d_t.2)).bind (fun (r53 : Int32 × Dat) => chb (r53.1) (some ((r53.1), (r53.2.1, d_t.2), (d_a1.1, (va_up d_a1.2 4 (upd (d_a1.2 4) (r1.2.1 5).toNatClampNeg (r45.1 5)))))))) else chk 6 (r1.2.1 5) ((fX2_takeStop k (r45.1, d_t.2)).bind (fun (r55 : Int32 × Dat) => chb (r55.1) (some ((r55.1), (r55.2.1, d_t.2), (d_a1.1, (va_up d_a1.2 4 (upd (d_a1.2 4) (r1.2.1 5).toNatClampNeg (-(r45.1 5)))))))))))))) else (if (0 : Int32) = 0 then (fX2_isNumber k (r5.1, d_t.2) 0 500).bind (fun (r11 : Int32) => (if r11 = 0 then some (0, (r5.1, d_t.2), d_a1) else (if (0 : Int32) = 0 then chk 6 (r1.2.1 5) ((fX2_takeStop k (r5.1, d_t.2)).bind (fun (r17 : Int32 × Dat) => chb (r17.1) (some ((r17.1), (r17.2.1, d_t.2), (d_a1.1, (va_up d_a1.2 4 (upd (d_a1.2 4) (r1.2.1 5).toNatClampNeg (r5.1 5)))))))) else chk 6 (r1.2.1 5) ((fX2_takeStop k (r5.1, d_t.2)).bind (fun (r19 : Int32 × Dat) => chb (r19.1) (some ((r19.1), (r19.2.1, d_t.2), (d_a1.1, (va_up d_a1.2 4 (upd (d_a1.2 4) (r1.2.1 5).toNatClampNeg (-(r5.1 5)))))))))))) else (fX2_takeToken k (r5.1, d_t.2)).bind (fun (r21 : Dat) => (fX2_isNumber k (r21.1, d_t.2) 0 500).bind (fun (r23 : Int32) => (if r23 = 0 then some (0, (r21.1, d_t.2), d_a1) else (if (0 : Int32) = 0 then chk 6 (r1.2.1 5) ((fX2_takeStop k (r21.1, d_t.2)).bind (fun (r29 : Int32 × Dat) => chb (r29.1) (some ((r29.1), (r29.2.1, d_t.2), (d_a1.1, (va_up d_a1.2 4 (upd (d_a1.2 4) (r1.2.1 5).toNatClampNeg (r21.1 5)))))))) else chk 6 (r1.2.1 5) ((fX2_takeStop k (r21.1, d_t.2)).bind (fun (r31 : Int32 × Dat) => chb (r31.1) (some ((r31.1), (r31.2.1, d_t.2), (d_a1.1, (va_up d_a1.2 4 (upd (d_a1.2 4) (r1.2.1 5).toNatClampNeg (-(r21.1 5))))))))))))))))))
set_option maxHeartbeats 4000000 in
set_option maxRecDepth 100000 in
theorem mX2_readOffset (l : Launch) (D : va_G) (cs : Nat → ClassId) (sk : Nat → Nat) (h_t : Nat) (h_a1 : Nat) (q_t : Nat → Nat) (q_a1 : Nat → Nat) (k : Nat) (d_t : Dat) (d_a1 : Dat) {rv : Int32 × Dat × Dat} (hf : fX2_readOffset k d_t d_a1 = some rv) : CTi l yX2_readOffset (Cond.code yX2_readOffset cX2_readOffset 4 (some .boolean) :: gtbl) rm_X2_readOffset D cs sk [.ref h_t, .ref h_a1] [oX2 h_t q_t (d_t.1), ((q_t 0), .inl (cs 1, 250, .inl (d_t.2 0))), oX0 h_a1 q_a1 (d_a1.1), ((q_a1 4), .inl (cs 0, 6, .inl (d_a1.2 4)))] (rv.1) [oX2 h_t q_t (rv.2.1.1), ((q_t 0), .inl (cs 1, 250, .inl (d_t.2 0))), oX0 h_a1 q_a1 (d_a1.1), ((q_a1 4), .inl (cs 0, 6, .inl (rv.2.2.2 4)))] := by
  refine CTi.ofZ RX2 (by decide +kernel) rfl (Nat.le_of_ble_eq_true rfl) (fun p e s m args below meth c A Q ls M hA hR hl hP hD hS => ?_)
  obtain ⟨hx, hb, hml, hT, hown, hlk, hrt, hK, hN, hSE⟩ := id M
  replace hl : lv_has ls 4 [(0, .ref h_t), (1, .ref h_a1)] := hl
  unfold fX2_readOffset at hf
  refine lv_aload_n hx hb dX2_readOffset_0 rfl (lv_at hl 0 rfl) ?_
  refine lv_iconst (v := 0) hx hb dX2_readOffset_1 rfl ?_
  refine lv_aload_n hx hb dX2_readOffset_2 rfl (lv_at hl 1 rfl) ?_
  refine va_get (D := D) (ci := 0) (v := .int (d_a1.1 0)) (C := RX0) (T := TX0) (N := 10) hx hb hT iX0 hown hK hP 2 rfl rfl 0 (by decide) (hT _ fw_X2_111) (fun _ h9 => h9) rfl dX2_readOffset_3 ?_
  refine lv_iconst (v := 1) hx hb dX2_readOffset_6 rfl ?_
  refine lv_isub hx hb dX2_readOffset_7 ?_
  obtain ⟨r1, e2, hf⟩ := bind_some hf
  refine callVi (As := [.int 0, .int ((d_a1.1 0) - 1)]) (rest := []) M (mX2_takeNumber l D cs sk h_t q_t k d_t 0 ((d_a1.1 0) - 1) e2) mw_X2_88 ln_X2_takeNumber ⟨rfl, rfl, Nat.le_of_ble_eq_true rfl, Nat.le_of_ble_eq_true rfl⟩ hP hD hS hA [0, 1] (by decide) rfl rfl (q0 := 0) rfl rfl rfl ⟨Nat.zero_le _, Nat.zero_le _⟩ hl.1 rfl (Nat.le_of_ble_eq_true rfl) dX2_readOffset_8 (fun H locs hP hD hS => ?_)
  replace hP : va_P D vwCl [oX2 h_t q_t (r1.2.1), ((q_t 0), .inl (cs 1, 250, .inl (d_t.2 0))), oX0 h_a1 q_a1 (d_a1.1), ((q_a1 4), .inl (cs 0, 6, .inl (d_a1.2 4)))] H := hP
  replace hD : va_D A [oX2 h_t q_t (r1.2.1), ((q_t 0), .inl (cs 1, 250, .inl (d_t.2 0))), oX0 h_a1 q_a1 (d_a1.1), ((q_a1 4), .inl (cs 0, 6, .inl (d_a1.2 4)))] := hD
  have g4 := ite_some hf
  refine lv_if_ne (tgt := 16) hx hb dX2_readOffset_11 (by decide) (fun c3 => ?_) (fun c3 => ?_)
  · replace hf := g4.2 c3
    refine lv_aload_n hx hb dX2_readOffset_16 rfl (lv_at hl 0 rfl) ?_
    refine va_get (D := D) (ci := 2) (v := .int (r1.2.1 5)) (C := RX2) (T := TX2) (N := 7) hx hb hT iX2 hown hK hP 0 rfl rfl 5 (by decide) (hT _ fw_X2_28) (fun _ h9 => h9) rfl dX2_readOffset_17 ?_
    refine lv_istore_n (lv' := [(2, .int (r1.2.1 5)), (0, .ref h_t), (1, .ref h_a1)]) hx hb dX2_readOffset_20 rfl hl (by decide) rfl (fun ls hl => ?_)
    refine lv_aload_n hx hb dX2_readOffset_21 rfl (lv_at hl 1 rfl) ?_
    obtain ⟨r5, e6, hf⟩ := bind_some hf
    refine callVv (As := []) (rest := []) M (mX2_takeToken l D cs sk h_t q_t k (r1.2.1, d_t.2) e6) mw_X2_40 ln_X2_takeToken ⟨rfl, rfl, Nat.le_of_ble_eq_true rfl, Nat.le_of_ble_eq_true rfl⟩ hP hD hS hA [0, 1] (by decide) rfl rfl (q0 := 0) rfl rfl rfl ⟨Nat.zero_le _, Nat.zero_le _⟩ hl.1 rfl (Nat.le_of_ble_eq_true rfl) dX2_readOffset_22 (fun H locs hP hD hS => ?_)
    replace hP : va_P D vwCl [oX2 h_t q_t (r5.1), ((q_t 0), .inl (cs 1, 250, .inl (d_t.2 0))), oX0 h_a1 q_a1 (d_a1.1), ((q_a1 4), .inl (cs 0, 6, .inl (d_a1.2 4)))] H := hP
    replace hD : va_D A [oX2 h_t q_t (r5.1), ((q_t 0), .inl (cs 1, 250, .inl (d_t.2 0))), oX0 h_a1 q_a1 (d_a1.1), ((q_a1 4), .inl (cs 0, 6, .inl (d_a1.2 4)))] := hD
    refine lv_aload_n hx hb dX2_readOffset_25 rfl (lv_at hl 1 rfl) ?_
    refine va_get (D := D) (ci := 2) (v := .int (r5.1 4)) (C := RX2) (T := TX2) (N := 7) hx hb hT iX2 hown hK hP 0 rfl rfl 4 (by decide) (hT _ fw_X2_25) (fun _ h9 => h9) rfl dX2_readOffset_26 ?_
    refine lv_iconst (v := 3) hx hb dX2_readOffset_29 rfl ?_
    have g8 := ite_some hf
    refine lv_icmp_ne (tgt := 37) hx hb dX2_readOffset_30 (by decide) (fun c7 => ?_) (fun c7 => ?_)
    · replace hf := g8.2 c7
      refine lv_iconst (v := 0) hx hb dX2_readOffset_37 rfl ?_
      refine lv_istore_n (lv' := [(3, .int 0), (2, .int (r1.2.1 5)), (0, .ref h_t), (1, .ref h_a1)]) hx hb dX2_readOffset_38 rfl hl (by decide) rfl (fun ls hl => ?_)
      refine lv_iload_n hx hb dX2_readOffset_39 rfl (lv_at hl 0 rfl) ?_
      have g10 := ite_some hf
      refine lv_if_eq (tgt := 47) hx hb dX2_readOffset_40 (by decide) (fun c9 => ?_) (fun c9 => ?_)
      · replace hf := g10.1 c9
        refine lv_aload_n hx hb dX2_readOffset_47 rfl (lv_at hl 2 rfl) ?_
        refine lv_iconst (v := 0) hx hb dX2_readOffset_48 rfl ?_
        refine lv_sipush (v := 500) hx hb dX2_readOffset_49 rfl ?_
        obtain ⟨r11, e12, hf⟩ := bind_some hf
        refine callVi (As := [.int 0, .int 500]) (rest := []) M (mX2_isNumber l D cs sk h_t q_t k (r5.1, d_t.2) 0 500 e12) mw_X2_124 ln_X2_isNumber ⟨rfl, rfl, Nat.le_of_ble_eq_true rfl, Nat.le_of_ble_eq_true rfl⟩ hP hD hS hA [0] (by decide) rfl rfl (q0 := 0) rfl rfl rfl ⟨Nat.zero_le _, Nat.zero_le _⟩ hl.1 rfl (Nat.le_of_ble_eq_true rfl) dX2_readOffset_52 (fun H locs hP hD hS => ?_)
        replace hP : va_P D vwCl [oX2 h_t q_t (r5.1), ((q_t 0), .inl (cs 1, 250, .inl (d_t.2 0))), oX0 h_a1 q_a1 (d_a1.1), ((q_a1 4), .inl (cs 0, 6, .inl (d_a1.2 4)))] H := hP
        replace hD : va_D A [oX2 h_t q_t (r5.1), ((q_t 0), .inl (cs 1, 250, .inl (d_t.2 0))), oX0 h_a1 q_a1 (d_a1.1), ((q_a1 4), .inl (cs 0, 6, .inl (d_a1.2 4)))] := hD
        have g14 := ite_some hf
        refine lv_if_ne (tgt := 60) hx hb dX2_readOffset_55 (by decide) (fun c13 => ?_) (fun c13 => ?_)
        · replace hf := g14.2 c13
          refine lv_aload_n hx hb dX2_readOffset_60 rfl (lv_at hl 3 rfl) ?_
          refine va_get (D := D) (ci := 0) (v := .ref (q_a1 4)) (C := RX0) (T := TX0) (N := 10) hx hb hT iX0 hown hK hP 2 rfl rfl 4 (by decide) (hT _ fw_X2_127) (fun _ h9 => h9) rfl dX2_readOffset_61 ?_
          refine lv_iload_n hx hb dX2_readOffset_64 rfl (lv_at hl 1 rfl) ?_
          refine lv_iload_n hx hb dX2_readOffset_65 rfl (lv_at hl 0 rfl) ?_
          have g16 := ite_some hf
          refine lv_if_eq (tgt := 77) hx hb dX2_readOffset_66 (by decide) (fun c15 => ?_) (fun c15 => ?_)
          · replace hf := g16.1 c15
            refine lv_aload_n hx hb dX2_readOffset_77 rfl (lv_at hl 2 rfl) ?_
            refine va_get (D := D) (ci := 2) (v := .int (r5.1 5)) (C := RX2) (T := TX2) (N := 7) hx hb hT iX2 hown hK hP 0 rfl rfl 5 (by decide) (hT _ fw_X2_28) (fun _ h9 => h9) rfl dX2_readOffset_78 ?_
            obtain ⟨hi, hf⟩ := chk_some hf
            refine va_iast (D := D) hx hb hK hP hD hS 3 0 rfl rfl hi dX2_readOffset_81 (fun H locs hP hD hS => ?_)
            replace hP : va_P D vwCl [oX2 h_t q_t (r5.1), ((q_t 0), .inl (cs 1, 250, .inl (d_t.2 0))), oX0 h_a1 q_a1 (d_a1.1), ((q_a1 4), .inl (cs 0, 6, .inl (upd (d_a1.2 4) (r1.2.1 5).toNatClampNeg (r5.1 5))))] H := hP
            replace hD : va_D A [oX2 h_t q_t (r5.1), ((q_t 0), .inl (cs 1, 250, .inl (d_t.2 0))), oX0 h_a1 q_a1 (d_a1.1), ((q_a1 4), .inl (cs 0, 6, .inl (upd (d_a1.2 4) (r1.2.1 5).toNatClampNeg (r5.1 5))))] := hD
            refine lv_aload_n hx hb dX2_readOffset_82 rfl (lv_at hl 2 rfl) ?_
            obtain ⟨r17, e18, hf⟩ := bind_some hf
            refine callVi (As := []) (rest := []) M (mX2_takeStop l D cs sk h_t q_t k (r5.1, d_t.2) e18) mw_X2_95 ln_X2_takeStop ⟨rfl, rfl, Nat.le_of_ble_eq_true rfl, Nat.le_of_ble_eq_true rfl⟩ hP hD hS hA [0, 1] (by decide) rfl rfl (q0 := 0) rfl rfl rfl ⟨Nat.zero_le _, Nat.zero_le _⟩ hl.1 rfl (Nat.le_of_ble_eq_true rfl) dX2_readOffset_83 (fun H locs hP hD hS => ?_)
            replace hP : va_P D vwCl [oX2 h_t q_t (r17.2.1), ((q_t 0), .inl (cs 1, 250, .inl (d_t.2 0))), oX0 h_a1 q_a1 (d_a1.1), ((q_a1 4), .inl (cs 0, 6, .inl (upd (d_a1.2 4) (r1.2.1 5).toNatClampNeg (r5.1 5))))] H := hP
            replace hD : va_D A [oX2 h_t q_t (r17.2.1), ((q_t 0), .inl (cs 1, 250, .inl (d_t.2 0))), oX0 h_a1 q_a1 (d_a1.1), ((q_a1 4), .inl (cs 0, 6, .inl (upd (d_a1.2 4) (r1.2.1 5).toNatClampNeg (r5.1 5))))] := hD
            obtain ⟨h01, hf⟩ := chb_some hf
            have e9 := Option.some.inj hf
            subst e9
            exact hR _ _ _ _ dX2_readOffset_86 h01 hP hS
          · replace hf := g16.2 c15
            refine lv_aload_n hx hb dX2_readOffset_69 rfl (lv_at hl 2 rfl) ?_
            refine va_get (D := D) (ci := 2) (v := .int (r5.1 5)) (C := RX2) (T := TX2) (N := 7) hx hb hT iX2 hown hK hP 0 rfl rfl 5 (by decide) (hT _ fw_X2_28) (fun _ h9 => h9) rfl dX2_readOffset_70 ?_
            refine lv_ineg hx hb dX2_readOffset_73 ?_
            refine lv_goto (tgt := 81) hx hb dX2_readOffset_74 (by decide) ?_
            obtain ⟨hi, hf⟩ := chk_some hf
            refine va_iast (D := D) hx hb hK hP hD hS 3 0 rfl rfl hi dX2_readOffset_81 (fun H locs hP hD hS => ?_)
            replace hP : va_P D vwCl [oX2 h_t q_t (r5.1), ((q_t 0), .inl (cs 1, 250, .inl (d_t.2 0))), oX0 h_a1 q_a1 (d_a1.1), ((q_a1 4), .inl (cs 0, 6, .inl (upd (d_a1.2 4) (r1.2.1 5).toNatClampNeg (-(r5.1 5)))))] H := hP
            replace hD : va_D A [oX2 h_t q_t (r5.1), ((q_t 0), .inl (cs 1, 250, .inl (d_t.2 0))), oX0 h_a1 q_a1 (d_a1.1), ((q_a1 4), .inl (cs 0, 6, .inl (upd (d_a1.2 4) (r1.2.1 5).toNatClampNeg (-(r5.1 5)))))] := hD
            refine lv_aload_n hx hb dX2_readOffset_82 rfl (lv_at hl 2 rfl) ?_
            obtain ⟨r19, e20, hf⟩ := bind_some hf
            refine callVi (As := []) (rest := []) M (mX2_takeStop l D cs sk h_t q_t k (r5.1, d_t.2) e20) mw_X2_95 ln_X2_takeStop ⟨rfl, rfl, Nat.le_of_ble_eq_true rfl, Nat.le_of_ble_eq_true rfl⟩ hP hD hS hA [0, 1] (by decide) rfl rfl (q0 := 0) rfl rfl rfl ⟨Nat.zero_le _, Nat.zero_le _⟩ hl.1 rfl (Nat.le_of_ble_eq_true rfl) dX2_readOffset_83 (fun H locs hP hD hS => ?_)
            replace hP : va_P D vwCl [oX2 h_t q_t (r19.2.1), ((q_t 0), .inl (cs 1, 250, .inl (d_t.2 0))), oX0 h_a1 q_a1 (d_a1.1), ((q_a1 4), .inl (cs 0, 6, .inl (upd (d_a1.2 4) (r1.2.1 5).toNatClampNeg (-(r5.1 5)))))] H := hP
            replace hD : va_D A [oX2 h_t q_t (r19.2.1), ((q_t 0), .inl (cs 1, 250, .inl (d_t.2 0))), oX0 h_a1 q_a1 (d_a1.1), ((q_a1 4), .inl (cs 0, 6, .inl (upd (d_a1.2 4) (r1.2.1 5).toNatClampNeg (-(r5.1 5)))))] := hD
            obtain ⟨h01, hf⟩ := chb_some hf
            have e9 := Option.some.inj hf
            subst e9
            exact hR _ _ _ _ dX2_readOffset_86 h01 hP hS
        · replace hf := g14.1 c13
          refine lv_iconst (v := 0) hx hb dX2_readOffset_58 rfl ?_
          have e9 := Option.some.inj hf
          subst e9
          exact hR _ _ _ _ dX2_readOffset_59 (Or.inl rfl) hP hS
      · replace hf := g10.2 c9
        refine lv_aload_n hx hb dX2_readOffset_43 rfl (lv_at hl 2 rfl) ?_
        obtain ⟨r21, e22, hf⟩ := bind_some hf
        refine callVv (As := []) (rest := []) M (mX2_takeToken l D cs sk h_t q_t k (r5.1, d_t.2) e22) mw_X2_40 ln_X2_takeToken ⟨rfl, rfl, Nat.le_of_ble_eq_true rfl, Nat.le_of_ble_eq_true rfl⟩ hP hD hS hA [0, 1] (by decide) rfl rfl (q0 := 0) rfl rfl rfl ⟨Nat.zero_le _, Nat.zero_le _⟩ hl.1 rfl (Nat.le_of_ble_eq_true rfl) dX2_readOffset_44 (fun H locs hP hD hS => ?_)
        replace hP : va_P D vwCl [oX2 h_t q_t (r21.1), ((q_t 0), .inl (cs 1, 250, .inl (d_t.2 0))), oX0 h_a1 q_a1 (d_a1.1), ((q_a1 4), .inl (cs 0, 6, .inl (d_a1.2 4)))] H := hP
        replace hD : va_D A [oX2 h_t q_t (r21.1), ((q_t 0), .inl (cs 1, 250, .inl (d_t.2 0))), oX0 h_a1 q_a1 (d_a1.1), ((q_a1 4), .inl (cs 0, 6, .inl (d_a1.2 4)))] := hD
        refine lv_aload_n hx hb dX2_readOffset_47 rfl (lv_at hl 2 rfl) ?_
        refine lv_iconst (v := 0) hx hb dX2_readOffset_48 rfl ?_
        refine lv_sipush (v := 500) hx hb dX2_readOffset_49 rfl ?_
        obtain ⟨r23, e24, hf⟩ := bind_some hf
        refine callVi (As := [.int 0, .int 500]) (rest := []) M (mX2_isNumber l D cs sk h_t q_t k (r21.1, d_t.2) 0 500 e24) mw_X2_124 ln_X2_isNumber ⟨rfl, rfl, Nat.le_of_ble_eq_true rfl, Nat.le_of_ble_eq_true rfl⟩ hP hD hS hA [0] (by decide) rfl rfl (q0 := 0) rfl rfl rfl ⟨Nat.zero_le _, Nat.zero_le _⟩ hl.1 rfl (Nat.le_of_ble_eq_true rfl) dX2_readOffset_52 (fun H locs hP hD hS => ?_)
        replace hP : va_P D vwCl [oX2 h_t q_t (r21.1), ((q_t 0), .inl (cs 1, 250, .inl (d_t.2 0))), oX0 h_a1 q_a1 (d_a1.1), ((q_a1 4), .inl (cs 0, 6, .inl (d_a1.2 4)))] H := hP
        replace hD : va_D A [oX2 h_t q_t (r21.1), ((q_t 0), .inl (cs 1, 250, .inl (d_t.2 0))), oX0 h_a1 q_a1 (d_a1.1), ((q_a1 4), .inl (cs 0, 6, .inl (d_a1.2 4)))] := hD
        have g26 := ite_some hf
        refine lv_if_ne (tgt := 60) hx hb dX2_readOffset_55 (by decide) (fun c25 => ?_) (fun c25 => ?_)
        · replace hf := g26.2 c25
          refine lv_aload_n hx hb dX2_readOffset_60 rfl (lv_at hl 3 rfl) ?_
          refine va_get (D := D) (ci := 0) (v := .ref (q_a1 4)) (C := RX0) (T := TX0) (N := 10) hx hb hT iX0 hown hK hP 2 rfl rfl 4 (by decide) (hT _ fw_X2_127) (fun _ h9 => h9) rfl dX2_readOffset_61 ?_
          refine lv_iload_n hx hb dX2_readOffset_64 rfl (lv_at hl 1 rfl) ?_
          refine lv_iload_n hx hb dX2_readOffset_65 rfl (lv_at hl 0 rfl) ?_
          have g28 := ite_some hf
          refine lv_if_eq (tgt := 77) hx hb dX2_readOffset_66 (by decide) (fun c27 => ?_) (fun c27 => ?_)
          · replace hf := g28.1 c27
            refine lv_aload_n hx hb dX2_readOffset_77 rfl (lv_at hl 2 rfl) ?_
            refine va_get (D := D) (ci := 2) (v := .int (r21.1 5)) (C := RX2) (T := TX2) (N := 7) hx hb hT iX2 hown hK hP 0 rfl rfl 5 (by decide) (hT _ fw_X2_28) (fun _ h9 => h9) rfl dX2_readOffset_78 ?_
            obtain ⟨hi, hf⟩ := chk_some hf
            refine va_iast (D := D) hx hb hK hP hD hS 3 0 rfl rfl hi dX2_readOffset_81 (fun H locs hP hD hS => ?_)
            replace hP : va_P D vwCl [oX2 h_t q_t (r21.1), ((q_t 0), .inl (cs 1, 250, .inl (d_t.2 0))), oX0 h_a1 q_a1 (d_a1.1), ((q_a1 4), .inl (cs 0, 6, .inl (upd (d_a1.2 4) (r1.2.1 5).toNatClampNeg (r21.1 5))))] H := hP
            replace hD : va_D A [oX2 h_t q_t (r21.1), ((q_t 0), .inl (cs 1, 250, .inl (d_t.2 0))), oX0 h_a1 q_a1 (d_a1.1), ((q_a1 4), .inl (cs 0, 6, .inl (upd (d_a1.2 4) (r1.2.1 5).toNatClampNeg (r21.1 5))))] := hD
            refine lv_aload_n hx hb dX2_readOffset_82 rfl (lv_at hl 2 rfl) ?_
            obtain ⟨r29, e30, hf⟩ := bind_some hf
            refine callVi (As := []) (rest := []) M (mX2_takeStop l D cs sk h_t q_t k (r21.1, d_t.2) e30) mw_X2_95 ln_X2_takeStop ⟨rfl, rfl, Nat.le_of_ble_eq_true rfl, Nat.le_of_ble_eq_true rfl⟩ hP hD hS hA [0, 1] (by decide) rfl rfl (q0 := 0) rfl rfl rfl ⟨Nat.zero_le _, Nat.zero_le _⟩ hl.1 rfl (Nat.le_of_ble_eq_true rfl) dX2_readOffset_83 (fun H locs hP hD hS => ?_)
            replace hP : va_P D vwCl [oX2 h_t q_t (r29.2.1), ((q_t 0), .inl (cs 1, 250, .inl (d_t.2 0))), oX0 h_a1 q_a1 (d_a1.1), ((q_a1 4), .inl (cs 0, 6, .inl (upd (d_a1.2 4) (r1.2.1 5).toNatClampNeg (r21.1 5))))] H := hP
            replace hD : va_D A [oX2 h_t q_t (r29.2.1), ((q_t 0), .inl (cs 1, 250, .inl (d_t.2 0))), oX0 h_a1 q_a1 (d_a1.1), ((q_a1 4), .inl (cs 0, 6, .inl (upd (d_a1.2 4) (r1.2.1 5).toNatClampNeg (r21.1 5))))] := hD
            obtain ⟨h01, hf⟩ := chb_some hf
            have e9 := Option.some.inj hf
            subst e9
            exact hR _ _ _ _ dX2_readOffset_86 h01 hP hS
          · replace hf := g28.2 c27
            refine lv_aload_n hx hb dX2_readOffset_69 rfl (lv_at hl 2 rfl) ?_
            refine va_get (D := D) (ci := 2) (v := .int (r21.1 5)) (C := RX2) (T := TX2) (N := 7) hx hb hT iX2 hown hK hP 0 rfl rfl 5 (by decide) (hT _ fw_X2_28) (fun _ h9 => h9) rfl dX2_readOffset_70 ?_
            refine lv_ineg hx hb dX2_readOffset_73 ?_
            refine lv_goto (tgt := 81) hx hb dX2_readOffset_74 (by decide) ?_
            obtain ⟨hi, hf⟩ := chk_some hf
            refine va_iast (D := D) hx hb hK hP hD hS 3 0 rfl rfl hi dX2_readOffset_81 (fun H locs hP hD hS => ?_)
            replace hP : va_P D vwCl [oX2 h_t q_t (r21.1), ((q_t 0), .inl (cs 1, 250, .inl (d_t.2 0))), oX0 h_a1 q_a1 (d_a1.1), ((q_a1 4), .inl (cs 0, 6, .inl (upd (d_a1.2 4) (r1.2.1 5).toNatClampNeg (-(r21.1 5)))))] H := hP
            replace hD : va_D A [oX2 h_t q_t (r21.1), ((q_t 0), .inl (cs 1, 250, .inl (d_t.2 0))), oX0 h_a1 q_a1 (d_a1.1), ((q_a1 4), .inl (cs 0, 6, .inl (upd (d_a1.2 4) (r1.2.1 5).toNatClampNeg (-(r21.1 5)))))] := hD
            refine lv_aload_n hx hb dX2_readOffset_82 rfl (lv_at hl 2 rfl) ?_
            obtain ⟨r31, e32, hf⟩ := bind_some hf
            refine callVi (As := []) (rest := []) M (mX2_takeStop l D cs sk h_t q_t k (r21.1, d_t.2) e32) mw_X2_95 ln_X2_takeStop ⟨rfl, rfl, Nat.le_of_ble_eq_true rfl, Nat.le_of_ble_eq_true rfl⟩ hP hD hS hA [0, 1] (by decide) rfl rfl (q0 := 0) rfl rfl rfl ⟨Nat.zero_le _, Nat.zero_le _⟩ hl.1 rfl (Nat.le_of_ble_eq_true rfl) dX2_readOffset_83 (fun H locs hP hD hS => ?_)
            replace hP : va_P D vwCl [oX2 h_t q_t (r31.2.1), ((q_t 0), .inl (cs 1, 250, .inl (d_t.2 0))), oX0 h_a1 q_a1 (d_a1.1), ((q_a1 4), .inl (cs 0, 6, .inl (upd (d_a1.2 4) (r1.2.1 5).toNatClampNeg (-(r21.1 5)))))] H := hP
            replace hD : va_D A [oX2 h_t q_t (r31.2.1), ((q_t 0), .inl (cs 1, 250, .inl (d_t.2 0))), oX0 h_a1 q_a1 (d_a1.1), ((q_a1 4), .inl (cs 0, 6, .inl (upd (d_a1.2 4) (r1.2.1 5).toNatClampNeg (-(r21.1 5)))))] := hD
            obtain ⟨h01, hf⟩ := chb_some hf
            have e9 := Option.some.inj hf
            subst e9
            exact hR _ _ _ _ dX2_readOffset_86 h01 hP hS
        · replace hf := g26.1 c25
          refine lv_iconst (v := 0) hx hb dX2_readOffset_58 rfl ?_
          have e9 := Option.some.inj hf
          subst e9
          exact hR _ _ _ _ dX2_readOffset_59 (Or.inl rfl) hP hS
    · replace hf := g8.1 c7
      refine lv_iconst (v := 1) hx hb dX2_readOffset_33 rfl ?_
      refine lv_goto (tgt := 38) hx hb dX2_readOffset_34 (by decide) ?_
      refine lv_istore_n (lv' := [(3, .int 1), (2, .int (r1.2.1 5)), (0, .ref h_t), (1, .ref h_a1)]) hx hb dX2_readOffset_38 rfl hl (by decide) rfl (fun ls hl => ?_)
      refine lv_iload_n hx hb dX2_readOffset_39 rfl (lv_at hl 0 rfl) ?_
      have g34 := ite_some hf
      refine lv_if_eq (tgt := 47) hx hb dX2_readOffset_40 (by decide) (fun c33 => ?_) (fun c33 => ?_)
      · replace hf := g34.1 c33
        refine lv_aload_n hx hb dX2_readOffset_47 rfl (lv_at hl 2 rfl) ?_
        refine lv_iconst (v := 0) hx hb dX2_readOffset_48 rfl ?_
        refine lv_sipush (v := 500) hx hb dX2_readOffset_49 rfl ?_
        obtain ⟨r35, e36, hf⟩ := bind_some hf
        refine callVi (As := [.int 0, .int 500]) (rest := []) M (mX2_isNumber l D cs sk h_t q_t k (r5.1, d_t.2) 0 500 e36) mw_X2_124 ln_X2_isNumber ⟨rfl, rfl, Nat.le_of_ble_eq_true rfl, Nat.le_of_ble_eq_true rfl⟩ hP hD hS hA [0] (by decide) rfl rfl (q0 := 0) rfl rfl rfl ⟨Nat.zero_le _, Nat.zero_le _⟩ hl.1 rfl (Nat.le_of_ble_eq_true rfl) dX2_readOffset_52 (fun H locs hP hD hS => ?_)
        replace hP : va_P D vwCl [oX2 h_t q_t (r5.1), ((q_t 0), .inl (cs 1, 250, .inl (d_t.2 0))), oX0 h_a1 q_a1 (d_a1.1), ((q_a1 4), .inl (cs 0, 6, .inl (d_a1.2 4)))] H := hP
        replace hD : va_D A [oX2 h_t q_t (r5.1), ((q_t 0), .inl (cs 1, 250, .inl (d_t.2 0))), oX0 h_a1 q_a1 (d_a1.1), ((q_a1 4), .inl (cs 0, 6, .inl (d_a1.2 4)))] := hD
        have g38 := ite_some hf
        refine lv_if_ne (tgt := 60) hx hb dX2_readOffset_55 (by decide) (fun c37 => ?_) (fun c37 => ?_)
        · replace hf := g38.2 c37
          refine lv_aload_n hx hb dX2_readOffset_60 rfl (lv_at hl 3 rfl) ?_
          refine va_get (D := D) (ci := 0) (v := .ref (q_a1 4)) (C := RX0) (T := TX0) (N := 10) hx hb hT iX0 hown hK hP 2 rfl rfl 4 (by decide) (hT _ fw_X2_127) (fun _ h9 => h9) rfl dX2_readOffset_61 ?_
          refine lv_iload_n hx hb dX2_readOffset_64 rfl (lv_at hl 1 rfl) ?_
          refine lv_iload_n hx hb dX2_readOffset_65 rfl (lv_at hl 0 rfl) ?_
          have g40 := ite_some hf
          refine lv_if_eq (tgt := 77) hx hb dX2_readOffset_66 (by decide) (fun c39 => ?_) (fun c39 => ?_)
          · replace hf := g40.1 c39
            refine lv_aload_n hx hb dX2_readOffset_77 rfl (lv_at hl 2 rfl) ?_
            refine va_get (D := D) (ci := 2) (v := .int (r5.1 5)) (C := RX2) (T := TX2) (N := 7) hx hb hT iX2 hown hK hP 0 rfl rfl 5 (by decide) (hT _ fw_X2_28) (fun _ h9 => h9) rfl dX2_readOffset_78 ?_
            obtain ⟨hi, hf⟩ := chk_some hf
            refine va_iast (D := D) hx hb hK hP hD hS 3 0 rfl rfl hi dX2_readOffset_81 (fun H locs hP hD hS => ?_)
            replace hP : va_P D vwCl [oX2 h_t q_t (r5.1), ((q_t 0), .inl (cs 1, 250, .inl (d_t.2 0))), oX0 h_a1 q_a1 (d_a1.1), ((q_a1 4), .inl (cs 0, 6, .inl (upd (d_a1.2 4) (r1.2.1 5).toNatClampNeg (r5.1 5))))] H := hP
            replace hD : va_D A [oX2 h_t q_t (r5.1), ((q_t 0), .inl (cs 1, 250, .inl (d_t.2 0))), oX0 h_a1 q_a1 (d_a1.1), ((q_a1 4), .inl (cs 0, 6, .inl (upd (d_a1.2 4) (r1.2.1 5).toNatClampNeg (r5.1 5))))] := hD
            refine lv_aload_n hx hb dX2_readOffset_82 rfl (lv_at hl 2 rfl) ?_
            obtain ⟨r41, e42, hf⟩ := bind_some hf
            refine callVi (As := []) (rest := []) M (mX2_takeStop l D cs sk h_t q_t k (r5.1, d_t.2) e42) mw_X2_95 ln_X2_takeStop ⟨rfl, rfl, Nat.le_of_ble_eq_true rfl, Nat.le_of_ble_eq_true rfl⟩ hP hD hS hA [0, 1] (by decide) rfl rfl (q0 := 0) rfl rfl rfl ⟨Nat.zero_le _, Nat.zero_le _⟩ hl.1 rfl (Nat.le_of_ble_eq_true rfl) dX2_readOffset_83 (fun H locs hP hD hS => ?_)
            replace hP : va_P D vwCl [oX2 h_t q_t (r41.2.1), ((q_t 0), .inl (cs 1, 250, .inl (d_t.2 0))), oX0 h_a1 q_a1 (d_a1.1), ((q_a1 4), .inl (cs 0, 6, .inl (upd (d_a1.2 4) (r1.2.1 5).toNatClampNeg (r5.1 5))))] H := hP
            replace hD : va_D A [oX2 h_t q_t (r41.2.1), ((q_t 0), .inl (cs 1, 250, .inl (d_t.2 0))), oX0 h_a1 q_a1 (d_a1.1), ((q_a1 4), .inl (cs 0, 6, .inl (upd (d_a1.2 4) (r1.2.1 5).toNatClampNeg (r5.1 5))))] := hD
            obtain ⟨h01, hf⟩ := chb_some hf
            have e9 := Option.some.inj hf
            subst e9
            exact hR _ _ _ _ dX2_readOffset_86 h01 hP hS
          · replace hf := g40.2 c39
            refine lv_aload_n hx hb dX2_readOffset_69 rfl (lv_at hl 2 rfl) ?_
            refine va_get (D := D) (ci := 2) (v := .int (r5.1 5)) (C := RX2) (T := TX2) (N := 7) hx hb hT iX2 hown hK hP 0 rfl rfl 5 (by decide) (hT _ fw_X2_28) (fun _ h9 => h9) rfl dX2_readOffset_70 ?_
            refine lv_ineg hx hb dX2_readOffset_73 ?_
            refine lv_goto (tgt := 81) hx hb dX2_readOffset_74 (by decide) ?_
            obtain ⟨hi, hf⟩ := chk_some hf
            refine va_iast (D := D) hx hb hK hP hD hS 3 0 rfl rfl hi dX2_readOffset_81 (fun H locs hP hD hS => ?_)
            replace hP : va_P D vwCl [oX2 h_t q_t (r5.1), ((q_t 0), .inl (cs 1, 250, .inl (d_t.2 0))), oX0 h_a1 q_a1 (d_a1.1), ((q_a1 4), .inl (cs 0, 6, .inl (upd (d_a1.2 4) (r1.2.1 5).toNatClampNeg (-(r5.1 5)))))] H := hP
            replace hD : va_D A [oX2 h_t q_t (r5.1), ((q_t 0), .inl (cs 1, 250, .inl (d_t.2 0))), oX0 h_a1 q_a1 (d_a1.1), ((q_a1 4), .inl (cs 0, 6, .inl (upd (d_a1.2 4) (r1.2.1 5).toNatClampNeg (-(r5.1 5)))))] := hD
            refine lv_aload_n hx hb dX2_readOffset_82 rfl (lv_at hl 2 rfl) ?_
            obtain ⟨r43, e44, hf⟩ := bind_some hf
            refine callVi (As := []) (rest := []) M (mX2_takeStop l D cs sk h_t q_t k (r5.1, d_t.2) e44) mw_X2_95 ln_X2_takeStop ⟨rfl, rfl, Nat.le_of_ble_eq_true rfl, Nat.le_of_ble_eq_true rfl⟩ hP hD hS hA [0, 1] (by decide) rfl rfl (q0 := 0) rfl rfl rfl ⟨Nat.zero_le _, Nat.zero_le _⟩ hl.1 rfl (Nat.le_of_ble_eq_true rfl) dX2_readOffset_83 (fun H locs hP hD hS => ?_)
            replace hP : va_P D vwCl [oX2 h_t q_t (r43.2.1), ((q_t 0), .inl (cs 1, 250, .inl (d_t.2 0))), oX0 h_a1 q_a1 (d_a1.1), ((q_a1 4), .inl (cs 0, 6, .inl (upd (d_a1.2 4) (r1.2.1 5).toNatClampNeg (-(r5.1 5)))))] H := hP
            replace hD : va_D A [oX2 h_t q_t (r43.2.1), ((q_t 0), .inl (cs 1, 250, .inl (d_t.2 0))), oX0 h_a1 q_a1 (d_a1.1), ((q_a1 4), .inl (cs 0, 6, .inl (upd (d_a1.2 4) (r1.2.1 5).toNatClampNeg (-(r5.1 5)))))] := hD
            obtain ⟨h01, hf⟩ := chb_some hf
            have e9 := Option.some.inj hf
            subst e9
            exact hR _ _ _ _ dX2_readOffset_86 h01 hP hS
        · replace hf := g38.1 c37
          refine lv_iconst (v := 0) hx hb dX2_readOffset_58 rfl ?_
          have e9 := Option.some.inj hf
          subst e9
          exact hR _ _ _ _ dX2_readOffset_59 (Or.inl rfl) hP hS
      · replace hf := g34.2 c33
        refine lv_aload_n hx hb dX2_readOffset_43 rfl (lv_at hl 2 rfl) ?_
        obtain ⟨r45, e46, hf⟩ := bind_some hf
        refine callVv (As := []) (rest := []) M (mX2_takeToken l D cs sk h_t q_t k (r5.1, d_t.2) e46) mw_X2_40 ln_X2_takeToken ⟨rfl, rfl, Nat.le_of_ble_eq_true rfl, Nat.le_of_ble_eq_true rfl⟩ hP hD hS hA [0, 1] (by decide) rfl rfl (q0 := 0) rfl rfl rfl ⟨Nat.zero_le _, Nat.zero_le _⟩ hl.1 rfl (Nat.le_of_ble_eq_true rfl) dX2_readOffset_44 (fun H locs hP hD hS => ?_)
        replace hP : va_P D vwCl [oX2 h_t q_t (r45.1), ((q_t 0), .inl (cs 1, 250, .inl (d_t.2 0))), oX0 h_a1 q_a1 (d_a1.1), ((q_a1 4), .inl (cs 0, 6, .inl (d_a1.2 4)))] H := hP
        replace hD : va_D A [oX2 h_t q_t (r45.1), ((q_t 0), .inl (cs 1, 250, .inl (d_t.2 0))), oX0 h_a1 q_a1 (d_a1.1), ((q_a1 4), .inl (cs 0, 6, .inl (d_a1.2 4)))] := hD
        refine lv_aload_n hx hb dX2_readOffset_47 rfl (lv_at hl 2 rfl) ?_
        refine lv_iconst (v := 0) hx hb dX2_readOffset_48 rfl ?_
        refine lv_sipush (v := 500) hx hb dX2_readOffset_49 rfl ?_
        obtain ⟨r47, e48, hf⟩ := bind_some hf
        refine callVi (As := [.int 0, .int 500]) (rest := []) M (mX2_isNumber l D cs sk h_t q_t k (r45.1, d_t.2) 0 500 e48) mw_X2_124 ln_X2_isNumber ⟨rfl, rfl, Nat.le_of_ble_eq_true rfl, Nat.le_of_ble_eq_true rfl⟩ hP hD hS hA [0] (by decide) rfl rfl (q0 := 0) rfl rfl rfl ⟨Nat.zero_le _, Nat.zero_le _⟩ hl.1 rfl (Nat.le_of_ble_eq_true rfl) dX2_readOffset_52 (fun H locs hP hD hS => ?_)
        replace hP : va_P D vwCl [oX2 h_t q_t (r45.1), ((q_t 0), .inl (cs 1, 250, .inl (d_t.2 0))), oX0 h_a1 q_a1 (d_a1.1), ((q_a1 4), .inl (cs 0, 6, .inl (d_a1.2 4)))] H := hP
        replace hD : va_D A [oX2 h_t q_t (r45.1), ((q_t 0), .inl (cs 1, 250, .inl (d_t.2 0))), oX0 h_a1 q_a1 (d_a1.1), ((q_a1 4), .inl (cs 0, 6, .inl (d_a1.2 4)))] := hD
        have g50 := ite_some hf
        refine lv_if_ne (tgt := 60) hx hb dX2_readOffset_55 (by decide) (fun c49 => ?_) (fun c49 => ?_)
        · replace hf := g50.2 c49
          refine lv_aload_n hx hb dX2_readOffset_60 rfl (lv_at hl 3 rfl) ?_
          refine va_get (D := D) (ci := 0) (v := .ref (q_a1 4)) (C := RX0) (T := TX0) (N := 10) hx hb hT iX0 hown hK hP 2 rfl rfl 4 (by decide) (hT _ fw_X2_127) (fun _ h9 => h9) rfl dX2_readOffset_61 ?_
          refine lv_iload_n hx hb dX2_readOffset_64 rfl (lv_at hl 1 rfl) ?_
          refine lv_iload_n hx hb dX2_readOffset_65 rfl (lv_at hl 0 rfl) ?_
          have g52 := ite_some hf
          refine lv_if_eq (tgt := 77) hx hb dX2_readOffset_66 (by decide) (fun c51 => ?_) (fun c51 => ?_)
          · replace hf := g52.1 c51
            refine lv_aload_n hx hb dX2_readOffset_77 rfl (lv_at hl 2 rfl) ?_
            refine va_get (D := D) (ci := 2) (v := .int (r45.1 5)) (C := RX2) (T := TX2) (N := 7) hx hb hT iX2 hown hK hP 0 rfl rfl 5 (by decide) (hT _ fw_X2_28) (fun _ h9 => h9) rfl dX2_readOffset_78 ?_
            obtain ⟨hi, hf⟩ := chk_some hf
            refine va_iast (D := D) hx hb hK hP hD hS 3 0 rfl rfl hi dX2_readOffset_81 (fun H locs hP hD hS => ?_)
            replace hP : va_P D vwCl [oX2 h_t q_t (r45.1), ((q_t 0), .inl (cs 1, 250, .inl (d_t.2 0))), oX0 h_a1 q_a1 (d_a1.1), ((q_a1 4), .inl (cs 0, 6, .inl (upd (d_a1.2 4) (r1.2.1 5).toNatClampNeg (r45.1 5))))] H := hP
            replace hD : va_D A [oX2 h_t q_t (r45.1), ((q_t 0), .inl (cs 1, 250, .inl (d_t.2 0))), oX0 h_a1 q_a1 (d_a1.1), ((q_a1 4), .inl (cs 0, 6, .inl (upd (d_a1.2 4) (r1.2.1 5).toNatClampNeg (r45.1 5))))] := hD
            refine lv_aload_n hx hb dX2_readOffset_82 rfl (lv_at hl 2 rfl) ?_
            obtain ⟨r53, e54, hf⟩ := bind_some hf
            refine callVi (As := []) (rest := []) M (mX2_takeStop l D cs sk h_t q_t k (r45.1, d_t.2) e54) mw_X2_95 ln_X2_takeStop ⟨rfl, rfl, Nat.le_of_ble_eq_true rfl, Nat.le_of_ble_eq_true rfl⟩ hP hD hS hA [0, 1] (by decide) rfl rfl (q0 := 0) rfl rfl rfl ⟨Nat.zero_le _, Nat.zero_le _⟩ hl.1 rfl (Nat.le_of_ble_eq_true rfl) dX2_readOffset_83 (fun H locs hP hD hS => ?_)
            replace hP : va_P D vwCl [oX2 h_t q_t (r53.2.1), ((q_t 0), .inl (cs 1, 250, .inl (d_t.2 0))), oX0 h_a1 q_a1 (d_a1.1), ((q_a1 4), .inl (cs 0, 6, .inl (upd (d_a1.2 4) (r1.2.1 5).toNatClampNeg (r45.1 5))))] H := hP
            replace hD : va_D A [oX2 h_t q_t (r53.2.1), ((q_t 0), .inl (cs 1, 250, .inl (d_t.2 0))), oX0 h_a1 q_a1 (d_a1.1), ((q_a1 4), .inl (cs 0, 6, .inl (upd (d_a1.2 4) (r1.2.1 5).toNatClampNeg (r45.1 5))))] := hD
            obtain ⟨h01, hf⟩ := chb_some hf
            have e9 := Option.some.inj hf
            subst e9
            exact hR _ _ _ _ dX2_readOffset_86 h01 hP hS
          · replace hf := g52.2 c51
            refine lv_aload_n hx hb dX2_readOffset_69 rfl (lv_at hl 2 rfl) ?_
            refine va_get (D := D) (ci := 2) (v := .int (r45.1 5)) (C := RX2) (T := TX2) (N := 7) hx hb hT iX2 hown hK hP 0 rfl rfl 5 (by decide) (hT _ fw_X2_28) (fun _ h9 => h9) rfl dX2_readOffset_70 ?_
            refine lv_ineg hx hb dX2_readOffset_73 ?_
            refine lv_goto (tgt := 81) hx hb dX2_readOffset_74 (by decide) ?_
            obtain ⟨hi, hf⟩ := chk_some hf
            refine va_iast (D := D) hx hb hK hP hD hS 3 0 rfl rfl hi dX2_readOffset_81 (fun H locs hP hD hS => ?_)
            replace hP : va_P D vwCl [oX2 h_t q_t (r45.1), ((q_t 0), .inl (cs 1, 250, .inl (d_t.2 0))), oX0 h_a1 q_a1 (d_a1.1), ((q_a1 4), .inl (cs 0, 6, .inl (upd (d_a1.2 4) (r1.2.1 5).toNatClampNeg (-(r45.1 5)))))] H := hP
            replace hD : va_D A [oX2 h_t q_t (r45.1), ((q_t 0), .inl (cs 1, 250, .inl (d_t.2 0))), oX0 h_a1 q_a1 (d_a1.1), ((q_a1 4), .inl (cs 0, 6, .inl (upd (d_a1.2 4) (r1.2.1 5).toNatClampNeg (-(r45.1 5)))))] := hD
            refine lv_aload_n hx hb dX2_readOffset_82 rfl (lv_at hl 2 rfl) ?_
            obtain ⟨r55, e56, hf⟩ := bind_some hf
            refine callVi (As := []) (rest := []) M (mX2_takeStop l D cs sk h_t q_t k (r45.1, d_t.2) e56) mw_X2_95 ln_X2_takeStop ⟨rfl, rfl, Nat.le_of_ble_eq_true rfl, Nat.le_of_ble_eq_true rfl⟩ hP hD hS hA [0, 1] (by decide) rfl rfl (q0 := 0) rfl rfl rfl ⟨Nat.zero_le _, Nat.zero_le _⟩ hl.1 rfl (Nat.le_of_ble_eq_true rfl) dX2_readOffset_83 (fun H locs hP hD hS => ?_)
            replace hP : va_P D vwCl [oX2 h_t q_t (r55.2.1), ((q_t 0), .inl (cs 1, 250, .inl (d_t.2 0))), oX0 h_a1 q_a1 (d_a1.1), ((q_a1 4), .inl (cs 0, 6, .inl (upd (d_a1.2 4) (r1.2.1 5).toNatClampNeg (-(r45.1 5)))))] H := hP
            replace hD : va_D A [oX2 h_t q_t (r55.2.1), ((q_t 0), .inl (cs 1, 250, .inl (d_t.2 0))), oX0 h_a1 q_a1 (d_a1.1), ((q_a1 4), .inl (cs 0, 6, .inl (upd (d_a1.2 4) (r1.2.1 5).toNatClampNeg (-(r45.1 5)))))] := hD
            obtain ⟨h01, hf⟩ := chb_some hf
            have e9 := Option.some.inj hf
            subst e9
            exact hR _ _ _ _ dX2_readOffset_86 h01 hP hS
        · replace hf := g50.1 c49
          refine lv_iconst (v := 0) hx hb dX2_readOffset_58 rfl ?_
          have e9 := Option.some.inj hf
          subst e9
          exact hR _ _ _ _ dX2_readOffset_59 (Or.inl rfl) hP hS
  · replace hf := g4.1 c3
    refine lv_iconst (v := 0) hx hb dX2_readOffset_14 rfl ?_
    have e9 := Option.some.inj hf
    subst e9
    exact hR _ _ _ _ dX2_readOffset_15 (Or.inl rfl) hP hS
abbrev rm_X2_readItem : Room := { frames := 5, cells := 0, slots := 0, locals := 112 }
def fX2_readItem (k : Nat) (d_t : Dat) (d_a1 : Dat) (d_a2 : Dat) : Option (Int32 × Dat × Dat × Dat) :=
  (if (d_t.1 4) = 1 then (fX2_isWord k d_t 0).bind (fun (r3 : Int32) => (if r3 = 0 then (fX2_isWord k d_t 1).bind (fun (r7 : Int32) => (if r7 = 0 then (fX2_isWord k d_t 2).bind (fun (r11 : Int32) => (if r11 = 0 then (fX2_isWord k d_t 3).bind (fun (r15 : Int32) => (if r15 = 0 then (fX2_isWord k d_t 4).bind (fun (r19 : Int32) => (if r19 = 0 then (fX2_isWord k d_t 5).bind (fun (r23 : Int32) => (if r23 = 0 then some (0, d_t, d_a1, d_a2) else (fX2_readOffset k d_t d_a2).bind (fun (r27 : Int32 × Dat × Dat) => chb (r27.1) (some ((r27.1), (r27.2.1.1, d_t.2), d_a1, (d_a2.1, (va_up d_a2.2 4 (r27.2.2.2 4)))))))) else (fX2_readPlayer k d_t d_a1 d_a2).bind (fun (r29 : Int32 × Dat × Dat) => chb (r29.1) (some ((r29.1), (r29.2.1.1, d_t.2), d_a1, (r29.2.2.1, (va_up (va_up (va_up (va_up (va_up d_a2.2 1 (r29.2.2.2 1)) 2 (r29.2.2.2 2)) 3 (r29.2.2.2 3)) 4 (r29.2.2.2 4)) 5 (r29.2.2.2 5)))))))) else (fX2_readSlow k d_t d_a1).bind (fun (r31 : Int32 × Dat × Dat) => chb (r31.1) (some ((r31.1), (r31.2.1.1, d_t.2), (r31.2.2.1, d_a1.2), d_a2))))) else (fX2_readMill k d_t d_a1).bind (fun (r33 : Int32 × Dat × Dat) => chb (r33.1) (some ((r33.1), (r33.2.1.1, d_t.2), (r33.2.2.1, d_a1.2), d_a2))))) else (fX2_readEar k d_t d_a1).bind (fun (r35 : Int32 × Dat × Dat) => chb (r35.1) (some ((r35.1), (r35.2.1.1, d_t.2), (r35.2.2.1, (va_up (va_up d_a1.2 4 (r35.2.2.2 4)) 5 (r35.2.2.2 5))), d_a2))))) else (fX2_readWindow k d_t d_a1).bind (fun (r37 : Int32 × Dat × Dat) => chb (r37.1) (some ((r37.1), (r37.2.1.1, d_t.2), (r37.2.2.1, (va_up (va_up d_a1.2 1 (r37.2.2.2 1)) 2 (r37.2.2.2 2))), d_a2))))) else some (0, d_t, d_a1, d_a2))
set_option maxHeartbeats 4000000 in
set_option maxRecDepth 100000 in
theorem mX2_readItem (l : Launch) (D : va_G) (cs : Nat → ClassId) (sk : Nat → Nat) (h_t : Nat) (h_a1 : Nat) (h_a2 : Nat) (q_t : Nat → Nat) (q_a1 : Nat → Nat) (q_a2 : Nat → Nat) (k : Nat) (d_t : Dat) (d_a1 : Dat) (d_a2 : Dat) {rv : Int32 × Dat × Dat × Dat} (hf : fX2_readItem k d_t d_a1 d_a2 = some rv) : CTi l yX2_readItem (Cond.code yX2_readItem cX2_readItem 3 (some .boolean) :: gtbl) rm_X2_readItem D cs sk [.ref h_t, .ref h_a1, .ref h_a2] [oX2 h_t q_t (d_t.1), ((q_t 0), .inl (cs 1, 250, .inl (d_t.2 0))), oX4 h_a1 q_a1 (d_a1.1), ((q_a1 1), .inl (cs 0, 6, .inl (d_a1.2 1))), ((q_a1 2), .inl (cs 0, 6, .inl (d_a1.2 2))), ((q_a1 4), .inl (cs 0, 3, .inl (d_a1.2 4))), ((q_a1 5), .inl (cs 0, 3, .inl (d_a1.2 5))), oX0 h_a2 q_a2 (d_a2.1), ((q_a2 1), .inl (cs 0, 6, .inl (d_a2.2 1))), ((q_a2 2), .inl (cs 0, 6, .inl (d_a2.2 2))), ((q_a2 3), .inl (cs 0, 6, .inl (d_a2.2 3))), ((q_a2 4), .inl (cs 0, 6, .inl (d_a2.2 4))), ((q_a2 5), .inl (cs 0, 6, .inl (d_a2.2 5)))] (rv.1) [oX2 h_t q_t (rv.2.1.1), ((q_t 0), .inl (cs 1, 250, .inl (d_t.2 0))), oX4 h_a1 q_a1 (rv.2.2.1.1), ((q_a1 1), .inl (cs 0, 6, .inl (rv.2.2.1.2 1))), ((q_a1 2), .inl (cs 0, 6, .inl (rv.2.2.1.2 2))), ((q_a1 4), .inl (cs 0, 3, .inl (rv.2.2.1.2 4))), ((q_a1 5), .inl (cs 0, 3, .inl (rv.2.2.1.2 5))), oX0 h_a2 q_a2 (rv.2.2.2.1), ((q_a2 1), .inl (cs 0, 6, .inl (rv.2.2.2.2 1))), ((q_a2 2), .inl (cs 0, 6, .inl (rv.2.2.2.2 2))), ((q_a2 3), .inl (cs 0, 6, .inl (rv.2.2.2.2 3))), ((q_a2 4), .inl (cs 0, 6, .inl (rv.2.2.2.2 4))), ((q_a2 5), .inl (cs 0, 6, .inl (rv.2.2.2.2 5)))] := by
  refine CTi.ofZ RX2 (by decide +kernel) rfl (Nat.le_of_ble_eq_true rfl) (fun p e s m args below meth c A Q ls M hA hR hl hP hD hS => ?_)
  obtain ⟨hx, hb, hml, hT, hown, hlk, hrt, hK, hN, hSE⟩ := id M
  replace hl : lv_has ls 3 [(0, .ref h_t), (1, .ref h_a1), (2, .ref h_a2)] := hl
  unfold fX2_readItem at hf
  refine lv_aload_n hx hb dX2_readItem_0 rfl (lv_at hl 0 rfl) ?_
  refine va_get (D := D) (ci := 2) (v := .int (d_t.1 4)) (C := RX2) (T := TX2) (N := 7) hx hb hT iX2 hown hK hP 0 rfl rfl 4 (by decide) (hT _ fw_X2_25) (fun _ h9 => h9) rfl dX2_readItem_1 ?_
  refine lv_iconst (v := 1) hx hb dX2_readItem_4 rfl ?_
  have g2 := ite_some hf
  refine lv_icmp_eq (tgt := 10) hx hb dX2_readItem_5 (by decide) (fun c1 => ?_) (fun c1 => ?_)
  · replace hf := g2.1 c1
    refine lv_aload_n hx hb dX2_readItem_10 rfl (lv_at hl 0 rfl) ?_
    refine va_ldcS hx hb hown (hSE.2.2.2 0 (by decide)) dX2_readItem_11 ?_
    obtain ⟨r3, e4, hf⟩ := bind_some hf
    refine callVi (As := [.ref (sk 0)]) (rest := []) M (mX2_isWord l D cs sk h_t q_t k d_t 0 (by decide) e4) mw_X2_49 ln_X2_isWord ⟨rfl, rfl, Nat.le_of_ble_eq_true rfl, Nat.le_of_ble_eq_true rfl⟩ hP hD hS hA [0, 1] (by decide) rfl rfl (q0 := 0) rfl rfl rfl ⟨Nat.zero_le _, Nat.zero_le _⟩ hl.1 rfl (Nat.le_of_ble_eq_true rfl) dX2_readItem_13 (fun H locs hP hD hS => ?_)
    replace hP : va_P D vwCl [oX2 h_t q_t (d_t.1), ((q_t 0), .inl (cs 1, 250, .inl (d_t.2 0))), oX4 h_a1 q_a1 (d_a1.1), ((q_a1 1), .inl (cs 0, 6, .inl (d_a1.2 1))), ((q_a1 2), .inl (cs 0, 6, .inl (d_a1.2 2))), ((q_a1 4), .inl (cs 0, 3, .inl (d_a1.2 4))), ((q_a1 5), .inl (cs 0, 3, .inl (d_a1.2 5))), oX0 h_a2 q_a2 (d_a2.1), ((q_a2 1), .inl (cs 0, 6, .inl (d_a2.2 1))), ((q_a2 2), .inl (cs 0, 6, .inl (d_a2.2 2))), ((q_a2 3), .inl (cs 0, 6, .inl (d_a2.2 3))), ((q_a2 4), .inl (cs 0, 6, .inl (d_a2.2 4))), ((q_a2 5), .inl (cs 0, 6, .inl (d_a2.2 5)))] H := hP
    replace hD : va_D A [oX2 h_t q_t (d_t.1), ((q_t 0), .inl (cs 1, 250, .inl (d_t.2 0))), oX4 h_a1 q_a1 (d_a1.1), ((q_a1 1), .inl (cs 0, 6, .inl (d_a1.2 1))), ((q_a1 2), .inl (cs 0, 6, .inl (d_a1.2 2))), ((q_a1 4), .inl (cs 0, 3, .inl (d_a1.2 4))), ((q_a1 5), .inl (cs 0, 3, .inl (d_a1.2 5))), oX0 h_a2 q_a2 (d_a2.1), ((q_a2 1), .inl (cs 0, 6, .inl (d_a2.2 1))), ((q_a2 2), .inl (cs 0, 6, .inl (d_a2.2 2))), ((q_a2 3), .inl (cs 0, 6, .inl (d_a2.2 3))), ((q_a2 4), .inl (cs 0, 6, .inl (d_a2.2 4))), ((q_a2 5), .inl (cs 0, 6, .inl (d_a2.2 5)))] := hD
    have g6 := ite_some hf
    refine lv_if_eq (tgt := 25) hx hb dX2_readItem_16 (by decide) (fun c5 => ?_) (fun c5 => ?_)
    · replace hf := g6.1 c5
      refine lv_aload_n hx hb dX2_readItem_25 rfl (lv_at hl 0 rfl) ?_
      refine va_ldcS hx hb hown (hSE.2.2.2 1 (by decide)) dX2_readItem_26 ?_
      obtain ⟨r7, e8, hf⟩ := bind_some hf
      refine callVi (As := [.ref (sk 1)]) (rest := []) M (mX2_isWord l D cs sk h_t q_t k d_t 1 (by decide) e8) mw_X2_49 ln_X2_isWord ⟨rfl, rfl, Nat.le_of_ble_eq_true rfl, Nat.le_of_ble_eq_true rfl⟩ hP hD hS hA [0, 1] (by decide) rfl rfl (q0 := 0) rfl rfl rfl ⟨Nat.zero_le _, Nat.zero_le _⟩ hl.1 rfl (Nat.le_of_ble_eq_true rfl) dX2_readItem_28 (fun H locs hP hD hS => ?_)
      replace hP : va_P D vwCl [oX2 h_t q_t (d_t.1), ((q_t 0), .inl (cs 1, 250, .inl (d_t.2 0))), oX4 h_a1 q_a1 (d_a1.1), ((q_a1 1), .inl (cs 0, 6, .inl (d_a1.2 1))), ((q_a1 2), .inl (cs 0, 6, .inl (d_a1.2 2))), ((q_a1 4), .inl (cs 0, 3, .inl (d_a1.2 4))), ((q_a1 5), .inl (cs 0, 3, .inl (d_a1.2 5))), oX0 h_a2 q_a2 (d_a2.1), ((q_a2 1), .inl (cs 0, 6, .inl (d_a2.2 1))), ((q_a2 2), .inl (cs 0, 6, .inl (d_a2.2 2))), ((q_a2 3), .inl (cs 0, 6, .inl (d_a2.2 3))), ((q_a2 4), .inl (cs 0, 6, .inl (d_a2.2 4))), ((q_a2 5), .inl (cs 0, 6, .inl (d_a2.2 5)))] H := hP
      replace hD : va_D A [oX2 h_t q_t (d_t.1), ((q_t 0), .inl (cs 1, 250, .inl (d_t.2 0))), oX4 h_a1 q_a1 (d_a1.1), ((q_a1 1), .inl (cs 0, 6, .inl (d_a1.2 1))), ((q_a1 2), .inl (cs 0, 6, .inl (d_a1.2 2))), ((q_a1 4), .inl (cs 0, 3, .inl (d_a1.2 4))), ((q_a1 5), .inl (cs 0, 3, .inl (d_a1.2 5))), oX0 h_a2 q_a2 (d_a2.1), ((q_a2 1), .inl (cs 0, 6, .inl (d_a2.2 1))), ((q_a2 2), .inl (cs 0, 6, .inl (d_a2.2 2))), ((q_a2 3), .inl (cs 0, 6, .inl (d_a2.2 3))), ((q_a2 4), .inl (cs 0, 6, .inl (d_a2.2 4))), ((q_a2 5), .inl (cs 0, 6, .inl (d_a2.2 5)))] := hD
      have g10 := ite_some hf
      refine lv_if_eq (tgt := 40) hx hb dX2_readItem_31 (by decide) (fun c9 => ?_) (fun c9 => ?_)
      · replace hf := g10.1 c9
        refine lv_aload_n hx hb dX2_readItem_40 rfl (lv_at hl 0 rfl) ?_
        refine va_ldcS hx hb hown (hSE.2.2.2 2 (by decide)) dX2_readItem_41 ?_
        obtain ⟨r11, e12, hf⟩ := bind_some hf
        refine callVi (As := [.ref (sk 2)]) (rest := []) M (mX2_isWord l D cs sk h_t q_t k d_t 2 (by decide) e12) mw_X2_49 ln_X2_isWord ⟨rfl, rfl, Nat.le_of_ble_eq_true rfl, Nat.le_of_ble_eq_true rfl⟩ hP hD hS hA [0, 1] (by decide) rfl rfl (q0 := 0) rfl rfl rfl ⟨Nat.zero_le _, Nat.zero_le _⟩ hl.1 rfl (Nat.le_of_ble_eq_true rfl) dX2_readItem_43 (fun H locs hP hD hS => ?_)
        replace hP : va_P D vwCl [oX2 h_t q_t (d_t.1), ((q_t 0), .inl (cs 1, 250, .inl (d_t.2 0))), oX4 h_a1 q_a1 (d_a1.1), ((q_a1 1), .inl (cs 0, 6, .inl (d_a1.2 1))), ((q_a1 2), .inl (cs 0, 6, .inl (d_a1.2 2))), ((q_a1 4), .inl (cs 0, 3, .inl (d_a1.2 4))), ((q_a1 5), .inl (cs 0, 3, .inl (d_a1.2 5))), oX0 h_a2 q_a2 (d_a2.1), ((q_a2 1), .inl (cs 0, 6, .inl (d_a2.2 1))), ((q_a2 2), .inl (cs 0, 6, .inl (d_a2.2 2))), ((q_a2 3), .inl (cs 0, 6, .inl (d_a2.2 3))), ((q_a2 4), .inl (cs 0, 6, .inl (d_a2.2 4))), ((q_a2 5), .inl (cs 0, 6, .inl (d_a2.2 5)))] H := hP
        replace hD : va_D A [oX2 h_t q_t (d_t.1), ((q_t 0), .inl (cs 1, 250, .inl (d_t.2 0))), oX4 h_a1 q_a1 (d_a1.1), ((q_a1 1), .inl (cs 0, 6, .inl (d_a1.2 1))), ((q_a1 2), .inl (cs 0, 6, .inl (d_a1.2 2))), ((q_a1 4), .inl (cs 0, 3, .inl (d_a1.2 4))), ((q_a1 5), .inl (cs 0, 3, .inl (d_a1.2 5))), oX0 h_a2 q_a2 (d_a2.1), ((q_a2 1), .inl (cs 0, 6, .inl (d_a2.2 1))), ((q_a2 2), .inl (cs 0, 6, .inl (d_a2.2 2))), ((q_a2 3), .inl (cs 0, 6, .inl (d_a2.2 3))), ((q_a2 4), .inl (cs 0, 6, .inl (d_a2.2 4))), ((q_a2 5), .inl (cs 0, 6, .inl (d_a2.2 5)))] := hD
        have g14 := ite_some hf
        refine lv_if_eq (tgt := 55) hx hb dX2_readItem_46 (by decide) (fun c13 => ?_) (fun c13 => ?_)
        · replace hf := g14.1 c13
          refine lv_aload_n hx hb dX2_readItem_55 rfl (lv_at hl 0 rfl) ?_
          refine va_ldcS hx hb hown (hSE.2.2.2 3 (by decide)) dX2_readItem_56 ?_
          obtain ⟨r15, e16, hf⟩ := bind_some hf
          refine callVi (As := [.ref (sk 3)]) (rest := []) M (mX2_isWord l D cs sk h_t q_t k d_t 3 (by decide) e16) mw_X2_49 ln_X2_isWord ⟨rfl, rfl, Nat.le_of_ble_eq_true rfl, Nat.le_of_ble_eq_true rfl⟩ hP hD hS hA [0, 1] (by decide) rfl rfl (q0 := 0) rfl rfl rfl ⟨Nat.zero_le _, Nat.zero_le _⟩ hl.1 rfl (Nat.le_of_ble_eq_true rfl) dX2_readItem_58 (fun H locs hP hD hS => ?_)
          replace hP : va_P D vwCl [oX2 h_t q_t (d_t.1), ((q_t 0), .inl (cs 1, 250, .inl (d_t.2 0))), oX4 h_a1 q_a1 (d_a1.1), ((q_a1 1), .inl (cs 0, 6, .inl (d_a1.2 1))), ((q_a1 2), .inl (cs 0, 6, .inl (d_a1.2 2))), ((q_a1 4), .inl (cs 0, 3, .inl (d_a1.2 4))), ((q_a1 5), .inl (cs 0, 3, .inl (d_a1.2 5))), oX0 h_a2 q_a2 (d_a2.1), ((q_a2 1), .inl (cs 0, 6, .inl (d_a2.2 1))), ((q_a2 2), .inl (cs 0, 6, .inl (d_a2.2 2))), ((q_a2 3), .inl (cs 0, 6, .inl (d_a2.2 3))), ((q_a2 4), .inl (cs 0, 6, .inl (d_a2.2 4))), ((q_a2 5), .inl (cs 0, 6, .inl (d_a2.2 5)))] H := hP
          replace hD : va_D A [oX2 h_t q_t (d_t.1), ((q_t 0), .inl (cs 1, 250, .inl (d_t.2 0))), oX4 h_a1 q_a1 (d_a1.1), ((q_a1 1), .inl (cs 0, 6, .inl (d_a1.2 1))), ((q_a1 2), .inl (cs 0, 6, .inl (d_a1.2 2))), ((q_a1 4), .inl (cs 0, 3, .inl (d_a1.2 4))), ((q_a1 5), .inl (cs 0, 3, .inl (d_a1.2 5))), oX0 h_a2 q_a2 (d_a2.1), ((q_a2 1), .inl (cs 0, 6, .inl (d_a2.2 1))), ((q_a2 2), .inl (cs 0, 6, .inl (d_a2.2 2))), ((q_a2 3), .inl (cs 0, 6, .inl (d_a2.2 3))), ((q_a2 4), .inl (cs 0, 6, .inl (d_a2.2 4))), ((q_a2 5), .inl (cs 0, 6, .inl (d_a2.2 5)))] := hD
          have g18 := ite_some hf
          refine lv_if_eq (tgt := 70) hx hb dX2_readItem_61 (by decide) (fun c17 => ?_) (fun c17 => ?_)
          · replace hf := g18.1 c17
            refine lv_aload_n hx hb dX2_readItem_70 rfl (lv_at hl 0 rfl) ?_
            refine va_ldcS hx hb hown (hSE.2.2.2 4 (by decide)) dX2_readItem_71 ?_
            obtain ⟨r19, e20, hf⟩ := bind_some hf
            refine callVi (As := [.ref (sk 4)]) (rest := []) M (mX2_isWord l D cs sk h_t q_t k d_t 4 (by decide) e20) mw_X2_49 ln_X2_isWord ⟨rfl, rfl, Nat.le_of_ble_eq_true rfl, Nat.le_of_ble_eq_true rfl⟩ hP hD hS hA [0, 1] (by decide) rfl rfl (q0 := 0) rfl rfl rfl ⟨Nat.zero_le _, Nat.zero_le _⟩ hl.1 rfl (Nat.le_of_ble_eq_true rfl) dX2_readItem_73 (fun H locs hP hD hS => ?_)
            replace hP : va_P D vwCl [oX2 h_t q_t (d_t.1), ((q_t 0), .inl (cs 1, 250, .inl (d_t.2 0))), oX4 h_a1 q_a1 (d_a1.1), ((q_a1 1), .inl (cs 0, 6, .inl (d_a1.2 1))), ((q_a1 2), .inl (cs 0, 6, .inl (d_a1.2 2))), ((q_a1 4), .inl (cs 0, 3, .inl (d_a1.2 4))), ((q_a1 5), .inl (cs 0, 3, .inl (d_a1.2 5))), oX0 h_a2 q_a2 (d_a2.1), ((q_a2 1), .inl (cs 0, 6, .inl (d_a2.2 1))), ((q_a2 2), .inl (cs 0, 6, .inl (d_a2.2 2))), ((q_a2 3), .inl (cs 0, 6, .inl (d_a2.2 3))), ((q_a2 4), .inl (cs 0, 6, .inl (d_a2.2 4))), ((q_a2 5), .inl (cs 0, 6, .inl (d_a2.2 5)))] H := hP
            replace hD : va_D A [oX2 h_t q_t (d_t.1), ((q_t 0), .inl (cs 1, 250, .inl (d_t.2 0))), oX4 h_a1 q_a1 (d_a1.1), ((q_a1 1), .inl (cs 0, 6, .inl (d_a1.2 1))), ((q_a1 2), .inl (cs 0, 6, .inl (d_a1.2 2))), ((q_a1 4), .inl (cs 0, 3, .inl (d_a1.2 4))), ((q_a1 5), .inl (cs 0, 3, .inl (d_a1.2 5))), oX0 h_a2 q_a2 (d_a2.1), ((q_a2 1), .inl (cs 0, 6, .inl (d_a2.2 1))), ((q_a2 2), .inl (cs 0, 6, .inl (d_a2.2 2))), ((q_a2 3), .inl (cs 0, 6, .inl (d_a2.2 3))), ((q_a2 4), .inl (cs 0, 6, .inl (d_a2.2 4))), ((q_a2 5), .inl (cs 0, 6, .inl (d_a2.2 5)))] := hD
            have g22 := ite_some hf
            refine lv_if_eq (tgt := 86) hx hb dX2_readItem_76 (by decide) (fun c21 => ?_) (fun c21 => ?_)
            · replace hf := g22.1 c21
              refine lv_aload_n hx hb dX2_readItem_86 rfl (lv_at hl 0 rfl) ?_
              refine va_ldcS hx hb hown (hSE.2.2.2 5 (by decide)) dX2_readItem_87 ?_
              obtain ⟨r23, e24, hf⟩ := bind_some hf
              refine callVi (As := [.ref (sk 5)]) (rest := []) M (mX2_isWord l D cs sk h_t q_t k d_t 5 (by decide) e24) mw_X2_49 ln_X2_isWord ⟨rfl, rfl, Nat.le_of_ble_eq_true rfl, Nat.le_of_ble_eq_true rfl⟩ hP hD hS hA [0, 1] (by decide) rfl rfl (q0 := 0) rfl rfl rfl ⟨Nat.zero_le _, Nat.zero_le _⟩ hl.1 rfl (Nat.le_of_ble_eq_true rfl) dX2_readItem_89 (fun H locs hP hD hS => ?_)
              replace hP : va_P D vwCl [oX2 h_t q_t (d_t.1), ((q_t 0), .inl (cs 1, 250, .inl (d_t.2 0))), oX4 h_a1 q_a1 (d_a1.1), ((q_a1 1), .inl (cs 0, 6, .inl (d_a1.2 1))), ((q_a1 2), .inl (cs 0, 6, .inl (d_a1.2 2))), ((q_a1 4), .inl (cs 0, 3, .inl (d_a1.2 4))), ((q_a1 5), .inl (cs 0, 3, .inl (d_a1.2 5))), oX0 h_a2 q_a2 (d_a2.1), ((q_a2 1), .inl (cs 0, 6, .inl (d_a2.2 1))), ((q_a2 2), .inl (cs 0, 6, .inl (d_a2.2 2))), ((q_a2 3), .inl (cs 0, 6, .inl (d_a2.2 3))), ((q_a2 4), .inl (cs 0, 6, .inl (d_a2.2 4))), ((q_a2 5), .inl (cs 0, 6, .inl (d_a2.2 5)))] H := hP
              replace hD : va_D A [oX2 h_t q_t (d_t.1), ((q_t 0), .inl (cs 1, 250, .inl (d_t.2 0))), oX4 h_a1 q_a1 (d_a1.1), ((q_a1 1), .inl (cs 0, 6, .inl (d_a1.2 1))), ((q_a1 2), .inl (cs 0, 6, .inl (d_a1.2 2))), ((q_a1 4), .inl (cs 0, 3, .inl (d_a1.2 4))), ((q_a1 5), .inl (cs 0, 3, .inl (d_a1.2 5))), oX0 h_a2 q_a2 (d_a2.1), ((q_a2 1), .inl (cs 0, 6, .inl (d_a2.2 1))), ((q_a2 2), .inl (cs 0, 6, .inl (d_a2.2 2))), ((q_a2 3), .inl (cs 0, 6, .inl (d_a2.2 3))), ((q_a2 4), .inl (cs 0, 6, .inl (d_a2.2 4))), ((q_a2 5), .inl (cs 0, 6, .inl (d_a2.2 5)))] := hD
              have g26 := ite_some hf
              refine lv_if_eq (tgt := 101) hx hb dX2_readItem_92 (by decide) (fun c25 => ?_) (fun c25 => ?_)
              · replace hf := g26.1 c25
                refine lv_iconst (v := 0) hx hb dX2_readItem_101 rfl ?_
                have e9 := Option.some.inj hf
                subst e9
                exact hR _ _ _ _ dX2_readItem_102 (Or.inl rfl) hP hS
              · replace hf := g26.2 c25
                refine lv_aload_n hx hb dX2_readItem_95 rfl (lv_at hl 0 rfl) ?_
                refine lv_aload_n hx hb dX2_readItem_96 rfl (lv_at hl 2 rfl) ?_
                obtain ⟨r27, e28, hf⟩ := bind_some hf
                refine callVi (As := [.ref h_a2]) (rest := []) M (mX2_readOffset l D cs sk h_t h_a2 q_t q_a2 k d_t d_a2 e28) mw_X2_79 ln_X2_readOffset ⟨rfl, rfl, Nat.le_of_ble_eq_true rfl, Nat.le_of_ble_eq_true rfl⟩ hP hD hS hA [0, 1, 7, 11] (by decide) rfl rfl (q0 := 0) rfl rfl rfl ⟨Nat.zero_le _, Nat.zero_le _⟩ hl.1 rfl (Nat.le_of_ble_eq_true rfl) dX2_readItem_97 (fun H locs hP hD hS => ?_)
                replace hP : va_P D vwCl [oX2 h_t q_t (r27.2.1.1), ((q_t 0), .inl (cs 1, 250, .inl (d_t.2 0))), oX4 h_a1 q_a1 (d_a1.1), ((q_a1 1), .inl (cs 0, 6, .inl (d_a1.2 1))), ((q_a1 2), .inl (cs 0, 6, .inl (d_a1.2 2))), ((q_a1 4), .inl (cs 0, 3, .inl (d_a1.2 4))), ((q_a1 5), .inl (cs 0, 3, .inl (d_a1.2 5))), oX0 h_a2 q_a2 (d_a2.1), ((q_a2 1), .inl (cs 0, 6, .inl (d_a2.2 1))), ((q_a2 2), .inl (cs 0, 6, .inl (d_a2.2 2))), ((q_a2 3), .inl (cs 0, 6, .inl (d_a2.2 3))), ((q_a2 4), .inl (cs 0, 6, .inl (r27.2.2.2 4))), ((q_a2 5), .inl (cs 0, 6, .inl (d_a2.2 5)))] H := hP
                replace hD : va_D A [oX2 h_t q_t (r27.2.1.1), ((q_t 0), .inl (cs 1, 250, .inl (d_t.2 0))), oX4 h_a1 q_a1 (d_a1.1), ((q_a1 1), .inl (cs 0, 6, .inl (d_a1.2 1))), ((q_a1 2), .inl (cs 0, 6, .inl (d_a1.2 2))), ((q_a1 4), .inl (cs 0, 3, .inl (d_a1.2 4))), ((q_a1 5), .inl (cs 0, 3, .inl (d_a1.2 5))), oX0 h_a2 q_a2 (d_a2.1), ((q_a2 1), .inl (cs 0, 6, .inl (d_a2.2 1))), ((q_a2 2), .inl (cs 0, 6, .inl (d_a2.2 2))), ((q_a2 3), .inl (cs 0, 6, .inl (d_a2.2 3))), ((q_a2 4), .inl (cs 0, 6, .inl (r27.2.2.2 4))), ((q_a2 5), .inl (cs 0, 6, .inl (d_a2.2 5)))] := hD
                obtain ⟨h01, hf⟩ := chb_some hf
                have e9 := Option.some.inj hf
                subst e9
                exact hR _ _ _ _ dX2_readItem_100 h01 hP hS
            · replace hf := g22.2 c21
              refine lv_aload_n hx hb dX2_readItem_79 rfl (lv_at hl 0 rfl) ?_
              refine lv_aload_n hx hb dX2_readItem_80 rfl (lv_at hl 1 rfl) ?_
              refine lv_aload_n hx hb dX2_readItem_81 rfl (lv_at hl 2 rfl) ?_
              obtain ⟨r29, e30, hf⟩ := bind_some hf
              refine callVi (As := [.ref h_a1, .ref h_a2]) (rest := []) M (mX2_readPlayer l D cs sk h_t h_a1 h_a2 q_t q_a1 q_a2 k d_t d_a1 d_a2 e30) mw_X2_74 ln_X2_readPlayer ⟨rfl, rfl, Nat.le_of_ble_eq_true rfl, Nat.le_of_ble_eq_true rfl⟩ hP hD hS hA [0, 1, 2, 7, 8, 9, 10, 11, 12] (by decide) rfl rfl (q0 := 0) rfl rfl rfl ⟨Nat.zero_le _, Nat.zero_le _⟩ hl.1 rfl (Nat.le_of_ble_eq_true rfl) dX2_readItem_82 (fun H locs hP hD hS => ?_)
              replace hP : va_P D vwCl [oX2 h_t q_t (r29.2.1.1), ((q_t 0), .inl (cs 1, 250, .inl (d_t.2 0))), oX4 h_a1 q_a1 (d_a1.1), ((q_a1 1), .inl (cs 0, 6, .inl (d_a1.2 1))), ((q_a1 2), .inl (cs 0, 6, .inl (d_a1.2 2))), ((q_a1 4), .inl (cs 0, 3, .inl (d_a1.2 4))), ((q_a1 5), .inl (cs 0, 3, .inl (d_a1.2 5))), oX0 h_a2 q_a2 (r29.2.2.1), ((q_a2 1), .inl (cs 0, 6, .inl (r29.2.2.2 1))), ((q_a2 2), .inl (cs 0, 6, .inl (r29.2.2.2 2))), ((q_a2 3), .inl (cs 0, 6, .inl (r29.2.2.2 3))), ((q_a2 4), .inl (cs 0, 6, .inl (r29.2.2.2 4))), ((q_a2 5), .inl (cs 0, 6, .inl (r29.2.2.2 5)))] H := hP
              replace hD : va_D A [oX2 h_t q_t (r29.2.1.1), ((q_t 0), .inl (cs 1, 250, .inl (d_t.2 0))), oX4 h_a1 q_a1 (d_a1.1), ((q_a1 1), .inl (cs 0, 6, .inl (d_a1.2 1))), ((q_a1 2), .inl (cs 0, 6, .inl (d_a1.2 2))), ((q_a1 4), .inl (cs 0, 3, .inl (d_a1.2 4))), ((q_a1 5), .inl (cs 0, 3, .inl (d_a1.2 5))), oX0 h_a2 q_a2 (r29.2.2.1), ((q_a2 1), .inl (cs 0, 6, .inl (r29.2.2.2 1))), ((q_a2 2), .inl (cs 0, 6, .inl (r29.2.2.2 2))), ((q_a2 3), .inl (cs 0, 6, .inl (r29.2.2.2 3))), ((q_a2 4), .inl (cs 0, 6, .inl (r29.2.2.2 4))), ((q_a2 5), .inl (cs 0, 6, .inl (r29.2.2.2 5)))] := hD
              obtain ⟨h01, hf⟩ := chb_some hf
              have e9 := Option.some.inj hf
              subst e9
              exact hR _ _ _ _ dX2_readItem_85 h01 hP hS
          · replace hf := g18.2 c17
            refine lv_aload_n hx hb dX2_readItem_64 rfl (lv_at hl 0 rfl) ?_
            refine lv_aload_n hx hb dX2_readItem_65 rfl (lv_at hl 1 rfl) ?_
            obtain ⟨r31, e32, hf⟩ := bind_some hf
            refine callVi (As := [.ref h_a1]) (rest := []) M (mX2_readSlow l D cs sk h_t h_a1 q_t q_a1 k d_t d_a1 e32) mw_X2_69 ln_X2_readSlow ⟨rfl, rfl, Nat.le_of_ble_eq_true rfl, Nat.le_of_ble_eq_true rfl⟩ hP hD hS hA [0, 1, 2] (by decide) rfl rfl (q0 := 0) rfl rfl rfl ⟨Nat.zero_le _, Nat.zero_le _⟩ hl.1 rfl (Nat.le_of_ble_eq_true rfl) dX2_readItem_66 (fun H locs hP hD hS => ?_)
            replace hP : va_P D vwCl [oX2 h_t q_t (r31.2.1.1), ((q_t 0), .inl (cs 1, 250, .inl (d_t.2 0))), oX4 h_a1 q_a1 (r31.2.2.1), ((q_a1 1), .inl (cs 0, 6, .inl (d_a1.2 1))), ((q_a1 2), .inl (cs 0, 6, .inl (d_a1.2 2))), ((q_a1 4), .inl (cs 0, 3, .inl (d_a1.2 4))), ((q_a1 5), .inl (cs 0, 3, .inl (d_a1.2 5))), oX0 h_a2 q_a2 (d_a2.1), ((q_a2 1), .inl (cs 0, 6, .inl (d_a2.2 1))), ((q_a2 2), .inl (cs 0, 6, .inl (d_a2.2 2))), ((q_a2 3), .inl (cs 0, 6, .inl (d_a2.2 3))), ((q_a2 4), .inl (cs 0, 6, .inl (d_a2.2 4))), ((q_a2 5), .inl (cs 0, 6, .inl (d_a2.2 5)))] H := hP
            replace hD : va_D A [oX2 h_t q_t (r31.2.1.1), ((q_t 0), .inl (cs 1, 250, .inl (d_t.2 0))), oX4 h_a1 q_a1 (r31.2.2.1), ((q_a1 1), .inl (cs 0, 6, .inl (d_a1.2 1))), ((q_a1 2), .inl (cs 0, 6, .inl (d_a1.2 2))), ((q_a1 4), .inl (cs 0, 3, .inl (d_a1.2 4))), ((q_a1 5), .inl (cs 0, 3, .inl (d_a1.2 5))), oX0 h_a2 q_a2 (d_a2.1), ((q_a2 1), .inl (cs 0, 6, .inl (d_a2.2 1))), ((q_a2 2), .inl (cs 0, 6, .inl (d_a2.2 2))), ((q_a2 3), .inl (cs 0, 6, .inl (d_a2.2 3))), ((q_a2 4), .inl (cs 0, 6, .inl (d_a2.2 4))), ((q_a2 5), .inl (cs 0, 6, .inl (d_a2.2 5)))] := hD
            obtain ⟨h01, hf⟩ := chb_some hf
            have e9 := Option.some.inj hf
            subst e9
            exact hR _ _ _ _ dX2_readItem_69 h01 hP hS
        · replace hf := g14.2 c13
          refine lv_aload_n hx hb dX2_readItem_49 rfl (lv_at hl 0 rfl) ?_
          refine lv_aload_n hx hb dX2_readItem_50 rfl (lv_at hl 1 rfl) ?_
          obtain ⟨r33, e34, hf⟩ := bind_some hf
          refine callVi (As := [.ref h_a1]) (rest := []) M (mX2_readMill l D cs sk h_t h_a1 q_t q_a1 k d_t d_a1 e34) mw_X2_64 ln_X2_readMill ⟨rfl, rfl, Nat.le_of_ble_eq_true rfl, Nat.le_of_ble_eq_true rfl⟩ hP hD hS hA [0, 1, 2] (by decide) rfl rfl (q0 := 0) rfl rfl rfl ⟨Nat.zero_le _, Nat.zero_le _⟩ hl.1 rfl (Nat.le_of_ble_eq_true rfl) dX2_readItem_51 (fun H locs hP hD hS => ?_)
          replace hP : va_P D vwCl [oX2 h_t q_t (r33.2.1.1), ((q_t 0), .inl (cs 1, 250, .inl (d_t.2 0))), oX4 h_a1 q_a1 (r33.2.2.1), ((q_a1 1), .inl (cs 0, 6, .inl (d_a1.2 1))), ((q_a1 2), .inl (cs 0, 6, .inl (d_a1.2 2))), ((q_a1 4), .inl (cs 0, 3, .inl (d_a1.2 4))), ((q_a1 5), .inl (cs 0, 3, .inl (d_a1.2 5))), oX0 h_a2 q_a2 (d_a2.1), ((q_a2 1), .inl (cs 0, 6, .inl (d_a2.2 1))), ((q_a2 2), .inl (cs 0, 6, .inl (d_a2.2 2))), ((q_a2 3), .inl (cs 0, 6, .inl (d_a2.2 3))), ((q_a2 4), .inl (cs 0, 6, .inl (d_a2.2 4))), ((q_a2 5), .inl (cs 0, 6, .inl (d_a2.2 5)))] H := hP
          replace hD : va_D A [oX2 h_t q_t (r33.2.1.1), ((q_t 0), .inl (cs 1, 250, .inl (d_t.2 0))), oX4 h_a1 q_a1 (r33.2.2.1), ((q_a1 1), .inl (cs 0, 6, .inl (d_a1.2 1))), ((q_a1 2), .inl (cs 0, 6, .inl (d_a1.2 2))), ((q_a1 4), .inl (cs 0, 3, .inl (d_a1.2 4))), ((q_a1 5), .inl (cs 0, 3, .inl (d_a1.2 5))), oX0 h_a2 q_a2 (d_a2.1), ((q_a2 1), .inl (cs 0, 6, .inl (d_a2.2 1))), ((q_a2 2), .inl (cs 0, 6, .inl (d_a2.2 2))), ((q_a2 3), .inl (cs 0, 6, .inl (d_a2.2 3))), ((q_a2 4), .inl (cs 0, 6, .inl (d_a2.2 4))), ((q_a2 5), .inl (cs 0, 6, .inl (d_a2.2 5)))] := hD
          obtain ⟨h01, hf⟩ := chb_some hf
          have e9 := Option.some.inj hf
          subst e9
          exact hR _ _ _ _ dX2_readItem_54 h01 hP hS
      · replace hf := g10.2 c9
        refine lv_aload_n hx hb dX2_readItem_34 rfl (lv_at hl 0 rfl) ?_
        refine lv_aload_n hx hb dX2_readItem_35 rfl (lv_at hl 1 rfl) ?_
        obtain ⟨r35, e36, hf⟩ := bind_some hf
        refine callVi (As := [.ref h_a1]) (rest := []) M (mX2_readEar l D cs sk h_t h_a1 q_t q_a1 k d_t d_a1 e36) mw_X2_59 ln_X2_readEar ⟨rfl, rfl, Nat.le_of_ble_eq_true rfl, Nat.le_of_ble_eq_true rfl⟩ hP hD hS hA [0, 1, 2, 5, 6] (by decide) rfl rfl (q0 := 0) rfl rfl rfl ⟨Nat.zero_le _, Nat.zero_le _⟩ hl.1 rfl (Nat.le_of_ble_eq_true rfl) dX2_readItem_36 (fun H locs hP hD hS => ?_)
        replace hP : va_P D vwCl [oX2 h_t q_t (r35.2.1.1), ((q_t 0), .inl (cs 1, 250, .inl (d_t.2 0))), oX4 h_a1 q_a1 (r35.2.2.1), ((q_a1 1), .inl (cs 0, 6, .inl (d_a1.2 1))), ((q_a1 2), .inl (cs 0, 6, .inl (d_a1.2 2))), ((q_a1 4), .inl (cs 0, 3, .inl (r35.2.2.2 4))), ((q_a1 5), .inl (cs 0, 3, .inl (r35.2.2.2 5))), oX0 h_a2 q_a2 (d_a2.1), ((q_a2 1), .inl (cs 0, 6, .inl (d_a2.2 1))), ((q_a2 2), .inl (cs 0, 6, .inl (d_a2.2 2))), ((q_a2 3), .inl (cs 0, 6, .inl (d_a2.2 3))), ((q_a2 4), .inl (cs 0, 6, .inl (d_a2.2 4))), ((q_a2 5), .inl (cs 0, 6, .inl (d_a2.2 5)))] H := hP
        replace hD : va_D A [oX2 h_t q_t (r35.2.1.1), ((q_t 0), .inl (cs 1, 250, .inl (d_t.2 0))), oX4 h_a1 q_a1 (r35.2.2.1), ((q_a1 1), .inl (cs 0, 6, .inl (d_a1.2 1))), ((q_a1 2), .inl (cs 0, 6, .inl (d_a1.2 2))), ((q_a1 4), .inl (cs 0, 3, .inl (r35.2.2.2 4))), ((q_a1 5), .inl (cs 0, 3, .inl (r35.2.2.2 5))), oX0 h_a2 q_a2 (d_a2.1), ((q_a2 1), .inl (cs 0, 6, .inl (d_a2.2 1))), ((q_a2 2), .inl (cs 0, 6, .inl (d_a2.2 2))), ((q_a2 3), .inl (cs 0, 6, .inl (d_a2.2 3))), ((q_a2 4), .inl (cs 0, 6, .inl (d_a2.2 4))), ((q_a2 5), .inl (cs 0, 6, .inl (d_a2.2 5)))] := hD
        obtain ⟨h01, hf⟩ := chb_some hf
        have e9 := Option.some.inj hf
        subst e9
        exact hR _ _ _ _ dX2_readItem_39 h01 hP hS
    · replace hf := g6.2 c5
      refine lv_aload_n hx hb dX2_readItem_19 rfl (lv_at hl 0 rfl) ?_
      refine lv_aload_n hx hb dX2_readItem_20 rfl (lv_at hl 1 rfl) ?_
      obtain ⟨r37, e38, hf⟩ := bind_some hf
      refine callVi (As := [.ref h_a1]) (rest := []) M (mX2_readWindow l D cs sk h_t h_a1 q_t q_a1 k d_t d_a1 e38) mw_X2_53 ln_X2_readWindow ⟨rfl, rfl, Nat.le_of_ble_eq_true rfl, Nat.le_of_ble_eq_true rfl⟩ hP hD hS hA [0, 1, 2, 3, 4] (by decide) rfl rfl (q0 := 0) rfl rfl rfl ⟨Nat.zero_le _, Nat.zero_le _⟩ hl.1 rfl (Nat.le_of_ble_eq_true rfl) dX2_readItem_21 (fun H locs hP hD hS => ?_)
      replace hP : va_P D vwCl [oX2 h_t q_t (r37.2.1.1), ((q_t 0), .inl (cs 1, 250, .inl (d_t.2 0))), oX4 h_a1 q_a1 (r37.2.2.1), ((q_a1 1), .inl (cs 0, 6, .inl (r37.2.2.2 1))), ((q_a1 2), .inl (cs 0, 6, .inl (r37.2.2.2 2))), ((q_a1 4), .inl (cs 0, 3, .inl (d_a1.2 4))), ((q_a1 5), .inl (cs 0, 3, .inl (d_a1.2 5))), oX0 h_a2 q_a2 (d_a2.1), ((q_a2 1), .inl (cs 0, 6, .inl (d_a2.2 1))), ((q_a2 2), .inl (cs 0, 6, .inl (d_a2.2 2))), ((q_a2 3), .inl (cs 0, 6, .inl (d_a2.2 3))), ((q_a2 4), .inl (cs 0, 6, .inl (d_a2.2 4))), ((q_a2 5), .inl (cs 0, 6, .inl (d_a2.2 5)))] H := hP
      replace hD : va_D A [oX2 h_t q_t (r37.2.1.1), ((q_t 0), .inl (cs 1, 250, .inl (d_t.2 0))), oX4 h_a1 q_a1 (r37.2.2.1), ((q_a1 1), .inl (cs 0, 6, .inl (r37.2.2.2 1))), ((q_a1 2), .inl (cs 0, 6, .inl (r37.2.2.2 2))), ((q_a1 4), .inl (cs 0, 3, .inl (d_a1.2 4))), ((q_a1 5), .inl (cs 0, 3, .inl (d_a1.2 5))), oX0 h_a2 q_a2 (d_a2.1), ((q_a2 1), .inl (cs 0, 6, .inl (d_a2.2 1))), ((q_a2 2), .inl (cs 0, 6, .inl (d_a2.2 2))), ((q_a2 3), .inl (cs 0, 6, .inl (d_a2.2 3))), ((q_a2 4), .inl (cs 0, 6, .inl (d_a2.2 4))), ((q_a2 5), .inl (cs 0, 6, .inl (d_a2.2 5)))] := hD
      obtain ⟨h01, hf⟩ := chb_some hf
      have e9 := Option.some.inj hf
      subst e9
      exact hR _ _ _ _ dX2_readItem_24 h01 hP hS
  · replace hf := g2.2 c1
    refine lv_iconst (v := 0) hx hb dX2_readItem_8 rfl ?_
    have e9 := Option.some.inj hf
    subst e9
    exact hR _ _ _ _ dX2_readItem_9 (Or.inl rfl) hP hS
abbrev rm_X2_readTown : Room := { frames := 6, cells := 0, slots := 0, locals := 134 }
def fX2_readTown_B23 (k : Nat) (d_t : Dat) (d_a3 : Dat) (d_a4 : Dat) (f_a1 : Nat → Int32) (K43 : Int32 × Dat × Dat × Dat → Option (Int32 × Dat × Dat × Dat)) (K56 : Dat × Dat × Dat → Option (Int32 × Dat × Dat × Dat)) (K72 : Dat × Dat × Dat → Option (Int32 × Dat × Dat × Dat)) (rec : Int32 × Dat × Dat × Dat → Option (Int32 × Dat × Dat × Dat)) (v : Int32 × Dat × Dat × Dat) : Option (Int32 × Dat × Dat × Dat) :=
  (if (v.2.1.1 1) < (v.1) then K72 ((v.2.1.1, d_t.2), (v.2.2.1.1, (va_up (va_up (va_up (va_up d_a3.2 1 (v.2.2.1.2 1)) 2 (v.2.2.1.2 2)) 4 (v.2.2.1.2 4)) 5 (v.2.2.1.2 5))), (v.2.2.2.1, (va_up (va_up (va_up (va_up (va_up d_a4.2 1 (v.2.2.2.2 1)) 2 (v.2.2.2.2 2)) 3 (v.2.2.2.2 3)) 4 (v.2.2.2.2 4)) 5 (v.2.2.2.2 5)))) else (fX2_takeToken k (v.2.1.1, (va_up d_t.2 0 f_a1))).bind (fun (r3 : Dat) => (if (r3.1 4) = 0 then K43 ((v.1), (r3.1, d_t.2), (v.2.2.1.1, (va_up (va_up (va_up (va_up d_a3.2 1 (v.2.2.1.2 1)) 2 (v.2.2.1.2 2)) 4 (v.2.2.1.2 4)) 5 (v.2.2.1.2 5))), (v.2.2.2.1, (va_up (va_up (va_up (va_up (va_up d_a4.2 1 (v.2.2.2.2 1)) 2 (v.2.2.2.2 2)) 3 (v.2.2.2.2 3)) 4 (v.2.2.2.2 4)) 5 (v.2.2.2.2 5)))) else (fX2_readItem k (r3.1, (va_up d_t.2 0 f_a1)) (v.2.2.1.1, (va_up (va_up (va_up (va_up d_a3.2 1 (v.2.2.1.2 1)) 2 (v.2.2.1.2 2)) 4 (v.2.2.1.2 4)) 5 (v.2.2.1.2 5))) (v.2.2.2.1, (va_up (va_up (va_up (va_up (va_up d_a4.2 1 (v.2.2.2.2 1)) 2 (v.2.2.2.2 2)) 3 (v.2.2.2.2 3)) 4 (v.2.2.2.2 4)) 5 (v.2.2.2.2 5)))).bind (fun (r7 : Int32 × Dat × Dat × Dat) => (if (r7.1) = 0 then K56 ((r7.2.1.1, d_t.2), (r7.2.2.1.1, (va_up (va_up (va_up (va_up d_a3.2 1 (r7.2.2.1.2 1)) 2 (r7.2.2.1.2 2)) 4 (r7.2.2.1.2 4)) 5 (r7.2.2.1.2 5))), (r7.2.2.2.1, (va_up (va_up (va_up (va_up (va_up d_a4.2 1 (r7.2.2.2.2 1)) 2 (r7.2.2.2.2 2)) 3 (r7.2.2.2.2 3)) 4 (r7.2.2.2.2 4)) 5 (r7.2.2.2.2 5)))) else rec (((v.1) + 1), (r7.2.1.1, d_t.2), (r7.2.2.1.1, (va_up (va_up (va_up (va_up d_a3.2 1 (r7.2.2.1.2 1)) 2 (r7.2.2.1.2 2)) 4 (r7.2.2.1.2 4)) 5 (r7.2.2.1.2 5))), (r7.2.2.2.1, (va_up (va_up (va_up (va_up (va_up d_a4.2 1 (r7.2.2.2.2 1)) 2 (r7.2.2.2.2 2)) 3 (r7.2.2.2.2 3)) 4 (r7.2.2.2.2 4)) 5 (r7.2.2.2.2 5)))))))))
def fX2_readTown (k : Nat) (d_t : Dat) (d_a3 : Dat) (d_a4 : Dat) (f_a1 : Nat → Int32) (x2 : Int32) : Option (Int32 × Dat × Dat × Dat) :=
  lp (fX2_readTown_B23 k ((upd (upd d_t.1 1 (if (Int32.ofNat 250) < x2 then (Int32.ofNat 250) else x2)) 2 0), d_t.2) d_a3 d_a4 f_a1 (fun (w1 : Int32 × Dat × Dat × Dat) => some ((w1.1), (w1.2.1.1, d_t.2), (w1.2.2.1.1, (va_up (va_up (va_up (va_up d_a3.2 1 (w1.2.2.1.2 1)) 2 (w1.2.2.1.2 2)) 4 (w1.2.2.1.2 4)) 5 (w1.2.2.1.2 5))), (w1.2.2.2.1, (va_up (va_up (va_up (va_up (va_up d_a4.2 1 (w1.2.2.2.2 1)) 2 (w1.2.2.2.2 2)) 3 (w1.2.2.2.2 3)) 4 (w1.2.2.2.2 4)) 5 (w1.2.2.2.2 5))))) (fun (w2 : Dat × Dat × Dat) => some ((-1), ((upd w2.1.1 6 (w2.1.1 3)), d_t.2), (w2.2.1.1, (va_up (va_up (va_up (va_up d_a3.2 1 (w2.2.1.2 1)) 2 (w2.2.1.2 2)) 4 (w2.2.1.2 4)) 5 (w2.2.1.2 5))), (w2.2.2.1, (va_up (va_up (va_up (va_up (va_up d_a4.2 1 (w2.2.2.2 1)) 2 (w2.2.2.2 2)) 3 (w2.2.2.2 3)) 4 (w2.2.2.2 4)) 5 (w2.2.2.2 5))))) (fun (w3 : Dat × Dat × Dat) => some ((-1), (w3.1.1, d_t.2), (w3.2.1.1, (va_up (va_up (va_up (va_up d_a3.2 1 (w3.2.1.2 1)) 2 (w3.2.1.2 2)) 4 (w3.2.1.2 4)) 5 (w3.2.1.2 5))), (w3.2.2.1, (va_up (va_up (va_up (va_up (va_up d_a4.2 1 (w3.2.2.2 1)) 2 (w3.2.2.2 2)) 3 (w3.2.2.2 3)) 4 (w3.2.2.2 4)) 5 (w3.2.2.2 5)))))) k (0, ((upd (upd d_t.1 1 (if (Int32.ofNat 250) < x2 then (Int32.ofNat 250) else x2)) 2 0), d_t.2), d_a3, d_a4)
set_option maxHeartbeats 4000000 in
set_option maxRecDepth 100000 in
theorem mX2_readTown_B23 {l : Launch} {p : Program} {e : Env} {s : State} {m : MethodId} {args : Array Value} {below : List Frame} {meth : Method} {c : Code} {D : va_G} {cs : Nat → ClassId} {sk : Nat → Nat} {A : Nat → Prop} {Q : State → Prop} (h_t : Nat) (h_a1 : Nat) (h_a3 : Nat) (h_a4 : Nat) (q_t : Nat → Nat) (q_a3 : Nat → Nat) (q_a4 : Nat → Nat) (k : Nat) (d_t : Dat) (d_a3 : Dat) (d_a4 : Dat) (f_a1 : Nat → Int32) {rv : Int32 × Dat × Dat × Dat}  (K43 : Int32 × Dat × Dat × Dat → Option (Int32 × Dat × Dat × Dat)) (K56 : Dat × Dat × Dat → Option (Int32 × Dat × Dat × Dat)) (K72 : Dat × Dat × Dat → Option (Int32 × Dat × Dat × Dat))
    (M : MC p s m args meth c D cs sk A RX2 cX2_readTown 6 (some .int)) (hA : ∀ q, s.heap.size ≤ q → A q) (hR : RetI p l e rm_X2_readTown s m args below meth c D cX2_readTown A Q (rv.1) [oX2 h_t (va_up q_t 0 h_a1) (rv.2.1.1), (h_a1, .inl (cs 1, 250, .inl f_a1)), oX4 h_a3 q_a3 (rv.2.2.1.1), ((q_a3 1), .inl (cs 0, 6, .inl (rv.2.2.1.2 1))), ((q_a3 2), .inl (cs 0, 6, .inl (rv.2.2.1.2 2))), ((q_a3 4), .inl (cs 0, 3, .inl (rv.2.2.1.2 4))), ((q_a3 5), .inl (cs 0, 3, .inl (rv.2.2.1.2 5))), oX0 h_a4 q_a4 (rv.2.2.2.1), ((q_a4 1), .inl (cs 0, 6, .inl (rv.2.2.2.2 1))), ((q_a4 2), .inl (cs 0, 6, .inl (rv.2.2.2.2 2))), ((q_a4 3), .inl (cs 0, 6, .inl (rv.2.2.2.2 3))), ((q_a4 4), .inl (cs 0, 6, .inl (rv.2.2.2.2 4))), ((q_a4 5), .inl (cs 0, 6, .inl (rv.2.2.2.2 5)))])
    (hK43 : ∀ (w : Int32 × Dat × Dat × Dat), K43 w = some rv → ∀ (H : Heap) (locs : List Loc) (ls : Array Slot), va_P D vwCl [oX2 h_t (va_up q_t 0 h_a1) (w.2.1.1), (h_a1, .inl (cs 1, 250, .inl f_a1)), oX4 h_a3 q_a3 (w.2.2.1.1), ((q_a3 1), .inl (cs 0, 6, .inl (w.2.2.1.2 1))), ((q_a3 2), .inl (cs 0, 6, .inl (w.2.2.1.2 2))), ((q_a3 4), .inl (cs 0, 3, .inl (w.2.2.1.2 4))), ((q_a3 5), .inl (cs 0, 3, .inl (w.2.2.1.2 5))), oX0 h_a4 q_a4 (w.2.2.2.1), ((q_a4 1), .inl (cs 0, 6, .inl (w.2.2.2.2 1))), ((q_a4 2), .inl (cs 0, 6, .inl (w.2.2.2.2 2))), ((q_a4 3), .inl (cs 0, 6, .inl (w.2.2.2.2 3))), ((q_a4 4), .inl (cs 0, 6, .inl (w.2.2.2.2 4))), ((q_a4 5), .inl (cs 0, 6, .inl (w.2.2.2.2 5)))] H → va_D A [oX2 h_t (va_up q_t 0 h_a1) (w.2.1.1), (h_a1, .inl (cs 1, 250, .inl f_a1)), oX4 h_a3 q_a3 (w.2.2.1.1), ((q_a3 1), .inl (cs 0, 6, .inl (w.2.2.1.2 1))), ((q_a3 2), .inl (cs 0, 6, .inl (w.2.2.1.2 2))), ((q_a3 4), .inl (cs 0, 3, .inl (w.2.2.1.2 4))), ((q_a3 5), .inl (cs 0, 3, .inl (w.2.2.1.2 5))), oX0 h_a4 q_a4 (w.2.2.2.1), ((q_a4 1), .inl (cs 0, 6, .inl (w.2.2.2.2 1))), ((q_a4 2), .inl (cs 0, 6, .inl (w.2.2.2.2 2))), ((q_a4 3), .inl (cs 0, 6, .inl (w.2.2.2.2 3))), ((q_a4 4), .inl (cs 0, 6, .inl (w.2.2.2.2 4))), ((q_a4 5), .inl (cs 0, 6, .inl (w.2.2.2.2 5)))] → va_S A s.heap H locs → lv_has ls 6 [(5, .int (w.1))] → W p l e rm_X2_readTown s m args below meth c H locs 0 0 Q (F0 m 43 ls []))
    (hK56 : ∀ (w : Dat × Dat × Dat), K56 w = some rv → ∀ (H : Heap) (locs : List Loc) (ls : Array Slot), va_P D vwCl [oX2 h_t (va_up q_t 0 h_a1) (w.1.1), (h_a1, .inl (cs 1, 250, .inl f_a1)), oX4 h_a3 q_a3 (w.2.1.1), ((q_a3 1), .inl (cs 0, 6, .inl (w.2.1.2 1))), ((q_a3 2), .inl (cs 0, 6, .inl (w.2.1.2 2))), ((q_a3 4), .inl (cs 0, 3, .inl (w.2.1.2 4))), ((q_a3 5), .inl (cs 0, 3, .inl (w.2.1.2 5))), oX0 h_a4 q_a4 (w.2.2.1), ((q_a4 1), .inl (cs 0, 6, .inl (w.2.2.2 1))), ((q_a4 2), .inl (cs 0, 6, .inl (w.2.2.2 2))), ((q_a4 3), .inl (cs 0, 6, .inl (w.2.2.2 3))), ((q_a4 4), .inl (cs 0, 6, .inl (w.2.2.2 4))), ((q_a4 5), .inl (cs 0, 6, .inl (w.2.2.2 5)))] H → va_D A [oX2 h_t (va_up q_t 0 h_a1) (w.1.1), (h_a1, .inl (cs 1, 250, .inl f_a1)), oX4 h_a3 q_a3 (w.2.1.1), ((q_a3 1), .inl (cs 0, 6, .inl (w.2.1.2 1))), ((q_a3 2), .inl (cs 0, 6, .inl (w.2.1.2 2))), ((q_a3 4), .inl (cs 0, 3, .inl (w.2.1.2 4))), ((q_a3 5), .inl (cs 0, 3, .inl (w.2.1.2 5))), oX0 h_a4 q_a4 (w.2.2.1), ((q_a4 1), .inl (cs 0, 6, .inl (w.2.2.2 1))), ((q_a4 2), .inl (cs 0, 6, .inl (w.2.2.2 2))), ((q_a4 3), .inl (cs 0, 6, .inl (w.2.2.2 3))), ((q_a4 4), .inl (cs 0, 6, .inl (w.2.2.2 4))), ((q_a4 5), .inl (cs 0, 6, .inl (w.2.2.2 5)))] → va_S A s.heap H locs → lv_has ls 6 [(0, .ref h_t)] → W p l e rm_X2_readTown s m args below meth c H locs 0 0 Q (F0 m 56 ls []))
    (hK72 : ∀ (w : Dat × Dat × Dat), K72 w = some rv → ∀ (H : Heap) (locs : List Loc) (ls : Array Slot), va_P D vwCl [oX2 h_t (va_up q_t 0 h_a1) (w.1.1), (h_a1, .inl (cs 1, 250, .inl f_a1)), oX4 h_a3 q_a3 (w.2.1.1), ((q_a3 1), .inl (cs 0, 6, .inl (w.2.1.2 1))), ((q_a3 2), .inl (cs 0, 6, .inl (w.2.1.2 2))), ((q_a3 4), .inl (cs 0, 3, .inl (w.2.1.2 4))), ((q_a3 5), .inl (cs 0, 3, .inl (w.2.1.2 5))), oX0 h_a4 q_a4 (w.2.2.1), ((q_a4 1), .inl (cs 0, 6, .inl (w.2.2.2 1))), ((q_a4 2), .inl (cs 0, 6, .inl (w.2.2.2 2))), ((q_a4 3), .inl (cs 0, 6, .inl (w.2.2.2 3))), ((q_a4 4), .inl (cs 0, 6, .inl (w.2.2.2 4))), ((q_a4 5), .inl (cs 0, 6, .inl (w.2.2.2 5)))] H → va_D A [oX2 h_t (va_up q_t 0 h_a1) (w.1.1), (h_a1, .inl (cs 1, 250, .inl f_a1)), oX4 h_a3 q_a3 (w.2.1.1), ((q_a3 1), .inl (cs 0, 6, .inl (w.2.1.2 1))), ((q_a3 2), .inl (cs 0, 6, .inl (w.2.1.2 2))), ((q_a3 4), .inl (cs 0, 3, .inl (w.2.1.2 4))), ((q_a3 5), .inl (cs 0, 3, .inl (w.2.1.2 5))), oX0 h_a4 q_a4 (w.2.2.1), ((q_a4 1), .inl (cs 0, 6, .inl (w.2.2.2 1))), ((q_a4 2), .inl (cs 0, 6, .inl (w.2.2.2 2))), ((q_a4 3), .inl (cs 0, 6, .inl (w.2.2.2 3))), ((q_a4 4), .inl (cs 0, 6, .inl (w.2.2.2 4))), ((q_a4 5), .inl (cs 0, 6, .inl (w.2.2.2 5)))] → va_S A s.heap H locs → lv_has ls 6 [] → W p l e rm_X2_readTown s m args below meth c H locs 0 0 Q (F0 m 72 ls []))
    : ∀ (n : Nat) (v : Int32 × Dat × Dat × Dat), lp (fX2_readTown_B23 k d_t d_a3 d_a4 f_a1 K43 K56 K72) n v = some rv → ∀ (H : Heap) (locs : List Loc) (ls : Array Slot), va_P D vwCl [oX2 h_t (va_up q_t 0 h_a1) (v.2.1.1), (h_a1, .inl (cs 1, 250, .inl f_a1)), oX4 h_a3 q_a3 (v.2.2.1.1), ((q_a3 1), .inl (cs 0, 6, .inl (v.2.2.1.2 1))), ((q_a3 2), .inl (cs 0, 6, .inl (v.2.2.1.2 2))), ((q_a3 4), .inl (cs 0, 3, .inl (v.2.2.1.2 4))), ((q_a3 5), .inl (cs 0, 3, .inl (v.2.2.1.2 5))), oX0 h_a4 q_a4 (v.2.2.2.1), ((q_a4 1), .inl (cs 0, 6, .inl (v.2.2.2.2 1))), ((q_a4 2), .inl (cs 0, 6, .inl (v.2.2.2.2 2))), ((q_a4 3), .inl (cs 0, 6, .inl (v.2.2.2.2 3))), ((q_a4 4), .inl (cs 0, 6, .inl (v.2.2.2.2 4))), ((q_a4 5), .inl (cs 0, 6, .inl (v.2.2.2.2 5)))] H → va_D A [oX2 h_t (va_up q_t 0 h_a1) (v.2.1.1), (h_a1, .inl (cs 1, 250, .inl f_a1)), oX4 h_a3 q_a3 (v.2.2.1.1), ((q_a3 1), .inl (cs 0, 6, .inl (v.2.2.1.2 1))), ((q_a3 2), .inl (cs 0, 6, .inl (v.2.2.1.2 2))), ((q_a3 4), .inl (cs 0, 3, .inl (v.2.2.1.2 4))), ((q_a3 5), .inl (cs 0, 3, .inl (v.2.2.1.2 5))), oX0 h_a4 q_a4 (v.2.2.2.1), ((q_a4 1), .inl (cs 0, 6, .inl (v.2.2.2.2 1))), ((q_a4 2), .inl (cs 0, 6, .inl (v.2.2.2.2 2))), ((q_a4 3), .inl (cs 0, 6, .inl (v.2.2.2.2 3))), ((q_a4 4), .inl (cs 0, 6, .inl (v.2.2.2.2 4))), ((q_a4 5), .inl (cs 0, 6, .inl (v.2.2.2.2 5)))] → va_S A s.heap H locs → lv_has ls 6 [(0, .ref h_t), (3, .ref h_a3), (4, .ref h_a4), (5, .int (v.1))] → W p l e rm_X2_readTown s m args below meth c H locs 0 0 Q (F0 m 23 ls []) := by
  obtain ⟨hx, hb, hml, hT, hown, hlk, hrt, hK, hN, hSE⟩ := id M
  refine lp_ind (fun rec ih v hf H locs ls hP hD hS hl => ?_)
  unfold fX2_readTown_B23 at hf
  refine lv_iload hx hb dX2_readTown_23 (lv_at hl 3 rfl) ?_
  refine lv_aload_n hx hb dX2_readTown_25 rfl (lv_at hl 0 rfl) ?_
  refine va_get (D := D) (ci := 2) (v := .int (v.2.1.1 1)) (C := RX2) (T := TX2) (N := 7) hx hb hT iX2 hown hK hP 0 rfl rfl 1 (by decide) (hT _ fw_X2_15) (fun _ h9 => h9) rfl dX2_readTown_26 ?_
  have g2 := ite_some hf
  refine lv_icmp_gt (tgt := 72) hx hb dX2_readTown_29 (by decide) (fun c1 => ?_) (fun c1 => ?_)
  · replace hf := g2.1 c1
    exact hK72 _ hf _ _ _ hP hD hS (lv_sub hl [] rfl)
  · replace hf := g2.2 c1
    refine lv_aload_n hx hb dX2_readTown_32 rfl (lv_at hl 0 rfl) ?_
    obtain ⟨r3, e4, hf⟩ := bind_some hf
    refine callVv (As := []) (rest := []) M (mX2_takeToken l D cs sk h_t (va_up q_t 0 h_a1) k (v.2.1.1, (va_up d_t.2 0 f_a1)) e4) mw_X2_40 ln_X2_takeToken ⟨rfl, rfl, Nat.le_of_ble_eq_true rfl, Nat.le_of_ble_eq_true rfl⟩ hP hD hS hA [0, 1] (by decide) rfl rfl (q0 := 0) rfl rfl rfl ⟨Nat.zero_le _, Nat.zero_le _⟩ hl.1 rfl (Nat.le_of_ble_eq_true rfl) dX2_readTown_33 (fun H locs hP hD hS => ?_)
    replace hP : va_P D vwCl [oX2 h_t (va_up q_t 0 h_a1) (r3.1), (h_a1, .inl (cs 1, 250, .inl f_a1)), oX4 h_a3 q_a3 (v.2.2.1.1), ((q_a3 1), .inl (cs 0, 6, .inl (v.2.2.1.2 1))), ((q_a3 2), .inl (cs 0, 6, .inl (v.2.2.1.2 2))), ((q_a3 4), .inl (cs 0, 3, .inl (v.2.2.1.2 4))), ((q_a3 5), .inl (cs 0, 3, .inl (v.2.2.1.2 5))), oX0 h_a4 q_a4 (v.2.2.2.1), ((q_a4 1), .inl (cs 0, 6, .inl (v.2.2.2.2 1))), ((q_a4 2), .inl (cs 0, 6, .inl (v.2.2.2.2 2))), ((q_a4 3), .inl (cs 0, 6, .inl (v.2.2.2.2 3))), ((q_a4 4), .inl (cs 0, 6, .inl (v.2.2.2.2 4))), ((q_a4 5), .inl (cs 0, 6, .inl (v.2.2.2.2 5)))] H := hP
    replace hD : va_D A [oX2 h_t (va_up q_t 0 h_a1) (r3.1), (h_a1, .inl (cs 1, 250, .inl f_a1)), oX4 h_a3 q_a3 (v.2.2.1.1), ((q_a3 1), .inl (cs 0, 6, .inl (v.2.2.1.2 1))), ((q_a3 2), .inl (cs 0, 6, .inl (v.2.2.1.2 2))), ((q_a3 4), .inl (cs 0, 3, .inl (v.2.2.1.2 4))), ((q_a3 5), .inl (cs 0, 3, .inl (v.2.2.1.2 5))), oX0 h_a4 q_a4 (v.2.2.2.1), ((q_a4 1), .inl (cs 0, 6, .inl (v.2.2.2.2 1))), ((q_a4 2), .inl (cs 0, 6, .inl (v.2.2.2.2 2))), ((q_a4 3), .inl (cs 0, 6, .inl (v.2.2.2.2 3))), ((q_a4 4), .inl (cs 0, 6, .inl (v.2.2.2.2 4))), ((q_a4 5), .inl (cs 0, 6, .inl (v.2.2.2.2 5)))] := hD
    refine lv_aload_n hx hb dX2_readTown_36 rfl (lv_at hl 0 rfl) ?_
    refine va_get (D := D) (ci := 2) (v := .int (r3.1 4)) (C := RX2) (T := TX2) (N := 7) hx hb hT iX2 hown hK hP 0 rfl rfl 4 (by decide) (hT _ fw_X2_25) (fun _ h9 => h9) rfl dX2_readTown_37 ?_
    have g6 := ite_some hf
    refine lv_if_ne (tgt := 46) hx hb dX2_readTown_40 (by decide) (fun c5 => ?_) (fun c5 => ?_)
    · replace hf := g6.2 c5
      refine lv_aload_n hx hb dX2_readTown_46 rfl (lv_at hl 0 rfl) ?_
      refine lv_aload_n hx hb dX2_readTown_47 rfl (lv_at hl 1 rfl) ?_
      refine lv_aload hx hb dX2_readTown_48 (lv_at hl 2 rfl) ?_
      obtain ⟨r7, e8, hf⟩ := bind_some hf
      refine callVi (As := [.ref h_a3, .ref h_a4]) (rest := []) M (mX2_readItem l D cs sk h_t h_a3 h_a4 (va_up q_t 0 h_a1) q_a3 q_a4 k (r3.1, (va_up d_t.2 0 f_a1)) (v.2.2.1.1, (va_up (va_up (va_up (va_up d_a3.2 1 (v.2.2.1.2 1)) 2 (v.2.2.1.2 2)) 4 (v.2.2.1.2 4)) 5 (v.2.2.1.2 5))) (v.2.2.2.1, (va_up (va_up (va_up (va_up (va_up d_a4.2 1 (v.2.2.2.2 1)) 2 (v.2.2.2.2 2)) 3 (v.2.2.2.2 3)) 4 (v.2.2.2.2 4)) 5 (v.2.2.2.2 5))) e8) mw_X2_43 ln_X2_readItem ⟨rfl, rfl, Nat.le_of_ble_eq_true rfl, Nat.le_of_ble_eq_true rfl⟩ hP hD hS hA [0, 1, 2, 3, 4, 5, 6, 7, 8, 9, 10, 11, 12] (by decide) rfl rfl (q0 := 0) rfl rfl rfl ⟨Nat.zero_le _, Nat.zero_le _⟩ hl.1 rfl (Nat.le_of_ble_eq_true rfl) dX2_readTown_50 (fun H locs hP hD hS => ?_)
      replace hP : va_P D vwCl [oX2 h_t (va_up q_t 0 h_a1) (r7.2.1.1), (h_a1, .inl (cs 1, 250, .inl f_a1)), oX4 h_a3 q_a3 (r7.2.2.1.1), ((q_a3 1), .inl (cs 0, 6, .inl (r7.2.2.1.2 1))), ((q_a3 2), .inl (cs 0, 6, .inl (r7.2.2.1.2 2))), ((q_a3 4), .inl (cs 0, 3, .inl (r7.2.2.1.2 4))), ((q_a3 5), .inl (cs 0, 3, .inl (r7.2.2.1.2 5))), oX0 h_a4 q_a4 (r7.2.2.2.1), ((q_a4 1), .inl (cs 0, 6, .inl (r7.2.2.2.2 1))), ((q_a4 2), .inl (cs 0, 6, .inl (r7.2.2.2.2 2))), ((q_a4 3), .inl (cs 0, 6, .inl (r7.2.2.2.2 3))), ((q_a4 4), .inl (cs 0, 6, .inl (r7.2.2.2.2 4))), ((q_a4 5), .inl (cs 0, 6, .inl (r7.2.2.2.2 5)))] H := hP
      replace hD : va_D A [oX2 h_t (va_up q_t 0 h_a1) (r7.2.1.1), (h_a1, .inl (cs 1, 250, .inl f_a1)), oX4 h_a3 q_a3 (r7.2.2.1.1), ((q_a3 1), .inl (cs 0, 6, .inl (r7.2.2.1.2 1))), ((q_a3 2), .inl (cs 0, 6, .inl (r7.2.2.1.2 2))), ((q_a3 4), .inl (cs 0, 3, .inl (r7.2.2.1.2 4))), ((q_a3 5), .inl (cs 0, 3, .inl (r7.2.2.1.2 5))), oX0 h_a4 q_a4 (r7.2.2.2.1), ((q_a4 1), .inl (cs 0, 6, .inl (r7.2.2.2.2 1))), ((q_a4 2), .inl (cs 0, 6, .inl (r7.2.2.2.2 2))), ((q_a4 3), .inl (cs 0, 6, .inl (r7.2.2.2.2 3))), ((q_a4 4), .inl (cs 0, 6, .inl (r7.2.2.2.2 4))), ((q_a4 5), .inl (cs 0, 6, .inl (r7.2.2.2.2 5)))] := hD
      have g10 := ite_some hf
      refine lv_if_ne (tgt := 66) hx hb dX2_readTown_53 (by decide) (fun c9 => ?_) (fun c9 => ?_)
      · replace hf := g10.2 c9
        refine lv_iinc (v := ((v.1) + 1)) (lv' := [(5, .int ((v.1) + 1)), (0, .ref h_t), (3, .ref h_a3), (4, .ref h_a4)]) hx hb dX2_readTown_66 hl (k := 3) rfl rfl (by decide) rfl (fun ls hl => ?_)
        refine lv_goto (tgt := 23) hx hb dX2_readTown_69 (by decide) ?_
        exact ih _ hf _ _ _ hP hD hS (lv_sub hl [1, 2, 3, 0] rfl)
      · replace hf := g10.1 c9
        exact hK56 _ hf _ _ _ hP hD hS (lv_sub hl [0] rfl)
    · replace hf := g6.1 c5
      exact hK43 _ hf _ _ _ hP hD hS (lv_sub hl [3] rfl)
set_option maxHeartbeats 4000000 in
set_option maxRecDepth 100000 in
theorem mX2_readTown (l : Launch) (D : va_G) (cs : Nat → ClassId) (sk : Nat → Nat) (h_t : Nat) (h_a1 : Nat) (h_a3 : Nat) (h_a4 : Nat) (q_t : Nat → Nat) (q_a3 : Nat → Nat) (q_a4 : Nat → Nat) (k : Nat) (d_t : Dat) (d_a3 : Dat) (d_a4 : Dat) (f_a1 : Nat → Int32) (x2 : Int32) {rv : Int32 × Dat × Dat × Dat} (hf : fX2_readTown k d_t d_a3 d_a4 f_a1 x2 = some rv) : CTi l yX2_readTown (Cond.code yX2_readTown cX2_readTown 6 (some .int) :: gtbl) rm_X2_readTown D cs sk [.ref h_t, .ref h_a1, .int x2, .ref h_a3, .ref h_a4] [oX2 h_t q_t (d_t.1), (h_a1, .inl (cs 1, 250, .inl f_a1)), oX4 h_a3 q_a3 (d_a3.1), ((q_a3 1), .inl (cs 0, 6, .inl (d_a3.2 1))), ((q_a3 2), .inl (cs 0, 6, .inl (d_a3.2 2))), ((q_a3 4), .inl (cs 0, 3, .inl (d_a3.2 4))), ((q_a3 5), .inl (cs 0, 3, .inl (d_a3.2 5))), oX0 h_a4 q_a4 (d_a4.1), ((q_a4 1), .inl (cs 0, 6, .inl (d_a4.2 1))), ((q_a4 2), .inl (cs 0, 6, .inl (d_a4.2 2))), ((q_a4 3), .inl (cs 0, 6, .inl (d_a4.2 3))), ((q_a4 4), .inl (cs 0, 6, .inl (d_a4.2 4))), ((q_a4 5), .inl (cs 0, 6, .inl (d_a4.2 5)))] (rv.1) [oX2 h_t (va_up q_t 0 h_a1) (rv.2.1.1), (h_a1, .inl (cs 1, 250, .inl f_a1)), oX4 h_a3 q_a3 (rv.2.2.1.1), ((q_a3 1), .inl (cs 0, 6, .inl (rv.2.2.1.2 1))), ((q_a3 2), .inl (cs 0, 6, .inl (rv.2.2.1.2 2))), ((q_a3 4), .inl (cs 0, 3, .inl (rv.2.2.1.2 4))), ((q_a3 5), .inl (cs 0, 3, .inl (rv.2.2.1.2 5))), oX0 h_a4 q_a4 (rv.2.2.2.1), ((q_a4 1), .inl (cs 0, 6, .inl (rv.2.2.2.2 1))), ((q_a4 2), .inl (cs 0, 6, .inl (rv.2.2.2.2 2))), ((q_a4 3), .inl (cs 0, 6, .inl (rv.2.2.2.2 3))), ((q_a4 4), .inl (cs 0, 6, .inl (rv.2.2.2.2 4))), ((q_a4 5), .inl (cs 0, 6, .inl (rv.2.2.2.2 5)))] := by
  refine CTi.of RX2 (by decide +kernel) rfl (Nat.le_of_ble_eq_true rfl) (fun p e s m args below meth c A Q ls M hA hR hl hP hD hS => ?_)
  obtain ⟨hx, hb, hml, hT, hown, hlk, hrt, hK, hN, hSE⟩ := id M
  replace hl : lv_has ls 6 [(0, .ref h_t), (1, .ref h_a1), (2, .int x2), (3, .ref h_a3), (4, .ref h_a4)] := hl
  unfold fX2_readTown at hf
  refine lv_aload_n hx hb dX2_readTown_0 rfl (lv_at hl 0 rfl) ?_
  refine lv_aload_n hx hb dX2_readTown_1 rfl (lv_at hl 1 rfl) ?_
  refine va_put (D := D) (ci := 2) (v := .ref h_a1) (ty := tyX2 0) (C := RX2) (T := TX2) (N := 7) hx hb hT iX2 tyX2 tyX2_ok nmX2 hown hK hP hD hS 0 rfl rfl 0 (by decide) (hT _ fw_X2_9) (fun _ h9 => h9) rfl (tyX2_ok 0 (by decide)) rfl rfl (Nat.le_of_ble_eq_true rfl) dX2_readTown_2 (fun H locs hP hD hS => ?_)
  replace hP : va_P D vwCl [oX2 h_t (va_up q_t 0 h_a1) (d_t.1), (h_a1, .inl (cs 1, 250, .inl f_a1)), oX4 h_a3 q_a3 (d_a3.1), ((q_a3 1), .inl (cs 0, 6, .inl (d_a3.2 1))), ((q_a3 2), .inl (cs 0, 6, .inl (d_a3.2 2))), ((q_a3 4), .inl (cs 0, 3, .inl (d_a3.2 4))), ((q_a3 5), .inl (cs 0, 3, .inl (d_a3.2 5))), oX0 h_a4 q_a4 (d_a4.1), ((q_a4 1), .inl (cs 0, 6, .inl (d_a4.2 1))), ((q_a4 2), .inl (cs 0, 6, .inl (d_a4.2 2))), ((q_a4 3), .inl (cs 0, 6, .inl (d_a4.2 3))), ((q_a4 4), .inl (cs 0, 6, .inl (d_a4.2 4))), ((q_a4 5), .inl (cs 0, 6, .inl (d_a4.2 5)))] H := hP
  replace hD : va_D A [oX2 h_t (va_up q_t 0 h_a1) (d_t.1), (h_a1, .inl (cs 1, 250, .inl f_a1)), oX4 h_a3 q_a3 (d_a3.1), ((q_a3 1), .inl (cs 0, 6, .inl (d_a3.2 1))), ((q_a3 2), .inl (cs 0, 6, .inl (d_a3.2 2))), ((q_a3 4), .inl (cs 0, 3, .inl (d_a3.2 4))), ((q_a3 5), .inl (cs 0, 3, .inl (d_a3.2 5))), oX0 h_a4 q_a4 (d_a4.1), ((q_a4 1), .inl (cs 0, 6, .inl (d_a4.2 1))), ((q_a4 2), .inl (cs 0, 6, .inl (d_a4.2 2))), ((q_a4 3), .inl (cs 0, 6, .inl (d_a4.2 3))), ((q_a4 4), .inl (cs 0, 6, .inl (d_a4.2 4))), ((q_a4 5), .inl (cs 0, 6, .inl (d_a4.2 5)))] := hD
  refine lv_aload_n hx hb dX2_readTown_5 rfl (lv_at hl 0 rfl) ?_
  refine lv_iload_n hx hb dX2_readTown_6 rfl (lv_at hl 2 rfl) ?_
  refine lv_aload_n hx hb dX2_readTown_7 rfl (lv_at hl 1 rfl) ?_
  refine va_alen (D := D) (v := (Int32.ofNat 250)) hx hb hK hP 1 1 rfl rfl rfl dX2_readTown_8 ?_
  refine va_mmin hx hb (hml.trans hl.1.symm) hown (hT _ jw_X2_34.1) (hT _ jw_X2_34.2.1) (hT _ jw_X2_34.2.2.1) (hT _ jw_X2_34.2.2.2) (Nat.le_of_ble_eq_true rfl) (Nat.le_of_ble_eq_true rfl) (Nat.zero_le _) (Nat.zero_le _) dX2_readTown_9 ?_
  refine va_put (D := D) (ci := 2) (v := .int (if (Int32.ofNat 250) < x2 then (Int32.ofNat 250) else x2)) (ty := tyX2 1) (C := RX2) (T := TX2) (N := 7) hx hb hT iX2 tyX2 tyX2_ok nmX2 hown hK hP hD hS 0 rfl rfl 1 (by decide) (hT _ fw_X2_15) (fun _ h9 => h9) rfl (tyX2_ok 1 (by decide)) rfl rfl (Nat.le_of_ble_eq_true rfl) dX2_readTown_12 (fun H locs hP hD hS => ?_)
  replace hP : va_P D vwCl [oX2 h_t (va_up q_t 0 h_a1) (upd d_t.1 1 (if (Int32.ofNat 250) < x2 then (Int32.ofNat 250) else x2)), (h_a1, .inl (cs 1, 250, .inl f_a1)), oX4 h_a3 q_a3 (d_a3.1), ((q_a3 1), .inl (cs 0, 6, .inl (d_a3.2 1))), ((q_a3 2), .inl (cs 0, 6, .inl (d_a3.2 2))), ((q_a3 4), .inl (cs 0, 3, .inl (d_a3.2 4))), ((q_a3 5), .inl (cs 0, 3, .inl (d_a3.2 5))), oX0 h_a4 q_a4 (d_a4.1), ((q_a4 1), .inl (cs 0, 6, .inl (d_a4.2 1))), ((q_a4 2), .inl (cs 0, 6, .inl (d_a4.2 2))), ((q_a4 3), .inl (cs 0, 6, .inl (d_a4.2 3))), ((q_a4 4), .inl (cs 0, 6, .inl (d_a4.2 4))), ((q_a4 5), .inl (cs 0, 6, .inl (d_a4.2 5)))] H := hP
  replace hD : va_D A [oX2 h_t (va_up q_t 0 h_a1) (upd d_t.1 1 (if (Int32.ofNat 250) < x2 then (Int32.ofNat 250) else x2)), (h_a1, .inl (cs 1, 250, .inl f_a1)), oX4 h_a3 q_a3 (d_a3.1), ((q_a3 1), .inl (cs 0, 6, .inl (d_a3.2 1))), ((q_a3 2), .inl (cs 0, 6, .inl (d_a3.2 2))), ((q_a3 4), .inl (cs 0, 3, .inl (d_a3.2 4))), ((q_a3 5), .inl (cs 0, 3, .inl (d_a3.2 5))), oX0 h_a4 q_a4 (d_a4.1), ((q_a4 1), .inl (cs 0, 6, .inl (d_a4.2 1))), ((q_a4 2), .inl (cs 0, 6, .inl (d_a4.2 2))), ((q_a4 3), .inl (cs 0, 6, .inl (d_a4.2 3))), ((q_a4 4), .inl (cs 0, 6, .inl (d_a4.2 4))), ((q_a4 5), .inl (cs 0, 6, .inl (d_a4.2 5)))] := hD
  refine lv_aload_n hx hb dX2_readTown_15 rfl (lv_at hl 0 rfl) ?_
  refine lv_iconst (v := 0) hx hb dX2_readTown_16 rfl ?_
  refine va_put (D := D) (ci := 2) (v := .int 0) (ty := tyX2 2) (C := RX2) (T := TX2) (N := 7) hx hb hT iX2 tyX2 tyX2_ok nmX2 hown hK hP hD hS 0 rfl rfl 2 (by decide) (hT _ fw_X2_19) (fun _ h9 => h9) rfl (tyX2_ok 2 (by decide)) rfl rfl (Nat.le_of_ble_eq_true rfl) dX2_readTown_17 (fun H locs hP hD hS => ?_)
  replace hP : va_P D vwCl [oX2 h_t (va_up q_t 0 h_a1) (upd (upd d_t.1 1 (if (Int32.ofNat 250) < x2 then (Int32.ofNat 250) else x2)) 2 0), (h_a1, .inl (cs 1, 250, .inl f_a1)), oX4 h_a3 q_a3 (d_a3.1), ((q_a3 1), .inl (cs 0, 6, .inl (d_a3.2 1))), ((q_a3 2), .inl (cs 0, 6, .inl (d_a3.2 2))), ((q_a3 4), .inl (cs 0, 3, .inl (d_a3.2 4))), ((q_a3 5), .inl (cs 0, 3, .inl (d_a3.2 5))), oX0 h_a4 q_a4 (d_a4.1), ((q_a4 1), .inl (cs 0, 6, .inl (d_a4.2 1))), ((q_a4 2), .inl (cs 0, 6, .inl (d_a4.2 2))), ((q_a4 3), .inl (cs 0, 6, .inl (d_a4.2 3))), ((q_a4 4), .inl (cs 0, 6, .inl (d_a4.2 4))), ((q_a4 5), .inl (cs 0, 6, .inl (d_a4.2 5)))] H := hP
  replace hD : va_D A [oX2 h_t (va_up q_t 0 h_a1) (upd (upd d_t.1 1 (if (Int32.ofNat 250) < x2 then (Int32.ofNat 250) else x2)) 2 0), (h_a1, .inl (cs 1, 250, .inl f_a1)), oX4 h_a3 q_a3 (d_a3.1), ((q_a3 1), .inl (cs 0, 6, .inl (d_a3.2 1))), ((q_a3 2), .inl (cs 0, 6, .inl (d_a3.2 2))), ((q_a3 4), .inl (cs 0, 3, .inl (d_a3.2 4))), ((q_a3 5), .inl (cs 0, 3, .inl (d_a3.2 5))), oX0 h_a4 q_a4 (d_a4.1), ((q_a4 1), .inl (cs 0, 6, .inl (d_a4.2 1))), ((q_a4 2), .inl (cs 0, 6, .inl (d_a4.2 2))), ((q_a4 3), .inl (cs 0, 6, .inl (d_a4.2 3))), ((q_a4 4), .inl (cs 0, 6, .inl (d_a4.2 4))), ((q_a4 5), .inl (cs 0, 6, .inl (d_a4.2 5)))] := hD
  refine lv_iconst (v := 0) hx hb dX2_readTown_20 rfl ?_
  refine lv_istore (lv' := [(5, .int 0), (0, .ref h_t), (1, .ref h_a1), (2, .int x2), (3, .ref h_a3), (4, .ref h_a4)]) hx hb dX2_readTown_21 hl (by decide) rfl (fun ls hl => ?_)
  refine mX2_readTown_B23 h_t h_a1 h_a3 h_a4 q_t q_a3 q_a4 k ((upd (upd d_t.1 1 (if (Int32.ofNat 250) < x2 then (Int32.ofNat 250) else x2)) 2 0), d_t.2) d_a3 d_a4 f_a1 _ _ _ M hA hR (fun w1 hf H locs ls hP hD hS hl => ?_) (fun w2 hf H locs ls hP hD hS hl => ?_) (fun w3 hf H locs ls hP hD hS hl => ?_) _ _ hf _ _ _ hP hD hS (lv_sub hl [1, 4, 5, 0] rfl)
  · refine lv_iload hx hb dX2_readTown_43 (lv_at hl 0 rfl) ?_
    have e9 := Option.some.inj hf
    subst e9
    exact hR _ _ _ _ dX2_readTown_45 hP hS
  · refine lv_aload_n hx hb dX2_readTown_56 rfl (lv_at hl 0 rfl) ?_
    refine lv_aload_n hx hb dX2_readTown_57 rfl (lv_at hl 0 rfl) ?_
    refine va_get (D := D) (ci := 2) (v := .int (w2.1.1 3)) (C := RX2) (T := TX2) (N := 7) hx hb hT iX2 hown hK hP 0 rfl rfl 3 (by decide) (hT _ fw_X2_22) (fun _ h9 => h9) rfl dX2_readTown_58 ?_
    refine va_put (D := D) (ci := 2) (v := .int (w2.1.1 3)) (ty := tyX2 6) (C := RX2) (T := TX2) (N := 7) hx hb hT iX2 tyX2 tyX2_ok nmX2 hown hK hP hD hS 0 rfl rfl 6 (by decide) (hT _ fw_X2_31) (fun _ h9 => h9) rfl (tyX2_ok 6 (by decide)) rfl rfl (Nat.le_of_ble_eq_true rfl) dX2_readTown_61 (fun H locs hP hD hS => ?_)
    replace hP : va_P D vwCl [oX2 h_t (va_up q_t 0 h_a1) (upd w2.1.1 6 (w2.1.1 3)), (h_a1, .inl (cs 1, 250, .inl f_a1)), oX4 h_a3 q_a3 (w2.2.1.1), ((q_a3 1), .inl (cs 0, 6, .inl (w2.2.1.2 1))), ((q_a3 2), .inl (cs 0, 6, .inl (w2.2.1.2 2))), ((q_a3 4), .inl (cs 0, 3, .inl (w2.2.1.2 4))), ((q_a3 5), .inl (cs 0, 3, .inl (w2.2.1.2 5))), oX0 h_a4 q_a4 (w2.2.2.1), ((q_a4 1), .inl (cs 0, 6, .inl (w2.2.2.2 1))), ((q_a4 2), .inl (cs 0, 6, .inl (w2.2.2.2 2))), ((q_a4 3), .inl (cs 0, 6, .inl (w2.2.2.2 3))), ((q_a4 4), .inl (cs 0, 6, .inl (w2.2.2.2 4))), ((q_a4 5), .inl (cs 0, 6, .inl (w2.2.2.2 5)))] H := hP
    replace hD : va_D A [oX2 h_t (va_up q_t 0 h_a1) (upd w2.1.1 6 (w2.1.1 3)), (h_a1, .inl (cs 1, 250, .inl f_a1)), oX4 h_a3 q_a3 (w2.2.1.1), ((q_a3 1), .inl (cs 0, 6, .inl (w2.2.1.2 1))), ((q_a3 2), .inl (cs 0, 6, .inl (w2.2.1.2 2))), ((q_a3 4), .inl (cs 0, 3, .inl (w2.2.1.2 4))), ((q_a3 5), .inl (cs 0, 3, .inl (w2.2.1.2 5))), oX0 h_a4 q_a4 (w2.2.2.1), ((q_a4 1), .inl (cs 0, 6, .inl (w2.2.2.2 1))), ((q_a4 2), .inl (cs 0, 6, .inl (w2.2.2.2 2))), ((q_a4 3), .inl (cs 0, 6, .inl (w2.2.2.2 3))), ((q_a4 4), .inl (cs 0, 6, .inl (w2.2.2.2 4))), ((q_a4 5), .inl (cs 0, 6, .inl (w2.2.2.2 5)))] := hD
    refine lv_iconst (v := (-1)) hx hb dX2_readTown_64 rfl ?_
    have e9 := Option.some.inj hf
    subst e9
    exact hR _ _ _ _ dX2_readTown_65 hP hS
  · refine lv_iconst (v := (-1)) hx hb dX2_readTown_72 rfl ?_
    have e9 := Option.some.inj hf
    subst e9
    exact hR _ _ _ _ dX2_readTown_73 hP hS
