abbrev rm_X7_layAll : Room := { frames := 4, cells := 0, slots := 0, locals := 93 }
def fX7_layAll_B7 (k : Nat) (x1 : Int32) (d_t : Dat) (K35 : Dat → Option (Dat)) (rec : Int32 × Dat → Option (Dat)) (v : Int32 × Dat) : Option (Dat) :=
  (fX7_players k (v.2.1, (va_up (va_up (va_up d_t.2 4 (v.2.2 4)) 5 (v.2.2 5)) 6 (v.2.2 6)))).bind (fun (r1 : Int32) => (if r1 ≤ (v.1) then K35 (v.2.1, (va_up (va_up (va_up d_t.2 4 (v.2.2 4)) 5 (v.2.2 5)) 6 (v.2.2 6))) else (fX7_isAwake k (v.2.1, (va_up (va_up (va_up d_t.2 4 (v.2.2 4)) 5 (v.2.2 5)) 6 (v.2.2 6))) (v.1)).bind (fun (r5 : Int32) => (if r5 = 0 then rec (((v.1) + 1), (v.2.1, (va_up (va_up (va_up d_t.2 4 (v.2.2 4)) 5 (v.2.2 5)) 6 (v.2.2 6)))) else (fX7_layOf k (v.2.1, (va_up (va_up (va_up d_t.2 4 (v.2.2 4)) 5 (v.2.2 5)) 6 (v.2.2 6))) (v.1) x1).bind (fun (r9 : Dat) => rec (((v.1) + 1), (r9.1, (va_up (va_up (va_up d_t.2 4 (r9.2 4)) 5 (r9.2 5)) 6 (r9.2 6)))))))))
def fX7_layAll (k : Nat) (d_t : Dat) (x1 : Int32) : Option (Dat) :=
  lp (fX7_layAll_B7 k x1 ((upd d_t.1 7 0), d_t.2) (fun (w1 : Dat) => some (w1.1, (va_up (va_up (va_up d_t.2 4 (w1.2 4)) 5 (w1.2 5)) 6 (w1.2 6))))) k (0, ((upd d_t.1 7 0), d_t.2))
set_option maxHeartbeats 4000000 in
set_option maxRecDepth 100000 in
theorem mX7_layAll_B7 {l : Launch} {p : Program} {e : Env} {s : State} {m : MethodId} {args : Array Value} {below : List Frame} {meth : Method} {c : Code} {D : va_G} {cs : Nat → ClassId} {sk : Nat → Nat} {A : Nat → Prop} {Q : State → Prop} (h_t : Nat) (q_t : Nat → Nat) (k : Nat) (x1 : Int32) (d_t : Dat) {rv : Dat}  (K35 : Dat → Option (Dat))
    (M : MC p s m args meth c D cs sk A RX7 cX7_layAll 3 none) (hA : ∀ q, s.heap.size ≤ q → A q) (hR : RetV p l e rm_X7_layAll s m args below meth c D cX7_layAll A Q [oX7 h_t q_t (rv.1), ((q_t 0), .inl (cs 0, 106, .inl (d_t.2 0))), ((q_t 4), .inl (cs 0, 12, .inl (rv.2 4))), ((q_t 5), .inl (cs 0, 12, .inl (rv.2 5))), ((q_t 6), .inl (cs 0, 12, .inl (rv.2 6)))])
    (hK35 : ∀ (w : Dat), K35 w = some rv → ∀ (H : Heap) (locs : List Loc) (ls : Array Slot), va_P D vwCl [oX7 h_t q_t (w.1), ((q_t 0), .inl (cs 0, 106, .inl (d_t.2 0))), ((q_t 4), .inl (cs 0, 12, .inl (w.2 4))), ((q_t 5), .inl (cs 0, 12, .inl (w.2 5))), ((q_t 6), .inl (cs 0, 12, .inl (w.2 6)))] H → va_D A [oX7 h_t q_t (w.1), ((q_t 0), .inl (cs 0, 106, .inl (d_t.2 0))), ((q_t 4), .inl (cs 0, 12, .inl (w.2 4))), ((q_t 5), .inl (cs 0, 12, .inl (w.2 5))), ((q_t 6), .inl (cs 0, 12, .inl (w.2 6)))] → va_S A s.heap H locs → lv_has ls 3 [] → W p l e rm_X7_layAll s m args below meth c H locs 0 0 Q (F0 m 35 ls []))
    : ∀ (n : Nat) (v : Int32 × Dat), lp (fX7_layAll_B7 k x1 d_t K35) n v = some rv → ∀ (H : Heap) (locs : List Loc) (ls : Array Slot), va_P D vwCl [oX7 h_t q_t (v.2.1), ((q_t 0), .inl (cs 0, 106, .inl (d_t.2 0))), ((q_t 4), .inl (cs 0, 12, .inl (v.2.2 4))), ((q_t 5), .inl (cs 0, 12, .inl (v.2.2 5))), ((q_t 6), .inl (cs 0, 12, .inl (v.2.2 6)))] H → va_D A [oX7 h_t q_t (v.2.1), ((q_t 0), .inl (cs 0, 106, .inl (d_t.2 0))), ((q_t 4), .inl (cs 0, 12, .inl (v.2.2 4))), ((q_t 5), .inl (cs 0, 12, .inl (v.2.2 5))), ((q_t 6), .inl (cs 0, 12, .inl (v.2.2 6)))] → va_S A s.heap H locs → lv_has ls 3 [(0, .ref h_t), (1, .int x1), (2, .int (v.1))] → W p l e rm_X7_layAll s m args below meth c H locs 0 0 Q (F0 m 7 ls []) := by
  obtain ⟨hx, hb, hml, hT, hown, hlk, hrt, hK, hN, hSE⟩ := id M
  refine lp_ind (fun rec ih v hf H locs ls hP hD hS hl => ?_)
  unfold fX7_layAll_B7 at hf
  refine lv_iload_n hx hb dX7_layAll_7 rfl (lv_at hl 2 rfl) ?_
  refine lv_aload_n hx hb dX7_layAll_8 rfl (lv_at hl 0 rfl) ?_
  obtain ⟨r1, e2, hf⟩ := bind_some hf
  refine callVi (As := []) (rest := [.int (v.1)]) M (mX7_players l D cs sk h_t q_t k (v.2.1, (va_up (va_up (va_up d_t.2 4 (v.2.2 4)) 5 (v.2.2 5)) 6 (v.2.2 6))) e2) mw_X7_67 ln_X7_players ⟨rfl, rfl, Nat.le_of_ble_eq_true rfl, Nat.le_of_ble_eq_true rfl⟩ hP hD hS hA [0, 1] (by decide) rfl rfl (q0 := 0) rfl rfl rfl ⟨Nat.zero_le _, Nat.zero_le _⟩ hl.1 rfl (Nat.le_of_ble_eq_true rfl) dX7_layAll_9 (fun H locs hP hD hS => ?_)
  replace hP : va_P D vwCl [oX7 h_t q_t (v.2.1), ((q_t 0), .inl (cs 0, 106, .inl (d_t.2 0))), ((q_t 4), .inl (cs 0, 12, .inl (v.2.2 4))), ((q_t 5), .inl (cs 0, 12, .inl (v.2.2 5))), ((q_t 6), .inl (cs 0, 12, .inl (v.2.2 6)))] H := hP
  replace hD : va_D A [oX7 h_t q_t (v.2.1), ((q_t 0), .inl (cs 0, 106, .inl (d_t.2 0))), ((q_t 4), .inl (cs 0, 12, .inl (v.2.2 4))), ((q_t 5), .inl (cs 0, 12, .inl (v.2.2 5))), ((q_t 6), .inl (cs 0, 12, .inl (v.2.2 6)))] := hD
  have g4 := ite_some hf
  refine lv_icmp_ge (tgt := 35) hx hb dX7_layAll_12 (by decide) (fun c3 => ?_) (fun c3 => ?_)
  · replace hf := g4.1 c3
    exact hK35 _ hf _ _ _ hP hD hS (lv_sub hl [] rfl)
  · replace hf := g4.2 c3
    refine lv_aload_n hx hb dX7_layAll_15 rfl (lv_at hl 0 rfl) ?_
    refine lv_iload_n hx hb dX7_layAll_16 rfl (lv_at hl 2 rfl) ?_
    obtain ⟨r5, e6, hf⟩ := bind_some hf
    refine callVi (As := [.int (v.1)]) (rest := []) M (mX7_isAwake l D cs sk h_t q_t k (v.2.1, (va_up (va_up (va_up d_t.2 4 (v.2.2 4)) 5 (v.2.2 5)) 6 (v.2.2 6))) (v.1) e6) mw_X7_146 ln_X7_isAwake ⟨rfl, rfl, Nat.le_of_ble_eq_true rfl, Nat.le_of_ble_eq_true rfl⟩ hP hD hS hA [0, 1] (by decide) rfl rfl (q0 := 0) rfl rfl rfl ⟨Nat.zero_le _, Nat.zero_le _⟩ hl.1 rfl (Nat.le_of_ble_eq_true rfl) dX7_layAll_17 (fun H locs hP hD hS => ?_)
    replace hP : va_P D vwCl [oX7 h_t q_t (v.2.1), ((q_t 0), .inl (cs 0, 106, .inl (d_t.2 0))), ((q_t 4), .inl (cs 0, 12, .inl (v.2.2 4))), ((q_t 5), .inl (cs 0, 12, .inl (v.2.2 5))), ((q_t 6), .inl (cs 0, 12, .inl (v.2.2 6)))] H := hP
    replace hD : va_D A [oX7 h_t q_t (v.2.1), ((q_t 0), .inl (cs 0, 106, .inl (d_t.2 0))), ((q_t 4), .inl (cs 0, 12, .inl (v.2.2 4))), ((q_t 5), .inl (cs 0, 12, .inl (v.2.2 5))), ((q_t 6), .inl (cs 0, 12, .inl (v.2.2 6)))] := hD
    have g8 := ite_some hf
    refine lv_if_eq (tgt := 29) hx hb dX7_layAll_20 (by decide) (fun c7 => ?_) (fun c7 => ?_)
    · replace hf := g8.1 c7
      refine lv_iinc (v := ((v.1) + 1)) (lv' := [(2, .int ((v.1) + 1)), (0, .ref h_t), (1, .int x1)]) hx hb dX7_layAll_29 hl (k := 2) rfl rfl (by decide) rfl (fun ls hl => ?_)
      refine lv_goto (tgt := 7) hx hb dX7_layAll_32 (by decide) ?_
      exact ih _ hf _ _ _ hP hD hS (lv_sub hl [1, 2, 0] rfl)
    · replace hf := g8.2 c7
      refine lv_aload_n hx hb dX7_layAll_23 rfl (lv_at hl 0 rfl) ?_
      refine lv_iload_n hx hb dX7_layAll_24 rfl (lv_at hl 2 rfl) ?_
      refine lv_iload_n hx hb dX7_layAll_25 rfl (lv_at hl 1 rfl) ?_
      obtain ⟨r9, e10, hf⟩ := bind_some hf
      refine callVv (As := [.int (v.1), .int x1]) (rest := []) M (mX7_layOf l D cs sk h_t q_t k (v.2.1, (va_up (va_up (va_up d_t.2 4 (v.2.2 4)) 5 (v.2.2 5)) 6 (v.2.2 6))) (v.1) x1 e10) mw_X7_149 ln_X7_layOf ⟨rfl, rfl, Nat.le_of_ble_eq_true rfl, Nat.le_of_ble_eq_true rfl⟩ hP hD hS hA [0, 1, 2, 3, 4] (by decide) rfl rfl (q0 := 0) rfl rfl rfl ⟨Nat.zero_le _, Nat.zero_le _⟩ hl.1 rfl (Nat.le_of_ble_eq_true rfl) dX7_layAll_26 (fun H locs hP hD hS => ?_)
      replace hP : va_P D vwCl [oX7 h_t q_t (r9.1), ((q_t 0), .inl (cs 0, 106, .inl (d_t.2 0))), ((q_t 4), .inl (cs 0, 12, .inl (r9.2 4))), ((q_t 5), .inl (cs 0, 12, .inl (r9.2 5))), ((q_t 6), .inl (cs 0, 12, .inl (r9.2 6)))] H := hP
      replace hD : va_D A [oX7 h_t q_t (r9.1), ((q_t 0), .inl (cs 0, 106, .inl (d_t.2 0))), ((q_t 4), .inl (cs 0, 12, .inl (r9.2 4))), ((q_t 5), .inl (cs 0, 12, .inl (r9.2 5))), ((q_t 6), .inl (cs 0, 12, .inl (r9.2 6)))] := hD
      refine lv_iinc (v := ((v.1) + 1)) (lv' := [(2, .int ((v.1) + 1)), (0, .ref h_t), (1, .int x1)]) hx hb dX7_layAll_29 hl (k := 2) rfl rfl (by decide) rfl (fun ls hl => ?_)
      refine lv_goto (tgt := 7) hx hb dX7_layAll_32 (by decide) ?_
      exact ih _ hf _ _ _ hP hD hS (lv_sub hl [1, 2, 0] rfl)
set_option maxHeartbeats 4000000 in
set_option maxRecDepth 100000 in
theorem mX7_layAll (l : Launch) (D : va_G) (cs : Nat → ClassId) (sk : Nat → Nat) (h_t : Nat) (q_t : Nat → Nat) (k : Nat) (d_t : Dat) (x1 : Int32) {rv : Dat} (hf : fX7_layAll k d_t x1 = some rv) : CTv l yX7_layAll (Cond.code yX7_layAll cX7_layAll 3 none :: gtbl) rm_X7_layAll D cs sk [.ref h_t, .int x1] [oX7 h_t q_t (d_t.1), ((q_t 0), .inl (cs 0, 106, .inl (d_t.2 0))), ((q_t 4), .inl (cs 0, 12, .inl (d_t.2 4))), ((q_t 5), .inl (cs 0, 12, .inl (d_t.2 5))), ((q_t 6), .inl (cs 0, 12, .inl (d_t.2 6)))] [oX7 h_t q_t (rv.1), ((q_t 0), .inl (cs 0, 106, .inl (d_t.2 0))), ((q_t 4), .inl (cs 0, 12, .inl (rv.2 4))), ((q_t 5), .inl (cs 0, 12, .inl (rv.2 5))), ((q_t 6), .inl (cs 0, 12, .inl (rv.2 6)))] := by
  refine CTv.of RX7 (by decide +kernel) rfl (Nat.le_of_ble_eq_true rfl) (fun p e s m args below meth c A Q ls M hA hR hl hP hD hS => ?_)
  obtain ⟨hx, hb, hml, hT, hown, hlk, hrt, hK, hN, hSE⟩ := id M
  replace hl : lv_has ls 3 [(0, .ref h_t), (1, .int x1)] := hl
  unfold fX7_layAll at hf
  refine lv_aload_n hx hb dX7_layAll_0 rfl (lv_at hl 0 rfl) ?_
  refine lv_iconst (v := 0) hx hb dX7_layAll_1 rfl ?_
  refine va_put (D := D) (ci := 7) (v := .int 0) (ty := tyX7 7) (C := RX7) (T := TX7) (N := 23) hx hb hT iX7 tyX7 tyX7_ok nmX7 hown hK hP hD hS 0 rfl rfl 7 (by decide) (hT _ fw_X7_139) (fun _ h9 => h9) rfl (tyX7_ok 7 (by decide)) rfl rfl (Nat.le_of_ble_eq_true rfl) dX7_layAll_2 (fun H locs hP hD hS => ?_)
  replace hP : va_P D vwCl [oX7 h_t q_t (upd d_t.1 7 0), ((q_t 0), .inl (cs 0, 106, .inl (d_t.2 0))), ((q_t 4), .inl (cs 0, 12, .inl (d_t.2 4))), ((q_t 5), .inl (cs 0, 12, .inl (d_t.2 5))), ((q_t 6), .inl (cs 0, 12, .inl (d_t.2 6)))] H := hP
  replace hD : va_D A [oX7 h_t q_t (upd d_t.1 7 0), ((q_t 0), .inl (cs 0, 106, .inl (d_t.2 0))), ((q_t 4), .inl (cs 0, 12, .inl (d_t.2 4))), ((q_t 5), .inl (cs 0, 12, .inl (d_t.2 5))), ((q_t 6), .inl (cs 0, 12, .inl (d_t.2 6)))] := hD
  refine lv_iconst (v := 0) hx hb dX7_layAll_5 rfl ?_
  refine lv_istore_n (lv' := [(2, .int 0), (0, .ref h_t), (1, .int x1)]) hx hb dX7_layAll_6 rfl hl (by decide) rfl (fun ls hl => ?_)
  refine mX7_layAll_B7 h_t q_t k x1 ((upd d_t.1 7 0), d_t.2) _ M hA hR (fun w1 hf H locs ls hP hD hS hl => ?_) _ _ hf _ _ _ hP hD hS (lv_sub hl [1, 2, 0] rfl)
  · have e9 := Option.some.inj hf
    subst e9
    exact hR _ _ _ _ dX7_layAll_35 hP hS
abbrev rm_X7_heard : Room := { frames := 5, cells := 0, slots := 0, locals := 115 }
def fX7_heard (k : Nat) (d_t : Dat) (x1 : Int32) (x2 : Int32) (x3 : Int32) : Option (Int32 × Dat) :=
  (fX7_isEar k d_t x1).bind (fun (r1 : Int32) => (if r1 = 0 then (fX7_bad k d_t (-200000)).bind (fun (r5 : Int32 × Dat) => some ((r5.1), (d_t.1, (va_up d_t.2 3 (r5.2.2 3))))) else (fX7_in k x2.toInt64 0 9999).bind (fun (r7 : Int32) => (if r7 = 0 then (fX7_bad k d_t (-200000)).bind (fun (r11 : Int32 × Dat) => some ((r11.1), (d_t.1, (va_up d_t.2 3 (r11.2.2 3))))) else (if (-1) ≤ x3 then (fX7_layAll k ((upd d_t.1 8 0), d_t.2) x1).bind (fun (r15 : Dat) => (if x3 = (-1) then some ((r15.1 7), (r15.1, (va_up (va_up (va_up d_t.2 4 (r15.2 4)) 5 (r15.2 5)) 6 (r15.2 6)))) else (if (r15.1 7) ≤ x3 then some ((-100000), (r15.1, (va_up (va_up (va_up d_t.2 4 (r15.2 4)) 5 (r15.2 5)) 6 (r15.2 6)))) else chk 12 x3 ((fX7_lateOf k (r15.1, (va_up (va_up (va_up d_t.2 4 (r15.2 4)) 5 (r15.2 5)) 6 (r15.2 6))) ((r15.2 4) x3.toNatClampNeg)).bind (fun (r21 : Int32) => chk 12 x3 (some (((x2 + r21) + ((r15.2 5) x3.toNatClampNeg)), (r15.1, (va_up (va_up (va_up d_t.2 4 (r15.2 4)) 5 (r15.2 5)) 6 (r15.2 6)))))))))) else (fX7_bad k d_t (-200000)).bind (fun (r23 : Int32 × Dat) => some ((r23.1), (d_t.1, (va_up d_t.2 3 (r23.2.2 3))))))))))
set_option maxHeartbeats 4000000 in
set_option maxRecDepth 100000 in
theorem mX7_heard (l : Launch) (D : va_G) (cs : Nat → ClassId) (sk : Nat → Nat) (h_t : Nat) (q_t : Nat → Nat) (k : Nat) (d_t : Dat) (x1 : Int32) (x2 : Int32) (x3 : Int32) {rv : Int32 × Dat} (hf : fX7_heard k d_t x1 x2 x3 = some rv) : CTi l yX7_heard (Cond.code yX7_heard cX7_heard 4 (some .int) :: gtbl) rm_X7_heard D cs sk [.ref h_t, .int x1, .int x2, .int x3] [oX7 h_t q_t (d_t.1), ((q_t 0), .inl (cs 0, 106, .inl (d_t.2 0))), ((q_t 3), .inl (cs 0, 3, .inl (d_t.2 3))), ((q_t 4), .inl (cs 0, 12, .inl (d_t.2 4))), ((q_t 5), .inl (cs 0, 12, .inl (d_t.2 5))), ((q_t 6), .inl (cs 0, 12, .inl (d_t.2 6)))] (rv.1) [oX7 h_t q_t (rv.2.1), ((q_t 0), .inl (cs 0, 106, .inl (d_t.2 0))), ((q_t 3), .inl (cs 0, 3, .inl (rv.2.2 3))), ((q_t 4), .inl (cs 0, 12, .inl (rv.2.2 4))), ((q_t 5), .inl (cs 0, 12, .inl (rv.2.2 5))), ((q_t 6), .inl (cs 0, 12, .inl (rv.2.2 6)))] := by
  refine CTi.of RX7 (by decide +kernel) rfl (Nat.le_of_ble_eq_true rfl) (fun p e s m args below meth c A Q ls M hA hR hl hP hD hS => ?_)
  obtain ⟨hx, hb, hml, hT, hown, hlk, hrt, hK, hN, hSE⟩ := id M
  replace hl : lv_has ls 4 [(0, .ref h_t), (1, .int x1), (2, .int x2), (3, .int x3)] := hl
  unfold fX7_heard at hf
  refine lv_aload_n hx hb dX7_heard_0 rfl (lv_at hl 0 rfl) ?_
  refine lv_iload_n hx hb dX7_heard_1 rfl (lv_at hl 1 rfl) ?_
  obtain ⟨r1, e2, hf⟩ := bind_some hf
  refine callVi (As := [.int x1]) (rest := []) M (mX7_isEar l D cs sk h_t q_t k d_t x1 e2) mw_X7_133 ln_X7_isEar ⟨rfl, rfl, Nat.le_of_ble_eq_true rfl, Nat.le_of_ble_eq_true rfl⟩ hP hD hS hA [0, 1] (by decide) rfl rfl (q0 := 0) rfl rfl rfl ⟨Nat.zero_le _, Nat.zero_le _⟩ hl.1 rfl (Nat.le_of_ble_eq_true rfl) dX7_heard_2 (fun H locs hP hD hS => ?_)
  replace hP : va_P D vwCl [oX7 h_t q_t (d_t.1), ((q_t 0), .inl (cs 0, 106, .inl (d_t.2 0))), ((q_t 3), .inl (cs 0, 3, .inl (d_t.2 3))), ((q_t 4), .inl (cs 0, 12, .inl (d_t.2 4))), ((q_t 5), .inl (cs 0, 12, .inl (d_t.2 5))), ((q_t 6), .inl (cs 0, 12, .inl (d_t.2 6)))] H := hP
  replace hD : va_D A [oX7 h_t q_t (d_t.1), ((q_t 0), .inl (cs 0, 106, .inl (d_t.2 0))), ((q_t 3), .inl (cs 0, 3, .inl (d_t.2 3))), ((q_t 4), .inl (cs 0, 12, .inl (d_t.2 4))), ((q_t 5), .inl (cs 0, 12, .inl (d_t.2 5))), ((q_t 6), .inl (cs 0, 12, .inl (d_t.2 6)))] := hD
  have g4 := ite_some hf
  refine lv_if_eq (tgt := 25) hx hb dX7_heard_5 (by decide) (fun c3 => ?_) (fun c3 => ?_)
  · replace hf := g4.1 c3
    refine lv_aload_n hx hb dX7_heard_25 rfl (lv_at hl 0 rfl) ?_
    refine lv_ldc (v := (-200000)) hx hb hown (hT _ kw_X7_159) dX7_heard_26 ?_
    obtain ⟨r5, e6, hf⟩ := bind_some hf
    refine callVi (As := [.int (-200000)]) (rest := []) M (mX7_bad l D cs sk h_t q_t k d_t (-200000) e6) mw_X7_76 ln_X7_bad ⟨rfl, rfl, Nat.le_of_ble_eq_true rfl, Nat.le_of_ble_eq_true rfl⟩ hP hD hS hA [0, 2] (by decide) rfl rfl (q0 := 0) rfl rfl rfl ⟨Nat.zero_le _, Nat.zero_le _⟩ hl.1 rfl (Nat.le_of_ble_eq_true rfl) dX7_heard_28 (fun H locs hP hD hS => ?_)
    replace hP : va_P D vwCl [oX7 h_t q_t (d_t.1), ((q_t 0), .inl (cs 0, 106, .inl (d_t.2 0))), ((q_t 3), .inl (cs 0, 3, .inl (r5.2.2 3))), ((q_t 4), .inl (cs 0, 12, .inl (d_t.2 4))), ((q_t 5), .inl (cs 0, 12, .inl (d_t.2 5))), ((q_t 6), .inl (cs 0, 12, .inl (d_t.2 6)))] H := hP
    replace hD : va_D A [oX7 h_t q_t (d_t.1), ((q_t 0), .inl (cs 0, 106, .inl (d_t.2 0))), ((q_t 3), .inl (cs 0, 3, .inl (r5.2.2 3))), ((q_t 4), .inl (cs 0, 12, .inl (d_t.2 4))), ((q_t 5), .inl (cs 0, 12, .inl (d_t.2 5))), ((q_t 6), .inl (cs 0, 12, .inl (d_t.2 6)))] := hD
    have e9 := Option.some.inj hf
    subst e9
    exact hR _ _ _ _ dX7_heard_31 hP hS
  · replace hf := g4.2 c3
    refine lv_iload_n hx hb dX7_heard_8 rfl (lv_at hl 2 rfl) ?_
    refine lv_i2l (v := x2.toInt64) hx hb dX7_heard_9 rfl ?_
    refine lv_lconst (v := 0) hx hb dX7_heard_10 rfl ?_
    refine W.ldc2 (v := 9999) hx hb hown (hT _ kw_X7_157) rfl dX7_heard_11 ?_
    refine W.eq (g2 := F0 m 14 ls [.long 9999, .long 0, .long x2.toInt64]) rfl ?_
    obtain ⟨r7, e8, hf⟩ := bind_some hf
    refine callSi (As := [.long x2.toInt64, .long 0, .long 9999]) (rest := []) M (mX7_in l D cs sk  k x2.toInt64 0 9999 e8) mw_X7_60 ln_X7_in ⟨rfl, rfl, Nat.le_of_ble_eq_true rfl, Nat.le_of_ble_eq_true rfl⟩ hP hD hS hA [] (by decide) rfl rfl ⟨Nat.zero_le _, Nat.zero_le _⟩ hl.1 rfl (Nat.le_of_ble_eq_true rfl) dX7_heard_14 (fun H locs hP hD hS => ?_)
    replace hP : va_P D vwCl [oX7 h_t q_t (d_t.1), ((q_t 0), .inl (cs 0, 106, .inl (d_t.2 0))), ((q_t 3), .inl (cs 0, 3, .inl (d_t.2 3))), ((q_t 4), .inl (cs 0, 12, .inl (d_t.2 4))), ((q_t 5), .inl (cs 0, 12, .inl (d_t.2 5))), ((q_t 6), .inl (cs 0, 12, .inl (d_t.2 6)))] H := hP
    replace hD : va_D A [oX7 h_t q_t (d_t.1), ((q_t 0), .inl (cs 0, 106, .inl (d_t.2 0))), ((q_t 3), .inl (cs 0, 3, .inl (d_t.2 3))), ((q_t 4), .inl (cs 0, 12, .inl (d_t.2 4))), ((q_t 5), .inl (cs 0, 12, .inl (d_t.2 5))), ((q_t 6), .inl (cs 0, 12, .inl (d_t.2 6)))] := hD
    have g10 := ite_some hf
    refine lv_if_eq (tgt := 25) hx hb dX7_heard_17 (by decide) (fun c9 => ?_) (fun c9 => ?_)
    · replace hf := g10.1 c9
      refine lv_aload_n hx hb dX7_heard_25 rfl (lv_at hl 0 rfl) ?_
      refine lv_ldc (v := (-200000)) hx hb hown (hT _ kw_X7_159) dX7_heard_26 ?_
      obtain ⟨r11, e12, hf⟩ := bind_some hf
      refine callVi (As := [.int (-200000)]) (rest := []) M (mX7_bad l D cs sk h_t q_t k d_t (-200000) e12) mw_X7_76 ln_X7_bad ⟨rfl, rfl, Nat.le_of_ble_eq_true rfl, Nat.le_of_ble_eq_true rfl⟩ hP hD hS hA [0, 2] (by decide) rfl rfl (q0 := 0) rfl rfl rfl ⟨Nat.zero_le _, Nat.zero_le _⟩ hl.1 rfl (Nat.le_of_ble_eq_true rfl) dX7_heard_28 (fun H locs hP hD hS => ?_)
      replace hP : va_P D vwCl [oX7 h_t q_t (d_t.1), ((q_t 0), .inl (cs 0, 106, .inl (d_t.2 0))), ((q_t 3), .inl (cs 0, 3, .inl (r11.2.2 3))), ((q_t 4), .inl (cs 0, 12, .inl (d_t.2 4))), ((q_t 5), .inl (cs 0, 12, .inl (d_t.2 5))), ((q_t 6), .inl (cs 0, 12, .inl (d_t.2 6)))] H := hP
      replace hD : va_D A [oX7 h_t q_t (d_t.1), ((q_t 0), .inl (cs 0, 106, .inl (d_t.2 0))), ((q_t 3), .inl (cs 0, 3, .inl (r11.2.2 3))), ((q_t 4), .inl (cs 0, 12, .inl (d_t.2 4))), ((q_t 5), .inl (cs 0, 12, .inl (d_t.2 5))), ((q_t 6), .inl (cs 0, 12, .inl (d_t.2 6)))] := hD
      have e9 := Option.some.inj hf
      subst e9
      exact hR _ _ _ _ dX7_heard_31 hP hS
    · replace hf := g10.2 c9
      refine lv_iload_n hx hb dX7_heard_20 rfl (lv_at hl 3 rfl) ?_
      refine lv_iconst (v := (-1)) hx hb dX7_heard_21 rfl ?_
      have g14 := ite_some hf
      refine lv_icmp_ge (tgt := 32) hx hb dX7_heard_22 (by decide) (fun c13 => ?_) (fun c13 => ?_)
      · replace hf := g14.1 c13
        refine lv_aload_n hx hb dX7_heard_32 rfl (lv_at hl 0 rfl) ?_
        refine lv_iconst (v := 0) hx hb dX7_heard_33 rfl ?_
        refine va_put (D := D) (ci := 7) (v := .int 0) (ty := tyX7 8) (C := RX7) (T := TX7) (N := 23) hx hb hT iX7 tyX7 tyX7_ok nmX7 hown hK hP hD hS 0 rfl rfl 8 (by decide) (hT _ fw_X7_143) (fun _ h9 => h9) rfl (tyX7_ok 8 (by decide)) rfl rfl (Nat.le_of_ble_eq_true rfl) dX7_heard_34 (fun H locs hP hD hS => ?_)
        replace hP : va_P D vwCl [oX7 h_t q_t (upd d_t.1 8 0), ((q_t 0), .inl (cs 0, 106, .inl (d_t.2 0))), ((q_t 3), .inl (cs 0, 3, .inl (d_t.2 3))), ((q_t 4), .inl (cs 0, 12, .inl (d_t.2 4))), ((q_t 5), .inl (cs 0, 12, .inl (d_t.2 5))), ((q_t 6), .inl (cs 0, 12, .inl (d_t.2 6)))] H := hP
        replace hD : va_D A [oX7 h_t q_t (upd d_t.1 8 0), ((q_t 0), .inl (cs 0, 106, .inl (d_t.2 0))), ((q_t 3), .inl (cs 0, 3, .inl (d_t.2 3))), ((q_t 4), .inl (cs 0, 12, .inl (d_t.2 4))), ((q_t 5), .inl (cs 0, 12, .inl (d_t.2 5))), ((q_t 6), .inl (cs 0, 12, .inl (d_t.2 6)))] := hD
        refine lv_aload_n hx hb dX7_heard_37 rfl (lv_at hl 0 rfl) ?_
        refine lv_iload_n hx hb dX7_heard_38 rfl (lv_at hl 1 rfl) ?_
        obtain ⟨r15, e16, hf⟩ := bind_some hf
        refine callVv (As := [.int x1]) (rest := []) M (mX7_layAll l D cs sk h_t q_t k ((upd d_t.1 8 0), d_t.2) x1 e16) mw_X7_160 ln_X7_layAll ⟨rfl, rfl, Nat.le_of_ble_eq_true rfl, Nat.le_of_ble_eq_true rfl⟩ hP hD hS hA [0, 1, 3, 4, 5] (by decide) rfl rfl (q0 := 0) rfl rfl rfl ⟨Nat.zero_le _, Nat.zero_le _⟩ hl.1 rfl (Nat.le_of_ble_eq_true rfl) dX7_heard_39 (fun H locs hP hD hS => ?_)
        replace hP : va_P D vwCl [oX7 h_t q_t (r15.1), ((q_t 0), .inl (cs 0, 106, .inl (d_t.2 0))), ((q_t 3), .inl (cs 0, 3, .inl (d_t.2 3))), ((q_t 4), .inl (cs 0, 12, .inl (r15.2 4))), ((q_t 5), .inl (cs 0, 12, .inl (r15.2 5))), ((q_t 6), .inl (cs 0, 12, .inl (r15.2 6)))] H := hP
        replace hD : va_D A [oX7 h_t q_t (r15.1), ((q_t 0), .inl (cs 0, 106, .inl (d_t.2 0))), ((q_t 3), .inl (cs 0, 3, .inl (d_t.2 3))), ((q_t 4), .inl (cs 0, 12, .inl (r15.2 4))), ((q_t 5), .inl (cs 0, 12, .inl (r15.2 5))), ((q_t 6), .inl (cs 0, 12, .inl (r15.2 6)))] := hD
        refine lv_iload_n hx hb dX7_heard_42 rfl (lv_at hl 3 rfl) ?_
        refine lv_iconst (v := (-1)) hx hb dX7_heard_43 rfl ?_
        have g18 := ite_some hf
        refine lv_icmp_ne (tgt := 54) hx hb dX7_heard_44 (by decide) (fun c17 => ?_) (fun c17 => ?_)
        · replace hf := g18.2 c17
          refine lv_iload_n hx hb dX7_heard_54 rfl (lv_at hl 3 rfl) ?_
          refine lv_aload_n hx hb dX7_heard_55 rfl (lv_at hl 0 rfl) ?_
          refine va_get (D := D) (ci := 7) (v := .int (r15.1 7)) (C := RX7) (T := TX7) (N := 23) hx hb hT iX7 hown hK hP 0 rfl rfl 7 (by decide) (hT _ fw_X7_139) (fun _ h9 => h9) rfl dX7_heard_56 ?_
          have g20 := ite_some hf
          refine lv_icmp_ge (tgt := 84) hx hb dX7_heard_59 (by decide) (fun c19 => ?_) (fun c19 => ?_)
          · replace hf := g20.1 c19
            refine lv_ldc (v := (-100000)) hx hb hown (hT _ kw_X7_164) dX7_heard_84 ?_
            have e9 := Option.some.inj hf
            subst e9
            exact hR _ _ _ _ dX7_heard_86 hP hS
          · replace hf := g20.2 c19
            refine lv_iload_n hx hb dX7_heard_62 rfl (lv_at hl 2 rfl) ?_
            refine lv_aload_n hx hb dX7_heard_63 rfl (lv_at hl 0 rfl) ?_
            refine lv_aload_n hx hb dX7_heard_64 rfl (lv_at hl 0 rfl) ?_
            refine va_get (D := D) (ci := 7) (v := .ref (q_t 4)) (C := RX7) (T := TX7) (N := 23) hx hb hT iX7 hown hK hP 0 rfl rfl 4 (by decide) (hT _ fw_X7_23) (fun _ h9 => h9) rfl dX7_heard_65 ?_
            refine lv_iload_n hx hb dX7_heard_68 rfl (lv_at hl 3 rfl) ?_
            obtain ⟨hi, hf⟩ := chk_some hf
            refine va_iald (D := D) hx hb hK hP 3 0 rfl rfl hi dX7_heard_69 ?_
            obtain ⟨r21, e22, hf⟩ := bind_some hf
            refine callVi (As := [.int ((r15.2 4) x3.toNatClampNeg)]) (rest := [.int x2]) M (mX7_lateOf l D cs sk h_t q_t k (r15.1, (va_up (va_up (va_up d_t.2 4 (r15.2 4)) 5 (r15.2 5)) 6 (r15.2 6))) ((r15.2 4) x3.toNatClampNeg) e22) mw_X7_124 ln_X7_lateOf ⟨rfl, rfl, Nat.le_of_ble_eq_true rfl, Nat.le_of_ble_eq_true rfl⟩ hP hD hS hA [0, 1] (by decide) rfl rfl (q0 := 0) rfl rfl rfl ⟨Nat.zero_le _, Nat.zero_le _⟩ hl.1 rfl (Nat.le_of_ble_eq_true rfl) dX7_heard_70 (fun H locs hP hD hS => ?_)
            replace hP : va_P D vwCl [oX7 h_t q_t (r15.1), ((q_t 0), .inl (cs 0, 106, .inl (d_t.2 0))), ((q_t 3), .inl (cs 0, 3, .inl (d_t.2 3))), ((q_t 4), .inl (cs 0, 12, .inl (r15.2 4))), ((q_t 5), .inl (cs 0, 12, .inl (r15.2 5))), ((q_t 6), .inl (cs 0, 12, .inl (r15.2 6)))] H := hP
            replace hD : va_D A [oX7 h_t q_t (r15.1), ((q_t 0), .inl (cs 0, 106, .inl (d_t.2 0))), ((q_t 3), .inl (cs 0, 3, .inl (d_t.2 3))), ((q_t 4), .inl (cs 0, 12, .inl (r15.2 4))), ((q_t 5), .inl (cs 0, 12, .inl (r15.2 5))), ((q_t 6), .inl (cs 0, 12, .inl (r15.2 6)))] := hD
            refine lv_iadd hx hb dX7_heard_73 ?_
            refine lv_aload_n hx hb dX7_heard_74 rfl (lv_at hl 0 rfl) ?_
            refine va_get (D := D) (ci := 7) (v := .ref (q_t 5)) (C := RX7) (T := TX7) (N := 23) hx hb hT iX7 hown hK hP 0 rfl rfl 5 (by decide) (hT _ fw_X7_26) (fun _ h9 => h9) rfl dX7_heard_75 ?_
            refine lv_iload_n hx hb dX7_heard_78 rfl (lv_at hl 3 rfl) ?_
            obtain ⟨hi, hf⟩ := chk_some hf
            refine va_iald (D := D) hx hb hK hP 4 0 rfl rfl hi dX7_heard_79 ?_
            refine lv_iadd hx hb dX7_heard_80 ?_
            refine lv_goto (tgt := 86) hx hb dX7_heard_81 (by decide) ?_
            have e9 := Option.some.inj hf
            subst e9
            exact hR _ _ _ _ dX7_heard_86 hP hS
        · replace hf := g18.1 c17
          refine lv_aload_n hx hb dX7_heard_47 rfl (lv_at hl 0 rfl) ?_
          refine va_get (D := D) (ci := 7) (v := .int (r15.1 7)) (C := RX7) (T := TX7) (N := 23) hx hb hT iX7 hown hK hP 0 rfl rfl 7 (by decide) (hT _ fw_X7_139) (fun _ h9 => h9) rfl dX7_heard_48 ?_
          refine lv_goto (tgt := 86) hx hb dX7_heard_51 (by decide) ?_
          have e9 := Option.some.inj hf
          subst e9
          exact hR _ _ _ _ dX7_heard_86 hP hS
      · replace hf := g14.2 c13
        refine lv_aload_n hx hb dX7_heard_25 rfl (lv_at hl 0 rfl) ?_
        refine lv_ldc (v := (-200000)) hx hb hown (hT _ kw_X7_159) dX7_heard_26 ?_
        obtain ⟨r23, e24, hf⟩ := bind_some hf
        refine callVi (As := [.int (-200000)]) (rest := []) M (mX7_bad l D cs sk h_t q_t k d_t (-200000) e24) mw_X7_76 ln_X7_bad ⟨rfl, rfl, Nat.le_of_ble_eq_true rfl, Nat.le_of_ble_eq_true rfl⟩ hP hD hS hA [0, 2] (by decide) rfl rfl (q0 := 0) rfl rfl rfl ⟨Nat.zero_le _, Nat.zero_le _⟩ hl.1 rfl (Nat.le_of_ble_eq_true rfl) dX7_heard_28 (fun H locs hP hD hS => ?_)
        replace hP : va_P D vwCl [oX7 h_t q_t (d_t.1), ((q_t 0), .inl (cs 0, 106, .inl (d_t.2 0))), ((q_t 3), .inl (cs 0, 3, .inl (r23.2.2 3))), ((q_t 4), .inl (cs 0, 12, .inl (d_t.2 4))), ((q_t 5), .inl (cs 0, 12, .inl (d_t.2 5))), ((q_t 6), .inl (cs 0, 12, .inl (d_t.2 6)))] H := hP
        replace hD : va_D A [oX7 h_t q_t (d_t.1), ((q_t 0), .inl (cs 0, 106, .inl (d_t.2 0))), ((q_t 3), .inl (cs 0, 3, .inl (r23.2.2 3))), ((q_t 4), .inl (cs 0, 12, .inl (d_t.2 4))), ((q_t 5), .inl (cs 0, 12, .inl (d_t.2 5))), ((q_t 6), .inl (cs 0, 12, .inl (d_t.2 6)))] := hD
        have e9 := Option.some.inj hf
        subst e9
        exact hR _ _ _ _ dX7_heard_31 hP hS
abbrev rm_X7_loud : Room := { frames := 5, cells := 0, slots := 0, locals := 115 }
def fX7_loud (k : Nat) (d_t : Dat) (x1 : Int32) (x2 : Int32) : Option (Int32 × Dat) :=
  (fX7_isEar k d_t x1).bind (fun (r1 : Int32) => (if r1 = 0 then (fX7_bad k d_t (-10)).bind (fun (r5 : Int32 × Dat) => some ((r5.1), (d_t.1, (va_up d_t.2 3 (r5.2.2 3))))) else (if 0 ≤ x2 then (fX7_layAll k ((upd d_t.1 8 0), d_t.2) x1).bind (fun (r9 : Dat) => (if (r9.1 7) ≤ x2 then some ((-5), (r9.1, (va_up (va_up (va_up d_t.2 4 (r9.2 4)) 5 (r9.2 5)) 6 (r9.2 6)))) else chk 12 x2 (some (((r9.2 6) x2.toNatClampNeg), (r9.1, (va_up (va_up (va_up d_t.2 4 (r9.2 4)) 5 (r9.2 5)) 6 (r9.2 6))))))) else (fX7_bad k d_t (-10)).bind (fun (r13 : Int32 × Dat) => some ((r13.1), (d_t.1, (va_up d_t.2 3 (r13.2.2 3))))))))
set_option maxHeartbeats 4000000 in
set_option maxRecDepth 100000 in
theorem mX7_loud (l : Launch) (D : va_G) (cs : Nat → ClassId) (sk : Nat → Nat) (h_t : Nat) (q_t : Nat → Nat) (k : Nat) (d_t : Dat) (x1 : Int32) (x2 : Int32) {rv : Int32 × Dat} (hf : fX7_loud k d_t x1 x2 = some rv) : CTi l yX7_loud (Cond.code yX7_loud cX7_loud 3 (some .int) :: gtbl) rm_X7_loud D cs sk [.ref h_t, .int x1, .int x2] [oX7 h_t q_t (d_t.1), ((q_t 0), .inl (cs 0, 106, .inl (d_t.2 0))), ((q_t 3), .inl (cs 0, 3, .inl (d_t.2 3))), ((q_t 4), .inl (cs 0, 12, .inl (d_t.2 4))), ((q_t 5), .inl (cs 0, 12, .inl (d_t.2 5))), ((q_t 6), .inl (cs 0, 12, .inl (d_t.2 6)))] (rv.1) [oX7 h_t q_t (rv.2.1), ((q_t 0), .inl (cs 0, 106, .inl (d_t.2 0))), ((q_t 3), .inl (cs 0, 3, .inl (rv.2.2 3))), ((q_t 4), .inl (cs 0, 12, .inl (rv.2.2 4))), ((q_t 5), .inl (cs 0, 12, .inl (rv.2.2 5))), ((q_t 6), .inl (cs 0, 12, .inl (rv.2.2 6)))] := by
  refine CTi.of RX7 (by decide +kernel) rfl (Nat.le_of_ble_eq_true rfl) (fun p e s m args below meth c A Q ls M hA hR hl hP hD hS => ?_)
  obtain ⟨hx, hb, hml, hT, hown, hlk, hrt, hK, hN, hSE⟩ := id M
  replace hl : lv_has ls 3 [(0, .ref h_t), (1, .int x1), (2, .int x2)] := hl
  unfold fX7_loud at hf
  refine lv_aload_n hx hb dX7_loud_0 rfl (lv_at hl 0 rfl) ?_
  refine lv_iload_n hx hb dX7_loud_1 rfl (lv_at hl 1 rfl) ?_
  obtain ⟨r1, e2, hf⟩ := bind_some hf
  refine callVi (As := [.int x1]) (rest := []) M (mX7_isEar l D cs sk h_t q_t k d_t x1 e2) mw_X7_133 ln_X7_isEar ⟨rfl, rfl, Nat.le_of_ble_eq_true rfl, Nat.le_of_ble_eq_true rfl⟩ hP hD hS hA [0, 1] (by decide) rfl rfl (q0 := 0) rfl rfl rfl ⟨Nat.zero_le _, Nat.zero_le _⟩ hl.1 rfl (Nat.le_of_ble_eq_true rfl) dX7_loud_2 (fun H locs hP hD hS => ?_)
  replace hP : va_P D vwCl [oX7 h_t q_t (d_t.1), ((q_t 0), .inl (cs 0, 106, .inl (d_t.2 0))), ((q_t 3), .inl (cs 0, 3, .inl (d_t.2 3))), ((q_t 4), .inl (cs 0, 12, .inl (d_t.2 4))), ((q_t 5), .inl (cs 0, 12, .inl (d_t.2 5))), ((q_t 6), .inl (cs 0, 12, .inl (d_t.2 6)))] H := hP
  replace hD : va_D A [oX7 h_t q_t (d_t.1), ((q_t 0), .inl (cs 0, 106, .inl (d_t.2 0))), ((q_t 3), .inl (cs 0, 3, .inl (d_t.2 3))), ((q_t 4), .inl (cs 0, 12, .inl (d_t.2 4))), ((q_t 5), .inl (cs 0, 12, .inl (d_t.2 5))), ((q_t 6), .inl (cs 0, 12, .inl (d_t.2 6)))] := hD
  have g4 := ite_some hf
  refine lv_if_eq (tgt := 12) hx hb dX7_loud_5 (by decide) (fun c3 => ?_) (fun c3 => ?_)
  · replace hf := g4.1 c3
    refine lv_aload_n hx hb dX7_loud_12 rfl (lv_at hl 0 rfl) ?_
    refine lv_bipush (v := (-10)) hx hb dX7_loud_13 rfl ?_
    obtain ⟨r5, e6, hf⟩ := bind_some hf
    refine callVi (As := [.int (-10)]) (rest := []) M (mX7_bad l D cs sk h_t q_t k d_t (-10) e6) mw_X7_76 ln_X7_bad ⟨rfl, rfl, Nat.le_of_ble_eq_true rfl, Nat.le_of_ble_eq_true rfl⟩ hP hD hS hA [0, 2] (by decide) rfl rfl (q0 := 0) rfl rfl rfl ⟨Nat.zero_le _, Nat.zero_le _⟩ hl.1 rfl (Nat.le_of_ble_eq_true rfl) dX7_loud_15 (fun H locs hP hD hS => ?_)
    replace hP : va_P D vwCl [oX7 h_t q_t (d_t.1), ((q_t 0), .inl (cs 0, 106, .inl (d_t.2 0))), ((q_t 3), .inl (cs 0, 3, .inl (r5.2.2 3))), ((q_t 4), .inl (cs 0, 12, .inl (d_t.2 4))), ((q_t 5), .inl (cs 0, 12, .inl (d_t.2 5))), ((q_t 6), .inl (cs 0, 12, .inl (d_t.2 6)))] H := hP
    replace hD : va_D A [oX7 h_t q_t (d_t.1), ((q_t 0), .inl (cs 0, 106, .inl (d_t.2 0))), ((q_t 3), .inl (cs 0, 3, .inl (r5.2.2 3))), ((q_t 4), .inl (cs 0, 12, .inl (d_t.2 4))), ((q_t 5), .inl (cs 0, 12, .inl (d_t.2 5))), ((q_t 6), .inl (cs 0, 12, .inl (d_t.2 6)))] := hD
    have e9 := Option.some.inj hf
    subst e9
    exact hR _ _ _ _ dX7_loud_18 hP hS
  · replace hf := g4.2 c3
    refine lv_iload_n hx hb dX7_loud_8 rfl (lv_at hl 2 rfl) ?_
    have g8 := ite_some hf
    refine lv_if_ge (tgt := 19) hx hb dX7_loud_9 (by decide) (fun c7 => ?_) (fun c7 => ?_)
    · replace hf := g8.1 c7
      refine lv_aload_n hx hb dX7_loud_19 rfl (lv_at hl 0 rfl) ?_
      refine lv_iconst (v := 0) hx hb dX7_loud_20 rfl ?_
      refine va_put (D := D) (ci := 7) (v := .int 0) (ty := tyX7 8) (C := RX7) (T := TX7) (N := 23) hx hb hT iX7 tyX7 tyX7_ok nmX7 hown hK hP hD hS 0 rfl rfl 8 (by decide) (hT _ fw_X7_143) (fun _ h9 => h9) rfl (tyX7_ok 8 (by decide)) rfl rfl (Nat.le_of_ble_eq_true rfl) dX7_loud_21 (fun H locs hP hD hS => ?_)
      replace hP : va_P D vwCl [oX7 h_t q_t (upd d_t.1 8 0), ((q_t 0), .inl (cs 0, 106, .inl (d_t.2 0))), ((q_t 3), .inl (cs 0, 3, .inl (d_t.2 3))), ((q_t 4), .inl (cs 0, 12, .inl (d_t.2 4))), ((q_t 5), .inl (cs 0, 12, .inl (d_t.2 5))), ((q_t 6), .inl (cs 0, 12, .inl (d_t.2 6)))] H := hP
      replace hD : va_D A [oX7 h_t q_t (upd d_t.1 8 0), ((q_t 0), .inl (cs 0, 106, .inl (d_t.2 0))), ((q_t 3), .inl (cs 0, 3, .inl (d_t.2 3))), ((q_t 4), .inl (cs 0, 12, .inl (d_t.2 4))), ((q_t 5), .inl (cs 0, 12, .inl (d_t.2 5))), ((q_t 6), .inl (cs 0, 12, .inl (d_t.2 6)))] := hD
      refine lv_aload_n hx hb dX7_loud_24 rfl (lv_at hl 0 rfl) ?_
      refine lv_iload_n hx hb dX7_loud_25 rfl (lv_at hl 1 rfl) ?_
      obtain ⟨r9, e10, hf⟩ := bind_some hf
      refine callVv (As := [.int x1]) (rest := []) M (mX7_layAll l D cs sk h_t q_t k ((upd d_t.1 8 0), d_t.2) x1 e10) mw_X7_160 ln_X7_layAll ⟨rfl, rfl, Nat.le_of_ble_eq_true rfl, Nat.le_of_ble_eq_true rfl⟩ hP hD hS hA [0, 1, 3, 4, 5] (by decide) rfl rfl (q0 := 0) rfl rfl rfl ⟨Nat.zero_le _, Nat.zero_le _⟩ hl.1 rfl (Nat.le_of_ble_eq_true rfl) dX7_loud_26 (fun H locs hP hD hS => ?_)
      replace hP : va_P D vwCl [oX7 h_t q_t (r9.1), ((q_t 0), .inl (cs 0, 106, .inl (d_t.2 0))), ((q_t 3), .inl (cs 0, 3, .inl (d_t.2 3))), ((q_t 4), .inl (cs 0, 12, .inl (r9.2 4))), ((q_t 5), .inl (cs 0, 12, .inl (r9.2 5))), ((q_t 6), .inl (cs 0, 12, .inl (r9.2 6)))] H := hP
      replace hD : va_D A [oX7 h_t q_t (r9.1), ((q_t 0), .inl (cs 0, 106, .inl (d_t.2 0))), ((q_t 3), .inl (cs 0, 3, .inl (d_t.2 3))), ((q_t 4), .inl (cs 0, 12, .inl (r9.2 4))), ((q_t 5), .inl (cs 0, 12, .inl (r9.2 5))), ((q_t 6), .inl (cs 0, 12, .inl (r9.2 6)))] := hD
      refine lv_iload_n hx hb dX7_loud_29 rfl (lv_at hl 2 rfl) ?_
      refine lv_aload_n hx hb dX7_loud_30 rfl (lv_at hl 0 rfl) ?_
      refine va_get (D := D) (ci := 7) (v := .int (r9.1 7)) (C := RX7) (T := TX7) (N := 23) hx hb hT iX7 hown hK hP 0 rfl rfl 7 (by decide) (hT _ fw_X7_139) (fun _ h9 => h9) rfl dX7_loud_31 ?_
      have g12 := ite_some hf
      refine lv_icmp_ge (tgt := 46) hx hb dX7_loud_34 (by decide) (fun c11 => ?_) (fun c11 => ?_)
      · replace hf := g12.1 c11
        refine lv_bipush (v := (-5)) hx hb dX7_loud_46 rfl ?_
        have e9 := Option.some.inj hf
        subst e9
        exact hR _ _ _ _ dX7_loud_48 hP hS
      · replace hf := g12.2 c11
        refine lv_aload_n hx hb dX7_loud_37 rfl (lv_at hl 0 rfl) ?_
        refine va_get (D := D) (ci := 7) (v := .ref (q_t 6)) (C := RX7) (T := TX7) (N := 23) hx hb hT iX7 hown hK hP 0 rfl rfl 6 (by decide) (hT _ fw_X7_29) (fun _ h9 => h9) rfl dX7_loud_38 ?_
        refine lv_iload_n hx hb dX7_loud_41 rfl (lv_at hl 2 rfl) ?_
        obtain ⟨hi, hf⟩ := chk_some hf
        refine va_iald (D := D) hx hb hK hP 5 0 rfl rfl hi dX7_loud_42 ?_
        refine lv_goto (tgt := 48) hx hb dX7_loud_43 (by decide) ?_
        have e9 := Option.some.inj hf
        subst e9
        exact hR _ _ _ _ dX7_loud_48 hP hS
    · replace hf := g8.2 c7
      refine lv_aload_n hx hb dX7_loud_12 rfl (lv_at hl 0 rfl) ?_
      refine lv_bipush (v := (-10)) hx hb dX7_loud_13 rfl ?_
      obtain ⟨r13, e14, hf⟩ := bind_some hf
      refine callVi (As := [.int (-10)]) (rest := []) M (mX7_bad l D cs sk h_t q_t k d_t (-10) e14) mw_X7_76 ln_X7_bad ⟨rfl, rfl, Nat.le_of_ble_eq_true rfl, Nat.le_of_ble_eq_true rfl⟩ hP hD hS hA [0, 2] (by decide) rfl rfl (q0 := 0) rfl rfl rfl ⟨Nat.zero_le _, Nat.zero_le _⟩ hl.1 rfl (Nat.le_of_ble_eq_true rfl) dX7_loud_15 (fun H locs hP hD hS => ?_)
      replace hP : va_P D vwCl [oX7 h_t q_t (d_t.1), ((q_t 0), .inl (cs 0, 106, .inl (d_t.2 0))), ((q_t 3), .inl (cs 0, 3, .inl (r13.2.2 3))), ((q_t 4), .inl (cs 0, 12, .inl (d_t.2 4))), ((q_t 5), .inl (cs 0, 12, .inl (d_t.2 5))), ((q_t 6), .inl (cs 0, 12, .inl (d_t.2 6)))] H := hP
      replace hD : va_D A [oX7 h_t q_t (d_t.1), ((q_t 0), .inl (cs 0, 106, .inl (d_t.2 0))), ((q_t 3), .inl (cs 0, 3, .inl (r13.2.2 3))), ((q_t 4), .inl (cs 0, 12, .inl (d_t.2 4))), ((q_t 5), .inl (cs 0, 12, .inl (d_t.2 5))), ((q_t 6), .inl (cs 0, 12, .inl (d_t.2 6)))] := hD
      have e9 := Option.some.inj hf
      subst e9
      exact hR _ _ _ _ dX7_loud_18 hP hS
abbrev rm_X7_spreadOf : Room := { frames := 5, cells := 0, slots := 0, locals := 115 }
def fX7_spreadOf_B14 (k : Nat) (d_t : Dat) (K76 : Int32 × Int32 → Option (Int32 × Dat)) (rec : Int32 × Int32 × Int32 → Option (Int32 × Dat)) (v : Int32 × Int32 × Int32) : Option (Int32 × Dat) :=
  (if (d_t.1 7) ≤ (v.2.2) then K76 ((v.1), (v.2.1)) else chk 12 (v.2.2) ((fX7_lateOf k d_t ((d_t.2 4) (v.2.2).toNatClampNeg)).bind (fun (r3 : Int32) => chk 12 (v.2.2) ((if (v.1) ≤ (r3 + ((d_t.2 5) (v.2.2).toNatClampNeg)) then (if (r3 + ((d_t.2 5) (v.2.2).toNatClampNeg)) ≤ (v.2.1) then rec ((v.1), (v.2.1), ((v.2.2) + 1)) else rec ((v.1), (r3 + ((d_t.2 5) (v.2.2).toNatClampNeg)), ((v.2.2) + 1))) else (if (r3 + ((d_t.2 5) (v.2.2).toNatClampNeg)) ≤ (v.2.1) then rec ((r3 + ((d_t.2 5) (v.2.2).toNatClampNeg)), (v.2.1), ((v.2.2) + 1)) else rec ((r3 + ((d_t.2 5) (v.2.2).toNatClampNeg)), (r3 + ((d_t.2 5) (v.2.2).toNatClampNeg)), ((v.2.2) + 1))))))))
def fX7_spreadOf (k : Nat) (d_t : Dat) (x1 : Int32) : Option (Int32 × Dat) :=
  (fX7_layAll k d_t x1).bind (fun (r1 : Dat) => lp (fX7_spreadOf_B14 k (r1.1, (va_up (va_up (va_up d_t.2 4 (r1.2 4)) 5 (r1.2 5)) 6 (r1.2 6))) (fun (w3 : Int32 × Int32) => (if (r1.1 7) = 0 then some (0, (r1.1, (va_up (va_up (va_up d_t.2 4 (r1.2 4)) 5 (r1.2 5)) 6 (r1.2 6)))) else some (((w3.2) - (w3.1)), (r1.1, (va_up (va_up (va_up d_t.2 4 (r1.2 4)) 5 (r1.2 5)) 6 (r1.2 6))))))) k (1000000, (-1000000), 0))
set_option maxHeartbeats 4000000 in
set_option maxRecDepth 100000 in
theorem mX7_spreadOf_B14 {l : Launch} {p : Program} {e : Env} {s : State} {m : MethodId} {args : Array Value} {below : List Frame} {meth : Method} {c : Code} {D : va_G} {cs : Nat → ClassId} {sk : Nat → Nat} {A : Nat → Prop} {Q : State → Prop} (h_t : Nat) (q_t : Nat → Nat) (k : Nat) (d_t : Dat) {rv : Int32 × Dat}  (K76 : Int32 × Int32 → Option (Int32 × Dat))
    (M : MC p s m args meth c D cs sk A RX7 cX7_spreadOf 6 (some .int)) (hA : ∀ q, s.heap.size ≤ q → A q) (hR : RetI p l e rm_X7_spreadOf s m args below meth c D cX7_spreadOf A Q (rv.1) [oX7 h_t q_t (rv.2.1), ((q_t 0), .inl (cs 0, 106, .inl (d_t.2 0))), ((q_t 4), .inl (cs 0, 12, .inl (rv.2.2 4))), ((q_t 5), .inl (cs 0, 12, .inl (rv.2.2 5))), ((q_t 6), .inl (cs 0, 12, .inl (rv.2.2 6)))])
    (hK76 : ∀ (w : Int32 × Int32), K76 w = some rv → ∀ (H : Heap) (locs : List Loc) (ls : Array Slot), va_P D vwCl [oX7 h_t q_t (d_t.1), ((q_t 0), .inl (cs 0, 106, .inl (d_t.2 0))), ((q_t 4), .inl (cs 0, 12, .inl (d_t.2 4))), ((q_t 5), .inl (cs 0, 12, .inl (d_t.2 5))), ((q_t 6), .inl (cs 0, 12, .inl (d_t.2 6)))] H → va_D A [oX7 h_t q_t (d_t.1), ((q_t 0), .inl (cs 0, 106, .inl (d_t.2 0))), ((q_t 4), .inl (cs 0, 12, .inl (d_t.2 4))), ((q_t 5), .inl (cs 0, 12, .inl (d_t.2 5))), ((q_t 6), .inl (cs 0, 12, .inl (d_t.2 6)))] → va_S A s.heap H locs → lv_has ls 6 [(0, .ref h_t), (2, .int (w.1)), (3, .int (w.2))] → W p l e rm_X7_spreadOf s m args below meth c H locs 0 0 Q (F0 m 76 ls []))
    : ∀ (n : Nat) (v : Int32 × Int32 × Int32), lp (fX7_spreadOf_B14 k d_t K76) n v = some rv → ∀ (H : Heap) (locs : List Loc) (ls : Array Slot), va_P D vwCl [oX7 h_t q_t (d_t.1), ((q_t 0), .inl (cs 0, 106, .inl (d_t.2 0))), ((q_t 4), .inl (cs 0, 12, .inl (d_t.2 4))), ((q_t 5), .inl (cs 0, 12, .inl (d_t.2 5))), ((q_t 6), .inl (cs 0, 12, .inl (d_t.2 6)))] H → va_D A [oX7 h_t q_t (d_t.1), ((q_t 0), .inl (cs 0, 106, .inl (d_t.2 0))), ((q_t 4), .inl (cs 0, 12, .inl (d_t.2 4))), ((q_t 5), .inl (cs 0, 12, .inl (d_t.2 5))), ((q_t 6), .inl (cs 0, 12, .inl (d_t.2 6)))] → va_S A s.heap H locs → lv_has ls 6 [(0, .ref h_t), (2, .int (v.1)), (3, .int (v.2.1)), (4, .int (v.2.2))] → W p l e rm_X7_spreadOf s m args below meth c H locs 0 0 Q (F0 m 14 ls []) := by
  obtain ⟨hx, hb, hml, hT, hown, hlk, hrt, hK, hN, hSE⟩ := id M
  refine lp_ind (fun rec ih v hf H locs ls hP hD hS hl => ?_)
  unfold fX7_spreadOf_B14 at hf
  refine lv_iload hx hb dX7_spreadOf_14 (lv_at hl 3 rfl) ?_
  refine lv_aload_n hx hb dX7_spreadOf_16 rfl (lv_at hl 0 rfl) ?_
  refine va_get (D := D) (ci := 7) (v := .int (d_t.1 7)) (C := RX7) (T := TX7) (N := 23) hx hb hT iX7 hown hK hP 0 rfl rfl 7 (by decide) (hT _ fw_X7_139) (fun _ h9 => h9) rfl dX7_spreadOf_17 ?_
  have g2 := ite_some hf
  refine lv_icmp_ge (tgt := 76) hx hb dX7_spreadOf_20 (by decide) (fun c1 => ?_) (fun c1 => ?_)
  · replace hf := g2.1 c1
    exact hK76 _ hf _ _ _ hP hD hS (lv_sub hl [0, 1, 2] rfl)
  · replace hf := g2.2 c1
    refine lv_aload_n hx hb dX7_spreadOf_23 rfl (lv_at hl 0 rfl) ?_
    refine lv_aload_n hx hb dX7_spreadOf_24 rfl (lv_at hl 0 rfl) ?_
    refine va_get (D := D) (ci := 7) (v := .ref (q_t 4)) (C := RX7) (T := TX7) (N := 23) hx hb hT iX7 hown hK hP 0 rfl rfl 4 (by decide) (hT _ fw_X7_23) (fun _ h9 => h9) rfl dX7_spreadOf_25 ?_
    refine lv_iload hx hb dX7_spreadOf_28 (lv_at hl 3 rfl) ?_
    obtain ⟨hi, hf⟩ := chk_some hf
    refine va_iald (D := D) hx hb hK hP 2 0 rfl rfl hi dX7_spreadOf_30 ?_
    obtain ⟨r3, e4, hf⟩ := bind_some hf
    refine callVi (As := [.int ((d_t.2 4) (v.2.2).toNatClampNeg)]) (rest := []) M (mX7_lateOf l D cs sk h_t q_t k d_t ((d_t.2 4) (v.2.2).toNatClampNeg) e4) mw_X7_124 ln_X7_lateOf ⟨rfl, rfl, Nat.le_of_ble_eq_true rfl, Nat.le_of_ble_eq_true rfl⟩ hP hD hS hA [0, 1] (by decide) rfl rfl (q0 := 0) rfl rfl rfl ⟨Nat.zero_le _, Nat.zero_le _⟩ hl.1 rfl (Nat.le_of_ble_eq_true rfl) dX7_spreadOf_31 (fun H locs hP hD hS => ?_)
    replace hP : va_P D vwCl [oX7 h_t q_t (d_t.1), ((q_t 0), .inl (cs 0, 106, .inl (d_t.2 0))), ((q_t 4), .inl (cs 0, 12, .inl (d_t.2 4))), ((q_t 5), .inl (cs 0, 12, .inl (d_t.2 5))), ((q_t 6), .inl (cs 0, 12, .inl (d_t.2 6)))] H := hP
    replace hD : va_D A [oX7 h_t q_t (d_t.1), ((q_t 0), .inl (cs 0, 106, .inl (d_t.2 0))), ((q_t 4), .inl (cs 0, 12, .inl (d_t.2 4))), ((q_t 5), .inl (cs 0, 12, .inl (d_t.2 5))), ((q_t 6), .inl (cs 0, 12, .inl (d_t.2 6)))] := hD
    refine lv_aload_n hx hb dX7_spreadOf_34 rfl (lv_at hl 0 rfl) ?_
    refine va_get (D := D) (ci := 7) (v := .ref (q_t 5)) (C := RX7) (T := TX7) (N := 23) hx hb hT iX7 hown hK hP 0 rfl rfl 5 (by decide) (hT _ fw_X7_26) (fun _ h9 => h9) rfl dX7_spreadOf_35 ?_
    refine lv_iload hx hb dX7_spreadOf_38 (lv_at hl 3 rfl) ?_
    obtain ⟨hi, hf⟩ := chk_some hf
    refine va_iald (D := D) hx hb hK hP 3 0 rfl rfl hi dX7_spreadOf_40 ?_
    refine lv_iadd hx hb dX7_spreadOf_41 ?_
    refine lv_istore (lv' := [(5, .int (r3 + ((d_t.2 5) (v.2.2).toNatClampNeg))), (0, .ref h_t), (2, .int (v.1)), (3, .int (v.2.1)), (4, .int (v.2.2))]) hx hb dX7_spreadOf_42 hl (by decide) rfl (fun ls hl => ?_)
    refine lv_iload hx hb dX7_spreadOf_44 (lv_at hl 0 rfl) ?_
    refine lv_iload_n hx hb dX7_spreadOf_46 rfl (lv_at hl 2 rfl) ?_
    have g6 := ite_some hf
    refine lv_icmp_ge (tgt := 55) hx hb dX7_spreadOf_47 (by decide) (fun c5 => ?_) (fun c5 => ?_)
    · replace hf := g6.1 c5
      refine lv_iload_n hx hb dX7_spreadOf_55 rfl (lv_at hl 2 rfl) ?_
      refine lv_istore_n (lv' := [(2, .int (v.1)), (5, .int (r3 + ((d_t.2 5) (v.2.2).toNatClampNeg))), (0, .ref h_t), (3, .int (v.2.1)), (4, .int (v.2.2))]) hx hb dX7_spreadOf_56 rfl hl (by decide) rfl (fun ls hl => ?_)
      refine lv_iload hx hb dX7_spreadOf_57 (lv_at hl 1 rfl) ?_
      refine lv_iload_n hx hb dX7_spreadOf_59 rfl (lv_at hl 3 rfl) ?_
      have g8 := ite_some hf
      refine lv_icmp_le (tgt := 68) hx hb dX7_spreadOf_60 (by decide) (fun c7 => ?_) (fun c7 => ?_)
      · replace hf := g8.1 c7
        refine lv_iload_n hx hb dX7_spreadOf_68 rfl (lv_at hl 3 rfl) ?_
        refine lv_istore_n (lv' := [(3, .int (v.2.1)), (2, .int (v.1)), (5, .int (r3 + ((d_t.2 5) (v.2.2).toNatClampNeg))), (0, .ref h_t), (4, .int (v.2.2))]) hx hb dX7_spreadOf_69 rfl hl (by decide) rfl (fun ls hl => ?_)
        refine lv_iinc (v := ((v.2.2) + 1)) (lv' := [(4, .int ((v.2.2) + 1)), (3, .int (v.2.1)), (2, .int (v.1)), (5, .int (r3 + ((d_t.2 5) (v.2.2).toNatClampNeg))), (0, .ref h_t)]) hx hb dX7_spreadOf_70 hl (k := 4) rfl rfl (by decide) rfl (fun ls hl => ?_)
        refine lv_goto (tgt := 14) hx hb dX7_spreadOf_73 (by decide) ?_
        exact ih _ hf _ _ _ hP hD hS (lv_sub hl [4, 2, 1, 0] rfl)
      · replace hf := g8.2 c7
        refine lv_iload hx hb dX7_spreadOf_63 (lv_at hl 1 rfl) ?_
        refine lv_goto (tgt := 69) hx hb dX7_spreadOf_65 (by decide) ?_
        refine lv_istore_n (lv' := [(3, .int (r3 + ((d_t.2 5) (v.2.2).toNatClampNeg))), (2, .int (v.1)), (5, .int (r3 + ((d_t.2 5) (v.2.2).toNatClampNeg))), (0, .ref h_t), (4, .int (v.2.2))]) hx hb dX7_spreadOf_69 rfl hl (by decide) rfl (fun ls hl => ?_)
        refine lv_iinc (v := ((v.2.2) + 1)) (lv' := [(4, .int ((v.2.2) + 1)), (3, .int (r3 + ((d_t.2 5) (v.2.2).toNatClampNeg))), (2, .int (v.1)), (5, .int (r3 + ((d_t.2 5) (v.2.2).toNatClampNeg))), (0, .ref h_t)]) hx hb dX7_spreadOf_70 hl (k := 4) rfl rfl (by decide) rfl (fun ls hl => ?_)
        refine lv_goto (tgt := 14) hx hb dX7_spreadOf_73 (by decide) ?_
        exact ih _ hf _ _ _ hP hD hS (lv_sub hl [4, 2, 1, 0] rfl)
    · replace hf := g6.2 c5
      refine lv_iload hx hb dX7_spreadOf_50 (lv_at hl 0 rfl) ?_
      refine lv_goto (tgt := 56) hx hb dX7_spreadOf_52 (by decide) ?_
      refine lv_istore_n (lv' := [(2, .int (r3 + ((d_t.2 5) (v.2.2).toNatClampNeg))), (5, .int (r3 + ((d_t.2 5) (v.2.2).toNatClampNeg))), (0, .ref h_t), (3, .int (v.2.1)), (4, .int (v.2.2))]) hx hb dX7_spreadOf_56 rfl hl (by decide) rfl (fun ls hl => ?_)
      refine lv_iload hx hb dX7_spreadOf_57 (lv_at hl 1 rfl) ?_
      refine lv_iload_n hx hb dX7_spreadOf_59 rfl (lv_at hl 3 rfl) ?_
      have g10 := ite_some hf
      refine lv_icmp_le (tgt := 68) hx hb dX7_spreadOf_60 (by decide) (fun c9 => ?_) (fun c9 => ?_)
      · replace hf := g10.1 c9
        refine lv_iload_n hx hb dX7_spreadOf_68 rfl (lv_at hl 3 rfl) ?_
        refine lv_istore_n (lv' := [(3, .int (v.2.1)), (2, .int (r3 + ((d_t.2 5) (v.2.2).toNatClampNeg))), (5, .int (r3 + ((d_t.2 5) (v.2.2).toNatClampNeg))), (0, .ref h_t), (4, .int (v.2.2))]) hx hb dX7_spreadOf_69 rfl hl (by decide) rfl (fun ls hl => ?_)
        refine lv_iinc (v := ((v.2.2) + 1)) (lv' := [(4, .int ((v.2.2) + 1)), (3, .int (v.2.1)), (2, .int (r3 + ((d_t.2 5) (v.2.2).toNatClampNeg))), (5, .int (r3 + ((d_t.2 5) (v.2.2).toNatClampNeg))), (0, .ref h_t)]) hx hb dX7_spreadOf_70 hl (k := 4) rfl rfl (by decide) rfl (fun ls hl => ?_)
        refine lv_goto (tgt := 14) hx hb dX7_spreadOf_73 (by decide) ?_
        exact ih _ hf _ _ _ hP hD hS (lv_sub hl [4, 2, 1, 0] rfl)
      · replace hf := g10.2 c9
        refine lv_iload hx hb dX7_spreadOf_63 (lv_at hl 1 rfl) ?_
        refine lv_goto (tgt := 69) hx hb dX7_spreadOf_65 (by decide) ?_
        refine lv_istore_n (lv' := [(3, .int (r3 + ((d_t.2 5) (v.2.2).toNatClampNeg))), (2, .int (r3 + ((d_t.2 5) (v.2.2).toNatClampNeg))), (5, .int (r3 + ((d_t.2 5) (v.2.2).toNatClampNeg))), (0, .ref h_t), (4, .int (v.2.2))]) hx hb dX7_spreadOf_69 rfl hl (by decide) rfl (fun ls hl => ?_)
        refine lv_iinc (v := ((v.2.2) + 1)) (lv' := [(4, .int ((v.2.2) + 1)), (3, .int (r3 + ((d_t.2 5) (v.2.2).toNatClampNeg))), (2, .int (r3 + ((d_t.2 5) (v.2.2).toNatClampNeg))), (5, .int (r3 + ((d_t.2 5) (v.2.2).toNatClampNeg))), (0, .ref h_t)]) hx hb dX7_spreadOf_70 hl (k := 4) rfl rfl (by decide) rfl (fun ls hl => ?_)
        refine lv_goto (tgt := 14) hx hb dX7_spreadOf_73 (by decide) ?_
        exact ih _ hf _ _ _ hP hD hS (lv_sub hl [4, 2, 1, 0] rfl)
set_option maxHeartbeats 4000000 in
set_option maxRecDepth 100000 in
theorem mX7_spreadOf (l : Launch) (D : va_G) (cs : Nat → ClassId) (sk : Nat → Nat) (h_t : Nat) (q_t : Nat → Nat) (k : Nat) (d_t : Dat) (x1 : Int32) {rv : Int32 × Dat} (hf : fX7_spreadOf k d_t x1 = some rv) : CTi l yX7_spreadOf (Cond.code yX7_spreadOf cX7_spreadOf 6 (some .int) :: gtbl) rm_X7_spreadOf D cs sk [.ref h_t, .int x1] [oX7 h_t q_t (d_t.1), ((q_t 0), .inl (cs 0, 106, .inl (d_t.2 0))), ((q_t 4), .inl (cs 0, 12, .inl (d_t.2 4))), ((q_t 5), .inl (cs 0, 12, .inl (d_t.2 5))), ((q_t 6), .inl (cs 0, 12, .inl (d_t.2 6)))] (rv.1) [oX7 h_t q_t (rv.2.1), ((q_t 0), .inl (cs 0, 106, .inl (d_t.2 0))), ((q_t 4), .inl (cs 0, 12, .inl (rv.2.2 4))), ((q_t 5), .inl (cs 0, 12, .inl (rv.2.2 5))), ((q_t 6), .inl (cs 0, 12, .inl (rv.2.2 6)))] := by
  refine CTi.of RX7 (by decide +kernel) rfl (Nat.le_of_ble_eq_true rfl) (fun p e s m args below meth c A Q ls M hA hR hl hP hD hS => ?_)
  obtain ⟨hx, hb, hml, hT, hown, hlk, hrt, hK, hN, hSE⟩ := id M
  replace hl : lv_has ls 6 [(0, .ref h_t), (1, .int x1)] := hl
  unfold fX7_spreadOf at hf
  refine lv_aload_n hx hb dX7_spreadOf_0 rfl (lv_at hl 0 rfl) ?_
  refine lv_iload_n hx hb dX7_spreadOf_1 rfl (lv_at hl 1 rfl) ?_
  obtain ⟨r1, e2, hf⟩ := bind_some hf
  refine callVv (As := [.int x1]) (rest := []) M (mX7_layAll l D cs sk h_t q_t k d_t x1 e2) mw_X7_160 ln_X7_layAll ⟨rfl, rfl, Nat.le_of_ble_eq_true rfl, Nat.le_of_ble_eq_true rfl⟩ hP hD hS hA [0, 1, 2, 3, 4] (by decide) rfl rfl (q0 := 0) rfl rfl rfl ⟨Nat.zero_le _, Nat.zero_le _⟩ hl.1 rfl (Nat.le_of_ble_eq_true rfl) dX7_spreadOf_2 (fun H locs hP hD hS => ?_)
  replace hP : va_P D vwCl [oX7 h_t q_t (r1.1), ((q_t 0), .inl (cs 0, 106, .inl (d_t.2 0))), ((q_t 4), .inl (cs 0, 12, .inl (r1.2 4))), ((q_t 5), .inl (cs 0, 12, .inl (r1.2 5))), ((q_t 6), .inl (cs 0, 12, .inl (r1.2 6)))] H := hP
  replace hD : va_D A [oX7 h_t q_t (r1.1), ((q_t 0), .inl (cs 0, 106, .inl (d_t.2 0))), ((q_t 4), .inl (cs 0, 12, .inl (r1.2 4))), ((q_t 5), .inl (cs 0, 12, .inl (r1.2 5))), ((q_t 6), .inl (cs 0, 12, .inl (r1.2 6)))] := hD
  refine lv_ldc (v := 1000000) hx hb hown (hT _ kw_X7_165) dX7_spreadOf_5 ?_
  refine lv_istore_n (lv' := [(2, .int 1000000), (0, .ref h_t), (1, .int x1)]) hx hb dX7_spreadOf_7 rfl hl (by decide) rfl (fun ls hl => ?_)
  refine lv_ldc (v := (-1000000)) hx hb hown (hT _ kw_X7_166) dX7_spreadOf_8 ?_
  refine lv_istore_n (lv' := [(3, .int (-1000000)), (2, .int 1000000), (0, .ref h_t), (1, .int x1)]) hx hb dX7_spreadOf_10 rfl hl (by decide) rfl (fun ls hl => ?_)
  refine lv_iconst (v := 0) hx hb dX7_spreadOf_11 rfl ?_
  refine lv_istore (lv' := [(4, .int 0), (3, .int (-1000000)), (2, .int 1000000), (0, .ref h_t), (1, .int x1)]) hx hb dX7_spreadOf_12 hl (by decide) rfl (fun ls hl => ?_)
  refine mX7_spreadOf_B14 h_t q_t k (r1.1, (va_up (va_up (va_up d_t.2 4 (r1.2 4)) 5 (r1.2 5)) 6 (r1.2 6))) _ M hA hR (fun w3 hf H locs ls hP hD hS hl => ?_) _ _ hf _ _ _ hP hD hS (lv_sub hl [3, 2, 1, 0] rfl)
  · refine lv_aload_n hx hb dX7_spreadOf_76 rfl (lv_at hl 0 rfl) ?_
    refine va_get (D := D) (ci := 7) (v := .int (r1.1 7)) (C := RX7) (T := TX7) (N := 23) hx hb hT iX7 hown hK hP 0 rfl rfl 7 (by decide) (hT _ fw_X7_139) (fun _ h9 => h9) rfl dX7_spreadOf_77 ?_
    have g5 := ite_some hf
    refine lv_if_ne (tgt := 87) hx hb dX7_spreadOf_80 (by decide) (fun c4 => ?_) (fun c4 => ?_)
    · replace hf := g5.2 c4
      refine lv_iload_n hx hb dX7_spreadOf_87 rfl (lv_at hl 2 rfl) ?_
      refine lv_iload_n hx hb dX7_spreadOf_88 rfl (lv_at hl 1 rfl) ?_
      refine lv_isub hx hb dX7_spreadOf_89 ?_
      have e9 := Option.some.inj hf
      subst e9
      exact hR _ _ _ _ dX7_spreadOf_90 hP hS
    · replace hf := g5.1 c4
      refine lv_iconst (v := 0) hx hb dX7_spreadOf_83 rfl ?_
      refine lv_goto (tgt := 90) hx hb dX7_spreadOf_84 (by decide) ?_
      have e9 := Option.some.inj hf
      subst e9
      exact hR _ _ _ _ dX7_spreadOf_90 hP hS
abbrev rm_X7_spread : Room := { frames := 6, cells := 0, slots := 0, locals := 140 }
def fX7_spread (k : Nat) (d_t : Dat) (x1 : Int32) : Option (Int32 × Dat) :=
  (fX7_isEar k d_t x1).bind (fun (r1 : Int32) => (if r1 = 0 then (fX7_bad k d_t (-2)).bind (fun (r7 : Int32 × Dat) => some ((r7.1), (d_t.1, (va_up d_t.2 3 (r7.2.2 3))))) else (fX7_spreadOf k ((upd d_t.1 8 0), d_t.2) x1).bind (fun (r5 : Int32 × Dat) => some ((r5.1), (r5.2.1, (va_up (va_up (va_up d_t.2 4 (r5.2.2 4)) 5 (r5.2.2 5)) 6 (r5.2.2 6)))))))
set_option maxHeartbeats 4000000 in
set_option maxRecDepth 100000 in
theorem mX7_spread (l : Launch) (D : va_G) (cs : Nat → ClassId) (sk : Nat → Nat) (h_t : Nat) (q_t : Nat → Nat) (k : Nat) (d_t : Dat) (x1 : Int32) {rv : Int32 × Dat} (hf : fX7_spread k d_t x1 = some rv) : CTi l yX7_spread (Cond.code yX7_spread cX7_spread 2 (some .int) :: gtbl) rm_X7_spread D cs sk [.ref h_t, .int x1] [oX7 h_t q_t (d_t.1), ((q_t 0), .inl (cs 0, 106, .inl (d_t.2 0))), ((q_t 3), .inl (cs 0, 3, .inl (d_t.2 3))), ((q_t 4), .inl (cs 0, 12, .inl (d_t.2 4))), ((q_t 5), .inl (cs 0, 12, .inl (d_t.2 5))), ((q_t 6), .inl (cs 0, 12, .inl (d_t.2 6)))] (rv.1) [oX7 h_t q_t (rv.2.1), ((q_t 0), .inl (cs 0, 106, .inl (d_t.2 0))), ((q_t 3), .inl (cs 0, 3, .inl (rv.2.2 3))), ((q_t 4), .inl (cs 0, 12, .inl (rv.2.2 4))), ((q_t 5), .inl (cs 0, 12, .inl (rv.2.2 5))), ((q_t 6), .inl (cs 0, 12, .inl (rv.2.2 6)))] := by
  refine CTi.of RX7 (by decide +kernel) rfl (Nat.le_of_ble_eq_true rfl) (fun p e s m args below meth c A Q ls M hA hR hl hP hD hS => ?_)
  obtain ⟨hx, hb, hml, hT, hown, hlk, hrt, hK, hN, hSE⟩ := id M
  replace hl : lv_has ls 2 [(0, .ref h_t), (1, .int x1)] := hl
  unfold fX7_spread at hf
  refine lv_aload_n hx hb dX7_spread_0 rfl (lv_at hl 0 rfl) ?_
  refine lv_iload_n hx hb dX7_spread_1 rfl (lv_at hl 1 rfl) ?_
  obtain ⟨r1, e2, hf⟩ := bind_some hf
  refine callVi (As := [.int x1]) (rest := []) M (mX7_isEar l D cs sk h_t q_t k d_t x1 e2) mw_X7_133 ln_X7_isEar ⟨rfl, rfl, Nat.le_of_ble_eq_true rfl, Nat.le_of_ble_eq_true rfl⟩ hP hD hS hA [0, 1] (by decide) rfl rfl (q0 := 0) rfl rfl rfl ⟨Nat.zero_le _, Nat.zero_le _⟩ hl.1 rfl (Nat.le_of_ble_eq_true rfl) dX7_spread_2 (fun H locs hP hD hS => ?_)
  replace hP : va_P D vwCl [oX7 h_t q_t (d_t.1), ((q_t 0), .inl (cs 0, 106, .inl (d_t.2 0))), ((q_t 3), .inl (cs 0, 3, .inl (d_t.2 3))), ((q_t 4), .inl (cs 0, 12, .inl (d_t.2 4))), ((q_t 5), .inl (cs 0, 12, .inl (d_t.2 5))), ((q_t 6), .inl (cs 0, 12, .inl (d_t.2 6)))] H := hP
  replace hD : va_D A [oX7 h_t q_t (d_t.1), ((q_t 0), .inl (cs 0, 106, .inl (d_t.2 0))), ((q_t 3), .inl (cs 0, 3, .inl (d_t.2 3))), ((q_t 4), .inl (cs 0, 12, .inl (d_t.2 4))), ((q_t 5), .inl (cs 0, 12, .inl (d_t.2 5))), ((q_t 6), .inl (cs 0, 12, .inl (d_t.2 6)))] := hD
  have g4 := ite_some hf
  refine lv_if_ne (tgt := 15) hx hb dX7_spread_5 (by decide) (fun c3 => ?_) (fun c3 => ?_)
  · replace hf := g4.2 c3
    refine lv_aload_n hx hb dX7_spread_15 rfl (lv_at hl 0 rfl) ?_
    refine lv_iconst (v := 0) hx hb dX7_spread_16 rfl ?_
    refine va_put (D := D) (ci := 7) (v := .int 0) (ty := tyX7 8) (C := RX7) (T := TX7) (N := 23) hx hb hT iX7 tyX7 tyX7_ok nmX7 hown hK hP hD hS 0 rfl rfl 8 (by decide) (hT _ fw_X7_143) (fun _ h9 => h9) rfl (tyX7_ok 8 (by decide)) rfl rfl (Nat.le_of_ble_eq_true rfl) dX7_spread_17 (fun H locs hP hD hS => ?_)
    replace hP : va_P D vwCl [oX7 h_t q_t (upd d_t.1 8 0), ((q_t 0), .inl (cs 0, 106, .inl (d_t.2 0))), ((q_t 3), .inl (cs 0, 3, .inl (d_t.2 3))), ((q_t 4), .inl (cs 0, 12, .inl (d_t.2 4))), ((q_t 5), .inl (cs 0, 12, .inl (d_t.2 5))), ((q_t 6), .inl (cs 0, 12, .inl (d_t.2 6)))] H := hP
    replace hD : va_D A [oX7 h_t q_t (upd d_t.1 8 0), ((q_t 0), .inl (cs 0, 106, .inl (d_t.2 0))), ((q_t 3), .inl (cs 0, 3, .inl (d_t.2 3))), ((q_t 4), .inl (cs 0, 12, .inl (d_t.2 4))), ((q_t 5), .inl (cs 0, 12, .inl (d_t.2 5))), ((q_t 6), .inl (cs 0, 12, .inl (d_t.2 6)))] := hD
    refine lv_aload_n hx hb dX7_spread_20 rfl (lv_at hl 0 rfl) ?_
    refine lv_iload_n hx hb dX7_spread_21 rfl (lv_at hl 1 rfl) ?_
    obtain ⟨r5, e6, hf⟩ := bind_some hf
    refine callVi (As := [.int x1]) (rest := []) M (mX7_spreadOf l D cs sk h_t q_t k ((upd d_t.1 8 0), d_t.2) x1 e6) mw_X7_167 ln_X7_spreadOf ⟨rfl, rfl, Nat.le_of_ble_eq_true rfl, Nat.le_of_ble_eq_true rfl⟩ hP hD hS hA [0, 1, 3, 4, 5] (by decide) rfl rfl (q0 := 0) rfl rfl rfl ⟨Nat.zero_le _, Nat.zero_le _⟩ hl.1 rfl (Nat.le_of_ble_eq_true rfl) dX7_spread_22 (fun H locs hP hD hS => ?_)
    replace hP : va_P D vwCl [oX7 h_t q_t (r5.2.1), ((q_t 0), .inl (cs 0, 106, .inl (d_t.2 0))), ((q_t 3), .inl (cs 0, 3, .inl (d_t.2 3))), ((q_t 4), .inl (cs 0, 12, .inl (r5.2.2 4))), ((q_t 5), .inl (cs 0, 12, .inl (r5.2.2 5))), ((q_t 6), .inl (cs 0, 12, .inl (r5.2.2 6)))] H := hP
    replace hD : va_D A [oX7 h_t q_t (r5.2.1), ((q_t 0), .inl (cs 0, 106, .inl (d_t.2 0))), ((q_t 3), .inl (cs 0, 3, .inl (d_t.2 3))), ((q_t 4), .inl (cs 0, 12, .inl (r5.2.2 4))), ((q_t 5), .inl (cs 0, 12, .inl (r5.2.2 5))), ((q_t 6), .inl (cs 0, 12, .inl (r5.2.2 6)))] := hD
    have e9 := Option.some.inj hf
    subst e9
    exact hR _ _ _ _ dX7_spread_25 hP hS
  · replace hf := g4.1 c3
    refine lv_aload_n hx hb dX7_spread_8 rfl (lv_at hl 0 rfl) ?_
    refine lv_bipush (v := (-2)) hx hb dX7_spread_9 rfl ?_
    obtain ⟨r7, e8, hf⟩ := bind_some hf
    refine callVi (As := [.int (-2)]) (rest := []) M (mX7_bad l D cs sk h_t q_t k d_t (-2) e8) mw_X7_76 ln_X7_bad ⟨rfl, rfl, Nat.le_of_ble_eq_true rfl, Nat.le_of_ble_eq_true rfl⟩ hP hD hS hA [0, 2] (by decide) rfl rfl (q0 := 0) rfl rfl rfl ⟨Nat.zero_le _, Nat.zero_le _⟩ hl.1 rfl (Nat.le_of_ble_eq_true rfl) dX7_spread_11 (fun H locs hP hD hS => ?_)
    replace hP : va_P D vwCl [oX7 h_t q_t (d_t.1), ((q_t 0), .inl (cs 0, 106, .inl (d_t.2 0))), ((q_t 3), .inl (cs 0, 3, .inl (r7.2.2 3))), ((q_t 4), .inl (cs 0, 12, .inl (d_t.2 4))), ((q_t 5), .inl (cs 0, 12, .inl (d_t.2 5))), ((q_t 6), .inl (cs 0, 12, .inl (d_t.2 6)))] H := hP
    replace hD : va_D A [oX7 h_t q_t (d_t.1), ((q_t 0), .inl (cs 0, 106, .inl (d_t.2 0))), ((q_t 3), .inl (cs 0, 3, .inl (r7.2.2 3))), ((q_t 4), .inl (cs 0, 12, .inl (d_t.2 4))), ((q_t 5), .inl (cs 0, 12, .inl (d_t.2 5))), ((q_t 6), .inl (cs 0, 12, .inl (d_t.2 6)))] := hD
    have e9 := Option.some.inj hf
    subst e9
    exact hR _ _ _ _ dX7_spread_14 hP hS
abbrev rm_X7_isTogether : Room := { frames := 6, cells := 0, slots := 0, locals := 140 }
def fX7_isTogether_B4 (k : Nat) (x1 : Int32) (d_t : Dat) (K37 : Int32 × Dat → Option (Int32 × Dat)) (rec : Int32 × Int32 × Dat → Option (Int32 × Dat)) (v : Int32 × Int32 × Dat) : Option (Int32 × Dat) :=
  (fX7_ears k (v.2.2.1, (va_up (va_up (va_up d_t.2 4 (v.2.2.2 4)) 5 (v.2.2.2 5)) 6 (v.2.2.2 6)))).bind (fun (r1 : Int32) => (if r1 ≤ (v.2.1) then K37 ((v.1), (v.2.2.1, (va_up (va_up (va_up d_t.2 4 (v.2.2.2 4)) 5 (v.2.2.2 5)) 6 (v.2.2.2 6)))) else (if (v.1) = 0 then rec (0, ((v.2.1) + 1), (v.2.2.1, (va_up (va_up (va_up d_t.2 4 (v.2.2.2 4)) 5 (v.2.2.2 5)) 6 (v.2.2.2 6)))) else (fX7_spreadOf k (v.2.2.1, (va_up (va_up (va_up d_t.2 4 (v.2.2.2 4)) 5 (v.2.2.2 5)) 6 (v.2.2.2 6))) (v.2.1)).bind (fun (r7 : Int32 × Dat) => (if x1 < (r7.1) then rec (0, ((v.2.1) + 1), (r7.2.1, (va_up (va_up (va_up d_t.2 4 (r7.2.2 4)) 5 (r7.2.2 5)) 6 (r7.2.2 6)))) else rec (1, ((v.2.1) + 1), (r7.2.1, (va_up (va_up (va_up d_t.2 4 (r7.2.2 4)) 5 (r7.2.2 5)) 6 (r7.2.2 6)))))))))
def fX7_isTogether (k : Nat) (d_t : Dat) (x1 : Int32) : Option (Int32 × Dat) :=
  lp (fX7_isTogether_B4 k x1 d_t (fun (w1 : Int32 × Dat) => chb (w1.1) (some ((w1.1), (w1.2.1, (va_up (va_up (va_up d_t.2 4 (w1.2.2 4)) 5 (w1.2.2 5)) 6 (w1.2.2 6))))))) k (1, 0, d_t)
set_option maxHeartbeats 4000000 in
set_option maxRecDepth 100000 in
theorem mX7_isTogether_B4 {l : Launch} {p : Program} {e : Env} {s : State} {m : MethodId} {args : Array Value} {below : List Frame} {meth : Method} {c : Code} {D : va_G} {cs : Nat → ClassId} {sk : Nat → Nat} {A : Nat → Prop} {Q : State → Prop} (h_t : Nat) (q_t : Nat → Nat) (k : Nat) (x1 : Int32) (d_t : Dat) {rv : Int32 × Dat}  (K37 : Int32 × Dat → Option (Int32 × Dat))
    (M : MC p s m args meth c D cs sk A RX7 cX7_isTogether 4 (some .boolean)) (hA : ∀ q, s.heap.size ≤ q → A q) (hR : RetZ p l e rm_X7_isTogether s m args below meth c D cX7_isTogether A Q (rv.1) [oX7 h_t q_t (rv.2.1), ((q_t 0), .inl (cs 0, 106, .inl (d_t.2 0))), ((q_t 4), .inl (cs 0, 12, .inl (rv.2.2 4))), ((q_t 5), .inl (cs 0, 12, .inl (rv.2.2 5))), ((q_t 6), .inl (cs 0, 12, .inl (rv.2.2 6)))])
    (hK37 : ∀ (w : Int32 × Dat), K37 w = some rv → ∀ (H : Heap) (locs : List Loc) (ls : Array Slot), va_P D vwCl [oX7 h_t q_t (w.2.1), ((q_t 0), .inl (cs 0, 106, .inl (d_t.2 0))), ((q_t 4), .inl (cs 0, 12, .inl (w.2.2 4))), ((q_t 5), .inl (cs 0, 12, .inl (w.2.2 5))), ((q_t 6), .inl (cs 0, 12, .inl (w.2.2 6)))] H → va_D A [oX7 h_t q_t (w.2.1), ((q_t 0), .inl (cs 0, 106, .inl (d_t.2 0))), ((q_t 4), .inl (cs 0, 12, .inl (w.2.2 4))), ((q_t 5), .inl (cs 0, 12, .inl (w.2.2 5))), ((q_t 6), .inl (cs 0, 12, .inl (w.2.2 6)))] → va_S A s.heap H locs → lv_has ls 4 [(2, .int (w.1))] → W p l e rm_X7_isTogether s m args below meth c H locs 0 0 Q (F0 m 37 ls []))
    : ∀ (n : Nat) (v : Int32 × Int32 × Dat), lp (fX7_isTogether_B4 k x1 d_t K37) n v = some rv → ∀ (H : Heap) (locs : List Loc) (ls : Array Slot), va_P D vwCl [oX7 h_t q_t (v.2.2.1), ((q_t 0), .inl (cs 0, 106, .inl (d_t.2 0))), ((q_t 4), .inl (cs 0, 12, .inl (v.2.2.2 4))), ((q_t 5), .inl (cs 0, 12, .inl (v.2.2.2 5))), ((q_t 6), .inl (cs 0, 12, .inl (v.2.2.2 6)))] H → va_D A [oX7 h_t q_t (v.2.2.1), ((q_t 0), .inl (cs 0, 106, .inl (d_t.2 0))), ((q_t 4), .inl (cs 0, 12, .inl (v.2.2.2 4))), ((q_t 5), .inl (cs 0, 12, .inl (v.2.2.2 5))), ((q_t 6), .inl (cs 0, 12, .inl (v.2.2.2 6)))] → va_S A s.heap H locs → lv_has ls 4 [(0, .ref h_t), (1, .int x1), (2, .int (v.1)), (3, .int (v.2.1))] → W p l e rm_X7_isTogether s m args below meth c H locs 0 0 Q (F0 m 4 ls []) := by
  obtain ⟨hx, hb, hml, hT, hown, hlk, hrt, hK, hN, hSE⟩ := id M
  refine lp_ind (fun rec ih v hf H locs ls hP hD hS hl => ?_)
  unfold fX7_isTogether_B4 at hf
  refine lv_iload_n hx hb dX7_isTogether_4 rfl (lv_at hl 3 rfl) ?_
  refine lv_aload_n hx hb dX7_isTogether_5 rfl (lv_at hl 0 rfl) ?_
  obtain ⟨r1, e2, hf⟩ := bind_some hf
  refine callVi (As := []) (rest := [.int (v.2.1)]) M (mX7_ears l D cs sk h_t q_t k (v.2.2.1, (va_up (va_up (va_up d_t.2 4 (v.2.2.2 4)) 5 (v.2.2.2 5)) 6 (v.2.2.2 6))) e2) mw_X7_64 ln_X7_ears ⟨rfl, rfl, Nat.le_of_ble_eq_true rfl, Nat.le_of_ble_eq_true rfl⟩ hP hD hS hA [0, 1] (by decide) rfl rfl (q0 := 0) rfl rfl rfl ⟨Nat.zero_le _, Nat.zero_le _⟩ hl.1 rfl (Nat.le_of_ble_eq_true rfl) dX7_isTogether_6 (fun H locs hP hD hS => ?_)
  replace hP : va_P D vwCl [oX7 h_t q_t (v.2.2.1), ((q_t 0), .inl (cs 0, 106, .inl (d_t.2 0))), ((q_t 4), .inl (cs 0, 12, .inl (v.2.2.2 4))), ((q_t 5), .inl (cs 0, 12, .inl (v.2.2.2 5))), ((q_t 6), .inl (cs 0, 12, .inl (v.2.2.2 6)))] H := hP
  replace hD : va_D A [oX7 h_t q_t (v.2.2.1), ((q_t 0), .inl (cs 0, 106, .inl (d_t.2 0))), ((q_t 4), .inl (cs 0, 12, .inl (v.2.2.2 4))), ((q_t 5), .inl (cs 0, 12, .inl (v.2.2.2 5))), ((q_t 6), .inl (cs 0, 12, .inl (v.2.2.2 6)))] := hD
  have g4 := ite_some hf
  refine lv_icmp_ge (tgt := 37) hx hb dX7_isTogether_9 (by decide) (fun c3 => ?_) (fun c3 => ?_)
  · replace hf := g4.1 c3
    exact hK37 _ hf _ _ _ hP hD hS (lv_sub hl [2] rfl)
  · replace hf := g4.2 c3
    refine lv_iload_n hx hb dX7_isTogether_12 rfl (lv_at hl 2 rfl) ?_
    have g6 := ite_some hf
    refine lv_if_eq (tgt := 29) hx hb dX7_isTogether_13 (by decide) (fun c5 => ?_) (fun c5 => ?_)
    · replace hf := g6.1 c5
      refine lv_iconst (v := 0) hx hb dX7_isTogether_29 rfl ?_
      refine lv_istore_n (lv' := [(2, .int 0), (0, .ref h_t), (1, .int x1), (3, .int (v.2.1))]) hx hb dX7_isTogether_30 rfl hl (by decide) rfl (fun ls hl => ?_)
      refine lv_iinc (v := ((v.2.1) + 1)) (lv' := [(3, .int ((v.2.1) + 1)), (2, .int 0), (0, .ref h_t), (1, .int x1)]) hx hb dX7_isTogether_31 hl (k := 3) rfl rfl (by decide) rfl (fun ls hl => ?_)
      refine lv_goto (tgt := 4) hx hb dX7_isTogether_34 (by decide) ?_
      exact ih _ hf _ _ _ hP hD hS (lv_sub hl [2, 3, 1, 0] rfl)
    · replace hf := g6.2 c5
      refine lv_aload_n hx hb dX7_isTogether_16 rfl (lv_at hl 0 rfl) ?_
      refine lv_iload_n hx hb dX7_isTogether_17 rfl (lv_at hl 3 rfl) ?_
      obtain ⟨r7, e8, hf⟩ := bind_some hf
      refine callVi (As := [.int (v.2.1)]) (rest := []) M (mX7_spreadOf l D cs sk h_t q_t k (v.2.2.1, (va_up (va_up (va_up d_t.2 4 (v.2.2.2 4)) 5 (v.2.2.2 5)) 6 (v.2.2.2 6))) (v.2.1) e8) mw_X7_167 ln_X7_spreadOf ⟨rfl, rfl, Nat.le_of_ble_eq_true rfl, Nat.le_of_ble_eq_true rfl⟩ hP hD hS hA [0, 1, 2, 3, 4] (by decide) rfl rfl (q0 := 0) rfl rfl rfl ⟨Nat.zero_le _, Nat.zero_le _⟩ hl.1 rfl (Nat.le_of_ble_eq_true rfl) dX7_isTogether_18 (fun H locs hP hD hS => ?_)
      replace hP : va_P D vwCl [oX7 h_t q_t (r7.2.1), ((q_t 0), .inl (cs 0, 106, .inl (d_t.2 0))), ((q_t 4), .inl (cs 0, 12, .inl (r7.2.2 4))), ((q_t 5), .inl (cs 0, 12, .inl (r7.2.2 5))), ((q_t 6), .inl (cs 0, 12, .inl (r7.2.2 6)))] H := hP
      replace hD : va_D A [oX7 h_t q_t (r7.2.1), ((q_t 0), .inl (cs 0, 106, .inl (d_t.2 0))), ((q_t 4), .inl (cs 0, 12, .inl (r7.2.2 4))), ((q_t 5), .inl (cs 0, 12, .inl (r7.2.2 5))), ((q_t 6), .inl (cs 0, 12, .inl (r7.2.2 6)))] := hD
      refine lv_iload_n hx hb dX7_isTogether_21 rfl (lv_at hl 1 rfl) ?_
      have g10 := ite_some hf
      refine lv_icmp_gt (tgt := 29) hx hb dX7_isTogether_22 (by decide) (fun c9 => ?_) (fun c9 => ?_)
      · replace hf := g10.1 c9
        refine lv_iconst (v := 0) hx hb dX7_isTogether_29 rfl ?_
        refine lv_istore_n (lv' := [(2, .int 0), (0, .ref h_t), (1, .int x1), (3, .int (v.2.1))]) hx hb dX7_isTogether_30 rfl hl (by decide) rfl (fun ls hl => ?_)
        refine lv_iinc (v := ((v.2.1) + 1)) (lv' := [(3, .int ((v.2.1) + 1)), (2, .int 0), (0, .ref h_t), (1, .int x1)]) hx hb dX7_isTogether_31 hl (k := 3) rfl rfl (by decide) rfl (fun ls hl => ?_)
        refine lv_goto (tgt := 4) hx hb dX7_isTogether_34 (by decide) ?_
        exact ih _ hf _ _ _ hP hD hS (lv_sub hl [2, 3, 1, 0] rfl)
      · replace hf := g10.2 c9
        refine lv_iconst (v := 1) hx hb dX7_isTogether_25 rfl ?_
        refine lv_goto (tgt := 30) hx hb dX7_isTogether_26 (by decide) ?_
        refine lv_istore_n (lv' := [(2, .int 1), (0, .ref h_t), (1, .int x1), (3, .int (v.2.1))]) hx hb dX7_isTogether_30 rfl hl (by decide) rfl (fun ls hl => ?_)
        refine lv_iinc (v := ((v.2.1) + 1)) (lv' := [(3, .int ((v.2.1) + 1)), (2, .int 1), (0, .ref h_t), (1, .int x1)]) hx hb dX7_isTogether_31 hl (k := 3) rfl rfl (by decide) rfl (fun ls hl => ?_)
        refine lv_goto (tgt := 4) hx hb dX7_isTogether_34 (by decide) ?_
        exact ih _ hf _ _ _ hP hD hS (lv_sub hl [2, 3, 1, 0] rfl)
set_option maxHeartbeats 4000000 in
set_option maxRecDepth 100000 in
theorem mX7_isTogether (l : Launch) (D : va_G) (cs : Nat → ClassId) (sk : Nat → Nat) (h_t : Nat) (q_t : Nat → Nat) (k : Nat) (d_t : Dat) (x1 : Int32) {rv : Int32 × Dat} (hf : fX7_isTogether k d_t x1 = some rv) : CTi l yX7_isTogether (Cond.code yX7_isTogether cX7_isTogether 4 (some .boolean) :: gtbl) rm_X7_isTogether D cs sk [.ref h_t, .int x1] [oX7 h_t q_t (d_t.1), ((q_t 0), .inl (cs 0, 106, .inl (d_t.2 0))), ((q_t 4), .inl (cs 0, 12, .inl (d_t.2 4))), ((q_t 5), .inl (cs 0, 12, .inl (d_t.2 5))), ((q_t 6), .inl (cs 0, 12, .inl (d_t.2 6)))] (rv.1) [oX7 h_t q_t (rv.2.1), ((q_t 0), .inl (cs 0, 106, .inl (d_t.2 0))), ((q_t 4), .inl (cs 0, 12, .inl (rv.2.2 4))), ((q_t 5), .inl (cs 0, 12, .inl (rv.2.2 5))), ((q_t 6), .inl (cs 0, 12, .inl (rv.2.2 6)))] := by
  refine CTi.ofZ RX7 (by decide +kernel) rfl (Nat.le_of_ble_eq_true rfl) (fun p e s m args below meth c A Q ls M hA hR hl hP hD hS => ?_)
  obtain ⟨hx, hb, hml, hT, hown, hlk, hrt, hK, hN, hSE⟩ := id M
  replace hl : lv_has ls 4 [(0, .ref h_t), (1, .int x1)] := hl
  unfold fX7_isTogether at hf
  refine lv_iconst (v := 1) hx hb dX7_isTogether_0 rfl ?_
  refine lv_istore_n (lv' := [(2, .int 1), (0, .ref h_t), (1, .int x1)]) hx hb dX7_isTogether_1 rfl hl (by decide) rfl (fun ls hl => ?_)
  refine lv_iconst (v := 0) hx hb dX7_isTogether_2 rfl ?_
  refine lv_istore_n (lv' := [(3, .int 0), (2, .int 1), (0, .ref h_t), (1, .int x1)]) hx hb dX7_isTogether_3 rfl hl (by decide) rfl (fun ls hl => ?_)
  refine mX7_isTogether_B4 h_t q_t k x1 d_t _ M hA hR (fun w1 hf H locs ls hP hD hS hl => ?_) _ _ hf _ _ _ hP hD hS (lv_sub hl [2, 3, 1, 0] rfl)
  · refine lv_iload_n hx hb dX7_isTogether_37 rfl (lv_at hl 0 rfl) ?_
    obtain ⟨h01, hf⟩ := chb_some hf
    have e9 := Option.some.inj hf
    subst e9
    exact hR _ _ _ _ dX7_isTogether_38 h01 hP hS
abbrev rm_X7_isParts : Room := { frames := 1, cells := 0, slots := 0, locals := 25 }
def fX7_isParts (k : Nat) (x0 : Int32) : Option (Int32) :=
  (fX7_in k x0.toInt64 0 999).bind (fun (r1 : Int32) => chb r1 (some r1))
set_option maxHeartbeats 4000000 in
set_option maxRecDepth 100000 in
theorem mX7_isParts (l : Launch) (D : va_G) (cs : Nat → ClassId) (sk : Nat → Nat)  (k : Nat) (x0 : Int32) {rv : Int32} (hf : fX7_isParts k x0 = some rv) : CTi l yX7_isParts (Cond.code yX7_isParts cX7_isParts 1 (some .boolean) :: gtbl) rm_X7_isParts D cs sk [.int x0] [] (rv) [] := by
  refine CTi.ofZ RX7 (by decide +kernel) rfl (Nat.le_of_ble_eq_true rfl) (fun p e s m args below meth c A Q ls M hA hR hl hP hD hS => ?_)
  obtain ⟨hx, hb, hml, hT, hown, hlk, hrt, hK, hN, hSE⟩ := id M
  replace hl : lv_has ls 1 [(0, .int x0)] := hl
  unfold fX7_isParts at hf
  refine lv_iload_n hx hb dX7_isParts_0 rfl (lv_at hl 0 rfl) ?_
  refine lv_i2l (v := x0.toInt64) hx hb dX7_isParts_1 rfl ?_
  refine lv_lconst (v := 0) hx hb dX7_isParts_2 rfl ?_
  refine W.ldc2 (v := 999) hx hb hown (hT _ kw_X7_89) rfl dX7_isParts_3 ?_
  refine W.eq (g2 := F0 m 6 ls [.long 999, .long 0, .long x0.toInt64]) rfl ?_
  obtain ⟨r1, e2, hf⟩ := bind_some hf
  refine callSi (As := [.long x0.toInt64, .long 0, .long 999]) (rest := []) M (mX7_in l D cs sk  k x0.toInt64 0 999 e2) mw_X7_60 ln_X7_in ⟨rfl, rfl, Nat.le_of_ble_eq_true rfl, Nat.le_of_ble_eq_true rfl⟩ hP hD hS hA [] (by decide) rfl rfl ⟨Nat.zero_le _, Nat.zero_le _⟩ hl.1 rfl (Nat.le_of_ble_eq_true rfl) dX7_isParts_6 (fun H locs hP hD hS => ?_)
  replace hP : va_P D vwCl [] H := hP
  replace hD : va_D A [] := hD
  obtain ⟨h01, hf⟩ := chb_some hf
  have e9 := Option.some.inj hf
  subst e9
  exact hR _ _ _ _ dX7_isParts_9 h01 hP hS
abbrev rm_X7_together : Room := { frames := 7, cells := 0, slots := 0, locals := 163 }
def fX7_together (k : Nat) (d_t : Dat) (x1 : Int32) : Option (Int32 × Dat) :=
  (fX7_isParts k x1).bind (fun (r1 : Int32) => (if r1 = 0 then (fX7_bad k d_t (-2)).bind (fun (r9 : Int32 × Dat) => some ((r9.1), (d_t.1, (va_up d_t.2 3 (r9.2.2 3))))) else (fX7_isTogether k ((upd d_t.1 8 0), d_t.2) x1).bind (fun (r5 : Int32 × Dat) => (if (r5.1) = 0 then some (0, (r5.2.1, (va_up (va_up (va_up d_t.2 4 (r5.2.2 4)) 5 (r5.2.2 5)) 6 (r5.2.2 6)))) else some (1, (r5.2.1, (va_up (va_up (va_up d_t.2 4 (r5.2.2 4)) 5 (r5.2.2 5)) 6 (r5.2.2 6))))))))
set_option maxHeartbeats 4000000 in
set_option maxRecDepth 100000 in
theorem mX7_together (l : Launch) (D : va_G) (cs : Nat → ClassId) (sk : Nat → Nat) (h_t : Nat) (q_t : Nat → Nat) (k : Nat) (d_t : Dat) (x1 : Int32) {rv : Int32 × Dat} (hf : fX7_together k d_t x1 = some rv) : CTi l yX7_together (Cond.code yX7_together cX7_together 2 (some .int) :: gtbl) rm_X7_together D cs sk [.ref h_t, .int x1] [oX7 h_t q_t (d_t.1), ((q_t 0), .inl (cs 0, 106, .inl (d_t.2 0))), ((q_t 3), .inl (cs 0, 3, .inl (d_t.2 3))), ((q_t 4), .inl (cs 0, 12, .inl (d_t.2 4))), ((q_t 5), .inl (cs 0, 12, .inl (d_t.2 5))), ((q_t 6), .inl (cs 0, 12, .inl (d_t.2 6)))] (rv.1) [oX7 h_t q_t (rv.2.1), ((q_t 0), .inl (cs 0, 106, .inl (d_t.2 0))), ((q_t 3), .inl (cs 0, 3, .inl (rv.2.2 3))), ((q_t 4), .inl (cs 0, 12, .inl (rv.2.2 4))), ((q_t 5), .inl (cs 0, 12, .inl (rv.2.2 5))), ((q_t 6), .inl (cs 0, 12, .inl (rv.2.2 6)))] := by
  refine CTi.of RX7 (by decide +kernel) rfl (Nat.le_of_ble_eq_true rfl) (fun p e s m args below meth c A Q ls M hA hR hl hP hD hS => ?_)
  obtain ⟨hx, hb, hml, hT, hown, hlk, hrt, hK, hN, hSE⟩ := id M
  replace hl : lv_has ls 2 [(0, .ref h_t), (1, .int x1)] := hl
  unfold fX7_together at hf
  refine lv_iload_n hx hb dX7_together_0 rfl (lv_at hl 1 rfl) ?_
  obtain ⟨r1, e2, hf⟩ := bind_some hf
  refine callSi (As := [.int x1]) (rest := []) M (mX7_isParts l D cs sk  k x1 e2) mw_X7_170 ln_X7_isParts ⟨rfl, rfl, Nat.le_of_ble_eq_true rfl, Nat.le_of_ble_eq_true rfl⟩ hP hD hS hA [] (by decide) rfl rfl ⟨Nat.zero_le _, Nat.zero_le _⟩ hl.1 rfl (Nat.le_of_ble_eq_true rfl) dX7_together_1 (fun H locs hP hD hS => ?_)
  replace hP : va_P D vwCl [oX7 h_t q_t (d_t.1), ((q_t 0), .inl (cs 0, 106, .inl (d_t.2 0))), ((q_t 3), .inl (cs 0, 3, .inl (d_t.2 3))), ((q_t 4), .inl (cs 0, 12, .inl (d_t.2 4))), ((q_t 5), .inl (cs 0, 12, .inl (d_t.2 5))), ((q_t 6), .inl (cs 0, 12, .inl (d_t.2 6)))] H := hP
  replace hD : va_D A [oX7 h_t q_t (d_t.1), ((q_t 0), .inl (cs 0, 106, .inl (d_t.2 0))), ((q_t 3), .inl (cs 0, 3, .inl (d_t.2 3))), ((q_t 4), .inl (cs 0, 12, .inl (d_t.2 4))), ((q_t 5), .inl (cs 0, 12, .inl (d_t.2 5))), ((q_t 6), .inl (cs 0, 12, .inl (d_t.2 6)))] := hD
  have g4 := ite_some hf
  refine lv_if_ne (tgt := 14) hx hb dX7_together_4 (by decide) (fun c3 => ?_) (fun c3 => ?_)
  · replace hf := g4.2 c3
    refine lv_aload_n hx hb dX7_together_14 rfl (lv_at hl 0 rfl) ?_
    refine lv_iconst (v := 0) hx hb dX7_together_15 rfl ?_
    refine va_put (D := D) (ci := 7) (v := .int 0) (ty := tyX7 8) (C := RX7) (T := TX7) (N := 23) hx hb hT iX7 tyX7 tyX7_ok nmX7 hown hK hP hD hS 0 rfl rfl 8 (by decide) (hT _ fw_X7_143) (fun _ h9 => h9) rfl (tyX7_ok 8 (by decide)) rfl rfl (Nat.le_of_ble_eq_true rfl) dX7_together_16 (fun H locs hP hD hS => ?_)
    replace hP : va_P D vwCl [oX7 h_t q_t (upd d_t.1 8 0), ((q_t 0), .inl (cs 0, 106, .inl (d_t.2 0))), ((q_t 3), .inl (cs 0, 3, .inl (d_t.2 3))), ((q_t 4), .inl (cs 0, 12, .inl (d_t.2 4))), ((q_t 5), .inl (cs 0, 12, .inl (d_t.2 5))), ((q_t 6), .inl (cs 0, 12, .inl (d_t.2 6)))] H := hP
    replace hD : va_D A [oX7 h_t q_t (upd d_t.1 8 0), ((q_t 0), .inl (cs 0, 106, .inl (d_t.2 0))), ((q_t 3), .inl (cs 0, 3, .inl (d_t.2 3))), ((q_t 4), .inl (cs 0, 12, .inl (d_t.2 4))), ((q_t 5), .inl (cs 0, 12, .inl (d_t.2 5))), ((q_t 6), .inl (cs 0, 12, .inl (d_t.2 6)))] := hD
    refine lv_aload_n hx hb dX7_together_19 rfl (lv_at hl 0 rfl) ?_
    refine lv_iload_n hx hb dX7_together_20 rfl (lv_at hl 1 rfl) ?_
    obtain ⟨r5, e6, hf⟩ := bind_some hf
    refine callVi (As := [.int x1]) (rest := []) M (mX7_isTogether l D cs sk h_t q_t k ((upd d_t.1 8 0), d_t.2) x1 e6) mw_X7_173 ln_X7_isTogether ⟨rfl, rfl, Nat.le_of_ble_eq_true rfl, Nat.le_of_ble_eq_true rfl⟩ hP hD hS hA [0, 1, 3, 4, 5] (by decide) rfl rfl (q0 := 0) rfl rfl rfl ⟨Nat.zero_le _, Nat.zero_le _⟩ hl.1 rfl (Nat.le_of_ble_eq_true rfl) dX7_together_21 (fun H locs hP hD hS => ?_)
    replace hP : va_P D vwCl [oX7 h_t q_t (r5.2.1), ((q_t 0), .inl (cs 0, 106, .inl (d_t.2 0))), ((q_t 3), .inl (cs 0, 3, .inl (d_t.2 3))), ((q_t 4), .inl (cs 0, 12, .inl (r5.2.2 4))), ((q_t 5), .inl (cs 0, 12, .inl (r5.2.2 5))), ((q_t 6), .inl (cs 0, 12, .inl (r5.2.2 6)))] H := hP
    replace hD : va_D A [oX7 h_t q_t (r5.2.1), ((q_t 0), .inl (cs 0, 106, .inl (d_t.2 0))), ((q_t 3), .inl (cs 0, 3, .inl (d_t.2 3))), ((q_t 4), .inl (cs 0, 12, .inl (r5.2.2 4))), ((q_t 5), .inl (cs 0, 12, .inl (r5.2.2 5))), ((q_t 6), .inl (cs 0, 12, .inl (r5.2.2 6)))] := hD
    have g8 := ite_some hf
    refine lv_if_eq (tgt := 31) hx hb dX7_together_24 (by decide) (fun c7 => ?_) (fun c7 => ?_)
    · replace hf := g8.1 c7
      refine lv_iconst (v := 0) hx hb dX7_together_31 rfl ?_
      have e9 := Option.some.inj hf
      subst e9
      exact hR _ _ _ _ dX7_together_32 hP hS
    · replace hf := g8.2 c7
      refine lv_iconst (v := 1) hx hb dX7_together_27 rfl ?_
      refine lv_goto (tgt := 32) hx hb dX7_together_28 (by decide) ?_
      have e9 := Option.some.inj hf
      subst e9
      exact hR _ _ _ _ dX7_together_32 hP hS
  · replace hf := g4.1 c3
    refine lv_aload_n hx hb dX7_together_7 rfl (lv_at hl 0 rfl) ?_
    refine lv_bipush (v := (-2)) hx hb dX7_together_8 rfl ?_
    obtain ⟨r9, e10, hf⟩ := bind_some hf
    refine callVi (As := [.int (-2)]) (rest := []) M (mX7_bad l D cs sk h_t q_t k d_t (-2) e10) mw_X7_76 ln_X7_bad ⟨rfl, rfl, Nat.le_of_ble_eq_true rfl, Nat.le_of_ble_eq_true rfl⟩ hP hD hS hA [0, 2] (by decide) rfl rfl (q0 := 0) rfl rfl rfl ⟨Nat.zero_le _, Nat.zero_le _⟩ hl.1 rfl (Nat.le_of_ble_eq_true rfl) dX7_together_10 (fun H locs hP hD hS => ?_)
    replace hP : va_P D vwCl [oX7 h_t q_t (d_t.1), ((q_t 0), .inl (cs 0, 106, .inl (d_t.2 0))), ((q_t 3), .inl (cs 0, 3, .inl (r9.2.2 3))), ((q_t 4), .inl (cs 0, 12, .inl (d_t.2 4))), ((q_t 5), .inl (cs 0, 12, .inl (d_t.2 5))), ((q_t 6), .inl (cs 0, 12, .inl (d_t.2 6)))] H := hP
    replace hD : va_D A [oX7 h_t q_t (d_t.1), ((q_t 0), .inl (cs 0, 106, .inl (d_t.2 0))), ((q_t 3), .inl (cs 0, 3, .inl (r9.2.2 3))), ((q_t 4), .inl (cs 0, 12, .inl (d_t.2 4))), ((q_t 5), .inl (cs 0, 12, .inl (d_t.2 5))), ((q_t 6), .inl (cs 0, 12, .inl (d_t.2 6)))] := hD
    have e9 := Option.some.inj hf
    subst e9
    exact hR _ _ _ _ dX7_together_13 hP hS
abbrev rm_X7_raiseAt : Room := { frames := 1, cells := 0, slots := 0, locals := 22 }
def fX7_raiseAt_B5 (k : Nat) (d_t : Dat) (K66 : Int32 → Option (Int32 × Dat)) (rec : Int32 × Int32 → Option (Int32 × Dat)) (v : Int32 × Int32) : Option (Int32 × Dat) :=
  (if (d_t.1 7) ≤ (v.2) then K66 (v.1) else chk 12 (v.2) ((fX7_of k d_t ((d_t.2 4) (v.2).toNatClampNeg) 0).bind (fun (r3 : Int32) => chk 12 (v.2) (chk 6 ((d_t.2 4) (v.2).toNatClampNeg) ((fX7_lateBy k r3 ((d_t.2 9) ((d_t.2 4) (v.2).toNatClampNeg).toNatClampNeg)).bind (fun (r5 : Int32) => chk 12 (v.2) ((if (r5 + ((d_t.2 5) (v.2).toNatClampNeg)) ≤ (v.1) then rec ((v.1), ((v.2) + 1)) else rec ((r5 + ((d_t.2 5) (v.2).toNatClampNeg)), ((v.2) + 1))))))))))
def fX7_raiseAt_B68 (k : Nat) (x1 : Int32) (x2 : Int32) (d_t : Dat) (K114 : Int32 × Int32 → Option (Int32 × Dat)) (K196 : Unit → Option (Int32 × Dat)) (rec : Int32 → Option (Int32 × Dat)) (v : Int32) : Option (Int32 × Dat) :=
  (if (d_t.1 7) ≤ v then K196 () else chk 12 v ((fX7_of k d_t ((d_t.2 4) v.toNatClampNeg) 0).bind (fun (r3 : Int32) => chk 6 ((d_t.2 4) v.toNatClampNeg) ((fX7_lateBy k r3 ((d_t.2 9) ((d_t.2 4) v.toNatClampNeg).toNatClampNeg)).bind (fun (r5 : Int32) => chk 12 v ((if (x2 - x1) ≤ (r5 + ((d_t.2 5) v.toNatClampNeg)) then rec (v + 1) else K114 (v, ((d_t.2 4) v.toNatClampNeg)))))))))
def fX7_raiseAt_B114 (k : Nat) (x1 : Int32) (x2 : Int32) (x3 : Int32) (x4 : Int32) (d_t : Dat) (K171 : Dat → Option (Int32 × Dat)) (rec : Dat → Option (Int32 × Dat)) (v : Dat) : Option (Int32 × Dat) :=
  chk 6 x4 ((if 500 < ((v.2 9) x4.toNatClampNeg) then K171 (d_t.1, (va_up d_t.2 9 (v.2 9))) else (fX7_of k (d_t.1, (va_up d_t.2 9 (v.2 9))) x4 0).bind (fun (r3 : Int32) => chk 6 x4 ((fX7_lateBy k r3 ((v.2 9) x4.toNatClampNeg)).bind (fun (r5 : Int32) => chk 12 x3 ((if (x2 - x1) ≤ (r5 + ((d_t.2 5) x3.toNatClampNeg)) then K171 (d_t.1, (va_up d_t.2 9 (v.2 9))) else chk 6 x4 (chk 6 x4 (rec (d_t.1, (va_up d_t.2 9 (upd (v.2 9) x4.toNatClampNeg (((v.2 9) x4.toNatClampNeg) + 1)))))))))))))
def fX7_raiseAt (k : Nat) (d_t : Dat) (x1 : Int32) : Option (Int32 × Dat) :=
  lp (fX7_raiseAt_B5 k d_t (fun (w1 : Int32) => lp (fX7_raiseAt_B68 k x1 w1 d_t (fun (w2 : Int32 × Int32) => lp (fX7_raiseAt_B114 k x1 w1 (w2.1) (w2.2) d_t (fun (w3 : Dat) => chk 6 (w2.2) ((if ((w3.2 9) (w2.2).toNatClampNeg) ≤ 500 then some (1, (d_t.1, (va_up d_t.2 9 (w3.2 9)))) else some ((-1), (d_t.1, (va_up d_t.2 9 (w3.2 9)))))))) k d_t) (fun (w6 : Unit) => some (0, d_t))) k 0)) k ((-1000000), 0)
set_option maxHeartbeats 4000000 in
set_option maxRecDepth 100000 in
theorem mX7_raiseAt_B5 {l : Launch} {p : Program} {e : Env} {s : State} {m : MethodId} {args : Array Value} {below : List Frame} {meth : Method} {c : Code} {D : va_G} {cs : Nat → ClassId} {sk : Nat → Nat} {A : Nat → Prop} {Q : State → Prop} (h_t : Nat) (q_t : Nat → Nat) (k : Nat) (x1 : Int32) (d_t : Dat) {rv : Int32 × Dat}  (K66 : Int32 → Option (Int32 × Dat))
    (M : MC p s m args meth c D cs sk A RX7 cX7_raiseAt 5 (some .int)) (hA : ∀ q, s.heap.size ≤ q → A q) (hR : RetI p l e rm_X7_raiseAt s m args below meth c D cX7_raiseAt A Q (rv.1) [oX7 h_t q_t (d_t.1), ((q_t 0), .inl (cs 0, 106, .inl (d_t.2 0))), ((q_t 4), .inl (cs 0, 12, .inl (d_t.2 4))), ((q_t 5), .inl (cs 0, 12, .inl (d_t.2 5))), ((q_t 9), .inl (cs 0, 6, .inl (rv.2.2 9)))])
    (hK66 : ∀ (w : Int32), K66 w = some rv → ∀ (H : Heap) (locs : List Loc) (ls : Array Slot), va_P D vwCl [oX7 h_t q_t (d_t.1), ((q_t 0), .inl (cs 0, 106, .inl (d_t.2 0))), ((q_t 4), .inl (cs 0, 12, .inl (d_t.2 4))), ((q_t 5), .inl (cs 0, 12, .inl (d_t.2 5))), ((q_t 9), .inl (cs 0, 6, .inl (d_t.2 9)))] H → va_D A [oX7 h_t q_t (d_t.1), ((q_t 0), .inl (cs 0, 106, .inl (d_t.2 0))), ((q_t 4), .inl (cs 0, 12, .inl (d_t.2 4))), ((q_t 5), .inl (cs 0, 12, .inl (d_t.2 5))), ((q_t 9), .inl (cs 0, 6, .inl (d_t.2 9)))] → va_S A s.heap H locs → lv_has ls 5 [(0, .ref h_t), (1, .int x1), (2, .int w)] → W p l e rm_X7_raiseAt s m args below meth c H locs 0 0 Q (F0 m 66 ls []))
    : ∀ (n : Nat) (v : Int32 × Int32), lp (fX7_raiseAt_B5 k d_t K66) n v = some rv → ∀ (H : Heap) (locs : List Loc) (ls : Array Slot), va_P D vwCl [oX7 h_t q_t (d_t.1), ((q_t 0), .inl (cs 0, 106, .inl (d_t.2 0))), ((q_t 4), .inl (cs 0, 12, .inl (d_t.2 4))), ((q_t 5), .inl (cs 0, 12, .inl (d_t.2 5))), ((q_t 9), .inl (cs 0, 6, .inl (d_t.2 9)))] H → va_D A [oX7 h_t q_t (d_t.1), ((q_t 0), .inl (cs 0, 106, .inl (d_t.2 0))), ((q_t 4), .inl (cs 0, 12, .inl (d_t.2 4))), ((q_t 5), .inl (cs 0, 12, .inl (d_t.2 5))), ((q_t 9), .inl (cs 0, 6, .inl (d_t.2 9)))] → va_S A s.heap H locs → lv_has ls 5 [(0, .ref h_t), (1, .int x1), (2, .int (v.1)), (3, .int (v.2))] → W p l e rm_X7_raiseAt s m args below meth c H locs 0 0 Q (F0 m 5 ls []) := by
  obtain ⟨hx, hb, hml, hT, hown, hlk, hrt, hK, hN, hSE⟩ := id M
  refine lp_ind (fun rec ih v hf H locs ls hP hD hS hl => ?_)
  unfold fX7_raiseAt_B5 at hf
  refine lv_iload_n hx hb dX7_raiseAt_5 rfl (lv_at hl 3 rfl) ?_
  refine lv_aload_n hx hb dX7_raiseAt_6 rfl (lv_at hl 0 rfl) ?_
  refine va_get (D := D) (ci := 7) (v := .int (d_t.1 7)) (C := RX7) (T := TX7) (N := 23) hx hb hT iX7 hown hK hP 0 rfl rfl 7 (by decide) (hT _ fw_X7_139) (fun _ h9 => h9) rfl dX7_raiseAt_7 ?_
  have g2 := ite_some hf
  refine lv_icmp_ge (tgt := 66) hx hb dX7_raiseAt_10 (by decide) (fun c1 => ?_) (fun c1 => ?_)
  · replace hf := g2.1 c1
    exact hK66 _ hf _ _ _ hP hD hS (lv_sub hl [0, 1, 2] rfl)
  · replace hf := g2.2 c1
    refine lv_aload_n hx hb dX7_raiseAt_13 rfl (lv_at hl 0 rfl) ?_
    refine lv_aload_n hx hb dX7_raiseAt_14 rfl (lv_at hl 0 rfl) ?_
    refine va_get (D := D) (ci := 7) (v := .ref (q_t 4)) (C := RX7) (T := TX7) (N := 23) hx hb hT iX7 hown hK hP 0 rfl rfl 4 (by decide) (hT _ fw_X7_23) (fun _ h9 => h9) rfl dX7_raiseAt_15 ?_
    refine lv_iload_n hx hb dX7_raiseAt_18 rfl (lv_at hl 3 rfl) ?_
    obtain ⟨hi, hf⟩ := chk_some hf
    refine va_iald (D := D) hx hb hK hP 2 0 rfl rfl hi dX7_raiseAt_19 ?_
    refine lv_iconst (v := 0) hx hb dX7_raiseAt_20 rfl ?_
    obtain ⟨r3, e4, hf⟩ := bind_some hf
    refine callVi (As := [.int ((d_t.2 4) (v.2).toNatClampNeg), .int 0]) (rest := []) M (mX7_of l D cs sk h_t q_t k d_t ((d_t.2 4) (v.2).toNatClampNeg) 0 e4) mw_X7_94 ln_X7_of ⟨rfl, rfl, Nat.le_of_ble_eq_true rfl, Nat.le_of_ble_eq_true rfl⟩ hP hD hS hA [0, 1] (by decide) rfl rfl (q0 := 0) rfl rfl rfl ⟨Nat.zero_le _, Nat.zero_le _⟩ hl.1 rfl (Nat.le_of_ble_eq_true rfl) dX7_raiseAt_21 (fun H locs hP hD hS => ?_)
    replace hP : va_P D vwCl [oX7 h_t q_t (d_t.1), ((q_t 0), .inl (cs 0, 106, .inl (d_t.2 0))), ((q_t 4), .inl (cs 0, 12, .inl (d_t.2 4))), ((q_t 5), .inl (cs 0, 12, .inl (d_t.2 5))), ((q_t 9), .inl (cs 0, 6, .inl (d_t.2 9)))] H := hP
    replace hD : va_D A [oX7 h_t q_t (d_t.1), ((q_t 0), .inl (cs 0, 106, .inl (d_t.2 0))), ((q_t 4), .inl (cs 0, 12, .inl (d_t.2 4))), ((q_t 5), .inl (cs 0, 12, .inl (d_t.2 5))), ((q_t 9), .inl (cs 0, 6, .inl (d_t.2 9)))] := hD
    refine lv_aload_n hx hb dX7_raiseAt_24 rfl (lv_at hl 0 rfl) ?_
    refine va_get (D := D) (ci := 7) (v := .ref (q_t 9)) (C := RX7) (T := TX7) (N := 23) hx hb hT iX7 hown hK hP 0 rfl rfl 9 (by decide) (hT _ fw_X7_32) (fun _ h9 => h9) rfl dX7_raiseAt_25 ?_
    refine lv_aload_n hx hb dX7_raiseAt_28 rfl (lv_at hl 0 rfl) ?_
    refine va_get (D := D) (ci := 7) (v := .ref (q_t 4)) (C := RX7) (T := TX7) (N := 23) hx hb hT iX7 hown hK hP 0 rfl rfl 4 (by decide) (hT _ fw_X7_23) (fun _ h9 => h9) rfl dX7_raiseAt_29 ?_
    refine lv_iload_n hx hb dX7_raiseAt_32 rfl (lv_at hl 3 rfl) ?_
    obtain ⟨hi, hf⟩ := chk_some hf
    refine va_iald (D := D) hx hb hK hP 2 0 rfl rfl hi dX7_raiseAt_33 ?_
    obtain ⟨hi, hf⟩ := chk_some hf
    refine va_iald (D := D) hx hb hK hP 4 0 rfl rfl hi dX7_raiseAt_34 ?_
    obtain ⟨r5, e6, hf⟩ := bind_some hf
    refine callSi (As := [.int r3, .int ((d_t.2 9) ((d_t.2 4) (v.2).toNatClampNeg).toNatClampNeg)]) (rest := []) M (mX7_lateBy l D cs sk  k r3 ((d_t.2 9) ((d_t.2 4) (v.2).toNatClampNeg).toNatClampNeg) e6) mw_X7_121 ln_X7_lateBy ⟨rfl, rfl, Nat.le_of_ble_eq_true rfl, Nat.le_of_ble_eq_true rfl⟩ hP hD hS hA [] (by decide) rfl rfl ⟨Nat.zero_le _, Nat.zero_le _⟩ hl.1 rfl (Nat.le_of_ble_eq_true rfl) dX7_raiseAt_35 (fun H locs hP hD hS => ?_)
    replace hP : va_P D vwCl [oX7 h_t q_t (d_t.1), ((q_t 0), .inl (cs 0, 106, .inl (d_t.2 0))), ((q_t 4), .inl (cs 0, 12, .inl (d_t.2 4))), ((q_t 5), .inl (cs 0, 12, .inl (d_t.2 5))), ((q_t 9), .inl (cs 0, 6, .inl (d_t.2 9)))] H := hP
    replace hD : va_D A [oX7 h_t q_t (d_t.1), ((q_t 0), .inl (cs 0, 106, .inl (d_t.2 0))), ((q_t 4), .inl (cs 0, 12, .inl (d_t.2 4))), ((q_t 5), .inl (cs 0, 12, .inl (d_t.2 5))), ((q_t 9), .inl (cs 0, 6, .inl (d_t.2 9)))] := hD
    refine lv_aload_n hx hb dX7_raiseAt_38 rfl (lv_at hl 0 rfl) ?_
    refine va_get (D := D) (ci := 7) (v := .ref (q_t 5)) (C := RX7) (T := TX7) (N := 23) hx hb hT iX7 hown hK hP 0 rfl rfl 5 (by decide) (hT _ fw_X7_26) (fun _ h9 => h9) rfl dX7_raiseAt_39 ?_
    refine lv_iload_n hx hb dX7_raiseAt_42 rfl (lv_at hl 3 rfl) ?_
    obtain ⟨hi, hf⟩ := chk_some hf
    refine va_iald (D := D) hx hb hK hP 3 0 rfl rfl hi dX7_raiseAt_43 ?_
    refine lv_iadd hx hb dX7_raiseAt_44 ?_
    refine lv_istore (lv' := [(4, .int (r5 + ((d_t.2 5) (v.2).toNatClampNeg))), (0, .ref h_t), (1, .int x1), (2, .int (v.1)), (3, .int (v.2))]) hx hb dX7_raiseAt_45 hl (by decide) rfl (fun ls hl => ?_)
    refine lv_iload hx hb dX7_raiseAt_47 (lv_at hl 0 rfl) ?_
    refine lv_iload_n hx hb dX7_raiseAt_49 rfl (lv_at hl 3 rfl) ?_
    have g8 := ite_some hf
    refine lv_icmp_le (tgt := 58) hx hb dX7_raiseAt_50 (by decide) (fun c7 => ?_) (fun c7 => ?_)
    · replace hf := g8.1 c7
      refine lv_iload_n hx hb dX7_raiseAt_58 rfl (lv_at hl 3 rfl) ?_
      refine lv_istore_n (lv' := [(2, .int (v.1)), (4, .int (r5 + ((d_t.2 5) (v.2).toNatClampNeg))), (0, .ref h_t), (1, .int x1), (3, .int (v.2))]) hx hb dX7_raiseAt_59 rfl hl (by decide) rfl (fun ls hl => ?_)
      refine lv_iinc (v := ((v.2) + 1)) (lv' := [(3, .int ((v.2) + 1)), (2, .int (v.1)), (4, .int (r5 + ((d_t.2 5) (v.2).toNatClampNeg))), (0, .ref h_t), (1, .int x1)]) hx hb dX7_raiseAt_60 hl (k := 4) rfl rfl (by decide) rfl (fun ls hl => ?_)
      refine lv_goto (tgt := 5) hx hb dX7_raiseAt_63 (by decide) ?_
      exact ih _ hf _ _ _ hP hD hS (lv_sub hl [3, 4, 1, 0] rfl)
    · replace hf := g8.2 c7
      refine lv_iload hx hb dX7_raiseAt_53 (lv_at hl 0 rfl) ?_
      refine lv_goto (tgt := 59) hx hb dX7_raiseAt_55 (by decide) ?_
      refine lv_istore_n (lv' := [(2, .int (r5 + ((d_t.2 5) (v.2).toNatClampNeg))), (4, .int (r5 + ((d_t.2 5) (v.2).toNatClampNeg))), (0, .ref h_t), (1, .int x1), (3, .int (v.2))]) hx hb dX7_raiseAt_59 rfl hl (by decide) rfl (fun ls hl => ?_)
      refine lv_iinc (v := ((v.2) + 1)) (lv' := [(3, .int ((v.2) + 1)), (2, .int (r5 + ((d_t.2 5) (v.2).toNatClampNeg))), (4, .int (r5 + ((d_t.2 5) (v.2).toNatClampNeg))), (0, .ref h_t), (1, .int x1)]) hx hb dX7_raiseAt_60 hl (k := 4) rfl rfl (by decide) rfl (fun ls hl => ?_)
      refine lv_goto (tgt := 5) hx hb dX7_raiseAt_63 (by decide) ?_
      exact ih _ hf _ _ _ hP hD hS (lv_sub hl [3, 4, 1, 0] rfl)
set_option maxHeartbeats 4000000 in
set_option maxRecDepth 100000 in
theorem mX7_raiseAt_B68 {l : Launch} {p : Program} {e : Env} {s : State} {m : MethodId} {args : Array Value} {below : List Frame} {meth : Method} {c : Code} {D : va_G} {cs : Nat → ClassId} {sk : Nat → Nat} {A : Nat → Prop} {Q : State → Prop} (h_t : Nat) (q_t : Nat → Nat) (k : Nat) (x1 : Int32) (x2 : Int32) (d_t : Dat) {rv : Int32 × Dat}  (K114 : Int32 × Int32 → Option (Int32 × Dat)) (K196 : Unit → Option (Int32 × Dat))
    (M : MC p s m args meth c D cs sk A RX7 cX7_raiseAt 5 (some .int)) (hA : ∀ q, s.heap.size ≤ q → A q) (hR : RetI p l e rm_X7_raiseAt s m args below meth c D cX7_raiseAt A Q (rv.1) [oX7 h_t q_t (d_t.1), ((q_t 0), .inl (cs 0, 106, .inl (d_t.2 0))), ((q_t 4), .inl (cs 0, 12, .inl (d_t.2 4))), ((q_t 5), .inl (cs 0, 12, .inl (d_t.2 5))), ((q_t 9), .inl (cs 0, 6, .inl (rv.2.2 9)))])
    (hK114 : ∀ (w : Int32 × Int32), K114 w = some rv → ∀ (H : Heap) (locs : List Loc) (ls : Array Slot), va_P D vwCl [oX7 h_t q_t (d_t.1), ((q_t 0), .inl (cs 0, 106, .inl (d_t.2 0))), ((q_t 4), .inl (cs 0, 12, .inl (d_t.2 4))), ((q_t 5), .inl (cs 0, 12, .inl (d_t.2 5))), ((q_t 9), .inl (cs 0, 6, .inl (d_t.2 9)))] H → va_D A [oX7 h_t q_t (d_t.1), ((q_t 0), .inl (cs 0, 106, .inl (d_t.2 0))), ((q_t 4), .inl (cs 0, 12, .inl (d_t.2 4))), ((q_t 5), .inl (cs 0, 12, .inl (d_t.2 5))), ((q_t 9), .inl (cs 0, 6, .inl (d_t.2 9)))] → va_S A s.heap H locs → lv_has ls 5 [(0, .ref h_t), (1, .int x1), (2, .int x2), (3, .int (w.1)), (4, .int (w.2))] → W p l e rm_X7_raiseAt s m args below meth c H locs 0 0 Q (F0 m 114 ls []))
    (hK196 : ∀ (w : Unit), K196 w = some rv → ∀ (H : Heap) (locs : List Loc) (ls : Array Slot), va_P D vwCl [oX7 h_t q_t (d_t.1), ((q_t 0), .inl (cs 0, 106, .inl (d_t.2 0))), ((q_t 4), .inl (cs 0, 12, .inl (d_t.2 4))), ((q_t 5), .inl (cs 0, 12, .inl (d_t.2 5))), ((q_t 9), .inl (cs 0, 6, .inl (d_t.2 9)))] H → va_D A [oX7 h_t q_t (d_t.1), ((q_t 0), .inl (cs 0, 106, .inl (d_t.2 0))), ((q_t 4), .inl (cs 0, 12, .inl (d_t.2 4))), ((q_t 5), .inl (cs 0, 12, .inl (d_t.2 5))), ((q_t 9), .inl (cs 0, 6, .inl (d_t.2 9)))] → va_S A s.heap H locs → lv_has ls 5 [] → W p l e rm_X7_raiseAt s m args below meth c H locs 0 0 Q (F0 m 196 ls []))
    : ∀ (n : Nat) (v : Int32), lp (fX7_raiseAt_B68 k x1 x2 d_t K114 K196) n v = some rv → ∀ (H : Heap) (locs : List Loc) (ls : Array Slot), va_P D vwCl [oX7 h_t q_t (d_t.1), ((q_t 0), .inl (cs 0, 106, .inl (d_t.2 0))), ((q_t 4), .inl (cs 0, 12, .inl (d_t.2 4))), ((q_t 5), .inl (cs 0, 12, .inl (d_t.2 5))), ((q_t 9), .inl (cs 0, 6, .inl (d_t.2 9)))] H → va_D A [oX7 h_t q_t (d_t.1), ((q_t 0), .inl (cs 0, 106, .inl (d_t.2 0))), ((q_t 4), .inl (cs 0, 12, .inl (d_t.2 4))), ((q_t 5), .inl (cs 0, 12, .inl (d_t.2 5))), ((q_t 9), .inl (cs 0, 6, .inl (d_t.2 9)))] → va_S A s.heap H locs → lv_has ls 5 [(0, .ref h_t), (1, .int x1), (2, .int x2), (3, .int v)] → W p l e rm_X7_raiseAt s m args below meth c H locs 0 0 Q (F0 m 68 ls []) := by
  obtain ⟨hx, hb, hml, hT, hown, hlk, hrt, hK, hN, hSE⟩ := id M
  refine lp_ind (fun rec ih v hf H locs ls hP hD hS hl => ?_)
  unfold fX7_raiseAt_B68 at hf
  refine lv_iload_n hx hb dX7_raiseAt_68 rfl (lv_at hl 3 rfl) ?_
  refine lv_aload_n hx hb dX7_raiseAt_69 rfl (lv_at hl 0 rfl) ?_
  refine va_get (D := D) (ci := 7) (v := .int (d_t.1 7)) (C := RX7) (T := TX7) (N := 23) hx hb hT iX7 hown hK hP 0 rfl rfl 7 (by decide) (hT _ fw_X7_139) (fun _ h9 => h9) rfl dX7_raiseAt_70 ?_
  have g2 := ite_some hf
  refine lv_icmp_ge (tgt := 196) hx hb dX7_raiseAt_73 (by decide) (fun c1 => ?_) (fun c1 => ?_)
  · replace hf := g2.1 c1
    exact hK196 _ hf _ _ _ hP hD hS (lv_sub hl [] rfl)
  · replace hf := g2.2 c1
    refine lv_aload_n hx hb dX7_raiseAt_76 rfl (lv_at hl 0 rfl) ?_
    refine va_get (D := D) (ci := 7) (v := .ref (q_t 4)) (C := RX7) (T := TX7) (N := 23) hx hb hT iX7 hown hK hP 0 rfl rfl 4 (by decide) (hT _ fw_X7_23) (fun _ h9 => h9) rfl dX7_raiseAt_77 ?_
    refine lv_iload_n hx hb dX7_raiseAt_80 rfl (lv_at hl 3 rfl) ?_
    obtain ⟨hi, hf⟩ := chk_some hf
    refine va_iald (D := D) hx hb hK hP 2 0 rfl rfl hi dX7_raiseAt_81 ?_
    refine lv_istore (lv' := [(4, .int ((d_t.2 4) v.toNatClampNeg)), (0, .ref h_t), (1, .int x1), (2, .int x2), (3, .int v)]) hx hb dX7_raiseAt_82 hl (by decide) rfl (fun ls hl => ?_)
    refine lv_aload_n hx hb dX7_raiseAt_84 rfl (lv_at hl 1 rfl) ?_
    refine lv_iload hx hb dX7_raiseAt_85 (lv_at hl 0 rfl) ?_
    refine lv_iconst (v := 0) hx hb dX7_raiseAt_87 rfl ?_
    obtain ⟨r3, e4, hf⟩ := bind_some hf
    refine callVi (As := [.int ((d_t.2 4) v.toNatClampNeg), .int 0]) (rest := []) M (mX7_of l D cs sk h_t q_t k d_t ((d_t.2 4) v.toNatClampNeg) 0 e4) mw_X7_94 ln_X7_of ⟨rfl, rfl, Nat.le_of_ble_eq_true rfl, Nat.le_of_ble_eq_true rfl⟩ hP hD hS hA [0, 1] (by decide) rfl rfl (q0 := 0) rfl rfl rfl ⟨Nat.zero_le _, Nat.zero_le _⟩ hl.1 rfl (Nat.le_of_ble_eq_true rfl) dX7_raiseAt_88 (fun H locs hP hD hS => ?_)
    replace hP : va_P D vwCl [oX7 h_t q_t (d_t.1), ((q_t 0), .inl (cs 0, 106, .inl (d_t.2 0))), ((q_t 4), .inl (cs 0, 12, .inl (d_t.2 4))), ((q_t 5), .inl (cs 0, 12, .inl (d_t.2 5))), ((q_t 9), .inl (cs 0, 6, .inl (d_t.2 9)))] H := hP
    replace hD : va_D A [oX7 h_t q_t (d_t.1), ((q_t 0), .inl (cs 0, 106, .inl (d_t.2 0))), ((q_t 4), .inl (cs 0, 12, .inl (d_t.2 4))), ((q_t 5), .inl (cs 0, 12, .inl (d_t.2 5))), ((q_t 9), .inl (cs 0, 6, .inl (d_t.2 9)))] := hD
    refine lv_aload_n hx hb dX7_raiseAt_91 rfl (lv_at hl 1 rfl) ?_
    refine va_get (D := D) (ci := 7) (v := .ref (q_t 9)) (C := RX7) (T := TX7) (N := 23) hx hb hT iX7 hown hK hP 0 rfl rfl 9 (by decide) (hT _ fw_X7_32) (fun _ h9 => h9) rfl dX7_raiseAt_92 ?_
    refine lv_iload hx hb dX7_raiseAt_95 (lv_at hl 0 rfl) ?_
    obtain ⟨hi, hf⟩ := chk_some hf
    refine va_iald (D := D) hx hb hK hP 4 0 rfl rfl hi dX7_raiseAt_97 ?_
    obtain ⟨r5, e6, hf⟩ := bind_some hf
    refine callSi (As := [.int r3, .int ((d_t.2 9) ((d_t.2 4) v.toNatClampNeg).toNatClampNeg)]) (rest := []) M (mX7_lateBy l D cs sk  k r3 ((d_t.2 9) ((d_t.2 4) v.toNatClampNeg).toNatClampNeg) e6) mw_X7_121 ln_X7_lateBy ⟨rfl, rfl, Nat.le_of_ble_eq_true rfl, Nat.le_of_ble_eq_true rfl⟩ hP hD hS hA [] (by decide) rfl rfl ⟨Nat.zero_le _, Nat.zero_le _⟩ hl.1 rfl (Nat.le_of_ble_eq_true rfl) dX7_raiseAt_98 (fun H locs hP hD hS => ?_)
    replace hP : va_P D vwCl [oX7 h_t q_t (d_t.1), ((q_t 0), .inl (cs 0, 106, .inl (d_t.2 0))), ((q_t 4), .inl (cs 0, 12, .inl (d_t.2 4))), ((q_t 5), .inl (cs 0, 12, .inl (d_t.2 5))), ((q_t 9), .inl (cs 0, 6, .inl (d_t.2 9)))] H := hP
    replace hD : va_D A [oX7 h_t q_t (d_t.1), ((q_t 0), .inl (cs 0, 106, .inl (d_t.2 0))), ((q_t 4), .inl (cs 0, 12, .inl (d_t.2 4))), ((q_t 5), .inl (cs 0, 12, .inl (d_t.2 5))), ((q_t 9), .inl (cs 0, 6, .inl (d_t.2 9)))] := hD
    refine lv_aload_n hx hb dX7_raiseAt_101 rfl (lv_at hl 1 rfl) ?_
    refine va_get (D := D) (ci := 7) (v := .ref (q_t 5)) (C := RX7) (T := TX7) (N := 23) hx hb hT iX7 hown hK hP 0 rfl rfl 5 (by decide) (hT _ fw_X7_26) (fun _ h9 => h9) rfl dX7_raiseAt_102 ?_
    refine lv_iload_n hx hb dX7_raiseAt_105 rfl (lv_at hl 4 rfl) ?_
    obtain ⟨hi, hf⟩ := chk_some hf
    refine va_iald (D := D) hx hb hK hP 3 0 rfl rfl hi dX7_raiseAt_106 ?_
    refine lv_iadd hx hb dX7_raiseAt_107 ?_
    refine lv_iload_n hx hb dX7_raiseAt_108 rfl (lv_at hl 3 rfl) ?_
    refine lv_iload_n hx hb dX7_raiseAt_109 rfl (lv_at hl 2 rfl) ?_
    refine lv_isub hx hb dX7_raiseAt_110 ?_
    have g8 := ite_some hf
    refine lv_icmp_ge (tgt := 190) hx hb dX7_raiseAt_111 (by decide) (fun c7 => ?_) (fun c7 => ?_)
    · replace hf := g8.1 c7
      refine lv_iinc (v := (v + 1)) (lv' := [(3, .int (v + 1)), (4, .int ((d_t.2 4) v.toNatClampNeg)), (0, .ref h_t), (1, .int x1), (2, .int x2)]) hx hb dX7_raiseAt_190 hl (k := 4) rfl rfl (by decide) rfl (fun ls hl => ?_)
      refine lv_goto (tgt := 68) hx hb dX7_raiseAt_193 (by decide) ?_
      exact ih _ hf _ _ _ hP hD hS (lv_sub hl [2, 3, 4, 0] rfl)
    · replace hf := g8.2 c7
      exact hK114 _ hf _ _ _ hP hD hS (lv_sub hl [1, 2, 3, 4, 0] rfl)
set_option maxHeartbeats 4000000 in
set_option maxRecDepth 100000 in
theorem mX7_raiseAt_B114 {l : Launch} {p : Program} {e : Env} {s : State} {m : MethodId} {args : Array Value} {below : List Frame} {meth : Method} {c : Code} {D : va_G} {cs : Nat → ClassId} {sk : Nat → Nat} {A : Nat → Prop} {Q : State → Prop} (h_t : Nat) (q_t : Nat → Nat) (k : Nat) (x1 : Int32) (x2 : Int32) (x3 : Int32) (x4 : Int32) (d_t : Dat) {rv : Int32 × Dat}  (K171 : Dat → Option (Int32 × Dat))
    (M : MC p s m args meth c D cs sk A RX7 cX7_raiseAt 5 (some .int)) (hA : ∀ q, s.heap.size ≤ q → A q) (hR : RetI p l e rm_X7_raiseAt s m args below meth c D cX7_raiseAt A Q (rv.1) [oX7 h_t q_t (d_t.1), ((q_t 0), .inl (cs 0, 106, .inl (d_t.2 0))), ((q_t 4), .inl (cs 0, 12, .inl (d_t.2 4))), ((q_t 5), .inl (cs 0, 12, .inl (d_t.2 5))), ((q_t 9), .inl (cs 0, 6, .inl (rv.2.2 9)))])
    (hK171 : ∀ (w : Dat), K171 w = some rv → ∀ (H : Heap) (locs : List Loc) (ls : Array Slot), va_P D vwCl [oX7 h_t q_t (d_t.1), ((q_t 0), .inl (cs 0, 106, .inl (d_t.2 0))), ((q_t 4), .inl (cs 0, 12, .inl (d_t.2 4))), ((q_t 5), .inl (cs 0, 12, .inl (d_t.2 5))), ((q_t 9), .inl (cs 0, 6, .inl (w.2 9)))] H → va_D A [oX7 h_t q_t (d_t.1), ((q_t 0), .inl (cs 0, 106, .inl (d_t.2 0))), ((q_t 4), .inl (cs 0, 12, .inl (d_t.2 4))), ((q_t 5), .inl (cs 0, 12, .inl (d_t.2 5))), ((q_t 9), .inl (cs 0, 6, .inl (w.2 9)))] → va_S A s.heap H locs → lv_has ls 5 [(0, .ref h_t), (4, .int x4)] → W p l e rm_X7_raiseAt s m args below meth c H locs 0 0 Q (F0 m 171 ls []))
    : ∀ (n : Nat) (v : Dat), lp (fX7_raiseAt_B114 k x1 x2 x3 x4 d_t K171) n v = some rv → ∀ (H : Heap) (locs : List Loc) (ls : Array Slot), va_P D vwCl [oX7 h_t q_t (d_t.1), ((q_t 0), .inl (cs 0, 106, .inl (d_t.2 0))), ((q_t 4), .inl (cs 0, 12, .inl (d_t.2 4))), ((q_t 5), .inl (cs 0, 12, .inl (d_t.2 5))), ((q_t 9), .inl (cs 0, 6, .inl (v.2 9)))] H → va_D A [oX7 h_t q_t (d_t.1), ((q_t 0), .inl (cs 0, 106, .inl (d_t.2 0))), ((q_t 4), .inl (cs 0, 12, .inl (d_t.2 4))), ((q_t 5), .inl (cs 0, 12, .inl (d_t.2 5))), ((q_t 9), .inl (cs 0, 6, .inl (v.2 9)))] → va_S A s.heap H locs → lv_has ls 5 [(0, .ref h_t), (1, .int x1), (2, .int x2), (3, .int x3), (4, .int x4)] → W p l e rm_X7_raiseAt s m args below meth c H locs 0 0 Q (F0 m 114 ls []) := by
  obtain ⟨hx, hb, hml, hT, hown, hlk, hrt, hK, hN, hSE⟩ := id M
  refine lp_ind (fun rec ih v hf H locs ls hP hD hS hl => ?_)
  unfold fX7_raiseAt_B114 at hf
  refine lv_aload_n hx hb dX7_raiseAt_114 rfl (lv_at hl 0 rfl) ?_
  refine va_get (D := D) (ci := 7) (v := .ref (q_t 9)) (C := RX7) (T := TX7) (N := 23) hx hb hT iX7 hown hK hP 0 rfl rfl 9 (by decide) (hT _ fw_X7_32) (fun _ h9 => h9) rfl dX7_raiseAt_115 ?_
  refine lv_iload hx hb dX7_raiseAt_118 (lv_at hl 4 rfl) ?_
  obtain ⟨hi, hf⟩ := chk_some hf
  refine va_iald (D := D) hx hb hK hP 4 0 rfl rfl hi dX7_raiseAt_120 ?_
  refine lv_sipush (v := 500) hx hb dX7_raiseAt_121 rfl ?_
  have g2 := ite_some hf
  refine lv_icmp_gt (tgt := 171) hx hb dX7_raiseAt_124 (by decide) (fun c1 => ?_) (fun c1 => ?_)
  · replace hf := g2.1 c1
    exact hK171 _ hf _ _ _ hP hD hS (lv_sub hl [0, 4] rfl)
  · replace hf := g2.2 c1
    refine lv_aload_n hx hb dX7_raiseAt_127 rfl (lv_at hl 0 rfl) ?_
    refine lv_iload hx hb dX7_raiseAt_128 (lv_at hl 4 rfl) ?_
    refine lv_iconst (v := 0) hx hb dX7_raiseAt_130 rfl ?_
    obtain ⟨r3, e4, hf⟩ := bind_some hf
    refine callVi (As := [.int x4, .int 0]) (rest := []) M (mX7_of l D cs sk h_t q_t k (d_t.1, (va_up d_t.2 9 (v.2 9))) x4 0 e4) mw_X7_94 ln_X7_of ⟨rfl, rfl, Nat.le_of_ble_eq_true rfl, Nat.le_of_ble_eq_true rfl⟩ hP hD hS hA [0, 1] (by decide) rfl rfl (q0 := 0) rfl rfl rfl ⟨Nat.zero_le _, Nat.zero_le _⟩ hl.1 rfl (Nat.le_of_ble_eq_true rfl) dX7_raiseAt_131 (fun H locs hP hD hS => ?_)
    replace hP : va_P D vwCl [oX7 h_t q_t (d_t.1), ((q_t 0), .inl (cs 0, 106, .inl (d_t.2 0))), ((q_t 4), .inl (cs 0, 12, .inl (d_t.2 4))), ((q_t 5), .inl (cs 0, 12, .inl (d_t.2 5))), ((q_t 9), .inl (cs 0, 6, .inl (v.2 9)))] H := hP
    replace hD : va_D A [oX7 h_t q_t (d_t.1), ((q_t 0), .inl (cs 0, 106, .inl (d_t.2 0))), ((q_t 4), .inl (cs 0, 12, .inl (d_t.2 4))), ((q_t 5), .inl (cs 0, 12, .inl (d_t.2 5))), ((q_t 9), .inl (cs 0, 6, .inl (v.2 9)))] := hD
    refine lv_aload_n hx hb dX7_raiseAt_134 rfl (lv_at hl 0 rfl) ?_
    refine va_get (D := D) (ci := 7) (v := .ref (q_t 9)) (C := RX7) (T := TX7) (N := 23) hx hb hT iX7 hown hK hP 0 rfl rfl 9 (by decide) (hT _ fw_X7_32) (fun _ h9 => h9) rfl dX7_raiseAt_135 ?_
    refine lv_iload hx hb dX7_raiseAt_138 (lv_at hl 4 rfl) ?_
    obtain ⟨hi, hf⟩ := chk_some hf
    refine va_iald (D := D) hx hb hK hP 4 0 rfl rfl hi dX7_raiseAt_140 ?_
    obtain ⟨r5, e6, hf⟩ := bind_some hf
    refine callSi (As := [.int r3, .int ((v.2 9) x4.toNatClampNeg)]) (rest := []) M (mX7_lateBy l D cs sk  k r3 ((v.2 9) x4.toNatClampNeg) e6) mw_X7_121 ln_X7_lateBy ⟨rfl, rfl, Nat.le_of_ble_eq_true rfl, Nat.le_of_ble_eq_true rfl⟩ hP hD hS hA [] (by decide) rfl rfl ⟨Nat.zero_le _, Nat.zero_le _⟩ hl.1 rfl (Nat.le_of_ble_eq_true rfl) dX7_raiseAt_141 (fun H locs hP hD hS => ?_)
    replace hP : va_P D vwCl [oX7 h_t q_t (d_t.1), ((q_t 0), .inl (cs 0, 106, .inl (d_t.2 0))), ((q_t 4), .inl (cs 0, 12, .inl (d_t.2 4))), ((q_t 5), .inl (cs 0, 12, .inl (d_t.2 5))), ((q_t 9), .inl (cs 0, 6, .inl (v.2 9)))] H := hP
    replace hD : va_D A [oX7 h_t q_t (d_t.1), ((q_t 0), .inl (cs 0, 106, .inl (d_t.2 0))), ((q_t 4), .inl (cs 0, 12, .inl (d_t.2 4))), ((q_t 5), .inl (cs 0, 12, .inl (d_t.2 5))), ((q_t 9), .inl (cs 0, 6, .inl (v.2 9)))] := hD
    refine lv_aload_n hx hb dX7_raiseAt_144 rfl (lv_at hl 0 rfl) ?_
    refine va_get (D := D) (ci := 7) (v := .ref (q_t 5)) (C := RX7) (T := TX7) (N := 23) hx hb hT iX7 hown hK hP 0 rfl rfl 5 (by decide) (hT _ fw_X7_26) (fun _ h9 => h9) rfl dX7_raiseAt_145 ?_
    refine lv_iload_n hx hb dX7_raiseAt_148 rfl (lv_at hl 3 rfl) ?_
    obtain ⟨hi, hf⟩ := chk_some hf
    refine va_iald (D := D) hx hb hK hP 3 0 rfl rfl hi dX7_raiseAt_149 ?_
    refine lv_iadd hx hb dX7_raiseAt_150 ?_
    refine lv_iload_n hx hb dX7_raiseAt_151 rfl (lv_at hl 2 rfl) ?_
    refine lv_iload_n hx hb dX7_raiseAt_152 rfl (lv_at hl 1 rfl) ?_
    refine lv_isub hx hb dX7_raiseAt_153 ?_
    have g8 := ite_some hf
    refine lv_icmp_ge (tgt := 171) hx hb dX7_raiseAt_154 (by decide) (fun c7 => ?_) (fun c7 => ?_)
    · replace hf := g8.1 c7
      exact hK171 _ hf _ _ _ hP hD hS (lv_sub hl [0, 4] rfl)
    · replace hf := g8.2 c7
      refine lv_aload_n hx hb dX7_raiseAt_157 rfl (lv_at hl 0 rfl) ?_
      refine va_get (D := D) (ci := 7) (v := .ref (q_t 9)) (C := RX7) (T := TX7) (N := 23) hx hb hT iX7 hown hK hP 0 rfl rfl 9 (by decide) (hT _ fw_X7_32) (fun _ h9 => h9) rfl dX7_raiseAt_158 ?_
      refine lv_iload hx hb dX7_raiseAt_161 (lv_at hl 4 rfl) ?_
      refine lv_dup2_11 hx hb dX7_raiseAt_163 rfl rfl ?_
      obtain ⟨hi, hf⟩ := chk_some hf
      refine va_iald (D := D) hx hb hK hP 4 0 rfl rfl hi dX7_raiseAt_164 ?_
      refine lv_iconst (v := 1) hx hb dX7_raiseAt_165 rfl ?_
      refine lv_iadd hx hb dX7_raiseAt_166 ?_
      obtain ⟨hi, hf⟩ := chk_some hf
      refine va_iast (D := D) hx hb hK hP hD hS 4 0 rfl rfl hi dX7_raiseAt_167 (fun H locs hP hD hS => ?_)
      replace hP : va_P D vwCl [oX7 h_t q_t (d_t.1), ((q_t 0), .inl (cs 0, 106, .inl (d_t.2 0))), ((q_t 4), .inl (cs 0, 12, .inl (d_t.2 4))), ((q_t 5), .inl (cs 0, 12, .inl (d_t.2 5))), ((q_t 9), .inl (cs 0, 6, .inl (upd (v.2 9) x4.toNatClampNeg (((v.2 9) x4.toNatClampNeg) + 1))))] H := hP
      replace hD : va_D A [oX7 h_t q_t (d_t.1), ((q_t 0), .inl (cs 0, 106, .inl (d_t.2 0))), ((q_t 4), .inl (cs 0, 12, .inl (d_t.2 4))), ((q_t 5), .inl (cs 0, 12, .inl (d_t.2 5))), ((q_t 9), .inl (cs 0, 6, .inl (upd (v.2 9) x4.toNatClampNeg (((v.2 9) x4.toNatClampNeg) + 1))))] := hD
      refine lv_goto (tgt := 114) hx hb dX7_raiseAt_168 (by decide) ?_
      exact ih _ hf _ _ _ hP hD hS (lv_sub hl [0, 1, 2, 3, 4] rfl)
set_option maxHeartbeats 4000000 in
set_option maxRecDepth 100000 in
theorem mX7_raiseAt (l : Launch) (D : va_G) (cs : Nat → ClassId) (sk : Nat → Nat) (h_t : Nat) (q_t : Nat → Nat) (k : Nat) (d_t : Dat) (x1 : Int32) {rv : Int32 × Dat} (hf : fX7_raiseAt k d_t x1 = some rv) : CTi l yX7_raiseAt (Cond.code yX7_raiseAt cX7_raiseAt 5 (some .int) :: gtbl) rm_X7_raiseAt D cs sk [.ref h_t, .int x1] [oX7 h_t q_t (d_t.1), ((q_t 0), .inl (cs 0, 106, .inl (d_t.2 0))), ((q_t 4), .inl (cs 0, 12, .inl (d_t.2 4))), ((q_t 5), .inl (cs 0, 12, .inl (d_t.2 5))), ((q_t 9), .inl (cs 0, 6, .inl (d_t.2 9)))] (rv.1) [oX7 h_t q_t (d_t.1), ((q_t 0), .inl (cs 0, 106, .inl (d_t.2 0))), ((q_t 4), .inl (cs 0, 12, .inl (d_t.2 4))), ((q_t 5), .inl (cs 0, 12, .inl (d_t.2 5))), ((q_t 9), .inl (cs 0, 6, .inl (rv.2.2 9)))] := by
  refine CTi.of RX7 (by decide +kernel) rfl (Nat.le_of_ble_eq_true rfl) (fun p e s m args below meth c A Q ls M hA hR hl hP hD hS => ?_)
  obtain ⟨hx, hb, hml, hT, hown, hlk, hrt, hK, hN, hSE⟩ := id M
  replace hl : lv_has ls 5 [(0, .ref h_t), (1, .int x1)] := hl
  unfold fX7_raiseAt at hf
  refine lv_ldc (v := (-1000000)) hx hb hown (hT _ kw_X7_166) dX7_raiseAt_0 ?_
  refine lv_istore_n (lv' := [(2, .int (-1000000)), (0, .ref h_t), (1, .int x1)]) hx hb dX7_raiseAt_2 rfl hl (by decide) rfl (fun ls hl => ?_)
  refine lv_iconst (v := 0) hx hb dX7_raiseAt_3 rfl ?_
  refine lv_istore_n (lv' := [(3, .int 0), (2, .int (-1000000)), (0, .ref h_t), (1, .int x1)]) hx hb dX7_raiseAt_4 rfl hl (by decide) rfl (fun ls hl => ?_)
  refine mX7_raiseAt_B5 h_t q_t k x1 d_t _ M hA hR (fun w1 hf H locs ls hP hD hS hl => ?_) _ _ hf _ _ _ hP hD hS (lv_sub hl [2, 3, 1, 0] rfl)
  · refine lv_iconst (v := 0) hx hb dX7_raiseAt_66 rfl ?_
    refine lv_istore_n (lv' := [(3, .int 0), (0, .ref h_t), (1, .int x1), (2, .int w1)]) hx hb dX7_raiseAt_67 rfl hl (by decide) rfl (fun ls hl => ?_)
    refine mX7_raiseAt_B68 h_t q_t k x1 w1 d_t _ _ M hA hR (fun w2 hf H locs ls hP hD hS hl => ?_) (fun w6 hf H locs ls hP hD hS hl => ?_) _ _ hf _ _ _ hP hD hS (lv_sub hl [1, 2, 3, 0] rfl)
    · refine mX7_raiseAt_B114 h_t q_t k x1 w1 (w2.1) (w2.2) d_t _ M hA hR (fun w3 hf H locs ls hP hD hS hl => ?_) _ _ hf _ _ _ hP hD hS (lv_sub hl [0, 1, 2, 3, 4] rfl)
      · refine lv_aload_n hx hb dX7_raiseAt_171 rfl (lv_at hl 0 rfl) ?_
        refine va_get (D := D) (ci := 7) (v := .ref (q_t 9)) (C := RX7) (T := TX7) (N := 23) hx hb hT iX7 hown hK hP 0 rfl rfl 9 (by decide) (hT _ fw_X7_32) (fun _ h9 => h9) rfl dX7_raiseAt_172 ?_
        refine lv_iload hx hb dX7_raiseAt_175 (lv_at hl 1 rfl) ?_
        obtain ⟨hi, hf⟩ := chk_some hf
        refine va_iald (D := D) hx hb hK hP 4 0 rfl rfl hi dX7_raiseAt_177 ?_
        refine lv_sipush (v := 500) hx hb dX7_raiseAt_178 rfl ?_
        have g5 := ite_some hf
        refine lv_icmp_le (tgt := 188) hx hb dX7_raiseAt_181 (by decide) (fun c4 => ?_) (fun c4 => ?_)
        · replace hf := g5.1 c4
          refine lv_iconst (v := 1) hx hb dX7_raiseAt_188 rfl ?_
          have e9 := Option.some.inj hf
          subst e9
          exact hR _ _ _ _ dX7_raiseAt_189 hP hS
        · replace hf := g5.2 c4
          refine lv_iconst (v := (-1)) hx hb dX7_raiseAt_184 rfl ?_
          refine lv_goto (tgt := 189) hx hb dX7_raiseAt_185 (by decide) ?_
          have e9 := Option.some.inj hf
          subst e9
          exact hR _ _ _ _ dX7_raiseAt_189 hP hS
    · refine lv_iconst (v := 0) hx hb dX7_raiseAt_196 rfl ?_
      have e9 := Option.some.inj hf
      subst e9
      exact hR _ _ _ _ dX7_raiseAt_197 hP hS
abbrev rm_X7_canTune : Room := { frames := 5, cells := 0, slots := 0, locals := 115 }
def fX7_canTune_B2 (k : Nat) (d_t : Dat) (K23 : Dat → Option (Int32 × Dat)) (rec : Int32 × Dat → Option (Int32 × Dat)) (v : Int32 × Dat) : Option (Int32 × Dat) :=
  (if 6 ≤ (v.1) then K23 (d_t.1, (va_up d_t.2 9 (v.2.2 9))) else chk 6 (v.1) (rec (((v.1) + 1), (d_t.1, (va_up d_t.2 9 (upd (v.2.2 9) (v.1).toNatClampNeg (-500)))))))
def fX7_canTune_B34 (k : Nat) (x1 : Int32) (d_t : Dat) (K63 : Int32 × Dat → Option (Int32 × Dat)) (rec : Int32 × Int32 × Dat → Option (Int32 × Dat)) (v : Int32 × Int32 × Dat) : Option (Int32 × Dat) :=
  (fX7_ears k (v.2.2.1, (va_up (va_up (va_up (va_up d_t.2 4 (v.2.2.2 4)) 5 (v.2.2.2 5)) 6 (v.2.2.2 6)) 9 (v.2.2.2 9)))).bind (fun (r1 : Int32) => (if r1 ≤ (v.2.1) then K63 ((v.1), (v.2.2.1, (va_up (va_up (va_up (va_up d_t.2 4 (v.2.2.2 4)) 5 (v.2.2.2 5)) 6 (v.2.2.2 6)) 9 (v.2.2.2 9)))) else (if (v.1) = 0 then (fX7_layAll k (v.2.2.1, (va_up (va_up (va_up (va_up d_t.2 4 (v.2.2.2 4)) 5 (v.2.2.2 5)) 6 (v.2.2.2 6)) 9 (v.2.2.2 9))) (v.2.1)).bind (fun (r7 : Dat) => (fX7_raiseAt k (r7.1, (va_up (va_up (va_up (va_up d_t.2 4 (r7.2 4)) 5 (r7.2 5)) 6 (r7.2 6)) 9 (v.2.2.2 9))) x1).bind (fun (r9 : Int32 × Dat) => rec ((r9.1), ((v.2.1) + 1), (r7.1, (va_up (va_up (va_up (va_up d_t.2 4 (r7.2 4)) 5 (r7.2 5)) 6 (r7.2 6)) 9 (r9.2.2 9)))))) else K63 ((v.1), (v.2.2.1, (va_up (va_up (va_up (va_up d_t.2 4 (v.2.2.2 4)) 5 (v.2.2.2 5)) 6 (v.2.2.2 6)) 9 (v.2.2.2 9)))))))
def fX7_canTune_B25 (k : Nat) (x1 : Int32) (d_t : Dat) (K66 : Int32 × Dat → Option (Int32 × Dat)) (rec : Int32 × Dat → Option (Int32 × Dat)) (v : Int32 × Dat) : Option (Int32 × Dat) :=
  (if (v.1) = 1 then lp (fX7_canTune_B34 k x1 (v.2.1, (va_up (va_up (va_up (va_up d_t.2 4 (v.2.2 4)) 5 (v.2.2 5)) 6 (v.2.2 6)) 9 (v.2.2 9))) (fun (w3 : Int32 × Dat) => rec ((w3.1), (w3.2.1, (va_up (va_up (va_up (va_up d_t.2 4 (w3.2.2 4)) 5 (w3.2.2 5)) 6 (w3.2.2 6)) 9 (w3.2.2 9)))))) k (0, 0, (v.2.1, (va_up (va_up (va_up (va_up d_t.2 4 (v.2.2 4)) 5 (v.2.2 5)) 6 (v.2.2 6)) 9 (v.2.2 9)))) else K66 ((v.1), (v.2.1, (va_up (va_up (va_up (va_up d_t.2 4 (v.2.2 4)) 5 (v.2.2 5)) 6 (v.2.2 6)) 9 (v.2.2 9)))))
def fX7_canTune (k : Nat) (d_t : Dat) (x1 : Int32) : Option (Int32 × Dat) :=
  lp (fX7_canTune_B2 k d_t (fun (w1 : Dat) => lp (fX7_canTune_B25 k x1 (d_t.1, (va_up d_t.2 9 (w1.2 9))) (fun (w2 : Int32 × Dat) => (if (w2.1) = 0 then some (1, (w2.2.1, (va_up (va_up (va_up (va_up d_t.2 4 (w2.2.2 4)) 5 (w2.2.2 5)) 6 (w2.2.2 6)) 9 (w2.2.2 9)))) else some (0, (w2.2.1, (va_up (va_up (va_up (va_up d_t.2 4 (w2.2.2 4)) 5 (w2.2.2 5)) 6 (w2.2.2 6)) 9 (w2.2.2 9))))))) k (1, (d_t.1, (va_up d_t.2 9 (w1.2 9)))))) k (0, d_t)
set_option maxHeartbeats 4000000 in
set_option maxRecDepth 100000 in
theorem mX7_canTune_B2 {l : Launch} {p : Program} {e : Env} {s : State} {m : MethodId} {args : Array Value} {below : List Frame} {meth : Method} {c : Code} {D : va_G} {cs : Nat → ClassId} {sk : Nat → Nat} {A : Nat → Prop} {Q : State → Prop} (h_t : Nat) (q_t : Nat → Nat) (k : Nat) (x1 : Int32) (d_t : Dat) {rv : Int32 × Dat}  (K23 : Dat → Option (Int32 × Dat))
    (M : MC p s m args meth c D cs sk A RX7 cX7_canTune 4 (some .boolean)) (hA : ∀ q, s.heap.size ≤ q → A q) (hR : RetZ p l e rm_X7_canTune s m args below meth c D cX7_canTune A Q (rv.1) [oX7 h_t q_t (rv.2.1), ((q_t 0), .inl (cs 0, 106, .inl (d_t.2 0))), ((q_t 4), .inl (cs 0, 12, .inl (rv.2.2 4))), ((q_t 5), .inl (cs 0, 12, .inl (rv.2.2 5))), ((q_t 6), .inl (cs 0, 12, .inl (rv.2.2 6))), ((q_t 9), .inl (cs 0, 6, .inl (rv.2.2 9)))])
    (hK23 : ∀ (w : Dat), K23 w = some rv → ∀ (H : Heap) (locs : List Loc) (ls : Array Slot), va_P D vwCl [oX7 h_t q_t (d_t.1), ((q_t 0), .inl (cs 0, 106, .inl (d_t.2 0))), ((q_t 4), .inl (cs 0, 12, .inl (d_t.2 4))), ((q_t 5), .inl (cs 0, 12, .inl (d_t.2 5))), ((q_t 6), .inl (cs 0, 12, .inl (d_t.2 6))), ((q_t 9), .inl (cs 0, 6, .inl (w.2 9)))] H → va_D A [oX7 h_t q_t (d_t.1), ((q_t 0), .inl (cs 0, 106, .inl (d_t.2 0))), ((q_t 4), .inl (cs 0, 12, .inl (d_t.2 4))), ((q_t 5), .inl (cs 0, 12, .inl (d_t.2 5))), ((q_t 6), .inl (cs 0, 12, .inl (d_t.2 6))), ((q_t 9), .inl (cs 0, 6, .inl (w.2 9)))] → va_S A s.heap H locs → lv_has ls 4 [(0, .ref h_t), (1, .int x1)] → W p l e rm_X7_canTune s m args below meth c H locs 0 0 Q (F0 m 23 ls []))
    : ∀ (n : Nat) (v : Int32 × Dat), lp (fX7_canTune_B2 k d_t K23) n v = some rv → ∀ (H : Heap) (locs : List Loc) (ls : Array Slot), va_P D vwCl [oX7 h_t q_t (d_t.1), ((q_t 0), .inl (cs 0, 106, .inl (d_t.2 0))), ((q_t 4), .inl (cs 0, 12, .inl (d_t.2 4))), ((q_t 5), .inl (cs 0, 12, .inl (d_t.2 5))), ((q_t 6), .inl (cs 0, 12, .inl (d_t.2 6))), ((q_t 9), .inl (cs 0, 6, .inl (v.2.2 9)))] H → va_D A [oX7 h_t q_t (d_t.1), ((q_t 0), .inl (cs 0, 106, .inl (d_t.2 0))), ((q_t 4), .inl (cs 0, 12, .inl (d_t.2 4))), ((q_t 5), .inl (cs 0, 12, .inl (d_t.2 5))), ((q_t 6), .inl (cs 0, 12, .inl (d_t.2 6))), ((q_t 9), .inl (cs 0, 6, .inl (v.2.2 9)))] → va_S A s.heap H locs → lv_has ls 4 [(0, .ref h_t), (1, .int x1), (2, .int (v.1))] → W p l e rm_X7_canTune s m args below meth c H locs 0 0 Q (F0 m 2 ls []) := by
  obtain ⟨hx, hb, hml, hT, hown, hlk, hrt, hK, hN, hSE⟩ := id M
  refine lp_ind (fun rec ih v hf H locs ls hP hD hS hl => ?_)
  unfold fX7_canTune_B2 at hf
  refine lv_iload_n hx hb dX7_canTune_2 rfl (lv_at hl 2 rfl) ?_
  refine lv_bipush (v := 6) hx hb dX7_canTune_3 rfl ?_
  have g2 := ite_some hf
  refine lv_icmp_ge (tgt := 23) hx hb dX7_canTune_5 (by decide) (fun c1 => ?_) (fun c1 => ?_)
  · replace hf := g2.1 c1
    exact hK23 _ hf _ _ _ hP hD hS (lv_sub hl [0, 1] rfl)
  · replace hf := g2.2 c1
    refine lv_aload_n hx hb dX7_canTune_8 rfl (lv_at hl 0 rfl) ?_
    refine va_get (D := D) (ci := 7) (v := .ref (q_t 9)) (C := RX7) (T := TX7) (N := 23) hx hb hT iX7 hown hK hP 0 rfl rfl 9 (by decide) (hT _ fw_X7_32) (fun _ h9 => h9) rfl dX7_canTune_9 ?_
    refine lv_iload_n hx hb dX7_canTune_12 rfl (lv_at hl 2 rfl) ?_
    refine lv_sipush (v := (-500)) hx hb dX7_canTune_13 rfl ?_
    obtain ⟨hi, hf⟩ := chk_some hf
    refine va_iast (D := D) hx hb hK hP hD hS 5 0 rfl rfl hi dX7_canTune_16 (fun H locs hP hD hS => ?_)
    replace hP : va_P D vwCl [oX7 h_t q_t (d_t.1), ((q_t 0), .inl (cs 0, 106, .inl (d_t.2 0))), ((q_t 4), .inl (cs 0, 12, .inl (d_t.2 4))), ((q_t 5), .inl (cs 0, 12, .inl (d_t.2 5))), ((q_t 6), .inl (cs 0, 12, .inl (d_t.2 6))), ((q_t 9), .inl (cs 0, 6, .inl (upd (v.2.2 9) (v.1).toNatClampNeg (-500))))] H := hP
    replace hD : va_D A [oX7 h_t q_t (d_t.1), ((q_t 0), .inl (cs 0, 106, .inl (d_t.2 0))), ((q_t 4), .inl (cs 0, 12, .inl (d_t.2 4))), ((q_t 5), .inl (cs 0, 12, .inl (d_t.2 5))), ((q_t 6), .inl (cs 0, 12, .inl (d_t.2 6))), ((q_t 9), .inl (cs 0, 6, .inl (upd (v.2.2 9) (v.1).toNatClampNeg (-500))))] := hD
    refine lv_iinc (v := ((v.1) + 1)) (lv' := [(2, .int ((v.1) + 1)), (0, .ref h_t), (1, .int x1)]) hx hb dX7_canTune_17 hl (k := 2) rfl rfl (by decide) rfl (fun ls hl => ?_)
    refine lv_goto (tgt := 2) hx hb dX7_canTune_20 (by decide) ?_
    exact ih _ hf _ _ _ hP hD hS (lv_sub hl [1, 2, 0] rfl)
set_option maxHeartbeats 4000000 in
set_option maxRecDepth 100000 in
theorem mX7_canTune_B34 {l : Launch} {p : Program} {e : Env} {s : State} {m : MethodId} {args : Array Value} {below : List Frame} {meth : Method} {c : Code} {D : va_G} {cs : Nat → ClassId} {sk : Nat → Nat} {A : Nat → Prop} {Q : State → Prop} (h_t : Nat) (q_t : Nat → Nat) (k : Nat) (x1 : Int32) (d_t : Dat) {rv : Int32 × Dat}  (K63 : Int32 × Dat → Option (Int32 × Dat))
    (M : MC p s m args meth c D cs sk A RX7 cX7_canTune 4 (some .boolean)) (hA : ∀ q, s.heap.size ≤ q → A q) (hR : RetZ p l e rm_X7_canTune s m args below meth c D cX7_canTune A Q (rv.1) [oX7 h_t q_t (rv.2.1), ((q_t 0), .inl (cs 0, 106, .inl (d_t.2 0))), ((q_t 4), .inl (cs 0, 12, .inl (rv.2.2 4))), ((q_t 5), .inl (cs 0, 12, .inl (rv.2.2 5))), ((q_t 6), .inl (cs 0, 12, .inl (rv.2.2 6))), ((q_t 9), .inl (cs 0, 6, .inl (rv.2.2 9)))])
    (hK63 : ∀ (w : Int32 × Dat), K63 w = some rv → ∀ (H : Heap) (locs : List Loc) (ls : Array Slot), va_P D vwCl [oX7 h_t q_t (w.2.1), ((q_t 0), .inl (cs 0, 106, .inl (d_t.2 0))), ((q_t 4), .inl (cs 0, 12, .inl (w.2.2 4))), ((q_t 5), .inl (cs 0, 12, .inl (w.2.2 5))), ((q_t 6), .inl (cs 0, 12, .inl (w.2.2 6))), ((q_t 9), .inl (cs 0, 6, .inl (w.2.2 9)))] H → va_D A [oX7 h_t q_t (w.2.1), ((q_t 0), .inl (cs 0, 106, .inl (d_t.2 0))), ((q_t 4), .inl (cs 0, 12, .inl (w.2.2 4))), ((q_t 5), .inl (cs 0, 12, .inl (w.2.2 5))), ((q_t 6), .inl (cs 0, 12, .inl (w.2.2 6))), ((q_t 9), .inl (cs 0, 6, .inl (w.2.2 9)))] → va_S A s.heap H locs → lv_has ls 4 [(0, .ref h_t), (1, .int x1), (2, .int (w.1))] → W p l e rm_X7_canTune s m args below meth c H locs 0 0 Q (F0 m 63 ls []))
    : ∀ (n : Nat) (v : Int32 × Int32 × Dat), lp (fX7_canTune_B34 k x1 d_t K63) n v = some rv → ∀ (H : Heap) (locs : List Loc) (ls : Array Slot), va_P D vwCl [oX7 h_t q_t (v.2.2.1), ((q_t 0), .inl (cs 0, 106, .inl (d_t.2 0))), ((q_t 4), .inl (cs 0, 12, .inl (v.2.2.2 4))), ((q_t 5), .inl (cs 0, 12, .inl (v.2.2.2 5))), ((q_t 6), .inl (cs 0, 12, .inl (v.2.2.2 6))), ((q_t 9), .inl (cs 0, 6, .inl (v.2.2.2 9)))] H → va_D A [oX7 h_t q_t (v.2.2.1), ((q_t 0), .inl (cs 0, 106, .inl (d_t.2 0))), ((q_t 4), .inl (cs 0, 12, .inl (v.2.2.2 4))), ((q_t 5), .inl (cs 0, 12, .inl (v.2.2.2 5))), ((q_t 6), .inl (cs 0, 12, .inl (v.2.2.2 6))), ((q_t 9), .inl (cs 0, 6, .inl (v.2.2.2 9)))] → va_S A s.heap H locs → lv_has ls 4 [(0, .ref h_t), (1, .int x1), (2, .int (v.1)), (3, .int (v.2.1))] → W p l e rm_X7_canTune s m args below meth c H locs 0 0 Q (F0 m 34 ls []) := by
  obtain ⟨hx, hb, hml, hT, hown, hlk, hrt, hK, hN, hSE⟩ := id M
  refine lp_ind (fun rec ih v hf H locs ls hP hD hS hl => ?_)
  unfold fX7_canTune_B34 at hf
  refine lv_iload_n hx hb dX7_canTune_34 rfl (lv_at hl 3 rfl) ?_
  refine lv_aload_n hx hb dX7_canTune_35 rfl (lv_at hl 0 rfl) ?_
  obtain ⟨r1, e2, hf⟩ := bind_some hf
  refine callVi (As := []) (rest := [.int (v.2.1)]) M (mX7_ears l D cs sk h_t q_t k (v.2.2.1, (va_up (va_up (va_up (va_up d_t.2 4 (v.2.2.2 4)) 5 (v.2.2.2 5)) 6 (v.2.2.2 6)) 9 (v.2.2.2 9))) e2) mw_X7_64 ln_X7_ears ⟨rfl, rfl, Nat.le_of_ble_eq_true rfl, Nat.le_of_ble_eq_true rfl⟩ hP hD hS hA [0, 1] (by decide) rfl rfl (q0 := 0) rfl rfl rfl ⟨Nat.zero_le _, Nat.zero_le _⟩ hl.1 rfl (Nat.le_of_ble_eq_true rfl) dX7_canTune_36 (fun H locs hP hD hS => ?_)
  replace hP : va_P D vwCl [oX7 h_t q_t (v.2.2.1), ((q_t 0), .inl (cs 0, 106, .inl (d_t.2 0))), ((q_t 4), .inl (cs 0, 12, .inl (v.2.2.2 4))), ((q_t 5), .inl (cs 0, 12, .inl (v.2.2.2 5))), ((q_t 6), .inl (cs 0, 12, .inl (v.2.2.2 6))), ((q_t 9), .inl (cs 0, 6, .inl (v.2.2.2 9)))] H := hP
  replace hD : va_D A [oX7 h_t q_t (v.2.2.1), ((q_t 0), .inl (cs 0, 106, .inl (d_t.2 0))), ((q_t 4), .inl (cs 0, 12, .inl (v.2.2.2 4))), ((q_t 5), .inl (cs 0, 12, .inl (v.2.2.2 5))), ((q_t 6), .inl (cs 0, 12, .inl (v.2.2.2 6))), ((q_t 9), .inl (cs 0, 6, .inl (v.2.2.2 9)))] := hD
  have g4 := ite_some hf
  refine lv_icmp_ge (tgt := 63) hx hb dX7_canTune_39 (by decide) (fun c3 => ?_) (fun c3 => ?_)
  · replace hf := g4.1 c3
    exact hK63 _ hf _ _ _ hP hD hS (lv_sub hl [0, 1, 2] rfl)
  · replace hf := g4.2 c3
    refine lv_iload_n hx hb dX7_canTune_42 rfl (lv_at hl 2 rfl) ?_
    have g6 := ite_some hf
    refine lv_if_ne (tgt := 63) hx hb dX7_canTune_43 (by decide) (fun c5 => ?_) (fun c5 => ?_)
    · replace hf := g6.2 c5
      exact hK63 _ hf _ _ _ hP hD hS (lv_sub hl [0, 1, 2] rfl)
    · replace hf := g6.1 c5
      refine lv_aload_n hx hb dX7_canTune_46 rfl (lv_at hl 0 rfl) ?_
      refine lv_iload_n hx hb dX7_canTune_47 rfl (lv_at hl 3 rfl) ?_
      obtain ⟨r7, e8, hf⟩ := bind_some hf
      refine callVv (As := [.int (v.2.1)]) (rest := []) M (mX7_layAll l D cs sk h_t q_t k (v.2.2.1, (va_up (va_up (va_up (va_up d_t.2 4 (v.2.2.2 4)) 5 (v.2.2.2 5)) 6 (v.2.2.2 6)) 9 (v.2.2.2 9))) (v.2.1) e8) mw_X7_160 ln_X7_layAll ⟨rfl, rfl, Nat.le_of_ble_eq_true rfl, Nat.le_of_ble_eq_true rfl⟩ hP hD hS hA [0, 1, 2, 3, 4] (by decide) rfl rfl (q0 := 0) rfl rfl rfl ⟨Nat.zero_le _, Nat.zero_le _⟩ hl.1 rfl (Nat.le_of_ble_eq_true rfl) dX7_canTune_48 (fun H locs hP hD hS => ?_)
      replace hP : va_P D vwCl [oX7 h_t q_t (r7.1), ((q_t 0), .inl (cs 0, 106, .inl (d_t.2 0))), ((q_t 4), .inl (cs 0, 12, .inl (r7.2 4))), ((q_t 5), .inl (cs 0, 12, .inl (r7.2 5))), ((q_t 6), .inl (cs 0, 12, .inl (r7.2 6))), ((q_t 9), .inl (cs 0, 6, .inl (v.2.2.2 9)))] H := hP
      replace hD : va_D A [oX7 h_t q_t (r7.1), ((q_t 0), .inl (cs 0, 106, .inl (d_t.2 0))), ((q_t 4), .inl (cs 0, 12, .inl (r7.2 4))), ((q_t 5), .inl (cs 0, 12, .inl (r7.2 5))), ((q_t 6), .inl (cs 0, 12, .inl (r7.2 6))), ((q_t 9), .inl (cs 0, 6, .inl (v.2.2.2 9)))] := hD
      refine lv_aload_n hx hb dX7_canTune_51 rfl (lv_at hl 0 rfl) ?_
      refine lv_iload_n hx hb dX7_canTune_52 rfl (lv_at hl 1 rfl) ?_
      obtain ⟨r9, e10, hf⟩ := bind_some hf
      refine callVi (As := [.int x1]) (rest := []) M (mX7_raiseAt l D cs sk h_t q_t k (r7.1, (va_up (va_up (va_up (va_up d_t.2 4 (r7.2 4)) 5 (r7.2 5)) 6 (r7.2 6)) 9 (v.2.2.2 9))) x1 e10) mw_X7_176 ln_X7_raiseAt ⟨rfl, rfl, Nat.le_of_ble_eq_true rfl, Nat.le_of_ble_eq_true rfl⟩ hP hD hS hA [0, 1, 2, 3, 5] (by decide) rfl rfl (q0 := 0) rfl rfl rfl ⟨Nat.zero_le _, Nat.zero_le _⟩ hl.1 rfl (Nat.le_of_ble_eq_true rfl) dX7_canTune_53 (fun H locs hP hD hS => ?_)
      replace hP : va_P D vwCl [oX7 h_t q_t (r7.1), ((q_t 0), .inl (cs 0, 106, .inl (d_t.2 0))), ((q_t 4), .inl (cs 0, 12, .inl (r7.2 4))), ((q_t 5), .inl (cs 0, 12, .inl (r7.2 5))), ((q_t 6), .inl (cs 0, 12, .inl (r7.2 6))), ((q_t 9), .inl (cs 0, 6, .inl (r9.2.2 9)))] H := hP
      replace hD : va_D A [oX7 h_t q_t (r7.1), ((q_t 0), .inl (cs 0, 106, .inl (d_t.2 0))), ((q_t 4), .inl (cs 0, 12, .inl (r7.2 4))), ((q_t 5), .inl (cs 0, 12, .inl (r7.2 5))), ((q_t 6), .inl (cs 0, 12, .inl (r7.2 6))), ((q_t 9), .inl (cs 0, 6, .inl (r9.2.2 9)))] := hD
      refine lv_istore_n (lv' := [(2, .int (r9.1)), (0, .ref h_t), (1, .int x1), (3, .int (v.2.1))]) hx hb dX7_canTune_56 rfl hl (by decide) rfl (fun ls hl => ?_)
      refine lv_iinc (v := ((v.2.1) + 1)) (lv' := [(3, .int ((v.2.1) + 1)), (2, .int (r9.1)), (0, .ref h_t), (1, .int x1)]) hx hb dX7_canTune_57 hl (k := 3) rfl rfl (by decide) rfl (fun ls hl => ?_)
      refine lv_goto (tgt := 34) hx hb dX7_canTune_60 (by decide) ?_
      exact ih _ hf _ _ _ hP hD hS (lv_sub hl [2, 3, 1, 0] rfl)
set_option maxHeartbeats 4000000 in
set_option maxRecDepth 100000 in
theorem mX7_canTune_B25 {l : Launch} {p : Program} {e : Env} {s : State} {m : MethodId} {args : Array Value} {below : List Frame} {meth : Method} {c : Code} {D : va_G} {cs : Nat → ClassId} {sk : Nat → Nat} {A : Nat → Prop} {Q : State → Prop} (h_t : Nat) (q_t : Nat → Nat) (k : Nat) (x1 : Int32) (d_t : Dat) {rv : Int32 × Dat}  (K66 : Int32 × Dat → Option (Int32 × Dat))
    (M : MC p s m args meth c D cs sk A RX7 cX7_canTune 4 (some .boolean)) (hA : ∀ q, s.heap.size ≤ q → A q) (hR : RetZ p l e rm_X7_canTune s m args below meth c D cX7_canTune A Q (rv.1) [oX7 h_t q_t (rv.2.1), ((q_t 0), .inl (cs 0, 106, .inl (d_t.2 0))), ((q_t 4), .inl (cs 0, 12, .inl (rv.2.2 4))), ((q_t 5), .inl (cs 0, 12, .inl (rv.2.2 5))), ((q_t 6), .inl (cs 0, 12, .inl (rv.2.2 6))), ((q_t 9), .inl (cs 0, 6, .inl (rv.2.2 9)))])
    (hK66 : ∀ (w : Int32 × Dat), K66 w = some rv → ∀ (H : Heap) (locs : List Loc) (ls : Array Slot), va_P D vwCl [oX7 h_t q_t (w.2.1), ((q_t 0), .inl (cs 0, 106, .inl (d_t.2 0))), ((q_t 4), .inl (cs 0, 12, .inl (w.2.2 4))), ((q_t 5), .inl (cs 0, 12, .inl (w.2.2 5))), ((q_t 6), .inl (cs 0, 12, .inl (w.2.2 6))), ((q_t 9), .inl (cs 0, 6, .inl (w.2.2 9)))] H → va_D A [oX7 h_t q_t (w.2.1), ((q_t 0), .inl (cs 0, 106, .inl (d_t.2 0))), ((q_t 4), .inl (cs 0, 12, .inl (w.2.2 4))), ((q_t 5), .inl (cs 0, 12, .inl (w.2.2 5))), ((q_t 6), .inl (cs 0, 12, .inl (w.2.2 6))), ((q_t 9), .inl (cs 0, 6, .inl (w.2.2 9)))] → va_S A s.heap H locs → lv_has ls 4 [(2, .int (w.1))] → W p l e rm_X7_canTune s m args below meth c H locs 0 0 Q (F0 m 66 ls []))
    : ∀ (n : Nat) (v : Int32 × Dat), lp (fX7_canTune_B25 k x1 d_t K66) n v = some rv → ∀ (H : Heap) (locs : List Loc) (ls : Array Slot), va_P D vwCl [oX7 h_t q_t (v.2.1), ((q_t 0), .inl (cs 0, 106, .inl (d_t.2 0))), ((q_t 4), .inl (cs 0, 12, .inl (v.2.2 4))), ((q_t 5), .inl (cs 0, 12, .inl (v.2.2 5))), ((q_t 6), .inl (cs 0, 12, .inl (v.2.2 6))), ((q_t 9), .inl (cs 0, 6, .inl (v.2.2 9)))] H → va_D A [oX7 h_t q_t (v.2.1), ((q_t 0), .inl (cs 0, 106, .inl (d_t.2 0))), ((q_t 4), .inl (cs 0, 12, .inl (v.2.2 4))), ((q_t 5), .inl (cs 0, 12, .inl (v.2.2 5))), ((q_t 6), .inl (cs 0, 12, .inl (v.2.2 6))), ((q_t 9), .inl (cs 0, 6, .inl (v.2.2 9)))] → va_S A s.heap H locs → lv_has ls 4 [(0, .ref h_t), (1, .int x1), (2, .int (v.1))] → W p l e rm_X7_canTune s m args below meth c H locs 0 0 Q (F0 m 25 ls []) := by
  obtain ⟨hx, hb, hml, hT, hown, hlk, hrt, hK, hN, hSE⟩ := id M
  refine lp_ind (fun rec ih v hf H locs ls hP hD hS hl => ?_)
  unfold fX7_canTune_B25 at hf
  refine lv_iload_n hx hb dX7_canTune_25 rfl (lv_at hl 2 rfl) ?_
  refine lv_iconst (v := 1) hx hb dX7_canTune_26 rfl ?_
  have g2 := ite_some hf
  refine lv_icmp_ne (tgt := 66) hx hb dX7_canTune_27 (by decide) (fun c1 => ?_) (fun c1 => ?_)
  · replace hf := g2.2 c1
    exact hK66 _ hf _ _ _ hP hD hS (lv_sub hl [2] rfl)
  · replace hf := g2.1 c1
    refine lv_iconst (v := 0) hx hb dX7_canTune_30 rfl ?_
    refine lv_istore_n (lv' := [(2, .int 0), (0, .ref h_t), (1, .int x1)]) hx hb dX7_canTune_31 rfl hl (by decide) rfl (fun ls hl => ?_)
    refine lv_iconst (v := 0) hx hb dX7_canTune_32 rfl ?_
    refine lv_istore_n (lv' := [(3, .int 0), (2, .int 0), (0, .ref h_t), (1, .int x1)]) hx hb dX7_canTune_33 rfl hl (by decide) rfl (fun ls hl => ?_)
    refine mX7_canTune_B34 h_t q_t k x1 (v.2.1, (va_up (va_up (va_up (va_up d_t.2 4 (v.2.2 4)) 5 (v.2.2 5)) 6 (v.2.2 6)) 9 (v.2.2 9))) _ M hA hR (fun w3 hf H locs ls hP hD hS hl => ?_) _ _ hf _ _ _ hP hD hS (lv_sub hl [2, 3, 1, 0] rfl)
    · refine lv_goto (tgt := 25) hx hb dX7_canTune_63 (by decide) ?_
      exact ih _ hf _ _ _ hP hD hS (lv_sub hl [0, 1, 2] rfl)
set_option maxHeartbeats 4000000 in
set_option maxRecDepth 100000 in
theorem mX7_canTune (l : Launch) (D : va_G) (cs : Nat → ClassId) (sk : Nat → Nat) (h_t : Nat) (q_t : Nat → Nat) (k : Nat) (d_t : Dat) (x1 : Int32) {rv : Int32 × Dat} (hf : fX7_canTune k d_t x1 = some rv) : CTi l yX7_canTune (Cond.code yX7_canTune cX7_canTune 4 (some .boolean) :: gtbl) rm_X7_canTune D cs sk [.ref h_t, .int x1] [oX7 h_t q_t (d_t.1), ((q_t 0), .inl (cs 0, 106, .inl (d_t.2 0))), ((q_t 4), .inl (cs 0, 12, .inl (d_t.2 4))), ((q_t 5), .inl (cs 0, 12, .inl (d_t.2 5))), ((q_t 6), .inl (cs 0, 12, .inl (d_t.2 6))), ((q_t 9), .inl (cs 0, 6, .inl (d_t.2 9)))] (rv.1) [oX7 h_t q_t (rv.2.1), ((q_t 0), .inl (cs 0, 106, .inl (d_t.2 0))), ((q_t 4), .inl (cs 0, 12, .inl (rv.2.2 4))), ((q_t 5), .inl (cs 0, 12, .inl (rv.2.2 5))), ((q_t 6), .inl (cs 0, 12, .inl (rv.2.2 6))), ((q_t 9), .inl (cs 0, 6, .inl (rv.2.2 9)))] := by
  refine CTi.ofZ RX7 (by decide +kernel) rfl (Nat.le_of_ble_eq_true rfl) (fun p e s m args below meth c A Q ls M hA hR hl hP hD hS => ?_)
  obtain ⟨hx, hb, hml, hT, hown, hlk, hrt, hK, hN, hSE⟩ := id M
  replace hl : lv_has ls 4 [(0, .ref h_t), (1, .int x1)] := hl
  unfold fX7_canTune at hf
  refine lv_iconst (v := 0) hx hb dX7_canTune_0 rfl ?_
  refine lv_istore_n (lv' := [(2, .int 0), (0, .ref h_t), (1, .int x1)]) hx hb dX7_canTune_1 rfl hl (by decide) rfl (fun ls hl => ?_)
  refine mX7_canTune_B2 h_t q_t k x1 d_t _ M hA hR (fun w1 hf H locs ls hP hD hS hl => ?_) _ _ hf _ _ _ hP hD hS (lv_sub hl [1, 2, 0] rfl)
  · refine lv_iconst (v := 1) hx hb dX7_canTune_23 rfl ?_
    refine lv_istore_n (lv' := [(2, .int 1), (0, .ref h_t), (1, .int x1)]) hx hb dX7_canTune_24 rfl hl (by decide) rfl (fun ls hl => ?_)
    refine mX7_canTune_B25 h_t q_t k x1 (d_t.1, (va_up d_t.2 9 (w1.2 9))) _ M hA hR (fun w2 hf H locs ls hP hD hS hl => ?_) _ _ hf _ _ _ hP hD hS (lv_sub hl [1, 2, 0] rfl)
    · refine lv_iload_n hx hb dX7_canTune_66 rfl (lv_at hl 0 rfl) ?_
      have g4 := ite_some hf
      refine lv_if_ne (tgt := 74) hx hb dX7_canTune_67 (by decide) (fun c3 => ?_) (fun c3 => ?_)
      · replace hf := g4.2 c3
        refine lv_iconst (v := 0) hx hb dX7_canTune_74 rfl ?_
        have e9 := Option.some.inj hf
        subst e9
        exact hR _ _ _ _ dX7_canTune_75 (Or.inl rfl) hP hS
      · replace hf := g4.1 c3
        refine lv_iconst (v := 1) hx hb dX7_canTune_70 rfl ?_
        refine lv_goto (tgt := 75) hx hb dX7_canTune_71 (by decide) ?_
        have e9 := Option.some.inj hf
        subst e9
        exact hR _ _ _ _ dX7_canTune_75 (Or.inr rfl) hP hS
abbrev rm_X7_tuned : Room := { frames := 6, cells := 0, slots := 0, locals := 138 }
def fX7_tuned (k : Nat) (d_t : Dat) (x1 : Int32) (x2 : Int32) : Option (Int32 × Dat) :=
  (fX7_isParts k x1).bind (fun (r1 : Int32) => (if r1 = 0 then (fX7_bad k d_t (-2000)).bind (fun (r5 : Int32 × Dat) => some ((r5.1), (d_t.1, (va_up d_t.2 3 (r5.2.2 3))))) else (if x2 = (-1) then (fX7_canTune k ((upd d_t.1 8 0), d_t.2) x1).bind (fun (r9 : Int32 × Dat) => (if x2 = (-1) then (if (r9.1) = 0 then some (0, (r9.2.1, (va_up (va_up (va_up (va_up d_t.2 4 (r9.2.2 4)) 5 (r9.2.2 5)) 6 (r9.2.2 6)) 9 (r9.2.2 9)))) else some (1, (r9.2.1, (va_up (va_up (va_up (va_up d_t.2 4 (r9.2.2 4)) 5 (r9.2.2 5)) 6 (r9.2.2 6)) 9 (r9.2.2 9))))) else (if (r9.1) = 0 then some ((-1000), (r9.2.1, (va_up (va_up (va_up (va_up d_t.2 4 (r9.2.2 4)) 5 (r9.2.2 5)) 6 (r9.2.2 6)) 9 (r9.2.2 9)))) else chk 6 x2 (some (((r9.2.2 9) x2.toNatClampNeg), (r9.2.1, (va_up (va_up (va_up (va_up d_t.2 4 (r9.2.2 4)) 5 (r9.2.2 5)) 6 (r9.2.2 6)) 9 (r9.2.2 9)))))))) else (fX7_isPlayer k d_t x2).bind (fun (r17 : Int32) => (if r17 = 0 then (fX7_bad k d_t (-2000)).bind (fun (r29 : Int32 × Dat) => some ((r29.1), (d_t.1, (va_up d_t.2 3 (r29.2.2 3))))) else (fX7_canTune k ((upd d_t.1 8 0), d_t.2) x1).bind (fun (r21 : Int32 × Dat) => (if x2 = (-1) then (if (r21.1) = 0 then some (0, (r21.2.1, (va_up (va_up (va_up (va_up d_t.2 4 (r21.2.2 4)) 5 (r21.2.2 5)) 6 (r21.2.2 6)) 9 (r21.2.2 9)))) else some (1, (r21.2.1, (va_up (va_up (va_up (va_up d_t.2 4 (r21.2.2 4)) 5 (r21.2.2 5)) 6 (r21.2.2 6)) 9 (r21.2.2 9))))) else (if (r21.1) = 0 then some ((-1000), (r21.2.1, (va_up (va_up (va_up (va_up d_t.2 4 (r21.2.2 4)) 5 (r21.2.2 5)) 6 (r21.2.2 6)) 9 (r21.2.2 9)))) else chk 6 x2 (some (((r21.2.2 9) x2.toNatClampNeg), (r21.2.1, (va_up (va_up (va_up (va_up d_t.2 4 (r21.2.2 4)) 5 (r21.2.2 5)) 6 (r21.2.2 6)) 9 (r21.2.2 9)))))))))))))
set_option maxHeartbeats 4000000 in
set_option maxRecDepth 100000 in
theorem mX7_tuned (l : Launch) (D : va_G) (cs : Nat → ClassId) (sk : Nat → Nat) (h_t : Nat) (q_t : Nat → Nat) (k : Nat) (d_t : Dat) (x1 : Int32) (x2 : Int32) {rv : Int32 × Dat} (hf : fX7_tuned k d_t x1 x2 = some rv) : CTi l yX7_tuned (Cond.code yX7_tuned cX7_tuned 4 (some .int) :: gtbl) rm_X7_tuned D cs sk [.ref h_t, .int x1, .int x2] [oX7 h_t q_t (d_t.1), ((q_t 0), .inl (cs 0, 106, .inl (d_t.2 0))), ((q_t 3), .inl (cs 0, 3, .inl (d_t.2 3))), ((q_t 4), .inl (cs 0, 12, .inl (d_t.2 4))), ((q_t 5), .inl (cs 0, 12, .inl (d_t.2 5))), ((q_t 6), .inl (cs 0, 12, .inl (d_t.2 6))), ((q_t 9), .inl (cs 0, 6, .inl (d_t.2 9)))] (rv.1) [oX7 h_t q_t (rv.2.1), ((q_t 0), .inl (cs 0, 106, .inl (d_t.2 0))), ((q_t 3), .inl (cs 0, 3, .inl (rv.2.2 3))), ((q_t 4), .inl (cs 0, 12, .inl (rv.2.2 4))), ((q_t 5), .inl (cs 0, 12, .inl (rv.2.2 5))), ((q_t 6), .inl (cs 0, 12, .inl (rv.2.2 6))), ((q_t 9), .inl (cs 0, 6, .inl (rv.2.2 9)))] := by
  refine CTi.of RX7 (by decide +kernel) rfl (Nat.le_of_ble_eq_true rfl) (fun p e s m args below meth c A Q ls M hA hR hl hP hD hS => ?_)
  obtain ⟨hx, hb, hml, hT, hown, hlk, hrt, hK, hN, hSE⟩ := id M
  replace hl : lv_has ls 4 [(0, .ref h_t), (1, .int x1), (2, .int x2)] := hl
  unfold fX7_tuned at hf
  refine lv_iload_n hx hb dX7_tuned_0 rfl (lv_at hl 1 rfl) ?_
  obtain ⟨r1, e2, hf⟩ := bind_some hf
  refine callSi (As := [.int x1]) (rest := []) M (mX7_isParts l D cs sk  k x1 e2) mw_X7_170 ln_X7_isParts ⟨rfl, rfl, Nat.le_of_ble_eq_true rfl, Nat.le_of_ble_eq_true rfl⟩ hP hD hS hA [] (by decide) rfl rfl ⟨Nat.zero_le _, Nat.zero_le _⟩ hl.1 rfl (Nat.le_of_ble_eq_true rfl) dX7_tuned_1 (fun H locs hP hD hS => ?_)
  replace hP : va_P D vwCl [oX7 h_t q_t (d_t.1), ((q_t 0), .inl (cs 0, 106, .inl (d_t.2 0))), ((q_t 3), .inl (cs 0, 3, .inl (d_t.2 3))), ((q_t 4), .inl (cs 0, 12, .inl (d_t.2 4))), ((q_t 5), .inl (cs 0, 12, .inl (d_t.2 5))), ((q_t 6), .inl (cs 0, 12, .inl (d_t.2 6))), ((q_t 9), .inl (cs 0, 6, .inl (d_t.2 9)))] H := hP
  replace hD : va_D A [oX7 h_t q_t (d_t.1), ((q_t 0), .inl (cs 0, 106, .inl (d_t.2 0))), ((q_t 3), .inl (cs 0, 3, .inl (d_t.2 3))), ((q_t 4), .inl (cs 0, 12, .inl (d_t.2 4))), ((q_t 5), .inl (cs 0, 12, .inl (d_t.2 5))), ((q_t 6), .inl (cs 0, 12, .inl (d_t.2 6))), ((q_t 9), .inl (cs 0, 6, .inl (d_t.2 9)))] := hD
  have g4 := ite_some hf
  refine lv_if_eq (tgt := 20) hx hb dX7_tuned_4 (by decide) (fun c3 => ?_) (fun c3 => ?_)
  · replace hf := g4.1 c3
    refine lv_aload_n hx hb dX7_tuned_20 rfl (lv_at hl 0 rfl) ?_
    refine lv_sipush (v := (-2000)) hx hb dX7_tuned_21 rfl ?_
    obtain ⟨r5, e6, hf⟩ := bind_some hf
    refine callVi (As := [.int (-2000)]) (rest := []) M (mX7_bad l D cs sk h_t q_t k d_t (-2000) e6) mw_X7_76 ln_X7_bad ⟨rfl, rfl, Nat.le_of_ble_eq_true rfl, Nat.le_of_ble_eq_true rfl⟩ hP hD hS hA [0, 2] (by decide) rfl rfl (q0 := 0) rfl rfl rfl ⟨Nat.zero_le _, Nat.zero_le _⟩ hl.1 rfl (Nat.le_of_ble_eq_true rfl) dX7_tuned_24 (fun H locs hP hD hS => ?_)
    replace hP : va_P D vwCl [oX7 h_t q_t (d_t.1), ((q_t 0), .inl (cs 0, 106, .inl (d_t.2 0))), ((q_t 3), .inl (cs 0, 3, .inl (r5.2.2 3))), ((q_t 4), .inl (cs 0, 12, .inl (d_t.2 4))), ((q_t 5), .inl (cs 0, 12, .inl (d_t.2 5))), ((q_t 6), .inl (cs 0, 12, .inl (d_t.2 6))), ((q_t 9), .inl (cs 0, 6, .inl (d_t.2 9)))] H := hP
    replace hD : va_D A [oX7 h_t q_t (d_t.1), ((q_t 0), .inl (cs 0, 106, .inl (d_t.2 0))), ((q_t 3), .inl (cs 0, 3, .inl (r5.2.2 3))), ((q_t 4), .inl (cs 0, 12, .inl (d_t.2 4))), ((q_t 5), .inl (cs 0, 12, .inl (d_t.2 5))), ((q_t 6), .inl (cs 0, 12, .inl (d_t.2 6))), ((q_t 9), .inl (cs 0, 6, .inl (d_t.2 9)))] := hD
    have e9 := Option.some.inj hf
    subst e9
    exact hR _ _ _ _ dX7_tuned_27 hP hS
  · replace hf := g4.2 c3
    refine lv_iload_n hx hb dX7_tuned_7 rfl (lv_at hl 2 rfl) ?_
    refine lv_iconst (v := (-1)) hx hb dX7_tuned_8 rfl ?_
    have g8 := ite_some hf
    refine lv_icmp_eq (tgt := 28) hx hb dX7_tuned_9 (by decide) (fun c7 => ?_) (fun c7 => ?_)
    · replace hf := g8.1 c7
      refine lv_aload_n hx hb dX7_tuned_28 rfl (lv_at hl 0 rfl) ?_
      refine lv_iconst (v := 0) hx hb dX7_tuned_29 rfl ?_
      refine va_put (D := D) (ci := 7) (v := .int 0) (ty := tyX7 8) (C := RX7) (T := TX7) (N := 23) hx hb hT iX7 tyX7 tyX7_ok nmX7 hown hK hP hD hS 0 rfl rfl 8 (by decide) (hT _ fw_X7_143) (fun _ h9 => h9) rfl (tyX7_ok 8 (by decide)) rfl rfl (Nat.le_of_ble_eq_true rfl) dX7_tuned_30 (fun H locs hP hD hS => ?_)
      replace hP : va_P D vwCl [oX7 h_t q_t (upd d_t.1 8 0), ((q_t 0), .inl (cs 0, 106, .inl (d_t.2 0))), ((q_t 3), .inl (cs 0, 3, .inl (d_t.2 3))), ((q_t 4), .inl (cs 0, 12, .inl (d_t.2 4))), ((q_t 5), .inl (cs 0, 12, .inl (d_t.2 5))), ((q_t 6), .inl (cs 0, 12, .inl (d_t.2 6))), ((q_t 9), .inl (cs 0, 6, .inl (d_t.2 9)))] H := hP
      replace hD : va_D A [oX7 h_t q_t (upd d_t.1 8 0), ((q_t 0), .inl (cs 0, 106, .inl (d_t.2 0))), ((q_t 3), .inl (cs 0, 3, .inl (d_t.2 3))), ((q_t 4), .inl (cs 0, 12, .inl (d_t.2 4))), ((q_t 5), .inl (cs 0, 12, .inl (d_t.2 5))), ((q_t 6), .inl (cs 0, 12, .inl (d_t.2 6))), ((q_t 9), .inl (cs 0, 6, .inl (d_t.2 9)))] := hD
      refine lv_aload_n hx hb dX7_tuned_33 rfl (lv_at hl 0 rfl) ?_
      refine lv_iload_n hx hb dX7_tuned_34 rfl (lv_at hl 1 rfl) ?_
      obtain ⟨r9, e10, hf⟩ := bind_some hf
      refine callVi (As := [.int x1]) (rest := []) M (mX7_canTune l D cs sk h_t q_t k ((upd d_t.1 8 0), d_t.2) x1 e10) mw_X7_179 ln_X7_canTune ⟨rfl, rfl, Nat.le_of_ble_eq_true rfl, Nat.le_of_ble_eq_true rfl⟩ hP hD hS hA [0, 1, 3, 4, 5, 6] (by decide) rfl rfl (q0 := 0) rfl rfl rfl ⟨Nat.zero_le _, Nat.zero_le _⟩ hl.1 rfl (Nat.le_of_ble_eq_true rfl) dX7_tuned_35 (fun H locs hP hD hS => ?_)
      replace hP : va_P D vwCl [oX7 h_t q_t (r9.2.1), ((q_t 0), .inl (cs 0, 106, .inl (d_t.2 0))), ((q_t 3), .inl (cs 0, 3, .inl (d_t.2 3))), ((q_t 4), .inl (cs 0, 12, .inl (r9.2.2 4))), ((q_t 5), .inl (cs 0, 12, .inl (r9.2.2 5))), ((q_t 6), .inl (cs 0, 12, .inl (r9.2.2 6))), ((q_t 9), .inl (cs 0, 6, .inl (r9.2.2 9)))] H := hP
      replace hD : va_D A [oX7 h_t q_t (r9.2.1), ((q_t 0), .inl (cs 0, 106, .inl (d_t.2 0))), ((q_t 3), .inl (cs 0, 3, .inl (d_t.2 3))), ((q_t 4), .inl (cs 0, 12, .inl (r9.2.2 4))), ((q_t 5), .inl (cs 0, 12, .inl (r9.2.2 5))), ((q_t 6), .inl (cs 0, 12, .inl (r9.2.2 6))), ((q_t 9), .inl (cs 0, 6, .inl (r9.2.2 9)))] := hD
      refine lv_istore_n (lv' := [(3, .int (r9.1)), (0, .ref h_t), (1, .int x1), (2, .int x2)]) hx hb dX7_tuned_38 rfl hl (by decide) rfl (fun ls hl => ?_)
      refine lv_iload_n hx hb dX7_tuned_39 rfl (lv_at hl 3 rfl) ?_
      refine lv_iconst (v := (-1)) hx hb dX7_tuned_40 rfl ?_
      have g12 := ite_some hf
      refine lv_icmp_ne (tgt := 56) hx hb dX7_tuned_41 (by decide) (fun c11 => ?_) (fun c11 => ?_)
      · replace hf := g12.2 c11
        refine lv_iload_n hx hb dX7_tuned_56 rfl (lv_at hl 0 rfl) ?_
        have g14 := ite_some hf
        refine lv_if_eq (tgt := 69) hx hb dX7_tuned_57 (by decide) (fun c13 => ?_) (fun c13 => ?_)
        · replace hf := g14.1 c13
          refine lv_sipush (v := (-1000)) hx hb dX7_tuned_69 rfl ?_
          have e9 := Option.some.inj hf
          subst e9
          exact hR _ _ _ _ dX7_tuned_72 hP hS
        · replace hf := g14.2 c13
          refine lv_aload_n hx hb dX7_tuned_60 rfl (lv_at hl 1 rfl) ?_
          refine va_get (D := D) (ci := 7) (v := .ref (q_t 9)) (C := RX7) (T := TX7) (N := 23) hx hb hT iX7 hown hK hP 0 rfl rfl 9 (by decide) (hT _ fw_X7_32) (fun _ h9 => h9) rfl dX7_tuned_61 ?_
          refine lv_iload_n hx hb dX7_tuned_64 rfl (lv_at hl 3 rfl) ?_
          obtain ⟨hi, hf⟩ := chk_some hf
          refine va_iald (D := D) hx hb hK hP 6 0 rfl rfl hi dX7_tuned_65 ?_
          refine lv_goto (tgt := 72) hx hb dX7_tuned_66 (by decide) ?_
          have e9 := Option.some.inj hf
          subst e9
          exact hR _ _ _ _ dX7_tuned_72 hP hS
      · replace hf := g12.1 c11
        refine lv_iload_n hx hb dX7_tuned_44 rfl (lv_at hl 0 rfl) ?_
        have g16 := ite_some hf
        refine lv_if_eq (tgt := 52) hx hb dX7_tuned_45 (by decide) (fun c15 => ?_) (fun c15 => ?_)
        · replace hf := g16.1 c15
          refine lv_iconst (v := 0) hx hb dX7_tuned_52 rfl ?_
          refine lv_goto (tgt := 72) hx hb dX7_tuned_53 (by decide) ?_
          have e9 := Option.some.inj hf
          subst e9
          exact hR _ _ _ _ dX7_tuned_72 hP hS
        · replace hf := g16.2 c15
          refine lv_iconst (v := 1) hx hb dX7_tuned_48 rfl ?_
          refine lv_goto (tgt := 72) hx hb dX7_tuned_49 (by decide) ?_
          have e9 := Option.some.inj hf
          subst e9
          exact hR _ _ _ _ dX7_tuned_72 hP hS
    · replace hf := g8.2 c7
      refine lv_aload_n hx hb dX7_tuned_12 rfl (lv_at hl 0 rfl) ?_
      refine lv_iload_n hx hb dX7_tuned_13 rfl (lv_at hl 2 rfl) ?_
      obtain ⟨r17, e18, hf⟩ := bind_some hf
      refine callVi (As := [.int x2]) (rest := []) M (mX7_isPlayer l D cs sk h_t q_t k d_t x2 e18) mw_X7_115 ln_X7_isPlayer ⟨rfl, rfl, Nat.le_of_ble_eq_true rfl, Nat.le_of_ble_eq_true rfl⟩ hP hD hS hA [0, 1] (by decide) rfl rfl (q0 := 0) rfl rfl rfl ⟨Nat.zero_le _, Nat.zero_le _⟩ hl.1 rfl (Nat.le_of_ble_eq_true rfl) dX7_tuned_14 (fun H locs hP hD hS => ?_)
      replace hP : va_P D vwCl [oX7 h_t q_t (d_t.1), ((q_t 0), .inl (cs 0, 106, .inl (d_t.2 0))), ((q_t 3), .inl (cs 0, 3, .inl (d_t.2 3))), ((q_t 4), .inl (cs 0, 12, .inl (d_t.2 4))), ((q_t 5), .inl (cs 0, 12, .inl (d_t.2 5))), ((q_t 6), .inl (cs 0, 12, .inl (d_t.2 6))), ((q_t 9), .inl (cs 0, 6, .inl (d_t.2 9)))] H := hP
      replace hD : va_D A [oX7 h_t q_t (d_t.1), ((q_t 0), .inl (cs 0, 106, .inl (d_t.2 0))), ((q_t 3), .inl (cs 0, 3, .inl (d_t.2 3))), ((q_t 4), .inl (cs 0, 12, .inl (d_t.2 4))), ((q_t 5), .inl (cs 0, 12, .inl (d_t.2 5))), ((q_t 6), .inl (cs 0, 12, .inl (d_t.2 6))), ((q_t 9), .inl (cs 0, 6, .inl (d_t.2 9)))] := hD
      have g20 := ite_some hf
      refine lv_if_ne (tgt := 28) hx hb dX7_tuned_17 (by decide) (fun c19 => ?_) (fun c19 => ?_)
      · replace hf := g20.2 c19
        refine lv_aload_n hx hb dX7_tuned_28 rfl (lv_at hl 0 rfl) ?_
        refine lv_iconst (v := 0) hx hb dX7_tuned_29 rfl ?_
        refine va_put (D := D) (ci := 7) (v := .int 0) (ty := tyX7 8) (C := RX7) (T := TX7) (N := 23) hx hb hT iX7 tyX7 tyX7_ok nmX7 hown hK hP hD hS 0 rfl rfl 8 (by decide) (hT _ fw_X7_143) (fun _ h9 => h9) rfl (tyX7_ok 8 (by decide)) rfl rfl (Nat.le_of_ble_eq_true rfl) dX7_tuned_30 (fun H locs hP hD hS => ?_)
        replace hP : va_P D vwCl [oX7 h_t q_t (upd d_t.1 8 0), ((q_t 0), .inl (cs 0, 106, .inl (d_t.2 0))), ((q_t 3), .inl (cs 0, 3, .inl (d_t.2 3))), ((q_t 4), .inl (cs 0, 12, .inl (d_t.2 4))), ((q_t 5), .inl (cs 0, 12, .inl (d_t.2 5))), ((q_t 6), .inl (cs 0, 12, .inl (d_t.2 6))), ((q_t 9), .inl (cs 0, 6, .inl (d_t.2 9)))] H := hP
        replace hD : va_D A [oX7 h_t q_t (upd d_t.1 8 0), ((q_t 0), .inl (cs 0, 106, .inl (d_t.2 0))), ((q_t 3), .inl (cs 0, 3, .inl (d_t.2 3))), ((q_t 4), .inl (cs 0, 12, .inl (d_t.2 4))), ((q_t 5), .inl (cs 0, 12, .inl (d_t.2 5))), ((q_t 6), .inl (cs 0, 12, .inl (d_t.2 6))), ((q_t 9), .inl (cs 0, 6, .inl (d_t.2 9)))] := hD
        refine lv_aload_n hx hb dX7_tuned_33 rfl (lv_at hl 0 rfl) ?_
        refine lv_iload_n hx hb dX7_tuned_34 rfl (lv_at hl 1 rfl) ?_
        obtain ⟨r21, e22, hf⟩ := bind_some hf
        refine callVi (As := [.int x1]) (rest := []) M (mX7_canTune l D cs sk h_t q_t k ((upd d_t.1 8 0), d_t.2) x1 e22) mw_X7_179 ln_X7_canTune ⟨rfl, rfl, Nat.le_of_ble_eq_true rfl, Nat.le_of_ble_eq_true rfl⟩ hP hD hS hA [0, 1, 3, 4, 5, 6] (by decide) rfl rfl (q0 := 0) rfl rfl rfl ⟨Nat.zero_le _, Nat.zero_le _⟩ hl.1 rfl (Nat.le_of_ble_eq_true rfl) dX7_tuned_35 (fun H locs hP hD hS => ?_)
        replace hP : va_P D vwCl [oX7 h_t q_t (r21.2.1), ((q_t 0), .inl (cs 0, 106, .inl (d_t.2 0))), ((q_t 3), .inl (cs 0, 3, .inl (d_t.2 3))), ((q_t 4), .inl (cs 0, 12, .inl (r21.2.2 4))), ((q_t 5), .inl (cs 0, 12, .inl (r21.2.2 5))), ((q_t 6), .inl (cs 0, 12, .inl (r21.2.2 6))), ((q_t 9), .inl (cs 0, 6, .inl (r21.2.2 9)))] H := hP
        replace hD : va_D A [oX7 h_t q_t (r21.2.1), ((q_t 0), .inl (cs 0, 106, .inl (d_t.2 0))), ((q_t 3), .inl (cs 0, 3, .inl (d_t.2 3))), ((q_t 4), .inl (cs 0, 12, .inl (r21.2.2 4))), ((q_t 5), .inl (cs 0, 12, .inl (r21.2.2 5))), ((q_t 6), .inl (cs 0, 12, .inl (r21.2.2 6))), ((q_t 9), .inl (cs 0, 6, .inl (r21.2.2 9)))] := hD
        refine lv_istore_n (lv' := [(3, .int (r21.1)), (0, .ref h_t), (1, .int x1), (2, .int x2)]) hx hb dX7_tuned_38 rfl hl (by decide) rfl (fun ls hl => ?_)
        refine lv_iload_n hx hb dX7_tuned_39 rfl (lv_at hl 3 rfl) ?_
        refine lv_iconst (v := (-1)) hx hb dX7_tuned_40 rfl ?_
        have g24 := ite_some hf
        refine lv_icmp_ne (tgt := 56) hx hb dX7_tuned_41 (by decide) (fun c23 => ?_) (fun c23 => ?_)
        · replace hf := g24.2 c23
          refine lv_iload_n hx hb dX7_tuned_56 rfl (lv_at hl 0 rfl) ?_
          have g26 := ite_some hf
          refine lv_if_eq (tgt := 69) hx hb dX7_tuned_57 (by decide) (fun c25 => ?_) (fun c25 => ?_)
          · replace hf := g26.1 c25
            refine lv_sipush (v := (-1000)) hx hb dX7_tuned_69 rfl ?_
            have e9 := Option.some.inj hf
            subst e9
            exact hR _ _ _ _ dX7_tuned_72 hP hS
          · replace hf := g26.2 c25
            refine lv_aload_n hx hb dX7_tuned_60 rfl (lv_at hl 1 rfl) ?_
            refine va_get (D := D) (ci := 7) (v := .ref (q_t 9)) (C := RX7) (T := TX7) (N := 23) hx hb hT iX7 hown hK hP 0 rfl rfl 9 (by decide) (hT _ fw_X7_32) (fun _ h9 => h9) rfl dX7_tuned_61 ?_
            refine lv_iload_n hx hb dX7_tuned_64 rfl (lv_at hl 3 rfl) ?_
            obtain ⟨hi, hf⟩ := chk_some hf
            refine va_iald (D := D) hx hb hK hP 6 0 rfl rfl hi dX7_tuned_65 ?_
            refine lv_goto (tgt := 72) hx hb dX7_tuned_66 (by decide) ?_
            have e9 := Option.some.inj hf
            subst e9
            exact hR _ _ _ _ dX7_tuned_72 hP hS
        · replace hf := g24.1 c23
          refine lv_iload_n hx hb dX7_tuned_44 rfl (lv_at hl 0 rfl) ?_
          have g28 := ite_some hf
          refine lv_if_eq (tgt := 52) hx hb dX7_tuned_45 (by decide) (fun c27 => ?_) (fun c27 => ?_)
          · replace hf := g28.1 c27
            refine lv_iconst (v := 0) hx hb dX7_tuned_52 rfl ?_
            refine lv_goto (tgt := 72) hx hb dX7_tuned_53 (by decide) ?_
            have e9 := Option.some.inj hf
            subst e9
            exact hR _ _ _ _ dX7_tuned_72 hP hS
          · replace hf := g28.2 c27
            refine lv_iconst (v := 1) hx hb dX7_tuned_48 rfl ?_
            refine lv_goto (tgt := 72) hx hb dX7_tuned_49 (by decide) ?_
            have e9 := Option.some.inj hf
            subst e9
            exact hR _ _ _ _ dX7_tuned_72 hP hS
      · replace hf := g20.1 c19
        refine lv_aload_n hx hb dX7_tuned_20 rfl (lv_at hl 0 rfl) ?_
        refine lv_sipush (v := (-2000)) hx hb dX7_tuned_21 rfl ?_
        obtain ⟨r29, e30, hf⟩ := bind_some hf
        refine callVi (As := [.int (-2000)]) (rest := []) M (mX7_bad l D cs sk h_t q_t k d_t (-2000) e30) mw_X7_76 ln_X7_bad ⟨rfl, rfl, Nat.le_of_ble_eq_true rfl, Nat.le_of_ble_eq_true rfl⟩ hP hD hS hA [0, 2] (by decide) rfl rfl (q0 := 0) rfl rfl rfl ⟨Nat.zero_le _, Nat.zero_le _⟩ hl.1 rfl (Nat.le_of_ble_eq_true rfl) dX7_tuned_24 (fun H locs hP hD hS => ?_)
        replace hP : va_P D vwCl [oX7 h_t q_t (d_t.1), ((q_t 0), .inl (cs 0, 106, .inl (d_t.2 0))), ((q_t 3), .inl (cs 0, 3, .inl (r29.2.2 3))), ((q_t 4), .inl (cs 0, 12, .inl (d_t.2 4))), ((q_t 5), .inl (cs 0, 12, .inl (d_t.2 5))), ((q_t 6), .inl (cs 0, 12, .inl (d_t.2 6))), ((q_t 9), .inl (cs 0, 6, .inl (d_t.2 9)))] H := hP
        replace hD : va_D A [oX7 h_t q_t (d_t.1), ((q_t 0), .inl (cs 0, 106, .inl (d_t.2 0))), ((q_t 3), .inl (cs 0, 3, .inl (r29.2.2 3))), ((q_t 4), .inl (cs 0, 12, .inl (d_t.2 4))), ((q_t 5), .inl (cs 0, 12, .inl (d_t.2 5))), ((q_t 6), .inl (cs 0, 12, .inl (d_t.2 6))), ((q_t 9), .inl (cs 0, 6, .inl (d_t.2 9)))] := hD
        have e9 := Option.some.inj hf
        subst e9
        exact hR _ _ _ _ dX7_tuned_27 hP hS
abbrev rm_X7_all : Room := { frames := 1, cells := 0, slots := 0, locals := 20 }
def fX7_all (k : Nat) (d_t : Dat) : Option (Int32) :=
  (fX7_players k d_t).bind (fun (r1 : Int32) => some ((1 <<< (r1 &&& 31)) - 1))
set_option maxHeartbeats 4000000 in
set_option maxRecDepth 100000 in
theorem mX7_all (l : Launch) (D : va_G) (cs : Nat → ClassId) (sk : Nat → Nat) (h_t : Nat) (q_t : Nat → Nat) (k : Nat) (d_t : Dat) {rv : Int32} (hf : fX7_all k d_t = some rv) : CTi l yX7_all (Cond.code yX7_all cX7_all 1 (some .int) :: gtbl) rm_X7_all D cs sk [.ref h_t] [oX7 h_t q_t (d_t.1), ((q_t 0), .inl (cs 0, 106, .inl (d_t.2 0)))] (rv) [oX7 h_t q_t (d_t.1), ((q_t 0), .inl (cs 0, 106, .inl (d_t.2 0)))] := by
  refine CTi.of RX7 (by decide +kernel) rfl (Nat.le_of_ble_eq_true rfl) (fun p e s m args below meth c A Q ls M hA hR hl hP hD hS => ?_)
  obtain ⟨hx, hb, hml, hT, hown, hlk, hrt, hK, hN, hSE⟩ := id M
  replace hl : lv_has ls 1 [(0, .ref h_t)] := hl
  unfold fX7_all at hf
  refine lv_iconst (v := 1) hx hb dX7_all_0 rfl ?_
  refine lv_aload_n hx hb dX7_all_1 rfl (lv_at hl 0 rfl) ?_
  obtain ⟨r1, e2, hf⟩ := bind_some hf
  refine callVi (As := []) (rest := [.int 1]) M (mX7_players l D cs sk h_t q_t k d_t e2) mw_X7_67 ln_X7_players ⟨rfl, rfl, Nat.le_of_ble_eq_true rfl, Nat.le_of_ble_eq_true rfl⟩ hP hD hS hA [0, 1] (by decide) rfl rfl (q0 := 0) rfl rfl rfl ⟨Nat.zero_le _, Nat.zero_le _⟩ hl.1 rfl (Nat.le_of_ble_eq_true rfl) dX7_all_2 (fun H locs hP hD hS => ?_)
  replace hP : va_P D vwCl [oX7 h_t q_t (d_t.1), ((q_t 0), .inl (cs 0, 106, .inl (d_t.2 0)))] H := hP
  replace hD : va_D A [oX7 h_t q_t (d_t.1), ((q_t 0), .inl (cs 0, 106, .inl (d_t.2 0)))] := hD
  refine lv_ishl hx hb dX7_all_5 ?_
  refine lv_iconst (v := 1) hx hb dX7_all_6 rfl ?_
  refine lv_isub hx hb dX7_all_7 ?_
  have e9 := Option.some.inj hf
  subst e9
  exact hR _ _ _ _ dX7_all_8 hP hS
abbrev rm_X7_manyIn : Room := { frames := 0, cells := 0, slots := 0, locals := 0 }
def fX7_manyIn_B4 (k : Nat) (x0 : Int32) (K24 : Int32 → Option (Int32)) (rec : Int32 × Int32 → Option (Int32)) (v : Int32 × Int32) : Option (Int32) :=
  (if 6 ≤ (v.2) then K24 (v.1) else rec (((v.1) + ((x0 >>> ((v.2) &&& 31)) &&& 1)), ((v.2) + 1)))
def fX7_manyIn (k : Nat) (x0 : Int32) : Option (Int32) :=
  lp (fX7_manyIn_B4 k x0 (fun (w1 : Int32) => some w1)) k (0, 0)
set_option maxHeartbeats 4000000 in
set_option maxRecDepth 100000 in
theorem mX7_manyIn_B4 {l : Launch} {p : Program} {e : Env} {s : State} {m : MethodId} {args : Array Value} {below : List Frame} {meth : Method} {c : Code} {D : va_G} {cs : Nat → ClassId} {sk : Nat → Nat} {A : Nat → Prop} {Q : State → Prop}  (k : Nat) (x0 : Int32) {rv : Int32}  (K24 : Int32 → Option (Int32))
    (M : MC p s m args meth c D cs sk A RX7 cX7_manyIn 3 (some .int)) (hA : ∀ q, s.heap.size ≤ q → A q) (hR : RetI p l e rm_X7_manyIn s m args below meth c D cX7_manyIn A Q (rv) [])
    (hK24 : ∀ (w : Int32), K24 w = some rv → ∀ (H : Heap) (locs : List Loc) (ls : Array Slot), va_P D vwCl [] H → va_D A [] → va_S A s.heap H locs → lv_has ls 3 [(1, .int w)] → W p l e rm_X7_manyIn s m args below meth c H locs 0 0 Q (F0 m 24 ls []))
    : ∀ (n : Nat) (v : Int32 × Int32), lp (fX7_manyIn_B4 k x0 K24) n v = some rv → ∀ (H : Heap) (locs : List Loc) (ls : Array Slot), va_P D vwCl [] H → va_D A [] → va_S A s.heap H locs → lv_has ls 3 [(0, .int x0), (1, .int (v.1)), (2, .int (v.2))] → W p l e rm_X7_manyIn s m args below meth c H locs 0 0 Q (F0 m 4 ls []) := by
  obtain ⟨hx, hb, hml, hT, hown, hlk, hrt, hK, hN, hSE⟩ := id M
  refine lp_ind (fun rec ih v hf H locs ls hP hD hS hl => ?_)
  unfold fX7_manyIn_B4 at hf
  refine lv_iload_n hx hb dX7_manyIn_4 rfl (lv_at hl 2 rfl) ?_
  refine lv_bipush (v := 6) hx hb dX7_manyIn_5 rfl ?_
  have g2 := ite_some hf
  refine lv_icmp_ge (tgt := 24) hx hb dX7_manyIn_7 (by decide) (fun c1 => ?_) (fun c1 => ?_)
  · replace hf := g2.1 c1
    exact hK24 _ hf _ _ _ hP hD hS (lv_sub hl [1] rfl)
  · replace hf := g2.2 c1
    refine lv_iload_n hx hb dX7_manyIn_10 rfl (lv_at hl 1 rfl) ?_
    refine lv_iload_n hx hb dX7_manyIn_11 rfl (lv_at hl 0 rfl) ?_
    refine lv_iload_n hx hb dX7_manyIn_12 rfl (lv_at hl 2 rfl) ?_
    refine lv_ishr hx hb dX7_manyIn_13 ?_
    refine lv_iconst (v := 1) hx hb dX7_manyIn_14 rfl ?_
    refine lv_iand hx hb dX7_manyIn_15 ?_
    refine lv_iadd hx hb dX7_manyIn_16 ?_
    refine lv_istore_n (lv' := [(1, .int ((v.1) + ((x0 >>> ((v.2) &&& 31)) &&& 1))), (0, .int x0), (2, .int (v.2))]) hx hb dX7_manyIn_17 rfl hl (by decide) rfl (fun ls hl => ?_)
    refine lv_iinc (v := ((v.2) + 1)) (lv' := [(2, .int ((v.2) + 1)), (1, .int ((v.1) + ((x0 >>> ((v.2) &&& 31)) &&& 1))), (0, .int x0)]) hx hb dX7_manyIn_18 hl (k := 2) rfl rfl (by decide) rfl (fun ls hl => ?_)
    refine lv_goto (tgt := 4) hx hb dX7_manyIn_21 (by decide) ?_
    exact ih _ hf _ _ _ hP hD hS (lv_sub hl [2, 1, 0] rfl)
set_option maxHeartbeats 4000000 in
set_option maxRecDepth 100000 in
theorem mX7_manyIn (l : Launch) (D : va_G) (cs : Nat → ClassId) (sk : Nat → Nat)  (k : Nat) (x0 : Int32) {rv : Int32} (hf : fX7_manyIn k x0 = some rv) : CTi l yX7_manyIn (Cond.code yX7_manyIn cX7_manyIn 3 (some .int) :: gtbl) rm_X7_manyIn D cs sk [.int x0] [] (rv) [] := by
  refine CTi.of RX7 (by decide +kernel) rfl (Nat.le_of_ble_eq_true rfl) (fun p e s m args below meth c A Q ls M hA hR hl hP hD hS => ?_)
  obtain ⟨hx, hb, hml, hT, hown, hlk, hrt, hK, hN, hSE⟩ := id M
  replace hl : lv_has ls 3 [(0, .int x0)] := hl
  unfold fX7_manyIn at hf
  refine lv_iconst (v := 0) hx hb dX7_manyIn_0 rfl ?_
  refine lv_istore_n (lv' := [(1, .int 0), (0, .int x0)]) hx hb dX7_manyIn_1 rfl hl (by decide) rfl (fun ls hl => ?_)
  refine lv_iconst (v := 0) hx hb dX7_manyIn_2 rfl ?_
  refine lv_istore_n (lv' := [(2, .int 0), (1, .int 0), (0, .int x0)]) hx hb dX7_manyIn_3 rfl hl (by decide) rfl (fun ls hl => ?_)
  refine mX7_manyIn_B4 k x0 _ M hA hR (fun w1 hf H locs ls hP hD hS hl => ?_) _ _ hf _ _ _ hP hD hS (lv_sub hl [2, 1, 0] rfl)
  · refine lv_iload_n hx hb dX7_manyIn_24 rfl (lv_at hl 0 rfl) ?_
    have e9 := Option.some.inj hf
    subst e9
    exact hR _ _ _ _ dX7_manyIn_25 hP hS
abbrev rm_X7_clash : Room := { frames := 6, cells := 0, slots := 0, locals := 138 }
def fX7_clash_B18 (k : Nat) (x1 : Int32) (d_t : Dat) (K86 : Int32 × Dat → Option (Int32 × Dat)) (rec : Int32 × Int32 × Dat → Option (Int32 × Dat)) (v : Int32 × Int32 × Dat) : Option (Int32 × Dat) :=
  (fX7_all k (v.2.2.1, (va_up (va_up (va_up (va_up d_t.2 4 (v.2.2.2 4)) 5 (v.2.2.2 5)) 6 (v.2.2.2 6)) 9 (v.2.2.2 9)))).bind (fun (r1 : Int32) => (if r1 < (v.2.1) then K86 ((v.1), (v.2.2.1, (va_up (va_up (va_up (va_up d_t.2 4 (v.2.2.2 4)) 5 (v.2.2.2 5)) 6 (v.2.2.2 6)) 9 (v.2.2.2 9)))) else (fX7_all k (v.2.2.1, (va_up (va_up (va_up (va_up d_t.2 4 (v.2.2.2 4)) 5 (v.2.2.2 5)) 6 (v.2.2.2 6)) 9 (v.2.2.2 9)))).bind (fun (r5 : Int32) => (if (v.1) = (-1) then (if (1 : Int32) = 0 then rec ((v.1), ((v.2.1) + 1), ((upd v.2.2.1 8 (r5 &&& ((v.2.1) ^^^ (-1)))), (va_up (va_up (va_up (va_up d_t.2 4 (v.2.2.2 4)) 5 (v.2.2.2 5)) 6 (v.2.2.2 6)) 9 (v.2.2.2 9)))) else (fX7_canTune k ((upd v.2.2.1 8 (r5 &&& ((v.2.1) ^^^ (-1)))), (va_up (va_up (va_up (va_up d_t.2 4 (v.2.2.2 4)) 5 (v.2.2.2 5)) 6 (v.2.2.2 6)) 9 (v.2.2.2 9))) x1).bind (fun (r11 : Int32 × Dat) => (if (r11.1) = 0 then rec ((v.2.1), ((v.2.1) + 1), (r11.2.1, (va_up (va_up (va_up (va_up d_t.2 4 (r11.2.2 4)) 5 (r11.2.2 5)) 6 (r11.2.2 6)) 9 (r11.2.2 9)))) else rec ((v.1), ((v.2.1) + 1), (r11.2.1, (va_up (va_up (va_up (va_up d_t.2 4 (r11.2.2 4)) 5 (r11.2.2 5)) 6 (r11.2.2 6)) 9 (r11.2.2 9))))))) else (fX7_manyIn k (v.2.1)).bind (fun (r15 : Int32) => (fX7_manyIn k (v.1)).bind (fun (r17 : Int32) => (if r17 ≤ r15 then (if (0 : Int32) = 0 then rec ((v.1), ((v.2.1) + 1), ((upd v.2.2.1 8 (r5 &&& ((v.2.1) ^^^ (-1)))), (va_up (va_up (va_up (va_up d_t.2 4 (v.2.2.2 4)) 5 (v.2.2.2 5)) 6 (v.2.2.2 6)) 9 (v.2.2.2 9)))) else (fX7_canTune k ((upd v.2.2.1 8 (r5 &&& ((v.2.1) ^^^ (-1)))), (va_up (va_up (va_up (va_up d_t.2 4 (v.2.2.2 4)) 5 (v.2.2.2 5)) 6 (v.2.2.2 6)) 9 (v.2.2.2 9))) x1).bind (fun (r23 : Int32 × Dat) => (if (r23.1) = 0 then rec ((v.2.1), ((v.2.1) + 1), (r23.2.1, (va_up (va_up (va_up (va_up d_t.2 4 (r23.2.2 4)) 5 (r23.2.2 5)) 6 (r23.2.2 6)) 9 (r23.2.2 9)))) else rec ((v.1), ((v.2.1) + 1), (r23.2.1, (va_up (va_up (va_up (va_up d_t.2 4 (r23.2.2 4)) 5 (r23.2.2 5)) 6 (r23.2.2 6)) 9 (r23.2.2 9))))))) else (if (1 : Int32) = 0 then rec ((v.1), ((v.2.1) + 1), ((upd v.2.2.1 8 (r5 &&& ((v.2.1) ^^^ (-1)))), (va_up (va_up (va_up (va_up d_t.2 4 (v.2.2.2 4)) 5 (v.2.2.2 5)) 6 (v.2.2.2 6)) 9 (v.2.2.2 9)))) else (fX7_canTune k ((upd v.2.2.1 8 (r5 &&& ((v.2.1) ^^^ (-1)))), (va_up (va_up (va_up (va_up d_t.2 4 (v.2.2.2 4)) 5 (v.2.2.2 5)) 6 (v.2.2.2 6)) 9 (v.2.2.2 9))) x1).bind (fun (r29 : Int32 × Dat) => (if (r29.1) = 0 then rec ((v.2.1), ((v.2.1) + 1), (r29.2.1, (va_up (va_up (va_up (va_up d_t.2 4 (r29.2.2 4)) 5 (r29.2.2 5)) 6 (r29.2.2 6)) 9 (r29.2.2 9)))) else rec ((v.1), ((v.2.1) + 1), (r29.2.1, (va_up (va_up (va_up (va_up d_t.2 4 (r29.2.2 4)) 5 (r29.2.2 5)) 6 (r29.2.2 6)) 9 (r29.2.2 9))))))))))))))
def fX7_clash (k : Nat) (d_t : Dat) (x1 : Int32) : Option (Int32 × Dat) :=
  (fX7_isParts k x1).bind (fun (r1 : Int32) => (if r1 = 0 then (fX7_bad k d_t (-2)).bind (fun (r6 : Int32 × Dat) => some ((r6.1), (d_t.1, (va_up d_t.2 3 (r6.2.2 3))))) else lp (fX7_clash_B18 k x1 d_t (fun (w5 : Int32 × Dat) => some ((w5.1), (w5.2.1, (va_up (va_up (va_up (va_up d_t.2 4 (w5.2.2 4)) 5 (w5.2.2 5)) 6 (w5.2.2 6)) 9 (w5.2.2 9)))))) k ((-1), 0, d_t)))
set_option maxHeartbeats 4000000 in
set_option maxRecDepth 100000 in
theorem mX7_clash_B18 {l : Launch} {p : Program} {e : Env} {s : State} {m : MethodId} {args : Array Value} {below : List Frame} {meth : Method} {c : Code} {D : va_G} {cs : Nat → ClassId} {sk : Nat → Nat} {A : Nat → Prop} {Q : State → Prop} (h_t : Nat) (q_t : Nat → Nat) (k : Nat) (x1 : Int32) (d_t : Dat) {rv : Int32 × Dat}  (K86 : Int32 × Dat → Option (Int32 × Dat))
    (M : MC p s m args meth c D cs sk A RX7 cX7_clash 5 (some .int)) (hA : ∀ q, s.heap.size ≤ q → A q) (hR : RetI p l e rm_X7_clash s m args below meth c D cX7_clash A Q (rv.1) [oX7 h_t q_t (rv.2.1), ((q_t 0), .inl (cs 0, 106, .inl (d_t.2 0))), ((q_t 3), .inl (cs 0, 3, .inl (rv.2.2 3))), ((q_t 4), .inl (cs 0, 12, .inl (rv.2.2 4))), ((q_t 5), .inl (cs 0, 12, .inl (rv.2.2 5))), ((q_t 6), .inl (cs 0, 12, .inl (rv.2.2 6))), ((q_t 9), .inl (cs 0, 6, .inl (rv.2.2 9)))])
    (hK86 : ∀ (w : Int32 × Dat), K86 w = some rv → ∀ (H : Heap) (locs : List Loc) (ls : Array Slot), va_P D vwCl [oX7 h_t q_t (w.2.1), ((q_t 0), .inl (cs 0, 106, .inl (d_t.2 0))), ((q_t 3), .inl (cs 0, 3, .inl (d_t.2 3))), ((q_t 4), .inl (cs 0, 12, .inl (w.2.2 4))), ((q_t 5), .inl (cs 0, 12, .inl (w.2.2 5))), ((q_t 6), .inl (cs 0, 12, .inl (w.2.2 6))), ((q_t 9), .inl (cs 0, 6, .inl (w.2.2 9)))] H → va_D A [oX7 h_t q_t (w.2.1), ((q_t 0), .inl (cs 0, 106, .inl (d_t.2 0))), ((q_t 3), .inl (cs 0, 3, .inl (d_t.2 3))), ((q_t 4), .inl (cs 0, 12, .inl (w.2.2 4))), ((q_t 5), .inl (cs 0, 12, .inl (w.2.2 5))), ((q_t 6), .inl (cs 0, 12, .inl (w.2.2 6))), ((q_t 9), .inl (cs 0, 6, .inl (w.2.2 9)))] → va_S A s.heap H locs → lv_has ls 5 [(2, .int (w.1))] → W p l e rm_X7_clash s m args below meth c H locs 0 0 Q (F0 m 86 ls []))
    : ∀ (n : Nat) (v : Int32 × Int32 × Dat), lp (fX7_clash_B18 k x1 d_t K86) n v = some rv → ∀ (H : Heap) (locs : List Loc) (ls : Array Slot), va_P D vwCl [oX7 h_t q_t (v.2.2.1), ((q_t 0), .inl (cs 0, 106, .inl (d_t.2 0))), ((q_t 3), .inl (cs 0, 3, .inl (d_t.2 3))), ((q_t 4), .inl (cs 0, 12, .inl (v.2.2.2 4))), ((q_t 5), .inl (cs 0, 12, .inl (v.2.2.2 5))), ((q_t 6), .inl (cs 0, 12, .inl (v.2.2.2 6))), ((q_t 9), .inl (cs 0, 6, .inl (v.2.2.2 9)))] H → va_D A [oX7 h_t q_t (v.2.2.1), ((q_t 0), .inl (cs 0, 106, .inl (d_t.2 0))), ((q_t 3), .inl (cs 0, 3, .inl (d_t.2 3))), ((q_t 4), .inl (cs 0, 12, .inl (v.2.2.2 4))), ((q_t 5), .inl (cs 0, 12, .inl (v.2.2.2 5))), ((q_t 6), .inl (cs 0, 12, .inl (v.2.2.2 6))), ((q_t 9), .inl (cs 0, 6, .inl (v.2.2.2 9)))] → va_S A s.heap H locs → lv_has ls 5 [(0, .ref h_t), (1, .int x1), (2, .int (v.1)), (3, .int (v.2.1))] → W p l e rm_X7_clash s m args below meth c H locs 0 0 Q (F0 m 18 ls []) := by
  obtain ⟨hx, hb, hml, hT, hown, hlk, hrt, hK, hN, hSE⟩ := id M
  refine lp_ind (fun rec ih v hf H locs ls hP hD hS hl => ?_)
  unfold fX7_clash_B18 at hf
  refine lv_iload_n hx hb dX7_clash_18 rfl (lv_at hl 3 rfl) ?_
  refine lv_aload_n hx hb dX7_clash_19 rfl (lv_at hl 0 rfl) ?_
  obtain ⟨r1, e2, hf⟩ := bind_some hf
  refine callVi (As := []) (rest := [.int (v.2.1)]) M (mX7_all l D cs sk h_t q_t k (v.2.2.1, (va_up (va_up (va_up (va_up d_t.2 4 (v.2.2.2 4)) 5 (v.2.2.2 5)) 6 (v.2.2.2 6)) 9 (v.2.2.2 9))) e2) mw_X7_182 ln_X7_all ⟨rfl, rfl, Nat.le_of_ble_eq_true rfl, Nat.le_of_ble_eq_true rfl⟩ hP hD hS hA [0, 1] (by decide) rfl rfl (q0 := 0) rfl rfl rfl ⟨Nat.zero_le _, Nat.zero_le _⟩ hl.1 rfl (Nat.le_of_ble_eq_true rfl) dX7_clash_20 (fun H locs hP hD hS => ?_)
  replace hP : va_P D vwCl [oX7 h_t q_t (v.2.2.1), ((q_t 0), .inl (cs 0, 106, .inl (d_t.2 0))), ((q_t 3), .inl (cs 0, 3, .inl (d_t.2 3))), ((q_t 4), .inl (cs 0, 12, .inl (v.2.2.2 4))), ((q_t 5), .inl (cs 0, 12, .inl (v.2.2.2 5))), ((q_t 6), .inl (cs 0, 12, .inl (v.2.2.2 6))), ((q_t 9), .inl (cs 0, 6, .inl (v.2.2.2 9)))] H := hP
  replace hD : va_D A [oX7 h_t q_t (v.2.2.1), ((q_t 0), .inl (cs 0, 106, .inl (d_t.2 0))), ((q_t 3), .inl (cs 0, 3, .inl (d_t.2 3))), ((q_t 4), .inl (cs 0, 12, .inl (v.2.2.2 4))), ((q_t 5), .inl (cs 0, 12, .inl (v.2.2.2 5))), ((q_t 6), .inl (cs 0, 12, .inl (v.2.2.2 6))), ((q_t 9), .inl (cs 0, 6, .inl (v.2.2.2 9)))] := hD
  have g4 := ite_some hf
  refine lv_icmp_gt (tgt := 86) hx hb dX7_clash_23 (by decide) (fun c3 => ?_) (fun c3 => ?_)
  · replace hf := g4.1 c3
    exact hK86 _ hf _ _ _ hP hD hS (lv_sub hl [2] rfl)
  · replace hf := g4.2 c3
    refine lv_aload_n hx hb dX7_clash_26 rfl (lv_at hl 0 rfl) ?_
    refine lv_aload_n hx hb dX7_clash_27 rfl (lv_at hl 0 rfl) ?_
    obtain ⟨r5, e6, hf⟩ := bind_some hf
    refine callVi (As := []) (rest := [.ref h_t]) M (mX7_all l D cs sk h_t q_t k (v.2.2.1, (va_up (va_up (va_up (va_up d_t.2 4 (v.2.2.2 4)) 5 (v.2.2.2 5)) 6 (v.2.2.2 6)) 9 (v.2.2.2 9))) e6) mw_X7_182 ln_X7_all ⟨rfl, rfl, Nat.le_of_ble_eq_true rfl, Nat.le_of_ble_eq_true rfl⟩ hP hD hS hA [0, 1] (by decide) rfl rfl (q0 := 0) rfl rfl rfl ⟨Nat.zero_le _, Nat.zero_le _⟩ hl.1 rfl (Nat.le_of_ble_eq_true rfl) dX7_clash_28 (fun H locs hP hD hS => ?_)
    replace hP : va_P D vwCl [oX7 h_t q_t (v.2.2.1), ((q_t 0), .inl (cs 0, 106, .inl (d_t.2 0))), ((q_t 3), .inl (cs 0, 3, .inl (d_t.2 3))), ((q_t 4), .inl (cs 0, 12, .inl (v.2.2.2 4))), ((q_t 5), .inl (cs 0, 12, .inl (v.2.2.2 5))), ((q_t 6), .inl (cs 0, 12, .inl (v.2.2.2 6))), ((q_t 9), .inl (cs 0, 6, .inl (v.2.2.2 9)))] H := hP
    replace hD : va_D A [oX7 h_t q_t (v.2.2.1), ((q_t 0), .inl (cs 0, 106, .inl (d_t.2 0))), ((q_t 3), .inl (cs 0, 3, .inl (d_t.2 3))), ((q_t 4), .inl (cs 0, 12, .inl (v.2.2.2 4))), ((q_t 5), .inl (cs 0, 12, .inl (v.2.2.2 5))), ((q_t 6), .inl (cs 0, 12, .inl (v.2.2.2 6))), ((q_t 9), .inl (cs 0, 6, .inl (v.2.2.2 9)))] := hD
    refine lv_iload_n hx hb dX7_clash_31 rfl (lv_at hl 3 rfl) ?_
    refine lv_iconst (v := (-1)) hx hb dX7_clash_32 rfl ?_
    refine lv_ixor hx hb dX7_clash_33 ?_
    refine lv_iand hx hb dX7_clash_34 ?_
    refine va_put (D := D) (ci := 7) (v := .int (r5 &&& ((v.2.1) ^^^ (-1)))) (ty := tyX7 8) (C := RX7) (T := TX7) (N := 23) hx hb hT iX7 tyX7 tyX7_ok nmX7 hown hK hP hD hS 0 rfl rfl 8 (by decide) (hT _ fw_X7_143) (fun _ h9 => h9) rfl (tyX7_ok 8 (by decide)) rfl rfl (Nat.le_of_ble_eq_true rfl) dX7_clash_35 (fun H locs hP hD hS => ?_)
    replace hP : va_P D vwCl [oX7 h_t q_t (upd v.2.2.1 8 (r5 &&& ((v.2.1) ^^^ (-1)))), ((q_t 0), .inl (cs 0, 106, .inl (d_t.2 0))), ((q_t 3), .inl (cs 0, 3, .inl (d_t.2 3))), ((q_t 4), .inl (cs 0, 12, .inl (v.2.2.2 4))), ((q_t 5), .inl (cs 0, 12, .inl (v.2.2.2 5))), ((q_t 6), .inl (cs 0, 12, .inl (v.2.2.2 6))), ((q_t 9), .inl (cs 0, 6, .inl (v.2.2.2 9)))] H := hP
    replace hD : va_D A [oX7 h_t q_t (upd v.2.2.1 8 (r5 &&& ((v.2.1) ^^^ (-1)))), ((q_t 0), .inl (cs 0, 106, .inl (d_t.2 0))), ((q_t 3), .inl (cs 0, 3, .inl (d_t.2 3))), ((q_t 4), .inl (cs 0, 12, .inl (v.2.2.2 4))), ((q_t 5), .inl (cs 0, 12, .inl (v.2.2.2 5))), ((q_t 6), .inl (cs 0, 12, .inl (v.2.2.2 6))), ((q_t 9), .inl (cs 0, 6, .inl (v.2.2.2 9)))] := hD
    refine lv_iload_n hx hb dX7_clash_38 rfl (lv_at hl 2 rfl) ?_
    refine lv_iconst (v := (-1)) hx hb dX7_clash_39 rfl ?_
    have g8 := ite_some hf
    refine lv_icmp_eq (tgt := 54) hx hb dX7_clash_40 (by decide) (fun c7 => ?_) (fun c7 => ?_)
    · replace hf := g8.1 c7
      refine lv_iconst (v := 1) hx hb dX7_clash_54 rfl ?_
      refine lv_goto (tgt := 59) hx hb dX7_clash_55 (by decide) ?_
      refine lv_istore (lv' := [(4, .int 1), (0, .ref h_t), (1, .int x1), (2, .int (v.1)), (3, .int (v.2.1))]) hx hb dX7_clash_59 hl (by decide) rfl (fun ls hl => ?_)
      refine lv_iload hx hb dX7_clash_61 (lv_at hl 0 rfl) ?_
      have g10 := ite_some hf
      refine lv_if_eq (tgt := 78) hx hb dX7_clash_63 (by decide) (fun c9 => ?_) (fun c9 => ?_)
      · replace hf := g10.1 c9
        refine lv_iload_n hx hb dX7_clash_78 rfl (lv_at hl 3 rfl) ?_
        refine lv_istore_n (lv' := [(2, .int (v.1)), (4, .int 1), (0, .ref h_t), (1, .int x1), (3, .int (v.2.1))]) hx hb dX7_clash_79 rfl hl (by decide) rfl (fun ls hl => ?_)
        refine lv_iinc (v := ((v.2.1) + 1)) (lv' := [(3, .int ((v.2.1) + 1)), (2, .int (v.1)), (4, .int 1), (0, .ref h_t), (1, .int x1)]) hx hb dX7_clash_80 hl (k := 4) rfl rfl (by decide) rfl (fun ls hl => ?_)
        refine lv_goto (tgt := 18) hx hb dX7_clash_83 (by decide) ?_
        exact ih _ hf _ _ _ hP hD hS (lv_sub hl [3, 4, 1, 0] rfl)
      · replace hf := g10.2 c9
        refine lv_aload_n hx hb dX7_clash_66 rfl (lv_at hl 1 rfl) ?_
        refine lv_iload_n hx hb dX7_clash_67 rfl (lv_at hl 2 rfl) ?_
        obtain ⟨r11, e12, hf⟩ := bind_some hf
        refine callVi (As := [.int x1]) (rest := []) M (mX7_canTune l D cs sk h_t q_t k ((upd v.2.2.1 8 (r5 &&& ((v.2.1) ^^^ (-1)))), (va_up (va_up (va_up (va_up d_t.2 4 (v.2.2.2 4)) 5 (v.2.2.2 5)) 6 (v.2.2.2 6)) 9 (v.2.2.2 9))) x1 e12) mw_X7_179 ln_X7_canTune ⟨rfl, rfl, Nat.le_of_ble_eq_true rfl, Nat.le_of_ble_eq_true rfl⟩ hP hD hS hA [0, 1, 3, 4, 5, 6] (by decide) rfl rfl (q0 := 0) rfl rfl rfl ⟨Nat.zero_le _, Nat.zero_le _⟩ hl.1 rfl (Nat.le_of_ble_eq_true rfl) dX7_clash_68 (fun H locs hP hD hS => ?_)
        replace hP : va_P D vwCl [oX7 h_t q_t (r11.2.1), ((q_t 0), .inl (cs 0, 106, .inl (d_t.2 0))), ((q_t 3), .inl (cs 0, 3, .inl (d_t.2 3))), ((q_t 4), .inl (cs 0, 12, .inl (r11.2.2 4))), ((q_t 5), .inl (cs 0, 12, .inl (r11.2.2 5))), ((q_t 6), .inl (cs 0, 12, .inl (r11.2.2 6))), ((q_t 9), .inl (cs 0, 6, .inl (r11.2.2 9)))] H := hP
        replace hD : va_D A [oX7 h_t q_t (r11.2.1), ((q_t 0), .inl (cs 0, 106, .inl (d_t.2 0))), ((q_t 3), .inl (cs 0, 3, .inl (d_t.2 3))), ((q_t 4), .inl (cs 0, 12, .inl (r11.2.2 4))), ((q_t 5), .inl (cs 0, 12, .inl (r11.2.2 5))), ((q_t 6), .inl (cs 0, 12, .inl (r11.2.2 6))), ((q_t 9), .inl (cs 0, 6, .inl (r11.2.2 9)))] := hD
        have g14 := ite_some hf
        refine lv_if_ne (tgt := 78) hx hb dX7_clash_71 (by decide) (fun c13 => ?_) (fun c13 => ?_)
        · replace hf := g14.2 c13
          refine lv_iload_n hx hb dX7_clash_78 rfl (lv_at hl 3 rfl) ?_
          refine lv_istore_n (lv' := [(2, .int (v.1)), (4, .int 1), (0, .ref h_t), (1, .int x1), (3, .int (v.2.1))]) hx hb dX7_clash_79 rfl hl (by decide) rfl (fun ls hl => ?_)
          refine lv_iinc (v := ((v.2.1) + 1)) (lv' := [(3, .int ((v.2.1) + 1)), (2, .int (v.1)), (4, .int 1), (0, .ref h_t), (1, .int x1)]) hx hb dX7_clash_80 hl (k := 4) rfl rfl (by decide) rfl (fun ls hl => ?_)
          refine lv_goto (tgt := 18) hx hb dX7_clash_83 (by decide) ?_
          exact ih _ hf _ _ _ hP hD hS (lv_sub hl [3, 4, 1, 0] rfl)
        · replace hf := g14.1 c13
          refine lv_iload_n hx hb dX7_clash_74 rfl (lv_at hl 4 rfl) ?_
          refine lv_goto (tgt := 79) hx hb dX7_clash_75 (by decide) ?_
          refine lv_istore_n (lv' := [(2, .int (v.2.1)), (4, .int 1), (0, .ref h_t), (1, .int x1), (3, .int (v.2.1))]) hx hb dX7_clash_79 rfl hl (by decide) rfl (fun ls hl => ?_)
          refine lv_iinc (v := ((v.2.1) + 1)) (lv' := [(3, .int ((v.2.1) + 1)), (2, .int (v.2.1)), (4, .int 1), (0, .ref h_t), (1, .int x1)]) hx hb dX7_clash_80 hl (k := 4) rfl rfl (by decide) rfl (fun ls hl => ?_)
          refine lv_goto (tgt := 18) hx hb dX7_clash_83 (by decide) ?_
          exact ih _ hf _ _ _ hP hD hS (lv_sub hl [3, 4, 1, 0] rfl)
    · replace hf := g8.2 c7
      refine lv_iload_n hx hb dX7_clash_43 rfl (lv_at hl 3 rfl) ?_
      obtain ⟨r15, e16, hf⟩ := bind_some hf
      refine callSi (As := [.int (v.2.1)]) (rest := []) M (mX7_manyIn l D cs sk  k (v.2.1) e16) mw_X7_185 ln_X7_manyIn ⟨rfl, rfl, Nat.le_of_ble_eq_true rfl, Nat.le_of_ble_eq_true rfl⟩ hP hD hS hA [] (by decide) rfl rfl ⟨Nat.zero_le _, Nat.zero_le _⟩ hl.1 rfl (Nat.le_of_ble_eq_true rfl) dX7_clash_44 (fun H locs hP hD hS => ?_)
      replace hP : va_P D vwCl [oX7 h_t q_t (upd v.2.2.1 8 (r5 &&& ((v.2.1) ^^^ (-1)))), ((q_t 0), .inl (cs 0, 106, .inl (d_t.2 0))), ((q_t 3), .inl (cs 0, 3, .inl (d_t.2 3))), ((q_t 4), .inl (cs 0, 12, .inl (v.2.2.2 4))), ((q_t 5), .inl (cs 0, 12, .inl (v.2.2.2 5))), ((q_t 6), .inl (cs 0, 12, .inl (v.2.2.2 6))), ((q_t 9), .inl (cs 0, 6, .inl (v.2.2.2 9)))] H := hP
      replace hD : va_D A [oX7 h_t q_t (upd v.2.2.1 8 (r5 &&& ((v.2.1) ^^^ (-1)))), ((q_t 0), .inl (cs 0, 106, .inl (d_t.2 0))), ((q_t 3), .inl (cs 0, 3, .inl (d_t.2 3))), ((q_t 4), .inl (cs 0, 12, .inl (v.2.2.2 4))), ((q_t 5), .inl (cs 0, 12, .inl (v.2.2.2 5))), ((q_t 6), .inl (cs 0, 12, .inl (v.2.2.2 6))), ((q_t 9), .inl (cs 0, 6, .inl (v.2.2.2 9)))] := hD
      refine lv_iload_n hx hb dX7_clash_47 rfl (lv_at hl 2 rfl) ?_
      obtain ⟨r17, e18, hf⟩ := bind_some hf
      refine callSi (As := [.int (v.1)]) (rest := [.int r15]) M (mX7_manyIn l D cs sk  k (v.1) e18) mw_X7_185 ln_X7_manyIn ⟨rfl, rfl, Nat.le_of_ble_eq_true rfl, Nat.le_of_ble_eq_true rfl⟩ hP hD hS hA [] (by decide) rfl rfl ⟨Nat.zero_le _, Nat.zero_le _⟩ hl.1 rfl (Nat.le_of_ble_eq_true rfl) dX7_clash_48 (fun H locs hP hD hS => ?_)
      replace hP : va_P D vwCl [oX7 h_t q_t (upd v.2.2.1 8 (r5 &&& ((v.2.1) ^^^ (-1)))), ((q_t 0), .inl (cs 0, 106, .inl (d_t.2 0))), ((q_t 3), .inl (cs 0, 3, .inl (d_t.2 3))), ((q_t 4), .inl (cs 0, 12, .inl (v.2.2.2 4))), ((q_t 5), .inl (cs 0, 12, .inl (v.2.2.2 5))), ((q_t 6), .inl (cs 0, 12, .inl (v.2.2.2 6))), ((q_t 9), .inl (cs 0, 6, .inl (v.2.2.2 9)))] H := hP
      replace hD : va_D A [oX7 h_t q_t (upd v.2.2.1 8 (r5 &&& ((v.2.1) ^^^ (-1)))), ((q_t 0), .inl (cs 0, 106, .inl (d_t.2 0))), ((q_t 3), .inl (cs 0, 3, .inl (d_t.2 3))), ((q_t 4), .inl (cs 0, 12, .inl (v.2.2.2 4))), ((q_t 5), .inl (cs 0, 12, .inl (v.2.2.2 5))), ((q_t 6), .inl (cs 0, 12, .inl (v.2.2.2 6))), ((q_t 9), .inl (cs 0, 6, .inl (v.2.2.2 9)))] := hD
      have g20 := ite_some hf
      refine lv_icmp_ge (tgt := 58) hx hb dX7_clash_51 (by decide) (fun c19 => ?_) (fun c19 => ?_)
      · replace hf := g20.1 c19
        refine lv_iconst (v := 0) hx hb dX7_clash_58 rfl ?_
        refine lv_istore (lv' := [(4, .int 0), (0, .ref h_t), (1, .int x1), (2, .int (v.1)), (3, .int (v.2.1))]) hx hb dX7_clash_59 hl (by decide) rfl (fun ls hl => ?_)
        refine lv_iload hx hb dX7_clash_61 (lv_at hl 0 rfl) ?_
        have g22 := ite_some hf
        refine lv_if_eq (tgt := 78) hx hb dX7_clash_63 (by decide) (fun c21 => ?_) (fun c21 => ?_)
        · replace hf := g22.1 c21
          refine lv_iload_n hx hb dX7_clash_78 rfl (lv_at hl 3 rfl) ?_
          refine lv_istore_n (lv' := [(2, .int (v.1)), (4, .int 0), (0, .ref h_t), (1, .int x1), (3, .int (v.2.1))]) hx hb dX7_clash_79 rfl hl (by decide) rfl (fun ls hl => ?_)
          refine lv_iinc (v := ((v.2.1) + 1)) (lv' := [(3, .int ((v.2.1) + 1)), (2, .int (v.1)), (4, .int 0), (0, .ref h_t), (1, .int x1)]) hx hb dX7_clash_80 hl (k := 4) rfl rfl (by decide) rfl (fun ls hl => ?_)
          refine lv_goto (tgt := 18) hx hb dX7_clash_83 (by decide) ?_
          exact ih _ hf _ _ _ hP hD hS (lv_sub hl [3, 4, 1, 0] rfl)
        · replace hf := g22.2 c21
          refine lv_aload_n hx hb dX7_clash_66 rfl (lv_at hl 1 rfl) ?_
          refine lv_iload_n hx hb dX7_clash_67 rfl (lv_at hl 2 rfl) ?_
          obtain ⟨r23, e24, hf⟩ := bind_some hf
          refine callVi (As := [.int x1]) (rest := []) M (mX7_canTune l D cs sk h_t q_t k ((upd v.2.2.1 8 (r5 &&& ((v.2.1) ^^^ (-1)))), (va_up (va_up (va_up (va_up d_t.2 4 (v.2.2.2 4)) 5 (v.2.2.2 5)) 6 (v.2.2.2 6)) 9 (v.2.2.2 9))) x1 e24) mw_X7_179 ln_X7_canTune ⟨rfl, rfl, Nat.le_of_ble_eq_true rfl, Nat.le_of_ble_eq_true rfl⟩ hP hD hS hA [0, 1, 3, 4, 5, 6] (by decide) rfl rfl (q0 := 0) rfl rfl rfl ⟨Nat.zero_le _, Nat.zero_le _⟩ hl.1 rfl (Nat.le_of_ble_eq_true rfl) dX7_clash_68 (fun H locs hP hD hS => ?_)
          replace hP : va_P D vwCl [oX7 h_t q_t (r23.2.1), ((q_t 0), .inl (cs 0, 106, .inl (d_t.2 0))), ((q_t 3), .inl (cs 0, 3, .inl (d_t.2 3))), ((q_t 4), .inl (cs 0, 12, .inl (r23.2.2 4))), ((q_t 5), .inl (cs 0, 12, .inl (r23.2.2 5))), ((q_t 6), .inl (cs 0, 12, .inl (r23.2.2 6))), ((q_t 9), .inl (cs 0, 6, .inl (r23.2.2 9)))] H := hP
          replace hD : va_D A [oX7 h_t q_t (r23.2.1), ((q_t 0), .inl (cs 0, 106, .inl (d_t.2 0))), ((q_t 3), .inl (cs 0, 3, .inl (d_t.2 3))), ((q_t 4), .inl (cs 0, 12, .inl (r23.2.2 4))), ((q_t 5), .inl (cs 0, 12, .inl (r23.2.2 5))), ((q_t 6), .inl (cs 0, 12, .inl (r23.2.2 6))), ((q_t 9), .inl (cs 0, 6, .inl (r23.2.2 9)))] := hD
          have g26 := ite_some hf
          refine lv_if_ne (tgt := 78) hx hb dX7_clash_71 (by decide) (fun c25 => ?_) (fun c25 => ?_)
          · replace hf := g26.2 c25
            refine lv_iload_n hx hb dX7_clash_78 rfl (lv_at hl 3 rfl) ?_
            refine lv_istore_n (lv' := [(2, .int (v.1)), (4, .int 0), (0, .ref h_t), (1, .int x1), (3, .int (v.2.1))]) hx hb dX7_clash_79 rfl hl (by decide) rfl (fun ls hl => ?_)
            refine lv_iinc (v := ((v.2.1) + 1)) (lv' := [(3, .int ((v.2.1) + 1)), (2, .int (v.1)), (4, .int 0), (0, .ref h_t), (1, .int x1)]) hx hb dX7_clash_80 hl (k := 4) rfl rfl (by decide) rfl (fun ls hl => ?_)
            refine lv_goto (tgt := 18) hx hb dX7_clash_83 (by decide) ?_
            exact ih _ hf _ _ _ hP hD hS (lv_sub hl [3, 4, 1, 0] rfl)
          · replace hf := g26.1 c25
            refine lv_iload_n hx hb dX7_clash_74 rfl (lv_at hl 4 rfl) ?_
            refine lv_goto (tgt := 79) hx hb dX7_clash_75 (by decide) ?_
            refine lv_istore_n (lv' := [(2, .int (v.2.1)), (4, .int 0), (0, .ref h_t), (1, .int x1), (3, .int (v.2.1))]) hx hb dX7_clash_79 rfl hl (by decide) rfl (fun ls hl => ?_)
            refine lv_iinc (v := ((v.2.1) + 1)) (lv' := [(3, .int ((v.2.1) + 1)), (2, .int (v.2.1)), (4, .int 0), (0, .ref h_t), (1, .int x1)]) hx hb dX7_clash_80 hl (k := 4) rfl rfl (by decide) rfl (fun ls hl => ?_)
            refine lv_goto (tgt := 18) hx hb dX7_clash_83 (by decide) ?_
            exact ih _ hf _ _ _ hP hD hS (lv_sub hl [3, 4, 1, 0] rfl)
      · replace hf := g20.2 c19
        refine lv_iconst (v := 1) hx hb dX7_clash_54 rfl ?_
        refine lv_goto (tgt := 59) hx hb dX7_clash_55 (by decide) ?_
        refine lv_istore (lv' := [(4, .int 1), (0, .ref h_t), (1, .int x1), (2, .int (v.1)), (3, .int (v.2.1))]) hx hb dX7_clash_59 hl (by decide) rfl (fun ls hl => ?_)
        refine lv_iload hx hb dX7_clash_61 (lv_at hl 0 rfl) ?_
        have g28 := ite_some hf
        refine lv_if_eq (tgt := 78) hx hb dX7_clash_63 (by decide) (fun c27 => ?_) (fun c27 => ?_)
        · replace hf := g28.1 c27
          refine lv_iload_n hx hb dX7_clash_78 rfl (lv_at hl 3 rfl) ?_
          refine lv_istore_n (lv' := [(2, .int (v.1)), (4, .int 1), (0, .ref h_t), (1, .int x1), (3, .int (v.2.1))]) hx hb dX7_clash_79 rfl hl (by decide) rfl (fun ls hl => ?_)
          refine lv_iinc (v := ((v.2.1) + 1)) (lv' := [(3, .int ((v.2.1) + 1)), (2, .int (v.1)), (4, .int 1), (0, .ref h_t), (1, .int x1)]) hx hb dX7_clash_80 hl (k := 4) rfl rfl (by decide) rfl (fun ls hl => ?_)
          refine lv_goto (tgt := 18) hx hb dX7_clash_83 (by decide) ?_
          exact ih _ hf _ _ _ hP hD hS (lv_sub hl [3, 4, 1, 0] rfl)
        · replace hf := g28.2 c27
          refine lv_aload_n hx hb dX7_clash_66 rfl (lv_at hl 1 rfl) ?_
          refine lv_iload_n hx hb dX7_clash_67 rfl (lv_at hl 2 rfl) ?_
          obtain ⟨r29, e30, hf⟩ := bind_some hf
          refine callVi (As := [.int x1]) (rest := []) M (mX7_canTune l D cs sk h_t q_t k ((upd v.2.2.1 8 (r5 &&& ((v.2.1) ^^^ (-1)))), (va_up (va_up (va_up (va_up d_t.2 4 (v.2.2.2 4)) 5 (v.2.2.2 5)) 6 (v.2.2.2 6)) 9 (v.2.2.2 9))) x1 e30) mw_X7_179 ln_X7_canTune ⟨rfl, rfl, Nat.le_of_ble_eq_true rfl, Nat.le_of_ble_eq_true rfl⟩ hP hD hS hA [0, 1, 3, 4, 5, 6] (by decide) rfl rfl (q0 := 0) rfl rfl rfl ⟨Nat.zero_le _, Nat.zero_le _⟩ hl.1 rfl (Nat.le_of_ble_eq_true rfl) dX7_clash_68 (fun H locs hP hD hS => ?_)
          replace hP : va_P D vwCl [oX7 h_t q_t (r29.2.1), ((q_t 0), .inl (cs 0, 106, .inl (d_t.2 0))), ((q_t 3), .inl (cs 0, 3, .inl (d_t.2 3))), ((q_t 4), .inl (cs 0, 12, .inl (r29.2.2 4))), ((q_t 5), .inl (cs 0, 12, .inl (r29.2.2 5))), ((q_t 6), .inl (cs 0, 12, .inl (r29.2.2 6))), ((q_t 9), .inl (cs 0, 6, .inl (r29.2.2 9)))] H := hP
          replace hD : va_D A [oX7 h_t q_t (r29.2.1), ((q_t 0), .inl (cs 0, 106, .inl (d_t.2 0))), ((q_t 3), .inl (cs 0, 3, .inl (d_t.2 3))), ((q_t 4), .inl (cs 0, 12, .inl (r29.2.2 4))), ((q_t 5), .inl (cs 0, 12, .inl (r29.2.2 5))), ((q_t 6), .inl (cs 0, 12, .inl (r29.2.2 6))), ((q_t 9), .inl (cs 0, 6, .inl (r29.2.2 9)))] := hD
          have g32 := ite_some hf
          refine lv_if_ne (tgt := 78) hx hb dX7_clash_71 (by decide) (fun c31 => ?_) (fun c31 => ?_)
          · replace hf := g32.2 c31
            refine lv_iload_n hx hb dX7_clash_78 rfl (lv_at hl 3 rfl) ?_
            refine lv_istore_n (lv' := [(2, .int (v.1)), (4, .int 1), (0, .ref h_t), (1, .int x1), (3, .int (v.2.1))]) hx hb dX7_clash_79 rfl hl (by decide) rfl (fun ls hl => ?_)
            refine lv_iinc (v := ((v.2.1) + 1)) (lv' := [(3, .int ((v.2.1) + 1)), (2, .int (v.1)), (4, .int 1), (0, .ref h_t), (1, .int x1)]) hx hb dX7_clash_80 hl (k := 4) rfl rfl (by decide) rfl (fun ls hl => ?_)
            refine lv_goto (tgt := 18) hx hb dX7_clash_83 (by decide) ?_
            exact ih _ hf _ _ _ hP hD hS (lv_sub hl [3, 4, 1, 0] rfl)
          · replace hf := g32.1 c31
            refine lv_iload_n hx hb dX7_clash_74 rfl (lv_at hl 4 rfl) ?_
            refine lv_goto (tgt := 79) hx hb dX7_clash_75 (by decide) ?_
            refine lv_istore_n (lv' := [(2, .int (v.2.1)), (4, .int 1), (0, .ref h_t), (1, .int x1), (3, .int (v.2.1))]) hx hb dX7_clash_79 rfl hl (by decide) rfl (fun ls hl => ?_)
            refine lv_iinc (v := ((v.2.1) + 1)) (lv' := [(3, .int ((v.2.1) + 1)), (2, .int (v.2.1)), (4, .int 1), (0, .ref h_t), (1, .int x1)]) hx hb dX7_clash_80 hl (k := 4) rfl rfl (by decide) rfl (fun ls hl => ?_)
            refine lv_goto (tgt := 18) hx hb dX7_clash_83 (by decide) ?_
            exact ih _ hf _ _ _ hP hD hS (lv_sub hl [3, 4, 1, 0] rfl)
set_option maxHeartbeats 4000000 in
set_option maxRecDepth 100000 in
theorem mX7_clash (l : Launch) (D : va_G) (cs : Nat → ClassId) (sk : Nat → Nat) (h_t : Nat) (q_t : Nat → Nat) (k : Nat) (d_t : Dat) (x1 : Int32) {rv : Int32 × Dat} (hf : fX7_clash k d_t x1 = some rv) : CTi l yX7_clash (Cond.code yX7_clash cX7_clash 5 (some .int) :: gtbl) rm_X7_clash D cs sk [.ref h_t, .int x1] [oX7 h_t q_t (d_t.1), ((q_t 0), .inl (cs 0, 106, .inl (d_t.2 0))), ((q_t 3), .inl (cs 0, 3, .inl (d_t.2 3))), ((q_t 4), .inl (cs 0, 12, .inl (d_t.2 4))), ((q_t 5), .inl (cs 0, 12, .inl (d_t.2 5))), ((q_t 6), .inl (cs 0, 12, .inl (d_t.2 6))), ((q_t 9), .inl (cs 0, 6, .inl (d_t.2 9)))] (rv.1) [oX7 h_t q_t (rv.2.1), ((q_t 0), .inl (cs 0, 106, .inl (d_t.2 0))), ((q_t 3), .inl (cs 0, 3, .inl (rv.2.2 3))), ((q_t 4), .inl (cs 0, 12, .inl (rv.2.2 4))), ((q_t 5), .inl (cs 0, 12, .inl (rv.2.2 5))), ((q_t 6), .inl (cs 0, 12, .inl (rv.2.2 6))), ((q_t 9), .inl (cs 0, 6, .inl (rv.2.2 9)))] := by
  refine CTi.of RX7 (by decide +kernel) rfl (Nat.le_of_ble_eq_true rfl) (fun p e s m args below meth c A Q ls M hA hR hl hP hD hS => ?_)
  obtain ⟨hx, hb, hml, hT, hown, hlk, hrt, hK, hN, hSE⟩ := id M
  replace hl : lv_has ls 5 [(0, .ref h_t), (1, .int x1)] := hl
  unfold fX7_clash at hf
  refine lv_iload_n hx hb dX7_clash_0 rfl (lv_at hl 1 rfl) ?_
  obtain ⟨r1, e2, hf⟩ := bind_some hf
  refine callSi (As := [.int x1]) (rest := []) M (mX7_isParts l D cs sk  k x1 e2) mw_X7_170 ln_X7_isParts ⟨rfl, rfl, Nat.le_of_ble_eq_true rfl, Nat.le_of_ble_eq_true rfl⟩ hP hD hS hA [] (by decide) rfl rfl ⟨Nat.zero_le _, Nat.zero_le _⟩ hl.1 rfl (Nat.le_of_ble_eq_true rfl) dX7_clash_1 (fun H locs hP hD hS => ?_)
  replace hP : va_P D vwCl [oX7 h_t q_t (d_t.1), ((q_t 0), .inl (cs 0, 106, .inl (d_t.2 0))), ((q_t 3), .inl (cs 0, 3, .inl (d_t.2 3))), ((q_t 4), .inl (cs 0, 12, .inl (d_t.2 4))), ((q_t 5), .inl (cs 0, 12, .inl (d_t.2 5))), ((q_t 6), .inl (cs 0, 12, .inl (d_t.2 6))), ((q_t 9), .inl (cs 0, 6, .inl (d_t.2 9)))] H := hP
  replace hD : va_D A [oX7 h_t q_t (d_t.1), ((q_t 0), .inl (cs 0, 106, .inl (d_t.2 0))), ((q_t 3), .inl (cs 0, 3, .inl (d_t.2 3))), ((q_t 4), .inl (cs 0, 12, .inl (d_t.2 4))), ((q_t 5), .inl (cs 0, 12, .inl (d_t.2 5))), ((q_t 6), .inl (cs 0, 12, .inl (d_t.2 6))), ((q_t 9), .inl (cs 0, 6, .inl (d_t.2 9)))] := hD
  have g4 := ite_some hf
  refine lv_if_ne (tgt := 14) hx hb dX7_clash_4 (by decide) (fun c3 => ?_) (fun c3 => ?_)
  · replace hf := g4.2 c3
    refine lv_iconst (v := (-1)) hx hb dX7_clash_14 rfl ?_
    refine lv_istore_n (lv' := [(2, .int (-1)), (0, .ref h_t), (1, .int x1)]) hx hb dX7_clash_15 rfl hl (by decide) rfl (fun ls hl => ?_)
    refine lv_iconst (v := 0) hx hb dX7_clash_16 rfl ?_
    refine lv_istore_n (lv' := [(3, .int 0), (2, .int (-1)), (0, .ref h_t), (1, .int x1)]) hx hb dX7_clash_17 rfl hl (by decide) rfl (fun ls hl => ?_)
    refine mX7_clash_B18 h_t q_t k x1 d_t _ M hA hR (fun w5 hf H locs ls hP hD hS hl => ?_) _ _ hf _ _ _ hP hD hS (lv_sub hl [2, 3, 1, 0] rfl)
    · refine lv_iload_n hx hb dX7_clash_86 rfl (lv_at hl 0 rfl) ?_
      have e9 := Option.some.inj hf
      subst e9
      exact hR _ _ _ _ dX7_clash_87 hP hS
  · replace hf := g4.1 c3
    refine lv_aload_n hx hb dX7_clash_7 rfl (lv_at hl 0 rfl) ?_
    refine lv_bipush (v := (-2)) hx hb dX7_clash_8 rfl ?_
    obtain ⟨r6, e7, hf⟩ := bind_some hf
    refine callVi (As := [.int (-2)]) (rest := []) M (mX7_bad l D cs sk h_t q_t k d_t (-2) e7) mw_X7_76 ln_X7_bad ⟨rfl, rfl, Nat.le_of_ble_eq_true rfl, Nat.le_of_ble_eq_true rfl⟩ hP hD hS hA [0, 2] (by decide) rfl rfl (q0 := 0) rfl rfl rfl ⟨Nat.zero_le _, Nat.zero_le _⟩ hl.1 rfl (Nat.le_of_ble_eq_true rfl) dX7_clash_10 (fun H locs hP hD hS => ?_)
    replace hP : va_P D vwCl [oX7 h_t q_t (d_t.1), ((q_t 0), .inl (cs 0, 106, .inl (d_t.2 0))), ((q_t 3), .inl (cs 0, 3, .inl (r6.2.2 3))), ((q_t 4), .inl (cs 0, 12, .inl (d_t.2 4))), ((q_t 5), .inl (cs 0, 12, .inl (d_t.2 5))), ((q_t 6), .inl (cs 0, 12, .inl (d_t.2 6))), ((q_t 9), .inl (cs 0, 6, .inl (d_t.2 9)))] H := hP
    replace hD : va_D A [oX7 h_t q_t (d_t.1), ((q_t 0), .inl (cs 0, 106, .inl (d_t.2 0))), ((q_t 3), .inl (cs 0, 3, .inl (r6.2.2 3))), ((q_t 4), .inl (cs 0, 12, .inl (d_t.2 4))), ((q_t 5), .inl (cs 0, 12, .inl (d_t.2 5))), ((q_t 6), .inl (cs 0, 12, .inl (d_t.2 6))), ((q_t 9), .inl (cs 0, 6, .inl (d_t.2 9)))] := hD
    have e9 := Option.some.inj hf
    subst e9
    exact hR _ _ _ _ dX7_clash_13 hP hS
abbrev rm_X7_leftOut : Room := { frames := 6, cells := 0, slots := 0, locals := 138 }
def fX7_leftOut_B21 (k : Nat) (x1 : Int32) (d_t : Dat) (K80 : Int32 × Dat → Option (Int32 × Dat)) (rec : Int32 × Int32 × Dat → Option (Int32 × Dat)) (v : Int32 × Int32 × Dat) : Option (Int32 × Dat) :=
  (fX7_all k (v.2.2.1, (va_up (va_up (va_up (va_up d_t.2 4 (v.2.2.2 4)) 5 (v.2.2.2 5)) 6 (v.2.2.2 6)) 9 (v.2.2.2 9)))).bind (fun (r1 : Int32) => (if r1 < (v.2.1) then K80 ((v.1), (v.2.2.1, (va_up (va_up (va_up (va_up d_t.2 4 (v.2.2.2 4)) 5 (v.2.2.2 5)) 6 (v.2.2.2 6)) 9 (v.2.2.2 9)))) else (fX7_manyIn k (v.1)).bind (fun (r5 : Int32) => (fX7_manyIn k (v.2.1)).bind (fun (r7 : Int32) => (if 0 < (r5 - r7) then (fX7_canTune k ((upd v.2.2.1 8 (v.2.1)), (va_up (va_up (va_up (va_up d_t.2 4 (v.2.2.2 4)) 5 (v.2.2.2 5)) 6 (v.2.2.2 6)) 9 (v.2.2.2 9))) x1).bind (fun (r11 : Int32 × Dat) => (if (r11.1) = 0 then rec ((v.1), ((v.2.1) + 1), (r11.2.1, (va_up (va_up (va_up (va_up d_t.2 4 (r11.2.2 4)) 5 (r11.2.2 5)) 6 (r11.2.2 6)) 9 (r11.2.2 9)))) else rec ((v.2.1), ((v.2.1) + 1), (r11.2.1, (va_up (va_up (va_up (va_up d_t.2 4 (r11.2.2 4)) 5 (r11.2.2 5)) 6 (r11.2.2 6)) 9 (r11.2.2 9)))))) else (if (r5 - r7) = 0 then (if (v.1) ≤ (v.2.1) then rec ((v.1), ((v.2.1) + 1), ((upd v.2.2.1 8 (v.2.1)), (va_up (va_up (va_up (va_up d_t.2 4 (v.2.2.2 4)) 5 (v.2.2.2 5)) 6 (v.2.2.2 6)) 9 (v.2.2.2 9)))) else (fX7_canTune k ((upd v.2.2.1 8 (v.2.1)), (va_up (va_up (va_up (va_up d_t.2 4 (v.2.2.2 4)) 5 (v.2.2.2 5)) 6 (v.2.2.2 6)) 9 (v.2.2.2 9))) x1).bind (fun (r19 : Int32 × Dat) => (if (r19.1) = 0 then rec ((v.1), ((v.2.1) + 1), (r19.2.1, (va_up (va_up (va_up (va_up d_t.2 4 (r19.2.2 4)) 5 (r19.2.2 5)) 6 (r19.2.2 6)) 9 (r19.2.2 9)))) else rec ((v.2.1), ((v.2.1) + 1), (r19.2.1, (va_up (va_up (va_up (va_up d_t.2 4 (r19.2.2 4)) 5 (r19.2.2 5)) 6 (r19.2.2 6)) 9 (r19.2.2 9))))))) else rec ((v.1), ((v.2.1) + 1), ((upd v.2.2.1 8 (v.2.1)), (va_up (va_up (va_up (va_up d_t.2 4 (v.2.2.2 4)) 5 (v.2.2.2 5)) 6 (v.2.2.2 6)) 9 (v.2.2.2 9))))))))))
def fX7_leftOut (k : Nat) (d_t : Dat) (x1 : Int32) : Option (Int32 × Dat) :=
  (fX7_isParts k x1).bind (fun (r1 : Int32) => (if r1 = 0 then (fX7_bad k d_t (-2)).bind (fun (r8 : Int32 × Dat) => some ((r8.1), (d_t.1, (va_up d_t.2 3 (r8.2.2 3))))) else (fX7_all k d_t).bind (fun (r5 : Int32) => lp (fX7_leftOut_B21 k x1 d_t (fun (w7 : Int32 × Dat) => some ((w7.1), (w7.2.1, (va_up (va_up (va_up (va_up d_t.2 4 (w7.2.2 4)) 5 (w7.2.2 5)) 6 (w7.2.2 6)) 9 (w7.2.2 9)))))) k (r5, 0, d_t))))
set_option maxHeartbeats 4000000 in
set_option maxRecDepth 100000 in
theorem mX7_leftOut_B21 {l : Launch} {p : Program} {e : Env} {s : State} {m : MethodId} {args : Array Value} {below : List Frame} {meth : Method} {c : Code} {D : va_G} {cs : Nat → ClassId} {sk : Nat → Nat} {A : Nat → Prop} {Q : State → Prop} (h_t : Nat) (q_t : Nat → Nat) (k : Nat) (x1 : Int32) (d_t : Dat) {rv : Int32 × Dat}  (K80 : Int32 × Dat → Option (Int32 × Dat))
    (M : MC p s m args meth c D cs sk A RX7 cX7_leftOut 5 (some .int)) (hA : ∀ q, s.heap.size ≤ q → A q) (hR : RetI p l e rm_X7_leftOut s m args below meth c D cX7_leftOut A Q (rv.1) [oX7 h_t q_t (rv.2.1), ((q_t 0), .inl (cs 0, 106, .inl (d_t.2 0))), ((q_t 3), .inl (cs 0, 3, .inl (rv.2.2 3))), ((q_t 4), .inl (cs 0, 12, .inl (rv.2.2 4))), ((q_t 5), .inl (cs 0, 12, .inl (rv.2.2 5))), ((q_t 6), .inl (cs 0, 12, .inl (rv.2.2 6))), ((q_t 9), .inl (cs 0, 6, .inl (rv.2.2 9)))])
    (hK80 : ∀ (w : Int32 × Dat), K80 w = some rv → ∀ (H : Heap) (locs : List Loc) (ls : Array Slot), va_P D vwCl [oX7 h_t q_t (w.2.1), ((q_t 0), .inl (cs 0, 106, .inl (d_t.2 0))), ((q_t 3), .inl (cs 0, 3, .inl (d_t.2 3))), ((q_t 4), .inl (cs 0, 12, .inl (w.2.2 4))), ((q_t 5), .inl (cs 0, 12, .inl (w.2.2 5))), ((q_t 6), .inl (cs 0, 12, .inl (w.2.2 6))), ((q_t 9), .inl (cs 0, 6, .inl (w.2.2 9)))] H → va_D A [oX7 h_t q_t (w.2.1), ((q_t 0), .inl (cs 0, 106, .inl (d_t.2 0))), ((q_t 3), .inl (cs 0, 3, .inl (d_t.2 3))), ((q_t 4), .inl (cs 0, 12, .inl (w.2.2 4))), ((q_t 5), .inl (cs 0, 12, .inl (w.2.2 5))), ((q_t 6), .inl (cs 0, 12, .inl (w.2.2 6))), ((q_t 9), .inl (cs 0, 6, .inl (w.2.2 9)))] → va_S A s.heap H locs → lv_has ls 5 [(2, .int (w.1))] → W p l e rm_X7_leftOut s m args below meth c H locs 0 0 Q (F0 m 80 ls []))
    : ∀ (n : Nat) (v : Int32 × Int32 × Dat), lp (fX7_leftOut_B21 k x1 d_t K80) n v = some rv → ∀ (H : Heap) (locs : List Loc) (ls : Array Slot), va_P D vwCl [oX7 h_t q_t (v.2.2.1), ((q_t 0), .inl (cs 0, 106, .inl (d_t.2 0))), ((q_t 3), .inl (cs 0, 3, .inl (d_t.2 3))), ((q_t 4), .inl (cs 0, 12, .inl (v.2.2.2 4))), ((q_t 5), .inl (cs 0, 12, .inl (v.2.2.2 5))), ((q_t 6), .inl (cs 0, 12, .inl (v.2.2.2 6))), ((q_t 9), .inl (cs 0, 6, .inl (v.2.2.2 9)))] H → va_D A [oX7 h_t q_t (v.2.2.1), ((q_t 0), .inl (cs 0, 106, .inl (d_t.2 0))), ((q_t 3), .inl (cs 0, 3, .inl (d_t.2 3))), ((q_t 4), .inl (cs 0, 12, .inl (v.2.2.2 4))), ((q_t 5), .inl (cs 0, 12, .inl (v.2.2.2 5))), ((q_t 6), .inl (cs 0, 12, .inl (v.2.2.2 6))), ((q_t 9), .inl (cs 0, 6, .inl (v.2.2.2 9)))] → va_S A s.heap H locs → lv_has ls 5 [(0, .ref h_t), (1, .int x1), (2, .int (v.1)), (3, .int (v.2.1))] → W p l e rm_X7_leftOut s m args below meth c H locs 0 0 Q (F0 m 21 ls []) := by
  obtain ⟨hx, hb, hml, hT, hown, hlk, hrt, hK, hN, hSE⟩ := id M
  refine lp_ind (fun rec ih v hf H locs ls hP hD hS hl => ?_)
  unfold fX7_leftOut_B21 at hf
  refine lv_iload_n hx hb dX7_leftOut_21 rfl (lv_at hl 3 rfl) ?_
  refine lv_aload_n hx hb dX7_leftOut_22 rfl (lv_at hl 0 rfl) ?_
  obtain ⟨r1, e2, hf⟩ := bind_some hf
  refine callVi (As := []) (rest := [.int (v.2.1)]) M (mX7_all l D cs sk h_t q_t k (v.2.2.1, (va_up (va_up (va_up (va_up d_t.2 4 (v.2.2.2 4)) 5 (v.2.2.2 5)) 6 (v.2.2.2 6)) 9 (v.2.2.2 9))) e2) mw_X7_182 ln_X7_all ⟨rfl, rfl, Nat.le_of_ble_eq_true rfl, Nat.le_of_ble_eq_true rfl⟩ hP hD hS hA [0, 1] (by decide) rfl rfl (q0 := 0) rfl rfl rfl ⟨Nat.zero_le _, Nat.zero_le _⟩ hl.1 rfl (Nat.le_of_ble_eq_true rfl) dX7_leftOut_23 (fun H locs hP hD hS => ?_)
  replace hP : va_P D vwCl [oX7 h_t q_t (v.2.2.1), ((q_t 0), .inl (cs 0, 106, .inl (d_t.2 0))), ((q_t 3), .inl (cs 0, 3, .inl (d_t.2 3))), ((q_t 4), .inl (cs 0, 12, .inl (v.2.2.2 4))), ((q_t 5), .inl (cs 0, 12, .inl (v.2.2.2 5))), ((q_t 6), .inl (cs 0, 12, .inl (v.2.2.2 6))), ((q_t 9), .inl (cs 0, 6, .inl (v.2.2.2 9)))] H := hP
  replace hD : va_D A [oX7 h_t q_t (v.2.2.1), ((q_t 0), .inl (cs 0, 106, .inl (d_t.2 0))), ((q_t 3), .inl (cs 0, 3, .inl (d_t.2 3))), ((q_t 4), .inl (cs 0, 12, .inl (v.2.2.2 4))), ((q_t 5), .inl (cs 0, 12, .inl (v.2.2.2 5))), ((q_t 6), .inl (cs 0, 12, .inl (v.2.2.2 6))), ((q_t 9), .inl (cs 0, 6, .inl (v.2.2.2 9)))] := hD
  have g4 := ite_some hf
  refine lv_icmp_gt (tgt := 80) hx hb dX7_leftOut_26 (by decide) (fun c3 => ?_) (fun c3 => ?_)
  · replace hf := g4.1 c3
    exact hK80 _ hf _ _ _ hP hD hS (lv_sub hl [2] rfl)
  · replace hf := g4.2 c3
    refine lv_aload_n hx hb dX7_leftOut_29 rfl (lv_at hl 0 rfl) ?_
    refine lv_iload_n hx hb dX7_leftOut_30 rfl (lv_at hl 3 rfl) ?_
    refine va_put (D := D) (ci := 7) (v := .int (v.2.1)) (ty := tyX7 8) (C := RX7) (T := TX7) (N := 23) hx hb hT iX7 tyX7 tyX7_ok nmX7 hown hK hP hD hS 0 rfl rfl 8 (by decide) (hT _ fw_X7_143) (fun _ h9 => h9) rfl (tyX7_ok 8 (by decide)) rfl rfl (Nat.le_of_ble_eq_true rfl) dX7_leftOut_31 (fun H locs hP hD hS => ?_)
    replace hP : va_P D vwCl [oX7 h_t q_t (upd v.2.2.1 8 (v.2.1)), ((q_t 0), .inl (cs 0, 106, .inl (d_t.2 0))), ((q_t 3), .inl (cs 0, 3, .inl (d_t.2 3))), ((q_t 4), .inl (cs 0, 12, .inl (v.2.2.2 4))), ((q_t 5), .inl (cs 0, 12, .inl (v.2.2.2 5))), ((q_t 6), .inl (cs 0, 12, .inl (v.2.2.2 6))), ((q_t 9), .inl (cs 0, 6, .inl (v.2.2.2 9)))] H := hP
    replace hD : va_D A [oX7 h_t q_t (upd v.2.2.1 8 (v.2.1)), ((q_t 0), .inl (cs 0, 106, .inl (d_t.2 0))), ((q_t 3), .inl (cs 0, 3, .inl (d_t.2 3))), ((q_t 4), .inl (cs 0, 12, .inl (v.2.2.2 4))), ((q_t 5), .inl (cs 0, 12, .inl (v.2.2.2 5))), ((q_t 6), .inl (cs 0, 12, .inl (v.2.2.2 6))), ((q_t 9), .inl (cs 0, 6, .inl (v.2.2.2 9)))] := hD
    refine lv_iload_n hx hb dX7_leftOut_34 rfl (lv_at hl 2 rfl) ?_
    obtain ⟨r5, e6, hf⟩ := bind_some hf
    refine callSi (As := [.int (v.1)]) (rest := []) M (mX7_manyIn l D cs sk  k (v.1) e6) mw_X7_185 ln_X7_manyIn ⟨rfl, rfl, Nat.le_of_ble_eq_true rfl, Nat.le_of_ble_eq_true rfl⟩ hP hD hS hA [] (by decide) rfl rfl ⟨Nat.zero_le _, Nat.zero_le _⟩ hl.1 rfl (Nat.le_of_ble_eq_true rfl) dX7_leftOut_35 (fun H locs hP hD hS => ?_)
    replace hP : va_P D vwCl [oX7 h_t q_t (upd v.2.2.1 8 (v.2.1)), ((q_t 0), .inl (cs 0, 106, .inl (d_t.2 0))), ((q_t 3), .inl (cs 0, 3, .inl (d_t.2 3))), ((q_t 4), .inl (cs 0, 12, .inl (v.2.2.2 4))), ((q_t 5), .inl (cs 0, 12, .inl (v.2.2.2 5))), ((q_t 6), .inl (cs 0, 12, .inl (v.2.2.2 6))), ((q_t 9), .inl (cs 0, 6, .inl (v.2.2.2 9)))] H := hP
    replace hD : va_D A [oX7 h_t q_t (upd v.2.2.1 8 (v.2.1)), ((q_t 0), .inl (cs 0, 106, .inl (d_t.2 0))), ((q_t 3), .inl (cs 0, 3, .inl (d_t.2 3))), ((q_t 4), .inl (cs 0, 12, .inl (v.2.2.2 4))), ((q_t 5), .inl (cs 0, 12, .inl (v.2.2.2 5))), ((q_t 6), .inl (cs 0, 12, .inl (v.2.2.2 6))), ((q_t 9), .inl (cs 0, 6, .inl (v.2.2.2 9)))] := hD
    refine lv_iload_n hx hb dX7_leftOut_38 rfl (lv_at hl 3 rfl) ?_
    obtain ⟨r7, e8, hf⟩ := bind_some hf
    refine callSi (As := [.int (v.2.1)]) (rest := [.int r5]) M (mX7_manyIn l D cs sk  k (v.2.1) e8) mw_X7_185 ln_X7_manyIn ⟨rfl, rfl, Nat.le_of_ble_eq_true rfl, Nat.le_of_ble_eq_true rfl⟩ hP hD hS hA [] (by decide) rfl rfl ⟨Nat.zero_le _, Nat.zero_le _⟩ hl.1 rfl (Nat.le_of_ble_eq_true rfl) dX7_leftOut_39 (fun H locs hP hD hS => ?_)
    replace hP : va_P D vwCl [oX7 h_t q_t (upd v.2.2.1 8 (v.2.1)), ((q_t 0), .inl (cs 0, 106, .inl (d_t.2 0))), ((q_t 3), .inl (cs 0, 3, .inl (d_t.2 3))), ((q_t 4), .inl (cs 0, 12, .inl (v.2.2.2 4))), ((q_t 5), .inl (cs 0, 12, .inl (v.2.2.2 5))), ((q_t 6), .inl (cs 0, 12, .inl (v.2.2.2 6))), ((q_t 9), .inl (cs 0, 6, .inl (v.2.2.2 9)))] H := hP
    replace hD : va_D A [oX7 h_t q_t (upd v.2.2.1 8 (v.2.1)), ((q_t 0), .inl (cs 0, 106, .inl (d_t.2 0))), ((q_t 3), .inl (cs 0, 3, .inl (d_t.2 3))), ((q_t 4), .inl (cs 0, 12, .inl (v.2.2.2 4))), ((q_t 5), .inl (cs 0, 12, .inl (v.2.2.2 5))), ((q_t 6), .inl (cs 0, 12, .inl (v.2.2.2 6))), ((q_t 9), .inl (cs 0, 6, .inl (v.2.2.2 9)))] := hD
    refine lv_isub hx hb dX7_leftOut_42 ?_
    refine lv_istore (lv' := [(4, .int (r5 - r7)), (0, .ref h_t), (1, .int x1), (2, .int (v.1)), (3, .int (v.2.1))]) hx hb dX7_leftOut_43 hl (by decide) rfl (fun ls hl => ?_)
    refine lv_iload hx hb dX7_leftOut_45 (lv_at hl 0 rfl) ?_
    have g10 := ite_some hf
    refine lv_if_gt (tgt := 60) hx hb dX7_leftOut_47 (by decide) (fun c9 => ?_) (fun c9 => ?_)
    · replace hf := g10.1 c9
      refine lv_aload_n hx hb dX7_leftOut_60 rfl (lv_at hl 1 rfl) ?_
      refine lv_iload_n hx hb dX7_leftOut_61 rfl (lv_at hl 2 rfl) ?_
      obtain ⟨r11, e12, hf⟩ := bind_some hf
      refine callVi (As := [.int x1]) (rest := []) M (mX7_canTune l D cs sk h_t q_t k ((upd v.2.2.1 8 (v.2.1)), (va_up (va_up (va_up (va_up d_t.2 4 (v.2.2.2 4)) 5 (v.2.2.2 5)) 6 (v.2.2.2 6)) 9 (v.2.2.2 9))) x1 e12) mw_X7_179 ln_X7_canTune ⟨rfl, rfl, Nat.le_of_ble_eq_true rfl, Nat.le_of_ble_eq_true rfl⟩ hP hD hS hA [0, 1, 3, 4, 5, 6] (by decide) rfl rfl (q0 := 0) rfl rfl rfl ⟨Nat.zero_le _, Nat.zero_le _⟩ hl.1 rfl (Nat.le_of_ble_eq_true rfl) dX7_leftOut_62 (fun H locs hP hD hS => ?_)
      replace hP : va_P D vwCl [oX7 h_t q_t (r11.2.1), ((q_t 0), .inl (cs 0, 106, .inl (d_t.2 0))), ((q_t 3), .inl (cs 0, 3, .inl (d_t.2 3))), ((q_t 4), .inl (cs 0, 12, .inl (r11.2.2 4))), ((q_t 5), .inl (cs 0, 12, .inl (r11.2.2 5))), ((q_t 6), .inl (cs 0, 12, .inl (r11.2.2 6))), ((q_t 9), .inl (cs 0, 6, .inl (r11.2.2 9)))] H := hP
      replace hD : va_D A [oX7 h_t q_t (r11.2.1), ((q_t 0), .inl (cs 0, 106, .inl (d_t.2 0))), ((q_t 3), .inl (cs 0, 3, .inl (d_t.2 3))), ((q_t 4), .inl (cs 0, 12, .inl (r11.2.2 4))), ((q_t 5), .inl (cs 0, 12, .inl (r11.2.2 5))), ((q_t 6), .inl (cs 0, 12, .inl (r11.2.2 6))), ((q_t 9), .inl (cs 0, 6, .inl (r11.2.2 9)))] := hD
      have g14 := ite_some hf
      refine lv_if_eq (tgt := 72) hx hb dX7_leftOut_65 (by decide) (fun c13 => ?_) (fun c13 => ?_)
      · replace hf := g14.1 c13
        refine lv_iload_n hx hb dX7_leftOut_72 rfl (lv_at hl 3 rfl) ?_
        refine lv_istore_n (lv' := [(2, .int (v.1)), (4, .int (r5 - r7)), (0, .ref h_t), (1, .int x1), (3, .int (v.2.1))]) hx hb dX7_leftOut_73 rfl hl (by decide) rfl (fun ls hl => ?_)
        refine lv_iinc (v := ((v.2.1) + 1)) (lv' := [(3, .int ((v.2.1) + 1)), (2, .int (v.1)), (4, .int (r5 - r7)), (0, .ref h_t), (1, .int x1)]) hx hb dX7_leftOut_74 hl (k := 4) rfl rfl (by decide) rfl (fun ls hl => ?_)
        refine lv_goto (tgt := 21) hx hb dX7_leftOut_77 (by decide) ?_
        exact ih _ hf _ _ _ hP hD hS (lv_sub hl [3, 4, 1, 0] rfl)
      · replace hf := g14.2 c13
        refine lv_iload_n hx hb dX7_leftOut_68 rfl (lv_at hl 4 rfl) ?_
        refine lv_goto (tgt := 73) hx hb dX7_leftOut_69 (by decide) ?_
        refine lv_istore_n (lv' := [(2, .int (v.2.1)), (4, .int (r5 - r7)), (0, .ref h_t), (1, .int x1), (3, .int (v.2.1))]) hx hb dX7_leftOut_73 rfl hl (by decide) rfl (fun ls hl => ?_)
        refine lv_iinc (v := ((v.2.1) + 1)) (lv' := [(3, .int ((v.2.1) + 1)), (2, .int (v.2.1)), (4, .int (r5 - r7)), (0, .ref h_t), (1, .int x1)]) hx hb dX7_leftOut_74 hl (k := 4) rfl rfl (by decide) rfl (fun ls hl => ?_)
        refine lv_goto (tgt := 21) hx hb dX7_leftOut_77 (by decide) ?_
        exact ih _ hf _ _ _ hP hD hS (lv_sub hl [3, 4, 1, 0] rfl)
    · replace hf := g10.2 c9
      refine lv_iload hx hb dX7_leftOut_50 (lv_at hl 0 rfl) ?_
      have g16 := ite_some hf
      refine lv_if_ne (tgt := 72) hx hb dX7_leftOut_52 (by decide) (fun c15 => ?_) (fun c15 => ?_)
      · replace hf := g16.2 c15
        refine lv_iload_n hx hb dX7_leftOut_72 rfl (lv_at hl 3 rfl) ?_
        refine lv_istore_n (lv' := [(2, .int (v.1)), (4, .int (r5 - r7)), (0, .ref h_t), (1, .int x1), (3, .int (v.2.1))]) hx hb dX7_leftOut_73 rfl hl (by decide) rfl (fun ls hl => ?_)
        refine lv_iinc (v := ((v.2.1) + 1)) (lv' := [(3, .int ((v.2.1) + 1)), (2, .int (v.1)), (4, .int (r5 - r7)), (0, .ref h_t), (1, .int x1)]) hx hb dX7_leftOut_74 hl (k := 4) rfl rfl (by decide) rfl (fun ls hl => ?_)
        refine lv_goto (tgt := 21) hx hb dX7_leftOut_77 (by decide) ?_
        exact ih _ hf _ _ _ hP hD hS (lv_sub hl [3, 4, 1, 0] rfl)
      · replace hf := g16.1 c15
        refine lv_iload_n hx hb dX7_leftOut_55 rfl (lv_at hl 4 rfl) ?_
        refine lv_iload_n hx hb dX7_leftOut_56 rfl (lv_at hl 3 rfl) ?_
        have g18 := ite_some hf
        refine lv_icmp_ge (tgt := 72) hx hb dX7_leftOut_57 (by decide) (fun c17 => ?_) (fun c17 => ?_)
        · replace hf := g18.1 c17
          refine lv_iload_n hx hb dX7_leftOut_72 rfl (lv_at hl 3 rfl) ?_
          refine lv_istore_n (lv' := [(2, .int (v.1)), (4, .int (r5 - r7)), (0, .ref h_t), (1, .int x1), (3, .int (v.2.1))]) hx hb dX7_leftOut_73 rfl hl (by decide) rfl (fun ls hl => ?_)
          refine lv_iinc (v := ((v.2.1) + 1)) (lv' := [(3, .int ((v.2.1) + 1)), (2, .int (v.1)), (4, .int (r5 - r7)), (0, .ref h_t), (1, .int x1)]) hx hb dX7_leftOut_74 hl (k := 4) rfl rfl (by decide) rfl (fun ls hl => ?_)
          refine lv_goto (tgt := 21) hx hb dX7_leftOut_77 (by decide) ?_
          exact ih _ hf _ _ _ hP hD hS (lv_sub hl [3, 4, 1, 0] rfl)
        · replace hf := g18.2 c17
          refine lv_aload_n hx hb dX7_leftOut_60 rfl (lv_at hl 1 rfl) ?_
          refine lv_iload_n hx hb dX7_leftOut_61 rfl (lv_at hl 2 rfl) ?_
          obtain ⟨r19, e20, hf⟩ := bind_some hf
          refine callVi (As := [.int x1]) (rest := []) M (mX7_canTune l D cs sk h_t q_t k ((upd v.2.2.1 8 (v.2.1)), (va_up (va_up (va_up (va_up d_t.2 4 (v.2.2.2 4)) 5 (v.2.2.2 5)) 6 (v.2.2.2 6)) 9 (v.2.2.2 9))) x1 e20) mw_X7_179 ln_X7_canTune ⟨rfl, rfl, Nat.le_of_ble_eq_true rfl, Nat.le_of_ble_eq_true rfl⟩ hP hD hS hA [0, 1, 3, 4, 5, 6] (by decide) rfl rfl (q0 := 0) rfl rfl rfl ⟨Nat.zero_le _, Nat.zero_le _⟩ hl.1 rfl (Nat.le_of_ble_eq_true rfl) dX7_leftOut_62 (fun H locs hP hD hS => ?_)
          replace hP : va_P D vwCl [oX7 h_t q_t (r19.2.1), ((q_t 0), .inl (cs 0, 106, .inl (d_t.2 0))), ((q_t 3), .inl (cs 0, 3, .inl (d_t.2 3))), ((q_t 4), .inl (cs 0, 12, .inl (r19.2.2 4))), ((q_t 5), .inl (cs 0, 12, .inl (r19.2.2 5))), ((q_t 6), .inl (cs 0, 12, .inl (r19.2.2 6))), ((q_t 9), .inl (cs 0, 6, .inl (r19.2.2 9)))] H := hP
          replace hD : va_D A [oX7 h_t q_t (r19.2.1), ((q_t 0), .inl (cs 0, 106, .inl (d_t.2 0))), ((q_t 3), .inl (cs 0, 3, .inl (d_t.2 3))), ((q_t 4), .inl (cs 0, 12, .inl (r19.2.2 4))), ((q_t 5), .inl (cs 0, 12, .inl (r19.2.2 5))), ((q_t 6), .inl (cs 0, 12, .inl (r19.2.2 6))), ((q_t 9), .inl (cs 0, 6, .inl (r19.2.2 9)))] := hD
          have g22 := ite_some hf
          refine lv_if_eq (tgt := 72) hx hb dX7_leftOut_65 (by decide) (fun c21 => ?_) (fun c21 => ?_)
          · replace hf := g22.1 c21
            refine lv_iload_n hx hb dX7_leftOut_72 rfl (lv_at hl 3 rfl) ?_
            refine lv_istore_n (lv' := [(2, .int (v.1)), (4, .int (r5 - r7)), (0, .ref h_t), (1, .int x1), (3, .int (v.2.1))]) hx hb dX7_leftOut_73 rfl hl (by decide) rfl (fun ls hl => ?_)
            refine lv_iinc (v := ((v.2.1) + 1)) (lv' := [(3, .int ((v.2.1) + 1)), (2, .int (v.1)), (4, .int (r5 - r7)), (0, .ref h_t), (1, .int x1)]) hx hb dX7_leftOut_74 hl (k := 4) rfl rfl (by decide) rfl (fun ls hl => ?_)
            refine lv_goto (tgt := 21) hx hb dX7_leftOut_77 (by decide) ?_
            exact ih _ hf _ _ _ hP hD hS (lv_sub hl [3, 4, 1, 0] rfl)
          · replace hf := g22.2 c21
            refine lv_iload_n hx hb dX7_leftOut_68 rfl (lv_at hl 4 rfl) ?_
            refine lv_goto (tgt := 73) hx hb dX7_leftOut_69 (by decide) ?_
            refine lv_istore_n (lv' := [(2, .int (v.2.1)), (4, .int (r5 - r7)), (0, .ref h_t), (1, .int x1), (3, .int (v.2.1))]) hx hb dX7_leftOut_73 rfl hl (by decide) rfl (fun ls hl => ?_)
            refine lv_iinc (v := ((v.2.1) + 1)) (lv' := [(3, .int ((v.2.1) + 1)), (2, .int (v.2.1)), (4, .int (r5 - r7)), (0, .ref h_t), (1, .int x1)]) hx hb dX7_leftOut_74 hl (k := 4) rfl rfl (by decide) rfl (fun ls hl => ?_)
            refine lv_goto (tgt := 21) hx hb dX7_leftOut_77 (by decide) ?_
            exact ih _ hf _ _ _ hP hD hS (lv_sub hl [3, 4, 1, 0] rfl)
set_option maxHeartbeats 4000000 in
set_option maxRecDepth 100000 in
theorem mX7_leftOut (l : Launch) (D : va_G) (cs : Nat → ClassId) (sk : Nat → Nat) (h_t : Nat) (q_t : Nat → Nat) (k : Nat) (d_t : Dat) (x1 : Int32) {rv : Int32 × Dat} (hf : fX7_leftOut k d_t x1 = some rv) : CTi l yX7_leftOut (Cond.code yX7_leftOut cX7_leftOut 5 (some .int) :: gtbl) rm_X7_leftOut D cs sk [.ref h_t, .int x1] [oX7 h_t q_t (d_t.1), ((q_t 0), .inl (cs 0, 106, .inl (d_t.2 0))), ((q_t 3), .inl (cs 0, 3, .inl (d_t.2 3))), ((q_t 4), .inl (cs 0, 12, .inl (d_t.2 4))), ((q_t 5), .inl (cs 0, 12, .inl (d_t.2 5))), ((q_t 6), .inl (cs 0, 12, .inl (d_t.2 6))), ((q_t 9), .inl (cs 0, 6, .inl (d_t.2 9)))] (rv.1) [oX7 h_t q_t (rv.2.1), ((q_t 0), .inl (cs 0, 106, .inl (d_t.2 0))), ((q_t 3), .inl (cs 0, 3, .inl (rv.2.2 3))), ((q_t 4), .inl (cs 0, 12, .inl (rv.2.2 4))), ((q_t 5), .inl (cs 0, 12, .inl (rv.2.2 5))), ((q_t 6), .inl (cs 0, 12, .inl (rv.2.2 6))), ((q_t 9), .inl (cs 0, 6, .inl (rv.2.2 9)))] := by
  refine CTi.of RX7 (by decide +kernel) rfl (Nat.le_of_ble_eq_true rfl) (fun p e s m args below meth c A Q ls M hA hR hl hP hD hS => ?_)
  obtain ⟨hx, hb, hml, hT, hown, hlk, hrt, hK, hN, hSE⟩ := id M
  replace hl : lv_has ls 5 [(0, .ref h_t), (1, .int x1)] := hl
  unfold fX7_leftOut at hf
  refine lv_iload_n hx hb dX7_leftOut_0 rfl (lv_at hl 1 rfl) ?_
  obtain ⟨r1, e2, hf⟩ := bind_some hf
  refine callSi (As := [.int x1]) (rest := []) M (mX7_isParts l D cs sk  k x1 e2) mw_X7_170 ln_X7_isParts ⟨rfl, rfl, Nat.le_of_ble_eq_true rfl, Nat.le_of_ble_eq_true rfl⟩ hP hD hS hA [] (by decide) rfl rfl ⟨Nat.zero_le _, Nat.zero_le _⟩ hl.1 rfl (Nat.le_of_ble_eq_true rfl) dX7_leftOut_1 (fun H locs hP hD hS => ?_)
  replace hP : va_P D vwCl [oX7 h_t q_t (d_t.1), ((q_t 0), .inl (cs 0, 106, .inl (d_t.2 0))), ((q_t 3), .inl (cs 0, 3, .inl (d_t.2 3))), ((q_t 4), .inl (cs 0, 12, .inl (d_t.2 4))), ((q_t 5), .inl (cs 0, 12, .inl (d_t.2 5))), ((q_t 6), .inl (cs 0, 12, .inl (d_t.2 6))), ((q_t 9), .inl (cs 0, 6, .inl (d_t.2 9)))] H := hP
  replace hD : va_D A [oX7 h_t q_t (d_t.1), ((q_t 0), .inl (cs 0, 106, .inl (d_t.2 0))), ((q_t 3), .inl (cs 0, 3, .inl (d_t.2 3))), ((q_t 4), .inl (cs 0, 12, .inl (d_t.2 4))), ((q_t 5), .inl (cs 0, 12, .inl (d_t.2 5))), ((q_t 6), .inl (cs 0, 12, .inl (d_t.2 6))), ((q_t 9), .inl (cs 0, 6, .inl (d_t.2 9)))] := hD
  have g4 := ite_some hf
  refine lv_if_ne (tgt := 14) hx hb dX7_leftOut_4 (by decide) (fun c3 => ?_) (fun c3 => ?_)
  · replace hf := g4.2 c3
    refine lv_aload_n hx hb dX7_leftOut_14 rfl (lv_at hl 0 rfl) ?_
    obtain ⟨r5, e6, hf⟩ := bind_some hf
    refine callVi (As := []) (rest := []) M (mX7_all l D cs sk h_t q_t k d_t e6) mw_X7_182 ln_X7_all ⟨rfl, rfl, Nat.le_of_ble_eq_true rfl, Nat.le_of_ble_eq_true rfl⟩ hP hD hS hA [0, 1] (by decide) rfl rfl (q0 := 0) rfl rfl rfl ⟨Nat.zero_le _, Nat.zero_le _⟩ hl.1 rfl (Nat.le_of_ble_eq_true rfl) dX7_leftOut_15 (fun H locs hP hD hS => ?_)
    replace hP : va_P D vwCl [oX7 h_t q_t (d_t.1), ((q_t 0), .inl (cs 0, 106, .inl (d_t.2 0))), ((q_t 3), .inl (cs 0, 3, .inl (d_t.2 3))), ((q_t 4), .inl (cs 0, 12, .inl (d_t.2 4))), ((q_t 5), .inl (cs 0, 12, .inl (d_t.2 5))), ((q_t 6), .inl (cs 0, 12, .inl (d_t.2 6))), ((q_t 9), .inl (cs 0, 6, .inl (d_t.2 9)))] H := hP
    replace hD : va_D A [oX7 h_t q_t (d_t.1), ((q_t 0), .inl (cs 0, 106, .inl (d_t.2 0))), ((q_t 3), .inl (cs 0, 3, .inl (d_t.2 3))), ((q_t 4), .inl (cs 0, 12, .inl (d_t.2 4))), ((q_t 5), .inl (cs 0, 12, .inl (d_t.2 5))), ((q_t 6), .inl (cs 0, 12, .inl (d_t.2 6))), ((q_t 9), .inl (cs 0, 6, .inl (d_t.2 9)))] := hD
    refine lv_istore_n (lv' := [(2, .int r5), (0, .ref h_t), (1, .int x1)]) hx hb dX7_leftOut_18 rfl hl (by decide) rfl (fun ls hl => ?_)
    refine lv_iconst (v := 0) hx hb dX7_leftOut_19 rfl ?_
    refine lv_istore_n (lv' := [(3, .int 0), (2, .int r5), (0, .ref h_t), (1, .int x1)]) hx hb dX7_leftOut_20 rfl hl (by decide) rfl (fun ls hl => ?_)
    refine mX7_leftOut_B21 h_t q_t k x1 d_t _ M hA hR (fun w7 hf H locs ls hP hD hS hl => ?_) _ _ hf _ _ _ hP hD hS (lv_sub hl [2, 3, 1, 0] rfl)
    · refine lv_iload_n hx hb dX7_leftOut_80 rfl (lv_at hl 0 rfl) ?_
      have e9 := Option.some.inj hf
      subst e9
      exact hR _ _ _ _ dX7_leftOut_81 hP hS
  · replace hf := g4.1 c3
    refine lv_aload_n hx hb dX7_leftOut_7 rfl (lv_at hl 0 rfl) ?_
    refine lv_bipush (v := (-2)) hx hb dX7_leftOut_8 rfl ?_
    obtain ⟨r8, e9, hf⟩ := bind_some hf
    refine callVi (As := [.int (-2)]) (rest := []) M (mX7_bad l D cs sk h_t q_t k d_t (-2) e9) mw_X7_76 ln_X7_bad ⟨rfl, rfl, Nat.le_of_ble_eq_true rfl, Nat.le_of_ble_eq_true rfl⟩ hP hD hS hA [0, 2] (by decide) rfl rfl (q0 := 0) rfl rfl rfl ⟨Nat.zero_le _, Nat.zero_le _⟩ hl.1 rfl (Nat.le_of_ble_eq_true rfl) dX7_leftOut_10 (fun H locs hP hD hS => ?_)
    replace hP : va_P D vwCl [oX7 h_t q_t (d_t.1), ((q_t 0), .inl (cs 0, 106, .inl (d_t.2 0))), ((q_t 3), .inl (cs 0, 3, .inl (r8.2.2 3))), ((q_t 4), .inl (cs 0, 12, .inl (d_t.2 4))), ((q_t 5), .inl (cs 0, 12, .inl (d_t.2 5))), ((q_t 6), .inl (cs 0, 12, .inl (d_t.2 6))), ((q_t 9), .inl (cs 0, 6, .inl (d_t.2 9)))] H := hP
    replace hD : va_D A [oX7 h_t q_t (d_t.1), ((q_t 0), .inl (cs 0, 106, .inl (d_t.2 0))), ((q_t 3), .inl (cs 0, 3, .inl (r8.2.2 3))), ((q_t 4), .inl (cs 0, 12, .inl (d_t.2 4))), ((q_t 5), .inl (cs 0, 12, .inl (d_t.2 5))), ((q_t 6), .inl (cs 0, 12, .inl (d_t.2 6))), ((q_t 9), .inl (cs 0, 6, .inl (d_t.2 9)))] := hD
    have e9 := Option.some.inj hf
    subst e9
    exact hR _ _ _ _ dX7_leftOut_13 hP hS
abbrev rm_X7_follow : Room := { frames := 2, cells := 0, slots := 0, locals := 46 }
def fX7_follow (k : Nat) (d_t : Dat) (x1 : Int32) (x2 : Int32) : Option (Int32 × Dat) :=
  (fX7_isPlayer k d_t x1).bind (fun (r1 : Int32) => (if r1 = 0 then (fX7_bad k d_t (-2)).bind (fun (r5 : Int32 × Dat) => some ((r5.1), (d_t.1, (va_up d_t.2 3 (r5.2.2 3))))) else (fX7_isPlayer k d_t x2).bind (fun (r7 : Int32) => (if r7 = 0 then (fX7_bad k d_t (-2)).bind (fun (r13 : Int32 × Dat) => some ((r13.1), (d_t.1, (va_up d_t.2 3 (r13.2.2 3))))) else (fX7_of k d_t x1 4).bind (fun (r11 : Int32) => chk 106 ((24 + (5 * x1)) + 4) (some (r11, (d_t.1, (va_up d_t.2 0 (upd (d_t.2 0) ((24 + (5 * x1)) + 4).toNatClampNeg x2))))))))))
set_option maxHeartbeats 4000000 in
set_option maxRecDepth 100000 in
theorem mX7_follow (l : Launch) (D : va_G) (cs : Nat → ClassId) (sk : Nat → Nat) (h_t : Nat) (q_t : Nat → Nat) (k : Nat) (d_t : Dat) (x1 : Int32) (x2 : Int32) {rv : Int32 × Dat} (hf : fX7_follow k d_t x1 x2 = some rv) : CTi l yX7_follow (Cond.code yX7_follow cX7_follow 4 (some .int) :: gtbl) rm_X7_follow D cs sk [.ref h_t, .int x1, .int x2] [oX7 h_t q_t (d_t.1), ((q_t 0), .inl (cs 0, 106, .inl (d_t.2 0))), ((q_t 3), .inl (cs 0, 3, .inl (d_t.2 3)))] (rv.1) [oX7 h_t q_t (d_t.1), ((q_t 0), .inl (cs 0, 106, .inl (rv.2.2 0))), ((q_t 3), .inl (cs 0, 3, .inl (rv.2.2 3)))] := by
  refine CTi.of RX7 (by decide +kernel) rfl (Nat.le_of_ble_eq_true rfl) (fun p e s m args below meth c A Q ls M hA hR hl hP hD hS => ?_)
  obtain ⟨hx, hb, hml, hT, hown, hlk, hrt, hK, hN, hSE⟩ := id M
  replace hl : lv_has ls 4 [(0, .ref h_t), (1, .int x1), (2, .int x2)] := hl
  unfold fX7_follow at hf
  refine lv_aload_n hx hb dX7_follow_0 rfl (lv_at hl 0 rfl) ?_
  refine lv_iload_n hx hb dX7_follow_1 rfl (lv_at hl 1 rfl) ?_
  obtain ⟨r1, e2, hf⟩ := bind_some hf
  refine callVi (As := [.int x1]) (rest := []) M (mX7_isPlayer l D cs sk h_t q_t k d_t x1 e2) mw_X7_115 ln_X7_isPlayer ⟨rfl, rfl, Nat.le_of_ble_eq_true rfl, Nat.le_of_ble_eq_true rfl⟩ hP hD hS hA [0, 1] (by decide) rfl rfl (q0 := 0) rfl rfl rfl ⟨Nat.zero_le _, Nat.zero_le _⟩ hl.1 rfl (Nat.le_of_ble_eq_true rfl) dX7_follow_2 (fun H locs hP hD hS => ?_)
  replace hP : va_P D vwCl [oX7 h_t q_t (d_t.1), ((q_t 0), .inl (cs 0, 106, .inl (d_t.2 0))), ((q_t 3), .inl (cs 0, 3, .inl (d_t.2 3)))] H := hP
  replace hD : va_D A [oX7 h_t q_t (d_t.1), ((q_t 0), .inl (cs 0, 106, .inl (d_t.2 0))), ((q_t 3), .inl (cs 0, 3, .inl (d_t.2 3)))] := hD
  have g4 := ite_some hf
  refine lv_if_eq (tgt := 16) hx hb dX7_follow_5 (by decide) (fun c3 => ?_) (fun c3 => ?_)
  · replace hf := g4.1 c3
    refine lv_aload_n hx hb dX7_follow_16 rfl (lv_at hl 0 rfl) ?_
    refine lv_bipush (v := (-2)) hx hb dX7_follow_17 rfl ?_
    obtain ⟨r5, e6, hf⟩ := bind_some hf
    refine callVi (As := [.int (-2)]) (rest := []) M (mX7_bad l D cs sk h_t q_t k d_t (-2) e6) mw_X7_76 ln_X7_bad ⟨rfl, rfl, Nat.le_of_ble_eq_true rfl, Nat.le_of_ble_eq_true rfl⟩ hP hD hS hA [0, 2] (by decide) rfl rfl (q0 := 0) rfl rfl rfl ⟨Nat.zero_le _, Nat.zero_le _⟩ hl.1 rfl (Nat.le_of_ble_eq_true rfl) dX7_follow_19 (fun H locs hP hD hS => ?_)
    replace hP : va_P D vwCl [oX7 h_t q_t (d_t.1), ((q_t 0), .inl (cs 0, 106, .inl (d_t.2 0))), ((q_t 3), .inl (cs 0, 3, .inl (r5.2.2 3)))] H := hP
    replace hD : va_D A [oX7 h_t q_t (d_t.1), ((q_t 0), .inl (cs 0, 106, .inl (d_t.2 0))), ((q_t 3), .inl (cs 0, 3, .inl (r5.2.2 3)))] := hD
    have e9 := Option.some.inj hf
    subst e9
    exact hR _ _ _ _ dX7_follow_22 hP hS
  · replace hf := g4.2 c3
    refine lv_aload_n hx hb dX7_follow_8 rfl (lv_at hl 0 rfl) ?_
    refine lv_iload_n hx hb dX7_follow_9 rfl (lv_at hl 2 rfl) ?_
    obtain ⟨r7, e8, hf⟩ := bind_some hf
    refine callVi (As := [.int x2]) (rest := []) M (mX7_isPlayer l D cs sk h_t q_t k d_t x2 e8) mw_X7_115 ln_X7_isPlayer ⟨rfl, rfl, Nat.le_of_ble_eq_true rfl, Nat.le_of_ble_eq_true rfl⟩ hP hD hS hA [0, 1] (by decide) rfl rfl (q0 := 0) rfl rfl rfl ⟨Nat.zero_le _, Nat.zero_le _⟩ hl.1 rfl (Nat.le_of_ble_eq_true rfl) dX7_follow_10 (fun H locs hP hD hS => ?_)
    replace hP : va_P D vwCl [oX7 h_t q_t (d_t.1), ((q_t 0), .inl (cs 0, 106, .inl (d_t.2 0))), ((q_t 3), .inl (cs 0, 3, .inl (d_t.2 3)))] H := hP
    replace hD : va_D A [oX7 h_t q_t (d_t.1), ((q_t 0), .inl (cs 0, 106, .inl (d_t.2 0))), ((q_t 3), .inl (cs 0, 3, .inl (d_t.2 3)))] := hD
    have g10 := ite_some hf
    refine lv_if_ne (tgt := 23) hx hb dX7_follow_13 (by decide) (fun c9 => ?_) (fun c9 => ?_)
    · replace hf := g10.2 c9
      refine lv_aload_n hx hb dX7_follow_23 rfl (lv_at hl 0 rfl) ?_
      refine lv_iload_n hx hb dX7_follow_24 rfl (lv_at hl 1 rfl) ?_
      refine lv_iconst (v := 4) hx hb dX7_follow_25 rfl ?_
      obtain ⟨r11, e12, hf⟩ := bind_some hf
      refine callVi (As := [.int x1, .int 4]) (rest := []) M (mX7_of l D cs sk h_t q_t k d_t x1 4 e12) mw_X7_94 ln_X7_of ⟨rfl, rfl, Nat.le_of_ble_eq_true rfl, Nat.le_of_ble_eq_true rfl⟩ hP hD hS hA [0, 1] (by decide) rfl rfl (q0 := 0) rfl rfl rfl ⟨Nat.zero_le _, Nat.zero_le _⟩ hl.1 rfl (Nat.le_of_ble_eq_true rfl) dX7_follow_26 (fun H locs hP hD hS => ?_)
      replace hP : va_P D vwCl [oX7 h_t q_t (d_t.1), ((q_t 0), .inl (cs 0, 106, .inl (d_t.2 0))), ((q_t 3), .inl (cs 0, 3, .inl (d_t.2 3)))] H := hP
      replace hD : va_D A [oX7 h_t q_t (d_t.1), ((q_t 0), .inl (cs 0, 106, .inl (d_t.2 0))), ((q_t 3), .inl (cs 0, 3, .inl (d_t.2 3)))] := hD
      refine lv_istore_n (lv' := [(3, .int r11), (0, .ref h_t), (1, .int x1), (2, .int x2)]) hx hb dX7_follow_29 rfl hl (by decide) rfl (fun ls hl => ?_)
      refine lv_aload_n hx hb dX7_follow_30 rfl (lv_at hl 1 rfl) ?_
      refine va_get (D := D) (ci := 7) (v := .ref (q_t 0)) (C := RX7) (T := TX7) (N := 23) hx hb hT iX7 hown hK hP 0 rfl rfl 0 (by decide) (hT _ fw_X7_7) (fun _ h9 => h9) rfl dX7_follow_31 ?_
      refine lv_bipush (v := 24) hx hb dX7_follow_34 rfl ?_
      refine lv_iconst (v := 5) hx hb dX7_follow_36 rfl ?_
      refine lv_iload_n hx hb dX7_follow_37 rfl (lv_at hl 2 rfl) ?_
      refine lv_imul hx hb dX7_follow_38 ?_
      refine lv_iadd hx hb dX7_follow_39 ?_
      refine lv_iconst (v := 4) hx hb dX7_follow_40 rfl ?_
      refine lv_iadd hx hb dX7_follow_41 ?_
      refine lv_iload_n hx hb dX7_follow_42 rfl (lv_at hl 3 rfl) ?_
      obtain ⟨hi, hf⟩ := chk_some hf
      refine va_iast (D := D) hx hb hK hP hD hS 1 0 rfl rfl hi dX7_follow_43 (fun H locs hP hD hS => ?_)
      replace hP : va_P D vwCl [oX7 h_t q_t (d_t.1), ((q_t 0), .inl (cs 0, 106, .inl (upd (d_t.2 0) ((24 + (5 * x1)) + 4).toNatClampNeg x2))), ((q_t 3), .inl (cs 0, 3, .inl (d_t.2 3)))] H := hP
      replace hD : va_D A [oX7 h_t q_t (d_t.1), ((q_t 0), .inl (cs 0, 106, .inl (upd (d_t.2 0) ((24 + (5 * x1)) + 4).toNatClampNeg x2))), ((q_t 3), .inl (cs 0, 3, .inl (d_t.2 3)))] := hD
      refine lv_iload_n hx hb dX7_follow_44 rfl (lv_at hl 0 rfl) ?_
      have e9 := Option.some.inj hf
      subst e9
      exact hR _ _ _ _ dX7_follow_45 hP hS
    · replace hf := g10.1 c9
      refine lv_aload_n hx hb dX7_follow_16 rfl (lv_at hl 0 rfl) ?_
      refine lv_bipush (v := (-2)) hx hb dX7_follow_17 rfl ?_
      obtain ⟨r13, e14, hf⟩ := bind_some hf
      refine callVi (As := [.int (-2)]) (rest := []) M (mX7_bad l D cs sk h_t q_t k d_t (-2) e14) mw_X7_76 ln_X7_bad ⟨rfl, rfl, Nat.le_of_ble_eq_true rfl, Nat.le_of_ble_eq_true rfl⟩ hP hD hS hA [0, 2] (by decide) rfl rfl (q0 := 0) rfl rfl rfl ⟨Nat.zero_le _, Nat.zero_le _⟩ hl.1 rfl (Nat.le_of_ble_eq_true rfl) dX7_follow_19 (fun H locs hP hD hS => ?_)
      replace hP : va_P D vwCl [oX7 h_t q_t (d_t.1), ((q_t 0), .inl (cs 0, 106, .inl (d_t.2 0))), ((q_t 3), .inl (cs 0, 3, .inl (r13.2.2 3)))] H := hP
      replace hD : va_D A [oX7 h_t q_t (d_t.1), ((q_t 0), .inl (cs 0, 106, .inl (d_t.2 0))), ((q_t 3), .inl (cs 0, 3, .inl (r13.2.2 3)))] := hD
      have e9 := Option.some.inj hf
      subst e9
      exact hR _ _ _ _ dX7_follow_22 hP hS
