abbrev rm_X7_hold : Room := { frames := 0, cells := 0, slots := 0, locals := 0 }
def fX7_hold (k : Nat) (x0 : Int32) : Option (Int32) :=
  (if (-500) ≤ x0 then (if x0 ≤ 500 then some x0 else some 500) else some (-500))
set_option maxHeartbeats 4000000 in
set_option maxRecDepth 100000 in
theorem mX7_hold (l : Launch) (D : va_G) (cs : Nat → ClassId) (sk : Nat → Nat)  (k : Nat) (x0 : Int32) {rv : Int32} (hf : fX7_hold k x0 = some rv) : CTi l yX7_hold (Cond.code yX7_hold cX7_hold 1 (some .int) :: gtbl) rm_X7_hold D cs sk [.int x0] [] (rv) [] := by
  refine CTi.of RX7 (by decide +kernel) rfl (Nat.le_of_ble_eq_true rfl) (fun p e s m args below meth c A Q ls M hA hR hl hP hD hS => ?_)
  obtain ⟨hx, hb, hml, hT, hown, hlk, hrt, hK, hN, hSE⟩ := id M
  replace hl : lv_has ls 1 [(0, .int x0)] := hl
  unfold fX7_hold at hf
  refine lv_iload_n hx hb dX7_hold_0 rfl (lv_at hl 0 rfl) ?_
  refine lv_sipush (v := (-500)) hx hb dX7_hold_1 rfl ?_
  have g2 := ite_some hf
  refine lv_icmp_ge (tgt := 13) hx hb dX7_hold_4 (by decide) (fun c1 => ?_) (fun c1 => ?_)
  · replace hf := g2.1 c1
    refine lv_iload_n hx hb dX7_hold_13 rfl (lv_at hl 0 rfl) ?_
    refine lv_sipush (v := 500) hx hb dX7_hold_14 rfl ?_
    have g4 := ite_some hf
    refine lv_icmp_le (tgt := 26) hx hb dX7_hold_17 (by decide) (fun c3 => ?_) (fun c3 => ?_)
    · replace hf := g4.1 c3
      refine lv_iload_n hx hb dX7_hold_26 rfl (lv_at hl 0 rfl) ?_
      have e9 := Option.some.inj hf
      subst e9
      exact hR _ _ _ _ dX7_hold_27 hP hS
    · replace hf := g4.2 c3
      refine lv_sipush (v := 500) hx hb dX7_hold_20 rfl ?_
      refine lv_goto (tgt := 27) hx hb dX7_hold_23 (by decide) ?_
      have e9 := Option.some.inj hf
      subst e9
      exact hR _ _ _ _ dX7_hold_27 hP hS
  · replace hf := g2.2 c1
    refine lv_sipush (v := (-500)) hx hb dX7_hold_7 rfl ?_
    refine lv_goto (tgt := 27) hx hb dX7_hold_10 (by decide) ?_
    have e9 := Option.some.inj hf
    subst e9
    exact hR _ _ _ _ dX7_hold_27 hP hS
abbrev rm_X7_takeOffsets : Room := { frames := 1, cells := 0, slots := 0, locals := 22 }
def fX7_takeOffsets_B2 (k : Nat) (n_a1 : Nat) (d_t : Dat) (K25 : (Nat → Int32) → Option ((Nat → Int32))) (rec : Int32 × (Nat → Int32) → Option ((Nat → Int32))) (v : Int32 × (Nat → Int32)) : Option ((Nat → Int32)) :=
  (fX7_players k d_t).bind (fun (r1 : Int32) => (if r1 ≤ (v.1) then K25 (v.2) else (fX7_of k d_t (v.1) 3).bind (fun (r5 : Int32) => chk n_a1 (v.1) (rec (((v.1) + 1), (upd (v.2) (v.1).toNatClampNeg r5))))))
def fX7_takeOffsets (k : Nat) (d_t : Dat) (n_a1 : Nat) (f_a1 : Nat → Int32) : Option ((Nat → Int32)) :=
  lp (fX7_takeOffsets_B2 k n_a1 d_t (fun (w1 : (Nat → Int32)) => some w1)) k (0, f_a1)
set_option maxHeartbeats 4000000 in
set_option maxRecDepth 100000 in
theorem mX7_takeOffsets_B2 {l : Launch} {p : Program} {e : Env} {s : State} {m : MethodId} {args : Array Value} {below : List Frame} {meth : Method} {c : Code} {D : va_G} {cs : Nat → ClassId} {sk : Nat → Nat} {A : Nat → Prop} {Q : State → Prop} (h_t : Nat) (h_a1 : Nat) (q_t : Nat → Nat) (k : Nat) (n_a1 : Nat) (d_t : Dat) {rv : (Nat → Int32)}  (K25 : (Nat → Int32) → Option ((Nat → Int32)))
    (M : MC p s m args meth c D cs sk A RX7 cX7_takeOffsets 3 none) (hA : ∀ q, s.heap.size ≤ q → A q) (hR : RetV p l e rm_X7_takeOffsets s m args below meth c D cX7_takeOffsets A Q [oX7 h_t q_t (d_t.1), ((q_t 0), .inl (cs 0, 106, .inl (d_t.2 0))), (h_a1, .inl (cs 0, n_a1, .inl rv))])
    (hK25 : ∀ (w : (Nat → Int32)), K25 w = some rv → ∀ (H : Heap) (locs : List Loc) (ls : Array Slot), va_P D vwCl [oX7 h_t q_t (d_t.1), ((q_t 0), .inl (cs 0, 106, .inl (d_t.2 0))), (h_a1, .inl (cs 0, n_a1, .inl w))] H → va_D A [oX7 h_t q_t (d_t.1), ((q_t 0), .inl (cs 0, 106, .inl (d_t.2 0))), (h_a1, .inl (cs 0, n_a1, .inl w))] → va_S A s.heap H locs → lv_has ls 3 [] → W p l e rm_X7_takeOffsets s m args below meth c H locs 0 0 Q (F0 m 25 ls []))
    : ∀ (n : Nat) (v : Int32 × (Nat → Int32)), lp (fX7_takeOffsets_B2 k n_a1 d_t K25) n v = some rv → ∀ (H : Heap) (locs : List Loc) (ls : Array Slot), va_P D vwCl [oX7 h_t q_t (d_t.1), ((q_t 0), .inl (cs 0, 106, .inl (d_t.2 0))), (h_a1, .inl (cs 0, n_a1, .inl (v.2)))] H → va_D A [oX7 h_t q_t (d_t.1), ((q_t 0), .inl (cs 0, 106, .inl (d_t.2 0))), (h_a1, .inl (cs 0, n_a1, .inl (v.2)))] → va_S A s.heap H locs → lv_has ls 3 [(0, .ref h_t), (1, .ref h_a1), (2, .int (v.1))] → W p l e rm_X7_takeOffsets s m args below meth c H locs 0 0 Q (F0 m 2 ls []) := by
  obtain ⟨hx, hb, hml, hT, hown, hlk, hrt, hK, hN, hSE⟩ := id M
  refine lp_ind (fun rec ih v hf H locs ls hP hD hS hl => ?_)
  unfold fX7_takeOffsets_B2 at hf
  refine lv_iload_n hx hb dX7_takeOffsets_2 rfl (lv_at hl 2 rfl) ?_
  refine lv_aload_n hx hb dX7_takeOffsets_3 rfl (lv_at hl 0 rfl) ?_
  obtain ⟨r1, e2, hf⟩ := bind_some hf
  refine callVi (As := []) (rest := [.int (v.1)]) M (mX7_players l D cs sk h_t q_t k d_t e2) mw_X7_67 ln_X7_players ⟨rfl, rfl, Nat.le_of_ble_eq_true rfl, Nat.le_of_ble_eq_true rfl⟩ hP hD hS hA [0, 1] (by decide) rfl rfl (q0 := 0) rfl rfl rfl ⟨Nat.zero_le _, Nat.zero_le _⟩ hl.1 rfl (Nat.le_of_ble_eq_true rfl) dX7_takeOffsets_4 (fun H locs hP hD hS => ?_)
  replace hP : va_P D vwCl [oX7 h_t q_t (d_t.1), ((q_t 0), .inl (cs 0, 106, .inl (d_t.2 0))), (h_a1, .inl (cs 0, n_a1, .inl (v.2)))] H := hP
  replace hD : va_D A [oX7 h_t q_t (d_t.1), ((q_t 0), .inl (cs 0, 106, .inl (d_t.2 0))), (h_a1, .inl (cs 0, n_a1, .inl (v.2)))] := hD
  have g4 := ite_some hf
  refine lv_icmp_ge (tgt := 25) hx hb dX7_takeOffsets_7 (by decide) (fun c3 => ?_) (fun c3 => ?_)
  · replace hf := g4.1 c3
    exact hK25 _ hf _ _ _ hP hD hS (lv_sub hl [] rfl)
  · replace hf := g4.2 c3
    refine lv_aload_n hx hb dX7_takeOffsets_10 rfl (lv_at hl 1 rfl) ?_
    refine lv_iload_n hx hb dX7_takeOffsets_11 rfl (lv_at hl 2 rfl) ?_
    refine lv_aload_n hx hb dX7_takeOffsets_12 rfl (lv_at hl 0 rfl) ?_
    refine lv_iload_n hx hb dX7_takeOffsets_13 rfl (lv_at hl 2 rfl) ?_
    refine lv_iconst (v := 3) hx hb dX7_takeOffsets_14 rfl ?_
    obtain ⟨r5, e6, hf⟩ := bind_some hf
    refine callVi (As := [.int (v.1), .int 3]) (rest := [.int (v.1), .ref h_a1]) M (mX7_of l D cs sk h_t q_t k d_t (v.1) 3 e6) mw_X7_94 ln_X7_of ⟨rfl, rfl, Nat.le_of_ble_eq_true rfl, Nat.le_of_ble_eq_true rfl⟩ hP hD hS hA [0, 1] (by decide) rfl rfl (q0 := 0) rfl rfl rfl ⟨Nat.zero_le _, Nat.zero_le _⟩ hl.1 rfl (Nat.le_of_ble_eq_true rfl) dX7_takeOffsets_15 (fun H locs hP hD hS => ?_)
    replace hP : va_P D vwCl [oX7 h_t q_t (d_t.1), ((q_t 0), .inl (cs 0, 106, .inl (d_t.2 0))), (h_a1, .inl (cs 0, n_a1, .inl (v.2)))] H := hP
    replace hD : va_D A [oX7 h_t q_t (d_t.1), ((q_t 0), .inl (cs 0, 106, .inl (d_t.2 0))), (h_a1, .inl (cs 0, n_a1, .inl (v.2)))] := hD
    obtain ⟨hi, hf⟩ := chk_some hf
    refine va_iast (D := D) hx hb hK hP hD hS 2 0 rfl rfl hi dX7_takeOffsets_18 (fun H locs hP hD hS => ?_)
    replace hP : va_P D vwCl [oX7 h_t q_t (d_t.1), ((q_t 0), .inl (cs 0, 106, .inl (d_t.2 0))), (h_a1, .inl (cs 0, n_a1, .inl (upd (v.2) (v.1).toNatClampNeg r5)))] H := hP
    replace hD : va_D A [oX7 h_t q_t (d_t.1), ((q_t 0), .inl (cs 0, 106, .inl (d_t.2 0))), (h_a1, .inl (cs 0, n_a1, .inl (upd (v.2) (v.1).toNatClampNeg r5)))] := hD
    refine lv_iinc (v := ((v.1) + 1)) (lv' := [(2, .int ((v.1) + 1)), (0, .ref h_t), (1, .ref h_a1)]) hx hb dX7_takeOffsets_19 hl (k := 2) rfl rfl (by decide) rfl (fun ls hl => ?_)
    refine lv_goto (tgt := 2) hx hb dX7_takeOffsets_22 (by decide) ?_
    exact ih _ hf _ _ _ hP hD hS (lv_sub hl [1, 2, 0] rfl)
set_option maxHeartbeats 4000000 in
set_option maxRecDepth 100000 in
theorem mX7_takeOffsets (l : Launch) (D : va_G) (cs : Nat → ClassId) (sk : Nat → Nat) (h_t : Nat) (h_a1 : Nat) (q_t : Nat → Nat) (k : Nat) (d_t : Dat) (n_a1 : Nat) (f_a1 : Nat → Int32) {rv : (Nat → Int32)} (hf : fX7_takeOffsets k d_t n_a1 f_a1 = some rv) : CTv l yX7_takeOffsets (Cond.code yX7_takeOffsets cX7_takeOffsets 3 none :: gtbl) rm_X7_takeOffsets D cs sk [.ref h_t, .ref h_a1] [oX7 h_t q_t (d_t.1), ((q_t 0), .inl (cs 0, 106, .inl (d_t.2 0))), (h_a1, .inl (cs 0, n_a1, .inl f_a1))] [oX7 h_t q_t (d_t.1), ((q_t 0), .inl (cs 0, 106, .inl (d_t.2 0))), (h_a1, .inl (cs 0, n_a1, .inl rv))] := by
  refine CTv.of RX7 (by decide +kernel) rfl (Nat.le_of_ble_eq_true rfl) (fun p e s m args below meth c A Q ls M hA hR hl hP hD hS => ?_)
  obtain ⟨hx, hb, hml, hT, hown, hlk, hrt, hK, hN, hSE⟩ := id M
  replace hl : lv_has ls 3 [(0, .ref h_t), (1, .ref h_a1)] := hl
  unfold fX7_takeOffsets at hf
  refine lv_iconst (v := 0) hx hb dX7_takeOffsets_0 rfl ?_
  refine lv_istore_n (lv' := [(2, .int 0), (0, .ref h_t), (1, .ref h_a1)]) hx hb dX7_takeOffsets_1 rfl hl (by decide) rfl (fun ls hl => ?_)
  refine mX7_takeOffsets_B2 h_t h_a1 q_t k n_a1 d_t _ M hA hR (fun w1 hf H locs ls hP hD hS hl => ?_) _ _ hf _ _ _ hP hD hS (lv_sub hl [1, 2, 0] rfl)
  · have e9 := Option.some.inj hf
    subst e9
    exact hR _ _ _ _ dX7_takeOffsets_25 hP hS
abbrev rm_X7_makeRound : Room := { frames := 2, cells := 0, slots := 0, locals := 43 }
def fX7_makeRound_B2 (k : Nat) (n_a1 : Nat) (d_t : Dat) (f_a1 : Nat → Int32) (K91 : Dat → Option (Int32 × Dat × (Nat → Int32))) (rec : Int32 × Dat → Option (Int32 × Dat × (Nat → Int32))) (v : Int32 × Dat) : Option (Int32 × Dat × (Nat → Int32)) :=
  (fX7_players k (d_t.1, (va_up d_t.2 11 (v.2.2 11)))).bind (fun (r1 : Int32) => (if r1 ≤ (v.1) then K91 (d_t.1, (va_up d_t.2 11 (v.2.2 11))) else (fX7_of k (d_t.1, (va_up d_t.2 11 (v.2.2 11))) (v.1) 4).bind (fun (r5 : Int32) => (fX7_of k (d_t.1, (va_up d_t.2 11 (v.2.2 11))) (v.1) 1).bind (fun (r7 : Int32) => (fX7_of k (d_t.1, (va_up d_t.2 11 (v.2.2 11))) r5 1).bind (fun (r9 : Int32) => (fX7_paces k (d_t.1, (va_up d_t.2 11 (v.2.2 11))) (0 + (2 * r7)) (0 + (2 * r9))).bind (fun (r11 : Int32) => chk 106 20 ((if r5 = (v.1) then chk n_a1 (v.1) (chk 6 (v.1) (rec (((v.1) + 1), (d_t.1, (va_up d_t.2 11 (upd (v.2.2 11) (v.1).toNatClampNeg (f_a1 (v.1).toNatClampNeg))))))) else chk n_a1 r5 (chk 106 23 ((fX7_hold k (((f_a1 r5.toNatClampNeg) + (r11 * ((d_t.2 0) (20 : Int32).toNatClampNeg))) - ((d_t.2 0) (23 : Int32).toNatClampNeg))).bind (fun (r15 : Int32) => chk 6 (v.1) (rec (((v.1) + 1), (d_t.1, (va_up d_t.2 11 (upd (v.2.2 11) (v.1).toNatClampNeg r15))))))))))))))))
def fX7_makeRound_B95 (k : Nat) (n_a1 : Nat) (d_t : Dat) (K138 : Int32 × (Nat → Int32) → Option (Int32 × Dat × (Nat → Int32))) (rec : Int32 × Int32 × (Nat → Int32) → Option (Int32 × Dat × (Nat → Int32))) (v : Int32 × Int32 × (Nat → Int32)) : Option (Int32 × Dat × (Nat → Int32)) :=
  (fX7_players k d_t).bind (fun (r1 : Int32) => (if r1 ≤ (v.2.1) then K138 ((v.1), (v.2.2)) else chk 6 (v.2.1) (chk n_a1 (v.2.1) ((if ((d_t.2 11) (v.2.1).toNatClampNeg) = ((v.2.2) (v.2.1).toNatClampNeg) then chk 6 (v.2.1) (chk n_a1 (v.2.1) (rec (((v.1) + 0), ((v.2.1) + 1), (upd (v.2.2) (v.2.1).toNatClampNeg ((d_t.2 11) (v.2.1).toNatClampNeg))))) else chk 6 (v.2.1) (chk n_a1 (v.2.1) (rec (((v.1) + 1), ((v.2.1) + 1), (upd (v.2.2) (v.2.1).toNatClampNeg ((d_t.2 11) (v.2.1).toNatClampNeg))))))))))
def fX7_makeRound (k : Nat) (d_t : Dat) (n_a1 : Nat) (f_a1 : Nat → Int32) : Option (Int32 × Dat × (Nat → Int32)) :=
  lp (fX7_makeRound_B2 k n_a1 d_t f_a1 (fun (w1 : Dat) => lp (fX7_makeRound_B95 k n_a1 (d_t.1, (va_up d_t.2 11 (w1.2 11))) (fun (w2 : Int32 × (Nat → Int32)) => some ((w2.1), (d_t.1, (va_up d_t.2 11 (w1.2 11))), (w2.2)))) k (0, 0, f_a1))) k (0, d_t)
set_option maxHeartbeats 4000000 in
set_option maxRecDepth 100000 in
theorem mX7_makeRound_B2 {l : Launch} {p : Program} {e : Env} {s : State} {m : MethodId} {args : Array Value} {below : List Frame} {meth : Method} {c : Code} {D : va_G} {cs : Nat → ClassId} {sk : Nat → Nat} {A : Nat → Prop} {Q : State → Prop} (h_t : Nat) (h_a1 : Nat) (q_t : Nat → Nat) (k : Nat) (n_a1 : Nat) (d_t : Dat) (f_a1 : Nat → Int32) {rv : Int32 × Dat × (Nat → Int32)}  (K91 : Dat → Option (Int32 × Dat × (Nat → Int32)))
    (M : MC p s m args meth c D cs sk A RX7 cX7_makeRound 5 (some .int)) (hA : ∀ q, s.heap.size ≤ q → A q) (hR : RetI p l e rm_X7_makeRound s m args below meth c D cX7_makeRound A Q (rv.1) [oX7 h_t q_t (d_t.1), ((q_t 0), .inl (cs 0, 106, .inl (d_t.2 0))), ((q_t 11), .inl (cs 0, 6, .inl (rv.2.1.2 11))), (h_a1, .inl (cs 0, n_a1, .inl (rv.2.2)))])
    (hK91 : ∀ (w : Dat), K91 w = some rv → ∀ (H : Heap) (locs : List Loc) (ls : Array Slot), va_P D vwCl [oX7 h_t q_t (d_t.1), ((q_t 0), .inl (cs 0, 106, .inl (d_t.2 0))), ((q_t 11), .inl (cs 0, 6, .inl (w.2 11))), (h_a1, .inl (cs 0, n_a1, .inl f_a1))] H → va_D A [oX7 h_t q_t (d_t.1), ((q_t 0), .inl (cs 0, 106, .inl (d_t.2 0))), ((q_t 11), .inl (cs 0, 6, .inl (w.2 11))), (h_a1, .inl (cs 0, n_a1, .inl f_a1))] → va_S A s.heap H locs → lv_has ls 5 [(0, .ref h_t), (1, .ref h_a1)] → W p l e rm_X7_makeRound s m args below meth c H locs 0 0 Q (F0 m 91 ls []))
    : ∀ (n : Nat) (v : Int32 × Dat), lp (fX7_makeRound_B2 k n_a1 d_t f_a1 K91) n v = some rv → ∀ (H : Heap) (locs : List Loc) (ls : Array Slot), va_P D vwCl [oX7 h_t q_t (d_t.1), ((q_t 0), .inl (cs 0, 106, .inl (d_t.2 0))), ((q_t 11), .inl (cs 0, 6, .inl (v.2.2 11))), (h_a1, .inl (cs 0, n_a1, .inl f_a1))] H → va_D A [oX7 h_t q_t (d_t.1), ((q_t 0), .inl (cs 0, 106, .inl (d_t.2 0))), ((q_t 11), .inl (cs 0, 6, .inl (v.2.2 11))), (h_a1, .inl (cs 0, n_a1, .inl f_a1))] → va_S A s.heap H locs → lv_has ls 5 [(0, .ref h_t), (1, .ref h_a1), (2, .int (v.1))] → W p l e rm_X7_makeRound s m args below meth c H locs 0 0 Q (F0 m 2 ls []) := by
  obtain ⟨hx, hb, hml, hT, hown, hlk, hrt, hK, hN, hSE⟩ := id M
  refine lp_ind (fun rec ih v hf H locs ls hP hD hS hl => ?_)
  unfold fX7_makeRound_B2 at hf
  refine lv_iload_n hx hb dX7_makeRound_2 rfl (lv_at hl 2 rfl) ?_
  refine lv_aload_n hx hb dX7_makeRound_3 rfl (lv_at hl 0 rfl) ?_
  obtain ⟨r1, e2, hf⟩ := bind_some hf
  refine callVi (As := []) (rest := [.int (v.1)]) M (mX7_players l D cs sk h_t q_t k (d_t.1, (va_up d_t.2 11 (v.2.2 11))) e2) mw_X7_67 ln_X7_players ⟨rfl, rfl, Nat.le_of_ble_eq_true rfl, Nat.le_of_ble_eq_true rfl⟩ hP hD hS hA [0, 1] (by decide) rfl rfl (q0 := 0) rfl rfl rfl ⟨Nat.zero_le _, Nat.zero_le _⟩ hl.1 rfl (Nat.le_of_ble_eq_true rfl) dX7_makeRound_4 (fun H locs hP hD hS => ?_)
  replace hP : va_P D vwCl [oX7 h_t q_t (d_t.1), ((q_t 0), .inl (cs 0, 106, .inl (d_t.2 0))), ((q_t 11), .inl (cs 0, 6, .inl (v.2.2 11))), (h_a1, .inl (cs 0, n_a1, .inl f_a1))] H := hP
  replace hD : va_D A [oX7 h_t q_t (d_t.1), ((q_t 0), .inl (cs 0, 106, .inl (d_t.2 0))), ((q_t 11), .inl (cs 0, 6, .inl (v.2.2 11))), (h_a1, .inl (cs 0, n_a1, .inl f_a1))] := hD
  have g4 := ite_some hf
  refine lv_icmp_ge (tgt := 91) hx hb dX7_makeRound_7 (by decide) (fun c3 => ?_) (fun c3 => ?_)
  · replace hf := g4.1 c3
    exact hK91 _ hf _ _ _ hP hD hS (lv_sub hl [0, 1] rfl)
  · replace hf := g4.2 c3
    refine lv_aload_n hx hb dX7_makeRound_10 rfl (lv_at hl 0 rfl) ?_
    refine lv_iload_n hx hb dX7_makeRound_11 rfl (lv_at hl 2 rfl) ?_
    refine lv_iconst (v := 4) hx hb dX7_makeRound_12 rfl ?_
    obtain ⟨r5, e6, hf⟩ := bind_some hf
    refine callVi (As := [.int (v.1), .int 4]) (rest := []) M (mX7_of l D cs sk h_t q_t k (d_t.1, (va_up d_t.2 11 (v.2.2 11))) (v.1) 4 e6) mw_X7_94 ln_X7_of ⟨rfl, rfl, Nat.le_of_ble_eq_true rfl, Nat.le_of_ble_eq_true rfl⟩ hP hD hS hA [0, 1] (by decide) rfl rfl (q0 := 0) rfl rfl rfl ⟨Nat.zero_le _, Nat.zero_le _⟩ hl.1 rfl (Nat.le_of_ble_eq_true rfl) dX7_makeRound_13 (fun H locs hP hD hS => ?_)
    replace hP : va_P D vwCl [oX7 h_t q_t (d_t.1), ((q_t 0), .inl (cs 0, 106, .inl (d_t.2 0))), ((q_t 11), .inl (cs 0, 6, .inl (v.2.2 11))), (h_a1, .inl (cs 0, n_a1, .inl f_a1))] H := hP
    replace hD : va_D A [oX7 h_t q_t (d_t.1), ((q_t 0), .inl (cs 0, 106, .inl (d_t.2 0))), ((q_t 11), .inl (cs 0, 6, .inl (v.2.2 11))), (h_a1, .inl (cs 0, n_a1, .inl f_a1))] := hD
    refine lv_istore_n (lv' := [(3, .int r5), (0, .ref h_t), (1, .ref h_a1), (2, .int (v.1))]) hx hb dX7_makeRound_16 rfl hl (by decide) rfl (fun ls hl => ?_)
    refine lv_aload_n hx hb dX7_makeRound_17 rfl (lv_at hl 1 rfl) ?_
    refine lv_iconst (v := 0) hx hb dX7_makeRound_18 rfl ?_
    refine lv_iconst (v := 2) hx hb dX7_makeRound_19 rfl ?_
    refine lv_aload_n hx hb dX7_makeRound_20 rfl (lv_at hl 1 rfl) ?_
    refine lv_iload_n hx hb dX7_makeRound_21 rfl (lv_at hl 3 rfl) ?_
    refine lv_iconst (v := 1) hx hb dX7_makeRound_22 rfl ?_
    obtain ⟨r7, e8, hf⟩ := bind_some hf
    refine callVi (As := [.int (v.1), .int 1]) (rest := [.int 2, .int 0, .ref h_t]) M (mX7_of l D cs sk h_t q_t k (d_t.1, (va_up d_t.2 11 (v.2.2 11))) (v.1) 1 e8) mw_X7_94 ln_X7_of ⟨rfl, rfl, Nat.le_of_ble_eq_true rfl, Nat.le_of_ble_eq_true rfl⟩ hP hD hS hA [0, 1] (by decide) rfl rfl (q0 := 0) rfl rfl rfl ⟨Nat.zero_le _, Nat.zero_le _⟩ hl.1 rfl (Nat.le_of_ble_eq_true rfl) dX7_makeRound_23 (fun H locs hP hD hS => ?_)
    replace hP : va_P D vwCl [oX7 h_t q_t (d_t.1), ((q_t 0), .inl (cs 0, 106, .inl (d_t.2 0))), ((q_t 11), .inl (cs 0, 6, .inl (v.2.2 11))), (h_a1, .inl (cs 0, n_a1, .inl f_a1))] H := hP
    replace hD : va_D A [oX7 h_t q_t (d_t.1), ((q_t 0), .inl (cs 0, 106, .inl (d_t.2 0))), ((q_t 11), .inl (cs 0, 6, .inl (v.2.2 11))), (h_a1, .inl (cs 0, n_a1, .inl f_a1))] := hD
    refine lv_imul hx hb dX7_makeRound_26 ?_
    refine lv_iadd hx hb dX7_makeRound_27 ?_
    refine lv_iconst (v := 0) hx hb dX7_makeRound_28 rfl ?_
    refine lv_iconst (v := 2) hx hb dX7_makeRound_29 rfl ?_
    refine lv_aload_n hx hb dX7_makeRound_30 rfl (lv_at hl 1 rfl) ?_
    refine lv_iload_n hx hb dX7_makeRound_31 rfl (lv_at hl 0 rfl) ?_
    refine lv_iconst (v := 1) hx hb dX7_makeRound_32 rfl ?_
    obtain ⟨r9, e10, hf⟩ := bind_some hf
    refine callVi (As := [.int r5, .int 1]) (rest := [.int 2, .int 0, .int (0 + (2 * r7)), .ref h_t]) M (mX7_of l D cs sk h_t q_t k (d_t.1, (va_up d_t.2 11 (v.2.2 11))) r5 1 e10) mw_X7_94 ln_X7_of ⟨rfl, rfl, Nat.le_of_ble_eq_true rfl, Nat.le_of_ble_eq_true rfl⟩ hP hD hS hA [0, 1] (by decide) rfl rfl (q0 := 0) rfl rfl rfl ⟨Nat.zero_le _, Nat.zero_le _⟩ hl.1 rfl (Nat.le_of_ble_eq_true rfl) dX7_makeRound_33 (fun H locs hP hD hS => ?_)
    replace hP : va_P D vwCl [oX7 h_t q_t (d_t.1), ((q_t 0), .inl (cs 0, 106, .inl (d_t.2 0))), ((q_t 11), .inl (cs 0, 6, .inl (v.2.2 11))), (h_a1, .inl (cs 0, n_a1, .inl f_a1))] H := hP
    replace hD : va_D A [oX7 h_t q_t (d_t.1), ((q_t 0), .inl (cs 0, 106, .inl (d_t.2 0))), ((q_t 11), .inl (cs 0, 6, .inl (v.2.2 11))), (h_a1, .inl (cs 0, n_a1, .inl f_a1))] := hD
    refine lv_imul hx hb dX7_makeRound_36 ?_
    refine lv_iadd hx hb dX7_makeRound_37 ?_
    obtain ⟨r11, e12, hf⟩ := bind_some hf
    refine callVi (As := [.int (0 + (2 * r7)), .int (0 + (2 * r9))]) (rest := []) M (mX7_paces l D cs sk h_t q_t k (d_t.1, (va_up d_t.2 11 (v.2.2 11))) (0 + (2 * r7)) (0 + (2 * r9)) e12) mw_X7_130 ln_X7_paces ⟨rfl, rfl, Nat.le_of_ble_eq_true rfl, Nat.le_of_ble_eq_true rfl⟩ hP hD hS hA [0, 1] (by decide) rfl rfl (q0 := 0) rfl rfl rfl ⟨Nat.zero_le _, Nat.zero_le _⟩ hl.1 rfl (Nat.le_of_ble_eq_true rfl) dX7_makeRound_38 (fun H locs hP hD hS => ?_)
    replace hP : va_P D vwCl [oX7 h_t q_t (d_t.1), ((q_t 0), .inl (cs 0, 106, .inl (d_t.2 0))), ((q_t 11), .inl (cs 0, 6, .inl (v.2.2 11))), (h_a1, .inl (cs 0, n_a1, .inl f_a1))] H := hP
    replace hD : va_D A [oX7 h_t q_t (d_t.1), ((q_t 0), .inl (cs 0, 106, .inl (d_t.2 0))), ((q_t 11), .inl (cs 0, 6, .inl (v.2.2 11))), (h_a1, .inl (cs 0, n_a1, .inl f_a1))] := hD
    refine lv_aload_n hx hb dX7_makeRound_41 rfl (lv_at hl 1 rfl) ?_
    refine va_get (D := D) (ci := 7) (v := .ref (q_t 0)) (C := RX7) (T := TX7) (N := 23) hx hb hT iX7 hown hK hP 0 rfl rfl 0 (by decide) (hT _ fw_X7_7) (fun _ h9 => h9) rfl dX7_makeRound_42 ?_
    refine lv_bipush (v := 20) hx hb dX7_makeRound_45 rfl ?_
    obtain ⟨hi, hf⟩ := chk_some hf
    refine va_iald (D := D) hx hb hK hP 1 0 rfl rfl hi dX7_makeRound_47 ?_
    refine lv_imul hx hb dX7_makeRound_48 ?_
    refine lv_istore (lv' := [(4, .int (r11 * ((d_t.2 0) (20 : Int32).toNatClampNeg))), (3, .int r5), (0, .ref h_t), (1, .ref h_a1), (2, .int (v.1))]) hx hb dX7_makeRound_49 hl (by decide) rfl (fun ls hl => ?_)
    refine lv_aload_n hx hb dX7_makeRound_51 rfl (lv_at hl 2 rfl) ?_
    refine va_get (D := D) (ci := 7) (v := .ref (q_t 11)) (C := RX7) (T := TX7) (N := 23) hx hb hT iX7 hown hK hP 0 rfl rfl 11 (by decide) (hT _ fw_X7_38) (fun _ h9 => h9) rfl dX7_makeRound_52 ?_
    refine lv_iload_n hx hb dX7_makeRound_55 rfl (lv_at hl 4 rfl) ?_
    refine lv_iload_n hx hb dX7_makeRound_56 rfl (lv_at hl 1 rfl) ?_
    refine lv_iload_n hx hb dX7_makeRound_57 rfl (lv_at hl 4 rfl) ?_
    have g14 := ite_some hf
    refine lv_icmp_ne (tgt := 67) hx hb dX7_makeRound_58 (by decide) (fun c13 => ?_) (fun c13 => ?_)
    · replace hf := g14.2 c13
      refine lv_aload_n hx hb dX7_makeRound_67 rfl (lv_at hl 3 rfl) ?_
      refine lv_iload_n hx hb dX7_makeRound_68 rfl (lv_at hl 1 rfl) ?_
      obtain ⟨hi, hf⟩ := chk_some hf
      refine va_iald (D := D) hx hb hK hP 3 0 rfl rfl hi dX7_makeRound_69 ?_
      refine lv_iload hx hb dX7_makeRound_70 (lv_at hl 0 rfl) ?_
      refine lv_iadd hx hb dX7_makeRound_72 ?_
      refine lv_aload_n hx hb dX7_makeRound_73 rfl (lv_at hl 2 rfl) ?_
      refine va_get (D := D) (ci := 7) (v := .ref (q_t 0)) (C := RX7) (T := TX7) (N := 23) hx hb hT iX7 hown hK hP 0 rfl rfl 0 (by decide) (hT _ fw_X7_7) (fun _ h9 => h9) rfl dX7_makeRound_74 ?_
      refine lv_bipush (v := 23) hx hb dX7_makeRound_77 rfl ?_
      obtain ⟨hi, hf⟩ := chk_some hf
      refine va_iald (D := D) hx hb hK hP 1 0 rfl rfl hi dX7_makeRound_79 ?_
      refine lv_isub hx hb dX7_makeRound_80 ?_
      obtain ⟨r15, e16, hf⟩ := bind_some hf
      refine callSi (As := [.int (((f_a1 r5.toNatClampNeg) + (r11 * ((d_t.2 0) (20 : Int32).toNatClampNeg))) - ((d_t.2 0) (23 : Int32).toNatClampNeg))]) (rest := [.int (v.1), .ref (q_t 11)]) M (mX7_hold l D cs sk  k (((f_a1 r5.toNatClampNeg) + (r11 * ((d_t.2 0) (20 : Int32).toNatClampNeg))) - ((d_t.2 0) (23 : Int32).toNatClampNeg)) e16) mw_X7_188 ln_X7_hold ⟨rfl, rfl, Nat.le_of_ble_eq_true rfl, Nat.le_of_ble_eq_true rfl⟩ hP hD hS hA [] (by decide) rfl rfl ⟨Nat.zero_le _, Nat.zero_le _⟩ hl.1 rfl (Nat.le_of_ble_eq_true rfl) dX7_makeRound_81 (fun H locs hP hD hS => ?_)
      replace hP : va_P D vwCl [oX7 h_t q_t (d_t.1), ((q_t 0), .inl (cs 0, 106, .inl (d_t.2 0))), ((q_t 11), .inl (cs 0, 6, .inl (v.2.2 11))), (h_a1, .inl (cs 0, n_a1, .inl f_a1))] H := hP
      replace hD : va_D A [oX7 h_t q_t (d_t.1), ((q_t 0), .inl (cs 0, 106, .inl (d_t.2 0))), ((q_t 11), .inl (cs 0, 6, .inl (v.2.2 11))), (h_a1, .inl (cs 0, n_a1, .inl f_a1))] := hD
      obtain ⟨hi, hf⟩ := chk_some hf
      refine va_iast (D := D) hx hb hK hP hD hS 2 0 rfl rfl hi dX7_makeRound_84 (fun H locs hP hD hS => ?_)
      replace hP : va_P D vwCl [oX7 h_t q_t (d_t.1), ((q_t 0), .inl (cs 0, 106, .inl (d_t.2 0))), ((q_t 11), .inl (cs 0, 6, .inl (upd (v.2.2 11) (v.1).toNatClampNeg r15))), (h_a1, .inl (cs 0, n_a1, .inl f_a1))] H := hP
      replace hD : va_D A [oX7 h_t q_t (d_t.1), ((q_t 0), .inl (cs 0, 106, .inl (d_t.2 0))), ((q_t 11), .inl (cs 0, 6, .inl (upd (v.2.2 11) (v.1).toNatClampNeg r15))), (h_a1, .inl (cs 0, n_a1, .inl f_a1))] := hD
      refine lv_iinc (v := ((v.1) + 1)) (lv' := [(2, .int ((v.1) + 1)), (4, .int (r11 * ((d_t.2 0) (20 : Int32).toNatClampNeg))), (3, .int r5), (0, .ref h_t), (1, .ref h_a1)]) hx hb dX7_makeRound_85 hl (k := 4) rfl rfl (by decide) rfl (fun ls hl => ?_)
      refine lv_goto (tgt := 2) hx hb dX7_makeRound_88 (by decide) ?_
      exact ih _ hf _ _ _ hP hD hS (lv_sub hl [3, 4, 0] rfl)
    · replace hf := g14.1 c13
      refine lv_aload_n hx hb dX7_makeRound_61 rfl (lv_at hl 3 rfl) ?_
      refine lv_iload_n hx hb dX7_makeRound_62 rfl (lv_at hl 4 rfl) ?_
      obtain ⟨hi, hf⟩ := chk_some hf
      refine va_iald (D := D) hx hb hK hP 3 0 rfl rfl hi dX7_makeRound_63 ?_
      refine lv_goto (tgt := 84) hx hb dX7_makeRound_64 (by decide) ?_
      obtain ⟨hi, hf⟩ := chk_some hf
      refine va_iast (D := D) hx hb hK hP hD hS 2 0 rfl rfl hi dX7_makeRound_84 (fun H locs hP hD hS => ?_)
      replace hP : va_P D vwCl [oX7 h_t q_t (d_t.1), ((q_t 0), .inl (cs 0, 106, .inl (d_t.2 0))), ((q_t 11), .inl (cs 0, 6, .inl (upd (v.2.2 11) (v.1).toNatClampNeg (f_a1 (v.1).toNatClampNeg)))), (h_a1, .inl (cs 0, n_a1, .inl f_a1))] H := hP
      replace hD : va_D A [oX7 h_t q_t (d_t.1), ((q_t 0), .inl (cs 0, 106, .inl (d_t.2 0))), ((q_t 11), .inl (cs 0, 6, .inl (upd (v.2.2 11) (v.1).toNatClampNeg (f_a1 (v.1).toNatClampNeg)))), (h_a1, .inl (cs 0, n_a1, .inl f_a1))] := hD
      refine lv_iinc (v := ((v.1) + 1)) (lv' := [(2, .int ((v.1) + 1)), (4, .int (r11 * ((d_t.2 0) (20 : Int32).toNatClampNeg))), (3, .int r5), (0, .ref h_t), (1, .ref h_a1)]) hx hb dX7_makeRound_85 hl (k := 4) rfl rfl (by decide) rfl (fun ls hl => ?_)
      refine lv_goto (tgt := 2) hx hb dX7_makeRound_88 (by decide) ?_
      exact ih _ hf _ _ _ hP hD hS (lv_sub hl [3, 4, 0] rfl)
set_option maxHeartbeats 4000000 in
set_option maxRecDepth 100000 in
theorem mX7_makeRound_B95 {l : Launch} {p : Program} {e : Env} {s : State} {m : MethodId} {args : Array Value} {below : List Frame} {meth : Method} {c : Code} {D : va_G} {cs : Nat → ClassId} {sk : Nat → Nat} {A : Nat → Prop} {Q : State → Prop} (h_t : Nat) (h_a1 : Nat) (q_t : Nat → Nat) (k : Nat) (n_a1 : Nat) (d_t : Dat) {rv : Int32 × Dat × (Nat → Int32)}  (K138 : Int32 × (Nat → Int32) → Option (Int32 × Dat × (Nat → Int32)))
    (M : MC p s m args meth c D cs sk A RX7 cX7_makeRound 5 (some .int)) (hA : ∀ q, s.heap.size ≤ q → A q) (hR : RetI p l e rm_X7_makeRound s m args below meth c D cX7_makeRound A Q (rv.1) [oX7 h_t q_t (d_t.1), ((q_t 0), .inl (cs 0, 106, .inl (d_t.2 0))), ((q_t 11), .inl (cs 0, 6, .inl (rv.2.1.2 11))), (h_a1, .inl (cs 0, n_a1, .inl (rv.2.2)))])
    (hK138 : ∀ (w : Int32 × (Nat → Int32)), K138 w = some rv → ∀ (H : Heap) (locs : List Loc) (ls : Array Slot), va_P D vwCl [oX7 h_t q_t (d_t.1), ((q_t 0), .inl (cs 0, 106, .inl (d_t.2 0))), ((q_t 11), .inl (cs 0, 6, .inl (d_t.2 11))), (h_a1, .inl (cs 0, n_a1, .inl (w.2)))] H → va_D A [oX7 h_t q_t (d_t.1), ((q_t 0), .inl (cs 0, 106, .inl (d_t.2 0))), ((q_t 11), .inl (cs 0, 6, .inl (d_t.2 11))), (h_a1, .inl (cs 0, n_a1, .inl (w.2)))] → va_S A s.heap H locs → lv_has ls 5 [(2, .int (w.1))] → W p l e rm_X7_makeRound s m args below meth c H locs 0 0 Q (F0 m 138 ls []))
    : ∀ (n : Nat) (v : Int32 × Int32 × (Nat → Int32)), lp (fX7_makeRound_B95 k n_a1 d_t K138) n v = some rv → ∀ (H : Heap) (locs : List Loc) (ls : Array Slot), va_P D vwCl [oX7 h_t q_t (d_t.1), ((q_t 0), .inl (cs 0, 106, .inl (d_t.2 0))), ((q_t 11), .inl (cs 0, 6, .inl (d_t.2 11))), (h_a1, .inl (cs 0, n_a1, .inl (v.2.2)))] H → va_D A [oX7 h_t q_t (d_t.1), ((q_t 0), .inl (cs 0, 106, .inl (d_t.2 0))), ((q_t 11), .inl (cs 0, 6, .inl (d_t.2 11))), (h_a1, .inl (cs 0, n_a1, .inl (v.2.2)))] → va_S A s.heap H locs → lv_has ls 5 [(0, .ref h_t), (1, .ref h_a1), (2, .int (v.1)), (3, .int (v.2.1))] → W p l e rm_X7_makeRound s m args below meth c H locs 0 0 Q (F0 m 95 ls []) := by
  obtain ⟨hx, hb, hml, hT, hown, hlk, hrt, hK, hN, hSE⟩ := id M
  refine lp_ind (fun rec ih v hf H locs ls hP hD hS hl => ?_)
  unfold fX7_makeRound_B95 at hf
  refine lv_iload_n hx hb dX7_makeRound_95 rfl (lv_at hl 3 rfl) ?_
  refine lv_aload_n hx hb dX7_makeRound_96 rfl (lv_at hl 0 rfl) ?_
  obtain ⟨r1, e2, hf⟩ := bind_some hf
  refine callVi (As := []) (rest := [.int (v.2.1)]) M (mX7_players l D cs sk h_t q_t k d_t e2) mw_X7_67 ln_X7_players ⟨rfl, rfl, Nat.le_of_ble_eq_true rfl, Nat.le_of_ble_eq_true rfl⟩ hP hD hS hA [0, 1] (by decide) rfl rfl (q0 := 0) rfl rfl rfl ⟨Nat.zero_le _, Nat.zero_le _⟩ hl.1 rfl (Nat.le_of_ble_eq_true rfl) dX7_makeRound_97 (fun H locs hP hD hS => ?_)
  replace hP : va_P D vwCl [oX7 h_t q_t (d_t.1), ((q_t 0), .inl (cs 0, 106, .inl (d_t.2 0))), ((q_t 11), .inl (cs 0, 6, .inl (d_t.2 11))), (h_a1, .inl (cs 0, n_a1, .inl (v.2.2)))] H := hP
  replace hD : va_D A [oX7 h_t q_t (d_t.1), ((q_t 0), .inl (cs 0, 106, .inl (d_t.2 0))), ((q_t 11), .inl (cs 0, 6, .inl (d_t.2 11))), (h_a1, .inl (cs 0, n_a1, .inl (v.2.2)))] := hD
  have g4 := ite_some hf
  refine lv_icmp_ge (tgt := 138) hx hb dX7_makeRound_100 (by decide) (fun c3 => ?_) (fun c3 => ?_)
  · replace hf := g4.1 c3
    exact hK138 _ hf _ _ _ hP hD hS (lv_sub hl [2] rfl)
  · replace hf := g4.2 c3
    refine lv_iload_n hx hb dX7_makeRound_103 rfl (lv_at hl 2 rfl) ?_
    refine lv_aload_n hx hb dX7_makeRound_104 rfl (lv_at hl 0 rfl) ?_
    refine va_get (D := D) (ci := 7) (v := .ref (q_t 11)) (C := RX7) (T := TX7) (N := 23) hx hb hT iX7 hown hK hP 0 rfl rfl 11 (by decide) (hT _ fw_X7_38) (fun _ h9 => h9) rfl dX7_makeRound_105 ?_
    refine lv_iload_n hx hb dX7_makeRound_108 rfl (lv_at hl 3 rfl) ?_
    obtain ⟨hi, hf⟩ := chk_some hf
    refine va_iald (D := D) hx hb hK hP 2 0 rfl rfl hi dX7_makeRound_109 ?_
    refine lv_aload_n hx hb dX7_makeRound_110 rfl (lv_at hl 1 rfl) ?_
    refine lv_iload_n hx hb dX7_makeRound_111 rfl (lv_at hl 3 rfl) ?_
    obtain ⟨hi, hf⟩ := chk_some hf
    refine va_iald (D := D) hx hb hK hP 3 0 rfl rfl hi dX7_makeRound_112 ?_
    have g6 := ite_some hf
    refine lv_icmp_eq (tgt := 120) hx hb dX7_makeRound_113 (by decide) (fun c5 => ?_) (fun c5 => ?_)
    · replace hf := g6.1 c5
      refine lv_iconst (v := 0) hx hb dX7_makeRound_120 rfl ?_
      refine lv_iadd hx hb dX7_makeRound_121 ?_
      refine lv_istore_n (lv' := [(2, .int ((v.1) + 0)), (0, .ref h_t), (1, .ref h_a1), (3, .int (v.2.1))]) hx hb dX7_makeRound_122 rfl hl (by decide) rfl (fun ls hl => ?_)
      refine lv_aload_n hx hb dX7_makeRound_123 rfl (lv_at hl 2 rfl) ?_
      refine lv_iload_n hx hb dX7_makeRound_124 rfl (lv_at hl 3 rfl) ?_
      refine lv_aload_n hx hb dX7_makeRound_125 rfl (lv_at hl 1 rfl) ?_
      refine va_get (D := D) (ci := 7) (v := .ref (q_t 11)) (C := RX7) (T := TX7) (N := 23) hx hb hT iX7 hown hK hP 0 rfl rfl 11 (by decide) (hT _ fw_X7_38) (fun _ h9 => h9) rfl dX7_makeRound_126 ?_
      refine lv_iload_n hx hb dX7_makeRound_129 rfl (lv_at hl 3 rfl) ?_
      obtain ⟨hi, hf⟩ := chk_some hf
      refine va_iald (D := D) hx hb hK hP 2 0 rfl rfl hi dX7_makeRound_130 ?_
      obtain ⟨hi, hf⟩ := chk_some hf
      refine va_iast (D := D) hx hb hK hP hD hS 3 0 rfl rfl hi dX7_makeRound_131 (fun H locs hP hD hS => ?_)
      replace hP : va_P D vwCl [oX7 h_t q_t (d_t.1), ((q_t 0), .inl (cs 0, 106, .inl (d_t.2 0))), ((q_t 11), .inl (cs 0, 6, .inl (d_t.2 11))), (h_a1, .inl (cs 0, n_a1, .inl (upd (v.2.2) (v.2.1).toNatClampNeg ((d_t.2 11) (v.2.1).toNatClampNeg))))] H := hP
      replace hD : va_D A [oX7 h_t q_t (d_t.1), ((q_t 0), .inl (cs 0, 106, .inl (d_t.2 0))), ((q_t 11), .inl (cs 0, 6, .inl (d_t.2 11))), (h_a1, .inl (cs 0, n_a1, .inl (upd (v.2.2) (v.2.1).toNatClampNeg ((d_t.2 11) (v.2.1).toNatClampNeg))))] := hD
      refine lv_iinc (v := ((v.2.1) + 1)) (lv' := [(3, .int ((v.2.1) + 1)), (2, .int ((v.1) + 0)), (0, .ref h_t), (1, .ref h_a1)]) hx hb dX7_makeRound_132 hl (k := 3) rfl rfl (by decide) rfl (fun ls hl => ?_)
      refine lv_goto (tgt := 95) hx hb dX7_makeRound_135 (by decide) ?_
      exact ih _ hf _ _ _ hP hD hS (lv_sub hl [2, 3, 1, 0] rfl)
    · replace hf := g6.2 c5
      refine lv_iconst (v := 1) hx hb dX7_makeRound_116 rfl ?_
      refine lv_goto (tgt := 121) hx hb dX7_makeRound_117 (by decide) ?_
      refine lv_iadd hx hb dX7_makeRound_121 ?_
      refine lv_istore_n (lv' := [(2, .int ((v.1) + 1)), (0, .ref h_t), (1, .ref h_a1), (3, .int (v.2.1))]) hx hb dX7_makeRound_122 rfl hl (by decide) rfl (fun ls hl => ?_)
      refine lv_aload_n hx hb dX7_makeRound_123 rfl (lv_at hl 2 rfl) ?_
      refine lv_iload_n hx hb dX7_makeRound_124 rfl (lv_at hl 3 rfl) ?_
      refine lv_aload_n hx hb dX7_makeRound_125 rfl (lv_at hl 1 rfl) ?_
      refine va_get (D := D) (ci := 7) (v := .ref (q_t 11)) (C := RX7) (T := TX7) (N := 23) hx hb hT iX7 hown hK hP 0 rfl rfl 11 (by decide) (hT _ fw_X7_38) (fun _ h9 => h9) rfl dX7_makeRound_126 ?_
      refine lv_iload_n hx hb dX7_makeRound_129 rfl (lv_at hl 3 rfl) ?_
      obtain ⟨hi, hf⟩ := chk_some hf
      refine va_iald (D := D) hx hb hK hP 2 0 rfl rfl hi dX7_makeRound_130 ?_
      obtain ⟨hi, hf⟩ := chk_some hf
      refine va_iast (D := D) hx hb hK hP hD hS 3 0 rfl rfl hi dX7_makeRound_131 (fun H locs hP hD hS => ?_)
      replace hP : va_P D vwCl [oX7 h_t q_t (d_t.1), ((q_t 0), .inl (cs 0, 106, .inl (d_t.2 0))), ((q_t 11), .inl (cs 0, 6, .inl (d_t.2 11))), (h_a1, .inl (cs 0, n_a1, .inl (upd (v.2.2) (v.2.1).toNatClampNeg ((d_t.2 11) (v.2.1).toNatClampNeg))))] H := hP
      replace hD : va_D A [oX7 h_t q_t (d_t.1), ((q_t 0), .inl (cs 0, 106, .inl (d_t.2 0))), ((q_t 11), .inl (cs 0, 6, .inl (d_t.2 11))), (h_a1, .inl (cs 0, n_a1, .inl (upd (v.2.2) (v.2.1).toNatClampNeg ((d_t.2 11) (v.2.1).toNatClampNeg))))] := hD
      refine lv_iinc (v := ((v.2.1) + 1)) (lv' := [(3, .int ((v.2.1) + 1)), (2, .int ((v.1) + 1)), (0, .ref h_t), (1, .ref h_a1)]) hx hb dX7_makeRound_132 hl (k := 3) rfl rfl (by decide) rfl (fun ls hl => ?_)
      refine lv_goto (tgt := 95) hx hb dX7_makeRound_135 (by decide) ?_
      exact ih _ hf _ _ _ hP hD hS (lv_sub hl [2, 3, 1, 0] rfl)
set_option maxHeartbeats 4000000 in
set_option maxRecDepth 100000 in
theorem mX7_makeRound (l : Launch) (D : va_G) (cs : Nat → ClassId) (sk : Nat → Nat) (h_t : Nat) (h_a1 : Nat) (q_t : Nat → Nat) (k : Nat) (d_t : Dat) (n_a1 : Nat) (f_a1 : Nat → Int32) {rv : Int32 × Dat × (Nat → Int32)} (hf : fX7_makeRound k d_t n_a1 f_a1 = some rv) : CTi l yX7_makeRound (Cond.code yX7_makeRound cX7_makeRound 5 (some .int) :: gtbl) rm_X7_makeRound D cs sk [.ref h_t, .ref h_a1] [oX7 h_t q_t (d_t.1), ((q_t 0), .inl (cs 0, 106, .inl (d_t.2 0))), ((q_t 11), .inl (cs 0, 6, .inl (d_t.2 11))), (h_a1, .inl (cs 0, n_a1, .inl f_a1))] (rv.1) [oX7 h_t q_t (d_t.1), ((q_t 0), .inl (cs 0, 106, .inl (d_t.2 0))), ((q_t 11), .inl (cs 0, 6, .inl (rv.2.1.2 11))), (h_a1, .inl (cs 0, n_a1, .inl (rv.2.2)))] := by
  refine CTi.of RX7 (by decide +kernel) rfl (Nat.le_of_ble_eq_true rfl) (fun p e s m args below meth c A Q ls M hA hR hl hP hD hS => ?_)
  obtain ⟨hx, hb, hml, hT, hown, hlk, hrt, hK, hN, hSE⟩ := id M
  replace hl : lv_has ls 5 [(0, .ref h_t), (1, .ref h_a1)] := hl
  unfold fX7_makeRound at hf
  refine lv_iconst (v := 0) hx hb dX7_makeRound_0 rfl ?_
  refine lv_istore_n (lv' := [(2, .int 0), (0, .ref h_t), (1, .ref h_a1)]) hx hb dX7_makeRound_1 rfl hl (by decide) rfl (fun ls hl => ?_)
  refine mX7_makeRound_B2 h_t h_a1 q_t k n_a1 d_t f_a1 _ M hA hR (fun w1 hf H locs ls hP hD hS hl => ?_) _ _ hf _ _ _ hP hD hS (lv_sub hl [1, 2, 0] rfl)
  · refine lv_iconst (v := 0) hx hb dX7_makeRound_91 rfl ?_
    refine lv_istore_n (lv' := [(2, .int 0), (0, .ref h_t), (1, .ref h_a1)]) hx hb dX7_makeRound_92 rfl hl (by decide) rfl (fun ls hl => ?_)
    refine lv_iconst (v := 0) hx hb dX7_makeRound_93 rfl ?_
    refine lv_istore_n (lv' := [(3, .int 0), (2, .int 0), (0, .ref h_t), (1, .ref h_a1)]) hx hb dX7_makeRound_94 rfl hl (by decide) rfl (fun ls hl => ?_)
    refine mX7_makeRound_B95 h_t h_a1 q_t k n_a1 (d_t.1, (va_up d_t.2 11 (w1.2 11))) _ M hA hR (fun w2 hf H locs ls hP hD hS hl => ?_) _ _ hf _ _ _ hP hD hS (lv_sub hl [2, 3, 1, 0] rfl)
    · refine lv_iload_n hx hb dX7_makeRound_138 rfl (lv_at hl 0 rfl) ?_
      have e9 := Option.some.inj hf
      subst e9
      exact hR _ _ _ _ dX7_makeRound_139 hP hS
abbrev rm_X7_round : Room := { frames := 3, cells := 0, slots := 0, locals := 67 }
def fX7_round_B63 (k : Nat) (d_t : Dat) (K101 : Dat → Option (Int32 × Dat)) (rec : Int32 × Dat → Option (Int32 × Dat)) (v : Int32 × Dat) : Option (Int32 × Dat) :=
  (if 6 ≤ (v.1) then K101 (d_t.1, (va_up d_t.2 0 (v.2.2 0))) else chk 106 57 (chk 6 (v.1) (chk 106 ((58 + (6 * ((v.2.2 0) (57 : Int32).toNatClampNeg))) + (v.1)) (rec (((v.1) + 1), (d_t.1, (va_up d_t.2 0 (upd (v.2.2 0) ((58 + (6 * ((v.2.2 0) (57 : Int32).toNatClampNeg))) + (v.1)).toNatClampNeg ((d_t.2 10) (v.1).toNatClampNeg)))))))))
def fX7_round_B123 (k : Nat) (d_t : Dat) (K156 : Dat → Option (Int32 × Dat)) (rec : Int32 × Dat → Option (Int32 × Dat)) (v : Int32 × Dat) : Option (Int32 × Dat) :=
  (fX7_players k (d_t.1, (va_up d_t.2 0 (v.2.2 0)))).bind (fun (r1 : Int32) => (if r1 ≤ (v.1) then K156 (d_t.1, (va_up d_t.2 0 (v.2.2 0))) else chk 6 (v.1) (chk 106 ((24 + (5 * (v.1))) + 3) (rec (((v.1) + 1), (d_t.1, (va_up d_t.2 0 (upd (v.2.2 0) ((24 + (5 * (v.1))) + 3).toNatClampNeg ((d_t.2 10) (v.1).toNatClampNeg)))))))))
def fX7_round_B14 (k : Nat) (d_t : Dat) (K44 : Dat → Option (Int32 × Dat)) (rec : Int32 × Dat → Option (Int32 × Dat)) (v : Int32 × Dat) : Option (Int32 × Dat) :=
  (if 42 ≤ (v.1) then K44 (d_t.1, (va_up d_t.2 0 (v.2.2 0))) else chk 106 (64 + (v.1)) (chk 106 (58 + (v.1)) (rec (((v.1) + 1), (d_t.1, (va_up d_t.2 0 (upd (v.2.2 0) (58 + (v.1)).toNatClampNeg ((v.2.2 0) (64 + (v.1)).toNatClampNeg))))))))
def fX7_round (k : Nat) (d_t : Dat) : Option (Int32 × Dat) :=
  chk 106 57 ((if ((d_t.2 0) (57 : Int32).toNatClampNeg) = 8 then lp (fX7_round_B14 k d_t (fun (w9 : Dat) => chk 106 57 ((fX7_takeOffsets k (d_t.1, (va_up d_t.2 0 (upd (w9.2 0) (57 : Int32).toNatClampNeg 7))) 6 (d_t.2 10)).bind (fun (r10 : (Nat → Int32)) => lp (fX7_round_B63 k (d_t.1, (va_up (va_up d_t.2 0 (upd (w9.2 0) (57 : Int32).toNatClampNeg 7)) 10 r10)) (fun (w12 : Dat) => chk 106 57 (chk 106 57 ((fX7_makeRound k (d_t.1, (va_up (va_up d_t.2 0 (upd (w12.2 0) (57 : Int32).toNatClampNeg (((w12.2 0) (57 : Int32).toNatClampNeg) + 1))) 10 r10)) 6 r10).bind (fun (r13 : Int32 × Dat × (Nat → Int32)) => lp (fX7_round_B123 k (d_t.1, (va_up (va_up (va_up d_t.2 0 (upd (w12.2 0) (57 : Int32).toNatClampNeg (((w12.2 0) (57 : Int32).toNatClampNeg) + 1))) 10 (r13.2.2)) 11 (r13.2.1.2 11))) (fun (w15 : Dat) => some ((r13.1), (d_t.1, (va_up (va_up (va_up d_t.2 0 (w15.2 0)) 10 (r13.2.2)) 11 (r13.2.1.2 11)))))) k (0, (d_t.1, (va_up (va_up (va_up d_t.2 0 (upd (w12.2 0) (57 : Int32).toNatClampNeg (((w12.2 0) (57 : Int32).toNatClampNeg) + 1))) 10 (r13.2.2)) 11 (r13.2.1.2 11))))))))) k (0, (d_t.1, (va_up (va_up d_t.2 0 (upd (w9.2 0) (57 : Int32).toNatClampNeg 7)) 10 r10))))))) k (0, d_t) else (fX7_takeOffsets k d_t 6 (d_t.2 10)).bind (fun (r3 : (Nat → Int32)) => lp (fX7_round_B63 k (d_t.1, (va_up d_t.2 10 r3)) (fun (w5 : Dat) => chk 106 57 (chk 106 57 ((fX7_makeRound k (d_t.1, (va_up (va_up d_t.2 0 (upd (w5.2 0) (57 : Int32).toNatClampNeg (((w5.2 0) (57 : Int32).toNatClampNeg) + 1))) 10 r3)) 6 r3).bind (fun (r6 : Int32 × Dat × (Nat → Int32)) => lp (fX7_round_B123 k (d_t.1, (va_up (va_up (va_up d_t.2 0 (upd (w5.2 0) (57 : Int32).toNatClampNeg (((w5.2 0) (57 : Int32).toNatClampNeg) + 1))) 10 (r6.2.2)) 11 (r6.2.1.2 11))) (fun (w8 : Dat) => some ((r6.1), (d_t.1, (va_up (va_up (va_up d_t.2 0 (w8.2 0)) 10 (r6.2.2)) 11 (r6.2.1.2 11)))))) k (0, (d_t.1, (va_up (va_up (va_up d_t.2 0 (upd (w5.2 0) (57 : Int32).toNatClampNeg (((w5.2 0) (57 : Int32).toNatClampNeg) + 1))) 10 (r6.2.2)) 11 (r6.2.1.2 11))))))))) k (0, (d_t.1, (va_up d_t.2 10 r3))))))
set_option maxHeartbeats 4000000 in
set_option maxRecDepth 100000 in
theorem mX7_round_B63 {l : Launch} {p : Program} {e : Env} {s : State} {m : MethodId} {args : Array Value} {below : List Frame} {meth : Method} {c : Code} {D : va_G} {cs : Nat → ClassId} {sk : Nat → Nat} {A : Nat → Prop} {Q : State → Prop} (h_t : Nat) (q_t : Nat → Nat) (k : Nat) (d_t : Dat) {rv : Int32 × Dat}  (K101 : Dat → Option (Int32 × Dat))
    (M : MC p s m args meth c D cs sk A RX7 cX7_round 3 (some .int)) (hA : ∀ q, s.heap.size ≤ q → A q) (hR : RetI p l e rm_X7_round s m args below meth c D cX7_round A Q (rv.1) [oX7 h_t q_t (d_t.1), ((q_t 0), .inl (cs 0, 106, .inl (rv.2.2 0))), ((q_t 10), .inl (cs 0, 6, .inl (rv.2.2 10))), ((q_t 11), .inl (cs 0, 6, .inl (rv.2.2 11)))])
    (hK101 : ∀ (w : Dat), K101 w = some rv → ∀ (H : Heap) (locs : List Loc) (ls : Array Slot), va_P D vwCl [oX7 h_t q_t (d_t.1), ((q_t 0), .inl (cs 0, 106, .inl (w.2 0))), ((q_t 10), .inl (cs 0, 6, .inl (d_t.2 10))), ((q_t 11), .inl (cs 0, 6, .inl (d_t.2 11)))] H → va_D A [oX7 h_t q_t (d_t.1), ((q_t 0), .inl (cs 0, 106, .inl (w.2 0))), ((q_t 10), .inl (cs 0, 6, .inl (d_t.2 10))), ((q_t 11), .inl (cs 0, 6, .inl (d_t.2 11)))] → va_S A s.heap H locs → lv_has ls 3 [(0, .ref h_t)] → W p l e rm_X7_round s m args below meth c H locs 0 0 Q (F0 m 101 ls []))
    : ∀ (n : Nat) (v : Int32 × Dat), lp (fX7_round_B63 k d_t K101) n v = some rv → ∀ (H : Heap) (locs : List Loc) (ls : Array Slot), va_P D vwCl [oX7 h_t q_t (d_t.1), ((q_t 0), .inl (cs 0, 106, .inl (v.2.2 0))), ((q_t 10), .inl (cs 0, 6, .inl (d_t.2 10))), ((q_t 11), .inl (cs 0, 6, .inl (d_t.2 11)))] H → va_D A [oX7 h_t q_t (d_t.1), ((q_t 0), .inl (cs 0, 106, .inl (v.2.2 0))), ((q_t 10), .inl (cs 0, 6, .inl (d_t.2 10))), ((q_t 11), .inl (cs 0, 6, .inl (d_t.2 11)))] → va_S A s.heap H locs → lv_has ls 3 [(0, .ref h_t), (1, .int (v.1))] → W p l e rm_X7_round s m args below meth c H locs 0 0 Q (F0 m 63 ls []) := by
  obtain ⟨hx, hb, hml, hT, hown, hlk, hrt, hK, hN, hSE⟩ := id M
  refine lp_ind (fun rec ih v hf H locs ls hP hD hS hl => ?_)
  unfold fX7_round_B63 at hf
  refine lv_iload_n hx hb dX7_round_63 rfl (lv_at hl 1 rfl) ?_
  refine lv_bipush (v := 6) hx hb dX7_round_64 rfl ?_
  have g2 := ite_some hf
  refine lv_icmp_ge (tgt := 101) hx hb dX7_round_66 (by decide) (fun c1 => ?_) (fun c1 => ?_)
  · replace hf := g2.1 c1
    exact hK101 _ hf _ _ _ hP hD hS (lv_sub hl [0] rfl)
  · replace hf := g2.2 c1
    refine lv_aload_n hx hb dX7_round_69 rfl (lv_at hl 0 rfl) ?_
    refine va_get (D := D) (ci := 7) (v := .ref (q_t 0)) (C := RX7) (T := TX7) (N := 23) hx hb hT iX7 hown hK hP 0 rfl rfl 0 (by decide) (hT _ fw_X7_7) (fun _ h9 => h9) rfl dX7_round_70 ?_
    refine lv_bipush (v := 58) hx hb dX7_round_73 rfl ?_
    refine lv_bipush (v := 6) hx hb dX7_round_75 rfl ?_
    refine lv_aload_n hx hb dX7_round_77 rfl (lv_at hl 0 rfl) ?_
    refine va_get (D := D) (ci := 7) (v := .ref (q_t 0)) (C := RX7) (T := TX7) (N := 23) hx hb hT iX7 hown hK hP 0 rfl rfl 0 (by decide) (hT _ fw_X7_7) (fun _ h9 => h9) rfl dX7_round_78 ?_
    refine lv_bipush (v := 57) hx hb dX7_round_81 rfl ?_
    obtain ⟨hi, hf⟩ := chk_some hf
    refine va_iald (D := D) hx hb hK hP 1 0 rfl rfl hi dX7_round_83 ?_
    refine lv_imul hx hb dX7_round_84 ?_
    refine lv_iadd hx hb dX7_round_85 ?_
    refine lv_iload_n hx hb dX7_round_86 rfl (lv_at hl 1 rfl) ?_
    refine lv_iadd hx hb dX7_round_87 ?_
    refine lv_aload_n hx hb dX7_round_88 rfl (lv_at hl 0 rfl) ?_
    refine va_get (D := D) (ci := 7) (v := .ref (q_t 10)) (C := RX7) (T := TX7) (N := 23) hx hb hT iX7 hown hK hP 0 rfl rfl 10 (by decide) (hT _ fw_X7_35) (fun _ h9 => h9) rfl dX7_round_89 ?_
    refine lv_iload_n hx hb dX7_round_92 rfl (lv_at hl 1 rfl) ?_
    obtain ⟨hi, hf⟩ := chk_some hf
    refine va_iald (D := D) hx hb hK hP 2 0 rfl rfl hi dX7_round_93 ?_
    obtain ⟨hi, hf⟩ := chk_some hf
    refine va_iast (D := D) hx hb hK hP hD hS 1 0 rfl rfl hi dX7_round_94 (fun H locs hP hD hS => ?_)
    replace hP : va_P D vwCl [oX7 h_t q_t (d_t.1), ((q_t 0), .inl (cs 0, 106, .inl (upd (v.2.2 0) ((58 + (6 * ((v.2.2 0) (57 : Int32).toNatClampNeg))) + (v.1)).toNatClampNeg ((d_t.2 10) (v.1).toNatClampNeg)))), ((q_t 10), .inl (cs 0, 6, .inl (d_t.2 10))), ((q_t 11), .inl (cs 0, 6, .inl (d_t.2 11)))] H := hP
    replace hD : va_D A [oX7 h_t q_t (d_t.1), ((q_t 0), .inl (cs 0, 106, .inl (upd (v.2.2 0) ((58 + (6 * ((v.2.2 0) (57 : Int32).toNatClampNeg))) + (v.1)).toNatClampNeg ((d_t.2 10) (v.1).toNatClampNeg)))), ((q_t 10), .inl (cs 0, 6, .inl (d_t.2 10))), ((q_t 11), .inl (cs 0, 6, .inl (d_t.2 11)))] := hD
    refine lv_iinc (v := ((v.1) + 1)) (lv' := [(1, .int ((v.1) + 1)), (0, .ref h_t)]) hx hb dX7_round_95 hl (k := 1) rfl rfl (by decide) rfl (fun ls hl => ?_)
    refine lv_goto (tgt := 63) hx hb dX7_round_98 (by decide) ?_
    exact ih _ hf _ _ _ hP hD hS (lv_sub hl [1, 0] rfl)
set_option maxHeartbeats 4000000 in
set_option maxRecDepth 100000 in
theorem mX7_round_B123 {l : Launch} {p : Program} {e : Env} {s : State} {m : MethodId} {args : Array Value} {below : List Frame} {meth : Method} {c : Code} {D : va_G} {cs : Nat → ClassId} {sk : Nat → Nat} {A : Nat → Prop} {Q : State → Prop} (h_t : Nat) (q_t : Nat → Nat) (k : Nat) (x1 : Int32) (d_t : Dat) {rv : Int32 × Dat}  (K156 : Dat → Option (Int32 × Dat))
    (M : MC p s m args meth c D cs sk A RX7 cX7_round 3 (some .int)) (hA : ∀ q, s.heap.size ≤ q → A q) (hR : RetI p l e rm_X7_round s m args below meth c D cX7_round A Q (rv.1) [oX7 h_t q_t (d_t.1), ((q_t 0), .inl (cs 0, 106, .inl (rv.2.2 0))), ((q_t 10), .inl (cs 0, 6, .inl (rv.2.2 10))), ((q_t 11), .inl (cs 0, 6, .inl (rv.2.2 11)))])
    (hK156 : ∀ (w : Dat), K156 w = some rv → ∀ (H : Heap) (locs : List Loc) (ls : Array Slot), va_P D vwCl [oX7 h_t q_t (d_t.1), ((q_t 0), .inl (cs 0, 106, .inl (w.2 0))), ((q_t 10), .inl (cs 0, 6, .inl (d_t.2 10))), ((q_t 11), .inl (cs 0, 6, .inl (d_t.2 11)))] H → va_D A [oX7 h_t q_t (d_t.1), ((q_t 0), .inl (cs 0, 106, .inl (w.2 0))), ((q_t 10), .inl (cs 0, 6, .inl (d_t.2 10))), ((q_t 11), .inl (cs 0, 6, .inl (d_t.2 11)))] → va_S A s.heap H locs → lv_has ls 3 [(1, .int x1)] → W p l e rm_X7_round s m args below meth c H locs 0 0 Q (F0 m 156 ls []))
    : ∀ (n : Nat) (v : Int32 × Dat), lp (fX7_round_B123 k d_t K156) n v = some rv → ∀ (H : Heap) (locs : List Loc) (ls : Array Slot), va_P D vwCl [oX7 h_t q_t (d_t.1), ((q_t 0), .inl (cs 0, 106, .inl (v.2.2 0))), ((q_t 10), .inl (cs 0, 6, .inl (d_t.2 10))), ((q_t 11), .inl (cs 0, 6, .inl (d_t.2 11)))] H → va_D A [oX7 h_t q_t (d_t.1), ((q_t 0), .inl (cs 0, 106, .inl (v.2.2 0))), ((q_t 10), .inl (cs 0, 6, .inl (d_t.2 10))), ((q_t 11), .inl (cs 0, 6, .inl (d_t.2 11)))] → va_S A s.heap H locs → lv_has ls 3 [(0, .ref h_t), (1, .int x1), (2, .int (v.1))] → W p l e rm_X7_round s m args below meth c H locs 0 0 Q (F0 m 123 ls []) := by
  obtain ⟨hx, hb, hml, hT, hown, hlk, hrt, hK, hN, hSE⟩ := id M
  refine lp_ind (fun rec ih v hf H locs ls hP hD hS hl => ?_)
  unfold fX7_round_B123 at hf
  refine lv_iload_n hx hb dX7_round_123 rfl (lv_at hl 2 rfl) ?_
  refine lv_aload_n hx hb dX7_round_124 rfl (lv_at hl 0 rfl) ?_
  obtain ⟨r1, e2, hf⟩ := bind_some hf
  refine callVi (As := []) (rest := [.int (v.1)]) M (mX7_players l D cs sk h_t q_t k (d_t.1, (va_up d_t.2 0 (v.2.2 0))) e2) mw_X7_67 ln_X7_players ⟨rfl, rfl, Nat.le_of_ble_eq_true rfl, Nat.le_of_ble_eq_true rfl⟩ hP hD hS hA [0, 1] (by decide) rfl rfl (q0 := 0) rfl rfl rfl ⟨Nat.zero_le _, Nat.zero_le _⟩ hl.1 rfl (Nat.le_of_ble_eq_true rfl) dX7_round_125 (fun H locs hP hD hS => ?_)
  replace hP : va_P D vwCl [oX7 h_t q_t (d_t.1), ((q_t 0), .inl (cs 0, 106, .inl (v.2.2 0))), ((q_t 10), .inl (cs 0, 6, .inl (d_t.2 10))), ((q_t 11), .inl (cs 0, 6, .inl (d_t.2 11)))] H := hP
  replace hD : va_D A [oX7 h_t q_t (d_t.1), ((q_t 0), .inl (cs 0, 106, .inl (v.2.2 0))), ((q_t 10), .inl (cs 0, 6, .inl (d_t.2 10))), ((q_t 11), .inl (cs 0, 6, .inl (d_t.2 11)))] := hD
  have g4 := ite_some hf
  refine lv_icmp_ge (tgt := 156) hx hb dX7_round_128 (by decide) (fun c3 => ?_) (fun c3 => ?_)
  · replace hf := g4.1 c3
    exact hK156 _ hf _ _ _ hP hD hS (lv_sub hl [1] rfl)
  · replace hf := g4.2 c3
    refine lv_aload_n hx hb dX7_round_131 rfl (lv_at hl 0 rfl) ?_
    refine va_get (D := D) (ci := 7) (v := .ref (q_t 0)) (C := RX7) (T := TX7) (N := 23) hx hb hT iX7 hown hK hP 0 rfl rfl 0 (by decide) (hT _ fw_X7_7) (fun _ h9 => h9) rfl dX7_round_132 ?_
    refine lv_bipush (v := 24) hx hb dX7_round_135 rfl ?_
    refine lv_iconst (v := 5) hx hb dX7_round_137 rfl ?_
    refine lv_iload_n hx hb dX7_round_138 rfl (lv_at hl 2 rfl) ?_
    refine lv_imul hx hb dX7_round_139 ?_
    refine lv_iadd hx hb dX7_round_140 ?_
    refine lv_iconst (v := 3) hx hb dX7_round_141 rfl ?_
    refine lv_iadd hx hb dX7_round_142 ?_
    refine lv_aload_n hx hb dX7_round_143 rfl (lv_at hl 0 rfl) ?_
    refine va_get (D := D) (ci := 7) (v := .ref (q_t 10)) (C := RX7) (T := TX7) (N := 23) hx hb hT iX7 hown hK hP 0 rfl rfl 10 (by decide) (hT _ fw_X7_35) (fun _ h9 => h9) rfl dX7_round_144 ?_
    refine lv_iload_n hx hb dX7_round_147 rfl (lv_at hl 2 rfl) ?_
    obtain ⟨hi, hf⟩ := chk_some hf
    refine va_iald (D := D) hx hb hK hP 2 0 rfl rfl hi dX7_round_148 ?_
    obtain ⟨hi, hf⟩ := chk_some hf
    refine va_iast (D := D) hx hb hK hP hD hS 1 0 rfl rfl hi dX7_round_149 (fun H locs hP hD hS => ?_)
    replace hP : va_P D vwCl [oX7 h_t q_t (d_t.1), ((q_t 0), .inl (cs 0, 106, .inl (upd (v.2.2 0) ((24 + (5 * (v.1))) + 3).toNatClampNeg ((d_t.2 10) (v.1).toNatClampNeg)))), ((q_t 10), .inl (cs 0, 6, .inl (d_t.2 10))), ((q_t 11), .inl (cs 0, 6, .inl (d_t.2 11)))] H := hP
    replace hD : va_D A [oX7 h_t q_t (d_t.1), ((q_t 0), .inl (cs 0, 106, .inl (upd (v.2.2 0) ((24 + (5 * (v.1))) + 3).toNatClampNeg ((d_t.2 10) (v.1).toNatClampNeg)))), ((q_t 10), .inl (cs 0, 6, .inl (d_t.2 10))), ((q_t 11), .inl (cs 0, 6, .inl (d_t.2 11)))] := hD
    refine lv_iinc (v := ((v.1) + 1)) (lv' := [(2, .int ((v.1) + 1)), (0, .ref h_t), (1, .int x1)]) hx hb dX7_round_150 hl (k := 2) rfl rfl (by decide) rfl (fun ls hl => ?_)
    refine lv_goto (tgt := 123) hx hb dX7_round_153 (by decide) ?_
    exact ih _ hf _ _ _ hP hD hS (lv_sub hl [1, 2, 0] rfl)
set_option maxHeartbeats 4000000 in
set_option maxRecDepth 100000 in
theorem mX7_round_B14 {l : Launch} {p : Program} {e : Env} {s : State} {m : MethodId} {args : Array Value} {below : List Frame} {meth : Method} {c : Code} {D : va_G} {cs : Nat → ClassId} {sk : Nat → Nat} {A : Nat → Prop} {Q : State → Prop} (h_t : Nat) (q_t : Nat → Nat) (k : Nat) (d_t : Dat) {rv : Int32 × Dat}  (K44 : Dat → Option (Int32 × Dat))
    (M : MC p s m args meth c D cs sk A RX7 cX7_round 3 (some .int)) (hA : ∀ q, s.heap.size ≤ q → A q) (hR : RetI p l e rm_X7_round s m args below meth c D cX7_round A Q (rv.1) [oX7 h_t q_t (d_t.1), ((q_t 0), .inl (cs 0, 106, .inl (rv.2.2 0))), ((q_t 10), .inl (cs 0, 6, .inl (rv.2.2 10))), ((q_t 11), .inl (cs 0, 6, .inl (rv.2.2 11)))])
    (hK44 : ∀ (w : Dat), K44 w = some rv → ∀ (H : Heap) (locs : List Loc) (ls : Array Slot), va_P D vwCl [oX7 h_t q_t (d_t.1), ((q_t 0), .inl (cs 0, 106, .inl (w.2 0))), ((q_t 10), .inl (cs 0, 6, .inl (d_t.2 10))), ((q_t 11), .inl (cs 0, 6, .inl (d_t.2 11)))] H → va_D A [oX7 h_t q_t (d_t.1), ((q_t 0), .inl (cs 0, 106, .inl (w.2 0))), ((q_t 10), .inl (cs 0, 6, .inl (d_t.2 10))), ((q_t 11), .inl (cs 0, 6, .inl (d_t.2 11)))] → va_S A s.heap H locs → lv_has ls 3 [(0, .ref h_t)] → W p l e rm_X7_round s m args below meth c H locs 0 0 Q (F0 m 44 ls []))
    : ∀ (n : Nat) (v : Int32 × Dat), lp (fX7_round_B14 k d_t K44) n v = some rv → ∀ (H : Heap) (locs : List Loc) (ls : Array Slot), va_P D vwCl [oX7 h_t q_t (d_t.1), ((q_t 0), .inl (cs 0, 106, .inl (v.2.2 0))), ((q_t 10), .inl (cs 0, 6, .inl (d_t.2 10))), ((q_t 11), .inl (cs 0, 6, .inl (d_t.2 11)))] H → va_D A [oX7 h_t q_t (d_t.1), ((q_t 0), .inl (cs 0, 106, .inl (v.2.2 0))), ((q_t 10), .inl (cs 0, 6, .inl (d_t.2 10))), ((q_t 11), .inl (cs 0, 6, .inl (d_t.2 11)))] → va_S A s.heap H locs → lv_has ls 3 [(0, .ref h_t), (1, .int (v.1))] → W p l e rm_X7_round s m args below meth c H locs 0 0 Q (F0 m 14 ls []) := by
  obtain ⟨hx, hb, hml, hT, hown, hlk, hrt, hK, hN, hSE⟩ := id M
  refine lp_ind (fun rec ih v hf H locs ls hP hD hS hl => ?_)
  unfold fX7_round_B14 at hf
  refine lv_iload_n hx hb dX7_round_14 rfl (lv_at hl 1 rfl) ?_
  refine lv_bipush (v := 42) hx hb dX7_round_15 rfl ?_
  have g2 := ite_some hf
  refine lv_icmp_ge (tgt := 44) hx hb dX7_round_17 (by decide) (fun c1 => ?_) (fun c1 => ?_)
  · replace hf := g2.1 c1
    exact hK44 _ hf _ _ _ hP hD hS (lv_sub hl [0] rfl)
  · replace hf := g2.2 c1
    refine lv_aload_n hx hb dX7_round_20 rfl (lv_at hl 0 rfl) ?_
    refine va_get (D := D) (ci := 7) (v := .ref (q_t 0)) (C := RX7) (T := TX7) (N := 23) hx hb hT iX7 hown hK hP 0 rfl rfl 0 (by decide) (hT _ fw_X7_7) (fun _ h9 => h9) rfl dX7_round_21 ?_
    refine lv_bipush (v := 58) hx hb dX7_round_24 rfl ?_
    refine lv_iload_n hx hb dX7_round_26 rfl (lv_at hl 1 rfl) ?_
    refine lv_iadd hx hb dX7_round_27 ?_
    refine lv_aload_n hx hb dX7_round_28 rfl (lv_at hl 0 rfl) ?_
    refine va_get (D := D) (ci := 7) (v := .ref (q_t 0)) (C := RX7) (T := TX7) (N := 23) hx hb hT iX7 hown hK hP 0 rfl rfl 0 (by decide) (hT _ fw_X7_7) (fun _ h9 => h9) rfl dX7_round_29 ?_
    refine lv_bipush (v := 64) hx hb dX7_round_32 rfl ?_
    refine lv_iload_n hx hb dX7_round_34 rfl (lv_at hl 1 rfl) ?_
    refine lv_iadd hx hb dX7_round_35 ?_
    obtain ⟨hi, hf⟩ := chk_some hf
    refine va_iald (D := D) hx hb hK hP 1 0 rfl rfl hi dX7_round_36 ?_
    obtain ⟨hi, hf⟩ := chk_some hf
    refine va_iast (D := D) hx hb hK hP hD hS 1 0 rfl rfl hi dX7_round_37 (fun H locs hP hD hS => ?_)
    replace hP : va_P D vwCl [oX7 h_t q_t (d_t.1), ((q_t 0), .inl (cs 0, 106, .inl (upd (v.2.2 0) (58 + (v.1)).toNatClampNeg ((v.2.2 0) (64 + (v.1)).toNatClampNeg)))), ((q_t 10), .inl (cs 0, 6, .inl (d_t.2 10))), ((q_t 11), .inl (cs 0, 6, .inl (d_t.2 11)))] H := hP
    replace hD : va_D A [oX7 h_t q_t (d_t.1), ((q_t 0), .inl (cs 0, 106, .inl (upd (v.2.2 0) (58 + (v.1)).toNatClampNeg ((v.2.2 0) (64 + (v.1)).toNatClampNeg)))), ((q_t 10), .inl (cs 0, 6, .inl (d_t.2 10))), ((q_t 11), .inl (cs 0, 6, .inl (d_t.2 11)))] := hD
    refine lv_iinc (v := ((v.1) + 1)) (lv' := [(1, .int ((v.1) + 1)), (0, .ref h_t)]) hx hb dX7_round_38 hl (k := 1) rfl rfl (by decide) rfl (fun ls hl => ?_)
    refine lv_goto (tgt := 14) hx hb dX7_round_41 (by decide) ?_
    exact ih _ hf _ _ _ hP hD hS (lv_sub hl [1, 0] rfl)
set_option maxHeartbeats 4000000 in
set_option maxRecDepth 100000 in
theorem mX7_round (l : Launch) (D : va_G) (cs : Nat → ClassId) (sk : Nat → Nat) (h_t : Nat) (q_t : Nat → Nat) (k : Nat) (d_t : Dat) {rv : Int32 × Dat} (hf : fX7_round k d_t = some rv) : CTi l yX7_round (Cond.code yX7_round cX7_round 3 (some .int) :: gtbl) rm_X7_round D cs sk [.ref h_t] [oX7 h_t q_t (d_t.1), ((q_t 0), .inl (cs 0, 106, .inl (d_t.2 0))), ((q_t 10), .inl (cs 0, 6, .inl (d_t.2 10))), ((q_t 11), .inl (cs 0, 6, .inl (d_t.2 11)))] (rv.1) [oX7 h_t q_t (d_t.1), ((q_t 0), .inl (cs 0, 106, .inl (rv.2.2 0))), ((q_t 10), .inl (cs 0, 6, .inl (rv.2.2 10))), ((q_t 11), .inl (cs 0, 6, .inl (rv.2.2 11)))] := by
  refine CTi.of RX7 (by decide +kernel) rfl (Nat.le_of_ble_eq_true rfl) (fun p e s m args below meth c A Q ls M hA hR hl hP hD hS => ?_)
  obtain ⟨hx, hb, hml, hT, hown, hlk, hrt, hK, hN, hSE⟩ := id M
  replace hl : lv_has ls 3 [(0, .ref h_t)] := hl
  unfold fX7_round at hf
  refine lv_aload_n hx hb dX7_round_0 rfl (lv_at hl 0 rfl) ?_
  refine va_get (D := D) (ci := 7) (v := .ref (q_t 0)) (C := RX7) (T := TX7) (N := 23) hx hb hT iX7 hown hK hP 0 rfl rfl 0 (by decide) (hT _ fw_X7_7) (fun _ h9 => h9) rfl dX7_round_1 ?_
  refine lv_bipush (v := 57) hx hb dX7_round_4 rfl ?_
  obtain ⟨hi, hf⟩ := chk_some hf
  refine va_iald (D := D) hx hb hK hP 1 0 rfl rfl hi dX7_round_6 ?_
  refine lv_bipush (v := 8) hx hb dX7_round_7 rfl ?_
  have g2 := ite_some hf
  refine lv_icmp_ne (tgt := 53) hx hb dX7_round_9 (by decide) (fun c1 => ?_) (fun c1 => ?_)
  · replace hf := g2.2 c1
    refine lv_aload_n hx hb dX7_round_53 rfl (lv_at hl 0 rfl) ?_
    refine lv_aload_n hx hb dX7_round_54 rfl (lv_at hl 0 rfl) ?_
    refine va_get (D := D) (ci := 7) (v := .ref (q_t 10)) (C := RX7) (T := TX7) (N := 23) hx hb hT iX7 hown hK hP 0 rfl rfl 10 (by decide) (hT _ fw_X7_35) (fun _ h9 => h9) rfl dX7_round_55 ?_
    obtain ⟨r3, e4, hf⟩ := bind_some hf
    refine callVv (As := [.ref (q_t 10)]) (rest := []) M (mX7_takeOffsets l D cs sk h_t (q_t 10) q_t k d_t 6 (d_t.2 10) e4) mw_X7_191 ln_X7_takeOffsets ⟨rfl, rfl, Nat.le_of_ble_eq_true rfl, Nat.le_of_ble_eq_true rfl⟩ hP hD hS hA [0, 1, 2] (by decide) rfl rfl (q0 := 0) rfl rfl rfl ⟨Nat.zero_le _, Nat.zero_le _⟩ hl.1 rfl (Nat.le_of_ble_eq_true rfl) dX7_round_58 (fun H locs hP hD hS => ?_)
    replace hP : va_P D vwCl [oX7 h_t q_t (d_t.1), ((q_t 0), .inl (cs 0, 106, .inl (d_t.2 0))), ((q_t 10), .inl (cs 0, 6, .inl r3)), ((q_t 11), .inl (cs 0, 6, .inl (d_t.2 11)))] H := hP
    replace hD : va_D A [oX7 h_t q_t (d_t.1), ((q_t 0), .inl (cs 0, 106, .inl (d_t.2 0))), ((q_t 10), .inl (cs 0, 6, .inl r3)), ((q_t 11), .inl (cs 0, 6, .inl (d_t.2 11)))] := hD
    refine lv_iconst (v := 0) hx hb dX7_round_61 rfl ?_
    refine lv_istore_n (lv' := [(1, .int 0), (0, .ref h_t)]) hx hb dX7_round_62 rfl hl (by decide) rfl (fun ls hl => ?_)
    refine mX7_round_B63 h_t q_t k (d_t.1, (va_up d_t.2 10 r3)) _ M hA hR (fun w5 hf H locs ls hP hD hS hl => ?_) _ _ hf _ _ _ hP hD hS (lv_sub hl [1, 0] rfl)
    · refine lv_aload_n hx hb dX7_round_101 rfl (lv_at hl 0 rfl) ?_
      refine va_get (D := D) (ci := 7) (v := .ref (q_t 0)) (C := RX7) (T := TX7) (N := 23) hx hb hT iX7 hown hK hP 0 rfl rfl 0 (by decide) (hT _ fw_X7_7) (fun _ h9 => h9) rfl dX7_round_102 ?_
      refine lv_bipush (v := 57) hx hb dX7_round_105 rfl ?_
      refine lv_dup2_11 hx hb dX7_round_107 rfl rfl ?_
      obtain ⟨hi, hf⟩ := chk_some hf
      refine va_iald (D := D) hx hb hK hP 1 0 rfl rfl hi dX7_round_108 ?_
      refine lv_iconst (v := 1) hx hb dX7_round_109 rfl ?_
      refine lv_iadd hx hb dX7_round_110 ?_
      obtain ⟨hi, hf⟩ := chk_some hf
      refine va_iast (D := D) hx hb hK hP hD hS 1 0 rfl rfl hi dX7_round_111 (fun H locs hP hD hS => ?_)
      replace hP : va_P D vwCl [oX7 h_t q_t (d_t.1), ((q_t 0), .inl (cs 0, 106, .inl (upd (w5.2 0) (57 : Int32).toNatClampNeg (((w5.2 0) (57 : Int32).toNatClampNeg) + 1)))), ((q_t 10), .inl (cs 0, 6, .inl r3)), ((q_t 11), .inl (cs 0, 6, .inl (d_t.2 11)))] H := hP
      replace hD : va_D A [oX7 h_t q_t (d_t.1), ((q_t 0), .inl (cs 0, 106, .inl (upd (w5.2 0) (57 : Int32).toNatClampNeg (((w5.2 0) (57 : Int32).toNatClampNeg) + 1)))), ((q_t 10), .inl (cs 0, 6, .inl r3)), ((q_t 11), .inl (cs 0, 6, .inl (d_t.2 11)))] := hD
      refine lv_aload_n hx hb dX7_round_112 rfl (lv_at hl 0 rfl) ?_
      refine lv_aload_n hx hb dX7_round_113 rfl (lv_at hl 0 rfl) ?_
      refine va_get (D := D) (ci := 7) (v := .ref (q_t 10)) (C := RX7) (T := TX7) (N := 23) hx hb hT iX7 hown hK hP 0 rfl rfl 10 (by decide) (hT _ fw_X7_35) (fun _ h9 => h9) rfl dX7_round_114 ?_
      obtain ⟨r6, e7, hf⟩ := bind_some hf
      refine callVi (As := [.ref (q_t 10)]) (rest := []) M (mX7_makeRound l D cs sk h_t (q_t 10) q_t k (d_t.1, (va_up (va_up d_t.2 0 (upd (w5.2 0) (57 : Int32).toNatClampNeg (((w5.2 0) (57 : Int32).toNatClampNeg) + 1))) 10 r3)) 6 r3 e7) mw_X7_195 ln_X7_makeRound ⟨rfl, rfl, Nat.le_of_ble_eq_true rfl, Nat.le_of_ble_eq_true rfl⟩ hP hD hS hA [0, 1, 3, 2] (by decide) rfl rfl (q0 := 0) rfl rfl rfl ⟨Nat.zero_le _, Nat.zero_le _⟩ hl.1 rfl (Nat.le_of_ble_eq_true rfl) dX7_round_117 (fun H locs hP hD hS => ?_)
      replace hP : va_P D vwCl [oX7 h_t q_t (d_t.1), ((q_t 0), .inl (cs 0, 106, .inl (upd (w5.2 0) (57 : Int32).toNatClampNeg (((w5.2 0) (57 : Int32).toNatClampNeg) + 1)))), ((q_t 10), .inl (cs 0, 6, .inl (r6.2.2))), ((q_t 11), .inl (cs 0, 6, .inl (r6.2.1.2 11)))] H := hP
      replace hD : va_D A [oX7 h_t q_t (d_t.1), ((q_t 0), .inl (cs 0, 106, .inl (upd (w5.2 0) (57 : Int32).toNatClampNeg (((w5.2 0) (57 : Int32).toNatClampNeg) + 1)))), ((q_t 10), .inl (cs 0, 6, .inl (r6.2.2))), ((q_t 11), .inl (cs 0, 6, .inl (r6.2.1.2 11)))] := hD
      refine lv_istore_n (lv' := [(1, .int (r6.1)), (0, .ref h_t)]) hx hb dX7_round_120 rfl hl (by decide) rfl (fun ls hl => ?_)
      refine lv_iconst (v := 0) hx hb dX7_round_121 rfl ?_
      refine lv_istore_n (lv' := [(2, .int 0), (1, .int (r6.1)), (0, .ref h_t)]) hx hb dX7_round_122 rfl hl (by decide) rfl (fun ls hl => ?_)
      refine mX7_round_B123 h_t q_t k (r6.1) (d_t.1, (va_up (va_up (va_up d_t.2 0 (upd (w5.2 0) (57 : Int32).toNatClampNeg (((w5.2 0) (57 : Int32).toNatClampNeg) + 1))) 10 (r6.2.2)) 11 (r6.2.1.2 11))) _ M hA hR (fun w8 hf H locs ls hP hD hS hl => ?_) _ _ hf _ _ _ hP hD hS (lv_sub hl [2, 1, 0] rfl)
      · refine lv_iload_n hx hb dX7_round_156 rfl (lv_at hl 0 rfl) ?_
        have e9 := Option.some.inj hf
        subst e9
        exact hR _ _ _ _ dX7_round_157 hP hS
  · replace hf := g2.1 c1
    refine lv_iconst (v := 0) hx hb dX7_round_12 rfl ?_
    refine lv_istore_n (lv' := [(1, .int 0), (0, .ref h_t)]) hx hb dX7_round_13 rfl hl (by decide) rfl (fun ls hl => ?_)
    refine mX7_round_B14 h_t q_t k d_t _ M hA hR (fun w9 hf H locs ls hP hD hS hl => ?_) _ _ hf _ _ _ hP hD hS (lv_sub hl [1, 0] rfl)
    · refine lv_aload_n hx hb dX7_round_44 rfl (lv_at hl 0 rfl) ?_
      refine va_get (D := D) (ci := 7) (v := .ref (q_t 0)) (C := RX7) (T := TX7) (N := 23) hx hb hT iX7 hown hK hP 0 rfl rfl 0 (by decide) (hT _ fw_X7_7) (fun _ h9 => h9) rfl dX7_round_45 ?_
      refine lv_bipush (v := 57) hx hb dX7_round_48 rfl ?_
      refine lv_bipush (v := 7) hx hb dX7_round_50 rfl ?_
      obtain ⟨hi, hf⟩ := chk_some hf
      refine va_iast (D := D) hx hb hK hP hD hS 1 0 rfl rfl hi dX7_round_52 (fun H locs hP hD hS => ?_)
      replace hP : va_P D vwCl [oX7 h_t q_t (d_t.1), ((q_t 0), .inl (cs 0, 106, .inl (upd (w9.2 0) (57 : Int32).toNatClampNeg 7))), ((q_t 10), .inl (cs 0, 6, .inl (d_t.2 10))), ((q_t 11), .inl (cs 0, 6, .inl (d_t.2 11)))] H := hP
      replace hD : va_D A [oX7 h_t q_t (d_t.1), ((q_t 0), .inl (cs 0, 106, .inl (upd (w9.2 0) (57 : Int32).toNatClampNeg 7))), ((q_t 10), .inl (cs 0, 6, .inl (d_t.2 10))), ((q_t 11), .inl (cs 0, 6, .inl (d_t.2 11)))] := hD
      refine lv_aload_n hx hb dX7_round_53 rfl (lv_at hl 0 rfl) ?_
      refine lv_aload_n hx hb dX7_round_54 rfl (lv_at hl 0 rfl) ?_
      refine va_get (D := D) (ci := 7) (v := .ref (q_t 10)) (C := RX7) (T := TX7) (N := 23) hx hb hT iX7 hown hK hP 0 rfl rfl 10 (by decide) (hT _ fw_X7_35) (fun _ h9 => h9) rfl dX7_round_55 ?_
      obtain ⟨r10, e11, hf⟩ := bind_some hf
      refine callVv (As := [.ref (q_t 10)]) (rest := []) M (mX7_takeOffsets l D cs sk h_t (q_t 10) q_t k (d_t.1, (va_up d_t.2 0 (upd (w9.2 0) (57 : Int32).toNatClampNeg 7))) 6 (d_t.2 10) e11) mw_X7_191 ln_X7_takeOffsets ⟨rfl, rfl, Nat.le_of_ble_eq_true rfl, Nat.le_of_ble_eq_true rfl⟩ hP hD hS hA [0, 1, 2] (by decide) rfl rfl (q0 := 0) rfl rfl rfl ⟨Nat.zero_le _, Nat.zero_le _⟩ hl.1 rfl (Nat.le_of_ble_eq_true rfl) dX7_round_58 (fun H locs hP hD hS => ?_)
      replace hP : va_P D vwCl [oX7 h_t q_t (d_t.1), ((q_t 0), .inl (cs 0, 106, .inl (upd (w9.2 0) (57 : Int32).toNatClampNeg 7))), ((q_t 10), .inl (cs 0, 6, .inl r10)), ((q_t 11), .inl (cs 0, 6, .inl (d_t.2 11)))] H := hP
      replace hD : va_D A [oX7 h_t q_t (d_t.1), ((q_t 0), .inl (cs 0, 106, .inl (upd (w9.2 0) (57 : Int32).toNatClampNeg 7))), ((q_t 10), .inl (cs 0, 6, .inl r10)), ((q_t 11), .inl (cs 0, 6, .inl (d_t.2 11)))] := hD
      refine lv_iconst (v := 0) hx hb dX7_round_61 rfl ?_
      refine lv_istore_n (lv' := [(1, .int 0), (0, .ref h_t)]) hx hb dX7_round_62 rfl hl (by decide) rfl (fun ls hl => ?_)
      refine mX7_round_B63 h_t q_t k (d_t.1, (va_up (va_up d_t.2 0 (upd (w9.2 0) (57 : Int32).toNatClampNeg 7)) 10 r10)) _ M hA hR (fun w12 hf H locs ls hP hD hS hl => ?_) _ _ hf _ _ _ hP hD hS (lv_sub hl [1, 0] rfl)
      · refine lv_aload_n hx hb dX7_round_101 rfl (lv_at hl 0 rfl) ?_
        refine va_get (D := D) (ci := 7) (v := .ref (q_t 0)) (C := RX7) (T := TX7) (N := 23) hx hb hT iX7 hown hK hP 0 rfl rfl 0 (by decide) (hT _ fw_X7_7) (fun _ h9 => h9) rfl dX7_round_102 ?_
        refine lv_bipush (v := 57) hx hb dX7_round_105 rfl ?_
        refine lv_dup2_11 hx hb dX7_round_107 rfl rfl ?_
        obtain ⟨hi, hf⟩ := chk_some hf
        refine va_iald (D := D) hx hb hK hP 1 0 rfl rfl hi dX7_round_108 ?_
        refine lv_iconst (v := 1) hx hb dX7_round_109 rfl ?_
        refine lv_iadd hx hb dX7_round_110 ?_
        obtain ⟨hi, hf⟩ := chk_some hf
        refine va_iast (D := D) hx hb hK hP hD hS 1 0 rfl rfl hi dX7_round_111 (fun H locs hP hD hS => ?_)
        replace hP : va_P D vwCl [oX7 h_t q_t (d_t.1), ((q_t 0), .inl (cs 0, 106, .inl (upd (w12.2 0) (57 : Int32).toNatClampNeg (((w12.2 0) (57 : Int32).toNatClampNeg) + 1)))), ((q_t 10), .inl (cs 0, 6, .inl r10)), ((q_t 11), .inl (cs 0, 6, .inl (d_t.2 11)))] H := hP
        replace hD : va_D A [oX7 h_t q_t (d_t.1), ((q_t 0), .inl (cs 0, 106, .inl (upd (w12.2 0) (57 : Int32).toNatClampNeg (((w12.2 0) (57 : Int32).toNatClampNeg) + 1)))), ((q_t 10), .inl (cs 0, 6, .inl r10)), ((q_t 11), .inl (cs 0, 6, .inl (d_t.2 11)))] := hD
        refine lv_aload_n hx hb dX7_round_112 rfl (lv_at hl 0 rfl) ?_
        refine lv_aload_n hx hb dX7_round_113 rfl (lv_at hl 0 rfl) ?_
        refine va_get (D := D) (ci := 7) (v := .ref (q_t 10)) (C := RX7) (T := TX7) (N := 23) hx hb hT iX7 hown hK hP 0 rfl rfl 10 (by decide) (hT _ fw_X7_35) (fun _ h9 => h9) rfl dX7_round_114 ?_
        obtain ⟨r13, e14, hf⟩ := bind_some hf
        refine callVi (As := [.ref (q_t 10)]) (rest := []) M (mX7_makeRound l D cs sk h_t (q_t 10) q_t k (d_t.1, (va_up (va_up d_t.2 0 (upd (w12.2 0) (57 : Int32).toNatClampNeg (((w12.2 0) (57 : Int32).toNatClampNeg) + 1))) 10 r10)) 6 r10 e14) mw_X7_195 ln_X7_makeRound ⟨rfl, rfl, Nat.le_of_ble_eq_true rfl, Nat.le_of_ble_eq_true rfl⟩ hP hD hS hA [0, 1, 3, 2] (by decide) rfl rfl (q0 := 0) rfl rfl rfl ⟨Nat.zero_le _, Nat.zero_le _⟩ hl.1 rfl (Nat.le_of_ble_eq_true rfl) dX7_round_117 (fun H locs hP hD hS => ?_)
        replace hP : va_P D vwCl [oX7 h_t q_t (d_t.1), ((q_t 0), .inl (cs 0, 106, .inl (upd (w12.2 0) (57 : Int32).toNatClampNeg (((w12.2 0) (57 : Int32).toNatClampNeg) + 1)))), ((q_t 10), .inl (cs 0, 6, .inl (r13.2.2))), ((q_t 11), .inl (cs 0, 6, .inl (r13.2.1.2 11)))] H := hP
        replace hD : va_D A [oX7 h_t q_t (d_t.1), ((q_t 0), .inl (cs 0, 106, .inl (upd (w12.2 0) (57 : Int32).toNatClampNeg (((w12.2 0) (57 : Int32).toNatClampNeg) + 1)))), ((q_t 10), .inl (cs 0, 6, .inl (r13.2.2))), ((q_t 11), .inl (cs 0, 6, .inl (r13.2.1.2 11)))] := hD
        refine lv_istore_n (lv' := [(1, .int (r13.1)), (0, .ref h_t)]) hx hb dX7_round_120 rfl hl (by decide) rfl (fun ls hl => ?_)
        refine lv_iconst (v := 0) hx hb dX7_round_121 rfl ?_
        refine lv_istore_n (lv' := [(2, .int 0), (1, .int (r13.1)), (0, .ref h_t)]) hx hb dX7_round_122 rfl hl (by decide) rfl (fun ls hl => ?_)
        refine mX7_round_B123 h_t q_t k (r13.1) (d_t.1, (va_up (va_up (va_up d_t.2 0 (upd (w12.2 0) (57 : Int32).toNatClampNeg (((w12.2 0) (57 : Int32).toNatClampNeg) + 1))) 10 (r13.2.2)) 11 (r13.2.1.2 11))) _ M hA hR (fun w15 hf H locs ls hP hD hS hl => ?_) _ _ hf _ _ _ hP hD hS (lv_sub hl [2, 1, 0] rfl)
        · refine lv_iload_n hx hb dX7_round_156 rfl (lv_at hl 0 rfl) ?_
          have e9 := Option.some.inj hf
          subst e9
          exact hR _ _ _ _ dX7_round_157 hP hS
abbrev rm_X7_undo : Room := { frames := 1, cells := 0, slots := 0, locals := 20 }
def fX7_undo_B28 (k : Nat) (d_t : Dat) (K75 : Dat → Option (Int32 × Dat)) (rec : Int32 × Dat → Option (Int32 × Dat)) (v : Int32 × Dat) : Option (Int32 × Dat) :=
  (fX7_players k (d_t.1, (va_up d_t.2 0 (v.2.2 0)))).bind (fun (r1 : Int32) => (if r1 ≤ (v.1) then K75 (d_t.1, (va_up d_t.2 0 (v.2.2 0))) else chk 106 57 (chk 106 ((58 + (6 * ((v.2.2 0) (57 : Int32).toNatClampNeg))) + (v.1)) (chk 106 ((24 + (5 * (v.1))) + 3) (rec (((v.1) + 1), (d_t.1, (va_up d_t.2 0 (upd (v.2.2 0) ((24 + (5 * (v.1))) + 3).toNatClampNeg ((v.2.2 0) ((58 + (6 * ((v.2.2 0) (57 : Int32).toNatClampNeg))) + (v.1)).toNatClampNeg))))))))))
def fX7_undo (k : Nat) (d_t : Dat) : Option (Int32 × Dat) :=
  chk 106 57 ((if ((d_t.2 0) (57 : Int32).toNatClampNeg) = 0 then (fX7_no k d_t).bind (fun (r4 : Int32 × Dat) => some ((r4.1), (d_t.1, (va_up d_t.2 3 (r4.2.2 3))))) else chk 106 57 (chk 106 57 (lp (fX7_undo_B28 k (d_t.1, (va_up d_t.2 0 (upd (d_t.2 0) (57 : Int32).toNatClampNeg (((d_t.2 0) (57 : Int32).toNatClampNeg) - 1)))) (fun (w3 : Dat) => some (1, (d_t.1, (va_up d_t.2 0 (w3.2 0)))))) k (0, (d_t.1, (va_up d_t.2 0 (upd (d_t.2 0) (57 : Int32).toNatClampNeg (((d_t.2 0) (57 : Int32).toNatClampNeg) - 1)))))))))
set_option maxHeartbeats 4000000 in
set_option maxRecDepth 100000 in
theorem mX7_undo_B28 {l : Launch} {p : Program} {e : Env} {s : State} {m : MethodId} {args : Array Value} {below : List Frame} {meth : Method} {c : Code} {D : va_G} {cs : Nat → ClassId} {sk : Nat → Nat} {A : Nat → Prop} {Q : State → Prop} (h_t : Nat) (q_t : Nat → Nat) (k : Nat) (d_t : Dat) {rv : Int32 × Dat}  (K75 : Dat → Option (Int32 × Dat))
    (M : MC p s m args meth c D cs sk A RX7 cX7_undo 2 (some .int)) (hA : ∀ q, s.heap.size ≤ q → A q) (hR : RetI p l e rm_X7_undo s m args below meth c D cX7_undo A Q (rv.1) [oX7 h_t q_t (d_t.1), ((q_t 0), .inl (cs 0, 106, .inl (rv.2.2 0))), ((q_t 3), .inl (cs 0, 3, .inl (rv.2.2 3)))])
    (hK75 : ∀ (w : Dat), K75 w = some rv → ∀ (H : Heap) (locs : List Loc) (ls : Array Slot), va_P D vwCl [oX7 h_t q_t (d_t.1), ((q_t 0), .inl (cs 0, 106, .inl (w.2 0))), ((q_t 3), .inl (cs 0, 3, .inl (d_t.2 3)))] H → va_D A [oX7 h_t q_t (d_t.1), ((q_t 0), .inl (cs 0, 106, .inl (w.2 0))), ((q_t 3), .inl (cs 0, 3, .inl (d_t.2 3)))] → va_S A s.heap H locs → lv_has ls 2 [] → W p l e rm_X7_undo s m args below meth c H locs 0 0 Q (F0 m 75 ls []))
    : ∀ (n : Nat) (v : Int32 × Dat), lp (fX7_undo_B28 k d_t K75) n v = some rv → ∀ (H : Heap) (locs : List Loc) (ls : Array Slot), va_P D vwCl [oX7 h_t q_t (d_t.1), ((q_t 0), .inl (cs 0, 106, .inl (v.2.2 0))), ((q_t 3), .inl (cs 0, 3, .inl (d_t.2 3)))] H → va_D A [oX7 h_t q_t (d_t.1), ((q_t 0), .inl (cs 0, 106, .inl (v.2.2 0))), ((q_t 3), .inl (cs 0, 3, .inl (d_t.2 3)))] → va_S A s.heap H locs → lv_has ls 2 [(0, .ref h_t), (1, .int (v.1))] → W p l e rm_X7_undo s m args below meth c H locs 0 0 Q (F0 m 28 ls []) := by
  obtain ⟨hx, hb, hml, hT, hown, hlk, hrt, hK, hN, hSE⟩ := id M
  refine lp_ind (fun rec ih v hf H locs ls hP hD hS hl => ?_)
  unfold fX7_undo_B28 at hf
  refine lv_iload_n hx hb dX7_undo_28 rfl (lv_at hl 1 rfl) ?_
  refine lv_aload_n hx hb dX7_undo_29 rfl (lv_at hl 0 rfl) ?_
  obtain ⟨r1, e2, hf⟩ := bind_some hf
  refine callVi (As := []) (rest := [.int (v.1)]) M (mX7_players l D cs sk h_t q_t k (d_t.1, (va_up d_t.2 0 (v.2.2 0))) e2) mw_X7_67 ln_X7_players ⟨rfl, rfl, Nat.le_of_ble_eq_true rfl, Nat.le_of_ble_eq_true rfl⟩ hP hD hS hA [0, 1] (by decide) rfl rfl (q0 := 0) rfl rfl rfl ⟨Nat.zero_le _, Nat.zero_le _⟩ hl.1 rfl (Nat.le_of_ble_eq_true rfl) dX7_undo_30 (fun H locs hP hD hS => ?_)
  replace hP : va_P D vwCl [oX7 h_t q_t (d_t.1), ((q_t 0), .inl (cs 0, 106, .inl (v.2.2 0))), ((q_t 3), .inl (cs 0, 3, .inl (d_t.2 3)))] H := hP
  replace hD : va_D A [oX7 h_t q_t (d_t.1), ((q_t 0), .inl (cs 0, 106, .inl (v.2.2 0))), ((q_t 3), .inl (cs 0, 3, .inl (d_t.2 3)))] := hD
  have g4 := ite_some hf
  refine lv_icmp_ge (tgt := 75) hx hb dX7_undo_33 (by decide) (fun c3 => ?_) (fun c3 => ?_)
  · replace hf := g4.1 c3
    exact hK75 _ hf _ _ _ hP hD hS (lv_sub hl [] rfl)
  · replace hf := g4.2 c3
    refine lv_aload_n hx hb dX7_undo_36 rfl (lv_at hl 0 rfl) ?_
    refine va_get (D := D) (ci := 7) (v := .ref (q_t 0)) (C := RX7) (T := TX7) (N := 23) hx hb hT iX7 hown hK hP 0 rfl rfl 0 (by decide) (hT _ fw_X7_7) (fun _ h9 => h9) rfl dX7_undo_37 ?_
    refine lv_bipush (v := 24) hx hb dX7_undo_40 rfl ?_
    refine lv_iconst (v := 5) hx hb dX7_undo_42 rfl ?_
    refine lv_iload_n hx hb dX7_undo_43 rfl (lv_at hl 1 rfl) ?_
    refine lv_imul hx hb dX7_undo_44 ?_
    refine lv_iadd hx hb dX7_undo_45 ?_
    refine lv_iconst (v := 3) hx hb dX7_undo_46 rfl ?_
    refine lv_iadd hx hb dX7_undo_47 ?_
    refine lv_aload_n hx hb dX7_undo_48 rfl (lv_at hl 0 rfl) ?_
    refine va_get (D := D) (ci := 7) (v := .ref (q_t 0)) (C := RX7) (T := TX7) (N := 23) hx hb hT iX7 hown hK hP 0 rfl rfl 0 (by decide) (hT _ fw_X7_7) (fun _ h9 => h9) rfl dX7_undo_49 ?_
    refine lv_bipush (v := 58) hx hb dX7_undo_52 rfl ?_
    refine lv_bipush (v := 6) hx hb dX7_undo_54 rfl ?_
    refine lv_aload_n hx hb dX7_undo_56 rfl (lv_at hl 0 rfl) ?_
    refine va_get (D := D) (ci := 7) (v := .ref (q_t 0)) (C := RX7) (T := TX7) (N := 23) hx hb hT iX7 hown hK hP 0 rfl rfl 0 (by decide) (hT _ fw_X7_7) (fun _ h9 => h9) rfl dX7_undo_57 ?_
    refine lv_bipush (v := 57) hx hb dX7_undo_60 rfl ?_
    obtain ⟨hi, hf⟩ := chk_some hf
    refine va_iald (D := D) hx hb hK hP 1 0 rfl rfl hi dX7_undo_62 ?_
    refine lv_imul hx hb dX7_undo_63 ?_
    refine lv_iadd hx hb dX7_undo_64 ?_
    refine lv_iload_n hx hb dX7_undo_65 rfl (lv_at hl 1 rfl) ?_
    refine lv_iadd hx hb dX7_undo_66 ?_
    obtain ⟨hi, hf⟩ := chk_some hf
    refine va_iald (D := D) hx hb hK hP 1 0 rfl rfl hi dX7_undo_67 ?_
    obtain ⟨hi, hf⟩ := chk_some hf
    refine va_iast (D := D) hx hb hK hP hD hS 1 0 rfl rfl hi dX7_undo_68 (fun H locs hP hD hS => ?_)
    replace hP : va_P D vwCl [oX7 h_t q_t (d_t.1), ((q_t 0), .inl (cs 0, 106, .inl (upd (v.2.2 0) ((24 + (5 * (v.1))) + 3).toNatClampNeg ((v.2.2 0) ((58 + (6 * ((v.2.2 0) (57 : Int32).toNatClampNeg))) + (v.1)).toNatClampNeg)))), ((q_t 3), .inl (cs 0, 3, .inl (d_t.2 3)))] H := hP
    replace hD : va_D A [oX7 h_t q_t (d_t.1), ((q_t 0), .inl (cs 0, 106, .inl (upd (v.2.2 0) ((24 + (5 * (v.1))) + 3).toNatClampNeg ((v.2.2 0) ((58 + (6 * ((v.2.2 0) (57 : Int32).toNatClampNeg))) + (v.1)).toNatClampNeg)))), ((q_t 3), .inl (cs 0, 3, .inl (d_t.2 3)))] := hD
    refine lv_iinc (v := ((v.1) + 1)) (lv' := [(1, .int ((v.1) + 1)), (0, .ref h_t)]) hx hb dX7_undo_69 hl (k := 1) rfl rfl (by decide) rfl (fun ls hl => ?_)
    refine lv_goto (tgt := 28) hx hb dX7_undo_72 (by decide) ?_
    exact ih _ hf _ _ _ hP hD hS (lv_sub hl [1, 0] rfl)
set_option maxHeartbeats 4000000 in
set_option maxRecDepth 100000 in
theorem mX7_undo (l : Launch) (D : va_G) (cs : Nat → ClassId) (sk : Nat → Nat) (h_t : Nat) (q_t : Nat → Nat) (k : Nat) (d_t : Dat) {rv : Int32 × Dat} (hf : fX7_undo k d_t = some rv) : CTi l yX7_undo (Cond.code yX7_undo cX7_undo 2 (some .int) :: gtbl) rm_X7_undo D cs sk [.ref h_t] [oX7 h_t q_t (d_t.1), ((q_t 0), .inl (cs 0, 106, .inl (d_t.2 0))), ((q_t 3), .inl (cs 0, 3, .inl (d_t.2 3)))] (rv.1) [oX7 h_t q_t (d_t.1), ((q_t 0), .inl (cs 0, 106, .inl (rv.2.2 0))), ((q_t 3), .inl (cs 0, 3, .inl (rv.2.2 3)))] := by
  refine CTi.of RX7 (by decide +kernel) rfl (Nat.le_of_ble_eq_true rfl) (fun p e s m args below meth c A Q ls M hA hR hl hP hD hS => ?_)
  obtain ⟨hx, hb, hml, hT, hown, hlk, hrt, hK, hN, hSE⟩ := id M
  replace hl : lv_has ls 2 [(0, .ref h_t)] := hl
  unfold fX7_undo at hf
  refine lv_aload_n hx hb dX7_undo_0 rfl (lv_at hl 0 rfl) ?_
  refine va_get (D := D) (ci := 7) (v := .ref (q_t 0)) (C := RX7) (T := TX7) (N := 23) hx hb hT iX7 hown hK hP 0 rfl rfl 0 (by decide) (hT _ fw_X7_7) (fun _ h9 => h9) rfl dX7_undo_1 ?_
  refine lv_bipush (v := 57) hx hb dX7_undo_4 rfl ?_
  obtain ⟨hi, hf⟩ := chk_some hf
  refine va_iald (D := D) hx hb hK hP 1 0 rfl rfl hi dX7_undo_6 ?_
  have g2 := ite_some hf
  refine lv_if_ne (tgt := 15) hx hb dX7_undo_7 (by decide) (fun c1 => ?_) (fun c1 => ?_)
  · replace hf := g2.2 c1
    refine lv_aload_n hx hb dX7_undo_15 rfl (lv_at hl 0 rfl) ?_
    refine va_get (D := D) (ci := 7) (v := .ref (q_t 0)) (C := RX7) (T := TX7) (N := 23) hx hb hT iX7 hown hK hP 0 rfl rfl 0 (by decide) (hT _ fw_X7_7) (fun _ h9 => h9) rfl dX7_undo_16 ?_
    refine lv_bipush (v := 57) hx hb dX7_undo_19 rfl ?_
    refine lv_dup2_11 hx hb dX7_undo_21 rfl rfl ?_
    obtain ⟨hi, hf⟩ := chk_some hf
    refine va_iald (D := D) hx hb hK hP 1 0 rfl rfl hi dX7_undo_22 ?_
    refine lv_iconst (v := 1) hx hb dX7_undo_23 rfl ?_
    refine lv_isub hx hb dX7_undo_24 ?_
    obtain ⟨hi, hf⟩ := chk_some hf
    refine va_iast (D := D) hx hb hK hP hD hS 1 0 rfl rfl hi dX7_undo_25 (fun H locs hP hD hS => ?_)
    replace hP : va_P D vwCl [oX7 h_t q_t (d_t.1), ((q_t 0), .inl (cs 0, 106, .inl (upd (d_t.2 0) (57 : Int32).toNatClampNeg (((d_t.2 0) (57 : Int32).toNatClampNeg) - 1)))), ((q_t 3), .inl (cs 0, 3, .inl (d_t.2 3)))] H := hP
    replace hD : va_D A [oX7 h_t q_t (d_t.1), ((q_t 0), .inl (cs 0, 106, .inl (upd (d_t.2 0) (57 : Int32).toNatClampNeg (((d_t.2 0) (57 : Int32).toNatClampNeg) - 1)))), ((q_t 3), .inl (cs 0, 3, .inl (d_t.2 3)))] := hD
    refine lv_iconst (v := 0) hx hb dX7_undo_26 rfl ?_
    refine lv_istore_n (lv' := [(1, .int 0), (0, .ref h_t)]) hx hb dX7_undo_27 rfl hl (by decide) rfl (fun ls hl => ?_)
    refine mX7_undo_B28 h_t q_t k (d_t.1, (va_up d_t.2 0 (upd (d_t.2 0) (57 : Int32).toNatClampNeg (((d_t.2 0) (57 : Int32).toNatClampNeg) - 1)))) _ M hA hR (fun w3 hf H locs ls hP hD hS hl => ?_) _ _ hf _ _ _ hP hD hS (lv_sub hl [1, 0] rfl)
    · refine lv_iconst (v := 1) hx hb dX7_undo_75 rfl ?_
      have e9 := Option.some.inj hf
      subst e9
      exact hR _ _ _ _ dX7_undo_76 hP hS
  · replace hf := g2.1 c1
    refine lv_aload_n hx hb dX7_undo_10 rfl (lv_at hl 0 rfl) ?_
    obtain ⟨r4, e5, hf⟩ := bind_some hf
    refine callVi (As := []) (rest := []) M (mX7_no l D cs sk h_t q_t k d_t e5) mw_X7_199 ln_X7_no ⟨rfl, rfl, Nat.le_of_ble_eq_true rfl, Nat.le_of_ble_eq_true rfl⟩ hP hD hS hA [0, 2] (by decide) rfl rfl (q0 := 0) rfl rfl rfl ⟨Nat.zero_le _, Nat.zero_le _⟩ hl.1 rfl (Nat.le_of_ble_eq_true rfl) dX7_undo_11 (fun H locs hP hD hS => ?_)
    replace hP : va_P D vwCl [oX7 h_t q_t (d_t.1), ((q_t 0), .inl (cs 0, 106, .inl (d_t.2 0))), ((q_t 3), .inl (cs 0, 3, .inl (r4.2.2 3)))] H := hP
    replace hD : va_D A [oX7 h_t q_t (d_t.1), ((q_t 0), .inl (cs 0, 106, .inl (d_t.2 0))), ((q_t 3), .inl (cs 0, 3, .inl (r4.2.2 3)))] := hD
    have e9 := Option.some.inj hf
    subst e9
    exact hR _ _ _ _ dX7_undo_14 hP hS
abbrev rm_X7_settles : Room := { frames := 3, cells := 0, slots := 0, locals := 67 }
def fX7_settles_B10 (k : Nat) (d_t : Dat) (K27 : Int32 × Dat → Option (Int32 × Dat)) (K35 : Dat → Option (Int32 × Dat)) (rec : Int32 × Dat → Option (Int32 × Dat)) (v : Int32 × Dat) : Option (Int32 × Dat) :=
  (if 20 < (v.1) then K35 (d_t.1, (va_up (va_up d_t.2 10 (v.2.2 10)) 11 (v.2.2 11))) else (fX7_makeRound k (d_t.1, (va_up (va_up d_t.2 10 (v.2.2 10)) 11 (v.2.2 11))) 6 (v.2.2 10)).bind (fun (r3 : Int32 × Dat × (Nat → Int32)) => (if (r3.1) = 0 then K27 ((v.1), (d_t.1, (va_up (va_up d_t.2 10 (r3.2.2)) 11 (r3.2.1.2 11)))) else rec (((v.1) + 1), (d_t.1, (va_up (va_up d_t.2 10 (r3.2.2)) 11 (r3.2.1.2 11)))))))
def fX7_settles (k : Nat) (d_t : Dat) : Option (Int32 × Dat) :=
  (fX7_takeOffsets k d_t 6 (d_t.2 10)).bind (fun (r1 : (Nat → Int32)) => lp (fX7_settles_B10 k (d_t.1, (va_up d_t.2 10 r1)) (fun (w3 : Int32 × Dat) => some ((w3.1), (d_t.1, (va_up (va_up d_t.2 10 (w3.2.2 10)) 11 (w3.2.2 11))))) (fun (w4 : Dat) => some ((-1), (d_t.1, (va_up (va_up d_t.2 10 (w4.2 10)) 11 (w4.2 11)))))) k (0, (d_t.1, (va_up d_t.2 10 r1))))
set_option maxHeartbeats 4000000 in
set_option maxRecDepth 100000 in
theorem mX7_settles_B10 {l : Launch} {p : Program} {e : Env} {s : State} {m : MethodId} {args : Array Value} {below : List Frame} {meth : Method} {c : Code} {D : va_G} {cs : Nat → ClassId} {sk : Nat → Nat} {A : Nat → Prop} {Q : State → Prop} (h_t : Nat) (q_t : Nat → Nat) (k : Nat) (d_t : Dat) {rv : Int32 × Dat}  (K27 : Int32 × Dat → Option (Int32 × Dat)) (K35 : Dat → Option (Int32 × Dat))
    (M : MC p s m args meth c D cs sk A RX7 cX7_settles 2 (some .int)) (hA : ∀ q, s.heap.size ≤ q → A q) (hR : RetI p l e rm_X7_settles s m args below meth c D cX7_settles A Q (rv.1) [oX7 h_t q_t (d_t.1), ((q_t 0), .inl (cs 0, 106, .inl (d_t.2 0))), ((q_t 10), .inl (cs 0, 6, .inl (rv.2.2 10))), ((q_t 11), .inl (cs 0, 6, .inl (rv.2.2 11)))])
    (hK27 : ∀ (w : Int32 × Dat), K27 w = some rv → ∀ (H : Heap) (locs : List Loc) (ls : Array Slot), va_P D vwCl [oX7 h_t q_t (d_t.1), ((q_t 0), .inl (cs 0, 106, .inl (d_t.2 0))), ((q_t 10), .inl (cs 0, 6, .inl (w.2.2 10))), ((q_t 11), .inl (cs 0, 6, .inl (w.2.2 11)))] H → va_D A [oX7 h_t q_t (d_t.1), ((q_t 0), .inl (cs 0, 106, .inl (d_t.2 0))), ((q_t 10), .inl (cs 0, 6, .inl (w.2.2 10))), ((q_t 11), .inl (cs 0, 6, .inl (w.2.2 11)))] → va_S A s.heap H locs → lv_has ls 2 [(1, .int (w.1))] → W p l e rm_X7_settles s m args below meth c H locs 0 0 Q (F0 m 27 ls []))
    (hK35 : ∀ (w : Dat), K35 w = some rv → ∀ (H : Heap) (locs : List Loc) (ls : Array Slot), va_P D vwCl [oX7 h_t q_t (d_t.1), ((q_t 0), .inl (cs 0, 106, .inl (d_t.2 0))), ((q_t 10), .inl (cs 0, 6, .inl (w.2 10))), ((q_t 11), .inl (cs 0, 6, .inl (w.2 11)))] H → va_D A [oX7 h_t q_t (d_t.1), ((q_t 0), .inl (cs 0, 106, .inl (d_t.2 0))), ((q_t 10), .inl (cs 0, 6, .inl (w.2 10))), ((q_t 11), .inl (cs 0, 6, .inl (w.2 11)))] → va_S A s.heap H locs → lv_has ls 2 [] → W p l e rm_X7_settles s m args below meth c H locs 0 0 Q (F0 m 35 ls []))
    : ∀ (n : Nat) (v : Int32 × Dat), lp (fX7_settles_B10 k d_t K27 K35) n v = some rv → ∀ (H : Heap) (locs : List Loc) (ls : Array Slot), va_P D vwCl [oX7 h_t q_t (d_t.1), ((q_t 0), .inl (cs 0, 106, .inl (d_t.2 0))), ((q_t 10), .inl (cs 0, 6, .inl (v.2.2 10))), ((q_t 11), .inl (cs 0, 6, .inl (v.2.2 11)))] H → va_D A [oX7 h_t q_t (d_t.1), ((q_t 0), .inl (cs 0, 106, .inl (d_t.2 0))), ((q_t 10), .inl (cs 0, 6, .inl (v.2.2 10))), ((q_t 11), .inl (cs 0, 6, .inl (v.2.2 11)))] → va_S A s.heap H locs → lv_has ls 2 [(0, .ref h_t), (1, .int (v.1))] → W p l e rm_X7_settles s m args below meth c H locs 0 0 Q (F0 m 10 ls []) := by
  obtain ⟨hx, hb, hml, hT, hown, hlk, hrt, hK, hN, hSE⟩ := id M
  refine lp_ind (fun rec ih v hf H locs ls hP hD hS hl => ?_)
  unfold fX7_settles_B10 at hf
  refine lv_iload_n hx hb dX7_settles_10 rfl (lv_at hl 1 rfl) ?_
  refine lv_bipush (v := 20) hx hb dX7_settles_11 rfl ?_
  have g2 := ite_some hf
  refine lv_icmp_gt (tgt := 35) hx hb dX7_settles_13 (by decide) (fun c1 => ?_) (fun c1 => ?_)
  · replace hf := g2.1 c1
    exact hK35 _ hf _ _ _ hP hD hS (lv_sub hl [] rfl)
  · replace hf := g2.2 c1
    refine lv_aload_n hx hb dX7_settles_16 rfl (lv_at hl 0 rfl) ?_
    refine lv_aload_n hx hb dX7_settles_17 rfl (lv_at hl 0 rfl) ?_
    refine va_get (D := D) (ci := 7) (v := .ref (q_t 10)) (C := RX7) (T := TX7) (N := 23) hx hb hT iX7 hown hK hP 0 rfl rfl 10 (by decide) (hT _ fw_X7_35) (fun _ h9 => h9) rfl dX7_settles_18 ?_
    obtain ⟨r3, e4, hf⟩ := bind_some hf
    refine callVi (As := [.ref (q_t 10)]) (rest := []) M (mX7_makeRound l D cs sk h_t (q_t 10) q_t k (d_t.1, (va_up (va_up d_t.2 10 (v.2.2 10)) 11 (v.2.2 11))) 6 (v.2.2 10) e4) mw_X7_195 ln_X7_makeRound ⟨rfl, rfl, Nat.le_of_ble_eq_true rfl, Nat.le_of_ble_eq_true rfl⟩ hP hD hS hA [0, 1, 3, 2] (by decide) rfl rfl (q0 := 0) rfl rfl rfl ⟨Nat.zero_le _, Nat.zero_le _⟩ hl.1 rfl (Nat.le_of_ble_eq_true rfl) dX7_settles_21 (fun H locs hP hD hS => ?_)
    replace hP : va_P D vwCl [oX7 h_t q_t (d_t.1), ((q_t 0), .inl (cs 0, 106, .inl (d_t.2 0))), ((q_t 10), .inl (cs 0, 6, .inl (r3.2.2))), ((q_t 11), .inl (cs 0, 6, .inl (r3.2.1.2 11)))] H := hP
    replace hD : va_D A [oX7 h_t q_t (d_t.1), ((q_t 0), .inl (cs 0, 106, .inl (d_t.2 0))), ((q_t 10), .inl (cs 0, 6, .inl (r3.2.2))), ((q_t 11), .inl (cs 0, 6, .inl (r3.2.1.2 11)))] := hD
    have g6 := ite_some hf
    refine lv_if_ne (tgt := 29) hx hb dX7_settles_24 (by decide) (fun c5 => ?_) (fun c5 => ?_)
    · replace hf := g6.2 c5
      refine lv_iinc (v := ((v.1) + 1)) (lv' := [(1, .int ((v.1) + 1)), (0, .ref h_t)]) hx hb dX7_settles_29 hl (k := 1) rfl rfl (by decide) rfl (fun ls hl => ?_)
      refine lv_goto (tgt := 10) hx hb dX7_settles_32 (by decide) ?_
      exact ih _ hf _ _ _ hP hD hS (lv_sub hl [1, 0] rfl)
    · replace hf := g6.1 c5
      exact hK27 _ hf _ _ _ hP hD hS (lv_sub hl [1] rfl)
set_option maxHeartbeats 4000000 in
set_option maxRecDepth 100000 in
theorem mX7_settles (l : Launch) (D : va_G) (cs : Nat → ClassId) (sk : Nat → Nat) (h_t : Nat) (q_t : Nat → Nat) (k : Nat) (d_t : Dat) {rv : Int32 × Dat} (hf : fX7_settles k d_t = some rv) : CTi l yX7_settles (Cond.code yX7_settles cX7_settles 2 (some .int) :: gtbl) rm_X7_settles D cs sk [.ref h_t] [oX7 h_t q_t (d_t.1), ((q_t 0), .inl (cs 0, 106, .inl (d_t.2 0))), ((q_t 10), .inl (cs 0, 6, .inl (d_t.2 10))), ((q_t 11), .inl (cs 0, 6, .inl (d_t.2 11)))] (rv.1) [oX7 h_t q_t (d_t.1), ((q_t 0), .inl (cs 0, 106, .inl (d_t.2 0))), ((q_t 10), .inl (cs 0, 6, .inl (rv.2.2 10))), ((q_t 11), .inl (cs 0, 6, .inl (rv.2.2 11)))] := by
  refine CTi.of RX7 (by decide +kernel) rfl (Nat.le_of_ble_eq_true rfl) (fun p e s m args below meth c A Q ls M hA hR hl hP hD hS => ?_)
  obtain ⟨hx, hb, hml, hT, hown, hlk, hrt, hK, hN, hSE⟩ := id M
  replace hl : lv_has ls 2 [(0, .ref h_t)] := hl
  unfold fX7_settles at hf
  refine lv_aload_n hx hb dX7_settles_0 rfl (lv_at hl 0 rfl) ?_
  refine lv_aload_n hx hb dX7_settles_1 rfl (lv_at hl 0 rfl) ?_
  refine va_get (D := D) (ci := 7) (v := .ref (q_t 10)) (C := RX7) (T := TX7) (N := 23) hx hb hT iX7 hown hK hP 0 rfl rfl 10 (by decide) (hT _ fw_X7_35) (fun _ h9 => h9) rfl dX7_settles_2 ?_
  obtain ⟨r1, e2, hf⟩ := bind_some hf
  refine callVv (As := [.ref (q_t 10)]) (rest := []) M (mX7_takeOffsets l D cs sk h_t (q_t 10) q_t k d_t 6 (d_t.2 10) e2) mw_X7_191 ln_X7_takeOffsets ⟨rfl, rfl, Nat.le_of_ble_eq_true rfl, Nat.le_of_ble_eq_true rfl⟩ hP hD hS hA [0, 1, 2] (by decide) rfl rfl (q0 := 0) rfl rfl rfl ⟨Nat.zero_le _, Nat.zero_le _⟩ hl.1 rfl (Nat.le_of_ble_eq_true rfl) dX7_settles_5 (fun H locs hP hD hS => ?_)
  replace hP : va_P D vwCl [oX7 h_t q_t (d_t.1), ((q_t 0), .inl (cs 0, 106, .inl (d_t.2 0))), ((q_t 10), .inl (cs 0, 6, .inl r1)), ((q_t 11), .inl (cs 0, 6, .inl (d_t.2 11)))] H := hP
  replace hD : va_D A [oX7 h_t q_t (d_t.1), ((q_t 0), .inl (cs 0, 106, .inl (d_t.2 0))), ((q_t 10), .inl (cs 0, 6, .inl r1)), ((q_t 11), .inl (cs 0, 6, .inl (d_t.2 11)))] := hD
  refine lv_iconst (v := 0) hx hb dX7_settles_8 rfl ?_
  refine lv_istore_n (lv' := [(1, .int 0), (0, .ref h_t)]) hx hb dX7_settles_9 rfl hl (by decide) rfl (fun ls hl => ?_)
  refine mX7_settles_B10 h_t q_t k (d_t.1, (va_up d_t.2 10 r1)) _ _ M hA hR (fun w3 hf H locs ls hP hD hS hl => ?_) (fun w4 hf H locs ls hP hD hS hl => ?_) _ _ hf _ _ _ hP hD hS (lv_sub hl [1, 0] rfl)
  · refine lv_iload_n hx hb dX7_settles_27 rfl (lv_at hl 0 rfl) ?_
    have e9 := Option.some.inj hf
    subst e9
    exact hR _ _ _ _ dX7_settles_28 hP hS
  · refine lv_iconst (v := (-1)) hx hb dX7_settles_35 rfl ?_
    have e9 := Option.some.inj hf
    subst e9
    exact hR _ _ _ _ dX7_settles_36 hP hS
abbrev rm_X7_slip : Room := { frames := 3, cells := 0, slots := 0, locals := 67 }
def fX7_slip_B77 (k : Nat) (x3 : Int32) (d_t : Dat) (K109 : Dat → Option (Int32 × Dat)) (rec : Int32 × Dat → Option (Int32 × Dat)) (v : Int32 × Dat) : Option (Int32 × Dat) :=
  (if x3 ≤ (v.1) then K109 (d_t.1, (va_up (va_up (va_up d_t.2 10 (v.2.2 10)) 11 (v.2.2 11)) 12 (v.2.2 12))) else (fX7_makeRound k (d_t.1, (va_up (va_up (va_up d_t.2 10 (v.2.2 10)) 11 (v.2.2 11)) 12 (v.2.2 12))) 6 (v.2.2 10)).bind (fun (r3 : Int32 × Dat × (Nat → Int32)) => (fX7_makeRound k (d_t.1, (va_up (va_up (va_up d_t.2 10 (r3.2.2)) 11 (r3.2.1.2 11)) 12 (v.2.2 12))) 6 (v.2.2 12)).bind (fun (r5 : Int32 × Dat × (Nat → Int32)) => rec (((v.1) + 1), (d_t.1, (va_up (va_up (va_up d_t.2 10 (r3.2.2)) 11 (r5.2.1.2 11)) 12 (r5.2.2)))))))
def fX7_slip_B115 (k : Nat) (d_t : Dat) (K160 : Int32 → Option (Int32 × Dat)) (rec : Int32 × Int32 → Option (Int32 × Dat)) (v : Int32 × Int32) : Option (Int32 × Dat) :=
  (fX7_players k d_t).bind (fun (r1 : Int32) => (if r1 ≤ (v.2) then K160 (v.1) else chk 6 (v.2) (chk 6 (v.2) ((if ((d_t.2 10) (v.2).toNatClampNeg) = ((d_t.2 12) (v.2).toNatClampNeg) then rec (((v.1) ||| 0), ((v.2) + 1)) else rec (((v.1) ||| (1 <<< ((v.2) &&& 31))), ((v.2) + 1)))))))
def fX7_slip (k : Nat) (d_t : Dat) (x1 : Int32) (x2 : Int32) (x3 : Int32) : Option (Int32 × Dat) :=
  (fX7_isPlayer k d_t x1).bind (fun (r1 : Int32) => (if r1 = 0 then (fX7_bad k d_t (-2)).bind (fun (r5 : Int32 × Dat) => some ((r5.1), (d_t.1, (va_up d_t.2 3 (r5.2.2 3))))) else (fX7_in k x2.toInt64 (-99) 99).bind (fun (r7 : Int32) => (if r7 = 0 then (fX7_bad k d_t (-2)).bind (fun (r11 : Int32 × Dat) => some ((r11.1), (d_t.1, (va_up d_t.2 3 (r11.2.2 3))))) else (fX7_in k x3.toInt64 0 20).bind (fun (r13 : Int32) => (if r13 = 0 then (fX7_bad k d_t (-2)).bind (fun (r25 : Int32 × Dat) => some ((r25.1), (d_t.1, (va_up d_t.2 3 (r25.2.2 3))))) else (fX7_takeOffsets k d_t 6 (d_t.2 10)).bind (fun (r17 : (Nat → Int32)) => (fX7_takeOffsets k (d_t.1, (va_up d_t.2 10 r17)) 6 (d_t.2 12)).bind (fun (r19 : (Nat → Int32)) => chk 6 x1 ((fX7_hold k ((r19 x1.toNatClampNeg) + x2)).bind (fun (r21 : Int32) => chk 6 x1 (lp (fX7_slip_B77 k x3 (d_t.1, (va_up (va_up d_t.2 10 r17) 12 (upd r19 x1.toNatClampNeg r21))) (fun (w23 : Dat) => lp (fX7_slip_B115 k (d_t.1, (va_up (va_up (va_up d_t.2 10 (w23.2 10)) 11 (w23.2 11)) 12 (w23.2 12))) (fun (w24 : Int32) => some (w24, (d_t.1, (va_up (va_up (va_up d_t.2 10 (w23.2 10)) 11 (w23.2 11)) 12 (w23.2 12)))))) k (0, 0))) k (0, (d_t.1, (va_up (va_up d_t.2 10 r17) 12 (upd r19 x1.toNatClampNeg r21)))))))))))))))
set_option maxHeartbeats 4000000 in
set_option maxRecDepth 100000 in
theorem mX7_slip_B77 {l : Launch} {p : Program} {e : Env} {s : State} {m : MethodId} {args : Array Value} {below : List Frame} {meth : Method} {c : Code} {D : va_G} {cs : Nat → ClassId} {sk : Nat → Nat} {A : Nat → Prop} {Q : State → Prop} (h_t : Nat) (q_t : Nat → Nat) (k : Nat) (x3 : Int32) (d_t : Dat) {rv : Int32 × Dat}  (K109 : Dat → Option (Int32 × Dat))
    (M : MC p s m args meth c D cs sk A RX7 cX7_slip 6 (some .int)) (hA : ∀ q, s.heap.size ≤ q → A q) (hR : RetI p l e rm_X7_slip s m args below meth c D cX7_slip A Q (rv.1) [oX7 h_t q_t (d_t.1), ((q_t 0), .inl (cs 0, 106, .inl (d_t.2 0))), ((q_t 3), .inl (cs 0, 3, .inl (rv.2.2 3))), ((q_t 10), .inl (cs 0, 6, .inl (rv.2.2 10))), ((q_t 11), .inl (cs 0, 6, .inl (rv.2.2 11))), ((q_t 12), .inl (cs 0, 6, .inl (rv.2.2 12)))])
    (hK109 : ∀ (w : Dat), K109 w = some rv → ∀ (H : Heap) (locs : List Loc) (ls : Array Slot), va_P D vwCl [oX7 h_t q_t (d_t.1), ((q_t 0), .inl (cs 0, 106, .inl (d_t.2 0))), ((q_t 3), .inl (cs 0, 3, .inl (d_t.2 3))), ((q_t 10), .inl (cs 0, 6, .inl (w.2 10))), ((q_t 11), .inl (cs 0, 6, .inl (w.2 11))), ((q_t 12), .inl (cs 0, 6, .inl (w.2 12)))] H → va_D A [oX7 h_t q_t (d_t.1), ((q_t 0), .inl (cs 0, 106, .inl (d_t.2 0))), ((q_t 3), .inl (cs 0, 3, .inl (d_t.2 3))), ((q_t 10), .inl (cs 0, 6, .inl (w.2 10))), ((q_t 11), .inl (cs 0, 6, .inl (w.2 11))), ((q_t 12), .inl (cs 0, 6, .inl (w.2 12)))] → va_S A s.heap H locs → lv_has ls 6 [(0, .ref h_t)] → W p l e rm_X7_slip s m args below meth c H locs 0 0 Q (F0 m 109 ls []))
    : ∀ (n : Nat) (v : Int32 × Dat), lp (fX7_slip_B77 k x3 d_t K109) n v = some rv → ∀ (H : Heap) (locs : List Loc) (ls : Array Slot), va_P D vwCl [oX7 h_t q_t (d_t.1), ((q_t 0), .inl (cs 0, 106, .inl (d_t.2 0))), ((q_t 3), .inl (cs 0, 3, .inl (d_t.2 3))), ((q_t 10), .inl (cs 0, 6, .inl (v.2.2 10))), ((q_t 11), .inl (cs 0, 6, .inl (v.2.2 11))), ((q_t 12), .inl (cs 0, 6, .inl (v.2.2 12)))] H → va_D A [oX7 h_t q_t (d_t.1), ((q_t 0), .inl (cs 0, 106, .inl (d_t.2 0))), ((q_t 3), .inl (cs 0, 3, .inl (d_t.2 3))), ((q_t 10), .inl (cs 0, 6, .inl (v.2.2 10))), ((q_t 11), .inl (cs 0, 6, .inl (v.2.2 11))), ((q_t 12), .inl (cs 0, 6, .inl (v.2.2 12)))] → va_S A s.heap H locs → lv_has ls 6 [(0, .ref h_t), (3, .int x3), (4, .int (v.1))] → W p l e rm_X7_slip s m args below meth c H locs 0 0 Q (F0 m 77 ls []) := by
  obtain ⟨hx, hb, hml, hT, hown, hlk, hrt, hK, hN, hSE⟩ := id M
  refine lp_ind (fun rec ih v hf H locs ls hP hD hS hl => ?_)
  unfold fX7_slip_B77 at hf
  refine lv_iload hx hb dX7_slip_77 (lv_at hl 2 rfl) ?_
  refine lv_iload_n hx hb dX7_slip_79 rfl (lv_at hl 1 rfl) ?_
  have g2 := ite_some hf
  refine lv_icmp_ge (tgt := 109) hx hb dX7_slip_80 (by decide) (fun c1 => ?_) (fun c1 => ?_)
  · replace hf := g2.1 c1
    exact hK109 _ hf _ _ _ hP hD hS (lv_sub hl [0] rfl)
  · replace hf := g2.2 c1
    refine lv_aload_n hx hb dX7_slip_83 rfl (lv_at hl 0 rfl) ?_
    refine lv_aload_n hx hb dX7_slip_84 rfl (lv_at hl 0 rfl) ?_
    refine va_get (D := D) (ci := 7) (v := .ref (q_t 10)) (C := RX7) (T := TX7) (N := 23) hx hb hT iX7 hown hK hP 0 rfl rfl 10 (by decide) (hT _ fw_X7_35) (fun _ h9 => h9) rfl dX7_slip_85 ?_
    obtain ⟨r3, e4, hf⟩ := bind_some hf
    refine callVi (As := [.ref (q_t 10)]) (rest := []) M (mX7_makeRound l D cs sk h_t (q_t 10) q_t k (d_t.1, (va_up (va_up (va_up d_t.2 10 (v.2.2 10)) 11 (v.2.2 11)) 12 (v.2.2 12))) 6 (v.2.2 10) e4) mw_X7_195 ln_X7_makeRound ⟨rfl, rfl, Nat.le_of_ble_eq_true rfl, Nat.le_of_ble_eq_true rfl⟩ hP hD hS hA [0, 1, 4, 3] (by decide) rfl rfl (q0 := 0) rfl rfl rfl ⟨Nat.zero_le _, Nat.zero_le _⟩ hl.1 rfl (Nat.le_of_ble_eq_true rfl) dX7_slip_88 (fun H locs hP hD hS => ?_)
    replace hP : va_P D vwCl [oX7 h_t q_t (d_t.1), ((q_t 0), .inl (cs 0, 106, .inl (d_t.2 0))), ((q_t 3), .inl (cs 0, 3, .inl (d_t.2 3))), ((q_t 10), .inl (cs 0, 6, .inl (r3.2.2))), ((q_t 11), .inl (cs 0, 6, .inl (r3.2.1.2 11))), ((q_t 12), .inl (cs 0, 6, .inl (v.2.2 12)))] H := hP
    replace hD : va_D A [oX7 h_t q_t (d_t.1), ((q_t 0), .inl (cs 0, 106, .inl (d_t.2 0))), ((q_t 3), .inl (cs 0, 3, .inl (d_t.2 3))), ((q_t 10), .inl (cs 0, 6, .inl (r3.2.2))), ((q_t 11), .inl (cs 0, 6, .inl (r3.2.1.2 11))), ((q_t 12), .inl (cs 0, 6, .inl (v.2.2 12)))] := hD
    refine lv_istore (lv' := [(5, .int (r3.1)), (0, .ref h_t), (3, .int x3), (4, .int (v.1))]) hx hb dX7_slip_91 hl (by decide) rfl (fun ls hl => ?_)
    refine lv_aload_n hx hb dX7_slip_93 rfl (lv_at hl 1 rfl) ?_
    refine lv_aload_n hx hb dX7_slip_94 rfl (lv_at hl 1 rfl) ?_
    refine va_get (D := D) (ci := 7) (v := .ref (q_t 12)) (C := RX7) (T := TX7) (N := 23) hx hb hT iX7 hown hK hP 0 rfl rfl 12 (by decide) (hT _ fw_X7_41) (fun _ h9 => h9) rfl dX7_slip_95 ?_
    obtain ⟨r5, e6, hf⟩ := bind_some hf
    refine callVi (As := [.ref (q_t 12)]) (rest := []) M (mX7_makeRound l D cs sk h_t (q_t 12) q_t k (d_t.1, (va_up (va_up (va_up d_t.2 10 (r3.2.2)) 11 (r3.2.1.2 11)) 12 (v.2.2 12))) 6 (v.2.2 12) e6) mw_X7_195 ln_X7_makeRound ⟨rfl, rfl, Nat.le_of_ble_eq_true rfl, Nat.le_of_ble_eq_true rfl⟩ hP hD hS hA [0, 1, 4, 5] (by decide) rfl rfl (q0 := 0) rfl rfl rfl ⟨Nat.zero_le _, Nat.zero_le _⟩ hl.1 rfl (Nat.le_of_ble_eq_true rfl) dX7_slip_98 (fun H locs hP hD hS => ?_)
    replace hP : va_P D vwCl [oX7 h_t q_t (d_t.1), ((q_t 0), .inl (cs 0, 106, .inl (d_t.2 0))), ((q_t 3), .inl (cs 0, 3, .inl (d_t.2 3))), ((q_t 10), .inl (cs 0, 6, .inl (r3.2.2))), ((q_t 11), .inl (cs 0, 6, .inl (r5.2.1.2 11))), ((q_t 12), .inl (cs 0, 6, .inl (r5.2.2)))] H := hP
    replace hD : va_D A [oX7 h_t q_t (d_t.1), ((q_t 0), .inl (cs 0, 106, .inl (d_t.2 0))), ((q_t 3), .inl (cs 0, 3, .inl (d_t.2 3))), ((q_t 10), .inl (cs 0, 6, .inl (r3.2.2))), ((q_t 11), .inl (cs 0, 6, .inl (r5.2.1.2 11))), ((q_t 12), .inl (cs 0, 6, .inl (r5.2.2)))] := hD
    refine lv_istore (lv' := [(5, .int (r5.1)), (0, .ref h_t), (3, .int x3), (4, .int (v.1))]) hx hb dX7_slip_101 hl (by decide) rfl (fun ls hl => ?_)
    refine lv_iinc (v := ((v.1) + 1)) (lv' := [(4, .int ((v.1) + 1)), (5, .int (r5.1)), (0, .ref h_t), (3, .int x3)]) hx hb dX7_slip_103 hl (k := 3) rfl rfl (by decide) rfl (fun ls hl => ?_)
    refine lv_goto (tgt := 77) hx hb dX7_slip_106 (by decide) ?_
    exact ih _ hf _ _ _ hP hD hS (lv_sub hl [2, 3, 0] rfl)
set_option maxHeartbeats 4000000 in
set_option maxRecDepth 100000 in
theorem mX7_slip_B115 {l : Launch} {p : Program} {e : Env} {s : State} {m : MethodId} {args : Array Value} {below : List Frame} {meth : Method} {c : Code} {D : va_G} {cs : Nat → ClassId} {sk : Nat → Nat} {A : Nat → Prop} {Q : State → Prop} (h_t : Nat) (q_t : Nat → Nat) (k : Nat) (d_t : Dat) {rv : Int32 × Dat}  (K160 : Int32 → Option (Int32 × Dat))
    (M : MC p s m args meth c D cs sk A RX7 cX7_slip 6 (some .int)) (hA : ∀ q, s.heap.size ≤ q → A q) (hR : RetI p l e rm_X7_slip s m args below meth c D cX7_slip A Q (rv.1) [oX7 h_t q_t (d_t.1), ((q_t 0), .inl (cs 0, 106, .inl (d_t.2 0))), ((q_t 3), .inl (cs 0, 3, .inl (rv.2.2 3))), ((q_t 10), .inl (cs 0, 6, .inl (rv.2.2 10))), ((q_t 11), .inl (cs 0, 6, .inl (rv.2.2 11))), ((q_t 12), .inl (cs 0, 6, .inl (rv.2.2 12)))])
    (hK160 : ∀ (w : Int32), K160 w = some rv → ∀ (H : Heap) (locs : List Loc) (ls : Array Slot), va_P D vwCl [oX7 h_t q_t (d_t.1), ((q_t 0), .inl (cs 0, 106, .inl (d_t.2 0))), ((q_t 3), .inl (cs 0, 3, .inl (d_t.2 3))), ((q_t 10), .inl (cs 0, 6, .inl (d_t.2 10))), ((q_t 11), .inl (cs 0, 6, .inl (d_t.2 11))), ((q_t 12), .inl (cs 0, 6, .inl (d_t.2 12)))] H → va_D A [oX7 h_t q_t (d_t.1), ((q_t 0), .inl (cs 0, 106, .inl (d_t.2 0))), ((q_t 3), .inl (cs 0, 3, .inl (d_t.2 3))), ((q_t 10), .inl (cs 0, 6, .inl (d_t.2 10))), ((q_t 11), .inl (cs 0, 6, .inl (d_t.2 11))), ((q_t 12), .inl (cs 0, 6, .inl (d_t.2 12)))] → va_S A s.heap H locs → lv_has ls 6 [(4, .int w)] → W p l e rm_X7_slip s m args below meth c H locs 0 0 Q (F0 m 160 ls []))
    : ∀ (n : Nat) (v : Int32 × Int32), lp (fX7_slip_B115 k d_t K160) n v = some rv → ∀ (H : Heap) (locs : List Loc) (ls : Array Slot), va_P D vwCl [oX7 h_t q_t (d_t.1), ((q_t 0), .inl (cs 0, 106, .inl (d_t.2 0))), ((q_t 3), .inl (cs 0, 3, .inl (d_t.2 3))), ((q_t 10), .inl (cs 0, 6, .inl (d_t.2 10))), ((q_t 11), .inl (cs 0, 6, .inl (d_t.2 11))), ((q_t 12), .inl (cs 0, 6, .inl (d_t.2 12)))] H → va_D A [oX7 h_t q_t (d_t.1), ((q_t 0), .inl (cs 0, 106, .inl (d_t.2 0))), ((q_t 3), .inl (cs 0, 3, .inl (d_t.2 3))), ((q_t 10), .inl (cs 0, 6, .inl (d_t.2 10))), ((q_t 11), .inl (cs 0, 6, .inl (d_t.2 11))), ((q_t 12), .inl (cs 0, 6, .inl (d_t.2 12)))] → va_S A s.heap H locs → lv_has ls 6 [(0, .ref h_t), (4, .int (v.1)), (5, .int (v.2))] → W p l e rm_X7_slip s m args below meth c H locs 0 0 Q (F0 m 115 ls []) := by
  obtain ⟨hx, hb, hml, hT, hown, hlk, hrt, hK, hN, hSE⟩ := id M
  refine lp_ind (fun rec ih v hf H locs ls hP hD hS hl => ?_)
  unfold fX7_slip_B115 at hf
  refine lv_iload hx hb dX7_slip_115 (lv_at hl 2 rfl) ?_
  refine lv_aload_n hx hb dX7_slip_117 rfl (lv_at hl 0 rfl) ?_
  obtain ⟨r1, e2, hf⟩ := bind_some hf
  refine callVi (As := []) (rest := [.int (v.2)]) M (mX7_players l D cs sk h_t q_t k d_t e2) mw_X7_67 ln_X7_players ⟨rfl, rfl, Nat.le_of_ble_eq_true rfl, Nat.le_of_ble_eq_true rfl⟩ hP hD hS hA [0, 1] (by decide) rfl rfl (q0 := 0) rfl rfl rfl ⟨Nat.zero_le _, Nat.zero_le _⟩ hl.1 rfl (Nat.le_of_ble_eq_true rfl) dX7_slip_118 (fun H locs hP hD hS => ?_)
  replace hP : va_P D vwCl [oX7 h_t q_t (d_t.1), ((q_t 0), .inl (cs 0, 106, .inl (d_t.2 0))), ((q_t 3), .inl (cs 0, 3, .inl (d_t.2 3))), ((q_t 10), .inl (cs 0, 6, .inl (d_t.2 10))), ((q_t 11), .inl (cs 0, 6, .inl (d_t.2 11))), ((q_t 12), .inl (cs 0, 6, .inl (d_t.2 12)))] H := hP
  replace hD : va_D A [oX7 h_t q_t (d_t.1), ((q_t 0), .inl (cs 0, 106, .inl (d_t.2 0))), ((q_t 3), .inl (cs 0, 3, .inl (d_t.2 3))), ((q_t 10), .inl (cs 0, 6, .inl (d_t.2 10))), ((q_t 11), .inl (cs 0, 6, .inl (d_t.2 11))), ((q_t 12), .inl (cs 0, 6, .inl (d_t.2 12)))] := hD
  have g4 := ite_some hf
  refine lv_icmp_ge (tgt := 160) hx hb dX7_slip_121 (by decide) (fun c3 => ?_) (fun c3 => ?_)
  · replace hf := g4.1 c3
    exact hK160 _ hf _ _ _ hP hD hS (lv_sub hl [1] rfl)
  · replace hf := g4.2 c3
    refine lv_iload hx hb dX7_slip_124 (lv_at hl 1 rfl) ?_
    refine lv_aload_n hx hb dX7_slip_126 rfl (lv_at hl 0 rfl) ?_
    refine va_get (D := D) (ci := 7) (v := .ref (q_t 10)) (C := RX7) (T := TX7) (N := 23) hx hb hT iX7 hown hK hP 0 rfl rfl 10 (by decide) (hT _ fw_X7_35) (fun _ h9 => h9) rfl dX7_slip_127 ?_
    refine lv_iload hx hb dX7_slip_130 (lv_at hl 2 rfl) ?_
    obtain ⟨hi, hf⟩ := chk_some hf
    refine va_iald (D := D) hx hb hK hP 3 0 rfl rfl hi dX7_slip_132 ?_
    refine lv_aload_n hx hb dX7_slip_133 rfl (lv_at hl 0 rfl) ?_
    refine va_get (D := D) (ci := 7) (v := .ref (q_t 12)) (C := RX7) (T := TX7) (N := 23) hx hb hT iX7 hown hK hP 0 rfl rfl 12 (by decide) (hT _ fw_X7_41) (fun _ h9 => h9) rfl dX7_slip_134 ?_
    refine lv_iload hx hb dX7_slip_137 (lv_at hl 2 rfl) ?_
    obtain ⟨hi, hf⟩ := chk_some hf
    refine va_iald (D := D) hx hb hK hP 5 0 rfl rfl hi dX7_slip_139 ?_
    have g6 := ite_some hf
    refine lv_icmp_eq (tgt := 150) hx hb dX7_slip_140 (by decide) (fun c5 => ?_) (fun c5 => ?_)
    · replace hf := g6.1 c5
      refine lv_iconst (v := 0) hx hb dX7_slip_150 rfl ?_
      refine lv_ior hx hb dX7_slip_151 ?_
      refine lv_istore (lv' := [(4, .int ((v.1) ||| 0)), (0, .ref h_t), (5, .int (v.2))]) hx hb dX7_slip_152 hl (by decide) rfl (fun ls hl => ?_)
      refine lv_iinc (v := ((v.2) + 1)) (lv' := [(5, .int ((v.2) + 1)), (4, .int ((v.1) ||| 0)), (0, .ref h_t)]) hx hb dX7_slip_154 hl (k := 2) rfl rfl (by decide) rfl (fun ls hl => ?_)
      refine lv_goto (tgt := 115) hx hb dX7_slip_157 (by decide) ?_
      exact ih _ hf _ _ _ hP hD hS (lv_sub hl [2, 1, 0] rfl)
    · replace hf := g6.2 c5
      refine lv_iconst (v := 1) hx hb dX7_slip_143 rfl ?_
      refine lv_iload hx hb dX7_slip_144 (lv_at hl 2 rfl) ?_
      refine lv_ishl hx hb dX7_slip_146 ?_
      refine lv_goto (tgt := 151) hx hb dX7_slip_147 (by decide) ?_
      refine lv_ior hx hb dX7_slip_151 ?_
      refine lv_istore (lv' := [(4, .int ((v.1) ||| (1 <<< ((v.2) &&& 31)))), (0, .ref h_t), (5, .int (v.2))]) hx hb dX7_slip_152 hl (by decide) rfl (fun ls hl => ?_)
      refine lv_iinc (v := ((v.2) + 1)) (lv' := [(5, .int ((v.2) + 1)), (4, .int ((v.1) ||| (1 <<< ((v.2) &&& 31)))), (0, .ref h_t)]) hx hb dX7_slip_154 hl (k := 2) rfl rfl (by decide) rfl (fun ls hl => ?_)
      refine lv_goto (tgt := 115) hx hb dX7_slip_157 (by decide) ?_
      exact ih _ hf _ _ _ hP hD hS (lv_sub hl [2, 1, 0] rfl)
set_option maxHeartbeats 4000000 in
set_option maxRecDepth 100000 in
theorem mX7_slip (l : Launch) (D : va_G) (cs : Nat → ClassId) (sk : Nat → Nat) (h_t : Nat) (q_t : Nat → Nat) (k : Nat) (d_t : Dat) (x1 : Int32) (x2 : Int32) (x3 : Int32) {rv : Int32 × Dat} (hf : fX7_slip k d_t x1 x2 x3 = some rv) : CTi l yX7_slip (Cond.code yX7_slip cX7_slip 6 (some .int) :: gtbl) rm_X7_slip D cs sk [.ref h_t, .int x1, .int x2, .int x3] [oX7 h_t q_t (d_t.1), ((q_t 0), .inl (cs 0, 106, .inl (d_t.2 0))), ((q_t 3), .inl (cs 0, 3, .inl (d_t.2 3))), ((q_t 10), .inl (cs 0, 6, .inl (d_t.2 10))), ((q_t 11), .inl (cs 0, 6, .inl (d_t.2 11))), ((q_t 12), .inl (cs 0, 6, .inl (d_t.2 12)))] (rv.1) [oX7 h_t q_t (d_t.1), ((q_t 0), .inl (cs 0, 106, .inl (d_t.2 0))), ((q_t 3), .inl (cs 0, 3, .inl (rv.2.2 3))), ((q_t 10), .inl (cs 0, 6, .inl (rv.2.2 10))), ((q_t 11), .inl (cs 0, 6, .inl (rv.2.2 11))), ((q_t 12), .inl (cs 0, 6, .inl (rv.2.2 12)))] := by
  refine CTi.of RX7 (by decide +kernel) rfl (Nat.le_of_ble_eq_true rfl) (fun p e s m args below meth c A Q ls M hA hR hl hP hD hS => ?_)
  obtain ⟨hx, hb, hml, hT, hown, hlk, hrt, hK, hN, hSE⟩ := id M
  replace hl : lv_has ls 6 [(0, .ref h_t), (1, .int x1), (2, .int x2), (3, .int x3)] := hl
  unfold fX7_slip at hf
  refine lv_aload_n hx hb dX7_slip_0 rfl (lv_at hl 0 rfl) ?_
  refine lv_iload_n hx hb dX7_slip_1 rfl (lv_at hl 1 rfl) ?_
  obtain ⟨r1, e2, hf⟩ := bind_some hf
  refine callVi (As := [.int x1]) (rest := []) M (mX7_isPlayer l D cs sk h_t q_t k d_t x1 e2) mw_X7_115 ln_X7_isPlayer ⟨rfl, rfl, Nat.le_of_ble_eq_true rfl, Nat.le_of_ble_eq_true rfl⟩ hP hD hS hA [0, 1] (by decide) rfl rfl (q0 := 0) rfl rfl rfl ⟨Nat.zero_le _, Nat.zero_le _⟩ hl.1 rfl (Nat.le_of_ble_eq_true rfl) dX7_slip_2 (fun H locs hP hD hS => ?_)
  replace hP : va_P D vwCl [oX7 h_t q_t (d_t.1), ((q_t 0), .inl (cs 0, 106, .inl (d_t.2 0))), ((q_t 3), .inl (cs 0, 3, .inl (d_t.2 3))), ((q_t 10), .inl (cs 0, 6, .inl (d_t.2 10))), ((q_t 11), .inl (cs 0, 6, .inl (d_t.2 11))), ((q_t 12), .inl (cs 0, 6, .inl (d_t.2 12)))] H := hP
  replace hD : va_D A [oX7 h_t q_t (d_t.1), ((q_t 0), .inl (cs 0, 106, .inl (d_t.2 0))), ((q_t 3), .inl (cs 0, 3, .inl (d_t.2 3))), ((q_t 10), .inl (cs 0, 6, .inl (d_t.2 10))), ((q_t 11), .inl (cs 0, 6, .inl (d_t.2 11))), ((q_t 12), .inl (cs 0, 6, .inl (d_t.2 12)))] := hD
  have g4 := ite_some hf
  refine lv_if_eq (tgt := 34) hx hb dX7_slip_5 (by decide) (fun c3 => ?_) (fun c3 => ?_)
  · replace hf := g4.1 c3
    refine lv_aload_n hx hb dX7_slip_34 rfl (lv_at hl 0 rfl) ?_
    refine lv_bipush (v := (-2)) hx hb dX7_slip_35 rfl ?_
    obtain ⟨r5, e6, hf⟩ := bind_some hf
    refine callVi (As := [.int (-2)]) (rest := []) M (mX7_bad l D cs sk h_t q_t k d_t (-2) e6) mw_X7_76 ln_X7_bad ⟨rfl, rfl, Nat.le_of_ble_eq_true rfl, Nat.le_of_ble_eq_true rfl⟩ hP hD hS hA [0, 2] (by decide) rfl rfl (q0 := 0) rfl rfl rfl ⟨Nat.zero_le _, Nat.zero_le _⟩ hl.1 rfl (Nat.le_of_ble_eq_true rfl) dX7_slip_37 (fun H locs hP hD hS => ?_)
    replace hP : va_P D vwCl [oX7 h_t q_t (d_t.1), ((q_t 0), .inl (cs 0, 106, .inl (d_t.2 0))), ((q_t 3), .inl (cs 0, 3, .inl (r5.2.2 3))), ((q_t 10), .inl (cs 0, 6, .inl (d_t.2 10))), ((q_t 11), .inl (cs 0, 6, .inl (d_t.2 11))), ((q_t 12), .inl (cs 0, 6, .inl (d_t.2 12)))] H := hP
    replace hD : va_D A [oX7 h_t q_t (d_t.1), ((q_t 0), .inl (cs 0, 106, .inl (d_t.2 0))), ((q_t 3), .inl (cs 0, 3, .inl (r5.2.2 3))), ((q_t 10), .inl (cs 0, 6, .inl (d_t.2 10))), ((q_t 11), .inl (cs 0, 6, .inl (d_t.2 11))), ((q_t 12), .inl (cs 0, 6, .inl (d_t.2 12)))] := hD
    have e9 := Option.some.inj hf
    subst e9
    exact hR _ _ _ _ dX7_slip_40 hP hS
  · replace hf := g4.2 c3
    refine lv_iload_n hx hb dX7_slip_8 rfl (lv_at hl 2 rfl) ?_
    refine lv_i2l (v := x2.toInt64) hx hb dX7_slip_9 rfl ?_
    refine W.ldc2 (v := (-99)) hx hb hown (hT _ kw_X7_202) rfl dX7_slip_10 ?_
    refine W.eq (g2 := F0 m 13 ls [.long (-99), .long x2.toInt64]) rfl ?_
    refine W.ldc2 (v := 99) hx hb hown (hT _ kw_X7_70) rfl dX7_slip_13 ?_
    refine W.eq (g2 := F0 m 16 ls [.long 99, .long (-99), .long x2.toInt64]) rfl ?_
    obtain ⟨r7, e8, hf⟩ := bind_some hf
    refine callSi (As := [.long x2.toInt64, .long (-99), .long 99]) (rest := []) M (mX7_in l D cs sk  k x2.toInt64 (-99) 99 e8) mw_X7_60 ln_X7_in ⟨rfl, rfl, Nat.le_of_ble_eq_true rfl, Nat.le_of_ble_eq_true rfl⟩ hP hD hS hA [] (by decide) rfl rfl ⟨Nat.zero_le _, Nat.zero_le _⟩ hl.1 rfl (Nat.le_of_ble_eq_true rfl) dX7_slip_16 (fun H locs hP hD hS => ?_)
    replace hP : va_P D vwCl [oX7 h_t q_t (d_t.1), ((q_t 0), .inl (cs 0, 106, .inl (d_t.2 0))), ((q_t 3), .inl (cs 0, 3, .inl (d_t.2 3))), ((q_t 10), .inl (cs 0, 6, .inl (d_t.2 10))), ((q_t 11), .inl (cs 0, 6, .inl (d_t.2 11))), ((q_t 12), .inl (cs 0, 6, .inl (d_t.2 12)))] H := hP
    replace hD : va_D A [oX7 h_t q_t (d_t.1), ((q_t 0), .inl (cs 0, 106, .inl (d_t.2 0))), ((q_t 3), .inl (cs 0, 3, .inl (d_t.2 3))), ((q_t 10), .inl (cs 0, 6, .inl (d_t.2 10))), ((q_t 11), .inl (cs 0, 6, .inl (d_t.2 11))), ((q_t 12), .inl (cs 0, 6, .inl (d_t.2 12)))] := hD
    have g10 := ite_some hf
    refine lv_if_eq (tgt := 34) hx hb dX7_slip_19 (by decide) (fun c9 => ?_) (fun c9 => ?_)
    · replace hf := g10.1 c9
      refine lv_aload_n hx hb dX7_slip_34 rfl (lv_at hl 0 rfl) ?_
      refine lv_bipush (v := (-2)) hx hb dX7_slip_35 rfl ?_
      obtain ⟨r11, e12, hf⟩ := bind_some hf
      refine callVi (As := [.int (-2)]) (rest := []) M (mX7_bad l D cs sk h_t q_t k d_t (-2) e12) mw_X7_76 ln_X7_bad ⟨rfl, rfl, Nat.le_of_ble_eq_true rfl, Nat.le_of_ble_eq_true rfl⟩ hP hD hS hA [0, 2] (by decide) rfl rfl (q0 := 0) rfl rfl rfl ⟨Nat.zero_le _, Nat.zero_le _⟩ hl.1 rfl (Nat.le_of_ble_eq_true rfl) dX7_slip_37 (fun H locs hP hD hS => ?_)
      replace hP : va_P D vwCl [oX7 h_t q_t (d_t.1), ((q_t 0), .inl (cs 0, 106, .inl (d_t.2 0))), ((q_t 3), .inl (cs 0, 3, .inl (r11.2.2 3))), ((q_t 10), .inl (cs 0, 6, .inl (d_t.2 10))), ((q_t 11), .inl (cs 0, 6, .inl (d_t.2 11))), ((q_t 12), .inl (cs 0, 6, .inl (d_t.2 12)))] H := hP
      replace hD : va_D A [oX7 h_t q_t (d_t.1), ((q_t 0), .inl (cs 0, 106, .inl (d_t.2 0))), ((q_t 3), .inl (cs 0, 3, .inl (r11.2.2 3))), ((q_t 10), .inl (cs 0, 6, .inl (d_t.2 10))), ((q_t 11), .inl (cs 0, 6, .inl (d_t.2 11))), ((q_t 12), .inl (cs 0, 6, .inl (d_t.2 12)))] := hD
      have e9 := Option.some.inj hf
      subst e9
      exact hR _ _ _ _ dX7_slip_40 hP hS
    · replace hf := g10.2 c9
      refine lv_iload_n hx hb dX7_slip_22 rfl (lv_at hl 3 rfl) ?_
      refine lv_i2l (v := x3.toInt64) hx hb dX7_slip_23 rfl ?_
      refine lv_lconst (v := 0) hx hb dX7_slip_24 rfl ?_
      refine W.ldc2 (v := 20) hx hb hown (hT _ kw_X7_204) rfl dX7_slip_25 ?_
      refine W.eq (g2 := F0 m 28 ls [.long 20, .long 0, .long x3.toInt64]) rfl ?_
      obtain ⟨r13, e14, hf⟩ := bind_some hf
      refine callSi (As := [.long x3.toInt64, .long 0, .long 20]) (rest := []) M (mX7_in l D cs sk  k x3.toInt64 0 20 e14) mw_X7_60 ln_X7_in ⟨rfl, rfl, Nat.le_of_ble_eq_true rfl, Nat.le_of_ble_eq_true rfl⟩ hP hD hS hA [] (by decide) rfl rfl ⟨Nat.zero_le _, Nat.zero_le _⟩ hl.1 rfl (Nat.le_of_ble_eq_true rfl) dX7_slip_28 (fun H locs hP hD hS => ?_)
      replace hP : va_P D vwCl [oX7 h_t q_t (d_t.1), ((q_t 0), .inl (cs 0, 106, .inl (d_t.2 0))), ((q_t 3), .inl (cs 0, 3, .inl (d_t.2 3))), ((q_t 10), .inl (cs 0, 6, .inl (d_t.2 10))), ((q_t 11), .inl (cs 0, 6, .inl (d_t.2 11))), ((q_t 12), .inl (cs 0, 6, .inl (d_t.2 12)))] H := hP
      replace hD : va_D A [oX7 h_t q_t (d_t.1), ((q_t 0), .inl (cs 0, 106, .inl (d_t.2 0))), ((q_t 3), .inl (cs 0, 3, .inl (d_t.2 3))), ((q_t 10), .inl (cs 0, 6, .inl (d_t.2 10))), ((q_t 11), .inl (cs 0, 6, .inl (d_t.2 11))), ((q_t 12), .inl (cs 0, 6, .inl (d_t.2 12)))] := hD
      have g16 := ite_some hf
      refine lv_if_ne (tgt := 41) hx hb dX7_slip_31 (by decide) (fun c15 => ?_) (fun c15 => ?_)
      · replace hf := g16.2 c15
        refine lv_aload_n hx hb dX7_slip_41 rfl (lv_at hl 0 rfl) ?_
        refine lv_aload_n hx hb dX7_slip_42 rfl (lv_at hl 0 rfl) ?_
        refine va_get (D := D) (ci := 7) (v := .ref (q_t 10)) (C := RX7) (T := TX7) (N := 23) hx hb hT iX7 hown hK hP 0 rfl rfl 10 (by decide) (hT _ fw_X7_35) (fun _ h9 => h9) rfl dX7_slip_43 ?_
        obtain ⟨r17, e18, hf⟩ := bind_some hf
        refine callVv (As := [.ref (q_t 10)]) (rest := []) M (mX7_takeOffsets l D cs sk h_t (q_t 10) q_t k d_t 6 (d_t.2 10) e18) mw_X7_191 ln_X7_takeOffsets ⟨rfl, rfl, Nat.le_of_ble_eq_true rfl, Nat.le_of_ble_eq_true rfl⟩ hP hD hS hA [0, 1, 3] (by decide) rfl rfl (q0 := 0) rfl rfl rfl ⟨Nat.zero_le _, Nat.zero_le _⟩ hl.1 rfl (Nat.le_of_ble_eq_true rfl) dX7_slip_46 (fun H locs hP hD hS => ?_)
        replace hP : va_P D vwCl [oX7 h_t q_t (d_t.1), ((q_t 0), .inl (cs 0, 106, .inl (d_t.2 0))), ((q_t 3), .inl (cs 0, 3, .inl (d_t.2 3))), ((q_t 10), .inl (cs 0, 6, .inl r17)), ((q_t 11), .inl (cs 0, 6, .inl (d_t.2 11))), ((q_t 12), .inl (cs 0, 6, .inl (d_t.2 12)))] H := hP
        replace hD : va_D A [oX7 h_t q_t (d_t.1), ((q_t 0), .inl (cs 0, 106, .inl (d_t.2 0))), ((q_t 3), .inl (cs 0, 3, .inl (d_t.2 3))), ((q_t 10), .inl (cs 0, 6, .inl r17)), ((q_t 11), .inl (cs 0, 6, .inl (d_t.2 11))), ((q_t 12), .inl (cs 0, 6, .inl (d_t.2 12)))] := hD
        refine lv_aload_n hx hb dX7_slip_49 rfl (lv_at hl 0 rfl) ?_
        refine lv_aload_n hx hb dX7_slip_50 rfl (lv_at hl 0 rfl) ?_
        refine va_get (D := D) (ci := 7) (v := .ref (q_t 12)) (C := RX7) (T := TX7) (N := 23) hx hb hT iX7 hown hK hP 0 rfl rfl 12 (by decide) (hT _ fw_X7_41) (fun _ h9 => h9) rfl dX7_slip_51 ?_
        obtain ⟨r19, e20, hf⟩ := bind_some hf
        refine callVv (As := [.ref (q_t 12)]) (rest := []) M (mX7_takeOffsets l D cs sk h_t (q_t 12) q_t k (d_t.1, (va_up d_t.2 10 r17)) 6 (d_t.2 12) e20) mw_X7_191 ln_X7_takeOffsets ⟨rfl, rfl, Nat.le_of_ble_eq_true rfl, Nat.le_of_ble_eq_true rfl⟩ hP hD hS hA [0, 1, 5] (by decide) rfl rfl (q0 := 0) rfl rfl rfl ⟨Nat.zero_le _, Nat.zero_le _⟩ hl.1 rfl (Nat.le_of_ble_eq_true rfl) dX7_slip_54 (fun H locs hP hD hS => ?_)
        replace hP : va_P D vwCl [oX7 h_t q_t (d_t.1), ((q_t 0), .inl (cs 0, 106, .inl (d_t.2 0))), ((q_t 3), .inl (cs 0, 3, .inl (d_t.2 3))), ((q_t 10), .inl (cs 0, 6, .inl r17)), ((q_t 11), .inl (cs 0, 6, .inl (d_t.2 11))), ((q_t 12), .inl (cs 0, 6, .inl r19))] H := hP
        replace hD : va_D A [oX7 h_t q_t (d_t.1), ((q_t 0), .inl (cs 0, 106, .inl (d_t.2 0))), ((q_t 3), .inl (cs 0, 3, .inl (d_t.2 3))), ((q_t 10), .inl (cs 0, 6, .inl r17)), ((q_t 11), .inl (cs 0, 6, .inl (d_t.2 11))), ((q_t 12), .inl (cs 0, 6, .inl r19))] := hD
        refine lv_aload_n hx hb dX7_slip_57 rfl (lv_at hl 0 rfl) ?_
        refine va_get (D := D) (ci := 7) (v := .ref (q_t 12)) (C := RX7) (T := TX7) (N := 23) hx hb hT iX7 hown hK hP 0 rfl rfl 12 (by decide) (hT _ fw_X7_41) (fun _ h9 => h9) rfl dX7_slip_58 ?_
        refine lv_iload_n hx hb dX7_slip_61 rfl (lv_at hl 1 rfl) ?_
        refine lv_aload_n hx hb dX7_slip_62 rfl (lv_at hl 0 rfl) ?_
        refine va_get (D := D) (ci := 7) (v := .ref (q_t 12)) (C := RX7) (T := TX7) (N := 23) hx hb hT iX7 hown hK hP 0 rfl rfl 12 (by decide) (hT _ fw_X7_41) (fun _ h9 => h9) rfl dX7_slip_63 ?_
        refine lv_iload_n hx hb dX7_slip_66 rfl (lv_at hl 1 rfl) ?_
        obtain ⟨hi, hf⟩ := chk_some hf
        refine va_iald (D := D) hx hb hK hP 5 0 rfl rfl hi dX7_slip_67 ?_
        refine lv_iload_n hx hb dX7_slip_68 rfl (lv_at hl 2 rfl) ?_
        refine lv_iadd hx hb dX7_slip_69 ?_
        obtain ⟨r21, e22, hf⟩ := bind_some hf
        refine callSi (As := [.int ((r19 x1.toNatClampNeg) + x2)]) (rest := [.int x1, .ref (q_t 12)]) M (mX7_hold l D cs sk  k ((r19 x1.toNatClampNeg) + x2) e22) mw_X7_188 ln_X7_hold ⟨rfl, rfl, Nat.le_of_ble_eq_true rfl, Nat.le_of_ble_eq_true rfl⟩ hP hD hS hA [] (by decide) rfl rfl ⟨Nat.zero_le _, Nat.zero_le _⟩ hl.1 rfl (Nat.le_of_ble_eq_true rfl) dX7_slip_70 (fun H locs hP hD hS => ?_)
        replace hP : va_P D vwCl [oX7 h_t q_t (d_t.1), ((q_t 0), .inl (cs 0, 106, .inl (d_t.2 0))), ((q_t 3), .inl (cs 0, 3, .inl (d_t.2 3))), ((q_t 10), .inl (cs 0, 6, .inl r17)), ((q_t 11), .inl (cs 0, 6, .inl (d_t.2 11))), ((q_t 12), .inl (cs 0, 6, .inl r19))] H := hP
        replace hD : va_D A [oX7 h_t q_t (d_t.1), ((q_t 0), .inl (cs 0, 106, .inl (d_t.2 0))), ((q_t 3), .inl (cs 0, 3, .inl (d_t.2 3))), ((q_t 10), .inl (cs 0, 6, .inl r17)), ((q_t 11), .inl (cs 0, 6, .inl (d_t.2 11))), ((q_t 12), .inl (cs 0, 6, .inl r19))] := hD
        obtain ⟨hi, hf⟩ := chk_some hf
        refine va_iast (D := D) hx hb hK hP hD hS 5 0 rfl rfl hi dX7_slip_73 (fun H locs hP hD hS => ?_)
        replace hP : va_P D vwCl [oX7 h_t q_t (d_t.1), ((q_t 0), .inl (cs 0, 106, .inl (d_t.2 0))), ((q_t 3), .inl (cs 0, 3, .inl (d_t.2 3))), ((q_t 10), .inl (cs 0, 6, .inl r17)), ((q_t 11), .inl (cs 0, 6, .inl (d_t.2 11))), ((q_t 12), .inl (cs 0, 6, .inl (upd r19 x1.toNatClampNeg r21)))] H := hP
        replace hD : va_D A [oX7 h_t q_t (d_t.1), ((q_t 0), .inl (cs 0, 106, .inl (d_t.2 0))), ((q_t 3), .inl (cs 0, 3, .inl (d_t.2 3))), ((q_t 10), .inl (cs 0, 6, .inl r17)), ((q_t 11), .inl (cs 0, 6, .inl (d_t.2 11))), ((q_t 12), .inl (cs 0, 6, .inl (upd r19 x1.toNatClampNeg r21)))] := hD
        refine lv_iconst (v := 0) hx hb dX7_slip_74 rfl ?_
        refine lv_istore (lv' := [(4, .int 0), (0, .ref h_t), (1, .int x1), (2, .int x2), (3, .int x3)]) hx hb dX7_slip_75 hl (by decide) rfl (fun ls hl => ?_)
        refine mX7_slip_B77 h_t q_t k x3 (d_t.1, (va_up (va_up d_t.2 10 r17) 12 (upd r19 x1.toNatClampNeg r21))) _ M hA hR (fun w23 hf H locs ls hP hD hS hl => ?_) _ _ hf _ _ _ hP hD hS (lv_sub hl [1, 4, 0] rfl)
        · refine lv_iconst (v := 0) hx hb dX7_slip_109 rfl ?_
          refine lv_istore (lv' := [(4, .int 0), (0, .ref h_t)]) hx hb dX7_slip_110 hl (by decide) rfl (fun ls hl => ?_)
          refine lv_iconst (v := 0) hx hb dX7_slip_112 rfl ?_
          refine lv_istore (lv' := [(5, .int 0), (4, .int 0), (0, .ref h_t)]) hx hb dX7_slip_113 hl (by decide) rfl (fun ls hl => ?_)
          refine mX7_slip_B115 h_t q_t k (d_t.1, (va_up (va_up (va_up d_t.2 10 (w23.2 10)) 11 (w23.2 11)) 12 (w23.2 12))) _ M hA hR (fun w24 hf H locs ls hP hD hS hl => ?_) _ _ hf _ _ _ hP hD hS (lv_sub hl [2, 1, 0] rfl)
          · refine lv_iload hx hb dX7_slip_160 (lv_at hl 0 rfl) ?_
            have e9 := Option.some.inj hf
            subst e9
            exact hR _ _ _ _ dX7_slip_162 hP hS
      · replace hf := g16.1 c15
        refine lv_aload_n hx hb dX7_slip_34 rfl (lv_at hl 0 rfl) ?_
        refine lv_bipush (v := (-2)) hx hb dX7_slip_35 rfl ?_
        obtain ⟨r25, e26, hf⟩ := bind_some hf
        refine callVi (As := [.int (-2)]) (rest := []) M (mX7_bad l D cs sk h_t q_t k d_t (-2) e26) mw_X7_76 ln_X7_bad ⟨rfl, rfl, Nat.le_of_ble_eq_true rfl, Nat.le_of_ble_eq_true rfl⟩ hP hD hS hA [0, 2] (by decide) rfl rfl (q0 := 0) rfl rfl rfl ⟨Nat.zero_le _, Nat.zero_le _⟩ hl.1 rfl (Nat.le_of_ble_eq_true rfl) dX7_slip_37 (fun H locs hP hD hS => ?_)
        replace hP : va_P D vwCl [oX7 h_t q_t (d_t.1), ((q_t 0), .inl (cs 0, 106, .inl (d_t.2 0))), ((q_t 3), .inl (cs 0, 3, .inl (r25.2.2 3))), ((q_t 10), .inl (cs 0, 6, .inl (d_t.2 10))), ((q_t 11), .inl (cs 0, 6, .inl (d_t.2 11))), ((q_t 12), .inl (cs 0, 6, .inl (d_t.2 12)))] H := hP
        replace hD : va_D A [oX7 h_t q_t (d_t.1), ((q_t 0), .inl (cs 0, 106, .inl (d_t.2 0))), ((q_t 3), .inl (cs 0, 3, .inl (r25.2.2 3))), ((q_t 10), .inl (cs 0, 6, .inl (d_t.2 10))), ((q_t 11), .inl (cs 0, 6, .inl (d_t.2 11))), ((q_t 12), .inl (cs 0, 6, .inl (d_t.2 12)))] := hD
        have e9 := Option.some.inj hf
        subst e9
        exact hR _ _ _ _ dX7_slip_40 hP hS
abbrev rm_X7_putAll : Room := { frames := 1, cells := 0, slots := 0, locals := 22 }
def fX7_putAll_B50 (k : Nat) (x4 : Int32) (d_t : Dat) (K92 : Int32 → Option (Int32 × Dat)) (rec : Int32 × Int32 → Option (Int32 × Dat)) (v : Int32 × Int32) : Option (Int32 × Dat) :=
  (fX7_players k d_t).bind (fun (r1 : Int32) => (if r1 ≤ (v.2) then K92 (v.1) else (if (v.1) = 0 then rec (0, ((v.2) + 1)) else (fX7_of k d_t x4 1).bind (fun (r7 : Int32) => (fX7_of k d_t (v.2) 1).bind (fun (r9 : Int32) => (if r7 = r9 then rec (0, ((v.2) + 1)) else rec (1, ((v.2) + 1))))))))
def fX7_putAll_B12 (k : Nat) (d_t : Dat) (K98 : Int32 × Dat → Option (Int32 × Dat)) (rec : Int32 × Int32 × Int32 × Dat → Option (Int32 × Dat)) (v : Int32 × Int32 × Int32 × Dat) : Option (Int32 × Dat) :=
  (if (v.2.2.1) < 0 then K98 ((v.2.1), (d_t.1, (va_up d_t.2 0 (v.2.2.2.2 0)))) else (fX7_windows k (d_t.1, (va_up d_t.2 0 (v.2.2.2.2 0)))).bind (fun (r3 : Int32) => chz r3 (chk 106 ((24 + (5 * (v.2.2.1))) + 1) ((fX7_windows k (d_t.1, (va_up d_t.2 0 (upd (v.2.2.2.2 0) ((24 + (5 * (v.2.2.1))) + 1).toNatClampNeg ((v.1) - (v.1) / r3 * r3))))).bind (fun (r5 : Int32) => chz r5 (lp (fX7_putAll_B50 k (v.2.2.1) (d_t.1, (va_up d_t.2 0 (upd (v.2.2.2.2 0) ((24 + (5 * (v.2.2.1))) + 1).toNatClampNeg ((v.1) - (v.1) / r3 * r3)))) (fun (w7 : Int32) => rec (((v.1) / r5), w7, ((v.2.2.1) + (-1)), (d_t.1, (va_up d_t.2 0 (upd (v.2.2.2.2 0) ((24 + (5 * (v.2.2.1))) + 1).toNatClampNeg ((v.1) - (v.1) / r3 * r3))))))) k ((v.2.1), ((v.2.2.1) + 1))))))))
def fX7_putAll (k : Nat) (d_t : Dat) (x1 : Int32) : Option (Int32 × Dat) :=
  (fX7_players k d_t).bind (fun (r1 : Int32) => lp (fX7_putAll_B12 k d_t (fun (w3 : Int32 × Dat) => chb (w3.1) (some ((w3.1), (d_t.1, (va_up d_t.2 0 (w3.2.2 0))))))) k (x1, 1, (r1 - 1), d_t))
set_option maxHeartbeats 4000000 in
set_option maxRecDepth 100000 in
theorem mX7_putAll_B50 {l : Launch} {p : Program} {e : Env} {s : State} {m : MethodId} {args : Array Value} {below : List Frame} {meth : Method} {c : Code} {D : va_G} {cs : Nat → ClassId} {sk : Nat → Nat} {A : Nat → Prop} {Q : State → Prop} (h_t : Nat) (q_t : Nat → Nat) (k : Nat) (x2 : Int32) (x4 : Int32) (d_t : Dat) {rv : Int32 × Dat}  (K92 : Int32 → Option (Int32 × Dat))
    (M : MC p s m args meth c D cs sk A RX7 cX7_putAll 6 (some .boolean)) (hA : ∀ q, s.heap.size ≤ q → A q) (hR : RetZ p l e rm_X7_putAll s m args below meth c D cX7_putAll A Q (rv.1) [oX7 h_t q_t (d_t.1), ((q_t 0), .inl (cs 0, 106, .inl (rv.2.2 0)))])
    (hK92 : ∀ (w : Int32), K92 w = some rv → ∀ (H : Heap) (locs : List Loc) (ls : Array Slot), va_P D vwCl [oX7 h_t q_t (d_t.1), ((q_t 0), .inl (cs 0, 106, .inl (d_t.2 0)))] H → va_D A [oX7 h_t q_t (d_t.1), ((q_t 0), .inl (cs 0, 106, .inl (d_t.2 0)))] → va_S A s.heap H locs → lv_has ls 6 [(0, .ref h_t), (2, .int x2), (3, .int w), (4, .int x4)] → W p l e rm_X7_putAll s m args below meth c H locs 0 0 Q (F0 m 92 ls []))
    : ∀ (n : Nat) (v : Int32 × Int32), lp (fX7_putAll_B50 k x4 d_t K92) n v = some rv → ∀ (H : Heap) (locs : List Loc) (ls : Array Slot), va_P D vwCl [oX7 h_t q_t (d_t.1), ((q_t 0), .inl (cs 0, 106, .inl (d_t.2 0)))] H → va_D A [oX7 h_t q_t (d_t.1), ((q_t 0), .inl (cs 0, 106, .inl (d_t.2 0)))] → va_S A s.heap H locs → lv_has ls 6 [(0, .ref h_t), (2, .int x2), (3, .int (v.1)), (4, .int x4), (5, .int (v.2))] → W p l e rm_X7_putAll s m args below meth c H locs 0 0 Q (F0 m 50 ls []) := by
  obtain ⟨hx, hb, hml, hT, hown, hlk, hrt, hK, hN, hSE⟩ := id M
  refine lp_ind (fun rec ih v hf H locs ls hP hD hS hl => ?_)
  unfold fX7_putAll_B50 at hf
  refine lv_iload hx hb dX7_putAll_50 (lv_at hl 4 rfl) ?_
  refine lv_aload_n hx hb dX7_putAll_52 rfl (lv_at hl 0 rfl) ?_
  obtain ⟨r1, e2, hf⟩ := bind_some hf
  refine callVi (As := []) (rest := [.int (v.2)]) M (mX7_players l D cs sk h_t q_t k d_t e2) mw_X7_67 ln_X7_players ⟨rfl, rfl, Nat.le_of_ble_eq_true rfl, Nat.le_of_ble_eq_true rfl⟩ hP hD hS hA [0, 1] (by decide) rfl rfl (q0 := 0) rfl rfl rfl ⟨Nat.zero_le _, Nat.zero_le _⟩ hl.1 rfl (Nat.le_of_ble_eq_true rfl) dX7_putAll_53 (fun H locs hP hD hS => ?_)
  replace hP : va_P D vwCl [oX7 h_t q_t (d_t.1), ((q_t 0), .inl (cs 0, 106, .inl (d_t.2 0)))] H := hP
  replace hD : va_D A [oX7 h_t q_t (d_t.1), ((q_t 0), .inl (cs 0, 106, .inl (d_t.2 0)))] := hD
  have g4 := ite_some hf
  refine lv_icmp_ge (tgt := 92) hx hb dX7_putAll_56 (by decide) (fun c3 => ?_) (fun c3 => ?_)
  · replace hf := g4.1 c3
    exact hK92 _ hf _ _ _ hP hD hS (lv_sub hl [0, 1, 2, 3] rfl)
  · replace hf := g4.2 c3
    refine lv_iload_n hx hb dX7_putAll_59 rfl (lv_at hl 2 rfl) ?_
    have g6 := ite_some hf
    refine lv_if_eq (tgt := 84) hx hb dX7_putAll_60 (by decide) (fun c5 => ?_) (fun c5 => ?_)
    · replace hf := g6.1 c5
      refine lv_iconst (v := 0) hx hb dX7_putAll_84 rfl ?_
      refine lv_istore_n (lv' := [(3, .int 0), (0, .ref h_t), (2, .int x2), (4, .int x4), (5, .int (v.2))]) hx hb dX7_putAll_85 rfl hl (by decide) rfl (fun ls hl => ?_)
      refine lv_iinc (v := ((v.2) + 1)) (lv' := [(5, .int ((v.2) + 1)), (3, .int 0), (0, .ref h_t), (2, .int x2), (4, .int x4)]) hx hb dX7_putAll_86 hl (k := 4) rfl rfl (by decide) rfl (fun ls hl => ?_)
      refine lv_goto (tgt := 50) hx hb dX7_putAll_89 (by decide) ?_
      exact ih _ hf _ _ _ hP hD hS (lv_sub hl [2, 3, 1, 4, 0] rfl)
    · replace hf := g6.2 c5
      refine lv_aload_n hx hb dX7_putAll_63 rfl (lv_at hl 0 rfl) ?_
      refine lv_iload hx hb dX7_putAll_64 (lv_at hl 3 rfl) ?_
      refine lv_iconst (v := 1) hx hb dX7_putAll_66 rfl ?_
      obtain ⟨r7, e8, hf⟩ := bind_some hf
      refine callVi (As := [.int x4, .int 1]) (rest := []) M (mX7_of l D cs sk h_t q_t k d_t x4 1 e8) mw_X7_94 ln_X7_of ⟨rfl, rfl, Nat.le_of_ble_eq_true rfl, Nat.le_of_ble_eq_true rfl⟩ hP hD hS hA [0, 1] (by decide) rfl rfl (q0 := 0) rfl rfl rfl ⟨Nat.zero_le _, Nat.zero_le _⟩ hl.1 rfl (Nat.le_of_ble_eq_true rfl) dX7_putAll_67 (fun H locs hP hD hS => ?_)
      replace hP : va_P D vwCl [oX7 h_t q_t (d_t.1), ((q_t 0), .inl (cs 0, 106, .inl (d_t.2 0)))] H := hP
      replace hD : va_D A [oX7 h_t q_t (d_t.1), ((q_t 0), .inl (cs 0, 106, .inl (d_t.2 0)))] := hD
      refine lv_aload_n hx hb dX7_putAll_70 rfl (lv_at hl 0 rfl) ?_
      refine lv_iload hx hb dX7_putAll_71 (lv_at hl 4 rfl) ?_
      refine lv_iconst (v := 1) hx hb dX7_putAll_73 rfl ?_
      obtain ⟨r9, e10, hf⟩ := bind_some hf
      refine callVi (As := [.int (v.2), .int 1]) (rest := [.int r7]) M (mX7_of l D cs sk h_t q_t k d_t (v.2) 1 e10) mw_X7_94 ln_X7_of ⟨rfl, rfl, Nat.le_of_ble_eq_true rfl, Nat.le_of_ble_eq_true rfl⟩ hP hD hS hA [0, 1] (by decide) rfl rfl (q0 := 0) rfl rfl rfl ⟨Nat.zero_le _, Nat.zero_le _⟩ hl.1 rfl (Nat.le_of_ble_eq_true rfl) dX7_putAll_74 (fun H locs hP hD hS => ?_)
      replace hP : va_P D vwCl [oX7 h_t q_t (d_t.1), ((q_t 0), .inl (cs 0, 106, .inl (d_t.2 0)))] H := hP
      replace hD : va_D A [oX7 h_t q_t (d_t.1), ((q_t 0), .inl (cs 0, 106, .inl (d_t.2 0)))] := hD
      have g12 := ite_some hf
      refine lv_icmp_eq (tgt := 84) hx hb dX7_putAll_77 (by decide) (fun c11 => ?_) (fun c11 => ?_)
      · replace hf := g12.1 c11
        refine lv_iconst (v := 0) hx hb dX7_putAll_84 rfl ?_
        refine lv_istore_n (lv' := [(3, .int 0), (0, .ref h_t), (2, .int x2), (4, .int x4), (5, .int (v.2))]) hx hb dX7_putAll_85 rfl hl (by decide) rfl (fun ls hl => ?_)
        refine lv_iinc (v := ((v.2) + 1)) (lv' := [(5, .int ((v.2) + 1)), (3, .int 0), (0, .ref h_t), (2, .int x2), (4, .int x4)]) hx hb dX7_putAll_86 hl (k := 4) rfl rfl (by decide) rfl (fun ls hl => ?_)
        refine lv_goto (tgt := 50) hx hb dX7_putAll_89 (by decide) ?_
        exact ih _ hf _ _ _ hP hD hS (lv_sub hl [2, 3, 1, 4, 0] rfl)
      · replace hf := g12.2 c11
        refine lv_iconst (v := 1) hx hb dX7_putAll_80 rfl ?_
        refine lv_goto (tgt := 85) hx hb dX7_putAll_81 (by decide) ?_
        refine lv_istore_n (lv' := [(3, .int 1), (0, .ref h_t), (2, .int x2), (4, .int x4), (5, .int (v.2))]) hx hb dX7_putAll_85 rfl hl (by decide) rfl (fun ls hl => ?_)
        refine lv_iinc (v := ((v.2) + 1)) (lv' := [(5, .int ((v.2) + 1)), (3, .int 1), (0, .ref h_t), (2, .int x2), (4, .int x4)]) hx hb dX7_putAll_86 hl (k := 4) rfl rfl (by decide) rfl (fun ls hl => ?_)
        refine lv_goto (tgt := 50) hx hb dX7_putAll_89 (by decide) ?_
        exact ih _ hf _ _ _ hP hD hS (lv_sub hl [2, 3, 1, 4, 0] rfl)
set_option maxHeartbeats 4000000 in
set_option maxRecDepth 100000 in
theorem mX7_putAll_B12 {l : Launch} {p : Program} {e : Env} {s : State} {m : MethodId} {args : Array Value} {below : List Frame} {meth : Method} {c : Code} {D : va_G} {cs : Nat → ClassId} {sk : Nat → Nat} {A : Nat → Prop} {Q : State → Prop} (h_t : Nat) (q_t : Nat → Nat) (k : Nat) (d_t : Dat) {rv : Int32 × Dat}  (K98 : Int32 × Dat → Option (Int32 × Dat))
    (M : MC p s m args meth c D cs sk A RX7 cX7_putAll 6 (some .boolean)) (hA : ∀ q, s.heap.size ≤ q → A q) (hR : RetZ p l e rm_X7_putAll s m args below meth c D cX7_putAll A Q (rv.1) [oX7 h_t q_t (d_t.1), ((q_t 0), .inl (cs 0, 106, .inl (rv.2.2 0)))])
    (hK98 : ∀ (w : Int32 × Dat), K98 w = some rv → ∀ (H : Heap) (locs : List Loc) (ls : Array Slot), va_P D vwCl [oX7 h_t q_t (d_t.1), ((q_t 0), .inl (cs 0, 106, .inl (w.2.2 0)))] H → va_D A [oX7 h_t q_t (d_t.1), ((q_t 0), .inl (cs 0, 106, .inl (w.2.2 0)))] → va_S A s.heap H locs → lv_has ls 6 [(3, .int (w.1))] → W p l e rm_X7_putAll s m args below meth c H locs 0 0 Q (F0 m 98 ls []))
    : ∀ (n : Nat) (v : Int32 × Int32 × Int32 × Dat), lp (fX7_putAll_B12 k d_t K98) n v = some rv → ∀ (H : Heap) (locs : List Loc) (ls : Array Slot), va_P D vwCl [oX7 h_t q_t (d_t.1), ((q_t 0), .inl (cs 0, 106, .inl (v.2.2.2.2 0)))] H → va_D A [oX7 h_t q_t (d_t.1), ((q_t 0), .inl (cs 0, 106, .inl (v.2.2.2.2 0)))] → va_S A s.heap H locs → lv_has ls 6 [(0, .ref h_t), (2, .int (v.1)), (3, .int (v.2.1)), (4, .int (v.2.2.1))] → W p l e rm_X7_putAll s m args below meth c H locs 0 0 Q (F0 m 12 ls []) := by
  obtain ⟨hx, hb, hml, hT, hown, hlk, hrt, hK, hN, hSE⟩ := id M
  refine lp_ind (fun rec ih v hf H locs ls hP hD hS hl => ?_)
  unfold fX7_putAll_B12 at hf
  refine lv_iload hx hb dX7_putAll_12 (lv_at hl 3 rfl) ?_
  have g2 := ite_some hf
  refine lv_if_lt (tgt := 98) hx hb dX7_putAll_14 (by decide) (fun c1 => ?_) (fun c1 => ?_)
  · replace hf := g2.1 c1
    exact hK98 _ hf _ _ _ hP hD hS (lv_sub hl [2] rfl)
  · replace hf := g2.2 c1
    refine lv_aload_n hx hb dX7_putAll_17 rfl (lv_at hl 0 rfl) ?_
    refine va_get (D := D) (ci := 7) (v := .ref (q_t 0)) (C := RX7) (T := TX7) (N := 23) hx hb hT iX7 hown hK hP 0 rfl rfl 0 (by decide) (hT _ fw_X7_7) (fun _ h9 => h9) rfl dX7_putAll_18 ?_
    refine lv_bipush (v := 24) hx hb dX7_putAll_21 rfl ?_
    refine lv_iconst (v := 5) hx hb dX7_putAll_23 rfl ?_
    refine lv_iload hx hb dX7_putAll_24 (lv_at hl 3 rfl) ?_
    refine lv_imul hx hb dX7_putAll_26 ?_
    refine lv_iadd hx hb dX7_putAll_27 ?_
    refine lv_iconst (v := 1) hx hb dX7_putAll_28 rfl ?_
    refine lv_iadd hx hb dX7_putAll_29 ?_
    refine lv_iload_n hx hb dX7_putAll_30 rfl (lv_at hl 1 rfl) ?_
    refine lv_aload_n hx hb dX7_putAll_31 rfl (lv_at hl 0 rfl) ?_
    obtain ⟨r3, e4, hf⟩ := bind_some hf
    refine callVi (As := []) (rest := [.int (v.1), .int ((24 + (5 * (v.2.2.1))) + 1), .ref (q_t 0)]) M (mX7_windows l D cs sk h_t q_t k (d_t.1, (va_up d_t.2 0 (v.2.2.2.2 0))) e4) mw_X7_56 ln_X7_windows ⟨rfl, rfl, Nat.le_of_ble_eq_true rfl, Nat.le_of_ble_eq_true rfl⟩ hP hD hS hA [0, 1] (by decide) rfl rfl (q0 := 0) rfl rfl rfl ⟨Nat.zero_le _, Nat.zero_le _⟩ hl.1 rfl (Nat.le_of_ble_eq_true rfl) dX7_putAll_32 (fun H locs hP hD hS => ?_)
    replace hP : va_P D vwCl [oX7 h_t q_t (d_t.1), ((q_t 0), .inl (cs 0, 106, .inl (v.2.2.2.2 0)))] H := hP
    replace hD : va_D A [oX7 h_t q_t (d_t.1), ((q_t 0), .inl (cs 0, 106, .inl (v.2.2.2.2 0)))] := hD
    obtain ⟨hz, hf⟩ := chz_some hf
    refine lv_irem hx hb dX7_putAll_35 hz ?_
    obtain ⟨hi, hf⟩ := chk_some hf
    refine va_iast (D := D) hx hb hK hP hD hS 1 0 rfl rfl hi dX7_putAll_36 (fun H locs hP hD hS => ?_)
    replace hP : va_P D vwCl [oX7 h_t q_t (d_t.1), ((q_t 0), .inl (cs 0, 106, .inl (upd (v.2.2.2.2 0) ((24 + (5 * (v.2.2.1))) + 1).toNatClampNeg ((v.1) - (v.1) / r3 * r3))))] H := hP
    replace hD : va_D A [oX7 h_t q_t (d_t.1), ((q_t 0), .inl (cs 0, 106, .inl (upd (v.2.2.2.2 0) ((24 + (5 * (v.2.2.1))) + 1).toNatClampNeg ((v.1) - (v.1) / r3 * r3))))] := hD
    refine lv_iload_n hx hb dX7_putAll_37 rfl (lv_at hl 1 rfl) ?_
    refine lv_aload_n hx hb dX7_putAll_38 rfl (lv_at hl 0 rfl) ?_
    obtain ⟨r5, e6, hf⟩ := bind_some hf
    refine callVi (As := []) (rest := [.int (v.1)]) M (mX7_windows l D cs sk h_t q_t k (d_t.1, (va_up d_t.2 0 (upd (v.2.2.2.2 0) ((24 + (5 * (v.2.2.1))) + 1).toNatClampNeg ((v.1) - (v.1) / r3 * r3)))) e6) mw_X7_56 ln_X7_windows ⟨rfl, rfl, Nat.le_of_ble_eq_true rfl, Nat.le_of_ble_eq_true rfl⟩ hP hD hS hA [0, 1] (by decide) rfl rfl (q0 := 0) rfl rfl rfl ⟨Nat.zero_le _, Nat.zero_le _⟩ hl.1 rfl (Nat.le_of_ble_eq_true rfl) dX7_putAll_39 (fun H locs hP hD hS => ?_)
    replace hP : va_P D vwCl [oX7 h_t q_t (d_t.1), ((q_t 0), .inl (cs 0, 106, .inl (upd (v.2.2.2.2 0) ((24 + (5 * (v.2.2.1))) + 1).toNatClampNeg ((v.1) - (v.1) / r3 * r3))))] H := hP
    replace hD : va_D A [oX7 h_t q_t (d_t.1), ((q_t 0), .inl (cs 0, 106, .inl (upd (v.2.2.2.2 0) ((24 + (5 * (v.2.2.1))) + 1).toNatClampNeg ((v.1) - (v.1) / r3 * r3))))] := hD
    obtain ⟨hz, hf⟩ := chz_some hf
    refine lv_idiv hx hb dX7_putAll_42 hz ?_
    refine lv_istore_n (lv' := [(2, .int ((v.1) / r5)), (0, .ref h_t), (3, .int (v.2.1)), (4, .int (v.2.2.1))]) hx hb dX7_putAll_43 rfl hl (by decide) rfl (fun ls hl => ?_)
    refine lv_iload hx hb dX7_putAll_44 (lv_at hl 3 rfl) ?_
    refine lv_iconst (v := 1) hx hb dX7_putAll_46 rfl ?_
    refine lv_iadd hx hb dX7_putAll_47 ?_
    refine lv_istore (lv' := [(5, .int ((v.2.2.1) + 1)), (2, .int ((v.1) / r5)), (0, .ref h_t), (3, .int (v.2.1)), (4, .int (v.2.2.1))]) hx hb dX7_putAll_48 hl (by decide) rfl (fun ls hl => ?_)
    refine mX7_putAll_B50 h_t q_t k ((v.1) / r5) (v.2.2.1) (d_t.1, (va_up d_t.2 0 (upd (v.2.2.2.2 0) ((24 + (5 * (v.2.2.1))) + 1).toNatClampNeg ((v.1) - (v.1) / r3 * r3)))) _ M hA hR (fun w7 hf H locs ls hP hD hS hl => ?_) _ _ hf _ _ _ hP hD hS (lv_sub hl [2, 1, 3, 4, 0] rfl)
    · refine lv_iinc (v := ((v.2.2.1) + (-1))) (lv' := [(4, .int ((v.2.2.1) + (-1))), (0, .ref h_t), (2, .int ((v.1) / r5)), (3, .int w7)]) hx hb dX7_putAll_92 hl (k := 3) rfl rfl (by decide) rfl (fun ls hl => ?_)
      refine lv_goto (tgt := 12) hx hb dX7_putAll_95 (by decide) ?_
      exact ih _ hf _ _ _ hP hD hS (lv_sub hl [1, 2, 3, 0] rfl)
set_option maxHeartbeats 4000000 in
set_option maxRecDepth 100000 in
theorem mX7_putAll (l : Launch) (D : va_G) (cs : Nat → ClassId) (sk : Nat → Nat) (h_t : Nat) (q_t : Nat → Nat) (k : Nat) (d_t : Dat) (x1 : Int32) {rv : Int32 × Dat} (hf : fX7_putAll k d_t x1 = some rv) : CTi l yX7_putAll (Cond.code yX7_putAll cX7_putAll 6 (some .boolean) :: gtbl) rm_X7_putAll D cs sk [.ref h_t, .int x1] [oX7 h_t q_t (d_t.1), ((q_t 0), .inl (cs 0, 106, .inl (d_t.2 0)))] (rv.1) [oX7 h_t q_t (d_t.1), ((q_t 0), .inl (cs 0, 106, .inl (rv.2.2 0)))] := by
  refine CTi.ofZ RX7 (by decide +kernel) rfl (Nat.le_of_ble_eq_true rfl) (fun p e s m args below meth c A Q ls M hA hR hl hP hD hS => ?_)
  obtain ⟨hx, hb, hml, hT, hown, hlk, hrt, hK, hN, hSE⟩ := id M
  replace hl : lv_has ls 6 [(0, .ref h_t), (1, .int x1)] := hl
  unfold fX7_putAll at hf
  refine lv_iload_n hx hb dX7_putAll_0 rfl (lv_at hl 1 rfl) ?_
  refine lv_istore_n (lv' := [(2, .int x1), (0, .ref h_t), (1, .int x1)]) hx hb dX7_putAll_1 rfl hl (by decide) rfl (fun ls hl => ?_)
  refine lv_iconst (v := 1) hx hb dX7_putAll_2 rfl ?_
  refine lv_istore_n (lv' := [(3, .int 1), (2, .int x1), (0, .ref h_t), (1, .int x1)]) hx hb dX7_putAll_3 rfl hl (by decide) rfl (fun ls hl => ?_)
  refine lv_aload_n hx hb dX7_putAll_4 rfl (lv_at hl 2 rfl) ?_
  obtain ⟨r1, e2, hf⟩ := bind_some hf
  refine callVi (As := []) (rest := []) M (mX7_players l D cs sk h_t q_t k d_t e2) mw_X7_67 ln_X7_players ⟨rfl, rfl, Nat.le_of_ble_eq_true rfl, Nat.le_of_ble_eq_true rfl⟩ hP hD hS hA [0, 1] (by decide) rfl rfl (q0 := 0) rfl rfl rfl ⟨Nat.zero_le _, Nat.zero_le _⟩ hl.1 rfl (Nat.le_of_ble_eq_true rfl) dX7_putAll_5 (fun H locs hP hD hS => ?_)
  replace hP : va_P D vwCl [oX7 h_t q_t (d_t.1), ((q_t 0), .inl (cs 0, 106, .inl (d_t.2 0)))] H := hP
  replace hD : va_D A [oX7 h_t q_t (d_t.1), ((q_t 0), .inl (cs 0, 106, .inl (d_t.2 0)))] := hD
  refine lv_iconst (v := 1) hx hb dX7_putAll_8 rfl ?_
  refine lv_isub hx hb dX7_putAll_9 ?_
  refine lv_istore (lv' := [(4, .int (r1 - 1)), (3, .int 1), (2, .int x1), (0, .ref h_t), (1, .int x1)]) hx hb dX7_putAll_10 hl (by decide) rfl (fun ls hl => ?_)
  refine mX7_putAll_B12 h_t q_t k d_t _ M hA hR (fun w3 hf H locs ls hP hD hS hl => ?_) _ _ hf _ _ _ hP hD hS (lv_sub hl [3, 2, 1, 0] rfl)
  · refine lv_iload_n hx hb dX7_putAll_98 rfl (lv_at hl 0 rfl) ?_
    obtain ⟨h01, hf⟩ := chb_some hf
    have e9 := Option.some.inj hf
    subst e9
    exact hR _ _ _ _ dX7_putAll_99 h01 hP hS
abbrev rm_X7_leastLoud : Room := { frames := 2, cells := 0, slots := 0, locals := 43 }
def fX7_leastLoud_B15 (k : Nat) (x2 : Int32) (d_t : Dat) (K94 : Int32 → Option (Int32)) (rec : Int32 × Int32 → Option (Int32)) (v : Int32 × Int32) : Option (Int32) :=
  (fX7_ears k d_t).bind (fun (r1 : Int32) => (if r1 ≤ (v.2) then K94 (v.1) else (fX7_of k d_t x2 0).bind (fun (r5 : Int32) => (if r5 = 5 then K94 (v.1) else (fX7_of k d_t x2 2).bind (fun (r9 : Int32) => (fX7_of k d_t x2 1).bind (fun (r11 : Int32) => (fX7_paces k d_t (0 + (2 * r11)) (12 + (2 * (v.2)))).bind (fun (r13 : Int32) => (if 0 ≤ (r9 - r13) then (if (v.1) ≤ (r9 - r13) then rec ((v.1), ((v.2) + 1)) else rec ((r9 - r13), ((v.2) + 1))) else (if (v.1) ≤ (0 : Int32) then rec ((v.1), ((v.2) + 1)) else rec (0, ((v.2) + 1)))))))))))
def fX7_leastLoud_B5 (k : Nat) (d_t : Dat) (K100 : Int32 → Option (Int32)) (rec : Int32 × Int32 → Option (Int32)) (v : Int32 × Int32) : Option (Int32) :=
  (fX7_players k d_t).bind (fun (r1 : Int32) => (if r1 ≤ (v.2) then K100 (v.1) else lp (fX7_leastLoud_B15 k (v.2) d_t (fun (w5 : Int32) => rec (w5, ((v.2) + 1)))) k ((v.1), 0)))
def fX7_leastLoud (k : Nat) (d_t : Dat) : Option (Int32) :=
  lp (fX7_leastLoud_B5 k d_t (fun (w1 : Int32) => some w1)) k (1000000, 0)
set_option maxHeartbeats 4000000 in
set_option maxRecDepth 100000 in
theorem mX7_leastLoud_B15 {l : Launch} {p : Program} {e : Env} {s : State} {m : MethodId} {args : Array Value} {below : List Frame} {meth : Method} {c : Code} {D : va_G} {cs : Nat → ClassId} {sk : Nat → Nat} {A : Nat → Prop} {Q : State → Prop} (h_t : Nat) (q_t : Nat → Nat) (k : Nat) (x2 : Int32) (d_t : Dat) {rv : Int32}  (K94 : Int32 → Option (Int32))
    (M : MC p s m args meth c D cs sk A RX7 cX7_leastLoud 5 (some .int)) (hA : ∀ q, s.heap.size ≤ q → A q) (hR : RetI p l e rm_X7_leastLoud s m args below meth c D cX7_leastLoud A Q (rv) [oX7 h_t q_t (d_t.1), ((q_t 0), .inl (cs 0, 106, .inl (d_t.2 0)))])
    (hK94 : ∀ (w : Int32), K94 w = some rv → ∀ (H : Heap) (locs : List Loc) (ls : Array Slot), va_P D vwCl [oX7 h_t q_t (d_t.1), ((q_t 0), .inl (cs 0, 106, .inl (d_t.2 0)))] H → va_D A [oX7 h_t q_t (d_t.1), ((q_t 0), .inl (cs 0, 106, .inl (d_t.2 0)))] → va_S A s.heap H locs → lv_has ls 5 [(0, .ref h_t), (1, .int w), (2, .int x2)] → W p l e rm_X7_leastLoud s m args below meth c H locs 0 0 Q (F0 m 94 ls []))
    : ∀ (n : Nat) (v : Int32 × Int32), lp (fX7_leastLoud_B15 k x2 d_t K94) n v = some rv → ∀ (H : Heap) (locs : List Loc) (ls : Array Slot), va_P D vwCl [oX7 h_t q_t (d_t.1), ((q_t 0), .inl (cs 0, 106, .inl (d_t.2 0)))] H → va_D A [oX7 h_t q_t (d_t.1), ((q_t 0), .inl (cs 0, 106, .inl (d_t.2 0)))] → va_S A s.heap H locs → lv_has ls 5 [(0, .ref h_t), (1, .int (v.1)), (2, .int x2), (3, .int (v.2))] → W p l e rm_X7_leastLoud s m args below meth c H locs 0 0 Q (F0 m 15 ls []) := by
  obtain ⟨hx, hb, hml, hT, hown, hlk, hrt, hK, hN, hSE⟩ := id M
  refine lp_ind (fun rec ih v hf H locs ls hP hD hS hl => ?_)
  unfold fX7_leastLoud_B15 at hf
  refine lv_iload_n hx hb dX7_leastLoud_15 rfl (lv_at hl 3 rfl) ?_
  refine lv_aload_n hx hb dX7_leastLoud_16 rfl (lv_at hl 0 rfl) ?_
  obtain ⟨r1, e2, hf⟩ := bind_some hf
  refine callVi (As := []) (rest := [.int (v.2)]) M (mX7_ears l D cs sk h_t q_t k d_t e2) mw_X7_64 ln_X7_ears ⟨rfl, rfl, Nat.le_of_ble_eq_true rfl, Nat.le_of_ble_eq_true rfl⟩ hP hD hS hA [0, 1] (by decide) rfl rfl (q0 := 0) rfl rfl rfl ⟨Nat.zero_le _, Nat.zero_le _⟩ hl.1 rfl (Nat.le_of_ble_eq_true rfl) dX7_leastLoud_17 (fun H locs hP hD hS => ?_)
  replace hP : va_P D vwCl [oX7 h_t q_t (d_t.1), ((q_t 0), .inl (cs 0, 106, .inl (d_t.2 0)))] H := hP
  replace hD : va_D A [oX7 h_t q_t (d_t.1), ((q_t 0), .inl (cs 0, 106, .inl (d_t.2 0)))] := hD
  have g4 := ite_some hf
  refine lv_icmp_ge (tgt := 94) hx hb dX7_leastLoud_20 (by decide) (fun c3 => ?_) (fun c3 => ?_)
  · replace hf := g4.1 c3
    exact hK94 _ hf _ _ _ hP hD hS (lv_sub hl [0, 1, 2] rfl)
  · replace hf := g4.2 c3
    refine lv_aload_n hx hb dX7_leastLoud_23 rfl (lv_at hl 0 rfl) ?_
    refine lv_iload_n hx hb dX7_leastLoud_24 rfl (lv_at hl 2 rfl) ?_
    refine lv_iconst (v := 0) hx hb dX7_leastLoud_25 rfl ?_
    obtain ⟨r5, e6, hf⟩ := bind_some hf
    refine callVi (As := [.int x2, .int 0]) (rest := []) M (mX7_of l D cs sk h_t q_t k d_t x2 0 e6) mw_X7_94 ln_X7_of ⟨rfl, rfl, Nat.le_of_ble_eq_true rfl, Nat.le_of_ble_eq_true rfl⟩ hP hD hS hA [0, 1] (by decide) rfl rfl (q0 := 0) rfl rfl rfl ⟨Nat.zero_le _, Nat.zero_le _⟩ hl.1 rfl (Nat.le_of_ble_eq_true rfl) dX7_leastLoud_26 (fun H locs hP hD hS => ?_)
    replace hP : va_P D vwCl [oX7 h_t q_t (d_t.1), ((q_t 0), .inl (cs 0, 106, .inl (d_t.2 0)))] H := hP
    replace hD : va_D A [oX7 h_t q_t (d_t.1), ((q_t 0), .inl (cs 0, 106, .inl (d_t.2 0)))] := hD
    refine lv_iconst (v := 5) hx hb dX7_leastLoud_29 rfl ?_
    have g8 := ite_some hf
    refine lv_icmp_eq (tgt := 94) hx hb dX7_leastLoud_30 (by decide) (fun c7 => ?_) (fun c7 => ?_)
    · replace hf := g8.1 c7
      exact hK94 _ hf _ _ _ hP hD hS (lv_sub hl [0, 1, 2] rfl)
    · replace hf := g8.2 c7
      refine lv_aload_n hx hb dX7_leastLoud_33 rfl (lv_at hl 0 rfl) ?_
      refine lv_iload_n hx hb dX7_leastLoud_34 rfl (lv_at hl 2 rfl) ?_
      refine lv_iconst (v := 2) hx hb dX7_leastLoud_35 rfl ?_
      obtain ⟨r9, e10, hf⟩ := bind_some hf
      refine callVi (As := [.int x2, .int 2]) (rest := []) M (mX7_of l D cs sk h_t q_t k d_t x2 2 e10) mw_X7_94 ln_X7_of ⟨rfl, rfl, Nat.le_of_ble_eq_true rfl, Nat.le_of_ble_eq_true rfl⟩ hP hD hS hA [0, 1] (by decide) rfl rfl (q0 := 0) rfl rfl rfl ⟨Nat.zero_le _, Nat.zero_le _⟩ hl.1 rfl (Nat.le_of_ble_eq_true rfl) dX7_leastLoud_36 (fun H locs hP hD hS => ?_)
      replace hP : va_P D vwCl [oX7 h_t q_t (d_t.1), ((q_t 0), .inl (cs 0, 106, .inl (d_t.2 0)))] H := hP
      replace hD : va_D A [oX7 h_t q_t (d_t.1), ((q_t 0), .inl (cs 0, 106, .inl (d_t.2 0)))] := hD
      refine lv_aload_n hx hb dX7_leastLoud_39 rfl (lv_at hl 0 rfl) ?_
      refine lv_iconst (v := 0) hx hb dX7_leastLoud_40 rfl ?_
      refine lv_iconst (v := 2) hx hb dX7_leastLoud_41 rfl ?_
      refine lv_aload_n hx hb dX7_leastLoud_42 rfl (lv_at hl 0 rfl) ?_
      refine lv_iload_n hx hb dX7_leastLoud_43 rfl (lv_at hl 2 rfl) ?_
      refine lv_iconst (v := 1) hx hb dX7_leastLoud_44 rfl ?_
      obtain ⟨r11, e12, hf⟩ := bind_some hf
      refine callVi (As := [.int x2, .int 1]) (rest := [.int 2, .int 0, .ref h_t, .int r9]) M (mX7_of l D cs sk h_t q_t k d_t x2 1 e12) mw_X7_94 ln_X7_of ⟨rfl, rfl, Nat.le_of_ble_eq_true rfl, Nat.le_of_ble_eq_true rfl⟩ hP hD hS hA [0, 1] (by decide) rfl rfl (q0 := 0) rfl rfl rfl ⟨Nat.zero_le _, Nat.zero_le _⟩ hl.1 rfl (Nat.le_of_ble_eq_true rfl) dX7_leastLoud_45 (fun H locs hP hD hS => ?_)
      replace hP : va_P D vwCl [oX7 h_t q_t (d_t.1), ((q_t 0), .inl (cs 0, 106, .inl (d_t.2 0)))] H := hP
      replace hD : va_D A [oX7 h_t q_t (d_t.1), ((q_t 0), .inl (cs 0, 106, .inl (d_t.2 0)))] := hD
      refine lv_imul hx hb dX7_leastLoud_48 ?_
      refine lv_iadd hx hb dX7_leastLoud_49 ?_
      refine lv_bipush (v := 12) hx hb dX7_leastLoud_50 rfl ?_
      refine lv_iconst (v := 2) hx hb dX7_leastLoud_52 rfl ?_
      refine lv_iload_n hx hb dX7_leastLoud_53 rfl (lv_at hl 3 rfl) ?_
      refine lv_imul hx hb dX7_leastLoud_54 ?_
      refine lv_iadd hx hb dX7_leastLoud_55 ?_
      obtain ⟨r13, e14, hf⟩ := bind_some hf
      refine callVi (As := [.int (0 + (2 * r11)), .int (12 + (2 * (v.2)))]) (rest := [.int r9]) M (mX7_paces l D cs sk h_t q_t k d_t (0 + (2 * r11)) (12 + (2 * (v.2))) e14) mw_X7_130 ln_X7_paces ⟨rfl, rfl, Nat.le_of_ble_eq_true rfl, Nat.le_of_ble_eq_true rfl⟩ hP hD hS hA [0, 1] (by decide) rfl rfl (q0 := 0) rfl rfl rfl ⟨Nat.zero_le _, Nat.zero_le _⟩ hl.1 rfl (Nat.le_of_ble_eq_true rfl) dX7_leastLoud_56 (fun H locs hP hD hS => ?_)
      replace hP : va_P D vwCl [oX7 h_t q_t (d_t.1), ((q_t 0), .inl (cs 0, 106, .inl (d_t.2 0)))] H := hP
      replace hD : va_D A [oX7 h_t q_t (d_t.1), ((q_t 0), .inl (cs 0, 106, .inl (d_t.2 0)))] := hD
      refine lv_isub hx hb dX7_leastLoud_59 ?_
      refine lv_istore (lv' := [(4, .int (r9 - r13)), (0, .ref h_t), (1, .int (v.1)), (2, .int x2), (3, .int (v.2))]) hx hb dX7_leastLoud_60 hl (by decide) rfl (fun ls hl => ?_)
      refine lv_iload hx hb dX7_leastLoud_62 (lv_at hl 0 rfl) ?_
      have g16 := ite_some hf
      refine lv_if_ge (tgt := 71) hx hb dX7_leastLoud_64 (by decide) (fun c15 => ?_) (fun c15 => ?_)
      · replace hf := g16.1 c15
        refine lv_iload hx hb dX7_leastLoud_71 (lv_at hl 0 rfl) ?_
        refine lv_istore (lv' := [(4, .int (r9 - r13)), (0, .ref h_t), (1, .int (v.1)), (2, .int x2), (3, .int (v.2))]) hx hb dX7_leastLoud_73 hl (by decide) rfl (fun ls hl => ?_)
        refine lv_iload hx hb dX7_leastLoud_75 (lv_at hl 0 rfl) ?_
        refine lv_iload_n hx hb dX7_leastLoud_77 rfl (lv_at hl 2 rfl) ?_
        have g18 := ite_some hf
        refine lv_icmp_ge (tgt := 86) hx hb dX7_leastLoud_78 (by decide) (fun c17 => ?_) (fun c17 => ?_)
        · replace hf := g18.1 c17
          refine lv_iload_n hx hb dX7_leastLoud_86 rfl (lv_at hl 2 rfl) ?_
          refine lv_istore_n (lv' := [(1, .int (v.1)), (4, .int (r9 - r13)), (0, .ref h_t), (2, .int x2), (3, .int (v.2))]) hx hb dX7_leastLoud_87 rfl hl (by decide) rfl (fun ls hl => ?_)
          refine lv_iinc (v := ((v.2) + 1)) (lv' := [(3, .int ((v.2) + 1)), (1, .int (v.1)), (4, .int (r9 - r13)), (0, .ref h_t), (2, .int x2)]) hx hb dX7_leastLoud_88 hl (k := 4) rfl rfl (by decide) rfl (fun ls hl => ?_)
          refine lv_goto (tgt := 15) hx hb dX7_leastLoud_91 (by decide) ?_
          exact ih _ hf _ _ _ hP hD hS (lv_sub hl [3, 1, 4, 0] rfl)
        · replace hf := g18.2 c17
          refine lv_iload hx hb dX7_leastLoud_81 (lv_at hl 0 rfl) ?_
          refine lv_goto (tgt := 87) hx hb dX7_leastLoud_83 (by decide) ?_
          refine lv_istore_n (lv' := [(1, .int (r9 - r13)), (4, .int (r9 - r13)), (0, .ref h_t), (2, .int x2), (3, .int (v.2))]) hx hb dX7_leastLoud_87 rfl hl (by decide) rfl (fun ls hl => ?_)
          refine lv_iinc (v := ((v.2) + 1)) (lv' := [(3, .int ((v.2) + 1)), (1, .int (r9 - r13)), (4, .int (r9 - r13)), (0, .ref h_t), (2, .int x2)]) hx hb dX7_leastLoud_88 hl (k := 4) rfl rfl (by decide) rfl (fun ls hl => ?_)
          refine lv_goto (tgt := 15) hx hb dX7_leastLoud_91 (by decide) ?_
          exact ih _ hf _ _ _ hP hD hS (lv_sub hl [3, 1, 4, 0] rfl)
      · replace hf := g16.2 c15
        refine lv_iconst (v := 0) hx hb dX7_leastLoud_67 rfl ?_
        refine lv_goto (tgt := 73) hx hb dX7_leastLoud_68 (by decide) ?_
        refine lv_istore (lv' := [(4, .int 0), (0, .ref h_t), (1, .int (v.1)), (2, .int x2), (3, .int (v.2))]) hx hb dX7_leastLoud_73 hl (by decide) rfl (fun ls hl => ?_)
        refine lv_iload hx hb dX7_leastLoud_75 (lv_at hl 0 rfl) ?_
        refine lv_iload_n hx hb dX7_leastLoud_77 rfl (lv_at hl 2 rfl) ?_
        have g20 := ite_some hf
        refine lv_icmp_ge (tgt := 86) hx hb dX7_leastLoud_78 (by decide) (fun c19 => ?_) (fun c19 => ?_)
        · replace hf := g20.1 c19
          refine lv_iload_n hx hb dX7_leastLoud_86 rfl (lv_at hl 2 rfl) ?_
          refine lv_istore_n (lv' := [(1, .int (v.1)), (4, .int 0), (0, .ref h_t), (2, .int x2), (3, .int (v.2))]) hx hb dX7_leastLoud_87 rfl hl (by decide) rfl (fun ls hl => ?_)
          refine lv_iinc (v := ((v.2) + 1)) (lv' := [(3, .int ((v.2) + 1)), (1, .int (v.1)), (4, .int 0), (0, .ref h_t), (2, .int x2)]) hx hb dX7_leastLoud_88 hl (k := 4) rfl rfl (by decide) rfl (fun ls hl => ?_)
          refine lv_goto (tgt := 15) hx hb dX7_leastLoud_91 (by decide) ?_
          exact ih _ hf _ _ _ hP hD hS (lv_sub hl [3, 1, 4, 0] rfl)
        · replace hf := g20.2 c19
          refine lv_iload hx hb dX7_leastLoud_81 (lv_at hl 0 rfl) ?_
          refine lv_goto (tgt := 87) hx hb dX7_leastLoud_83 (by decide) ?_
          refine lv_istore_n (lv' := [(1, .int 0), (4, .int 0), (0, .ref h_t), (2, .int x2), (3, .int (v.2))]) hx hb dX7_leastLoud_87 rfl hl (by decide) rfl (fun ls hl => ?_)
          refine lv_iinc (v := ((v.2) + 1)) (lv' := [(3, .int ((v.2) + 1)), (1, .int 0), (4, .int 0), (0, .ref h_t), (2, .int x2)]) hx hb dX7_leastLoud_88 hl (k := 4) rfl rfl (by decide) rfl (fun ls hl => ?_)
          refine lv_goto (tgt := 15) hx hb dX7_leastLoud_91 (by decide) ?_
          exact ih _ hf _ _ _ hP hD hS (lv_sub hl [3, 1, 4, 0] rfl)
set_option maxHeartbeats 4000000 in
set_option maxRecDepth 100000 in
theorem mX7_leastLoud_B5 {l : Launch} {p : Program} {e : Env} {s : State} {m : MethodId} {args : Array Value} {below : List Frame} {meth : Method} {c : Code} {D : va_G} {cs : Nat → ClassId} {sk : Nat → Nat} {A : Nat → Prop} {Q : State → Prop} (h_t : Nat) (q_t : Nat → Nat) (k : Nat) (d_t : Dat) {rv : Int32}  (K100 : Int32 → Option (Int32))
    (M : MC p s m args meth c D cs sk A RX7 cX7_leastLoud 5 (some .int)) (hA : ∀ q, s.heap.size ≤ q → A q) (hR : RetI p l e rm_X7_leastLoud s m args below meth c D cX7_leastLoud A Q (rv) [oX7 h_t q_t (d_t.1), ((q_t 0), .inl (cs 0, 106, .inl (d_t.2 0)))])
    (hK100 : ∀ (w : Int32), K100 w = some rv → ∀ (H : Heap) (locs : List Loc) (ls : Array Slot), va_P D vwCl [oX7 h_t q_t (d_t.1), ((q_t 0), .inl (cs 0, 106, .inl (d_t.2 0)))] H → va_D A [oX7 h_t q_t (d_t.1), ((q_t 0), .inl (cs 0, 106, .inl (d_t.2 0)))] → va_S A s.heap H locs → lv_has ls 5 [(1, .int w)] → W p l e rm_X7_leastLoud s m args below meth c H locs 0 0 Q (F0 m 100 ls []))
    : ∀ (n : Nat) (v : Int32 × Int32), lp (fX7_leastLoud_B5 k d_t K100) n v = some rv → ∀ (H : Heap) (locs : List Loc) (ls : Array Slot), va_P D vwCl [oX7 h_t q_t (d_t.1), ((q_t 0), .inl (cs 0, 106, .inl (d_t.2 0)))] H → va_D A [oX7 h_t q_t (d_t.1), ((q_t 0), .inl (cs 0, 106, .inl (d_t.2 0)))] → va_S A s.heap H locs → lv_has ls 5 [(0, .ref h_t), (1, .int (v.1)), (2, .int (v.2))] → W p l e rm_X7_leastLoud s m args below meth c H locs 0 0 Q (F0 m 5 ls []) := by
  obtain ⟨hx, hb, hml, hT, hown, hlk, hrt, hK, hN, hSE⟩ := id M
  refine lp_ind (fun rec ih v hf H locs ls hP hD hS hl => ?_)
  unfold fX7_leastLoud_B5 at hf
  refine lv_iload_n hx hb dX7_leastLoud_5 rfl (lv_at hl 2 rfl) ?_
  refine lv_aload_n hx hb dX7_leastLoud_6 rfl (lv_at hl 0 rfl) ?_
  obtain ⟨r1, e2, hf⟩ := bind_some hf
  refine callVi (As := []) (rest := [.int (v.2)]) M (mX7_players l D cs sk h_t q_t k d_t e2) mw_X7_67 ln_X7_players ⟨rfl, rfl, Nat.le_of_ble_eq_true rfl, Nat.le_of_ble_eq_true rfl⟩ hP hD hS hA [0, 1] (by decide) rfl rfl (q0 := 0) rfl rfl rfl ⟨Nat.zero_le _, Nat.zero_le _⟩ hl.1 rfl (Nat.le_of_ble_eq_true rfl) dX7_leastLoud_7 (fun H locs hP hD hS => ?_)
  replace hP : va_P D vwCl [oX7 h_t q_t (d_t.1), ((q_t 0), .inl (cs 0, 106, .inl (d_t.2 0)))] H := hP
  replace hD : va_D A [oX7 h_t q_t (d_t.1), ((q_t 0), .inl (cs 0, 106, .inl (d_t.2 0)))] := hD
  have g4 := ite_some hf
  refine lv_icmp_ge (tgt := 100) hx hb dX7_leastLoud_10 (by decide) (fun c3 => ?_) (fun c3 => ?_)
  · replace hf := g4.1 c3
    exact hK100 _ hf _ _ _ hP hD hS (lv_sub hl [1] rfl)
  · replace hf := g4.2 c3
    refine lv_iconst (v := 0) hx hb dX7_leastLoud_13 rfl ?_
    refine lv_istore_n (lv' := [(3, .int 0), (0, .ref h_t), (1, .int (v.1)), (2, .int (v.2))]) hx hb dX7_leastLoud_14 rfl hl (by decide) rfl (fun ls hl => ?_)
    refine mX7_leastLoud_B15 h_t q_t k (v.2) d_t _ M hA hR (fun w5 hf H locs ls hP hD hS hl => ?_) _ _ hf _ _ _ hP hD hS (lv_sub hl [1, 2, 3, 0] rfl)
    · refine lv_iinc (v := ((v.2) + 1)) (lv' := [(2, .int ((v.2) + 1)), (0, .ref h_t), (1, .int w5)]) hx hb dX7_leastLoud_94 hl (k := 2) rfl rfl (by decide) rfl (fun ls hl => ?_)
      refine lv_goto (tgt := 5) hx hb dX7_leastLoud_97 (by decide) ?_
      exact ih _ hf _ _ _ hP hD hS (lv_sub hl [1, 2, 0] rfl)
set_option maxHeartbeats 4000000 in
set_option maxRecDepth 100000 in
theorem mX7_leastLoud (l : Launch) (D : va_G) (cs : Nat → ClassId) (sk : Nat → Nat) (h_t : Nat) (q_t : Nat → Nat) (k : Nat) (d_t : Dat) {rv : Int32} (hf : fX7_leastLoud k d_t = some rv) : CTi l yX7_leastLoud (Cond.code yX7_leastLoud cX7_leastLoud 5 (some .int) :: gtbl) rm_X7_leastLoud D cs sk [.ref h_t] [oX7 h_t q_t (d_t.1), ((q_t 0), .inl (cs 0, 106, .inl (d_t.2 0)))] (rv) [oX7 h_t q_t (d_t.1), ((q_t 0), .inl (cs 0, 106, .inl (d_t.2 0)))] := by
  refine CTi.of RX7 (by decide +kernel) rfl (Nat.le_of_ble_eq_true rfl) (fun p e s m args below meth c A Q ls M hA hR hl hP hD hS => ?_)
  obtain ⟨hx, hb, hml, hT, hown, hlk, hrt, hK, hN, hSE⟩ := id M
  replace hl : lv_has ls 5 [(0, .ref h_t)] := hl
  unfold fX7_leastLoud at hf
  refine lv_ldc (v := 1000000) hx hb hown (hT _ kw_X7_165) dX7_leastLoud_0 ?_
  refine lv_istore_n (lv' := [(1, .int 1000000), (0, .ref h_t)]) hx hb dX7_leastLoud_2 rfl hl (by decide) rfl (fun ls hl => ?_)
  refine lv_iconst (v := 0) hx hb dX7_leastLoud_3 rfl ?_
  refine lv_istore_n (lv' := [(2, .int 0), (1, .int 1000000), (0, .ref h_t)]) hx hb dX7_leastLoud_4 rfl hl (by decide) rfl (fun ls hl => ?_)
  refine mX7_leastLoud_B5 h_t q_t k d_t _ M hA hR (fun w1 hf H locs ls hP hD hS hl => ?_) _ _ hf _ _ _ hP hD hS (lv_sub hl [2, 1, 0] rfl)
  · refine lv_iload_n hx hb dX7_leastLoud_100 rfl (lv_at hl 0 rfl) ?_
    have e9 := Option.some.inj hf
    subst e9
    exact hR _ _ _ _ dX7_leastLoud_101 hP hS
abbrev rm_X7_findBest : Room := { frames := 6, cells := 0, slots := 0, locals := 140 }
def fX7_findBest_B2 (k : Nat) (d_t : Dat) (K28 : Dat → Option (Dat)) (rec : Int32 × Dat → Option (Dat)) (v : Int32 × Dat) : Option (Dat) :=
  (fX7_players k (d_t.1, (va_up d_t.2 13 (v.2.2 13)))).bind (fun (r1 : Int32) => (if r1 ≤ (v.1) then K28 (d_t.1, (va_up d_t.2 13 (v.2.2 13))) else (fX7_of k (d_t.1, (va_up d_t.2 13 (v.2.2 13))) (v.1) 1).bind (fun (r5 : Int32) => chk 6 (v.1) (rec (((v.1) + 1), (d_t.1, (va_up d_t.2 13 (upd (v.2.2 13) (v.1).toNatClampNeg r5))))))))
def fX7_findBest_B32 (k : Nat) (d_t : Dat) (K53 : Int32 → Option (Dat)) (rec : Int32 × Int32 → Option (Dat)) (v : Int32 × Int32) : Option (Dat) :=
  (fX7_players k d_t).bind (fun (r1 : Int32) => (if r1 ≤ (v.2) then K53 (v.1) else (fX7_windows k d_t).bind (fun (r5 : Int32) => rec (((v.1) * r5), ((v.2) + 1)))))
def fX7_findBest_B87 (k : Nat) (d_t : Dat) (K113 : Int32 × Dat → Option (Dat)) (rec : Int32 × Int32 × Dat → Option (Dat)) (v : Int32 × Int32 × Dat) : Option (Dat) :=
  (fX7_ears k (v.2.2.1, (va_up (va_up (va_up d_t.2 4 (v.2.2.2 4)) 5 (v.2.2.2 5)) 6 (v.2.2.2 6)))).bind (fun (r1 : Int32) => (if r1 ≤ (v.2.1) then K113 ((v.1), (v.2.2.1, (va_up (va_up (va_up d_t.2 4 (v.2.2.2 4)) 5 (v.2.2.2 5)) 6 (v.2.2.2 6)))) else (fX7_spreadOf k (v.2.2.1, (va_up (va_up (va_up d_t.2 4 (v.2.2.2 4)) 5 (v.2.2.2 5)) 6 (v.2.2.2 6))) (v.2.1)).bind (fun (r5 : Int32 × Dat) => rec (((v.1) + (r5.1)), ((v.2.1) + 1), (r5.2.1, (va_up (va_up (va_up d_t.2 4 (r5.2.2 4)) 5 (r5.2.2 5)) 6 (r5.2.2 6)))))))
def fX7_findBest_B140 (k : Nat) (d_t : Dat) (K169 : Dat → Option (Dat)) (rec : Int32 × Dat → Option (Dat)) (v : Int32 × Dat) : Option (Dat) :=
  (fX7_players k (d_t.1, (va_up d_t.2 14 (v.2.2 14)))).bind (fun (r1 : Int32) => (if r1 ≤ (v.1) then K169 (d_t.1, (va_up d_t.2 14 (v.2.2 14))) else (fX7_of k (d_t.1, (va_up d_t.2 14 (v.2.2 14))) (v.1) 1).bind (fun (r5 : Int32) => chk 6 (v.1) (rec (((v.1) + 1), (d_t.1, (va_up d_t.2 14 (upd (v.2.2 14) (v.1).toNatClampNeg r5))))))))
def fX7_findBest_B60 (k : Nat) (x1 : Int32) (d_t : Dat) (K175 : Dat → Option (Dat)) (rec : Int32 × Int32 × Int32 × Dat → Option (Dat)) (v : Int32 × Int32 × Int32 × Dat) : Option (Dat) :=
  (if x1 ≤ (v.2.2.1) then K175 (v.2.2.2.1, (va_up (va_up (va_up (va_up (va_up d_t.2 0 (v.2.2.2.2 0)) 4 (v.2.2.2.2 4)) 5 (v.2.2.2.2 5)) 6 (v.2.2.2.2 6)) 14 (v.2.2.2.2 14))) else (fX7_putAll k (v.2.2.2.1, (va_up (va_up (va_up (va_up (va_up d_t.2 0 (v.2.2.2.2 0)) 4 (v.2.2.2.2 4)) 5 (v.2.2.2.2 5)) 6 (v.2.2.2.2 6)) 14 (v.2.2.2.2 14))) (v.2.2.1)).bind (fun (r3 : Int32 × Dat) => (if (r3.1) = 0 then rec ((v.1), (v.2.1), ((v.2.2.1) + 1), (v.2.2.2.1, (va_up (va_up (va_up (va_up (va_up d_t.2 0 (r3.2.2 0)) 4 (v.2.2.2.2 4)) 5 (v.2.2.2.2 5)) 6 (v.2.2.2.2 6)) 14 (v.2.2.2.2 14)))) else (fX7_leastLoud k (v.2.2.2.1, (va_up (va_up (va_up (va_up (va_up d_t.2 0 (r3.2.2 0)) 4 (v.2.2.2.2 4)) 5 (v.2.2.2.2 5)) 6 (v.2.2.2.2 6)) 14 (v.2.2.2.2 14)))).bind (fun (r7 : Int32) => lp (fX7_findBest_B87 k (v.2.2.2.1, (va_up (va_up (va_up (va_up (va_up d_t.2 0 (r3.2.2 0)) 4 (v.2.2.2.2 4)) 5 (v.2.2.2.2 5)) 6 (v.2.2.2.2 6)) 14 (v.2.2.2.2 14))) (fun (w9 : Int32 × Dat) => (if (v.1) < r7 then lp (fX7_findBest_B140 k (w9.2.1, (va_up (va_up (va_up (va_up (va_up d_t.2 0 (r3.2.2 0)) 4 (w9.2.2 4)) 5 (w9.2.2 5)) 6 (w9.2.2 6)) 14 (v.2.2.2.2 14))) (fun (w12 : Dat) => rec (r7, (w9.1), ((v.2.2.1) + 1), (w9.2.1, (va_up (va_up (va_up (va_up (va_up d_t.2 0 (r3.2.2 0)) 4 (w9.2.2 4)) 5 (w9.2.2 5)) 6 (w9.2.2 6)) 14 (w12.2 14)))))) k (0, (w9.2.1, (va_up (va_up (va_up (va_up (va_up d_t.2 0 (r3.2.2 0)) 4 (w9.2.2 4)) 5 (w9.2.2 5)) 6 (w9.2.2 6)) 14 (v.2.2.2.2 14)))) else (if r7 = (v.1) then (if (v.2.1) ≤ (w9.1) then rec ((v.1), (v.2.1), ((v.2.2.1) + 1), (w9.2.1, (va_up (va_up (va_up (va_up (va_up d_t.2 0 (r3.2.2 0)) 4 (w9.2.2 4)) 5 (w9.2.2 5)) 6 (w9.2.2 6)) 14 (v.2.2.2.2 14)))) else lp (fX7_findBest_B140 k (w9.2.1, (va_up (va_up (va_up (va_up (va_up d_t.2 0 (r3.2.2 0)) 4 (w9.2.2 4)) 5 (w9.2.2 5)) 6 (w9.2.2 6)) 14 (v.2.2.2.2 14))) (fun (w17 : Dat) => rec (r7, (w9.1), ((v.2.2.1) + 1), (w9.2.1, (va_up (va_up (va_up (va_up (va_up d_t.2 0 (r3.2.2 0)) 4 (w9.2.2 4)) 5 (w9.2.2 5)) 6 (w9.2.2 6)) 14 (w17.2 14)))))) k (0, (w9.2.1, (va_up (va_up (va_up (va_up (va_up d_t.2 0 (r3.2.2 0)) 4 (w9.2.2 4)) 5 (w9.2.2 5)) 6 (w9.2.2 6)) 14 (v.2.2.2.2 14))))) else rec ((v.1), (v.2.1), ((v.2.2.1) + 1), (w9.2.1, (va_up (va_up (va_up (va_up (va_up d_t.2 0 (r3.2.2 0)) 4 (w9.2.2 4)) 5 (w9.2.2 5)) 6 (w9.2.2 6)) 14 (v.2.2.2.2 14)))))))) k (0, 0, (v.2.2.2.1, (va_up (va_up (va_up (va_up (va_up d_t.2 0 (r3.2.2 0)) 4 (v.2.2.2.2 4)) 5 (v.2.2.2.2 5)) 6 (v.2.2.2.2 6)) 14 (v.2.2.2.2 14))))))))
def fX7_findBest_B178 (k : Nat) (d_t : Dat) (K214 : Dat → Option (Dat)) (rec : Int32 × Dat → Option (Dat)) (v : Int32 × Dat) : Option (Dat) :=
  (fX7_players k (d_t.1, (va_up d_t.2 0 (v.2.2 0)))).bind (fun (r1 : Int32) => (if r1 ≤ (v.1) then K214 (d_t.1, (va_up d_t.2 0 (v.2.2 0))) else chk 6 (v.1) (chk 106 ((24 + (5 * (v.1))) + 1) (rec (((v.1) + 1), (d_t.1, (va_up d_t.2 0 (upd (v.2.2 0) ((24 + (5 * (v.1))) + 1).toNatClampNeg ((d_t.2 13) (v.1).toNatClampNeg)))))))))
def fX7_findBest (k : Nat) (d_t : Dat) : Option (Dat) :=
  lp (fX7_findBest_B2 k d_t (fun (w1 : Dat) => lp (fX7_findBest_B32 k (d_t.1, (va_up d_t.2 13 (w1.2 13))) (fun (w2 : Int32) => lp (fX7_findBest_B60 k w2 (d_t.1, (va_up d_t.2 13 (w1.2 13))) (fun (w3 : Dat) => lp (fX7_findBest_B178 k (w3.1, (va_up (va_up (va_up (va_up (va_up (va_up d_t.2 0 (w3.2 0)) 4 (w3.2 4)) 5 (w3.2 5)) 6 (w3.2 6)) 13 (w1.2 13)) 14 (w3.2 14))) (fun (w4 : Dat) => some (w3.1, (va_up (va_up (va_up (va_up (va_up (va_up d_t.2 0 (w4.2 0)) 4 (w3.2 4)) 5 (w3.2 5)) 6 (w3.2 6)) 13 (w1.2 13)) 14 (w3.2 14))))) k (0, (w3.1, (va_up (va_up (va_up (va_up (va_up (va_up d_t.2 0 (w3.2 0)) 4 (w3.2 4)) 5 (w3.2 5)) 6 (w3.2 6)) 13 (w1.2 13)) 14 (w3.2 14)))))) k ((-1), 0, 0, (d_t.1, (va_up d_t.2 13 (w1.2 13)))))) k (1, 0))) k (0, d_t)
set_option maxHeartbeats 4000000 in
set_option maxRecDepth 100000 in
theorem mX7_findBest_B2 {l : Launch} {p : Program} {e : Env} {s : State} {m : MethodId} {args : Array Value} {below : List Frame} {meth : Method} {c : Code} {D : va_G} {cs : Nat → ClassId} {sk : Nat → Nat} {A : Nat → Prop} {Q : State → Prop} (h_t : Nat) (q_t : Nat → Nat) (k : Nat) (d_t : Dat) {rv : Dat}  (K28 : Dat → Option (Dat))
    (M : MC p s m args meth c D cs sk A RX7 cX7_findBest 8 none) (hA : ∀ q, s.heap.size ≤ q → A q) (hR : RetV p l e rm_X7_findBest s m args below meth c D cX7_findBest A Q [oX7 h_t q_t (rv.1), ((q_t 0), .inl (cs 0, 106, .inl (rv.2 0))), ((q_t 4), .inl (cs 0, 12, .inl (rv.2 4))), ((q_t 5), .inl (cs 0, 12, .inl (rv.2 5))), ((q_t 6), .inl (cs 0, 12, .inl (rv.2 6))), ((q_t 13), .inl (cs 0, 6, .inl (rv.2 13))), ((q_t 14), .inl (cs 0, 6, .inl (rv.2 14)))])
    (hK28 : ∀ (w : Dat), K28 w = some rv → ∀ (H : Heap) (locs : List Loc) (ls : Array Slot), va_P D vwCl [oX7 h_t q_t (d_t.1), ((q_t 0), .inl (cs 0, 106, .inl (d_t.2 0))), ((q_t 4), .inl (cs 0, 12, .inl (d_t.2 4))), ((q_t 5), .inl (cs 0, 12, .inl (d_t.2 5))), ((q_t 6), .inl (cs 0, 12, .inl (d_t.2 6))), ((q_t 13), .inl (cs 0, 6, .inl (w.2 13))), ((q_t 14), .inl (cs 0, 6, .inl (d_t.2 14)))] H → va_D A [oX7 h_t q_t (d_t.1), ((q_t 0), .inl (cs 0, 106, .inl (d_t.2 0))), ((q_t 4), .inl (cs 0, 12, .inl (d_t.2 4))), ((q_t 5), .inl (cs 0, 12, .inl (d_t.2 5))), ((q_t 6), .inl (cs 0, 12, .inl (d_t.2 6))), ((q_t 13), .inl (cs 0, 6, .inl (w.2 13))), ((q_t 14), .inl (cs 0, 6, .inl (d_t.2 14)))] → va_S A s.heap H locs → lv_has ls 8 [(0, .ref h_t)] → W p l e rm_X7_findBest s m args below meth c H locs 0 0 Q (F0 m 28 ls []))
    : ∀ (n : Nat) (v : Int32 × Dat), lp (fX7_findBest_B2 k d_t K28) n v = some rv → ∀ (H : Heap) (locs : List Loc) (ls : Array Slot), va_P D vwCl [oX7 h_t q_t (d_t.1), ((q_t 0), .inl (cs 0, 106, .inl (d_t.2 0))), ((q_t 4), .inl (cs 0, 12, .inl (d_t.2 4))), ((q_t 5), .inl (cs 0, 12, .inl (d_t.2 5))), ((q_t 6), .inl (cs 0, 12, .inl (d_t.2 6))), ((q_t 13), .inl (cs 0, 6, .inl (v.2.2 13))), ((q_t 14), .inl (cs 0, 6, .inl (d_t.2 14)))] H → va_D A [oX7 h_t q_t (d_t.1), ((q_t 0), .inl (cs 0, 106, .inl (d_t.2 0))), ((q_t 4), .inl (cs 0, 12, .inl (d_t.2 4))), ((q_t 5), .inl (cs 0, 12, .inl (d_t.2 5))), ((q_t 6), .inl (cs 0, 12, .inl (d_t.2 6))), ((q_t 13), .inl (cs 0, 6, .inl (v.2.2 13))), ((q_t 14), .inl (cs 0, 6, .inl (d_t.2 14)))] → va_S A s.heap H locs → lv_has ls 8 [(0, .ref h_t), (1, .int (v.1))] → W p l e rm_X7_findBest s m args below meth c H locs 0 0 Q (F0 m 2 ls []) := by
  obtain ⟨hx, hb, hml, hT, hown, hlk, hrt, hK, hN, hSE⟩ := id M
  refine lp_ind (fun rec ih v hf H locs ls hP hD hS hl => ?_)
  unfold fX7_findBest_B2 at hf
  refine lv_iload_n hx hb dX7_findBest_2 rfl (lv_at hl 1 rfl) ?_
  refine lv_aload_n hx hb dX7_findBest_3 rfl (lv_at hl 0 rfl) ?_
  obtain ⟨r1, e2, hf⟩ := bind_some hf
  refine callVi (As := []) (rest := [.int (v.1)]) M (mX7_players l D cs sk h_t q_t k (d_t.1, (va_up d_t.2 13 (v.2.2 13))) e2) mw_X7_67 ln_X7_players ⟨rfl, rfl, Nat.le_of_ble_eq_true rfl, Nat.le_of_ble_eq_true rfl⟩ hP hD hS hA [0, 1] (by decide) rfl rfl (q0 := 0) rfl rfl rfl ⟨Nat.zero_le _, Nat.zero_le _⟩ hl.1 rfl (Nat.le_of_ble_eq_true rfl) dX7_findBest_4 (fun H locs hP hD hS => ?_)
  replace hP : va_P D vwCl [oX7 h_t q_t (d_t.1), ((q_t 0), .inl (cs 0, 106, .inl (d_t.2 0))), ((q_t 4), .inl (cs 0, 12, .inl (d_t.2 4))), ((q_t 5), .inl (cs 0, 12, .inl (d_t.2 5))), ((q_t 6), .inl (cs 0, 12, .inl (d_t.2 6))), ((q_t 13), .inl (cs 0, 6, .inl (v.2.2 13))), ((q_t 14), .inl (cs 0, 6, .inl (d_t.2 14)))] H := hP
  replace hD : va_D A [oX7 h_t q_t (d_t.1), ((q_t 0), .inl (cs 0, 106, .inl (d_t.2 0))), ((q_t 4), .inl (cs 0, 12, .inl (d_t.2 4))), ((q_t 5), .inl (cs 0, 12, .inl (d_t.2 5))), ((q_t 6), .inl (cs 0, 12, .inl (d_t.2 6))), ((q_t 13), .inl (cs 0, 6, .inl (v.2.2 13))), ((q_t 14), .inl (cs 0, 6, .inl (d_t.2 14)))] := hD
  have g4 := ite_some hf
  refine lv_icmp_ge (tgt := 28) hx hb dX7_findBest_7 (by decide) (fun c3 => ?_) (fun c3 => ?_)
  · replace hf := g4.1 c3
    exact hK28 _ hf _ _ _ hP hD hS (lv_sub hl [0] rfl)
  · replace hf := g4.2 c3
    refine lv_aload_n hx hb dX7_findBest_10 rfl (lv_at hl 0 rfl) ?_
    refine va_get (D := D) (ci := 7) (v := .ref (q_t 13)) (C := RX7) (T := TX7) (N := 23) hx hb hT iX7 hown hK hP 0 rfl rfl 13 (by decide) (hT _ fw_X7_44) (fun _ h9 => h9) rfl dX7_findBest_11 ?_
    refine lv_iload_n hx hb dX7_findBest_14 rfl (lv_at hl 1 rfl) ?_
    refine lv_aload_n hx hb dX7_findBest_15 rfl (lv_at hl 0 rfl) ?_
    refine lv_iload_n hx hb dX7_findBest_16 rfl (lv_at hl 1 rfl) ?_
    refine lv_iconst (v := 1) hx hb dX7_findBest_17 rfl ?_
    obtain ⟨r5, e6, hf⟩ := bind_some hf
    refine callVi (As := [.int (v.1), .int 1]) (rest := [.int (v.1), .ref (q_t 13)]) M (mX7_of l D cs sk h_t q_t k (d_t.1, (va_up d_t.2 13 (v.2.2 13))) (v.1) 1 e6) mw_X7_94 ln_X7_of ⟨rfl, rfl, Nat.le_of_ble_eq_true rfl, Nat.le_of_ble_eq_true rfl⟩ hP hD hS hA [0, 1] (by decide) rfl rfl (q0 := 0) rfl rfl rfl ⟨Nat.zero_le _, Nat.zero_le _⟩ hl.1 rfl (Nat.le_of_ble_eq_true rfl) dX7_findBest_18 (fun H locs hP hD hS => ?_)
    replace hP : va_P D vwCl [oX7 h_t q_t (d_t.1), ((q_t 0), .inl (cs 0, 106, .inl (d_t.2 0))), ((q_t 4), .inl (cs 0, 12, .inl (d_t.2 4))), ((q_t 5), .inl (cs 0, 12, .inl (d_t.2 5))), ((q_t 6), .inl (cs 0, 12, .inl (d_t.2 6))), ((q_t 13), .inl (cs 0, 6, .inl (v.2.2 13))), ((q_t 14), .inl (cs 0, 6, .inl (d_t.2 14)))] H := hP
    replace hD : va_D A [oX7 h_t q_t (d_t.1), ((q_t 0), .inl (cs 0, 106, .inl (d_t.2 0))), ((q_t 4), .inl (cs 0, 12, .inl (d_t.2 4))), ((q_t 5), .inl (cs 0, 12, .inl (d_t.2 5))), ((q_t 6), .inl (cs 0, 12, .inl (d_t.2 6))), ((q_t 13), .inl (cs 0, 6, .inl (v.2.2 13))), ((q_t 14), .inl (cs 0, 6, .inl (d_t.2 14)))] := hD
    obtain ⟨hi, hf⟩ := chk_some hf
    refine va_iast (D := D) hx hb hK hP hD hS 5 0 rfl rfl hi dX7_findBest_21 (fun H locs hP hD hS => ?_)
    replace hP : va_P D vwCl [oX7 h_t q_t (d_t.1), ((q_t 0), .inl (cs 0, 106, .inl (d_t.2 0))), ((q_t 4), .inl (cs 0, 12, .inl (d_t.2 4))), ((q_t 5), .inl (cs 0, 12, .inl (d_t.2 5))), ((q_t 6), .inl (cs 0, 12, .inl (d_t.2 6))), ((q_t 13), .inl (cs 0, 6, .inl (upd (v.2.2 13) (v.1).toNatClampNeg r5))), ((q_t 14), .inl (cs 0, 6, .inl (d_t.2 14)))] H := hP
    replace hD : va_D A [oX7 h_t q_t (d_t.1), ((q_t 0), .inl (cs 0, 106, .inl (d_t.2 0))), ((q_t 4), .inl (cs 0, 12, .inl (d_t.2 4))), ((q_t 5), .inl (cs 0, 12, .inl (d_t.2 5))), ((q_t 6), .inl (cs 0, 12, .inl (d_t.2 6))), ((q_t 13), .inl (cs 0, 6, .inl (upd (v.2.2 13) (v.1).toNatClampNeg r5))), ((q_t 14), .inl (cs 0, 6, .inl (d_t.2 14)))] := hD
    refine lv_iinc (v := ((v.1) + 1)) (lv' := [(1, .int ((v.1) + 1)), (0, .ref h_t)]) hx hb dX7_findBest_22 hl (k := 1) rfl rfl (by decide) rfl (fun ls hl => ?_)
    refine lv_goto (tgt := 2) hx hb dX7_findBest_25 (by decide) ?_
    exact ih _ hf _ _ _ hP hD hS (lv_sub hl [1, 0] rfl)
set_option maxHeartbeats 4000000 in
set_option maxRecDepth 100000 in
theorem mX7_findBest_B32 {l : Launch} {p : Program} {e : Env} {s : State} {m : MethodId} {args : Array Value} {below : List Frame} {meth : Method} {c : Code} {D : va_G} {cs : Nat → ClassId} {sk : Nat → Nat} {A : Nat → Prop} {Q : State → Prop} (h_t : Nat) (q_t : Nat → Nat) (k : Nat) (d_t : Dat) {rv : Dat}  (K53 : Int32 → Option (Dat))
    (M : MC p s m args meth c D cs sk A RX7 cX7_findBest 8 none) (hA : ∀ q, s.heap.size ≤ q → A q) (hR : RetV p l e rm_X7_findBest s m args below meth c D cX7_findBest A Q [oX7 h_t q_t (rv.1), ((q_t 0), .inl (cs 0, 106, .inl (rv.2 0))), ((q_t 4), .inl (cs 0, 12, .inl (rv.2 4))), ((q_t 5), .inl (cs 0, 12, .inl (rv.2 5))), ((q_t 6), .inl (cs 0, 12, .inl (rv.2 6))), ((q_t 13), .inl (cs 0, 6, .inl (rv.2 13))), ((q_t 14), .inl (cs 0, 6, .inl (rv.2 14)))])
    (hK53 : ∀ (w : Int32), K53 w = some rv → ∀ (H : Heap) (locs : List Loc) (ls : Array Slot), va_P D vwCl [oX7 h_t q_t (d_t.1), ((q_t 0), .inl (cs 0, 106, .inl (d_t.2 0))), ((q_t 4), .inl (cs 0, 12, .inl (d_t.2 4))), ((q_t 5), .inl (cs 0, 12, .inl (d_t.2 5))), ((q_t 6), .inl (cs 0, 12, .inl (d_t.2 6))), ((q_t 13), .inl (cs 0, 6, .inl (d_t.2 13))), ((q_t 14), .inl (cs 0, 6, .inl (d_t.2 14)))] H → va_D A [oX7 h_t q_t (d_t.1), ((q_t 0), .inl (cs 0, 106, .inl (d_t.2 0))), ((q_t 4), .inl (cs 0, 12, .inl (d_t.2 4))), ((q_t 5), .inl (cs 0, 12, .inl (d_t.2 5))), ((q_t 6), .inl (cs 0, 12, .inl (d_t.2 6))), ((q_t 13), .inl (cs 0, 6, .inl (d_t.2 13))), ((q_t 14), .inl (cs 0, 6, .inl (d_t.2 14)))] → va_S A s.heap H locs → lv_has ls 8 [(0, .ref h_t), (1, .int w)] → W p l e rm_X7_findBest s m args below meth c H locs 0 0 Q (F0 m 53 ls []))
    : ∀ (n : Nat) (v : Int32 × Int32), lp (fX7_findBest_B32 k d_t K53) n v = some rv → ∀ (H : Heap) (locs : List Loc) (ls : Array Slot), va_P D vwCl [oX7 h_t q_t (d_t.1), ((q_t 0), .inl (cs 0, 106, .inl (d_t.2 0))), ((q_t 4), .inl (cs 0, 12, .inl (d_t.2 4))), ((q_t 5), .inl (cs 0, 12, .inl (d_t.2 5))), ((q_t 6), .inl (cs 0, 12, .inl (d_t.2 6))), ((q_t 13), .inl (cs 0, 6, .inl (d_t.2 13))), ((q_t 14), .inl (cs 0, 6, .inl (d_t.2 14)))] H → va_D A [oX7 h_t q_t (d_t.1), ((q_t 0), .inl (cs 0, 106, .inl (d_t.2 0))), ((q_t 4), .inl (cs 0, 12, .inl (d_t.2 4))), ((q_t 5), .inl (cs 0, 12, .inl (d_t.2 5))), ((q_t 6), .inl (cs 0, 12, .inl (d_t.2 6))), ((q_t 13), .inl (cs 0, 6, .inl (d_t.2 13))), ((q_t 14), .inl (cs 0, 6, .inl (d_t.2 14)))] → va_S A s.heap H locs → lv_has ls 8 [(0, .ref h_t), (1, .int (v.1)), (2, .int (v.2))] → W p l e rm_X7_findBest s m args below meth c H locs 0 0 Q (F0 m 32 ls []) := by
  obtain ⟨hx, hb, hml, hT, hown, hlk, hrt, hK, hN, hSE⟩ := id M
  refine lp_ind (fun rec ih v hf H locs ls hP hD hS hl => ?_)
  unfold fX7_findBest_B32 at hf
  refine lv_iload_n hx hb dX7_findBest_32 rfl (lv_at hl 2 rfl) ?_
  refine lv_aload_n hx hb dX7_findBest_33 rfl (lv_at hl 0 rfl) ?_
  obtain ⟨r1, e2, hf⟩ := bind_some hf
  refine callVi (As := []) (rest := [.int (v.2)]) M (mX7_players l D cs sk h_t q_t k d_t e2) mw_X7_67 ln_X7_players ⟨rfl, rfl, Nat.le_of_ble_eq_true rfl, Nat.le_of_ble_eq_true rfl⟩ hP hD hS hA [0, 1] (by decide) rfl rfl (q0 := 0) rfl rfl rfl ⟨Nat.zero_le _, Nat.zero_le _⟩ hl.1 rfl (Nat.le_of_ble_eq_true rfl) dX7_findBest_34 (fun H locs hP hD hS => ?_)
  replace hP : va_P D vwCl [oX7 h_t q_t (d_t.1), ((q_t 0), .inl (cs 0, 106, .inl (d_t.2 0))), ((q_t 4), .inl (cs 0, 12, .inl (d_t.2 4))), ((q_t 5), .inl (cs 0, 12, .inl (d_t.2 5))), ((q_t 6), .inl (cs 0, 12, .inl (d_t.2 6))), ((q_t 13), .inl (cs 0, 6, .inl (d_t.2 13))), ((q_t 14), .inl (cs 0, 6, .inl (d_t.2 14)))] H := hP
  replace hD : va_D A [oX7 h_t q_t (d_t.1), ((q_t 0), .inl (cs 0, 106, .inl (d_t.2 0))), ((q_t 4), .inl (cs 0, 12, .inl (d_t.2 4))), ((q_t 5), .inl (cs 0, 12, .inl (d_t.2 5))), ((q_t 6), .inl (cs 0, 12, .inl (d_t.2 6))), ((q_t 13), .inl (cs 0, 6, .inl (d_t.2 13))), ((q_t 14), .inl (cs 0, 6, .inl (d_t.2 14)))] := hD
  have g4 := ite_some hf
  refine lv_icmp_ge (tgt := 53) hx hb dX7_findBest_37 (by decide) (fun c3 => ?_) (fun c3 => ?_)
  · replace hf := g4.1 c3
    exact hK53 _ hf _ _ _ hP hD hS (lv_sub hl [0, 1] rfl)
  · replace hf := g4.2 c3
    refine lv_iload_n hx hb dX7_findBest_40 rfl (lv_at hl 1 rfl) ?_
    refine lv_aload_n hx hb dX7_findBest_41 rfl (lv_at hl 0 rfl) ?_
    obtain ⟨r5, e6, hf⟩ := bind_some hf
    refine callVi (As := []) (rest := [.int (v.1)]) M (mX7_windows l D cs sk h_t q_t k d_t e6) mw_X7_56 ln_X7_windows ⟨rfl, rfl, Nat.le_of_ble_eq_true rfl, Nat.le_of_ble_eq_true rfl⟩ hP hD hS hA [0, 1] (by decide) rfl rfl (q0 := 0) rfl rfl rfl ⟨Nat.zero_le _, Nat.zero_le _⟩ hl.1 rfl (Nat.le_of_ble_eq_true rfl) dX7_findBest_42 (fun H locs hP hD hS => ?_)
    replace hP : va_P D vwCl [oX7 h_t q_t (d_t.1), ((q_t 0), .inl (cs 0, 106, .inl (d_t.2 0))), ((q_t 4), .inl (cs 0, 12, .inl (d_t.2 4))), ((q_t 5), .inl (cs 0, 12, .inl (d_t.2 5))), ((q_t 6), .inl (cs 0, 12, .inl (d_t.2 6))), ((q_t 13), .inl (cs 0, 6, .inl (d_t.2 13))), ((q_t 14), .inl (cs 0, 6, .inl (d_t.2 14)))] H := hP
    replace hD : va_D A [oX7 h_t q_t (d_t.1), ((q_t 0), .inl (cs 0, 106, .inl (d_t.2 0))), ((q_t 4), .inl (cs 0, 12, .inl (d_t.2 4))), ((q_t 5), .inl (cs 0, 12, .inl (d_t.2 5))), ((q_t 6), .inl (cs 0, 12, .inl (d_t.2 6))), ((q_t 13), .inl (cs 0, 6, .inl (d_t.2 13))), ((q_t 14), .inl (cs 0, 6, .inl (d_t.2 14)))] := hD
    refine lv_imul hx hb dX7_findBest_45 ?_
    refine lv_istore_n (lv' := [(1, .int ((v.1) * r5)), (0, .ref h_t), (2, .int (v.2))]) hx hb dX7_findBest_46 rfl hl (by decide) rfl (fun ls hl => ?_)
    refine lv_iinc (v := ((v.2) + 1)) (lv' := [(2, .int ((v.2) + 1)), (1, .int ((v.1) * r5)), (0, .ref h_t)]) hx hb dX7_findBest_47 hl (k := 2) rfl rfl (by decide) rfl (fun ls hl => ?_)
    refine lv_goto (tgt := 32) hx hb dX7_findBest_50 (by decide) ?_
    exact ih _ hf _ _ _ hP hD hS (lv_sub hl [2, 1, 0] rfl)
set_option maxHeartbeats 4000000 in
set_option maxRecDepth 100000 in
theorem mX7_findBest_B87 {l : Launch} {p : Program} {e : Env} {s : State} {m : MethodId} {args : Array Value} {below : List Frame} {meth : Method} {c : Code} {D : va_G} {cs : Nat → ClassId} {sk : Nat → Nat} {A : Nat → Prop} {Q : State → Prop} (h_t : Nat) (q_t : Nat → Nat) (k : Nat) (x1 : Int32) (x2 : Int32) (x3 : Int32) (x4 : Int32) (x5 : Int32) (d_t : Dat) {rv : Dat}  (K113 : Int32 × Dat → Option (Dat))
    (M : MC p s m args meth c D cs sk A RX7 cX7_findBest 8 none) (hA : ∀ q, s.heap.size ≤ q → A q) (hR : RetV p l e rm_X7_findBest s m args below meth c D cX7_findBest A Q [oX7 h_t q_t (rv.1), ((q_t 0), .inl (cs 0, 106, .inl (rv.2 0))), ((q_t 4), .inl (cs 0, 12, .inl (rv.2 4))), ((q_t 5), .inl (cs 0, 12, .inl (rv.2 5))), ((q_t 6), .inl (cs 0, 12, .inl (rv.2 6))), ((q_t 13), .inl (cs 0, 6, .inl (rv.2 13))), ((q_t 14), .inl (cs 0, 6, .inl (rv.2 14)))])
    (hK113 : ∀ (w : Int32 × Dat), K113 w = some rv → ∀ (H : Heap) (locs : List Loc) (ls : Array Slot), va_P D vwCl [oX7 h_t q_t (w.2.1), ((q_t 0), .inl (cs 0, 106, .inl (d_t.2 0))), ((q_t 4), .inl (cs 0, 12, .inl (w.2.2 4))), ((q_t 5), .inl (cs 0, 12, .inl (w.2.2 5))), ((q_t 6), .inl (cs 0, 12, .inl (w.2.2 6))), ((q_t 13), .inl (cs 0, 6, .inl (d_t.2 13))), ((q_t 14), .inl (cs 0, 6, .inl (d_t.2 14)))] H → va_D A [oX7 h_t q_t (w.2.1), ((q_t 0), .inl (cs 0, 106, .inl (d_t.2 0))), ((q_t 4), .inl (cs 0, 12, .inl (w.2.2 4))), ((q_t 5), .inl (cs 0, 12, .inl (w.2.2 5))), ((q_t 6), .inl (cs 0, 12, .inl (w.2.2 6))), ((q_t 13), .inl (cs 0, 6, .inl (d_t.2 13))), ((q_t 14), .inl (cs 0, 6, .inl (d_t.2 14)))] → va_S A s.heap H locs → lv_has ls 8 [(0, .ref h_t), (1, .int x1), (2, .int x2), (3, .int x3), (4, .int x4), (5, .int x5), (6, .int (w.1))] → W p l e rm_X7_findBest s m args below meth c H locs 0 0 Q (F0 m 113 ls []))
    : ∀ (n : Nat) (v : Int32 × Int32 × Dat), lp (fX7_findBest_B87 k d_t K113) n v = some rv → ∀ (H : Heap) (locs : List Loc) (ls : Array Slot), va_P D vwCl [oX7 h_t q_t (v.2.2.1), ((q_t 0), .inl (cs 0, 106, .inl (d_t.2 0))), ((q_t 4), .inl (cs 0, 12, .inl (v.2.2.2 4))), ((q_t 5), .inl (cs 0, 12, .inl (v.2.2.2 5))), ((q_t 6), .inl (cs 0, 12, .inl (v.2.2.2 6))), ((q_t 13), .inl (cs 0, 6, .inl (d_t.2 13))), ((q_t 14), .inl (cs 0, 6, .inl (d_t.2 14)))] H → va_D A [oX7 h_t q_t (v.2.2.1), ((q_t 0), .inl (cs 0, 106, .inl (d_t.2 0))), ((q_t 4), .inl (cs 0, 12, .inl (v.2.2.2 4))), ((q_t 5), .inl (cs 0, 12, .inl (v.2.2.2 5))), ((q_t 6), .inl (cs 0, 12, .inl (v.2.2.2 6))), ((q_t 13), .inl (cs 0, 6, .inl (d_t.2 13))), ((q_t 14), .inl (cs 0, 6, .inl (d_t.2 14)))] → va_S A s.heap H locs → lv_has ls 8 [(0, .ref h_t), (1, .int x1), (2, .int x2), (3, .int x3), (4, .int x4), (5, .int x5), (6, .int (v.1)), (7, .int (v.2.1))] → W p l e rm_X7_findBest s m args below meth c H locs 0 0 Q (F0 m 87 ls []) := by
  obtain ⟨hx, hb, hml, hT, hown, hlk, hrt, hK, hN, hSE⟩ := id M
  refine lp_ind (fun rec ih v hf H locs ls hP hD hS hl => ?_)
  unfold fX7_findBest_B87 at hf
  refine lv_iload hx hb dX7_findBest_87 (lv_at hl 7 rfl) ?_
  refine lv_aload_n hx hb dX7_findBest_89 rfl (lv_at hl 0 rfl) ?_
  obtain ⟨r1, e2, hf⟩ := bind_some hf
  refine callVi (As := []) (rest := [.int (v.2.1)]) M (mX7_ears l D cs sk h_t q_t k (v.2.2.1, (va_up (va_up (va_up d_t.2 4 (v.2.2.2 4)) 5 (v.2.2.2 5)) 6 (v.2.2.2 6))) e2) mw_X7_64 ln_X7_ears ⟨rfl, rfl, Nat.le_of_ble_eq_true rfl, Nat.le_of_ble_eq_true rfl⟩ hP hD hS hA [0, 1] (by decide) rfl rfl (q0 := 0) rfl rfl rfl ⟨Nat.zero_le _, Nat.zero_le _⟩ hl.1 rfl (Nat.le_of_ble_eq_true rfl) dX7_findBest_90 (fun H locs hP hD hS => ?_)
  replace hP : va_P D vwCl [oX7 h_t q_t (v.2.2.1), ((q_t 0), .inl (cs 0, 106, .inl (d_t.2 0))), ((q_t 4), .inl (cs 0, 12, .inl (v.2.2.2 4))), ((q_t 5), .inl (cs 0, 12, .inl (v.2.2.2 5))), ((q_t 6), .inl (cs 0, 12, .inl (v.2.2.2 6))), ((q_t 13), .inl (cs 0, 6, .inl (d_t.2 13))), ((q_t 14), .inl (cs 0, 6, .inl (d_t.2 14)))] H := hP
  replace hD : va_D A [oX7 h_t q_t (v.2.2.1), ((q_t 0), .inl (cs 0, 106, .inl (d_t.2 0))), ((q_t 4), .inl (cs 0, 12, .inl (v.2.2.2 4))), ((q_t 5), .inl (cs 0, 12, .inl (v.2.2.2 5))), ((q_t 6), .inl (cs 0, 12, .inl (v.2.2.2 6))), ((q_t 13), .inl (cs 0, 6, .inl (d_t.2 13))), ((q_t 14), .inl (cs 0, 6, .inl (d_t.2 14)))] := hD
  have g4 := ite_some hf
  refine lv_icmp_ge (tgt := 113) hx hb dX7_findBest_93 (by decide) (fun c3 => ?_) (fun c3 => ?_)
  · replace hf := g4.1 c3
    exact hK113 _ hf _ _ _ hP hD hS (lv_sub hl [0, 1, 2, 3, 4, 5, 6] rfl)
  · replace hf := g4.2 c3
    refine lv_iload hx hb dX7_findBest_96 (lv_at hl 6 rfl) ?_
    refine lv_aload_n hx hb dX7_findBest_98 rfl (lv_at hl 0 rfl) ?_
    refine lv_iload hx hb dX7_findBest_99 (lv_at hl 7 rfl) ?_
    obtain ⟨r5, e6, hf⟩ := bind_some hf
    refine callVi (As := [.int (v.2.1)]) (rest := [.int (v.1)]) M (mX7_spreadOf l D cs sk h_t q_t k (v.2.2.1, (va_up (va_up (va_up d_t.2 4 (v.2.2.2 4)) 5 (v.2.2.2 5)) 6 (v.2.2.2 6))) (v.2.1) e6) mw_X7_167 ln_X7_spreadOf ⟨rfl, rfl, Nat.le_of_ble_eq_true rfl, Nat.le_of_ble_eq_true rfl⟩ hP hD hS hA [0, 1, 2, 3, 4] (by decide) rfl rfl (q0 := 0) rfl rfl rfl ⟨Nat.zero_le _, Nat.zero_le _⟩ hl.1 rfl (Nat.le_of_ble_eq_true rfl) dX7_findBest_101 (fun H locs hP hD hS => ?_)
    replace hP : va_P D vwCl [oX7 h_t q_t (r5.2.1), ((q_t 0), .inl (cs 0, 106, .inl (d_t.2 0))), ((q_t 4), .inl (cs 0, 12, .inl (r5.2.2 4))), ((q_t 5), .inl (cs 0, 12, .inl (r5.2.2 5))), ((q_t 6), .inl (cs 0, 12, .inl (r5.2.2 6))), ((q_t 13), .inl (cs 0, 6, .inl (d_t.2 13))), ((q_t 14), .inl (cs 0, 6, .inl (d_t.2 14)))] H := hP
    replace hD : va_D A [oX7 h_t q_t (r5.2.1), ((q_t 0), .inl (cs 0, 106, .inl (d_t.2 0))), ((q_t 4), .inl (cs 0, 12, .inl (r5.2.2 4))), ((q_t 5), .inl (cs 0, 12, .inl (r5.2.2 5))), ((q_t 6), .inl (cs 0, 12, .inl (r5.2.2 6))), ((q_t 13), .inl (cs 0, 6, .inl (d_t.2 13))), ((q_t 14), .inl (cs 0, 6, .inl (d_t.2 14)))] := hD
    refine lv_iadd hx hb dX7_findBest_104 ?_
    refine lv_istore (lv' := [(6, .int ((v.1) + (r5.1))), (0, .ref h_t), (1, .int x1), (2, .int x2), (3, .int x3), (4, .int x4), (5, .int x5), (7, .int (v.2.1))]) hx hb dX7_findBest_105 hl (by decide) rfl (fun ls hl => ?_)
    refine lv_iinc (v := ((v.2.1) + 1)) (lv' := [(7, .int ((v.2.1) + 1)), (6, .int ((v.1) + (r5.1))), (0, .ref h_t), (1, .int x1), (2, .int x2), (3, .int x3), (4, .int x4), (5, .int x5)]) hx hb dX7_findBest_107 hl (k := 7) rfl rfl (by decide) rfl (fun ls hl => ?_)
    refine lv_goto (tgt := 87) hx hb dX7_findBest_110 (by decide) ?_
    exact ih _ hf _ _ _ hP hD hS (lv_sub hl [2, 3, 4, 5, 6, 7, 1, 0] rfl)
set_option maxHeartbeats 4000000 in
set_option maxRecDepth 100000 in
theorem mX7_findBest_B140 {l : Launch} {p : Program} {e : Env} {s : State} {m : MethodId} {args : Array Value} {below : List Frame} {meth : Method} {c : Code} {D : va_G} {cs : Nat → ClassId} {sk : Nat → Nat} {A : Nat → Prop} {Q : State → Prop} (h_t : Nat) (q_t : Nat → Nat) (k : Nat) (x1 : Int32) (x2 : Int32) (x3 : Int32) (x4 : Int32) (d_t : Dat) {rv : Dat}  (K169 : Dat → Option (Dat))
    (M : MC p s m args meth c D cs sk A RX7 cX7_findBest 8 none) (hA : ∀ q, s.heap.size ≤ q → A q) (hR : RetV p l e rm_X7_findBest s m args below meth c D cX7_findBest A Q [oX7 h_t q_t (rv.1), ((q_t 0), .inl (cs 0, 106, .inl (rv.2 0))), ((q_t 4), .inl (cs 0, 12, .inl (rv.2 4))), ((q_t 5), .inl (cs 0, 12, .inl (rv.2 5))), ((q_t 6), .inl (cs 0, 12, .inl (rv.2 6))), ((q_t 13), .inl (cs 0, 6, .inl (rv.2 13))), ((q_t 14), .inl (cs 0, 6, .inl (rv.2 14)))])
    (hK169 : ∀ (w : Dat), K169 w = some rv → ∀ (H : Heap) (locs : List Loc) (ls : Array Slot), va_P D vwCl [oX7 h_t q_t (d_t.1), ((q_t 0), .inl (cs 0, 106, .inl (d_t.2 0))), ((q_t 4), .inl (cs 0, 12, .inl (d_t.2 4))), ((q_t 5), .inl (cs 0, 12, .inl (d_t.2 5))), ((q_t 6), .inl (cs 0, 12, .inl (d_t.2 6))), ((q_t 13), .inl (cs 0, 6, .inl (d_t.2 13))), ((q_t 14), .inl (cs 0, 6, .inl (w.2 14)))] H → va_D A [oX7 h_t q_t (d_t.1), ((q_t 0), .inl (cs 0, 106, .inl (d_t.2 0))), ((q_t 4), .inl (cs 0, 12, .inl (d_t.2 4))), ((q_t 5), .inl (cs 0, 12, .inl (d_t.2 5))), ((q_t 6), .inl (cs 0, 12, .inl (d_t.2 6))), ((q_t 13), .inl (cs 0, 6, .inl (d_t.2 13))), ((q_t 14), .inl (cs 0, 6, .inl (w.2 14)))] → va_S A s.heap H locs → lv_has ls 8 [(0, .ref h_t), (1, .int x1), (2, .int x2), (3, .int x3), (4, .int x4)] → W p l e rm_X7_findBest s m args below meth c H locs 0 0 Q (F0 m 169 ls []))
    : ∀ (n : Nat) (v : Int32 × Dat), lp (fX7_findBest_B140 k d_t K169) n v = some rv → ∀ (H : Heap) (locs : List Loc) (ls : Array Slot), va_P D vwCl [oX7 h_t q_t (d_t.1), ((q_t 0), .inl (cs 0, 106, .inl (d_t.2 0))), ((q_t 4), .inl (cs 0, 12, .inl (d_t.2 4))), ((q_t 5), .inl (cs 0, 12, .inl (d_t.2 5))), ((q_t 6), .inl (cs 0, 12, .inl (d_t.2 6))), ((q_t 13), .inl (cs 0, 6, .inl (d_t.2 13))), ((q_t 14), .inl (cs 0, 6, .inl (v.2.2 14)))] H → va_D A [oX7 h_t q_t (d_t.1), ((q_t 0), .inl (cs 0, 106, .inl (d_t.2 0))), ((q_t 4), .inl (cs 0, 12, .inl (d_t.2 4))), ((q_t 5), .inl (cs 0, 12, .inl (d_t.2 5))), ((q_t 6), .inl (cs 0, 12, .inl (d_t.2 6))), ((q_t 13), .inl (cs 0, 6, .inl (d_t.2 13))), ((q_t 14), .inl (cs 0, 6, .inl (v.2.2 14)))] → va_S A s.heap H locs → lv_has ls 8 [(0, .ref h_t), (1, .int x1), (2, .int x2), (3, .int x3), (4, .int x4), (7, .int (v.1))] → W p l e rm_X7_findBest s m args below meth c H locs 0 0 Q (F0 m 140 ls []) := by
  obtain ⟨hx, hb, hml, hT, hown, hlk, hrt, hK, hN, hSE⟩ := id M
  refine lp_ind (fun rec ih v hf H locs ls hP hD hS hl => ?_)
  unfold fX7_findBest_B140 at hf
  refine lv_iload hx hb dX7_findBest_140 (lv_at hl 5 rfl) ?_
  refine lv_aload_n hx hb dX7_findBest_142 rfl (lv_at hl 0 rfl) ?_
  obtain ⟨r1, e2, hf⟩ := bind_some hf
  refine callVi (As := []) (rest := [.int (v.1)]) M (mX7_players l D cs sk h_t q_t k (d_t.1, (va_up d_t.2 14 (v.2.2 14))) e2) mw_X7_67 ln_X7_players ⟨rfl, rfl, Nat.le_of_ble_eq_true rfl, Nat.le_of_ble_eq_true rfl⟩ hP hD hS hA [0, 1] (by decide) rfl rfl (q0 := 0) rfl rfl rfl ⟨Nat.zero_le _, Nat.zero_le _⟩ hl.1 rfl (Nat.le_of_ble_eq_true rfl) dX7_findBest_143 (fun H locs hP hD hS => ?_)
  replace hP : va_P D vwCl [oX7 h_t q_t (d_t.1), ((q_t 0), .inl (cs 0, 106, .inl (d_t.2 0))), ((q_t 4), .inl (cs 0, 12, .inl (d_t.2 4))), ((q_t 5), .inl (cs 0, 12, .inl (d_t.2 5))), ((q_t 6), .inl (cs 0, 12, .inl (d_t.2 6))), ((q_t 13), .inl (cs 0, 6, .inl (d_t.2 13))), ((q_t 14), .inl (cs 0, 6, .inl (v.2.2 14)))] H := hP
  replace hD : va_D A [oX7 h_t q_t (d_t.1), ((q_t 0), .inl (cs 0, 106, .inl (d_t.2 0))), ((q_t 4), .inl (cs 0, 12, .inl (d_t.2 4))), ((q_t 5), .inl (cs 0, 12, .inl (d_t.2 5))), ((q_t 6), .inl (cs 0, 12, .inl (d_t.2 6))), ((q_t 13), .inl (cs 0, 6, .inl (d_t.2 13))), ((q_t 14), .inl (cs 0, 6, .inl (v.2.2 14)))] := hD
  have g4 := ite_some hf
  refine lv_icmp_ge (tgt := 169) hx hb dX7_findBest_146 (by decide) (fun c3 => ?_) (fun c3 => ?_)
  · replace hf := g4.1 c3
    exact hK169 _ hf _ _ _ hP hD hS (lv_sub hl [0, 1, 2, 3, 4] rfl)
  · replace hf := g4.2 c3
    refine lv_aload_n hx hb dX7_findBest_149 rfl (lv_at hl 0 rfl) ?_
    refine va_get (D := D) (ci := 7) (v := .ref (q_t 14)) (C := RX7) (T := TX7) (N := 23) hx hb hT iX7 hown hK hP 0 rfl rfl 14 (by decide) (hT _ fw_X7_47) (fun _ h9 => h9) rfl dX7_findBest_150 ?_
    refine lv_iload hx hb dX7_findBest_153 (lv_at hl 5 rfl) ?_
    refine lv_aload_n hx hb dX7_findBest_155 rfl (lv_at hl 0 rfl) ?_
    refine lv_iload hx hb dX7_findBest_156 (lv_at hl 5 rfl) ?_
    refine lv_iconst (v := 1) hx hb dX7_findBest_158 rfl ?_
    obtain ⟨r5, e6, hf⟩ := bind_some hf
    refine callVi (As := [.int (v.1), .int 1]) (rest := [.int (v.1), .ref (q_t 14)]) M (mX7_of l D cs sk h_t q_t k (d_t.1, (va_up d_t.2 14 (v.2.2 14))) (v.1) 1 e6) mw_X7_94 ln_X7_of ⟨rfl, rfl, Nat.le_of_ble_eq_true rfl, Nat.le_of_ble_eq_true rfl⟩ hP hD hS hA [0, 1] (by decide) rfl rfl (q0 := 0) rfl rfl rfl ⟨Nat.zero_le _, Nat.zero_le _⟩ hl.1 rfl (Nat.le_of_ble_eq_true rfl) dX7_findBest_159 (fun H locs hP hD hS => ?_)
    replace hP : va_P D vwCl [oX7 h_t q_t (d_t.1), ((q_t 0), .inl (cs 0, 106, .inl (d_t.2 0))), ((q_t 4), .inl (cs 0, 12, .inl (d_t.2 4))), ((q_t 5), .inl (cs 0, 12, .inl (d_t.2 5))), ((q_t 6), .inl (cs 0, 12, .inl (d_t.2 6))), ((q_t 13), .inl (cs 0, 6, .inl (d_t.2 13))), ((q_t 14), .inl (cs 0, 6, .inl (v.2.2 14)))] H := hP
    replace hD : va_D A [oX7 h_t q_t (d_t.1), ((q_t 0), .inl (cs 0, 106, .inl (d_t.2 0))), ((q_t 4), .inl (cs 0, 12, .inl (d_t.2 4))), ((q_t 5), .inl (cs 0, 12, .inl (d_t.2 5))), ((q_t 6), .inl (cs 0, 12, .inl (d_t.2 6))), ((q_t 13), .inl (cs 0, 6, .inl (d_t.2 13))), ((q_t 14), .inl (cs 0, 6, .inl (v.2.2 14)))] := hD
    obtain ⟨hi, hf⟩ := chk_some hf
    refine va_iast (D := D) hx hb hK hP hD hS 6 0 rfl rfl hi dX7_findBest_162 (fun H locs hP hD hS => ?_)
    replace hP : va_P D vwCl [oX7 h_t q_t (d_t.1), ((q_t 0), .inl (cs 0, 106, .inl (d_t.2 0))), ((q_t 4), .inl (cs 0, 12, .inl (d_t.2 4))), ((q_t 5), .inl (cs 0, 12, .inl (d_t.2 5))), ((q_t 6), .inl (cs 0, 12, .inl (d_t.2 6))), ((q_t 13), .inl (cs 0, 6, .inl (d_t.2 13))), ((q_t 14), .inl (cs 0, 6, .inl (upd (v.2.2 14) (v.1).toNatClampNeg r5)))] H := hP
    replace hD : va_D A [oX7 h_t q_t (d_t.1), ((q_t 0), .inl (cs 0, 106, .inl (d_t.2 0))), ((q_t 4), .inl (cs 0, 12, .inl (d_t.2 4))), ((q_t 5), .inl (cs 0, 12, .inl (d_t.2 5))), ((q_t 6), .inl (cs 0, 12, .inl (d_t.2 6))), ((q_t 13), .inl (cs 0, 6, .inl (d_t.2 13))), ((q_t 14), .inl (cs 0, 6, .inl (upd (v.2.2 14) (v.1).toNatClampNeg r5)))] := hD
    refine lv_iinc (v := ((v.1) + 1)) (lv' := [(7, .int ((v.1) + 1)), (0, .ref h_t), (1, .int x1), (2, .int x2), (3, .int x3), (4, .int x4)]) hx hb dX7_findBest_163 hl (k := 5) rfl rfl (by decide) rfl (fun ls hl => ?_)
    refine lv_goto (tgt := 140) hx hb dX7_findBest_166 (by decide) ?_
    exact ih _ hf _ _ _ hP hD hS (lv_sub hl [1, 2, 3, 4, 5, 0] rfl)
set_option maxHeartbeats 4000000 in
set_option maxRecDepth 100000 in
theorem mX7_findBest_B60 {l : Launch} {p : Program} {e : Env} {s : State} {m : MethodId} {args : Array Value} {below : List Frame} {meth : Method} {c : Code} {D : va_G} {cs : Nat → ClassId} {sk : Nat → Nat} {A : Nat → Prop} {Q : State → Prop} (h_t : Nat) (q_t : Nat → Nat) (k : Nat) (x1 : Int32) (d_t : Dat) {rv : Dat}  (K175 : Dat → Option (Dat))
    (M : MC p s m args meth c D cs sk A RX7 cX7_findBest 8 none) (hA : ∀ q, s.heap.size ≤ q → A q) (hR : RetV p l e rm_X7_findBest s m args below meth c D cX7_findBest A Q [oX7 h_t q_t (rv.1), ((q_t 0), .inl (cs 0, 106, .inl (rv.2 0))), ((q_t 4), .inl (cs 0, 12, .inl (rv.2 4))), ((q_t 5), .inl (cs 0, 12, .inl (rv.2 5))), ((q_t 6), .inl (cs 0, 12, .inl (rv.2 6))), ((q_t 13), .inl (cs 0, 6, .inl (rv.2 13))), ((q_t 14), .inl (cs 0, 6, .inl (rv.2 14)))])
    (hK175 : ∀ (w : Dat), K175 w = some rv → ∀ (H : Heap) (locs : List Loc) (ls : Array Slot), va_P D vwCl [oX7 h_t q_t (w.1), ((q_t 0), .inl (cs 0, 106, .inl (w.2 0))), ((q_t 4), .inl (cs 0, 12, .inl (w.2 4))), ((q_t 5), .inl (cs 0, 12, .inl (w.2 5))), ((q_t 6), .inl (cs 0, 12, .inl (w.2 6))), ((q_t 13), .inl (cs 0, 6, .inl (d_t.2 13))), ((q_t 14), .inl (cs 0, 6, .inl (w.2 14)))] H → va_D A [oX7 h_t q_t (w.1), ((q_t 0), .inl (cs 0, 106, .inl (w.2 0))), ((q_t 4), .inl (cs 0, 12, .inl (w.2 4))), ((q_t 5), .inl (cs 0, 12, .inl (w.2 5))), ((q_t 6), .inl (cs 0, 12, .inl (w.2 6))), ((q_t 13), .inl (cs 0, 6, .inl (d_t.2 13))), ((q_t 14), .inl (cs 0, 6, .inl (w.2 14)))] → va_S A s.heap H locs → lv_has ls 8 [(0, .ref h_t)] → W p l e rm_X7_findBest s m args below meth c H locs 0 0 Q (F0 m 175 ls []))
    : ∀ (n : Nat) (v : Int32 × Int32 × Int32 × Dat), lp (fX7_findBest_B60 k x1 d_t K175) n v = some rv → ∀ (H : Heap) (locs : List Loc) (ls : Array Slot), va_P D vwCl [oX7 h_t q_t (v.2.2.2.1), ((q_t 0), .inl (cs 0, 106, .inl (v.2.2.2.2 0))), ((q_t 4), .inl (cs 0, 12, .inl (v.2.2.2.2 4))), ((q_t 5), .inl (cs 0, 12, .inl (v.2.2.2.2 5))), ((q_t 6), .inl (cs 0, 12, .inl (v.2.2.2.2 6))), ((q_t 13), .inl (cs 0, 6, .inl (d_t.2 13))), ((q_t 14), .inl (cs 0, 6, .inl (v.2.2.2.2 14)))] H → va_D A [oX7 h_t q_t (v.2.2.2.1), ((q_t 0), .inl (cs 0, 106, .inl (v.2.2.2.2 0))), ((q_t 4), .inl (cs 0, 12, .inl (v.2.2.2.2 4))), ((q_t 5), .inl (cs 0, 12, .inl (v.2.2.2.2 5))), ((q_t 6), .inl (cs 0, 12, .inl (v.2.2.2.2 6))), ((q_t 13), .inl (cs 0, 6, .inl (d_t.2 13))), ((q_t 14), .inl (cs 0, 6, .inl (v.2.2.2.2 14)))] → va_S A s.heap H locs → lv_has ls 8 [(0, .ref h_t), (1, .int x1), (2, .int (v.1)), (3, .int (v.2.1)), (4, .int (v.2.2.1))] → W p l e rm_X7_findBest s m args below meth c H locs 0 0 Q (F0 m 60 ls []) := by
  obtain ⟨hx, hb, hml, hT, hown, hlk, hrt, hK, hN, hSE⟩ := id M
  refine lp_ind (fun rec ih v hf H locs ls hP hD hS hl => ?_)
  unfold fX7_findBest_B60 at hf
  refine lv_iload hx hb dX7_findBest_60 (lv_at hl 4 rfl) ?_
  refine lv_iload_n hx hb dX7_findBest_62 rfl (lv_at hl 1 rfl) ?_
  have g2 := ite_some hf
  refine lv_icmp_ge (tgt := 175) hx hb dX7_findBest_63 (by decide) (fun c1 => ?_) (fun c1 => ?_)
  · replace hf := g2.1 c1
    exact hK175 _ hf _ _ _ hP hD hS (lv_sub hl [0] rfl)
  · replace hf := g2.2 c1
    refine lv_aload_n hx hb dX7_findBest_66 rfl (lv_at hl 0 rfl) ?_
    refine lv_iload hx hb dX7_findBest_67 (lv_at hl 4 rfl) ?_
    obtain ⟨r3, e4, hf⟩ := bind_some hf
    refine callVi (As := [.int (v.2.2.1)]) (rest := []) M (mX7_putAll l D cs sk h_t q_t k (v.2.2.2.1, (va_up (va_up (va_up (va_up (va_up d_t.2 0 (v.2.2.2.2 0)) 4 (v.2.2.2.2 4)) 5 (v.2.2.2.2 5)) 6 (v.2.2.2.2 6)) 14 (v.2.2.2.2 14))) (v.2.2.1) e4) mw_X7_206 ln_X7_putAll ⟨rfl, rfl, Nat.le_of_ble_eq_true rfl, Nat.le_of_ble_eq_true rfl⟩ hP hD hS hA [0, 1] (by decide) rfl rfl (q0 := 0) rfl rfl rfl ⟨Nat.zero_le _, Nat.zero_le _⟩ hl.1 rfl (Nat.le_of_ble_eq_true rfl) dX7_findBest_69 (fun H locs hP hD hS => ?_)
    replace hP : va_P D vwCl [oX7 h_t q_t (v.2.2.2.1), ((q_t 0), .inl (cs 0, 106, .inl (r3.2.2 0))), ((q_t 4), .inl (cs 0, 12, .inl (v.2.2.2.2 4))), ((q_t 5), .inl (cs 0, 12, .inl (v.2.2.2.2 5))), ((q_t 6), .inl (cs 0, 12, .inl (v.2.2.2.2 6))), ((q_t 13), .inl (cs 0, 6, .inl (d_t.2 13))), ((q_t 14), .inl (cs 0, 6, .inl (v.2.2.2.2 14)))] H := hP
    replace hD : va_D A [oX7 h_t q_t (v.2.2.2.1), ((q_t 0), .inl (cs 0, 106, .inl (r3.2.2 0))), ((q_t 4), .inl (cs 0, 12, .inl (v.2.2.2.2 4))), ((q_t 5), .inl (cs 0, 12, .inl (v.2.2.2.2 5))), ((q_t 6), .inl (cs 0, 12, .inl (v.2.2.2.2 6))), ((q_t 13), .inl (cs 0, 6, .inl (d_t.2 13))), ((q_t 14), .inl (cs 0, 6, .inl (v.2.2.2.2 14)))] := hD
    have g6 := ite_some hf
    refine lv_if_eq (tgt := 169) hx hb dX7_findBest_72 (by decide) (fun c5 => ?_) (fun c5 => ?_)
    · replace hf := g6.1 c5
      refine lv_iinc (v := ((v.2.2.1) + 1)) (lv' := [(4, .int ((v.2.2.1) + 1)), (0, .ref h_t), (1, .int x1), (2, .int (v.1)), (3, .int (v.2.1))]) hx hb dX7_findBest_169 hl (k := 4) rfl rfl (by decide) rfl (fun ls hl => ?_)
      refine lv_goto (tgt := 60) hx hb dX7_findBest_172 (by decide) ?_
      exact ih _ hf _ _ _ hP hD hS (lv_sub hl [1, 2, 3, 4, 0] rfl)
    · replace hf := g6.2 c5
      refine lv_aload_n hx hb dX7_findBest_75 rfl (lv_at hl 0 rfl) ?_
      obtain ⟨r7, e8, hf⟩ := bind_some hf
      refine callVi (As := []) (rest := []) M (mX7_leastLoud l D cs sk h_t q_t k (v.2.2.2.1, (va_up (va_up (va_up (va_up (va_up d_t.2 0 (r3.2.2 0)) 4 (v.2.2.2.2 4)) 5 (v.2.2.2.2 5)) 6 (v.2.2.2.2 6)) 14 (v.2.2.2.2 14))) e8) mw_X7_209 ln_X7_leastLoud ⟨rfl, rfl, Nat.le_of_ble_eq_true rfl, Nat.le_of_ble_eq_true rfl⟩ hP hD hS hA [0, 1] (by decide) rfl rfl (q0 := 0) rfl rfl rfl ⟨Nat.zero_le _, Nat.zero_le _⟩ hl.1 rfl (Nat.le_of_ble_eq_true rfl) dX7_findBest_76 (fun H locs hP hD hS => ?_)
      replace hP : va_P D vwCl [oX7 h_t q_t (v.2.2.2.1), ((q_t 0), .inl (cs 0, 106, .inl (r3.2.2 0))), ((q_t 4), .inl (cs 0, 12, .inl (v.2.2.2.2 4))), ((q_t 5), .inl (cs 0, 12, .inl (v.2.2.2.2 5))), ((q_t 6), .inl (cs 0, 12, .inl (v.2.2.2.2 6))), ((q_t 13), .inl (cs 0, 6, .inl (d_t.2 13))), ((q_t 14), .inl (cs 0, 6, .inl (v.2.2.2.2 14)))] H := hP
      replace hD : va_D A [oX7 h_t q_t (v.2.2.2.1), ((q_t 0), .inl (cs 0, 106, .inl (r3.2.2 0))), ((q_t 4), .inl (cs 0, 12, .inl (v.2.2.2.2 4))), ((q_t 5), .inl (cs 0, 12, .inl (v.2.2.2.2 5))), ((q_t 6), .inl (cs 0, 12, .inl (v.2.2.2.2 6))), ((q_t 13), .inl (cs 0, 6, .inl (d_t.2 13))), ((q_t 14), .inl (cs 0, 6, .inl (v.2.2.2.2 14)))] := hD
      refine lv_istore (lv' := [(5, .int r7), (0, .ref h_t), (1, .int x1), (2, .int (v.1)), (3, .int (v.2.1)), (4, .int (v.2.2.1))]) hx hb dX7_findBest_79 hl (by decide) rfl (fun ls hl => ?_)
      refine lv_iconst (v := 0) hx hb dX7_findBest_81 rfl ?_
      refine lv_istore (lv' := [(6, .int 0), (5, .int r7), (0, .ref h_t), (1, .int x1), (2, .int (v.1)), (3, .int (v.2.1)), (4, .int (v.2.2.1))]) hx hb dX7_findBest_82 hl (by decide) rfl (fun ls hl => ?_)
      refine lv_iconst (v := 0) hx hb dX7_findBest_84 rfl ?_
      refine lv_istore (lv' := [(7, .int 0), (6, .int 0), (5, .int r7), (0, .ref h_t), (1, .int x1), (2, .int (v.1)), (3, .int (v.2.1)), (4, .int (v.2.2.1))]) hx hb dX7_findBest_85 hl (by decide) rfl (fun ls hl => ?_)
      refine mX7_findBest_B87 h_t q_t k x1 (v.1) (v.2.1) (v.2.2.1) r7 (v.2.2.2.1, (va_up (va_up (va_up (va_up (va_up d_t.2 0 (r3.2.2 0)) 4 (v.2.2.2.2 4)) 5 (v.2.2.2.2 5)) 6 (v.2.2.2.2 6)) 14 (v.2.2.2.2 14))) _ M hA hR (fun w9 hf H locs ls hP hD hS hl => ?_) _ _ hf _ _ _ hP hD hS (lv_sub hl [3, 4, 5, 6, 7, 2, 1, 0] rfl)
      · refine lv_iload hx hb dX7_findBest_113 (lv_at hl 5 rfl) ?_
        refine lv_iload_n hx hb dX7_findBest_115 rfl (lv_at hl 2 rfl) ?_
        have g11 := ite_some hf
        refine lv_icmp_gt (tgt := 131) hx hb dX7_findBest_116 (by decide) (fun c10 => ?_) (fun c10 => ?_)
        · replace hf := g11.1 c10
          refine lv_iload hx hb dX7_findBest_131 (lv_at hl 5 rfl) ?_
          refine lv_istore_n (lv' := [(2, .int r7), (0, .ref h_t), (1, .int x1), (3, .int (v.2.1)), (4, .int (v.2.2.1)), (5, .int r7), (6, .int (w9.1))]) hx hb dX7_findBest_133 rfl hl (by decide) rfl (fun ls hl => ?_)
          refine lv_iload hx hb dX7_findBest_134 (lv_at hl 6 rfl) ?_
          refine lv_istore_n (lv' := [(3, .int (w9.1)), (2, .int r7), (0, .ref h_t), (1, .int x1), (4, .int (v.2.2.1)), (5, .int r7), (6, .int (w9.1))]) hx hb dX7_findBest_136 rfl hl (by decide) rfl (fun ls hl => ?_)
          refine lv_iconst (v := 0) hx hb dX7_findBest_137 rfl ?_
          refine lv_istore (lv' := [(7, .int 0), (3, .int (w9.1)), (2, .int r7), (0, .ref h_t), (1, .int x1), (4, .int (v.2.2.1)), (5, .int r7), (6, .int (w9.1))]) hx hb dX7_findBest_138 hl (by decide) rfl (fun ls hl => ?_)
          refine mX7_findBest_B140 h_t q_t k x1 r7 (w9.1) (v.2.2.1) (w9.2.1, (va_up (va_up (va_up (va_up (va_up d_t.2 0 (r3.2.2 0)) 4 (w9.2.2 4)) 5 (w9.2.2 5)) 6 (w9.2.2 6)) 14 (v.2.2.2.2 14))) _ M hA hR (fun w12 hf H locs ls hP hD hS hl => ?_) _ _ hf _ _ _ hP hD hS (lv_sub hl [3, 4, 2, 1, 5, 0] rfl)
          · refine lv_iinc (v := ((v.2.2.1) + 1)) (lv' := [(4, .int ((v.2.2.1) + 1)), (0, .ref h_t), (1, .int x1), (2, .int r7), (3, .int (w9.1))]) hx hb dX7_findBest_169 hl (k := 4) rfl rfl (by decide) rfl (fun ls hl => ?_)
            refine lv_goto (tgt := 60) hx hb dX7_findBest_172 (by decide) ?_
            exact ih _ hf _ _ _ hP hD hS (lv_sub hl [1, 2, 3, 4, 0] rfl)
        · replace hf := g11.2 c10
          refine lv_iload hx hb dX7_findBest_119 (lv_at hl 5 rfl) ?_
          refine lv_iload_n hx hb dX7_findBest_121 rfl (lv_at hl 2 rfl) ?_
          have g14 := ite_some hf
          refine lv_icmp_ne (tgt := 169) hx hb dX7_findBest_122 (by decide) (fun c13 => ?_) (fun c13 => ?_)
          · replace hf := g14.2 c13
            refine lv_iinc (v := ((v.2.2.1) + 1)) (lv' := [(4, .int ((v.2.2.1) + 1)), (0, .ref h_t), (1, .int x1), (2, .int (v.1)), (3, .int (v.2.1)), (5, .int r7), (6, .int (w9.1))]) hx hb dX7_findBest_169 hl (k := 4) rfl rfl (by decide) rfl (fun ls hl => ?_)
            refine lv_goto (tgt := 60) hx hb dX7_findBest_172 (by decide) ?_
            exact ih _ hf _ _ _ hP hD hS (lv_sub hl [1, 2, 3, 4, 0] rfl)
          · replace hf := g14.1 c13
            refine lv_iload hx hb dX7_findBest_125 (lv_at hl 6 rfl) ?_
            refine lv_iload_n hx hb dX7_findBest_127 rfl (lv_at hl 3 rfl) ?_
            have g16 := ite_some hf
            refine lv_icmp_ge (tgt := 169) hx hb dX7_findBest_128 (by decide) (fun c15 => ?_) (fun c15 => ?_)
            · replace hf := g16.1 c15
              refine lv_iinc (v := ((v.2.2.1) + 1)) (lv' := [(4, .int ((v.2.2.1) + 1)), (0, .ref h_t), (1, .int x1), (2, .int (v.1)), (3, .int (v.2.1)), (5, .int r7), (6, .int (w9.1))]) hx hb dX7_findBest_169 hl (k := 4) rfl rfl (by decide) rfl (fun ls hl => ?_)
              refine lv_goto (tgt := 60) hx hb dX7_findBest_172 (by decide) ?_
              exact ih _ hf _ _ _ hP hD hS (lv_sub hl [1, 2, 3, 4, 0] rfl)
            · replace hf := g16.2 c15
              refine lv_iload hx hb dX7_findBest_131 (lv_at hl 5 rfl) ?_
              refine lv_istore_n (lv' := [(2, .int r7), (0, .ref h_t), (1, .int x1), (3, .int (v.2.1)), (4, .int (v.2.2.1)), (5, .int r7), (6, .int (w9.1))]) hx hb dX7_findBest_133 rfl hl (by decide) rfl (fun ls hl => ?_)
              refine lv_iload hx hb dX7_findBest_134 (lv_at hl 6 rfl) ?_
              refine lv_istore_n (lv' := [(3, .int (w9.1)), (2, .int r7), (0, .ref h_t), (1, .int x1), (4, .int (v.2.2.1)), (5, .int r7), (6, .int (w9.1))]) hx hb dX7_findBest_136 rfl hl (by decide) rfl (fun ls hl => ?_)
              refine lv_iconst (v := 0) hx hb dX7_findBest_137 rfl ?_
              refine lv_istore (lv' := [(7, .int 0), (3, .int (w9.1)), (2, .int r7), (0, .ref h_t), (1, .int x1), (4, .int (v.2.2.1)), (5, .int r7), (6, .int (w9.1))]) hx hb dX7_findBest_138 hl (by decide) rfl (fun ls hl => ?_)
              refine mX7_findBest_B140 h_t q_t k x1 r7 (w9.1) (v.2.2.1) (w9.2.1, (va_up (va_up (va_up (va_up (va_up d_t.2 0 (r3.2.2 0)) 4 (w9.2.2 4)) 5 (w9.2.2 5)) 6 (w9.2.2 6)) 14 (v.2.2.2.2 14))) _ M hA hR (fun w17 hf H locs ls hP hD hS hl => ?_) _ _ hf _ _ _ hP hD hS (lv_sub hl [3, 4, 2, 1, 5, 0] rfl)
              · refine lv_iinc (v := ((v.2.2.1) + 1)) (lv' := [(4, .int ((v.2.2.1) + 1)), (0, .ref h_t), (1, .int x1), (2, .int r7), (3, .int (w9.1))]) hx hb dX7_findBest_169 hl (k := 4) rfl rfl (by decide) rfl (fun ls hl => ?_)
                refine lv_goto (tgt := 60) hx hb dX7_findBest_172 (by decide) ?_
                exact ih _ hf _ _ _ hP hD hS (lv_sub hl [1, 2, 3, 4, 0] rfl)
set_option maxHeartbeats 4000000 in
set_option maxRecDepth 100000 in
theorem mX7_findBest_B178 {l : Launch} {p : Program} {e : Env} {s : State} {m : MethodId} {args : Array Value} {below : List Frame} {meth : Method} {c : Code} {D : va_G} {cs : Nat → ClassId} {sk : Nat → Nat} {A : Nat → Prop} {Q : State → Prop} (h_t : Nat) (q_t : Nat → Nat) (k : Nat) (d_t : Dat) {rv : Dat}  (K214 : Dat → Option (Dat))
    (M : MC p s m args meth c D cs sk A RX7 cX7_findBest 8 none) (hA : ∀ q, s.heap.size ≤ q → A q) (hR : RetV p l e rm_X7_findBest s m args below meth c D cX7_findBest A Q [oX7 h_t q_t (rv.1), ((q_t 0), .inl (cs 0, 106, .inl (rv.2 0))), ((q_t 4), .inl (cs 0, 12, .inl (rv.2 4))), ((q_t 5), .inl (cs 0, 12, .inl (rv.2 5))), ((q_t 6), .inl (cs 0, 12, .inl (rv.2 6))), ((q_t 13), .inl (cs 0, 6, .inl (rv.2 13))), ((q_t 14), .inl (cs 0, 6, .inl (rv.2 14)))])
    (hK214 : ∀ (w : Dat), K214 w = some rv → ∀ (H : Heap) (locs : List Loc) (ls : Array Slot), va_P D vwCl [oX7 h_t q_t (d_t.1), ((q_t 0), .inl (cs 0, 106, .inl (w.2 0))), ((q_t 4), .inl (cs 0, 12, .inl (d_t.2 4))), ((q_t 5), .inl (cs 0, 12, .inl (d_t.2 5))), ((q_t 6), .inl (cs 0, 12, .inl (d_t.2 6))), ((q_t 13), .inl (cs 0, 6, .inl (d_t.2 13))), ((q_t 14), .inl (cs 0, 6, .inl (d_t.2 14)))] H → va_D A [oX7 h_t q_t (d_t.1), ((q_t 0), .inl (cs 0, 106, .inl (w.2 0))), ((q_t 4), .inl (cs 0, 12, .inl (d_t.2 4))), ((q_t 5), .inl (cs 0, 12, .inl (d_t.2 5))), ((q_t 6), .inl (cs 0, 12, .inl (d_t.2 6))), ((q_t 13), .inl (cs 0, 6, .inl (d_t.2 13))), ((q_t 14), .inl (cs 0, 6, .inl (d_t.2 14)))] → va_S A s.heap H locs → lv_has ls 8 [] → W p l e rm_X7_findBest s m args below meth c H locs 0 0 Q (F0 m 214 ls []))
    : ∀ (n : Nat) (v : Int32 × Dat), lp (fX7_findBest_B178 k d_t K214) n v = some rv → ∀ (H : Heap) (locs : List Loc) (ls : Array Slot), va_P D vwCl [oX7 h_t q_t (d_t.1), ((q_t 0), .inl (cs 0, 106, .inl (v.2.2 0))), ((q_t 4), .inl (cs 0, 12, .inl (d_t.2 4))), ((q_t 5), .inl (cs 0, 12, .inl (d_t.2 5))), ((q_t 6), .inl (cs 0, 12, .inl (d_t.2 6))), ((q_t 13), .inl (cs 0, 6, .inl (d_t.2 13))), ((q_t 14), .inl (cs 0, 6, .inl (d_t.2 14)))] H → va_D A [oX7 h_t q_t (d_t.1), ((q_t 0), .inl (cs 0, 106, .inl (v.2.2 0))), ((q_t 4), .inl (cs 0, 12, .inl (d_t.2 4))), ((q_t 5), .inl (cs 0, 12, .inl (d_t.2 5))), ((q_t 6), .inl (cs 0, 12, .inl (d_t.2 6))), ((q_t 13), .inl (cs 0, 6, .inl (d_t.2 13))), ((q_t 14), .inl (cs 0, 6, .inl (d_t.2 14)))] → va_S A s.heap H locs → lv_has ls 8 [(0, .ref h_t), (4, .int (v.1))] → W p l e rm_X7_findBest s m args below meth c H locs 0 0 Q (F0 m 178 ls []) := by
  obtain ⟨hx, hb, hml, hT, hown, hlk, hrt, hK, hN, hSE⟩ := id M
  refine lp_ind (fun rec ih v hf H locs ls hP hD hS hl => ?_)
  unfold fX7_findBest_B178 at hf
  refine lv_iload hx hb dX7_findBest_178 (lv_at hl 1 rfl) ?_
  refine lv_aload_n hx hb dX7_findBest_180 rfl (lv_at hl 0 rfl) ?_
  obtain ⟨r1, e2, hf⟩ := bind_some hf
  refine callVi (As := []) (rest := [.int (v.1)]) M (mX7_players l D cs sk h_t q_t k (d_t.1, (va_up d_t.2 0 (v.2.2 0))) e2) mw_X7_67 ln_X7_players ⟨rfl, rfl, Nat.le_of_ble_eq_true rfl, Nat.le_of_ble_eq_true rfl⟩ hP hD hS hA [0, 1] (by decide) rfl rfl (q0 := 0) rfl rfl rfl ⟨Nat.zero_le _, Nat.zero_le _⟩ hl.1 rfl (Nat.le_of_ble_eq_true rfl) dX7_findBest_181 (fun H locs hP hD hS => ?_)
  replace hP : va_P D vwCl [oX7 h_t q_t (d_t.1), ((q_t 0), .inl (cs 0, 106, .inl (v.2.2 0))), ((q_t 4), .inl (cs 0, 12, .inl (d_t.2 4))), ((q_t 5), .inl (cs 0, 12, .inl (d_t.2 5))), ((q_t 6), .inl (cs 0, 12, .inl (d_t.2 6))), ((q_t 13), .inl (cs 0, 6, .inl (d_t.2 13))), ((q_t 14), .inl (cs 0, 6, .inl (d_t.2 14)))] H := hP
  replace hD : va_D A [oX7 h_t q_t (d_t.1), ((q_t 0), .inl (cs 0, 106, .inl (v.2.2 0))), ((q_t 4), .inl (cs 0, 12, .inl (d_t.2 4))), ((q_t 5), .inl (cs 0, 12, .inl (d_t.2 5))), ((q_t 6), .inl (cs 0, 12, .inl (d_t.2 6))), ((q_t 13), .inl (cs 0, 6, .inl (d_t.2 13))), ((q_t 14), .inl (cs 0, 6, .inl (d_t.2 14)))] := hD
  have g4 := ite_some hf
  refine lv_icmp_ge (tgt := 214) hx hb dX7_findBest_184 (by decide) (fun c3 => ?_) (fun c3 => ?_)
  · replace hf := g4.1 c3
    exact hK214 _ hf _ _ _ hP hD hS (lv_sub hl [] rfl)
  · replace hf := g4.2 c3
    refine lv_aload_n hx hb dX7_findBest_187 rfl (lv_at hl 0 rfl) ?_
    refine va_get (D := D) (ci := 7) (v := .ref (q_t 0)) (C := RX7) (T := TX7) (N := 23) hx hb hT iX7 hown hK hP 0 rfl rfl 0 (by decide) (hT _ fw_X7_7) (fun _ h9 => h9) rfl dX7_findBest_188 ?_
    refine lv_bipush (v := 24) hx hb dX7_findBest_191 rfl ?_
    refine lv_iconst (v := 5) hx hb dX7_findBest_193 rfl ?_
    refine lv_iload hx hb dX7_findBest_194 (lv_at hl 1 rfl) ?_
    refine lv_imul hx hb dX7_findBest_196 ?_
    refine lv_iadd hx hb dX7_findBest_197 ?_
    refine lv_iconst (v := 1) hx hb dX7_findBest_198 rfl ?_
    refine lv_iadd hx hb dX7_findBest_199 ?_
    refine lv_aload_n hx hb dX7_findBest_200 rfl (lv_at hl 0 rfl) ?_
    refine va_get (D := D) (ci := 7) (v := .ref (q_t 13)) (C := RX7) (T := TX7) (N := 23) hx hb hT iX7 hown hK hP 0 rfl rfl 13 (by decide) (hT _ fw_X7_44) (fun _ h9 => h9) rfl dX7_findBest_201 ?_
    refine lv_iload hx hb dX7_findBest_204 (lv_at hl 1 rfl) ?_
    obtain ⟨hi, hf⟩ := chk_some hf
    refine va_iald (D := D) hx hb hK hP 5 0 rfl rfl hi dX7_findBest_206 ?_
    obtain ⟨hi, hf⟩ := chk_some hf
    refine va_iast (D := D) hx hb hK hP hD hS 1 0 rfl rfl hi dX7_findBest_207 (fun H locs hP hD hS => ?_)
    replace hP : va_P D vwCl [oX7 h_t q_t (d_t.1), ((q_t 0), .inl (cs 0, 106, .inl (upd (v.2.2 0) ((24 + (5 * (v.1))) + 1).toNatClampNeg ((d_t.2 13) (v.1).toNatClampNeg)))), ((q_t 4), .inl (cs 0, 12, .inl (d_t.2 4))), ((q_t 5), .inl (cs 0, 12, .inl (d_t.2 5))), ((q_t 6), .inl (cs 0, 12, .inl (d_t.2 6))), ((q_t 13), .inl (cs 0, 6, .inl (d_t.2 13))), ((q_t 14), .inl (cs 0, 6, .inl (d_t.2 14)))] H := hP
    replace hD : va_D A [oX7 h_t q_t (d_t.1), ((q_t 0), .inl (cs 0, 106, .inl (upd (v.2.2 0) ((24 + (5 * (v.1))) + 1).toNatClampNeg ((d_t.2 13) (v.1).toNatClampNeg)))), ((q_t 4), .inl (cs 0, 12, .inl (d_t.2 4))), ((q_t 5), .inl (cs 0, 12, .inl (d_t.2 5))), ((q_t 6), .inl (cs 0, 12, .inl (d_t.2 6))), ((q_t 13), .inl (cs 0, 6, .inl (d_t.2 13))), ((q_t 14), .inl (cs 0, 6, .inl (d_t.2 14)))] := hD
    refine lv_iinc (v := ((v.1) + 1)) (lv' := [(4, .int ((v.1) + 1)), (0, .ref h_t)]) hx hb dX7_findBest_208 hl (k := 1) rfl rfl (by decide) rfl (fun ls hl => ?_)
    refine lv_goto (tgt := 178) hx hb dX7_findBest_211 (by decide) ?_
    exact ih _ hf _ _ _ hP hD hS (lv_sub hl [1, 0] rfl)
set_option maxHeartbeats 4000000 in
set_option maxRecDepth 100000 in
theorem mX7_findBest (l : Launch) (D : va_G) (cs : Nat → ClassId) (sk : Nat → Nat) (h_t : Nat) (q_t : Nat → Nat) (k : Nat) (d_t : Dat) {rv : Dat} (hf : fX7_findBest k d_t = some rv) : CTv l yX7_findBest (Cond.code yX7_findBest cX7_findBest 8 none :: gtbl) rm_X7_findBest D cs sk [.ref h_t] [oX7 h_t q_t (d_t.1), ((q_t 0), .inl (cs 0, 106, .inl (d_t.2 0))), ((q_t 4), .inl (cs 0, 12, .inl (d_t.2 4))), ((q_t 5), .inl (cs 0, 12, .inl (d_t.2 5))), ((q_t 6), .inl (cs 0, 12, .inl (d_t.2 6))), ((q_t 13), .inl (cs 0, 6, .inl (d_t.2 13))), ((q_t 14), .inl (cs 0, 6, .inl (d_t.2 14)))] [oX7 h_t q_t (rv.1), ((q_t 0), .inl (cs 0, 106, .inl (rv.2 0))), ((q_t 4), .inl (cs 0, 12, .inl (rv.2 4))), ((q_t 5), .inl (cs 0, 12, .inl (rv.2 5))), ((q_t 6), .inl (cs 0, 12, .inl (rv.2 6))), ((q_t 13), .inl (cs 0, 6, .inl (rv.2 13))), ((q_t 14), .inl (cs 0, 6, .inl (rv.2 14)))] := by
  refine CTv.of RX7 (by decide +kernel) rfl (Nat.le_of_ble_eq_true rfl) (fun p e s m args below meth c A Q ls M hA hR hl hP hD hS => ?_)
  obtain ⟨hx, hb, hml, hT, hown, hlk, hrt, hK, hN, hSE⟩ := id M
  replace hl : lv_has ls 8 [(0, .ref h_t)] := hl
  unfold fX7_findBest at hf
  refine lv_iconst (v := 0) hx hb dX7_findBest_0 rfl ?_
  refine lv_istore_n (lv' := [(1, .int 0), (0, .ref h_t)]) hx hb dX7_findBest_1 rfl hl (by decide) rfl (fun ls hl => ?_)
  refine mX7_findBest_B2 h_t q_t k d_t _ M hA hR (fun w1 hf H locs ls hP hD hS hl => ?_) _ _ hf _ _ _ hP hD hS (lv_sub hl [1, 0] rfl)
  · refine lv_iconst (v := 1) hx hb dX7_findBest_28 rfl ?_
    refine lv_istore_n (lv' := [(1, .int 1), (0, .ref h_t)]) hx hb dX7_findBest_29 rfl hl (by decide) rfl (fun ls hl => ?_)
    refine lv_iconst (v := 0) hx hb dX7_findBest_30 rfl ?_
    refine lv_istore_n (lv' := [(2, .int 0), (1, .int 1), (0, .ref h_t)]) hx hb dX7_findBest_31 rfl hl (by decide) rfl (fun ls hl => ?_)
    refine mX7_findBest_B32 h_t q_t k (d_t.1, (va_up d_t.2 13 (w1.2 13))) _ M hA hR (fun w2 hf H locs ls hP hD hS hl => ?_) _ _ hf _ _ _ hP hD hS (lv_sub hl [2, 1, 0] rfl)
    · refine lv_iconst (v := (-1)) hx hb dX7_findBest_53 rfl ?_
      refine lv_istore_n (lv' := [(2, .int (-1)), (0, .ref h_t), (1, .int w2)]) hx hb dX7_findBest_54 rfl hl (by decide) rfl (fun ls hl => ?_)
      refine lv_iconst (v := 0) hx hb dX7_findBest_55 rfl ?_
      refine lv_istore_n (lv' := [(3, .int 0), (2, .int (-1)), (0, .ref h_t), (1, .int w2)]) hx hb dX7_findBest_56 rfl hl (by decide) rfl (fun ls hl => ?_)
      refine lv_iconst (v := 0) hx hb dX7_findBest_57 rfl ?_
      refine lv_istore (lv' := [(4, .int 0), (3, .int 0), (2, .int (-1)), (0, .ref h_t), (1, .int w2)]) hx hb dX7_findBest_58 hl (by decide) rfl (fun ls hl => ?_)
      refine mX7_findBest_B60 h_t q_t k w2 (d_t.1, (va_up d_t.2 13 (w1.2 13))) _ M hA hR (fun w3 hf H locs ls hP hD hS hl => ?_) _ _ hf _ _ _ hP hD hS (lv_sub hl [3, 4, 2, 1, 0] rfl)
      · refine lv_iconst (v := 0) hx hb dX7_findBest_175 rfl ?_
        refine lv_istore (lv' := [(4, .int 0), (0, .ref h_t)]) hx hb dX7_findBest_176 hl (by decide) rfl (fun ls hl => ?_)
        refine mX7_findBest_B178 h_t q_t k (w3.1, (va_up (va_up (va_up (va_up (va_up (va_up d_t.2 0 (w3.2 0)) 4 (w3.2 4)) 5 (w3.2 5)) 6 (w3.2 6)) 13 (w1.2 13)) 14 (w3.2 14))) _ M hA hR (fun w4 hf H locs ls hP hD hS hl => ?_) _ _ hf _ _ _ hP hD hS (lv_sub hl [1, 0] rfl)
        · have e9 := Option.some.inj hf
          subst e9
          exact hR _ _ _ _ dX7_findBest_214 hP hS
abbrev rm_X7_best : Room := { frames := 7, cells := 0, slots := 0, locals := 167 }
def fX7_best (k : Nat) (d_t : Dat) (x1 : Int32) : Option (Int32 × Dat) :=
  (fX7_isPlayer k d_t x1).bind (fun (r1 : Int32) => (if r1 = 0 then (fX7_bad k d_t (-2)).bind (fun (r17 : Int32 × Dat) => some ((r17.1), (d_t.1, (va_up d_t.2 3 (r17.2.2 3))))) else (fX7_windows k d_t).bind (fun (r5 : Int32) => (fX7_players k d_t).bind (fun (r7 : Int32) => (if r5 < r7 then some ((-1), d_t) else (fX7_ears k d_t).bind (fun (r11 : Int32) => (if r11 = 0 then some ((-1), d_t) else (fX7_findBest k ((upd d_t.1 8 0), d_t.2)).bind (fun (r15 : Dat) => chk 6 x1 (some (((r15.2 14) x1.toNatClampNeg), (r15.1, (va_up (va_up (va_up (va_up (va_up (va_up d_t.2 0 (r15.2 0)) 4 (r15.2 4)) 5 (r15.2 5)) 6 (r15.2 6)) 13 (r15.2 13)) 14 (r15.2 14)))))))))))))
set_option maxHeartbeats 4000000 in
set_option maxRecDepth 100000 in
theorem mX7_best (l : Launch) (D : va_G) (cs : Nat → ClassId) (sk : Nat → Nat) (h_t : Nat) (q_t : Nat → Nat) (k : Nat) (d_t : Dat) (x1 : Int32) {rv : Int32 × Dat} (hf : fX7_best k d_t x1 = some rv) : CTi l yX7_best (Cond.code yX7_best cX7_best 2 (some .int) :: gtbl) rm_X7_best D cs sk [.ref h_t, .int x1] [oX7 h_t q_t (d_t.1), ((q_t 0), .inl (cs 0, 106, .inl (d_t.2 0))), ((q_t 3), .inl (cs 0, 3, .inl (d_t.2 3))), ((q_t 4), .inl (cs 0, 12, .inl (d_t.2 4))), ((q_t 5), .inl (cs 0, 12, .inl (d_t.2 5))), ((q_t 6), .inl (cs 0, 12, .inl (d_t.2 6))), ((q_t 13), .inl (cs 0, 6, .inl (d_t.2 13))), ((q_t 14), .inl (cs 0, 6, .inl (d_t.2 14)))] (rv.1) [oX7 h_t q_t (rv.2.1), ((q_t 0), .inl (cs 0, 106, .inl (rv.2.2 0))), ((q_t 3), .inl (cs 0, 3, .inl (rv.2.2 3))), ((q_t 4), .inl (cs 0, 12, .inl (rv.2.2 4))), ((q_t 5), .inl (cs 0, 12, .inl (rv.2.2 5))), ((q_t 6), .inl (cs 0, 12, .inl (rv.2.2 6))), ((q_t 13), .inl (cs 0, 6, .inl (rv.2.2 13))), ((q_t 14), .inl (cs 0, 6, .inl (rv.2.2 14)))] := by
  refine CTi.of RX7 (by decide +kernel) rfl (Nat.le_of_ble_eq_true rfl) (fun p e s m args below meth c A Q ls M hA hR hl hP hD hS => ?_)
  obtain ⟨hx, hb, hml, hT, hown, hlk, hrt, hK, hN, hSE⟩ := id M
  replace hl : lv_has ls 2 [(0, .ref h_t), (1, .int x1)] := hl
  unfold fX7_best at hf
  refine lv_aload_n hx hb dX7_best_0 rfl (lv_at hl 0 rfl) ?_
  refine lv_iload_n hx hb dX7_best_1 rfl (lv_at hl 1 rfl) ?_
  obtain ⟨r1, e2, hf⟩ := bind_some hf
  refine callVi (As := [.int x1]) (rest := []) M (mX7_isPlayer l D cs sk h_t q_t k d_t x1 e2) mw_X7_115 ln_X7_isPlayer ⟨rfl, rfl, Nat.le_of_ble_eq_true rfl, Nat.le_of_ble_eq_true rfl⟩ hP hD hS hA [0, 1] (by decide) rfl rfl (q0 := 0) rfl rfl rfl ⟨Nat.zero_le _, Nat.zero_le _⟩ hl.1 rfl (Nat.le_of_ble_eq_true rfl) dX7_best_2 (fun H locs hP hD hS => ?_)
  replace hP : va_P D vwCl [oX7 h_t q_t (d_t.1), ((q_t 0), .inl (cs 0, 106, .inl (d_t.2 0))), ((q_t 3), .inl (cs 0, 3, .inl (d_t.2 3))), ((q_t 4), .inl (cs 0, 12, .inl (d_t.2 4))), ((q_t 5), .inl (cs 0, 12, .inl (d_t.2 5))), ((q_t 6), .inl (cs 0, 12, .inl (d_t.2 6))), ((q_t 13), .inl (cs 0, 6, .inl (d_t.2 13))), ((q_t 14), .inl (cs 0, 6, .inl (d_t.2 14)))] H := hP
  replace hD : va_D A [oX7 h_t q_t (d_t.1), ((q_t 0), .inl (cs 0, 106, .inl (d_t.2 0))), ((q_t 3), .inl (cs 0, 3, .inl (d_t.2 3))), ((q_t 4), .inl (cs 0, 12, .inl (d_t.2 4))), ((q_t 5), .inl (cs 0, 12, .inl (d_t.2 5))), ((q_t 6), .inl (cs 0, 12, .inl (d_t.2 6))), ((q_t 13), .inl (cs 0, 6, .inl (d_t.2 13))), ((q_t 14), .inl (cs 0, 6, .inl (d_t.2 14)))] := hD
  have g4 := ite_some hf
  refine lv_if_ne (tgt := 15) hx hb dX7_best_5 (by decide) (fun c3 => ?_) (fun c3 => ?_)
  · replace hf := g4.2 c3
    refine lv_aload_n hx hb dX7_best_15 rfl (lv_at hl 0 rfl) ?_
    obtain ⟨r5, e6, hf⟩ := bind_some hf
    refine callVi (As := []) (rest := []) M (mX7_windows l D cs sk h_t q_t k d_t e6) mw_X7_56 ln_X7_windows ⟨rfl, rfl, Nat.le_of_ble_eq_true rfl, Nat.le_of_ble_eq_true rfl⟩ hP hD hS hA [0, 1] (by decide) rfl rfl (q0 := 0) rfl rfl rfl ⟨Nat.zero_le _, Nat.zero_le _⟩ hl.1 rfl (Nat.le_of_ble_eq_true rfl) dX7_best_16 (fun H locs hP hD hS => ?_)
    replace hP : va_P D vwCl [oX7 h_t q_t (d_t.1), ((q_t 0), .inl (cs 0, 106, .inl (d_t.2 0))), ((q_t 3), .inl (cs 0, 3, .inl (d_t.2 3))), ((q_t 4), .inl (cs 0, 12, .inl (d_t.2 4))), ((q_t 5), .inl (cs 0, 12, .inl (d_t.2 5))), ((q_t 6), .inl (cs 0, 12, .inl (d_t.2 6))), ((q_t 13), .inl (cs 0, 6, .inl (d_t.2 13))), ((q_t 14), .inl (cs 0, 6, .inl (d_t.2 14)))] H := hP
    replace hD : va_D A [oX7 h_t q_t (d_t.1), ((q_t 0), .inl (cs 0, 106, .inl (d_t.2 0))), ((q_t 3), .inl (cs 0, 3, .inl (d_t.2 3))), ((q_t 4), .inl (cs 0, 12, .inl (d_t.2 4))), ((q_t 5), .inl (cs 0, 12, .inl (d_t.2 5))), ((q_t 6), .inl (cs 0, 12, .inl (d_t.2 6))), ((q_t 13), .inl (cs 0, 6, .inl (d_t.2 13))), ((q_t 14), .inl (cs 0, 6, .inl (d_t.2 14)))] := hD
    refine lv_aload_n hx hb dX7_best_19 rfl (lv_at hl 0 rfl) ?_
    obtain ⟨r7, e8, hf⟩ := bind_some hf
    refine callVi (As := []) (rest := [.int r5]) M (mX7_players l D cs sk h_t q_t k d_t e8) mw_X7_67 ln_X7_players ⟨rfl, rfl, Nat.le_of_ble_eq_true rfl, Nat.le_of_ble_eq_true rfl⟩ hP hD hS hA [0, 1] (by decide) rfl rfl (q0 := 0) rfl rfl rfl ⟨Nat.zero_le _, Nat.zero_le _⟩ hl.1 rfl (Nat.le_of_ble_eq_true rfl) dX7_best_20 (fun H locs hP hD hS => ?_)
    replace hP : va_P D vwCl [oX7 h_t q_t (d_t.1), ((q_t 0), .inl (cs 0, 106, .inl (d_t.2 0))), ((q_t 3), .inl (cs 0, 3, .inl (d_t.2 3))), ((q_t 4), .inl (cs 0, 12, .inl (d_t.2 4))), ((q_t 5), .inl (cs 0, 12, .inl (d_t.2 5))), ((q_t 6), .inl (cs 0, 12, .inl (d_t.2 6))), ((q_t 13), .inl (cs 0, 6, .inl (d_t.2 13))), ((q_t 14), .inl (cs 0, 6, .inl (d_t.2 14)))] H := hP
    replace hD : va_D A [oX7 h_t q_t (d_t.1), ((q_t 0), .inl (cs 0, 106, .inl (d_t.2 0))), ((q_t 3), .inl (cs 0, 3, .inl (d_t.2 3))), ((q_t 4), .inl (cs 0, 12, .inl (d_t.2 4))), ((q_t 5), .inl (cs 0, 12, .inl (d_t.2 5))), ((q_t 6), .inl (cs 0, 12, .inl (d_t.2 6))), ((q_t 13), .inl (cs 0, 6, .inl (d_t.2 13))), ((q_t 14), .inl (cs 0, 6, .inl (d_t.2 14)))] := hD
    have g10 := ite_some hf
    refine lv_icmp_lt (tgt := 33) hx hb dX7_best_23 (by decide) (fun c9 => ?_) (fun c9 => ?_)
    · replace hf := g10.1 c9
      refine lv_iconst (v := (-1)) hx hb dX7_best_33 rfl ?_
      have e9 := Option.some.inj hf
      subst e9
      exact hR _ _ _ _ dX7_best_34 hP hS
    · replace hf := g10.2 c9
      refine lv_aload_n hx hb dX7_best_26 rfl (lv_at hl 0 rfl) ?_
      obtain ⟨r11, e12, hf⟩ := bind_some hf
      refine callVi (As := []) (rest := []) M (mX7_ears l D cs sk h_t q_t k d_t e12) mw_X7_64 ln_X7_ears ⟨rfl, rfl, Nat.le_of_ble_eq_true rfl, Nat.le_of_ble_eq_true rfl⟩ hP hD hS hA [0, 1] (by decide) rfl rfl (q0 := 0) rfl rfl rfl ⟨Nat.zero_le _, Nat.zero_le _⟩ hl.1 rfl (Nat.le_of_ble_eq_true rfl) dX7_best_27 (fun H locs hP hD hS => ?_)
      replace hP : va_P D vwCl [oX7 h_t q_t (d_t.1), ((q_t 0), .inl (cs 0, 106, .inl (d_t.2 0))), ((q_t 3), .inl (cs 0, 3, .inl (d_t.2 3))), ((q_t 4), .inl (cs 0, 12, .inl (d_t.2 4))), ((q_t 5), .inl (cs 0, 12, .inl (d_t.2 5))), ((q_t 6), .inl (cs 0, 12, .inl (d_t.2 6))), ((q_t 13), .inl (cs 0, 6, .inl (d_t.2 13))), ((q_t 14), .inl (cs 0, 6, .inl (d_t.2 14)))] H := hP
      replace hD : va_D A [oX7 h_t q_t (d_t.1), ((q_t 0), .inl (cs 0, 106, .inl (d_t.2 0))), ((q_t 3), .inl (cs 0, 3, .inl (d_t.2 3))), ((q_t 4), .inl (cs 0, 12, .inl (d_t.2 4))), ((q_t 5), .inl (cs 0, 12, .inl (d_t.2 5))), ((q_t 6), .inl (cs 0, 12, .inl (d_t.2 6))), ((q_t 13), .inl (cs 0, 6, .inl (d_t.2 13))), ((q_t 14), .inl (cs 0, 6, .inl (d_t.2 14)))] := hD
      have g14 := ite_some hf
      refine lv_if_ne (tgt := 35) hx hb dX7_best_30 (by decide) (fun c13 => ?_) (fun c13 => ?_)
      · replace hf := g14.2 c13
        refine lv_aload_n hx hb dX7_best_35 rfl (lv_at hl 0 rfl) ?_
        refine lv_iconst (v := 0) hx hb dX7_best_36 rfl ?_
        refine va_put (D := D) (ci := 7) (v := .int 0) (ty := tyX7 8) (C := RX7) (T := TX7) (N := 23) hx hb hT iX7 tyX7 tyX7_ok nmX7 hown hK hP hD hS 0 rfl rfl 8 (by decide) (hT _ fw_X7_143) (fun _ h9 => h9) rfl (tyX7_ok 8 (by decide)) rfl rfl (Nat.le_of_ble_eq_true rfl) dX7_best_37 (fun H locs hP hD hS => ?_)
        replace hP : va_P D vwCl [oX7 h_t q_t (upd d_t.1 8 0), ((q_t 0), .inl (cs 0, 106, .inl (d_t.2 0))), ((q_t 3), .inl (cs 0, 3, .inl (d_t.2 3))), ((q_t 4), .inl (cs 0, 12, .inl (d_t.2 4))), ((q_t 5), .inl (cs 0, 12, .inl (d_t.2 5))), ((q_t 6), .inl (cs 0, 12, .inl (d_t.2 6))), ((q_t 13), .inl (cs 0, 6, .inl (d_t.2 13))), ((q_t 14), .inl (cs 0, 6, .inl (d_t.2 14)))] H := hP
        replace hD : va_D A [oX7 h_t q_t (upd d_t.1 8 0), ((q_t 0), .inl (cs 0, 106, .inl (d_t.2 0))), ((q_t 3), .inl (cs 0, 3, .inl (d_t.2 3))), ((q_t 4), .inl (cs 0, 12, .inl (d_t.2 4))), ((q_t 5), .inl (cs 0, 12, .inl (d_t.2 5))), ((q_t 6), .inl (cs 0, 12, .inl (d_t.2 6))), ((q_t 13), .inl (cs 0, 6, .inl (d_t.2 13))), ((q_t 14), .inl (cs 0, 6, .inl (d_t.2 14)))] := hD
        refine lv_aload_n hx hb dX7_best_40 rfl (lv_at hl 0 rfl) ?_
        obtain ⟨r15, e16, hf⟩ := bind_some hf
        refine callVv (As := []) (rest := []) M (mX7_findBest l D cs sk h_t q_t k ((upd d_t.1 8 0), d_t.2) e16) mw_X7_212 ln_X7_findBest ⟨rfl, rfl, Nat.le_of_ble_eq_true rfl, Nat.le_of_ble_eq_true rfl⟩ hP hD hS hA [0, 1, 3, 4, 5, 6, 7] (by decide) rfl rfl (q0 := 0) rfl rfl rfl ⟨Nat.zero_le _, Nat.zero_le _⟩ hl.1 rfl (Nat.le_of_ble_eq_true rfl) dX7_best_41 (fun H locs hP hD hS => ?_)
        replace hP : va_P D vwCl [oX7 h_t q_t (r15.1), ((q_t 0), .inl (cs 0, 106, .inl (r15.2 0))), ((q_t 3), .inl (cs 0, 3, .inl (d_t.2 3))), ((q_t 4), .inl (cs 0, 12, .inl (r15.2 4))), ((q_t 5), .inl (cs 0, 12, .inl (r15.2 5))), ((q_t 6), .inl (cs 0, 12, .inl (r15.2 6))), ((q_t 13), .inl (cs 0, 6, .inl (r15.2 13))), ((q_t 14), .inl (cs 0, 6, .inl (r15.2 14)))] H := hP
        replace hD : va_D A [oX7 h_t q_t (r15.1), ((q_t 0), .inl (cs 0, 106, .inl (r15.2 0))), ((q_t 3), .inl (cs 0, 3, .inl (d_t.2 3))), ((q_t 4), .inl (cs 0, 12, .inl (r15.2 4))), ((q_t 5), .inl (cs 0, 12, .inl (r15.2 5))), ((q_t 6), .inl (cs 0, 12, .inl (r15.2 6))), ((q_t 13), .inl (cs 0, 6, .inl (r15.2 13))), ((q_t 14), .inl (cs 0, 6, .inl (r15.2 14)))] := hD
        refine lv_aload_n hx hb dX7_best_44 rfl (lv_at hl 0 rfl) ?_
        refine va_get (D := D) (ci := 7) (v := .ref (q_t 14)) (C := RX7) (T := TX7) (N := 23) hx hb hT iX7 hown hK hP 0 rfl rfl 14 (by decide) (hT _ fw_X7_47) (fun _ h9 => h9) rfl dX7_best_45 ?_
        refine lv_iload_n hx hb dX7_best_48 rfl (lv_at hl 1 rfl) ?_
        obtain ⟨hi, hf⟩ := chk_some hf
        refine va_iald (D := D) hx hb hK hP 7 0 rfl rfl hi dX7_best_49 ?_
        have e9 := Option.some.inj hf
        subst e9
        exact hR _ _ _ _ dX7_best_50 hP hS
      · replace hf := g14.1 c13
        refine lv_iconst (v := (-1)) hx hb dX7_best_33 rfl ?_
        have e9 := Option.some.inj hf
        subst e9
        exact hR _ _ _ _ dX7_best_34 hP hS
  · replace hf := g4.1 c3
    refine lv_aload_n hx hb dX7_best_8 rfl (lv_at hl 0 rfl) ?_
    refine lv_bipush (v := (-2)) hx hb dX7_best_9 rfl ?_
    obtain ⟨r17, e18, hf⟩ := bind_some hf
    refine callVi (As := [.int (-2)]) (rest := []) M (mX7_bad l D cs sk h_t q_t k d_t (-2) e18) mw_X7_76 ln_X7_bad ⟨rfl, rfl, Nat.le_of_ble_eq_true rfl, Nat.le_of_ble_eq_true rfl⟩ hP hD hS hA [0, 2] (by decide) rfl rfl (q0 := 0) rfl rfl rfl ⟨Nat.zero_le _, Nat.zero_le _⟩ hl.1 rfl (Nat.le_of_ble_eq_true rfl) dX7_best_11 (fun H locs hP hD hS => ?_)
    replace hP : va_P D vwCl [oX7 h_t q_t (d_t.1), ((q_t 0), .inl (cs 0, 106, .inl (d_t.2 0))), ((q_t 3), .inl (cs 0, 3, .inl (r17.2.2 3))), ((q_t 4), .inl (cs 0, 12, .inl (d_t.2 4))), ((q_t 5), .inl (cs 0, 12, .inl (d_t.2 5))), ((q_t 6), .inl (cs 0, 12, .inl (d_t.2 6))), ((q_t 13), .inl (cs 0, 6, .inl (d_t.2 13))), ((q_t 14), .inl (cs 0, 6, .inl (d_t.2 14)))] H := hP
    replace hD : va_D A [oX7 h_t q_t (d_t.1), ((q_t 0), .inl (cs 0, 106, .inl (d_t.2 0))), ((q_t 3), .inl (cs 0, 3, .inl (r17.2.2 3))), ((q_t 4), .inl (cs 0, 12, .inl (d_t.2 4))), ((q_t 5), .inl (cs 0, 12, .inl (d_t.2 5))), ((q_t 6), .inl (cs 0, 12, .inl (d_t.2 6))), ((q_t 13), .inl (cs 0, 6, .inl (d_t.2 13))), ((q_t 14), .inl (cs 0, 6, .inl (d_t.2 14)))] := hD
    have e9 := Option.some.inj hf
    subst e9
    exact hR _ _ _ _ dX7_best_14 hP hS
abbrev rm_X7_wrong : Room := { frames := 3, cells := 0, slots := 0, locals := 68 }
def fX7_wrong_B87 (k : Nat) (x1 : Int32) (x2 : Int32) (x3 : Int32) (x4 : Int32) (x6 : Int32) (d_t : Dat) (K174 : Int32 → Option (Int32 × Dat)) (rec : Int32 × Int32 × Int32 → Option (Int32 × Dat)) (v : Int32 × Int32 × Int32) : Option (Int32 × Dat) :=
  (fX7_ears k d_t).bind (fun (r1 : Int32) => (if r1 ≤ (v.2.2) then K174 (v.2.1) else (if ((x1 >>> ((v.2.2) &&& 31)) &&& 1) = 1 then (if (v.2.2) = 0 then (fX7_soundOf k d_t x6 (v.2.2)).bind (fun (r27 : Int32) => (if (v.2.1) = 0 then rec ((x2 - r27), 0, ((v.2.2) + 1)) else (if (v.1) = 1000000 then rec ((x2 - r27), 1, ((v.2.2) + 1)) else (if (v.1) = (x2 - r27) then rec ((x2 - r27), 1, ((v.2.2) + 1)) else rec ((x2 - r27), 0, ((v.2.2) + 1)))))) else (if (v.2.2) = 1 then (fX7_soundOf k d_t x6 (v.2.2)).bind (fun (r19 : Int32) => (if (v.2.1) = 0 then rec ((x3 - r19), 0, ((v.2.2) + 1)) else (if (v.1) = 1000000 then rec ((x3 - r19), 1, ((v.2.2) + 1)) else (if (v.1) = (x3 - r19) then rec ((x3 - r19), 1, ((v.2.2) + 1)) else rec ((x3 - r19), 0, ((v.2.2) + 1)))))) else (fX7_soundOf k d_t x6 (v.2.2)).bind (fun (r11 : Int32) => (if (v.2.1) = 0 then rec ((x4 - r11), 0, ((v.2.2) + 1)) else (if (v.1) = 1000000 then rec ((x4 - r11), 1, ((v.2.2) + 1)) else (if (v.1) = (x4 - r11) then rec ((x4 - r11), 1, ((v.2.2) + 1)) else rec ((x4 - r11), 0, ((v.2.2) + 1)))))))) else rec ((v.1), (v.2.1), ((v.2.2) + 1)))))
def fX7_wrong_B68 (k : Nat) (x1 : Int32) (x2 : Int32) (x3 : Int32) (x4 : Int32) (d_t : Dat) (K198 : Int32 → Option (Int32 × Dat)) (rec : Int32 × Int32 → Option (Int32 × Dat)) (v : Int32 × Int32) : Option (Int32 × Dat) :=
  (fX7_windows k d_t).bind (fun (r1 : Int32) => (if r1 ≤ (v.2) then K198 (v.1) else lp (fX7_wrong_B87 k x1 x2 x3 x4 (v.2) d_t (fun (w5 : Int32) => (if w5 = 0 then rec (((v.1) ||| 0), ((v.2) + 1)) else rec (((v.1) ||| (1 <<< ((v.2) &&& 31))), ((v.2) + 1))))) k (1000000, 1, 0)))
def fX7_wrong (k : Nat) (d_t : Dat) (x1 : Int32) (x2 : Int32) (x3 : Int32) (x4 : Int32) : Option (Int32 × Dat) :=
  (fX7_ears k d_t).bind (fun (r1 : Int32) => (fX7_in k x1.toInt64 1 ((1 <<< (r1 &&& 31)) - 1).toInt64).bind (fun (r3 : Int32) => (if r3 = 0 then (fX7_bad k d_t (-2)).bind (fun (r7 : Int32 × Dat) => some ((r7.1), (d_t.1, (va_up d_t.2 3 (r7.2.2 3))))) else (fX7_in k x2.toInt64 0 9999).bind (fun (r9 : Int32) => (if r9 = 0 then (fX7_bad k d_t (-2)).bind (fun (r13 : Int32 × Dat) => some ((r13.1), (d_t.1, (va_up d_t.2 3 (r13.2.2 3))))) else (fX7_in k x3.toInt64 0 9999).bind (fun (r15 : Int32) => (if r15 = 0 then (fX7_bad k d_t (-2)).bind (fun (r19 : Int32 × Dat) => some ((r19.1), (d_t.1, (va_up d_t.2 3 (r19.2.2 3))))) else (fX7_in k x4.toInt64 0 9999).bind (fun (r21 : Int32) => (if r21 = 0 then (fX7_bad k d_t (-2)).bind (fun (r28 : Int32 × Dat) => some ((r28.1), (d_t.1, (va_up d_t.2 3 (r28.2.2 3))))) else lp (fX7_wrong_B68 k x1 x2 x3 x4 d_t (fun (w25 : Int32) => (if w25 = 0 then some ((-1), d_t) else some (w25, d_t)))) k (0, 0))))))))))
set_option maxHeartbeats 4000000 in
set_option maxRecDepth 100000 in
theorem mX7_wrong_B87 {l : Launch} {p : Program} {e : Env} {s : State} {m : MethodId} {args : Array Value} {below : List Frame} {meth : Method} {c : Code} {D : va_G} {cs : Nat → ClassId} {sk : Nat → Nat} {A : Nat → Prop} {Q : State → Prop} (h_t : Nat) (q_t : Nat → Nat) (k : Nat) (x1 : Int32) (x2 : Int32) (x3 : Int32) (x4 : Int32) (x5 : Int32) (x6 : Int32) (d_t : Dat) {rv : Int32 × Dat}  (K174 : Int32 → Option (Int32 × Dat))
    (M : MC p s m args meth c D cs sk A RX7 cX7_wrong 11 (some .int)) (hA : ∀ q, s.heap.size ≤ q → A q) (hR : RetI p l e rm_X7_wrong s m args below meth c D cX7_wrong A Q (rv.1) [oX7 h_t q_t (d_t.1), ((q_t 0), .inl (cs 0, 106, .inl (d_t.2 0))), ((q_t 3), .inl (cs 0, 3, .inl (rv.2.2 3)))])
    (hK174 : ∀ (w : Int32), K174 w = some rv → ∀ (H : Heap) (locs : List Loc) (ls : Array Slot), va_P D vwCl [oX7 h_t q_t (d_t.1), ((q_t 0), .inl (cs 0, 106, .inl (d_t.2 0))), ((q_t 3), .inl (cs 0, 3, .inl (d_t.2 3)))] H → va_D A [oX7 h_t q_t (d_t.1), ((q_t 0), .inl (cs 0, 106, .inl (d_t.2 0))), ((q_t 3), .inl (cs 0, 3, .inl (d_t.2 3)))] → va_S A s.heap H locs → lv_has ls 11 [(0, .ref h_t), (1, .int x1), (2, .int x2), (3, .int x3), (4, .int x4), (5, .int x5), (6, .int x6), (8, .int w)] → W p l e rm_X7_wrong s m args below meth c H locs 0 0 Q (F0 m 174 ls []))
    : ∀ (n : Nat) (v : Int32 × Int32 × Int32), lp (fX7_wrong_B87 k x1 x2 x3 x4 x6 d_t K174) n v = some rv → ∀ (H : Heap) (locs : List Loc) (ls : Array Slot), va_P D vwCl [oX7 h_t q_t (d_t.1), ((q_t 0), .inl (cs 0, 106, .inl (d_t.2 0))), ((q_t 3), .inl (cs 0, 3, .inl (d_t.2 3)))] H → va_D A [oX7 h_t q_t (d_t.1), ((q_t 0), .inl (cs 0, 106, .inl (d_t.2 0))), ((q_t 3), .inl (cs 0, 3, .inl (d_t.2 3)))] → va_S A s.heap H locs → lv_has ls 11 [(0, .ref h_t), (1, .int x1), (2, .int x2), (3, .int x3), (4, .int x4), (5, .int x5), (6, .int x6), (7, .int (v.1)), (8, .int (v.2.1)), (9, .int (v.2.2))] → W p l e rm_X7_wrong s m args below meth c H locs 0 0 Q (F0 m 87 ls []) := by
  obtain ⟨hx, hb, hml, hT, hown, hlk, hrt, hK, hN, hSE⟩ := id M
  refine lp_ind (fun rec ih v hf H locs ls hP hD hS hl => ?_)
  unfold fX7_wrong_B87 at hf
  refine lv_iload hx hb dX7_wrong_87 (lv_at hl 9 rfl) ?_
  refine lv_aload_n hx hb dX7_wrong_89 rfl (lv_at hl 0 rfl) ?_
  obtain ⟨r1, e2, hf⟩ := bind_some hf
  refine callVi (As := []) (rest := [.int (v.2.2)]) M (mX7_ears l D cs sk h_t q_t k d_t e2) mw_X7_64 ln_X7_ears ⟨rfl, rfl, Nat.le_of_ble_eq_true rfl, Nat.le_of_ble_eq_true rfl⟩ hP hD hS hA [0, 1] (by decide) rfl rfl (q0 := 0) rfl rfl rfl ⟨Nat.zero_le _, Nat.zero_le _⟩ hl.1 rfl (Nat.le_of_ble_eq_true rfl) dX7_wrong_90 (fun H locs hP hD hS => ?_)
  replace hP : va_P D vwCl [oX7 h_t q_t (d_t.1), ((q_t 0), .inl (cs 0, 106, .inl (d_t.2 0))), ((q_t 3), .inl (cs 0, 3, .inl (d_t.2 3)))] H := hP
  replace hD : va_D A [oX7 h_t q_t (d_t.1), ((q_t 0), .inl (cs 0, 106, .inl (d_t.2 0))), ((q_t 3), .inl (cs 0, 3, .inl (d_t.2 3)))] := hD
  have g4 := ite_some hf
  refine lv_icmp_ge (tgt := 174) hx hb dX7_wrong_93 (by decide) (fun c3 => ?_) (fun c3 => ?_)
  · replace hf := g4.1 c3
    exact hK174 _ hf _ _ _ hP hD hS (lv_sub hl [0, 1, 2, 3, 4, 5, 6, 8] rfl)
  · replace hf := g4.2 c3
    refine lv_iload_n hx hb dX7_wrong_96 rfl (lv_at hl 1 rfl) ?_
    refine lv_iload hx hb dX7_wrong_97 (lv_at hl 9 rfl) ?_
    refine lv_ishr hx hb dX7_wrong_99 ?_
    refine lv_iconst (v := 1) hx hb dX7_wrong_100 rfl ?_
    refine lv_iand hx hb dX7_wrong_101 ?_
    refine lv_iconst (v := 1) hx hb dX7_wrong_102 rfl ?_
    have g6 := ite_some hf
    refine lv_icmp_ne (tgt := 168) hx hb dX7_wrong_103 (by decide) (fun c5 => ?_) (fun c5 => ?_)
    · replace hf := g6.2 c5
      refine lv_iinc (v := ((v.2.2) + 1)) (lv' := [(9, .int ((v.2.2) + 1)), (0, .ref h_t), (1, .int x1), (2, .int x2), (3, .int x3), (4, .int x4), (5, .int x5), (6, .int x6), (7, .int (v.1)), (8, .int (v.2.1))]) hx hb dX7_wrong_168 hl (k := 9) rfl rfl (by decide) rfl (fun ls hl => ?_)
      refine lv_goto (tgt := 87) hx hb dX7_wrong_171 (by decide) ?_
      exact ih _ hf _ _ _ hP hD hS (lv_sub hl [1, 2, 3, 4, 5, 6, 7, 8, 9, 0] rfl)
    · replace hf := g6.1 c5
      refine lv_iload hx hb dX7_wrong_106 (lv_at hl 9 rfl) ?_
      have g8 := ite_some hf
      refine lv_if_ne (tgt := 115) hx hb dX7_wrong_108 (by decide) (fun c7 => ?_) (fun c7 => ?_)
      · replace hf := g8.2 c7
        refine lv_iload hx hb dX7_wrong_115 (lv_at hl 9 rfl) ?_
        refine lv_iconst (v := 1) hx hb dX7_wrong_117 rfl ?_
        have g10 := ite_some hf
        refine lv_icmp_ne (tgt := 125) hx hb dX7_wrong_118 (by decide) (fun c9 => ?_) (fun c9 => ?_)
        · replace hf := g10.2 c9
          refine lv_iload hx hb dX7_wrong_125 (lv_at hl 4 rfl) ?_
          refine lv_aload_n hx hb dX7_wrong_127 rfl (lv_at hl 0 rfl) ?_
          refine lv_iload hx hb dX7_wrong_128 (lv_at hl 6 rfl) ?_
          refine lv_iload hx hb dX7_wrong_130 (lv_at hl 9 rfl) ?_
          obtain ⟨r11, e12, hf⟩ := bind_some hf
          refine callVi (As := [.int x6, .int (v.2.2)]) (rest := [.int x4]) M (mX7_soundOf l D cs sk h_t q_t k d_t x6 (v.2.2) e12) mw_X7_136 ln_X7_soundOf ⟨rfl, rfl, Nat.le_of_ble_eq_true rfl, Nat.le_of_ble_eq_true rfl⟩ hP hD hS hA [0, 1] (by decide) rfl rfl (q0 := 0) rfl rfl rfl ⟨Nat.zero_le _, Nat.zero_le _⟩ hl.1 rfl (Nat.le_of_ble_eq_true rfl) dX7_wrong_132 (fun H locs hP hD hS => ?_)
          replace hP : va_P D vwCl [oX7 h_t q_t (d_t.1), ((q_t 0), .inl (cs 0, 106, .inl (d_t.2 0))), ((q_t 3), .inl (cs 0, 3, .inl (d_t.2 3)))] H := hP
          replace hD : va_D A [oX7 h_t q_t (d_t.1), ((q_t 0), .inl (cs 0, 106, .inl (d_t.2 0))), ((q_t 3), .inl (cs 0, 3, .inl (d_t.2 3)))] := hD
          refine lv_isub hx hb dX7_wrong_135 ?_
          refine lv_istore (lv' := [(10, .int (x4 - r11)), (0, .ref h_t), (1, .int x1), (2, .int x2), (3, .int x3), (4, .int x4), (5, .int x5), (6, .int x6), (7, .int (v.1)), (8, .int (v.2.1)), (9, .int (v.2.2))]) hx hb dX7_wrong_136 hl (by decide) rfl (fun ls hl => ?_)
          refine lv_iload hx hb dX7_wrong_138 (lv_at hl 9 rfl) ?_
          have g14 := ite_some hf
          refine lv_if_eq (tgt := 161) hx hb dX7_wrong_140 (by decide) (fun c13 => ?_) (fun c13 => ?_)
          · replace hf := g14.1 c13
            refine lv_iconst (v := 0) hx hb dX7_wrong_161 rfl ?_
            refine lv_istore (lv' := [(8, .int 0), (10, .int (x4 - r11)), (0, .ref h_t), (1, .int x1), (2, .int x2), (3, .int x3), (4, .int x4), (5, .int x5), (6, .int x6), (7, .int (v.1)), (9, .int (v.2.2))]) hx hb dX7_wrong_162 hl (by decide) rfl (fun ls hl => ?_)
            refine lv_iload hx hb dX7_wrong_164 (lv_at hl 1 rfl) ?_
            refine lv_istore (lv' := [(7, .int (x4 - r11)), (8, .int 0), (10, .int (x4 - r11)), (0, .ref h_t), (1, .int x1), (2, .int x2), (3, .int x3), (4, .int x4), (5, .int x5), (6, .int x6), (9, .int (v.2.2))]) hx hb dX7_wrong_166 hl (by decide) rfl (fun ls hl => ?_)
            refine lv_iinc (v := ((v.2.2) + 1)) (lv' := [(9, .int ((v.2.2) + 1)), (7, .int (x4 - r11)), (8, .int 0), (10, .int (x4 - r11)), (0, .ref h_t), (1, .int x1), (2, .int x2), (3, .int x3), (4, .int x4), (5, .int x5), (6, .int x6)]) hx hb dX7_wrong_168 hl (k := 10) rfl rfl (by decide) rfl (fun ls hl => ?_)
            refine lv_goto (tgt := 87) hx hb dX7_wrong_171 (by decide) ?_
            exact ih _ hf _ _ _ hP hD hS (lv_sub hl [4, 5, 6, 7, 8, 9, 10, 1, 2, 0] rfl)
          · replace hf := g14.2 c13
            refine lv_iload hx hb dX7_wrong_143 (lv_at hl 8 rfl) ?_
            refine lv_ldc (v := 1000000) hx hb hown (hT _ kw_X7_165) dX7_wrong_145 ?_
            have g16 := ite_some hf
            refine lv_icmp_eq (tgt := 157) hx hb dX7_wrong_147 (by decide) (fun c15 => ?_) (fun c15 => ?_)
            · replace hf := g16.1 c15
              refine lv_iconst (v := 1) hx hb dX7_wrong_157 rfl ?_
              refine lv_goto (tgt := 162) hx hb dX7_wrong_158 (by decide) ?_
              refine lv_istore (lv' := [(8, .int 1), (10, .int (x4 - r11)), (0, .ref h_t), (1, .int x1), (2, .int x2), (3, .int x3), (4, .int x4), (5, .int x5), (6, .int x6), (7, .int (v.1)), (9, .int (v.2.2))]) hx hb dX7_wrong_162 hl (by decide) rfl (fun ls hl => ?_)
              refine lv_iload hx hb dX7_wrong_164 (lv_at hl 1 rfl) ?_
              refine lv_istore (lv' := [(7, .int (x4 - r11)), (8, .int 1), (10, .int (x4 - r11)), (0, .ref h_t), (1, .int x1), (2, .int x2), (3, .int x3), (4, .int x4), (5, .int x5), (6, .int x6), (9, .int (v.2.2))]) hx hb dX7_wrong_166 hl (by decide) rfl (fun ls hl => ?_)
              refine lv_iinc (v := ((v.2.2) + 1)) (lv' := [(9, .int ((v.2.2) + 1)), (7, .int (x4 - r11)), (8, .int 1), (10, .int (x4 - r11)), (0, .ref h_t), (1, .int x1), (2, .int x2), (3, .int x3), (4, .int x4), (5, .int x5), (6, .int x6)]) hx hb dX7_wrong_168 hl (k := 10) rfl rfl (by decide) rfl (fun ls hl => ?_)
              refine lv_goto (tgt := 87) hx hb dX7_wrong_171 (by decide) ?_
              exact ih _ hf _ _ _ hP hD hS (lv_sub hl [4, 5, 6, 7, 8, 9, 10, 1, 2, 0] rfl)
            · replace hf := g16.2 c15
              refine lv_iload hx hb dX7_wrong_150 (lv_at hl 8 rfl) ?_
              refine lv_iload hx hb dX7_wrong_152 (lv_at hl 0 rfl) ?_
              have g18 := ite_some hf
              refine lv_icmp_ne (tgt := 161) hx hb dX7_wrong_154 (by decide) (fun c17 => ?_) (fun c17 => ?_)
              · replace hf := g18.2 c17
                refine lv_iconst (v := 0) hx hb dX7_wrong_161 rfl ?_
                refine lv_istore (lv' := [(8, .int 0), (10, .int (x4 - r11)), (0, .ref h_t), (1, .int x1), (2, .int x2), (3, .int x3), (4, .int x4), (5, .int x5), (6, .int x6), (7, .int (v.1)), (9, .int (v.2.2))]) hx hb dX7_wrong_162 hl (by decide) rfl (fun ls hl => ?_)
                refine lv_iload hx hb dX7_wrong_164 (lv_at hl 1 rfl) ?_
                refine lv_istore (lv' := [(7, .int (x4 - r11)), (8, .int 0), (10, .int (x4 - r11)), (0, .ref h_t), (1, .int x1), (2, .int x2), (3, .int x3), (4, .int x4), (5, .int x5), (6, .int x6), (9, .int (v.2.2))]) hx hb dX7_wrong_166 hl (by decide) rfl (fun ls hl => ?_)
                refine lv_iinc (v := ((v.2.2) + 1)) (lv' := [(9, .int ((v.2.2) + 1)), (7, .int (x4 - r11)), (8, .int 0), (10, .int (x4 - r11)), (0, .ref h_t), (1, .int x1), (2, .int x2), (3, .int x3), (4, .int x4), (5, .int x5), (6, .int x6)]) hx hb dX7_wrong_168 hl (k := 10) rfl rfl (by decide) rfl (fun ls hl => ?_)
                refine lv_goto (tgt := 87) hx hb dX7_wrong_171 (by decide) ?_
                exact ih _ hf _ _ _ hP hD hS (lv_sub hl [4, 5, 6, 7, 8, 9, 10, 1, 2, 0] rfl)
              · replace hf := g18.1 c17
                refine lv_iconst (v := 1) hx hb dX7_wrong_157 rfl ?_
                refine lv_goto (tgt := 162) hx hb dX7_wrong_158 (by decide) ?_
                refine lv_istore (lv' := [(8, .int 1), (10, .int (x4 - r11)), (0, .ref h_t), (1, .int x1), (2, .int x2), (3, .int x3), (4, .int x4), (5, .int x5), (6, .int x6), (7, .int (v.1)), (9, .int (v.2.2))]) hx hb dX7_wrong_162 hl (by decide) rfl (fun ls hl => ?_)
                refine lv_iload hx hb dX7_wrong_164 (lv_at hl 1 rfl) ?_
                refine lv_istore (lv' := [(7, .int (x4 - r11)), (8, .int 1), (10, .int (x4 - r11)), (0, .ref h_t), (1, .int x1), (2, .int x2), (3, .int x3), (4, .int x4), (5, .int x5), (6, .int x6), (9, .int (v.2.2))]) hx hb dX7_wrong_166 hl (by decide) rfl (fun ls hl => ?_)
                refine lv_iinc (v := ((v.2.2) + 1)) (lv' := [(9, .int ((v.2.2) + 1)), (7, .int (x4 - r11)), (8, .int 1), (10, .int (x4 - r11)), (0, .ref h_t), (1, .int x1), (2, .int x2), (3, .int x3), (4, .int x4), (5, .int x5), (6, .int x6)]) hx hb dX7_wrong_168 hl (k := 10) rfl rfl (by decide) rfl (fun ls hl => ?_)
                refine lv_goto (tgt := 87) hx hb dX7_wrong_171 (by decide) ?_
                exact ih _ hf _ _ _ hP hD hS (lv_sub hl [4, 5, 6, 7, 8, 9, 10, 1, 2, 0] rfl)
        · replace hf := g10.1 c9
          refine lv_iload_n hx hb dX7_wrong_121 rfl (lv_at hl 3 rfl) ?_
          refine lv_goto (tgt := 127) hx hb dX7_wrong_122 (by decide) ?_
          refine lv_aload_n hx hb dX7_wrong_127 rfl (lv_at hl 0 rfl) ?_
          refine lv_iload hx hb dX7_wrong_128 (lv_at hl 6 rfl) ?_
          refine lv_iload hx hb dX7_wrong_130 (lv_at hl 9 rfl) ?_
          obtain ⟨r19, e20, hf⟩ := bind_some hf
          refine callVi (As := [.int x6, .int (v.2.2)]) (rest := [.int x3]) M (mX7_soundOf l D cs sk h_t q_t k d_t x6 (v.2.2) e20) mw_X7_136 ln_X7_soundOf ⟨rfl, rfl, Nat.le_of_ble_eq_true rfl, Nat.le_of_ble_eq_true rfl⟩ hP hD hS hA [0, 1] (by decide) rfl rfl (q0 := 0) rfl rfl rfl ⟨Nat.zero_le _, Nat.zero_le _⟩ hl.1 rfl (Nat.le_of_ble_eq_true rfl) dX7_wrong_132 (fun H locs hP hD hS => ?_)
          replace hP : va_P D vwCl [oX7 h_t q_t (d_t.1), ((q_t 0), .inl (cs 0, 106, .inl (d_t.2 0))), ((q_t 3), .inl (cs 0, 3, .inl (d_t.2 3)))] H := hP
          replace hD : va_D A [oX7 h_t q_t (d_t.1), ((q_t 0), .inl (cs 0, 106, .inl (d_t.2 0))), ((q_t 3), .inl (cs 0, 3, .inl (d_t.2 3)))] := hD
          refine lv_isub hx hb dX7_wrong_135 ?_
          refine lv_istore (lv' := [(10, .int (x3 - r19)), (0, .ref h_t), (1, .int x1), (2, .int x2), (3, .int x3), (4, .int x4), (5, .int x5), (6, .int x6), (7, .int (v.1)), (8, .int (v.2.1)), (9, .int (v.2.2))]) hx hb dX7_wrong_136 hl (by decide) rfl (fun ls hl => ?_)
          refine lv_iload hx hb dX7_wrong_138 (lv_at hl 9 rfl) ?_
          have g22 := ite_some hf
          refine lv_if_eq (tgt := 161) hx hb dX7_wrong_140 (by decide) (fun c21 => ?_) (fun c21 => ?_)
          · replace hf := g22.1 c21
            refine lv_iconst (v := 0) hx hb dX7_wrong_161 rfl ?_
            refine lv_istore (lv' := [(8, .int 0), (10, .int (x3 - r19)), (0, .ref h_t), (1, .int x1), (2, .int x2), (3, .int x3), (4, .int x4), (5, .int x5), (6, .int x6), (7, .int (v.1)), (9, .int (v.2.2))]) hx hb dX7_wrong_162 hl (by decide) rfl (fun ls hl => ?_)
            refine lv_iload hx hb dX7_wrong_164 (lv_at hl 1 rfl) ?_
            refine lv_istore (lv' := [(7, .int (x3 - r19)), (8, .int 0), (10, .int (x3 - r19)), (0, .ref h_t), (1, .int x1), (2, .int x2), (3, .int x3), (4, .int x4), (5, .int x5), (6, .int x6), (9, .int (v.2.2))]) hx hb dX7_wrong_166 hl (by decide) rfl (fun ls hl => ?_)
            refine lv_iinc (v := ((v.2.2) + 1)) (lv' := [(9, .int ((v.2.2) + 1)), (7, .int (x3 - r19)), (8, .int 0), (10, .int (x3 - r19)), (0, .ref h_t), (1, .int x1), (2, .int x2), (3, .int x3), (4, .int x4), (5, .int x5), (6, .int x6)]) hx hb dX7_wrong_168 hl (k := 10) rfl rfl (by decide) rfl (fun ls hl => ?_)
            refine lv_goto (tgt := 87) hx hb dX7_wrong_171 (by decide) ?_
            exact ih _ hf _ _ _ hP hD hS (lv_sub hl [4, 5, 6, 7, 8, 9, 10, 1, 2, 0] rfl)
          · replace hf := g22.2 c21
            refine lv_iload hx hb dX7_wrong_143 (lv_at hl 8 rfl) ?_
            refine lv_ldc (v := 1000000) hx hb hown (hT _ kw_X7_165) dX7_wrong_145 ?_
            have g24 := ite_some hf
            refine lv_icmp_eq (tgt := 157) hx hb dX7_wrong_147 (by decide) (fun c23 => ?_) (fun c23 => ?_)
            · replace hf := g24.1 c23
              refine lv_iconst (v := 1) hx hb dX7_wrong_157 rfl ?_
              refine lv_goto (tgt := 162) hx hb dX7_wrong_158 (by decide) ?_
              refine lv_istore (lv' := [(8, .int 1), (10, .int (x3 - r19)), (0, .ref h_t), (1, .int x1), (2, .int x2), (3, .int x3), (4, .int x4), (5, .int x5), (6, .int x6), (7, .int (v.1)), (9, .int (v.2.2))]) hx hb dX7_wrong_162 hl (by decide) rfl (fun ls hl => ?_)
              refine lv_iload hx hb dX7_wrong_164 (lv_at hl 1 rfl) ?_
              refine lv_istore (lv' := [(7, .int (x3 - r19)), (8, .int 1), (10, .int (x3 - r19)), (0, .ref h_t), (1, .int x1), (2, .int x2), (3, .int x3), (4, .int x4), (5, .int x5), (6, .int x6), (9, .int (v.2.2))]) hx hb dX7_wrong_166 hl (by decide) rfl (fun ls hl => ?_)
              refine lv_iinc (v := ((v.2.2) + 1)) (lv' := [(9, .int ((v.2.2) + 1)), (7, .int (x3 - r19)), (8, .int 1), (10, .int (x3 - r19)), (0, .ref h_t), (1, .int x1), (2, .int x2), (3, .int x3), (4, .int x4), (5, .int x5), (6, .int x6)]) hx hb dX7_wrong_168 hl (k := 10) rfl rfl (by decide) rfl (fun ls hl => ?_)
              refine lv_goto (tgt := 87) hx hb dX7_wrong_171 (by decide) ?_
              exact ih _ hf _ _ _ hP hD hS (lv_sub hl [4, 5, 6, 7, 8, 9, 10, 1, 2, 0] rfl)
            · replace hf := g24.2 c23
              refine lv_iload hx hb dX7_wrong_150 (lv_at hl 8 rfl) ?_
              refine lv_iload hx hb dX7_wrong_152 (lv_at hl 0 rfl) ?_
              have g26 := ite_some hf
              refine lv_icmp_ne (tgt := 161) hx hb dX7_wrong_154 (by decide) (fun c25 => ?_) (fun c25 => ?_)
              · replace hf := g26.2 c25
                refine lv_iconst (v := 0) hx hb dX7_wrong_161 rfl ?_
                refine lv_istore (lv' := [(8, .int 0), (10, .int (x3 - r19)), (0, .ref h_t), (1, .int x1), (2, .int x2), (3, .int x3), (4, .int x4), (5, .int x5), (6, .int x6), (7, .int (v.1)), (9, .int (v.2.2))]) hx hb dX7_wrong_162 hl (by decide) rfl (fun ls hl => ?_)
                refine lv_iload hx hb dX7_wrong_164 (lv_at hl 1 rfl) ?_
                refine lv_istore (lv' := [(7, .int (x3 - r19)), (8, .int 0), (10, .int (x3 - r19)), (0, .ref h_t), (1, .int x1), (2, .int x2), (3, .int x3), (4, .int x4), (5, .int x5), (6, .int x6), (9, .int (v.2.2))]) hx hb dX7_wrong_166 hl (by decide) rfl (fun ls hl => ?_)
                refine lv_iinc (v := ((v.2.2) + 1)) (lv' := [(9, .int ((v.2.2) + 1)), (7, .int (x3 - r19)), (8, .int 0), (10, .int (x3 - r19)), (0, .ref h_t), (1, .int x1), (2, .int x2), (3, .int x3), (4, .int x4), (5, .int x5), (6, .int x6)]) hx hb dX7_wrong_168 hl (k := 10) rfl rfl (by decide) rfl (fun ls hl => ?_)
                refine lv_goto (tgt := 87) hx hb dX7_wrong_171 (by decide) ?_
                exact ih _ hf _ _ _ hP hD hS (lv_sub hl [4, 5, 6, 7, 8, 9, 10, 1, 2, 0] rfl)
              · replace hf := g26.1 c25
                refine lv_iconst (v := 1) hx hb dX7_wrong_157 rfl ?_
                refine lv_goto (tgt := 162) hx hb dX7_wrong_158 (by decide) ?_
                refine lv_istore (lv' := [(8, .int 1), (10, .int (x3 - r19)), (0, .ref h_t), (1, .int x1), (2, .int x2), (3, .int x3), (4, .int x4), (5, .int x5), (6, .int x6), (7, .int (v.1)), (9, .int (v.2.2))]) hx hb dX7_wrong_162 hl (by decide) rfl (fun ls hl => ?_)
                refine lv_iload hx hb dX7_wrong_164 (lv_at hl 1 rfl) ?_
                refine lv_istore (lv' := [(7, .int (x3 - r19)), (8, .int 1), (10, .int (x3 - r19)), (0, .ref h_t), (1, .int x1), (2, .int x2), (3, .int x3), (4, .int x4), (5, .int x5), (6, .int x6), (9, .int (v.2.2))]) hx hb dX7_wrong_166 hl (by decide) rfl (fun ls hl => ?_)
                refine lv_iinc (v := ((v.2.2) + 1)) (lv' := [(9, .int ((v.2.2) + 1)), (7, .int (x3 - r19)), (8, .int 1), (10, .int (x3 - r19)), (0, .ref h_t), (1, .int x1), (2, .int x2), (3, .int x3), (4, .int x4), (5, .int x5), (6, .int x6)]) hx hb dX7_wrong_168 hl (k := 10) rfl rfl (by decide) rfl (fun ls hl => ?_)
                refine lv_goto (tgt := 87) hx hb dX7_wrong_171 (by decide) ?_
                exact ih _ hf _ _ _ hP hD hS (lv_sub hl [4, 5, 6, 7, 8, 9, 10, 1, 2, 0] rfl)
      · replace hf := g8.1 c7
        refine lv_iload_n hx hb dX7_wrong_111 rfl (lv_at hl 2 rfl) ?_
        refine lv_goto (tgt := 127) hx hb dX7_wrong_112 (by decide) ?_
        refine lv_aload_n hx hb dX7_wrong_127 rfl (lv_at hl 0 rfl) ?_
        refine lv_iload hx hb dX7_wrong_128 (lv_at hl 6 rfl) ?_
        refine lv_iload hx hb dX7_wrong_130 (lv_at hl 9 rfl) ?_
        obtain ⟨r27, e28, hf⟩ := bind_some hf
        refine callVi (As := [.int x6, .int (v.2.2)]) (rest := [.int x2]) M (mX7_soundOf l D cs sk h_t q_t k d_t x6 (v.2.2) e28) mw_X7_136 ln_X7_soundOf ⟨rfl, rfl, Nat.le_of_ble_eq_true rfl, Nat.le_of_ble_eq_true rfl⟩ hP hD hS hA [0, 1] (by decide) rfl rfl (q0 := 0) rfl rfl rfl ⟨Nat.zero_le _, Nat.zero_le _⟩ hl.1 rfl (Nat.le_of_ble_eq_true rfl) dX7_wrong_132 (fun H locs hP hD hS => ?_)
        replace hP : va_P D vwCl [oX7 h_t q_t (d_t.1), ((q_t 0), .inl (cs 0, 106, .inl (d_t.2 0))), ((q_t 3), .inl (cs 0, 3, .inl (d_t.2 3)))] H := hP
        replace hD : va_D A [oX7 h_t q_t (d_t.1), ((q_t 0), .inl (cs 0, 106, .inl (d_t.2 0))), ((q_t 3), .inl (cs 0, 3, .inl (d_t.2 3)))] := hD
        refine lv_isub hx hb dX7_wrong_135 ?_
        refine lv_istore (lv' := [(10, .int (x2 - r27)), (0, .ref h_t), (1, .int x1), (2, .int x2), (3, .int x3), (4, .int x4), (5, .int x5), (6, .int x6), (7, .int (v.1)), (8, .int (v.2.1)), (9, .int (v.2.2))]) hx hb dX7_wrong_136 hl (by decide) rfl (fun ls hl => ?_)
        refine lv_iload hx hb dX7_wrong_138 (lv_at hl 9 rfl) ?_
        have g30 := ite_some hf
        refine lv_if_eq (tgt := 161) hx hb dX7_wrong_140 (by decide) (fun c29 => ?_) (fun c29 => ?_)
        · replace hf := g30.1 c29
          refine lv_iconst (v := 0) hx hb dX7_wrong_161 rfl ?_
          refine lv_istore (lv' := [(8, .int 0), (10, .int (x2 - r27)), (0, .ref h_t), (1, .int x1), (2, .int x2), (3, .int x3), (4, .int x4), (5, .int x5), (6, .int x6), (7, .int (v.1)), (9, .int (v.2.2))]) hx hb dX7_wrong_162 hl (by decide) rfl (fun ls hl => ?_)
          refine lv_iload hx hb dX7_wrong_164 (lv_at hl 1 rfl) ?_
          refine lv_istore (lv' := [(7, .int (x2 - r27)), (8, .int 0), (10, .int (x2 - r27)), (0, .ref h_t), (1, .int x1), (2, .int x2), (3, .int x3), (4, .int x4), (5, .int x5), (6, .int x6), (9, .int (v.2.2))]) hx hb dX7_wrong_166 hl (by decide) rfl (fun ls hl => ?_)
          refine lv_iinc (v := ((v.2.2) + 1)) (lv' := [(9, .int ((v.2.2) + 1)), (7, .int (x2 - r27)), (8, .int 0), (10, .int (x2 - r27)), (0, .ref h_t), (1, .int x1), (2, .int x2), (3, .int x3), (4, .int x4), (5, .int x5), (6, .int x6)]) hx hb dX7_wrong_168 hl (k := 10) rfl rfl (by decide) rfl (fun ls hl => ?_)
          refine lv_goto (tgt := 87) hx hb dX7_wrong_171 (by decide) ?_
          exact ih _ hf _ _ _ hP hD hS (lv_sub hl [4, 5, 6, 7, 8, 9, 10, 1, 2, 0] rfl)
        · replace hf := g30.2 c29
          refine lv_iload hx hb dX7_wrong_143 (lv_at hl 8 rfl) ?_
          refine lv_ldc (v := 1000000) hx hb hown (hT _ kw_X7_165) dX7_wrong_145 ?_
          have g32 := ite_some hf
          refine lv_icmp_eq (tgt := 157) hx hb dX7_wrong_147 (by decide) (fun c31 => ?_) (fun c31 => ?_)
          · replace hf := g32.1 c31
            refine lv_iconst (v := 1) hx hb dX7_wrong_157 rfl ?_
            refine lv_goto (tgt := 162) hx hb dX7_wrong_158 (by decide) ?_
            refine lv_istore (lv' := [(8, .int 1), (10, .int (x2 - r27)), (0, .ref h_t), (1, .int x1), (2, .int x2), (3, .int x3), (4, .int x4), (5, .int x5), (6, .int x6), (7, .int (v.1)), (9, .int (v.2.2))]) hx hb dX7_wrong_162 hl (by decide) rfl (fun ls hl => ?_)
            refine lv_iload hx hb dX7_wrong_164 (lv_at hl 1 rfl) ?_
            refine lv_istore (lv' := [(7, .int (x2 - r27)), (8, .int 1), (10, .int (x2 - r27)), (0, .ref h_t), (1, .int x1), (2, .int x2), (3, .int x3), (4, .int x4), (5, .int x5), (6, .int x6), (9, .int (v.2.2))]) hx hb dX7_wrong_166 hl (by decide) rfl (fun ls hl => ?_)
            refine lv_iinc (v := ((v.2.2) + 1)) (lv' := [(9, .int ((v.2.2) + 1)), (7, .int (x2 - r27)), (8, .int 1), (10, .int (x2 - r27)), (0, .ref h_t), (1, .int x1), (2, .int x2), (3, .int x3), (4, .int x4), (5, .int x5), (6, .int x6)]) hx hb dX7_wrong_168 hl (k := 10) rfl rfl (by decide) rfl (fun ls hl => ?_)
            refine lv_goto (tgt := 87) hx hb dX7_wrong_171 (by decide) ?_
            exact ih _ hf _ _ _ hP hD hS (lv_sub hl [4, 5, 6, 7, 8, 9, 10, 1, 2, 0] rfl)
          · replace hf := g32.2 c31
            refine lv_iload hx hb dX7_wrong_150 (lv_at hl 8 rfl) ?_
            refine lv_iload hx hb dX7_wrong_152 (lv_at hl 0 rfl) ?_
            have g34 := ite_some hf
            refine lv_icmp_ne (tgt := 161) hx hb dX7_wrong_154 (by decide) (fun c33 => ?_) (fun c33 => ?_)
            · replace hf := g34.2 c33
              refine lv_iconst (v := 0) hx hb dX7_wrong_161 rfl ?_
              refine lv_istore (lv' := [(8, .int 0), (10, .int (x2 - r27)), (0, .ref h_t), (1, .int x1), (2, .int x2), (3, .int x3), (4, .int x4), (5, .int x5), (6, .int x6), (7, .int (v.1)), (9, .int (v.2.2))]) hx hb dX7_wrong_162 hl (by decide) rfl (fun ls hl => ?_)
              refine lv_iload hx hb dX7_wrong_164 (lv_at hl 1 rfl) ?_
              refine lv_istore (lv' := [(7, .int (x2 - r27)), (8, .int 0), (10, .int (x2 - r27)), (0, .ref h_t), (1, .int x1), (2, .int x2), (3, .int x3), (4, .int x4), (5, .int x5), (6, .int x6), (9, .int (v.2.2))]) hx hb dX7_wrong_166 hl (by decide) rfl (fun ls hl => ?_)
              refine lv_iinc (v := ((v.2.2) + 1)) (lv' := [(9, .int ((v.2.2) + 1)), (7, .int (x2 - r27)), (8, .int 0), (10, .int (x2 - r27)), (0, .ref h_t), (1, .int x1), (2, .int x2), (3, .int x3), (4, .int x4), (5, .int x5), (6, .int x6)]) hx hb dX7_wrong_168 hl (k := 10) rfl rfl (by decide) rfl (fun ls hl => ?_)
              refine lv_goto (tgt := 87) hx hb dX7_wrong_171 (by decide) ?_
              exact ih _ hf _ _ _ hP hD hS (lv_sub hl [4, 5, 6, 7, 8, 9, 10, 1, 2, 0] rfl)
            · replace hf := g34.1 c33
              refine lv_iconst (v := 1) hx hb dX7_wrong_157 rfl ?_
              refine lv_goto (tgt := 162) hx hb dX7_wrong_158 (by decide) ?_
              refine lv_istore (lv' := [(8, .int 1), (10, .int (x2 - r27)), (0, .ref h_t), (1, .int x1), (2, .int x2), (3, .int x3), (4, .int x4), (5, .int x5), (6, .int x6), (7, .int (v.1)), (9, .int (v.2.2))]) hx hb dX7_wrong_162 hl (by decide) rfl (fun ls hl => ?_)
              refine lv_iload hx hb dX7_wrong_164 (lv_at hl 1 rfl) ?_
              refine lv_istore (lv' := [(7, .int (x2 - r27)), (8, .int 1), (10, .int (x2 - r27)), (0, .ref h_t), (1, .int x1), (2, .int x2), (3, .int x3), (4, .int x4), (5, .int x5), (6, .int x6), (9, .int (v.2.2))]) hx hb dX7_wrong_166 hl (by decide) rfl (fun ls hl => ?_)
              refine lv_iinc (v := ((v.2.2) + 1)) (lv' := [(9, .int ((v.2.2) + 1)), (7, .int (x2 - r27)), (8, .int 1), (10, .int (x2 - r27)), (0, .ref h_t), (1, .int x1), (2, .int x2), (3, .int x3), (4, .int x4), (5, .int x5), (6, .int x6)]) hx hb dX7_wrong_168 hl (k := 10) rfl rfl (by decide) rfl (fun ls hl => ?_)
              refine lv_goto (tgt := 87) hx hb dX7_wrong_171 (by decide) ?_
              exact ih _ hf _ _ _ hP hD hS (lv_sub hl [4, 5, 6, 7, 8, 9, 10, 1, 2, 0] rfl)
set_option maxHeartbeats 4000000 in
set_option maxRecDepth 100000 in
theorem mX7_wrong_B68 {l : Launch} {p : Program} {e : Env} {s : State} {m : MethodId} {args : Array Value} {below : List Frame} {meth : Method} {c : Code} {D : va_G} {cs : Nat → ClassId} {sk : Nat → Nat} {A : Nat → Prop} {Q : State → Prop} (h_t : Nat) (q_t : Nat → Nat) (k : Nat) (x1 : Int32) (x2 : Int32) (x3 : Int32) (x4 : Int32) (d_t : Dat) {rv : Int32 × Dat}  (K198 : Int32 → Option (Int32 × Dat))
    (M : MC p s m args meth c D cs sk A RX7 cX7_wrong 11 (some .int)) (hA : ∀ q, s.heap.size ≤ q → A q) (hR : RetI p l e rm_X7_wrong s m args below meth c D cX7_wrong A Q (rv.1) [oX7 h_t q_t (d_t.1), ((q_t 0), .inl (cs 0, 106, .inl (d_t.2 0))), ((q_t 3), .inl (cs 0, 3, .inl (rv.2.2 3)))])
    (hK198 : ∀ (w : Int32), K198 w = some rv → ∀ (H : Heap) (locs : List Loc) (ls : Array Slot), va_P D vwCl [oX7 h_t q_t (d_t.1), ((q_t 0), .inl (cs 0, 106, .inl (d_t.2 0))), ((q_t 3), .inl (cs 0, 3, .inl (d_t.2 3)))] H → va_D A [oX7 h_t q_t (d_t.1), ((q_t 0), .inl (cs 0, 106, .inl (d_t.2 0))), ((q_t 3), .inl (cs 0, 3, .inl (d_t.2 3)))] → va_S A s.heap H locs → lv_has ls 11 [(5, .int w)] → W p l e rm_X7_wrong s m args below meth c H locs 0 0 Q (F0 m 198 ls []))
    : ∀ (n : Nat) (v : Int32 × Int32), lp (fX7_wrong_B68 k x1 x2 x3 x4 d_t K198) n v = some rv → ∀ (H : Heap) (locs : List Loc) (ls : Array Slot), va_P D vwCl [oX7 h_t q_t (d_t.1), ((q_t 0), .inl (cs 0, 106, .inl (d_t.2 0))), ((q_t 3), .inl (cs 0, 3, .inl (d_t.2 3)))] H → va_D A [oX7 h_t q_t (d_t.1), ((q_t 0), .inl (cs 0, 106, .inl (d_t.2 0))), ((q_t 3), .inl (cs 0, 3, .inl (d_t.2 3)))] → va_S A s.heap H locs → lv_has ls 11 [(0, .ref h_t), (1, .int x1), (2, .int x2), (3, .int x3), (4, .int x4), (5, .int (v.1)), (6, .int (v.2))] → W p l e rm_X7_wrong s m args below meth c H locs 0 0 Q (F0 m 68 ls []) := by
  obtain ⟨hx, hb, hml, hT, hown, hlk, hrt, hK, hN, hSE⟩ := id M
  refine lp_ind (fun rec ih v hf H locs ls hP hD hS hl => ?_)
  unfold fX7_wrong_B68 at hf
  refine lv_iload hx hb dX7_wrong_68 (lv_at hl 6 rfl) ?_
  refine lv_aload_n hx hb dX7_wrong_70 rfl (lv_at hl 0 rfl) ?_
  obtain ⟨r1, e2, hf⟩ := bind_some hf
  refine callVi (As := []) (rest := [.int (v.2)]) M (mX7_windows l D cs sk h_t q_t k d_t e2) mw_X7_56 ln_X7_windows ⟨rfl, rfl, Nat.le_of_ble_eq_true rfl, Nat.le_of_ble_eq_true rfl⟩ hP hD hS hA [0, 1] (by decide) rfl rfl (q0 := 0) rfl rfl rfl ⟨Nat.zero_le _, Nat.zero_le _⟩ hl.1 rfl (Nat.le_of_ble_eq_true rfl) dX7_wrong_71 (fun H locs hP hD hS => ?_)
  replace hP : va_P D vwCl [oX7 h_t q_t (d_t.1), ((q_t 0), .inl (cs 0, 106, .inl (d_t.2 0))), ((q_t 3), .inl (cs 0, 3, .inl (d_t.2 3)))] H := hP
  replace hD : va_D A [oX7 h_t q_t (d_t.1), ((q_t 0), .inl (cs 0, 106, .inl (d_t.2 0))), ((q_t 3), .inl (cs 0, 3, .inl (d_t.2 3)))] := hD
  have g4 := ite_some hf
  refine lv_icmp_ge (tgt := 198) hx hb dX7_wrong_74 (by decide) (fun c3 => ?_) (fun c3 => ?_)
  · replace hf := g4.1 c3
    exact hK198 _ hf _ _ _ hP hD hS (lv_sub hl [5] rfl)
  · replace hf := g4.2 c3
    refine lv_ldc (v := 1000000) hx hb hown (hT _ kw_X7_165) dX7_wrong_77 ?_
    refine lv_istore (lv' := [(7, .int 1000000), (0, .ref h_t), (1, .int x1), (2, .int x2), (3, .int x3), (4, .int x4), (5, .int (v.1)), (6, .int (v.2))]) hx hb dX7_wrong_79 hl (by decide) rfl (fun ls hl => ?_)
    refine lv_iconst (v := 1) hx hb dX7_wrong_81 rfl ?_
    refine lv_istore (lv' := [(8, .int 1), (7, .int 1000000), (0, .ref h_t), (1, .int x1), (2, .int x2), (3, .int x3), (4, .int x4), (5, .int (v.1)), (6, .int (v.2))]) hx hb dX7_wrong_82 hl (by decide) rfl (fun ls hl => ?_)
    refine lv_iconst (v := 0) hx hb dX7_wrong_84 rfl ?_
    refine lv_istore (lv' := [(9, .int 0), (8, .int 1), (7, .int 1000000), (0, .ref h_t), (1, .int x1), (2, .int x2), (3, .int x3), (4, .int x4), (5, .int (v.1)), (6, .int (v.2))]) hx hb dX7_wrong_85 hl (by decide) rfl (fun ls hl => ?_)
    refine mX7_wrong_B87 h_t q_t k x1 x2 x3 x4 (v.1) (v.2) d_t _ M hA hR (fun w5 hf H locs ls hP hD hS hl => ?_) _ _ hf _ _ _ hP hD hS (lv_sub hl [3, 4, 5, 6, 7, 8, 9, 2, 1, 0] rfl)
    · refine lv_iload hx hb dX7_wrong_174 (lv_at hl 5 rfl) ?_
      refine lv_iload hx hb dX7_wrong_176 (lv_at hl 7 rfl) ?_
      have g7 := ite_some hf
      refine lv_if_eq (tgt := 188) hx hb dX7_wrong_178 (by decide) (fun c6 => ?_) (fun c6 => ?_)
      · replace hf := g7.1 c6
        refine lv_iconst (v := 0) hx hb dX7_wrong_188 rfl ?_
        refine lv_ior hx hb dX7_wrong_189 ?_
        refine lv_istore (lv' := [(5, .int ((v.1) ||| 0)), (0, .ref h_t), (1, .int x1), (2, .int x2), (3, .int x3), (4, .int x4), (6, .int (v.2)), (8, .int w5)]) hx hb dX7_wrong_190 hl (by decide) rfl (fun ls hl => ?_)
        refine lv_iinc (v := ((v.2) + 1)) (lv' := [(6, .int ((v.2) + 1)), (5, .int ((v.1) ||| 0)), (0, .ref h_t), (1, .int x1), (2, .int x2), (3, .int x3), (4, .int x4), (8, .int w5)]) hx hb dX7_wrong_192 hl (k := 6) rfl rfl (by decide) rfl (fun ls hl => ?_)
        refine lv_goto (tgt := 68) hx hb dX7_wrong_195 (by decide) ?_
        exact ih _ hf _ _ _ hP hD hS (lv_sub hl [2, 3, 4, 5, 6, 1, 0] rfl)
      · replace hf := g7.2 c6
        refine lv_iconst (v := 1) hx hb dX7_wrong_181 rfl ?_
        refine lv_iload hx hb dX7_wrong_182 (lv_at hl 6 rfl) ?_
        refine lv_ishl hx hb dX7_wrong_184 ?_
        refine lv_goto (tgt := 189) hx hb dX7_wrong_185 (by decide) ?_
        refine lv_ior hx hb dX7_wrong_189 ?_
        refine lv_istore (lv' := [(5, .int ((v.1) ||| (1 <<< ((v.2) &&& 31)))), (0, .ref h_t), (1, .int x1), (2, .int x2), (3, .int x3), (4, .int x4), (6, .int (v.2)), (8, .int w5)]) hx hb dX7_wrong_190 hl (by decide) rfl (fun ls hl => ?_)
        refine lv_iinc (v := ((v.2) + 1)) (lv' := [(6, .int ((v.2) + 1)), (5, .int ((v.1) ||| (1 <<< ((v.2) &&& 31)))), (0, .ref h_t), (1, .int x1), (2, .int x2), (3, .int x3), (4, .int x4), (8, .int w5)]) hx hb dX7_wrong_192 hl (k := 6) rfl rfl (by decide) rfl (fun ls hl => ?_)
        refine lv_goto (tgt := 68) hx hb dX7_wrong_195 (by decide) ?_
        exact ih _ hf _ _ _ hP hD hS (lv_sub hl [2, 3, 4, 5, 6, 1, 0] rfl)
set_option maxHeartbeats 4000000 in
set_option maxRecDepth 100000 in
theorem mX7_wrong (l : Launch) (D : va_G) (cs : Nat → ClassId) (sk : Nat → Nat) (h_t : Nat) (q_t : Nat → Nat) (k : Nat) (d_t : Dat) (x1 : Int32) (x2 : Int32) (x3 : Int32) (x4 : Int32) {rv : Int32 × Dat} (hf : fX7_wrong k d_t x1 x2 x3 x4 = some rv) : CTi l yX7_wrong (Cond.code yX7_wrong cX7_wrong 11 (some .int) :: gtbl) rm_X7_wrong D cs sk [.ref h_t, .int x1, .int x2, .int x3, .int x4] [oX7 h_t q_t (d_t.1), ((q_t 0), .inl (cs 0, 106, .inl (d_t.2 0))), ((q_t 3), .inl (cs 0, 3, .inl (d_t.2 3)))] (rv.1) [oX7 h_t q_t (d_t.1), ((q_t 0), .inl (cs 0, 106, .inl (d_t.2 0))), ((q_t 3), .inl (cs 0, 3, .inl (rv.2.2 3)))] := by
  refine CTi.of RX7 (by decide +kernel) rfl (Nat.le_of_ble_eq_true rfl) (fun p e s m args below meth c A Q ls M hA hR hl hP hD hS => ?_)
  obtain ⟨hx, hb, hml, hT, hown, hlk, hrt, hK, hN, hSE⟩ := id M
  replace hl : lv_has ls 11 [(0, .ref h_t), (1, .int x1), (2, .int x2), (3, .int x3), (4, .int x4)] := hl
  unfold fX7_wrong at hf
  refine lv_iload_n hx hb dX7_wrong_0 rfl (lv_at hl 1 rfl) ?_
  refine lv_i2l (v := x1.toInt64) hx hb dX7_wrong_1 rfl ?_
  refine lv_lconst (v := 1) hx hb dX7_wrong_2 rfl ?_
  refine lv_iconst (v := 1) hx hb dX7_wrong_3 rfl ?_
  refine lv_aload_n hx hb dX7_wrong_4 rfl (lv_at hl 0 rfl) ?_
  obtain ⟨r1, e2, hf⟩ := bind_some hf
  refine callVi (As := []) (rest := [.int 1, .long 1, .long x1.toInt64]) M (mX7_ears l D cs sk h_t q_t k d_t e2) mw_X7_64 ln_X7_ears ⟨rfl, rfl, Nat.le_of_ble_eq_true rfl, Nat.le_of_ble_eq_true rfl⟩ hP hD hS hA [0, 1] (by decide) rfl rfl (q0 := 0) rfl rfl rfl ⟨Nat.zero_le _, Nat.zero_le _⟩ hl.1 rfl (Nat.le_of_ble_eq_true rfl) dX7_wrong_5 (fun H locs hP hD hS => ?_)
  replace hP : va_P D vwCl [oX7 h_t q_t (d_t.1), ((q_t 0), .inl (cs 0, 106, .inl (d_t.2 0))), ((q_t 3), .inl (cs 0, 3, .inl (d_t.2 3)))] H := hP
  replace hD : va_D A [oX7 h_t q_t (d_t.1), ((q_t 0), .inl (cs 0, 106, .inl (d_t.2 0))), ((q_t 3), .inl (cs 0, 3, .inl (d_t.2 3)))] := hD
  refine lv_ishl hx hb dX7_wrong_8 ?_
  refine lv_iconst (v := 1) hx hb dX7_wrong_9 rfl ?_
  refine lv_isub hx hb dX7_wrong_10 ?_
  refine lv_i2l (v := ((1 <<< (r1 &&& 31)) - 1).toInt64) hx hb dX7_wrong_11 rfl ?_
  obtain ⟨r3, e4, hf⟩ := bind_some hf
  refine callSi (As := [.long x1.toInt64, .long 1, .long ((1 <<< (r1 &&& 31)) - 1).toInt64]) (rest := []) M (mX7_in l D cs sk  k x1.toInt64 1 ((1 <<< (r1 &&& 31)) - 1).toInt64 e4) mw_X7_60 ln_X7_in ⟨rfl, rfl, Nat.le_of_ble_eq_true rfl, Nat.le_of_ble_eq_true rfl⟩ hP hD hS hA [] (by decide) rfl rfl ⟨Nat.zero_le _, Nat.zero_le _⟩ hl.1 rfl (Nat.le_of_ble_eq_true rfl) dX7_wrong_12 (fun H locs hP hD hS => ?_)
  replace hP : va_P D vwCl [oX7 h_t q_t (d_t.1), ((q_t 0), .inl (cs 0, 106, .inl (d_t.2 0))), ((q_t 3), .inl (cs 0, 3, .inl (d_t.2 3)))] H := hP
  replace hD : va_D A [oX7 h_t q_t (d_t.1), ((q_t 0), .inl (cs 0, 106, .inl (d_t.2 0))), ((q_t 3), .inl (cs 0, 3, .inl (d_t.2 3)))] := hD
  have g6 := ite_some hf
  refine lv_if_eq (tgt := 55) hx hb dX7_wrong_15 (by decide) (fun c5 => ?_) (fun c5 => ?_)
  · replace hf := g6.1 c5
    refine lv_aload_n hx hb dX7_wrong_55 rfl (lv_at hl 0 rfl) ?_
    refine lv_bipush (v := (-2)) hx hb dX7_wrong_56 rfl ?_
    obtain ⟨r7, e8, hf⟩ := bind_some hf
    refine callVi (As := [.int (-2)]) (rest := []) M (mX7_bad l D cs sk h_t q_t k d_t (-2) e8) mw_X7_76 ln_X7_bad ⟨rfl, rfl, Nat.le_of_ble_eq_true rfl, Nat.le_of_ble_eq_true rfl⟩ hP hD hS hA [0, 2] (by decide) rfl rfl (q0 := 0) rfl rfl rfl ⟨Nat.zero_le _, Nat.zero_le _⟩ hl.1 rfl (Nat.le_of_ble_eq_true rfl) dX7_wrong_58 (fun H locs hP hD hS => ?_)
    replace hP : va_P D vwCl [oX7 h_t q_t (d_t.1), ((q_t 0), .inl (cs 0, 106, .inl (d_t.2 0))), ((q_t 3), .inl (cs 0, 3, .inl (r7.2.2 3)))] H := hP
    replace hD : va_D A [oX7 h_t q_t (d_t.1), ((q_t 0), .inl (cs 0, 106, .inl (d_t.2 0))), ((q_t 3), .inl (cs 0, 3, .inl (r7.2.2 3)))] := hD
    have e9 := Option.some.inj hf
    subst e9
    exact hR _ _ _ _ dX7_wrong_61 hP hS
  · replace hf := g6.2 c5
    refine lv_iload_n hx hb dX7_wrong_18 rfl (lv_at hl 2 rfl) ?_
    refine lv_i2l (v := x2.toInt64) hx hb dX7_wrong_19 rfl ?_
    refine lv_lconst (v := 0) hx hb dX7_wrong_20 rfl ?_
    refine W.ldc2 (v := 9999) hx hb hown (hT _ kw_X7_157) rfl dX7_wrong_21 ?_
    refine W.eq (g2 := F0 m 24 ls [.long 9999, .long 0, .long x2.toInt64]) rfl ?_
    obtain ⟨r9, e10, hf⟩ := bind_some hf
    refine callSi (As := [.long x2.toInt64, .long 0, .long 9999]) (rest := []) M (mX7_in l D cs sk  k x2.toInt64 0 9999 e10) mw_X7_60 ln_X7_in ⟨rfl, rfl, Nat.le_of_ble_eq_true rfl, Nat.le_of_ble_eq_true rfl⟩ hP hD hS hA [] (by decide) rfl rfl ⟨Nat.zero_le _, Nat.zero_le _⟩ hl.1 rfl (Nat.le_of_ble_eq_true rfl) dX7_wrong_24 (fun H locs hP hD hS => ?_)
    replace hP : va_P D vwCl [oX7 h_t q_t (d_t.1), ((q_t 0), .inl (cs 0, 106, .inl (d_t.2 0))), ((q_t 3), .inl (cs 0, 3, .inl (d_t.2 3)))] H := hP
    replace hD : va_D A [oX7 h_t q_t (d_t.1), ((q_t 0), .inl (cs 0, 106, .inl (d_t.2 0))), ((q_t 3), .inl (cs 0, 3, .inl (d_t.2 3)))] := hD
    have g12 := ite_some hf
    refine lv_if_eq (tgt := 55) hx hb dX7_wrong_27 (by decide) (fun c11 => ?_) (fun c11 => ?_)
    · replace hf := g12.1 c11
      refine lv_aload_n hx hb dX7_wrong_55 rfl (lv_at hl 0 rfl) ?_
      refine lv_bipush (v := (-2)) hx hb dX7_wrong_56 rfl ?_
      obtain ⟨r13, e14, hf⟩ := bind_some hf
      refine callVi (As := [.int (-2)]) (rest := []) M (mX7_bad l D cs sk h_t q_t k d_t (-2) e14) mw_X7_76 ln_X7_bad ⟨rfl, rfl, Nat.le_of_ble_eq_true rfl, Nat.le_of_ble_eq_true rfl⟩ hP hD hS hA [0, 2] (by decide) rfl rfl (q0 := 0) rfl rfl rfl ⟨Nat.zero_le _, Nat.zero_le _⟩ hl.1 rfl (Nat.le_of_ble_eq_true rfl) dX7_wrong_58 (fun H locs hP hD hS => ?_)
      replace hP : va_P D vwCl [oX7 h_t q_t (d_t.1), ((q_t 0), .inl (cs 0, 106, .inl (d_t.2 0))), ((q_t 3), .inl (cs 0, 3, .inl (r13.2.2 3)))] H := hP
      replace hD : va_D A [oX7 h_t q_t (d_t.1), ((q_t 0), .inl (cs 0, 106, .inl (d_t.2 0))), ((q_t 3), .inl (cs 0, 3, .inl (r13.2.2 3)))] := hD
      have e9 := Option.some.inj hf
      subst e9
      exact hR _ _ _ _ dX7_wrong_61 hP hS
    · replace hf := g12.2 c11
      refine lv_iload_n hx hb dX7_wrong_30 rfl (lv_at hl 3 rfl) ?_
      refine lv_i2l (v := x3.toInt64) hx hb dX7_wrong_31 rfl ?_
      refine lv_lconst (v := 0) hx hb dX7_wrong_32 rfl ?_
      refine W.ldc2 (v := 9999) hx hb hown (hT _ kw_X7_157) rfl dX7_wrong_33 ?_
      refine W.eq (g2 := F0 m 36 ls [.long 9999, .long 0, .long x3.toInt64]) rfl ?_
      obtain ⟨r15, e16, hf⟩ := bind_some hf
      refine callSi (As := [.long x3.toInt64, .long 0, .long 9999]) (rest := []) M (mX7_in l D cs sk  k x3.toInt64 0 9999 e16) mw_X7_60 ln_X7_in ⟨rfl, rfl, Nat.le_of_ble_eq_true rfl, Nat.le_of_ble_eq_true rfl⟩ hP hD hS hA [] (by decide) rfl rfl ⟨Nat.zero_le _, Nat.zero_le _⟩ hl.1 rfl (Nat.le_of_ble_eq_true rfl) dX7_wrong_36 (fun H locs hP hD hS => ?_)
      replace hP : va_P D vwCl [oX7 h_t q_t (d_t.1), ((q_t 0), .inl (cs 0, 106, .inl (d_t.2 0))), ((q_t 3), .inl (cs 0, 3, .inl (d_t.2 3)))] H := hP
      replace hD : va_D A [oX7 h_t q_t (d_t.1), ((q_t 0), .inl (cs 0, 106, .inl (d_t.2 0))), ((q_t 3), .inl (cs 0, 3, .inl (d_t.2 3)))] := hD
      have g18 := ite_some hf
      refine lv_if_eq (tgt := 55) hx hb dX7_wrong_39 (by decide) (fun c17 => ?_) (fun c17 => ?_)
      · replace hf := g18.1 c17
        refine lv_aload_n hx hb dX7_wrong_55 rfl (lv_at hl 0 rfl) ?_
        refine lv_bipush (v := (-2)) hx hb dX7_wrong_56 rfl ?_
        obtain ⟨r19, e20, hf⟩ := bind_some hf
        refine callVi (As := [.int (-2)]) (rest := []) M (mX7_bad l D cs sk h_t q_t k d_t (-2) e20) mw_X7_76 ln_X7_bad ⟨rfl, rfl, Nat.le_of_ble_eq_true rfl, Nat.le_of_ble_eq_true rfl⟩ hP hD hS hA [0, 2] (by decide) rfl rfl (q0 := 0) rfl rfl rfl ⟨Nat.zero_le _, Nat.zero_le _⟩ hl.1 rfl (Nat.le_of_ble_eq_true rfl) dX7_wrong_58 (fun H locs hP hD hS => ?_)
        replace hP : va_P D vwCl [oX7 h_t q_t (d_t.1), ((q_t 0), .inl (cs 0, 106, .inl (d_t.2 0))), ((q_t 3), .inl (cs 0, 3, .inl (r19.2.2 3)))] H := hP
        replace hD : va_D A [oX7 h_t q_t (d_t.1), ((q_t 0), .inl (cs 0, 106, .inl (d_t.2 0))), ((q_t 3), .inl (cs 0, 3, .inl (r19.2.2 3)))] := hD
        have e9 := Option.some.inj hf
        subst e9
        exact hR _ _ _ _ dX7_wrong_61 hP hS
      · replace hf := g18.2 c17
        refine lv_iload hx hb dX7_wrong_42 (lv_at hl 4 rfl) ?_
        refine lv_i2l (v := x4.toInt64) hx hb dX7_wrong_44 rfl ?_
        refine lv_lconst (v := 0) hx hb dX7_wrong_45 rfl ?_
        refine W.ldc2 (v := 9999) hx hb hown (hT _ kw_X7_157) rfl dX7_wrong_46 ?_
        refine W.eq (g2 := F0 m 49 ls [.long 9999, .long 0, .long x4.toInt64]) rfl ?_
        obtain ⟨r21, e22, hf⟩ := bind_some hf
        refine callSi (As := [.long x4.toInt64, .long 0, .long 9999]) (rest := []) M (mX7_in l D cs sk  k x4.toInt64 0 9999 e22) mw_X7_60 ln_X7_in ⟨rfl, rfl, Nat.le_of_ble_eq_true rfl, Nat.le_of_ble_eq_true rfl⟩ hP hD hS hA [] (by decide) rfl rfl ⟨Nat.zero_le _, Nat.zero_le _⟩ hl.1 rfl (Nat.le_of_ble_eq_true rfl) dX7_wrong_49 (fun H locs hP hD hS => ?_)
        replace hP : va_P D vwCl [oX7 h_t q_t (d_t.1), ((q_t 0), .inl (cs 0, 106, .inl (d_t.2 0))), ((q_t 3), .inl (cs 0, 3, .inl (d_t.2 3)))] H := hP
        replace hD : va_D A [oX7 h_t q_t (d_t.1), ((q_t 0), .inl (cs 0, 106, .inl (d_t.2 0))), ((q_t 3), .inl (cs 0, 3, .inl (d_t.2 3)))] := hD
        have g24 := ite_some hf
        refine lv_if_ne (tgt := 62) hx hb dX7_wrong_52 (by decide) (fun c23 => ?_) (fun c23 => ?_)
        · replace hf := g24.2 c23
          refine lv_iconst (v := 0) hx hb dX7_wrong_62 rfl ?_
          refine lv_istore (lv' := [(5, .int 0), (0, .ref h_t), (1, .int x1), (2, .int x2), (3, .int x3), (4, .int x4)]) hx hb dX7_wrong_63 hl (by decide) rfl (fun ls hl => ?_)
          refine lv_iconst (v := 0) hx hb dX7_wrong_65 rfl ?_
          refine lv_istore (lv' := [(6, .int 0), (5, .int 0), (0, .ref h_t), (1, .int x1), (2, .int x2), (3, .int x3), (4, .int x4)]) hx hb dX7_wrong_66 hl (by decide) rfl (fun ls hl => ?_)
          refine mX7_wrong_B68 h_t q_t k x1 x2 x3 x4 d_t _ M hA hR (fun w25 hf H locs ls hP hD hS hl => ?_) _ _ hf _ _ _ hP hD hS (lv_sub hl [2, 3, 4, 5, 6, 1, 0] rfl)
          · refine lv_iload hx hb dX7_wrong_198 (lv_at hl 0 rfl) ?_
            have g27 := ite_some hf
            refine lv_if_ne (tgt := 207) hx hb dX7_wrong_200 (by decide) (fun c26 => ?_) (fun c26 => ?_)
            · replace hf := g27.2 c26
              refine lv_iload hx hb dX7_wrong_207 (lv_at hl 0 rfl) ?_
              have e9 := Option.some.inj hf
              subst e9
              exact hR _ _ _ _ dX7_wrong_209 hP hS
            · replace hf := g27.1 c26
              refine lv_iconst (v := (-1)) hx hb dX7_wrong_203 rfl ?_
              refine lv_goto (tgt := 209) hx hb dX7_wrong_204 (by decide) ?_
              have e9 := Option.some.inj hf
              subst e9
              exact hR _ _ _ _ dX7_wrong_209 hP hS
        · replace hf := g24.1 c23
          refine lv_aload_n hx hb dX7_wrong_55 rfl (lv_at hl 0 rfl) ?_
          refine lv_bipush (v := (-2)) hx hb dX7_wrong_56 rfl ?_
          obtain ⟨r28, e29, hf⟩ := bind_some hf
          refine callVi (As := [.int (-2)]) (rest := []) M (mX7_bad l D cs sk h_t q_t k d_t (-2) e29) mw_X7_76 ln_X7_bad ⟨rfl, rfl, Nat.le_of_ble_eq_true rfl, Nat.le_of_ble_eq_true rfl⟩ hP hD hS hA [0, 2] (by decide) rfl rfl (q0 := 0) rfl rfl rfl ⟨Nat.zero_le _, Nat.zero_le _⟩ hl.1 rfl (Nat.le_of_ble_eq_true rfl) dX7_wrong_58 (fun H locs hP hD hS => ?_)
          replace hP : va_P D vwCl [oX7 h_t q_t (d_t.1), ((q_t 0), .inl (cs 0, 106, .inl (d_t.2 0))), ((q_t 3), .inl (cs 0, 3, .inl (r28.2.2 3)))] H := hP
          replace hD : va_D A [oX7 h_t q_t (d_t.1), ((q_t 0), .inl (cs 0, 106, .inl (d_t.2 0))), ((q_t 3), .inl (cs 0, 3, .inl (r28.2.2 3)))] := hD
          have e9 := Option.some.inj hf
          subst e9
          exact hR _ _ _ _ dX7_wrong_61 hP hS
