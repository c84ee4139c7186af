abbrev rm_X3_nextFree : Room := { frames := 1, cells := 0, slots := 0, locals := 21 }
def fX3_nextFree_B5 (k : Nat) (x2 : Int32) (d_a1 : Dat) (K29 : Int32 → Option (Int32)) (rec : Int32 × Int32 → Option (Int32)) (v : Int32 × Int32) : Option (Int32) :=
  (if x2 ≤ (v.2) then K29 (v.1) else chk 6 (v.2) (rec (((v.1) ||| (1 <<< (((d_a1.2 2) (v.2).toNatClampNeg) &&& 31))), ((v.2) + 1))))
def fX3_nextFree_B39 (k : Nat) (x3 : Int32) (d_a0 : Dat) (K57 : Int32 → Option (Int32)) (K66 : Unit → Option (Int32)) (rec : Int32 → Option (Int32)) (v : Int32) : Option (Int32) :=
  (if (d_a0.1 0) ≤ v then K66 () else (fX6_holds k x3 v).bind (fun (r3 : Int32) => (if r3 = 0 then K57 v else rec (v + 1))))
def fX3_nextFree (k : Nat) (d_a0 : Dat) (d_a1 : Dat) (x2 : Int32) : Option (Int32) :=
  lp (fX3_nextFree_B5 k x2 d_a1 (fun (w1 : Int32) => chk 6 x2 (lp (fX3_nextFree_B39 k w1 d_a0 (fun (w2 : Int32) => some w2) (fun (w3 : Unit) => some (-1))) k (((d_a1.2 2) x2.toNatClampNeg) + 1)))) k (0, 0)
set_option maxHeartbeats 4000000 in
set_option maxRecDepth 100000 in
theorem mX3_nextFree_B5 {l : Launch} {p : Program} {e : Env} {s : State} {m : MethodId} {args : Array Value} {below : List Frame} {meth : Method} {c : Code} {D : va_G} {cs : Nat → ClassId} {sk : Nat → Nat} {A : Nat → Prop} {Q : State → Prop} (h_a0 : Nat) (h_a1 : Nat) (q_a0 : Nat → Nat) (q_a1 : Nat → Nat) (k : Nat) (x2 : Int32) (d_a0 : Dat) (d_a1 : Dat) {rv : Int32}  (K29 : Int32 → Option (Int32))
    (M : MC p s m args meth c D cs sk A RX3 cX3_nextFree 5 (some .int)) (hA : ∀ q, s.heap.size ≤ q → A q) (hR : RetI p l e rm_X3_nextFree s m args below meth c D cX3_nextFree A Q (rv) [oX4 h_a0 q_a0 (d_a0.1), oX0 h_a1 q_a1 (d_a1.1), ((q_a1 2), .inl (cs 0, 6, .inl (d_a1.2 2)))])
    (hK29 : ∀ (w : Int32), K29 w = some rv → ∀ (H : Heap) (locs : List Loc) (ls : Array Slot), va_P D vwCl [oX4 h_a0 q_a0 (d_a0.1), oX0 h_a1 q_a1 (d_a1.1), ((q_a1 2), .inl (cs 0, 6, .inl (d_a1.2 2)))] H → va_D A [oX4 h_a0 q_a0 (d_a0.1), oX0 h_a1 q_a1 (d_a1.1), ((q_a1 2), .inl (cs 0, 6, .inl (d_a1.2 2)))] → va_S A s.heap H locs → lv_has ls 5 [(0, .ref h_a0), (1, .ref h_a1), (2, .int x2), (3, .int w)] → W p l e rm_X3_nextFree s m args below meth c H locs 0 0 Q (F0 m 29 ls []))
    : ∀ (n : Nat) (v : Int32 × Int32), lp (fX3_nextFree_B5 k x2 d_a1 K29) n v = some rv → ∀ (H : Heap) (locs : List Loc) (ls : Array Slot), va_P D vwCl [oX4 h_a0 q_a0 (d_a0.1), oX0 h_a1 q_a1 (d_a1.1), ((q_a1 2), .inl (cs 0, 6, .inl (d_a1.2 2)))] H → va_D A [oX4 h_a0 q_a0 (d_a0.1), oX0 h_a1 q_a1 (d_a1.1), ((q_a1 2), .inl (cs 0, 6, .inl (d_a1.2 2)))] → va_S A s.heap H locs → lv_has ls 5 [(0, .ref h_a0), (1, .ref h_a1), (2, .int x2), (3, .int (v.1)), (4, .int (v.2))] → W p l e rm_X3_nextFree s m args below meth c H locs 0 0 Q (F0 m 5 ls []) := by
  obtain ⟨hx, hb, hml, hT, hown, hlk, hrt, hK, hN, hSE⟩ := id M
  refine lp_ind (fun rec ih v hf H locs ls hP hD hS hl => ?_)
  unfold fX3_nextFree_B5 at hf
  refine lv_iload hx hb dX3_nextFree_5 (lv_at hl 4 rfl) ?_
  refine lv_iload_n hx hb dX3_nextFree_7 rfl (lv_at hl 2 rfl) ?_
  have g2 := ite_some hf
  refine lv_icmp_ge (tgt := 29) hx hb dX3_nextFree_8 (by decide) (fun c1 => ?_) (fun c1 => ?_)
  · replace hf := g2.1 c1
    exact hK29 _ hf _ _ _ hP hD hS (lv_sub hl [0, 1, 2, 3] rfl)
  · replace hf := g2.2 c1
    refine lv_iload_n hx hb dX3_nextFree_11 rfl (lv_at hl 3 rfl) ?_
    refine lv_iconst (v := 1) hx hb dX3_nextFree_12 rfl ?_
    refine lv_aload_n hx hb dX3_nextFree_13 rfl (lv_at hl 1 rfl) ?_
    refine va_get (D := D) (ci := 0) (v := .ref (q_a1 2)) (C := RX0) (T := TX0) (N := 10) hx hb hT iX0 hown hK hP 1 rfl rfl 2 (by decide) (hT _ fw_X3_25) (fun _ h9 => h9) rfl dX3_nextFree_14 ?_
    refine lv_iload hx hb dX3_nextFree_17 (lv_at hl 4 rfl) ?_
    obtain ⟨hi, hf⟩ := chk_some hf
    refine va_iald (D := D) hx hb hK hP 2 0 rfl rfl hi dX3_nextFree_19 ?_
    refine lv_ishl hx hb dX3_nextFree_20 ?_
    refine lv_ior hx hb dX3_nextFree_21 ?_
    refine lv_istore_n (lv' := [(3, .int ((v.1) ||| (1 <<< (((d_a1.2 2) (v.2).toNatClampNeg) &&& 31)))), (0, .ref h_a0), (1, .ref h_a1), (2, .int x2), (4, .int (v.2))]) hx hb dX3_nextFree_22 rfl hl (by decide) rfl (fun ls hl => ?_)
    refine lv_iinc (v := ((v.2) + 1)) (lv' := [(4, .int ((v.2) + 1)), (3, .int ((v.1) ||| (1 <<< (((d_a1.2 2) (v.2).toNatClampNeg) &&& 31)))), (0, .ref h_a0), (1, .ref h_a1), (2, .int x2)]) hx hb dX3_nextFree_23 hl (k := 4) rfl rfl (by decide) rfl (fun ls hl => ?_)
    refine lv_goto (tgt := 5) hx hb dX3_nextFree_26 (by decide) ?_
    exact ih _ hf _ _ _ hP hD hS (lv_sub hl [2, 3, 4, 1, 0] rfl)
set_option maxHeartbeats 4000000 in
set_option maxRecDepth 100000 in
theorem mX3_nextFree_B39 {l : Launch} {p : Program} {e : Env} {s : State} {m : MethodId} {args : Array Value} {below : List Frame} {meth : Method} {c : Code} {D : va_G} {cs : Nat → ClassId} {sk : Nat → Nat} {A : Nat → Prop} {Q : State → Prop} (h_a0 : Nat) (h_a1 : Nat) (q_a0 : Nat → Nat) (q_a1 : Nat → Nat) (k : Nat) (x3 : Int32) (d_a0 : Dat) (d_a1 : Dat) {rv : Int32}  (K57 : Int32 → Option (Int32)) (K66 : Unit → Option (Int32))
    (M : MC p s m args meth c D cs sk A RX3 cX3_nextFree 5 (some .int)) (hA : ∀ q, s.heap.size ≤ q → A q) (hR : RetI p l e rm_X3_nextFree s m args below meth c D cX3_nextFree A Q (rv) [oX4 h_a0 q_a0 (d_a0.1), oX0 h_a1 q_a1 (d_a1.1), ((q_a1 2), .inl (cs 0, 6, .inl (d_a1.2 2)))])
    (hK57 : ∀ (w : Int32), K57 w = some rv → ∀ (H : Heap) (locs : List Loc) (ls : Array Slot), va_P D vwCl [oX4 h_a0 q_a0 (d_a0.1), oX0 h_a1 q_a1 (d_a1.1), ((q_a1 2), .inl (cs 0, 6, .inl (d_a1.2 2)))] H → va_D A [oX4 h_a0 q_a0 (d_a0.1), oX0 h_a1 q_a1 (d_a1.1), ((q_a1 2), .inl (cs 0, 6, .inl (d_a1.2 2)))] → va_S A s.heap H locs → lv_has ls 5 [(4, .int w)] → W p l e rm_X3_nextFree s m args below meth c H locs 0 0 Q (F0 m 57 ls []))
    (hK66 : ∀ (w : Unit), K66 w = some rv → ∀ (H : Heap) (locs : List Loc) (ls : Array Slot), va_P D vwCl [oX4 h_a0 q_a0 (d_a0.1), oX0 h_a1 q_a1 (d_a1.1), ((q_a1 2), .inl (cs 0, 6, .inl (d_a1.2 2)))] H → va_D A [oX4 h_a0 q_a0 (d_a0.1), oX0 h_a1 q_a1 (d_a1.1), ((q_a1 2), .inl (cs 0, 6, .inl (d_a1.2 2)))] → va_S A s.heap H locs → lv_has ls 5 [] → W p l e rm_X3_nextFree s m args below meth c H locs 0 0 Q (F0 m 66 ls []))
    : ∀ (n : Nat) (v : Int32), lp (fX3_nextFree_B39 k x3 d_a0 K57 K66) n v = some rv → ∀ (H : Heap) (locs : List Loc) (ls : Array Slot), va_P D vwCl [oX4 h_a0 q_a0 (d_a0.1), oX0 h_a1 q_a1 (d_a1.1), ((q_a1 2), .inl (cs 0, 6, .inl (d_a1.2 2)))] H → va_D A [oX4 h_a0 q_a0 (d_a0.1), oX0 h_a1 q_a1 (d_a1.1), ((q_a1 2), .inl (cs 0, 6, .inl (d_a1.2 2)))] → va_S A s.heap H locs → lv_has ls 5 [(0, .ref h_a0), (3, .int x3), (4, .int v)] → W p l e rm_X3_nextFree s m args below meth c H locs 0 0 Q (F0 m 39 ls []) := by
  obtain ⟨hx, hb, hml, hT, hown, hlk, hrt, hK, hN, hSE⟩ := id M
  refine lp_ind (fun rec ih v hf H locs ls hP hD hS hl => ?_)
  unfold fX3_nextFree_B39 at hf
  refine lv_iload hx hb dX3_nextFree_39 (lv_at hl 2 rfl) ?_
  refine lv_aload_n hx hb dX3_nextFree_41 rfl (lv_at hl 0 rfl) ?_
  refine va_get (D := D) (ci := 4) (v := .int (d_a0.1 0)) (C := RX4) (T := TX4) (N := 11) hx hb hT iX4 hown hK hP 0 rfl rfl 0 (by decide) (hT _ fw_X3_50) (fun _ h9 => h9) rfl dX3_nextFree_42 ?_
  have g2 := ite_some hf
  refine lv_icmp_ge (tgt := 66) hx hb dX3_nextFree_45 (by decide) (fun c1 => ?_) (fun c1 => ?_)
  · replace hf := g2.1 c1
    exact hK66 _ hf _ _ _ hP hD hS (lv_sub hl [] rfl)
  · replace hf := g2.2 c1
    refine lv_iload_n hx hb dX3_nextFree_48 rfl (lv_at hl 1 rfl) ?_
    refine lv_iload hx hb dX3_nextFree_49 (lv_at hl 2 rfl) ?_
    obtain ⟨r3, e4, hf⟩ := bind_some hf
    refine callSNi (As := [.int x3, .int v]) (rest := []) M (mX6_holds l D cs sk  k x3 v e4) mw_X3_54 ln_X6_holds ⟨rfl, rfl, Nat.le_of_ble_eq_true rfl, Nat.le_of_ble_eq_true rfl⟩ hP hD hS hA [] (by decide) rfl rfl ⟨Nat.zero_le _, Nat.zero_le _⟩ hl.1 rfl (Nat.le_of_ble_eq_true rfl) dX3_nextFree_51 (fun H locs hP hD hS => ?_)
    replace hP : va_P D vwCl [oX4 h_a0 q_a0 (d_a0.1), oX0 h_a1 q_a1 (d_a1.1), ((q_a1 2), .inl (cs 0, 6, .inl (d_a1.2 2)))] H := hP
    replace hD : va_D A [oX4 h_a0 q_a0 (d_a0.1), oX0 h_a1 q_a1 (d_a1.1), ((q_a1 2), .inl (cs 0, 6, .inl (d_a1.2 2)))] := hD
    have g6 := ite_some hf
    refine lv_if_ne (tgt := 60) hx hb dX3_nextFree_54 (by decide) (fun c5 => ?_) (fun c5 => ?_)
    · replace hf := g6.2 c5
      refine lv_iinc (v := (v + 1)) (lv' := [(4, .int (v + 1)), (0, .ref h_a0), (3, .int x3)]) hx hb dX3_nextFree_60 hl (k := 2) rfl rfl (by decide) rfl (fun ls hl => ?_)
      refine lv_goto (tgt := 39) hx hb dX3_nextFree_63 (by decide) ?_
      exact ih _ hf _ _ _ hP hD hS (lv_sub hl [1, 2, 0] rfl)
    · replace hf := g6.1 c5
      exact hK57 _ hf _ _ _ hP hD hS (lv_sub hl [2] rfl)
set_option maxHeartbeats 4000000 in
set_option maxRecDepth 100000 in
theorem mX3_nextFree (l : Launch) (D : va_G) (cs : Nat → ClassId) (sk : Nat → Nat) (h_a0 : Nat) (h_a1 : Nat) (q_a0 : Nat → Nat) (q_a1 : Nat → Nat) (k : Nat) (d_a0 : Dat) (d_a1 : Dat) (x2 : Int32) {rv : Int32} (hf : fX3_nextFree k d_a0 d_a1 x2 = some rv) : CTi l yX3_nextFree (Cond.code yX3_nextFree cX3_nextFree 5 (some .int) :: gtbl) rm_X3_nextFree D cs sk [.ref h_a0, .ref h_a1, .int x2] [oX4 h_a0 q_a0 (d_a0.1), oX0 h_a1 q_a1 (d_a1.1), ((q_a1 2), .inl (cs 0, 6, .inl (d_a1.2 2)))] (rv) [oX4 h_a0 q_a0 (d_a0.1), oX0 h_a1 q_a1 (d_a1.1), ((q_a1 2), .inl (cs 0, 6, .inl (d_a1.2 2)))] := by
  refine CTi.of RX3 (by decide +kernel) rfl (Nat.le_of_ble_eq_true rfl) (fun p e s m args below meth c A Q ls M hA hR hl hP hD hS => ?_)
  obtain ⟨hx, hb, hml, hT, hown, hlk, hrt, hK, hN, hSE⟩ := id M
  replace hl : lv_has ls 5 [(0, .ref h_a0), (1, .ref h_a1), (2, .int x2)] := hl
  unfold fX3_nextFree at hf
  refine lv_iconst (v := 0) hx hb dX3_nextFree_0 rfl ?_
  refine lv_istore_n (lv' := [(3, .int 0), (0, .ref h_a0), (1, .ref h_a1), (2, .int x2)]) hx hb dX3_nextFree_1 rfl hl (by decide) rfl (fun ls hl => ?_)
  refine lv_iconst (v := 0) hx hb dX3_nextFree_2 rfl ?_
  refine lv_istore (lv' := [(4, .int 0), (3, .int 0), (0, .ref h_a0), (1, .ref h_a1), (2, .int x2)]) hx hb dX3_nextFree_3 hl (by decide) rfl (fun ls hl => ?_)
  refine mX3_nextFree_B5 h_a0 h_a1 q_a0 q_a1 k x2 d_a0 d_a1 _ M hA hR (fun w1 hf H locs ls hP hD hS hl => ?_) _ _ hf _ _ _ hP hD hS (lv_sub hl [2, 3, 4, 1, 0] rfl)
  · refine lv_aload_n hx hb dX3_nextFree_29 rfl (lv_at hl 1 rfl) ?_
    refine va_get (D := D) (ci := 0) (v := .ref (q_a1 2)) (C := RX0) (T := TX0) (N := 10) hx hb hT iX0 hown hK hP 1 rfl rfl 2 (by decide) (hT _ fw_X3_25) (fun _ h9 => h9) rfl dX3_nextFree_30 ?_
    refine lv_iload_n hx hb dX3_nextFree_33 rfl (lv_at hl 2 rfl) ?_
    obtain ⟨hi, hf⟩ := chk_some hf
    refine va_iald (D := D) hx hb hK hP 2 0 rfl rfl hi dX3_nextFree_34 ?_
    refine lv_iconst (v := 1) hx hb dX3_nextFree_35 rfl ?_
    refine lv_iadd hx hb dX3_nextFree_36 ?_
    refine lv_istore (lv' := [(4, .int (((d_a1.2 2) x2.toNatClampNeg) + 1)), (0, .ref h_a0), (1, .ref h_a1), (2, .int x2), (3, .int w1)]) hx hb dX3_nextFree_37 hl (by decide) rfl (fun ls hl => ?_)
    refine mX3_nextFree_B39 h_a0 h_a1 q_a0 q_a1 k w1 d_a0 d_a1 _ _ M hA hR (fun w2 hf H locs ls hP hD hS hl => ?_) (fun w3 hf H locs ls hP hD hS hl => ?_) _ _ hf _ _ _ hP hD hS (lv_sub hl [1, 4, 0] rfl)
    · refine lv_iload hx hb dX3_nextFree_57 (lv_at hl 0 rfl) ?_
      have e9 := Option.some.inj hf
      subst e9
      exact hR _ _ _ _ dX3_nextFree_59 hP hS
    · refine lv_iconst (v := (-1)) hx hb dX3_nextFree_66 rfl ?_
      have e9 := Option.some.inj hf
      subst e9
      exact hR _ _ _ _ dX3_nextFree_67 hP hS
abbrev rm_X3_leastLoud : Room := { frames := 3, cells := 0, slots := 0, locals := 69 }
def fX3_leastLoud_B18 (k : Nat) (x2 : Int32) (d_a0 : Dat) (d_a1 : Dat) (K57 : Int32 → Option (Int32)) (rec : Int32 × Int32 → Option (Int32)) (v : Int32 × Int32) : Option (Int32) :=
  (if (d_a0.1 3) ≤ (v.2) then K57 (v.1) else chk 6 x2 (chk 6 x2 ((fX4_pacesToEar k d_a0 ((d_a1.2 2) x2.toNatClampNeg) (v.2)).bind (fun (r3 : Int32) => rec ((if (((d_a1.2 3) x2.toNatClampNeg) - r3) < (v.1) then (((d_a1.2 3) x2.toNatClampNeg) - r3) else (v.1)), ((v.2) + 1))))))
def fX3_leastLoud (k : Nat) (d_a0 : Dat) (d_a1 : Dat) (x2 : Int32) : Option (Int32) :=
  chk 6 x2 ((if ((d_a1.2 1) x2.toNatClampNeg) = 5 then some 99 else lp (fX3_leastLoud_B18 k x2 d_a0 d_a1 (fun (w3 : Int32) => some (if (0 : Int32) < w3 then w3 else (0 : Int32)))) k (99, 0)))
set_option maxHeartbeats 4000000 in
set_option maxRecDepth 100000 in
theorem mX3_leastLoud_B18 {l : Launch} {p : Program} {e : Env} {s : State} {m : MethodId} {args : Array Value} {below : List Frame} {meth : Method} {c : Code} {D : va_G} {cs : Nat → ClassId} {sk : Nat → Nat} {A : Nat → Prop} {Q : State → Prop} (h_a0 : Nat) (h_a1 : Nat) (q_a0 : Nat → Nat) (q_a1 : Nat → Nat) (k : Nat) (x2 : Int32) (d_a0 : Dat) (d_a1 : Dat) {rv : Int32}  (K57 : Int32 → Option (Int32))
    (M : MC p s m args meth c D cs sk A RX3 cX3_leastLoud 5 (some .int)) (hA : ∀ q, s.heap.size ≤ q → A q) (hR : RetI p l e rm_X3_leastLoud s m args below meth c D cX3_leastLoud A Q (rv) [oX4 h_a0 q_a0 (d_a0.1), ((q_a0 1), .inl (cs 0, 6, .inl (d_a0.2 1))), ((q_a0 2), .inl (cs 0, 6, .inl (d_a0.2 2))), ((q_a0 4), .inl (cs 0, 3, .inl (d_a0.2 4))), ((q_a0 5), .inl (cs 0, 3, .inl (d_a0.2 5))), oX0 h_a1 q_a1 (d_a1.1), ((q_a1 1), .inl (cs 0, 6, .inl (d_a1.2 1))), ((q_a1 2), .inl (cs 0, 6, .inl (d_a1.2 2))), ((q_a1 3), .inl (cs 0, 6, .inl (d_a1.2 3)))])
    (hK57 : ∀ (w : Int32), K57 w = some rv → ∀ (H : Heap) (locs : List Loc) (ls : Array Slot), va_P D vwCl [oX4 h_a0 q_a0 (d_a0.1), ((q_a0 1), .inl (cs 0, 6, .inl (d_a0.2 1))), ((q_a0 2), .inl (cs 0, 6, .inl (d_a0.2 2))), ((q_a0 4), .inl (cs 0, 3, .inl (d_a0.2 4))), ((q_a0 5), .inl (cs 0, 3, .inl (d_a0.2 5))), oX0 h_a1 q_a1 (d_a1.1), ((q_a1 1), .inl (cs 0, 6, .inl (d_a1.2 1))), ((q_a1 2), .inl (cs 0, 6, .inl (d_a1.2 2))), ((q_a1 3), .inl (cs 0, 6, .inl (d_a1.2 3)))] H → va_D A [oX4 h_a0 q_a0 (d_a0.1), ((q_a0 1), .inl (cs 0, 6, .inl (d_a0.2 1))), ((q_a0 2), .inl (cs 0, 6, .inl (d_a0.2 2))), ((q_a0 4), .inl (cs 0, 3, .inl (d_a0.2 4))), ((q_a0 5), .inl (cs 0, 3, .inl (d_a0.2 5))), oX0 h_a1 q_a1 (d_a1.1), ((q_a1 1), .inl (cs 0, 6, .inl (d_a1.2 1))), ((q_a1 2), .inl (cs 0, 6, .inl (d_a1.2 2))), ((q_a1 3), .inl (cs 0, 6, .inl (d_a1.2 3)))] → va_S A s.heap H locs → lv_has ls 5 [(3, .int w)] → W p l e rm_X3_leastLoud s m args below meth c H locs 0 0 Q (F0 m 57 ls []))
    : ∀ (n : Nat) (v : Int32 × Int32), lp (fX3_leastLoud_B18 k x2 d_a0 d_a1 K57) n v = some rv → ∀ (H : Heap) (locs : List Loc) (ls : Array Slot), va_P D vwCl [oX4 h_a0 q_a0 (d_a0.1), ((q_a0 1), .inl (cs 0, 6, .inl (d_a0.2 1))), ((q_a0 2), .inl (cs 0, 6, .inl (d_a0.2 2))), ((q_a0 4), .inl (cs 0, 3, .inl (d_a0.2 4))), ((q_a0 5), .inl (cs 0, 3, .inl (d_a0.2 5))), oX0 h_a1 q_a1 (d_a1.1), ((q_a1 1), .inl (cs 0, 6, .inl (d_a1.2 1))), ((q_a1 2), .inl (cs 0, 6, .inl (d_a1.2 2))), ((q_a1 3), .inl (cs 0, 6, .inl (d_a1.2 3)))] H → va_D A [oX4 h_a0 q_a0 (d_a0.1), ((q_a0 1), .inl (cs 0, 6, .inl (d_a0.2 1))), ((q_a0 2), .inl (cs 0, 6, .inl (d_a0.2 2))), ((q_a0 4), .inl (cs 0, 3, .inl (d_a0.2 4))), ((q_a0 5), .inl (cs 0, 3, .inl (d_a0.2 5))), oX0 h_a1 q_a1 (d_a1.1), ((q_a1 1), .inl (cs 0, 6, .inl (d_a1.2 1))), ((q_a1 2), .inl (cs 0, 6, .inl (d_a1.2 2))), ((q_a1 3), .inl (cs 0, 6, .inl (d_a1.2 3)))] → va_S A s.heap H locs → lv_has ls 5 [(0, .ref h_a0), (1, .ref h_a1), (2, .int x2), (3, .int (v.1)), (4, .int (v.2))] → W p l e rm_X3_leastLoud s m args below meth c H locs 0 0 Q (F0 m 18 ls []) := by
  obtain ⟨hx, hb, hml, hT, hown, hlk, hrt, hK, hN, hSE⟩ := id M
  refine lp_ind (fun rec ih v hf H locs ls hP hD hS hl => ?_)
  unfold fX3_leastLoud_B18 at hf
  refine lv_iload hx hb dX3_leastLoud_18 (lv_at hl 4 rfl) ?_
  refine lv_aload_n hx hb dX3_leastLoud_20 rfl (lv_at hl 0 rfl) ?_
  refine va_get (D := D) (ci := 4) (v := .int (d_a0.1 3)) (C := RX4) (T := TX4) (N := 11) hx hb hT iX4 hown hK hP 0 rfl rfl 3 (by decide) (hT _ fw_X3_58) (fun _ h9 => h9) rfl dX3_leastLoud_21 ?_
  have g2 := ite_some hf
  refine lv_icmp_ge (tgt := 57) hx hb dX3_leastLoud_24 (by decide) (fun c1 => ?_) (fun c1 => ?_)
  · replace hf := g2.1 c1
    exact hK57 _ hf _ _ _ hP hD hS (lv_sub hl [3] rfl)
  · replace hf := g2.2 c1
    refine lv_iload_n hx hb dX3_leastLoud_27 rfl (lv_at hl 3 rfl) ?_
    refine lv_aload_n hx hb dX3_leastLoud_28 rfl (lv_at hl 1 rfl) ?_
    refine va_get (D := D) (ci := 0) (v := .ref (q_a1 3)) (C := RX0) (T := TX0) (N := 10) hx hb hT iX0 hown hK hP 5 rfl rfl 3 (by decide) (hT _ fw_X3_73) (fun _ h9 => h9) rfl dX3_leastLoud_29 ?_
    refine lv_iload_n hx hb dX3_leastLoud_32 rfl (lv_at hl 2 rfl) ?_
    obtain ⟨hi, hf⟩ := chk_some hf
    refine va_iald (D := D) hx hb hK hP 8 0 rfl rfl hi dX3_leastLoud_33 ?_
    refine lv_aload_n hx hb dX3_leastLoud_34 rfl (lv_at hl 0 rfl) ?_
    refine lv_aload_n hx hb dX3_leastLoud_35 rfl (lv_at hl 1 rfl) ?_
    refine va_get (D := D) (ci := 0) (v := .ref (q_a1 2)) (C := RX0) (T := TX0) (N := 10) hx hb hT iX0 hown hK hP 5 rfl rfl 2 (by decide) (hT _ fw_X3_25) (fun _ h9 => h9) rfl dX3_leastLoud_36 ?_
    refine lv_iload_n hx hb dX3_leastLoud_39 rfl (lv_at hl 2 rfl) ?_
    obtain ⟨hi, hf⟩ := chk_some hf
    refine va_iald (D := D) hx hb hK hP 7 0 rfl rfl hi dX3_leastLoud_40 ?_
    refine lv_iload hx hb dX3_leastLoud_41 (lv_at hl 4 rfl) ?_
    obtain ⟨r3, e4, hf⟩ := bind_some hf
    refine callVi (As := [.int ((d_a1.2 2) x2.toNatClampNeg), .int (v.2)]) (rest := [.int ((d_a1.2 3) x2.toNatClampNeg), .int (v.1)]) M (mX4_pacesToEar l D cs sk h_a0 q_a0 k d_a0 ((d_a1.2 2) x2.toNatClampNeg) (v.2) e4) mw_X3_76 ln_X4_pacesToEar ⟨rfl, rfl, Nat.le_of_ble_eq_true rfl, Nat.le_of_ble_eq_true rfl⟩ hP hD hS hA [0, 1, 2, 3, 4] (by decide) rfl rfl (q0 := 0) rfl rfl rfl ⟨Nat.zero_le _, Nat.zero_le _⟩ hl.1 rfl (Nat.le_of_ble_eq_true rfl) dX3_leastLoud_43 (fun H locs hP hD hS => ?_)
    replace hP : va_P D vwCl [oX4 h_a0 q_a0 (d_a0.1), ((q_a0 1), .inl (cs 0, 6, .inl (d_a0.2 1))), ((q_a0 2), .inl (cs 0, 6, .inl (d_a0.2 2))), ((q_a0 4), .inl (cs 0, 3, .inl (d_a0.2 4))), ((q_a0 5), .inl (cs 0, 3, .inl (d_a0.2 5))), oX0 h_a1 q_a1 (d_a1.1), ((q_a1 1), .inl (cs 0, 6, .inl (d_a1.2 1))), ((q_a1 2), .inl (cs 0, 6, .inl (d_a1.2 2))), ((q_a1 3), .inl (cs 0, 6, .inl (d_a1.2 3)))] H := hP
    replace hD : va_D A [oX4 h_a0 q_a0 (d_a0.1), ((q_a0 1), .inl (cs 0, 6, .inl (d_a0.2 1))), ((q_a0 2), .inl (cs 0, 6, .inl (d_a0.2 2))), ((q_a0 4), .inl (cs 0, 3, .inl (d_a0.2 4))), ((q_a0 5), .inl (cs 0, 3, .inl (d_a0.2 5))), oX0 h_a1 q_a1 (d_a1.1), ((q_a1 1), .inl (cs 0, 6, .inl (d_a1.2 1))), ((q_a1 2), .inl (cs 0, 6, .inl (d_a1.2 2))), ((q_a1 3), .inl (cs 0, 6, .inl (d_a1.2 3)))] := hD
    refine lv_isub hx hb dX3_leastLoud_46 ?_
    refine va_mmin hx hb (hml.trans hl.1.symm) hown (hT _ jw_X3_37.1) (hT _ jw_X3_37.2.1) (hT _ jw_X3_37.2.2.1) (hT _ jw_X3_37.2.2.2) (Nat.le_of_ble_eq_true rfl) (Nat.le_of_ble_eq_true rfl) (Nat.zero_le _) (Nat.zero_le _) dX3_leastLoud_47 ?_
    refine lv_istore_n (lv' := [(3, .int (if (((d_a1.2 3) x2.toNatClampNeg) - r3) < (v.1) then (((d_a1.2 3) x2.toNatClampNeg) - r3) else (v.1))), (0, .ref h_a0), (1, .ref h_a1), (2, .int x2), (4, .int (v.2))]) hx hb dX3_leastLoud_50 rfl hl (by decide) rfl (fun ls hl => ?_)
    refine lv_iinc (v := ((v.2) + 1)) (lv' := [(4, .int ((v.2) + 1)), (3, .int (if (((d_a1.2 3) x2.toNatClampNeg) - r3) < (v.1) then (((d_a1.2 3) x2.toNatClampNeg) - r3) else (v.1))), (0, .ref h_a0), (1, .ref h_a1), (2, .int x2)]) hx hb dX3_leastLoud_51 hl (k := 4) rfl rfl (by decide) rfl (fun ls hl => ?_)
    refine lv_goto (tgt := 18) hx hb dX3_leastLoud_54 (by decide) ?_
    exact ih _ hf _ _ _ hP hD hS (lv_sub hl [2, 3, 4, 1, 0] rfl)
set_option maxHeartbeats 4000000 in
set_option maxRecDepth 100000 in
theorem mX3_leastLoud (l : Launch) (D : va_G) (cs : Nat → ClassId) (sk : Nat → Nat) (h_a0 : Nat) (h_a1 : Nat) (q_a0 : Nat → Nat) (q_a1 : Nat → Nat) (k : Nat) (d_a0 : Dat) (d_a1 : Dat) (x2 : Int32) {rv : Int32} (hf : fX3_leastLoud k d_a0 d_a1 x2 = some rv) : CTi l yX3_leastLoud (Cond.code yX3_leastLoud cX3_leastLoud 5 (some .int) :: gtbl) rm_X3_leastLoud D cs sk [.ref h_a0, .ref h_a1, .int x2] [oX4 h_a0 q_a0 (d_a0.1), ((q_a0 1), .inl (cs 0, 6, .inl (d_a0.2 1))), ((q_a0 2), .inl (cs 0, 6, .inl (d_a0.2 2))), ((q_a0 4), .inl (cs 0, 3, .inl (d_a0.2 4))), ((q_a0 5), .inl (cs 0, 3, .inl (d_a0.2 5))), oX0 h_a1 q_a1 (d_a1.1), ((q_a1 1), .inl (cs 0, 6, .inl (d_a1.2 1))), ((q_a1 2), .inl (cs 0, 6, .inl (d_a1.2 2))), ((q_a1 3), .inl (cs 0, 6, .inl (d_a1.2 3)))] (rv) [oX4 h_a0 q_a0 (d_a0.1), ((q_a0 1), .inl (cs 0, 6, .inl (d_a0.2 1))), ((q_a0 2), .inl (cs 0, 6, .inl (d_a0.2 2))), ((q_a0 4), .inl (cs 0, 3, .inl (d_a0.2 4))), ((q_a0 5), .inl (cs 0, 3, .inl (d_a0.2 5))), oX0 h_a1 q_a1 (d_a1.1), ((q_a1 1), .inl (cs 0, 6, .inl (d_a1.2 1))), ((q_a1 2), .inl (cs 0, 6, .inl (d_a1.2 2))), ((q_a1 3), .inl (cs 0, 6, .inl (d_a1.2 3)))] := by
  refine CTi.of RX3 (by decide +kernel) rfl (Nat.le_of_ble_eq_true rfl) (fun p e s m args below meth c A Q ls M hA hR hl hP hD hS => ?_)
  obtain ⟨hx, hb, hml, hT, hown, hlk, hrt, hK, hN, hSE⟩ := id M
  replace hl : lv_has ls 5 [(0, .ref h_a0), (1, .ref h_a1), (2, .int x2)] := hl
  unfold fX3_leastLoud at hf
  refine lv_bipush (v := 99) hx hb dX3_leastLoud_0 rfl ?_
  refine lv_istore_n (lv' := [(3, .int 99), (0, .ref h_a0), (1, .ref h_a1), (2, .int x2)]) hx hb dX3_leastLoud_2 rfl hl (by decide) rfl (fun ls hl => ?_)
  refine lv_aload_n hx hb dX3_leastLoud_3 rfl (lv_at hl 2 rfl) ?_
  refine va_get (D := D) (ci := 0) (v := .ref (q_a1 1)) (C := RX0) (T := TX0) (N := 10) hx hb hT iX0 hown hK hP 5 rfl rfl 1 (by decide) (hT _ fw_X3_70) (fun _ h9 => h9) rfl dX3_leastLoud_4 ?_
  refine lv_iload_n hx hb dX3_leastLoud_7 rfl (lv_at hl 3 rfl) ?_
  obtain ⟨hi, hf⟩ := chk_some hf
  refine va_iald (D := D) hx hb hK hP 6 0 rfl rfl hi dX3_leastLoud_8 ?_
  refine lv_iconst (v := 5) hx hb dX3_leastLoud_9 rfl ?_
  have g2 := ite_some hf
  refine lv_icmp_ne (tgt := 15) hx hb dX3_leastLoud_10 (by decide) (fun c1 => ?_) (fun c1 => ?_)
  · replace hf := g2.2 c1
    refine lv_iconst (v := 0) hx hb dX3_leastLoud_15 rfl ?_
    refine lv_istore (lv' := [(4, .int 0), (3, .int 99), (0, .ref h_a0), (1, .ref h_a1), (2, .int x2)]) hx hb dX3_leastLoud_16 hl (by decide) rfl (fun ls hl => ?_)
    refine mX3_leastLoud_B18 h_a0 h_a1 q_a0 q_a1 k x2 d_a0 d_a1 _ M hA hR (fun w3 hf H locs ls hP hD hS hl => ?_) _ _ hf _ _ _ hP hD hS (lv_sub hl [2, 3, 4, 1, 0] rfl)
    · refine lv_iconst (v := 0) hx hb dX3_leastLoud_57 rfl ?_
      refine lv_iload_n hx hb dX3_leastLoud_58 rfl (lv_at hl 0 rfl) ?_
      refine va_mmax hx hb (hml.trans hl.1.symm) hown (hT _ jw_X3_79.1) (hT _ jw_X3_79.2.1) (hT _ jw_X3_79.2.2.1) (hT _ jw_X3_79.2.2.2) (Nat.le_of_ble_eq_true rfl) (Nat.le_of_ble_eq_true rfl) (Nat.zero_le _) (Nat.zero_le _) dX3_leastLoud_59 ?_
      have e9 := Option.some.inj hf
      subst e9
      exact hR _ _ _ _ dX3_leastLoud_62 hP hS
  · replace hf := g2.1 c1
    refine lv_iload_n hx hb dX3_leastLoud_13 rfl (lv_at hl 0 rfl) ?_
    have e9 := Option.some.inj hf
    subst e9
    exact hR _ _ _ _ dX3_leastLoud_14 hP hS
abbrev rm_X3_judge : Room := { frames := 5, cells := 0, slots := 0, locals := 125 }
def fX3_judge_B6 (k : Nat) (d_a1 : Dat) (d_a2 : Dat) (d_a3 : Dat) (K34 : Int32 × Dat → Option (Dat × Dat)) (rec : Int32 × Int32 × Dat → Option (Dat × Dat)) (v : Int32 × Int32 × Dat) : Option (Dat × Dat) :=
  (if (d_a1.1 3) ≤ (v.2.1) then K34 ((v.1), (v.2.2.1, (va_up (va_up (va_up d_a3.2 1 (v.2.2.2 1)) 2 (v.2.2.2 2)) 3 (v.2.2.2 3)))) else (fX1_spreadAt k (v.2.2.1, (va_up (va_up (va_up d_a3.2 1 (v.2.2.2 1)) 2 (v.2.2.2 2)) 3 (v.2.2.2 3))) d_a1 d_a2 (v.2.1)).bind (fun (r3 : Int32 × Dat) => rec (((v.1) + (r3.1)), ((v.2.1) + 1), (r3.2.1, (va_up (va_up (va_up d_a3.2 1 (r3.2.2 1)) 2 (r3.2.2 2)) 3 (r3.2.2 3))))))
def fX3_judge (k : Nat) (d_t : Dat) (d_a1 : Dat) (d_a2 : Dat) (d_a3 : Dat) (x4 : Int32) : Option (Dat × Dat) :=
  lp (fX3_judge_B6 k d_a1 d_a2 d_a3 (fun (w1 : Int32 × Dat) => (if (d_t.1 2) < x4 then (fX6_copyRow k 6 6 (d_a2.2 2) (d_t.2 0)).bind (fun (r4 : (Nat → Int32)) => some (((upd (upd d_t.1 2 x4) 3 (w1.1)), (va_up d_t.2 0 r4)), (w1.2.1, (va_up (va_up (va_up d_a3.2 1 (w1.2.2 1)) 2 (w1.2.2 2)) 3 (w1.2.2 3))))) else (if (d_t.1 3) ≤ (w1.1) then some (d_t, (w1.2.1, (va_up (va_up (va_up d_a3.2 1 (w1.2.2 1)) 2 (w1.2.2 2)) 3 (w1.2.2 3)))) else (fX6_copyRow k 6 6 (d_a2.2 2) (d_t.2 0)).bind (fun (r8 : (Nat → Int32)) => some (((upd (upd d_t.1 2 x4) 3 (w1.1)), (va_up d_t.2 0 r8)), (w1.2.1, (va_up (va_up (va_up d_a3.2 1 (w1.2.2 1)) 2 (w1.2.2 2)) 3 (w1.2.2 3))))))))) k (0, 0, d_a3)
set_option maxHeartbeats 4000000 in
set_option maxRecDepth 100000 in
theorem mX3_judge_B6 {l : Launch} {p : Program} {e : Env} {s : State} {m : MethodId} {args : Array Value} {below : List Frame} {meth : Method} {c : Code} {D : va_G} {cs : Nat → ClassId} {sk : Nat → Nat} {A : Nat → Prop} {Q : State → Prop} (h_t : Nat) (h_a1 : Nat) (h_a2 : Nat) (h_a3 : Nat) (q_t : Nat → Nat) (q_a1 : Nat → Nat) (q_a2 : Nat → Nat) (q_a3 : Nat → Nat) (k : Nat) (x4 : Int32) (d_t : Dat) (d_a1 : Dat) (d_a2 : Dat) (d_a3 : Dat) {rv : Dat × Dat}  (K34 : Int32 × Dat → Option (Dat × Dat))
    (M : MC p s m args meth c D cs sk A RX3 cX3_judge 7 none) (hA : ∀ q, s.heap.size ≤ q → A q) (hR : RetV p l e rm_X3_judge s m args below meth c D cX3_judge A Q [oX3 h_t q_t (rv.1.1), ((q_t 0), .inl (cs 0, 6, .inl (rv.1.2 0))), oX4 h_a1 q_a1 (d_a1.1), ((q_a1 1), .inl (cs 0, 6, .inl (d_a1.2 1))), ((q_a1 2), .inl (cs 0, 6, .inl (d_a1.2 2))), ((q_a1 4), .inl (cs 0, 3, .inl (d_a1.2 4))), ((q_a1 5), .inl (cs 0, 3, .inl (d_a1.2 5))), oX0 h_a2 q_a2 (d_a2.1), ((q_a2 1), .inl (cs 0, 6, .inl (d_a2.2 1))), ((q_a2 2), .inl (cs 0, 6, .inl (d_a2.2 2))), ((q_a2 3), .inl (cs 0, 6, .inl (d_a2.2 3))), ((q_a2 4), .inl (cs 0, 6, .inl (d_a2.2 4))), oX1 h_a3 q_a3 (rv.2.1), ((q_a3 1), .inl (cs 0, 12, .inl (rv.2.2 1))), ((q_a3 2), .inl (cs 0, 12, .inl (rv.2.2 2))), ((q_a3 3), .inl (cs 0, 12, .inl (rv.2.2 3)))])
    (hK34 : ∀ (w : Int32 × Dat), K34 w = some rv → ∀ (H : Heap) (locs : List Loc) (ls : Array Slot), va_P D vwCl [oX3 h_t q_t (d_t.1), ((q_t 0), .inl (cs 0, 6, .inl (d_t.2 0))), oX4 h_a1 q_a1 (d_a1.1), ((q_a1 1), .inl (cs 0, 6, .inl (d_a1.2 1))), ((q_a1 2), .inl (cs 0, 6, .inl (d_a1.2 2))), ((q_a1 4), .inl (cs 0, 3, .inl (d_a1.2 4))), ((q_a1 5), .inl (cs 0, 3, .inl (d_a1.2 5))), oX0 h_a2 q_a2 (d_a2.1), ((q_a2 1), .inl (cs 0, 6, .inl (d_a2.2 1))), ((q_a2 2), .inl (cs 0, 6, .inl (d_a2.2 2))), ((q_a2 3), .inl (cs 0, 6, .inl (d_a2.2 3))), ((q_a2 4), .inl (cs 0, 6, .inl (d_a2.2 4))), oX1 h_a3 q_a3 (w.2.1), ((q_a3 1), .inl (cs 0, 12, .inl (w.2.2 1))), ((q_a3 2), .inl (cs 0, 12, .inl (w.2.2 2))), ((q_a3 3), .inl (cs 0, 12, .inl (w.2.2 3)))] H → va_D A [oX3 h_t q_t (d_t.1), ((q_t 0), .inl (cs 0, 6, .inl (d_t.2 0))), oX4 h_a1 q_a1 (d_a1.1), ((q_a1 1), .inl (cs 0, 6, .inl (d_a1.2 1))), ((q_a1 2), .inl (cs 0, 6, .inl (d_a1.2 2))), ((q_a1 4), .inl (cs 0, 3, .inl (d_a1.2 4))), ((q_a1 5), .inl (cs 0, 3, .inl (d_a1.2 5))), oX0 h_a2 q_a2 (d_a2.1), ((q_a2 1), .inl (cs 0, 6, .inl (d_a2.2 1))), ((q_a2 2), .inl (cs 0, 6, .inl (d_a2.2 2))), ((q_a2 3), .inl (cs 0, 6, .inl (d_a2.2 3))), ((q_a2 4), .inl (cs 0, 6, .inl (d_a2.2 4))), oX1 h_a3 q_a3 (w.2.1), ((q_a3 1), .inl (cs 0, 12, .inl (w.2.2 1))), ((q_a3 2), .inl (cs 0, 12, .inl (w.2.2 2))), ((q_a3 3), .inl (cs 0, 12, .inl (w.2.2 3)))] → va_S A s.heap H locs → lv_has ls 7 [(0, .ref h_t), (2, .ref h_a2), (4, .int x4), (5, .int (w.1))] → W p l e rm_X3_judge s m args below meth c H locs 0 0 Q (F0 m 34 ls []))
    : ∀ (n : Nat) (v : Int32 × Int32 × Dat), lp (fX3_judge_B6 k d_a1 d_a2 d_a3 K34) n v = some rv → ∀ (H : Heap) (locs : List Loc) (ls : Array Slot), va_P D vwCl [oX3 h_t q_t (d_t.1), ((q_t 0), .inl (cs 0, 6, .inl (d_t.2 0))), oX4 h_a1 q_a1 (d_a1.1), ((q_a1 1), .inl (cs 0, 6, .inl (d_a1.2 1))), ((q_a1 2), .inl (cs 0, 6, .inl (d_a1.2 2))), ((q_a1 4), .inl (cs 0, 3, .inl (d_a1.2 4))), ((q_a1 5), .inl (cs 0, 3, .inl (d_a1.2 5))), oX0 h_a2 q_a2 (d_a2.1), ((q_a2 1), .inl (cs 0, 6, .inl (d_a2.2 1))), ((q_a2 2), .inl (cs 0, 6, .inl (d_a2.2 2))), ((q_a2 3), .inl (cs 0, 6, .inl (d_a2.2 3))), ((q_a2 4), .inl (cs 0, 6, .inl (d_a2.2 4))), oX1 h_a3 q_a3 (v.2.2.1), ((q_a3 1), .inl (cs 0, 12, .inl (v.2.2.2 1))), ((q_a3 2), .inl (cs 0, 12, .inl (v.2.2.2 2))), ((q_a3 3), .inl (cs 0, 12, .inl (v.2.2.2 3)))] H → va_D A [oX3 h_t q_t (d_t.1), ((q_t 0), .inl (cs 0, 6, .inl (d_t.2 0))), oX4 h_a1 q_a1 (d_a1.1), ((q_a1 1), .inl (cs 0, 6, .inl (d_a1.2 1))), ((q_a1 2), .inl (cs 0, 6, .inl (d_a1.2 2))), ((q_a1 4), .inl (cs 0, 3, .inl (d_a1.2 4))), ((q_a1 5), .inl (cs 0, 3, .inl (d_a1.2 5))), oX0 h_a2 q_a2 (d_a2.1), ((q_a2 1), .inl (cs 0, 6, .inl (d_a2.2 1))), ((q_a2 2), .inl (cs 0, 6, .inl (d_a2.2 2))), ((q_a2 3), .inl (cs 0, 6, .inl (d_a2.2 3))), ((q_a2 4), .inl (cs 0, 6, .inl (d_a2.2 4))), oX1 h_a3 q_a3 (v.2.2.1), ((q_a3 1), .inl (cs 0, 12, .inl (v.2.2.2 1))), ((q_a3 2), .inl (cs 0, 12, .inl (v.2.2.2 2))), ((q_a3 3), .inl (cs 0, 12, .inl (v.2.2.2 3)))] → va_S A s.heap H locs → lv_has ls 7 [(0, .ref h_t), (1, .ref h_a1), (2, .ref h_a2), (3, .ref h_a3), (4, .int x4), (5, .int (v.1)), (6, .int (v.2.1))] → W p l e rm_X3_judge s m args below meth c H locs 0 0 Q (F0 m 6 ls []) := by
  obtain ⟨hx, hb, hml, hT, hown, hlk, hrt, hK, hN, hSE⟩ := id M
  refine lp_ind (fun rec ih v hf H locs ls hP hD hS hl => ?_)
  unfold fX3_judge_B6 at hf
  refine lv_iload hx hb dX3_judge_6 (lv_at hl 6 rfl) ?_
  refine lv_aload_n hx hb dX3_judge_8 rfl (lv_at hl 1 rfl) ?_
  refine va_get (D := D) (ci := 4) (v := .int (d_a1.1 3)) (C := RX4) (T := TX4) (N := 11) hx hb hT iX4 hown hK hP 2 rfl rfl 3 (by decide) (hT _ fw_X3_58) (fun _ h9 => h9) rfl dX3_judge_9 ?_
  have g2 := ite_some hf
  refine lv_icmp_ge (tgt := 34) hx hb dX3_judge_12 (by decide) (fun c1 => ?_) (fun c1 => ?_)
  · replace hf := g2.1 c1
    exact hK34 _ hf _ _ _ hP hD hS (lv_sub hl [0, 2, 4, 5] rfl)
  · replace hf := g2.2 c1
    refine lv_iload hx hb dX3_judge_15 (lv_at hl 5 rfl) ?_
    refine lv_aload_n hx hb dX3_judge_17 rfl (lv_at hl 3 rfl) ?_
    refine lv_aload_n hx hb dX3_judge_18 rfl (lv_at hl 1 rfl) ?_
    refine lv_aload_n hx hb dX3_judge_19 rfl (lv_at hl 2 rfl) ?_
    refine lv_iload hx hb dX3_judge_20 (lv_at hl 6 rfl) ?_
    obtain ⟨r3, e4, hf⟩ := bind_some hf
    refine callVi (As := [.ref h_a1, .ref h_a2, .int (v.2.1)]) (rest := [.int (v.1)]) M (mX1_spreadAt l D cs sk h_a3 h_a1 h_a2 q_a3 q_a1 q_a2 k (v.2.2.1, (va_up (va_up (va_up d_a3.2 1 (v.2.2.2 1)) 2 (v.2.2.2 2)) 3 (v.2.2.2 3))) d_a1 d_a2 (v.2.1) e4) mw_X3_61 ln_X1_spreadAt ⟨rfl, rfl, Nat.le_of_ble_eq_true rfl, Nat.le_of_ble_eq_true rfl⟩ hP hD hS hA [12, 13, 14, 15, 2, 3, 4, 5, 6, 7, 8, 9, 10, 11] (by decide) rfl rfl (q0 := 0) rfl rfl rfl ⟨Nat.zero_le _, Nat.zero_le _⟩ hl.1 rfl (Nat.le_of_ble_eq_true rfl) dX3_judge_22 (fun H locs hP hD hS => ?_)
    replace hP : va_P D vwCl [oX3 h_t q_t (d_t.1), ((q_t 0), .inl (cs 0, 6, .inl (d_t.2 0))), oX4 h_a1 q_a1 (d_a1.1), ((q_a1 1), .inl (cs 0, 6, .inl (d_a1.2 1))), ((q_a1 2), .inl (cs 0, 6, .inl (d_a1.2 2))), ((q_a1 4), .inl (cs 0, 3, .inl (d_a1.2 4))), ((q_a1 5), .inl (cs 0, 3, .inl (d_a1.2 5))), oX0 h_a2 q_a2 (d_a2.1), ((q_a2 1), .inl (cs 0, 6, .inl (d_a2.2 1))), ((q_a2 2), .inl (cs 0, 6, .inl (d_a2.2 2))), ((q_a2 3), .inl (cs 0, 6, .inl (d_a2.2 3))), ((q_a2 4), .inl (cs 0, 6, .inl (d_a2.2 4))), oX1 h_a3 q_a3 (r3.2.1), ((q_a3 1), .inl (cs 0, 12, .inl (r3.2.2 1))), ((q_a3 2), .inl (cs 0, 12, .inl (r3.2.2 2))), ((q_a3 3), .inl (cs 0, 12, .inl (r3.2.2 3)))] H := hP
    replace hD : va_D A [oX3 h_t q_t (d_t.1), ((q_t 0), .inl (cs 0, 6, .inl (d_t.2 0))), oX4 h_a1 q_a1 (d_a1.1), ((q_a1 1), .inl (cs 0, 6, .inl (d_a1.2 1))), ((q_a1 2), .inl (cs 0, 6, .inl (d_a1.2 2))), ((q_a1 4), .inl (cs 0, 3, .inl (d_a1.2 4))), ((q_a1 5), .inl (cs 0, 3, .inl (d_a1.2 5))), oX0 h_a2 q_a2 (d_a2.1), ((q_a2 1), .inl (cs 0, 6, .inl (d_a2.2 1))), ((q_a2 2), .inl (cs 0, 6, .inl (d_a2.2 2))), ((q_a2 3), .inl (cs 0, 6, .inl (d_a2.2 3))), ((q_a2 4), .inl (cs 0, 6, .inl (d_a2.2 4))), oX1 h_a3 q_a3 (r3.2.1), ((q_a3 1), .inl (cs 0, 12, .inl (r3.2.2 1))), ((q_a3 2), .inl (cs 0, 12, .inl (r3.2.2 2))), ((q_a3 3), .inl (cs 0, 12, .inl (r3.2.2 3)))] := hD
    refine lv_iadd hx hb dX3_judge_25 ?_
    refine lv_istore (lv' := [(5, .int ((v.1) + (r3.1))), (0, .ref h_t), (1, .ref h_a1), (2, .ref h_a2), (3, .ref h_a3), (4, .int x4), (6, .int (v.2.1))]) hx hb dX3_judge_26 hl (by decide) rfl (fun ls hl => ?_)
    refine lv_iinc (v := ((v.2.1) + 1)) (lv' := [(6, .int ((v.2.1) + 1)), (5, .int ((v.1) + (r3.1))), (0, .ref h_t), (1, .ref h_a1), (2, .ref h_a2), (3, .ref h_a3), (4, .int x4)]) hx hb dX3_judge_28 hl (k := 6) rfl rfl (by decide) rfl (fun ls hl => ?_)
    refine lv_goto (tgt := 6) hx hb dX3_judge_31 (by decide) ?_
    exact ih _ hf _ _ _ hP hD hS (lv_sub hl [2, 3, 4, 5, 6, 1, 0] rfl)
set_option maxHeartbeats 4000000 in
set_option maxRecDepth 100000 in
theorem mX3_judge (l : Launch) (D : va_G) (cs : Nat → ClassId) (sk : Nat → Nat) (h_t : Nat) (h_a1 : Nat) (h_a2 : Nat) (h_a3 : Nat) (q_t : Nat → Nat) (q_a1 : Nat → Nat) (q_a2 : Nat → Nat) (q_a3 : Nat → Nat) (k : Nat) (d_t : Dat) (d_a1 : Dat) (d_a2 : Dat) (d_a3 : Dat) (x4 : Int32) {rv : Dat × Dat} (hf : fX3_judge k d_t d_a1 d_a2 d_a3 x4 = some rv) : CTv l yX3_judge (Cond.code yX3_judge cX3_judge 7 none :: gtbl) rm_X3_judge D cs sk [.ref h_t, .ref h_a1, .ref h_a2, .ref h_a3, .int x4] [oX3 h_t q_t (d_t.1), ((q_t 0), .inl (cs 0, 6, .inl (d_t.2 0))), oX4 h_a1 q_a1 (d_a1.1), ((q_a1 1), .inl (cs 0, 6, .inl (d_a1.2 1))), ((q_a1 2), .inl (cs 0, 6, .inl (d_a1.2 2))), ((q_a1 4), .inl (cs 0, 3, .inl (d_a1.2 4))), ((q_a1 5), .inl (cs 0, 3, .inl (d_a1.2 5))), oX0 h_a2 q_a2 (d_a2.1), ((q_a2 1), .inl (cs 0, 6, .inl (d_a2.2 1))), ((q_a2 2), .inl (cs 0, 6, .inl (d_a2.2 2))), ((q_a2 3), .inl (cs 0, 6, .inl (d_a2.2 3))), ((q_a2 4), .inl (cs 0, 6, .inl (d_a2.2 4))), oX1 h_a3 q_a3 (d_a3.1), ((q_a3 1), .inl (cs 0, 12, .inl (d_a3.2 1))), ((q_a3 2), .inl (cs 0, 12, .inl (d_a3.2 2))), ((q_a3 3), .inl (cs 0, 12, .inl (d_a3.2 3)))] [oX3 h_t q_t (rv.1.1), ((q_t 0), .inl (cs 0, 6, .inl (rv.1.2 0))), oX4 h_a1 q_a1 (d_a1.1), ((q_a1 1), .inl (cs 0, 6, .inl (d_a1.2 1))), ((q_a1 2), .inl (cs 0, 6, .inl (d_a1.2 2))), ((q_a1 4), .inl (cs 0, 3, .inl (d_a1.2 4))), ((q_a1 5), .inl (cs 0, 3, .inl (d_a1.2 5))), oX0 h_a2 q_a2 (d_a2.1), ((q_a2 1), .inl (cs 0, 6, .inl (d_a2.2 1))), ((q_a2 2), .inl (cs 0, 6, .inl (d_a2.2 2))), ((q_a2 3), .inl (cs 0, 6, .inl (d_a2.2 3))), ((q_a2 4), .inl (cs 0, 6, .inl (d_a2.2 4))), oX1 h_a3 q_a3 (rv.2.1), ((q_a3 1), .inl (cs 0, 12, .inl (rv.2.2 1))), ((q_a3 2), .inl (cs 0, 12, .inl (rv.2.2 2))), ((q_a3 3), .inl (cs 0, 12, .inl (rv.2.2 3)))] := by
  refine CTv.of RX3 (by decide +kernel) rfl (Nat.le_of_ble_eq_true rfl) (fun p e s m args below meth c A Q ls M hA hR hl hP hD hS => ?_)
  obtain ⟨hx, hb, hml, hT, hown, hlk, hrt, hK, hN, hSE⟩ := id M
  replace hl : lv_has ls 7 [(0, .ref h_t), (1, .ref h_a1), (2, .ref h_a2), (3, .ref h_a3), (4, .int x4)] := hl
  unfold fX3_judge at hf
  refine lv_iconst (v := 0) hx hb dX3_judge_0 rfl ?_
  refine lv_istore (lv' := [(5, .int 0), (0, .ref h_t), (1, .ref h_a1), (2, .ref h_a2), (3, .ref h_a3), (4, .int x4)]) hx hb dX3_judge_1 hl (by decide) rfl (fun ls hl => ?_)
  refine lv_iconst (v := 0) hx hb dX3_judge_3 rfl ?_
  refine lv_istore (lv' := [(6, .int 0), (5, .int 0), (0, .ref h_t), (1, .ref h_a1), (2, .ref h_a2), (3, .ref h_a3), (4, .int x4)]) hx hb dX3_judge_4 hl (by decide) rfl (fun ls hl => ?_)
  refine mX3_judge_B6 h_t h_a1 h_a2 h_a3 q_t q_a1 q_a2 q_a3 k x4 d_t d_a1 d_a2 d_a3 _ M hA hR (fun w1 hf H locs ls hP hD hS hl => ?_) _ _ hf _ _ _ hP hD hS (lv_sub hl [2, 3, 4, 5, 6, 1, 0] rfl)
  · refine lv_iload hx hb dX3_judge_34 (lv_at hl 2 rfl) ?_
    refine lv_aload_n hx hb dX3_judge_36 rfl (lv_at hl 0 rfl) ?_
    refine va_get (D := D) (ci := 3) (v := .int (d_t.1 2)) (C := RX3) (T := TX3) (N := 4) hx hb hT iX3 hown hK hP 0 rfl rfl 2 (by decide) (hT _ fw_X3_18) (fun _ h9 => h9) rfl dX3_judge_37 ?_
    have g3 := ite_some hf
    refine lv_icmp_gt (tgt := 52) hx hb dX3_judge_40 (by decide) (fun c2 => ?_) (fun c2 => ?_)
    · replace hf := g3.1 c2
      refine lv_aload_n hx hb dX3_judge_52 rfl (lv_at hl 0 rfl) ?_
      refine lv_iload hx hb dX3_judge_53 (lv_at hl 2 rfl) ?_
      refine va_put (D := D) (ci := 3) (v := .int x4) (ty := tyX3 2) (C := RX3) (T := TX3) (N := 4) hx hb hT iX3 tyX3 tyX3_ok nmX3 hown hK hP hD hS 0 rfl rfl 2 (by decide) (hT _ fw_X3_18) (fun _ h9 => h9) rfl (tyX3_ok 2 (by decide)) rfl rfl (Nat.le_of_ble_eq_true rfl) dX3_judge_55 (fun H locs hP hD hS => ?_)
      replace hP : va_P D vwCl [oX3 h_t q_t (upd d_t.1 2 x4), ((q_t 0), .inl (cs 0, 6, .inl (d_t.2 0))), oX4 h_a1 q_a1 (d_a1.1), ((q_a1 1), .inl (cs 0, 6, .inl (d_a1.2 1))), ((q_a1 2), .inl (cs 0, 6, .inl (d_a1.2 2))), ((q_a1 4), .inl (cs 0, 3, .inl (d_a1.2 4))), ((q_a1 5), .inl (cs 0, 3, .inl (d_a1.2 5))), oX0 h_a2 q_a2 (d_a2.1), ((q_a2 1), .inl (cs 0, 6, .inl (d_a2.2 1))), ((q_a2 2), .inl (cs 0, 6, .inl (d_a2.2 2))), ((q_a2 3), .inl (cs 0, 6, .inl (d_a2.2 3))), ((q_a2 4), .inl (cs 0, 6, .inl (d_a2.2 4))), oX1 h_a3 q_a3 (w1.2.1), ((q_a3 1), .inl (cs 0, 12, .inl (w1.2.2 1))), ((q_a3 2), .inl (cs 0, 12, .inl (w1.2.2 2))), ((q_a3 3), .inl (cs 0, 12, .inl (w1.2.2 3)))] H := hP
      replace hD : va_D A [oX3 h_t q_t (upd d_t.1 2 x4), ((q_t 0), .inl (cs 0, 6, .inl (d_t.2 0))), oX4 h_a1 q_a1 (d_a1.1), ((q_a1 1), .inl (cs 0, 6, .inl (d_a1.2 1))), ((q_a1 2), .inl (cs 0, 6, .inl (d_a1.2 2))), ((q_a1 4), .inl (cs 0, 3, .inl (d_a1.2 4))), ((q_a1 5), .inl (cs 0, 3, .inl (d_a1.2 5))), oX0 h_a2 q_a2 (d_a2.1), ((q_a2 1), .inl (cs 0, 6, .inl (d_a2.2 1))), ((q_a2 2), .inl (cs 0, 6, .inl (d_a2.2 2))), ((q_a2 3), .inl (cs 0, 6, .inl (d_a2.2 3))), ((q_a2 4), .inl (cs 0, 6, .inl (d_a2.2 4))), oX1 h_a3 q_a3 (w1.2.1), ((q_a3 1), .inl (cs 0, 12, .inl (w1.2.2 1))), ((q_a3 2), .inl (cs 0, 12, .inl (w1.2.2 2))), ((q_a3 3), .inl (cs 0, 12, .inl (w1.2.2 3)))] := hD
      refine lv_aload_n hx hb dX3_judge_58 rfl (lv_at hl 0 rfl) ?_
      refine lv_iload hx hb dX3_judge_59 (lv_at hl 3 rfl) ?_
      refine va_put (D := D) (ci := 3) (v := .int (w1.1)) (ty := tyX3 3) (C := RX3) (T := TX3) (N := 4) hx hb hT iX3 tyX3 tyX3_ok nmX3 hown hK hP hD hS 0 rfl rfl 3 (by decide) (hT _ fw_X3_22) (fun _ h9 => h9) rfl (tyX3_ok 3 (by decide)) rfl rfl (Nat.le_of_ble_eq_true rfl) dX3_judge_61 (fun H locs hP hD hS => ?_)
      replace hP : va_P D vwCl [oX3 h_t q_t (upd (upd d_t.1 2 x4) 3 (w1.1)), ((q_t 0), .inl (cs 0, 6, .inl (d_t.2 0))), oX4 h_a1 q_a1 (d_a1.1), ((q_a1 1), .inl (cs 0, 6, .inl (d_a1.2 1))), ((q_a1 2), .inl (cs 0, 6, .inl (d_a1.2 2))), ((q_a1 4), .inl (cs 0, 3, .inl (d_a1.2 4))), ((q_a1 5), .inl (cs 0, 3, .inl (d_a1.2 5))), oX0 h_a2 q_a2 (d_a2.1), ((q_a2 1), .inl (cs 0, 6, .inl (d_a2.2 1))), ((q_a2 2), .inl (cs 0, 6, .inl (d_a2.2 2))), ((q_a2 3), .inl (cs 0, 6, .inl (d_a2.2 3))), ((q_a2 4), .inl (cs 0, 6, .inl (d_a2.2 4))), oX1 h_a3 q_a3 (w1.2.1), ((q_a3 1), .inl (cs 0, 12, .inl (w1.2.2 1))), ((q_a3 2), .inl (cs 0, 12, .inl (w1.2.2 2))), ((q_a3 3), .inl (cs 0, 12, .inl (w1.2.2 3)))] H := hP
      replace hD : va_D A [oX3 h_t q_t (upd (upd d_t.1 2 x4) 3 (w1.1)), ((q_t 0), .inl (cs 0, 6, .inl (d_t.2 0))), oX4 h_a1 q_a1 (d_a1.1), ((q_a1 1), .inl (cs 0, 6, .inl (d_a1.2 1))), ((q_a1 2), .inl (cs 0, 6, .inl (d_a1.2 2))), ((q_a1 4), .inl (cs 0, 3, .inl (d_a1.2 4))), ((q_a1 5), .inl (cs 0, 3, .inl (d_a1.2 5))), oX0 h_a2 q_a2 (d_a2.1), ((q_a2 1), .inl (cs 0, 6, .inl (d_a2.2 1))), ((q_a2 2), .inl (cs 0, 6, .inl (d_a2.2 2))), ((q_a2 3), .inl (cs 0, 6, .inl (d_a2.2 3))), ((q_a2 4), .inl (cs 0, 6, .inl (d_a2.2 4))), oX1 h_a3 q_a3 (w1.2.1), ((q_a3 1), .inl (cs 0, 12, .inl (w1.2.2 1))), ((q_a3 2), .inl (cs 0, 12, .inl (w1.2.2 2))), ((q_a3 3), .inl (cs 0, 12, .inl (w1.2.2 3)))] := hD
      refine lv_aload_n hx hb dX3_judge_64 rfl (lv_at hl 1 rfl) ?_
      refine va_get (D := D) (ci := 0) (v := .ref (q_a2 2)) (C := RX0) (T := TX0) (N := 10) hx hb hT iX0 hown hK hP 7 rfl rfl 2 (by decide) (hT _ fw_X3_25) (fun _ h9 => h9) rfl dX3_judge_65 ?_
      refine lv_aload_n hx hb dX3_judge_68 rfl (lv_at hl 0 rfl) ?_
      refine va_get (D := D) (ci := 3) (v := .ref (q_t 0)) (C := RX3) (T := TX3) (N := 4) hx hb hT iX3 hown hK hP 0 rfl rfl 0 (by decide) (hT _ fw_X3_9) (fun _ h9 => h9) rfl dX3_judge_69 ?_
      obtain ⟨r4, e5, hf⟩ := bind_some hf
      refine callSNv (As := [.ref (q_a2 2), .ref (q_t 0)]) (rest := []) M (mX6_copyRow l D cs sk (q_a2 2) (q_t 0) k 6 6 (d_a2.2 2) (d_t.2 0) e5) mw_X3_66 ln_X6_copyRow ⟨rfl, rfl, Nat.le_of_ble_eq_true rfl, Nat.le_of_ble_eq_true rfl⟩ hP hD hS hA [9, 1] (by decide) rfl rfl ⟨Nat.zero_le _, Nat.zero_le _⟩ hl.1 rfl (Nat.le_of_ble_eq_true rfl) dX3_judge_72 (fun H locs hP hD hS => ?_)
      replace hP : va_P D vwCl [oX3 h_t q_t (upd (upd d_t.1 2 x4) 3 (w1.1)), ((q_t 0), .inl (cs 0, 6, .inl r4)), oX4 h_a1 q_a1 (d_a1.1), ((q_a1 1), .inl (cs 0, 6, .inl (d_a1.2 1))), ((q_a1 2), .inl (cs 0, 6, .inl (d_a1.2 2))), ((q_a1 4), .inl (cs 0, 3, .inl (d_a1.2 4))), ((q_a1 5), .inl (cs 0, 3, .inl (d_a1.2 5))), oX0 h_a2 q_a2 (d_a2.1), ((q_a2 1), .inl (cs 0, 6, .inl (d_a2.2 1))), ((q_a2 2), .inl (cs 0, 6, .inl (d_a2.2 2))), ((q_a2 3), .inl (cs 0, 6, .inl (d_a2.2 3))), ((q_a2 4), .inl (cs 0, 6, .inl (d_a2.2 4))), oX1 h_a3 q_a3 (w1.2.1), ((q_a3 1), .inl (cs 0, 12, .inl (w1.2.2 1))), ((q_a3 2), .inl (cs 0, 12, .inl (w1.2.2 2))), ((q_a3 3), .inl (cs 0, 12, .inl (w1.2.2 3)))] H := hP
      replace hD : va_D A [oX3 h_t q_t (upd (upd d_t.1 2 x4) 3 (w1.1)), ((q_t 0), .inl (cs 0, 6, .inl r4)), oX4 h_a1 q_a1 (d_a1.1), ((q_a1 1), .inl (cs 0, 6, .inl (d_a1.2 1))), ((q_a1 2), .inl (cs 0, 6, .inl (d_a1.2 2))), ((q_a1 4), .inl (cs 0, 3, .inl (d_a1.2 4))), ((q_a1 5), .inl (cs 0, 3, .inl (d_a1.2 5))), oX0 h_a2 q_a2 (d_a2.1), ((q_a2 1), .inl (cs 0, 6, .inl (d_a2.2 1))), ((q_a2 2), .inl (cs 0, 6, .inl (d_a2.2 2))), ((q_a2 3), .inl (cs 0, 6, .inl (d_a2.2 3))), ((q_a2 4), .inl (cs 0, 6, .inl (d_a2.2 4))), oX1 h_a3 q_a3 (w1.2.1), ((q_a3 1), .inl (cs 0, 12, .inl (w1.2.2 1))), ((q_a3 2), .inl (cs 0, 12, .inl (w1.2.2 2))), ((q_a3 3), .inl (cs 0, 12, .inl (w1.2.2 3)))] := hD
      have e9 := Option.some.inj hf
      subst e9
      exact hR _ _ _ _ dX3_judge_75 hP hS
    · replace hf := g3.2 c2
      refine lv_iload hx hb dX3_judge_43 (lv_at hl 3 rfl) ?_
      refine lv_aload_n hx hb dX3_judge_45 rfl (lv_at hl 0 rfl) ?_
      refine va_get (D := D) (ci := 3) (v := .int (d_t.1 3)) (C := RX3) (T := TX3) (N := 4) hx hb hT iX3 hown hK hP 0 rfl rfl 3 (by decide) (hT _ fw_X3_22) (fun _ h9 => h9) rfl dX3_judge_46 ?_
      have g7 := ite_some hf
      refine lv_icmp_ge (tgt := 75) hx hb dX3_judge_49 (by decide) (fun c6 => ?_) (fun c6 => ?_)
      · replace hf := g7.1 c6
        have e9 := Option.some.inj hf
        subst e9
        exact hR _ _ _ _ dX3_judge_75 hP hS
      · replace hf := g7.2 c6
        refine lv_aload_n hx hb dX3_judge_52 rfl (lv_at hl 0 rfl) ?_
        refine lv_iload hx hb dX3_judge_53 (lv_at hl 2 rfl) ?_
        refine va_put (D := D) (ci := 3) (v := .int x4) (ty := tyX3 2) (C := RX3) (T := TX3) (N := 4) hx hb hT iX3 tyX3 tyX3_ok nmX3 hown hK hP hD hS 0 rfl rfl 2 (by decide) (hT _ fw_X3_18) (fun _ h9 => h9) rfl (tyX3_ok 2 (by decide)) rfl rfl (Nat.le_of_ble_eq_true rfl) dX3_judge_55 (fun H locs hP hD hS => ?_)
        replace hP : va_P D vwCl [oX3 h_t q_t (upd d_t.1 2 x4), ((q_t 0), .inl (cs 0, 6, .inl (d_t.2 0))), oX4 h_a1 q_a1 (d_a1.1), ((q_a1 1), .inl (cs 0, 6, .inl (d_a1.2 1))), ((q_a1 2), .inl (cs 0, 6, .inl (d_a1.2 2))), ((q_a1 4), .inl (cs 0, 3, .inl (d_a1.2 4))), ((q_a1 5), .inl (cs 0, 3, .inl (d_a1.2 5))), oX0 h_a2 q_a2 (d_a2.1), ((q_a2 1), .inl (cs 0, 6, .inl (d_a2.2 1))), ((q_a2 2), .inl (cs 0, 6, .inl (d_a2.2 2))), ((q_a2 3), .inl (cs 0, 6, .inl (d_a2.2 3))), ((q_a2 4), .inl (cs 0, 6, .inl (d_a2.2 4))), oX1 h_a3 q_a3 (w1.2.1), ((q_a3 1), .inl (cs 0, 12, .inl (w1.2.2 1))), ((q_a3 2), .inl (cs 0, 12, .inl (w1.2.2 2))), ((q_a3 3), .inl (cs 0, 12, .inl (w1.2.2 3)))] H := hP
        replace hD : va_D A [oX3 h_t q_t (upd d_t.1 2 x4), ((q_t 0), .inl (cs 0, 6, .inl (d_t.2 0))), oX4 h_a1 q_a1 (d_a1.1), ((q_a1 1), .inl (cs 0, 6, .inl (d_a1.2 1))), ((q_a1 2), .inl (cs 0, 6, .inl (d_a1.2 2))), ((q_a1 4), .inl (cs 0, 3, .inl (d_a1.2 4))), ((q_a1 5), .inl (cs 0, 3, .inl (d_a1.2 5))), oX0 h_a2 q_a2 (d_a2.1), ((q_a2 1), .inl (cs 0, 6, .inl (d_a2.2 1))), ((q_a2 2), .inl (cs 0, 6, .inl (d_a2.2 2))), ((q_a2 3), .inl (cs 0, 6, .inl (d_a2.2 3))), ((q_a2 4), .inl (cs 0, 6, .inl (d_a2.2 4))), oX1 h_a3 q_a3 (w1.2.1), ((q_a3 1), .inl (cs 0, 12, .inl (w1.2.2 1))), ((q_a3 2), .inl (cs 0, 12, .inl (w1.2.2 2))), ((q_a3 3), .inl (cs 0, 12, .inl (w1.2.2 3)))] := hD
        refine lv_aload_n hx hb dX3_judge_58 rfl (lv_at hl 0 rfl) ?_
        refine lv_iload hx hb dX3_judge_59 (lv_at hl 3 rfl) ?_
        refine va_put (D := D) (ci := 3) (v := .int (w1.1)) (ty := tyX3 3) (C := RX3) (T := TX3) (N := 4) hx hb hT iX3 tyX3 tyX3_ok nmX3 hown hK hP hD hS 0 rfl rfl 3 (by decide) (hT _ fw_X3_22) (fun _ h9 => h9) rfl (tyX3_ok 3 (by decide)) rfl rfl (Nat.le_of_ble_eq_true rfl) dX3_judge_61 (fun H locs hP hD hS => ?_)
        replace hP : va_P D vwCl [oX3 h_t q_t (upd (upd d_t.1 2 x4) 3 (w1.1)), ((q_t 0), .inl (cs 0, 6, .inl (d_t.2 0))), oX4 h_a1 q_a1 (d_a1.1), ((q_a1 1), .inl (cs 0, 6, .inl (d_a1.2 1))), ((q_a1 2), .inl (cs 0, 6, .inl (d_a1.2 2))), ((q_a1 4), .inl (cs 0, 3, .inl (d_a1.2 4))), ((q_a1 5), .inl (cs 0, 3, .inl (d_a1.2 5))), oX0 h_a2 q_a2 (d_a2.1), ((q_a2 1), .inl (cs 0, 6, .inl (d_a2.2 1))), ((q_a2 2), .inl (cs 0, 6, .inl (d_a2.2 2))), ((q_a2 3), .inl (cs 0, 6, .inl (d_a2.2 3))), ((q_a2 4), .inl (cs 0, 6, .inl (d_a2.2 4))), oX1 h_a3 q_a3 (w1.2.1), ((q_a3 1), .inl (cs 0, 12, .inl (w1.2.2 1))), ((q_a3 2), .inl (cs 0, 12, .inl (w1.2.2 2))), ((q_a3 3), .inl (cs 0, 12, .inl (w1.2.2 3)))] H := hP
        replace hD : va_D A [oX3 h_t q_t (upd (upd d_t.1 2 x4) 3 (w1.1)), ((q_t 0), .inl (cs 0, 6, .inl (d_t.2 0))), oX4 h_a1 q_a1 (d_a1.1), ((q_a1 1), .inl (cs 0, 6, .inl (d_a1.2 1))), ((q_a1 2), .inl (cs 0, 6, .inl (d_a1.2 2))), ((q_a1 4), .inl (cs 0, 3, .inl (d_a1.2 4))), ((q_a1 5), .inl (cs 0, 3, .inl (d_a1.2 5))), oX0 h_a2 q_a2 (d_a2.1), ((q_a2 1), .inl (cs 0, 6, .inl (d_a2.2 1))), ((q_a2 2), .inl (cs 0, 6, .inl (d_a2.2 2))), ((q_a2 3), .inl (cs 0, 6, .inl (d_a2.2 3))), ((q_a2 4), .inl (cs 0, 6, .inl (d_a2.2 4))), oX1 h_a3 q_a3 (w1.2.1), ((q_a3 1), .inl (cs 0, 12, .inl (w1.2.2 1))), ((q_a3 2), .inl (cs 0, 12, .inl (w1.2.2 2))), ((q_a3 3), .inl (cs 0, 12, .inl (w1.2.2 3)))] := hD
        refine lv_aload_n hx hb dX3_judge_64 rfl (lv_at hl 1 rfl) ?_
        refine va_get (D := D) (ci := 0) (v := .ref (q_a2 2)) (C := RX0) (T := TX0) (N := 10) hx hb hT iX0 hown hK hP 7 rfl rfl 2 (by decide) (hT _ fw_X3_25) (fun _ h9 => h9) rfl dX3_judge_65 ?_
        refine lv_aload_n hx hb dX3_judge_68 rfl (lv_at hl 0 rfl) ?_
        refine va_get (D := D) (ci := 3) (v := .ref (q_t 0)) (C := RX3) (T := TX3) (N := 4) hx hb hT iX3 hown hK hP 0 rfl rfl 0 (by decide) (hT _ fw_X3_9) (fun _ h9 => h9) rfl dX3_judge_69 ?_
        obtain ⟨r8, e9, hf⟩ := bind_some hf
        refine callSNv (As := [.ref (q_a2 2), .ref (q_t 0)]) (rest := []) M (mX6_copyRow l D cs sk (q_a2 2) (q_t 0) k 6 6 (d_a2.2 2) (d_t.2 0) e9) mw_X3_66 ln_X6_copyRow ⟨rfl, rfl, Nat.le_of_ble_eq_true rfl, Nat.le_of_ble_eq_true rfl⟩ hP hD hS hA [9, 1] (by decide) rfl rfl ⟨Nat.zero_le _, Nat.zero_le _⟩ hl.1 rfl (Nat.le_of_ble_eq_true rfl) dX3_judge_72 (fun H locs hP hD hS => ?_)
        replace hP : va_P D vwCl [oX3 h_t q_t (upd (upd d_t.1 2 x4) 3 (w1.1)), ((q_t 0), .inl (cs 0, 6, .inl r8)), oX4 h_a1 q_a1 (d_a1.1), ((q_a1 1), .inl (cs 0, 6, .inl (d_a1.2 1))), ((q_a1 2), .inl (cs 0, 6, .inl (d_a1.2 2))), ((q_a1 4), .inl (cs 0, 3, .inl (d_a1.2 4))), ((q_a1 5), .inl (cs 0, 3, .inl (d_a1.2 5))), oX0 h_a2 q_a2 (d_a2.1), ((q_a2 1), .inl (cs 0, 6, .inl (d_a2.2 1))), ((q_a2 2), .inl (cs 0, 6, .inl (d_a2.2 2))), ((q_a2 3), .inl (cs 0, 6, .inl (d_a2.2 3))), ((q_a2 4), .inl (cs 0, 6, .inl (d_a2.2 4))), oX1 h_a3 q_a3 (w1.2.1), ((q_a3 1), .inl (cs 0, 12, .inl (w1.2.2 1))), ((q_a3 2), .inl (cs 0, 12, .inl (w1.2.2 2))), ((q_a3 3), .inl (cs 0, 12, .inl (w1.2.2 3)))] H := hP
        replace hD : va_D A [oX3 h_t q_t (upd (upd d_t.1 2 x4) 3 (w1.1)), ((q_t 0), .inl (cs 0, 6, .inl r8)), oX4 h_a1 q_a1 (d_a1.1), ((q_a1 1), .inl (cs 0, 6, .inl (d_a1.2 1))), ((q_a1 2), .inl (cs 0, 6, .inl (d_a1.2 2))), ((q_a1 4), .inl (cs 0, 3, .inl (d_a1.2 4))), ((q_a1 5), .inl (cs 0, 3, .inl (d_a1.2 5))), oX0 h_a2 q_a2 (d_a2.1), ((q_a2 1), .inl (cs 0, 6, .inl (d_a2.2 1))), ((q_a2 2), .inl (cs 0, 6, .inl (d_a2.2 2))), ((q_a2 3), .inl (cs 0, 6, .inl (d_a2.2 3))), ((q_a2 4), .inl (cs 0, 6, .inl (d_a2.2 4))), oX1 h_a3 q_a3 (w1.2.1), ((q_a3 1), .inl (cs 0, 12, .inl (w1.2.2 1))), ((q_a3 2), .inl (cs 0, 12, .inl (w1.2.2 2))), ((q_a3 3), .inl (cs 0, 12, .inl (w1.2.2 3)))] := hD
        have e9 := Option.some.inj hf
        subst e9
        exact hR _ _ _ _ dX3_judge_75 hP hS
abbrev rm_X3_search : Room := { frames := 6, cells := 0, slots := 0, locals := 151 }
def fX3_search_B24 (k : Nat) (d_t : Dat) (d_a1 : Dat) (d_a2 : Dat) (d_a3 : Dat) (K170 : Dat × Dat × Dat → Option (Dat × Dat × Dat)) (rec : Int32 × Int32 × Dat × Dat × Dat → Option (Dat × Dat × Dat)) (v : Int32 × Int32 × Dat × Dat × Dat) : Option (Dat × Dat × Dat) :=
  (if 10000 ≤ (v.2.1) then K170 ((v.2.2.1.1, (va_up (va_up d_t.2 0 (v.2.2.1.2 0)) 1 (v.2.2.1.2 1))), (d_a2.1, (va_up d_a2.2 2 (v.2.2.2.1.2 2))), (v.2.2.2.2.1, (va_up (va_up (va_up d_a3.2 1 (v.2.2.2.2.2 1)) 2 (v.2.2.2.2.2 2)) 3 (v.2.2.2.2.2 3)))) else (if (v.1) < 0 then K170 ((v.2.2.1.1, (va_up (va_up d_t.2 0 (v.2.2.1.2 0)) 1 (v.2.2.1.2 1))), (d_a2.1, (va_up d_a2.2 2 (v.2.2.2.1.2 2))), (v.2.2.2.2.1, (va_up (va_up (va_up d_a3.2 1 (v.2.2.2.2.2 1)) 2 (v.2.2.2.2.2 2)) 3 (v.2.2.2.2.2 3)))) else (fX3_nextFree k d_a1 (d_a2.1, (va_up d_a2.2 2 (v.2.2.2.1.2 2))) (v.1)).bind (fun (r5 : Int32) => chk 6 (v.1) (chk 6 (v.1) ((if ((upd (v.2.2.2.1.2 2) (v.1).toNatClampNeg r5) (v.1).toNatClampNeg) = (-1) then rec (((v.1) + (-1)), ((v.2.1) + 1), (v.2.2.1.1, (va_up (va_up d_t.2 0 (v.2.2.1.2 0)) 1 (v.2.2.1.2 1))), (d_a2.1, (va_up d_a2.2 2 (upd (v.2.2.2.1.2 2) (v.1).toNatClampNeg r5))), (v.2.2.2.2.1, (va_up (va_up (va_up d_a3.2 1 (v.2.2.2.2.2 1)) 2 (v.2.2.2.2.2 2)) 3 (v.2.2.2.2.2 3)))) else (if (v.1) = 0 then (fX3_leastLoud k d_a1 (d_a2.1, (va_up d_a2.2 2 (upd (v.2.2.2.1.2 2) (v.1).toNatClampNeg r5))) (v.1)).bind (fun (r19 : Int32) => chk 6 (v.1) (chk 6 (v.1) ((if (v.2.2.1.1 2) ≤ ((upd (v.2.2.1.2 1) (v.1).toNatClampNeg (if r19 < (99 : Int32) then r19 else (99 : Int32))) (v.1).toNatClampNeg) then (if (d_a2.1 0) ≤ ((v.1) + 1) then chk 6 (v.1) ((fX3_judge k (v.2.2.1.1, (va_up (va_up d_t.2 0 (v.2.2.1.2 0)) 1 (upd (v.2.2.1.2 1) (v.1).toNatClampNeg (if r19 < (99 : Int32) then r19 else (99 : Int32))))) d_a1 (d_a2.1, (va_up d_a2.2 2 (upd (v.2.2.2.1.2 2) (v.1).toNatClampNeg r5))) (v.2.2.2.2.1, (va_up (va_up (va_up d_a3.2 1 (v.2.2.2.2.2 1)) 2 (v.2.2.2.2.2 2)) 3 (v.2.2.2.2.2 3))) ((upd (v.2.2.1.2 1) (v.1).toNatClampNeg (if r19 < (99 : Int32) then r19 else (99 : Int32))) (v.1).toNatClampNeg)).bind (fun (r25 : Dat × Dat) => rec ((v.1), ((v.2.1) + 1), (r25.1.1, (va_up (va_up d_t.2 0 (r25.1.2 0)) 1 (upd (v.2.2.1.2 1) (v.1).toNatClampNeg (if r19 < (99 : Int32) then r19 else (99 : Int32))))), (d_a2.1, (va_up d_a2.2 2 (upd (v.2.2.2.1.2 2) (v.1).toNatClampNeg r5))), (r25.2.1, (va_up (va_up (va_up d_a3.2 1 (r25.2.2 1)) 2 (r25.2.2 2)) 3 (r25.2.2 3)))))) else chk 6 ((v.1) + 1) (rec (((v.1) + 1), ((v.2.1) + 1), (v.2.2.1.1, (va_up (va_up d_t.2 0 (v.2.2.1.2 0)) 1 (upd (v.2.2.1.2 1) (v.1).toNatClampNeg (if r19 < (99 : Int32) then r19 else (99 : Int32))))), (d_a2.1, (va_up d_a2.2 2 (upd (upd (v.2.2.2.1.2 2) (v.1).toNatClampNeg r5) ((v.1) + 1).toNatClampNeg (-1)))), (v.2.2.2.2.1, (va_up (va_up (va_up d_a3.2 1 (v.2.2.2.2.2 1)) 2 (v.2.2.2.2.2 2)) 3 (v.2.2.2.2.2 3)))))) else rec ((v.1), ((v.2.1) + 1), (v.2.2.1.1, (va_up (va_up d_t.2 0 (v.2.2.1.2 0)) 1 (upd (v.2.2.1.2 1) (v.1).toNatClampNeg (if r19 < (99 : Int32) then r19 else (99 : Int32))))), (d_a2.1, (va_up d_a2.2 2 (upd (v.2.2.2.1.2 2) (v.1).toNatClampNeg r5))), (v.2.2.2.2.1, (va_up (va_up (va_up d_a3.2 1 (v.2.2.2.2.2 1)) 2 (v.2.2.2.2.2 2)) 3 (v.2.2.2.2.2 3)))))))) else chk 6 ((v.1) - 1) ((fX3_leastLoud k d_a1 (d_a2.1, (va_up d_a2.2 2 (upd (v.2.2.2.1.2 2) (v.1).toNatClampNeg r5))) (v.1)).bind (fun (r11 : Int32) => chk 6 (v.1) (chk 6 (v.1) ((if (v.2.2.1.1 2) ≤ ((upd (v.2.2.1.2 1) (v.1).toNatClampNeg (if r11 < ((v.2.2.1.2 1) ((v.1) - 1).toNatClampNeg) then r11 else ((v.2.2.1.2 1) ((v.1) - 1).toNatClampNeg))) (v.1).toNatClampNeg) then (if (d_a2.1 0) ≤ ((v.1) + 1) then chk 6 (v.1) ((fX3_judge k (v.2.2.1.1, (va_up (va_up d_t.2 0 (v.2.2.1.2 0)) 1 (upd (v.2.2.1.2 1) (v.1).toNatClampNeg (if r11 < ((v.2.2.1.2 1) ((v.1) - 1).toNatClampNeg) then r11 else ((v.2.2.1.2 1) ((v.1) - 1).toNatClampNeg))))) d_a1 (d_a2.1, (va_up d_a2.2 2 (upd (v.2.2.2.1.2 2) (v.1).toNatClampNeg r5))) (v.2.2.2.2.1, (va_up (va_up (va_up d_a3.2 1 (v.2.2.2.2.2 1)) 2 (v.2.2.2.2.2 2)) 3 (v.2.2.2.2.2 3))) ((upd (v.2.2.1.2 1) (v.1).toNatClampNeg (if r11 < ((v.2.2.1.2 1) ((v.1) - 1).toNatClampNeg) then r11 else ((v.2.2.1.2 1) ((v.1) - 1).toNatClampNeg))) (v.1).toNatClampNeg)).bind (fun (r17 : Dat × Dat) => rec ((v.1), ((v.2.1) + 1), (r17.1.1, (va_up (va_up d_t.2 0 (r17.1.2 0)) 1 (upd (v.2.2.1.2 1) (v.1).toNatClampNeg (if r11 < ((v.2.2.1.2 1) ((v.1) - 1).toNatClampNeg) then r11 else ((v.2.2.1.2 1) ((v.1) - 1).toNatClampNeg))))), (d_a2.1, (va_up d_a2.2 2 (upd (v.2.2.2.1.2 2) (v.1).toNatClampNeg r5))), (r17.2.1, (va_up (va_up (va_up d_a3.2 1 (r17.2.2 1)) 2 (r17.2.2 2)) 3 (r17.2.2 3)))))) else chk 6 ((v.1) + 1) (rec (((v.1) + 1), ((v.2.1) + 1), (v.2.2.1.1, (va_up (va_up d_t.2 0 (v.2.2.1.2 0)) 1 (upd (v.2.2.1.2 1) (v.1).toNatClampNeg (if r11 < ((v.2.2.1.2 1) ((v.1) - 1).toNatClampNeg) then r11 else ((v.2.2.1.2 1) ((v.1) - 1).toNatClampNeg))))), (d_a2.1, (va_up d_a2.2 2 (upd (upd (v.2.2.2.1.2 2) (v.1).toNatClampNeg r5) ((v.1) + 1).toNatClampNeg (-1)))), (v.2.2.2.2.1, (va_up (va_up (va_up d_a3.2 1 (v.2.2.2.2.2 1)) 2 (v.2.2.2.2.2 2)) 3 (v.2.2.2.2.2 3)))))) else rec ((v.1), ((v.2.1) + 1), (v.2.2.1.1, (va_up (va_up d_t.2 0 (v.2.2.1.2 0)) 1 (upd (v.2.2.1.2 1) (v.1).toNatClampNeg (if r11 < ((v.2.2.1.2 1) ((v.1) - 1).toNatClampNeg) then r11 else ((v.2.2.1.2 1) ((v.1) - 1).toNatClampNeg))))), (d_a2.1, (va_up d_a2.2 2 (upd (v.2.2.2.1.2 2) (v.1).toNatClampNeg r5))), (v.2.2.2.2.1, (va_up (va_up (va_up d_a3.2 1 (v.2.2.2.2.2 1)) 2 (v.2.2.2.2.2 2)) 3 (v.2.2.2.2.2 3))))))))))))))))
def fX3_search (k : Nat) (d_t : Dat) (d_a1 : Dat) (d_a2 : Dat) (d_a3 : Dat) : Option (Dat × Dat × Dat) :=
  chk 6 0 (lp (fX3_search_B24 k ((upd (upd d_t.1 2 (-1)) 3 0), d_t.2) d_a1 (d_a2.1, (va_up d_a2.2 2 (upd (d_a2.2 2) (0 : Int32).toNatClampNeg (-1)))) d_a3 (fun (w1 : Dat × Dat × Dat) => some ((w1.1.1, (va_up (va_up d_t.2 0 (w1.1.2 0)) 1 (w1.1.2 1))), (d_a2.1, (va_up d_a2.2 2 (w1.2.1.2 2))), (w1.2.2.1, (va_up (va_up (va_up d_a3.2 1 (w1.2.2.2 1)) 2 (w1.2.2.2 2)) 3 (w1.2.2.2 3)))))) k (0, 0, ((upd (upd d_t.1 2 (-1)) 3 0), d_t.2), (d_a2.1, (va_up d_a2.2 2 (upd (d_a2.2 2) (0 : Int32).toNatClampNeg (-1)))), d_a3))
set_option maxHeartbeats 4000000 in
set_option maxRecDepth 100000 in
theorem mX3_search_B24 {l : Launch} {p : Program} {e : Env} {s : State} {m : MethodId} {args : Array Value} {below : List Frame} {meth : Method} {c : Code} {D : va_G} {cs : Nat → ClassId} {sk : Nat → Nat} {A : Nat → Prop} {Q : State → Prop} (h_t : Nat) (h_a1 : Nat) (h_a2 : Nat) (h_a3 : Nat) (q_t : Nat → Nat) (q_a1 : Nat → Nat) (q_a2 : Nat → Nat) (q_a3 : Nat → Nat) (k : Nat) (d_t : Dat) (d_a1 : Dat) (d_a2 : Dat) (d_a3 : Dat) {rv : Dat × Dat × Dat}  (K170 : Dat × Dat × Dat → Option (Dat × Dat × Dat))
    (M : MC p s m args meth c D cs sk A RX3 cX3_search 7 none) (hA : ∀ q, s.heap.size ≤ q → A q) (hR : RetV p l e rm_X3_search s m args below meth c D cX3_search A Q [oX3 h_t q_t (rv.1.1), ((q_t 0), .inl (cs 0, 6, .inl (rv.1.2 0))), ((q_t 1), .inl (cs 0, 6, .inl (rv.1.2 1))), oX4 h_a1 q_a1 (d_a1.1), ((q_a1 1), .inl (cs 0, 6, .inl (d_a1.2 1))), ((q_a1 2), .inl (cs 0, 6, .inl (d_a1.2 2))), ((q_a1 4), .inl (cs 0, 3, .inl (d_a1.2 4))), ((q_a1 5), .inl (cs 0, 3, .inl (d_a1.2 5))), oX0 h_a2 q_a2 (d_a2.1), ((q_a2 1), .inl (cs 0, 6, .inl (d_a2.2 1))), ((q_a2 2), .inl (cs 0, 6, .inl (rv.2.1.2 2))), ((q_a2 3), .inl (cs 0, 6, .inl (d_a2.2 3))), ((q_a2 4), .inl (cs 0, 6, .inl (d_a2.2 4))), oX1 h_a3 q_a3 (rv.2.2.1), ((q_a3 1), .inl (cs 0, 12, .inl (rv.2.2.2 1))), ((q_a3 2), .inl (cs 0, 12, .inl (rv.2.2.2 2))), ((q_a3 3), .inl (cs 0, 12, .inl (rv.2.2.2 3)))])
    (hK170 : ∀ (w : Dat × Dat × Dat), K170 w = some rv → ∀ (H : Heap) (locs : List Loc) (ls : Array Slot), va_P D vwCl [oX3 h_t q_t (w.1.1), ((q_t 0), .inl (cs 0, 6, .inl (w.1.2 0))), ((q_t 1), .inl (cs 0, 6, .inl (w.1.2 1))), oX4 h_a1 q_a1 (d_a1.1), ((q_a1 1), .inl (cs 0, 6, .inl (d_a1.2 1))), ((q_a1 2), .inl (cs 0, 6, .inl (d_a1.2 2))), ((q_a1 4), .inl (cs 0, 3, .inl (d_a1.2 4))), ((q_a1 5), .inl (cs 0, 3, .inl (d_a1.2 5))), oX0 h_a2 q_a2 (d_a2.1), ((q_a2 1), .inl (cs 0, 6, .inl (d_a2.2 1))), ((q_a2 2), .inl (cs 0, 6, .inl (w.2.1.2 2))), ((q_a2 3), .inl (cs 0, 6, .inl (d_a2.2 3))), ((q_a2 4), .inl (cs 0, 6, .inl (d_a2.2 4))), oX1 h_a3 q_a3 (w.2.2.1), ((q_a3 1), .inl (cs 0, 12, .inl (w.2.2.2 1))), ((q_a3 2), .inl (cs 0, 12, .inl (w.2.2.2 2))), ((q_a3 3), .inl (cs 0, 12, .inl (w.2.2.2 3)))] H → va_D A [oX3 h_t q_t (w.1.1), ((q_t 0), .inl (cs 0, 6, .inl (w.1.2 0))), ((q_t 1), .inl (cs 0, 6, .inl (w.1.2 1))), oX4 h_a1 q_a1 (d_a1.1), ((q_a1 1), .inl (cs 0, 6, .inl (d_a1.2 1))), ((q_a1 2), .inl (cs 0, 6, .inl (d_a1.2 2))), ((q_a1 4), .inl (cs 0, 3, .inl (d_a1.2 4))), ((q_a1 5), .inl (cs 0, 3, .inl (d_a1.2 5))), oX0 h_a2 q_a2 (d_a2.1), ((q_a2 1), .inl (cs 0, 6, .inl (d_a2.2 1))), ((q_a2 2), .inl (cs 0, 6, .inl (w.2.1.2 2))), ((q_a2 3), .inl (cs 0, 6, .inl (d_a2.2 3))), ((q_a2 4), .inl (cs 0, 6, .inl (d_a2.2 4))), oX1 h_a3 q_a3 (w.2.2.1), ((q_a3 1), .inl (cs 0, 12, .inl (w.2.2.2 1))), ((q_a3 2), .inl (cs 0, 12, .inl (w.2.2.2 2))), ((q_a3 3), .inl (cs 0, 12, .inl (w.2.2.2 3)))] → va_S A s.heap H locs → lv_has ls 7 [] → W p l e rm_X3_search s m args below meth c H locs 0 0 Q (F0 m 170 ls []))
    : ∀ (n : Nat) (v : Int32 × Int32 × Dat × Dat × Dat), lp (fX3_search_B24 k d_t d_a1 d_a2 d_a3 K170) n v = some rv → ∀ (H : Heap) (locs : List Loc) (ls : Array Slot), va_P D vwCl [oX3 h_t q_t (v.2.2.1.1), ((q_t 0), .inl (cs 0, 6, .inl (v.2.2.1.2 0))), ((q_t 1), .inl (cs 0, 6, .inl (v.2.2.1.2 1))), oX4 h_a1 q_a1 (d_a1.1), ((q_a1 1), .inl (cs 0, 6, .inl (d_a1.2 1))), ((q_a1 2), .inl (cs 0, 6, .inl (d_a1.2 2))), ((q_a1 4), .inl (cs 0, 3, .inl (d_a1.2 4))), ((q_a1 5), .inl (cs 0, 3, .inl (d_a1.2 5))), oX0 h_a2 q_a2 (d_a2.1), ((q_a2 1), .inl (cs 0, 6, .inl (d_a2.2 1))), ((q_a2 2), .inl (cs 0, 6, .inl (v.2.2.2.1.2 2))), ((q_a2 3), .inl (cs 0, 6, .inl (d_a2.2 3))), ((q_a2 4), .inl (cs 0, 6, .inl (d_a2.2 4))), oX1 h_a3 q_a3 (v.2.2.2.2.1), ((q_a3 1), .inl (cs 0, 12, .inl (v.2.2.2.2.2 1))), ((q_a3 2), .inl (cs 0, 12, .inl (v.2.2.2.2.2 2))), ((q_a3 3), .inl (cs 0, 12, .inl (v.2.2.2.2.2 3)))] H → va_D A [oX3 h_t q_t (v.2.2.1.1), ((q_t 0), .inl (cs 0, 6, .inl (v.2.2.1.2 0))), ((q_t 1), .inl (cs 0, 6, .inl (v.2.2.1.2 1))), oX4 h_a1 q_a1 (d_a1.1), ((q_a1 1), .inl (cs 0, 6, .inl (d_a1.2 1))), ((q_a1 2), .inl (cs 0, 6, .inl (d_a1.2 2))), ((q_a1 4), .inl (cs 0, 3, .inl (d_a1.2 4))), ((q_a1 5), .inl (cs 0, 3, .inl (d_a1.2 5))), oX0 h_a2 q_a2 (d_a2.1), ((q_a2 1), .inl (cs 0, 6, .inl (d_a2.2 1))), ((q_a2 2), .inl (cs 0, 6, .inl (v.2.2.2.1.2 2))), ((q_a2 3), .inl (cs 0, 6, .inl (d_a2.2 3))), ((q_a2 4), .inl (cs 0, 6, .inl (d_a2.2 4))), oX1 h_a3 q_a3 (v.2.2.2.2.1), ((q_a3 1), .inl (cs 0, 12, .inl (v.2.2.2.2.2 1))), ((q_a3 2), .inl (cs 0, 12, .inl (v.2.2.2.2.2 2))), ((q_a3 3), .inl (cs 0, 12, .inl (v.2.2.2.2.2 3)))] → va_S A s.heap H locs → lv_has ls 7 [(0, .ref h_t), (1, .ref h_a1), (2, .ref h_a2), (3, .ref h_a3), (4, .int (v.1)), (5, .int (v.2.1))] → W p l e rm_X3_search s m args below meth c H locs 0 0 Q (F0 m 24 ls []) := by
  obtain ⟨hx, hb, hml, hT, hown, hlk, hrt, hK, hN, hSE⟩ := id M
  refine lp_ind (fun rec ih v hf H locs ls hP hD hS hl => ?_)
  unfold fX3_search_B24 at hf
  refine lv_iload hx hb dX3_search_24 (lv_at hl 5 rfl) ?_
  refine lv_sipush (v := 10000) hx hb dX3_search_26 rfl ?_
  have g2 := ite_some hf
  refine lv_icmp_ge (tgt := 170) hx hb dX3_search_29 (by decide) (fun c1 => ?_) (fun c1 => ?_)
  · replace hf := g2.1 c1
    exact hK170 _ hf _ _ _ hP hD hS (lv_sub hl [] rfl)
  · replace hf := g2.2 c1
    refine lv_iload hx hb dX3_search_32 (lv_at hl 4 rfl) ?_
    have g4 := ite_some hf
    refine lv_if_lt (tgt := 170) hx hb dX3_search_34 (by decide) (fun c3 => ?_) (fun c3 => ?_)
    · replace hf := g4.1 c3
      exact hK170 _ hf _ _ _ hP hD hS (lv_sub hl [] rfl)
    · replace hf := g4.2 c3
      refine lv_aload_n hx hb dX3_search_37 rfl (lv_at hl 2 rfl) ?_
      refine va_get (D := D) (ci := 0) (v := .ref (q_a2 2)) (C := RX0) (T := TX0) (N := 10) hx hb hT iX0 hown hK hP 8 rfl rfl 2 (by decide) (hT _ fw_X3_25) (fun _ h9 => h9) rfl dX3_search_38 ?_
      refine lv_iload hx hb dX3_search_41 (lv_at hl 4 rfl) ?_
      refine lv_aload_n hx hb dX3_search_43 rfl (lv_at hl 1 rfl) ?_
      refine lv_aload_n hx hb dX3_search_44 rfl (lv_at hl 2 rfl) ?_
      refine lv_iload hx hb dX3_search_45 (lv_at hl 4 rfl) ?_
      obtain ⟨r5, e6, hf⟩ := bind_some hf
      refine callSi (As := [.ref h_a1, .ref h_a2, .int (v.1)]) (rest := [.int (v.1), .ref (q_a2 2)]) M (mX3_nextFree l D cs sk h_a1 h_a2 q_a1 q_a2 k d_a1 (d_a2.1, (va_up d_a2.2 2 (v.2.2.2.1.2 2))) (v.1) e6) mw_X3_30 ln_X3_nextFree ⟨rfl, rfl, Nat.le_of_ble_eq_true rfl, Nat.le_of_ble_eq_true rfl⟩ hP hD hS hA [3, 8, 10] (by decide) rfl rfl ⟨Nat.zero_le _, Nat.zero_le _⟩ hl.1 rfl (Nat.le_of_ble_eq_true rfl) dX3_search_47 (fun H locs hP hD hS => ?_)
      replace hP : va_P D vwCl [oX3 h_t q_t (v.2.2.1.1), ((q_t 0), .inl (cs 0, 6, .inl (v.2.2.1.2 0))), ((q_t 1), .inl (cs 0, 6, .inl (v.2.2.1.2 1))), oX4 h_a1 q_a1 (d_a1.1), ((q_a1 1), .inl (cs 0, 6, .inl (d_a1.2 1))), ((q_a1 2), .inl (cs 0, 6, .inl (d_a1.2 2))), ((q_a1 4), .inl (cs 0, 3, .inl (d_a1.2 4))), ((q_a1 5), .inl (cs 0, 3, .inl (d_a1.2 5))), oX0 h_a2 q_a2 (d_a2.1), ((q_a2 1), .inl (cs 0, 6, .inl (d_a2.2 1))), ((q_a2 2), .inl (cs 0, 6, .inl (v.2.2.2.1.2 2))), ((q_a2 3), .inl (cs 0, 6, .inl (d_a2.2 3))), ((q_a2 4), .inl (cs 0, 6, .inl (d_a2.2 4))), oX1 h_a3 q_a3 (v.2.2.2.2.1), ((q_a3 1), .inl (cs 0, 12, .inl (v.2.2.2.2.2 1))), ((q_a3 2), .inl (cs 0, 12, .inl (v.2.2.2.2.2 2))), ((q_a3 3), .inl (cs 0, 12, .inl (v.2.2.2.2.2 3)))] H := hP
      replace hD : va_D A [oX3 h_t q_t (v.2.2.1.1), ((q_t 0), .inl (cs 0, 6, .inl (v.2.2.1.2 0))), ((q_t 1), .inl (cs 0, 6, .inl (v.2.2.1.2 1))), oX4 h_a1 q_a1 (d_a1.1), ((q_a1 1), .inl (cs 0, 6, .inl (d_a1.2 1))), ((q_a1 2), .inl (cs 0, 6, .inl (d_a1.2 2))), ((q_a1 4), .inl (cs 0, 3, .inl (d_a1.2 4))), ((q_a1 5), .inl (cs 0, 3, .inl (d_a1.2 5))), oX0 h_a2 q_a2 (d_a2.1), ((q_a2 1), .inl (cs 0, 6, .inl (d_a2.2 1))), ((q_a2 2), .inl (cs 0, 6, .inl (v.2.2.2.1.2 2))), ((q_a2 3), .inl (cs 0, 6, .inl (d_a2.2 3))), ((q_a2 4), .inl (cs 0, 6, .inl (d_a2.2 4))), oX1 h_a3 q_a3 (v.2.2.2.2.1), ((q_a3 1), .inl (cs 0, 12, .inl (v.2.2.2.2.2 1))), ((q_a3 2), .inl (cs 0, 12, .inl (v.2.2.2.2.2 2))), ((q_a3 3), .inl (cs 0, 12, .inl (v.2.2.2.2.2 3)))] := hD
      obtain ⟨hi, hf⟩ := chk_some hf
      refine va_iast (D := D) hx hb hK hP hD hS 10 0 rfl rfl hi dX3_search_50 (fun H locs hP hD hS => ?_)
      replace hP : va_P D vwCl [oX3 h_t q_t (v.2.2.1.1), ((q_t 0), .inl (cs 0, 6, .inl (v.2.2.1.2 0))), ((q_t 1), .inl (cs 0, 6, .inl (v.2.2.1.2 1))), oX4 h_a1 q_a1 (d_a1.1), ((q_a1 1), .inl (cs 0, 6, .inl (d_a1.2 1))), ((q_a1 2), .inl (cs 0, 6, .inl (d_a1.2 2))), ((q_a1 4), .inl (cs 0, 3, .inl (d_a1.2 4))), ((q_a1 5), .inl (cs 0, 3, .inl (d_a1.2 5))), oX0 h_a2 q_a2 (d_a2.1), ((q_a2 1), .inl (cs 0, 6, .inl (d_a2.2 1))), ((q_a2 2), .inl (cs 0, 6, .inl (upd (v.2.2.2.1.2 2) (v.1).toNatClampNeg r5))), ((q_a2 3), .inl (cs 0, 6, .inl (d_a2.2 3))), ((q_a2 4), .inl (cs 0, 6, .inl (d_a2.2 4))), oX1 h_a3 q_a3 (v.2.2.2.2.1), ((q_a3 1), .inl (cs 0, 12, .inl (v.2.2.2.2.2 1))), ((q_a3 2), .inl (cs 0, 12, .inl (v.2.2.2.2.2 2))), ((q_a3 3), .inl (cs 0, 12, .inl (v.2.2.2.2.2 3)))] H := hP
      replace hD : va_D A [oX3 h_t q_t (v.2.2.1.1), ((q_t 0), .inl (cs 0, 6, .inl (v.2.2.1.2 0))), ((q_t 1), .inl (cs 0, 6, .inl (v.2.2.1.2 1))), oX4 h_a1 q_a1 (d_a1.1), ((q_a1 1), .inl (cs 0, 6, .inl (d_a1.2 1))), ((q_a1 2), .inl (cs 0, 6, .inl (d_a1.2 2))), ((q_a1 4), .inl (cs 0, 3, .inl (d_a1.2 4))), ((q_a1 5), .inl (cs 0, 3, .inl (d_a1.2 5))), oX0 h_a2 q_a2 (d_a2.1), ((q_a2 1), .inl (cs 0, 6, .inl (d_a2.2 1))), ((q_a2 2), .inl (cs 0, 6, .inl (upd (v.2.2.2.1.2 2) (v.1).toNatClampNeg r5))), ((q_a2 3), .inl (cs 0, 6, .inl (d_a2.2 3))), ((q_a2 4), .inl (cs 0, 6, .inl (d_a2.2 4))), oX1 h_a3 q_a3 (v.2.2.2.2.1), ((q_a3 1), .inl (cs 0, 12, .inl (v.2.2.2.2.2 1))), ((q_a3 2), .inl (cs 0, 12, .inl (v.2.2.2.2.2 2))), ((q_a3 3), .inl (cs 0, 12, .inl (v.2.2.2.2.2 3)))] := hD
      refine lv_aload_n hx hb dX3_search_51 rfl (lv_at hl 2 rfl) ?_
      refine va_get (D := D) (ci := 0) (v := .ref (q_a2 2)) (C := RX0) (T := TX0) (N := 10) hx hb hT iX0 hown hK hP 8 rfl rfl 2 (by decide) (hT _ fw_X3_25) (fun _ h9 => h9) rfl dX3_search_52 ?_
      refine lv_iload hx hb dX3_search_55 (lv_at hl 4 rfl) ?_
      obtain ⟨hi, hf⟩ := chk_some hf
      refine va_iald (D := D) hx hb hK hP 10 0 rfl rfl hi dX3_search_57 ?_
      refine lv_iconst (v := (-1)) hx hb dX3_search_58 rfl ?_
      have g8 := ite_some hf
      refine lv_icmp_ne (tgt := 68) hx hb dX3_search_59 (by decide) (fun c7 => ?_) (fun c7 => ?_)
      · replace hf := g8.2 c7
        refine lv_iload hx hb dX3_search_68 (lv_at hl 4 rfl) ?_
        have g10 := ite_some hf
        refine lv_if_ne (tgt := 78) hx hb dX3_search_70 (by decide) (fun c9 => ?_) (fun c9 => ?_)
        · replace hf := g10.2 c9
          refine lv_aload_n hx hb dX3_search_78 rfl (lv_at hl 0 rfl) ?_
          refine va_get (D := D) (ci := 3) (v := .ref (q_t 1)) (C := RX3) (T := TX3) (N := 4) hx hb hT iX3 hown hK hP 0 rfl rfl 1 (by decide) (hT _ fw_X3_15) (fun _ h9 => h9) rfl dX3_search_79 ?_
          refine lv_iload hx hb dX3_search_82 (lv_at hl 4 rfl) ?_
          refine lv_iconst (v := 1) hx hb dX3_search_84 rfl ?_
          refine lv_isub hx hb dX3_search_85 ?_
          obtain ⟨hi, hf⟩ := chk_some hf
          refine va_iald (D := D) hx hb hK hP 2 0 rfl rfl hi dX3_search_86 ?_
          refine lv_istore (lv' := [(6, .int ((v.2.2.1.2 1) ((v.1) - 1).toNatClampNeg)), (0, .ref h_t), (1, .ref h_a1), (2, .ref h_a2), (3, .ref h_a3), (4, .int (v.1)), (5, .int (v.2.1))]) hx hb dX3_search_87 hl (by decide) rfl (fun ls hl => ?_)
          refine lv_aload_n hx hb dX3_search_89 rfl (lv_at hl 1 rfl) ?_
          refine va_get (D := D) (ci := 3) (v := .ref (q_t 1)) (C := RX3) (T := TX3) (N := 4) hx hb hT iX3 hown hK hP 0 rfl rfl 1 (by decide) (hT _ fw_X3_15) (fun _ h9 => h9) rfl dX3_search_90 ?_
          refine lv_iload hx hb dX3_search_93 (lv_at hl 5 rfl) ?_
          refine lv_iload hx hb dX3_search_95 (lv_at hl 0 rfl) ?_
          refine lv_aload_n hx hb dX3_search_97 rfl (lv_at hl 2 rfl) ?_
          refine lv_aload_n hx hb dX3_search_98 rfl (lv_at hl 3 rfl) ?_
          refine lv_iload hx hb dX3_search_99 (lv_at hl 5 rfl) ?_
          obtain ⟨r11, e12, hf⟩ := bind_some hf
          refine callSi (As := [.ref h_a1, .ref h_a2, .int (v.1)]) (rest := [.int ((v.2.2.1.2 1) ((v.1) - 1).toNatClampNeg), .int (v.1), .ref (q_t 1)]) M (mX3_leastLoud l D cs sk h_a1 h_a2 q_a1 q_a2 k d_a1 (d_a2.1, (va_up d_a2.2 2 (upd (v.2.2.2.1.2 2) (v.1).toNatClampNeg r5))) (v.1) e12) mw_X3_34 ln_X3_leastLoud ⟨rfl, rfl, Nat.le_of_ble_eq_true rfl, Nat.le_of_ble_eq_true rfl⟩ hP hD hS hA [3, 4, 5, 6, 7, 8, 9, 10, 11] (by decide) rfl rfl ⟨Nat.zero_le _, Nat.zero_le _⟩ hl.1 rfl (Nat.le_of_ble_eq_true rfl) dX3_search_101 (fun H locs hP hD hS => ?_)
          replace hP : va_P D vwCl [oX3 h_t q_t (v.2.2.1.1), ((q_t 0), .inl (cs 0, 6, .inl (v.2.2.1.2 0))), ((q_t 1), .inl (cs 0, 6, .inl (v.2.2.1.2 1))), oX4 h_a1 q_a1 (d_a1.1), ((q_a1 1), .inl (cs 0, 6, .inl (d_a1.2 1))), ((q_a1 2), .inl (cs 0, 6, .inl (d_a1.2 2))), ((q_a1 4), .inl (cs 0, 3, .inl (d_a1.2 4))), ((q_a1 5), .inl (cs 0, 3, .inl (d_a1.2 5))), oX0 h_a2 q_a2 (d_a2.1), ((q_a2 1), .inl (cs 0, 6, .inl (d_a2.2 1))), ((q_a2 2), .inl (cs 0, 6, .inl (upd (v.2.2.2.1.2 2) (v.1).toNatClampNeg r5))), ((q_a2 3), .inl (cs 0, 6, .inl (d_a2.2 3))), ((q_a2 4), .inl (cs 0, 6, .inl (d_a2.2 4))), oX1 h_a3 q_a3 (v.2.2.2.2.1), ((q_a3 1), .inl (cs 0, 12, .inl (v.2.2.2.2.2 1))), ((q_a3 2), .inl (cs 0, 12, .inl (v.2.2.2.2.2 2))), ((q_a3 3), .inl (cs 0, 12, .inl (v.2.2.2.2.2 3)))] H := hP
          replace hD : va_D A [oX3 h_t q_t (v.2.2.1.1), ((q_t 0), .inl (cs 0, 6, .inl (v.2.2.1.2 0))), ((q_t 1), .inl (cs 0, 6, .inl (v.2.2.1.2 1))), oX4 h_a1 q_a1 (d_a1.1), ((q_a1 1), .inl (cs 0, 6, .inl (d_a1.2 1))), ((q_a1 2), .inl (cs 0, 6, .inl (d_a1.2 2))), ((q_a1 4), .inl (cs 0, 3, .inl (d_a1.2 4))), ((q_a1 5), .inl (cs 0, 3, .inl (d_a1.2 5))), oX0 h_a2 q_a2 (d_a2.1), ((q_a2 1), .inl (cs 0, 6, .inl (d_a2.2 1))), ((q_a2 2), .inl (cs 0, 6, .inl (upd (v.2.2.2.1.2 2) (v.1).toNatClampNeg r5))), ((q_a2 3), .inl (cs 0, 6, .inl (d_a2.2 3))), ((q_a2 4), .inl (cs 0, 6, .inl (d_a2.2 4))), oX1 h_a3 q_a3 (v.2.2.2.2.1), ((q_a3 1), .inl (cs 0, 12, .inl (v.2.2.2.2.2 1))), ((q_a3 2), .inl (cs 0, 12, .inl (v.2.2.2.2.2 2))), ((q_a3 3), .inl (cs 0, 12, .inl (v.2.2.2.2.2 3)))] := hD
          refine va_mmin hx hb (hml.trans hl.1.symm) hown (hT _ jw_X3_37.1) (hT _ jw_X3_37.2.1) (hT _ jw_X3_37.2.2.1) (hT _ jw_X3_37.2.2.2) (Nat.le_of_ble_eq_true rfl) (Nat.le_of_ble_eq_true rfl) (Nat.zero_le _) (Nat.zero_le _) dX3_search_104 ?_
          obtain ⟨hi, hf⟩ := chk_some hf
          refine va_iast (D := D) hx hb hK hP hD hS 2 0 rfl rfl hi dX3_search_107 (fun H locs hP hD hS => ?_)
          replace hP : va_P D vwCl [oX3 h_t q_t (v.2.2.1.1), ((q_t 0), .inl (cs 0, 6, .inl (v.2.2.1.2 0))), ((q_t 1), .inl (cs 0, 6, .inl (upd (v.2.2.1.2 1) (v.1).toNatClampNeg (if r11 < ((v.2.2.1.2 1) ((v.1) - 1).toNatClampNeg) then r11 else ((v.2.2.1.2 1) ((v.1) - 1).toNatClampNeg))))), oX4 h_a1 q_a1 (d_a1.1), ((q_a1 1), .inl (cs 0, 6, .inl (d_a1.2 1))), ((q_a1 2), .inl (cs 0, 6, .inl (d_a1.2 2))), ((q_a1 4), .inl (cs 0, 3, .inl (d_a1.2 4))), ((q_a1 5), .inl (cs 0, 3, .inl (d_a1.2 5))), oX0 h_a2 q_a2 (d_a2.1), ((q_a2 1), .inl (cs 0, 6, .inl (d_a2.2 1))), ((q_a2 2), .inl (cs 0, 6, .inl (upd (v.2.2.2.1.2 2) (v.1).toNatClampNeg r5))), ((q_a2 3), .inl (cs 0, 6, .inl (d_a2.2 3))), ((q_a2 4), .inl (cs 0, 6, .inl (d_a2.2 4))), oX1 h_a3 q_a3 (v.2.2.2.2.1), ((q_a3 1), .inl (cs 0, 12, .inl (v.2.2.2.2.2 1))), ((q_a3 2), .inl (cs 0, 12, .inl (v.2.2.2.2.2 2))), ((q_a3 3), .inl (cs 0, 12, .inl (v.2.2.2.2.2 3)))] H := hP
          replace hD : va_D A [oX3 h_t q_t (v.2.2.1.1), ((q_t 0), .inl (cs 0, 6, .inl (v.2.2.1.2 0))), ((q_t 1), .inl (cs 0, 6, .inl (upd (v.2.2.1.2 1) (v.1).toNatClampNeg (if r11 < ((v.2.2.1.2 1) ((v.1) - 1).toNatClampNeg) then r11 else ((v.2.2.1.2 1) ((v.1) - 1).toNatClampNeg))))), oX4 h_a1 q_a1 (d_a1.1), ((q_a1 1), .inl (cs 0, 6, .inl (d_a1.2 1))), ((q_a1 2), .inl (cs 0, 6, .inl (d_a1.2 2))), ((q_a1 4), .inl (cs 0, 3, .inl (d_a1.2 4))), ((q_a1 5), .inl (cs 0, 3, .inl (d_a1.2 5))), oX0 h_a2 q_a2 (d_a2.1), ((q_a2 1), .inl (cs 0, 6, .inl (d_a2.2 1))), ((q_a2 2), .inl (cs 0, 6, .inl (upd (v.2.2.2.1.2 2) (v.1).toNatClampNeg r5))), ((q_a2 3), .inl (cs 0, 6, .inl (d_a2.2 3))), ((q_a2 4), .inl (cs 0, 6, .inl (d_a2.2 4))), oX1 h_a3 q_a3 (v.2.2.2.2.1), ((q_a3 1), .inl (cs 0, 12, .inl (v.2.2.2.2.2 1))), ((q_a3 2), .inl (cs 0, 12, .inl (v.2.2.2.2.2 2))), ((q_a3 3), .inl (cs 0, 12, .inl (v.2.2.2.2.2 3)))] := hD
          refine lv_aload_n hx hb dX3_search_108 rfl (lv_at hl 1 rfl) ?_
          refine va_get (D := D) (ci := 3) (v := .ref (q_t 1)) (C := RX3) (T := TX3) (N := 4) hx hb hT iX3 hown hK hP 0 rfl rfl 1 (by decide) (hT _ fw_X3_15) (fun _ h9 => h9) rfl dX3_search_109 ?_
          refine lv_iload hx hb dX3_search_112 (lv_at hl 5 rfl) ?_
          obtain ⟨hi, hf⟩ := chk_some hf
          refine va_iald (D := D) hx hb hK hP 2 0 rfl rfl hi dX3_search_114 ?_
          refine lv_aload_n hx hb dX3_search_115 rfl (lv_at hl 1 rfl) ?_
          refine va_get (D := D) (ci := 3) (v := .int (v.2.2.1.1 2)) (C := RX3) (T := TX3) (N := 4) hx hb hT iX3 hown hK hP 0 rfl rfl 2 (by decide) (hT _ fw_X3_18) (fun _ h9 => h9) rfl dX3_search_116 ?_
          have g14 := ite_some hf
          refine lv_icmp_ge (tgt := 125) hx hb dX3_search_119 (by decide) (fun c13 => ?_) (fun c13 => ?_)
          · replace hf := g14.1 c13
            refine lv_iload hx hb dX3_search_125 (lv_at hl 5 rfl) ?_
            refine lv_iconst (v := 1) hx hb dX3_search_127 rfl ?_
            refine lv_iadd hx hb dX3_search_128 ?_
            refine lv_aload_n hx hb dX3_search_129 rfl (lv_at hl 3 rfl) ?_
            refine va_get (D := D) (ci := 0) (v := .int (d_a2.1 0)) (C := RX0) (T := TX0) (N := 10) hx hb hT iX0 hown hK hP 8 rfl rfl 0 (by decide) (hT _ fw_X3_43) (fun _ h9 => h9) rfl dX3_search_130 ?_
            have g16 := ite_some hf
            refine lv_icmp_ge (tgt := 150) hx hb dX3_search_133 (by decide) (fun c15 => ?_) (fun c15 => ?_)
            · replace hf := g16.1 c15
              refine lv_aload_n hx hb dX3_search_150 rfl (lv_at hl 1 rfl) ?_
              refine lv_aload_n hx hb dX3_search_151 rfl (lv_at hl 2 rfl) ?_
              refine lv_aload_n hx hb dX3_search_152 rfl (lv_at hl 3 rfl) ?_
              refine lv_aload_n hx hb dX3_search_153 rfl (lv_at hl 4 rfl) ?_
              refine lv_aload_n hx hb dX3_search_154 rfl (lv_at hl 1 rfl) ?_
              refine va_get (D := D) (ci := 3) (v := .ref (q_t 1)) (C := RX3) (T := TX3) (N := 4) hx hb hT iX3 hown hK hP 0 rfl rfl 1 (by decide) (hT _ fw_X3_15) (fun _ h9 => h9) rfl dX3_search_155 ?_
              refine lv_iload hx hb dX3_search_158 (lv_at hl 5 rfl) ?_
              obtain ⟨hi, hf⟩ := chk_some hf
              refine va_iald (D := D) hx hb hK hP 2 0 rfl rfl hi dX3_search_160 ?_
              obtain ⟨r17, e18, hf⟩ := bind_some hf
              refine callVv (As := [.ref h_a1, .ref h_a2, .ref h_a3, .int ((upd (v.2.2.1.2 1) (v.1).toNatClampNeg (if r11 < ((v.2.2.1.2 1) ((v.1) - 1).toNatClampNeg) then r11 else ((v.2.2.1.2 1) ((v.1) - 1).toNatClampNeg))) (v.1).toNatClampNeg)]) (rest := []) M (mX3_judge l D cs sk h_t h_a1 h_a2 h_a3 q_t q_a1 q_a2 q_a3 k (v.2.2.1.1, (va_up (va_up d_t.2 0 (v.2.2.1.2 0)) 1 (upd (v.2.2.1.2 1) (v.1).toNatClampNeg (if r11 < ((v.2.2.1.2 1) ((v.1) - 1).toNatClampNeg) then r11 else ((v.2.2.1.2 1) ((v.1) - 1).toNatClampNeg))))) d_a1 (d_a2.1, (va_up d_a2.2 2 (upd (v.2.2.2.1.2 2) (v.1).toNatClampNeg r5))) (v.2.2.2.2.1, (va_up (va_up (va_up d_a3.2 1 (v.2.2.2.2.2 1)) 2 (v.2.2.2.2.2 2)) 3 (v.2.2.2.2.2 3))) ((upd (v.2.2.1.2 1) (v.1).toNatClampNeg (if r11 < ((v.2.2.1.2 1) ((v.1) - 1).toNatClampNeg) then r11 else ((v.2.2.1.2 1) ((v.1) - 1).toNatClampNeg))) (v.1).toNatClampNeg) e18) mw_X3_46 ln_X3_judge ⟨rfl, rfl, Nat.le_of_ble_eq_true rfl, Nat.le_of_ble_eq_true rfl⟩ hP hD hS hA [0, 1, 3, 4, 5, 6, 7, 8, 9, 10, 11, 12, 13, 14, 15, 16] (by decide) rfl rfl (q0 := 0) rfl rfl rfl ⟨Nat.zero_le _, Nat.zero_le _⟩ hl.1 rfl (Nat.le_of_ble_eq_true rfl) dX3_search_161 (fun H locs hP hD hS => ?_)
              replace hP : va_P D vwCl [oX3 h_t q_t (r17.1.1), ((q_t 0), .inl (cs 0, 6, .inl (r17.1.2 0))), ((q_t 1), .inl (cs 0, 6, .inl (upd (v.2.2.1.2 1) (v.1).toNatClampNeg (if r11 < ((v.2.2.1.2 1) ((v.1) - 1).toNatClampNeg) then r11 else ((v.2.2.1.2 1) ((v.1) - 1).toNatClampNeg))))), oX4 h_a1 q_a1 (d_a1.1), ((q_a1 1), .inl (cs 0, 6, .inl (d_a1.2 1))), ((q_a1 2), .inl (cs 0, 6, .inl (d_a1.2 2))), ((q_a1 4), .inl (cs 0, 3, .inl (d_a1.2 4))), ((q_a1 5), .inl (cs 0, 3, .inl (d_a1.2 5))), oX0 h_a2 q_a2 (d_a2.1), ((q_a2 1), .inl (cs 0, 6, .inl (d_a2.2 1))), ((q_a2 2), .inl (cs 0, 6, .inl (upd (v.2.2.2.1.2 2) (v.1).toNatClampNeg r5))), ((q_a2 3), .inl (cs 0, 6, .inl (d_a2.2 3))), ((q_a2 4), .inl (cs 0, 6, .inl (d_a2.2 4))), oX1 h_a3 q_a3 (r17.2.1), ((q_a3 1), .inl (cs 0, 12, .inl (r17.2.2 1))), ((q_a3 2), .inl (cs 0, 12, .inl (r17.2.2 2))), ((q_a3 3), .inl (cs 0, 12, .inl (r17.2.2 3)))] H := hP
              replace hD : va_D A [oX3 h_t q_t (r17.1.1), ((q_t 0), .inl (cs 0, 6, .inl (r17.1.2 0))), ((q_t 1), .inl (cs 0, 6, .inl (upd (v.2.2.1.2 1) (v.1).toNatClampNeg (if r11 < ((v.2.2.1.2 1) ((v.1) - 1).toNatClampNeg) then r11 else ((v.2.2.1.2 1) ((v.1) - 1).toNatClampNeg))))), oX4 h_a1 q_a1 (d_a1.1), ((q_a1 1), .inl (cs 0, 6, .inl (d_a1.2 1))), ((q_a1 2), .inl (cs 0, 6, .inl (d_a1.2 2))), ((q_a1 4), .inl (cs 0, 3, .inl (d_a1.2 4))), ((q_a1 5), .inl (cs 0, 3, .inl (d_a1.2 5))), oX0 h_a2 q_a2 (d_a2.1), ((q_a2 1), .inl (cs 0, 6, .inl (d_a2.2 1))), ((q_a2 2), .inl (cs 0, 6, .inl (upd (v.2.2.2.1.2 2) (v.1).toNatClampNeg r5))), ((q_a2 3), .inl (cs 0, 6, .inl (d_a2.2 3))), ((q_a2 4), .inl (cs 0, 6, .inl (d_a2.2 4))), oX1 h_a3 q_a3 (r17.2.1), ((q_a3 1), .inl (cs 0, 12, .inl (r17.2.2 1))), ((q_a3 2), .inl (cs 0, 12, .inl (r17.2.2 2))), ((q_a3 3), .inl (cs 0, 12, .inl (r17.2.2 3)))] := hD
              refine lv_iinc (v := ((v.2.1) + 1)) (lv' := [(5, .int ((v.2.1) + 1)), (6, .int ((v.2.2.1.2 1) ((v.1) - 1).toNatClampNeg)), (0, .ref h_t), (1, .ref h_a1), (2, .ref h_a2), (3, .ref h_a3), (4, .int (v.1))]) hx hb dX3_search_164 hl (k := 6) rfl rfl (by decide) rfl (fun ls hl => ?_)
              refine lv_goto (tgt := 24) hx hb dX3_search_167 (by decide) ?_
              exact ih _ hf _ _ _ hP hD hS (lv_sub hl [2, 3, 4, 5, 6, 0] rfl)
            · replace hf := g16.2 c15
              refine lv_iinc (v := ((v.1) + 1)) (lv' := [(4, .int ((v.1) + 1)), (6, .int ((v.2.2.1.2 1) ((v.1) - 1).toNatClampNeg)), (0, .ref h_t), (1, .ref h_a1), (2, .ref h_a2), (3, .ref h_a3), (5, .int (v.2.1))]) hx hb dX3_search_136 hl (k := 5) rfl rfl (by decide) rfl (fun ls hl => ?_)
              refine lv_aload_n hx hb dX3_search_139 rfl (lv_at hl 4 rfl) ?_
              refine va_get (D := D) (ci := 0) (v := .ref (q_a2 2)) (C := RX0) (T := TX0) (N := 10) hx hb hT iX0 hown hK hP 8 rfl rfl 2 (by decide) (hT _ fw_X3_25) (fun _ h9 => h9) rfl dX3_search_140 ?_
              refine lv_iload hx hb dX3_search_143 (lv_at hl 0 rfl) ?_
              refine lv_iconst (v := (-1)) hx hb dX3_search_145 rfl ?_
              obtain ⟨hi, hf⟩ := chk_some hf
              refine va_iast (D := D) hx hb hK hP hD hS 10 0 rfl rfl hi dX3_search_146 (fun H locs hP hD hS => ?_)
              replace hP : va_P D vwCl [oX3 h_t q_t (v.2.2.1.1), ((q_t 0), .inl (cs 0, 6, .inl (v.2.2.1.2 0))), ((q_t 1), .inl (cs 0, 6, .inl (upd (v.2.2.1.2 1) (v.1).toNatClampNeg (if r11 < ((v.2.2.1.2 1) ((v.1) - 1).toNatClampNeg) then r11 else ((v.2.2.1.2 1) ((v.1) - 1).toNatClampNeg))))), oX4 h_a1 q_a1 (d_a1.1), ((q_a1 1), .inl (cs 0, 6, .inl (d_a1.2 1))), ((q_a1 2), .inl (cs 0, 6, .inl (d_a1.2 2))), ((q_a1 4), .inl (cs 0, 3, .inl (d_a1.2 4))), ((q_a1 5), .inl (cs 0, 3, .inl (d_a1.2 5))), oX0 h_a2 q_a2 (d_a2.1), ((q_a2 1), .inl (cs 0, 6, .inl (d_a2.2 1))), ((q_a2 2), .inl (cs 0, 6, .inl (upd (upd (v.2.2.2.1.2 2) (v.1).toNatClampNeg r5) ((v.1) + 1).toNatClampNeg (-1)))), ((q_a2 3), .inl (cs 0, 6, .inl (d_a2.2 3))), ((q_a2 4), .inl (cs 0, 6, .inl (d_a2.2 4))), oX1 h_a3 q_a3 (v.2.2.2.2.1), ((q_a3 1), .inl (cs 0, 12, .inl (v.2.2.2.2.2 1))), ((q_a3 2), .inl (cs 0, 12, .inl (v.2.2.2.2.2 2))), ((q_a3 3), .inl (cs 0, 12, .inl (v.2.2.2.2.2 3)))] H := hP
              replace hD : va_D A [oX3 h_t q_t (v.2.2.1.1), ((q_t 0), .inl (cs 0, 6, .inl (v.2.2.1.2 0))), ((q_t 1), .inl (cs 0, 6, .inl (upd (v.2.2.1.2 1) (v.1).toNatClampNeg (if r11 < ((v.2.2.1.2 1) ((v.1) - 1).toNatClampNeg) then r11 else ((v.2.2.1.2 1) ((v.1) - 1).toNatClampNeg))))), oX4 h_a1 q_a1 (d_a1.1), ((q_a1 1), .inl (cs 0, 6, .inl (d_a1.2 1))), ((q_a1 2), .inl (cs 0, 6, .inl (d_a1.2 2))), ((q_a1 4), .inl (cs 0, 3, .inl (d_a1.2 4))), ((q_a1 5), .inl (cs 0, 3, .inl (d_a1.2 5))), oX0 h_a2 q_a2 (d_a2.1), ((q_a2 1), .inl (cs 0, 6, .inl (d_a2.2 1))), ((q_a2 2), .inl (cs 0, 6, .inl (upd (upd (v.2.2.2.1.2 2) (v.1).toNatClampNeg r5) ((v.1) + 1).toNatClampNeg (-1)))), ((q_a2 3), .inl (cs 0, 6, .inl (d_a2.2 3))), ((q_a2 4), .inl (cs 0, 6, .inl (d_a2.2 4))), oX1 h_a3 q_a3 (v.2.2.2.2.1), ((q_a3 1), .inl (cs 0, 12, .inl (v.2.2.2.2.2 1))), ((q_a3 2), .inl (cs 0, 12, .inl (v.2.2.2.2.2 2))), ((q_a3 3), .inl (cs 0, 12, .inl (v.2.2.2.2.2 3)))] := hD
              refine lv_goto (tgt := 164) hx hb dX3_search_147 (by decide) ?_
              refine lv_iinc (v := ((v.2.1) + 1)) (lv' := [(5, .int ((v.2.1) + 1)), (4, .int ((v.1) + 1)), (6, .int ((v.2.2.1.2 1) ((v.1) - 1).toNatClampNeg)), (0, .ref h_t), (1, .ref h_a1), (2, .ref h_a2), (3, .ref h_a3)]) hx hb dX3_search_164 hl (k := 6) rfl rfl (by decide) rfl (fun ls hl => ?_)
              refine lv_goto (tgt := 24) hx hb dX3_search_167 (by decide) ?_
              exact ih _ hf _ _ _ hP hD hS (lv_sub hl [3, 4, 5, 6, 1, 0] rfl)
          · replace hf := g14.2 c13
            refine lv_goto (tgt := 164) hx hb dX3_search_122 (by decide) ?_
            refine lv_iinc (v := ((v.2.1) + 1)) (lv' := [(5, .int ((v.2.1) + 1)), (6, .int ((v.2.2.1.2 1) ((v.1) - 1).toNatClampNeg)), (0, .ref h_t), (1, .ref h_a1), (2, .ref h_a2), (3, .ref h_a3), (4, .int (v.1))]) hx hb dX3_search_164 hl (k := 6) rfl rfl (by decide) rfl (fun ls hl => ?_)
            refine lv_goto (tgt := 24) hx hb dX3_search_167 (by decide) ?_
            exact ih _ hf _ _ _ hP hD hS (lv_sub hl [2, 3, 4, 5, 6, 0] rfl)
        · replace hf := g10.1 c9
          refine lv_bipush (v := 99) hx hb dX3_search_73 rfl ?_
          refine lv_goto (tgt := 87) hx hb dX3_search_75 (by decide) ?_
          refine lv_istore (lv' := [(6, .int 99), (0, .ref h_t), (1, .ref h_a1), (2, .ref h_a2), (3, .ref h_a3), (4, .int (v.1)), (5, .int (v.2.1))]) hx hb dX3_search_87 hl (by decide) rfl (fun ls hl => ?_)
          refine lv_aload_n hx hb dX3_search_89 rfl (lv_at hl 1 rfl) ?_
          refine va_get (D := D) (ci := 3) (v := .ref (q_t 1)) (C := RX3) (T := TX3) (N := 4) hx hb hT iX3 hown hK hP 0 rfl rfl 1 (by decide) (hT _ fw_X3_15) (fun _ h9 => h9) rfl dX3_search_90 ?_
          refine lv_iload hx hb dX3_search_93 (lv_at hl 5 rfl) ?_
          refine lv_iload hx hb dX3_search_95 (lv_at hl 0 rfl) ?_
          refine lv_aload_n hx hb dX3_search_97 rfl (lv_at hl 2 rfl) ?_
          refine lv_aload_n hx hb dX3_search_98 rfl (lv_at hl 3 rfl) ?_
          refine lv_iload hx hb dX3_search_99 (lv_at hl 5 rfl) ?_
          obtain ⟨r19, e20, hf⟩ := bind_some hf
          refine callSi (As := [.ref h_a1, .ref h_a2, .int (v.1)]) (rest := [.int 99, .int (v.1), .ref (q_t 1)]) M (mX3_leastLoud l D cs sk h_a1 h_a2 q_a1 q_a2 k d_a1 (d_a2.1, (va_up d_a2.2 2 (upd (v.2.2.2.1.2 2) (v.1).toNatClampNeg r5))) (v.1) e20) mw_X3_34 ln_X3_leastLoud ⟨rfl, rfl, Nat.le_of_ble_eq_true rfl, Nat.le_of_ble_eq_true rfl⟩ hP hD hS hA [3, 4, 5, 6, 7, 8, 9, 10, 11] (by decide) rfl rfl ⟨Nat.zero_le _, Nat.zero_le _⟩ hl.1 rfl (Nat.le_of_ble_eq_true rfl) dX3_search_101 (fun H locs hP hD hS => ?_)
          replace hP : va_P D vwCl [oX3 h_t q_t (v.2.2.1.1), ((q_t 0), .inl (cs 0, 6, .inl (v.2.2.1.2 0))), ((q_t 1), .inl (cs 0, 6, .inl (v.2.2.1.2 1))), oX4 h_a1 q_a1 (d_a1.1), ((q_a1 1), .inl (cs 0, 6, .inl (d_a1.2 1))), ((q_a1 2), .inl (cs 0, 6, .inl (d_a1.2 2))), ((q_a1 4), .inl (cs 0, 3, .inl (d_a1.2 4))), ((q_a1 5), .inl (cs 0, 3, .inl (d_a1.2 5))), oX0 h_a2 q_a2 (d_a2.1), ((q_a2 1), .inl (cs 0, 6, .inl (d_a2.2 1))), ((q_a2 2), .inl (cs 0, 6, .inl (upd (v.2.2.2.1.2 2) (v.1).toNatClampNeg r5))), ((q_a2 3), .inl (cs 0, 6, .inl (d_a2.2 3))), ((q_a2 4), .inl (cs 0, 6, .inl (d_a2.2 4))), oX1 h_a3 q_a3 (v.2.2.2.2.1), ((q_a3 1), .inl (cs 0, 12, .inl (v.2.2.2.2.2 1))), ((q_a3 2), .inl (cs 0, 12, .inl (v.2.2.2.2.2 2))), ((q_a3 3), .inl (cs 0, 12, .inl (v.2.2.2.2.2 3)))] H := hP
          replace hD : va_D A [oX3 h_t q_t (v.2.2.1.1), ((q_t 0), .inl (cs 0, 6, .inl (v.2.2.1.2 0))), ((q_t 1), .inl (cs 0, 6, .inl (v.2.2.1.2 1))), oX4 h_a1 q_a1 (d_a1.1), ((q_a1 1), .inl (cs 0, 6, .inl (d_a1.2 1))), ((q_a1 2), .inl (cs 0, 6, .inl (d_a1.2 2))), ((q_a1 4), .inl (cs 0, 3, .inl (d_a1.2 4))), ((q_a1 5), .inl (cs 0, 3, .inl (d_a1.2 5))), oX0 h_a2 q_a2 (d_a2.1), ((q_a2 1), .inl (cs 0, 6, .inl (d_a2.2 1))), ((q_a2 2), .inl (cs 0, 6, .inl (upd (v.2.2.2.1.2 2) (v.1).toNatClampNeg r5))), ((q_a2 3), .inl (cs 0, 6, .inl (d_a2.2 3))), ((q_a2 4), .inl (cs 0, 6, .inl (d_a2.2 4))), oX1 h_a3 q_a3 (v.2.2.2.2.1), ((q_a3 1), .inl (cs 0, 12, .inl (v.2.2.2.2.2 1))), ((q_a3 2), .inl (cs 0, 12, .inl (v.2.2.2.2.2 2))), ((q_a3 3), .inl (cs 0, 12, .inl (v.2.2.2.2.2 3)))] := hD
          refine va_mmin hx hb (hml.trans hl.1.symm) hown (hT _ jw_X3_37.1) (hT _ jw_X3_37.2.1) (hT _ jw_X3_37.2.2.1) (hT _ jw_X3_37.2.2.2) (Nat.le_of_ble_eq_true rfl) (Nat.le_of_ble_eq_true rfl) (Nat.zero_le _) (Nat.zero_le _) dX3_search_104 ?_
          obtain ⟨hi, hf⟩ := chk_some hf
          refine va_iast (D := D) hx hb hK hP hD hS 2 0 rfl rfl hi dX3_search_107 (fun H locs hP hD hS => ?_)
          replace hP : va_P D vwCl [oX3 h_t q_t (v.2.2.1.1), ((q_t 0), .inl (cs 0, 6, .inl (v.2.2.1.2 0))), ((q_t 1), .inl (cs 0, 6, .inl (upd (v.2.2.1.2 1) (v.1).toNatClampNeg (if r19 < (99 : Int32) then r19 else (99 : Int32))))), oX4 h_a1 q_a1 (d_a1.1), ((q_a1 1), .inl (cs 0, 6, .inl (d_a1.2 1))), ((q_a1 2), .inl (cs 0, 6, .inl (d_a1.2 2))), ((q_a1 4), .inl (cs 0, 3, .inl (d_a1.2 4))), ((q_a1 5), .inl (cs 0, 3, .inl (d_a1.2 5))), oX0 h_a2 q_a2 (d_a2.1), ((q_a2 1), .inl (cs 0, 6, .inl (d_a2.2 1))), ((q_a2 2), .inl (cs 0, 6, .inl (upd (v.2.2.2.1.2 2) (v.1).toNatClampNeg r5))), ((q_a2 3), .inl (cs 0, 6, .inl (d_a2.2 3))), ((q_a2 4), .inl (cs 0, 6, .inl (d_a2.2 4))), oX1 h_a3 q_a3 (v.2.2.2.2.1), ((q_a3 1), .inl (cs 0, 12, .inl (v.2.2.2.2.2 1))), ((q_a3 2), .inl (cs 0, 12, .inl (v.2.2.2.2.2 2))), ((q_a3 3), .inl (cs 0, 12, .inl (v.2.2.2.2.2 3)))] H := hP
          replace hD : va_D A [oX3 h_t q_t (v.2.2.1.1), ((q_t 0), .inl (cs 0, 6, .inl (v.2.2.1.2 0))), ((q_t 1), .inl (cs 0, 6, .inl (upd (v.2.2.1.2 1) (v.1).toNatClampNeg (if r19 < (99 : Int32) then r19 else (99 : Int32))))), oX4 h_a1 q_a1 (d_a1.1), ((q_a1 1), .inl (cs 0, 6, .inl (d_a1.2 1))), ((q_a1 2), .inl (cs 0, 6, .inl (d_a1.2 2))), ((q_a1 4), .inl (cs 0, 3, .inl (d_a1.2 4))), ((q_a1 5), .inl (cs 0, 3, .inl (d_a1.2 5))), oX0 h_a2 q_a2 (d_a2.1), ((q_a2 1), .inl (cs 0, 6, .inl (d_a2.2 1))), ((q_a2 2), .inl (cs 0, 6, .inl (upd (v.2.2.2.1.2 2) (v.1).toNatClampNeg r5))), ((q_a2 3), .inl (cs 0, 6, .inl (d_a2.2 3))), ((q_a2 4), .inl (cs 0, 6, .inl (d_a2.2 4))), oX1 h_a3 q_a3 (v.2.2.2.2.1), ((q_a3 1), .inl (cs 0, 12, .inl (v.2.2.2.2.2 1))), ((q_a3 2), .inl (cs 0, 12, .inl (v.2.2.2.2.2 2))), ((q_a3 3), .inl (cs 0, 12, .inl (v.2.2.2.2.2 3)))] := hD
          refine lv_aload_n hx hb dX3_search_108 rfl (lv_at hl 1 rfl) ?_
          refine va_get (D := D) (ci := 3) (v := .ref (q_t 1)) (C := RX3) (T := TX3) (N := 4) hx hb hT iX3 hown hK hP 0 rfl rfl 1 (by decide) (hT _ fw_X3_15) (fun _ h9 => h9) rfl dX3_search_109 ?_
          refine lv_iload hx hb dX3_search_112 (lv_at hl 5 rfl) ?_
          obtain ⟨hi, hf⟩ := chk_some hf
          refine va_iald (D := D) hx hb hK hP 2 0 rfl rfl hi dX3_search_114 ?_
          refine lv_aload_n hx hb dX3_search_115 rfl (lv_at hl 1 rfl) ?_
          refine va_get (D := D) (ci := 3) (v := .int (v.2.2.1.1 2)) (C := RX3) (T := TX3) (N := 4) hx hb hT iX3 hown hK hP 0 rfl rfl 2 (by decide) (hT _ fw_X3_18) (fun _ h9 => h9) rfl dX3_search_116 ?_
          have g22 := ite_some hf
          refine lv_icmp_ge (tgt := 125) hx hb dX3_search_119 (by decide) (fun c21 => ?_) (fun c21 => ?_)
          · replace hf := g22.1 c21
            refine lv_iload hx hb dX3_search_125 (lv_at hl 5 rfl) ?_
            refine lv_iconst (v := 1) hx hb dX3_search_127 rfl ?_
            refine lv_iadd hx hb dX3_search_128 ?_
            refine lv_aload_n hx hb dX3_search_129 rfl (lv_at hl 3 rfl) ?_
            refine va_get (D := D) (ci := 0) (v := .int (d_a2.1 0)) (C := RX0) (T := TX0) (N := 10) hx hb hT iX0 hown hK hP 8 rfl rfl 0 (by decide) (hT _ fw_X3_43) (fun _ h9 => h9) rfl dX3_search_130 ?_
            have g24 := ite_some hf
            refine lv_icmp_ge (tgt := 150) hx hb dX3_search_133 (by decide) (fun c23 => ?_) (fun c23 => ?_)
            · replace hf := g24.1 c23
              refine lv_aload_n hx hb dX3_search_150 rfl (lv_at hl 1 rfl) ?_
              refine lv_aload_n hx hb dX3_search_151 rfl (lv_at hl 2 rfl) ?_
              refine lv_aload_n hx hb dX3_search_152 rfl (lv_at hl 3 rfl) ?_
              refine lv_aload_n hx hb dX3_search_153 rfl (lv_at hl 4 rfl) ?_
              refine lv_aload_n hx hb dX3_search_154 rfl (lv_at hl 1 rfl) ?_
              refine va_get (D := D) (ci := 3) (v := .ref (q_t 1)) (C := RX3) (T := TX3) (N := 4) hx hb hT iX3 hown hK hP 0 rfl rfl 1 (by decide) (hT _ fw_X3_15) (fun _ h9 => h9) rfl dX3_search_155 ?_
              refine lv_iload hx hb dX3_search_158 (lv_at hl 5 rfl) ?_
              obtain ⟨hi, hf⟩ := chk_some hf
              refine va_iald (D := D) hx hb hK hP 2 0 rfl rfl hi dX3_search_160 ?_
              obtain ⟨r25, e26, hf⟩ := bind_some hf
              refine callVv (As := [.ref h_a1, .ref h_a2, .ref h_a3, .int ((upd (v.2.2.1.2 1) (v.1).toNatClampNeg (if r19 < (99 : Int32) then r19 else (99 : Int32))) (v.1).toNatClampNeg)]) (rest := []) M (mX3_judge l D cs sk h_t h_a1 h_a2 h_a3 q_t q_a1 q_a2 q_a3 k (v.2.2.1.1, (va_up (va_up d_t.2 0 (v.2.2.1.2 0)) 1 (upd (v.2.2.1.2 1) (v.1).toNatClampNeg (if r19 < (99 : Int32) then r19 else (99 : Int32))))) d_a1 (d_a2.1, (va_up d_a2.2 2 (upd (v.2.2.2.1.2 2) (v.1).toNatClampNeg r5))) (v.2.2.2.2.1, (va_up (va_up (va_up d_a3.2 1 (v.2.2.2.2.2 1)) 2 (v.2.2.2.2.2 2)) 3 (v.2.2.2.2.2 3))) ((upd (v.2.2.1.2 1) (v.1).toNatClampNeg (if r19 < (99 : Int32) then r19 else (99 : Int32))) (v.1).toNatClampNeg) e26) mw_X3_46 ln_X3_judge ⟨rfl, rfl, Nat.le_of_ble_eq_true rfl, Nat.le_of_ble_eq_true rfl⟩ hP hD hS hA [0, 1, 3, 4, 5, 6, 7, 8, 9, 10, 11, 12, 13, 14, 15, 16] (by decide) rfl rfl (q0 := 0) rfl rfl rfl ⟨Nat.zero_le _, Nat.zero_le _⟩ hl.1 rfl (Nat.le_of_ble_eq_true rfl) dX3_search_161 (fun H locs hP hD hS => ?_)
              replace hP : va_P D vwCl [oX3 h_t q_t (r25.1.1), ((q_t 0), .inl (cs 0, 6, .inl (r25.1.2 0))), ((q_t 1), .inl (cs 0, 6, .inl (upd (v.2.2.1.2 1) (v.1).toNatClampNeg (if r19 < (99 : Int32) then r19 else (99 : Int32))))), oX4 h_a1 q_a1 (d_a1.1), ((q_a1 1), .inl (cs 0, 6, .inl (d_a1.2 1))), ((q_a1 2), .inl (cs 0, 6, .inl (d_a1.2 2))), ((q_a1 4), .inl (cs 0, 3, .inl (d_a1.2 4))), ((q_a1 5), .inl (cs 0, 3, .inl (d_a1.2 5))), oX0 h_a2 q_a2 (d_a2.1), ((q_a2 1), .inl (cs 0, 6, .inl (d_a2.2 1))), ((q_a2 2), .inl (cs 0, 6, .inl (upd (v.2.2.2.1.2 2) (v.1).toNatClampNeg r5))), ((q_a2 3), .inl (cs 0, 6, .inl (d_a2.2 3))), ((q_a2 4), .inl (cs 0, 6, .inl (d_a2.2 4))), oX1 h_a3 q_a3 (r25.2.1), ((q_a3 1), .inl (cs 0, 12, .inl (r25.2.2 1))), ((q_a3 2), .inl (cs 0, 12, .inl (r25.2.2 2))), ((q_a3 3), .inl (cs 0, 12, .inl (r25.2.2 3)))] H := hP
              replace hD : va_D A [oX3 h_t q_t (r25.1.1), ((q_t 0), .inl (cs 0, 6, .inl (r25.1.2 0))), ((q_t 1), .inl (cs 0, 6, .inl (upd (v.2.2.1.2 1) (v.1).toNatClampNeg (if r19 < (99 : Int32) then r19 else (99 : Int32))))), oX4 h_a1 q_a1 (d_a1.1), ((q_a1 1), .inl (cs 0, 6, .inl (d_a1.2 1))), ((q_a1 2), .inl (cs 0, 6, .inl (d_a1.2 2))), ((q_a1 4), .inl (cs 0, 3, .inl (d_a1.2 4))), ((q_a1 5), .inl (cs 0, 3, .inl (d_a1.2 5))), oX0 h_a2 q_a2 (d_a2.1), ((q_a2 1), .inl (cs 0, 6, .inl (d_a2.2 1))), ((q_a2 2), .inl (cs 0, 6, .inl (upd (v.2.2.2.1.2 2) (v.1).toNatClampNeg r5))), ((q_a2 3), .inl (cs 0, 6, .inl (d_a2.2 3))), ((q_a2 4), .inl (cs 0, 6, .inl (d_a2.2 4))), oX1 h_a3 q_a3 (r25.2.1), ((q_a3 1), .inl (cs 0, 12, .inl (r25.2.2 1))), ((q_a3 2), .inl (cs 0, 12, .inl (r25.2.2 2))), ((q_a3 3), .inl (cs 0, 12, .inl (r25.2.2 3)))] := hD
              refine lv_iinc (v := ((v.2.1) + 1)) (lv' := [(5, .int ((v.2.1) + 1)), (6, .int (99 : Int32)), (0, .ref h_t), (1, .ref h_a1), (2, .ref h_a2), (3, .ref h_a3), (4, .int (v.1))]) hx hb dX3_search_164 hl (k := 6) rfl rfl (by decide) rfl (fun ls hl => ?_)
              refine lv_goto (tgt := 24) hx hb dX3_search_167 (by decide) ?_
              exact ih _ hf _ _ _ hP hD hS (lv_sub hl [2, 3, 4, 5, 6, 0] rfl)
            · replace hf := g24.2 c23
              refine lv_iinc (v := ((v.1) + 1)) (lv' := [(4, .int ((v.1) + 1)), (6, .int (99 : Int32)), (0, .ref h_t), (1, .ref h_a1), (2, .ref h_a2), (3, .ref h_a3), (5, .int (v.2.1))]) hx hb dX3_search_136 hl (k := 5) rfl rfl (by decide) rfl (fun ls hl => ?_)
              refine lv_aload_n hx hb dX3_search_139 rfl (lv_at hl 4 rfl) ?_
              refine va_get (D := D) (ci := 0) (v := .ref (q_a2 2)) (C := RX0) (T := TX0) (N := 10) hx hb hT iX0 hown hK hP 8 rfl rfl 2 (by decide) (hT _ fw_X3_25) (fun _ h9 => h9) rfl dX3_search_140 ?_
              refine lv_iload hx hb dX3_search_143 (lv_at hl 0 rfl) ?_
              refine lv_iconst (v := (-1)) hx hb dX3_search_145 rfl ?_
              obtain ⟨hi, hf⟩ := chk_some hf
              refine va_iast (D := D) hx hb hK hP hD hS 10 0 rfl rfl hi dX3_search_146 (fun H locs hP hD hS => ?_)
              replace hP : va_P D vwCl [oX3 h_t q_t (v.2.2.1.1), ((q_t 0), .inl (cs 0, 6, .inl (v.2.2.1.2 0))), ((q_t 1), .inl (cs 0, 6, .inl (upd (v.2.2.1.2 1) (v.1).toNatClampNeg (if r19 < (99 : Int32) then r19 else (99 : Int32))))), oX4 h_a1 q_a1 (d_a1.1), ((q_a1 1), .inl (cs 0, 6, .inl (d_a1.2 1))), ((q_a1 2), .inl (cs 0, 6, .inl (d_a1.2 2))), ((q_a1 4), .inl (cs 0, 3, .inl (d_a1.2 4))), ((q_a1 5), .inl (cs 0, 3, .inl (d_a1.2 5))), oX0 h_a2 q_a2 (d_a2.1), ((q_a2 1), .inl (cs 0, 6, .inl (d_a2.2 1))), ((q_a2 2), .inl (cs 0, 6, .inl (upd (upd (v.2.2.2.1.2 2) (v.1).toNatClampNeg r5) ((v.1) + 1).toNatClampNeg (-1)))), ((q_a2 3), .inl (cs 0, 6, .inl (d_a2.2 3))), ((q_a2 4), .inl (cs 0, 6, .inl (d_a2.2 4))), oX1 h_a3 q_a3 (v.2.2.2.2.1), ((q_a3 1), .inl (cs 0, 12, .inl (v.2.2.2.2.2 1))), ((q_a3 2), .inl (cs 0, 12, .inl (v.2.2.2.2.2 2))), ((q_a3 3), .inl (cs 0, 12, .inl (v.2.2.2.2.2 3)))] H := hP
              replace hD : va_D A [oX3 h_t q_t (v.2.2.1.1), ((q_t 0), .inl (cs 0, 6, .inl (v.2.2.1.2 0))), ((q_t 1), .inl (cs 0, 6, .inl (upd (v.2.2.1.2 1) (v.1).toNatClampNeg (if r19 < (99 : Int32) then r19 else (99 : Int32))))), oX4 h_a1 q_a1 (d_a1.1), ((q_a1 1), .inl (cs 0, 6, .inl (d_a1.2 1))), ((q_a1 2), .inl (cs 0, 6, .inl (d_a1.2 2))), ((q_a1 4), .inl (cs 0, 3, .inl (d_a1.2 4))), ((q_a1 5), .inl (cs 0, 3, .inl (d_a1.2 5))), oX0 h_a2 q_a2 (d_a2.1), ((q_a2 1), .inl (cs 0, 6, .inl (d_a2.2 1))), ((q_a2 2), .inl (cs 0, 6, .inl (upd (upd (v.2.2.2.1.2 2) (v.1).toNatClampNeg r5) ((v.1) + 1).toNatClampNeg (-1)))), ((q_a2 3), .inl (cs 0, 6, .inl (d_a2.2 3))), ((q_a2 4), .inl (cs 0, 6, .inl (d_a2.2 4))), oX1 h_a3 q_a3 (v.2.2.2.2.1), ((q_a3 1), .inl (cs 0, 12, .inl (v.2.2.2.2.2 1))), ((q_a3 2), .inl (cs 0, 12, .inl (v.2.2.2.2.2 2))), ((q_a3 3), .inl (cs 0, 12, .inl (v.2.2.2.2.2 3)))] := hD
              refine lv_goto (tgt := 164) hx hb dX3_search_147 (by decide) ?_
              refine lv_iinc (v := ((v.2.1) + 1)) (lv' := [(5, .int ((v.2.1) + 1)), (4, .int ((v.1) + 1)), (6, .int (99 : Int32)), (0, .ref h_t), (1, .ref h_a1), (2, .ref h_a2), (3, .ref h_a3)]) hx hb dX3_search_164 hl (k := 6) rfl rfl (by decide) rfl (fun ls hl => ?_)
              refine lv_goto (tgt := 24) hx hb dX3_search_167 (by decide) ?_
              exact ih _ hf _ _ _ hP hD hS (lv_sub hl [3, 4, 5, 6, 1, 0] rfl)
          · replace hf := g22.2 c21
            refine lv_goto (tgt := 164) hx hb dX3_search_122 (by decide) ?_
            refine lv_iinc (v := ((v.2.1) + 1)) (lv' := [(5, .int ((v.2.1) + 1)), (6, .int (99 : Int32)), (0, .ref h_t), (1, .ref h_a1), (2, .ref h_a2), (3, .ref h_a3), (4, .int (v.1))]) hx hb dX3_search_164 hl (k := 6) rfl rfl (by decide) rfl (fun ls hl => ?_)
            refine lv_goto (tgt := 24) hx hb dX3_search_167 (by decide) ?_
            exact ih _ hf _ _ _ hP hD hS (lv_sub hl [2, 3, 4, 5, 6, 0] rfl)
      · replace hf := g8.1 c7
        refine lv_iinc (v := ((v.1) + (-1))) (lv' := [(4, .int ((v.1) + (-1))), (0, .ref h_t), (1, .ref h_a1), (2, .ref h_a2), (3, .ref h_a3), (5, .int (v.2.1))]) hx hb dX3_search_62 hl (k := 4) rfl rfl (by decide) rfl (fun ls hl => ?_)
        refine lv_goto (tgt := 164) hx hb dX3_search_65 (by decide) ?_
        refine lv_iinc (v := ((v.2.1) + 1)) (lv' := [(5, .int ((v.2.1) + 1)), (4, .int ((v.1) + (-1))), (0, .ref h_t), (1, .ref h_a1), (2, .ref h_a2), (3, .ref h_a3)]) hx hb dX3_search_164 hl (k := 5) rfl rfl (by decide) rfl (fun ls hl => ?_)
        refine lv_goto (tgt := 24) hx hb dX3_search_167 (by decide) ?_
        exact ih _ hf _ _ _ hP hD hS (lv_sub hl [2, 3, 4, 5, 1, 0] rfl)
set_option maxHeartbeats 4000000 in
set_option maxRecDepth 100000 in
theorem mX3_search (l : Launch) (D : va_G) (cs : Nat → ClassId) (sk : Nat → Nat) (h_t : Nat) (h_a1 : Nat) (h_a2 : Nat) (h_a3 : Nat) (q_t : Nat → Nat) (q_a1 : Nat → Nat) (q_a2 : Nat → Nat) (q_a3 : Nat → Nat) (k : Nat) (d_t : Dat) (d_a1 : Dat) (d_a2 : Dat) (d_a3 : Dat) {rv : Dat × Dat × Dat} (hf : fX3_search k d_t d_a1 d_a2 d_a3 = some rv) : CTv l yX3_search (Cond.code yX3_search cX3_search 7 none :: gtbl) rm_X3_search D cs sk [.ref h_t, .ref h_a1, .ref h_a2, .ref h_a3] [oX3 h_t q_t (d_t.1), ((q_t 0), .inl (cs 0, 6, .inl (d_t.2 0))), ((q_t 1), .inl (cs 0, 6, .inl (d_t.2 1))), oX4 h_a1 q_a1 (d_a1.1), ((q_a1 1), .inl (cs 0, 6, .inl (d_a1.2 1))), ((q_a1 2), .inl (cs 0, 6, .inl (d_a1.2 2))), ((q_a1 4), .inl (cs 0, 3, .inl (d_a1.2 4))), ((q_a1 5), .inl (cs 0, 3, .inl (d_a1.2 5))), oX0 h_a2 q_a2 (d_a2.1), ((q_a2 1), .inl (cs 0, 6, .inl (d_a2.2 1))), ((q_a2 2), .inl (cs 0, 6, .inl (d_a2.2 2))), ((q_a2 3), .inl (cs 0, 6, .inl (d_a2.2 3))), ((q_a2 4), .inl (cs 0, 6, .inl (d_a2.2 4))), oX1 h_a3 q_a3 (d_a3.1), ((q_a3 1), .inl (cs 0, 12, .inl (d_a3.2 1))), ((q_a3 2), .inl (cs 0, 12, .inl (d_a3.2 2))), ((q_a3 3), .inl (cs 0, 12, .inl (d_a3.2 3)))] [oX3 h_t q_t (rv.1.1), ((q_t 0), .inl (cs 0, 6, .inl (rv.1.2 0))), ((q_t 1), .inl (cs 0, 6, .inl (rv.1.2 1))), oX4 h_a1 q_a1 (d_a1.1), ((q_a1 1), .inl (cs 0, 6, .inl (d_a1.2 1))), ((q_a1 2), .inl (cs 0, 6, .inl (d_a1.2 2))), ((q_a1 4), .inl (cs 0, 3, .inl (d_a1.2 4))), ((q_a1 5), .inl (cs 0, 3, .inl (d_a1.2 5))), oX0 h_a2 q_a2 (d_a2.1), ((q_a2 1), .inl (cs 0, 6, .inl (d_a2.2 1))), ((q_a2 2), .inl (cs 0, 6, .inl (rv.2.1.2 2))), ((q_a2 3), .inl (cs 0, 6, .inl (d_a2.2 3))), ((q_a2 4), .inl (cs 0, 6, .inl (d_a2.2 4))), oX1 h_a3 q_a3 (rv.2.2.1), ((q_a3 1), .inl (cs 0, 12, .inl (rv.2.2.2 1))), ((q_a3 2), .inl (cs 0, 12, .inl (rv.2.2.2 2))), ((q_a3 3), .inl (cs 0, 12, .inl (rv.2.2.2 3)))] := by
  refine CTv.of RX3 (by decide +kernel) rfl (Nat.le_of_ble_eq_true rfl) (fun p e s m args below meth c A Q ls M hA hR hl hP hD hS => ?_)
  obtain ⟨hx, hb, hml, hT, hown, hlk, hrt, hK, hN, hSE⟩ := id M
  replace hl : lv_has ls 7 [(0, .ref h_t), (1, .ref h_a1), (2, .ref h_a2), (3, .ref h_a3)] := hl
  unfold fX3_search at hf
  refine lv_aload_n hx hb dX3_search_0 rfl (lv_at hl 0 rfl) ?_
  refine lv_iconst (v := (-1)) hx hb dX3_search_1 rfl ?_
  refine va_put (D := D) (ci := 3) (v := .int (-1)) (ty := tyX3 2) (C := RX3) (T := TX3) (N := 4) hx hb hT iX3 tyX3 tyX3_ok nmX3 hown hK hP hD hS 0 rfl rfl 2 (by decide) (hT _ fw_X3_18) (fun _ h9 => h9) rfl (tyX3_ok 2 (by decide)) rfl rfl (Nat.le_of_ble_eq_true rfl) dX3_search_2 (fun H locs hP hD hS => ?_)
  replace hP : va_P D vwCl [oX3 h_t q_t (upd d_t.1 2 (-1)), ((q_t 0), .inl (cs 0, 6, .inl (d_t.2 0))), ((q_t 1), .inl (cs 0, 6, .inl (d_t.2 1))), oX4 h_a1 q_a1 (d_a1.1), ((q_a1 1), .inl (cs 0, 6, .inl (d_a1.2 1))), ((q_a1 2), .inl (cs 0, 6, .inl (d_a1.2 2))), ((q_a1 4), .inl (cs 0, 3, .inl (d_a1.2 4))), ((q_a1 5), .inl (cs 0, 3, .inl (d_a1.2 5))), oX0 h_a2 q_a2 (d_a2.1), ((q_a2 1), .inl (cs 0, 6, .inl (d_a2.2 1))), ((q_a2 2), .inl (cs 0, 6, .inl (d_a2.2 2))), ((q_a2 3), .inl (cs 0, 6, .inl (d_a2.2 3))), ((q_a2 4), .inl (cs 0, 6, .inl (d_a2.2 4))), oX1 h_a3 q_a3 (d_a3.1), ((q_a3 1), .inl (cs 0, 12, .inl (d_a3.2 1))), ((q_a3 2), .inl (cs 0, 12, .inl (d_a3.2 2))), ((q_a3 3), .inl (cs 0, 12, .inl (d_a3.2 3)))] H := hP
  replace hD : va_D A [oX3 h_t q_t (upd d_t.1 2 (-1)), ((q_t 0), .inl (cs 0, 6, .inl (d_t.2 0))), ((q_t 1), .inl (cs 0, 6, .inl (d_t.2 1))), oX4 h_a1 q_a1 (d_a1.1), ((q_a1 1), .inl (cs 0, 6, .inl (d_a1.2 1))), ((q_a1 2), .inl (cs 0, 6, .inl (d_a1.2 2))), ((q_a1 4), .inl (cs 0, 3, .inl (d_a1.2 4))), ((q_a1 5), .inl (cs 0, 3, .inl (d_a1.2 5))), oX0 h_a2 q_a2 (d_a2.1), ((q_a2 1), .inl (cs 0, 6, .inl (d_a2.2 1))), ((q_a2 2), .inl (cs 0, 6, .inl (d_a2.2 2))), ((q_a2 3), .inl (cs 0, 6, .inl (d_a2.2 3))), ((q_a2 4), .inl (cs 0, 6, .inl (d_a2.2 4))), oX1 h_a3 q_a3 (d_a3.1), ((q_a3 1), .inl (cs 0, 12, .inl (d_a3.2 1))), ((q_a3 2), .inl (cs 0, 12, .inl (d_a3.2 2))), ((q_a3 3), .inl (cs 0, 12, .inl (d_a3.2 3)))] := hD
  refine lv_aload_n hx hb dX3_search_5 rfl (lv_at hl 0 rfl) ?_
  refine lv_iconst (v := 0) hx hb dX3_search_6 rfl ?_
  refine va_put (D := D) (ci := 3) (v := .int 0) (ty := tyX3 3) (C := RX3) (T := TX3) (N := 4) hx hb hT iX3 tyX3 tyX3_ok nmX3 hown hK hP hD hS 0 rfl rfl 3 (by decide) (hT _ fw_X3_22) (fun _ h9 => h9) rfl (tyX3_ok 3 (by decide)) rfl rfl (Nat.le_of_ble_eq_true rfl) dX3_search_7 (fun H locs hP hD hS => ?_)
  replace hP : va_P D vwCl [oX3 h_t q_t (upd (upd d_t.1 2 (-1)) 3 0), ((q_t 0), .inl (cs 0, 6, .inl (d_t.2 0))), ((q_t 1), .inl (cs 0, 6, .inl (d_t.2 1))), oX4 h_a1 q_a1 (d_a1.1), ((q_a1 1), .inl (cs 0, 6, .inl (d_a1.2 1))), ((q_a1 2), .inl (cs 0, 6, .inl (d_a1.2 2))), ((q_a1 4), .inl (cs 0, 3, .inl (d_a1.2 4))), ((q_a1 5), .inl (cs 0, 3, .inl (d_a1.2 5))), oX0 h_a2 q_a2 (d_a2.1), ((q_a2 1), .inl (cs 0, 6, .inl (d_a2.2 1))), ((q_a2 2), .inl (cs 0, 6, .inl (d_a2.2 2))), ((q_a2 3), .inl (cs 0, 6, .inl (d_a2.2 3))), ((q_a2 4), .inl (cs 0, 6, .inl (d_a2.2 4))), oX1 h_a3 q_a3 (d_a3.1), ((q_a3 1), .inl (cs 0, 12, .inl (d_a3.2 1))), ((q_a3 2), .inl (cs 0, 12, .inl (d_a3.2 2))), ((q_a3 3), .inl (cs 0, 12, .inl (d_a3.2 3)))] H := hP
  replace hD : va_D A [oX3 h_t q_t (upd (upd d_t.1 2 (-1)) 3 0), ((q_t 0), .inl (cs 0, 6, .inl (d_t.2 0))), ((q_t 1), .inl (cs 0, 6, .inl (d_t.2 1))), oX4 h_a1 q_a1 (d_a1.1), ((q_a1 1), .inl (cs 0, 6, .inl (d_a1.2 1))), ((q_a1 2), .inl (cs 0, 6, .inl (d_a1.2 2))), ((q_a1 4), .inl (cs 0, 3, .inl (d_a1.2 4))), ((q_a1 5), .inl (cs 0, 3, .inl (d_a1.2 5))), oX0 h_a2 q_a2 (d_a2.1), ((q_a2 1), .inl (cs 0, 6, .inl (d_a2.2 1))), ((q_a2 2), .inl (cs 0, 6, .inl (d_a2.2 2))), ((q_a2 3), .inl (cs 0, 6, .inl (d_a2.2 3))), ((q_a2 4), .inl (cs 0, 6, .inl (d_a2.2 4))), oX1 h_a3 q_a3 (d_a3.1), ((q_a3 1), .inl (cs 0, 12, .inl (d_a3.2 1))), ((q_a3 2), .inl (cs 0, 12, .inl (d_a3.2 2))), ((q_a3 3), .inl (cs 0, 12, .inl (d_a3.2 3)))] := hD
  refine lv_iconst (v := 0) hx hb dX3_search_10 rfl ?_
  refine lv_istore (lv' := [(4, .int 0), (0, .ref h_t), (1, .ref h_a1), (2, .ref h_a2), (3, .ref h_a3)]) hx hb dX3_search_11 hl (by decide) rfl (fun ls hl => ?_)
  refine lv_aload_n hx hb dX3_search_13 rfl (lv_at hl 3 rfl) ?_
  refine va_get (D := D) (ci := 0) (v := .ref (q_a2 2)) (C := RX0) (T := TX0) (N := 10) hx hb hT iX0 hown hK hP 8 rfl rfl 2 (by decide) (hT _ fw_X3_25) (fun _ h9 => h9) rfl dX3_search_14 ?_
  refine lv_iload hx hb dX3_search_17 (lv_at hl 0 rfl) ?_
  refine lv_iconst (v := (-1)) hx hb dX3_search_19 rfl ?_
  obtain ⟨hi, hf⟩ := chk_some hf
  refine va_iast (D := D) hx hb hK hP hD hS 10 0 rfl rfl hi dX3_search_20 (fun H locs hP hD hS => ?_)
  replace hP : va_P D vwCl [oX3 h_t q_t (upd (upd d_t.1 2 (-1)) 3 0), ((q_t 0), .inl (cs 0, 6, .inl (d_t.2 0))), ((q_t 1), .inl (cs 0, 6, .inl (d_t.2 1))), oX4 h_a1 q_a1 (d_a1.1), ((q_a1 1), .inl (cs 0, 6, .inl (d_a1.2 1))), ((q_a1 2), .inl (cs 0, 6, .inl (d_a1.2 2))), ((q_a1 4), .inl (cs 0, 3, .inl (d_a1.2 4))), ((q_a1 5), .inl (cs 0, 3, .inl (d_a1.2 5))), oX0 h_a2 q_a2 (d_a2.1), ((q_a2 1), .inl (cs 0, 6, .inl (d_a2.2 1))), ((q_a2 2), .inl (cs 0, 6, .inl (upd (d_a2.2 2) (0 : Int32).toNatClampNeg (-1)))), ((q_a2 3), .inl (cs 0, 6, .inl (d_a2.2 3))), ((q_a2 4), .inl (cs 0, 6, .inl (d_a2.2 4))), oX1 h_a3 q_a3 (d_a3.1), ((q_a3 1), .inl (cs 0, 12, .inl (d_a3.2 1))), ((q_a3 2), .inl (cs 0, 12, .inl (d_a3.2 2))), ((q_a3 3), .inl (cs 0, 12, .inl (d_a3.2 3)))] H := hP
  replace hD : va_D A [oX3 h_t q_t (upd (upd d_t.1 2 (-1)) 3 0), ((q_t 0), .inl (cs 0, 6, .inl (d_t.2 0))), ((q_t 1), .inl (cs 0, 6, .inl (d_t.2 1))), oX4 h_a1 q_a1 (d_a1.1), ((q_a1 1), .inl (cs 0, 6, .inl (d_a1.2 1))), ((q_a1 2), .inl (cs 0, 6, .inl (d_a1.2 2))), ((q_a1 4), .inl (cs 0, 3, .inl (d_a1.2 4))), ((q_a1 5), .inl (cs 0, 3, .inl (d_a1.2 5))), oX0 h_a2 q_a2 (d_a2.1), ((q_a2 1), .inl (cs 0, 6, .inl (d_a2.2 1))), ((q_a2 2), .inl (cs 0, 6, .inl (upd (d_a2.2 2) (0 : Int32).toNatClampNeg (-1)))), ((q_a2 3), .inl (cs 0, 6, .inl (d_a2.2 3))), ((q_a2 4), .inl (cs 0, 6, .inl (d_a2.2 4))), oX1 h_a3 q_a3 (d_a3.1), ((q_a3 1), .inl (cs 0, 12, .inl (d_a3.2 1))), ((q_a3 2), .inl (cs 0, 12, .inl (d_a3.2 2))), ((q_a3 3), .inl (cs 0, 12, .inl (d_a3.2 3)))] := hD
  refine lv_iconst (v := 0) hx hb dX3_search_21 rfl ?_
  refine lv_istore (lv' := [(5, .int 0), (4, .int 0), (0, .ref h_t), (1, .ref h_a1), (2, .ref h_a2), (3, .ref h_a3)]) hx hb dX3_search_22 hl (by decide) rfl (fun ls hl => ?_)
  refine mX3_search_B24 h_t h_a1 h_a2 h_a3 q_t q_a1 q_a2 q_a3 k ((upd (upd d_t.1 2 (-1)) 3 0), d_t.2) d_a1 (d_a2.1, (va_up d_a2.2 2 (upd (d_a2.2 2) (0 : Int32).toNatClampNeg (-1)))) d_a3 _ M hA hR (fun w1 hf H locs ls hP hD hS hl => ?_) _ _ hf _ _ _ hP hD hS (lv_sub hl [2, 3, 4, 5, 1, 0] rfl)
  · have e9 := Option.some.inj hf
    subst e9
    exact hR _ _ _ _ dX3_search_170 hP hS
abbrev rm_X5_weigh : Room := { frames := 4, cells := 0, slots := 0, locals := 98 }
def fX5_weigh_B3 (k : Nat) (d_t : Dat) (K28 : Dat → Option (Dat × Dat)) (rec : Int32 × Dat → Option (Dat × Dat)) (v : Int32 × Dat) : Option (Dat × Dat) :=
  (if (Int32.ofNat 36) ≤ (v.1) then K28 (d_t.1, (va_up d_t.2 0 (v.2.2 0))) else chk 36 (v.1) (rec (((v.1) + 1), (d_t.1, (va_up d_t.2 0 (upd (v.2.2 0) (v.1).toNatClampNeg (-100000)))))))
def fX5_weigh_B63 (k : Nat) (x4 : Int32) (x6 : Int32) (d_t : Dat) (d_a3 : Dat) (K133 : Dat → Option (Dat × Dat)) (rec : Int32 × Dat → Option (Dat × Dat)) (v : Int32 × Dat) : Option (Dat × Dat) :=
  (if (d_a3.1 0) ≤ (v.1) then K133 (d_t.1, (va_up d_t.2 0 (v.2.2 0))) else chk 12 x6 (chk 12 (v.1) (chk 36 ((((d_a3.2 1) x6.toNatClampNeg) * 6) + ((d_a3.2 1) (v.1).toNatClampNeg)) (chk 12 x6 (chk 12 (v.1) (chk 36 ((((d_a3.2 1) x6.toNatClampNeg) * 6) + ((d_a3.2 1) (v.1).toNatClampNeg)) (rec (((v.1) + 1), (d_t.1, (va_up d_t.2 0 (upd (v.2.2 0) ((((d_a3.2 1) x6.toNatClampNeg) * 6) + ((d_a3.2 1) (v.1).toNatClampNeg)).toNatClampNeg (if ((v.2.2 0) ((((d_a3.2 1) x6.toNatClampNeg) * 6) + ((d_a3.2 1) (v.1).toNatClampNeg)).toNatClampNeg) < ((((d_a3.2 2) x6.toNatClampNeg) - ((d_a3.2 2) (v.1).toNatClampNeg)) - x4) then ((((d_a3.2 2) x6.toNatClampNeg) - ((d_a3.2 2) (v.1).toNatClampNeg)) - x4) else ((v.2.2 0) ((((d_a3.2 1) x6.toNatClampNeg) * 6) + ((d_a3.2 1) (v.1).toNatClampNeg)).toNatClampNeg)))))))))))))
def fX5_weigh_B51 (k : Nat) (x4 : Int32) (d_t : Dat) (d_a3 : Dat) (K139 : Dat → Option (Dat × Dat)) (rec : Int32 × Dat → Option (Dat × Dat)) (v : Int32 × Dat) : Option (Dat × Dat) :=
  (if (d_a3.1 0) ≤ (v.1) then K139 (d_t.1, (va_up d_t.2 0 (v.2.2 0))) else lp (fX5_weigh_B63 k x4 (v.1) (d_t.1, (va_up d_t.2 0 (v.2.2 0))) d_a3 (fun (w3 : Dat) => rec (((v.1) + 1), (d_t.1, (va_up d_t.2 0 (w3.2 0)))))) k (0, (d_t.1, (va_up d_t.2 0 (v.2.2 0)))))
def fX5_weigh_B31 (k : Nat) (x4 : Int32) (d_t : Dat) (d_a1 : Dat) (d_a2 : Dat) (d_a3 : Dat) (K145 : Dat × Dat → Option (Dat × Dat)) (rec : Int32 × Dat × Dat → Option (Dat × Dat)) (v : Int32 × Dat × Dat) : Option (Dat × Dat) :=
  (if (d_a1.1 3) ≤ (v.1) then K145 ((d_t.1, (va_up d_t.2 0 (v.2.1.2 0))), (v.2.2.1, (va_up (va_up (va_up d_a3.2 1 (v.2.2.2 1)) 2 (v.2.2.2 2)) 3 (v.2.2.2 3)))) else (fX1_listen k (v.2.2.1, (va_up (va_up (va_up d_a3.2 1 (v.2.2.2 1)) 2 (v.2.2.2 2)) 3 (v.2.2.2 3))) d_a1 d_a2 (v.1)).bind (fun (r3 : Dat) => lp (fX5_weigh_B51 k x4 (d_t.1, (va_up d_t.2 0 (v.2.1.2 0))) (r3.1, (va_up (va_up (va_up d_a3.2 1 (r3.2 1)) 2 (r3.2 2)) 3 (r3.2 3))) (fun (w5 : Dat) => rec (((v.1) + 1), (d_t.1, (va_up d_t.2 0 (w5.2 0))), (r3.1, (va_up (va_up (va_up d_a3.2 1 (r3.2 1)) 2 (r3.2 2)) 3 (r3.2 3)))))) k (0, (d_t.1, (va_up d_t.2 0 (v.2.1.2 0))))))
def fX5_weigh (k : Nat) (d_t : Dat) (d_a1 : Dat) (d_a2 : Dat) (d_a3 : Dat) (x4 : Int32) : Option (Dat × Dat) :=
  lp (fX5_weigh_B3 k d_t (fun (w1 : Dat) => lp (fX5_weigh_B31 k x4 (d_t.1, (va_up d_t.2 0 (w1.2 0))) d_a1 d_a2 d_a3 (fun (w2 : Dat × Dat) => some ((d_t.1, (va_up d_t.2 0 (w2.1.2 0))), (w2.2.1, (va_up (va_up (va_up d_a3.2 1 (w2.2.2 1)) 2 (w2.2.2 2)) 3 (w2.2.2 3)))))) k (0, (d_t.1, (va_up d_t.2 0 (w1.2 0))), d_a3))) k (0, d_t)
set_option maxHeartbeats 4000000 in
set_option maxRecDepth 100000 in
theorem mX5_weigh_B3 {l : Launch} {p : Program} {e : Env} {s : State} {m : MethodId} {args : Array Value} {below : List Frame} {meth : Method} {c : Code} {D : va_G} {cs : Nat → ClassId} {sk : Nat → Nat} {A : Nat → Prop} {Q : State → Prop} (h_t : Nat) (h_a1 : Nat) (h_a2 : Nat) (h_a3 : Nat) (q_t : Nat → Nat) (q_a1 : Nat → Nat) (q_a2 : Nat → Nat) (q_a3 : Nat → Nat) (k : Nat) (x4 : Int32) (d_t : Dat) (d_a1 : Dat) (d_a2 : Dat) (d_a3 : Dat) {rv : Dat × Dat}  (K28 : Dat → Option (Dat × Dat))
    (M : MC p s m args meth c D cs sk A RX5 cX5_weigh 9 none) (hA : ∀ q, s.heap.size ≤ q → A q) (hR : RetV p l e rm_X5_weigh s m args below meth c D cX5_weigh A Q [oX5 h_t q_t (d_t.1), ((q_t 0), .inl (cs 0, 36, .inl (rv.1.2 0))), oX4 h_a1 q_a1 (d_a1.1), ((q_a1 1), .inl (cs 0, 6, .inl (d_a1.2 1))), ((q_a1 2), .inl (cs 0, 6, .inl (d_a1.2 2))), ((q_a1 4), .inl (cs 0, 3, .inl (d_a1.2 4))), ((q_a1 5), .inl (cs 0, 3, .inl (d_a1.2 5))), oX0 h_a2 q_a2 (d_a2.1), ((q_a2 1), .inl (cs 0, 6, .inl (d_a2.2 1))), ((q_a2 2), .inl (cs 0, 6, .inl (d_a2.2 2))), ((q_a2 3), .inl (cs 0, 6, .inl (d_a2.2 3))), oX1 h_a3 q_a3 (rv.2.1), ((q_a3 1), .inl (cs 0, 12, .inl (rv.2.2 1))), ((q_a3 2), .inl (cs 0, 12, .inl (rv.2.2 2))), ((q_a3 3), .inl (cs 0, 12, .inl (rv.2.2 3)))])
    (hK28 : ∀ (w : Dat), K28 w = some rv → ∀ (H : Heap) (locs : List Loc) (ls : Array Slot), va_P D vwCl [oX5 h_t q_t (d_t.1), ((q_t 0), .inl (cs 0, 36, .inl (w.2 0))), oX4 h_a1 q_a1 (d_a1.1), ((q_a1 1), .inl (cs 0, 6, .inl (d_a1.2 1))), ((q_a1 2), .inl (cs 0, 6, .inl (d_a1.2 2))), ((q_a1 4), .inl (cs 0, 3, .inl (d_a1.2 4))), ((q_a1 5), .inl (cs 0, 3, .inl (d_a1.2 5))), oX0 h_a2 q_a2 (d_a2.1), ((q_a2 1), .inl (cs 0, 6, .inl (d_a2.2 1))), ((q_a2 2), .inl (cs 0, 6, .inl (d_a2.2 2))), ((q_a2 3), .inl (cs 0, 6, .inl (d_a2.2 3))), oX1 h_a3 q_a3 (d_a3.1), ((q_a3 1), .inl (cs 0, 12, .inl (d_a3.2 1))), ((q_a3 2), .inl (cs 0, 12, .inl (d_a3.2 2))), ((q_a3 3), .inl (cs 0, 12, .inl (d_a3.2 3)))] H → va_D A [oX5 h_t q_t (d_t.1), ((q_t 0), .inl (cs 0, 36, .inl (w.2 0))), oX4 h_a1 q_a1 (d_a1.1), ((q_a1 1), .inl (cs 0, 6, .inl (d_a1.2 1))), ((q_a1 2), .inl (cs 0, 6, .inl (d_a1.2 2))), ((q_a1 4), .inl (cs 0, 3, .inl (d_a1.2 4))), ((q_a1 5), .inl (cs 0, 3, .inl (d_a1.2 5))), oX0 h_a2 q_a2 (d_a2.1), ((q_a2 1), .inl (cs 0, 6, .inl (d_a2.2 1))), ((q_a2 2), .inl (cs 0, 6, .inl (d_a2.2 2))), ((q_a2 3), .inl (cs 0, 6, .inl (d_a2.2 3))), oX1 h_a3 q_a3 (d_a3.1), ((q_a3 1), .inl (cs 0, 12, .inl (d_a3.2 1))), ((q_a3 2), .inl (cs 0, 12, .inl (d_a3.2 2))), ((q_a3 3), .inl (cs 0, 12, .inl (d_a3.2 3)))] → va_S A s.heap H locs → lv_has ls 9 [(0, .ref h_t), (1, .ref h_a1), (2, .ref h_a2), (3, .ref h_a3), (4, .int x4)] → W p l e rm_X5_weigh s m args below meth c H locs 0 0 Q (F0 m 28 ls []))
    : ∀ (n : Nat) (v : Int32 × Dat), lp (fX5_weigh_B3 k d_t K28) n v = some rv → ∀ (H : Heap) (locs : List Loc) (ls : Array Slot), va_P D vwCl [oX5 h_t q_t (d_t.1), ((q_t 0), .inl (cs 0, 36, .inl (v.2.2 0))), oX4 h_a1 q_a1 (d_a1.1), ((q_a1 1), .inl (cs 0, 6, .inl (d_a1.2 1))), ((q_a1 2), .inl (cs 0, 6, .inl (d_a1.2 2))), ((q_a1 4), .inl (cs 0, 3, .inl (d_a1.2 4))), ((q_a1 5), .inl (cs 0, 3, .inl (d_a1.2 5))), oX0 h_a2 q_a2 (d_a2.1), ((q_a2 1), .inl (cs 0, 6, .inl (d_a2.2 1))), ((q_a2 2), .inl (cs 0, 6, .inl (d_a2.2 2))), ((q_a2 3), .inl (cs 0, 6, .inl (d_a2.2 3))), oX1 h_a3 q_a3 (d_a3.1), ((q_a3 1), .inl (cs 0, 12, .inl (d_a3.2 1))), ((q_a3 2), .inl (cs 0, 12, .inl (d_a3.2 2))), ((q_a3 3), .inl (cs 0, 12, .inl (d_a3.2 3)))] H → va_D A [oX5 h_t q_t (d_t.1), ((q_t 0), .inl (cs 0, 36, .inl (v.2.2 0))), oX4 h_a1 q_a1 (d_a1.1), ((q_a1 1), .inl (cs 0, 6, .inl (d_a1.2 1))), ((q_a1 2), .inl (cs 0, 6, .inl (d_a1.2 2))), ((q_a1 4), .inl (cs 0, 3, .inl (d_a1.2 4))), ((q_a1 5), .inl (cs 0, 3, .inl (d_a1.2 5))), oX0 h_a2 q_a2 (d_a2.1), ((q_a2 1), .inl (cs 0, 6, .inl (d_a2.2 1))), ((q_a2 2), .inl (cs 0, 6, .inl (d_a2.2 2))), ((q_a2 3), .inl (cs 0, 6, .inl (d_a2.2 3))), oX1 h_a3 q_a3 (d_a3.1), ((q_a3 1), .inl (cs 0, 12, .inl (d_a3.2 1))), ((q_a3 2), .inl (cs 0, 12, .inl (d_a3.2 2))), ((q_a3 3), .inl (cs 0, 12, .inl (d_a3.2 3)))] → va_S A s.heap H locs → lv_has ls 9 [(0, .ref h_t), (1, .ref h_a1), (2, .ref h_a2), (3, .ref h_a3), (4, .int x4), (5, .int (v.1))] → W p l e rm_X5_weigh s m args below meth c H locs 0 0 Q (F0 m 3 ls []) := by
  obtain ⟨hx, hb, hml, hT, hown, hlk, hrt, hK, hN, hSE⟩ := id M
  refine lp_ind (fun rec ih v hf H locs ls hP hD hS hl => ?_)
  unfold fX5_weigh_B3 at hf
  refine lv_iload hx hb dX5_weigh_3 (lv_at hl 5 rfl) ?_
  refine lv_aload_n hx hb dX5_weigh_5 rfl (lv_at hl 0 rfl) ?_
  refine va_get (D := D) (ci := 5) (v := .ref (q_t 0)) (C := RX5) (T := TX5) (N := 2) hx hb hT iX5 hown hK hP 0 rfl rfl 0 (by decide) (hT _ fw_X5_9) (fun _ h9 => h9) rfl dX5_weigh_6 ?_
  refine va_alen (D := D) (v := (Int32.ofNat 36)) hx hb hK hP 1 0 rfl rfl rfl dX5_weigh_9 ?_
  have g2 := ite_some hf
  refine lv_icmp_ge (tgt := 28) hx hb dX5_weigh_10 (by decide) (fun c1 => ?_) (fun c1 => ?_)
  · replace hf := g2.1 c1
    exact hK28 _ hf _ _ _ hP hD hS (lv_sub hl [0, 1, 2, 3, 4] rfl)
  · replace hf := g2.2 c1
    refine lv_aload_n hx hb dX5_weigh_13 rfl (lv_at hl 0 rfl) ?_
    refine va_get (D := D) (ci := 5) (v := .ref (q_t 0)) (C := RX5) (T := TX5) (N := 2) hx hb hT iX5 hown hK hP 0 rfl rfl 0 (by decide) (hT _ fw_X5_9) (fun _ h9 => h9) rfl dX5_weigh_14 ?_
    refine lv_iload hx hb dX5_weigh_17 (lv_at hl 5 rfl) ?_
    refine lv_ldc (v := (-100000)) hx hb hown (hT _ kw_X5_18) dX5_weigh_19 ?_
    obtain ⟨hi, hf⟩ := chk_some hf
    refine va_iast (D := D) hx hb hK hP hD hS 1 0 rfl rfl hi dX5_weigh_21 (fun H locs hP hD hS => ?_)
    replace hP : va_P D vwCl [oX5 h_t q_t (d_t.1), ((q_t 0), .inl (cs 0, 36, .inl (upd (v.2.2 0) (v.1).toNatClampNeg (-100000)))), oX4 h_a1 q_a1 (d_a1.1), ((q_a1 1), .inl (cs 0, 6, .inl (d_a1.2 1))), ((q_a1 2), .inl (cs 0, 6, .inl (d_a1.2 2))), ((q_a1 4), .inl (cs 0, 3, .inl (d_a1.2 4))), ((q_a1 5), .inl (cs 0, 3, .inl (d_a1.2 5))), oX0 h_a2 q_a2 (d_a2.1), ((q_a2 1), .inl (cs 0, 6, .inl (d_a2.2 1))), ((q_a2 2), .inl (cs 0, 6, .inl (d_a2.2 2))), ((q_a2 3), .inl (cs 0, 6, .inl (d_a2.2 3))), oX1 h_a3 q_a3 (d_a3.1), ((q_a3 1), .inl (cs 0, 12, .inl (d_a3.2 1))), ((q_a3 2), .inl (cs 0, 12, .inl (d_a3.2 2))), ((q_a3 3), .inl (cs 0, 12, .inl (d_a3.2 3)))] H := hP
    replace hD : va_D A [oX5 h_t q_t (d_t.1), ((q_t 0), .inl (cs 0, 36, .inl (upd (v.2.2 0) (v.1).toNatClampNeg (-100000)))), oX4 h_a1 q_a1 (d_a1.1), ((q_a1 1), .inl (cs 0, 6, .inl (d_a1.2 1))), ((q_a1 2), .inl (cs 0, 6, .inl (d_a1.2 2))), ((q_a1 4), .inl (cs 0, 3, .inl (d_a1.2 4))), ((q_a1 5), .inl (cs 0, 3, .inl (d_a1.2 5))), oX0 h_a2 q_a2 (d_a2.1), ((q_a2 1), .inl (cs 0, 6, .inl (d_a2.2 1))), ((q_a2 2), .inl (cs 0, 6, .inl (d_a2.2 2))), ((q_a2 3), .inl (cs 0, 6, .inl (d_a2.2 3))), oX1 h_a3 q_a3 (d_a3.1), ((q_a3 1), .inl (cs 0, 12, .inl (d_a3.2 1))), ((q_a3 2), .inl (cs 0, 12, .inl (d_a3.2 2))), ((q_a3 3), .inl (cs 0, 12, .inl (d_a3.2 3)))] := hD
    refine lv_iinc (v := ((v.1) + 1)) (lv' := [(5, .int ((v.1) + 1)), (0, .ref h_t), (1, .ref h_a1), (2, .ref h_a2), (3, .ref h_a3), (4, .int x4)]) hx hb dX5_weigh_22 hl (k := 5) rfl rfl (by decide) rfl (fun ls hl => ?_)
    refine lv_goto (tgt := 3) hx hb dX5_weigh_25 (by decide) ?_
    exact ih _ hf _ _ _ hP hD hS (lv_sub hl [1, 2, 3, 4, 5, 0] rfl)
set_option maxHeartbeats 4000000 in
set_option maxRecDepth 100000 in
theorem mX5_weigh_B63 {l : Launch} {p : Program} {e : Env} {s : State} {m : MethodId} {args : Array Value} {below : List Frame} {meth : Method} {c : Code} {D : va_G} {cs : Nat → ClassId} {sk : Nat → Nat} {A : Nat → Prop} {Q : State → Prop} (h_t : Nat) (h_a1 : Nat) (h_a2 : Nat) (h_a3 : Nat) (q_t : Nat → Nat) (q_a1 : Nat → Nat) (q_a2 : Nat → Nat) (q_a3 : Nat → Nat) (k : Nat) (x4 : Int32) (x5 : Int32) (x6 : Int32) (d_t : Dat) (d_a1 : Dat) (d_a2 : Dat) (d_a3 : Dat) {rv : Dat × Dat}  (K133 : Dat → Option (Dat × Dat))
    (M : MC p s m args meth c D cs sk A RX5 cX5_weigh 9 none) (hA : ∀ q, s.heap.size ≤ q → A q) (hR : RetV p l e rm_X5_weigh s m args below meth c D cX5_weigh A Q [oX5 h_t q_t (d_t.1), ((q_t 0), .inl (cs 0, 36, .inl (rv.1.2 0))), oX4 h_a1 q_a1 (d_a1.1), ((q_a1 1), .inl (cs 0, 6, .inl (d_a1.2 1))), ((q_a1 2), .inl (cs 0, 6, .inl (d_a1.2 2))), ((q_a1 4), .inl (cs 0, 3, .inl (d_a1.2 4))), ((q_a1 5), .inl (cs 0, 3, .inl (d_a1.2 5))), oX0 h_a2 q_a2 (d_a2.1), ((q_a2 1), .inl (cs 0, 6, .inl (d_a2.2 1))), ((q_a2 2), .inl (cs 0, 6, .inl (d_a2.2 2))), ((q_a2 3), .inl (cs 0, 6, .inl (d_a2.2 3))), oX1 h_a3 q_a3 (rv.2.1), ((q_a3 1), .inl (cs 0, 12, .inl (rv.2.2 1))), ((q_a3 2), .inl (cs 0, 12, .inl (rv.2.2 2))), ((q_a3 3), .inl (cs 0, 12, .inl (rv.2.2 3)))])
    (hK133 : ∀ (w : Dat), K133 w = some rv → ∀ (H : Heap) (locs : List Loc) (ls : Array Slot), va_P D vwCl [oX5 h_t q_t (d_t.1), ((q_t 0), .inl (cs 0, 36, .inl (w.2 0))), oX4 h_a1 q_a1 (d_a1.1), ((q_a1 1), .inl (cs 0, 6, .inl (d_a1.2 1))), ((q_a1 2), .inl (cs 0, 6, .inl (d_a1.2 2))), ((q_a1 4), .inl (cs 0, 3, .inl (d_a1.2 4))), ((q_a1 5), .inl (cs 0, 3, .inl (d_a1.2 5))), oX0 h_a2 q_a2 (d_a2.1), ((q_a2 1), .inl (cs 0, 6, .inl (d_a2.2 1))), ((q_a2 2), .inl (cs 0, 6, .inl (d_a2.2 2))), ((q_a2 3), .inl (cs 0, 6, .inl (d_a2.2 3))), oX1 h_a3 q_a3 (d_a3.1), ((q_a3 1), .inl (cs 0, 12, .inl (d_a3.2 1))), ((q_a3 2), .inl (cs 0, 12, .inl (d_a3.2 2))), ((q_a3 3), .inl (cs 0, 12, .inl (d_a3.2 3)))] H → va_D A [oX5 h_t q_t (d_t.1), ((q_t 0), .inl (cs 0, 36, .inl (w.2 0))), oX4 h_a1 q_a1 (d_a1.1), ((q_a1 1), .inl (cs 0, 6, .inl (d_a1.2 1))), ((q_a1 2), .inl (cs 0, 6, .inl (d_a1.2 2))), ((q_a1 4), .inl (cs 0, 3, .inl (d_a1.2 4))), ((q_a1 5), .inl (cs 0, 3, .inl (d_a1.2 5))), oX0 h_a2 q_a2 (d_a2.1), ((q_a2 1), .inl (cs 0, 6, .inl (d_a2.2 1))), ((q_a2 2), .inl (cs 0, 6, .inl (d_a2.2 2))), ((q_a2 3), .inl (cs 0, 6, .inl (d_a2.2 3))), oX1 h_a3 q_a3 (d_a3.1), ((q_a3 1), .inl (cs 0, 12, .inl (d_a3.2 1))), ((q_a3 2), .inl (cs 0, 12, .inl (d_a3.2 2))), ((q_a3 3), .inl (cs 0, 12, .inl (d_a3.2 3)))] → va_S A s.heap H locs → lv_has ls 9 [(0, .ref h_t), (1, .ref h_a1), (2, .ref h_a2), (3, .ref h_a3), (4, .int x4), (5, .int x5), (6, .int x6)] → W p l e rm_X5_weigh s m args below meth c H locs 0 0 Q (F0 m 133 ls []))
    : ∀ (n : Nat) (v : Int32 × Dat), lp (fX5_weigh_B63 k x4 x6 d_t d_a3 K133) n v = some rv → ∀ (H : Heap) (locs : List Loc) (ls : Array Slot), va_P D vwCl [oX5 h_t q_t (d_t.1), ((q_t 0), .inl (cs 0, 36, .inl (v.2.2 0))), oX4 h_a1 q_a1 (d_a1.1), ((q_a1 1), .inl (cs 0, 6, .inl (d_a1.2 1))), ((q_a1 2), .inl (cs 0, 6, .inl (d_a1.2 2))), ((q_a1 4), .inl (cs 0, 3, .inl (d_a1.2 4))), ((q_a1 5), .inl (cs 0, 3, .inl (d_a1.2 5))), oX0 h_a2 q_a2 (d_a2.1), ((q_a2 1), .inl (cs 0, 6, .inl (d_a2.2 1))), ((q_a2 2), .inl (cs 0, 6, .inl (d_a2.2 2))), ((q_a2 3), .inl (cs 0, 6, .inl (d_a2.2 3))), oX1 h_a3 q_a3 (d_a3.1), ((q_a3 1), .inl (cs 0, 12, .inl (d_a3.2 1))), ((q_a3 2), .inl (cs 0, 12, .inl (d_a3.2 2))), ((q_a3 3), .inl (cs 0, 12, .inl (d_a3.2 3)))] H → va_D A [oX5 h_t q_t (d_t.1), ((q_t 0), .inl (cs 0, 36, .inl (v.2.2 0))), oX4 h_a1 q_a1 (d_a1.1), ((q_a1 1), .inl (cs 0, 6, .inl (d_a1.2 1))), ((q_a1 2), .inl (cs 0, 6, .inl (d_a1.2 2))), ((q_a1 4), .inl (cs 0, 3, .inl (d_a1.2 4))), ((q_a1 5), .inl (cs 0, 3, .inl (d_a1.2 5))), oX0 h_a2 q_a2 (d_a2.1), ((q_a2 1), .inl (cs 0, 6, .inl (d_a2.2 1))), ((q_a2 2), .inl (cs 0, 6, .inl (d_a2.2 2))), ((q_a2 3), .inl (cs 0, 6, .inl (d_a2.2 3))), oX1 h_a3 q_a3 (d_a3.1), ((q_a3 1), .inl (cs 0, 12, .inl (d_a3.2 1))), ((q_a3 2), .inl (cs 0, 12, .inl (d_a3.2 2))), ((q_a3 3), .inl (cs 0, 12, .inl (d_a3.2 3)))] → va_S A s.heap H locs → lv_has ls 9 [(0, .ref h_t), (1, .ref h_a1), (2, .ref h_a2), (3, .ref h_a3), (4, .int x4), (5, .int x5), (6, .int x6), (7, .int (v.1))] → W p l e rm_X5_weigh s m args below meth c H locs 0 0 Q (F0 m 63 ls []) := by
  obtain ⟨hx, hb, hml, hT, hown, hlk, hrt, hK, hN, hSE⟩ := id M
  refine lp_ind (fun rec ih v hf H locs ls hP hD hS hl => ?_)
  unfold fX5_weigh_B63 at hf
  refine lv_iload hx hb dX5_weigh_63 (lv_at hl 7 rfl) ?_
  refine lv_aload_n hx hb dX5_weigh_65 rfl (lv_at hl 3 rfl) ?_
  refine va_get (D := D) (ci := 1) (v := .int (d_a3.1 0)) (C := RX1) (T := TX1) (N := 4) hx hb hT iX1 hown hK hP 11 rfl rfl 0 (by decide) (hT _ fw_X5_31) (fun _ h9 => h9) rfl dX5_weigh_66 ?_
  have g2 := ite_some hf
  refine lv_icmp_ge (tgt := 133) hx hb dX5_weigh_69 (by decide) (fun c1 => ?_) (fun c1 => ?_)
  · replace hf := g2.1 c1
    exact hK133 _ hf _ _ _ hP hD hS (lv_sub hl [0, 1, 2, 3, 4, 5, 6] rfl)
  · replace hf := g2.2 c1
    refine lv_aload_n hx hb dX5_weigh_72 rfl (lv_at hl 3 rfl) ?_
    refine va_get (D := D) (ci := 1) (v := .ref (q_a3 1)) (C := RX1) (T := TX1) (N := 4) hx hb hT iX1 hown hK hP 11 rfl rfl 1 (by decide) (hT _ fw_X5_34) (fun _ h9 => h9) rfl dX5_weigh_73 ?_
    refine lv_iload hx hb dX5_weigh_76 (lv_at hl 6 rfl) ?_
    obtain ⟨hi, hf⟩ := chk_some hf
    refine va_iald (D := D) hx hb hK hP 12 0 rfl rfl hi dX5_weigh_78 ?_
    refine lv_bipush (v := 6) hx hb dX5_weigh_79 rfl ?_
    refine lv_imul hx hb dX5_weigh_81 ?_
    refine lv_aload_n hx hb dX5_weigh_82 rfl (lv_at hl 3 rfl) ?_
    refine va_get (D := D) (ci := 1) (v := .ref (q_a3 1)) (C := RX1) (T := TX1) (N := 4) hx hb hT iX1 hown hK hP 11 rfl rfl 1 (by decide) (hT _ fw_X5_34) (fun _ h9 => h9) rfl dX5_weigh_83 ?_
    refine lv_iload hx hb dX5_weigh_86 (lv_at hl 7 rfl) ?_
    obtain ⟨hi, hf⟩ := chk_some hf
    refine va_iald (D := D) hx hb hK hP 12 0 rfl rfl hi dX5_weigh_88 ?_
    refine lv_iadd hx hb dX5_weigh_89 ?_
    refine lv_istore (lv' := [(8, .int ((((d_a3.2 1) x6.toNatClampNeg) * 6) + ((d_a3.2 1) (v.1).toNatClampNeg))), (0, .ref h_t), (1, .ref h_a1), (2, .ref h_a2), (3, .ref h_a3), (4, .int x4), (5, .int x5), (6, .int x6), (7, .int (v.1))]) hx hb dX5_weigh_90 hl (by decide) rfl (fun ls hl => ?_)
    refine lv_aload_n hx hb dX5_weigh_92 rfl (lv_at hl 1 rfl) ?_
    refine va_get (D := D) (ci := 5) (v := .ref (q_t 0)) (C := RX5) (T := TX5) (N := 2) hx hb hT iX5 hown hK hP 0 rfl rfl 0 (by decide) (hT _ fw_X5_9) (fun _ h9 => h9) rfl dX5_weigh_93 ?_
    refine lv_iload hx hb dX5_weigh_96 (lv_at hl 0 rfl) ?_
    refine lv_aload_n hx hb dX5_weigh_98 rfl (lv_at hl 1 rfl) ?_
    refine va_get (D := D) (ci := 5) (v := .ref (q_t 0)) (C := RX5) (T := TX5) (N := 2) hx hb hT iX5 hown hK hP 0 rfl rfl 0 (by decide) (hT _ fw_X5_9) (fun _ h9 => h9) rfl dX5_weigh_99 ?_
    refine lv_iload hx hb dX5_weigh_102 (lv_at hl 0 rfl) ?_
    obtain ⟨hi, hf⟩ := chk_some hf
    refine va_iald (D := D) hx hb hK hP 1 0 rfl rfl hi dX5_weigh_104 ?_
    refine lv_aload_n hx hb dX5_weigh_105 rfl (lv_at hl 4 rfl) ?_
    refine va_get (D := D) (ci := 1) (v := .ref (q_a3 2)) (C := RX1) (T := TX1) (N := 4) hx hb hT iX1 hown hK hP 11 rfl rfl 2 (by decide) (hT _ fw_X5_37) (fun _ h9 => h9) rfl dX5_weigh_106 ?_
    refine lv_iload hx hb dX5_weigh_109 (lv_at hl 7 rfl) ?_
    obtain ⟨hi, hf⟩ := chk_some hf
    refine va_iald (D := D) hx hb hK hP 13 0 rfl rfl hi dX5_weigh_111 ?_
    refine lv_aload_n hx hb dX5_weigh_112 rfl (lv_at hl 4 rfl) ?_
    refine va_get (D := D) (ci := 1) (v := .ref (q_a3 2)) (C := RX1) (T := TX1) (N := 4) hx hb hT iX1 hown hK hP 11 rfl rfl 2 (by decide) (hT _ fw_X5_37) (fun _ h9 => h9) rfl dX5_weigh_113 ?_
    refine lv_iload hx hb dX5_weigh_116 (lv_at hl 8 rfl) ?_
    obtain ⟨hi, hf⟩ := chk_some hf
    refine va_iald (D := D) hx hb hK hP 13 0 rfl rfl hi dX5_weigh_118 ?_
    refine lv_isub hx hb dX5_weigh_119 ?_
    refine lv_iload hx hb dX5_weigh_120 (lv_at hl 5 rfl) ?_
    refine lv_isub hx hb dX5_weigh_122 ?_
    refine va_mmax hx hb (hml.trans hl.1.symm) hown (hT _ jw_X5_40.1) (hT _ jw_X5_40.2.1) (hT _ jw_X5_40.2.2.1) (hT _ jw_X5_40.2.2.2) (Nat.le_of_ble_eq_true rfl) (Nat.le_of_ble_eq_true rfl) (Nat.zero_le _) (Nat.zero_le _) dX5_weigh_123 ?_
    obtain ⟨hi, hf⟩ := chk_some hf
    refine va_iast (D := D) hx hb hK hP hD hS 1 0 rfl rfl hi dX5_weigh_126 (fun H locs hP hD hS => ?_)
    replace hP : va_P D vwCl [oX5 h_t q_t (d_t.1), ((q_t 0), .inl (cs 0, 36, .inl (upd (v.2.2 0) ((((d_a3.2 1) x6.toNatClampNeg) * 6) + ((d_a3.2 1) (v.1).toNatClampNeg)).toNatClampNeg (if ((v.2.2 0) ((((d_a3.2 1) x6.toNatClampNeg) * 6) + ((d_a3.2 1) (v.1).toNatClampNeg)).toNatClampNeg) < ((((d_a3.2 2) x6.toNatClampNeg) - ((d_a3.2 2) (v.1).toNatClampNeg)) - x4) then ((((d_a3.2 2) x6.toNatClampNeg) - ((d_a3.2 2) (v.1).toNatClampNeg)) - x4) else ((v.2.2 0) ((((d_a3.2 1) x6.toNatClampNeg) * 6) + ((d_a3.2 1) (v.1).toNatClampNeg)).toNatClampNeg))))), oX4 h_a1 q_a1 (d_a1.1), ((q_a1 1), .inl (cs 0, 6, .inl (d_a1.2 1))), ((q_a1 2), .inl (cs 0, 6, .inl (d_a1.2 2))), ((q_a1 4), .inl (cs 0, 3, .inl (d_a1.2 4))), ((q_a1 5), .inl (cs 0, 3, .inl (d_a1.2 5))), oX0 h_a2 q_a2 (d_a2.1), ((q_a2 1), .inl (cs 0, 6, .inl (d_a2.2 1))), ((q_a2 2), .inl (cs 0, 6, .inl (d_a2.2 2))), ((q_a2 3), .inl (cs 0, 6, .inl (d_a2.2 3))), oX1 h_a3 q_a3 (d_a3.1), ((q_a3 1), .inl (cs 0, 12, .inl (d_a3.2 1))), ((q_a3 2), .inl (cs 0, 12, .inl (d_a3.2 2))), ((q_a3 3), .inl (cs 0, 12, .inl (d_a3.2 3)))] H := hP
    replace hD : va_D A [oX5 h_t q_t (d_t.1), ((q_t 0), .inl (cs 0, 36, .inl (upd (v.2.2 0) ((((d_a3.2 1) x6.toNatClampNeg) * 6) + ((d_a3.2 1) (v.1).toNatClampNeg)).toNatClampNeg (if ((v.2.2 0) ((((d_a3.2 1) x6.toNatClampNeg) * 6) + ((d_a3.2 1) (v.1).toNatClampNeg)).toNatClampNeg) < ((((d_a3.2 2) x6.toNatClampNeg) - ((d_a3.2 2) (v.1).toNatClampNeg)) - x4) then ((((d_a3.2 2) x6.toNatClampNeg) - ((d_a3.2 2) (v.1).toNatClampNeg)) - x4) else ((v.2.2 0) ((((d_a3.2 1) x6.toNatClampNeg) * 6) + ((d_a3.2 1) (v.1).toNatClampNeg)).toNatClampNeg))))), oX4 h_a1 q_a1 (d_a1.1), ((q_a1 1), .inl (cs 0, 6, .inl (d_a1.2 1))), ((q_a1 2), .inl (cs 0, 6, .inl (d_a1.2 2))), ((q_a1 4), .inl (cs 0, 3, .inl (d_a1.2 4))), ((q_a1 5), .inl (cs 0, 3, .inl (d_a1.2 5))), oX0 h_a2 q_a2 (d_a2.1), ((q_a2 1), .inl (cs 0, 6, .inl (d_a2.2 1))), ((q_a2 2), .inl (cs 0, 6, .inl (d_a2.2 2))), ((q_a2 3), .inl (cs 0, 6, .inl (d_a2.2 3))), oX1 h_a3 q_a3 (d_a3.1), ((q_a3 1), .inl (cs 0, 12, .inl (d_a3.2 1))), ((q_a3 2), .inl (cs 0, 12, .inl (d_a3.2 2))), ((q_a3 3), .inl (cs 0, 12, .inl (d_a3.2 3)))] := hD
    refine lv_iinc (v := ((v.1) + 1)) (lv' := [(7, .int ((v.1) + 1)), (8, .int ((((d_a3.2 1) x6.toNatClampNeg) * 6) + ((d_a3.2 1) (v.1).toNatClampNeg))), (0, .ref h_t), (1, .ref h_a1), (2, .ref h_a2), (3, .ref h_a3), (4, .int x4), (5, .int x5), (6, .int x6)]) hx hb dX5_weigh_127 hl (k := 8) rfl rfl (by decide) rfl (fun ls hl => ?_)
    refine lv_goto (tgt := 63) hx hb dX5_weigh_130 (by decide) ?_
    exact ih _ hf _ _ _ hP hD hS (lv_sub hl [2, 3, 4, 5, 6, 7, 8, 0] rfl)
set_option maxHeartbeats 4000000 in
set_option maxRecDepth 100000 in
theorem mX5_weigh_B51 {l : Launch} {p : Program} {e : Env} {s : State} {m : MethodId} {args : Array Value} {below : List Frame} {meth : Method} {c : Code} {D : va_G} {cs : Nat → ClassId} {sk : Nat → Nat} {A : Nat → Prop} {Q : State → Prop} (h_t : Nat) (h_a1 : Nat) (h_a2 : Nat) (h_a3 : Nat) (q_t : Nat → Nat) (q_a1 : Nat → Nat) (q_a2 : Nat → Nat) (q_a3 : Nat → Nat) (k : Nat) (x4 : Int32) (x5 : Int32) (d_t : Dat) (d_a1 : Dat) (d_a2 : Dat) (d_a3 : Dat) {rv : Dat × Dat}  (K139 : Dat → Option (Dat × Dat))
    (M : MC p s m args meth c D cs sk A RX5 cX5_weigh 9 none) (hA : ∀ q, s.heap.size ≤ q → A q) (hR : RetV p l e rm_X5_weigh s m args below meth c D cX5_weigh A Q [oX5 h_t q_t (d_t.1), ((q_t 0), .inl (cs 0, 36, .inl (rv.1.2 0))), oX4 h_a1 q_a1 (d_a1.1), ((q_a1 1), .inl (cs 0, 6, .inl (d_a1.2 1))), ((q_a1 2), .inl (cs 0, 6, .inl (d_a1.2 2))), ((q_a1 4), .inl (cs 0, 3, .inl (d_a1.2 4))), ((q_a1 5), .inl (cs 0, 3, .inl (d_a1.2 5))), oX0 h_a2 q_a2 (d_a2.1), ((q_a2 1), .inl (cs 0, 6, .inl (d_a2.2 1))), ((q_a2 2), .inl (cs 0, 6, .inl (d_a2.2 2))), ((q_a2 3), .inl (cs 0, 6, .inl (d_a2.2 3))), oX1 h_a3 q_a3 (rv.2.1), ((q_a3 1), .inl (cs 0, 12, .inl (rv.2.2 1))), ((q_a3 2), .inl (cs 0, 12, .inl (rv.2.2 2))), ((q_a3 3), .inl (cs 0, 12, .inl (rv.2.2 3)))])
    (hK139 : ∀ (w : Dat), K139 w = some rv → ∀ (H : Heap) (locs : List Loc) (ls : Array Slot), va_P D vwCl [oX5 h_t q_t (d_t.1), ((q_t 0), .inl (cs 0, 36, .inl (w.2 0))), oX4 h_a1 q_a1 (d_a1.1), ((q_a1 1), .inl (cs 0, 6, .inl (d_a1.2 1))), ((q_a1 2), .inl (cs 0, 6, .inl (d_a1.2 2))), ((q_a1 4), .inl (cs 0, 3, .inl (d_a1.2 4))), ((q_a1 5), .inl (cs 0, 3, .inl (d_a1.2 5))), oX0 h_a2 q_a2 (d_a2.1), ((q_a2 1), .inl (cs 0, 6, .inl (d_a2.2 1))), ((q_a2 2), .inl (cs 0, 6, .inl (d_a2.2 2))), ((q_a2 3), .inl (cs 0, 6, .inl (d_a2.2 3))), oX1 h_a3 q_a3 (d_a3.1), ((q_a3 1), .inl (cs 0, 12, .inl (d_a3.2 1))), ((q_a3 2), .inl (cs 0, 12, .inl (d_a3.2 2))), ((q_a3 3), .inl (cs 0, 12, .inl (d_a3.2 3)))] H → va_D A [oX5 h_t q_t (d_t.1), ((q_t 0), .inl (cs 0, 36, .inl (w.2 0))), oX4 h_a1 q_a1 (d_a1.1), ((q_a1 1), .inl (cs 0, 6, .inl (d_a1.2 1))), ((q_a1 2), .inl (cs 0, 6, .inl (d_a1.2 2))), ((q_a1 4), .inl (cs 0, 3, .inl (d_a1.2 4))), ((q_a1 5), .inl (cs 0, 3, .inl (d_a1.2 5))), oX0 h_a2 q_a2 (d_a2.1), ((q_a2 1), .inl (cs 0, 6, .inl (d_a2.2 1))), ((q_a2 2), .inl (cs 0, 6, .inl (d_a2.2 2))), ((q_a2 3), .inl (cs 0, 6, .inl (d_a2.2 3))), oX1 h_a3 q_a3 (d_a3.1), ((q_a3 1), .inl (cs 0, 12, .inl (d_a3.2 1))), ((q_a3 2), .inl (cs 0, 12, .inl (d_a3.2 2))), ((q_a3 3), .inl (cs 0, 12, .inl (d_a3.2 3)))] → va_S A s.heap H locs → lv_has ls 9 [(0, .ref h_t), (1, .ref h_a1), (2, .ref h_a2), (3, .ref h_a3), (4, .int x4), (5, .int x5)] → W p l e rm_X5_weigh s m args below meth c H locs 0 0 Q (F0 m 139 ls []))
    : ∀ (n : Nat) (v : Int32 × Dat), lp (fX5_weigh_B51 k x4 d_t d_a3 K139) n v = some rv → ∀ (H : Heap) (locs : List Loc) (ls : Array Slot), va_P D vwCl [oX5 h_t q_t (d_t.1), ((q_t 0), .inl (cs 0, 36, .inl (v.2.2 0))), oX4 h_a1 q_a1 (d_a1.1), ((q_a1 1), .inl (cs 0, 6, .inl (d_a1.2 1))), ((q_a1 2), .inl (cs 0, 6, .inl (d_a1.2 2))), ((q_a1 4), .inl (cs 0, 3, .inl (d_a1.2 4))), ((q_a1 5), .inl (cs 0, 3, .inl (d_a1.2 5))), oX0 h_a2 q_a2 (d_a2.1), ((q_a2 1), .inl (cs 0, 6, .inl (d_a2.2 1))), ((q_a2 2), .inl (cs 0, 6, .inl (d_a2.2 2))), ((q_a2 3), .inl (cs 0, 6, .inl (d_a2.2 3))), oX1 h_a3 q_a3 (d_a3.1), ((q_a3 1), .inl (cs 0, 12, .inl (d_a3.2 1))), ((q_a3 2), .inl (cs 0, 12, .inl (d_a3.2 2))), ((q_a3 3), .inl (cs 0, 12, .inl (d_a3.2 3)))] H → va_D A [oX5 h_t q_t (d_t.1), ((q_t 0), .inl (cs 0, 36, .inl (v.2.2 0))), oX4 h_a1 q_a1 (d_a1.1), ((q_a1 1), .inl (cs 0, 6, .inl (d_a1.2 1))), ((q_a1 2), .inl (cs 0, 6, .inl (d_a1.2 2))), ((q_a1 4), .inl (cs 0, 3, .inl (d_a1.2 4))), ((q_a1 5), .inl (cs 0, 3, .inl (d_a1.2 5))), oX0 h_a2 q_a2 (d_a2.1), ((q_a2 1), .inl (cs 0, 6, .inl (d_a2.2 1))), ((q_a2 2), .inl (cs 0, 6, .inl (d_a2.2 2))), ((q_a2 3), .inl (cs 0, 6, .inl (d_a2.2 3))), oX1 h_a3 q_a3 (d_a3.1), ((q_a3 1), .inl (cs 0, 12, .inl (d_a3.2 1))), ((q_a3 2), .inl (cs 0, 12, .inl (d_a3.2 2))), ((q_a3 3), .inl (cs 0, 12, .inl (d_a3.2 3)))] → va_S A s.heap H locs → lv_has ls 9 [(0, .ref h_t), (1, .ref h_a1), (2, .ref h_a2), (3, .ref h_a3), (4, .int x4), (5, .int x5), (6, .int (v.1))] → W p l e rm_X5_weigh s m args below meth c H locs 0 0 Q (F0 m 51 ls []) := by
  obtain ⟨hx, hb, hml, hT, hown, hlk, hrt, hK, hN, hSE⟩ := id M
  refine lp_ind (fun rec ih v hf H locs ls hP hD hS hl => ?_)
  unfold fX5_weigh_B51 at hf
  refine lv_iload hx hb dX5_weigh_51 (lv_at hl 6 rfl) ?_
  refine lv_aload_n hx hb dX5_weigh_53 rfl (lv_at hl 3 rfl) ?_
  refine va_get (D := D) (ci := 1) (v := .int (d_a3.1 0)) (C := RX1) (T := TX1) (N := 4) hx hb hT iX1 hown hK hP 11 rfl rfl 0 (by decide) (hT _ fw_X5_31) (fun _ h9 => h9) rfl dX5_weigh_54 ?_
  have g2 := ite_some hf
  refine lv_icmp_ge (tgt := 139) hx hb dX5_weigh_57 (by decide) (fun c1 => ?_) (fun c1 => ?_)
  · replace hf := g2.1 c1
    exact hK139 _ hf _ _ _ hP hD hS (lv_sub hl [0, 1, 2, 3, 4, 5] rfl)
  · replace hf := g2.2 c1
    refine lv_iconst (v := 0) hx hb dX5_weigh_60 rfl ?_
    refine lv_istore (lv' := [(7, .int 0), (0, .ref h_t), (1, .ref h_a1), (2, .ref h_a2), (3, .ref h_a3), (4, .int x4), (5, .int x5), (6, .int (v.1))]) hx hb dX5_weigh_61 hl (by decide) rfl (fun ls hl => ?_)
    refine mX5_weigh_B63 h_t h_a1 h_a2 h_a3 q_t q_a1 q_a2 q_a3 k x4 x5 (v.1) (d_t.1, (va_up d_t.2 0 (v.2.2 0))) d_a1 d_a2 d_a3 _ M hA hR (fun w3 hf H locs ls hP hD hS hl => ?_) _ _ hf _ _ _ hP hD hS (lv_sub hl [1, 2, 3, 4, 5, 6, 7, 0] rfl)
    · refine lv_iinc (v := ((v.1) + 1)) (lv' := [(6, .int ((v.1) + 1)), (0, .ref h_t), (1, .ref h_a1), (2, .ref h_a2), (3, .ref h_a3), (4, .int x4), (5, .int x5)]) hx hb dX5_weigh_133 hl (k := 6) rfl rfl (by decide) rfl (fun ls hl => ?_)
      refine lv_goto (tgt := 51) hx hb dX5_weigh_136 (by decide) ?_
      exact ih _ hf _ _ _ hP hD hS (lv_sub hl [1, 2, 3, 4, 5, 6, 0] rfl)
set_option maxHeartbeats 4000000 in
set_option maxRecDepth 100000 in
theorem mX5_weigh_B31 {l : Launch} {p : Program} {e : Env} {s : State} {m : MethodId} {args : Array Value} {below : List Frame} {meth : Method} {c : Code} {D : va_G} {cs : Nat → ClassId} {sk : Nat → Nat} {A : Nat → Prop} {Q : State → Prop} (h_t : Nat) (h_a1 : Nat) (h_a2 : Nat) (h_a3 : Nat) (q_t : Nat → Nat) (q_a1 : Nat → Nat) (q_a2 : Nat → Nat) (q_a3 : Nat → Nat) (k : Nat) (x4 : Int32) (d_t : Dat) (d_a1 : Dat) (d_a2 : Dat) (d_a3 : Dat) {rv : Dat × Dat}  (K145 : Dat × Dat → Option (Dat × Dat))
    (M : MC p s m args meth c D cs sk A RX5 cX5_weigh 9 none) (hA : ∀ q, s.heap.size ≤ q → A q) (hR : RetV p l e rm_X5_weigh s m args below meth c D cX5_weigh A Q [oX5 h_t q_t (d_t.1), ((q_t 0), .inl (cs 0, 36, .inl (rv.1.2 0))), oX4 h_a1 q_a1 (d_a1.1), ((q_a1 1), .inl (cs 0, 6, .inl (d_a1.2 1))), ((q_a1 2), .inl (cs 0, 6, .inl (d_a1.2 2))), ((q_a1 4), .inl (cs 0, 3, .inl (d_a1.2 4))), ((q_a1 5), .inl (cs 0, 3, .inl (d_a1.2 5))), oX0 h_a2 q_a2 (d_a2.1), ((q_a2 1), .inl (cs 0, 6, .inl (d_a2.2 1))), ((q_a2 2), .inl (cs 0, 6, .inl (d_a2.2 2))), ((q_a2 3), .inl (cs 0, 6, .inl (d_a2.2 3))), oX1 h_a3 q_a3 (rv.2.1), ((q_a3 1), .inl (cs 0, 12, .inl (rv.2.2 1))), ((q_a3 2), .inl (cs 0, 12, .inl (rv.2.2 2))), ((q_a3 3), .inl (cs 0, 12, .inl (rv.2.2 3)))])
    (hK145 : ∀ (w : Dat × Dat), K145 w = some rv → ∀ (H : Heap) (locs : List Loc) (ls : Array Slot), va_P D vwCl [oX5 h_t q_t (d_t.1), ((q_t 0), .inl (cs 0, 36, .inl (w.1.2 0))), oX4 h_a1 q_a1 (d_a1.1), ((q_a1 1), .inl (cs 0, 6, .inl (d_a1.2 1))), ((q_a1 2), .inl (cs 0, 6, .inl (d_a1.2 2))), ((q_a1 4), .inl (cs 0, 3, .inl (d_a1.2 4))), ((q_a1 5), .inl (cs 0, 3, .inl (d_a1.2 5))), oX0 h_a2 q_a2 (d_a2.1), ((q_a2 1), .inl (cs 0, 6, .inl (d_a2.2 1))), ((q_a2 2), .inl (cs 0, 6, .inl (d_a2.2 2))), ((q_a2 3), .inl (cs 0, 6, .inl (d_a2.2 3))), oX1 h_a3 q_a3 (w.2.1), ((q_a3 1), .inl (cs 0, 12, .inl (w.2.2 1))), ((q_a3 2), .inl (cs 0, 12, .inl (w.2.2 2))), ((q_a3 3), .inl (cs 0, 12, .inl (w.2.2 3)))] H → va_D A [oX5 h_t q_t (d_t.1), ((q_t 0), .inl (cs 0, 36, .inl (w.1.2 0))), oX4 h_a1 q_a1 (d_a1.1), ((q_a1 1), .inl (cs 0, 6, .inl (d_a1.2 1))), ((q_a1 2), .inl (cs 0, 6, .inl (d_a1.2 2))), ((q_a1 4), .inl (cs 0, 3, .inl (d_a1.2 4))), ((q_a1 5), .inl (cs 0, 3, .inl (d_a1.2 5))), oX0 h_a2 q_a2 (d_a2.1), ((q_a2 1), .inl (cs 0, 6, .inl (d_a2.2 1))), ((q_a2 2), .inl (cs 0, 6, .inl (d_a2.2 2))), ((q_a2 3), .inl (cs 0, 6, .inl (d_a2.2 3))), oX1 h_a3 q_a3 (w.2.1), ((q_a3 1), .inl (cs 0, 12, .inl (w.2.2 1))), ((q_a3 2), .inl (cs 0, 12, .inl (w.2.2 2))), ((q_a3 3), .inl (cs 0, 12, .inl (w.2.2 3)))] → va_S A s.heap H locs → lv_has ls 9 [] → W p l e rm_X5_weigh s m args below meth c H locs 0 0 Q (F0 m 145 ls []))
    : ∀ (n : Nat) (v : Int32 × Dat × Dat), lp (fX5_weigh_B31 k x4 d_t d_a1 d_a2 d_a3 K145) n v = some rv → ∀ (H : Heap) (locs : List Loc) (ls : Array Slot), va_P D vwCl [oX5 h_t q_t (d_t.1), ((q_t 0), .inl (cs 0, 36, .inl (v.2.1.2 0))), oX4 h_a1 q_a1 (d_a1.1), ((q_a1 1), .inl (cs 0, 6, .inl (d_a1.2 1))), ((q_a1 2), .inl (cs 0, 6, .inl (d_a1.2 2))), ((q_a1 4), .inl (cs 0, 3, .inl (d_a1.2 4))), ((q_a1 5), .inl (cs 0, 3, .inl (d_a1.2 5))), oX0 h_a2 q_a2 (d_a2.1), ((q_a2 1), .inl (cs 0, 6, .inl (d_a2.2 1))), ((q_a2 2), .inl (cs 0, 6, .inl (d_a2.2 2))), ((q_a2 3), .inl (cs 0, 6, .inl (d_a2.2 3))), oX1 h_a3 q_a3 (v.2.2.1), ((q_a3 1), .inl (cs 0, 12, .inl (v.2.2.2 1))), ((q_a3 2), .inl (cs 0, 12, .inl (v.2.2.2 2))), ((q_a3 3), .inl (cs 0, 12, .inl (v.2.2.2 3)))] H → va_D A [oX5 h_t q_t (d_t.1), ((q_t 0), .inl (cs 0, 36, .inl (v.2.1.2 0))), oX4 h_a1 q_a1 (d_a1.1), ((q_a1 1), .inl (cs 0, 6, .inl (d_a1.2 1))), ((q_a1 2), .inl (cs 0, 6, .inl (d_a1.2 2))), ((q_a1 4), .inl (cs 0, 3, .inl (d_a1.2 4))), ((q_a1 5), .inl (cs 0, 3, .inl (d_a1.2 5))), oX0 h_a2 q_a2 (d_a2.1), ((q_a2 1), .inl (cs 0, 6, .inl (d_a2.2 1))), ((q_a2 2), .inl (cs 0, 6, .inl (d_a2.2 2))), ((q_a2 3), .inl (cs 0, 6, .inl (d_a2.2 3))), oX1 h_a3 q_a3 (v.2.2.1), ((q_a3 1), .inl (cs 0, 12, .inl (v.2.2.2 1))), ((q_a3 2), .inl (cs 0, 12, .inl (v.2.2.2 2))), ((q_a3 3), .inl (cs 0, 12, .inl (v.2.2.2 3)))] → va_S A s.heap H locs → lv_has ls 9 [(0, .ref h_t), (1, .ref h_a1), (2, .ref h_a2), (3, .ref h_a3), (4, .int x4), (5, .int (v.1))] → W p l e rm_X5_weigh s m args below meth c H locs 0 0 Q (F0 m 31 ls []) := by
  obtain ⟨hx, hb, hml, hT, hown, hlk, hrt, hK, hN, hSE⟩ := id M
  refine lp_ind (fun rec ih v hf H locs ls hP hD hS hl => ?_)
  unfold fX5_weigh_B31 at hf
  refine lv_iload hx hb dX5_weigh_31 (lv_at hl 5 rfl) ?_
  refine lv_aload_n hx hb dX5_weigh_33 rfl (lv_at hl 1 rfl) ?_
  refine va_get (D := D) (ci := 4) (v := .int (d_a1.1 3)) (C := RX4) (T := TX4) (N := 11) hx hb hT iX4 hown hK hP 2 rfl rfl 3 (by decide) (hT _ fw_X5_19) (fun _ h9 => h9) rfl dX5_weigh_34 ?_
  have g2 := ite_some hf
  refine lv_icmp_ge (tgt := 145) hx hb dX5_weigh_37 (by decide) (fun c1 => ?_) (fun c1 => ?_)
  · replace hf := g2.1 c1
    exact hK145 _ hf _ _ _ hP hD hS (lv_sub hl [] rfl)
  · replace hf := g2.2 c1
    refine lv_aload_n hx hb dX5_weigh_40 rfl (lv_at hl 3 rfl) ?_
    refine lv_aload_n hx hb dX5_weigh_41 rfl (lv_at hl 1 rfl) ?_
    refine lv_aload_n hx hb dX5_weigh_42 rfl (lv_at hl 2 rfl) ?_
    refine lv_iload hx hb dX5_weigh_43 (lv_at hl 5 rfl) ?_
    obtain ⟨r3, e4, hf⟩ := bind_some hf
    refine callVv (As := [.ref h_a1, .ref h_a2, .int (v.1)]) (rest := []) M (mX1_listen l D cs sk h_a3 h_a1 h_a2 q_a3 q_a1 q_a2 k (v.2.2.1, (va_up (va_up (va_up d_a3.2 1 (v.2.2.2 1)) 2 (v.2.2.2 2)) 3 (v.2.2.2 3))) d_a1 d_a2 (v.1) e4) mw_X5_25 ln_X1_listen ⟨rfl, rfl, Nat.le_of_ble_eq_true rfl, Nat.le_of_ble_eq_true rfl⟩ hP hD hS hA [11, 12, 13, 14, 2, 3, 4, 5, 6, 7, 8, 9, 10] (by decide) rfl rfl (q0 := 0) rfl rfl rfl ⟨Nat.zero_le _, Nat.zero_le _⟩ hl.1 rfl (Nat.le_of_ble_eq_true rfl) dX5_weigh_45 (fun H locs hP hD hS => ?_)
    replace hP : va_P D vwCl [oX5 h_t q_t (d_t.1), ((q_t 0), .inl (cs 0, 36, .inl (v.2.1.2 0))), oX4 h_a1 q_a1 (d_a1.1), ((q_a1 1), .inl (cs 0, 6, .inl (d_a1.2 1))), ((q_a1 2), .inl (cs 0, 6, .inl (d_a1.2 2))), ((q_a1 4), .inl (cs 0, 3, .inl (d_a1.2 4))), ((q_a1 5), .inl (cs 0, 3, .inl (d_a1.2 5))), oX0 h_a2 q_a2 (d_a2.1), ((q_a2 1), .inl (cs 0, 6, .inl (d_a2.2 1))), ((q_a2 2), .inl (cs 0, 6, .inl (d_a2.2 2))), ((q_a2 3), .inl (cs 0, 6, .inl (d_a2.2 3))), oX1 h_a3 q_a3 (r3.1), ((q_a3 1), .inl (cs 0, 12, .inl (r3.2 1))), ((q_a3 2), .inl (cs 0, 12, .inl (r3.2 2))), ((q_a3 3), .inl (cs 0, 12, .inl (r3.2 3)))] H := hP
    replace hD : va_D A [oX5 h_t q_t (d_t.1), ((q_t 0), .inl (cs 0, 36, .inl (v.2.1.2 0))), oX4 h_a1 q_a1 (d_a1.1), ((q_a1 1), .inl (cs 0, 6, .inl (d_a1.2 1))), ((q_a1 2), .inl (cs 0, 6, .inl (d_a1.2 2))), ((q_a1 4), .inl (cs 0, 3, .inl (d_a1.2 4))), ((q_a1 5), .inl (cs 0, 3, .inl (d_a1.2 5))), oX0 h_a2 q_a2 (d_a2.1), ((q_a2 1), .inl (cs 0, 6, .inl (d_a2.2 1))), ((q_a2 2), .inl (cs 0, 6, .inl (d_a2.2 2))), ((q_a2 3), .inl (cs 0, 6, .inl (d_a2.2 3))), oX1 h_a3 q_a3 (r3.1), ((q_a3 1), .inl (cs 0, 12, .inl (r3.2 1))), ((q_a3 2), .inl (cs 0, 12, .inl (r3.2 2))), ((q_a3 3), .inl (cs 0, 12, .inl (r3.2 3)))] := hD
    refine lv_iconst (v := 0) hx hb dX5_weigh_48 rfl ?_
    refine lv_istore (lv' := [(6, .int 0), (0, .ref h_t), (1, .ref h_a1), (2, .ref h_a2), (3, .ref h_a3), (4, .int x4), (5, .int (v.1))]) hx hb dX5_weigh_49 hl (by decide) rfl (fun ls hl => ?_)
    refine mX5_weigh_B51 h_t h_a1 h_a2 h_a3 q_t q_a1 q_a2 q_a3 k x4 (v.1) (d_t.1, (va_up d_t.2 0 (v.2.1.2 0))) d_a1 d_a2 (r3.1, (va_up (va_up (va_up d_a3.2 1 (r3.2 1)) 2 (r3.2 2)) 3 (r3.2 3))) _ M hA hR (fun w5 hf H locs ls hP hD hS hl => ?_) _ _ hf _ _ _ hP hD hS (lv_sub hl [1, 2, 3, 4, 5, 6, 0] rfl)
    · refine lv_iinc (v := ((v.1) + 1)) (lv' := [(5, .int ((v.1) + 1)), (0, .ref h_t), (1, .ref h_a1), (2, .ref h_a2), (3, .ref h_a3), (4, .int x4)]) hx hb dX5_weigh_139 hl (k := 5) rfl rfl (by decide) rfl (fun ls hl => ?_)
      refine lv_goto (tgt := 31) hx hb dX5_weigh_142 (by decide) ?_
      exact ih _ hf _ _ _ hP hD hS (lv_sub hl [1, 2, 3, 4, 5, 0] rfl)
set_option maxHeartbeats 4000000 in
set_option maxRecDepth 100000 in
theorem mX5_weigh (l : Launch) (D : va_G) (cs : Nat → ClassId) (sk : Nat → Nat) (h_t : Nat) (h_a1 : Nat) (h_a2 : Nat) (h_a3 : Nat) (q_t : Nat → Nat) (q_a1 : Nat → Nat) (q_a2 : Nat → Nat) (q_a3 : Nat → Nat) (k : Nat) (d_t : Dat) (d_a1 : Dat) (d_a2 : Dat) (d_a3 : Dat) (x4 : Int32) {rv : Dat × Dat} (hf : fX5_weigh k d_t d_a1 d_a2 d_a3 x4 = some rv) : CTv l yX5_weigh (Cond.code yX5_weigh cX5_weigh 9 none :: gtbl) rm_X5_weigh D cs sk [.ref h_t, .ref h_a1, .ref h_a2, .ref h_a3, .int x4] [oX5 h_t q_t (d_t.1), ((q_t 0), .inl (cs 0, 36, .inl (d_t.2 0))), oX4 h_a1 q_a1 (d_a1.1), ((q_a1 1), .inl (cs 0, 6, .inl (d_a1.2 1))), ((q_a1 2), .inl (cs 0, 6, .inl (d_a1.2 2))), ((q_a1 4), .inl (cs 0, 3, .inl (d_a1.2 4))), ((q_a1 5), .inl (cs 0, 3, .inl (d_a1.2 5))), oX0 h_a2 q_a2 (d_a2.1), ((q_a2 1), .inl (cs 0, 6, .inl (d_a2.2 1))), ((q_a2 2), .inl (cs 0, 6, .inl (d_a2.2 2))), ((q_a2 3), .inl (cs 0, 6, .inl (d_a2.2 3))), oX1 h_a3 q_a3 (d_a3.1), ((q_a3 1), .inl (cs 0, 12, .inl (d_a3.2 1))), ((q_a3 2), .inl (cs 0, 12, .inl (d_a3.2 2))), ((q_a3 3), .inl (cs 0, 12, .inl (d_a3.2 3)))] [oX5 h_t q_t (d_t.1), ((q_t 0), .inl (cs 0, 36, .inl (rv.1.2 0))), oX4 h_a1 q_a1 (d_a1.1), ((q_a1 1), .inl (cs 0, 6, .inl (d_a1.2 1))), ((q_a1 2), .inl (cs 0, 6, .inl (d_a1.2 2))), ((q_a1 4), .inl (cs 0, 3, .inl (d_a1.2 4))), ((q_a1 5), .inl (cs 0, 3, .inl (d_a1.2 5))), oX0 h_a2 q_a2 (d_a2.1), ((q_a2 1), .inl (cs 0, 6, .inl (d_a2.2 1))), ((q_a2 2), .inl (cs 0, 6, .inl (d_a2.2 2))), ((q_a2 3), .inl (cs 0, 6, .inl (d_a2.2 3))), oX1 h_a3 q_a3 (rv.2.1), ((q_a3 1), .inl (cs 0, 12, .inl (rv.2.2 1))), ((q_a3 2), .inl (cs 0, 12, .inl (rv.2.2 2))), ((q_a3 3), .inl (cs 0, 12, .inl (rv.2.2 3)))] := by
  refine CTv.of RX5 (by decide +kernel) rfl (Nat.le_of_ble_eq_true rfl) (fun p e s m args below meth c A Q ls M hA hR hl hP hD hS => ?_)
  obtain ⟨hx, hb, hml, hT, hown, hlk, hrt, hK, hN, hSE⟩ := id M
  replace hl : lv_has ls 9 [(0, .ref h_t), (1, .ref h_a1), (2, .ref h_a2), (3, .ref h_a3), (4, .int x4)] := hl
  unfold fX5_weigh at hf
  refine lv_iconst (v := 0) hx hb dX5_weigh_0 rfl ?_
  refine lv_istore (lv' := [(5, .int 0), (0, .ref h_t), (1, .ref h_a1), (2, .ref h_a2), (3, .ref h_a3), (4, .int x4)]) hx hb dX5_weigh_1 hl (by decide) rfl (fun ls hl => ?_)
  refine mX5_weigh_B3 h_t h_a1 h_a2 h_a3 q_t q_a1 q_a2 q_a3 k x4 d_t d_a1 d_a2 d_a3 _ M hA hR (fun w1 hf H locs ls hP hD hS hl => ?_) _ _ hf _ _ _ hP hD hS (lv_sub hl [1, 2, 3, 4, 5, 0] rfl)
  · refine lv_iconst (v := 0) hx hb dX5_weigh_28 rfl ?_
    refine lv_istore (lv' := [(5, .int 0), (0, .ref h_t), (1, .ref h_a1), (2, .ref h_a2), (3, .ref h_a3), (4, .int x4)]) hx hb dX5_weigh_29 hl (by decide) rfl (fun ls hl => ?_)
    refine mX5_weigh_B31 h_t h_a1 h_a2 h_a3 q_t q_a1 q_a2 q_a3 k x4 (d_t.1, (va_up d_t.2 0 (w1.2 0))) d_a1 d_a2 d_a3 _ M hA hR (fun w2 hf H locs ls hP hD hS hl => ?_) _ _ hf _ _ _ hP hD hS (lv_sub hl [1, 2, 3, 4, 5, 0] rfl)
    · have e9 := Option.some.inj hf
      subst e9
      exact hR _ _ _ _ dX5_weigh_145 hP hS
abbrev rm_X5_lowestLate : Room := { frames := 0, cells := 0, slots := 0, locals := 0 }
def fX5_lowestLate (k : Nat) (x0 : Int32) : Option (Int32) :=
  (if x0 = 1 then some (-520) else some (-500))
set_option maxHeartbeats 4000000 in
set_option maxRecDepth 100000 in
theorem mX5_lowestLate (l : Launch) (D : va_G) (cs : Nat → ClassId) (sk : Nat → Nat)  (k : Nat) (x0 : Int32) {rv : Int32} (hf : fX5_lowestLate k x0 = some rv) : CTi l yX5_lowestLate (Cond.code yX5_lowestLate cX5_lowestLate 1 (some .int) :: gtbl) rm_X5_lowestLate D cs sk [.int x0] [] (rv) [] := by
  refine CTi.of RX5 (by decide +kernel) rfl (Nat.le_of_ble_eq_true rfl) (fun p e s m args below meth c A Q ls M hA hR hl hP hD hS => ?_)
  obtain ⟨hx, hb, hml, hT, hown, hlk, hrt, hK, hN, hSE⟩ := id M
  replace hl : lv_has ls 1 [(0, .int x0)] := hl
  unfold fX5_lowestLate at hf
  refine lv_iload_n hx hb dX5_lowestLate_0 rfl (lv_at hl 0 rfl) ?_
  refine lv_iconst (v := 1) hx hb dX5_lowestLate_1 rfl ?_
  have g2 := ite_some hf
  refine lv_icmp_ne (tgt := 11) hx hb dX5_lowestLate_2 (by decide) (fun c1 => ?_) (fun c1 => ?_)
  · replace hf := g2.2 c1
    refine lv_sipush (v := (-500)) hx hb dX5_lowestLate_11 rfl ?_
    have e9 := Option.some.inj hf
    subst e9
    exact hR _ _ _ _ dX5_lowestLate_14 hP hS
  · replace hf := g2.1 c1
    refine lv_sipush (v := (-520)) hx hb dX5_lowestLate_5 rfl ?_
    refine lv_goto (tgt := 14) hx hb dX5_lowestLate_8 (by decide) ?_
    have e9 := Option.some.inj hf
    subst e9
    exact hR _ _ _ _ dX5_lowestLate_14 hP hS
abbrev rm_X5_neededLate : Room := { frames := 1, cells := 0, slots := 0, locals := 24 }
def fX5_neededLate_B11 (k : Nat) (x2 : Int32) (x3 : Int32) (d_t : Dat) (d_a1 : Dat) (K62 : Int32 → Option (Int32)) (rec : Int32 × Int32 → Option (Int32)) (v : Int32 × Int32) : Option (Int32) :=
  (if (d_a1.1 0) ≤ (v.2) then K62 (v.1) else (fX6_holds k x2 (v.2)).bind (fun (r3 : Int32) => (if r3 = 0 then rec ((v.1), ((v.2) + 1)) else chk 6 (v.2) (chk 36 (((v.2) * 6) + x3) (rec ((if (v.1) < (((d_t.2 1) (v.2).toNatClampNeg) + ((d_t.2 0) (((v.2) * 6) + x3).toNatClampNeg)) then (((d_t.2 1) (v.2).toNatClampNeg) + ((d_t.2 0) (((v.2) * 6) + x3).toNatClampNeg)) else (v.1)), ((v.2) + 1)))))))
def fX5_neededLate (k : Nat) (d_t : Dat) (d_a1 : Dat) (x2 : Int32) (x3 : Int32) : Option (Int32) :=
  chk 6 x3 (lp (fX5_neededLate_B11 k x2 x3 d_t d_a1 (fun (w1 : Int32) => chk 6 x3 ((if ((d_a1.2 1) x3.toNatClampNeg) = 3 then some (-((fdv (-w1) 10) * 10)) else some w1)))) k (((d_t.2 1) x3.toNatClampNeg), 0))
set_option maxHeartbeats 4000000 in
set_option maxRecDepth 100000 in
theorem mX5_neededLate_B11 {l : Launch} {p : Program} {e : Env} {s : State} {m : MethodId} {args : Array Value} {below : List Frame} {meth : Method} {c : Code} {D : va_G} {cs : Nat → ClassId} {sk : Nat → Nat} {A : Nat → Prop} {Q : State → Prop} (h_t : Nat) (h_a1 : Nat) (q_t : Nat → Nat) (q_a1 : Nat → Nat) (k : Nat) (x2 : Int32) (x3 : Int32) (d_t : Dat) (d_a1 : Dat) {rv : Int32}  (K62 : Int32 → Option (Int32))
    (M : MC p s m args meth c D cs sk A RX5 cX5_neededLate 6 (some .int)) (hA : ∀ q, s.heap.size ≤ q → A q) (hR : RetI p l e rm_X5_neededLate s m args below meth c D cX5_neededLate A Q (rv) [oX5 h_t q_t (d_t.1), ((q_t 0), .inl (cs 0, 36, .inl (d_t.2 0))), ((q_t 1), .inl (cs 0, 6, .inl (d_t.2 1))), oX0 h_a1 q_a1 (d_a1.1), ((q_a1 1), .inl (cs 0, 6, .inl (d_a1.2 1)))])
    (hK62 : ∀ (w : Int32), K62 w = some rv → ∀ (H : Heap) (locs : List Loc) (ls : Array Slot), va_P D vwCl [oX5 h_t q_t (d_t.1), ((q_t 0), .inl (cs 0, 36, .inl (d_t.2 0))), ((q_t 1), .inl (cs 0, 6, .inl (d_t.2 1))), oX0 h_a1 q_a1 (d_a1.1), ((q_a1 1), .inl (cs 0, 6, .inl (d_a1.2 1)))] H → va_D A [oX5 h_t q_t (d_t.1), ((q_t 0), .inl (cs 0, 36, .inl (d_t.2 0))), ((q_t 1), .inl (cs 0, 6, .inl (d_t.2 1))), oX0 h_a1 q_a1 (d_a1.1), ((q_a1 1), .inl (cs 0, 6, .inl (d_a1.2 1)))] → va_S A s.heap H locs → lv_has ls 6 [(1, .ref h_a1), (3, .int x3), (4, .int w)] → W p l e rm_X5_neededLate s m args below meth c H locs 0 0 Q (F0 m 62 ls []))
    : ∀ (n : Nat) (v : Int32 × Int32), lp (fX5_neededLate_B11 k x2 x3 d_t d_a1 K62) n v = some rv → ∀ (H : Heap) (locs : List Loc) (ls : Array Slot), va_P D vwCl [oX5 h_t q_t (d_t.1), ((q_t 0), .inl (cs 0, 36, .inl (d_t.2 0))), ((q_t 1), .inl (cs 0, 6, .inl (d_t.2 1))), oX0 h_a1 q_a1 (d_a1.1), ((q_a1 1), .inl (cs 0, 6, .inl (d_a1.2 1)))] H → va_D A [oX5 h_t q_t (d_t.1), ((q_t 0), .inl (cs 0, 36, .inl (d_t.2 0))), ((q_t 1), .inl (cs 0, 6, .inl (d_t.2 1))), oX0 h_a1 q_a1 (d_a1.1), ((q_a1 1), .inl (cs 0, 6, .inl (d_a1.2 1)))] → va_S A s.heap H locs → lv_has ls 6 [(0, .ref h_t), (1, .ref h_a1), (2, .int x2), (3, .int x3), (4, .int (v.1)), (5, .int (v.2))] → W p l e rm_X5_neededLate s m args below meth c H locs 0 0 Q (F0 m 11 ls []) := by
  obtain ⟨hx, hb, hml, hT, hown, hlk, hrt, hK, hN, hSE⟩ := id M
  refine lp_ind (fun rec ih v hf H locs ls hP hD hS hl => ?_)
  unfold fX5_neededLate_B11 at hf
  refine lv_iload hx hb dX5_neededLate_11 (lv_at hl 5 rfl) ?_
  refine lv_aload_n hx hb dX5_neededLate_13 rfl (lv_at hl 1 rfl) ?_
  refine va_get (D := D) (ci := 0) (v := .int (d_a1.1 0)) (C := RX0) (T := TX0) (N := 10) hx hb hT iX0 hown hK hP 3 rfl rfl 0 (by decide) (hT _ fw_X5_46) (fun _ h9 => h9) rfl dX5_neededLate_14 ?_
  have g2 := ite_some hf
  refine lv_icmp_ge (tgt := 62) hx hb dX5_neededLate_17 (by decide) (fun c1 => ?_) (fun c1 => ?_)
  · replace hf := g2.1 c1
    exact hK62 _ hf _ _ _ hP hD hS (lv_sub hl [1, 3, 4] rfl)
  · replace hf := g2.2 c1
    refine lv_iload_n hx hb dX5_neededLate_20 rfl (lv_at hl 2 rfl) ?_
    refine lv_iload hx hb dX5_neededLate_21 (lv_at hl 5 rfl) ?_
    obtain ⟨r3, e4, hf⟩ := bind_some hf
    refine callSNi (As := [.int x2, .int (v.2)]) (rest := []) M (mX6_holds l D cs sk  k x2 (v.2) e4) mw_X5_58 ln_X6_holds ⟨rfl, rfl, Nat.le_of_ble_eq_true rfl, Nat.le_of_ble_eq_true rfl⟩ hP hD hS hA [] (by decide) rfl rfl ⟨Nat.zero_le _, Nat.zero_le _⟩ hl.1 rfl (Nat.le_of_ble_eq_true rfl) dX5_neededLate_23 (fun H locs hP hD hS => ?_)
    replace hP : va_P D vwCl [oX5 h_t q_t (d_t.1), ((q_t 0), .inl (cs 0, 36, .inl (d_t.2 0))), ((q_t 1), .inl (cs 0, 6, .inl (d_t.2 1))), oX0 h_a1 q_a1 (d_a1.1), ((q_a1 1), .inl (cs 0, 6, .inl (d_a1.2 1)))] H := hP
    replace hD : va_D A [oX5 h_t q_t (d_t.1), ((q_t 0), .inl (cs 0, 36, .inl (d_t.2 0))), ((q_t 1), .inl (cs 0, 6, .inl (d_t.2 1))), oX0 h_a1 q_a1 (d_a1.1), ((q_a1 1), .inl (cs 0, 6, .inl (d_a1.2 1)))] := hD
    have g6 := ite_some hf
    refine lv_if_eq (tgt := 56) hx hb dX5_neededLate_26 (by decide) (fun c5 => ?_) (fun c5 => ?_)
    · replace hf := g6.1 c5
      refine lv_iinc (v := ((v.2) + 1)) (lv' := [(5, .int ((v.2) + 1)), (0, .ref h_t), (1, .ref h_a1), (2, .int x2), (3, .int x3), (4, .int (v.1))]) hx hb dX5_neededLate_56 hl (k := 5) rfl rfl (by decide) rfl (fun ls hl => ?_)
      refine lv_goto (tgt := 11) hx hb dX5_neededLate_59 (by decide) ?_
      exact ih _ hf _ _ _ hP hD hS (lv_sub hl [1, 2, 3, 4, 5, 0] rfl)
    · replace hf := g6.2 c5
      refine lv_iload hx hb dX5_neededLate_29 (lv_at hl 4 rfl) ?_
      refine lv_aload_n hx hb dX5_neededLate_31 rfl (lv_at hl 0 rfl) ?_
      refine va_get (D := D) (ci := 5) (v := .ref (q_t 1)) (C := RX5) (T := TX5) (N := 2) hx hb hT iX5 hown hK hP 0 rfl rfl 1 (by decide) (hT _ fw_X5_15) (fun _ h9 => h9) rfl dX5_neededLate_32 ?_
      refine lv_iload hx hb dX5_neededLate_35 (lv_at hl 5 rfl) ?_
      obtain ⟨hi, hf⟩ := chk_some hf
      refine va_iald (D := D) hx hb hK hP 2 0 rfl rfl hi dX5_neededLate_37 ?_
      refine lv_aload_n hx hb dX5_neededLate_38 rfl (lv_at hl 0 rfl) ?_
      refine va_get (D := D) (ci := 5) (v := .ref (q_t 0)) (C := RX5) (T := TX5) (N := 2) hx hb hT iX5 hown hK hP 0 rfl rfl 0 (by decide) (hT _ fw_X5_9) (fun _ h9 => h9) rfl dX5_neededLate_39 ?_
      refine lv_iload hx hb dX5_neededLate_42 (lv_at hl 5 rfl) ?_
      refine lv_bipush (v := 6) hx hb dX5_neededLate_44 rfl ?_
      refine lv_imul hx hb dX5_neededLate_46 ?_
      refine lv_iload_n hx hb dX5_neededLate_47 rfl (lv_at hl 3 rfl) ?_
      refine lv_iadd hx hb dX5_neededLate_48 ?_
      obtain ⟨hi, hf⟩ := chk_some hf
      refine va_iald (D := D) hx hb hK hP 1 0 rfl rfl hi dX5_neededLate_49 ?_
      refine lv_iadd hx hb dX5_neededLate_50 ?_
      refine va_mmax hx hb (hml.trans hl.1.symm) hown (hT _ jw_X5_40.1) (hT _ jw_X5_40.2.1) (hT _ jw_X5_40.2.2.1) (hT _ jw_X5_40.2.2.2) (Nat.le_of_ble_eq_true rfl) (Nat.le_of_ble_eq_true rfl) (Nat.zero_le _) (Nat.zero_le _) dX5_neededLate_51 ?_
      refine lv_istore (lv' := [(4, .int (if (v.1) < (((d_t.2 1) (v.2).toNatClampNeg) + ((d_t.2 0) (((v.2) * 6) + x3).toNatClampNeg)) then (((d_t.2 1) (v.2).toNatClampNeg) + ((d_t.2 0) (((v.2) * 6) + x3).toNatClampNeg)) else (v.1))), (0, .ref h_t), (1, .ref h_a1), (2, .int x2), (3, .int x3), (5, .int (v.2))]) hx hb dX5_neededLate_54 hl (by decide) rfl (fun ls hl => ?_)
      refine lv_iinc (v := ((v.2) + 1)) (lv' := [(5, .int ((v.2) + 1)), (4, .int (if (v.1) < (((d_t.2 1) (v.2).toNatClampNeg) + ((d_t.2 0) (((v.2) * 6) + x3).toNatClampNeg)) then (((d_t.2 1) (v.2).toNatClampNeg) + ((d_t.2 0) (((v.2) * 6) + x3).toNatClampNeg)) else (v.1))), (0, .ref h_t), (1, .ref h_a1), (2, .int x2), (3, .int x3)]) hx hb dX5_neededLate_56 hl (k := 5) rfl rfl (by decide) rfl (fun ls hl => ?_)
      refine lv_goto (tgt := 11) hx hb dX5_neededLate_59 (by decide) ?_
      exact ih _ hf _ _ _ hP hD hS (lv_sub hl [2, 3, 4, 5, 1, 0] rfl)
set_option maxHeartbeats 4000000 in
set_option maxRecDepth 100000 in
theorem mX5_neededLate (l : Launch) (D : va_G) (cs : Nat → ClassId) (sk : Nat → Nat) (h_t : Nat) (h_a1 : Nat) (q_t : Nat → Nat) (q_a1 : Nat → Nat) (k : Nat) (d_t : Dat) (d_a1 : Dat) (x2 : Int32) (x3 : Int32) {rv : Int32} (hf : fX5_neededLate k d_t d_a1 x2 x3 = some rv) : CTi l yX5_neededLate (Cond.code yX5_neededLate cX5_neededLate 6 (some .int) :: gtbl) rm_X5_neededLate D cs sk [.ref h_t, .ref h_a1, .int x2, .int x3] [oX5 h_t q_t (d_t.1), ((q_t 0), .inl (cs 0, 36, .inl (d_t.2 0))), ((q_t 1), .inl (cs 0, 6, .inl (d_t.2 1))), oX0 h_a1 q_a1 (d_a1.1), ((q_a1 1), .inl (cs 0, 6, .inl (d_a1.2 1)))] (rv) [oX5 h_t q_t (d_t.1), ((q_t 0), .inl (cs 0, 36, .inl (d_t.2 0))), ((q_t 1), .inl (cs 0, 6, .inl (d_t.2 1))), oX0 h_a1 q_a1 (d_a1.1), ((q_a1 1), .inl (cs 0, 6, .inl (d_a1.2 1)))] := by
  refine CTi.of RX5 (by decide +kernel) rfl (Nat.le_of_ble_eq_true rfl) (fun p e s m args below meth c A Q ls M hA hR hl hP hD hS => ?_)
  obtain ⟨hx, hb, hml, hT, hown, hlk, hrt, hK, hN, hSE⟩ := id M
  replace hl : lv_has ls 6 [(0, .ref h_t), (1, .ref h_a1), (2, .int x2), (3, .int x3)] := hl
  unfold fX5_neededLate at hf
  refine lv_aload_n hx hb dX5_neededLate_0 rfl (lv_at hl 0 rfl) ?_
  refine va_get (D := D) (ci := 5) (v := .ref (q_t 1)) (C := RX5) (T := TX5) (N := 2) hx hb hT iX5 hown hK hP 0 rfl rfl 1 (by decide) (hT _ fw_X5_15) (fun _ h9 => h9) rfl dX5_neededLate_1 ?_
  refine lv_iload_n hx hb dX5_neededLate_4 rfl (lv_at hl 3 rfl) ?_
  obtain ⟨hi, hf⟩ := chk_some hf
  refine va_iald (D := D) hx hb hK hP 2 0 rfl rfl hi dX5_neededLate_5 ?_
  refine lv_istore (lv' := [(4, .int ((d_t.2 1) x3.toNatClampNeg)), (0, .ref h_t), (1, .ref h_a1), (2, .int x2), (3, .int x3)]) hx hb dX5_neededLate_6 hl (by decide) rfl (fun ls hl => ?_)
  refine lv_iconst (v := 0) hx hb dX5_neededLate_8 rfl ?_
  refine lv_istore (lv' := [(5, .int 0), (4, .int ((d_t.2 1) x3.toNatClampNeg)), (0, .ref h_t), (1, .ref h_a1), (2, .int x2), (3, .int x3)]) hx hb dX5_neededLate_9 hl (by decide) rfl (fun ls hl => ?_)
  refine mX5_neededLate_B11 h_t h_a1 q_t q_a1 k x2 x3 d_t d_a1 _ M hA hR (fun w1 hf H locs ls hP hD hS hl => ?_) _ _ hf _ _ _ hP hD hS (lv_sub hl [2, 3, 4, 5, 1, 0] rfl)
  · refine lv_aload_n hx hb dX5_neededLate_62 rfl (lv_at hl 0 rfl) ?_
    refine va_get (D := D) (ci := 0) (v := .ref (q_a1 1)) (C := RX0) (T := TX0) (N := 10) hx hb hT iX0 hown hK hP 3 rfl rfl 1 (by decide) (hT _ fw_X5_51) (fun _ h9 => h9) rfl dX5_neededLate_63 ?_
    refine lv_iload_n hx hb dX5_neededLate_66 rfl (lv_at hl 1 rfl) ?_
    obtain ⟨hi, hf⟩ := chk_some hf
    refine va_iald (D := D) hx hb hK hP 4 0 rfl rfl hi dX5_neededLate_67 ?_
    refine lv_iconst (v := 3) hx hb dX5_neededLate_68 rfl ?_
    have g3 := ite_some hf
    refine lv_icmp_ne (tgt := 85) hx hb dX5_neededLate_69 (by decide) (fun c2 => ?_) (fun c2 => ?_)
    · replace hf := g3.2 c2
      refine lv_iload hx hb dX5_neededLate_85 (lv_at hl 2 rfl) ?_
      have e9 := Option.some.inj hf
      subst e9
      exact hR _ _ _ _ dX5_neededLate_87 hP hS
    · replace hf := g3.1 c2
      refine lv_iload hx hb dX5_neededLate_72 (lv_at hl 2 rfl) ?_
      refine lv_ineg hx hb dX5_neededLate_74 ?_
      refine lv_bipush (v := 10) hx hb dX5_neededLate_75 rfl ?_
      refine va_mfd hx hb (hml.trans hl.1.symm) hown (hT _ jw_X5_66.1) (hT _ jw_X5_66.2.1) (hT _ jw_X5_66.2.2.1) (hT _ jw_X5_66.2.2.2) (Nat.le_of_ble_eq_true rfl) (Nat.le_of_ble_eq_true rfl) (Nat.zero_le _) (Nat.zero_le _) dX5_neededLate_77 ?_
      refine lv_bipush (v := 10) hx hb dX5_neededLate_80 rfl ?_
      refine lv_imul hx hb dX5_neededLate_82 ?_
      refine lv_ineg hx hb dX5_neededLate_83 ?_
      have e9 := Option.some.inj hf
      subst e9
      exact hR _ _ _ _ dX5_neededLate_84 hP hS
abbrev rm_X5_tunes : Room := { frames := 2, cells := 0, slots := 0, locals := 49 }
def fX5_tunes_B2 (k : Nat) (d_t : Dat) (d_a1 : Dat) (K31 : Dat → Option (Int32 × Dat)) (rec : Int32 × Dat → Option (Int32 × Dat)) (v : Int32 × Dat) : Option (Int32 × Dat) :=
  (if (d_a1.1 0) ≤ (v.1) then K31 (d_t.1, (va_up d_t.2 1 (v.2.2 1))) else chk 6 (v.1) ((fX5_lowestLate k ((d_a1.2 1) (v.1).toNatClampNeg)).bind (fun (r3 : Int32) => chk 6 (v.1) (rec (((v.1) + 1), (d_t.1, (va_up d_t.2 1 (upd (v.2.2 1) (v.1).toNatClampNeg r3))))))))
def fX5_tunes_B45 (k : Nat) (x2 : Int32) (d_t : Dat) (d_a1 : Dat) (K95 : Dat → Option (Int32 × Dat)) (K127 : Int32 × Dat → Option (Int32 × Dat)) (rec : Int32 × Int32 × Dat → Option (Int32 × Dat)) (v : Int32 × Int32 × Dat) : Option (Int32 × Dat) :=
  (if (d_a1.1 0) ≤ (v.2.1) then K127 ((v.1), (d_t.1, (va_up d_t.2 1 (v.2.2.2 1)))) else (fX6_holds k x2 (v.2.1)).bind (fun (r3 : Int32) => (if r3 = 0 then rec ((v.1), ((v.2.1) + 1), (d_t.1, (va_up d_t.2 1 (v.2.2.2 1)))) else (fX5_neededLate k (d_t.1, (va_up d_t.2 1 (v.2.2.2 1))) d_a1 x2 (v.2.1)).bind (fun (r7 : Int32) => chk 6 (v.2.1) ((fX5_lowestLate k ((d_a1.2 1) (v.2.1).toNatClampNeg)).bind (fun (r9 : Int32) => (if r7 ≤ (r9 + 1000) then chk 6 (v.2.1) ((if r7 ≤ ((v.2.2.2 1) (v.2.1).toNatClampNeg) then chk 6 (v.2.1) (rec ((v.1), ((v.2.1) + 1), (d_t.1, (va_up d_t.2 1 (upd (v.2.2.2 1) (v.2.1).toNatClampNeg r7))))) else chk 6 (v.2.1) (rec (1, ((v.2.1) + 1), (d_t.1, (va_up d_t.2 1 (upd (v.2.2.2 1) (v.2.1).toNatClampNeg r7))))))) else K95 (d_t.1, (va_up d_t.2 1 (v.2.2.2 1))))))))))
def fX5_tunes_B33 (k : Nat) (x2 : Int32) (d_t : Dat) (d_a1 : Dat) (K95 : Dat → Option (Int32 × Dat)) (K132 : Dat → Option (Int32 × Dat)) (K140 : Dat → Option (Int32 × Dat)) (rec : Int32 × Dat → Option (Int32 × Dat)) (v : Int32 × Dat) : Option (Int32 × Dat) :=
  (if 64 ≤ (v.1) then K140 (d_t.1, (va_up d_t.2 1 (v.2.2 1))) else lp (fX5_tunes_B45 k x2 (d_t.1, (va_up d_t.2 1 (v.2.2 1))) d_a1 (fun (w3 : Dat) => K95 (d_t.1, (va_up d_t.2 1 (w3.2 1)))) (fun (w4 : Int32 × Dat) => (if (w4.1) = 0 then K132 (d_t.1, (va_up d_t.2 1 (w4.2.2 1))) else rec (((v.1) + 1), (d_t.1, (va_up d_t.2 1 (w4.2.2 1))))))) k (0, 0, (d_t.1, (va_up d_t.2 1 (v.2.2 1)))))
def fX5_tunes (k : Nat) (d_t : Dat) (d_a1 : Dat) (x2 : Int32) : Option (Int32 × Dat) :=
  lp (fX5_tunes_B2 k d_t d_a1 (fun (w1 : Dat) => lp (fX5_tunes_B33 k x2 (d_t.1, (va_up d_t.2 1 (w1.2 1))) d_a1 (fun (w2 : Dat) => some (0, (d_t.1, (va_up d_t.2 1 (w2.2 1))))) (fun (w3 : Dat) => some (1, (d_t.1, (va_up d_t.2 1 (w3.2 1))))) (fun (w4 : Dat) => some (0, (d_t.1, (va_up d_t.2 1 (w4.2 1)))))) k (0, (d_t.1, (va_up d_t.2 1 (w1.2 1)))))) k (0, d_t)
set_option maxHeartbeats 4000000 in
set_option maxRecDepth 100000 in
theorem mX5_tunes_B2 {l : Launch} {p : Program} {e : Env} {s : State} {m : MethodId} {args : Array Value} {below : List Frame} {meth : Method} {c : Code} {D : va_G} {cs : Nat → ClassId} {sk : Nat → Nat} {A : Nat → Prop} {Q : State → Prop} (h_t : Nat) (h_a1 : Nat) (q_t : Nat → Nat) (q_a1 : Nat → Nat) (k : Nat) (x2 : Int32) (d_t : Dat) (d_a1 : Dat) {rv : Int32 × Dat}  (K31 : Dat → Option (Int32 × Dat))
    (M : MC p s m args meth c D cs sk A RX5 cX5_tunes 7 (some .boolean)) (hA : ∀ q, s.heap.size ≤ q → A q) (hR : RetZ p l e rm_X5_tunes s m args below meth c D cX5_tunes A Q (rv.1) [oX5 h_t q_t (d_t.1), ((q_t 0), .inl (cs 0, 36, .inl (d_t.2 0))), ((q_t 1), .inl (cs 0, 6, .inl (rv.2.2 1))), oX0 h_a1 q_a1 (d_a1.1), ((q_a1 1), .inl (cs 0, 6, .inl (d_a1.2 1)))])
    (hK31 : ∀ (w : Dat), K31 w = some rv → ∀ (H : Heap) (locs : List Loc) (ls : Array Slot), va_P D vwCl [oX5 h_t q_t (d_t.1), ((q_t 0), .inl (cs 0, 36, .inl (d_t.2 0))), ((q_t 1), .inl (cs 0, 6, .inl (w.2 1))), oX0 h_a1 q_a1 (d_a1.1), ((q_a1 1), .inl (cs 0, 6, .inl (d_a1.2 1)))] H → va_D A [oX5 h_t q_t (d_t.1), ((q_t 0), .inl (cs 0, 36, .inl (d_t.2 0))), ((q_t 1), .inl (cs 0, 6, .inl (w.2 1))), oX0 h_a1 q_a1 (d_a1.1), ((q_a1 1), .inl (cs 0, 6, .inl (d_a1.2 1)))] → va_S A s.heap H locs → lv_has ls 7 [(0, .ref h_t), (1, .ref h_a1), (2, .int x2)] → W p l e rm_X5_tunes s m args below meth c H locs 0 0 Q (F0 m 31 ls []))
    : ∀ (n : Nat) (v : Int32 × Dat), lp (fX5_tunes_B2 k d_t d_a1 K31) n v = some rv → ∀ (H : Heap) (locs : List Loc) (ls : Array Slot), va_P D vwCl [oX5 h_t q_t (d_t.1), ((q_t 0), .inl (cs 0, 36, .inl (d_t.2 0))), ((q_t 1), .inl (cs 0, 6, .inl (v.2.2 1))), oX0 h_a1 q_a1 (d_a1.1), ((q_a1 1), .inl (cs 0, 6, .inl (d_a1.2 1)))] H → va_D A [oX5 h_t q_t (d_t.1), ((q_t 0), .inl (cs 0, 36, .inl (d_t.2 0))), ((q_t 1), .inl (cs 0, 6, .inl (v.2.2 1))), oX0 h_a1 q_a1 (d_a1.1), ((q_a1 1), .inl (cs 0, 6, .inl (d_a1.2 1)))] → va_S A s.heap H locs → lv_has ls 7 [(0, .ref h_t), (1, .ref h_a1), (2, .int x2), (3, .int (v.1))] → W p l e rm_X5_tunes s m args below meth c H locs 0 0 Q (F0 m 2 ls []) := by
  obtain ⟨hx, hb, hml, hT, hown, hlk, hrt, hK, hN, hSE⟩ := id M
  refine lp_ind (fun rec ih v hf H locs ls hP hD hS hl => ?_)
  unfold fX5_tunes_B2 at hf
  refine lv_iload_n hx hb dX5_tunes_2 rfl (lv_at hl 3 rfl) ?_
  refine lv_aload_n hx hb dX5_tunes_3 rfl (lv_at hl 1 rfl) ?_
  refine va_get (D := D) (ci := 0) (v := .int (d_a1.1 0)) (C := RX0) (T := TX0) (N := 10) hx hb hT iX0 hown hK hP 3 rfl rfl 0 (by decide) (hT _ fw_X5_46) (fun _ h9 => h9) rfl dX5_tunes_4 ?_
  have g2 := ite_some hf
  refine lv_icmp_ge (tgt := 31) hx hb dX5_tunes_7 (by decide) (fun c1 => ?_) (fun c1 => ?_)
  · replace hf := g2.1 c1
    exact hK31 _ hf _ _ _ hP hD hS (lv_sub hl [0, 1, 2] rfl)
  · replace hf := g2.2 c1
    refine lv_aload_n hx hb dX5_tunes_10 rfl (lv_at hl 0 rfl) ?_
    refine va_get (D := D) (ci := 5) (v := .ref (q_t 1)) (C := RX5) (T := TX5) (N := 2) hx hb hT iX5 hown hK hP 0 rfl rfl 1 (by decide) (hT _ fw_X5_15) (fun _ h9 => h9) rfl dX5_tunes_11 ?_
    refine lv_iload_n hx hb dX5_tunes_14 rfl (lv_at hl 3 rfl) ?_
    refine lv_aload_n hx hb dX5_tunes_15 rfl (lv_at hl 1 rfl) ?_
    refine va_get (D := D) (ci := 0) (v := .ref (q_a1 1)) (C := RX0) (T := TX0) (N := 10) hx hb hT iX0 hown hK hP 3 rfl rfl 1 (by decide) (hT _ fw_X5_51) (fun _ h9 => h9) rfl dX5_tunes_16 ?_
    refine lv_iload_n hx hb dX5_tunes_19 rfl (lv_at hl 3 rfl) ?_
    obtain ⟨hi, hf⟩ := chk_some hf
    refine va_iald (D := D) hx hb hK hP 4 0 rfl rfl hi dX5_tunes_20 ?_
    obtain ⟨r3, e4, hf⟩ := bind_some hf
    refine callSi (As := [.int ((d_a1.2 1) (v.1).toNatClampNeg)]) (rest := [.int (v.1), .ref (q_t 1)]) M (mX5_lowestLate l D cs sk  k ((d_a1.2 1) (v.1).toNatClampNeg) e4) mw_X5_54 ln_X5_lowestLate ⟨rfl, rfl, Nat.le_of_ble_eq_true rfl, Nat.le_of_ble_eq_true rfl⟩ hP hD hS hA [] (by decide) rfl rfl ⟨Nat.zero_le _, Nat.zero_le _⟩ hl.1 rfl (Nat.le_of_ble_eq_true rfl) dX5_tunes_21 (fun H locs hP hD hS => ?_)
    replace hP : va_P D vwCl [oX5 h_t q_t (d_t.1), ((q_t 0), .inl (cs 0, 36, .inl (d_t.2 0))), ((q_t 1), .inl (cs 0, 6, .inl (v.2.2 1))), oX0 h_a1 q_a1 (d_a1.1), ((q_a1 1), .inl (cs 0, 6, .inl (d_a1.2 1)))] H := hP
    replace hD : va_D A [oX5 h_t q_t (d_t.1), ((q_t 0), .inl (cs 0, 36, .inl (d_t.2 0))), ((q_t 1), .inl (cs 0, 6, .inl (v.2.2 1))), oX0 h_a1 q_a1 (d_a1.1), ((q_a1 1), .inl (cs 0, 6, .inl (d_a1.2 1)))] := hD
    obtain ⟨hi, hf⟩ := chk_some hf
    refine va_iast (D := D) hx hb hK hP hD hS 2 0 rfl rfl hi dX5_tunes_24 (fun H locs hP hD hS => ?_)
    replace hP : va_P D vwCl [oX5 h_t q_t (d_t.1), ((q_t 0), .inl (cs 0, 36, .inl (d_t.2 0))), ((q_t 1), .inl (cs 0, 6, .inl (upd (v.2.2 1) (v.1).toNatClampNeg r3))), oX0 h_a1 q_a1 (d_a1.1), ((q_a1 1), .inl (cs 0, 6, .inl (d_a1.2 1)))] H := hP
    replace hD : va_D A [oX5 h_t q_t (d_t.1), ((q_t 0), .inl (cs 0, 36, .inl (d_t.2 0))), ((q_t 1), .inl (cs 0, 6, .inl (upd (v.2.2 1) (v.1).toNatClampNeg r3))), oX0 h_a1 q_a1 (d_a1.1), ((q_a1 1), .inl (cs 0, 6, .inl (d_a1.2 1)))] := hD
    refine lv_iinc (v := ((v.1) + 1)) (lv' := [(3, .int ((v.1) + 1)), (0, .ref h_t), (1, .ref h_a1), (2, .int x2)]) hx hb dX5_tunes_25 hl (k := 3) rfl rfl (by decide) rfl (fun ls hl => ?_)
    refine lv_goto (tgt := 2) hx hb dX5_tunes_28 (by decide) ?_
    exact ih _ hf _ _ _ hP hD hS (lv_sub hl [1, 2, 3, 0] rfl)
set_option maxHeartbeats 4000000 in
set_option maxRecDepth 100000 in
theorem mX5_tunes_B45 {l : Launch} {p : Program} {e : Env} {s : State} {m : MethodId} {args : Array Value} {below : List Frame} {meth : Method} {c : Code} {D : va_G} {cs : Nat → ClassId} {sk : Nat → Nat} {A : Nat → Prop} {Q : State → Prop} (h_t : Nat) (h_a1 : Nat) (q_t : Nat → Nat) (q_a1 : Nat → Nat) (k : Nat) (x2 : Int32) (x3 : Int32) (d_t : Dat) (d_a1 : Dat) {rv : Int32 × Dat}  (K95 : Dat → Option (Int32 × Dat)) (K127 : Int32 × Dat → Option (Int32 × Dat))
    (M : MC p s m args meth c D cs sk A RX5 cX5_tunes 7 (some .boolean)) (hA : ∀ q, s.heap.size ≤ q → A q) (hR : RetZ p l e rm_X5_tunes s m args below meth c D cX5_tunes A Q (rv.1) [oX5 h_t q_t (d_t.1), ((q_t 0), .inl (cs 0, 36, .inl (d_t.2 0))), ((q_t 1), .inl (cs 0, 6, .inl (rv.2.2 1))), oX0 h_a1 q_a1 (d_a1.1), ((q_a1 1), .inl (cs 0, 6, .inl (d_a1.2 1)))])
    (hK95 : ∀ (w : Dat), K95 w = some rv → ∀ (H : Heap) (locs : List Loc) (ls : Array Slot), va_P D vwCl [oX5 h_t q_t (d_t.1), ((q_t 0), .inl (cs 0, 36, .inl (d_t.2 0))), ((q_t 1), .inl (cs 0, 6, .inl (w.2 1))), oX0 h_a1 q_a1 (d_a1.1), ((q_a1 1), .inl (cs 0, 6, .inl (d_a1.2 1)))] H → va_D A [oX5 h_t q_t (d_t.1), ((q_t 0), .inl (cs 0, 36, .inl (d_t.2 0))), ((q_t 1), .inl (cs 0, 6, .inl (w.2 1))), oX0 h_a1 q_a1 (d_a1.1), ((q_a1 1), .inl (cs 0, 6, .inl (d_a1.2 1)))] → va_S A s.heap H locs → lv_has ls 7 [] → W p l e rm_X5_tunes s m args below meth c H locs 0 0 Q (F0 m 95 ls []))
    (hK127 : ∀ (w : Int32 × Dat), K127 w = some rv → ∀ (H : Heap) (locs : List Loc) (ls : Array Slot), va_P D vwCl [oX5 h_t q_t (d_t.1), ((q_t 0), .inl (cs 0, 36, .inl (d_t.2 0))), ((q_t 1), .inl (cs 0, 6, .inl (w.2.2 1))), oX0 h_a1 q_a1 (d_a1.1), ((q_a1 1), .inl (cs 0, 6, .inl (d_a1.2 1)))] H → va_D A [oX5 h_t q_t (d_t.1), ((q_t 0), .inl (cs 0, 36, .inl (d_t.2 0))), ((q_t 1), .inl (cs 0, 6, .inl (w.2.2 1))), oX0 h_a1 q_a1 (d_a1.1), ((q_a1 1), .inl (cs 0, 6, .inl (d_a1.2 1)))] → va_S A s.heap H locs → lv_has ls 7 [(0, .ref h_t), (1, .ref h_a1), (2, .int x2), (3, .int x3), (4, .int (w.1))] → W p l e rm_X5_tunes s m args below meth c H locs 0 0 Q (F0 m 127 ls []))
    : ∀ (n : Nat) (v : Int32 × Int32 × Dat), lp (fX5_tunes_B45 k x2 d_t d_a1 K95 K127) n v = some rv → ∀ (H : Heap) (locs : List Loc) (ls : Array Slot), va_P D vwCl [oX5 h_t q_t (d_t.1), ((q_t 0), .inl (cs 0, 36, .inl (d_t.2 0))), ((q_t 1), .inl (cs 0, 6, .inl (v.2.2.2 1))), oX0 h_a1 q_a1 (d_a1.1), ((q_a1 1), .inl (cs 0, 6, .inl (d_a1.2 1)))] H → va_D A [oX5 h_t q_t (d_t.1), ((q_t 0), .inl (cs 0, 36, .inl (d_t.2 0))), ((q_t 1), .inl (cs 0, 6, .inl (v.2.2.2 1))), oX0 h_a1 q_a1 (d_a1.1), ((q_a1 1), .inl (cs 0, 6, .inl (d_a1.2 1)))] → va_S A s.heap H locs → lv_has ls 7 [(0, .ref h_t), (1, .ref h_a1), (2, .int x2), (3, .int x3), (4, .int (v.1)), (5, .int (v.2.1))] → W p l e rm_X5_tunes s m args below meth c H locs 0 0 Q (F0 m 45 ls []) := by
  obtain ⟨hx, hb, hml, hT, hown, hlk, hrt, hK, hN, hSE⟩ := id M
  refine lp_ind (fun rec ih v hf H locs ls hP hD hS hl => ?_)
  unfold fX5_tunes_B45 at hf
  refine lv_iload hx hb dX5_tunes_45 (lv_at hl 5 rfl) ?_
  refine lv_aload_n hx hb dX5_tunes_47 rfl (lv_at hl 1 rfl) ?_
  refine va_get (D := D) (ci := 0) (v := .int (d_a1.1 0)) (C := RX0) (T := TX0) (N := 10) hx hb hT iX0 hown hK hP 3 rfl rfl 0 (by decide) (hT _ fw_X5_46) (fun _ h9 => h9) rfl dX5_tunes_48 ?_
  have g2 := ite_some hf
  refine lv_icmp_ge (tgt := 127) hx hb dX5_tunes_51 (by decide) (fun c1 => ?_) (fun c1 => ?_)
  · replace hf := g2.1 c1
    exact hK127 _ hf _ _ _ hP hD hS (lv_sub hl [0, 1, 2, 3, 4] rfl)
  · replace hf := g2.2 c1
    refine lv_iload_n hx hb dX5_tunes_54 rfl (lv_at hl 2 rfl) ?_
    refine lv_iload hx hb dX5_tunes_55 (lv_at hl 5 rfl) ?_
    obtain ⟨r3, e4, hf⟩ := bind_some hf
    refine callSNi (As := [.int x2, .int (v.2.1)]) (rest := []) M (mX6_holds l D cs sk  k x2 (v.2.1) e4) mw_X5_58 ln_X6_holds ⟨rfl, rfl, Nat.le_of_ble_eq_true rfl, Nat.le_of_ble_eq_true rfl⟩ hP hD hS hA [] (by decide) rfl rfl ⟨Nat.zero_le _, Nat.zero_le _⟩ hl.1 rfl (Nat.le_of_ble_eq_true rfl) dX5_tunes_57 (fun H locs hP hD hS => ?_)
    replace hP : va_P D vwCl [oX5 h_t q_t (d_t.1), ((q_t 0), .inl (cs 0, 36, .inl (d_t.2 0))), ((q_t 1), .inl (cs 0, 6, .inl (v.2.2.2 1))), oX0 h_a1 q_a1 (d_a1.1), ((q_a1 1), .inl (cs 0, 6, .inl (d_a1.2 1)))] H := hP
    replace hD : va_D A [oX5 h_t q_t (d_t.1), ((q_t 0), .inl (cs 0, 36, .inl (d_t.2 0))), ((q_t 1), .inl (cs 0, 6, .inl (v.2.2.2 1))), oX0 h_a1 q_a1 (d_a1.1), ((q_a1 1), .inl (cs 0, 6, .inl (d_a1.2 1)))] := hD
    have g6 := ite_some hf
    refine lv_if_ne (tgt := 66) hx hb dX5_tunes_60 (by decide) (fun c5 => ?_) (fun c5 => ?_)
    · replace hf := g6.2 c5
      refine lv_aload_n hx hb dX5_tunes_66 rfl (lv_at hl 0 rfl) ?_
      refine lv_aload_n hx hb dX5_tunes_67 rfl (lv_at hl 1 rfl) ?_
      refine lv_iload_n hx hb dX5_tunes_68 rfl (lv_at hl 2 rfl) ?_
      refine lv_iload hx hb dX5_tunes_69 (lv_at hl 5 rfl) ?_
      obtain ⟨r7, e8, hf⟩ := bind_some hf
      refine callVi (As := [.ref h_a1, .int x2, .int (v.2.1)]) (rest := []) M (mX5_neededLate l D cs sk h_t h_a1 q_t q_a1 k (d_t.1, (va_up d_t.2 1 (v.2.2.2 1))) d_a1 x2 (v.2.1) e8) mw_X5_62 ln_X5_neededLate ⟨rfl, rfl, Nat.le_of_ble_eq_true rfl, Nat.le_of_ble_eq_true rfl⟩ hP hD hS hA [0, 1, 2, 3, 4] (by decide) rfl rfl (q0 := 0) rfl rfl rfl ⟨Nat.zero_le _, Nat.zero_le _⟩ hl.1 rfl (Nat.le_of_ble_eq_true rfl) dX5_tunes_71 (fun H locs hP hD hS => ?_)
      replace hP : va_P D vwCl [oX5 h_t q_t (d_t.1), ((q_t 0), .inl (cs 0, 36, .inl (d_t.2 0))), ((q_t 1), .inl (cs 0, 6, .inl (v.2.2.2 1))), oX0 h_a1 q_a1 (d_a1.1), ((q_a1 1), .inl (cs 0, 6, .inl (d_a1.2 1)))] H := hP
      replace hD : va_D A [oX5 h_t q_t (d_t.1), ((q_t 0), .inl (cs 0, 36, .inl (d_t.2 0))), ((q_t 1), .inl (cs 0, 6, .inl (v.2.2.2 1))), oX0 h_a1 q_a1 (d_a1.1), ((q_a1 1), .inl (cs 0, 6, .inl (d_a1.2 1)))] := hD
      refine lv_istore (lv' := [(6, .int r7), (0, .ref h_t), (1, .ref h_a1), (2, .int x2), (3, .int x3), (4, .int (v.1)), (5, .int (v.2.1))]) hx hb dX5_tunes_74 hl (by decide) rfl (fun ls hl => ?_)
      refine lv_iload hx hb dX5_tunes_76 (lv_at hl 0 rfl) ?_
      refine lv_aload_n hx hb dX5_tunes_78 rfl (lv_at hl 2 rfl) ?_
      refine va_get (D := D) (ci := 0) (v := .ref (q_a1 1)) (C := RX0) (T := TX0) (N := 10) hx hb hT iX0 hown hK hP 3 rfl rfl 1 (by decide) (hT _ fw_X5_51) (fun _ h9 => h9) rfl dX5_tunes_79 ?_
      refine lv_iload hx hb dX5_tunes_82 (lv_at hl 6 rfl) ?_
      obtain ⟨hi, hf⟩ := chk_some hf
      refine va_iald (D := D) hx hb hK hP 4 0 rfl rfl hi dX5_tunes_84 ?_
      obtain ⟨r9, e10, hf⟩ := bind_some hf
      refine callSi (As := [.int ((d_a1.2 1) (v.2.1).toNatClampNeg)]) (rest := [.int r7]) M (mX5_lowestLate l D cs sk  k ((d_a1.2 1) (v.2.1).toNatClampNeg) e10) mw_X5_54 ln_X5_lowestLate ⟨rfl, rfl, Nat.le_of_ble_eq_true rfl, Nat.le_of_ble_eq_true rfl⟩ hP hD hS hA [] (by decide) rfl rfl ⟨Nat.zero_le _, Nat.zero_le _⟩ hl.1 rfl (Nat.le_of_ble_eq_true rfl) dX5_tunes_85 (fun H locs hP hD hS => ?_)
      replace hP : va_P D vwCl [oX5 h_t q_t (d_t.1), ((q_t 0), .inl (cs 0, 36, .inl (d_t.2 0))), ((q_t 1), .inl (cs 0, 6, .inl (v.2.2.2 1))), oX0 h_a1 q_a1 (d_a1.1), ((q_a1 1), .inl (cs 0, 6, .inl (d_a1.2 1)))] H := hP
      replace hD : va_D A [oX5 h_t q_t (d_t.1), ((q_t 0), .inl (cs 0, 36, .inl (d_t.2 0))), ((q_t 1), .inl (cs 0, 6, .inl (v.2.2.2 1))), oX0 h_a1 q_a1 (d_a1.1), ((q_a1 1), .inl (cs 0, 6, .inl (d_a1.2 1)))] := hD
      refine lv_sipush (v := 1000) hx hb dX5_tunes_88 rfl ?_
      refine lv_iadd hx hb dX5_tunes_91 ?_
      have g12 := ite_some hf
      refine lv_icmp_le (tgt := 97) hx hb dX5_tunes_92 (by decide) (fun c11 => ?_) (fun c11 => ?_)
      · replace hf := g12.1 c11
        refine lv_iload hx hb dX5_tunes_97 (lv_at hl 0 rfl) ?_
        refine lv_aload_n hx hb dX5_tunes_99 rfl (lv_at hl 1 rfl) ?_
        refine va_get (D := D) (ci := 5) (v := .ref (q_t 1)) (C := RX5) (T := TX5) (N := 2) hx hb hT iX5 hown hK hP 0 rfl rfl 1 (by decide) (hT _ fw_X5_15) (fun _ h9 => h9) rfl dX5_tunes_100 ?_
        refine lv_iload hx hb dX5_tunes_103 (lv_at hl 6 rfl) ?_
        obtain ⟨hi, hf⟩ := chk_some hf
        refine va_iald (D := D) hx hb hK hP 2 0 rfl rfl hi dX5_tunes_105 ?_
        have g14 := ite_some hf
        refine lv_icmp_le (tgt := 112) hx hb dX5_tunes_106 (by decide) (fun c13 => ?_) (fun c13 => ?_)
        · replace hf := g14.1 c13
          refine lv_aload_n hx hb dX5_tunes_112 rfl (lv_at hl 1 rfl) ?_
          refine va_get (D := D) (ci := 5) (v := .ref (q_t 1)) (C := RX5) (T := TX5) (N := 2) hx hb hT iX5 hown hK hP 0 rfl rfl 1 (by decide) (hT _ fw_X5_15) (fun _ h9 => h9) rfl dX5_tunes_113 ?_
          refine lv_iload hx hb dX5_tunes_116 (lv_at hl 6 rfl) ?_
          refine lv_iload hx hb dX5_tunes_118 (lv_at hl 0 rfl) ?_
          obtain ⟨hi, hf⟩ := chk_some hf
          refine va_iast (D := D) hx hb hK hP hD hS 2 0 rfl rfl hi dX5_tunes_120 (fun H locs hP hD hS => ?_)
          replace hP : va_P D vwCl [oX5 h_t q_t (d_t.1), ((q_t 0), .inl (cs 0, 36, .inl (d_t.2 0))), ((q_t 1), .inl (cs 0, 6, .inl (upd (v.2.2.2 1) (v.2.1).toNatClampNeg r7))), oX0 h_a1 q_a1 (d_a1.1), ((q_a1 1), .inl (cs 0, 6, .inl (d_a1.2 1)))] H := hP
          replace hD : va_D A [oX5 h_t q_t (d_t.1), ((q_t 0), .inl (cs 0, 36, .inl (d_t.2 0))), ((q_t 1), .inl (cs 0, 6, .inl (upd (v.2.2.2 1) (v.2.1).toNatClampNeg r7))), oX0 h_a1 q_a1 (d_a1.1), ((q_a1 1), .inl (cs 0, 6, .inl (d_a1.2 1)))] := hD
          refine lv_iinc (v := ((v.2.1) + 1)) (lv' := [(5, .int ((v.2.1) + 1)), (6, .int r7), (0, .ref h_t), (1, .ref h_a1), (2, .int x2), (3, .int x3), (4, .int (v.1))]) hx hb dX5_tunes_121 hl (k := 6) rfl rfl (by decide) rfl (fun ls hl => ?_)
          refine lv_goto (tgt := 45) hx hb dX5_tunes_124 (by decide) ?_
          exact ih _ hf _ _ _ hP hD hS (lv_sub hl [2, 3, 4, 5, 6, 0] rfl)
        · replace hf := g14.2 c13
          refine lv_iconst (v := 1) hx hb dX5_tunes_109 rfl ?_
          refine lv_istore (lv' := [(4, .int 1), (6, .int r7), (0, .ref h_t), (1, .ref h_a1), (2, .int x2), (3, .int x3), (5, .int (v.2.1))]) hx hb dX5_tunes_110 hl (by decide) rfl (fun ls hl => ?_)
          refine lv_aload_n hx hb dX5_tunes_112 rfl (lv_at hl 2 rfl) ?_
          refine va_get (D := D) (ci := 5) (v := .ref (q_t 1)) (C := RX5) (T := TX5) (N := 2) hx hb hT iX5 hown hK hP 0 rfl rfl 1 (by decide) (hT _ fw_X5_15) (fun _ h9 => h9) rfl dX5_tunes_113 ?_
          refine lv_iload hx hb dX5_tunes_116 (lv_at hl 6 rfl) ?_
          refine lv_iload hx hb dX5_tunes_118 (lv_at hl 1 rfl) ?_
          obtain ⟨hi, hf⟩ := chk_some hf
          refine va_iast (D := D) hx hb hK hP hD hS 2 0 rfl rfl hi dX5_tunes_120 (fun H locs hP hD hS => ?_)
          replace hP : va_P D vwCl [oX5 h_t q_t (d_t.1), ((q_t 0), .inl (cs 0, 36, .inl (d_t.2 0))), ((q_t 1), .inl (cs 0, 6, .inl (upd (v.2.2.2 1) (v.2.1).toNatClampNeg r7))), oX0 h_a1 q_a1 (d_a1.1), ((q_a1 1), .inl (cs 0, 6, .inl (d_a1.2 1)))] H := hP
          replace hD : va_D A [oX5 h_t q_t (d_t.1), ((q_t 0), .inl (cs 0, 36, .inl (d_t.2 0))), ((q_t 1), .inl (cs 0, 6, .inl (upd (v.2.2.2 1) (v.2.1).toNatClampNeg r7))), oX0 h_a1 q_a1 (d_a1.1), ((q_a1 1), .inl (cs 0, 6, .inl (d_a1.2 1)))] := hD
          refine lv_iinc (v := ((v.2.1) + 1)) (lv' := [(5, .int ((v.2.1) + 1)), (4, .int 1), (6, .int r7), (0, .ref h_t), (1, .ref h_a1), (2, .int x2), (3, .int x3)]) hx hb dX5_tunes_121 hl (k := 6) rfl rfl (by decide) rfl (fun ls hl => ?_)
          refine lv_goto (tgt := 45) hx hb dX5_tunes_124 (by decide) ?_
          exact ih _ hf _ _ _ hP hD hS (lv_sub hl [3, 4, 5, 6, 1, 0] rfl)
      · replace hf := g12.2 c11
        exact hK95 _ hf _ _ _ hP hD hS (lv_sub hl [] rfl)
    · replace hf := g6.1 c5
      refine lv_goto (tgt := 121) hx hb dX5_tunes_63 (by decide) ?_
      refine lv_iinc (v := ((v.2.1) + 1)) (lv' := [(5, .int ((v.2.1) + 1)), (0, .ref h_t), (1, .ref h_a1), (2, .int x2), (3, .int x3), (4, .int (v.1))]) hx hb dX5_tunes_121 hl (k := 5) rfl rfl (by decide) rfl (fun ls hl => ?_)
      refine lv_goto (tgt := 45) hx hb dX5_tunes_124 (by decide) ?_
      exact ih _ hf _ _ _ hP hD hS (lv_sub hl [1, 2, 3, 4, 5, 0] rfl)
set_option maxHeartbeats 4000000 in
set_option maxRecDepth 100000 in
theorem mX5_tunes_B33 {l : Launch} {p : Program} {e : Env} {s : State} {m : MethodId} {args : Array Value} {below : List Frame} {meth : Method} {c : Code} {D : va_G} {cs : Nat → ClassId} {sk : Nat → Nat} {A : Nat → Prop} {Q : State → Prop} (h_t : Nat) (h_a1 : Nat) (q_t : Nat → Nat) (q_a1 : Nat → Nat) (k : Nat) (x2 : Int32) (d_t : Dat) (d_a1 : Dat) {rv : Int32 × Dat}  (K95 : Dat → Option (Int32 × Dat)) (K132 : Dat → Option (Int32 × Dat)) (K140 : Dat → Option (Int32 × Dat))
    (M : MC p s m args meth c D cs sk A RX5 cX5_tunes 7 (some .boolean)) (hA : ∀ q, s.heap.size ≤ q → A q) (hR : RetZ p l e rm_X5_tunes s m args below meth c D cX5_tunes A Q (rv.1) [oX5 h_t q_t (d_t.1), ((q_t 0), .inl (cs 0, 36, .inl (d_t.2 0))), ((q_t 1), .inl (cs 0, 6, .inl (rv.2.2 1))), oX0 h_a1 q_a1 (d_a1.1), ((q_a1 1), .inl (cs 0, 6, .inl (d_a1.2 1)))])
    (hK95 : ∀ (w : Dat), K95 w = some rv → ∀ (H : Heap) (locs : List Loc) (ls : Array Slot), va_P D vwCl [oX5 h_t q_t (d_t.1), ((q_t 0), .inl (cs 0, 36, .inl (d_t.2 0))), ((q_t 1), .inl (cs 0, 6, .inl (w.2 1))), oX0 h_a1 q_a1 (d_a1.1), ((q_a1 1), .inl (cs 0, 6, .inl (d_a1.2 1)))] H → va_D A [oX5 h_t q_t (d_t.1), ((q_t 0), .inl (cs 0, 36, .inl (d_t.2 0))), ((q_t 1), .inl (cs 0, 6, .inl (w.2 1))), oX0 h_a1 q_a1 (d_a1.1), ((q_a1 1), .inl (cs 0, 6, .inl (d_a1.2 1)))] → va_S A s.heap H locs → lv_has ls 7 [] → W p l e rm_X5_tunes s m args below meth c H locs 0 0 Q (F0 m 95 ls []))
    (hK132 : ∀ (w : Dat), K132 w = some rv → ∀ (H : Heap) (locs : List Loc) (ls : Array Slot), va_P D vwCl [oX5 h_t q_t (d_t.1), ((q_t 0), .inl (cs 0, 36, .inl (d_t.2 0))), ((q_t 1), .inl (cs 0, 6, .inl (w.2 1))), oX0 h_a1 q_a1 (d_a1.1), ((q_a1 1), .inl (cs 0, 6, .inl (d_a1.2 1)))] H → va_D A [oX5 h_t q_t (d_t.1), ((q_t 0), .inl (cs 0, 36, .inl (d_t.2 0))), ((q_t 1), .inl (cs 0, 6, .inl (w.2 1))), oX0 h_a1 q_a1 (d_a1.1), ((q_a1 1), .inl (cs 0, 6, .inl (d_a1.2 1)))] → va_S A s.heap H locs → lv_has ls 7 [] → W p l e rm_X5_tunes s m args below meth c H locs 0 0 Q (F0 m 132 ls []))
    (hK140 : ∀ (w : Dat), K140 w = some rv → ∀ (H : Heap) (locs : List Loc) (ls : Array Slot), va_P D vwCl [oX5 h_t q_t (d_t.1), ((q_t 0), .inl (cs 0, 36, .inl (d_t.2 0))), ((q_t 1), .inl (cs 0, 6, .inl (w.2 1))), oX0 h_a1 q_a1 (d_a1.1), ((q_a1 1), .inl (cs 0, 6, .inl (d_a1.2 1)))] H → va_D A [oX5 h_t q_t (d_t.1), ((q_t 0), .inl (cs 0, 36, .inl (d_t.2 0))), ((q_t 1), .inl (cs 0, 6, .inl (w.2 1))), oX0 h_a1 q_a1 (d_a1.1), ((q_a1 1), .inl (cs 0, 6, .inl (d_a1.2 1)))] → va_S A s.heap H locs → lv_has ls 7 [] → W p l e rm_X5_tunes s m args below meth c H locs 0 0 Q (F0 m 140 ls []))
    : ∀ (n : Nat) (v : Int32 × Dat), lp (fX5_tunes_B33 k x2 d_t d_a1 K95 K132 K140) n v = some rv → ∀ (H : Heap) (locs : List Loc) (ls : Array Slot), va_P D vwCl [oX5 h_t q_t (d_t.1), ((q_t 0), .inl (cs 0, 36, .inl (d_t.2 0))), ((q_t 1), .inl (cs 0, 6, .inl (v.2.2 1))), oX0 h_a1 q_a1 (d_a1.1), ((q_a1 1), .inl (cs 0, 6, .inl (d_a1.2 1)))] H → va_D A [oX5 h_t q_t (d_t.1), ((q_t 0), .inl (cs 0, 36, .inl (d_t.2 0))), ((q_t 1), .inl (cs 0, 6, .inl (v.2.2 1))), oX0 h_a1 q_a1 (d_a1.1), ((q_a1 1), .inl (cs 0, 6, .inl (d_a1.2 1)))] → va_S A s.heap H locs → lv_has ls 7 [(0, .ref h_t), (1, .ref h_a1), (2, .int x2), (3, .int (v.1))] → W p l e rm_X5_tunes s m args below meth c H locs 0 0 Q (F0 m 33 ls []) := by
  obtain ⟨hx, hb, hml, hT, hown, hlk, hrt, hK, hN, hSE⟩ := id M
  refine lp_ind (fun rec ih v hf H locs ls hP hD hS hl => ?_)
  unfold fX5_tunes_B33 at hf
  refine lv_iload_n hx hb dX5_tunes_33 rfl (lv_at hl 3 rfl) ?_
  refine lv_bipush (v := 64) hx hb dX5_tunes_34 rfl ?_
  have g2 := ite_some hf
  refine lv_icmp_ge (tgt := 140) hx hb dX5_tunes_36 (by decide) (fun c1 => ?_) (fun c1 => ?_)
  · replace hf := g2.1 c1
    exact hK140 _ hf _ _ _ hP hD hS (lv_sub hl [] rfl)
  · replace hf := g2.2 c1
    refine lv_iconst (v := 0) hx hb dX5_tunes_39 rfl ?_
    refine lv_istore (lv' := [(4, .int 0), (0, .ref h_t), (1, .ref h_a1), (2, .int x2), (3, .int (v.1))]) hx hb dX5_tunes_40 hl (by decide) rfl (fun ls hl => ?_)
    refine lv_iconst (v := 0) hx hb dX5_tunes_42 rfl ?_
    refine lv_istore (lv' := [(5, .int 0), (4, .int 0), (0, .ref h_t), (1, .ref h_a1), (2, .int x2), (3, .int (v.1))]) hx hb dX5_tunes_43 hl (by decide) rfl (fun ls hl => ?_)
    refine mX5_tunes_B45 h_t h_a1 q_t q_a1 k x2 (v.1) (d_t.1, (va_up d_t.2 1 (v.2.2 1))) d_a1 _ _ M hA hR (fun w3 hf H locs ls hP hD hS hl => ?_) (fun w4 hf H locs ls hP hD hS hl => ?_) _ _ hf _ _ _ hP hD hS (lv_sub hl [2, 3, 4, 5, 1, 0] rfl)
    · exact hK95 _ hf _ _ _ hP hD hS (lv_sub hl [] rfl)
    · refine lv_iload hx hb dX5_tunes_127 (lv_at hl 4 rfl) ?_
      have g6 := ite_some hf
      refine lv_if_ne (tgt := 134) hx hb dX5_tunes_129 (by decide) (fun c5 => ?_) (fun c5 => ?_)
      · replace hf := g6.2 c5
        refine lv_iinc (v := ((v.1) + 1)) (lv' := [(3, .int ((v.1) + 1)), (0, .ref h_t), (1, .ref h_a1), (2, .int x2), (4, .int (w4.1))]) hx hb dX5_tunes_134 hl (k := 3) rfl rfl (by decide) rfl (fun ls hl => ?_)
        refine lv_goto (tgt := 33) hx hb dX5_tunes_137 (by decide) ?_
        exact ih _ hf _ _ _ hP hD hS (lv_sub hl [1, 2, 3, 0] rfl)
      · replace hf := g6.1 c5
        exact hK132 _ hf _ _ _ hP hD hS (lv_sub hl [] rfl)
set_option maxHeartbeats 4000000 in
set_option maxRecDepth 100000 in
theorem mX5_tunes (l : Launch) (D : va_G) (cs : Nat → ClassId) (sk : Nat → Nat) (h_t : Nat) (h_a1 : Nat) (q_t : Nat → Nat) (q_a1 : Nat → Nat) (k : Nat) (d_t : Dat) (d_a1 : Dat) (x2 : Int32) {rv : Int32 × Dat} (hf : fX5_tunes k d_t d_a1 x2 = some rv) : CTi l yX5_tunes (Cond.code yX5_tunes cX5_tunes 7 (some .boolean) :: gtbl) rm_X5_tunes D cs sk [.ref h_t, .ref h_a1, .int x2] [oX5 h_t q_t (d_t.1), ((q_t 0), .inl (cs 0, 36, .inl (d_t.2 0))), ((q_t 1), .inl (cs 0, 6, .inl (d_t.2 1))), oX0 h_a1 q_a1 (d_a1.1), ((q_a1 1), .inl (cs 0, 6, .inl (d_a1.2 1)))] (rv.1) [oX5 h_t q_t (d_t.1), ((q_t 0), .inl (cs 0, 36, .inl (d_t.2 0))), ((q_t 1), .inl (cs 0, 6, .inl (rv.2.2 1))), oX0 h_a1 q_a1 (d_a1.1), ((q_a1 1), .inl (cs 0, 6, .inl (d_a1.2 1)))] := by
  refine CTi.ofZ RX5 (by decide +kernel) rfl (Nat.le_of_ble_eq_true rfl) (fun p e s m args below meth c A Q ls M hA hR hl hP hD hS => ?_)
  obtain ⟨hx, hb, hml, hT, hown, hlk, hrt, hK, hN, hSE⟩ := id M
  replace hl : lv_has ls 7 [(0, .ref h_t), (1, .ref h_a1), (2, .int x2)] := hl
  unfold fX5_tunes at hf
  refine lv_iconst (v := 0) hx hb dX5_tunes_0 rfl ?_
  refine lv_istore_n (lv' := [(3, .int 0), (0, .ref h_t), (1, .ref h_a1), (2, .int x2)]) hx hb dX5_tunes_1 rfl hl (by decide) rfl (fun ls hl => ?_)
  refine mX5_tunes_B2 h_t h_a1 q_t q_a1 k x2 d_t d_a1 _ M hA hR (fun w1 hf H locs ls hP hD hS hl => ?_) _ _ hf _ _ _ hP hD hS (lv_sub hl [1, 2, 3, 0] rfl)
  · refine lv_iconst (v := 0) hx hb dX5_tunes_31 rfl ?_
    refine lv_istore_n (lv' := [(3, .int 0), (0, .ref h_t), (1, .ref h_a1), (2, .int x2)]) hx hb dX5_tunes_32 rfl hl (by decide) rfl (fun ls hl => ?_)
    refine mX5_tunes_B33 h_t h_a1 q_t q_a1 k x2 (d_t.1, (va_up d_t.2 1 (w1.2 1))) d_a1 _ _ _ M hA hR (fun w2 hf H locs ls hP hD hS hl => ?_) (fun w3 hf H locs ls hP hD hS hl => ?_) (fun w4 hf H locs ls hP hD hS hl => ?_) _ _ hf _ _ _ hP hD hS (lv_sub hl [1, 2, 3, 0] rfl)
    · refine lv_iconst (v := 0) hx hb dX5_tunes_95 rfl ?_
      have e9 := Option.some.inj hf
      subst e9
      exact hR _ _ _ _ dX5_tunes_96 (Or.inl rfl) hP hS
    · refine lv_iconst (v := 1) hx hb dX5_tunes_132 rfl ?_
      have e9 := Option.some.inj hf
      subst e9
      exact hR _ _ _ _ dX5_tunes_133 (Or.inr rfl) hP hS
    · refine lv_iconst (v := 0) hx hb dX5_tunes_140 rfl ?_
      have e9 := Option.some.inj hf
      subst e9
      exact hR _ _ _ _ dX5_tunes_141 (Or.inl rfl) hP hS
abbrev rm_X5_leastOffset : Room := { frames := 1, cells := 0, slots := 0, locals := 24 }
def fX5_leastOffset (k : Nat) (d_t : Dat) (d_a1 : Dat) (x2 : Int32) : Option (Int32) :=
  chk 6 x2 (chk 6 x2 ((if ((d_a1.2 1) x2.toNatClampNeg) = 1 then some (((d_t.2 1) x2.toNatClampNeg) + 20) else chk 6 x2 ((if ((d_a1.2 1) x2.toNatClampNeg) = 3 then (if 0 < ((d_t.2 1) x2.toNatClampNeg) then some ((d_t.2 1) x2.toNatClampNeg) else some (if ((-500) : Int32) < (((d_t.2 1) x2.toNatClampNeg) - 9) then (((d_t.2 1) x2.toNatClampNeg) - 9) else ((-500) : Int32))) else some ((d_t.2 1) x2.toNatClampNeg))))))
set_option maxHeartbeats 4000000 in
set_option maxRecDepth 100000 in
theorem mX5_leastOffset (l : Launch) (D : va_G) (cs : Nat → ClassId) (sk : Nat → Nat) (h_t : Nat) (h_a1 : Nat) (q_t : Nat → Nat) (q_a1 : Nat → Nat) (k : Nat) (d_t : Dat) (d_a1 : Dat) (x2 : Int32) {rv : Int32} (hf : fX5_leastOffset k d_t d_a1 x2 = some rv) : CTi l yX5_leastOffset (Cond.code yX5_leastOffset cX5_leastOffset 4 (some .int) :: gtbl) rm_X5_leastOffset D cs sk [.ref h_t, .ref h_a1, .int x2] [oX5 h_t q_t (d_t.1), ((q_t 1), .inl (cs 0, 6, .inl (d_t.2 1))), oX0 h_a1 q_a1 (d_a1.1), ((q_a1 1), .inl (cs 0, 6, .inl (d_a1.2 1)))] (rv) [oX5 h_t q_t (d_t.1), ((q_t 1), .inl (cs 0, 6, .inl (d_t.2 1))), oX0 h_a1 q_a1 (d_a1.1), ((q_a1 1), .inl (cs 0, 6, .inl (d_a1.2 1)))] := by
  refine CTi.of RX5 (by decide +kernel) rfl (Nat.le_of_ble_eq_true rfl) (fun p e s m args below meth c A Q ls M hA hR hl hP hD hS => ?_)
  obtain ⟨hx, hb, hml, hT, hown, hlk, hrt, hK, hN, hSE⟩ := id M
  replace hl : lv_has ls 4 [(0, .ref h_t), (1, .ref h_a1), (2, .int x2)] := hl
  unfold fX5_leastOffset at hf
  refine lv_aload_n hx hb dX5_leastOffset_0 rfl (lv_at hl 0 rfl) ?_
  refine va_get (D := D) (ci := 5) (v := .ref (q_t 1)) (C := RX5) (T := TX5) (N := 2) hx hb hT iX5 hown hK hP 0 rfl rfl 1 (by decide) (hT _ fw_X5_15) (fun _ h9 => h9) rfl dX5_leastOffset_1 ?_
  refine lv_iload_n hx hb dX5_leastOffset_4 rfl (lv_at hl 2 rfl) ?_
  obtain ⟨hi, hf⟩ := chk_some hf
  refine va_iald (D := D) hx hb hK hP 1 0 rfl rfl hi dX5_leastOffset_5 ?_
  refine lv_istore_n (lv' := [(3, .int ((d_t.2 1) x2.toNatClampNeg)), (0, .ref h_t), (1, .ref h_a1), (2, .int x2)]) hx hb dX5_leastOffset_6 rfl hl (by decide) rfl (fun ls hl => ?_)
  refine lv_aload_n hx hb dX5_leastOffset_7 rfl (lv_at hl 2 rfl) ?_
  refine va_get (D := D) (ci := 0) (v := .ref (q_a1 1)) (C := RX0) (T := TX0) (N := 10) hx hb hT iX0 hown hK hP 2 rfl rfl 1 (by decide) (hT _ fw_X5_51) (fun _ h9 => h9) rfl dX5_leastOffset_8 ?_
  refine lv_iload_n hx hb dX5_leastOffset_11 rfl (lv_at hl 3 rfl) ?_
  obtain ⟨hi, hf⟩ := chk_some hf
  refine va_iald (D := D) hx hb hK hP 3 0 rfl rfl hi dX5_leastOffset_12 ?_
  refine lv_iconst (v := 1) hx hb dX5_leastOffset_13 rfl ?_
  have g2 := ite_some hf
  refine lv_icmp_ne (tgt := 22) hx hb dX5_leastOffset_14 (by decide) (fun c1 => ?_) (fun c1 => ?_)
  · replace hf := g2.2 c1
    refine lv_aload_n hx hb dX5_leastOffset_22 rfl (lv_at hl 2 rfl) ?_
    refine va_get (D := D) (ci := 0) (v := .ref (q_a1 1)) (C := RX0) (T := TX0) (N := 10) hx hb hT iX0 hown hK hP 2 rfl rfl 1 (by decide) (hT _ fw_X5_51) (fun _ h9 => h9) rfl dX5_leastOffset_23 ?_
    refine lv_iload_n hx hb dX5_leastOffset_26 rfl (lv_at hl 3 rfl) ?_
    obtain ⟨hi, hf⟩ := chk_some hf
    refine va_iald (D := D) hx hb hK hP 3 0 rfl rfl hi dX5_leastOffset_27 ?_
    refine lv_iconst (v := 3) hx hb dX5_leastOffset_28 rfl ?_
    have g4 := ite_some hf
    refine lv_icmp_ne (tgt := 47) hx hb dX5_leastOffset_29 (by decide) (fun c3 => ?_) (fun c3 => ?_)
    · replace hf := g4.2 c3
      refine lv_iload_n hx hb dX5_leastOffset_47 rfl (lv_at hl 0 rfl) ?_
      have e9 := Option.some.inj hf
      subst e9
      exact hR _ _ _ _ dX5_leastOffset_48 hP hS
    · replace hf := g4.1 c3
      refine lv_iload_n hx hb dX5_leastOffset_32 rfl (lv_at hl 0 rfl) ?_
      have g6 := ite_some hf
      refine lv_if_gt (tgt := 47) hx hb dX5_leastOffset_33 (by decide) (fun c5 => ?_) (fun c5 => ?_)
      · replace hf := g6.1 c5
        refine lv_iload_n hx hb dX5_leastOffset_47 rfl (lv_at hl 0 rfl) ?_
        have e9 := Option.some.inj hf
        subst e9
        exact hR _ _ _ _ dX5_leastOffset_48 hP hS
      · replace hf := g6.2 c5
        refine lv_sipush (v := (-500)) hx hb dX5_leastOffset_36 rfl ?_
        refine lv_iload_n hx hb dX5_leastOffset_39 rfl (lv_at hl 0 rfl) ?_
        refine lv_bipush (v := 9) hx hb dX5_leastOffset_40 rfl ?_
        refine lv_isub hx hb dX5_leastOffset_42 ?_
        refine va_mmax hx hb (hml.trans hl.1.symm) hown (hT _ jw_X5_40.1) (hT _ jw_X5_40.2.1) (hT _ jw_X5_40.2.2.1) (hT _ jw_X5_40.2.2.2) (Nat.le_of_ble_eq_true rfl) (Nat.le_of_ble_eq_true rfl) (Nat.zero_le _) (Nat.zero_le _) dX5_leastOffset_43 ?_
        have e9 := Option.some.inj hf
        subst e9
        exact hR _ _ _ _ dX5_leastOffset_46 hP hS
  · replace hf := g2.1 c1
    refine lv_iload_n hx hb dX5_leastOffset_17 rfl (lv_at hl 0 rfl) ?_
    refine lv_bipush (v := 20) hx hb dX5_leastOffset_18 rfl ?_
    refine lv_iadd hx hb dX5_leastOffset_20 ?_
    have e9 := Option.some.inj hf
    subst e9
    exact hR _ _ _ _ dX5_leastOffset_21 hP hS
