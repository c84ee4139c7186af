abbrev rm_X7_nextEar : Room := { frames := 3, cells := 0, slots := 0, locals := 68 }
def fX7_nextEar_B60 (k : Nat) (x1 : Int32) (x4 : Int32) (x6 : Int32) (d_t : Dat) (K150 : Int32 → Option (Int32 × Dat)) (rec : Int32 × Int32 → Option (Int32 × Dat)) (v : Int32 × Int32) : Option (Int32 × Dat) :=
  (if 6 ≤ (v.2) then K150 (v.1) else (if ((x1 >>> (x6 &&& 31)) &&& 1) = 1 then (if ((x1 >>> ((v.2) &&& 31)) &&& 1) = 1 then (if (1 : Int32) = 0 then rec (((v.1) + 0), ((v.2) + 1)) else (fX7_soundOf k d_t x6 x4).bind (fun (r33 : Int32) => (fX7_soundOf k d_t x6 0).bind (fun (r35 : Int32) => (fX7_soundOf k d_t (v.2) x4).bind (fun (r37 : Int32) => (fX7_soundOf k d_t (v.2) 0).bind (fun (r39 : Int32) => (if (r33 - r35) = (r37 - r39) then rec (((v.1) + 0), ((v.2) + 1)) else rec (((v.1) + 1), ((v.2) + 1)))))))) else (if (0 : Int32) = 0 then rec (((v.1) + 0), ((v.2) + 1)) else (fX7_soundOf k d_t x6 x4).bind (fun (r21 : Int32) => (fX7_soundOf k d_t x6 0).bind (fun (r23 : Int32) => (fX7_soundOf k d_t (v.2) x4).bind (fun (r25 : Int32) => (fX7_soundOf k d_t (v.2) 0).bind (fun (r27 : Int32) => (if (r21 - r23) = (r25 - r27) then rec (((v.1) + 0), ((v.2) + 1)) else rec (((v.1) + 1), ((v.2) + 1))))))))) else (if (0 : Int32) = 0 then rec (((v.1) + 0), ((v.2) + 1)) else (fX7_soundOf k d_t x6 x4).bind (fun (r7 : Int32) => (fX7_soundOf k d_t x6 0).bind (fun (r9 : Int32) => (fX7_soundOf k d_t (v.2) x4).bind (fun (r11 : Int32) => (fX7_soundOf k d_t (v.2) 0).bind (fun (r13 : Int32) => (if (r7 - r9) = (r11 - r13) then rec (((v.1) + 0), ((v.2) + 1)) else rec (((v.1) + 1), ((v.2) + 1))))))))))
def fX7_nextEar_B47 (k : Nat) (x1 : Int32) (x4 : Int32) (d_t : Dat) (K156 : Int32 → Option (Int32 × Dat)) (rec : Int32 × Int32 → Option (Int32 × Dat)) (v : Int32 × Int32) : Option (Int32 × Dat) :=
  (if 6 ≤ (v.2) then K156 (v.1) else lp (fX7_nextEar_B60 k x1 x4 (v.2) d_t (fun (w3 : Int32) => rec (w3, ((v.2) + 1)))) k ((v.1), ((v.2) + 1)))
def fX7_nextEar_B32 (k : Nat) (x1 : Int32) (d_t : Dat) (K188 : Int32 → Option (Int32 × Dat)) (rec : Int32 × Int32 × Int32 → Option (Int32 × Dat)) (v : Int32 × Int32 × Int32) : Option (Int32 × Dat) :=
  (fX7_ears k d_t).bind (fun (r1 : Int32) => (if r1 ≤ (v.2.2) then K188 (v.1) else lp (fX7_nextEar_B47 k x1 (v.2.2) d_t (fun (w5 : Int32) => (if w5 ≤ (v.2.1) then (if w5 ≤ (v.2.1) then rec ((v.1), (v.2.1), ((v.2.2) + 1)) else rec ((v.1), w5, ((v.2.2) + 1))) else (if w5 ≤ (v.2.1) then rec ((v.2.2), (v.2.1), ((v.2.2) + 1)) else rec ((v.2.2), w5, ((v.2.2) + 1)))))) k (0, 0)))
def fX7_nextEar (k : Nat) (d_t : Dat) (x1 : Int32) : Option (Int32 × Dat) :=
  (fX7_windows k d_t).bind (fun (r1 : Int32) => (fX7_in k x1.toInt64 0 ((1 <<< (r1 &&& 31)) - 1).toInt64).bind (fun (r3 : Int32) => (if r3 = 0 then (fX7_bad k d_t (-2)).bind (fun (r8 : Int32 × Dat) => some ((r8.1), (d_t.1, (va_up d_t.2 3 (r8.2.2 3))))) else lp (fX7_nextEar_B32 k x1 d_t (fun (w7 : Int32) => some (w7, d_t))) k ((-1), 0, 0))))
set_option maxHeartbeats 4000000 in
set_option maxRecDepth 100000 in
theorem mX7_nextEar_B60 {l : Launch} {p : Program} {e : Env} {s : State} {m : MethodId} {args : Array Value} {below : List Frame} {meth : Method} {c : Code} {D : va_G} {cs : Nat → ClassId} {sk : Nat → Nat} {A : Nat → Prop} {Q : State → Prop} (h_t : Nat) (q_t : Nat → Nat) (k : Nat) (x1 : Int32) (x2 : Int32) (x3 : Int32) (x4 : Int32) (x6 : Int32) (d_t : Dat) {rv : Int32 × Dat}  (K150 : Int32 → Option (Int32 × Dat))
    (M : MC p s m args meth c D cs sk A RX7 cX7_nextEar 9 (some .int)) (hA : ∀ q, s.heap.size ≤ q → A q) (hR : RetI p l e rm_X7_nextEar s m args below meth c D cX7_nextEar A Q (rv.1) [oX7 h_t q_t (d_t.1), ((q_t 0), .inl (cs 0, 106, .inl (d_t.2 0))), ((q_t 3), .inl (cs 0, 3, .inl (rv.2.2 3)))])
    (hK150 : ∀ (w : Int32), K150 w = some rv → ∀ (H : Heap) (locs : List Loc) (ls : Array Slot), va_P D vwCl [oX7 h_t q_t (d_t.1), ((q_t 0), .inl (cs 0, 106, .inl (d_t.2 0))), ((q_t 3), .inl (cs 0, 3, .inl (d_t.2 3)))] H → va_D A [oX7 h_t q_t (d_t.1), ((q_t 0), .inl (cs 0, 106, .inl (d_t.2 0))), ((q_t 3), .inl (cs 0, 3, .inl (d_t.2 3)))] → va_S A s.heap H locs → lv_has ls 9 [(0, .ref h_t), (1, .int x1), (2, .int x2), (3, .int x3), (4, .int x4), (5, .int w), (6, .int x6)] → W p l e rm_X7_nextEar s m args below meth c H locs 0 0 Q (F0 m 150 ls []))
    : ∀ (n : Nat) (v : Int32 × Int32), lp (fX7_nextEar_B60 k x1 x4 x6 d_t K150) n v = some rv → ∀ (H : Heap) (locs : List Loc) (ls : Array Slot), va_P D vwCl [oX7 h_t q_t (d_t.1), ((q_t 0), .inl (cs 0, 106, .inl (d_t.2 0))), ((q_t 3), .inl (cs 0, 3, .inl (d_t.2 3)))] H → va_D A [oX7 h_t q_t (d_t.1), ((q_t 0), .inl (cs 0, 106, .inl (d_t.2 0))), ((q_t 3), .inl (cs 0, 3, .inl (d_t.2 3)))] → va_S A s.heap H locs → lv_has ls 9 [(0, .ref h_t), (1, .int x1), (2, .int x2), (3, .int x3), (4, .int x4), (5, .int (v.1)), (6, .int x6), (7, .int (v.2))] → W p l e rm_X7_nextEar s m args below meth c H locs 0 0 Q (F0 m 60 ls []) := by
  obtain ⟨hx, hb, hml, hT, hown, hlk, hrt, hK, hN, hSE⟩ := id M
  refine lp_ind (fun rec ih v hf H locs ls hP hD hS hl => ?_)
  unfold fX7_nextEar_B60 at hf
  refine lv_iload hx hb dX7_nextEar_60 (lv_at hl 7 rfl) ?_
  refine lv_bipush (v := 6) hx hb dX7_nextEar_62 rfl ?_
  have g2 := ite_some hf
  refine lv_icmp_ge (tgt := 150) hx hb dX7_nextEar_64 (by decide) (fun c1 => ?_) (fun c1 => ?_)
  · replace hf := g2.1 c1
    exact hK150 _ hf _ _ _ hP hD hS (lv_sub hl [0, 1, 2, 3, 4, 5, 6] rfl)
  · replace hf := g2.2 c1
    refine lv_iload_n hx hb dX7_nextEar_67 rfl (lv_at hl 1 rfl) ?_
    refine lv_iload hx hb dX7_nextEar_68 (lv_at hl 6 rfl) ?_
    refine lv_ishr hx hb dX7_nextEar_70 ?_
    refine lv_iconst (v := 1) hx hb dX7_nextEar_71 rfl ?_
    refine lv_iand hx hb dX7_nextEar_72 ?_
    refine lv_iconst (v := 1) hx hb dX7_nextEar_73 rfl ?_
    have g4 := ite_some hf
    refine lv_icmp_ne (tgt := 91) hx hb dX7_nextEar_74 (by decide) (fun c3 => ?_) (fun c3 => ?_)
    · replace hf := g4.2 c3
      refine lv_iconst (v := 0) hx hb dX7_nextEar_91 rfl ?_
      refine lv_istore (lv' := [(8, .int 0), (0, .ref h_t), (1, .int x1), (2, .int x2), (3, .int x3), (4, .int x4), (5, .int (v.1)), (6, .int x6), (7, .int (v.2))]) hx hb dX7_nextEar_92 hl (by decide) rfl (fun ls hl => ?_)
      refine lv_iload hx hb dX7_nextEar_94 (lv_at hl 6 rfl) ?_
      refine lv_iload hx hb dX7_nextEar_96 (lv_at hl 0 rfl) ?_
      have g6 := ite_some hf
      refine lv_if_eq (tgt := 140) hx hb dX7_nextEar_98 (by decide) (fun c5 => ?_) (fun c5 => ?_)
      · replace hf := g6.1 c5
        refine lv_iconst (v := 0) hx hb dX7_nextEar_140 rfl ?_
        refine lv_iadd hx hb dX7_nextEar_141 ?_
        refine lv_istore (lv' := [(5, .int ((v.1) + 0)), (8, .int 0), (0, .ref h_t), (1, .int x1), (2, .int x2), (3, .int x3), (4, .int x4), (6, .int x6), (7, .int (v.2))]) hx hb dX7_nextEar_142 hl (by decide) rfl (fun ls hl => ?_)
        refine lv_iinc (v := ((v.2) + 1)) (lv' := [(7, .int ((v.2) + 1)), (5, .int ((v.1) + 0)), (8, .int 0), (0, .ref h_t), (1, .int x1), (2, .int x2), (3, .int x3), (4, .int x4), (6, .int x6)]) hx hb dX7_nextEar_144 hl (k := 8) rfl rfl (by decide) rfl (fun ls hl => ?_)
        refine lv_goto (tgt := 60) hx hb dX7_nextEar_147 (by decide) ?_
        exact ih _ hf _ _ _ hP hD hS (lv_sub hl [3, 4, 5, 6, 7, 1, 8, 0] rfl)
      · replace hf := g6.2 c5
        refine lv_aload_n hx hb dX7_nextEar_101 rfl (lv_at hl 1 rfl) ?_
        refine lv_iload hx hb dX7_nextEar_102 (lv_at hl 7 rfl) ?_
        refine lv_iload hx hb dX7_nextEar_104 (lv_at hl 5 rfl) ?_
        obtain ⟨r7, e8, hf⟩ := bind_some hf
        refine callVi (As := [.int x6, .int x4]) (rest := [.int (v.1)]) M (mX7_soundOf l D cs sk h_t q_t k d_t x6 x4 e8) mw_X7_136 ln_X7_soundOf ⟨rfl, rfl, Nat.le_of_ble_eq_true rfl, Nat.le_of_ble_eq_true rfl⟩ hP hD hS hA [0, 1] (by decide) rfl rfl (q0 := 0) rfl rfl rfl ⟨Nat.zero_le _, Nat.zero_le _⟩ hl.1 rfl (Nat.le_of_ble_eq_true rfl) dX7_nextEar_106 (fun H locs hP hD hS => ?_)
        replace hP : va_P D vwCl [oX7 h_t q_t (d_t.1), ((q_t 0), .inl (cs 0, 106, .inl (d_t.2 0))), ((q_t 3), .inl (cs 0, 3, .inl (d_t.2 3)))] H := hP
        replace hD : va_D A [oX7 h_t q_t (d_t.1), ((q_t 0), .inl (cs 0, 106, .inl (d_t.2 0))), ((q_t 3), .inl (cs 0, 3, .inl (d_t.2 3)))] := hD
        refine lv_aload_n hx hb dX7_nextEar_109 rfl (lv_at hl 1 rfl) ?_
        refine lv_iload hx hb dX7_nextEar_110 (lv_at hl 7 rfl) ?_
        refine lv_iconst (v := 0) hx hb dX7_nextEar_112 rfl ?_
        obtain ⟨r9, e10, hf⟩ := bind_some hf
        refine callVi (As := [.int x6, .int 0]) (rest := [.int r7, .int (v.1)]) M (mX7_soundOf l D cs sk h_t q_t k d_t x6 0 e10) mw_X7_136 ln_X7_soundOf ⟨rfl, rfl, Nat.le_of_ble_eq_true rfl, Nat.le_of_ble_eq_true rfl⟩ hP hD hS hA [0, 1] (by decide) rfl rfl (q0 := 0) rfl rfl rfl ⟨Nat.zero_le _, Nat.zero_le _⟩ hl.1 rfl (Nat.le_of_ble_eq_true rfl) dX7_nextEar_113 (fun H locs hP hD hS => ?_)
        replace hP : va_P D vwCl [oX7 h_t q_t (d_t.1), ((q_t 0), .inl (cs 0, 106, .inl (d_t.2 0))), ((q_t 3), .inl (cs 0, 3, .inl (d_t.2 3)))] H := hP
        replace hD : va_D A [oX7 h_t q_t (d_t.1), ((q_t 0), .inl (cs 0, 106, .inl (d_t.2 0))), ((q_t 3), .inl (cs 0, 3, .inl (d_t.2 3)))] := hD
        refine lv_isub hx hb dX7_nextEar_116 ?_
        refine lv_aload_n hx hb dX7_nextEar_117 rfl (lv_at hl 1 rfl) ?_
        refine lv_iload hx hb dX7_nextEar_118 (lv_at hl 8 rfl) ?_
        refine lv_iload hx hb dX7_nextEar_120 (lv_at hl 5 rfl) ?_
        obtain ⟨r11, e12, hf⟩ := bind_some hf
        refine callVi (As := [.int (v.2), .int x4]) (rest := [.int (r7 - r9), .int (v.1)]) M (mX7_soundOf l D cs sk h_t q_t k d_t (v.2) x4 e12) mw_X7_136 ln_X7_soundOf ⟨rfl, rfl, Nat.le_of_ble_eq_true rfl, Nat.le_of_ble_eq_true rfl⟩ hP hD hS hA [0, 1] (by decide) rfl rfl (q0 := 0) rfl rfl rfl ⟨Nat.zero_le _, Nat.zero_le _⟩ hl.1 rfl (Nat.le_of_ble_eq_true rfl) dX7_nextEar_122 (fun H locs hP hD hS => ?_)
        replace hP : va_P D vwCl [oX7 h_t q_t (d_t.1), ((q_t 0), .inl (cs 0, 106, .inl (d_t.2 0))), ((q_t 3), .inl (cs 0, 3, .inl (d_t.2 3)))] H := hP
        replace hD : va_D A [oX7 h_t q_t (d_t.1), ((q_t 0), .inl (cs 0, 106, .inl (d_t.2 0))), ((q_t 3), .inl (cs 0, 3, .inl (d_t.2 3)))] := hD
        refine lv_aload_n hx hb dX7_nextEar_125 rfl (lv_at hl 1 rfl) ?_
        refine lv_iload hx hb dX7_nextEar_126 (lv_at hl 8 rfl) ?_
        refine lv_iconst (v := 0) hx hb dX7_nextEar_128 rfl ?_
        obtain ⟨r13, e14, hf⟩ := bind_some hf
        refine callVi (As := [.int (v.2), .int 0]) (rest := [.int r11, .int (r7 - r9), .int (v.1)]) M (mX7_soundOf l D cs sk h_t q_t k d_t (v.2) 0 e14) mw_X7_136 ln_X7_soundOf ⟨rfl, rfl, Nat.le_of_ble_eq_true rfl, Nat.le_of_ble_eq_true rfl⟩ hP hD hS hA [0, 1] (by decide) rfl rfl (q0 := 0) rfl rfl rfl ⟨Nat.zero_le _, Nat.zero_le _⟩ hl.1 rfl (Nat.le_of_ble_eq_true rfl) dX7_nextEar_129 (fun H locs hP hD hS => ?_)
        replace hP : va_P D vwCl [oX7 h_t q_t (d_t.1), ((q_t 0), .inl (cs 0, 106, .inl (d_t.2 0))), ((q_t 3), .inl (cs 0, 3, .inl (d_t.2 3)))] H := hP
        replace hD : va_D A [oX7 h_t q_t (d_t.1), ((q_t 0), .inl (cs 0, 106, .inl (d_t.2 0))), ((q_t 3), .inl (cs 0, 3, .inl (d_t.2 3)))] := hD
        refine lv_isub hx hb dX7_nextEar_132 ?_
        have g16 := ite_some hf
        refine lv_icmp_eq (tgt := 140) hx hb dX7_nextEar_133 (by decide) (fun c15 => ?_) (fun c15 => ?_)
        · replace hf := g16.1 c15
          refine lv_iconst (v := 0) hx hb dX7_nextEar_140 rfl ?_
          refine lv_iadd hx hb dX7_nextEar_141 ?_
          refine lv_istore (lv' := [(5, .int ((v.1) + 0)), (8, .int 0), (0, .ref h_t), (1, .int x1), (2, .int x2), (3, .int x3), (4, .int x4), (6, .int x6), (7, .int (v.2))]) hx hb dX7_nextEar_142 hl (by decide) rfl (fun ls hl => ?_)
          refine lv_iinc (v := ((v.2) + 1)) (lv' := [(7, .int ((v.2) + 1)), (5, .int ((v.1) + 0)), (8, .int 0), (0, .ref h_t), (1, .int x1), (2, .int x2), (3, .int x3), (4, .int x4), (6, .int x6)]) hx hb dX7_nextEar_144 hl (k := 8) rfl rfl (by decide) rfl (fun ls hl => ?_)
          refine lv_goto (tgt := 60) hx hb dX7_nextEar_147 (by decide) ?_
          exact ih _ hf _ _ _ hP hD hS (lv_sub hl [3, 4, 5, 6, 7, 1, 8, 0] rfl)
        · replace hf := g16.2 c15
          refine lv_iconst (v := 1) hx hb dX7_nextEar_136 rfl ?_
          refine lv_goto (tgt := 141) hx hb dX7_nextEar_137 (by decide) ?_
          refine lv_iadd hx hb dX7_nextEar_141 ?_
          refine lv_istore (lv' := [(5, .int ((v.1) + 1)), (8, .int 0), (0, .ref h_t), (1, .int x1), (2, .int x2), (3, .int x3), (4, .int x4), (6, .int x6), (7, .int (v.2))]) hx hb dX7_nextEar_142 hl (by decide) rfl (fun ls hl => ?_)
          refine lv_iinc (v := ((v.2) + 1)) (lv' := [(7, .int ((v.2) + 1)), (5, .int ((v.1) + 1)), (8, .int 0), (0, .ref h_t), (1, .int x1), (2, .int x2), (3, .int x3), (4, .int x4), (6, .int x6)]) hx hb dX7_nextEar_144 hl (k := 8) rfl rfl (by decide) rfl (fun ls hl => ?_)
          refine lv_goto (tgt := 60) hx hb dX7_nextEar_147 (by decide) ?_
          exact ih _ hf _ _ _ hP hD hS (lv_sub hl [3, 4, 5, 6, 7, 1, 8, 0] rfl)
    · replace hf := g4.1 c3
      refine lv_iload_n hx hb dX7_nextEar_77 rfl (lv_at hl 1 rfl) ?_
      refine lv_iload hx hb dX7_nextEar_78 (lv_at hl 7 rfl) ?_
      refine lv_ishr hx hb dX7_nextEar_80 ?_
      refine lv_iconst (v := 1) hx hb dX7_nextEar_81 rfl ?_
      refine lv_iand hx hb dX7_nextEar_82 ?_
      refine lv_iconst (v := 1) hx hb dX7_nextEar_83 rfl ?_
      have g18 := ite_some hf
      refine lv_icmp_ne (tgt := 91) hx hb dX7_nextEar_84 (by decide) (fun c17 => ?_) (fun c17 => ?_)
      · replace hf := g18.2 c17
        refine lv_iconst (v := 0) hx hb dX7_nextEar_91 rfl ?_
        refine lv_istore (lv' := [(8, .int 0), (0, .ref h_t), (1, .int x1), (2, .int x2), (3, .int x3), (4, .int x4), (5, .int (v.1)), (6, .int x6), (7, .int (v.2))]) hx hb dX7_nextEar_92 hl (by decide) rfl (fun ls hl => ?_)
        refine lv_iload hx hb dX7_nextEar_94 (lv_at hl 6 rfl) ?_
        refine lv_iload hx hb dX7_nextEar_96 (lv_at hl 0 rfl) ?_
        have g20 := ite_some hf
        refine lv_if_eq (tgt := 140) hx hb dX7_nextEar_98 (by decide) (fun c19 => ?_) (fun c19 => ?_)
        · replace hf := g20.1 c19
          refine lv_iconst (v := 0) hx hb dX7_nextEar_140 rfl ?_
          refine lv_iadd hx hb dX7_nextEar_141 ?_
          refine lv_istore (lv' := [(5, .int ((v.1) + 0)), (8, .int 0), (0, .ref h_t), (1, .int x1), (2, .int x2), (3, .int x3), (4, .int x4), (6, .int x6), (7, .int (v.2))]) hx hb dX7_nextEar_142 hl (by decide) rfl (fun ls hl => ?_)
          refine lv_iinc (v := ((v.2) + 1)) (lv' := [(7, .int ((v.2) + 1)), (5, .int ((v.1) + 0)), (8, .int 0), (0, .ref h_t), (1, .int x1), (2, .int x2), (3, .int x3), (4, .int x4), (6, .int x6)]) hx hb dX7_nextEar_144 hl (k := 8) rfl rfl (by decide) rfl (fun ls hl => ?_)
          refine lv_goto (tgt := 60) hx hb dX7_nextEar_147 (by decide) ?_
          exact ih _ hf _ _ _ hP hD hS (lv_sub hl [3, 4, 5, 6, 7, 1, 8, 0] rfl)
        · replace hf := g20.2 c19
          refine lv_aload_n hx hb dX7_nextEar_101 rfl (lv_at hl 1 rfl) ?_
          refine lv_iload hx hb dX7_nextEar_102 (lv_at hl 7 rfl) ?_
          refine lv_iload hx hb dX7_nextEar_104 (lv_at hl 5 rfl) ?_
          obtain ⟨r21, e22, hf⟩ := bind_some hf
          refine callVi (As := [.int x6, .int x4]) (rest := [.int (v.1)]) M (mX7_soundOf l D cs sk h_t q_t k d_t x6 x4 e22) mw_X7_136 ln_X7_soundOf ⟨rfl, rfl, Nat.le_of_ble_eq_true rfl, Nat.le_of_ble_eq_true rfl⟩ hP hD hS hA [0, 1] (by decide) rfl rfl (q0 := 0) rfl rfl rfl ⟨Nat.zero_le _, Nat.zero_le _⟩ hl.1 rfl (Nat.le_of_ble_eq_true rfl) dX7_nextEar_106 (fun H locs hP hD hS => ?_)
          replace hP : va_P D vwCl [oX7 h_t q_t (d_t.1), ((q_t 0), .inl (cs 0, 106, .inl (d_t.2 0))), ((q_t 3), .inl (cs 0, 3, .inl (d_t.2 3)))] H := hP
          replace hD : va_D A [oX7 h_t q_t (d_t.1), ((q_t 0), .inl (cs 0, 106, .inl (d_t.2 0))), ((q_t 3), .inl (cs 0, 3, .inl (d_t.2 3)))] := hD
          refine lv_aload_n hx hb dX7_nextEar_109 rfl (lv_at hl 1 rfl) ?_
          refine lv_iload hx hb dX7_nextEar_110 (lv_at hl 7 rfl) ?_
          refine lv_iconst (v := 0) hx hb dX7_nextEar_112 rfl ?_
          obtain ⟨r23, e24, hf⟩ := bind_some hf
          refine callVi (As := [.int x6, .int 0]) (rest := [.int r21, .int (v.1)]) M (mX7_soundOf l D cs sk h_t q_t k d_t x6 0 e24) mw_X7_136 ln_X7_soundOf ⟨rfl, rfl, Nat.le_of_ble_eq_true rfl, Nat.le_of_ble_eq_true rfl⟩ hP hD hS hA [0, 1] (by decide) rfl rfl (q0 := 0) rfl rfl rfl ⟨Nat.zero_le _, Nat.zero_le _⟩ hl.1 rfl (Nat.le_of_ble_eq_true rfl) dX7_nextEar_113 (fun H locs hP hD hS => ?_)
          replace hP : va_P D vwCl [oX7 h_t q_t (d_t.1), ((q_t 0), .inl (cs 0, 106, .inl (d_t.2 0))), ((q_t 3), .inl (cs 0, 3, .inl (d_t.2 3)))] H := hP
          replace hD : va_D A [oX7 h_t q_t (d_t.1), ((q_t 0), .inl (cs 0, 106, .inl (d_t.2 0))), ((q_t 3), .inl (cs 0, 3, .inl (d_t.2 3)))] := hD
          refine lv_isub hx hb dX7_nextEar_116 ?_
          refine lv_aload_n hx hb dX7_nextEar_117 rfl (lv_at hl 1 rfl) ?_
          refine lv_iload hx hb dX7_nextEar_118 (lv_at hl 8 rfl) ?_
          refine lv_iload hx hb dX7_nextEar_120 (lv_at hl 5 rfl) ?_
          obtain ⟨r25, e26, hf⟩ := bind_some hf
          refine callVi (As := [.int (v.2), .int x4]) (rest := [.int (r21 - r23), .int (v.1)]) M (mX7_soundOf l D cs sk h_t q_t k d_t (v.2) x4 e26) mw_X7_136 ln_X7_soundOf ⟨rfl, rfl, Nat.le_of_ble_eq_true rfl, Nat.le_of_ble_eq_true rfl⟩ hP hD hS hA [0, 1] (by decide) rfl rfl (q0 := 0) rfl rfl rfl ⟨Nat.zero_le _, Nat.zero_le _⟩ hl.1 rfl (Nat.le_of_ble_eq_true rfl) dX7_nextEar_122 (fun H locs hP hD hS => ?_)
          replace hP : va_P D vwCl [oX7 h_t q_t (d_t.1), ((q_t 0), .inl (cs 0, 106, .inl (d_t.2 0))), ((q_t 3), .inl (cs 0, 3, .inl (d_t.2 3)))] H := hP
          replace hD : va_D A [oX7 h_t q_t (d_t.1), ((q_t 0), .inl (cs 0, 106, .inl (d_t.2 0))), ((q_t 3), .inl (cs 0, 3, .inl (d_t.2 3)))] := hD
          refine lv_aload_n hx hb dX7_nextEar_125 rfl (lv_at hl 1 rfl) ?_
          refine lv_iload hx hb dX7_nextEar_126 (lv_at hl 8 rfl) ?_
          refine lv_iconst (v := 0) hx hb dX7_nextEar_128 rfl ?_
          obtain ⟨r27, e28, hf⟩ := bind_some hf
          refine callVi (As := [.int (v.2), .int 0]) (rest := [.int r25, .int (r21 - r23), .int (v.1)]) M (mX7_soundOf l D cs sk h_t q_t k d_t (v.2) 0 e28) mw_X7_136 ln_X7_soundOf ⟨rfl, rfl, Nat.le_of_ble_eq_true rfl, Nat.le_of_ble_eq_true rfl⟩ hP hD hS hA [0, 1] (by decide) rfl rfl (q0 := 0) rfl rfl rfl ⟨Nat.zero_le _, Nat.zero_le _⟩ hl.1 rfl (Nat.le_of_ble_eq_true rfl) dX7_nextEar_129 (fun H locs hP hD hS => ?_)
          replace hP : va_P D vwCl [oX7 h_t q_t (d_t.1), ((q_t 0), .inl (cs 0, 106, .inl (d_t.2 0))), ((q_t 3), .inl (cs 0, 3, .inl (d_t.2 3)))] H := hP
          replace hD : va_D A [oX7 h_t q_t (d_t.1), ((q_t 0), .inl (cs 0, 106, .inl (d_t.2 0))), ((q_t 3), .inl (cs 0, 3, .inl (d_t.2 3)))] := hD
          refine lv_isub hx hb dX7_nextEar_132 ?_
          have g30 := ite_some hf
          refine lv_icmp_eq (tgt := 140) hx hb dX7_nextEar_133 (by decide) (fun c29 => ?_) (fun c29 => ?_)
          · replace hf := g30.1 c29
            refine lv_iconst (v := 0) hx hb dX7_nextEar_140 rfl ?_
            refine lv_iadd hx hb dX7_nextEar_141 ?_
            refine lv_istore (lv' := [(5, .int ((v.1) + 0)), (8, .int 0), (0, .ref h_t), (1, .int x1), (2, .int x2), (3, .int x3), (4, .int x4), (6, .int x6), (7, .int (v.2))]) hx hb dX7_nextEar_142 hl (by decide) rfl (fun ls hl => ?_)
            refine lv_iinc (v := ((v.2) + 1)) (lv' := [(7, .int ((v.2) + 1)), (5, .int ((v.1) + 0)), (8, .int 0), (0, .ref h_t), (1, .int x1), (2, .int x2), (3, .int x3), (4, .int x4), (6, .int x6)]) hx hb dX7_nextEar_144 hl (k := 8) rfl rfl (by decide) rfl (fun ls hl => ?_)
            refine lv_goto (tgt := 60) hx hb dX7_nextEar_147 (by decide) ?_
            exact ih _ hf _ _ _ hP hD hS (lv_sub hl [3, 4, 5, 6, 7, 1, 8, 0] rfl)
          · replace hf := g30.2 c29
            refine lv_iconst (v := 1) hx hb dX7_nextEar_136 rfl ?_
            refine lv_goto (tgt := 141) hx hb dX7_nextEar_137 (by decide) ?_
            refine lv_iadd hx hb dX7_nextEar_141 ?_
            refine lv_istore (lv' := [(5, .int ((v.1) + 1)), (8, .int 0), (0, .ref h_t), (1, .int x1), (2, .int x2), (3, .int x3), (4, .int x4), (6, .int x6), (7, .int (v.2))]) hx hb dX7_nextEar_142 hl (by decide) rfl (fun ls hl => ?_)
            refine lv_iinc (v := ((v.2) + 1)) (lv' := [(7, .int ((v.2) + 1)), (5, .int ((v.1) + 1)), (8, .int 0), (0, .ref h_t), (1, .int x1), (2, .int x2), (3, .int x3), (4, .int x4), (6, .int x6)]) hx hb dX7_nextEar_144 hl (k := 8) rfl rfl (by decide) rfl (fun ls hl => ?_)
            refine lv_goto (tgt := 60) hx hb dX7_nextEar_147 (by decide) ?_
            exact ih _ hf _ _ _ hP hD hS (lv_sub hl [3, 4, 5, 6, 7, 1, 8, 0] rfl)
      · replace hf := g18.1 c17
        refine lv_iconst (v := 1) hx hb dX7_nextEar_87 rfl ?_
        refine lv_goto (tgt := 92) hx hb dX7_nextEar_88 (by decide) ?_
        refine lv_istore (lv' := [(8, .int 1), (0, .ref h_t), (1, .int x1), (2, .int x2), (3, .int x3), (4, .int x4), (5, .int (v.1)), (6, .int x6), (7, .int (v.2))]) hx hb dX7_nextEar_92 hl (by decide) rfl (fun ls hl => ?_)
        refine lv_iload hx hb dX7_nextEar_94 (lv_at hl 6 rfl) ?_
        refine lv_iload hx hb dX7_nextEar_96 (lv_at hl 0 rfl) ?_
        have g32 := ite_some hf
        refine lv_if_eq (tgt := 140) hx hb dX7_nextEar_98 (by decide) (fun c31 => ?_) (fun c31 => ?_)
        · replace hf := g32.1 c31
          refine lv_iconst (v := 0) hx hb dX7_nextEar_140 rfl ?_
          refine lv_iadd hx hb dX7_nextEar_141 ?_
          refine lv_istore (lv' := [(5, .int ((v.1) + 0)), (8, .int 1), (0, .ref h_t), (1, .int x1), (2, .int x2), (3, .int x3), (4, .int x4), (6, .int x6), (7, .int (v.2))]) hx hb dX7_nextEar_142 hl (by decide) rfl (fun ls hl => ?_)
          refine lv_iinc (v := ((v.2) + 1)) (lv' := [(7, .int ((v.2) + 1)), (5, .int ((v.1) + 0)), (8, .int 1), (0, .ref h_t), (1, .int x1), (2, .int x2), (3, .int x3), (4, .int x4), (6, .int x6)]) hx hb dX7_nextEar_144 hl (k := 8) rfl rfl (by decide) rfl (fun ls hl => ?_)
          refine lv_goto (tgt := 60) hx hb dX7_nextEar_147 (by decide) ?_
          exact ih _ hf _ _ _ hP hD hS (lv_sub hl [3, 4, 5, 6, 7, 1, 8, 0] rfl)
        · replace hf := g32.2 c31
          refine lv_aload_n hx hb dX7_nextEar_101 rfl (lv_at hl 1 rfl) ?_
          refine lv_iload hx hb dX7_nextEar_102 (lv_at hl 7 rfl) ?_
          refine lv_iload hx hb dX7_nextEar_104 (lv_at hl 5 rfl) ?_
          obtain ⟨r33, e34, hf⟩ := bind_some hf
          refine callVi (As := [.int x6, .int x4]) (rest := [.int (v.1)]) M (mX7_soundOf l D cs sk h_t q_t k d_t x6 x4 e34) mw_X7_136 ln_X7_soundOf ⟨rfl, rfl, Nat.le_of_ble_eq_true rfl, Nat.le_of_ble_eq_true rfl⟩ hP hD hS hA [0, 1] (by decide) rfl rfl (q0 := 0) rfl rfl rfl ⟨Nat.zero_le _, Nat.zero_le _⟩ hl.1 rfl (Nat.le_of_ble_eq_true rfl) dX7_nextEar_106 (fun H locs hP hD hS => ?_)
          replace hP : va_P D vwCl [oX7 h_t q_t (d_t.1), ((q_t 0), .inl (cs 0, 106, .inl (d_t.2 0))), ((q_t 3), .inl (cs 0, 3, .inl (d_t.2 3)))] H := hP
          replace hD : va_D A [oX7 h_t q_t (d_t.1), ((q_t 0), .inl (cs 0, 106, .inl (d_t.2 0))), ((q_t 3), .inl (cs 0, 3, .inl (d_t.2 3)))] := hD
          refine lv_aload_n hx hb dX7_nextEar_109 rfl (lv_at hl 1 rfl) ?_
          refine lv_iload hx hb dX7_nextEar_110 (lv_at hl 7 rfl) ?_
          refine lv_iconst (v := 0) hx hb dX7_nextEar_112 rfl ?_
          obtain ⟨r35, e36, hf⟩ := bind_some hf
          refine callVi (As := [.int x6, .int 0]) (rest := [.int r33, .int (v.1)]) M (mX7_soundOf l D cs sk h_t q_t k d_t x6 0 e36) mw_X7_136 ln_X7_soundOf ⟨rfl, rfl, Nat.le_of_ble_eq_true rfl, Nat.le_of_ble_eq_true rfl⟩ hP hD hS hA [0, 1] (by decide) rfl rfl (q0 := 0) rfl rfl rfl ⟨Nat.zero_le _, Nat.zero_le _⟩ hl.1 rfl (Nat.le_of_ble_eq_true rfl) dX7_nextEar_113 (fun H locs hP hD hS => ?_)
          replace hP : va_P D vwCl [oX7 h_t q_t (d_t.1), ((q_t 0), .inl (cs 0, 106, .inl (d_t.2 0))), ((q_t 3), .inl (cs 0, 3, .inl (d_t.2 3)))] H := hP
          replace hD : va_D A [oX7 h_t q_t (d_t.1), ((q_t 0), .inl (cs 0, 106, .inl (d_t.2 0))), ((q_t 3), .inl (cs 0, 3, .inl (d_t.2 3)))] := hD
          refine lv_isub hx hb dX7_nextEar_116 ?_
          refine lv_aload_n hx hb dX7_nextEar_117 rfl (lv_at hl 1 rfl) ?_
          refine lv_iload hx hb dX7_nextEar_118 (lv_at hl 8 rfl) ?_
          refine lv_iload hx hb dX7_nextEar_120 (lv_at hl 5 rfl) ?_
          obtain ⟨r37, e38, hf⟩ := bind_some hf
          refine callVi (As := [.int (v.2), .int x4]) (rest := [.int (r33 - r35), .int (v.1)]) M (mX7_soundOf l D cs sk h_t q_t k d_t (v.2) x4 e38) mw_X7_136 ln_X7_soundOf ⟨rfl, rfl, Nat.le_of_ble_eq_true rfl, Nat.le_of_ble_eq_true rfl⟩ hP hD hS hA [0, 1] (by decide) rfl rfl (q0 := 0) rfl rfl rfl ⟨Nat.zero_le _, Nat.zero_le _⟩ hl.1 rfl (Nat.le_of_ble_eq_true rfl) dX7_nextEar_122 (fun H locs hP hD hS => ?_)
          replace hP : va_P D vwCl [oX7 h_t q_t (d_t.1), ((q_t 0), .inl (cs 0, 106, .inl (d_t.2 0))), ((q_t 3), .inl (cs 0, 3, .inl (d_t.2 3)))] H := hP
          replace hD : va_D A [oX7 h_t q_t (d_t.1), ((q_t 0), .inl (cs 0, 106, .inl (d_t.2 0))), ((q_t 3), .inl (cs 0, 3, .inl (d_t.2 3)))] := hD
          refine lv_aload_n hx hb dX7_nextEar_125 rfl (lv_at hl 1 rfl) ?_
          refine lv_iload hx hb dX7_nextEar_126 (lv_at hl 8 rfl) ?_
          refine lv_iconst (v := 0) hx hb dX7_nextEar_128 rfl ?_
          obtain ⟨r39, e40, hf⟩ := bind_some hf
          refine callVi (As := [.int (v.2), .int 0]) (rest := [.int r37, .int (r33 - r35), .int (v.1)]) M (mX7_soundOf l D cs sk h_t q_t k d_t (v.2) 0 e40) mw_X7_136 ln_X7_soundOf ⟨rfl, rfl, Nat.le_of_ble_eq_true rfl, Nat.le_of_ble_eq_true rfl⟩ hP hD hS hA [0, 1] (by decide) rfl rfl (q0 := 0) rfl rfl rfl ⟨Nat.zero_le _, Nat.zero_le _⟩ hl.1 rfl (Nat.le_of_ble_eq_true rfl) dX7_nextEar_129 (fun H locs hP hD hS => ?_)
          replace hP : va_P D vwCl [oX7 h_t q_t (d_t.1), ((q_t 0), .inl (cs 0, 106, .inl (d_t.2 0))), ((q_t 3), .inl (cs 0, 3, .inl (d_t.2 3)))] H := hP
          replace hD : va_D A [oX7 h_t q_t (d_t.1), ((q_t 0), .inl (cs 0, 106, .inl (d_t.2 0))), ((q_t 3), .inl (cs 0, 3, .inl (d_t.2 3)))] := hD
          refine lv_isub hx hb dX7_nextEar_132 ?_
          have g42 := ite_some hf
          refine lv_icmp_eq (tgt := 140) hx hb dX7_nextEar_133 (by decide) (fun c41 => ?_) (fun c41 => ?_)
          · replace hf := g42.1 c41
            refine lv_iconst (v := 0) hx hb dX7_nextEar_140 rfl ?_
            refine lv_iadd hx hb dX7_nextEar_141 ?_
            refine lv_istore (lv' := [(5, .int ((v.1) + 0)), (8, .int 1), (0, .ref h_t), (1, .int x1), (2, .int x2), (3, .int x3), (4, .int x4), (6, .int x6), (7, .int (v.2))]) hx hb dX7_nextEar_142 hl (by decide) rfl (fun ls hl => ?_)
            refine lv_iinc (v := ((v.2) + 1)) (lv' := [(7, .int ((v.2) + 1)), (5, .int ((v.1) + 0)), (8, .int 1), (0, .ref h_t), (1, .int x1), (2, .int x2), (3, .int x3), (4, .int x4), (6, .int x6)]) hx hb dX7_nextEar_144 hl (k := 8) rfl rfl (by decide) rfl (fun ls hl => ?_)
            refine lv_goto (tgt := 60) hx hb dX7_nextEar_147 (by decide) ?_
            exact ih _ hf _ _ _ hP hD hS (lv_sub hl [3, 4, 5, 6, 7, 1, 8, 0] rfl)
          · replace hf := g42.2 c41
            refine lv_iconst (v := 1) hx hb dX7_nextEar_136 rfl ?_
            refine lv_goto (tgt := 141) hx hb dX7_nextEar_137 (by decide) ?_
            refine lv_iadd hx hb dX7_nextEar_141 ?_
            refine lv_istore (lv' := [(5, .int ((v.1) + 1)), (8, .int 1), (0, .ref h_t), (1, .int x1), (2, .int x2), (3, .int x3), (4, .int x4), (6, .int x6), (7, .int (v.2))]) hx hb dX7_nextEar_142 hl (by decide) rfl (fun ls hl => ?_)
            refine lv_iinc (v := ((v.2) + 1)) (lv' := [(7, .int ((v.2) + 1)), (5, .int ((v.1) + 1)), (8, .int 1), (0, .ref h_t), (1, .int x1), (2, .int x2), (3, .int x3), (4, .int x4), (6, .int x6)]) hx hb dX7_nextEar_144 hl (k := 8) rfl rfl (by decide) rfl (fun ls hl => ?_)
            refine lv_goto (tgt := 60) hx hb dX7_nextEar_147 (by decide) ?_
            exact ih _ hf _ _ _ hP hD hS (lv_sub hl [3, 4, 5, 6, 7, 1, 8, 0] rfl)
set_option maxHeartbeats 4000000 in
set_option maxRecDepth 100000 in
theorem mX7_nextEar_B47 {l : Launch} {p : Program} {e : Env} {s : State} {m : MethodId} {args : Array Value} {below : List Frame} {meth : Method} {c : Code} {D : va_G} {cs : Nat → ClassId} {sk : Nat → Nat} {A : Nat → Prop} {Q : State → Prop} (h_t : Nat) (q_t : Nat → Nat) (k : Nat) (x1 : Int32) (x2 : Int32) (x3 : Int32) (x4 : Int32) (d_t : Dat) {rv : Int32 × Dat}  (K156 : Int32 → Option (Int32 × Dat))
    (M : MC p s m args meth c D cs sk A RX7 cX7_nextEar 9 (some .int)) (hA : ∀ q, s.heap.size ≤ q → A q) (hR : RetI p l e rm_X7_nextEar s m args below meth c D cX7_nextEar A Q (rv.1) [oX7 h_t q_t (d_t.1), ((q_t 0), .inl (cs 0, 106, .inl (d_t.2 0))), ((q_t 3), .inl (cs 0, 3, .inl (rv.2.2 3)))])
    (hK156 : ∀ (w : Int32), K156 w = some rv → ∀ (H : Heap) (locs : List Loc) (ls : Array Slot), va_P D vwCl [oX7 h_t q_t (d_t.1), ((q_t 0), .inl (cs 0, 106, .inl (d_t.2 0))), ((q_t 3), .inl (cs 0, 3, .inl (d_t.2 3)))] H → va_D A [oX7 h_t q_t (d_t.1), ((q_t 0), .inl (cs 0, 106, .inl (d_t.2 0))), ((q_t 3), .inl (cs 0, 3, .inl (d_t.2 3)))] → va_S A s.heap H locs → lv_has ls 9 [(0, .ref h_t), (1, .int x1), (2, .int x2), (3, .int x3), (4, .int x4), (5, .int w)] → W p l e rm_X7_nextEar s m args below meth c H locs 0 0 Q (F0 m 156 ls []))
    : ∀ (n : Nat) (v : Int32 × Int32), lp (fX7_nextEar_B47 k x1 x4 d_t K156) n v = some rv → ∀ (H : Heap) (locs : List Loc) (ls : Array Slot), va_P D vwCl [oX7 h_t q_t (d_t.1), ((q_t 0), .inl (cs 0, 106, .inl (d_t.2 0))), ((q_t 3), .inl (cs 0, 3, .inl (d_t.2 3)))] H → va_D A [oX7 h_t q_t (d_t.1), ((q_t 0), .inl (cs 0, 106, .inl (d_t.2 0))), ((q_t 3), .inl (cs 0, 3, .inl (d_t.2 3)))] → va_S A s.heap H locs → lv_has ls 9 [(0, .ref h_t), (1, .int x1), (2, .int x2), (3, .int x3), (4, .int x4), (5, .int (v.1)), (6, .int (v.2))] → W p l e rm_X7_nextEar s m args below meth c H locs 0 0 Q (F0 m 47 ls []) := by
  obtain ⟨hx, hb, hml, hT, hown, hlk, hrt, hK, hN, hSE⟩ := id M
  refine lp_ind (fun rec ih v hf H locs ls hP hD hS hl => ?_)
  unfold fX7_nextEar_B47 at hf
  refine lv_iload hx hb dX7_nextEar_47 (lv_at hl 6 rfl) ?_
  refine lv_bipush (v := 6) hx hb dX7_nextEar_49 rfl ?_
  have g2 := ite_some hf
  refine lv_icmp_ge (tgt := 156) hx hb dX7_nextEar_51 (by decide) (fun c1 => ?_) (fun c1 => ?_)
  · replace hf := g2.1 c1
    exact hK156 _ hf _ _ _ hP hD hS (lv_sub hl [0, 1, 2, 3, 4, 5] rfl)
  · replace hf := g2.2 c1
    refine lv_iload hx hb dX7_nextEar_54 (lv_at hl 6 rfl) ?_
    refine lv_iconst (v := 1) hx hb dX7_nextEar_56 rfl ?_
    refine lv_iadd hx hb dX7_nextEar_57 ?_
    refine lv_istore (lv' := [(7, .int ((v.2) + 1)), (0, .ref h_t), (1, .int x1), (2, .int x2), (3, .int x3), (4, .int x4), (5, .int (v.1)), (6, .int (v.2))]) hx hb dX7_nextEar_58 hl (by decide) rfl (fun ls hl => ?_)
    refine mX7_nextEar_B60 h_t q_t k x1 x2 x3 x4 (v.2) d_t _ M hA hR (fun w3 hf H locs ls hP hD hS hl => ?_) _ _ hf _ _ _ hP hD hS (lv_sub hl [1, 2, 3, 4, 5, 6, 7, 0] rfl)
    · refine lv_iinc (v := ((v.2) + 1)) (lv' := [(6, .int ((v.2) + 1)), (0, .ref h_t), (1, .int x1), (2, .int x2), (3, .int x3), (4, .int x4), (5, .int w3)]) hx hb dX7_nextEar_150 hl (k := 6) rfl rfl (by decide) rfl (fun ls hl => ?_)
      refine lv_goto (tgt := 47) hx hb dX7_nextEar_153 (by decide) ?_
      exact ih _ hf _ _ _ hP hD hS (lv_sub hl [1, 2, 3, 4, 5, 6, 0] rfl)
set_option maxHeartbeats 4000000 in
set_option maxRecDepth 100000 in
theorem mX7_nextEar_B32 {l : Launch} {p : Program} {e : Env} {s : State} {m : MethodId} {args : Array Value} {below : List Frame} {meth : Method} {c : Code} {D : va_G} {cs : Nat → ClassId} {sk : Nat → Nat} {A : Nat → Prop} {Q : State → Prop} (h_t : Nat) (q_t : Nat → Nat) (k : Nat) (x1 : Int32) (d_t : Dat) {rv : Int32 × Dat}  (K188 : Int32 → Option (Int32 × Dat))
    (M : MC p s m args meth c D cs sk A RX7 cX7_nextEar 9 (some .int)) (hA : ∀ q, s.heap.size ≤ q → A q) (hR : RetI p l e rm_X7_nextEar s m args below meth c D cX7_nextEar A Q (rv.1) [oX7 h_t q_t (d_t.1), ((q_t 0), .inl (cs 0, 106, .inl (d_t.2 0))), ((q_t 3), .inl (cs 0, 3, .inl (rv.2.2 3)))])
    (hK188 : ∀ (w : Int32), K188 w = some rv → ∀ (H : Heap) (locs : List Loc) (ls : Array Slot), va_P D vwCl [oX7 h_t q_t (d_t.1), ((q_t 0), .inl (cs 0, 106, .inl (d_t.2 0))), ((q_t 3), .inl (cs 0, 3, .inl (d_t.2 3)))] H → va_D A [oX7 h_t q_t (d_t.1), ((q_t 0), .inl (cs 0, 106, .inl (d_t.2 0))), ((q_t 3), .inl (cs 0, 3, .inl (d_t.2 3)))] → va_S A s.heap H locs → lv_has ls 9 [(2, .int w)] → W p l e rm_X7_nextEar s m args below meth c H locs 0 0 Q (F0 m 188 ls []))
    : ∀ (n : Nat) (v : Int32 × Int32 × Int32), lp (fX7_nextEar_B32 k x1 d_t K188) n v = some rv → ∀ (H : Heap) (locs : List Loc) (ls : Array Slot), va_P D vwCl [oX7 h_t q_t (d_t.1), ((q_t 0), .inl (cs 0, 106, .inl (d_t.2 0))), ((q_t 3), .inl (cs 0, 3, .inl (d_t.2 3)))] H → va_D A [oX7 h_t q_t (d_t.1), ((q_t 0), .inl (cs 0, 106, .inl (d_t.2 0))), ((q_t 3), .inl (cs 0, 3, .inl (d_t.2 3)))] → va_S A s.heap H locs → lv_has ls 9 [(0, .ref h_t), (1, .int x1), (2, .int (v.1)), (3, .int (v.2.1)), (4, .int (v.2.2))] → W p l e rm_X7_nextEar s m args below meth c H locs 0 0 Q (F0 m 32 ls []) := by
  obtain ⟨hx, hb, hml, hT, hown, hlk, hrt, hK, hN, hSE⟩ := id M
  refine lp_ind (fun rec ih v hf H locs ls hP hD hS hl => ?_)
  unfold fX7_nextEar_B32 at hf
  refine lv_iload hx hb dX7_nextEar_32 (lv_at hl 4 rfl) ?_
  refine lv_aload_n hx hb dX7_nextEar_34 rfl (lv_at hl 0 rfl) ?_
  obtain ⟨r1, e2, hf⟩ := bind_some hf
  refine callVi (As := []) (rest := [.int (v.2.2)]) M (mX7_ears l D cs sk h_t q_t k d_t e2) mw_X7_64 ln_X7_ears ⟨rfl, rfl, Nat.le_of_ble_eq_true rfl, Nat.le_of_ble_eq_true rfl⟩ hP hD hS hA [0, 1] (by decide) rfl rfl (q0 := 0) rfl rfl rfl ⟨Nat.zero_le _, Nat.zero_le _⟩ hl.1 rfl (Nat.le_of_ble_eq_true rfl) dX7_nextEar_35 (fun H locs hP hD hS => ?_)
  replace hP : va_P D vwCl [oX7 h_t q_t (d_t.1), ((q_t 0), .inl (cs 0, 106, .inl (d_t.2 0))), ((q_t 3), .inl (cs 0, 3, .inl (d_t.2 3)))] H := hP
  replace hD : va_D A [oX7 h_t q_t (d_t.1), ((q_t 0), .inl (cs 0, 106, .inl (d_t.2 0))), ((q_t 3), .inl (cs 0, 3, .inl (d_t.2 3)))] := hD
  have g4 := ite_some hf
  refine lv_icmp_ge (tgt := 188) hx hb dX7_nextEar_38 (by decide) (fun c3 => ?_) (fun c3 => ?_)
  · replace hf := g4.1 c3
    exact hK188 _ hf _ _ _ hP hD hS (lv_sub hl [2] rfl)
  · replace hf := g4.2 c3
    refine lv_iconst (v := 0) hx hb dX7_nextEar_41 rfl ?_
    refine lv_istore (lv' := [(5, .int 0), (0, .ref h_t), (1, .int x1), (2, .int (v.1)), (3, .int (v.2.1)), (4, .int (v.2.2))]) hx hb dX7_nextEar_42 hl (by decide) rfl (fun ls hl => ?_)
    refine lv_iconst (v := 0) hx hb dX7_nextEar_44 rfl ?_
    refine lv_istore (lv' := [(6, .int 0), (5, .int 0), (0, .ref h_t), (1, .int x1), (2, .int (v.1)), (3, .int (v.2.1)), (4, .int (v.2.2))]) hx hb dX7_nextEar_45 hl (by decide) rfl (fun ls hl => ?_)
    refine mX7_nextEar_B47 h_t q_t k x1 (v.1) (v.2.1) (v.2.2) d_t _ M hA hR (fun w5 hf H locs ls hP hD hS hl => ?_) _ _ hf _ _ _ hP hD hS (lv_sub hl [2, 3, 4, 5, 6, 1, 0] rfl)
    · refine lv_iload hx hb dX7_nextEar_156 (lv_at hl 5 rfl) ?_
      refine lv_iload_n hx hb dX7_nextEar_158 rfl (lv_at hl 3 rfl) ?_
      have g7 := ite_some hf
      refine lv_icmp_le (tgt := 167) hx hb dX7_nextEar_159 (by decide) (fun c6 => ?_) (fun c6 => ?_)
      · replace hf := g7.1 c6
        refine lv_iload_n hx hb dX7_nextEar_167 rfl (lv_at hl 2 rfl) ?_
        refine lv_istore_n (lv' := [(2, .int (v.1)), (0, .ref h_t), (1, .int x1), (3, .int (v.2.1)), (4, .int (v.2.2)), (5, .int w5)]) hx hb dX7_nextEar_168 rfl hl (by decide) rfl (fun ls hl => ?_)
        refine lv_iload hx hb dX7_nextEar_169 (lv_at hl 5 rfl) ?_
        refine lv_iload_n hx hb dX7_nextEar_171 rfl (lv_at hl 3 rfl) ?_
        have g9 := ite_some hf
        refine lv_icmp_le (tgt := 180) hx hb dX7_nextEar_172 (by decide) (fun c8 => ?_) (fun c8 => ?_)
        · replace hf := g9.1 c8
          refine lv_iload_n hx hb dX7_nextEar_180 rfl (lv_at hl 3 rfl) ?_
          refine lv_istore_n (lv' := [(3, .int (v.2.1)), (2, .int (v.1)), (0, .ref h_t), (1, .int x1), (4, .int (v.2.2)), (5, .int w5)]) hx hb dX7_nextEar_181 rfl hl (by decide) rfl (fun ls hl => ?_)
          refine lv_iinc (v := ((v.2.2) + 1)) (lv' := [(4, .int ((v.2.2) + 1)), (3, .int (v.2.1)), (2, .int (v.1)), (0, .ref h_t), (1, .int x1), (5, .int w5)]) hx hb dX7_nextEar_182 hl (k := 4) rfl rfl (by decide) rfl (fun ls hl => ?_)
          refine lv_goto (tgt := 32) hx hb dX7_nextEar_185 (by decide) ?_
          exact ih _ hf _ _ _ hP hD hS (lv_sub hl [3, 4, 2, 1, 0] rfl)
        · replace hf := g9.2 c8
          refine lv_iload hx hb dX7_nextEar_175 (lv_at hl 5 rfl) ?_
          refine lv_goto (tgt := 181) hx hb dX7_nextEar_177 (by decide) ?_
          refine lv_istore_n (lv' := [(3, .int w5), (2, .int (v.1)), (0, .ref h_t), (1, .int x1), (4, .int (v.2.2)), (5, .int w5)]) hx hb dX7_nextEar_181 rfl hl (by decide) rfl (fun ls hl => ?_)
          refine lv_iinc (v := ((v.2.2) + 1)) (lv' := [(4, .int ((v.2.2) + 1)), (3, .int w5), (2, .int (v.1)), (0, .ref h_t), (1, .int x1), (5, .int w5)]) hx hb dX7_nextEar_182 hl (k := 4) rfl rfl (by decide) rfl (fun ls hl => ?_)
          refine lv_goto (tgt := 32) hx hb dX7_nextEar_185 (by decide) ?_
          exact ih _ hf _ _ _ hP hD hS (lv_sub hl [3, 4, 2, 1, 0] rfl)
      · replace hf := g7.2 c6
        refine lv_iload hx hb dX7_nextEar_162 (lv_at hl 4 rfl) ?_
        refine lv_goto (tgt := 168) hx hb dX7_nextEar_164 (by decide) ?_
        refine lv_istore_n (lv' := [(2, .int (v.2.2)), (0, .ref h_t), (1, .int x1), (3, .int (v.2.1)), (4, .int (v.2.2)), (5, .int w5)]) hx hb dX7_nextEar_168 rfl hl (by decide) rfl (fun ls hl => ?_)
        refine lv_iload hx hb dX7_nextEar_169 (lv_at hl 5 rfl) ?_
        refine lv_iload_n hx hb dX7_nextEar_171 rfl (lv_at hl 3 rfl) ?_
        have g11 := ite_some hf
        refine lv_icmp_le (tgt := 180) hx hb dX7_nextEar_172 (by decide) (fun c10 => ?_) (fun c10 => ?_)
        · replace hf := g11.1 c10
          refine lv_iload_n hx hb dX7_nextEar_180 rfl (lv_at hl 3 rfl) ?_
          refine lv_istore_n (lv' := [(3, .int (v.2.1)), (2, .int (v.2.2)), (0, .ref h_t), (1, .int x1), (4, .int (v.2.2)), (5, .int w5)]) hx hb dX7_nextEar_181 rfl hl (by decide) rfl (fun ls hl => ?_)
          refine lv_iinc (v := ((v.2.2) + 1)) (lv' := [(4, .int ((v.2.2) + 1)), (3, .int (v.2.1)), (2, .int (v.2.2)), (0, .ref h_t), (1, .int x1), (5, .int w5)]) hx hb dX7_nextEar_182 hl (k := 4) rfl rfl (by decide) rfl (fun ls hl => ?_)
          refine lv_goto (tgt := 32) hx hb dX7_nextEar_185 (by decide) ?_
          exact ih _ hf _ _ _ hP hD hS (lv_sub hl [3, 4, 2, 1, 0] rfl)
        · replace hf := g11.2 c10
          refine lv_iload hx hb dX7_nextEar_175 (lv_at hl 5 rfl) ?_
          refine lv_goto (tgt := 181) hx hb dX7_nextEar_177 (by decide) ?_
          refine lv_istore_n (lv' := [(3, .int w5), (2, .int (v.2.2)), (0, .ref h_t), (1, .int x1), (4, .int (v.2.2)), (5, .int w5)]) hx hb dX7_nextEar_181 rfl hl (by decide) rfl (fun ls hl => ?_)
          refine lv_iinc (v := ((v.2.2) + 1)) (lv' := [(4, .int ((v.2.2) + 1)), (3, .int w5), (2, .int (v.2.2)), (0, .ref h_t), (1, .int x1), (5, .int w5)]) hx hb dX7_nextEar_182 hl (k := 4) rfl rfl (by decide) rfl (fun ls hl => ?_)
          refine lv_goto (tgt := 32) hx hb dX7_nextEar_185 (by decide) ?_
          exact ih _ hf _ _ _ hP hD hS (lv_sub hl [3, 4, 2, 1, 0] rfl)
set_option maxHeartbeats 4000000 in
set_option maxRecDepth 100000 in
theorem mX7_nextEar (l : Launch) (D : va_G) (cs : Nat → ClassId) (sk : Nat → Nat) (h_t : Nat) (q_t : Nat → Nat) (k : Nat) (d_t : Dat) (x1 : Int32) {rv : Int32 × Dat} (hf : fX7_nextEar k d_t x1 = some rv) : CTi l yX7_nextEar (Cond.code yX7_nextEar cX7_nextEar 9 (some .int) :: gtbl) rm_X7_nextEar D cs sk [.ref h_t, .int x1] [oX7 h_t q_t (d_t.1), ((q_t 0), .inl (cs 0, 106, .inl (d_t.2 0))), ((q_t 3), .inl (cs 0, 3, .inl (d_t.2 3)))] (rv.1) [oX7 h_t q_t (d_t.1), ((q_t 0), .inl (cs 0, 106, .inl (d_t.2 0))), ((q_t 3), .inl (cs 0, 3, .inl (rv.2.2 3)))] := by
  refine CTi.of RX7 (by decide +kernel) rfl (Nat.le_of_ble_eq_true rfl) (fun p e s m args below meth c A Q ls M hA hR hl hP hD hS => ?_)
  obtain ⟨hx, hb, hml, hT, hown, hlk, hrt, hK, hN, hSE⟩ := id M
  replace hl : lv_has ls 9 [(0, .ref h_t), (1, .int x1)] := hl
  unfold fX7_nextEar at hf
  refine lv_iload_n hx hb dX7_nextEar_0 rfl (lv_at hl 1 rfl) ?_
  refine lv_i2l (v := x1.toInt64) hx hb dX7_nextEar_1 rfl ?_
  refine lv_lconst (v := 0) hx hb dX7_nextEar_2 rfl ?_
  refine lv_iconst (v := 1) hx hb dX7_nextEar_3 rfl ?_
  refine lv_aload_n hx hb dX7_nextEar_4 rfl (lv_at hl 0 rfl) ?_
  obtain ⟨r1, e2, hf⟩ := bind_some hf
  refine callVi (As := []) (rest := [.int 1, .long 0, .long x1.toInt64]) M (mX7_windows l D cs sk h_t q_t k d_t e2) mw_X7_56 ln_X7_windows ⟨rfl, rfl, Nat.le_of_ble_eq_true rfl, Nat.le_of_ble_eq_true rfl⟩ hP hD hS hA [0, 1] (by decide) rfl rfl (q0 := 0) rfl rfl rfl ⟨Nat.zero_le _, Nat.zero_le _⟩ hl.1 rfl (Nat.le_of_ble_eq_true rfl) dX7_nextEar_5 (fun H locs hP hD hS => ?_)
  replace hP : va_P D vwCl [oX7 h_t q_t (d_t.1), ((q_t 0), .inl (cs 0, 106, .inl (d_t.2 0))), ((q_t 3), .inl (cs 0, 3, .inl (d_t.2 3)))] H := hP
  replace hD : va_D A [oX7 h_t q_t (d_t.1), ((q_t 0), .inl (cs 0, 106, .inl (d_t.2 0))), ((q_t 3), .inl (cs 0, 3, .inl (d_t.2 3)))] := hD
  refine lv_ishl hx hb dX7_nextEar_8 ?_
  refine lv_iconst (v := 1) hx hb dX7_nextEar_9 rfl ?_
  refine lv_isub hx hb dX7_nextEar_10 ?_
  refine lv_i2l (v := ((1 <<< (r1 &&& 31)) - 1).toInt64) hx hb dX7_nextEar_11 rfl ?_
  obtain ⟨r3, e4, hf⟩ := bind_some hf
  refine callSi (As := [.long x1.toInt64, .long 0, .long ((1 <<< (r1 &&& 31)) - 1).toInt64]) (rest := []) M (mX7_in l D cs sk  k x1.toInt64 0 ((1 <<< (r1 &&& 31)) - 1).toInt64 e4) mw_X7_60 ln_X7_in ⟨rfl, rfl, Nat.le_of_ble_eq_true rfl, Nat.le_of_ble_eq_true rfl⟩ hP hD hS hA [] (by decide) rfl rfl ⟨Nat.zero_le _, Nat.zero_le _⟩ hl.1 rfl (Nat.le_of_ble_eq_true rfl) dX7_nextEar_12 (fun H locs hP hD hS => ?_)
  replace hP : va_P D vwCl [oX7 h_t q_t (d_t.1), ((q_t 0), .inl (cs 0, 106, .inl (d_t.2 0))), ((q_t 3), .inl (cs 0, 3, .inl (d_t.2 3)))] H := hP
  replace hD : va_D A [oX7 h_t q_t (d_t.1), ((q_t 0), .inl (cs 0, 106, .inl (d_t.2 0))), ((q_t 3), .inl (cs 0, 3, .inl (d_t.2 3)))] := hD
  have g6 := ite_some hf
  refine lv_if_ne (tgt := 25) hx hb dX7_nextEar_15 (by decide) (fun c5 => ?_) (fun c5 => ?_)
  · replace hf := g6.2 c5
    refine lv_iconst (v := (-1)) hx hb dX7_nextEar_25 rfl ?_
    refine lv_istore_n (lv' := [(2, .int (-1)), (0, .ref h_t), (1, .int x1)]) hx hb dX7_nextEar_26 rfl hl (by decide) rfl (fun ls hl => ?_)
    refine lv_iconst (v := 0) hx hb dX7_nextEar_27 rfl ?_
    refine lv_istore_n (lv' := [(3, .int 0), (2, .int (-1)), (0, .ref h_t), (1, .int x1)]) hx hb dX7_nextEar_28 rfl hl (by decide) rfl (fun ls hl => ?_)
    refine lv_iconst (v := 0) hx hb dX7_nextEar_29 rfl ?_
    refine lv_istore (lv' := [(4, .int 0), (3, .int 0), (2, .int (-1)), (0, .ref h_t), (1, .int x1)]) hx hb dX7_nextEar_30 hl (by decide) rfl (fun ls hl => ?_)
    refine mX7_nextEar_B32 h_t q_t k x1 d_t _ M hA hR (fun w7 hf H locs ls hP hD hS hl => ?_) _ _ hf _ _ _ hP hD hS (lv_sub hl [3, 4, 2, 1, 0] rfl)
    · refine lv_iload_n hx hb dX7_nextEar_188 rfl (lv_at hl 0 rfl) ?_
      have e9 := Option.some.inj hf
      subst e9
      exact hR _ _ _ _ dX7_nextEar_189 hP hS
  · replace hf := g6.1 c5
    refine lv_aload_n hx hb dX7_nextEar_18 rfl (lv_at hl 0 rfl) ?_
    refine lv_bipush (v := (-2)) hx hb dX7_nextEar_19 rfl ?_
    obtain ⟨r8, e9, hf⟩ := bind_some hf
    refine callVi (As := [.int (-2)]) (rest := []) M (mX7_bad l D cs sk h_t q_t k d_t (-2) e9) mw_X7_76 ln_X7_bad ⟨rfl, rfl, Nat.le_of_ble_eq_true rfl, Nat.le_of_ble_eq_true rfl⟩ hP hD hS hA [0, 2] (by decide) rfl rfl (q0 := 0) rfl rfl rfl ⟨Nat.zero_le _, Nat.zero_le _⟩ hl.1 rfl (Nat.le_of_ble_eq_true rfl) dX7_nextEar_21 (fun H locs hP hD hS => ?_)
    replace hP : va_P D vwCl [oX7 h_t q_t (d_t.1), ((q_t 0), .inl (cs 0, 106, .inl (d_t.2 0))), ((q_t 3), .inl (cs 0, 3, .inl (r8.2.2 3)))] H := hP
    replace hD : va_D A [oX7 h_t q_t (d_t.1), ((q_t 0), .inl (cs 0, 106, .inl (d_t.2 0))), ((q_t 3), .inl (cs 0, 3, .inl (r8.2.2 3)))] := hD
    have e9 := Option.some.inj hf
    subst e9
    exact hR _ _ _ _ dX7_nextEar_24 hP hS
abbrev rm_X7_drawn : Room := { frames := 7, cells := 0, slots := 0, locals := 163 }
def fX7_drawn_B33 (k : Nat) (x1 : Int32) (d_t : Dat) (K70 : Int32 × Dat → Option (Int32 × Dat)) (rec : Int32 × Int32 × Dat → Option (Int32 × Dat)) (v : Int32 × Int32 × Dat) : Option (Int32 × Dat) :=
  (if 2 < (v.2.1) then K70 ((v.1), (v.2.2.1, (va_up (va_up (va_up (va_up d_t.2 0 (v.2.2.2 0)) 4 (v.2.2.2 4)) 5 (v.2.2.2 5)) 6 (v.2.2.2 6)))) else chk 106 21 ((fX7_isTogether k (v.2.2.1, (va_up (va_up (va_up (va_up d_t.2 0 (upd (v.2.2.2 0) (21 : Int32).toNatClampNeg (v.2.1))) 4 (v.2.2.2 4)) 5 (v.2.2.2 5)) 6 (v.2.2.2 6))) x1).bind (fun (r3 : Int32 × Dat) => (if (r3.1) = 0 then rec (((v.1) + 0), ((v.2.1) + 1), (r3.2.1, (va_up (va_up (va_up (va_up d_t.2 0 (upd (v.2.2.2 0) (21 : Int32).toNatClampNeg (v.2.1))) 4 (r3.2.2 4)) 5 (r3.2.2 5)) 6 (r3.2.2 6)))) else rec (((v.1) + 1), ((v.2.1) + 1), (r3.2.1, (va_up (va_up (va_up (va_up d_t.2 0 (upd (v.2.2.2 0) (21 : Int32).toNatClampNeg (v.2.1))) 4 (r3.2.2 4)) 5 (r3.2.2 5)) 6 (r3.2.2 6))))))))
def fX7_drawn (k : Nat) (d_t : Dat) (x1 : Int32) : Option (Int32 × Dat) :=
  (fX7_isParts k x1).bind (fun (r1 : Int32) => (if r1 = 0 then (fX7_bad k d_t (-2)).bind (fun (r6 : Int32 × Dat) => some ((r6.1), (d_t.1, (va_up d_t.2 3 (r6.2.2 3))))) else chk 106 21 (lp (fX7_drawn_B33 k x1 ((upd d_t.1 8 0), d_t.2) (fun (w5 : Int32 × Dat) => chk 106 21 (some ((w5.1), (w5.2.1, (va_up (va_up (va_up (va_up d_t.2 0 (upd (w5.2.2 0) (21 : Int32).toNatClampNeg ((d_t.2 0) (21 : Int32).toNatClampNeg))) 4 (w5.2.2 4)) 5 (w5.2.2 5)) 6 (w5.2.2 6))))))) k (0, (-2), ((upd d_t.1 8 0), d_t.2)))))
set_option maxHeartbeats 4000000 in
set_option maxRecDepth 100000 in
theorem mX7_drawn_B33 {l : Launch} {p : Program} {e : Env} {s : State} {m : MethodId} {args : Array Value} {below : List Frame} {meth : Method} {c : Code} {D : va_G} {cs : Nat → ClassId} {sk : Nat → Nat} {A : Nat → Prop} {Q : State → Prop} (h_t : Nat) (q_t : Nat → Nat) (k : Nat) (x1 : Int32) (x2 : Int32) (d_t : Dat) {rv : Int32 × Dat}  (K70 : Int32 × Dat → Option (Int32 × Dat))
    (M : MC p s m args meth c D cs sk A RX7 cX7_drawn 5 (some .int)) (hA : ∀ q, s.heap.size ≤ q → A q) (hR : RetI p l e rm_X7_drawn s m args below meth c D cX7_drawn A Q (rv.1) [oX7 h_t q_t (rv.2.1), ((q_t 0), .inl (cs 0, 106, .inl (rv.2.2 0))), ((q_t 3), .inl (cs 0, 3, .inl (rv.2.2 3))), ((q_t 4), .inl (cs 0, 12, .inl (rv.2.2 4))), ((q_t 5), .inl (cs 0, 12, .inl (rv.2.2 5))), ((q_t 6), .inl (cs 0, 12, .inl (rv.2.2 6)))])
    (hK70 : ∀ (w : Int32 × Dat), K70 w = some rv → ∀ (H : Heap) (locs : List Loc) (ls : Array Slot), va_P D vwCl [oX7 h_t q_t (w.2.1), ((q_t 0), .inl (cs 0, 106, .inl (w.2.2 0))), ((q_t 3), .inl (cs 0, 3, .inl (d_t.2 3))), ((q_t 4), .inl (cs 0, 12, .inl (w.2.2 4))), ((q_t 5), .inl (cs 0, 12, .inl (w.2.2 5))), ((q_t 6), .inl (cs 0, 12, .inl (w.2.2 6)))] H → va_D A [oX7 h_t q_t (w.2.1), ((q_t 0), .inl (cs 0, 106, .inl (w.2.2 0))), ((q_t 3), .inl (cs 0, 3, .inl (d_t.2 3))), ((q_t 4), .inl (cs 0, 12, .inl (w.2.2 4))), ((q_t 5), .inl (cs 0, 12, .inl (w.2.2 5))), ((q_t 6), .inl (cs 0, 12, .inl (w.2.2 6)))] → va_S A s.heap H locs → lv_has ls 5 [(0, .ref h_t), (2, .int x2), (3, .int (w.1))] → W p l e rm_X7_drawn s m args below meth c H locs 0 0 Q (F0 m 70 ls []))
    : ∀ (n : Nat) (v : Int32 × Int32 × Dat), lp (fX7_drawn_B33 k x1 d_t K70) n v = some rv → ∀ (H : Heap) (locs : List Loc) (ls : Array Slot), va_P D vwCl [oX7 h_t q_t (v.2.2.1), ((q_t 0), .inl (cs 0, 106, .inl (v.2.2.2 0))), ((q_t 3), .inl (cs 0, 3, .inl (d_t.2 3))), ((q_t 4), .inl (cs 0, 12, .inl (v.2.2.2 4))), ((q_t 5), .inl (cs 0, 12, .inl (v.2.2.2 5))), ((q_t 6), .inl (cs 0, 12, .inl (v.2.2.2 6)))] H → va_D A [oX7 h_t q_t (v.2.2.1), ((q_t 0), .inl (cs 0, 106, .inl (v.2.2.2 0))), ((q_t 3), .inl (cs 0, 3, .inl (d_t.2 3))), ((q_t 4), .inl (cs 0, 12, .inl (v.2.2.2 4))), ((q_t 5), .inl (cs 0, 12, .inl (v.2.2.2 5))), ((q_t 6), .inl (cs 0, 12, .inl (v.2.2.2 6)))] → va_S A s.heap H locs → lv_has ls 5 [(0, .ref h_t), (1, .int x1), (2, .int x2), (3, .int (v.1)), (4, .int (v.2.1))] → W p l e rm_X7_drawn s m args below meth c H locs 0 0 Q (F0 m 33 ls []) := by
  obtain ⟨hx, hb, hml, hT, hown, hlk, hrt, hK, hN, hSE⟩ := id M
  refine lp_ind (fun rec ih v hf H locs ls hP hD hS hl => ?_)
  unfold fX7_drawn_B33 at hf
  refine lv_iload hx hb dX7_drawn_33 (lv_at hl 4 rfl) ?_
  refine lv_iconst (v := 2) hx hb dX7_drawn_35 rfl ?_
  have g2 := ite_some hf
  refine lv_icmp_gt (tgt := 70) hx hb dX7_drawn_36 (by decide) (fun c1 => ?_) (fun c1 => ?_)
  · replace hf := g2.1 c1
    exact hK70 _ hf _ _ _ hP hD hS (lv_sub hl [0, 2, 3] rfl)
  · replace hf := g2.2 c1
    refine lv_aload_n hx hb dX7_drawn_39 rfl (lv_at hl 0 rfl) ?_
    refine va_get (D := D) (ci := 7) (v := .ref (q_t 0)) (C := RX7) (T := TX7) (N := 23) hx hb hT iX7 hown hK hP 0 rfl rfl 0 (by decide) (hT _ fw_X7_7) (fun _ h9 => h9) rfl dX7_drawn_40 ?_
    refine lv_bipush (v := 21) hx hb dX7_drawn_43 rfl ?_
    refine lv_iload hx hb dX7_drawn_45 (lv_at hl 4 rfl) ?_
    obtain ⟨hi, hf⟩ := chk_some hf
    refine va_iast (D := D) hx hb hK hP hD hS 1 0 rfl rfl hi dX7_drawn_47 (fun H locs hP hD hS => ?_)
    replace hP : va_P D vwCl [oX7 h_t q_t (v.2.2.1), ((q_t 0), .inl (cs 0, 106, .inl (upd (v.2.2.2 0) (21 : Int32).toNatClampNeg (v.2.1)))), ((q_t 3), .inl (cs 0, 3, .inl (d_t.2 3))), ((q_t 4), .inl (cs 0, 12, .inl (v.2.2.2 4))), ((q_t 5), .inl (cs 0, 12, .inl (v.2.2.2 5))), ((q_t 6), .inl (cs 0, 12, .inl (v.2.2.2 6)))] H := hP
    replace hD : va_D A [oX7 h_t q_t (v.2.2.1), ((q_t 0), .inl (cs 0, 106, .inl (upd (v.2.2.2 0) (21 : Int32).toNatClampNeg (v.2.1)))), ((q_t 3), .inl (cs 0, 3, .inl (d_t.2 3))), ((q_t 4), .inl (cs 0, 12, .inl (v.2.2.2 4))), ((q_t 5), .inl (cs 0, 12, .inl (v.2.2.2 5))), ((q_t 6), .inl (cs 0, 12, .inl (v.2.2.2 6)))] := hD
    refine lv_iload_n hx hb dX7_drawn_48 rfl (lv_at hl 3 rfl) ?_
    refine lv_aload_n hx hb dX7_drawn_49 rfl (lv_at hl 0 rfl) ?_
    refine lv_iload_n hx hb dX7_drawn_50 rfl (lv_at hl 1 rfl) ?_
    obtain ⟨r3, e4, hf⟩ := bind_some hf
    refine callVi (As := [.int x1]) (rest := [.int (v.1)]) M (mX7_isTogether l D cs sk h_t q_t k (v.2.2.1, (va_up (va_up (va_up (va_up d_t.2 0 (upd (v.2.2.2 0) (21 : Int32).toNatClampNeg (v.2.1))) 4 (v.2.2.2 4)) 5 (v.2.2.2 5)) 6 (v.2.2.2 6))) x1 e4) mw_X7_173 ln_X7_isTogether ⟨rfl, rfl, Nat.le_of_ble_eq_true rfl, Nat.le_of_ble_eq_true rfl⟩ hP hD hS hA [0, 1, 3, 4, 5] (by decide) rfl rfl (q0 := 0) rfl rfl rfl ⟨Nat.zero_le _, Nat.zero_le _⟩ hl.1 rfl (Nat.le_of_ble_eq_true rfl) dX7_drawn_51 (fun H locs hP hD hS => ?_)
    replace hP : va_P D vwCl [oX7 h_t q_t (r3.2.1), ((q_t 0), .inl (cs 0, 106, .inl (upd (v.2.2.2 0) (21 : Int32).toNatClampNeg (v.2.1)))), ((q_t 3), .inl (cs 0, 3, .inl (d_t.2 3))), ((q_t 4), .inl (cs 0, 12, .inl (r3.2.2 4))), ((q_t 5), .inl (cs 0, 12, .inl (r3.2.2 5))), ((q_t 6), .inl (cs 0, 12, .inl (r3.2.2 6)))] H := hP
    replace hD : va_D A [oX7 h_t q_t (r3.2.1), ((q_t 0), .inl (cs 0, 106, .inl (upd (v.2.2.2 0) (21 : Int32).toNatClampNeg (v.2.1)))), ((q_t 3), .inl (cs 0, 3, .inl (d_t.2 3))), ((q_t 4), .inl (cs 0, 12, .inl (r3.2.2 4))), ((q_t 5), .inl (cs 0, 12, .inl (r3.2.2 5))), ((q_t 6), .inl (cs 0, 12, .inl (r3.2.2 6)))] := hD
    have g6 := ite_some hf
    refine lv_if_eq (tgt := 61) hx hb dX7_drawn_54 (by decide) (fun c5 => ?_) (fun c5 => ?_)
    · replace hf := g6.1 c5
      refine lv_iconst (v := 0) hx hb dX7_drawn_61 rfl ?_
      refine lv_iadd hx hb dX7_drawn_62 ?_
      refine lv_istore_n (lv' := [(3, .int ((v.1) + 0)), (0, .ref h_t), (1, .int x1), (2, .int x2), (4, .int (v.2.1))]) hx hb dX7_drawn_63 rfl hl (by decide) rfl (fun ls hl => ?_)
      refine lv_iinc (v := ((v.2.1) + 1)) (lv' := [(4, .int ((v.2.1) + 1)), (3, .int ((v.1) + 0)), (0, .ref h_t), (1, .int x1), (2, .int x2)]) hx hb dX7_drawn_64 hl (k := 4) rfl rfl (by decide) rfl (fun ls hl => ?_)
      refine lv_goto (tgt := 33) hx hb dX7_drawn_67 (by decide) ?_
      exact ih _ hf _ _ _ hP hD hS (lv_sub hl [2, 3, 4, 1, 0] rfl)
    · replace hf := g6.2 c5
      refine lv_iconst (v := 1) hx hb dX7_drawn_57 rfl ?_
      refine lv_goto (tgt := 62) hx hb dX7_drawn_58 (by decide) ?_
      refine lv_iadd hx hb dX7_drawn_62 ?_
      refine lv_istore_n (lv' := [(3, .int ((v.1) + 1)), (0, .ref h_t), (1, .int x1), (2, .int x2), (4, .int (v.2.1))]) hx hb dX7_drawn_63 rfl hl (by decide) rfl (fun ls hl => ?_)
      refine lv_iinc (v := ((v.2.1) + 1)) (lv' := [(4, .int ((v.2.1) + 1)), (3, .int ((v.1) + 1)), (0, .ref h_t), (1, .int x1), (2, .int x2)]) hx hb dX7_drawn_64 hl (k := 4) rfl rfl (by decide) rfl (fun ls hl => ?_)
      refine lv_goto (tgt := 33) hx hb dX7_drawn_67 (by decide) ?_
      exact ih _ hf _ _ _ hP hD hS (lv_sub hl [2, 3, 4, 1, 0] rfl)
set_option maxHeartbeats 4000000 in
set_option maxRecDepth 100000 in
theorem mX7_drawn (l : Launch) (D : va_G) (cs : Nat → ClassId) (sk : Nat → Nat) (h_t : Nat) (q_t : Nat → Nat) (k : Nat) (d_t : Dat) (x1 : Int32) {rv : Int32 × Dat} (hf : fX7_drawn k d_t x1 = some rv) : CTi l yX7_drawn (Cond.code yX7_drawn cX7_drawn 5 (some .int) :: gtbl) rm_X7_drawn D cs sk [.ref h_t, .int x1] [oX7 h_t q_t (d_t.1), ((q_t 0), .inl (cs 0, 106, .inl (d_t.2 0))), ((q_t 3), .inl (cs 0, 3, .inl (d_t.2 3))), ((q_t 4), .inl (cs 0, 12, .inl (d_t.2 4))), ((q_t 5), .inl (cs 0, 12, .inl (d_t.2 5))), ((q_t 6), .inl (cs 0, 12, .inl (d_t.2 6)))] (rv.1) [oX7 h_t q_t (rv.2.1), ((q_t 0), .inl (cs 0, 106, .inl (rv.2.2 0))), ((q_t 3), .inl (cs 0, 3, .inl (rv.2.2 3))), ((q_t 4), .inl (cs 0, 12, .inl (rv.2.2 4))), ((q_t 5), .inl (cs 0, 12, .inl (rv.2.2 5))), ((q_t 6), .inl (cs 0, 12, .inl (rv.2.2 6)))] := by
  refine CTi.of RX7 (by decide +kernel) rfl (Nat.le_of_ble_eq_true rfl) (fun p e s m args below meth c A Q ls M hA hR hl hP hD hS => ?_)
  obtain ⟨hx, hb, hml, hT, hown, hlk, hrt, hK, hN, hSE⟩ := id M
  replace hl : lv_has ls 5 [(0, .ref h_t), (1, .int x1)] := hl
  unfold fX7_drawn at hf
  refine lv_iload_n hx hb dX7_drawn_0 rfl (lv_at hl 1 rfl) ?_
  obtain ⟨r1, e2, hf⟩ := bind_some hf
  refine callSi (As := [.int x1]) (rest := []) M (mX7_isParts l D cs sk  k x1 e2) mw_X7_170 ln_X7_isParts ⟨rfl, rfl, Nat.le_of_ble_eq_true rfl, Nat.le_of_ble_eq_true rfl⟩ hP hD hS hA [] (by decide) rfl rfl ⟨Nat.zero_le _, Nat.zero_le _⟩ hl.1 rfl (Nat.le_of_ble_eq_true rfl) dX7_drawn_1 (fun H locs hP hD hS => ?_)
  replace hP : va_P D vwCl [oX7 h_t q_t (d_t.1), ((q_t 0), .inl (cs 0, 106, .inl (d_t.2 0))), ((q_t 3), .inl (cs 0, 3, .inl (d_t.2 3))), ((q_t 4), .inl (cs 0, 12, .inl (d_t.2 4))), ((q_t 5), .inl (cs 0, 12, .inl (d_t.2 5))), ((q_t 6), .inl (cs 0, 12, .inl (d_t.2 6)))] H := hP
  replace hD : va_D A [oX7 h_t q_t (d_t.1), ((q_t 0), .inl (cs 0, 106, .inl (d_t.2 0))), ((q_t 3), .inl (cs 0, 3, .inl (d_t.2 3))), ((q_t 4), .inl (cs 0, 12, .inl (d_t.2 4))), ((q_t 5), .inl (cs 0, 12, .inl (d_t.2 5))), ((q_t 6), .inl (cs 0, 12, .inl (d_t.2 6)))] := hD
  have g4 := ite_some hf
  refine lv_if_ne (tgt := 14) hx hb dX7_drawn_4 (by decide) (fun c3 => ?_) (fun c3 => ?_)
  · replace hf := g4.2 c3
    refine lv_aload_n hx hb dX7_drawn_14 rfl (lv_at hl 0 rfl) ?_
    refine lv_iconst (v := 0) hx hb dX7_drawn_15 rfl ?_
    refine va_put (D := D) (ci := 7) (v := .int 0) (ty := tyX7 8) (C := RX7) (T := TX7) (N := 23) hx hb hT iX7 tyX7 tyX7_ok nmX7 hown hK hP hD hS 0 rfl rfl 8 (by decide) (hT _ fw_X7_143) (fun _ h9 => h9) rfl (tyX7_ok 8 (by decide)) rfl rfl (Nat.le_of_ble_eq_true rfl) dX7_drawn_16 (fun H locs hP hD hS => ?_)
    replace hP : va_P D vwCl [oX7 h_t q_t (upd d_t.1 8 0), ((q_t 0), .inl (cs 0, 106, .inl (d_t.2 0))), ((q_t 3), .inl (cs 0, 3, .inl (d_t.2 3))), ((q_t 4), .inl (cs 0, 12, .inl (d_t.2 4))), ((q_t 5), .inl (cs 0, 12, .inl (d_t.2 5))), ((q_t 6), .inl (cs 0, 12, .inl (d_t.2 6)))] H := hP
    replace hD : va_D A [oX7 h_t q_t (upd d_t.1 8 0), ((q_t 0), .inl (cs 0, 106, .inl (d_t.2 0))), ((q_t 3), .inl (cs 0, 3, .inl (d_t.2 3))), ((q_t 4), .inl (cs 0, 12, .inl (d_t.2 4))), ((q_t 5), .inl (cs 0, 12, .inl (d_t.2 5))), ((q_t 6), .inl (cs 0, 12, .inl (d_t.2 6)))] := hD
    refine lv_aload_n hx hb dX7_drawn_19 rfl (lv_at hl 0 rfl) ?_
    refine va_get (D := D) (ci := 7) (v := .ref (q_t 0)) (C := RX7) (T := TX7) (N := 23) hx hb hT iX7 hown hK hP 0 rfl rfl 0 (by decide) (hT _ fw_X7_7) (fun _ h9 => h9) rfl dX7_drawn_20 ?_
    refine lv_bipush (v := 21) hx hb dX7_drawn_23 rfl ?_
    obtain ⟨hi, hf⟩ := chk_some hf
    refine va_iald (D := D) hx hb hK hP 1 0 rfl rfl hi dX7_drawn_25 ?_
    refine lv_istore_n (lv' := [(2, .int ((d_t.2 0) (21 : Int32).toNatClampNeg)), (0, .ref h_t), (1, .int x1)]) hx hb dX7_drawn_26 rfl hl (by decide) rfl (fun ls hl => ?_)
    refine lv_iconst (v := 0) hx hb dX7_drawn_27 rfl ?_
    refine lv_istore_n (lv' := [(3, .int 0), (2, .int ((d_t.2 0) (21 : Int32).toNatClampNeg)), (0, .ref h_t), (1, .int x1)]) hx hb dX7_drawn_28 rfl hl (by decide) rfl (fun ls hl => ?_)
    refine lv_bipush (v := (-2)) hx hb dX7_drawn_29 rfl ?_
    refine lv_istore (lv' := [(4, .int (-2)), (3, .int 0), (2, .int ((d_t.2 0) (21 : Int32).toNatClampNeg)), (0, .ref h_t), (1, .int x1)]) hx hb dX7_drawn_31 hl (by decide) rfl (fun ls hl => ?_)
    refine mX7_drawn_B33 h_t q_t k x1 ((d_t.2 0) (21 : Int32).toNatClampNeg) ((upd d_t.1 8 0), d_t.2) _ M hA hR (fun w5 hf H locs ls hP hD hS hl => ?_) _ _ hf _ _ _ hP hD hS (lv_sub hl [3, 4, 2, 1, 0] rfl)
    · refine lv_aload_n hx hb dX7_drawn_70 rfl (lv_at hl 0 rfl) ?_
      refine va_get (D := D) (ci := 7) (v := .ref (q_t 0)) (C := RX7) (T := TX7) (N := 23) hx hb hT iX7 hown hK hP 0 rfl rfl 0 (by decide) (hT _ fw_X7_7) (fun _ h9 => h9) rfl dX7_drawn_71 ?_
      refine lv_bipush (v := 21) hx hb dX7_drawn_74 rfl ?_
      refine lv_iload_n hx hb dX7_drawn_76 rfl (lv_at hl 1 rfl) ?_
      obtain ⟨hi, hf⟩ := chk_some hf
      refine va_iast (D := D) hx hb hK hP hD hS 1 0 rfl rfl hi dX7_drawn_77 (fun H locs hP hD hS => ?_)
      replace hP : va_P D vwCl [oX7 h_t q_t (w5.2.1), ((q_t 0), .inl (cs 0, 106, .inl (upd (w5.2.2 0) (21 : Int32).toNatClampNeg ((d_t.2 0) (21 : Int32).toNatClampNeg)))), ((q_t 3), .inl (cs 0, 3, .inl (d_t.2 3))), ((q_t 4), .inl (cs 0, 12, .inl (w5.2.2 4))), ((q_t 5), .inl (cs 0, 12, .inl (w5.2.2 5))), ((q_t 6), .inl (cs 0, 12, .inl (w5.2.2 6)))] H := hP
      replace hD : va_D A [oX7 h_t q_t (w5.2.1), ((q_t 0), .inl (cs 0, 106, .inl (upd (w5.2.2 0) (21 : Int32).toNatClampNeg ((d_t.2 0) (21 : Int32).toNatClampNeg)))), ((q_t 3), .inl (cs 0, 3, .inl (d_t.2 3))), ((q_t 4), .inl (cs 0, 12, .inl (w5.2.2 4))), ((q_t 5), .inl (cs 0, 12, .inl (w5.2.2 5))), ((q_t 6), .inl (cs 0, 12, .inl (w5.2.2 6)))] := hD
      refine lv_iload_n hx hb dX7_drawn_78 rfl (lv_at hl 2 rfl) ?_
      have e9 := Option.some.inj hf
      subst e9
      exact hR _ _ _ _ dX7_drawn_79 hP hS
  · replace hf := g4.1 c3
    refine lv_aload_n hx hb dX7_drawn_7 rfl (lv_at hl 0 rfl) ?_
    refine lv_bipush (v := (-2)) hx hb dX7_drawn_8 rfl ?_
    obtain ⟨r6, e7, hf⟩ := bind_some hf
    refine callVi (As := [.int (-2)]) (rest := []) M (mX7_bad l D cs sk h_t q_t k d_t (-2) e7) mw_X7_76 ln_X7_bad ⟨rfl, rfl, Nat.le_of_ble_eq_true rfl, Nat.le_of_ble_eq_true rfl⟩ hP hD hS hA [0, 2] (by decide) rfl rfl (q0 := 0) rfl rfl rfl ⟨Nat.zero_le _, Nat.zero_le _⟩ hl.1 rfl (Nat.le_of_ble_eq_true rfl) dX7_drawn_10 (fun H locs hP hD hS => ?_)
    replace hP : va_P D vwCl [oX7 h_t q_t (d_t.1), ((q_t 0), .inl (cs 0, 106, .inl (d_t.2 0))), ((q_t 3), .inl (cs 0, 3, .inl (r6.2.2 3))), ((q_t 4), .inl (cs 0, 12, .inl (d_t.2 4))), ((q_t 5), .inl (cs 0, 12, .inl (d_t.2 5))), ((q_t 6), .inl (cs 0, 12, .inl (d_t.2 6)))] H := hP
    replace hD : va_D A [oX7 h_t q_t (d_t.1), ((q_t 0), .inl (cs 0, 106, .inl (d_t.2 0))), ((q_t 3), .inl (cs 0, 3, .inl (r6.2.2 3))), ((q_t 4), .inl (cs 0, 12, .inl (d_t.2 4))), ((q_t 5), .inl (cs 0, 12, .inl (d_t.2 5))), ((q_t 6), .inl (cs 0, 12, .inl (d_t.2 6)))] := hD
    have e9 := Option.some.inj hf
    subst e9
    exact hR _ _ _ _ dX7_drawn_13 hP hS
abbrev rm_X7_type : Room := { frames := 1, cells := 0, slots := 0, locals := 25 }
def fX7_type_B41 (k : Nat) (x1 : Int64) (d_t : Dat) (K83 : Dat → Option (Int32 × Dat)) (rec : Int32 × Dat → Option (Int32 × Dat)) (v : Int32 × Dat) : Option (Int32 × Dat) :=
  (if (v.1) < 0 then K83 (v.2.1, (va_up d_t.2 15 (v.2.2 15))) else chk 250 (v.2.1 16) (rec (((v.1) + (-1)), ((upd v.2.1 16 ((v.2.1 16) + 1)), (va_up d_t.2 15 (upd (v.2.2 15) (v.2.1 16).toNatClampNeg ((x1.toUInt64 >>> ((8 * (v.1)).toInt64.toUInt64 &&& Int64.toUInt64 63)).toInt64 &&& 255).toInt32))))))
def fX7_type (k : Nat) (d_t : Dat) (x1 : Int64) (x3 : Int32) : Option (Int32 × Dat) :=
  (fX7_in k x3.toInt64 1 8).bind (fun (r1 : Int32) => (if r1 = 0 then (fX7_bad k d_t (-2)).bind (fun (r10 : Int32 × Dat) => some ((r10.1), (d_t.1, (va_up d_t.2 3 (r10.2.2 3))))) else (if ((d_t.1 16) + x3) ≤ 250 then lp (fX7_type_B41 k x1 d_t (fun (w7 : Dat) => some ((w7.1 16), (w7.1, (va_up d_t.2 15 (w7.2 15)))))) k ((x3 - 1), d_t) else (fX7_full k d_t).bind (fun (r8 : Int32 × Dat) => some ((r8.1), (d_t.1, (va_up d_t.2 3 (r8.2.2 3))))))))
set_option maxHeartbeats 4000000 in
set_option maxRecDepth 100000 in
theorem mX7_type_B41 {l : Launch} {p : Program} {e : Env} {s : State} {m : MethodId} {args : Array Value} {below : List Frame} {meth : Method} {c : Code} {D : va_G} {cs : Nat → ClassId} {sk : Nat → Nat} {A : Nat → Prop} {Q : State → Prop} (h_t : Nat) (q_t : Nat → Nat) (k : Nat) (x1 : Int64) (d_t : Dat) {rv : Int32 × Dat}  (K83 : Dat → Option (Int32 × Dat))
    (M : MC p s m args meth c D cs sk A RX7 cX7_type 5 (some .int)) (hA : ∀ q, s.heap.size ≤ q → A q) (hR : RetI p l e rm_X7_type s m args below meth c D cX7_type A Q (rv.1) [oX7 h_t q_t (rv.2.1), ((q_t 3), .inl (cs 0, 3, .inl (rv.2.2 3))), ((q_t 15), .inl (cs 0, 250, .inl (rv.2.2 15)))])
    (hK83 : ∀ (w : Dat), K83 w = some rv → ∀ (H : Heap) (locs : List Loc) (ls : Array Slot), va_P D vwCl [oX7 h_t q_t (w.1), ((q_t 3), .inl (cs 0, 3, .inl (d_t.2 3))), ((q_t 15), .inl (cs 0, 250, .inl (w.2 15)))] H → va_D A [oX7 h_t q_t (w.1), ((q_t 3), .inl (cs 0, 3, .inl (d_t.2 3))), ((q_t 15), .inl (cs 0, 250, .inl (w.2 15)))] → va_S A s.heap H locs → lv_has ls 5 [(0, .ref h_t)] → W p l e rm_X7_type s m args below meth c H locs 0 0 Q (F0 m 83 ls []))
    : ∀ (n : Nat) (v : Int32 × Dat), lp (fX7_type_B41 k x1 d_t K83) n v = some rv → ∀ (H : Heap) (locs : List Loc) (ls : Array Slot), va_P D vwCl [oX7 h_t q_t (v.2.1), ((q_t 3), .inl (cs 0, 3, .inl (d_t.2 3))), ((q_t 15), .inl (cs 0, 250, .inl (v.2.2 15)))] H → va_D A [oX7 h_t q_t (v.2.1), ((q_t 3), .inl (cs 0, 3, .inl (d_t.2 3))), ((q_t 15), .inl (cs 0, 250, .inl (v.2.2 15)))] → va_S A s.heap H locs → lv_has ls 5 [(0, .ref h_t), (1, .long x1), (4, .int (v.1))] → W p l e rm_X7_type s m args below meth c H locs 0 0 Q (F0 m 41 ls []) := by
  obtain ⟨hx, hb, hml, hT, hown, hlk, hrt, hK, hN, hSE⟩ := id M
  refine lp_ind (fun rec ih v hf H locs ls hP hD hS hl => ?_)
  unfold fX7_type_B41 at hf
  refine lv_iload hx hb dX7_type_41 (lv_at hl 2 rfl) ?_
  have g2 := ite_some hf
  refine lv_if_lt (tgt := 83) hx hb dX7_type_43 (by decide) (fun c1 => ?_) (fun c1 => ?_)
  · replace hf := g2.1 c1
    exact hK83 _ hf _ _ _ hP hD hS (lv_sub hl [0] rfl)
  · replace hf := g2.2 c1
    refine lv_aload_n hx hb dX7_type_46 rfl (lv_at hl 0 rfl) ?_
    refine va_get (D := D) (ci := 7) (v := .ref (q_t 15)) (C := RX7) (T := TX7) (N := 23) hx hb hT iX7 hown hK hP 0 rfl rfl 15 (by decide) (hT _ fw_X7_50) (fun _ h9 => h9) rfl dX7_type_47 ?_
    refine lv_aload_n hx hb dX7_type_50 rfl (lv_at hl 0 rfl) ?_
    refine va_get (D := D) (ci := 7) (v := .int (v.2.1 16)) (C := RX7) (T := TX7) (N := 23) hx hb hT iX7 hown hK hP 0 rfl rfl 16 (by decide) (hT _ fw_X7_217) (fun _ h9 => h9) rfl dX7_type_51 ?_
    refine lv_lload_n hx hb dX7_type_54 rfl (lv_at hl 1 rfl) ?_
    refine lv_bipush (v := 8) hx hb dX7_type_55 rfl ?_
    refine lv_iload hx hb dX7_type_57 (lv_at hl 2 rfl) ?_
    refine lv_imul hx hb dX7_type_59 ?_
    refine lv_lushr (v := (x1.toUInt64 >>> ((8 * (v.1)).toInt64.toUInt64 &&& Int64.toUInt64 63)).toInt64) hx hb dX7_type_60 rfl ?_
    refine W.ldc2 (v := 255) hx hb hown (hT _ kw_X7_220) rfl dX7_type_61 ?_
    refine W.eq (g2 := F0 m 64 ls [.long 255, .long (x1.toUInt64 >>> ((8 * (v.1)).toInt64.toUInt64 &&& Int64.toUInt64 63)).toInt64, .int (v.2.1 16), .ref (q_t 15)]) rfl ?_
    refine lv_land hx hb dX7_type_64 ?_
    refine lv_l2i (v := ((x1.toUInt64 >>> ((8 * (v.1)).toInt64.toUInt64 &&& Int64.toUInt64 63)).toInt64 &&& 255).toInt32) hx hb dX7_type_65 rfl ?_
    obtain ⟨hi, hf⟩ := chk_some hf
    refine va_iast (D := D) hx hb hK hP hD hS 2 0 rfl rfl hi dX7_type_66 (fun H locs hP hD hS => ?_)
    replace hP : va_P D vwCl [oX7 h_t q_t (v.2.1), ((q_t 3), .inl (cs 0, 3, .inl (d_t.2 3))), ((q_t 15), .inl (cs 0, 250, .inl (upd (v.2.2 15) (v.2.1 16).toNatClampNeg ((x1.toUInt64 >>> ((8 * (v.1)).toInt64.toUInt64 &&& Int64.toUInt64 63)).toInt64 &&& 255).toInt32)))] H := hP
    replace hD : va_D A [oX7 h_t q_t (v.2.1), ((q_t 3), .inl (cs 0, 3, .inl (d_t.2 3))), ((q_t 15), .inl (cs 0, 250, .inl (upd (v.2.2 15) (v.2.1 16).toNatClampNeg ((x1.toUInt64 >>> ((8 * (v.1)).toInt64.toUInt64 &&& Int64.toUInt64 63)).toInt64 &&& 255).toInt32)))] := hD
    refine lv_aload_n hx hb dX7_type_67 rfl (lv_at hl 0 rfl) ?_
    refine lv_dup hx hb dX7_type_68 rfl ?_
    refine va_get (D := D) (ci := 7) (v := .int (v.2.1 16)) (C := RX7) (T := TX7) (N := 23) hx hb hT iX7 hown hK hP 0 rfl rfl 16 (by decide) (hT _ fw_X7_217) (fun _ h9 => h9) rfl dX7_type_69 ?_
    refine lv_iconst (v := 1) hx hb dX7_type_72 rfl ?_
    refine lv_iadd hx hb dX7_type_73 ?_
    refine va_put (D := D) (ci := 7) (v := .int ((v.2.1 16) + 1)) (ty := tyX7 16) (C := RX7) (T := TX7) (N := 23) hx hb hT iX7 tyX7 tyX7_ok nmX7 hown hK hP hD hS 0 rfl rfl 16 (by decide) (hT _ fw_X7_217) (fun _ h9 => h9) rfl (tyX7_ok 16 (by decide)) rfl rfl (Nat.le_of_ble_eq_true rfl) dX7_type_74 (fun H locs hP hD hS => ?_)
    replace hP : va_P D vwCl [oX7 h_t q_t (upd v.2.1 16 ((v.2.1 16) + 1)), ((q_t 3), .inl (cs 0, 3, .inl (d_t.2 3))), ((q_t 15), .inl (cs 0, 250, .inl (upd (v.2.2 15) (v.2.1 16).toNatClampNeg ((x1.toUInt64 >>> ((8 * (v.1)).toInt64.toUInt64 &&& Int64.toUInt64 63)).toInt64 &&& 255).toInt32)))] H := hP
    replace hD : va_D A [oX7 h_t q_t (upd v.2.1 16 ((v.2.1 16) + 1)), ((q_t 3), .inl (cs 0, 3, .inl (d_t.2 3))), ((q_t 15), .inl (cs 0, 250, .inl (upd (v.2.2 15) (v.2.1 16).toNatClampNeg ((x1.toUInt64 >>> ((8 * (v.1)).toInt64.toUInt64 &&& Int64.toUInt64 63)).toInt64 &&& 255).toInt32)))] := hD
    refine lv_iinc (v := ((v.1) + (-1))) (lv' := [(4, .int ((v.1) + (-1))), (0, .ref h_t), (1, .long x1)]) hx hb dX7_type_77 hl (k := 2) rfl rfl (by decide) rfl (fun ls hl => ?_)
    refine lv_goto (tgt := 41) hx hb dX7_type_80 (by decide) ?_
    exact ih _ hf _ _ _ hP hD hS (lv_sub hl [1, 2, 0] rfl)
set_option maxHeartbeats 4000000 in
set_option maxRecDepth 100000 in
theorem mX7_type (l : Launch) (D : va_G) (cs : Nat → ClassId) (sk : Nat → Nat) (h_t : Nat) (q_t : Nat → Nat) (k : Nat) (d_t : Dat) (x1 : Int64) (x3 : Int32) {rv : Int32 × Dat} (hf : fX7_type k d_t x1 x3 = some rv) : CTi l yX7_type (Cond.code yX7_type cX7_type 5 (some .int) :: gtbl) rm_X7_type D cs sk [.ref h_t, .long x1, .int x3] [oX7 h_t q_t (d_t.1), ((q_t 3), .inl (cs 0, 3, .inl (d_t.2 3))), ((q_t 15), .inl (cs 0, 250, .inl (d_t.2 15)))] (rv.1) [oX7 h_t q_t (rv.2.1), ((q_t 3), .inl (cs 0, 3, .inl (rv.2.2 3))), ((q_t 15), .inl (cs 0, 250, .inl (rv.2.2 15)))] := by
  refine CTi.of RX7 (by decide +kernel) rfl (Nat.le_of_ble_eq_true rfl) (fun p e s m args below meth c A Q ls M hA hR hl hP hD hS => ?_)
  obtain ⟨hx, hb, hml, hT, hown, hlk, hrt, hK, hN, hSE⟩ := id M
  replace hl : lv_has ls 5 [(0, .ref h_t), (1, .long x1), (3, .int x3)] := hl
  unfold fX7_type at hf
  refine lv_iload_n hx hb dX7_type_0 rfl (lv_at hl 2 rfl) ?_
  refine lv_i2l (v := x3.toInt64) hx hb dX7_type_1 rfl ?_
  refine lv_lconst (v := 1) hx hb dX7_type_2 rfl ?_
  refine W.ldc2 (v := 8) hx hb hown (hT _ kw_X7_215) rfl dX7_type_3 ?_
  refine W.eq (g2 := F0 m 6 ls [.long 8, .long 1, .long x3.toInt64]) rfl ?_
  obtain ⟨r1, e2, hf⟩ := bind_some hf
  refine callSi (As := [.long x3.toInt64, .long 1, .long 8]) (rest := []) M (mX7_in l D cs sk  k x3.toInt64 1 8 e2) mw_X7_60 ln_X7_in ⟨rfl, rfl, Nat.le_of_ble_eq_true rfl, Nat.le_of_ble_eq_true rfl⟩ hP hD hS hA [] (by decide) rfl rfl ⟨Nat.zero_le _, Nat.zero_le _⟩ hl.1 rfl (Nat.le_of_ble_eq_true rfl) dX7_type_6 (fun H locs hP hD hS => ?_)
  replace hP : va_P D vwCl [oX7 h_t q_t (d_t.1), ((q_t 3), .inl (cs 0, 3, .inl (d_t.2 3))), ((q_t 15), .inl (cs 0, 250, .inl (d_t.2 15)))] H := hP
  replace hD : va_D A [oX7 h_t q_t (d_t.1), ((q_t 3), .inl (cs 0, 3, .inl (d_t.2 3))), ((q_t 15), .inl (cs 0, 250, .inl (d_t.2 15)))] := hD
  have g4 := ite_some hf
  refine lv_if_ne (tgt := 19) hx hb dX7_type_9 (by decide) (fun c3 => ?_) (fun c3 => ?_)
  · replace hf := g4.2 c3
    refine lv_aload_n hx hb dX7_type_19 rfl (lv_at hl 0 rfl) ?_
    refine va_get (D := D) (ci := 7) (v := .int (d_t.1 16)) (C := RX7) (T := TX7) (N := 23) hx hb hT iX7 hown hK hP 0 rfl rfl 16 (by decide) (hT _ fw_X7_217) (fun _ h9 => h9) rfl dX7_type_20 ?_
    refine lv_iload_n hx hb dX7_type_23 rfl (lv_at hl 2 rfl) ?_
    refine lv_iadd hx hb dX7_type_24 ?_
    refine lv_sipush (v := 250) hx hb dX7_type_25 rfl ?_
    have g6 := ite_some hf
    refine lv_icmp_le (tgt := 36) hx hb dX7_type_28 (by decide) (fun c5 => ?_) (fun c5 => ?_)
    · replace hf := g6.1 c5
      refine lv_iload_n hx hb dX7_type_36 rfl (lv_at hl 2 rfl) ?_
      refine lv_iconst (v := 1) hx hb dX7_type_37 rfl ?_
      refine lv_isub hx hb dX7_type_38 ?_
      refine lv_istore (lv' := [(4, .int (x3 - 1)), (0, .ref h_t), (1, .long x1), (3, .int x3)]) hx hb dX7_type_39 hl (by decide) rfl (fun ls hl => ?_)
      refine mX7_type_B41 h_t q_t k x1 d_t _ M hA hR (fun w7 hf H locs ls hP hD hS hl => ?_) _ _ hf _ _ _ hP hD hS (lv_sub hl [1, 2, 0] rfl)
      · refine lv_aload_n hx hb dX7_type_83 rfl (lv_at hl 0 rfl) ?_
        refine va_get (D := D) (ci := 7) (v := .int (w7.1 16)) (C := RX7) (T := TX7) (N := 23) hx hb hT iX7 hown hK hP 0 rfl rfl 16 (by decide) (hT _ fw_X7_217) (fun _ h9 => h9) rfl dX7_type_84 ?_
        have e9 := Option.some.inj hf
        subst e9
        exact hR _ _ _ _ dX7_type_87 hP hS
    · replace hf := g6.2 c5
      refine lv_aload_n hx hb dX7_type_31 rfl (lv_at hl 0 rfl) ?_
      obtain ⟨r8, e9, hf⟩ := bind_some hf
      refine callVi (As := []) (rest := []) M (mX7_full l D cs sk h_t q_t k d_t e9) mw_X7_80 ln_X7_full ⟨rfl, rfl, Nat.le_of_ble_eq_true rfl, Nat.le_of_ble_eq_true rfl⟩ hP hD hS hA [0, 1] (by decide) rfl rfl (q0 := 0) rfl rfl rfl ⟨Nat.zero_le _, Nat.zero_le _⟩ hl.1 rfl (Nat.le_of_ble_eq_true rfl) dX7_type_32 (fun H locs hP hD hS => ?_)
      replace hP : va_P D vwCl [oX7 h_t q_t (d_t.1), ((q_t 3), .inl (cs 0, 3, .inl (r8.2.2 3))), ((q_t 15), .inl (cs 0, 250, .inl (d_t.2 15)))] H := hP
      replace hD : va_D A [oX7 h_t q_t (d_t.1), ((q_t 3), .inl (cs 0, 3, .inl (r8.2.2 3))), ((q_t 15), .inl (cs 0, 250, .inl (d_t.2 15)))] := hD
      have e9 := Option.some.inj hf
      subst e9
      exact hR _ _ _ _ dX7_type_35 hP hS
  · replace hf := g4.1 c3
    refine lv_aload_n hx hb dX7_type_12 rfl (lv_at hl 0 rfl) ?_
    refine lv_bipush (v := (-2)) hx hb dX7_type_13 rfl ?_
    obtain ⟨r10, e11, hf⟩ := bind_some hf
    refine callVi (As := [.int (-2)]) (rest := []) M (mX7_bad l D cs sk h_t q_t k d_t (-2) e11) mw_X7_76 ln_X7_bad ⟨rfl, rfl, Nat.le_of_ble_eq_true rfl, Nat.le_of_ble_eq_true rfl⟩ hP hD hS hA [0, 1] (by decide) rfl rfl (q0 := 0) rfl rfl rfl ⟨Nat.zero_le _, Nat.zero_le _⟩ hl.1 rfl (Nat.le_of_ble_eq_true rfl) dX7_type_15 (fun H locs hP hD hS => ?_)
    replace hP : va_P D vwCl [oX7 h_t q_t (d_t.1), ((q_t 3), .inl (cs 0, 3, .inl (r10.2.2 3))), ((q_t 15), .inl (cs 0, 250, .inl (d_t.2 15)))] H := hP
    replace hD : va_D A [oX7 h_t q_t (d_t.1), ((q_t 3), .inl (cs 0, 3, .inl (r10.2.2 3))), ((q_t 15), .inl (cs 0, 250, .inl (d_t.2 15)))] := hD
    have e9 := Option.some.inj hf
    subst e9
    exact hR _ _ _ _ dX7_type_18 hP hS
abbrev rm_X7_clear : Room := { frames := 0, cells := 0, slots := 0, locals := 0 }
def fX7_clear (k : Nat) (d_t : Dat) : Option (Int32 × Dat) :=
  some ((d_t.1 16), ((upd d_t.1 16 0), d_t.2))
set_option maxHeartbeats 4000000 in
set_option maxRecDepth 100000 in
theorem mX7_clear (l : Launch) (D : va_G) (cs : Nat → ClassId) (sk : Nat → Nat) (h_t : Nat) (q_t : Nat → Nat) (k : Nat) (d_t : Dat) {rv : Int32 × Dat} (hf : fX7_clear k d_t = some rv) : CTi l yX7_clear (Cond.code yX7_clear cX7_clear 2 (some .int) :: gtbl) rm_X7_clear D cs sk [.ref h_t] [oX7 h_t q_t (d_t.1)] (rv.1) [oX7 h_t q_t (rv.2.1)] := by
  refine CTi.of RX7 (by decide +kernel) rfl (Nat.le_of_ble_eq_true rfl) (fun p e s m args below meth c A Q ls M hA hR hl hP hD hS => ?_)
  obtain ⟨hx, hb, hml, hT, hown, hlk, hrt, hK, hN, hSE⟩ := id M
  replace hl : lv_has ls 2 [(0, .ref h_t)] := hl
  unfold fX7_clear at hf
  refine lv_aload_n hx hb dX7_clear_0 rfl (lv_at hl 0 rfl) ?_
  refine va_get (D := D) (ci := 7) (v := .int (d_t.1 16)) (C := RX7) (T := TX7) (N := 23) hx hb hT iX7 hown hK hP 0 rfl rfl 16 (by decide) (hT _ fw_X7_217) (fun _ h9 => h9) rfl dX7_clear_1 ?_
  refine lv_istore_n (lv' := [(1, .int (d_t.1 16)), (0, .ref h_t)]) hx hb dX7_clear_4 rfl hl (by decide) rfl (fun ls hl => ?_)
  refine lv_aload_n hx hb dX7_clear_5 rfl (lv_at hl 1 rfl) ?_
  refine lv_iconst (v := 0) hx hb dX7_clear_6 rfl ?_
  refine va_put (D := D) (ci := 7) (v := .int 0) (ty := tyX7 16) (C := RX7) (T := TX7) (N := 23) hx hb hT iX7 tyX7 tyX7_ok nmX7 hown hK hP hD hS 0 rfl rfl 16 (by decide) (hT _ fw_X7_217) (fun _ h9 => h9) rfl (tyX7_ok 16 (by decide)) rfl rfl (Nat.le_of_ble_eq_true rfl) dX7_clear_7 (fun H locs hP hD hS => ?_)
  replace hP : va_P D vwCl [oX7 h_t q_t (upd d_t.1 16 0)] H := hP
  replace hD : va_D A [oX7 h_t q_t (upd d_t.1 16 0)] := hD
  refine lv_iload_n hx hb dX7_clear_10 rfl (lv_at hl 0 rfl) ?_
  have e9 := Option.some.inj hf
  subst e9
  exact hR _ _ _ _ dX7_clear_11 hP hS
abbrev rm_X7_isSmall : Room := { frames := 1, cells := 0, slots := 0, locals := 25 }
def fX7_isSmall (k : Nat) (x0 : Int32) : Option (Int32) :=
  (fX7_in k x0.toInt64 97 122).bind (fun (r1 : Int32) => chb r1 (some r1))
set_option maxHeartbeats 4000000 in
set_option maxRecDepth 100000 in
theorem mX7_isSmall (l : Launch) (D : va_G) (cs : Nat → ClassId) (sk : Nat → Nat)  (k : Nat) (x0 : Int32) {rv : Int32} (hf : fX7_isSmall k x0 = some rv) : CTi l yX7_isSmall (Cond.code yX7_isSmall cX7_isSmall 1 (some .boolean) :: gtbl) rm_X7_isSmall D cs sk [.int x0] [] (rv) [] := by
  refine CTi.ofZ RX7 (by decide +kernel) rfl (Nat.le_of_ble_eq_true rfl) (fun p e s m args below meth c A Q ls M hA hR hl hP hD hS => ?_)
  obtain ⟨hx, hb, hml, hT, hown, hlk, hrt, hK, hN, hSE⟩ := id M
  replace hl : lv_has ls 1 [(0, .int x0)] := hl
  unfold fX7_isSmall at hf
  refine lv_iload_n hx hb dX7_isSmall_0 rfl (lv_at hl 0 rfl) ?_
  refine lv_i2l (v := x0.toInt64) hx hb dX7_isSmall_1 rfl ?_
  refine W.ldc2 (v := 97) hx hb hown (hT _ kw_X7_222) rfl dX7_isSmall_2 ?_
  refine W.eq (g2 := F0 m 5 ls [.long 97, .long x0.toInt64]) rfl ?_
  refine W.ldc2 (v := 122) hx hb hown (hT _ kw_X7_224) rfl dX7_isSmall_5 ?_
  refine W.eq (g2 := F0 m 8 ls [.long 122, .long 97, .long x0.toInt64]) rfl ?_
  obtain ⟨r1, e2, hf⟩ := bind_some hf
  refine callSi (As := [.long x0.toInt64, .long 97, .long 122]) (rest := []) M (mX7_in l D cs sk  k x0.toInt64 97 122 e2) mw_X7_60 ln_X7_in ⟨rfl, rfl, Nat.le_of_ble_eq_true rfl, Nat.le_of_ble_eq_true rfl⟩ hP hD hS hA [] (by decide) rfl rfl ⟨Nat.zero_le _, Nat.zero_le _⟩ hl.1 rfl (Nat.le_of_ble_eq_true rfl) dX7_isSmall_8 (fun H locs hP hD hS => ?_)
  replace hP : va_P D vwCl [] H := hP
  replace hD : va_D A [] := hD
  obtain ⟨h01, hf⟩ := chb_some hf
  have e9 := Option.some.inj hf
  subst e9
  exact hR _ _ _ _ dX7_isSmall_11 h01 hP hS
abbrev rm_X7_isFigure : Room := { frames := 1, cells := 0, slots := 0, locals := 25 }
def fX7_isFigure (k : Nat) (x0 : Int32) : Option (Int32) :=
  (fX7_in k x0.toInt64 48 57).bind (fun (r1 : Int32) => chb r1 (some r1))
set_option maxHeartbeats 4000000 in
set_option maxRecDepth 100000 in
theorem mX7_isFigure (l : Launch) (D : va_G) (cs : Nat → ClassId) (sk : Nat → Nat)  (k : Nat) (x0 : Int32) {rv : Int32} (hf : fX7_isFigure k x0 = some rv) : CTi l yX7_isFigure (Cond.code yX7_isFigure cX7_isFigure 1 (some .boolean) :: gtbl) rm_X7_isFigure D cs sk [.int x0] [] (rv) [] := by
  refine CTi.ofZ RX7 (by decide +kernel) rfl (Nat.le_of_ble_eq_true rfl) (fun p e s m args below meth c A Q ls M hA hR hl hP hD hS => ?_)
  obtain ⟨hx, hb, hml, hT, hown, hlk, hrt, hK, hN, hSE⟩ := id M
  replace hl : lv_has ls 1 [(0, .int x0)] := hl
  unfold fX7_isFigure at hf
  refine lv_iload_n hx hb dX7_isFigure_0 rfl (lv_at hl 0 rfl) ?_
  refine lv_i2l (v := x0.toInt64) hx hb dX7_isFigure_1 rfl ?_
  refine W.ldc2 (v := 48) hx hb hown (hT _ kw_X7_226) rfl dX7_isFigure_2 ?_
  refine W.eq (g2 := F0 m 5 ls [.long 48, .long x0.toInt64]) rfl ?_
  refine W.ldc2 (v := 57) hx hb hown (hT _ kw_X7_228) rfl dX7_isFigure_5 ?_
  refine W.eq (g2 := F0 m 8 ls [.long 57, .long 48, .long x0.toInt64]) rfl ?_
  obtain ⟨r1, e2, hf⟩ := bind_some hf
  refine callSi (As := [.long x0.toInt64, .long 48, .long 57]) (rest := []) M (mX7_in l D cs sk  k x0.toInt64 48 57 e2) mw_X7_60 ln_X7_in ⟨rfl, rfl, Nat.le_of_ble_eq_true rfl, Nat.le_of_ble_eq_true rfl⟩ hP hD hS hA [] (by decide) rfl rfl ⟨Nat.zero_le _, Nat.zero_le _⟩ hl.1 rfl (Nat.le_of_ble_eq_true rfl) dX7_isFigure_8 (fun H locs hP hD hS => ?_)
  replace hP : va_P D vwCl [] H := hP
  replace hD : va_D A [] := hD
  obtain ⟨h01, hf⟩ := chb_some hf
  have e9 := Option.some.inj hf
  subst e9
  exact hR _ _ _ _ dX7_isFigure_11 h01 hP hS
abbrev rm_X7_look : Room := { frames := 2, cells := 0, slots := 0, locals := 45 }
def fX7_look_B5 (k : Nat) (d_t : Dat) (K43 : Dat → Option (Dat)) (rec : Dat → Option (Dat)) (v : Dat) : Option (Dat) :=
  (if (v.1 16) ≤ (v.1 17) then K43 (v.1, d_t.2) else chk 250 (v.1 17) ((if ((d_t.2 15) (v.1 17).toNatClampNeg) = 32 then rec ((upd v.1 17 ((v.1 17) + 1)), d_t.2) else K43 (v.1, d_t.2))))
def fX7_look_B146 (k : Nat) (d_t : Dat) (K225 : Dat → Option (Dat)) (rec : Int32 × Dat → Option (Dat)) (v : Int32 × Dat) : Option (Dat) :=
  (if (v.1) = 0 then K225 (v.2.1, d_t.2) else (if (v.2.1 16) ≤ ((v.2.1 17) + (v.2.1 18)) then K225 (v.2.1, d_t.2) else chk 250 ((v.2.1 17) + (v.2.1 18)) ((if (v.2.1 19) = 1 then (fX7_isSmall k ((d_t.2 15) ((v.2.1 17) + (v.2.1 18)).toNatClampNeg)).bind (fun (r11 : Int32) => (if r11 = 0 then rec (r11, ((upd v.2.1 18 ((v.2.1 18) + 0)), d_t.2)) else rec (r11, ((upd v.2.1 18 ((v.2.1 18) + 1)), d_t.2)))) else (fX7_isFigure k ((d_t.2 15) ((v.2.1 17) + (v.2.1 18)).toNatClampNeg)).bind (fun (r7 : Int32) => (if r7 = 0 then rec (r7, ((upd v.2.1 18 ((v.2.1 18) + 0)), d_t.2)) else rec (r7, ((upd v.2.1 18 ((v.2.1 18) + 1)), d_t.2))))))))
def fX7_look_B228 (k : Nat) (d_t : Dat) (K284 : Dat → Option (Dat)) (rec : Int32 × Dat → Option (Dat)) (v : Int32 × Dat) : Option (Dat) :=
  (if (v.2.1 18) ≤ (v.1) then K284 (v.2.1, d_t.2) else (if 3 ≤ (v.1) then K284 (v.2.1, d_t.2) else (if (v.2.1 19) = 2 then chk 250 ((v.2.1 17) + (v.1)) (rec (((v.1) + 1), ((upd v.2.1 20 (((10 * (v.2.1 20)) + ((d_t.2 15) ((v.2.1 17) + (v.1)).toNatClampNeg)) - 48)), d_t.2))) else K284 (v.2.1, d_t.2))))
def fX7_look (k : Nat) (d_t : Dat) (x1 : Int32) : Option (Dat) :=
  lp (fX7_look_B5 k ((upd d_t.1 17 x1), d_t.2) (fun (w1 : Dat) => (if (w1.1 17) = (w1.1 16) then some ((upd (upd (upd w1.1 18 0) 19 0) 20 0), d_t.2) else chk 250 (w1.1 17) ((fX7_isSmall k ((d_t.2 15) (w1.1 17).toNatClampNeg)).bind (fun (r4 : Int32) => (if r4 = 0 then (fX7_isFigure k ((d_t.2 15) (w1.1 17).toNatClampNeg)).bind (fun (r8 : Int32) => (if r8 = 0 then (if ((d_t.2 15) (w1.1 17).toNatClampNeg) = 59 then (if 3 ≤ (3 : Int32) then lp (fX7_look_B146 k ((upd (upd (upd w1.1 18 1) 19 3) 20 0), d_t.2) (fun (w46 : Dat) => lp (fX7_look_B228 k (w46.1, d_t.2) (fun (w47 : Dat) => (if (w47.1 19) = 2 then (if (w47.1 18) ≤ 3 then some ((upd w47.1 19 (w47.1 19)), d_t.2) else some ((upd w47.1 19 4), d_t.2)) else some ((upd w47.1 19 (w47.1 19)), d_t.2)))) k (0, (w46.1, d_t.2)))) k (0, ((upd (upd (upd w1.1 18 1) 19 3) 20 0), d_t.2)) else lp (fX7_look_B146 k ((upd (upd (upd w1.1 18 1) 19 3) 20 0), d_t.2) (fun (w52 : Dat) => lp (fX7_look_B228 k (w52.1, d_t.2) (fun (w53 : Dat) => (if (w53.1 19) = 2 then (if (w53.1 18) ≤ 3 then some ((upd w53.1 19 (w53.1 19)), d_t.2) else some ((upd w53.1 19 4), d_t.2)) else some ((upd w53.1 19 (w53.1 19)), d_t.2)))) k (0, (w52.1, d_t.2)))) k (1, ((upd (upd (upd w1.1 18 1) 19 3) 20 0), d_t.2))) else (if ((d_t.2 15) (w1.1 17).toNatClampNeg) = 45 then (if 3 ≤ (5 : Int32) then lp (fX7_look_B146 k ((upd (upd (upd w1.1 18 1) 19 5) 20 0), d_t.2) (fun (w32 : Dat) => lp (fX7_look_B228 k (w32.1, d_t.2) (fun (w33 : Dat) => (if (w33.1 19) = 2 then (if (w33.1 18) ≤ 3 then some ((upd w33.1 19 (w33.1 19)), d_t.2) else some ((upd w33.1 19 4), d_t.2)) else some ((upd w33.1 19 (w33.1 19)), d_t.2)))) k (0, (w32.1, d_t.2)))) k (0, ((upd (upd (upd w1.1 18 1) 19 5) 20 0), d_t.2)) else lp (fX7_look_B146 k ((upd (upd (upd w1.1 18 1) 19 5) 20 0), d_t.2) (fun (w38 : Dat) => lp (fX7_look_B228 k (w38.1, d_t.2) (fun (w39 : Dat) => (if (w39.1 19) = 2 then (if (w39.1 18) ≤ 3 then some ((upd w39.1 19 (w39.1 19)), d_t.2) else some ((upd w39.1 19 4), d_t.2)) else some ((upd w39.1 19 (w39.1 19)), d_t.2)))) k (0, (w38.1, d_t.2)))) k (1, ((upd (upd (upd w1.1 18 1) 19 5) 20 0), d_t.2))) else (if 3 ≤ (4 : Int32) then lp (fX7_look_B146 k ((upd (upd (upd w1.1 18 1) 19 4) 20 0), d_t.2) (fun (w18 : Dat) => lp (fX7_look_B228 k (w18.1, d_t.2) (fun (w19 : Dat) => (if (w19.1 19) = 2 then (if (w19.1 18) ≤ 3 then some ((upd w19.1 19 (w19.1 19)), d_t.2) else some ((upd w19.1 19 4), d_t.2)) else some ((upd w19.1 19 (w19.1 19)), d_t.2)))) k (0, (w18.1, d_t.2)))) k (0, ((upd (upd (upd w1.1 18 1) 19 4) 20 0), d_t.2)) else lp (fX7_look_B146 k ((upd (upd (upd w1.1 18 1) 19 4) 20 0), d_t.2) (fun (w24 : Dat) => lp (fX7_look_B228 k (w24.1, d_t.2) (fun (w25 : Dat) => (if (w25.1 19) = 2 then (if (w25.1 18) ≤ 3 then some ((upd w25.1 19 (w25.1 19)), d_t.2) else some ((upd w25.1 19 4), d_t.2)) else some ((upd w25.1 19 (w25.1 19)), d_t.2)))) k (0, (w24.1, d_t.2)))) k (1, ((upd (upd (upd w1.1 18 1) 19 4) 20 0), d_t.2))))) else (if 3 ≤ (2 : Int32) then lp (fX7_look_B146 k ((upd (upd (upd w1.1 18 1) 19 2) 20 0), d_t.2) (fun (w60 : Dat) => lp (fX7_look_B228 k (w60.1, d_t.2) (fun (w61 : Dat) => (if (w61.1 19) = 2 then (if (w61.1 18) ≤ 3 then some ((upd w61.1 19 (w61.1 19)), d_t.2) else some ((upd w61.1 19 4), d_t.2)) else some ((upd w61.1 19 (w61.1 19)), d_t.2)))) k (0, (w60.1, d_t.2)))) k (0, ((upd (upd (upd w1.1 18 1) 19 2) 20 0), d_t.2)) else lp (fX7_look_B146 k ((upd (upd (upd w1.1 18 1) 19 2) 20 0), d_t.2) (fun (w66 : Dat) => lp (fX7_look_B228 k (w66.1, d_t.2) (fun (w67 : Dat) => (if (w67.1 19) = 2 then (if (w67.1 18) ≤ 3 then some ((upd w67.1 19 (w67.1 19)), d_t.2) else some ((upd w67.1 19 4), d_t.2)) else some ((upd w67.1 19 (w67.1 19)), d_t.2)))) k (0, (w66.1, d_t.2)))) k (1, ((upd (upd (upd w1.1 18 1) 19 2) 20 0), d_t.2))))) else (if 3 ≤ (1 : Int32) then lp (fX7_look_B146 k ((upd (upd (upd w1.1 18 1) 19 1) 20 0), d_t.2) (fun (w74 : Dat) => lp (fX7_look_B228 k (w74.1, d_t.2) (fun (w75 : Dat) => (if (w75.1 19) = 2 then (if (w75.1 18) ≤ 3 then some ((upd w75.1 19 (w75.1 19)), d_t.2) else some ((upd w75.1 19 4), d_t.2)) else some ((upd w75.1 19 (w75.1 19)), d_t.2)))) k (0, (w74.1, d_t.2)))) k (0, ((upd (upd (upd w1.1 18 1) 19 1) 20 0), d_t.2)) else lp (fX7_look_B146 k ((upd (upd (upd w1.1 18 1) 19 1) 20 0), d_t.2) (fun (w80 : Dat) => lp (fX7_look_B228 k (w80.1, d_t.2) (fun (w81 : Dat) => (if (w81.1 19) = 2 then (if (w81.1 18) ≤ 3 then some ((upd w81.1 19 (w81.1 19)), d_t.2) else some ((upd w81.1 19 4), d_t.2)) else some ((upd w81.1 19 (w81.1 19)), d_t.2)))) k (0, (w80.1, d_t.2)))) k (1, ((upd (upd (upd w1.1 18 1) 19 1) 20 0), d_t.2))))))))) k ((upd d_t.1 17 x1), d_t.2)
set_option maxHeartbeats 4000000 in
set_option maxRecDepth 100000 in
theorem mX7_look_B5 {l : Launch} {p : Program} {e : Env} {s : State} {m : MethodId} {args : Array Value} {below : List Frame} {meth : Method} {c : Code} {D : va_G} {cs : Nat → ClassId} {sk : Nat → Nat} {A : Nat → Prop} {Q : State → Prop} (h_t : Nat) (q_t : Nat → Nat) (k : Nat) (d_t : Dat) {rv : Dat}  (K43 : Dat → Option (Dat))
    (M : MC p s m args meth c D cs sk A RX7 cX7_look 5 none) (hA : ∀ q, s.heap.size ≤ q → A q) (hR : RetV p l e rm_X7_look s m args below meth c D cX7_look A Q [oX7 h_t q_t (rv.1), ((q_t 15), .inl (cs 0, 250, .inl (d_t.2 15)))])
    (hK43 : ∀ (w : Dat), K43 w = some rv → ∀ (H : Heap) (locs : List Loc) (ls : Array Slot), va_P D vwCl [oX7 h_t q_t (w.1), ((q_t 15), .inl (cs 0, 250, .inl (d_t.2 15)))] H → va_D A [oX7 h_t q_t (w.1), ((q_t 15), .inl (cs 0, 250, .inl (d_t.2 15)))] → va_S A s.heap H locs → lv_has ls 5 [(0, .ref h_t)] → W p l e rm_X7_look s m args below meth c H locs 0 0 Q (F0 m 43 ls []))
    : ∀ (n : Nat) (v : Dat), lp (fX7_look_B5 k d_t K43) n v = some rv → ∀ (H : Heap) (locs : List Loc) (ls : Array Slot), va_P D vwCl [oX7 h_t q_t (v.1), ((q_t 15), .inl (cs 0, 250, .inl (d_t.2 15)))] H → va_D A [oX7 h_t q_t (v.1), ((q_t 15), .inl (cs 0, 250, .inl (d_t.2 15)))] → va_S A s.heap H locs → lv_has ls 5 [(0, .ref h_t)] → W p l e rm_X7_look s m args below meth c H locs 0 0 Q (F0 m 5 ls []) := by
  obtain ⟨hx, hb, hml, hT, hown, hlk, hrt, hK, hN, hSE⟩ := id M
  refine lp_ind (fun rec ih v hf H locs ls hP hD hS hl => ?_)
  unfold fX7_look_B5 at hf
  refine lv_aload_n hx hb dX7_look_5 rfl (lv_at hl 0 rfl) ?_
  refine va_get (D := D) (ci := 7) (v := .int (v.1 17)) (C := RX7) (T := TX7) (N := 23) hx hb hT iX7 hown hK hP 0 rfl rfl 17 (by decide) (hT _ fw_X7_230) (fun _ h9 => h9) rfl dX7_look_6 ?_
  refine lv_aload_n hx hb dX7_look_9 rfl (lv_at hl 0 rfl) ?_
  refine va_get (D := D) (ci := 7) (v := .int (v.1 16)) (C := RX7) (T := TX7) (N := 23) hx hb hT iX7 hown hK hP 0 rfl rfl 16 (by decide) (hT _ fw_X7_217) (fun _ h9 => h9) rfl dX7_look_10 ?_
  have g2 := ite_some hf
  refine lv_icmp_ge (tgt := 43) hx hb dX7_look_13 (by decide) (fun c1 => ?_) (fun c1 => ?_)
  · replace hf := g2.1 c1
    exact hK43 _ hf _ _ _ hP hD hS (lv_sub hl [0] rfl)
  · replace hf := g2.2 c1
    refine lv_aload_n hx hb dX7_look_16 rfl (lv_at hl 0 rfl) ?_
    refine va_get (D := D) (ci := 7) (v := .ref (q_t 15)) (C := RX7) (T := TX7) (N := 23) hx hb hT iX7 hown hK hP 0 rfl rfl 15 (by decide) (hT _ fw_X7_50) (fun _ h9 => h9) rfl dX7_look_17 ?_
    refine lv_aload_n hx hb dX7_look_20 rfl (lv_at hl 0 rfl) ?_
    refine va_get (D := D) (ci := 7) (v := .int (v.1 17)) (C := RX7) (T := TX7) (N := 23) hx hb hT iX7 hown hK hP 0 rfl rfl 17 (by decide) (hT _ fw_X7_230) (fun _ h9 => h9) rfl dX7_look_21 ?_
    obtain ⟨hi, hf⟩ := chk_some hf
    refine va_iald (D := D) hx hb hK hP 1 0 rfl rfl hi dX7_look_24 ?_
    refine lv_bipush (v := 32) hx hb dX7_look_25 rfl ?_
    have g4 := ite_some hf
    refine lv_icmp_ne (tgt := 43) hx hb dX7_look_27 (by decide) (fun c3 => ?_) (fun c3 => ?_)
    · replace hf := g4.2 c3
      exact hK43 _ hf _ _ _ hP hD hS (lv_sub hl [0] rfl)
    · replace hf := g4.1 c3
      refine lv_aload_n hx hb dX7_look_30 rfl (lv_at hl 0 rfl) ?_
      refine lv_dup hx hb dX7_look_31 rfl ?_
      refine va_get (D := D) (ci := 7) (v := .int (v.1 17)) (C := RX7) (T := TX7) (N := 23) hx hb hT iX7 hown hK hP 0 rfl rfl 17 (by decide) (hT _ fw_X7_230) (fun _ h9 => h9) rfl dX7_look_32 ?_
      refine lv_iconst (v := 1) hx hb dX7_look_35 rfl ?_
      refine lv_iadd hx hb dX7_look_36 ?_
      refine va_put (D := D) (ci := 7) (v := .int ((v.1 17) + 1)) (ty := tyX7 17) (C := RX7) (T := TX7) (N := 23) hx hb hT iX7 tyX7 tyX7_ok nmX7 hown hK hP hD hS 0 rfl rfl 17 (by decide) (hT _ fw_X7_230) (fun _ h9 => h9) rfl (tyX7_ok 17 (by decide)) rfl rfl (Nat.le_of_ble_eq_true rfl) dX7_look_37 (fun H locs hP hD hS => ?_)
      replace hP : va_P D vwCl [oX7 h_t q_t (upd v.1 17 ((v.1 17) + 1)), ((q_t 15), .inl (cs 0, 250, .inl (d_t.2 15)))] H := hP
      replace hD : va_D A [oX7 h_t q_t (upd v.1 17 ((v.1 17) + 1)), ((q_t 15), .inl (cs 0, 250, .inl (d_t.2 15)))] := hD
      refine lv_goto (tgt := 5) hx hb dX7_look_40 (by decide) ?_
      exact ih _ hf _ _ _ hP hD hS (lv_sub hl [0] rfl)
set_option maxHeartbeats 4000000 in
set_option maxRecDepth 100000 in
theorem mX7_look_B146 {l : Launch} {p : Program} {e : Env} {s : State} {m : MethodId} {args : Array Value} {below : List Frame} {meth : Method} {c : Code} {D : va_G} {cs : Nat → ClassId} {sk : Nat → Nat} {A : Nat → Prop} {Q : State → Prop} (h_t : Nat) (q_t : Nat → Nat) (k : Nat) (d_t : Dat) {rv : Dat}  (K225 : Dat → Option (Dat))
    (M : MC p s m args meth c D cs sk A RX7 cX7_look 5 none) (hA : ∀ q, s.heap.size ≤ q → A q) (hR : RetV p l e rm_X7_look s m args below meth c D cX7_look A Q [oX7 h_t q_t (rv.1), ((q_t 15), .inl (cs 0, 250, .inl (d_t.2 15)))])
    (hK225 : ∀ (w : Dat), K225 w = some rv → ∀ (H : Heap) (locs : List Loc) (ls : Array Slot), va_P D vwCl [oX7 h_t q_t (w.1), ((q_t 15), .inl (cs 0, 250, .inl (d_t.2 15)))] H → va_D A [oX7 h_t q_t (w.1), ((q_t 15), .inl (cs 0, 250, .inl (d_t.2 15)))] → va_S A s.heap H locs → lv_has ls 5 [(0, .ref h_t)] → W p l e rm_X7_look s m args below meth c H locs 0 0 Q (F0 m 225 ls []))
    : ∀ (n : Nat) (v : Int32 × Dat), lp (fX7_look_B146 k d_t K225) n v = some rv → ∀ (H : Heap) (locs : List Loc) (ls : Array Slot), va_P D vwCl [oX7 h_t q_t (v.2.1), ((q_t 15), .inl (cs 0, 250, .inl (d_t.2 15)))] H → va_D A [oX7 h_t q_t (v.2.1), ((q_t 15), .inl (cs 0, 250, .inl (d_t.2 15)))] → va_S A s.heap H locs → lv_has ls 5 [(0, .ref h_t), (3, .int (v.1))] → W p l e rm_X7_look s m args below meth c H locs 0 0 Q (F0 m 146 ls []) := by
  obtain ⟨hx, hb, hml, hT, hown, hlk, hrt, hK, hN, hSE⟩ := id M
  refine lp_ind (fun rec ih v hf H locs ls hP hD hS hl => ?_)
  unfold fX7_look_B146 at hf
  refine lv_iload_n hx hb dX7_look_146 rfl (lv_at hl 1 rfl) ?_
  have g2 := ite_some hf
  refine lv_if_eq (tgt := 225) hx hb dX7_look_147 (by decide) (fun c1 => ?_) (fun c1 => ?_)
  · replace hf := g2.1 c1
    exact hK225 _ hf _ _ _ hP hD hS (lv_sub hl [0] rfl)
  · replace hf := g2.2 c1
    refine lv_aload_n hx hb dX7_look_150 rfl (lv_at hl 0 rfl) ?_
    refine va_get (D := D) (ci := 7) (v := .int (v.2.1 17)) (C := RX7) (T := TX7) (N := 23) hx hb hT iX7 hown hK hP 0 rfl rfl 17 (by decide) (hT _ fw_X7_230) (fun _ h9 => h9) rfl dX7_look_151 ?_
    refine lv_aload_n hx hb dX7_look_154 rfl (lv_at hl 0 rfl) ?_
    refine va_get (D := D) (ci := 7) (v := .int (v.2.1 18)) (C := RX7) (T := TX7) (N := 23) hx hb hT iX7 hown hK hP 0 rfl rfl 18 (by decide) (hT _ fw_X7_233) (fun _ h9 => h9) rfl dX7_look_155 ?_
    refine lv_iadd hx hb dX7_look_158 ?_
    refine lv_aload_n hx hb dX7_look_159 rfl (lv_at hl 0 rfl) ?_
    refine va_get (D := D) (ci := 7) (v := .int (v.2.1 16)) (C := RX7) (T := TX7) (N := 23) hx hb hT iX7 hown hK hP 0 rfl rfl 16 (by decide) (hT _ fw_X7_217) (fun _ h9 => h9) rfl dX7_look_160 ?_
    have g4 := ite_some hf
    refine lv_icmp_ge (tgt := 225) hx hb dX7_look_163 (by decide) (fun c3 => ?_) (fun c3 => ?_)
    · replace hf := g4.1 c3
      exact hK225 _ hf _ _ _ hP hD hS (lv_sub hl [0] rfl)
    · replace hf := g4.2 c3
      refine lv_aload_n hx hb dX7_look_166 rfl (lv_at hl 0 rfl) ?_
      refine va_get (D := D) (ci := 7) (v := .ref (q_t 15)) (C := RX7) (T := TX7) (N := 23) hx hb hT iX7 hown hK hP 0 rfl rfl 15 (by decide) (hT _ fw_X7_50) (fun _ h9 => h9) rfl dX7_look_167 ?_
      refine lv_aload_n hx hb dX7_look_170 rfl (lv_at hl 0 rfl) ?_
      refine va_get (D := D) (ci := 7) (v := .int (v.2.1 17)) (C := RX7) (T := TX7) (N := 23) hx hb hT iX7 hown hK hP 0 rfl rfl 17 (by decide) (hT _ fw_X7_230) (fun _ h9 => h9) rfl dX7_look_171 ?_
      refine lv_aload_n hx hb dX7_look_174 rfl (lv_at hl 0 rfl) ?_
      refine va_get (D := D) (ci := 7) (v := .int (v.2.1 18)) (C := RX7) (T := TX7) (N := 23) hx hb hT iX7 hown hK hP 0 rfl rfl 18 (by decide) (hT _ fw_X7_233) (fun _ h9 => h9) rfl dX7_look_175 ?_
      refine lv_iadd hx hb dX7_look_178 ?_
      obtain ⟨hi, hf⟩ := chk_some hf
      refine va_iald (D := D) hx hb hK hP 1 0 rfl rfl hi dX7_look_179 ?_
      refine lv_istore (lv' := [(4, .int ((d_t.2 15) ((v.2.1 17) + (v.2.1 18)).toNatClampNeg)), (0, .ref h_t), (3, .int (v.1))]) hx hb dX7_look_180 hl (by decide) rfl (fun ls hl => ?_)
      refine lv_aload_n hx hb dX7_look_182 rfl (lv_at hl 1 rfl) ?_
      refine va_get (D := D) (ci := 7) (v := .int (v.2.1 19)) (C := RX7) (T := TX7) (N := 23) hx hb hT iX7 hown hK hP 0 rfl rfl 19 (by decide) (hT _ fw_X7_236) (fun _ h9 => h9) rfl dX7_look_183 ?_
      refine lv_iconst (v := 1) hx hb dX7_look_186 rfl ?_
      have g6 := ite_some hf
      refine lv_icmp_ne (tgt := 198) hx hb dX7_look_187 (by decide) (fun c5 => ?_) (fun c5 => ?_)
      · replace hf := g6.2 c5
        refine lv_iload hx hb dX7_look_198 (lv_at hl 0 rfl) ?_
        obtain ⟨r7, e8, hf⟩ := bind_some hf
        refine callSi (As := [.int ((d_t.2 15) ((v.2.1 17) + (v.2.1 18)).toNatClampNeg)]) (rest := []) M (mX7_isFigure l D cs sk  k ((d_t.2 15) ((v.2.1 17) + (v.2.1 18)).toNatClampNeg) e8) mw_X7_245 ln_X7_isFigure ⟨rfl, rfl, Nat.le_of_ble_eq_true rfl, Nat.le_of_ble_eq_true rfl⟩ hP hD hS hA [] (by decide) rfl rfl ⟨Nat.zero_le _, Nat.zero_le _⟩ hl.1 rfl (Nat.le_of_ble_eq_true rfl) dX7_look_200 (fun H locs hP hD hS => ?_)
        replace hP : va_P D vwCl [oX7 h_t q_t (v.2.1), ((q_t 15), .inl (cs 0, 250, .inl (d_t.2 15)))] H := hP
        replace hD : va_D A [oX7 h_t q_t (v.2.1), ((q_t 15), .inl (cs 0, 250, .inl (d_t.2 15)))] := hD
        refine lv_istore_n (lv' := [(3, .int r7), (4, .int ((d_t.2 15) ((v.2.1 17) + (v.2.1 18)).toNatClampNeg)), (0, .ref h_t)]) hx hb dX7_look_203 rfl hl (by decide) rfl (fun ls hl => ?_)
        refine lv_aload_n hx hb dX7_look_204 rfl (lv_at hl 2 rfl) ?_
        refine lv_dup hx hb dX7_look_205 rfl ?_
        refine va_get (D := D) (ci := 7) (v := .int (v.2.1 18)) (C := RX7) (T := TX7) (N := 23) hx hb hT iX7 hown hK hP 0 rfl rfl 18 (by decide) (hT _ fw_X7_233) (fun _ h9 => h9) rfl dX7_look_206 ?_
        refine lv_iload_n hx hb dX7_look_209 rfl (lv_at hl 0 rfl) ?_
        have g10 := ite_some hf
        refine lv_if_eq (tgt := 217) hx hb dX7_look_210 (by decide) (fun c9 => ?_) (fun c9 => ?_)
        · replace hf := g10.1 c9
          refine lv_iconst (v := 0) hx hb dX7_look_217 rfl ?_
          refine lv_iadd hx hb dX7_look_218 ?_
          refine va_put (D := D) (ci := 7) (v := .int ((v.2.1 18) + 0)) (ty := tyX7 18) (C := RX7) (T := TX7) (N := 23) hx hb hT iX7 tyX7 tyX7_ok nmX7 hown hK hP hD hS 0 rfl rfl 18 (by decide) (hT _ fw_X7_233) (fun _ h9 => h9) rfl (tyX7_ok 18 (by decide)) rfl rfl (Nat.le_of_ble_eq_true rfl) dX7_look_219 (fun H locs hP hD hS => ?_)
          replace hP : va_P D vwCl [oX7 h_t q_t (upd v.2.1 18 ((v.2.1 18) + 0)), ((q_t 15), .inl (cs 0, 250, .inl (d_t.2 15)))] H := hP
          replace hD : va_D A [oX7 h_t q_t (upd v.2.1 18 ((v.2.1 18) + 0)), ((q_t 15), .inl (cs 0, 250, .inl (d_t.2 15)))] := hD
          refine lv_goto (tgt := 146) hx hb dX7_look_222 (by decide) ?_
          exact ih _ hf _ _ _ hP hD hS (lv_sub hl [2, 0] rfl)
        · replace hf := g10.2 c9
          refine lv_iconst (v := 1) hx hb dX7_look_213 rfl ?_
          refine lv_goto (tgt := 218) hx hb dX7_look_214 (by decide) ?_
          refine lv_iadd hx hb dX7_look_218 ?_
          refine va_put (D := D) (ci := 7) (v := .int ((v.2.1 18) + 1)) (ty := tyX7 18) (C := RX7) (T := TX7) (N := 23) hx hb hT iX7 tyX7 tyX7_ok nmX7 hown hK hP hD hS 0 rfl rfl 18 (by decide) (hT _ fw_X7_233) (fun _ h9 => h9) rfl (tyX7_ok 18 (by decide)) rfl rfl (Nat.le_of_ble_eq_true rfl) dX7_look_219 (fun H locs hP hD hS => ?_)
          replace hP : va_P D vwCl [oX7 h_t q_t (upd v.2.1 18 ((v.2.1 18) + 1)), ((q_t 15), .inl (cs 0, 250, .inl (d_t.2 15)))] H := hP
          replace hD : va_D A [oX7 h_t q_t (upd v.2.1 18 ((v.2.1 18) + 1)), ((q_t 15), .inl (cs 0, 250, .inl (d_t.2 15)))] := hD
          refine lv_goto (tgt := 146) hx hb dX7_look_222 (by decide) ?_
          exact ih _ hf _ _ _ hP hD hS (lv_sub hl [2, 0] rfl)
      · replace hf := g6.1 c5
        refine lv_iload hx hb dX7_look_190 (lv_at hl 0 rfl) ?_
        obtain ⟨r11, e12, hf⟩ := bind_some hf
        refine callSi (As := [.int ((d_t.2 15) ((v.2.1 17) + (v.2.1 18)).toNatClampNeg)]) (rest := []) M (mX7_isSmall l D cs sk  k ((d_t.2 15) ((v.2.1 17) + (v.2.1 18)).toNatClampNeg) e12) mw_X7_242 ln_X7_isSmall ⟨rfl, rfl, Nat.le_of_ble_eq_true rfl, Nat.le_of_ble_eq_true rfl⟩ hP hD hS hA [] (by decide) rfl rfl ⟨Nat.zero_le _, Nat.zero_le _⟩ hl.1 rfl (Nat.le_of_ble_eq_true rfl) dX7_look_192 (fun H locs hP hD hS => ?_)
        replace hP : va_P D vwCl [oX7 h_t q_t (v.2.1), ((q_t 15), .inl (cs 0, 250, .inl (d_t.2 15)))] H := hP
        replace hD : va_D A [oX7 h_t q_t (v.2.1), ((q_t 15), .inl (cs 0, 250, .inl (d_t.2 15)))] := hD
        refine lv_goto (tgt := 203) hx hb dX7_look_195 (by decide) ?_
        refine lv_istore_n (lv' := [(3, .int r11), (4, .int ((d_t.2 15) ((v.2.1 17) + (v.2.1 18)).toNatClampNeg)), (0, .ref h_t)]) hx hb dX7_look_203 rfl hl (by decide) rfl (fun ls hl => ?_)
        refine lv_aload_n hx hb dX7_look_204 rfl (lv_at hl 2 rfl) ?_
        refine lv_dup hx hb dX7_look_205 rfl ?_
        refine va_get (D := D) (ci := 7) (v := .int (v.2.1 18)) (C := RX7) (T := TX7) (N := 23) hx hb hT iX7 hown hK hP 0 rfl rfl 18 (by decide) (hT _ fw_X7_233) (fun _ h9 => h9) rfl dX7_look_206 ?_
        refine lv_iload_n hx hb dX7_look_209 rfl (lv_at hl 0 rfl) ?_
        have g14 := ite_some hf
        refine lv_if_eq (tgt := 217) hx hb dX7_look_210 (by decide) (fun c13 => ?_) (fun c13 => ?_)
        · replace hf := g14.1 c13
          refine lv_iconst (v := 0) hx hb dX7_look_217 rfl ?_
          refine lv_iadd hx hb dX7_look_218 ?_
          refine va_put (D := D) (ci := 7) (v := .int ((v.2.1 18) + 0)) (ty := tyX7 18) (C := RX7) (T := TX7) (N := 23) hx hb hT iX7 tyX7 tyX7_ok nmX7 hown hK hP hD hS 0 rfl rfl 18 (by decide) (hT _ fw_X7_233) (fun _ h9 => h9) rfl (tyX7_ok 18 (by decide)) rfl rfl (Nat.le_of_ble_eq_true rfl) dX7_look_219 (fun H locs hP hD hS => ?_)
          replace hP : va_P D vwCl [oX7 h_t q_t (upd v.2.1 18 ((v.2.1 18) + 0)), ((q_t 15), .inl (cs 0, 250, .inl (d_t.2 15)))] H := hP
          replace hD : va_D A [oX7 h_t q_t (upd v.2.1 18 ((v.2.1 18) + 0)), ((q_t 15), .inl (cs 0, 250, .inl (d_t.2 15)))] := hD
          refine lv_goto (tgt := 146) hx hb dX7_look_222 (by decide) ?_
          exact ih _ hf _ _ _ hP hD hS (lv_sub hl [2, 0] rfl)
        · replace hf := g14.2 c13
          refine lv_iconst (v := 1) hx hb dX7_look_213 rfl ?_
          refine lv_goto (tgt := 218) hx hb dX7_look_214 (by decide) ?_
          refine lv_iadd hx hb dX7_look_218 ?_
          refine va_put (D := D) (ci := 7) (v := .int ((v.2.1 18) + 1)) (ty := tyX7 18) (C := RX7) (T := TX7) (N := 23) hx hb hT iX7 tyX7 tyX7_ok nmX7 hown hK hP hD hS 0 rfl rfl 18 (by decide) (hT _ fw_X7_233) (fun _ h9 => h9) rfl (tyX7_ok 18 (by decide)) rfl rfl (Nat.le_of_ble_eq_true rfl) dX7_look_219 (fun H locs hP hD hS => ?_)
          replace hP : va_P D vwCl [oX7 h_t q_t (upd v.2.1 18 ((v.2.1 18) + 1)), ((q_t 15), .inl (cs 0, 250, .inl (d_t.2 15)))] H := hP
          replace hD : va_D A [oX7 h_t q_t (upd v.2.1 18 ((v.2.1 18) + 1)), ((q_t 15), .inl (cs 0, 250, .inl (d_t.2 15)))] := hD
          refine lv_goto (tgt := 146) hx hb dX7_look_222 (by decide) ?_
          exact ih _ hf _ _ _ hP hD hS (lv_sub hl [2, 0] rfl)
set_option maxHeartbeats 4000000 in
set_option maxRecDepth 100000 in
theorem mX7_look_B228 {l : Launch} {p : Program} {e : Env} {s : State} {m : MethodId} {args : Array Value} {below : List Frame} {meth : Method} {c : Code} {D : va_G} {cs : Nat → ClassId} {sk : Nat → Nat} {A : Nat → Prop} {Q : State → Prop} (h_t : Nat) (q_t : Nat → Nat) (k : Nat) (d_t : Dat) {rv : Dat}  (K284 : Dat → Option (Dat))
    (M : MC p s m args meth c D cs sk A RX7 cX7_look 5 none) (hA : ∀ q, s.heap.size ≤ q → A q) (hR : RetV p l e rm_X7_look s m args below meth c D cX7_look A Q [oX7 h_t q_t (rv.1), ((q_t 15), .inl (cs 0, 250, .inl (d_t.2 15)))])
    (hK284 : ∀ (w : Dat), K284 w = some rv → ∀ (H : Heap) (locs : List Loc) (ls : Array Slot), va_P D vwCl [oX7 h_t q_t (w.1), ((q_t 15), .inl (cs 0, 250, .inl (d_t.2 15)))] H → va_D A [oX7 h_t q_t (w.1), ((q_t 15), .inl (cs 0, 250, .inl (d_t.2 15)))] → va_S A s.heap H locs → lv_has ls 5 [(0, .ref h_t)] → W p l e rm_X7_look s m args below meth c H locs 0 0 Q (F0 m 284 ls []))
    : ∀ (n : Nat) (v : Int32 × Dat), lp (fX7_look_B228 k d_t K284) n v = some rv → ∀ (H : Heap) (locs : List Loc) (ls : Array Slot), va_P D vwCl [oX7 h_t q_t (v.2.1), ((q_t 15), .inl (cs 0, 250, .inl (d_t.2 15)))] H → va_D A [oX7 h_t q_t (v.2.1), ((q_t 15), .inl (cs 0, 250, .inl (d_t.2 15)))] → va_S A s.heap H locs → lv_has ls 5 [(0, .ref h_t), (4, .int (v.1))] → W p l e rm_X7_look s m args below meth c H locs 0 0 Q (F0 m 228 ls []) := by
  obtain ⟨hx, hb, hml, hT, hown, hlk, hrt, hK, hN, hSE⟩ := id M
  refine lp_ind (fun rec ih v hf H locs ls hP hD hS hl => ?_)
  unfold fX7_look_B228 at hf
  refine lv_iload hx hb dX7_look_228 (lv_at hl 1 rfl) ?_
  refine lv_aload_n hx hb dX7_look_230 rfl (lv_at hl 0 rfl) ?_
  refine va_get (D := D) (ci := 7) (v := .int (v.2.1 18)) (C := RX7) (T := TX7) (N := 23) hx hb hT iX7 hown hK hP 0 rfl rfl 18 (by decide) (hT _ fw_X7_233) (fun _ h9 => h9) rfl dX7_look_231 ?_
  have g2 := ite_some hf
  refine lv_icmp_ge (tgt := 284) hx hb dX7_look_234 (by decide) (fun c1 => ?_) (fun c1 => ?_)
  · replace hf := g2.1 c1
    exact hK284 _ hf _ _ _ hP hD hS (lv_sub hl [0] rfl)
  · replace hf := g2.2 c1
    refine lv_iload hx hb dX7_look_237 (lv_at hl 1 rfl) ?_
    refine lv_iconst (v := 3) hx hb dX7_look_239 rfl ?_
    have g4 := ite_some hf
    refine lv_icmp_ge (tgt := 284) hx hb dX7_look_240 (by decide) (fun c3 => ?_) (fun c3 => ?_)
    · replace hf := g4.1 c3
      exact hK284 _ hf _ _ _ hP hD hS (lv_sub hl [0] rfl)
    · replace hf := g4.2 c3
      refine lv_aload_n hx hb dX7_look_243 rfl (lv_at hl 0 rfl) ?_
      refine va_get (D := D) (ci := 7) (v := .int (v.2.1 19)) (C := RX7) (T := TX7) (N := 23) hx hb hT iX7 hown hK hP 0 rfl rfl 19 (by decide) (hT _ fw_X7_236) (fun _ h9 => h9) rfl dX7_look_244 ?_
      refine lv_iconst (v := 2) hx hb dX7_look_247 rfl ?_
      have g6 := ite_some hf
      refine lv_icmp_ne (tgt := 284) hx hb dX7_look_248 (by decide) (fun c5 => ?_) (fun c5 => ?_)
      · replace hf := g6.2 c5
        exact hK284 _ hf _ _ _ hP hD hS (lv_sub hl [0] rfl)
      · replace hf := g6.1 c5
        refine lv_aload_n hx hb dX7_look_251 rfl (lv_at hl 0 rfl) ?_
        refine lv_bipush (v := 10) hx hb dX7_look_252 rfl ?_
        refine lv_aload_n hx hb dX7_look_254 rfl (lv_at hl 0 rfl) ?_
        refine va_get (D := D) (ci := 7) (v := .int (v.2.1 20)) (C := RX7) (T := TX7) (N := 23) hx hb hT iX7 hown hK hP 0 rfl rfl 20 (by decide) (hT _ fw_X7_239) (fun _ h9 => h9) rfl dX7_look_255 ?_
        refine lv_imul hx hb dX7_look_258 ?_
        refine lv_aload_n hx hb dX7_look_259 rfl (lv_at hl 0 rfl) ?_
        refine va_get (D := D) (ci := 7) (v := .ref (q_t 15)) (C := RX7) (T := TX7) (N := 23) hx hb hT iX7 hown hK hP 0 rfl rfl 15 (by decide) (hT _ fw_X7_50) (fun _ h9 => h9) rfl dX7_look_260 ?_
        refine lv_aload_n hx hb dX7_look_263 rfl (lv_at hl 0 rfl) ?_
        refine va_get (D := D) (ci := 7) (v := .int (v.2.1 17)) (C := RX7) (T := TX7) (N := 23) hx hb hT iX7 hown hK hP 0 rfl rfl 17 (by decide) (hT _ fw_X7_230) (fun _ h9 => h9) rfl dX7_look_264 ?_
        refine lv_iload hx hb dX7_look_267 (lv_at hl 1 rfl) ?_
        refine lv_iadd hx hb dX7_look_269 ?_
        obtain ⟨hi, hf⟩ := chk_some hf
        refine va_iald (D := D) hx hb hK hP 1 0 rfl rfl hi dX7_look_270 ?_
        refine lv_iadd hx hb dX7_look_271 ?_
        refine lv_bipush (v := 48) hx hb dX7_look_272 rfl ?_
        refine lv_isub hx hb dX7_look_274 ?_
        refine va_put (D := D) (ci := 7) (v := .int (((10 * (v.2.1 20)) + ((d_t.2 15) ((v.2.1 17) + (v.1)).toNatClampNeg)) - 48)) (ty := tyX7 20) (C := RX7) (T := TX7) (N := 23) hx hb hT iX7 tyX7 tyX7_ok nmX7 hown hK hP hD hS 0 rfl rfl 20 (by decide) (hT _ fw_X7_239) (fun _ h9 => h9) rfl (tyX7_ok 20 (by decide)) rfl rfl (Nat.le_of_ble_eq_true rfl) dX7_look_275 (fun H locs hP hD hS => ?_)
        replace hP : va_P D vwCl [oX7 h_t q_t (upd v.2.1 20 (((10 * (v.2.1 20)) + ((d_t.2 15) ((v.2.1 17) + (v.1)).toNatClampNeg)) - 48)), ((q_t 15), .inl (cs 0, 250, .inl (d_t.2 15)))] H := hP
        replace hD : va_D A [oX7 h_t q_t (upd v.2.1 20 (((10 * (v.2.1 20)) + ((d_t.2 15) ((v.2.1 17) + (v.1)).toNatClampNeg)) - 48)), ((q_t 15), .inl (cs 0, 250, .inl (d_t.2 15)))] := hD
        refine lv_iinc (v := ((v.1) + 1)) (lv' := [(4, .int ((v.1) + 1)), (0, .ref h_t)]) hx hb dX7_look_278 hl (k := 1) rfl rfl (by decide) rfl (fun ls hl => ?_)
        refine lv_goto (tgt := 228) hx hb dX7_look_281 (by decide) ?_
        exact ih _ hf _ _ _ hP hD hS (lv_sub hl [1, 0] rfl)
set_option maxHeartbeats 4000000 in
set_option maxRecDepth 100000 in
theorem mX7_look (l : Launch) (D : va_G) (cs : Nat → ClassId) (sk : Nat → Nat) (h_t : Nat) (q_t : Nat → Nat) (k : Nat) (d_t : Dat) (x1 : Int32) {rv : Dat} (hf : fX7_look k d_t x1 = some rv) : CTv l yX7_look (Cond.code yX7_look cX7_look 5 none :: gtbl) rm_X7_look D cs sk [.ref h_t, .int x1] [oX7 h_t q_t (d_t.1), ((q_t 15), .inl (cs 0, 250, .inl (d_t.2 15)))] [oX7 h_t q_t (rv.1), ((q_t 15), .inl (cs 0, 250, .inl (d_t.2 15)))] := by
  refine CTv.of RX7 (by decide +kernel) rfl (Nat.le_of_ble_eq_true rfl) (fun p e s m args below meth c A Q ls M hA hR hl hP hD hS => ?_)
  obtain ⟨hx, hb, hml, hT, hown, hlk, hrt, hK, hN, hSE⟩ := id M
  replace hl : lv_has ls 5 [(0, .ref h_t), (1, .int x1)] := hl
  unfold fX7_look at hf
  refine lv_aload_n hx hb dX7_look_0 rfl (lv_at hl 0 rfl) ?_
  refine lv_iload_n hx hb dX7_look_1 rfl (lv_at hl 1 rfl) ?_
  refine va_put (D := D) (ci := 7) (v := .int x1) (ty := tyX7 17) (C := RX7) (T := TX7) (N := 23) hx hb hT iX7 tyX7 tyX7_ok nmX7 hown hK hP hD hS 0 rfl rfl 17 (by decide) (hT _ fw_X7_230) (fun _ h9 => h9) rfl (tyX7_ok 17 (by decide)) rfl rfl (Nat.le_of_ble_eq_true rfl) dX7_look_2 (fun H locs hP hD hS => ?_)
  replace hP : va_P D vwCl [oX7 h_t q_t (upd d_t.1 17 x1), ((q_t 15), .inl (cs 0, 250, .inl (d_t.2 15)))] H := hP
  replace hD : va_D A [oX7 h_t q_t (upd d_t.1 17 x1), ((q_t 15), .inl (cs 0, 250, .inl (d_t.2 15)))] := hD
  refine mX7_look_B5 h_t q_t k ((upd d_t.1 17 x1), d_t.2) _ M hA hR (fun w1 hf H locs ls hP hD hS hl => ?_) _ _ hf _ _ _ hP hD hS (lv_sub hl [0] rfl)
  · refine lv_aload_n hx hb dX7_look_43 rfl (lv_at hl 0 rfl) ?_
    refine lv_iconst (v := 0) hx hb dX7_look_44 rfl ?_
    refine va_put (D := D) (ci := 7) (v := .int 0) (ty := tyX7 18) (C := RX7) (T := TX7) (N := 23) hx hb hT iX7 tyX7 tyX7_ok nmX7 hown hK hP hD hS 0 rfl rfl 18 (by decide) (hT _ fw_X7_233) (fun _ h9 => h9) rfl (tyX7_ok 18 (by decide)) rfl rfl (Nat.le_of_ble_eq_true rfl) dX7_look_45 (fun H locs hP hD hS => ?_)
    replace hP : va_P D vwCl [oX7 h_t q_t (upd w1.1 18 0), ((q_t 15), .inl (cs 0, 250, .inl (d_t.2 15)))] H := hP
    replace hD : va_D A [oX7 h_t q_t (upd w1.1 18 0), ((q_t 15), .inl (cs 0, 250, .inl (d_t.2 15)))] := hD
    refine lv_aload_n hx hb dX7_look_48 rfl (lv_at hl 0 rfl) ?_
    refine lv_iconst (v := 0) hx hb dX7_look_49 rfl ?_
    refine va_put (D := D) (ci := 7) (v := .int 0) (ty := tyX7 19) (C := RX7) (T := TX7) (N := 23) hx hb hT iX7 tyX7 tyX7_ok nmX7 hown hK hP hD hS 0 rfl rfl 19 (by decide) (hT _ fw_X7_236) (fun _ h9 => h9) rfl (tyX7_ok 19 (by decide)) rfl rfl (Nat.le_of_ble_eq_true rfl) dX7_look_50 (fun H locs hP hD hS => ?_)
    replace hP : va_P D vwCl [oX7 h_t q_t (upd (upd w1.1 18 0) 19 0), ((q_t 15), .inl (cs 0, 250, .inl (d_t.2 15)))] H := hP
    replace hD : va_D A [oX7 h_t q_t (upd (upd w1.1 18 0) 19 0), ((q_t 15), .inl (cs 0, 250, .inl (d_t.2 15)))] := hD
    refine lv_aload_n hx hb dX7_look_53 rfl (lv_at hl 0 rfl) ?_
    refine lv_iconst (v := 0) hx hb dX7_look_54 rfl ?_
    refine va_put (D := D) (ci := 7) (v := .int 0) (ty := tyX7 20) (C := RX7) (T := TX7) (N := 23) hx hb hT iX7 tyX7 tyX7_ok nmX7 hown hK hP hD hS 0 rfl rfl 20 (by decide) (hT _ fw_X7_239) (fun _ h9 => h9) rfl (tyX7_ok 20 (by decide)) rfl rfl (Nat.le_of_ble_eq_true rfl) dX7_look_55 (fun H locs hP hD hS => ?_)
    replace hP : va_P D vwCl [oX7 h_t q_t (upd (upd (upd w1.1 18 0) 19 0) 20 0), ((q_t 15), .inl (cs 0, 250, .inl (d_t.2 15)))] H := hP
    replace hD : va_D A [oX7 h_t q_t (upd (upd (upd w1.1 18 0) 19 0) 20 0), ((q_t 15), .inl (cs 0, 250, .inl (d_t.2 15)))] := hD
    refine lv_aload_n hx hb dX7_look_58 rfl (lv_at hl 0 rfl) ?_
    refine va_get (D := D) (ci := 7) (v := .int (w1.1 17)) (C := RX7) (T := TX7) (N := 23) hx hb hT iX7 hown hK hP 0 rfl rfl 17 (by decide) (hT _ fw_X7_230) (fun _ h9 => h9) rfl dX7_look_59 ?_
    refine lv_aload_n hx hb dX7_look_62 rfl (lv_at hl 0 rfl) ?_
    refine va_get (D := D) (ci := 7) (v := .int (w1.1 16)) (C := RX7) (T := TX7) (N := 23) hx hb hT iX7 hown hK hP 0 rfl rfl 16 (by decide) (hT _ fw_X7_217) (fun _ h9 => h9) rfl dX7_look_63 ?_
    have g3 := ite_some hf
    refine lv_icmp_ne (tgt := 70) hx hb dX7_look_66 (by decide) (fun c2 => ?_) (fun c2 => ?_)
    · replace hf := g3.2 c2
      refine lv_aload_n hx hb dX7_look_70 rfl (lv_at hl 0 rfl) ?_
      refine va_get (D := D) (ci := 7) (v := .ref (q_t 15)) (C := RX7) (T := TX7) (N := 23) hx hb hT iX7 hown hK hP 0 rfl rfl 15 (by decide) (hT _ fw_X7_50) (fun _ h9 => h9) rfl dX7_look_71 ?_
      refine lv_aload_n hx hb dX7_look_74 rfl (lv_at hl 0 rfl) ?_
      refine va_get (D := D) (ci := 7) (v := .int (w1.1 17)) (C := RX7) (T := TX7) (N := 23) hx hb hT iX7 hown hK hP 0 rfl rfl 17 (by decide) (hT _ fw_X7_230) (fun _ h9 => h9) rfl dX7_look_75 ?_
      obtain ⟨hi, hf⟩ := chk_some hf
      refine va_iald (D := D) hx hb hK hP 1 0 rfl rfl hi dX7_look_78 ?_
      refine lv_istore_n (lv' := [(2, .int ((d_t.2 15) (w1.1 17).toNatClampNeg)), (0, .ref h_t)]) hx hb dX7_look_79 rfl hl (by decide) rfl (fun ls hl => ?_)
      refine lv_aload_n hx hb dX7_look_80 rfl (lv_at hl 1 rfl) ?_
      refine lv_iload_n hx hb dX7_look_81 rfl (lv_at hl 0 rfl) ?_
      obtain ⟨r4, e5, hf⟩ := bind_some hf
      refine callSi (As := [.int ((d_t.2 15) (w1.1 17).toNatClampNeg)]) (rest := [.ref h_t]) M (mX7_isSmall l D cs sk  k ((d_t.2 15) (w1.1 17).toNatClampNeg) e5) mw_X7_242 ln_X7_isSmall ⟨rfl, rfl, Nat.le_of_ble_eq_true rfl, Nat.le_of_ble_eq_true rfl⟩ hP hD hS hA [] (by decide) rfl rfl ⟨Nat.zero_le _, Nat.zero_le _⟩ hl.1 rfl (Nat.le_of_ble_eq_true rfl) dX7_look_82 (fun H locs hP hD hS => ?_)
      replace hP : va_P D vwCl [oX7 h_t q_t (upd (upd (upd w1.1 18 0) 19 0) 20 0), ((q_t 15), .inl (cs 0, 250, .inl (d_t.2 15)))] H := hP
      replace hD : va_D A [oX7 h_t q_t (upd (upd (upd w1.1 18 0) 19 0) 20 0), ((q_t 15), .inl (cs 0, 250, .inl (d_t.2 15)))] := hD
      have g7 := ite_some hf
      refine lv_if_eq (tgt := 92) hx hb dX7_look_85 (by decide) (fun c6 => ?_) (fun c6 => ?_)
      · replace hf := g7.1 c6
        refine lv_iload_n hx hb dX7_look_92 rfl (lv_at hl 0 rfl) ?_
        obtain ⟨r8, e9, hf⟩ := bind_some hf
        refine callSi (As := [.int ((d_t.2 15) (w1.1 17).toNatClampNeg)]) (rest := [.ref h_t]) M (mX7_isFigure l D cs sk  k ((d_t.2 15) (w1.1 17).toNatClampNeg) e9) mw_X7_245 ln_X7_isFigure ⟨rfl, rfl, Nat.le_of_ble_eq_true rfl, Nat.le_of_ble_eq_true rfl⟩ hP hD hS hA [] (by decide) rfl rfl ⟨Nat.zero_le _, Nat.zero_le _⟩ hl.1 rfl (Nat.le_of_ble_eq_true rfl) dX7_look_93 (fun H locs hP hD hS => ?_)
        replace hP : va_P D vwCl [oX7 h_t q_t (upd (upd (upd w1.1 18 0) 19 0) 20 0), ((q_t 15), .inl (cs 0, 250, .inl (d_t.2 15)))] H := hP
        replace hD : va_D A [oX7 h_t q_t (upd (upd (upd w1.1 18 0) 19 0) 20 0), ((q_t 15), .inl (cs 0, 250, .inl (d_t.2 15)))] := hD
        have g11 := ite_some hf
        refine lv_if_eq (tgt := 103) hx hb dX7_look_96 (by decide) (fun c10 => ?_) (fun c10 => ?_)
        · replace hf := g11.1 c10
          refine lv_iload_n hx hb dX7_look_103 rfl (lv_at hl 0 rfl) ?_
          refine lv_bipush (v := 59) hx hb dX7_look_104 rfl ?_
          have g13 := ite_some hf
          refine lv_icmp_ne (tgt := 113) hx hb dX7_look_106 (by decide) (fun c12 => ?_) (fun c12 => ?_)
          · replace hf := g13.2 c12
            refine lv_iload_n hx hb dX7_look_113 rfl (lv_at hl 0 rfl) ?_
            refine lv_bipush (v := 45) hx hb dX7_look_114 rfl ?_
            have g15 := ite_some hf
            refine lv_icmp_ne (tgt := 123) hx hb dX7_look_116 (by decide) (fun c14 => ?_) (fun c14 => ?_)
            · replace hf := g15.2 c14
              refine lv_iconst (v := 4) hx hb dX7_look_123 rfl ?_
              refine va_put (D := D) (ci := 7) (v := .int 4) (ty := tyX7 19) (C := RX7) (T := TX7) (N := 23) hx hb hT iX7 tyX7 tyX7_ok nmX7 hown hK hP hD hS 0 rfl rfl 19 (by decide) (hT _ fw_X7_236) (fun _ h9 => h9) rfl (tyX7_ok 19 (by decide)) rfl rfl (Nat.le_of_ble_eq_true rfl) dX7_look_124 (fun H locs hP hD hS => ?_)
              replace hP : va_P D vwCl [oX7 h_t q_t (upd (upd (upd w1.1 18 0) 19 4) 20 0), ((q_t 15), .inl (cs 0, 250, .inl (d_t.2 15)))] H := hP
              replace hD : va_D A [oX7 h_t q_t (upd (upd (upd w1.1 18 0) 19 4) 20 0), ((q_t 15), .inl (cs 0, 250, .inl (d_t.2 15)))] := hD
              refine lv_aload_n hx hb dX7_look_127 rfl (lv_at hl 1 rfl) ?_
              refine lv_iconst (v := 1) hx hb dX7_look_128 rfl ?_
              refine va_put (D := D) (ci := 7) (v := .int 1) (ty := tyX7 18) (C := RX7) (T := TX7) (N := 23) hx hb hT iX7 tyX7 tyX7_ok nmX7 hown hK hP hD hS 0 rfl rfl 18 (by decide) (hT _ fw_X7_233) (fun _ h9 => h9) rfl (tyX7_ok 18 (by decide)) rfl rfl (Nat.le_of_ble_eq_true rfl) dX7_look_129 (fun H locs hP hD hS => ?_)
              replace hP : va_P D vwCl [oX7 h_t q_t (upd (upd (upd w1.1 18 1) 19 4) 20 0), ((q_t 15), .inl (cs 0, 250, .inl (d_t.2 15)))] H := hP
              replace hD : va_D A [oX7 h_t q_t (upd (upd (upd w1.1 18 1) 19 4) 20 0), ((q_t 15), .inl (cs 0, 250, .inl (d_t.2 15)))] := hD
              refine lv_aload_n hx hb dX7_look_132 rfl (lv_at hl 1 rfl) ?_
              refine va_get (D := D) (ci := 7) (v := .int 4) (C := RX7) (T := TX7) (N := 23) hx hb hT iX7 hown hK hP 0 rfl rfl 19 (by decide) (hT _ fw_X7_236) (fun _ h9 => h9) rfl dX7_look_133 ?_
              refine lv_iconst (v := 3) hx hb dX7_look_136 rfl ?_
              have g17 := ite_some hf
              refine lv_icmp_ge (tgt := 144) hx hb dX7_look_137 (by decide) (fun c16 => ?_) (fun c16 => ?_)
              · replace hf := g17.1 c16
                refine lv_iconst (v := 0) hx hb dX7_look_144 rfl ?_
                refine lv_istore_n (lv' := [(3, .int 0), (2, .int ((d_t.2 15) (w1.1 17).toNatClampNeg)), (0, .ref h_t)]) hx hb dX7_look_145 rfl hl (by decide) rfl (fun ls hl => ?_)
                refine mX7_look_B146 h_t q_t k ((upd (upd (upd w1.1 18 1) 19 4) 20 0), d_t.2) _ M hA hR (fun w18 hf H locs ls hP hD hS hl => ?_) _ _ hf _ _ _ hP hD hS (lv_sub hl [2, 0] rfl)
                · refine lv_iconst (v := 0) hx hb dX7_look_225 rfl ?_
                  refine lv_istore (lv' := [(4, .int 0), (0, .ref h_t)]) hx hb dX7_look_226 hl (by decide) rfl (fun ls hl => ?_)
                  refine mX7_look_B228 h_t q_t k (w18.1, d_t.2) _ M hA hR (fun w19 hf H locs ls hP hD hS hl => ?_) _ _ hf _ _ _ hP hD hS (lv_sub hl [1, 0] rfl)
                  · refine lv_aload_n hx hb dX7_look_284 rfl (lv_at hl 0 rfl) ?_
                    refine lv_aload_n hx hb dX7_look_285 rfl (lv_at hl 0 rfl) ?_
                    refine va_get (D := D) (ci := 7) (v := .int (w19.1 19)) (C := RX7) (T := TX7) (N := 23) hx hb hT iX7 hown hK hP 0 rfl rfl 19 (by decide) (hT _ fw_X7_236) (fun _ h9 => h9) rfl dX7_look_286 ?_
                    refine lv_iconst (v := 2) hx hb dX7_look_289 rfl ?_
                    have g21 := ite_some hf
                    refine lv_icmp_ne (tgt := 305) hx hb dX7_look_290 (by decide) (fun c20 => ?_) (fun c20 => ?_)
                    · replace hf := g21.2 c20
                      refine lv_aload_n hx hb dX7_look_305 rfl (lv_at hl 0 rfl) ?_
                      refine va_get (D := D) (ci := 7) (v := .int (w19.1 19)) (C := RX7) (T := TX7) (N := 23) hx hb hT iX7 hown hK hP 0 rfl rfl 19 (by decide) (hT _ fw_X7_236) (fun _ h9 => h9) rfl dX7_look_306 ?_
                      refine va_put (D := D) (ci := 7) (v := .int (w19.1 19)) (ty := tyX7 19) (C := RX7) (T := TX7) (N := 23) hx hb hT iX7 tyX7 tyX7_ok nmX7 hown hK hP hD hS 0 rfl rfl 19 (by decide) (hT _ fw_X7_236) (fun _ h9 => h9) rfl (tyX7_ok 19 (by decide)) rfl rfl (Nat.le_of_ble_eq_true rfl) dX7_look_309 (fun H locs hP hD hS => ?_)
                      replace hP : va_P D vwCl [oX7 h_t q_t (upd w19.1 19 (w19.1 19)), ((q_t 15), .inl (cs 0, 250, .inl (d_t.2 15)))] H := hP
                      replace hD : va_D A [oX7 h_t q_t (upd w19.1 19 (w19.1 19)), ((q_t 15), .inl (cs 0, 250, .inl (d_t.2 15)))] := hD
                      have e9 := Option.some.inj hf
                      subst e9
                      exact hR _ _ _ _ dX7_look_312 hP hS
                    · replace hf := g21.1 c20
                      refine lv_aload_n hx hb dX7_look_293 rfl (lv_at hl 0 rfl) ?_
                      refine va_get (D := D) (ci := 7) (v := .int (w19.1 18)) (C := RX7) (T := TX7) (N := 23) hx hb hT iX7 hown hK hP 0 rfl rfl 18 (by decide) (hT _ fw_X7_233) (fun _ h9 => h9) rfl dX7_look_294 ?_
                      refine lv_iconst (v := 3) hx hb dX7_look_297 rfl ?_
                      have g23 := ite_some hf
                      refine lv_icmp_le (tgt := 305) hx hb dX7_look_298 (by decide) (fun c22 => ?_) (fun c22 => ?_)
                      · replace hf := g23.1 c22
                        refine lv_aload_n hx hb dX7_look_305 rfl (lv_at hl 0 rfl) ?_
                        refine va_get (D := D) (ci := 7) (v := .int (w19.1 19)) (C := RX7) (T := TX7) (N := 23) hx hb hT iX7 hown hK hP 0 rfl rfl 19 (by decide) (hT _ fw_X7_236) (fun _ h9 => h9) rfl dX7_look_306 ?_
                        refine va_put (D := D) (ci := 7) (v := .int (w19.1 19)) (ty := tyX7 19) (C := RX7) (T := TX7) (N := 23) hx hb hT iX7 tyX7 tyX7_ok nmX7 hown hK hP hD hS 0 rfl rfl 19 (by decide) (hT _ fw_X7_236) (fun _ h9 => h9) rfl (tyX7_ok 19 (by decide)) rfl rfl (Nat.le_of_ble_eq_true rfl) dX7_look_309 (fun H locs hP hD hS => ?_)
                        replace hP : va_P D vwCl [oX7 h_t q_t (upd w19.1 19 (w19.1 19)), ((q_t 15), .inl (cs 0, 250, .inl (d_t.2 15)))] H := hP
                        replace hD : va_D A [oX7 h_t q_t (upd w19.1 19 (w19.1 19)), ((q_t 15), .inl (cs 0, 250, .inl (d_t.2 15)))] := hD
                        have e9 := Option.some.inj hf
                        subst e9
                        exact hR _ _ _ _ dX7_look_312 hP hS
                      · replace hf := g23.2 c22
                        refine lv_iconst (v := 4) hx hb dX7_look_301 rfl ?_
                        refine lv_goto (tgt := 309) hx hb dX7_look_302 (by decide) ?_
                        refine va_put (D := D) (ci := 7) (v := .int 4) (ty := tyX7 19) (C := RX7) (T := TX7) (N := 23) hx hb hT iX7 tyX7 tyX7_ok nmX7 hown hK hP hD hS 0 rfl rfl 19 (by decide) (hT _ fw_X7_236) (fun _ h9 => h9) rfl (tyX7_ok 19 (by decide)) rfl rfl (Nat.le_of_ble_eq_true rfl) dX7_look_309 (fun H locs hP hD hS => ?_)
                        replace hP : va_P D vwCl [oX7 h_t q_t (upd w19.1 19 4), ((q_t 15), .inl (cs 0, 250, .inl (d_t.2 15)))] H := hP
                        replace hD : va_D A [oX7 h_t q_t (upd w19.1 19 4), ((q_t 15), .inl (cs 0, 250, .inl (d_t.2 15)))] := hD
                        have e9 := Option.some.inj hf
                        subst e9
                        exact hR _ _ _ _ dX7_look_312 hP hS
              · replace hf := g17.2 c16
                refine lv_iconst (v := 1) hx hb dX7_look_140 rfl ?_
                refine lv_goto (tgt := 145) hx hb dX7_look_141 (by decide) ?_
                refine lv_istore_n (lv' := [(3, .int 1), (2, .int ((d_t.2 15) (w1.1 17).toNatClampNeg)), (0, .ref h_t)]) hx hb dX7_look_145 rfl hl (by decide) rfl (fun ls hl => ?_)
                refine mX7_look_B146 h_t q_t k ((upd (upd (upd w1.1 18 1) 19 4) 20 0), d_t.2) _ M hA hR (fun w24 hf H locs ls hP hD hS hl => ?_) _ _ hf _ _ _ hP hD hS (lv_sub hl [2, 0] rfl)
                · refine lv_iconst (v := 0) hx hb dX7_look_225 rfl ?_
                  refine lv_istore (lv' := [(4, .int 0), (0, .ref h_t)]) hx hb dX7_look_226 hl (by decide) rfl (fun ls hl => ?_)
                  refine mX7_look_B228 h_t q_t k (w24.1, d_t.2) _ M hA hR (fun w25 hf H locs ls hP hD hS hl => ?_) _ _ hf _ _ _ hP hD hS (lv_sub hl [1, 0] rfl)
                  · refine lv_aload_n hx hb dX7_look_284 rfl (lv_at hl 0 rfl) ?_
                    refine lv_aload_n hx hb dX7_look_285 rfl (lv_at hl 0 rfl) ?_
                    refine va_get (D := D) (ci := 7) (v := .int (w25.1 19)) (C := RX7) (T := TX7) (N := 23) hx hb hT iX7 hown hK hP 0 rfl rfl 19 (by decide) (hT _ fw_X7_236) (fun _ h9 => h9) rfl dX7_look_286 ?_
                    refine lv_iconst (v := 2) hx hb dX7_look_289 rfl ?_
                    have g27 := ite_some hf
                    refine lv_icmp_ne (tgt := 305) hx hb dX7_look_290 (by decide) (fun c26 => ?_) (fun c26 => ?_)
                    · replace hf := g27.2 c26
                      refine lv_aload_n hx hb dX7_look_305 rfl (lv_at hl 0 rfl) ?_
                      refine va_get (D := D) (ci := 7) (v := .int (w25.1 19)) (C := RX7) (T := TX7) (N := 23) hx hb hT iX7 hown hK hP 0 rfl rfl 19 (by decide) (hT _ fw_X7_236) (fun _ h9 => h9) rfl dX7_look_306 ?_
                      refine va_put (D := D) (ci := 7) (v := .int (w25.1 19)) (ty := tyX7 19) (C := RX7) (T := TX7) (N := 23) hx hb hT iX7 tyX7 tyX7_ok nmX7 hown hK hP hD hS 0 rfl rfl 19 (by decide) (hT _ fw_X7_236) (fun _ h9 => h9) rfl (tyX7_ok 19 (by decide)) rfl rfl (Nat.le_of_ble_eq_true rfl) dX7_look_309 (fun H locs hP hD hS => ?_)
                      replace hP : va_P D vwCl [oX7 h_t q_t (upd w25.1 19 (w25.1 19)), ((q_t 15), .inl (cs 0, 250, .inl (d_t.2 15)))] H := hP
                      replace hD : va_D A [oX7 h_t q_t (upd w25.1 19 (w25.1 19)), ((q_t 15), .inl (cs 0, 250, .inl (d_t.2 15)))] := hD
                      have e9 := Option.some.inj hf
                      subst e9
                      exact hR _ _ _ _ dX7_look_312 hP hS
                    · replace hf := g27.1 c26
                      refine lv_aload_n hx hb dX7_look_293 rfl (lv_at hl 0 rfl) ?_
                      refine va_get (D := D) (ci := 7) (v := .int (w25.1 18)) (C := RX7) (T := TX7) (N := 23) hx hb hT iX7 hown hK hP 0 rfl rfl 18 (by decide) (hT _ fw_X7_233) (fun _ h9 => h9) rfl dX7_look_294 ?_
                      refine lv_iconst (v := 3) hx hb dX7_look_297 rfl ?_
                      have g29 := ite_some hf
                      refine lv_icmp_le (tgt := 305) hx hb dX7_look_298 (by decide) (fun c28 => ?_) (fun c28 => ?_)
                      · replace hf := g29.1 c28
                        refine lv_aload_n hx hb dX7_look_305 rfl (lv_at hl 0 rfl) ?_
                        refine va_get (D := D) (ci := 7) (v := .int (w25.1 19)) (C := RX7) (T := TX7) (N := 23) hx hb hT iX7 hown hK hP 0 rfl rfl 19 (by decide) (hT _ fw_X7_236) (fun _ h9 => h9) rfl dX7_look_306 ?_
                        refine va_put (D := D) (ci := 7) (v := .int (w25.1 19)) (ty := tyX7 19) (C := RX7) (T := TX7) (N := 23) hx hb hT iX7 tyX7 tyX7_ok nmX7 hown hK hP hD hS 0 rfl rfl 19 (by decide) (hT _ fw_X7_236) (fun _ h9 => h9) rfl (tyX7_ok 19 (by decide)) rfl rfl (Nat.le_of_ble_eq_true rfl) dX7_look_309 (fun H locs hP hD hS => ?_)
                        replace hP : va_P D vwCl [oX7 h_t q_t (upd w25.1 19 (w25.1 19)), ((q_t 15), .inl (cs 0, 250, .inl (d_t.2 15)))] H := hP
                        replace hD : va_D A [oX7 h_t q_t (upd w25.1 19 (w25.1 19)), ((q_t 15), .inl (cs 0, 250, .inl (d_t.2 15)))] := hD
                        have e9 := Option.some.inj hf
                        subst e9
                        exact hR _ _ _ _ dX7_look_312 hP hS
                      · replace hf := g29.2 c28
                        refine lv_iconst (v := 4) hx hb dX7_look_301 rfl ?_
                        refine lv_goto (tgt := 309) hx hb dX7_look_302 (by decide) ?_
                        refine va_put (D := D) (ci := 7) (v := .int 4) (ty := tyX7 19) (C := RX7) (T := TX7) (N := 23) hx hb hT iX7 tyX7 tyX7_ok nmX7 hown hK hP hD hS 0 rfl rfl 19 (by decide) (hT _ fw_X7_236) (fun _ h9 => h9) rfl (tyX7_ok 19 (by decide)) rfl rfl (Nat.le_of_ble_eq_true rfl) dX7_look_309 (fun H locs hP hD hS => ?_)
                        replace hP : va_P D vwCl [oX7 h_t q_t (upd w25.1 19 4), ((q_t 15), .inl (cs 0, 250, .inl (d_t.2 15)))] H := hP
                        replace hD : va_D A [oX7 h_t q_t (upd w25.1 19 4), ((q_t 15), .inl (cs 0, 250, .inl (d_t.2 15)))] := hD
                        have e9 := Option.some.inj hf
                        subst e9
                        exact hR _ _ _ _ dX7_look_312 hP hS
            · replace hf := g15.1 c14
              refine lv_iconst (v := 5) hx hb dX7_look_119 rfl ?_
              refine lv_goto (tgt := 124) hx hb dX7_look_120 (by decide) ?_
              refine va_put (D := D) (ci := 7) (v := .int 5) (ty := tyX7 19) (C := RX7) (T := TX7) (N := 23) hx hb hT iX7 tyX7 tyX7_ok nmX7 hown hK hP hD hS 0 rfl rfl 19 (by decide) (hT _ fw_X7_236) (fun _ h9 => h9) rfl (tyX7_ok 19 (by decide)) rfl rfl (Nat.le_of_ble_eq_true rfl) dX7_look_124 (fun H locs hP hD hS => ?_)
              replace hP : va_P D vwCl [oX7 h_t q_t (upd (upd (upd w1.1 18 0) 19 5) 20 0), ((q_t 15), .inl (cs 0, 250, .inl (d_t.2 15)))] H := hP
              replace hD : va_D A [oX7 h_t q_t (upd (upd (upd w1.1 18 0) 19 5) 20 0), ((q_t 15), .inl (cs 0, 250, .inl (d_t.2 15)))] := hD
              refine lv_aload_n hx hb dX7_look_127 rfl (lv_at hl 1 rfl) ?_
              refine lv_iconst (v := 1) hx hb dX7_look_128 rfl ?_
              refine va_put (D := D) (ci := 7) (v := .int 1) (ty := tyX7 18) (C := RX7) (T := TX7) (N := 23) hx hb hT iX7 tyX7 tyX7_ok nmX7 hown hK hP hD hS 0 rfl rfl 18 (by decide) (hT _ fw_X7_233) (fun _ h9 => h9) rfl (tyX7_ok 18 (by decide)) rfl rfl (Nat.le_of_ble_eq_true rfl) dX7_look_129 (fun H locs hP hD hS => ?_)
              replace hP : va_P D vwCl [oX7 h_t q_t (upd (upd (upd w1.1 18 1) 19 5) 20 0), ((q_t 15), .inl (cs 0, 250, .inl (d_t.2 15)))] H := hP
              replace hD : va_D A [oX7 h_t q_t (upd (upd (upd w1.1 18 1) 19 5) 20 0), ((q_t 15), .inl (cs 0, 250, .inl (d_t.2 15)))] := hD
              refine lv_aload_n hx hb dX7_look_132 rfl (lv_at hl 1 rfl) ?_
              refine va_get (D := D) (ci := 7) (v := .int 5) (C := RX7) (T := TX7) (N := 23) hx hb hT iX7 hown hK hP 0 rfl rfl 19 (by decide) (hT _ fw_X7_236) (fun _ h9 => h9) rfl dX7_look_133 ?_
              refine lv_iconst (v := 3) hx hb dX7_look_136 rfl ?_
              have g31 := ite_some hf
              refine lv_icmp_ge (tgt := 144) hx hb dX7_look_137 (by decide) (fun c30 => ?_) (fun c30 => ?_)
              · replace hf := g31.1 c30
                refine lv_iconst (v := 0) hx hb dX7_look_144 rfl ?_
                refine lv_istore_n (lv' := [(3, .int 0), (2, .int ((d_t.2 15) (w1.1 17).toNatClampNeg)), (0, .ref h_t)]) hx hb dX7_look_145 rfl hl (by decide) rfl (fun ls hl => ?_)
                refine mX7_look_B146 h_t q_t k ((upd (upd (upd w1.1 18 1) 19 5) 20 0), d_t.2) _ M hA hR (fun w32 hf H locs ls hP hD hS hl => ?_) _ _ hf _ _ _ hP hD hS (lv_sub hl [2, 0] rfl)
                · refine lv_iconst (v := 0) hx hb dX7_look_225 rfl ?_
                  refine lv_istore (lv' := [(4, .int 0), (0, .ref h_t)]) hx hb dX7_look_226 hl (by decide) rfl (fun ls hl => ?_)
                  refine mX7_look_B228 h_t q_t k (w32.1, d_t.2) _ M hA hR (fun w33 hf H locs ls hP hD hS hl => ?_) _ _ hf _ _ _ hP hD hS (lv_sub hl [1, 0] rfl)
                  · refine lv_aload_n hx hb dX7_look_284 rfl (lv_at hl 0 rfl) ?_
                    refine lv_aload_n hx hb dX7_look_285 rfl (lv_at hl 0 rfl) ?_
                    refine va_get (D := D) (ci := 7) (v := .int (w33.1 19)) (C := RX7) (T := TX7) (N := 23) hx hb hT iX7 hown hK hP 0 rfl rfl 19 (by decide) (hT _ fw_X7_236) (fun _ h9 => h9) rfl dX7_look_286 ?_
                    refine lv_iconst (v := 2) hx hb dX7_look_289 rfl ?_
                    have g35 := ite_some hf
                    refine lv_icmp_ne (tgt := 305) hx hb dX7_look_290 (by decide) (fun c34 => ?_) (fun c34 => ?_)
                    · replace hf := g35.2 c34
                      refine lv_aload_n hx hb dX7_look_305 rfl (lv_at hl 0 rfl) ?_
                      refine va_get (D := D) (ci := 7) (v := .int (w33.1 19)) (C := RX7) (T := TX7) (N := 23) hx hb hT iX7 hown hK hP 0 rfl rfl 19 (by decide) (hT _ fw_X7_236) (fun _ h9 => h9) rfl dX7_look_306 ?_
                      refine va_put (D := D) (ci := 7) (v := .int (w33.1 19)) (ty := tyX7 19) (C := RX7) (T := TX7) (N := 23) hx hb hT iX7 tyX7 tyX7_ok nmX7 hown hK hP hD hS 0 rfl rfl 19 (by decide) (hT _ fw_X7_236) (fun _ h9 => h9) rfl (tyX7_ok 19 (by decide)) rfl rfl (Nat.le_of_ble_eq_true rfl) dX7_look_309 (fun H locs hP hD hS => ?_)
                      replace hP : va_P D vwCl [oX7 h_t q_t (upd w33.1 19 (w33.1 19)), ((q_t 15), .inl (cs 0, 250, .inl (d_t.2 15)))] H := hP
                      replace hD : va_D A [oX7 h_t q_t (upd w33.1 19 (w33.1 19)), ((q_t 15), .inl (cs 0, 250, .inl (d_t.2 15)))] := hD
                      have e9 := Option.some.inj hf
                      subst e9
                      exact hR _ _ _ _ dX7_look_312 hP hS
                    · replace hf := g35.1 c34
                      refine lv_aload_n hx hb dX7_look_293 rfl (lv_at hl 0 rfl) ?_
                      refine va_get (D := D) (ci := 7) (v := .int (w33.1 18)) (C := RX7) (T := TX7) (N := 23) hx hb hT iX7 hown hK hP 0 rfl rfl 18 (by decide) (hT _ fw_X7_233) (fun _ h9 => h9) rfl dX7_look_294 ?_
                      refine lv_iconst (v := 3) hx hb dX7_look_297 rfl ?_
                      have g37 := ite_some hf
                      refine lv_icmp_le (tgt := 305) hx hb dX7_look_298 (by decide) (fun c36 => ?_) (fun c36 => ?_)
                      · replace hf := g37.1 c36
                        refine lv_aload_n hx hb dX7_look_305 rfl (lv_at hl 0 rfl) ?_
                        refine va_get (D := D) (ci := 7) (v := .int (w33.1 19)) (C := RX7) (T := TX7) (N := 23) hx hb hT iX7 hown hK hP 0 rfl rfl 19 (by decide) (hT _ fw_X7_236) (fun _ h9 => h9) rfl dX7_look_306 ?_
                        refine va_put (D := D) (ci := 7) (v := .int (w33.1 19)) (ty := tyX7 19) (C := RX7) (T := TX7) (N := 23) hx hb hT iX7 tyX7 tyX7_ok nmX7 hown hK hP hD hS 0 rfl rfl 19 (by decide) (hT _ fw_X7_236) (fun _ h9 => h9) rfl (tyX7_ok 19 (by decide)) rfl rfl (Nat.le_of_ble_eq_true rfl) dX7_look_309 (fun H locs hP hD hS => ?_)
                        replace hP : va_P D vwCl [oX7 h_t q_t (upd w33.1 19 (w33.1 19)), ((q_t 15), .inl (cs 0, 250, .inl (d_t.2 15)))] H := hP
                        replace hD : va_D A [oX7 h_t q_t (upd w33.1 19 (w33.1 19)), ((q_t 15), .inl (cs 0, 250, .inl (d_t.2 15)))] := hD
                        have e9 := Option.some.inj hf
                        subst e9
                        exact hR _ _ _ _ dX7_look_312 hP hS
                      · replace hf := g37.2 c36
                        refine lv_iconst (v := 4) hx hb dX7_look_301 rfl ?_
                        refine lv_goto (tgt := 309) hx hb dX7_look_302 (by decide) ?_
                        refine va_put (D := D) (ci := 7) (v := .int 4) (ty := tyX7 19) (C := RX7) (T := TX7) (N := 23) hx hb hT iX7 tyX7 tyX7_ok nmX7 hown hK hP hD hS 0 rfl rfl 19 (by decide) (hT _ fw_X7_236) (fun _ h9 => h9) rfl (tyX7_ok 19 (by decide)) rfl rfl (Nat.le_of_ble_eq_true rfl) dX7_look_309 (fun H locs hP hD hS => ?_)
                        replace hP : va_P D vwCl [oX7 h_t q_t (upd w33.1 19 4), ((q_t 15), .inl (cs 0, 250, .inl (d_t.2 15)))] H := hP
                        replace hD : va_D A [oX7 h_t q_t (upd w33.1 19 4), ((q_t 15), .inl (cs 0, 250, .inl (d_t.2 15)))] := hD
                        have e9 := Option.some.inj hf
                        subst e9
                        exact hR _ _ _ _ dX7_look_312 hP hS
              · replace hf := g31.2 c30
                refine lv_iconst (v := 1) hx hb dX7_look_140 rfl ?_
                refine lv_goto (tgt := 145) hx hb dX7_look_141 (by decide) ?_
                refine lv_istore_n (lv' := [(3, .int 1), (2, .int ((d_t.2 15) (w1.1 17).toNatClampNeg)), (0, .ref h_t)]) hx hb dX7_look_145 rfl hl (by decide) rfl (fun ls hl => ?_)
                refine mX7_look_B146 h_t q_t k ((upd (upd (upd w1.1 18 1) 19 5) 20 0), d_t.2) _ M hA hR (fun w38 hf H locs ls hP hD hS hl => ?_) _ _ hf _ _ _ hP hD hS (lv_sub hl [2, 0] rfl)
                · refine lv_iconst (v := 0) hx hb dX7_look_225 rfl ?_
                  refine lv_istore (lv' := [(4, .int 0), (0, .ref h_t)]) hx hb dX7_look_226 hl (by decide) rfl (fun ls hl => ?_)
                  refine mX7_look_B228 h_t q_t k (w38.1, d_t.2) _ M hA hR (fun w39 hf H locs ls hP hD hS hl => ?_) _ _ hf _ _ _ hP hD hS (lv_sub hl [1, 0] rfl)
                  · refine lv_aload_n hx hb dX7_look_284 rfl (lv_at hl 0 rfl) ?_
                    refine lv_aload_n hx hb dX7_look_285 rfl (lv_at hl 0 rfl) ?_
                    refine va_get (D := D) (ci := 7) (v := .int (w39.1 19)) (C := RX7) (T := TX7) (N := 23) hx hb hT iX7 hown hK hP 0 rfl rfl 19 (by decide) (hT _ fw_X7_236) (fun _ h9 => h9) rfl dX7_look_286 ?_
                    refine lv_iconst (v := 2) hx hb dX7_look_289 rfl ?_
                    have g41 := ite_some hf
                    refine lv_icmp_ne (tgt := 305) hx hb dX7_look_290 (by decide) (fun c40 => ?_) (fun c40 => ?_)
                    · replace hf := g41.2 c40
                      refine lv_aload_n hx hb dX7_look_305 rfl (lv_at hl 0 rfl) ?_
                      refine va_get (D := D) (ci := 7) (v := .int (w39.1 19)) (C := RX7) (T := TX7) (N := 23) hx hb hT iX7 hown hK hP 0 rfl rfl 19 (by decide) (hT _ fw_X7_236) (fun _ h9 => h9) rfl dX7_look_306 ?_
                      refine va_put (D := D) (ci := 7) (v := .int (w39.1 19)) (ty := tyX7 19) (C := RX7) (T := TX7) (N := 23) hx hb hT iX7 tyX7 tyX7_ok nmX7 hown hK hP hD hS 0 rfl rfl 19 (by decide) (hT _ fw_X7_236) (fun _ h9 => h9) rfl (tyX7_ok 19 (by decide)) rfl rfl (Nat.le_of_ble_eq_true rfl) dX7_look_309 (fun H locs hP hD hS => ?_)
                      replace hP : va_P D vwCl [oX7 h_t q_t (upd w39.1 19 (w39.1 19)), ((q_t 15), .inl (cs 0, 250, .inl (d_t.2 15)))] H := hP
                      replace hD : va_D A [oX7 h_t q_t (upd w39.1 19 (w39.1 19)), ((q_t 15), .inl (cs 0, 250, .inl (d_t.2 15)))] := hD
                      have e9 := Option.some.inj hf
                      subst e9
                      exact hR _ _ _ _ dX7_look_312 hP hS
                    · replace hf := g41.1 c40
                      refine lv_aload_n hx hb dX7_look_293 rfl (lv_at hl 0 rfl) ?_
                      refine va_get (D := D) (ci := 7) (v := .int (w39.1 18)) (C := RX7) (T := TX7) (N := 23) hx hb hT iX7 hown hK hP 0 rfl rfl 18 (by decide) (hT _ fw_X7_233) (fun _ h9 => h9) rfl dX7_look_294 ?_
                      refine lv_iconst (v := 3) hx hb dX7_look_297 rfl ?_
                      have g43 := ite_some hf
                      refine lv_icmp_le (tgt := 305) hx hb dX7_look_298 (by decide) (fun c42 => ?_) (fun c42 => ?_)
                      · replace hf := g43.1 c42
                        refine lv_aload_n hx hb dX7_look_305 rfl (lv_at hl 0 rfl) ?_
                        refine va_get (D := D) (ci := 7) (v := .int (w39.1 19)) (C := RX7) (T := TX7) (N := 23) hx hb hT iX7 hown hK hP 0 rfl rfl 19 (by decide) (hT _ fw_X7_236) (fun _ h9 => h9) rfl dX7_look_306 ?_
                        refine va_put (D := D) (ci := 7) (v := .int (w39.1 19)) (ty := tyX7 19) (C := RX7) (T := TX7) (N := 23) hx hb hT iX7 tyX7 tyX7_ok nmX7 hown hK hP hD hS 0 rfl rfl 19 (by decide) (hT _ fw_X7_236) (fun _ h9 => h9) rfl (tyX7_ok 19 (by decide)) rfl rfl (Nat.le_of_ble_eq_true rfl) dX7_look_309 (fun H locs hP hD hS => ?_)
                        replace hP : va_P D vwCl [oX7 h_t q_t (upd w39.1 19 (w39.1 19)), ((q_t 15), .inl (cs 0, 250, .inl (d_t.2 15)))] H := hP
                        replace hD : va_D A [oX7 h_t q_t (upd w39.1 19 (w39.1 19)), ((q_t 15), .inl (cs 0, 250, .inl (d_t.2 15)))] := hD
                        have e9 := Option.some.inj hf
                        subst e9
                        exact hR _ _ _ _ dX7_look_312 hP hS
                      · replace hf := g43.2 c42
                        refine lv_iconst (v := 4) hx hb dX7_look_301 rfl ?_
                        refine lv_goto (tgt := 309) hx hb dX7_look_302 (by decide) ?_
                        refine va_put (D := D) (ci := 7) (v := .int 4) (ty := tyX7 19) (C := RX7) (T := TX7) (N := 23) hx hb hT iX7 tyX7 tyX7_ok nmX7 hown hK hP hD hS 0 rfl rfl 19 (by decide) (hT _ fw_X7_236) (fun _ h9 => h9) rfl (tyX7_ok 19 (by decide)) rfl rfl (Nat.le_of_ble_eq_true rfl) dX7_look_309 (fun H locs hP hD hS => ?_)
                        replace hP : va_P D vwCl [oX7 h_t q_t (upd w39.1 19 4), ((q_t 15), .inl (cs 0, 250, .inl (d_t.2 15)))] H := hP
                        replace hD : va_D A [oX7 h_t q_t (upd w39.1 19 4), ((q_t 15), .inl (cs 0, 250, .inl (d_t.2 15)))] := hD
                        have e9 := Option.some.inj hf
                        subst e9
                        exact hR _ _ _ _ dX7_look_312 hP hS
          · replace hf := g13.1 c12
            refine lv_iconst (v := 3) hx hb dX7_look_109 rfl ?_
            refine lv_goto (tgt := 124) hx hb dX7_look_110 (by decide) ?_
            refine va_put (D := D) (ci := 7) (v := .int 3) (ty := tyX7 19) (C := RX7) (T := TX7) (N := 23) hx hb hT iX7 tyX7 tyX7_ok nmX7 hown hK hP hD hS 0 rfl rfl 19 (by decide) (hT _ fw_X7_236) (fun _ h9 => h9) rfl (tyX7_ok 19 (by decide)) rfl rfl (Nat.le_of_ble_eq_true rfl) dX7_look_124 (fun H locs hP hD hS => ?_)
            replace hP : va_P D vwCl [oX7 h_t q_t (upd (upd (upd w1.1 18 0) 19 3) 20 0), ((q_t 15), .inl (cs 0, 250, .inl (d_t.2 15)))] H := hP
            replace hD : va_D A [oX7 h_t q_t (upd (upd (upd w1.1 18 0) 19 3) 20 0), ((q_t 15), .inl (cs 0, 250, .inl (d_t.2 15)))] := hD
            refine lv_aload_n hx hb dX7_look_127 rfl (lv_at hl 1 rfl) ?_
            refine lv_iconst (v := 1) hx hb dX7_look_128 rfl ?_
            refine va_put (D := D) (ci := 7) (v := .int 1) (ty := tyX7 18) (C := RX7) (T := TX7) (N := 23) hx hb hT iX7 tyX7 tyX7_ok nmX7 hown hK hP hD hS 0 rfl rfl 18 (by decide) (hT _ fw_X7_233) (fun _ h9 => h9) rfl (tyX7_ok 18 (by decide)) rfl rfl (Nat.le_of_ble_eq_true rfl) dX7_look_129 (fun H locs hP hD hS => ?_)
            replace hP : va_P D vwCl [oX7 h_t q_t (upd (upd (upd w1.1 18 1) 19 3) 20 0), ((q_t 15), .inl (cs 0, 250, .inl (d_t.2 15)))] H := hP
            replace hD : va_D A [oX7 h_t q_t (upd (upd (upd w1.1 18 1) 19 3) 20 0), ((q_t 15), .inl (cs 0, 250, .inl (d_t.2 15)))] := hD
            refine lv_aload_n hx hb dX7_look_132 rfl (lv_at hl 1 rfl) ?_
            refine va_get (D := D) (ci := 7) (v := .int 3) (C := RX7) (T := TX7) (N := 23) hx hb hT iX7 hown hK hP 0 rfl rfl 19 (by decide) (hT _ fw_X7_236) (fun _ h9 => h9) rfl dX7_look_133 ?_
            refine lv_iconst (v := 3) hx hb dX7_look_136 rfl ?_
            have g45 := ite_some hf
            refine lv_icmp_ge (tgt := 144) hx hb dX7_look_137 (by decide) (fun c44 => ?_) (fun c44 => ?_)
            · replace hf := g45.1 c44
              refine lv_iconst (v := 0) hx hb dX7_look_144 rfl ?_
              refine lv_istore_n (lv' := [(3, .int 0), (2, .int ((d_t.2 15) (w1.1 17).toNatClampNeg)), (0, .ref h_t)]) hx hb dX7_look_145 rfl hl (by decide) rfl (fun ls hl => ?_)
              refine mX7_look_B146 h_t q_t k ((upd (upd (upd w1.1 18 1) 19 3) 20 0), d_t.2) _ M hA hR (fun w46 hf H locs ls hP hD hS hl => ?_) _ _ hf _ _ _ hP hD hS (lv_sub hl [2, 0] rfl)
              · refine lv_iconst (v := 0) hx hb dX7_look_225 rfl ?_
                refine lv_istore (lv' := [(4, .int 0), (0, .ref h_t)]) hx hb dX7_look_226 hl (by decide) rfl (fun ls hl => ?_)
                refine mX7_look_B228 h_t q_t k (w46.1, d_t.2) _ M hA hR (fun w47 hf H locs ls hP hD hS hl => ?_) _ _ hf _ _ _ hP hD hS (lv_sub hl [1, 0] rfl)
                · refine lv_aload_n hx hb dX7_look_284 rfl (lv_at hl 0 rfl) ?_
                  refine lv_aload_n hx hb dX7_look_285 rfl (lv_at hl 0 rfl) ?_
                  refine va_get (D := D) (ci := 7) (v := .int (w47.1 19)) (C := RX7) (T := TX7) (N := 23) hx hb hT iX7 hown hK hP 0 rfl rfl 19 (by decide) (hT _ fw_X7_236) (fun _ h9 => h9) rfl dX7_look_286 ?_
                  refine lv_iconst (v := 2) hx hb dX7_look_289 rfl ?_
                  have g49 := ite_some hf
                  refine lv_icmp_ne (tgt := 305) hx hb dX7_look_290 (by decide) (fun c48 => ?_) (fun c48 => ?_)
                  · replace hf := g49.2 c48
                    refine lv_aload_n hx hb dX7_look_305 rfl (lv_at hl 0 rfl) ?_
                    refine va_get (D := D) (ci := 7) (v := .int (w47.1 19)) (C := RX7) (T := TX7) (N := 23) hx hb hT iX7 hown hK hP 0 rfl rfl 19 (by decide) (hT _ fw_X7_236) (fun _ h9 => h9) rfl dX7_look_306 ?_
                    refine va_put (D := D) (ci := 7) (v := .int (w47.1 19)) (ty := tyX7 19) (C := RX7) (T := TX7) (N := 23) hx hb hT iX7 tyX7 tyX7_ok nmX7 hown hK hP hD hS 0 rfl rfl 19 (by decide) (hT _ fw_X7_236) (fun _ h9 => h9) rfl (tyX7_ok 19 (by decide)) rfl rfl (Nat.le_of_ble_eq_true rfl) dX7_look_309 (fun H locs hP hD hS => ?_)
                    replace hP : va_P D vwCl [oX7 h_t q_t (upd w47.1 19 (w47.1 19)), ((q_t 15), .inl (cs 0, 250, .inl (d_t.2 15)))] H := hP
                    replace hD : va_D A [oX7 h_t q_t (upd w47.1 19 (w47.1 19)), ((q_t 15), .inl (cs 0, 250, .inl (d_t.2 15)))] := hD
                    have e9 := Option.some.inj hf
                    subst e9
                    exact hR _ _ _ _ dX7_look_312 hP hS
                  · replace hf := g49.1 c48
                    refine lv_aload_n hx hb dX7_look_293 rfl (lv_at hl 0 rfl) ?_
                    refine va_get (D := D) (ci := 7) (v := .int (w47.1 18)) (C := RX7) (T := TX7) (N := 23) hx hb hT iX7 hown hK hP 0 rfl rfl 18 (by decide) (hT _ fw_X7_233) (fun _ h9 => h9) rfl dX7_look_294 ?_
                    refine lv_iconst (v := 3) hx hb dX7_look_297 rfl ?_
                    have g51 := ite_some hf
                    refine lv_icmp_le (tgt := 305) hx hb dX7_look_298 (by decide) (fun c50 => ?_) (fun c50 => ?_)
                    · replace hf := g51.1 c50
                      refine lv_aload_n hx hb dX7_look_305 rfl (lv_at hl 0 rfl) ?_
                      refine va_get (D := D) (ci := 7) (v := .int (w47.1 19)) (C := RX7) (T := TX7) (N := 23) hx hb hT iX7 hown hK hP 0 rfl rfl 19 (by decide) (hT _ fw_X7_236) (fun _ h9 => h9) rfl dX7_look_306 ?_
                      refine va_put (D := D) (ci := 7) (v := .int (w47.1 19)) (ty := tyX7 19) (C := RX7) (T := TX7) (N := 23) hx hb hT iX7 tyX7 tyX7_ok nmX7 hown hK hP hD hS 0 rfl rfl 19 (by decide) (hT _ fw_X7_236) (fun _ h9 => h9) rfl (tyX7_ok 19 (by decide)) rfl rfl (Nat.le_of_ble_eq_true rfl) dX7_look_309 (fun H locs hP hD hS => ?_)
                      replace hP : va_P D vwCl [oX7 h_t q_t (upd w47.1 19 (w47.1 19)), ((q_t 15), .inl (cs 0, 250, .inl (d_t.2 15)))] H := hP
                      replace hD : va_D A [oX7 h_t q_t (upd w47.1 19 (w47.1 19)), ((q_t 15), .inl (cs 0, 250, .inl (d_t.2 15)))] := hD
                      have e9 := Option.some.inj hf
                      subst e9
                      exact hR _ _ _ _ dX7_look_312 hP hS
                    · replace hf := g51.2 c50
                      refine lv_iconst (v := 4) hx hb dX7_look_301 rfl ?_
                      refine lv_goto (tgt := 309) hx hb dX7_look_302 (by decide) ?_
                      refine va_put (D := D) (ci := 7) (v := .int 4) (ty := tyX7 19) (C := RX7) (T := TX7) (N := 23) hx hb hT iX7 tyX7 tyX7_ok nmX7 hown hK hP hD hS 0 rfl rfl 19 (by decide) (hT _ fw_X7_236) (fun _ h9 => h9) rfl (tyX7_ok 19 (by decide)) rfl rfl (Nat.le_of_ble_eq_true rfl) dX7_look_309 (fun H locs hP hD hS => ?_)
                      replace hP : va_P D vwCl [oX7 h_t q_t (upd w47.1 19 4), ((q_t 15), .inl (cs 0, 250, .inl (d_t.2 15)))] H := hP
                      replace hD : va_D A [oX7 h_t q_t (upd w47.1 19 4), ((q_t 15), .inl (cs 0, 250, .inl (d_t.2 15)))] := hD
                      have e9 := Option.some.inj hf
                      subst e9
                      exact hR _ _ _ _ dX7_look_312 hP hS
            · replace hf := g45.2 c44
              refine lv_iconst (v := 1) hx hb dX7_look_140 rfl ?_
              refine lv_goto (tgt := 145) hx hb dX7_look_141 (by decide) ?_
              refine lv_istore_n (lv' := [(3, .int 1), (2, .int ((d_t.2 15) (w1.1 17).toNatClampNeg)), (0, .ref h_t)]) hx hb dX7_look_145 rfl hl (by decide) rfl (fun ls hl => ?_)
              refine mX7_look_B146 h_t q_t k ((upd (upd (upd w1.1 18 1) 19 3) 20 0), d_t.2) _ M hA hR (fun w52 hf H locs ls hP hD hS hl => ?_) _ _ hf _ _ _ hP hD hS (lv_sub hl [2, 0] rfl)
              · refine lv_iconst (v := 0) hx hb dX7_look_225 rfl ?_
                refine lv_istore (lv' := [(4, .int 0), (0, .ref h_t)]) hx hb dX7_look_226 hl (by decide) rfl (fun ls hl => ?_)
                refine mX7_look_B228 h_t q_t k (w52.1, d_t.2) _ M hA hR (fun w53 hf H locs ls hP hD hS hl => ?_) _ _ hf _ _ _ hP hD hS (lv_sub hl [1, 0] rfl)
                · refine lv_aload_n hx hb dX7_look_284 rfl (lv_at hl 0 rfl) ?_
                  refine lv_aload_n hx hb dX7_look_285 rfl (lv_at hl 0 rfl) ?_
                  refine va_get (D := D) (ci := 7) (v := .int (w53.1 19)) (C := RX7) (T := TX7) (N := 23) hx hb hT iX7 hown hK hP 0 rfl rfl 19 (by decide) (hT _ fw_X7_236) (fun _ h9 => h9) rfl dX7_look_286 ?_
                  refine lv_iconst (v := 2) hx hb dX7_look_289 rfl ?_
                  have g55 := ite_some hf
                  refine lv_icmp_ne (tgt := 305) hx hb dX7_look_290 (by decide) (fun c54 => ?_) (fun c54 => ?_)
                  · replace hf := g55.2 c54
                    refine lv_aload_n hx hb dX7_look_305 rfl (lv_at hl 0 rfl) ?_
                    refine va_get (D := D) (ci := 7) (v := .int (w53.1 19)) (C := RX7) (T := TX7) (N := 23) hx hb hT iX7 hown hK hP 0 rfl rfl 19 (by decide) (hT _ fw_X7_236) (fun _ h9 => h9) rfl dX7_look_306 ?_
                    refine va_put (D := D) (ci := 7) (v := .int (w53.1 19)) (ty := tyX7 19) (C := RX7) (T := TX7) (N := 23) hx hb hT iX7 tyX7 tyX7_ok nmX7 hown hK hP hD hS 0 rfl rfl 19 (by decide) (hT _ fw_X7_236) (fun _ h9 => h9) rfl (tyX7_ok 19 (by decide)) rfl rfl (Nat.le_of_ble_eq_true rfl) dX7_look_309 (fun H locs hP hD hS => ?_)
                    replace hP : va_P D vwCl [oX7 h_t q_t (upd w53.1 19 (w53.1 19)), ((q_t 15), .inl (cs 0, 250, .inl (d_t.2 15)))] H := hP
                    replace hD : va_D A [oX7 h_t q_t (upd w53.1 19 (w53.1 19)), ((q_t 15), .inl (cs 0, 250, .inl (d_t.2 15)))] := hD
                    have e9 := Option.some.inj hf
                    subst e9
                    exact hR _ _ _ _ dX7_look_312 hP hS
                  · replace hf := g55.1 c54
                    refine lv_aload_n hx hb dX7_look_293 rfl (lv_at hl 0 rfl) ?_
                    refine va_get (D := D) (ci := 7) (v := .int (w53.1 18)) (C := RX7) (T := TX7) (N := 23) hx hb hT iX7 hown hK hP 0 rfl rfl 18 (by decide) (hT _ fw_X7_233) (fun _ h9 => h9) rfl dX7_look_294 ?_
                    refine lv_iconst (v := 3) hx hb dX7_look_297 rfl ?_
                    have g57 := ite_some hf
                    refine lv_icmp_le (tgt := 305) hx hb dX7_look_298 (by decide) (fun c56 => ?_) (fun c56 => ?_)
                    · replace hf := g57.1 c56
                      refine lv_aload_n hx hb dX7_look_305 rfl (lv_at hl 0 rfl) ?_
                      refine va_get (D := D) (ci := 7) (v := .int (w53.1 19)) (C := RX7) (T := TX7) (N := 23) hx hb hT iX7 hown hK hP 0 rfl rfl 19 (by decide) (hT _ fw_X7_236) (fun _ h9 => h9) rfl dX7_look_306 ?_
                      refine va_put (D := D) (ci := 7) (v := .int (w53.1 19)) (ty := tyX7 19) (C := RX7) (T := TX7) (N := 23) hx hb hT iX7 tyX7 tyX7_ok nmX7 hown hK hP hD hS 0 rfl rfl 19 (by decide) (hT _ fw_X7_236) (fun _ h9 => h9) rfl (tyX7_ok 19 (by decide)) rfl rfl (Nat.le_of_ble_eq_true rfl) dX7_look_309 (fun H locs hP hD hS => ?_)
                      replace hP : va_P D vwCl [oX7 h_t q_t (upd w53.1 19 (w53.1 19)), ((q_t 15), .inl (cs 0, 250, .inl (d_t.2 15)))] H := hP
                      replace hD : va_D A [oX7 h_t q_t (upd w53.1 19 (w53.1 19)), ((q_t 15), .inl (cs 0, 250, .inl (d_t.2 15)))] := hD
                      have e9 := Option.some.inj hf
                      subst e9
                      exact hR _ _ _ _ dX7_look_312 hP hS
                    · replace hf := g57.2 c56
                      refine lv_iconst (v := 4) hx hb dX7_look_301 rfl ?_
                      refine lv_goto (tgt := 309) hx hb dX7_look_302 (by decide) ?_
                      refine va_put (D := D) (ci := 7) (v := .int 4) (ty := tyX7 19) (C := RX7) (T := TX7) (N := 23) hx hb hT iX7 tyX7 tyX7_ok nmX7 hown hK hP hD hS 0 rfl rfl 19 (by decide) (hT _ fw_X7_236) (fun _ h9 => h9) rfl (tyX7_ok 19 (by decide)) rfl rfl (Nat.le_of_ble_eq_true rfl) dX7_look_309 (fun H locs hP hD hS => ?_)
                      replace hP : va_P D vwCl [oX7 h_t q_t (upd w53.1 19 4), ((q_t 15), .inl (cs 0, 250, .inl (d_t.2 15)))] H := hP
                      replace hD : va_D A [oX7 h_t q_t (upd w53.1 19 4), ((q_t 15), .inl (cs 0, 250, .inl (d_t.2 15)))] := hD
                      have e9 := Option.some.inj hf
                      subst e9
                      exact hR _ _ _ _ dX7_look_312 hP hS
        · replace hf := g11.2 c10
          refine lv_iconst (v := 2) hx hb dX7_look_99 rfl ?_
          refine lv_goto (tgt := 124) hx hb dX7_look_100 (by decide) ?_
          refine va_put (D := D) (ci := 7) (v := .int 2) (ty := tyX7 19) (C := RX7) (T := TX7) (N := 23) hx hb hT iX7 tyX7 tyX7_ok nmX7 hown hK hP hD hS 0 rfl rfl 19 (by decide) (hT _ fw_X7_236) (fun _ h9 => h9) rfl (tyX7_ok 19 (by decide)) rfl rfl (Nat.le_of_ble_eq_true rfl) dX7_look_124 (fun H locs hP hD hS => ?_)
          replace hP : va_P D vwCl [oX7 h_t q_t (upd (upd (upd w1.1 18 0) 19 2) 20 0), ((q_t 15), .inl (cs 0, 250, .inl (d_t.2 15)))] H := hP
          replace hD : va_D A [oX7 h_t q_t (upd (upd (upd w1.1 18 0) 19 2) 20 0), ((q_t 15), .inl (cs 0, 250, .inl (d_t.2 15)))] := hD
          refine lv_aload_n hx hb dX7_look_127 rfl (lv_at hl 1 rfl) ?_
          refine lv_iconst (v := 1) hx hb dX7_look_128 rfl ?_
          refine va_put (D := D) (ci := 7) (v := .int 1) (ty := tyX7 18) (C := RX7) (T := TX7) (N := 23) hx hb hT iX7 tyX7 tyX7_ok nmX7 hown hK hP hD hS 0 rfl rfl 18 (by decide) (hT _ fw_X7_233) (fun _ h9 => h9) rfl (tyX7_ok 18 (by decide)) rfl rfl (Nat.le_of_ble_eq_true rfl) dX7_look_129 (fun H locs hP hD hS => ?_)
          replace hP : va_P D vwCl [oX7 h_t q_t (upd (upd (upd w1.1 18 1) 19 2) 20 0), ((q_t 15), .inl (cs 0, 250, .inl (d_t.2 15)))] H := hP
          replace hD : va_D A [oX7 h_t q_t (upd (upd (upd w1.1 18 1) 19 2) 20 0), ((q_t 15), .inl (cs 0, 250, .inl (d_t.2 15)))] := hD
          refine lv_aload_n hx hb dX7_look_132 rfl (lv_at hl 1 rfl) ?_
          refine va_get (D := D) (ci := 7) (v := .int 2) (C := RX7) (T := TX7) (N := 23) hx hb hT iX7 hown hK hP 0 rfl rfl 19 (by decide) (hT _ fw_X7_236) (fun _ h9 => h9) rfl dX7_look_133 ?_
          refine lv_iconst (v := 3) hx hb dX7_look_136 rfl ?_
          have g59 := ite_some hf
          refine lv_icmp_ge (tgt := 144) hx hb dX7_look_137 (by decide) (fun c58 => ?_) (fun c58 => ?_)
          · replace hf := g59.1 c58
            refine lv_iconst (v := 0) hx hb dX7_look_144 rfl ?_
            refine lv_istore_n (lv' := [(3, .int 0), (2, .int ((d_t.2 15) (w1.1 17).toNatClampNeg)), (0, .ref h_t)]) hx hb dX7_look_145 rfl hl (by decide) rfl (fun ls hl => ?_)
            refine mX7_look_B146 h_t q_t k ((upd (upd (upd w1.1 18 1) 19 2) 20 0), d_t.2) _ M hA hR (fun w60 hf H locs ls hP hD hS hl => ?_) _ _ hf _ _ _ hP hD hS (lv_sub hl [2, 0] rfl)
            · refine lv_iconst (v := 0) hx hb dX7_look_225 rfl ?_
              refine lv_istore (lv' := [(4, .int 0), (0, .ref h_t)]) hx hb dX7_look_226 hl (by decide) rfl (fun ls hl => ?_)
              refine mX7_look_B228 h_t q_t k (w60.1, d_t.2) _ M hA hR (fun w61 hf H locs ls hP hD hS hl => ?_) _ _ hf _ _ _ hP hD hS (lv_sub hl [1, 0] rfl)
              · refine lv_aload_n hx hb dX7_look_284 rfl (lv_at hl 0 rfl) ?_
                refine lv_aload_n hx hb dX7_look_285 rfl (lv_at hl 0 rfl) ?_
                refine va_get (D := D) (ci := 7) (v := .int (w61.1 19)) (C := RX7) (T := TX7) (N := 23) hx hb hT iX7 hown hK hP 0 rfl rfl 19 (by decide) (hT _ fw_X7_236) (fun _ h9 => h9) rfl dX7_look_286 ?_
                refine lv_iconst (v := 2) hx hb dX7_look_289 rfl ?_
                have g63 := ite_some hf
                refine lv_icmp_ne (tgt := 305) hx hb dX7_look_290 (by decide) (fun c62 => ?_) (fun c62 => ?_)
                · replace hf := g63.2 c62
                  refine lv_aload_n hx hb dX7_look_305 rfl (lv_at hl 0 rfl) ?_
                  refine va_get (D := D) (ci := 7) (v := .int (w61.1 19)) (C := RX7) (T := TX7) (N := 23) hx hb hT iX7 hown hK hP 0 rfl rfl 19 (by decide) (hT _ fw_X7_236) (fun _ h9 => h9) rfl dX7_look_306 ?_
                  refine va_put (D := D) (ci := 7) (v := .int (w61.1 19)) (ty := tyX7 19) (C := RX7) (T := TX7) (N := 23) hx hb hT iX7 tyX7 tyX7_ok nmX7 hown hK hP hD hS 0 rfl rfl 19 (by decide) (hT _ fw_X7_236) (fun _ h9 => h9) rfl (tyX7_ok 19 (by decide)) rfl rfl (Nat.le_of_ble_eq_true rfl) dX7_look_309 (fun H locs hP hD hS => ?_)
                  replace hP : va_P D vwCl [oX7 h_t q_t (upd w61.1 19 (w61.1 19)), ((q_t 15), .inl (cs 0, 250, .inl (d_t.2 15)))] H := hP
                  replace hD : va_D A [oX7 h_t q_t (upd w61.1 19 (w61.1 19)), ((q_t 15), .inl (cs 0, 250, .inl (d_t.2 15)))] := hD
                  have e9 := Option.some.inj hf
                  subst e9
                  exact hR _ _ _ _ dX7_look_312 hP hS
                · replace hf := g63.1 c62
                  refine lv_aload_n hx hb dX7_look_293 rfl (lv_at hl 0 rfl) ?_
                  refine va_get (D := D) (ci := 7) (v := .int (w61.1 18)) (C := RX7) (T := TX7) (N := 23) hx hb hT iX7 hown hK hP 0 rfl rfl 18 (by decide) (hT _ fw_X7_233) (fun _ h9 => h9) rfl dX7_look_294 ?_
                  refine lv_iconst (v := 3) hx hb dX7_look_297 rfl ?_
                  have g65 := ite_some hf
                  refine lv_icmp_le (tgt := 305) hx hb dX7_look_298 (by decide) (fun c64 => ?_) (fun c64 => ?_)
                  · replace hf := g65.1 c64
                    refine lv_aload_n hx hb dX7_look_305 rfl (lv_at hl 0 rfl) ?_
                    refine va_get (D := D) (ci := 7) (v := .int (w61.1 19)) (C := RX7) (T := TX7) (N := 23) hx hb hT iX7 hown hK hP 0 rfl rfl 19 (by decide) (hT _ fw_X7_236) (fun _ h9 => h9) rfl dX7_look_306 ?_
                    refine va_put (D := D) (ci := 7) (v := .int (w61.1 19)) (ty := tyX7 19) (C := RX7) (T := TX7) (N := 23) hx hb hT iX7 tyX7 tyX7_ok nmX7 hown hK hP hD hS 0 rfl rfl 19 (by decide) (hT _ fw_X7_236) (fun _ h9 => h9) rfl (tyX7_ok 19 (by decide)) rfl rfl (Nat.le_of_ble_eq_true rfl) dX7_look_309 (fun H locs hP hD hS => ?_)
                    replace hP : va_P D vwCl [oX7 h_t q_t (upd w61.1 19 (w61.1 19)), ((q_t 15), .inl (cs 0, 250, .inl (d_t.2 15)))] H := hP
                    replace hD : va_D A [oX7 h_t q_t (upd w61.1 19 (w61.1 19)), ((q_t 15), .inl (cs 0, 250, .inl (d_t.2 15)))] := hD
                    have e9 := Option.some.inj hf
                    subst e9
                    exact hR _ _ _ _ dX7_look_312 hP hS
                  · replace hf := g65.2 c64
                    refine lv_iconst (v := 4) hx hb dX7_look_301 rfl ?_
                    refine lv_goto (tgt := 309) hx hb dX7_look_302 (by decide) ?_
                    refine va_put (D := D) (ci := 7) (v := .int 4) (ty := tyX7 19) (C := RX7) (T := TX7) (N := 23) hx hb hT iX7 tyX7 tyX7_ok nmX7 hown hK hP hD hS 0 rfl rfl 19 (by decide) (hT _ fw_X7_236) (fun _ h9 => h9) rfl (tyX7_ok 19 (by decide)) rfl rfl (Nat.le_of_ble_eq_true rfl) dX7_look_309 (fun H locs hP hD hS => ?_)
                    replace hP : va_P D vwCl [oX7 h_t q_t (upd w61.1 19 4), ((q_t 15), .inl (cs 0, 250, .inl (d_t.2 15)))] H := hP
                    replace hD : va_D A [oX7 h_t q_t (upd w61.1 19 4), ((q_t 15), .inl (cs 0, 250, .inl (d_t.2 15)))] := hD
                    have e9 := Option.some.inj hf
                    subst e9
                    exact hR _ _ _ _ dX7_look_312 hP hS
          · replace hf := g59.2 c58
            refine lv_iconst (v := 1) hx hb dX7_look_140 rfl ?_
            refine lv_goto (tgt := 145) hx hb dX7_look_141 (by decide) ?_
            refine lv_istore_n (lv' := [(3, .int 1), (2, .int ((d_t.2 15) (w1.1 17).toNatClampNeg)), (0, .ref h_t)]) hx hb dX7_look_145 rfl hl (by decide) rfl (fun ls hl => ?_)
            refine mX7_look_B146 h_t q_t k ((upd (upd (upd w1.1 18 1) 19 2) 20 0), d_t.2) _ M hA hR (fun w66 hf H locs ls hP hD hS hl => ?_) _ _ hf _ _ _ hP hD hS (lv_sub hl [2, 0] rfl)
            · refine lv_iconst (v := 0) hx hb dX7_look_225 rfl ?_
              refine lv_istore (lv' := [(4, .int 0), (0, .ref h_t)]) hx hb dX7_look_226 hl (by decide) rfl (fun ls hl => ?_)
              refine mX7_look_B228 h_t q_t k (w66.1, d_t.2) _ M hA hR (fun w67 hf H locs ls hP hD hS hl => ?_) _ _ hf _ _ _ hP hD hS (lv_sub hl [1, 0] rfl)
              · refine lv_aload_n hx hb dX7_look_284 rfl (lv_at hl 0 rfl) ?_
                refine lv_aload_n hx hb dX7_look_285 rfl (lv_at hl 0 rfl) ?_
                refine va_get (D := D) (ci := 7) (v := .int (w67.1 19)) (C := RX7) (T := TX7) (N := 23) hx hb hT iX7 hown hK hP 0 rfl rfl 19 (by decide) (hT _ fw_X7_236) (fun _ h9 => h9) rfl dX7_look_286 ?_
                refine lv_iconst (v := 2) hx hb dX7_look_289 rfl ?_
                have g69 := ite_some hf
                refine lv_icmp_ne (tgt := 305) hx hb dX7_look_290 (by decide) (fun c68 => ?_) (fun c68 => ?_)
                · replace hf := g69.2 c68
                  refine lv_aload_n hx hb dX7_look_305 rfl (lv_at hl 0 rfl) ?_
                  refine va_get (D := D) (ci := 7) (v := .int (w67.1 19)) (C := RX7) (T := TX7) (N := 23) hx hb hT iX7 hown hK hP 0 rfl rfl 19 (by decide) (hT _ fw_X7_236) (fun _ h9 => h9) rfl dX7_look_306 ?_
                  refine va_put (D := D) (ci := 7) (v := .int (w67.1 19)) (ty := tyX7 19) (C := RX7) (T := TX7) (N := 23) hx hb hT iX7 tyX7 tyX7_ok nmX7 hown hK hP hD hS 0 rfl rfl 19 (by decide) (hT _ fw_X7_236) (fun _ h9 => h9) rfl (tyX7_ok 19 (by decide)) rfl rfl (Nat.le_of_ble_eq_true rfl) dX7_look_309 (fun H locs hP hD hS => ?_)
                  replace hP : va_P D vwCl [oX7 h_t q_t (upd w67.1 19 (w67.1 19)), ((q_t 15), .inl (cs 0, 250, .inl (d_t.2 15)))] H := hP
                  replace hD : va_D A [oX7 h_t q_t (upd w67.1 19 (w67.1 19)), ((q_t 15), .inl (cs 0, 250, .inl (d_t.2 15)))] := hD
                  have e9 := Option.some.inj hf
                  subst e9
                  exact hR _ _ _ _ dX7_look_312 hP hS
                · replace hf := g69.1 c68
                  refine lv_aload_n hx hb dX7_look_293 rfl (lv_at hl 0 rfl) ?_
                  refine va_get (D := D) (ci := 7) (v := .int (w67.1 18)) (C := RX7) (T := TX7) (N := 23) hx hb hT iX7 hown hK hP 0 rfl rfl 18 (by decide) (hT _ fw_X7_233) (fun _ h9 => h9) rfl dX7_look_294 ?_
                  refine lv_iconst (v := 3) hx hb dX7_look_297 rfl ?_
                  have g71 := ite_some hf
                  refine lv_icmp_le (tgt := 305) hx hb dX7_look_298 (by decide) (fun c70 => ?_) (fun c70 => ?_)
                  · replace hf := g71.1 c70
                    refine lv_aload_n hx hb dX7_look_305 rfl (lv_at hl 0 rfl) ?_
                    refine va_get (D := D) (ci := 7) (v := .int (w67.1 19)) (C := RX7) (T := TX7) (N := 23) hx hb hT iX7 hown hK hP 0 rfl rfl 19 (by decide) (hT _ fw_X7_236) (fun _ h9 => h9) rfl dX7_look_306 ?_
                    refine va_put (D := D) (ci := 7) (v := .int (w67.1 19)) (ty := tyX7 19) (C := RX7) (T := TX7) (N := 23) hx hb hT iX7 tyX7 tyX7_ok nmX7 hown hK hP hD hS 0 rfl rfl 19 (by decide) (hT _ fw_X7_236) (fun _ h9 => h9) rfl (tyX7_ok 19 (by decide)) rfl rfl (Nat.le_of_ble_eq_true rfl) dX7_look_309 (fun H locs hP hD hS => ?_)
                    replace hP : va_P D vwCl [oX7 h_t q_t (upd w67.1 19 (w67.1 19)), ((q_t 15), .inl (cs 0, 250, .inl (d_t.2 15)))] H := hP
                    replace hD : va_D A [oX7 h_t q_t (upd w67.1 19 (w67.1 19)), ((q_t 15), .inl (cs 0, 250, .inl (d_t.2 15)))] := hD
                    have e9 := Option.some.inj hf
                    subst e9
                    exact hR _ _ _ _ dX7_look_312 hP hS
                  · replace hf := g71.2 c70
                    refine lv_iconst (v := 4) hx hb dX7_look_301 rfl ?_
                    refine lv_goto (tgt := 309) hx hb dX7_look_302 (by decide) ?_
                    refine va_put (D := D) (ci := 7) (v := .int 4) (ty := tyX7 19) (C := RX7) (T := TX7) (N := 23) hx hb hT iX7 tyX7 tyX7_ok nmX7 hown hK hP hD hS 0 rfl rfl 19 (by decide) (hT _ fw_X7_236) (fun _ h9 => h9) rfl (tyX7_ok 19 (by decide)) rfl rfl (Nat.le_of_ble_eq_true rfl) dX7_look_309 (fun H locs hP hD hS => ?_)
                    replace hP : va_P D vwCl [oX7 h_t q_t (upd w67.1 19 4), ((q_t 15), .inl (cs 0, 250, .inl (d_t.2 15)))] H := hP
                    replace hD : va_D A [oX7 h_t q_t (upd w67.1 19 4), ((q_t 15), .inl (cs 0, 250, .inl (d_t.2 15)))] := hD
                    have e9 := Option.some.inj hf
                    subst e9
                    exact hR _ _ _ _ dX7_look_312 hP hS
      · replace hf := g7.2 c6
        refine lv_iconst (v := 1) hx hb dX7_look_88 rfl ?_
        refine lv_goto (tgt := 124) hx hb dX7_look_89 (by decide) ?_
        refine va_put (D := D) (ci := 7) (v := .int 1) (ty := tyX7 19) (C := RX7) (T := TX7) (N := 23) hx hb hT iX7 tyX7 tyX7_ok nmX7 hown hK hP hD hS 0 rfl rfl 19 (by decide) (hT _ fw_X7_236) (fun _ h9 => h9) rfl (tyX7_ok 19 (by decide)) rfl rfl (Nat.le_of_ble_eq_true rfl) dX7_look_124 (fun H locs hP hD hS => ?_)
        replace hP : va_P D vwCl [oX7 h_t q_t (upd (upd (upd w1.1 18 0) 19 1) 20 0), ((q_t 15), .inl (cs 0, 250, .inl (d_t.2 15)))] H := hP
        replace hD : va_D A [oX7 h_t q_t (upd (upd (upd w1.1 18 0) 19 1) 20 0), ((q_t 15), .inl (cs 0, 250, .inl (d_t.2 15)))] := hD
        refine lv_aload_n hx hb dX7_look_127 rfl (lv_at hl 1 rfl) ?_
        refine lv_iconst (v := 1) hx hb dX7_look_128 rfl ?_
        refine va_put (D := D) (ci := 7) (v := .int 1) (ty := tyX7 18) (C := RX7) (T := TX7) (N := 23) hx hb hT iX7 tyX7 tyX7_ok nmX7 hown hK hP hD hS 0 rfl rfl 18 (by decide) (hT _ fw_X7_233) (fun _ h9 => h9) rfl (tyX7_ok 18 (by decide)) rfl rfl (Nat.le_of_ble_eq_true rfl) dX7_look_129 (fun H locs hP hD hS => ?_)
        replace hP : va_P D vwCl [oX7 h_t q_t (upd (upd (upd w1.1 18 1) 19 1) 20 0), ((q_t 15), .inl (cs 0, 250, .inl (d_t.2 15)))] H := hP
        replace hD : va_D A [oX7 h_t q_t (upd (upd (upd w1.1 18 1) 19 1) 20 0), ((q_t 15), .inl (cs 0, 250, .inl (d_t.2 15)))] := hD
        refine lv_aload_n hx hb dX7_look_132 rfl (lv_at hl 1 rfl) ?_
        refine va_get (D := D) (ci := 7) (v := .int 1) (C := RX7) (T := TX7) (N := 23) hx hb hT iX7 hown hK hP 0 rfl rfl 19 (by decide) (hT _ fw_X7_236) (fun _ h9 => h9) rfl dX7_look_133 ?_
        refine lv_iconst (v := 3) hx hb dX7_look_136 rfl ?_
        have g73 := ite_some hf
        refine lv_icmp_ge (tgt := 144) hx hb dX7_look_137 (by decide) (fun c72 => ?_) (fun c72 => ?_)
        · replace hf := g73.1 c72
          refine lv_iconst (v := 0) hx hb dX7_look_144 rfl ?_
          refine lv_istore_n (lv' := [(3, .int 0), (2, .int ((d_t.2 15) (w1.1 17).toNatClampNeg)), (0, .ref h_t)]) hx hb dX7_look_145 rfl hl (by decide) rfl (fun ls hl => ?_)
          refine mX7_look_B146 h_t q_t k ((upd (upd (upd w1.1 18 1) 19 1) 20 0), d_t.2) _ M hA hR (fun w74 hf H locs ls hP hD hS hl => ?_) _ _ hf _ _ _ hP hD hS (lv_sub hl [2, 0] rfl)
          · refine lv_iconst (v := 0) hx hb dX7_look_225 rfl ?_
            refine lv_istore (lv' := [(4, .int 0), (0, .ref h_t)]) hx hb dX7_look_226 hl (by decide) rfl (fun ls hl => ?_)
            refine mX7_look_B228 h_t q_t k (w74.1, d_t.2) _ M hA hR (fun w75 hf H locs ls hP hD hS hl => ?_) _ _ hf _ _ _ hP hD hS (lv_sub hl [1, 0] rfl)
            · refine lv_aload_n hx hb dX7_look_284 rfl (lv_at hl 0 rfl) ?_
              refine lv_aload_n hx hb dX7_look_285 rfl (lv_at hl 0 rfl) ?_
              refine va_get (D := D) (ci := 7) (v := .int (w75.1 19)) (C := RX7) (T := TX7) (N := 23) hx hb hT iX7 hown hK hP 0 rfl rfl 19 (by decide) (hT _ fw_X7_236) (fun _ h9 => h9) rfl dX7_look_286 ?_
              refine lv_iconst (v := 2) hx hb dX7_look_289 rfl ?_
              have g77 := ite_some hf
              refine lv_icmp_ne (tgt := 305) hx hb dX7_look_290 (by decide) (fun c76 => ?_) (fun c76 => ?_)
              · replace hf := g77.2 c76
                refine lv_aload_n hx hb dX7_look_305 rfl (lv_at hl 0 rfl) ?_
                refine va_get (D := D) (ci := 7) (v := .int (w75.1 19)) (C := RX7) (T := TX7) (N := 23) hx hb hT iX7 hown hK hP 0 rfl rfl 19 (by decide) (hT _ fw_X7_236) (fun _ h9 => h9) rfl dX7_look_306 ?_
                refine va_put (D := D) (ci := 7) (v := .int (w75.1 19)) (ty := tyX7 19) (C := RX7) (T := TX7) (N := 23) hx hb hT iX7 tyX7 tyX7_ok nmX7 hown hK hP hD hS 0 rfl rfl 19 (by decide) (hT _ fw_X7_236) (fun _ h9 => h9) rfl (tyX7_ok 19 (by decide)) rfl rfl (Nat.le_of_ble_eq_true rfl) dX7_look_309 (fun H locs hP hD hS => ?_)
                replace hP : va_P D vwCl [oX7 h_t q_t (upd w75.1 19 (w75.1 19)), ((q_t 15), .inl (cs 0, 250, .inl (d_t.2 15)))] H := hP
                replace hD : va_D A [oX7 h_t q_t (upd w75.1 19 (w75.1 19)), ((q_t 15), .inl (cs 0, 250, .inl (d_t.2 15)))] := hD
                have e9 := Option.some.inj hf
                subst e9
                exact hR _ _ _ _ dX7_look_312 hP hS
              · replace hf := g77.1 c76
                refine lv_aload_n hx hb dX7_look_293 rfl (lv_at hl 0 rfl) ?_
                refine va_get (D := D) (ci := 7) (v := .int (w75.1 18)) (C := RX7) (T := TX7) (N := 23) hx hb hT iX7 hown hK hP 0 rfl rfl 18 (by decide) (hT _ fw_X7_233) (fun _ h9 => h9) rfl dX7_look_294 ?_
                refine lv_iconst (v := 3) hx hb dX7_look_297 rfl ?_
                have g79 := ite_some hf
                refine lv_icmp_le (tgt := 305) hx hb dX7_look_298 (by decide) (fun c78 => ?_) (fun c78 => ?_)
                · replace hf := g79.1 c78
                  refine lv_aload_n hx hb dX7_look_305 rfl (lv_at hl 0 rfl) ?_
                  refine va_get (D := D) (ci := 7) (v := .int (w75.1 19)) (C := RX7) (T := TX7) (N := 23) hx hb hT iX7 hown hK hP 0 rfl rfl 19 (by decide) (hT _ fw_X7_236) (fun _ h9 => h9) rfl dX7_look_306 ?_
                  refine va_put (D := D) (ci := 7) (v := .int (w75.1 19)) (ty := tyX7 19) (C := RX7) (T := TX7) (N := 23) hx hb hT iX7 tyX7 tyX7_ok nmX7 hown hK hP hD hS 0 rfl rfl 19 (by decide) (hT _ fw_X7_236) (fun _ h9 => h9) rfl (tyX7_ok 19 (by decide)) rfl rfl (Nat.le_of_ble_eq_true rfl) dX7_look_309 (fun H locs hP hD hS => ?_)
                  replace hP : va_P D vwCl [oX7 h_t q_t (upd w75.1 19 (w75.1 19)), ((q_t 15), .inl (cs 0, 250, .inl (d_t.2 15)))] H := hP
                  replace hD : va_D A [oX7 h_t q_t (upd w75.1 19 (w75.1 19)), ((q_t 15), .inl (cs 0, 250, .inl (d_t.2 15)))] := hD
                  have e9 := Option.some.inj hf
                  subst e9
                  exact hR _ _ _ _ dX7_look_312 hP hS
                · replace hf := g79.2 c78
                  refine lv_iconst (v := 4) hx hb dX7_look_301 rfl ?_
                  refine lv_goto (tgt := 309) hx hb dX7_look_302 (by decide) ?_
                  refine va_put (D := D) (ci := 7) (v := .int 4) (ty := tyX7 19) (C := RX7) (T := TX7) (N := 23) hx hb hT iX7 tyX7 tyX7_ok nmX7 hown hK hP hD hS 0 rfl rfl 19 (by decide) (hT _ fw_X7_236) (fun _ h9 => h9) rfl (tyX7_ok 19 (by decide)) rfl rfl (Nat.le_of_ble_eq_true rfl) dX7_look_309 (fun H locs hP hD hS => ?_)
                  replace hP : va_P D vwCl [oX7 h_t q_t (upd w75.1 19 4), ((q_t 15), .inl (cs 0, 250, .inl (d_t.2 15)))] H := hP
                  replace hD : va_D A [oX7 h_t q_t (upd w75.1 19 4), ((q_t 15), .inl (cs 0, 250, .inl (d_t.2 15)))] := hD
                  have e9 := Option.some.inj hf
                  subst e9
                  exact hR _ _ _ _ dX7_look_312 hP hS
        · replace hf := g73.2 c72
          refine lv_iconst (v := 1) hx hb dX7_look_140 rfl ?_
          refine lv_goto (tgt := 145) hx hb dX7_look_141 (by decide) ?_
          refine lv_istore_n (lv' := [(3, .int 1), (2, .int ((d_t.2 15) (w1.1 17).toNatClampNeg)), (0, .ref h_t)]) hx hb dX7_look_145 rfl hl (by decide) rfl (fun ls hl => ?_)
          refine mX7_look_B146 h_t q_t k ((upd (upd (upd w1.1 18 1) 19 1) 20 0), d_t.2) _ M hA hR (fun w80 hf H locs ls hP hD hS hl => ?_) _ _ hf _ _ _ hP hD hS (lv_sub hl [2, 0] rfl)
          · refine lv_iconst (v := 0) hx hb dX7_look_225 rfl ?_
            refine lv_istore (lv' := [(4, .int 0), (0, .ref h_t)]) hx hb dX7_look_226 hl (by decide) rfl (fun ls hl => ?_)
            refine mX7_look_B228 h_t q_t k (w80.1, d_t.2) _ M hA hR (fun w81 hf H locs ls hP hD hS hl => ?_) _ _ hf _ _ _ hP hD hS (lv_sub hl [1, 0] rfl)
            · refine lv_aload_n hx hb dX7_look_284 rfl (lv_at hl 0 rfl) ?_
              refine lv_aload_n hx hb dX7_look_285 rfl (lv_at hl 0 rfl) ?_
              refine va_get (D := D) (ci := 7) (v := .int (w81.1 19)) (C := RX7) (T := TX7) (N := 23) hx hb hT iX7 hown hK hP 0 rfl rfl 19 (by decide) (hT _ fw_X7_236) (fun _ h9 => h9) rfl dX7_look_286 ?_
              refine lv_iconst (v := 2) hx hb dX7_look_289 rfl ?_
              have g83 := ite_some hf
              refine lv_icmp_ne (tgt := 305) hx hb dX7_look_290 (by decide) (fun c82 => ?_) (fun c82 => ?_)
              · replace hf := g83.2 c82
                refine lv_aload_n hx hb dX7_look_305 rfl (lv_at hl 0 rfl) ?_
                refine va_get (D := D) (ci := 7) (v := .int (w81.1 19)) (C := RX7) (T := TX7) (N := 23) hx hb hT iX7 hown hK hP 0 rfl rfl 19 (by decide) (hT _ fw_X7_236) (fun _ h9 => h9) rfl dX7_look_306 ?_
                refine va_put (D := D) (ci := 7) (v := .int (w81.1 19)) (ty := tyX7 19) (C := RX7) (T := TX7) (N := 23) hx hb hT iX7 tyX7 tyX7_ok nmX7 hown hK hP hD hS 0 rfl rfl 19 (by decide) (hT _ fw_X7_236) (fun _ h9 => h9) rfl (tyX7_ok 19 (by decide)) rfl rfl (Nat.le_of_ble_eq_true rfl) dX7_look_309 (fun H locs hP hD hS => ?_)
                replace hP : va_P D vwCl [oX7 h_t q_t (upd w81.1 19 (w81.1 19)), ((q_t 15), .inl (cs 0, 250, .inl (d_t.2 15)))] H := hP
                replace hD : va_D A [oX7 h_t q_t (upd w81.1 19 (w81.1 19)), ((q_t 15), .inl (cs 0, 250, .inl (d_t.2 15)))] := hD
                have e9 := Option.some.inj hf
                subst e9
                exact hR _ _ _ _ dX7_look_312 hP hS
              · replace hf := g83.1 c82
                refine lv_aload_n hx hb dX7_look_293 rfl (lv_at hl 0 rfl) ?_
                refine va_get (D := D) (ci := 7) (v := .int (w81.1 18)) (C := RX7) (T := TX7) (N := 23) hx hb hT iX7 hown hK hP 0 rfl rfl 18 (by decide) (hT _ fw_X7_233) (fun _ h9 => h9) rfl dX7_look_294 ?_
                refine lv_iconst (v := 3) hx hb dX7_look_297 rfl ?_
                have g85 := ite_some hf
                refine lv_icmp_le (tgt := 305) hx hb dX7_look_298 (by decide) (fun c84 => ?_) (fun c84 => ?_)
                · replace hf := g85.1 c84
                  refine lv_aload_n hx hb dX7_look_305 rfl (lv_at hl 0 rfl) ?_
                  refine va_get (D := D) (ci := 7) (v := .int (w81.1 19)) (C := RX7) (T := TX7) (N := 23) hx hb hT iX7 hown hK hP 0 rfl rfl 19 (by decide) (hT _ fw_X7_236) (fun _ h9 => h9) rfl dX7_look_306 ?_
                  refine va_put (D := D) (ci := 7) (v := .int (w81.1 19)) (ty := tyX7 19) (C := RX7) (T := TX7) (N := 23) hx hb hT iX7 tyX7 tyX7_ok nmX7 hown hK hP hD hS 0 rfl rfl 19 (by decide) (hT _ fw_X7_236) (fun _ h9 => h9) rfl (tyX7_ok 19 (by decide)) rfl rfl (Nat.le_of_ble_eq_true rfl) dX7_look_309 (fun H locs hP hD hS => ?_)
                  replace hP : va_P D vwCl [oX7 h_t q_t (upd w81.1 19 (w81.1 19)), ((q_t 15), .inl (cs 0, 250, .inl (d_t.2 15)))] H := hP
                  replace hD : va_D A [oX7 h_t q_t (upd w81.1 19 (w81.1 19)), ((q_t 15), .inl (cs 0, 250, .inl (d_t.2 15)))] := hD
                  have e9 := Option.some.inj hf
                  subst e9
                  exact hR _ _ _ _ dX7_look_312 hP hS
                · replace hf := g85.2 c84
                  refine lv_iconst (v := 4) hx hb dX7_look_301 rfl ?_
                  refine lv_goto (tgt := 309) hx hb dX7_look_302 (by decide) ?_
                  refine va_put (D := D) (ci := 7) (v := .int 4) (ty := tyX7 19) (C := RX7) (T := TX7) (N := 23) hx hb hT iX7 tyX7 tyX7_ok nmX7 hown hK hP hD hS 0 rfl rfl 19 (by decide) (hT _ fw_X7_236) (fun _ h9 => h9) rfl (tyX7_ok 19 (by decide)) rfl rfl (Nat.le_of_ble_eq_true rfl) dX7_look_309 (fun H locs hP hD hS => ?_)
                  replace hP : va_P D vwCl [oX7 h_t q_t (upd w81.1 19 4), ((q_t 15), .inl (cs 0, 250, .inl (d_t.2 15)))] H := hP
                  replace hD : va_D A [oX7 h_t q_t (upd w81.1 19 4), ((q_t 15), .inl (cs 0, 250, .inl (d_t.2 15)))] := hD
                  have e9 := Option.some.inj hf
                  subst e9
                  exact hR _ _ _ _ dX7_look_312 hP hS
    · replace hf := g3.1 c2
      have e9 := Option.some.inj hf
      subst e9
      exact hR _ _ _ _ dX7_look_69 hP hS
abbrev rm_X7_goOn : Room := { frames := 3, cells := 0, slots := 0, locals := 69 }
def fX7_goOn (k : Nat) (d_t : Dat) : Option (Dat) :=
  (fX7_look k d_t ((d_t.1 17) + (d_t.1 18))).bind (fun (r1 : Dat) => some (r1.1, d_t.2))
set_option maxHeartbeats 4000000 in
set_option maxRecDepth 100000 in
theorem mX7_goOn (l : Launch) (D : va_G) (cs : Nat → ClassId) (sk : Nat → Nat) (h_t : Nat) (q_t : Nat → Nat) (k : Nat) (d_t : Dat) {rv : Dat} (hf : fX7_goOn k d_t = some rv) : CTv l yX7_goOn (Cond.code yX7_goOn cX7_goOn 1 none :: gtbl) rm_X7_goOn D cs sk [.ref h_t] [oX7 h_t q_t (d_t.1), ((q_t 15), .inl (cs 0, 250, .inl (d_t.2 15)))] [oX7 h_t q_t (rv.1), ((q_t 15), .inl (cs 0, 250, .inl (d_t.2 15)))] := by
  refine CTv.of RX7 (by decide +kernel) rfl (Nat.le_of_ble_eq_true rfl) (fun p e s m args below meth c A Q ls M hA hR hl hP hD hS => ?_)
  obtain ⟨hx, hb, hml, hT, hown, hlk, hrt, hK, hN, hSE⟩ := id M
  replace hl : lv_has ls 1 [(0, .ref h_t)] := hl
  unfold fX7_goOn at hf
  refine lv_aload_n hx hb dX7_goOn_0 rfl (lv_at hl 0 rfl) ?_
  refine lv_aload_n hx hb dX7_goOn_1 rfl (lv_at hl 0 rfl) ?_
  refine va_get (D := D) (ci := 7) (v := .int (d_t.1 17)) (C := RX7) (T := TX7) (N := 23) hx hb hT iX7 hown hK hP 0 rfl rfl 17 (by decide) (hT _ fw_X7_230) (fun _ h9 => h9) rfl dX7_goOn_2 ?_
  refine lv_aload_n hx hb dX7_goOn_5 rfl (lv_at hl 0 rfl) ?_
  refine va_get (D := D) (ci := 7) (v := .int (d_t.1 18)) (C := RX7) (T := TX7) (N := 23) hx hb hT iX7 hown hK hP 0 rfl rfl 18 (by decide) (hT _ fw_X7_233) (fun _ h9 => h9) rfl dX7_goOn_6 ?_
  refine lv_iadd hx hb dX7_goOn_9 ?_
  obtain ⟨r1, e2, hf⟩ := bind_some hf
  refine callVv (As := [.int ((d_t.1 17) + (d_t.1 18))]) (rest := []) M (mX7_look l D cs sk h_t q_t k d_t ((d_t.1 17) + (d_t.1 18)) e2) mw_X7_248 ln_X7_look ⟨rfl, rfl, Nat.le_of_ble_eq_true rfl, Nat.le_of_ble_eq_true rfl⟩ hP hD hS hA [0, 1] (by decide) rfl rfl (q0 := 0) rfl rfl rfl ⟨Nat.zero_le _, Nat.zero_le _⟩ hl.1 rfl (Nat.le_of_ble_eq_true rfl) dX7_goOn_10 (fun H locs hP hD hS => ?_)
  replace hP : va_P D vwCl [oX7 h_t q_t (r1.1), ((q_t 15), .inl (cs 0, 250, .inl (d_t.2 15)))] H := hP
  replace hD : va_D A [oX7 h_t q_t (r1.1), ((q_t 15), .inl (cs 0, 250, .inl (d_t.2 15)))] := hD
  have e9 := Option.some.inj hf
  subst e9
  exact hR _ _ _ _ dX7_goOn_13 hP hS
abbrev rm_X7_isWord : Room := { frames := 0, cells := 0, slots := 0, locals := 0 }
def fX7_isWord_B49 (k : Nat) (x1 : Int32) (x2 : Int32) (x3 : Int32) (x4 : Int32) (x5 : Int32) (x6 : Int32) (x7 : Int32) (d_t : Dat) (K142 : Int32 → Option (Int32)) (rec : Int32 × Int32 → Option (Int32)) (v : Int32 × Int32) : Option (Int32) :=
  (if x7 ≤ (v.2) then K142 (v.1) else (if (v.1) = 0 then K142 (v.1) else chk 250 ((d_t.1 17) + (v.2)) ((if (v.2) = 0 then (if ((d_t.2 15) ((d_t.1 17) + (v.2)).toNatClampNeg) = x1 then rec (1, ((v.2) + 1)) else rec (0, ((v.2) + 1))) else (if (v.2) = 1 then (if ((d_t.2 15) ((d_t.1 17) + (v.2)).toNatClampNeg) = x2 then rec (1, ((v.2) + 1)) else rec (0, ((v.2) + 1))) else (if (v.2) = 2 then (if ((d_t.2 15) ((d_t.1 17) + (v.2)).toNatClampNeg) = x3 then rec (1, ((v.2) + 1)) else rec (0, ((v.2) + 1))) else (if (v.2) = 3 then (if ((d_t.2 15) ((d_t.1 17) + (v.2)).toNatClampNeg) = x4 then rec (1, ((v.2) + 1)) else rec (0, ((v.2) + 1))) else (if (v.2) = 4 then (if ((d_t.2 15) ((d_t.1 17) + (v.2)).toNatClampNeg) = x5 then rec (1, ((v.2) + 1)) else rec (0, ((v.2) + 1))) else (if ((d_t.2 15) ((d_t.1 17) + (v.2)).toNatClampNeg) = x6 then rec (1, ((v.2) + 1)) else rec (0, ((v.2) + 1)))))))))))
def fX7_isWord (k : Nat) (d_t : Dat) (x1 : Int32) (x2 : Int32) (x3 : Int32) (x4 : Int32) (x5 : Int32) (x6 : Int32) : Option (Int32) :=
  (if x4 = 0 then (if (d_t.1 19) = 1 then (if (d_t.1 18) = 3 then lp (fX7_isWord_B49 k x1 x2 x3 x4 x5 x6 3 d_t (fun (w25 : Int32) => chb w25 (some w25))) k (1, 0) else lp (fX7_isWord_B49 k x1 x2 x3 x4 x5 x6 3 d_t (fun (w24 : Int32) => chb w24 (some w24))) k (0, 0)) else lp (fX7_isWord_B49 k x1 x2 x3 x4 x5 x6 3 d_t (fun (w21 : Int32) => chb w21 (some w21))) k (0, 0)) else (if x5 = 0 then (if (d_t.1 19) = 1 then (if (d_t.1 18) = 4 then lp (fX7_isWord_B49 k x1 x2 x3 x4 x5 x6 4 d_t (fun (w18 : Int32) => chb w18 (some w18))) k (1, 0) else lp (fX7_isWord_B49 k x1 x2 x3 x4 x5 x6 4 d_t (fun (w17 : Int32) => chb w17 (some w17))) k (0, 0)) else lp (fX7_isWord_B49 k x1 x2 x3 x4 x5 x6 4 d_t (fun (w14 : Int32) => chb w14 (some w14))) k (0, 0)) else (if (d_t.1 19) = 1 then (if (d_t.1 18) = 6 then lp (fX7_isWord_B49 k x1 x2 x3 x4 x5 x6 6 d_t (fun (w11 : Int32) => chb w11 (some w11))) k (1, 0) else lp (fX7_isWord_B49 k x1 x2 x3 x4 x5 x6 6 d_t (fun (w10 : Int32) => chb w10 (some w10))) k (0, 0)) else lp (fX7_isWord_B49 k x1 x2 x3 x4 x5 x6 6 d_t (fun (w7 : Int32) => chb w7 (some w7))) k (0, 0))))
set_option maxHeartbeats 4000000 in
set_option maxRecDepth 100000 in
theorem mX7_isWord_B49 {l : Launch} {p : Program} {e : Env} {s : State} {m : MethodId} {args : Array Value} {below : List Frame} {meth : Method} {c : Code} {D : va_G} {cs : Nat → ClassId} {sk : Nat → Nat} {A : Nat → Prop} {Q : State → Prop} (h_t : Nat) (q_t : Nat → Nat) (k : Nat) (x1 : Int32) (x2 : Int32) (x3 : Int32) (x4 : Int32) (x5 : Int32) (x6 : Int32) (x7 : Int32) (d_t : Dat) {rv : Int32}  (K142 : Int32 → Option (Int32))
    (M : MC p s m args meth c D cs sk A RX7 cX7_isWord 10 (some .boolean)) (hA : ∀ q, s.heap.size ≤ q → A q) (hR : RetZ p l e rm_X7_isWord s m args below meth c D cX7_isWord A Q (rv) [oX7 h_t q_t (d_t.1), ((q_t 15), .inl (cs 0, 250, .inl (d_t.2 15)))])
    (hK142 : ∀ (w : Int32), K142 w = some rv → ∀ (H : Heap) (locs : List Loc) (ls : Array Slot), va_P D vwCl [oX7 h_t q_t (d_t.1), ((q_t 15), .inl (cs 0, 250, .inl (d_t.2 15)))] H → va_D A [oX7 h_t q_t (d_t.1), ((q_t 15), .inl (cs 0, 250, .inl (d_t.2 15)))] → va_S A s.heap H locs → lv_has ls 10 [(8, .int w)] → W p l e rm_X7_isWord s m args below meth c H locs 0 0 Q (F0 m 142 ls []))
    : ∀ (n : Nat) (v : Int32 × Int32), lp (fX7_isWord_B49 k x1 x2 x3 x4 x5 x6 x7 d_t K142) n v = some rv → ∀ (H : Heap) (locs : List Loc) (ls : Array Slot), va_P D vwCl [oX7 h_t q_t (d_t.1), ((q_t 15), .inl (cs 0, 250, .inl (d_t.2 15)))] H → va_D A [oX7 h_t q_t (d_t.1), ((q_t 15), .inl (cs 0, 250, .inl (d_t.2 15)))] → va_S A s.heap H locs → lv_has ls 10 [(0, .ref h_t), (1, .int x1), (2, .int x2), (3, .int x3), (4, .int x4), (5, .int x5), (6, .int x6), (7, .int x7), (8, .int (v.1)), (9, .int (v.2))] → W p l e rm_X7_isWord s m args below meth c H locs 0 0 Q (F0 m 49 ls []) := by
  obtain ⟨hx, hb, hml, hT, hown, hlk, hrt, hK, hN, hSE⟩ := id M
  refine lp_ind (fun rec ih v hf H locs ls hP hD hS hl => ?_)
  unfold fX7_isWord_B49 at hf
  refine lv_iload hx hb dX7_isWord_49 (lv_at hl 9 rfl) ?_
  refine lv_iload hx hb dX7_isWord_51 (lv_at hl 7 rfl) ?_
  have g2 := ite_some hf
  refine lv_icmp_ge (tgt := 142) hx hb dX7_isWord_53 (by decide) (fun c1 => ?_) (fun c1 => ?_)
  · replace hf := g2.1 c1
    exact hK142 _ hf _ _ _ hP hD hS (lv_sub hl [8] rfl)
  · replace hf := g2.2 c1
    refine lv_iload hx hb dX7_isWord_56 (lv_at hl 8 rfl) ?_
    have g4 := ite_some hf
    refine lv_if_eq (tgt := 142) hx hb dX7_isWord_58 (by decide) (fun c3 => ?_) (fun c3 => ?_)
    · replace hf := g4.1 c3
      exact hK142 _ hf _ _ _ hP hD hS (lv_sub hl [8] rfl)
    · replace hf := g4.2 c3
      refine lv_aload_n hx hb dX7_isWord_61 rfl (lv_at hl 0 rfl) ?_
      refine va_get (D := D) (ci := 7) (v := .ref (q_t 15)) (C := RX7) (T := TX7) (N := 23) hx hb hT iX7 hown hK hP 0 rfl rfl 15 (by decide) (hT _ fw_X7_50) (fun _ h9 => h9) rfl dX7_isWord_62 ?_
      refine lv_aload_n hx hb dX7_isWord_65 rfl (lv_at hl 0 rfl) ?_
      refine va_get (D := D) (ci := 7) (v := .int (d_t.1 17)) (C := RX7) (T := TX7) (N := 23) hx hb hT iX7 hown hK hP 0 rfl rfl 17 (by decide) (hT _ fw_X7_230) (fun _ h9 => h9) rfl dX7_isWord_66 ?_
      refine lv_iload hx hb dX7_isWord_69 (lv_at hl 9 rfl) ?_
      refine lv_iadd hx hb dX7_isWord_71 ?_
      obtain ⟨hi, hf⟩ := chk_some hf
      refine va_iald (D := D) hx hb hK hP 1 0 rfl rfl hi dX7_isWord_72 ?_
      refine lv_iload hx hb dX7_isWord_73 (lv_at hl 9 rfl) ?_
      have g6 := ite_some hf
      refine lv_if_ne (tgt := 82) hx hb dX7_isWord_75 (by decide) (fun c5 => ?_) (fun c5 => ?_)
      · replace hf := g6.2 c5
        refine lv_iload hx hb dX7_isWord_82 (lv_at hl 9 rfl) ?_
        refine lv_iconst (v := 1) hx hb dX7_isWord_84 rfl ?_
        have g8 := ite_some hf
        refine lv_icmp_ne (tgt := 92) hx hb dX7_isWord_85 (by decide) (fun c7 => ?_) (fun c7 => ?_)
        · replace hf := g8.2 c7
          refine lv_iload hx hb dX7_isWord_92 (lv_at hl 9 rfl) ?_
          refine lv_iconst (v := 2) hx hb dX7_isWord_94 rfl ?_
          have g10 := ite_some hf
          refine lv_icmp_ne (tgt := 102) hx hb dX7_isWord_95 (by decide) (fun c9 => ?_) (fun c9 => ?_)
          · replace hf := g10.2 c9
            refine lv_iload hx hb dX7_isWord_102 (lv_at hl 9 rfl) ?_
            refine lv_iconst (v := 3) hx hb dX7_isWord_104 rfl ?_
            have g12 := ite_some hf
            refine lv_icmp_ne (tgt := 113) hx hb dX7_isWord_105 (by decide) (fun c11 => ?_) (fun c11 => ?_)
            · replace hf := g12.2 c11
              refine lv_iload hx hb dX7_isWord_113 (lv_at hl 9 rfl) ?_
              refine lv_iconst (v := 4) hx hb dX7_isWord_115 rfl ?_
              have g14 := ite_some hf
              refine lv_icmp_ne (tgt := 124) hx hb dX7_isWord_116 (by decide) (fun c13 => ?_) (fun c13 => ?_)
              · replace hf := g14.2 c13
                refine lv_iload hx hb dX7_isWord_124 (lv_at hl 6 rfl) ?_
                have g16 := ite_some hf
                refine lv_icmp_ne (tgt := 133) hx hb dX7_isWord_126 (by decide) (fun c15 => ?_) (fun c15 => ?_)
                · replace hf := g16.2 c15
                  refine lv_iconst (v := 0) hx hb dX7_isWord_133 rfl ?_
                  refine lv_istore (lv' := [(8, .int 0), (0, .ref h_t), (1, .int x1), (2, .int x2), (3, .int x3), (4, .int x4), (5, .int x5), (6, .int x6), (7, .int x7), (9, .int (v.2))]) hx hb dX7_isWord_134 hl (by decide) rfl (fun ls hl => ?_)
                  refine lv_iinc (v := ((v.2) + 1)) (lv' := [(9, .int ((v.2) + 1)), (8, .int 0), (0, .ref h_t), (1, .int x1), (2, .int x2), (3, .int x3), (4, .int x4), (5, .int x5), (6, .int x6), (7, .int x7)]) hx hb dX7_isWord_136 hl (k := 9) rfl rfl (by decide) rfl (fun ls hl => ?_)
                  refine lv_goto (tgt := 49) hx hb dX7_isWord_139 (by decide) ?_
                  exact ih _ hf _ _ _ hP hD hS (lv_sub hl [2, 3, 4, 5, 6, 7, 8, 9, 1, 0] rfl)
                · replace hf := g16.1 c15
                  refine lv_iconst (v := 1) hx hb dX7_isWord_129 rfl ?_
                  refine lv_goto (tgt := 134) hx hb dX7_isWord_130 (by decide) ?_
                  refine lv_istore (lv' := [(8, .int 1), (0, .ref h_t), (1, .int x1), (2, .int x2), (3, .int x3), (4, .int x4), (5, .int x5), (6, .int x6), (7, .int x7), (9, .int (v.2))]) hx hb dX7_isWord_134 hl (by decide) rfl (fun ls hl => ?_)
                  refine lv_iinc (v := ((v.2) + 1)) (lv' := [(9, .int ((v.2) + 1)), (8, .int 1), (0, .ref h_t), (1, .int x1), (2, .int x2), (3, .int x3), (4, .int x4), (5, .int x5), (6, .int x6), (7, .int x7)]) hx hb dX7_isWord_136 hl (k := 9) rfl rfl (by decide) rfl (fun ls hl => ?_)
                  refine lv_goto (tgt := 49) hx hb dX7_isWord_139 (by decide) ?_
                  exact ih _ hf _ _ _ hP hD hS (lv_sub hl [2, 3, 4, 5, 6, 7, 8, 9, 1, 0] rfl)
              · replace hf := g14.1 c13
                refine lv_iload hx hb dX7_isWord_119 (lv_at hl 5 rfl) ?_
                refine lv_goto (tgt := 126) hx hb dX7_isWord_121 (by decide) ?_
                have g18 := ite_some hf
                refine lv_icmp_ne (tgt := 133) hx hb dX7_isWord_126 (by decide) (fun c17 => ?_) (fun c17 => ?_)
                · replace hf := g18.2 c17
                  refine lv_iconst (v := 0) hx hb dX7_isWord_133 rfl ?_
                  refine lv_istore (lv' := [(8, .int 0), (0, .ref h_t), (1, .int x1), (2, .int x2), (3, .int x3), (4, .int x4), (5, .int x5), (6, .int x6), (7, .int x7), (9, .int (v.2))]) hx hb dX7_isWord_134 hl (by decide) rfl (fun ls hl => ?_)
                  refine lv_iinc (v := ((v.2) + 1)) (lv' := [(9, .int ((v.2) + 1)), (8, .int 0), (0, .ref h_t), (1, .int x1), (2, .int x2), (3, .int x3), (4, .int x4), (5, .int x5), (6, .int x6), (7, .int x7)]) hx hb dX7_isWord_136 hl (k := 9) rfl rfl (by decide) rfl (fun ls hl => ?_)
                  refine lv_goto (tgt := 49) hx hb dX7_isWord_139 (by decide) ?_
                  exact ih _ hf _ _ _ hP hD hS (lv_sub hl [2, 3, 4, 5, 6, 7, 8, 9, 1, 0] rfl)
                · replace hf := g18.1 c17
                  refine lv_iconst (v := 1) hx hb dX7_isWord_129 rfl ?_
                  refine lv_goto (tgt := 134) hx hb dX7_isWord_130 (by decide) ?_
                  refine lv_istore (lv' := [(8, .int 1), (0, .ref h_t), (1, .int x1), (2, .int x2), (3, .int x3), (4, .int x4), (5, .int x5), (6, .int x6), (7, .int x7), (9, .int (v.2))]) hx hb dX7_isWord_134 hl (by decide) rfl (fun ls hl => ?_)
                  refine lv_iinc (v := ((v.2) + 1)) (lv' := [(9, .int ((v.2) + 1)), (8, .int 1), (0, .ref h_t), (1, .int x1), (2, .int x2), (3, .int x3), (4, .int x4), (5, .int x5), (6, .int x6), (7, .int x7)]) hx hb dX7_isWord_136 hl (k := 9) rfl rfl (by decide) rfl (fun ls hl => ?_)
                  refine lv_goto (tgt := 49) hx hb dX7_isWord_139 (by decide) ?_
                  exact ih _ hf _ _ _ hP hD hS (lv_sub hl [2, 3, 4, 5, 6, 7, 8, 9, 1, 0] rfl)
            · replace hf := g12.1 c11
              refine lv_iload hx hb dX7_isWord_108 (lv_at hl 4 rfl) ?_
              refine lv_goto (tgt := 126) hx hb dX7_isWord_110 (by decide) ?_
              have g20 := ite_some hf
              refine lv_icmp_ne (tgt := 133) hx hb dX7_isWord_126 (by decide) (fun c19 => ?_) (fun c19 => ?_)
              · replace hf := g20.2 c19
                refine lv_iconst (v := 0) hx hb dX7_isWord_133 rfl ?_
                refine lv_istore (lv' := [(8, .int 0), (0, .ref h_t), (1, .int x1), (2, .int x2), (3, .int x3), (4, .int x4), (5, .int x5), (6, .int x6), (7, .int x7), (9, .int (v.2))]) hx hb dX7_isWord_134 hl (by decide) rfl (fun ls hl => ?_)
                refine lv_iinc (v := ((v.2) + 1)) (lv' := [(9, .int ((v.2) + 1)), (8, .int 0), (0, .ref h_t), (1, .int x1), (2, .int x2), (3, .int x3), (4, .int x4), (5, .int x5), (6, .int x6), (7, .int x7)]) hx hb dX7_isWord_136 hl (k := 9) rfl rfl (by decide) rfl (fun ls hl => ?_)
                refine lv_goto (tgt := 49) hx hb dX7_isWord_139 (by decide) ?_
                exact ih _ hf _ _ _ hP hD hS (lv_sub hl [2, 3, 4, 5, 6, 7, 8, 9, 1, 0] rfl)
              · replace hf := g20.1 c19
                refine lv_iconst (v := 1) hx hb dX7_isWord_129 rfl ?_
                refine lv_goto (tgt := 134) hx hb dX7_isWord_130 (by decide) ?_
                refine lv_istore (lv' := [(8, .int 1), (0, .ref h_t), (1, .int x1), (2, .int x2), (3, .int x3), (4, .int x4), (5, .int x5), (6, .int x6), (7, .int x7), (9, .int (v.2))]) hx hb dX7_isWord_134 hl (by decide) rfl (fun ls hl => ?_)
                refine lv_iinc (v := ((v.2) + 1)) (lv' := [(9, .int ((v.2) + 1)), (8, .int 1), (0, .ref h_t), (1, .int x1), (2, .int x2), (3, .int x3), (4, .int x4), (5, .int x5), (6, .int x6), (7, .int x7)]) hx hb dX7_isWord_136 hl (k := 9) rfl rfl (by decide) rfl (fun ls hl => ?_)
                refine lv_goto (tgt := 49) hx hb dX7_isWord_139 (by decide) ?_
                exact ih _ hf _ _ _ hP hD hS (lv_sub hl [2, 3, 4, 5, 6, 7, 8, 9, 1, 0] rfl)
          · replace hf := g10.1 c9
            refine lv_iload_n hx hb dX7_isWord_98 rfl (lv_at hl 3 rfl) ?_
            refine lv_goto (tgt := 126) hx hb dX7_isWord_99 (by decide) ?_
            have g22 := ite_some hf
            refine lv_icmp_ne (tgt := 133) hx hb dX7_isWord_126 (by decide) (fun c21 => ?_) (fun c21 => ?_)
            · replace hf := g22.2 c21
              refine lv_iconst (v := 0) hx hb dX7_isWord_133 rfl ?_
              refine lv_istore (lv' := [(8, .int 0), (0, .ref h_t), (1, .int x1), (2, .int x2), (3, .int x3), (4, .int x4), (5, .int x5), (6, .int x6), (7, .int x7), (9, .int (v.2))]) hx hb dX7_isWord_134 hl (by decide) rfl (fun ls hl => ?_)
              refine lv_iinc (v := ((v.2) + 1)) (lv' := [(9, .int ((v.2) + 1)), (8, .int 0), (0, .ref h_t), (1, .int x1), (2, .int x2), (3, .int x3), (4, .int x4), (5, .int x5), (6, .int x6), (7, .int x7)]) hx hb dX7_isWord_136 hl (k := 9) rfl rfl (by decide) rfl (fun ls hl => ?_)
              refine lv_goto (tgt := 49) hx hb dX7_isWord_139 (by decide) ?_
              exact ih _ hf _ _ _ hP hD hS (lv_sub hl [2, 3, 4, 5, 6, 7, 8, 9, 1, 0] rfl)
            · replace hf := g22.1 c21
              refine lv_iconst (v := 1) hx hb dX7_isWord_129 rfl ?_
              refine lv_goto (tgt := 134) hx hb dX7_isWord_130 (by decide) ?_
              refine lv_istore (lv' := [(8, .int 1), (0, .ref h_t), (1, .int x1), (2, .int x2), (3, .int x3), (4, .int x4), (5, .int x5), (6, .int x6), (7, .int x7), (9, .int (v.2))]) hx hb dX7_isWord_134 hl (by decide) rfl (fun ls hl => ?_)
              refine lv_iinc (v := ((v.2) + 1)) (lv' := [(9, .int ((v.2) + 1)), (8, .int 1), (0, .ref h_t), (1, .int x1), (2, .int x2), (3, .int x3), (4, .int x4), (5, .int x5), (6, .int x6), (7, .int x7)]) hx hb dX7_isWord_136 hl (k := 9) rfl rfl (by decide) rfl (fun ls hl => ?_)
              refine lv_goto (tgt := 49) hx hb dX7_isWord_139 (by decide) ?_
              exact ih _ hf _ _ _ hP hD hS (lv_sub hl [2, 3, 4, 5, 6, 7, 8, 9, 1, 0] rfl)
        · replace hf := g8.1 c7
          refine lv_iload_n hx hb dX7_isWord_88 rfl (lv_at hl 2 rfl) ?_
          refine lv_goto (tgt := 126) hx hb dX7_isWord_89 (by decide) ?_
          have g24 := ite_some hf
          refine lv_icmp_ne (tgt := 133) hx hb dX7_isWord_126 (by decide) (fun c23 => ?_) (fun c23 => ?_)
          · replace hf := g24.2 c23
            refine lv_iconst (v := 0) hx hb dX7_isWord_133 rfl ?_
            refine lv_istore (lv' := [(8, .int 0), (0, .ref h_t), (1, .int x1), (2, .int x2), (3, .int x3), (4, .int x4), (5, .int x5), (6, .int x6), (7, .int x7), (9, .int (v.2))]) hx hb dX7_isWord_134 hl (by decide) rfl (fun ls hl => ?_)
            refine lv_iinc (v := ((v.2) + 1)) (lv' := [(9, .int ((v.2) + 1)), (8, .int 0), (0, .ref h_t), (1, .int x1), (2, .int x2), (3, .int x3), (4, .int x4), (5, .int x5), (6, .int x6), (7, .int x7)]) hx hb dX7_isWord_136 hl (k := 9) rfl rfl (by decide) rfl (fun ls hl => ?_)
            refine lv_goto (tgt := 49) hx hb dX7_isWord_139 (by decide) ?_
            exact ih _ hf _ _ _ hP hD hS (lv_sub hl [2, 3, 4, 5, 6, 7, 8, 9, 1, 0] rfl)
          · replace hf := g24.1 c23
            refine lv_iconst (v := 1) hx hb dX7_isWord_129 rfl ?_
            refine lv_goto (tgt := 134) hx hb dX7_isWord_130 (by decide) ?_
            refine lv_istore (lv' := [(8, .int 1), (0, .ref h_t), (1, .int x1), (2, .int x2), (3, .int x3), (4, .int x4), (5, .int x5), (6, .int x6), (7, .int x7), (9, .int (v.2))]) hx hb dX7_isWord_134 hl (by decide) rfl (fun ls hl => ?_)
            refine lv_iinc (v := ((v.2) + 1)) (lv' := [(9, .int ((v.2) + 1)), (8, .int 1), (0, .ref h_t), (1, .int x1), (2, .int x2), (3, .int x3), (4, .int x4), (5, .int x5), (6, .int x6), (7, .int x7)]) hx hb dX7_isWord_136 hl (k := 9) rfl rfl (by decide) rfl (fun ls hl => ?_)
            refine lv_goto (tgt := 49) hx hb dX7_isWord_139 (by decide) ?_
            exact ih _ hf _ _ _ hP hD hS (lv_sub hl [2, 3, 4, 5, 6, 7, 8, 9, 1, 0] rfl)
      · replace hf := g6.1 c5
        refine lv_iload_n hx hb dX7_isWord_78 rfl (lv_at hl 1 rfl) ?_
        refine lv_goto (tgt := 126) hx hb dX7_isWord_79 (by decide) ?_
        have g26 := ite_some hf
        refine lv_icmp_ne (tgt := 133) hx hb dX7_isWord_126 (by decide) (fun c25 => ?_) (fun c25 => ?_)
        · replace hf := g26.2 c25
          refine lv_iconst (v := 0) hx hb dX7_isWord_133 rfl ?_
          refine lv_istore (lv' := [(8, .int 0), (0, .ref h_t), (1, .int x1), (2, .int x2), (3, .int x3), (4, .int x4), (5, .int x5), (6, .int x6), (7, .int x7), (9, .int (v.2))]) hx hb dX7_isWord_134 hl (by decide) rfl (fun ls hl => ?_)
          refine lv_iinc (v := ((v.2) + 1)) (lv' := [(9, .int ((v.2) + 1)), (8, .int 0), (0, .ref h_t), (1, .int x1), (2, .int x2), (3, .int x3), (4, .int x4), (5, .int x5), (6, .int x6), (7, .int x7)]) hx hb dX7_isWord_136 hl (k := 9) rfl rfl (by decide) rfl (fun ls hl => ?_)
          refine lv_goto (tgt := 49) hx hb dX7_isWord_139 (by decide) ?_
          exact ih _ hf _ _ _ hP hD hS (lv_sub hl [2, 3, 4, 5, 6, 7, 8, 9, 1, 0] rfl)
        · replace hf := g26.1 c25
          refine lv_iconst (v := 1) hx hb dX7_isWord_129 rfl ?_
          refine lv_goto (tgt := 134) hx hb dX7_isWord_130 (by decide) ?_
          refine lv_istore (lv' := [(8, .int 1), (0, .ref h_t), (1, .int x1), (2, .int x2), (3, .int x3), (4, .int x4), (5, .int x5), (6, .int x6), (7, .int x7), (9, .int (v.2))]) hx hb dX7_isWord_134 hl (by decide) rfl (fun ls hl => ?_)
          refine lv_iinc (v := ((v.2) + 1)) (lv' := [(9, .int ((v.2) + 1)), (8, .int 1), (0, .ref h_t), (1, .int x1), (2, .int x2), (3, .int x3), (4, .int x4), (5, .int x5), (6, .int x6), (7, .int x7)]) hx hb dX7_isWord_136 hl (k := 9) rfl rfl (by decide) rfl (fun ls hl => ?_)
          refine lv_goto (tgt := 49) hx hb dX7_isWord_139 (by decide) ?_
          exact ih _ hf _ _ _ hP hD hS (lv_sub hl [2, 3, 4, 5, 6, 7, 8, 9, 1, 0] rfl)
set_option maxHeartbeats 4000000 in
set_option maxRecDepth 100000 in
theorem mX7_isWord (l : Launch) (D : va_G) (cs : Nat → ClassId) (sk : Nat → Nat) (h_t : Nat) (q_t : Nat → Nat) (k : Nat) (d_t : Dat) (x1 : Int32) (x2 : Int32) (x3 : Int32) (x4 : Int32) (x5 : Int32) (x6 : Int32) {rv : Int32} (hf : fX7_isWord k d_t x1 x2 x3 x4 x5 x6 = some rv) : CTi l yX7_isWord (Cond.code yX7_isWord cX7_isWord 10 (some .boolean) :: gtbl) rm_X7_isWord D cs sk [.ref h_t, .int x1, .int x2, .int x3, .int x4, .int x5, .int x6] [oX7 h_t q_t (d_t.1), ((q_t 15), .inl (cs 0, 250, .inl (d_t.2 15)))] (rv) [oX7 h_t q_t (d_t.1), ((q_t 15), .inl (cs 0, 250, .inl (d_t.2 15)))] := by
  refine CTi.ofZ RX7 (by decide +kernel) rfl (Nat.le_of_ble_eq_true rfl) (fun p e s m args below meth c A Q ls M hA hR hl hP hD hS => ?_)
  obtain ⟨hx, hb, hml, hT, hown, hlk, hrt, hK, hN, hSE⟩ := id M
  replace hl : lv_has ls 10 [(0, .ref h_t), (1, .int x1), (2, .int x2), (3, .int x3), (4, .int x4), (5, .int x5), (6, .int x6)] := hl
  unfold fX7_isWord at hf
  refine lv_iload hx hb dX7_isWord_0 (lv_at hl 4 rfl) ?_
  have g2 := ite_some hf
  refine lv_if_ne (tgt := 9) hx hb dX7_isWord_2 (by decide) (fun c1 => ?_) (fun c1 => ?_)
  · replace hf := g2.2 c1
    refine lv_iload hx hb dX7_isWord_9 (lv_at hl 5 rfl) ?_
    have g4 := ite_some hf
    refine lv_if_ne (tgt := 18) hx hb dX7_isWord_11 (by decide) (fun c3 => ?_) (fun c3 => ?_)
    · replace hf := g4.2 c3
      refine lv_bipush (v := 6) hx hb dX7_isWord_18 rfl ?_
      refine lv_istore (lv' := [(7, .int 6), (0, .ref h_t), (1, .int x1), (2, .int x2), (3, .int x3), (4, .int x4), (5, .int x5), (6, .int x6)]) hx hb dX7_isWord_20 hl (by decide) rfl (fun ls hl => ?_)
      refine lv_aload_n hx hb dX7_isWord_22 rfl (lv_at hl 1 rfl) ?_
      refine va_get (D := D) (ci := 7) (v := .int (d_t.1 19)) (C := RX7) (T := TX7) (N := 23) hx hb hT iX7 hown hK hP 0 rfl rfl 19 (by decide) (hT _ fw_X7_236) (fun _ h9 => h9) rfl dX7_isWord_23 ?_
      refine lv_iconst (v := 1) hx hb dX7_isWord_26 rfl ?_
      have g6 := ite_some hf
      refine lv_icmp_ne (tgt := 43) hx hb dX7_isWord_27 (by decide) (fun c5 => ?_) (fun c5 => ?_)
      · replace hf := g6.2 c5
        refine lv_iconst (v := 0) hx hb dX7_isWord_43 rfl ?_
        refine lv_istore (lv' := [(8, .int 0), (7, .int 6), (0, .ref h_t), (1, .int x1), (2, .int x2), (3, .int x3), (4, .int x4), (5, .int x5), (6, .int x6)]) hx hb dX7_isWord_44 hl (by decide) rfl (fun ls hl => ?_)
        refine lv_iconst (v := 0) hx hb dX7_isWord_46 rfl ?_
        refine lv_istore (lv' := [(9, .int 0), (8, .int 0), (7, .int 6), (0, .ref h_t), (1, .int x1), (2, .int x2), (3, .int x3), (4, .int x4), (5, .int x5), (6, .int x6)]) hx hb dX7_isWord_47 hl (by decide) rfl (fun ls hl => ?_)
        refine mX7_isWord_B49 h_t q_t k x1 x2 x3 x4 x5 x6 6 d_t _ M hA hR (fun w7 hf H locs ls hP hD hS hl => ?_) _ _ hf _ _ _ hP hD hS (lv_sub hl [3, 4, 5, 6, 7, 8, 9, 2, 1, 0] rfl)
        · refine lv_iload hx hb dX7_isWord_142 (lv_at hl 0 rfl) ?_
          obtain ⟨h01, hf⟩ := chb_some hf
          have e9 := Option.some.inj hf
          subst e9
          exact hR _ _ _ _ dX7_isWord_144 h01 hP hS
      · replace hf := g6.1 c5
        refine lv_aload_n hx hb dX7_isWord_30 rfl (lv_at hl 1 rfl) ?_
        refine va_get (D := D) (ci := 7) (v := .int (d_t.1 18)) (C := RX7) (T := TX7) (N := 23) hx hb hT iX7 hown hK hP 0 rfl rfl 18 (by decide) (hT _ fw_X7_233) (fun _ h9 => h9) rfl dX7_isWord_31 ?_
        refine lv_iload hx hb dX7_isWord_34 (lv_at hl 0 rfl) ?_
        have g9 := ite_some hf
        refine lv_icmp_ne (tgt := 43) hx hb dX7_isWord_36 (by decide) (fun c8 => ?_) (fun c8 => ?_)
        · replace hf := g9.2 c8
          refine lv_iconst (v := 0) hx hb dX7_isWord_43 rfl ?_
          refine lv_istore (lv' := [(8, .int 0), (7, .int 6), (0, .ref h_t), (1, .int x1), (2, .int x2), (3, .int x3), (4, .int x4), (5, .int x5), (6, .int x6)]) hx hb dX7_isWord_44 hl (by decide) rfl (fun ls hl => ?_)
          refine lv_iconst (v := 0) hx hb dX7_isWord_46 rfl ?_
          refine lv_istore (lv' := [(9, .int 0), (8, .int 0), (7, .int 6), (0, .ref h_t), (1, .int x1), (2, .int x2), (3, .int x3), (4, .int x4), (5, .int x5), (6, .int x6)]) hx hb dX7_isWord_47 hl (by decide) rfl (fun ls hl => ?_)
          refine mX7_isWord_B49 h_t q_t k x1 x2 x3 x4 x5 x6 6 d_t _ M hA hR (fun w10 hf H locs ls hP hD hS hl => ?_) _ _ hf _ _ _ hP hD hS (lv_sub hl [3, 4, 5, 6, 7, 8, 9, 2, 1, 0] rfl)
          · refine lv_iload hx hb dX7_isWord_142 (lv_at hl 0 rfl) ?_
            obtain ⟨h01, hf⟩ := chb_some hf
            have e9 := Option.some.inj hf
            subst e9
            exact hR _ _ _ _ dX7_isWord_144 h01 hP hS
        · replace hf := g9.1 c8
          refine lv_iconst (v := 1) hx hb dX7_isWord_39 rfl ?_
          refine lv_goto (tgt := 44) hx hb dX7_isWord_40 (by decide) ?_
          refine lv_istore (lv' := [(8, .int 1), (7, .int 6), (0, .ref h_t), (1, .int x1), (2, .int x2), (3, .int x3), (4, .int x4), (5, .int x5), (6, .int x6)]) hx hb dX7_isWord_44 hl (by decide) rfl (fun ls hl => ?_)
          refine lv_iconst (v := 0) hx hb dX7_isWord_46 rfl ?_
          refine lv_istore (lv' := [(9, .int 0), (8, .int 1), (7, .int 6), (0, .ref h_t), (1, .int x1), (2, .int x2), (3, .int x3), (4, .int x4), (5, .int x5), (6, .int x6)]) hx hb dX7_isWord_47 hl (by decide) rfl (fun ls hl => ?_)
          refine mX7_isWord_B49 h_t q_t k x1 x2 x3 x4 x5 x6 6 d_t _ M hA hR (fun w11 hf H locs ls hP hD hS hl => ?_) _ _ hf _ _ _ hP hD hS (lv_sub hl [3, 4, 5, 6, 7, 8, 9, 2, 1, 0] rfl)
          · refine lv_iload hx hb dX7_isWord_142 (lv_at hl 0 rfl) ?_
            obtain ⟨h01, hf⟩ := chb_some hf
            have e9 := Option.some.inj hf
            subst e9
            exact hR _ _ _ _ dX7_isWord_144 h01 hP hS
    · replace hf := g4.1 c3
      refine lv_iconst (v := 4) hx hb dX7_isWord_14 rfl ?_
      refine lv_goto (tgt := 20) hx hb dX7_isWord_15 (by decide) ?_
      refine lv_istore (lv' := [(7, .int 4), (0, .ref h_t), (1, .int x1), (2, .int x2), (3, .int x3), (4, .int x4), (5, .int x5), (6, .int x6)]) hx hb dX7_isWord_20 hl (by decide) rfl (fun ls hl => ?_)
      refine lv_aload_n hx hb dX7_isWord_22 rfl (lv_at hl 1 rfl) ?_
      refine va_get (D := D) (ci := 7) (v := .int (d_t.1 19)) (C := RX7) (T := TX7) (N := 23) hx hb hT iX7 hown hK hP 0 rfl rfl 19 (by decide) (hT _ fw_X7_236) (fun _ h9 => h9) rfl dX7_isWord_23 ?_
      refine lv_iconst (v := 1) hx hb dX7_isWord_26 rfl ?_
      have g13 := ite_some hf
      refine lv_icmp_ne (tgt := 43) hx hb dX7_isWord_27 (by decide) (fun c12 => ?_) (fun c12 => ?_)
      · replace hf := g13.2 c12
        refine lv_iconst (v := 0) hx hb dX7_isWord_43 rfl ?_
        refine lv_istore (lv' := [(8, .int 0), (7, .int 4), (0, .ref h_t), (1, .int x1), (2, .int x2), (3, .int x3), (4, .int x4), (5, .int x5), (6, .int x6)]) hx hb dX7_isWord_44 hl (by decide) rfl (fun ls hl => ?_)
        refine lv_iconst (v := 0) hx hb dX7_isWord_46 rfl ?_
        refine lv_istore (lv' := [(9, .int 0), (8, .int 0), (7, .int 4), (0, .ref h_t), (1, .int x1), (2, .int x2), (3, .int x3), (4, .int x4), (5, .int x5), (6, .int x6)]) hx hb dX7_isWord_47 hl (by decide) rfl (fun ls hl => ?_)
        refine mX7_isWord_B49 h_t q_t k x1 x2 x3 x4 x5 x6 4 d_t _ M hA hR (fun w14 hf H locs ls hP hD hS hl => ?_) _ _ hf _ _ _ hP hD hS (lv_sub hl [3, 4, 5, 6, 7, 8, 9, 2, 1, 0] rfl)
        · refine lv_iload hx hb dX7_isWord_142 (lv_at hl 0 rfl) ?_
          obtain ⟨h01, hf⟩ := chb_some hf
          have e9 := Option.some.inj hf
          subst e9
          exact hR _ _ _ _ dX7_isWord_144 h01 hP hS
      · replace hf := g13.1 c12
        refine lv_aload_n hx hb dX7_isWord_30 rfl (lv_at hl 1 rfl) ?_
        refine va_get (D := D) (ci := 7) (v := .int (d_t.1 18)) (C := RX7) (T := TX7) (N := 23) hx hb hT iX7 hown hK hP 0 rfl rfl 18 (by decide) (hT _ fw_X7_233) (fun _ h9 => h9) rfl dX7_isWord_31 ?_
        refine lv_iload hx hb dX7_isWord_34 (lv_at hl 0 rfl) ?_
        have g16 := ite_some hf
        refine lv_icmp_ne (tgt := 43) hx hb dX7_isWord_36 (by decide) (fun c15 => ?_) (fun c15 => ?_)
        · replace hf := g16.2 c15
          refine lv_iconst (v := 0) hx hb dX7_isWord_43 rfl ?_
          refine lv_istore (lv' := [(8, .int 0), (7, .int 4), (0, .ref h_t), (1, .int x1), (2, .int x2), (3, .int x3), (4, .int x4), (5, .int x5), (6, .int x6)]) hx hb dX7_isWord_44 hl (by decide) rfl (fun ls hl => ?_)
          refine lv_iconst (v := 0) hx hb dX7_isWord_46 rfl ?_
          refine lv_istore (lv' := [(9, .int 0), (8, .int 0), (7, .int 4), (0, .ref h_t), (1, .int x1), (2, .int x2), (3, .int x3), (4, .int x4), (5, .int x5), (6, .int x6)]) hx hb dX7_isWord_47 hl (by decide) rfl (fun ls hl => ?_)
          refine mX7_isWord_B49 h_t q_t k x1 x2 x3 x4 x5 x6 4 d_t _ M hA hR (fun w17 hf H locs ls hP hD hS hl => ?_) _ _ hf _ _ _ hP hD hS (lv_sub hl [3, 4, 5, 6, 7, 8, 9, 2, 1, 0] rfl)
          · refine lv_iload hx hb dX7_isWord_142 (lv_at hl 0 rfl) ?_
            obtain ⟨h01, hf⟩ := chb_some hf
            have e9 := Option.some.inj hf
            subst e9
            exact hR _ _ _ _ dX7_isWord_144 h01 hP hS
        · replace hf := g16.1 c15
          refine lv_iconst (v := 1) hx hb dX7_isWord_39 rfl ?_
          refine lv_goto (tgt := 44) hx hb dX7_isWord_40 (by decide) ?_
          refine lv_istore (lv' := [(8, .int 1), (7, .int 4), (0, .ref h_t), (1, .int x1), (2, .int x2), (3, .int x3), (4, .int x4), (5, .int x5), (6, .int x6)]) hx hb dX7_isWord_44 hl (by decide) rfl (fun ls hl => ?_)
          refine lv_iconst (v := 0) hx hb dX7_isWord_46 rfl ?_
          refine lv_istore (lv' := [(9, .int 0), (8, .int 1), (7, .int 4), (0, .ref h_t), (1, .int x1), (2, .int x2), (3, .int x3), (4, .int x4), (5, .int x5), (6, .int x6)]) hx hb dX7_isWord_47 hl (by decide) rfl (fun ls hl => ?_)
          refine mX7_isWord_B49 h_t q_t k x1 x2 x3 x4 x5 x6 4 d_t _ M hA hR (fun w18 hf H locs ls hP hD hS hl => ?_) _ _ hf _ _ _ hP hD hS (lv_sub hl [3, 4, 5, 6, 7, 8, 9, 2, 1, 0] rfl)
          · refine lv_iload hx hb dX7_isWord_142 (lv_at hl 0 rfl) ?_
            obtain ⟨h01, hf⟩ := chb_some hf
            have e9 := Option.some.inj hf
            subst e9
            exact hR _ _ _ _ dX7_isWord_144 h01 hP hS
  · replace hf := g2.1 c1
    refine lv_iconst (v := 3) hx hb dX7_isWord_5 rfl ?_
    refine lv_goto (tgt := 20) hx hb dX7_isWord_6 (by decide) ?_
    refine lv_istore (lv' := [(7, .int 3), (0, .ref h_t), (1, .int x1), (2, .int x2), (3, .int x3), (4, .int x4), (5, .int x5), (6, .int x6)]) hx hb dX7_isWord_20 hl (by decide) rfl (fun ls hl => ?_)
    refine lv_aload_n hx hb dX7_isWord_22 rfl (lv_at hl 1 rfl) ?_
    refine va_get (D := D) (ci := 7) (v := .int (d_t.1 19)) (C := RX7) (T := TX7) (N := 23) hx hb hT iX7 hown hK hP 0 rfl rfl 19 (by decide) (hT _ fw_X7_236) (fun _ h9 => h9) rfl dX7_isWord_23 ?_
    refine lv_iconst (v := 1) hx hb dX7_isWord_26 rfl ?_
    have g20 := ite_some hf
    refine lv_icmp_ne (tgt := 43) hx hb dX7_isWord_27 (by decide) (fun c19 => ?_) (fun c19 => ?_)
    · replace hf := g20.2 c19
      refine lv_iconst (v := 0) hx hb dX7_isWord_43 rfl ?_
      refine lv_istore (lv' := [(8, .int 0), (7, .int 3), (0, .ref h_t), (1, .int x1), (2, .int x2), (3, .int x3), (4, .int x4), (5, .int x5), (6, .int x6)]) hx hb dX7_isWord_44 hl (by decide) rfl (fun ls hl => ?_)
      refine lv_iconst (v := 0) hx hb dX7_isWord_46 rfl ?_
      refine lv_istore (lv' := [(9, .int 0), (8, .int 0), (7, .int 3), (0, .ref h_t), (1, .int x1), (2, .int x2), (3, .int x3), (4, .int x4), (5, .int x5), (6, .int x6)]) hx hb dX7_isWord_47 hl (by decide) rfl (fun ls hl => ?_)
      refine mX7_isWord_B49 h_t q_t k x1 x2 x3 x4 x5 x6 3 d_t _ M hA hR (fun w21 hf H locs ls hP hD hS hl => ?_) _ _ hf _ _ _ hP hD hS (lv_sub hl [3, 4, 5, 6, 7, 8, 9, 2, 1, 0] rfl)
      · refine lv_iload hx hb dX7_isWord_142 (lv_at hl 0 rfl) ?_
        obtain ⟨h01, hf⟩ := chb_some hf
        have e9 := Option.some.inj hf
        subst e9
        exact hR _ _ _ _ dX7_isWord_144 h01 hP hS
    · replace hf := g20.1 c19
      refine lv_aload_n hx hb dX7_isWord_30 rfl (lv_at hl 1 rfl) ?_
      refine va_get (D := D) (ci := 7) (v := .int (d_t.1 18)) (C := RX7) (T := TX7) (N := 23) hx hb hT iX7 hown hK hP 0 rfl rfl 18 (by decide) (hT _ fw_X7_233) (fun _ h9 => h9) rfl dX7_isWord_31 ?_
      refine lv_iload hx hb dX7_isWord_34 (lv_at hl 0 rfl) ?_
      have g23 := ite_some hf
      refine lv_icmp_ne (tgt := 43) hx hb dX7_isWord_36 (by decide) (fun c22 => ?_) (fun c22 => ?_)
      · replace hf := g23.2 c22
        refine lv_iconst (v := 0) hx hb dX7_isWord_43 rfl ?_
        refine lv_istore (lv' := [(8, .int 0), (7, .int 3), (0, .ref h_t), (1, .int x1), (2, .int x2), (3, .int x3), (4, .int x4), (5, .int x5), (6, .int x6)]) hx hb dX7_isWord_44 hl (by decide) rfl (fun ls hl => ?_)
        refine lv_iconst (v := 0) hx hb dX7_isWord_46 rfl ?_
        refine lv_istore (lv' := [(9, .int 0), (8, .int 0), (7, .int 3), (0, .ref h_t), (1, .int x1), (2, .int x2), (3, .int x3), (4, .int x4), (5, .int x5), (6, .int x6)]) hx hb dX7_isWord_47 hl (by decide) rfl (fun ls hl => ?_)
        refine mX7_isWord_B49 h_t q_t k x1 x2 x3 x4 x5 x6 3 d_t _ M hA hR (fun w24 hf H locs ls hP hD hS hl => ?_) _ _ hf _ _ _ hP hD hS (lv_sub hl [3, 4, 5, 6, 7, 8, 9, 2, 1, 0] rfl)
        · refine lv_iload hx hb dX7_isWord_142 (lv_at hl 0 rfl) ?_
          obtain ⟨h01, hf⟩ := chb_some hf
          have e9 := Option.some.inj hf
          subst e9
          exact hR _ _ _ _ dX7_isWord_144 h01 hP hS
      · replace hf := g23.1 c22
        refine lv_iconst (v := 1) hx hb dX7_isWord_39 rfl ?_
        refine lv_goto (tgt := 44) hx hb dX7_isWord_40 (by decide) ?_
        refine lv_istore (lv' := [(8, .int 1), (7, .int 3), (0, .ref h_t), (1, .int x1), (2, .int x2), (3, .int x3), (4, .int x4), (5, .int x5), (6, .int x6)]) hx hb dX7_isWord_44 hl (by decide) rfl (fun ls hl => ?_)
        refine lv_iconst (v := 0) hx hb dX7_isWord_46 rfl ?_
        refine lv_istore (lv' := [(9, .int 0), (8, .int 1), (7, .int 3), (0, .ref h_t), (1, .int x1), (2, .int x2), (3, .int x3), (4, .int x4), (5, .int x5), (6, .int x6)]) hx hb dX7_isWord_47 hl (by decide) rfl (fun ls hl => ?_)
        refine mX7_isWord_B49 h_t q_t k x1 x2 x3 x4 x5 x6 3 d_t _ M hA hR (fun w25 hf H locs ls hP hD hS hl => ?_) _ _ hf _ _ _ hP hD hS (lv_sub hl [3, 4, 5, 6, 7, 8, 9, 2, 1, 0] rfl)
        · refine lv_iload hx hb dX7_isWord_142 (lv_at hl 0 rfl) ?_
          obtain ⟨h01, hf⟩ := chb_some hf
          have e9 := Option.some.inj hf
          subst e9
          exact hR _ _ _ _ dX7_isWord_144 h01 hP hS
