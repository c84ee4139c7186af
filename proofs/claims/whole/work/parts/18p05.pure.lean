theorem byte_m (y : Int64) : (y &&& 255).toInt32 = J ((y.toInt % 256).toNat : Nat) := by
  have e : (y &&& 255) = K (y.toInt % 256) := by
    rw [← Int64.toInt_inj]
    have h0 : 0 ≤ y.toInt % 256 := Int.emod_nonneg _ (by decide)
    have h1 : y.toInt % 256 < 256 := Int.emod_lt_of_pos _ (by decide)
    rw [toInt_K (by omega)]
    have hb : (y &&& 255).toBitVec.toNat = y.toBitVec.toNat % 256 := by
      rw [Int64.toBitVec_and, BitVec.toNat_and]
      show y.toBitVec.toNat &&& 255 = _
      exact Nat.and_two_pow_sub_one_eq_mod _ 8
    have hi : (y &&& 255).toInt = ((y.toBitVec.toNat % 256 : Nat) : Int) := by
      show (y &&& 255).toBitVec.toInt = _
      rw [BitVec.toInt_eq_toNat_of_lt (by rw [hb]; omega), hb]
    have hy : y.toInt % 256 = ((y.toBitVec.toNat % 256 : Nat) : Int) := by
      show y.toBitVec.toInt % 256 = _
      rw [BitVec.toInt_eq_toNat_cond]
      split <;> omega
    rw [hi, hy]
  have h0 : 0 ≤ y.toInt % 256 := Int.emod_nonneg _ (by decide)
  have h1 : y.toInt % 256 < 256 := Int.emod_lt_of_pos _ (by decide)
  rw [e, ← Int32.toInt_inj, Int64.toInt_toInt32, toInt_K (by omega), toInt_J (by omega) (by omega), Int.bmod_eq_of_le (by omega) (by omega)]
  omega
theorem byte_c (y : Int64) : vp_nar .byte (y.toInt32.toInt8.toInt32) = J (sx8 (y.toInt % 256).toNat) := by
  have h0 : 0 ≤ y.toInt % 256 := Int.emod_nonneg _ (by decide)
  have h1 : y.toInt % 256 < 256 := Int.emod_lt_of_pos _ (by decide)
  have e1 : (y.toInt32.toInt8).toInt = sx8 (y.toInt % 256).toNat := by
    rw [Int32.toInt_toInt8, Int64.toInt_toInt32]
    have : (y.toInt.bmod (2 ^ 32)).bmod (2 ^ 8) = y.toInt.bmod (2 ^ 8) := Int.bmod_bmod_of_dvd (by decide)
    rw [this]
    unfold sx8
    rw [Int.bmod_def]
    omega
  have hs : -128 ≤ sx8 (y.toInt % 256).toNat ∧ sx8 (y.toInt % 256).toNat < 128 := by
    unfold sx8
    omega
  rw [vp_nar_byte, ← Int32.toInt_inj, Int8.toInt_toInt32, Int32.toInt_toInt8, Int8.toInt_toInt32, e1, toInt_J (by omega) (by omega), Int.bmod_eq_of_le (by omega) (by omega)]
def yv (x : Int64) (l : Nat) : Int64 := (x.toUInt64 >>> ((8 * J (l : Int)).toInt64.toUInt64 &&& Int64.toUInt64 63)).toInt64
set_option maxHeartbeats 2000000 in
theorem L_8 (k L : Nat) (hk : 100 < k) (xs : Nat → Int32) (hL : L ≤ 2560) : OP L (fL_8 k L xs) := by
  intro rec z c st bd i0 i1 b0 b1 t5 t6 t7 h8 t9 s10 r11 m hz hzL hR
  unfold fL_8
  simp only [rd hz hzL hL]
  generalize (((xs (J z + 1).toNatClampNeg).toInt64 <<< ((32 : Int32).toInt64 &&& 63)) ||| ((xs (J z + 2).toNatClampNeg).toInt64 &&& 4294967295)) = x
  generalize xs (J z + 3).toNatClampNeg = x3
  obtain ⟨X, hX, rfl⟩ := J_ex x3
  obtain ⟨⟨a, hM, hS, hB, hs, hb⟩, hTx, hRf, hI⟩ := hR
  obtain ⟨u, u1, u2, u3, u4⟩ := id hTx
  unfold fX6_type fX7_type
  rw [cw_1_8 k hX, mi_1_8 k hX]
  simp only [Option.bind_some, b_ite, u2, u3, J_add]
  by_cases q : 1 ≤ X ∧ X ≤ 8
  · rw [if_pos q, if_pos q]
    have e1 : (J ((u : Int) + X) ≤ 250) = ((u : Int) + X ≤ 250) := by rw [J_lit, J_le (by omega)]
    simp only [e1]
    by_cases q2 : (u : Int) + X ≤ 250
    · rw [if_pos q2, if_pos q2]
      obtain ⟨n, hn⟩ : ∃ n : Nat, X = (n : Int) + 1 := ⟨(X - 1).toNat, by omega⟩
      have e2 : J X - 1 = J n := by rw [J_lit, J_sub]; congr 1; omega
      have hd : ∀ j : Nat, j ≤ n → J ((n : Int) - j) + -1 = J ((n : Int) - ((j + 1 : Nat) : Int)) := fun j hj => by
        rw [show (-1 : Int32) = J (-1) from rfl, J_add]
        congr 1
        omega
      have l1 : ∃ d : Dat, lp (fX6_type_B39 k x c (fun w7 : Dat => some (w7.1 13, (w7.1, va_up c.2 12 (w7.2 12))))) k (J X - 1, c) = some (J ((u + (n + 1) : Nat) : Int), d) ∧ (∀ i : Nat, ¬ i = 13 → d.1 i = c.1 i) ∧ d.1 13 = J ((u + (n + 1) : Nat) : Int) ∧ (∀ i : Nat, ¬ i = 12 → d.2 i = c.2 i) ∧ (∀ i : Nat, i < u + (n + 1) → d.2 12 i = if i < u then c.2 12 i else vp_nar .byte ((yv x (n - (i - u))).toInt32.toInt8.toInt32)) := by
        rw [e2]
        refine lp_for (fun (j : Nat) (v : Int32 × Dat) => v.1 = J ((n : Int) - j) ∧ (∀ i : Nat, ¬ i = 13 → v.2.1 i = c.1 i) ∧ v.2.1 13 = J ((u + j : Nat) : Int) ∧ (∀ i : Nat, i < u + j → v.2.2 12 i = if i < u then c.2 12 i else vp_nar .byte ((yv x (n - (i - u))).toInt32.toInt8.toInt32))) (n + 1) (fun (o : Option (Int32 × Dat)) => ∃ d : Dat, o = some (J ((u + (n + 1) : Nat) : Int), d) ∧ (∀ i : Nat, ¬ i = 13 → d.1 i = c.1 i) ∧ d.1 13 = J ((u + (n + 1) : Nat) : Int) ∧ (∀ i : Nat, ¬ i = 12 → d.2 i = c.2 i) ∧ (∀ i : Nat, i < u + (n + 1) → d.2 12 i = if i < u then c.2 12 i else vp_nar .byte ((yv x (n - (i - u))).toInt32.toInt8.toInt32))) ?_ ?_ ?_ (by omega)
        · intro j v hj ⟨hv, g1, g2, g3⟩
          obtain ⟨i, w⟩ := v
          have hv' : i = J ((n : Int) - j) := hv
          subst hv'
          replace g1 : ∀ i : Nat, ¬ i = 13 → w.1 i = c.1 i := g1
          replace g2 : w.1 13 = J ((u + j : Nat) : Int) := g2
          replace g3 : ∀ i : Nat, i < u + j → w.2 12 i = if i < u then c.2 12 i else vp_nar .byte ((yv x (n - (i - u))).toInt32.toInt8.toInt32) := g3
          have hq : (J ((n : Int) - j) < 0) = False := by rw [J_lit, J_lt (by omega)]; exact eq_false (by omega)
          have ey : (x.toUInt64 >>> ((8 * J ((n : Int) - j)).toInt64.toUInt64 &&& Int64.toUInt64 63)).toInt64 = yv x (n - j) := by
            unfold yv
            rw [show ((n - j : Nat) : Int) = (n : Int) - j from by omega]
          left
          apply Exists.intro
          refine ⟨fun rec => ?_, ?_, fun i hi => ?_, ?_, fun i hi => ?_⟩
          · unfold fX6_type_B39
            simp only [hq, if_false, g2, hd j (by omega), ey]
            rw [chk_J (by omega), J_natn (by omega), J_suc]
          · rfl
          · show upd w.1 13 _ i = _
            rw [upd_ne hi]
            exact g1 i hi
          · exact upd_same w.1 13 _
          · show upd (w.2 12) (u + j) _ i = _
            by_cases e : i = u + j
            · subst e
              rw [upd_same, if_neg (by omega), show u + j - u = j from by omega]
            · rw [upd_ne e]
              exact g3 i (by omega)
        · intro v ⟨hv, g1, g2, g3⟩ rec
          obtain ⟨i, w⟩ := v
          have hv' : i = J ((n : Int) - ((n + 1 : Nat) : Int)) := hv
          subst hv'
          have hq : (J ((n : Int) - ((n + 1 : Nat) : Int)) < 0) = True := by rw [J_lit, J_lt (by omega)]; exact eq_true (by omega)
          unfold fX6_type_B39
          simp only [hq, if_true]
          refine ⟨_, congrArg some (Prod.ext g2 rfl), g1, g2, fun i hi => ?_, g3⟩
          show va_up c.2 12 _ i = _
          rw [vu_ne hi]
        · exact ⟨by show J (n : Int) = J ((n : Int) - ((0 : Nat) : Int)); congr 1, fun i hi => rfl, u2, fun i hi => (if_pos (by omega)).symm⟩
      have l2 : ∃ d : Dat, lp (fX7_type_B41 k x m (fun w7 : Dat => some (w7.1 16, (w7.1, va_up m.2 15 (w7.2 15))))) k (J X - 1, m) = some (J ((u + (n + 1) : Nat) : Int), d) ∧ d.1 16 = J ((u + (n + 1) : Nat) : Int) ∧ (∀ i : Nat, i < u + (n + 1) → d.2 15 i = if i < u then m.2 15 i else ((yv x (n - (i - u))) &&& 255).toInt32) ∧ d.2 3 = m.2 3 := by
        rw [e2]
        refine lp_for (fun (j : Nat) (v : Int32 × Dat) => v.1 = J ((n : Int) - j) ∧ v.2.1 16 = J ((u + j : Nat) : Int) ∧ (∀ i : Nat, i < u + j → v.2.2 15 i = if i < u then m.2 15 i else ((yv x (n - (i - u))) &&& 255).toInt32)) (n + 1) (fun (o : Option (Int32 × Dat)) => ∃ d : Dat, o = some (J ((u + (n + 1) : Nat) : Int), d) ∧ d.1 16 = J ((u + (n + 1) : Nat) : Int) ∧ (∀ i : Nat, i < u + (n + 1) → d.2 15 i = if i < u then m.2 15 i else ((yv x (n - (i - u))) &&& 255).toInt32) ∧ d.2 3 = m.2 3) ?_ ?_ ?_ (by omega)
        · intro j v hj ⟨hv, g2, g3⟩
          obtain ⟨i, w⟩ := v
          have hv' : i = J ((n : Int) - j) := hv
          subst hv'
          replace g2 : w.1 16 = J ((u + j : Nat) : Int) := g2
          replace g3 : ∀ i : Nat, i < u + j → w.2 15 i = if i < u then m.2 15 i else ((yv x (n - (i - u))) &&& 255).toInt32 := g3
          have hq : (J ((n : Int) - j) < 0) = False := by rw [J_lit, J_lt (by omega)]; exact eq_false (by omega)
          have ey : (x.toUInt64 >>> ((8 * J ((n : Int) - j)).toInt64.toUInt64 &&& Int64.toUInt64 63)).toInt64 = yv x (n - j) := by
            unfold yv
            rw [show ((n - j : Nat) : Int) = (n : Int) - j from by omega]
          left
          apply Exists.intro
          refine ⟨fun rec => ?_, ?_, ?_, fun i hi => ?_⟩
          · unfold fX7_type_B41
            simp only [hq, if_false, g2, hd j (by omega), ey]
            rw [chk_J (by omega), J_natn (by omega), J_suc]
          · rfl
          · exact upd_same w.1 16 _
          · show upd (w.2 15) (u + j) _ i = _
            by_cases e : i = u + j
            · subst e
              rw [upd_same, if_neg (by omega), show u + j - u = j from by omega]
            · rw [upd_ne e]
              exact g3 i (by omega)
        · intro v ⟨hv, g2, g3⟩ rec
          obtain ⟨i, w⟩ := v
          have hv' : i = J ((n : Int) - ((n + 1 : Nat) : Int)) := hv
          subst hv'
          have hq : (J ((n : Int) - ((n + 1 : Nat) : Int)) < 0) = True := by rw [J_lit, J_lt (by omega)]; exact eq_true (by omega)
          unfold fX7_type_B41
          simp only [hq, if_true]
          exact ⟨_, congrArg some (Prod.ext g2 rfl), g2, g3, rfl⟩
        · exact ⟨by show J (n : Int) = J ((n : Int) - ((0 : Nat) : Int)); congr 1, u3, fun i hi => (if_pos (by omega)).symm⟩
      obtain ⟨d, l1, v1, v2, v3, v4⟩ := l1
      obtain ⟨m', l2, y1, y2, y3⟩ := l2
      apply fin
      · simp only [l1, l2, Option.bind_some, ↓reduceIte]
        all_goals exact rfl
      · exact rd5 z
      refine ⟨⟨a, hM, hS, hB, hs, hb⟩, ⟨u + (n + 1), by omega, v2, y1, fun i hi => ?_⟩, ?_, ?_⟩
      · show ∃ b : Nat, b < 256 ∧ m'.2 15 i = J b ∧ d.2 12 i = J (sx8 b)
        rw [v4 i hi, y2 i hi]
        by_cases e : i < u
        · rw [if_pos e, if_pos e]
          exact u4 i e
        · rw [if_neg e, if_neg e]
          have h1 : (yv x (n - (i - u))).toInt % 256 < 256 := Int.emod_lt_of_pos _ (by decide)
          have h0 : 0 ≤ (yv x (n - (i - u))).toInt % 256 := Int.emod_nonneg _ (by decide)
          exact ⟨((yv x (n - (i - u))).toInt % 256).toNat, by omega, byte_m _, byte_c _⟩
      · show RR (d.1 15) (d.1 16) (d.1 17) (m'.2 3)
        rw [v1 15 (by omega), v1 16 (by omega), v1 17 (by omega), y3]
        exact hRf
      · exact hI
    · rw [if_neg q2, if_neg q2]
      apply fin
      · simp only [c_full, m_full, Option.bind_some, ↓reduceIte]
        exact rfl
      · exact rd5 z
      · exact ⟨⟨a, hM, hS, hB, hs, hb⟩, hTx, hRf.full, hI⟩
  · rw [if_neg q, if_neg q]
    apply fin
    · simp only [c_bad, m_bad, Option.bind_some, ↓reduceIte]
      exact rfl
    · exact rd5 z
    · exact ⟨⟨a, hM, hS, hB, hs, hb⟩, hTx, hRf.bad, hI⟩
theorem shl_dec : ∀ n : Fin 7, (1 : Int32) <<< (J ((n.val : Nat) : Int) &&& 31) = J ((2 ^ n.val : Nat) : Int) := by decide +kernel
theorem shl_J {n : Nat} (h : n < 7) : (1 : Int32) <<< (J (n : Int) &&& 31) = J ((2 ^ n : Nat) : Int) := shl_dec ⟨n, h⟩
theorem c_holds (k : Nat) {s p : Nat} (hs : s < 64) (hp : p < 6) : fX6_holds k (J s) (J p) = some (if s.testBit p = true then 1 else 0) := by
  unfold fX6_holds
  rw [bit_J hs hp]
  by_cases q : s.testBit p = true
  · rw [if_pos q, if_pos rfl]
  · rw [if_neg q, if_neg (by decide)]
def frb (s : Nat) : Nat → Option Nat
  | 0 => none
  | j + 1 => match frb s j with
    | some e => some e
    | none => if s.testBit j = true then some j else none
def okw (s : Nat) (T : Nat → Int) : Nat → Bool
  | 0 => true
  | j + 1 => okw s T j && (if s.testBit j = true then (match frb s j with | none => true | some e => decide (T j = T e)) else true)
theorem frb_s (s j : Nat) : frb s (j + 1) = match frb s j with
    | some e => some e
    | none => if s.testBit j = true then some j else none := rfl
theorem okw_s (s : Nat) (T : Nat → Int) (j : Nat) : okw s T (j + 1) = (okw s T j && (if s.testBit j = true then (match frb s j with | none => true | some e => decide (T j = T e)) else true)) := rfl
theorem okw_mono {s : Nat} {T : Nat → Int} {i j : Nat} (h : i ≤ j) (t : okw s T i = false) : okw s T j = false := by
  induction j with
  | zero =>
    have : i = 0 := by omega
    subst this
    exact t
  | succ j ih =>
    by_cases q : i = j + 1
    · subst q
      exact t
    · rw [okw_s, ih (by omega)]
      rfl
theorem frb_lt {s j e : Nat} (h : frb s j = some e) : e < j := by
  induction j with
  | zero => cases h
  | succ j ih =>
    rw [frb_s] at h
    cases q : frb s j with
    | some e' =>
      rw [q] at h
      cases h
      have := ih q
      omega
    | none =>
      rw [q] at h
      by_cases t : s.testBit j = true
      · rw [if_pos t] at h
        cases h
        omega
      · rw [if_neg t] at h
        cases h
set_option maxHeartbeats 1000000 in
theorem c_may (k : Nat) (hk : 100 < k) {st : Dat} {a : Nat → Int} (hS : SS st a) (hs : WS a) {s w : Nat} (h64 : s < 64) (hw : (w : Int) < a 54) {f : Nat → Int32} {t : Nat → Int} (hf : ∀ e : Nat, e < 3 → f e = J (t e) ∧ 0 ≤ t e ∧ t e ≤ 9999) :
    fX4_mayComeFrom k st 3 f (J w) (J s) = some (if okw s (fun e => t e - snw a w e) (a 55).toNat = true then 1 else 0) := by
  have n54 := hs.1
  have n55 := hs.2.1
  have h3 := hS.1.2.1
  unfold fX4_mayComeFrom
  refine lp_for (fun (j : Nat) (v : Int32 × Int32) => v.2 = J j ∧ okw s (fun e => t e - snw a w e) j = true ∧ ((frb s j = none ∧ v.1 = -1) ∨ ∃ e : Nat, frb s j = some e ∧ v.1 = J e)) (a 55).toNat (fun (o : Option Int32) => o = some (if okw s (fun e => t e - snw a w e) (a 55).toNat = true then 1 else 0)) ?_ ?_ ⟨rfl, rfl, Or.inl ⟨rfl, rfl⟩⟩ (by omega)
  · intro j v hj ⟨hv, ho, hF⟩
    obtain ⟨x, i⟩ := v
    have hv' : i = J j := hv
    subst hv'
    have hq : (J (a 55) ≤ J j) = False := by rw [J_le (by omega)]; exact eq_false (by omega)
    have sj := c_soundTime k hS hs hw (show (j : Int) < a 55 by omega)
    have bj := snw_b hs (w := w) (e := j) (by omega) (by omega)
    have fj := hf j (by omega)
    by_cases q : s.testBit j = true
    · have hh : fX6_holds k (J s) (J j) = some 1 := by rw [c_holds k h64 (by omega), if_pos q]
      rcases hF with ⟨hF, hx⟩ | ⟨e, hF, hx⟩
      · have hx' : x = -1 := hx
        subst hx'
        left
        refine ⟨(J j, J ((j + 1 : Nat) : Int)), fun rec => ?_, rfl, ?_, Or.inr ⟨j, ?_, rfl⟩⟩
        · unfold fX4_mayComeFrom_B6
          simp (disch := omega) only [h3, hq, if_false, hh, Option.bind_some, show ((1 : Int32) = 0) = False from by decide, if_true, chk_J, sj, J_nat, Int.toNat_natCast, J_suc]
        · rw [okw_s, ho, if_pos q, hF]
          rfl
        · rw [frb_s, hF]
          exact if_pos q
      · have hx' : x = J e := hx
        subst hx'
        have he := frb_lt hF
        have se := c_soundTime k hS hs hw (show (e : Int) < a 55 by omega)
        have be := snw_b hs (w := w) (e := e) (by omega) (by omega)
        have fe := hf e (by omega)
        have ne : (J (e : Int) = -1) = False := by
          rw [show (-1 : Int32) = J (-1) from rfl, J_eq (by omega)]
          exact eq_false (by omega)
        have ht : (J (t j - snw a w j) = J (t e - snw a w e)) = (t j - snw a w j = t e - snw a w e) := by rw [J_eq (by omega)]
        by_cases c : t j - snw a w j = t e - snw a w e
        · left
          refine ⟨(J e, J ((j + 1 : Nat) : Int)), fun rec => ?_, rfl, ?_, Or.inr ⟨e, ?_, rfl⟩⟩
          · unfold fX4_mayComeFrom_B6
            simp (disch := omega) only [h3, hq, if_false, hh, Option.bind_some, show ((1 : Int32) = 0) = False from by decide, ne, if_true, chk_J, sj, se, J_nat, Int.toNat_natCast, J_suc, fj.1, fe.1, J_sub, ht]
            rw [if_pos c]
          · rw [okw_s, ho, if_pos q, hF]
            exact decide_eq_true c
          · rw [frb_s, hF]
        · right
          intro rec
          have t1 : okw s (fun e => t e - snw a w e) (j + 1) = false := by
            rw [okw_s, ho, if_pos q, hF]
            exact decide_eq_false c
          have t2 := okw_mono (show j + 1 ≤ (a 55).toNat by omega) t1
          unfold fX4_mayComeFrom_B6
          simp (disch := omega) only [h3, hq, if_false, hh, Option.bind_some, show ((1 : Int32) = 0) = False from by decide, ne, if_true, chk_J, sj, se, J_nat, Int.toNat_natCast, J_suc, fj.1, fe.1, J_sub, ht]
          rw [if_neg c, t2]
          rfl
    · have hh : fX6_holds k (J s) (J j) = some 0 := by rw [c_holds k h64 (by omega), if_neg q]
      left
      refine ⟨(x, J ((j + 1 : Nat) : Int)), fun rec => ?_, rfl, ?_, ?_⟩
      · unfold fX4_mayComeFrom_B6
        simp only [h3, hq, if_false, hh, Option.bind_some, if_true, J_suc]
      · rw [okw_s, ho, if_neg q]
        rfl
      · rcases hF with ⟨hF, hx⟩ | ⟨e, hF, hx⟩
        · left
          refine ⟨?_, hx⟩
          rw [frb_s, hF]
          exact if_neg q
        · right
          refine ⟨e, ?_, hx⟩
          rw [frb_s, hF]
  · intro v ⟨hv, ho, hF⟩ rec
    obtain ⟨x, i⟩ := v
    have hv' : i = J ((a 55).toNat : Nat) := hv
    subst hv'
    have hq : (J (a 55) ≤ J ((a 55).toNat : Nat)) = True := by rw [J_le (by omega)]; exact eq_true (by omega)
    unfold fX4_mayComeFrom_B6
    simp only [h3, hq, if_true, ho]
set_option maxHeartbeats 1000000 in
theorem m_may (k : Nat) (hk : 100 < k) {m : Dat} {a : Nat → Int} (hM : m.2 0 = Jf a) (hs : WS a) {s w : Nat} (h64 : s < 64) (hw : (w : Int) < a 54) {t : Nat → Int} (ht : ∀ e : Nat, e < 3 → 0 ≤ t e ∧ t e ≤ 9999) {K : Int32 → Option (Int32 × Dat)} :
    lp (fX7_wrong_B87 k (J s) (J (t 0)) (J (t 1)) (J (t 2)) (J w) m K) k (1000000, 1, 0) = K (if okw s (fun e => t e - snw a w e) (a 55).toNat = true then 1 else 0) := by
  have n54 := hs.1
  have n55 := hs.2.1
  refine lp_for (fun (j : Nat) (v : Int32 × Int32 × Int32) => v.2.2 = J j ∧ v.2.1 = (if okw s (fun e => t e - snw a w e) j = true then 1 else 0) ∧ ((frb s j = none ∧ v.1 = 1000000) ∨ ∃ (e : Nat) (b : Int), frb s j = some e ∧ v.1 = J b ∧ (-10000 ≤ b ∧ b ≤ 10000) ∧ (okw s (fun e => t e - snw a w e) j = true → b = t e - snw a w e))) (a 55).toNat (fun (o : Option (Int32 × Dat)) => o = K (if okw s (fun e => t e - snw a w e) (a 55).toNat = true then 1 else 0)) ?_ ?_ ⟨rfl, rfl, Or.inl ⟨rfl, rfl⟩⟩ (by omega)
  · intro j v hj ⟨hv, ho, hF⟩
    obtain ⟨x, y, i⟩ := v
    have hv' : i = J j := hv
    subst hv'
    have hy : y = (if okw s (fun e => t e - snw a w e) j = true then 1 else 0) := ho
    subst hy
    replace hF : ((frb s j = none ∧ x = 1000000) ∨ ∃ (e : Nat) (b : Int), frb s j = some e ∧ x = J b ∧ (-10000 ≤ b ∧ b ≤ 10000) ∧ (okw s (fun e => t e - snw a w e) j = true → b = t e - snw a w e)) := hF
    have hq : (J (a 55) ≤ J j) = False := by rw [J_le (by omega)]; exact eq_false (by omega)
    have sj := m_soundOf k hM hs hw (show (j : Int) < a 55 by omega)
    have bj := snw_b hs (w := w) (e := j) (by omega) (by omega)
    have fj := ht j (by omega)
    have z0 : (J (j : Int) = 0) = (j = 0) := by rw [J_lit, J_eq (by omega)]; exact propext (by omega)
    have z1 : (J (j : Int) = 1) = (j = 1) := by rw [J_lit, J_eq (by omega)]; exact propext (by omega)
    by_cases q : s.testBit j = true
    · have hh : ((J (s : Int) >>> (J (j : Int) &&& 31)) &&& 1) = 1 := by rw [bit_J h64 (by omega), if_pos q]
      have step : ∀ rec : Int32 × Int32 × Int32 → Option (Int32 × Dat), fX7_wrong_B87 k (J s) (J (t 0)) (J (t 1)) (J (t 2)) (J w) m K rec (x, (if okw s (fun e => t e - snw a w e) j = true then 1 else 0), J j) = (if (if okw s (fun e => t e - snw a w e) j = true then (1 : Int32) else 0) = 0 then rec (J (t j - snw a w j), 0, J ((j + 1 : Nat) : Int)) else (if x = 1000000 then rec (J (t j - snw a w j), 1, J ((j + 1 : Nat) : Int)) else (if x = J (t j - snw a w j) then rec (J (t j - snw a w j), 1, J ((j + 1 : Nat) : Int)) else rec (J (t j - snw a w j), 0, J ((j + 1 : Nat) : Int))))) := fun rec => by
        unfold fX7_wrong_B87
        simp only [m_ears k hM, Option.bind_some, hq, if_false, hh, if_true, z0, z1, sj, J_suc, J_sub]
        by_cases j0 : j = 0
        · subst j0
          rw [if_pos rfl]
        · by_cases j1 : j = 1
          · subst j1
            rw [if_neg j0, if_pos rfl]
          · have j2 : j = 2 := by omega
            subst j2
            rw [if_neg j0, if_neg j1]
      left
      by_cases o : okw s (fun e => t e - snw a w e) j = true
      · rcases hF with ⟨hF, hx⟩ | ⟨e, b, hF, hx, hb, hbe⟩
        · subst hx
          have t1 : okw s (fun e => t e - snw a w e) (j + 1) = true := by
            rw [okw_s, o, if_pos q, hF]
            rfl
          refine ⟨(J (t j - snw a w j), 1, J ((j + 1 : Nat) : Int)), fun rec => ?_, rfl, ?_, Or.inr ⟨j, _, ?_, rfl, by omega, fun _ => rfl⟩⟩
          · rw [step, if_pos o, if_neg (by decide), if_pos rfl]
          · rw [t1]
            rfl
          · rw [frb_s, hF]
            exact if_pos q
        · subst hx
          have hb' := hbe o
          have nm : ¬ J b = 1000000 := by
            rw [J_lit, J_eq (by omega)]
            omega
          by_cases c : b = t j - snw a w j
          · have t1 : okw s (fun e => t e - snw a w e) (j + 1) = true := by
              rw [okw_s, o, if_pos q, hF]
              exact decide_eq_true (by omega)
            refine ⟨(J (t j - snw a w j), 1, J ((j + 1 : Nat) : Int)), fun rec => ?_, rfl, ?_, Or.inr ⟨e, _, ?_, rfl, by omega, fun _ => by omega⟩⟩
            · rw [step, if_pos o, if_neg (by decide), if_neg nm, if_pos (by rw [c])]
            · rw [t1]
              rfl
            · rw [frb_s, hF]
          · have t1 : okw s (fun e => t e - snw a w e) (j + 1) = false := by
              rw [okw_s, o, if_pos q, hF]
              exact decide_eq_false (by omega)
            refine ⟨(J (t j - snw a w j), 0, J ((j + 1 : Nat) : Int)), fun rec => ?_, rfl, ?_, Or.inr ⟨e, _, ?_, rfl, by omega, fun h => by rw [t1] at h; cases h⟩⟩
            · rw [step, if_pos o, if_neg (by decide), if_neg nm, if_neg (by rw [J_eq (by omega)]; exact c)]
            · rw [t1]
              rfl
            · rw [frb_s, hF]
      · have o' : okw s (fun e => t e - snw a w e) j = false := by
          cases h : okw s (fun e => t e - snw a w e) j with
          | true => exact absurd h o
          | false => rfl
        have t1 : okw s (fun e => t e - snw a w e) (j + 1) = false := by
          rw [okw_s, o']
          rfl
        refine ⟨(J (t j - snw a w j), 0, J ((j + 1 : Nat) : Int)), fun rec => ?_, rfl, ?_, ?_⟩
        · rw [step, if_neg o, if_pos rfl]
        · rw [t1]
          rfl
        · right
          rcases hF with ⟨hF, hx⟩ | ⟨e, b, hF, hx, hb, hbe⟩
          · exact ⟨j, t j - snw a w j, by rw [frb_s, hF]; show (if s.testBit j = true then some j else none) = some j; exact if_pos q, rfl, by omega, fun h => absurd h (by rw [t1]; decide)⟩
          · exact ⟨e, _, by rw [frb_s, hF], rfl, by omega, fun h => by rw [t1] at h; cases h⟩
    · have hh : (((J (s : Int) >>> (J (j : Int) &&& 31)) &&& 1) = 1) = False := by rw [bit_J h64 (by omega), if_neg q]; exact eq_false (by decide)
      have t1 : okw s (fun e => t e - snw a w e) (j + 1) = okw s (fun e => t e - snw a w e) j := by
        rw [okw_s, if_neg q, Bool.and_true]
      left
      refine ⟨(x, (if okw s (fun e => t e - snw a w e) j = true then 1 else 0), J ((j + 1 : Nat) : Int)), fun rec => ?_, rfl, ?_, ?_⟩
      · unfold fX7_wrong_B87
        simp only [m_ears k hM, Option.bind_some, hq, if_false, hh, J_suc]
      · rw [t1]
      · rcases hF with ⟨hF, hx⟩ | ⟨e, b, hF, hx, hb, hbe⟩
        · left
          refine ⟨?_, hx⟩
          rw [frb_s, hF]
          exact if_neg q
        · right
          refine ⟨e, b, ?_, hx, hb, fun h => hbe (by rw [← t1]; exact h)⟩
          rw [frb_s, hF]
  · intro v ⟨hv, ho, hF⟩ rec
    obtain ⟨x, y, i⟩ := v
    have hv' : i = J ((a 55).toNat : Nat) := hv
    subst hv'
    have hy : y = (if okw s (fun e => t e - snw a w e) (a 55).toNat = true then 1 else 0) := ho
    subst hy
    have hq : (J (a 55) ≤ J ((a 55).toNat : Nat)) = True := by rw [J_le (by omega)]; exact eq_true (by omega)
    unfold fX7_wrong_B87
    simp only [m_ears k hM, Option.bind_some, hq, if_true]
def wbt (P : Nat → Bool) : Nat → Int32
  | 0 => 0
  | n + 1 => if P n = true then wbt P n ||| (1 <<< (J (n : Int) &&& 31)) else wbt P n
theorem wbt_s (P : Nat → Bool) (n : Nat) : wbt P (n + 1) = if P n = true then wbt P n ||| (1 <<< (J (n : Int) &&& 31)) else wbt P n := rfl
set_option maxHeartbeats 2000000 in
theorem L_24 (k L : Nat) (hk : 100 < k) (xs : Nat → Int32) (hL : L ≤ 2560) : OP L (fL_24 k L xs) := by
  intro rec z c st bd i0 i1 b0 b1 t5 t6 t7 h8 t9 s10 r11 m hz hzL hR
  unfold fL_24
  simp only [rd hz hzL hL]
  generalize xs (J z + 1).toNatClampNeg = x1
  generalize xs (J z + 2).toNatClampNeg = x2
  generalize xs (J z + 3).toNatClampNeg = x3
  generalize xs (J z + 4).toNatClampNeg = x4
  obtain ⟨X, hX, rfl⟩ := J_ex x1
  obtain ⟨Y, hY, rfl⟩ := J_ex x2
  obtain ⟨Z, hZ, rfl⟩ := J_ex x3
  obtain ⟨W, hW, rfl⟩ := J_ex x4
  obtain ⟨⟨a, hM, hS, hB, hs, hb⟩, hTx, hRf, hI⟩ := hR
  obtain ⟨n54, n55, n20, n21, n22, n18, hp⟩ := id hs
  obtain ⟨n56, n57, n23, hP, hQ⟩ := id hb
  have c1 : (J X < 1) = (X < 1) := by rw [J_lit, J_lt (by omega)]
  have e55 : J (a 55) = J ((a 55).toNat : Nat) := J_z n55.1
  obtain ⟨pw, hp2, hpw⟩ : ∃ pw : Nat, pw = 2 ^ (a 55).toNat ∧ pw ≤ 8 := by
    refine ⟨_, rfl, ?_⟩
    have : (a 55).toNat = 0 ∨ (a 55).toNat = 1 ∨ (a 55).toNat = 2 ∨ (a 55).toNat = 3 := by omega
    rcases this with h | h | h | h <;> rw [h] <;> decide
  have sh : (1 : Int32) <<< (J (a 55) &&& 31) = J (pw : Int) := by rw [e55, hp2]; exact shl_J (by omega)
  have c2 : (J X < J (pw : Int)) = (X < (pw : Int)) := by rw [J_lt (by omega)]
  have mi : fX7_in k (J X).toInt64 1 ((1 <<< (J (a 55) &&& 31)) - 1).toInt64 = some (if 1 ≤ X ∧ X ≤ (pw : Int) - 1 then 1 else 0) := by
    rw [sh, show (1 : Int32) = J 1 from rfl, J_sub, J_64 hX, J_64 (by omega), show (1 : Int64) = K 1 from rfl]
    exact m_in k ⟨hX, by decide, by omega⟩
  unfold fX6_wrong fX7_wrong
  rw [cw_time k hY, mi_0_9999 k hY, cw_time k hZ, mi_0_9999 k hZ, cw_time k hW, mi_0_9999 k hW, m_ears k hM, hS.1.2.1]
  simp only [Option.bind_some, sh, c1, c2]
  rw [sh] at mi
  rw [mi]
  simp only [Option.bind_some, b_ite]
  by_cases q1 : X < 1
  · rw [if_pos q1, if_neg (by omega)]
    apply fin
    · simp only [c_bad, m_bad, Option.bind_some, ↓reduceIte]
      exact rfl
    · exact rd5 z
    · exact ⟨⟨a, hM, hS, hB, hs, hb⟩, hTx, hRf.bad, hI⟩
  · by_cases q2 : X < (pw : Int)
    · rw [if_neg q1, if_pos q2, if_pos (show 1 ≤ X ∧ X ≤ (pw : Int) - 1 from by omega)]
      by_cases q3 : 0 ≤ Y ∧ Y ≤ 9999
      · rw [if_pos q3, if_pos q3]
        by_cases q4 : 0 ≤ Z ∧ Z ≤ 9999
        · rw [if_pos q4, if_pos q4]
          by_cases q5 : 0 ≤ W ∧ W ≤ 9999
          · rw [if_pos q5, if_pos q5]
            obtain ⟨s, rfl⟩ : ∃ s : Nat, X = s := ⟨X.toNat, by omega⟩
            have h64 : s < 64 := by omega
            have k0 : ∀ {α : Type} (E : Option α), chk 3 (0 : Int32) E = E := fun E => by rw [J_lit, chk_J (by omega)]
            have k1 : ∀ {α : Type} (E : Option α), chk 3 (1 : Int32) E = E := fun E => by rw [J_lit, chk_J (by omega)]
            have k2 : ∀ {α : Type} (E : Option α), chk 3 (2 : Int32) E = E := fun E => by rw [J_lit, chk_J (by omega)]
            let T : Nat → Int := fun e => if e = 0 then Y else if e = 1 then Z else W
            have hT : ∀ e : Nat, e < 3 → 0 ≤ T e ∧ T e ≤ 9999 := fun e he => by
              show 0 ≤ (if e = 0 then Y else if e = 1 then Z else W) ∧ (if e = 0 then Y else if e = 1 then Z else W) ≤ 9999
              omega
            have hf : ∀ e : Nat, e < 3 → (upd (upd (upd (c.2 14) (0 : Int32).toNatClampNeg (J Y)) (1 : Int32).toNatClampNeg (J Z)) (2 : Int32).toNatClampNeg (J W)) e = J (T e) ∧ 0 ≤ T e ∧ T e ≤ 9999 := fun e he => by
              refine ⟨?_, hT e he⟩
              have : e = 0 ∨ e = 1 ∨ e = 2 := by omega
              rcases this with h | h | h <;> subst h <;> rfl
            let P : Nat → Bool := fun w => okw s (fun e => T e - snw a w e) (a 55).toNat
            have nz : ∀ x : Int32, x ||| 0 = x := fun x => Int32.or_zero
            have l1 : lp (fX6_wrong_B82 k (J s) (c.1, va_up c.2 14 (upd (upd (upd (c.2 14) (0 : Int32).toNatClampNeg (J Y)) (1 : Int32).toNatClampNeg (J Z)) (2 : Int32).toNatClampNeg (J W))) st (fun (w23 : Int32) => (if w23 = 0 then some ((-1), (c.1, va_up c.2 14 (upd (upd (upd (c.2 14) (0 : Int32).toNatClampNeg (J Y)) (1 : Int32).toNatClampNeg (J Z)) (2 : Int32).toNatClampNeg (J W)))) else some (w23, (c.1, va_up c.2 14 (upd (upd (upd (c.2 14) (0 : Int32).toNatClampNeg (J Y)) (1 : Int32).toNatClampNeg (J Z)) (2 : Int32).toNatClampNeg (J W))))))) k (0, 0) = some (if wbt P (a 54).toNat = 0 then -1 else wbt P (a 54).toNat, (c.1, va_up c.2 14 (upd (upd (upd (c.2 14) (0 : Int32).toNatClampNeg (J Y)) (1 : Int32).toNatClampNeg (J Z)) (2 : Int32).toNatClampNeg (J W)))) := by
              refine lp_run (fun j => (wbt P j, J (j : Int))) (a 54).toNat _ (fun j hj rec => ?_) (fun rec => ?_) (by omega)
              · have hq : (J (a 54) ≤ J j) = False := by rw [J_le (by omega)]; exact eq_false (by omega)
                have cm := c_may k hk hS hs h64 (show (j : Int) < a 54 by omega) hf
                unfold fX6_wrong_B82
                simp only [hS.1.1, hq, if_false, vu_same, cm, Option.bind_some, b_ite, J_suc, wbt_s]
                by_cases t : okw s (fun e => T e - snw a j e) (a 55).toNat = true
                · rw [if_pos t, if_pos t]
                · rw [if_neg t, if_neg t]
              · have hq : (J (a 54) ≤ J ((a 54).toNat : Nat)) = True := by rw [J_le (by omega)]; exact eq_true (by omega)
                unfold fX6_wrong_B82
                simp only [hS.1.1, hq, if_true]
                by_cases t : wbt P (a 54).toNat = 0
                · rw [if_pos t, if_pos t]
                · rw [if_neg t, if_neg t]
            have l2 : lp (fX7_wrong_B68 k (J s) (J Y) (J Z) (J W) m (fun (w7 : Int32) => (if w7 = 0 then some ((-1), m) else some (w7, m)))) k (0, 0) = some (if wbt P (a 54).toNat = 0 then -1 else wbt P (a 54).toNat, m) := by
              refine lp_run (fun j => (wbt P j, J (j : Int))) (a 54).toNat _ (fun j hj rec => ?_) (fun rec => ?_) (by omega)
              · have hq : (J (a 54) ≤ J j) = False := by rw [J_le (by omega)]; exact eq_false (by omega)
                have mm := fun K => @m_may k hk m a hM hs s j h64 (show (j : Int) < a 54 by omega) T hT K
                have mm' : ∀ K, lp (fX7_wrong_B87 k (J s) (J Y) (J Z) (J W) (J j) m K) k (1000000, 1, 0) = K (if okw s (fun e => T e - snw a j e) (a 55).toNat = true then 1 else 0) := mm
                unfold fX7_wrong_B68
                simp only [m_windows k hM, Option.bind_some, hq, if_false, mm', b_ite, J_suc, wbt_s, nz]
                by_cases t : okw s (fun e => T e - snw a j e) (a 55).toNat = true
                · rw [if_pos t, if_pos t]
                · rw [if_neg t, if_neg t]
              · have hq : (J (a 54) ≤ J ((a 54).toNat : Nat)) = True := by rw [J_le (by omega)]; exact eq_true (by omega)
                unfold fX7_wrong_B68
                simp only [m_windows k hM, Option.bind_some, hq, if_true]
                by_cases t : wbt P (a 54).toNat = 0
                · rw [if_pos t, if_pos t]
                · rw [if_neg t, if_neg t]
            apply fin
            · simp only [k0, k1, k2, l1, l2, Option.bind_some, ↓reduceIte]
              all_goals exact rfl
            · exact rd5 z
            · exact ⟨⟨a, hM, hS, hB, hs, hb⟩, hTx, hRf, hI⟩
          · rw [if_neg q5, if_neg q5]
            apply fin
            · simp only [c_bad, m_bad, Option.bind_some, ↓reduceIte]
              exact rfl
            · exact rd5 z
            · exact ⟨⟨a, hM, hS, hB, hs, hb⟩, hTx, hRf.bad, hI⟩
        · rw [if_neg q4, if_neg q4]
          apply fin
          · simp only [c_bad, m_bad, Option.bind_some, ↓reduceIte]
            exact rfl
          · exact rd5 z
          · exact ⟨⟨a, hM, hS, hB, hs, hb⟩, hTx, hRf.bad, hI⟩
      · rw [if_neg q3, if_neg q3]
        apply fin
        · simp only [c_bad, m_bad, Option.bind_some, ↓reduceIte]
          exact rfl
        · exact rd5 z
        · exact ⟨⟨a, hM, hS, hB, hs, hb⟩, hTx, hRf.bad, hI⟩
    · rw [if_neg q1, if_neg q2, if_neg (by omega)]
      apply fin
      · simp only [c_bad, m_bad, Option.bind_some, ↓reduceIte]
        exact rfl
      · exact rd5 z
      · exact ⟨⟨a, hM, hS, hB, hs, hb⟩, hTx, hRf.bad, hI⟩
def prt (a : Nat → Int) (s e v w : Nat) : Nat := if s.testBit v = true ∧ s.testBit w = true ∧ ¬ snw a v e - snw a v 0 = snw a w e - snw a w 0 then 1 else 0
def isu (a : Nat → Int) (s e v : Nat) : Nat → Nat
  | 0 => 0
  | w + 1 => isu a s e v w + (if v < w then prt a s e v w else 0)
def osu (a : Nat → Int) (s e N : Nat) : Nat → Nat
  | 0 => 0
  | v + 1 => osu a s e N v + isu a s e v N
theorem isu_s (a : Nat → Int) (s e v w : Nat) : isu a s e v (w + 1) = isu a s e v w + (if v < w then prt a s e v w else 0) := rfl
theorem osu_s (a : Nat → Int) (s e N v : Nat) : osu a s e N (v + 1) = osu a s e N v + isu a s e v N := rfl
theorem isu_0 (a : Nat → Int) (s e v : Nat) : ∀ w : Nat, w ≤ v + 1 → isu a s e v w = 0 := by
  intro w
  induction w with
  | zero => intro _; rfl
  | succ w ih =>
    intro h
    rw [isu_s, ih (by omega), if_neg (by omega)]
theorem isu_no {a : Nat → Int} {s e v : Nat} (h : ¬ s.testBit v = true) : ∀ w : Nat, isu a s e v w = 0 := by
  intro w
  induction w with
  | zero => rfl
  | succ w ih =>
    rw [isu_s, ih]
    unfold prt
    rw [if_neg (show ¬ (s.testBit v = true ∧ _) from fun q => h q.1)]
    split <;> rfl
theorem isu_top {a : Nat → Int} {s e v N : Nat} (hN : ∀ w : Nat, N ≤ w → ¬ s.testBit w = true) : ∀ i : Nat, isu a s e v (N + i) = isu a s e v N := by
  intro i
  induction i with
  | zero => rfl
  | succ i ih =>
    rw [show N + (i + 1) = N + i + 1 from rfl, isu_s, ih]
    unfold prt
    rw [if_neg (show ¬ (s.testBit v = true ∧ s.testBit (N + i) = true ∧ _) from fun q => hN (N + i) (by omega) q.2.1)]
    split <;> rfl
theorem osu_top {a : Nat → Int} {s e N : Nat} (hN : ∀ w : Nat, N ≤ w → ¬ s.testBit w = true) (i M : Nat) (hM : M = N + i) : osu a s e M M = osu a s e N N := by
  have h1 : ∀ v : Nat, osu a s e M v = osu a s e N v := fun v => by
    induction v with
    | zero => rfl
    | succ v ih => rw [osu_s, osu_s, ih, hM, isu_top hN i]
  rw [h1, hM]
  have h2 : ∀ j : Nat, osu a s e N (N + j) = osu a s e N N := by
    intro j
    induction j with
    | zero => rfl
    | succ j ih =>
      have h3 := isu_no (a := a) (e := e) (hN (N + j) (by omega)) N
      show osu a s e N (N + j) + isu a s e (N + j) N = _
      rw [ih, h3, Nat.add_zero]
  exact h2 i
theorem isu_b (a : Nat → Int) (s e v w : Nat) : isu a s e v w ≤ w := by
  induction w with
  | zero => exact Nat.le_refl 0
  | succ w ih =>
    rw [isu_s]
    unfold prt
    split
    · split <;> omega
    · omega
theorem osu_b (a : Nat → Int) (s e N v : Nat) (hN : N ≤ 6) : osu a s e N v ≤ 6 * v := by
  induction v with
  | zero => exact Nat.le_refl 0
  | succ v ih =>
    have := isu_b a s e v N
    rw [osu_s]
    omega
set_option maxHeartbeats 1000000 in
theorem c_pairs (k : Nat) (hk : 100 < k) {st : Dat} {a : Nat → Int} (hS : SS st a) (hs : WS a) {s e : Nat} (h64 : s < 64) (he : (e : Int) < a 55) :
    fX4_pairsParted k st (J s) (J e) = some (J (osu a s e (a 54).toNat (a 54).toNat : Nat)) := by
  have n54 := hs.1
  have n55 := hs.2.1
  have h0 := hS.1.1
  unfold fX4_pairsParted
  refine lp_run (fun j => (J (osu a s e (a 54).toNat j : Nat), J (j : Int))) (a 54).toNat _ (fun j hj rec => ?_) (fun rec => ?_) (by omega)
  · have hq : (J (a 54) ≤ J j) = False := by rw [J_le (by omega)]; exact eq_false (by omega)
    have s1 := c_soundTime k hS hs (show (j : Int) < a 54 by omega) he
    have s2 : fX4_soundTime k st (J j) 0 = some (J (snw a j 0)) := c_soundTime k hS hs (show (j : Int) < a 54 by omega) (e := 0) (by omega)
    have b1 := snw_b hs (w := j) (e := e) (by omega) (by omega)
    have b2 := snw_b hs (w := j) (e := 0) (by omega) (by omega)
    have hh := c_holds k h64 (show j < 6 by omega)
    unfold fX4_pairsParted_B5
    simp only [h0, hq, if_false, hh, Option.bind_some, b_ite, s1, s2, J_sub, J_suc]
    by_cases t : s.testBit j = true
    · rw [if_pos t]
      have key := lp_run (B := fX4_pairsParted_B49 k (J s) (J e) (J (snw a j e - snw a j 0)) st (fun w11 => rec (w11, J ((j + 1 : Nat) : Int)))) (fun i => (J ((osu a s e (a 54).toNat j + isu a s e j (j + 1 + i) : Nat) : Int), J ((j + 1 + i : Nat) : Int))) ((a 54).toNat - (j + 1)) (rec (J (osu a s e (a 54).toNat (j + 1) : Nat), J ((j + 1 : Nat) : Int))) (fun i hi rec' => ?_) (fun rec' => ?_) (k := k) (by omega)
      · have z : isu a s e j (j + 1 + 0) = 0 := isu_0 a s e j _ (by omega)
        rw [z] at key
        exact key
      · have hq2 : (J (a 54) ≤ J ((j + 1 + i : Nat) : Int)) = False := by rw [J_le (by omega)]; exact eq_false (by omega)
        have s3 := c_soundTime k hS hs (show ((j + 1 + i : Nat) : Int) < a 54 by omega) he
        have s4 : fX4_soundTime k st (J ((j + 1 + i : Nat) : Int)) 0 = some (J (snw a (j + 1 + i) 0)) := c_soundTime k hS hs (show ((j + 1 + i : Nat) : Int) < a 54 by omega) (e := 0) (by omega)
        have b3 := snw_b hs (w := j + 1 + i) (e := e) (by omega) (by omega)
        have b4 := snw_b hs (w := j + 1 + i) (e := 0) (by omega) (by omega)
        have hh2 := c_holds k h64 (show j + 1 + i < 6 by omega)
        have hx : (J (snw a (j + 1 + i) e - snw a (j + 1 + i) 0) = J (snw a j e - snw a j 0)) = (snw a (j + 1 + i) e - snw a (j + 1 + i) 0 = snw a j e - snw a j 0) := by rw [J_eq (by omega)]
        unfold fX4_pairsParted_B49
        simp only [h0, hq2, if_false, hh2, Option.bind_some, b_ite, s3, s4, J_sub, J_suc, hx]
        rw [show j + 1 + (i + 1) = j + 1 + i + 1 from rfl, isu_s, if_pos (show j < j + 1 + i by omega)]
        unfold prt
        by_cases t2 : s.testBit (j + 1 + i) = true
        · rw [if_pos t2]
          by_cases c : snw a (j + 1 + i) e - snw a (j + 1 + i) 0 = snw a j e - snw a j 0
          · rw [if_pos c, if_neg (fun q => q.2.2 c.symm)]
            rfl
          · rw [if_neg c, if_pos ⟨t, t2, fun q => c q.symm⟩]
            rfl
        · rw [if_neg t2, if_neg (fun q => t2 q.2.1)]
          rfl
      · have hq2 : (J (a 54) ≤ J ((j + 1 + ((a 54).toNat - (j + 1)) : Nat) : Int)) = True := by rw [J_le (by omega)]; exact eq_true (by omega)
        unfold fX4_pairsParted_B49
        simp only [h0, hq2, if_true]
        rw [osu_s, show j + 1 + ((a 54).toNat - (j + 1)) = (a 54).toNat from by omega]
    · rw [if_neg t, osu_s, isu_no t]
      rfl
  · have hq : (J (a 54) ≤ J ((a 54).toNat : Nat)) = True := by rw [J_le (by omega)]; exact eq_true (by omega)
    unfold fX4_pairsParted_B5
    simp only [h0, hq, if_true]
set_option maxHeartbeats 1000000 in
theorem m_pairs (k : Nat) (hk : 100 < k) {m : Dat} {a : Nat → Int} (hM : m.2 0 = Jf a) (hs : WS a) {s e : Nat} (h64 : s < 64) (hN : ∀ w : Nat, (a 54).toNat ≤ w → ¬ s.testBit w = true) (he : (e : Int) < a 55) {K : Int32 → Option (Int32 × Dat)} :
    lp (fX7_nextEar_B47 k (J s) (J e) m K) k (0, 0) = K (J (osu a s e 6 6 : Nat)) := by
  have n54 := hs.1
  have n55 := hs.2.1
  refine lp_run (fun j => (J (osu a s e 6 j : Nat), J (j : Int))) 6 _ (fun j hj rec => ?_) (fun rec => ?_) (by omega)
  · have hq : (6 ≤ J (j : Int)) = False := by rw [J_lit, J_le (by omega)]; exact eq_false (by omega)
    unfold fX7_nextEar_B47
    simp only [hq, if_false, J_suc]
    have key := lp_run (B := fX7_nextEar_B60 k (J s) (J e) (J j) m (fun w3 => rec (w3, J ((j + 1 : Nat) : Int)))) (fun i => (J ((osu a s e 6 j + isu a s e j (j + 1 + i) : Nat) : Int), J ((j + 1 + i : Nat) : Int))) (6 - (j + 1)) (rec (J (osu a s e 6 (j + 1) : Nat), J ((j + 1 : Nat) : Int))) (fun i hi rec' => ?_) (fun rec' => ?_) (k := k) (by omega)
    · have z : isu a s e j (j + 1 + 0) = 0 := isu_0 a s e j _ (by omega)
      rw [z] at key
      exact key
    · have hq2 : (6 ≤ J ((j + 1 + i : Nat) : Int)) = False := by rw [J_lit, J_le (by omega)]; exact eq_false (by omega)
      have nz : ∀ x : Nat, J (x : Int) + 0 = J x := fun x => by rw [J_lit, J_add]; congr 1
      have h1 := @bit_J s j h64 (by omega)
      have h2 := @bit_J s (j + 1 + i) h64 (by omega)
      unfold fX7_nextEar_B60
      simp only [hq2, if_false, h1, h2, J_suc, nz]
      rw [show j + 1 + (i + 1) = j + 1 + i + 1 from rfl, isu_s, if_pos (show j < j + 1 + i by omega)]
      unfold prt
      by_cases t : s.testBit j = true
      · by_cases t2 : s.testBit (j + 1 + i) = true
        · have lj : j < (a 54).toNat := by
            by_cases q : j < (a 54).toNat
            · exact q
            · exact absurd t (hN j (by omega))
          have li : j + 1 + i < (a 54).toNat := by
            by_cases q : j + 1 + i < (a 54).toNat
            · exact q
            · exact absurd t2 (hN _ (by omega))
          have s1 := m_soundOf k hM hs (show (j : Int) < a 54 by omega) he
          have s2 : fX7_soundOf k m (J j) 0 = some (J (snw a j 0)) := m_soundOf k hM hs (show (j : Int) < a 54 by omega) (e := 0) (by omega)
          have b1 := snw_b hs (w := j) (e := e) (by omega) (by omega)
          have b2 := snw_b hs (w := j) (e := 0) (by omega) (by omega)
          have s3 := m_soundOf k hM hs (show ((j + 1 + i : Nat) : Int) < a 54 by omega) he
          have s4 : fX7_soundOf k m (J ((j + 1 + i : Nat) : Int)) 0 = some (J (snw a (j + 1 + i) 0)) := m_soundOf k hM hs (show ((j + 1 + i : Nat) : Int) < a 54 by omega) (e := 0) (by omega)
          have b3 := snw_b hs (w := j + 1 + i) (e := e) (by omega) (by omega)
          have b4 := snw_b hs (w := j + 1 + i) (e := 0) (by omega) (by omega)
          have hx : (J (snw a j e - snw a j 0) = J (snw a (j + 1 + i) e - snw a (j + 1 + i) 0)) = (snw a j e - snw a j 0 = snw a (j + 1 + i) e - snw a (j + 1 + i) 0) := by rw [J_eq (by omega)]
          rw [if_pos (by rw [if_pos t]), if_pos (by rw [if_pos t2]), if_neg (by decide)]
          simp only [s1, s2, s3, s4, Option.bind_some, J_sub, hx]
          by_cases c : snw a j e - snw a j 0 = snw a (j + 1 + i) e - snw a (j + 1 + i) 0
          · rw [if_pos c, if_neg (fun q => q.2.2 c)]
            rfl
          · rw [if_neg c, if_pos ⟨t, t2, c⟩]
            rfl
        · rw [if_pos (by rw [if_pos t]), if_neg (by rw [if_neg t2]; decide), if_pos trivial, if_neg (fun q => t2 q.2.1)]
          rfl
      · rw [if_neg (by rw [if_neg t]; decide), if_pos trivial, if_neg (fun q => t q.1)]
        rfl
    · have hq2 : (6 ≤ J ((j + 1 + (6 - (j + 1)) : Nat) : Int)) = True := by rw [J_lit, J_le (by omega)]; exact eq_true (by omega)
      unfold fX7_nextEar_B60
      simp only [hq2, if_true]
      rw [osu_s, show j + 1 + (6 - (j + 1)) = 6 from by omega]
  · unfold fX7_nextEar_B47
    rw [if_pos (show (6 : Int32) ≤ J ((6 : Nat) : Int) from by decide)]
def bes (f : Nat → Nat) : Nat → Int × Nat
  | 0 => (-1, 0)
  | e + 1 => if f e ≤ (bes f e).2 then bes f e else ((e : Int), f e)
theorem bes_b {f : Nat → Nat} (h : ∀ e, f e ≤ 100) (e : Nat) : (bes f e).2 ≤ 100 := by
  induction e with
  | zero => exact Nat.zero_le _
  | succ e ih =>
    unfold bes
    split
    · exact ih
    · exact h e
set_option maxHeartbeats 1000000 in
theorem L_25 (k L : Nat) (hk : 100 < k) (xs : Nat → Int32) (hL : L ≤ 2560) : OP L (fL_25 k L xs) := by
  intro rec z c st bd i0 i1 b0 b1 t5 t6 t7 h8 t9 s10 r11 m hz hzL hR
  unfold fL_25
  simp only [rd hz hzL hL]
  generalize xs (J z + 1).toNatClampNeg = x1
  obtain ⟨X, hX, rfl⟩ := J_ex x1
  obtain ⟨⟨a, hM, hS, hB, hs, hb⟩, hTx, hRf, hI⟩ := hR
  obtain ⟨n54, n55, n20, n21, n22, n18, hp⟩ := id hs
  obtain ⟨n56, n57, n23, hP, hQ⟩ := id hb
  have e54 : J (a 54) = J ((a 54).toNat : Nat) := J_z n54.1
  obtain ⟨pw, hp2, hpw⟩ : ∃ pw : Nat, pw = 2 ^ (a 54).toNat ∧ pw ≤ 64 := by
    refine ⟨_, rfl, ?_⟩
    have : (a 54).toNat = 0 ∨ (a 54).toNat = 1 ∨ (a 54).toNat = 2 ∨ (a 54).toNat = 3 ∨ (a 54).toNat = 4 ∨ (a 54).toNat = 5 ∨ (a 54).toNat = 6 := by omega
    rcases this with h | h | h | h | h | h | h <;> rw [h] <;> decide
  have sh : (1 : Int32) <<< (J (a 54) &&& 31) = J (pw : Int) := by rw [e54, hp2]; exact shl_J (by omega)
  have c1 : (J X < 0) = (X < 0) := by rw [J_lit, J_lt (by omega)]
  have c2 : (J X < J (pw : Int)) = (X < (pw : Int)) := by rw [J_lt (by omega)]
  have mi : fX7_in k (J X).toInt64 0 (J (pw : Int) - 1).toInt64 = some (if 0 ≤ X ∧ X ≤ (pw : Int) - 1 then 1 else 0) := by
    rw [show (1 : Int32) = J 1 from rfl, J_sub, J_64 hX, J_64 (by omega), show (0 : Int64) = K 0 from rfl]
    exact m_in k ⟨hX, by decide, by omega⟩
  unfold fX6_nextEar fX7_nextEar
  rw [m_windows k hM, hS.1.1]
  simp only [Option.bind_some, sh, c1, c2]
  rw [mi]
  simp only [Option.bind_some, b_ite]
  by_cases q1 : X < 0
  · rw [if_pos q1, if_neg (by omega)]
    apply fin
    · simp only [c_bad, m_bad, Option.bind_some, ↓reduceIte]
      exact rfl
    · exact rd5 z
    · exact ⟨⟨a, hM, hS, hB, hs, hb⟩, hTx, hRf.bad, hI⟩
  · by_cases q2 : X < (pw : Int)
    · rw [if_neg q1, if_pos q2, if_pos (show 0 ≤ X ∧ X ≤ (pw : Int) - 1 from by omega)]
      obtain ⟨s, rfl⟩ : ∃ s : Nat, X = s := ⟨X.toNat, by omega⟩
      have hN : ∀ w : Nat, (a 54).toNat ≤ w → ¬ s.testBit w = true := fun w hw => by
        have h1 : s < 2 ^ w := Nat.lt_of_lt_of_le (show s < 2 ^ (a 54).toNat by omega) (Nat.pow_le_pow_right (by decide) hw)
        rw [Nat.testBit_lt_two_pow h1]
        decide
      have oe : ∀ e : Nat, osu a s e 6 6 = osu a s e (a 54).toNat (a 54).toNat := fun e => osu_top hN (6 - (a 54).toNat) 6 (by omega)
      have ob : ∀ e : Nat, osu a s e (a 54).toNat (a 54).toNat ≤ 100 := fun e => by
        have := osu_b a s e (a 54).toNat (a 54).toNat (by omega)
        omega
      have bb := bes_b (f := fun e => osu a s e (a 54).toNat (a 54).toNat) ob
      have l1 : lp (fX6_nextEar_B31 k (J s) st (fun (w7 : Int32) => some (w7, c))) k ((-1), 0, 0) = some (J (bes (fun e => osu a s e (a 54).toNat (a 54).toNat) (a 55).toNat).1, c) := by
        refine lp_run (fun j => (J (bes (fun e => osu a s e (a 54).toNat (a 54).toNat) j).1, J ((bes (fun e => osu a s e (a 54).toNat (a 54).toNat) j).2 : Nat), J (j : Int))) (a 55).toNat _ (fun j hj rec => ?_) (fun rec => ?_) (by omega)
        · have hq : (J (a 55) ≤ J j) = False := by rw [J_le (by omega)]; exact eq_false (by omega)
          have b1 := bb j
          have b2 := ob j
          have cp := c_pairs k hk hS hs (show s < 64 by omega) (show (j : Int) < a 55 by omega)
          have hc : (J (osu a s j (a 54).toNat (a 54).toNat : Nat) ≤ J ((bes (fun e => osu a s e (a 54).toNat (a 54).toNat) j).2 : Nat)) = (osu a s j (a 54).toNat (a 54).toNat ≤ (bes (fun e => osu a s e (a 54).toNat (a 54).toNat) j).2) := by rw [J_le (by omega)]; exact propext (by omega)
          unfold fX6_nextEar_B31
          simp only [hS.1.2.1, hq, if_false, cp, Option.bind_some, hc, J_suc]
          rw [show bes (fun e => osu a s e (a 54).toNat (a 54).toNat) (j + 1) = if osu a s j (a 54).toNat (a 54).toNat ≤ (bes (fun e => osu a s e (a 54).toNat (a 54).toNat) j).2 then bes (fun e => osu a s e (a 54).toNat (a 54).toNat) j else ((j : Int), osu a s j (a 54).toNat (a 54).toNat) from rfl]
          split <;> rfl
        · have hq : (J (a 55) ≤ J ((a 55).toNat : Nat)) = True := by rw [J_le (by omega)]; exact eq_true (by omega)
          unfold fX6_nextEar_B31
          simp only [hS.1.2.1, hq, if_true]
      have l2 : lp (fX7_nextEar_B32 k (J s) m (fun (w7 : Int32) => some (w7, m))) k ((-1), 0, 0) = some (J (bes (fun e => osu a s e (a 54).toNat (a 54).toNat) (a 55).toNat).1, m) := by
        refine lp_run (fun j => (J (bes (fun e => osu a s e (a 54).toNat (a 54).toNat) j).1, J ((bes (fun e => osu a s e (a 54).toNat (a 54).toNat) j).2 : Nat), J (j : Int))) (a 55).toNat _ (fun j hj rec => ?_) (fun rec => ?_) (by omega)
        · have hq : (J (a 55) ≤ J j) = False := by rw [J_le (by omega)]; exact eq_false (by omega)
          have b1 := bb j
          have b2 := ob j
          have hc : (J (osu a s j (a 54).toNat (a 54).toNat : Nat) ≤ J ((bes (fun e => osu a s e (a 54).toNat (a 54).toNat) j).2 : Nat)) = (osu a s j (a 54).toNat (a 54).toNat ≤ (bes (fun e => osu a s e (a 54).toNat (a 54).toNat) j).2) := by rw [J_le (by omega)]; exact propext (by omega)
          unfold fX7_nextEar_B32
          simp only [m_ears k hM, hq, if_false, Option.bind_some]
          rw [m_pairs k hk hM hs (show s < 64 by omega) hN (show (j : Int) < a 55 by omega), oe]
          simp only [hc, J_suc]
          rw [show bes (fun e => osu a s e (a 54).toNat (a 54).toNat) (j + 1) = if osu a s j (a 54).toNat (a 54).toNat ≤ (bes (fun e => osu a s e (a 54).toNat (a 54).toNat) j).2 then bes (fun e => osu a s e (a 54).toNat (a 54).toNat) j else ((j : Int), osu a s j (a 54).toNat (a 54).toNat) from rfl]
          split <;> rfl
        · have hq : (J (a 55) ≤ J ((a 55).toNat : Nat)) = True := by rw [J_le (by omega)]; exact eq_true (by omega)
          unfold fX7_nextEar_B32
          simp only [m_ears k hM, Option.bind_some, hq, if_true]
      apply fin
      · simp only [l1, l2, Option.bind_some, ↓reduceIte]
        all_goals exact rfl
      · exact rd5 z
      · exact ⟨⟨a, hM, hS, hB, hs, hb⟩, hTx, hRf, hI⟩
    · rw [if_neg q1, if_neg q2, if_neg (by omega)]
      apply fin
      · simp only [c_bad, m_bad, Option.bind_some, ↓reduceIte]
        exact rfl
      · exact rd5 z
      · exact ⟨⟨a, hM, hS, hB, hs, hb⟩, hTx, hRf.bad, hI⟩
def dcn (a : Nat → Int) (n : Int) : Nat → Nat
  | 0 => 0
  | j + 1 => if tgb (zup a 21 ((j : Int) - 2)) 0 n (a 55).toNat = true then dcn a n j + 1 else dcn a n j
theorem dcn_s (a : Nat → Int) (n : Int) (j : Nat) : dcn a n (j + 1) = if tgb (zup a 21 ((j : Int) - 2)) 0 n (a 55).toNat = true then dcn a n j + 1 else dcn a n j := rfl
theorem WS_21 {a : Nat → Int} (hs : WS a) {w : Int} (h : -2 ≤ w ∧ w ≤ 2) : WS (zup a 21 w) := by
  obtain ⟨n54, n55, n20, n21, n22, n18, hp⟩ := hs
  refine ⟨n54, n55, n20, h, n22, n18, fun i hi => ?_⟩
  rw [zup_ne (by omega)]
  exact hp i hi
theorem WB_21 {a : Nat → Int} (hb : WB a) (w : Int) : WB (zup a 21 w) := WB_ext hb (Int.le_refl _) (fun i hi _ _ => zup_ne (by omega))
theorem BB_21 {bd : Dat} {a : Nat → Int} (hB : BB bd a) (hb : WB a) (w : Int) : BB bd (zup a 21 w) := BB_ext hB hb (fun i hi _ _ => zup_ne (by omega))
theorem SS_21 {st : Dat} {f : Nat → Int32} {a : Nat → Int} (hS : SS st a) (hs : WS a) (w : Int) (hf : ∀ i : Nat, ¬ i = 9 → f i = st.1 i) : SS (upd f 9 (J w), st.2) (zup a 21 w) := by
  obtain ⟨⟨h0, h3, h6, h7, h8, h9, h10⟩, hW, hE⟩ := hS
  obtain ⟨n54, n55, _⟩ := hs
  refine ⟨⟨(hf 0 (by omega)).trans h0, (hf 3 (by omega)).trans h3, (hf 6 (by omega)).trans h6, (hf 7 (by omega)).trans h7, (hf 8 (by omega)).trans h8, rfl, (hf 10 (by omega)).trans h10⟩, fun w' hw => ?_, fun e he => ?_⟩
  · have hw' : (w' : Int) < a 54 := hw
    rw [zup_ne (by omega), zup_ne (by omega)]
    exact hW w' hw'
  · have he' : (e : Int) < a 55 := he
    rw [zup_ne (by omega), zup_ne (by omega)]
    exact hE e he'
set_option maxHeartbeats 2000000 in
theorem L_26 (k L : Nat) (hk : 100 < k) (xs : Nat → Int32) (hL : L ≤ 2560) : OP L (fL_26 k L xs) := by
  intro rec z c st bd i0 i1 b0 b1 t5 t6 t7 h8 t9 s10 r11 m hz hzL hR
  unfold fL_26
  simp only [rd hz hzL hL]
  generalize xs (J z + 1).toNatClampNeg = x1
  obtain ⟨X, hX, rfl⟩ := J_ex x1
  obtain ⟨⟨a, hM, hS, hB, hs, hb⟩, hTx, hRf, hI⟩ := hR
  obtain ⟨n54, n55, n20, n21, n22, n18, hp⟩ := id hs
  obtain ⟨n56, n57, n23, hP, hQ⟩ := id hb
  have c21 : ∀ {α : Type} (E : Option α), chk 106 21 E = E := fun E => by rw [J_lit, chk_J (by omega)]
  have z21 : (21 : Int32).toNatClampNeg = 21 := rfl
  unfold fX6_drawn fX7_drawn
  rw [cw_0_999 k hX, m_isParts k hX]
  simp only [Option.bind_some, b_ite, c21, z21]
  by_cases q : 0 ≤ X ∧ X ≤ 999
  · rw [if_pos q, if_pos q]
    have hw1 : ∀ j : Nat, J ((j : Int) - 2) + 1 = J (((j + 1 : Nat) : Int) - 2) := fun j => by rw [J_lit, J_add]; congr 1; omega
    have l1 : ∃ (s' : Nat → Int32) (d' : Dat), lp (fX6_drawn_B32 k (J X) c st bd h8 (fun (w5 : Int32 × Dat × Dat) => some ((w5.1), c, ((upd w5.2.1.1 9 (st.1 9)), st.2), (w5.2.2.1, (va_up (va_up (va_up h8.2 1 (w5.2.2.2 1)) 2 (w5.2.2.2 2)) 3 (w5.2.2.2 3)))))) k (0, (-2), st, h8) = some (J (dcn a X 5 : Nat), c, (s', st.2), d') ∧ ∀ i : Nat, s' i = st.1 i := by
      refine lp_for (fun (j : Nat) (v : Int32 × Int32 × Dat × Dat) => v.1 = J (dcn a X j : Nat) ∧ v.2.1 = J ((j : Int) - 2) ∧ ∀ i : Nat, ¬ i = 9 → v.2.2.1.1 i = st.1 i) 5 (fun (o : Option (Int32 × Dat × Dat × Dat)) => ∃ (s' : Nat → Int32) (d' : Dat), o = some (J (dcn a X 5 : Nat), c, (s', st.2), d') ∧ ∀ i : Nat, s' i = st.1 i) ?_ ?_ ⟨rfl, rfl, fun i _ => rfl⟩ (by omega)
      · intro j v hj ⟨hx, hv, hF⟩
        obtain ⟨x, i, s1, h1⟩ := v
        have hv' : i = J ((j : Int) - 2) := hv
        subst hv'
        have hx' : x = J (dcn a X j : Nat) := hx
        subst hx'
        replace hF : ∀ i : Nat, ¬ i = 9 → s1.1 i = st.1 i := hF
        have hq : (2 < J ((j : Int) - 2)) = False := by rw [J_lit, J_lt (by omega)]; exact eq_false (by omega)
        obtain ⟨d1, e1⟩ := c_isTogether k hk (c := c) (d := (h1.1, va_up (va_up (va_up h8.2 1 (h1.2 1)) 2 (h1.2 2)) 3 (h1.2 3))) (SS_21 hS hs ((j : Int) - 2) hF) (BB_21 hB hb ((j : Int) - 2)) (WS_21 hs (w := (j : Int) - 2) (by omega)) (WB_21 hb ((j : Int) - 2)) hX
        have e1' : fX6_isTogether k c (upd s1.1 9 (J ((j : Int) - 2)), st.2) bd (h1.1, va_up (va_up (va_up h8.2 1 (h1.2 1)) 2 (h1.2 2)) 3 (h1.2 3)) (J X) = some (if tgb (zup a 21 ((j : Int) - 2)) 0 X (a 55).toNat = true then 1 else 0, d1) := e1
        left
        refine ⟨(J (dcn a X (j + 1) : Nat), J (((j + 1 : Nat) : Int) - 2), (upd s1.1 9 (J ((j : Int) - 2)), st.2), (d1.1, va_up (va_up (va_up h8.2 1 (d1.2 1)) 2 (d1.2 2)) 3 (d1.2 3))), fun rec => ?_, rfl, rfl, fun i hi => (upd_ne hi).trans (hF i hi)⟩
        unfold fX6_drawn_B32
        simp only [hq, if_false, e1', Option.bind_some, b_ite, hw1, J_suc, dcn_s]
        by_cases t : tgb (zup a 21 ((j : Int) - 2)) 0 X (a 55).toNat = true
        · rw [if_pos t, if_pos t]
        · rw [if_neg t, if_neg t]
      · intro v ⟨hx, hv, hF⟩ rec
        obtain ⟨x, i, s1, h1⟩ := v
        have hv' : i = J (((5 : Nat) : Int) - 2) := hv
        subst hv'
        have hx' : x = J (dcn a X 5 : Nat) := hx
        subst hx'
        replace hF : ∀ i : Nat, ¬ i = 9 → s1.1 i = st.1 i := hF
        unfold fX6_drawn_B32
        rw [if_pos (show (2 : Int32) < J (((5 : Nat) : Int) - 2) from by decide)]
        refine ⟨_, _, rfl, fun i => ?_⟩
        show upd s1.1 9 (st.1 9) i = st.1 i
        by_cases e : i = 9
        · subst e
          exact upd_same _ _ _
        · rw [upd_ne e]
          exact hF i e
    have l2 : ∃ m' : Dat, lp (fX7_drawn_B33 k (J X) ((upd m.1 8 0), m.2) (fun (w5 : Int32 × Dat) => some ((w5.1), (w5.2.1, (va_up (va_up (va_up (va_up m.2 0 (upd (w5.2.2 0) 21 ((m.2 0) 21))) 4 (w5.2.2 4)) 5 (w5.2.2 5)) 6 (w5.2.2 6)))))) k (0, (-2), ((upd m.1 8 0), m.2)) = some (J (dcn a X 5 : Nat), m') ∧ m'.2 0 = m.2 0 ∧ m'.2 3 = m.2 3 ∧ m'.1 16 = m.1 16 := by
      refine lp_for (fun (j : Nat) (v : Int32 × Int32 × Dat) => v.1 = J (dcn a X j : Nat) ∧ v.2.1 = J ((j : Int) - 2) ∧ (∀ i : Nat, ¬ i = 7 → v.2.2.1 i = upd m.1 8 0 i) ∧ ∀ i : Nat, ¬ i = 21 → v.2.2.2 0 i = m.2 0 i) 5 (fun (o : Option (Int32 × Dat)) => ∃ m' : Dat, o = some (J (dcn a X 5 : Nat), m') ∧ m'.2 0 = m.2 0 ∧ m'.2 3 = m.2 3 ∧ m'.1 16 = m.1 16) ?_ ?_ ⟨rfl, rfl, fun i _ => rfl, fun i _ => rfl⟩ (by omega)
      · intro j v hj ⟨hx, hv, hF, hG⟩
        obtain ⟨x, i, w⟩ := v
        have hv' : i = J ((j : Int) - 2) := hv
        subst hv'
        have hx' : x = J (dcn a X j : Nat) := hx
        subst hx'
        replace hF : ∀ i : Nat, ¬ i = 7 → w.1 i = upd m.1 8 0 i := hF
        replace hG : ∀ i : Nat, ¬ i = 21 → w.2 0 i = m.2 0 i := hG
        have hq : (2 < J ((j : Int) - 2)) = False := by rw [J_lit, J_lt (by omega)]; exact eq_false (by omega)
        have hM1 : upd (w.2 0) 21 (J ((j : Int) - 2)) = Jf (zup a 21 ((j : Int) - 2)) := by
          funext i
          unfold Jf zup upd
          by_cases e : i = 21
          · rw [if_pos e, if_pos e]
          · rw [if_neg e, if_neg e, hG i e, hM]
            rfl
        obtain ⟨d1, e1, f1⟩ := m_isTogether k hk (m := (w.1, va_up (va_up (va_up (va_up m.2 0 (upd (w.2 0) 21 (J ((j : Int) - 2)))) 4 (w.2 4)) 5 (w.2 5)) 6 (w.2 6))) (s := 0) hM1 ((hF 8 (by omega)).trans rfl) (by omega) (WS_21 hs (w := (j : Int) - 2) (by omega)) (WB_21 hb ((j : Int) - 2)) hX
        have e1' : fX7_isTogether k (w.1, va_up (va_up (va_up (va_up m.2 0 (upd (w.2 0) 21 (J ((j : Int) - 2)))) 4 (w.2 4)) 5 (w.2 5)) 6 (w.2 6)) (J X) = some (if tgb (zup a 21 ((j : Int) - 2)) 0 X (a 55).toNat = true then 1 else 0, d1) := e1
        have nz : ∀ x : Nat, J (x : Int) + 0 = J x := fun x => by rw [J_lit, J_add]; congr 1
        left
        refine ⟨(J (dcn a X (j + 1) : Nat), J (((j + 1 : Nat) : Int) - 2), (d1.1, va_up (va_up (va_up (va_up m.2 0 (upd (w.2 0) 21 (J ((j : Int) - 2)))) 4 (d1.2 4)) 5 (d1.2 5)) 6 (d1.2 6))), fun rec => ?_, rfl, rfl, fun i hi => (f1.1 i hi).trans (hF i hi), fun i hi => ?_⟩
        · unfold fX7_drawn_B33
          simp only [hq, if_false, c21, z21, e1', Option.bind_some, b_ite, hw1, J_suc, dcn_s, nz]
          by_cases t : tgb (zup a 21 ((j : Int) - 2)) 0 X (a 55).toNat = true
          · rw [if_pos t, if_pos t]
          · rw [if_neg t, if_neg t]
        · show upd (w.2 0) 21 (J ((j : Int) - 2)) i = m.2 0 i
          rw [upd_ne hi]
          exact hG i hi
      · intro v ⟨hx, hv, hF, hG⟩ rec
        obtain ⟨x, i, w⟩ := v
        have hv' : i = J (((5 : Nat) : Int) - 2) := hv
        subst hv'
        have hx' : x = J (dcn a X 5 : Nat) := hx
        subst hx'
        replace hG : ∀ i : Nat, ¬ i = 21 → w.2 0 i = m.2 0 i := hG
        unfold fX7_drawn_B33
        rw [if_pos (show (2 : Int32) < J (((5 : Nat) : Int) - 2) from by decide)]
        refine ⟨_, rfl, ?_, rfl, (hF 16 (by omega)).trans (upd_ne (by omega))⟩
        show upd (w.2 0) 21 (m.2 0 21) = m.2 0
        funext i
        by_cases e : i = 21
        · subst e
          exact upd_same _ _ _
        · rw [upd_ne e]
          exact hG i e
    obtain ⟨s', d', l1, g1⟩ := l1
    obtain ⟨m', l2, g2, g3, g4⟩ := l2
    apply fin
    · simp only [l1, l2, Option.bind_some, ↓reduceIte]
      all_goals exact rfl
    · exact rd5 z
    refine ⟨⟨a, ?_, ?_, hB, hs, hb⟩, ?_, ?_, hI⟩
    · show m'.2 0 = Jf a
      rw [g2, hM]
    · obtain ⟨⟨u0, u3, u6, u7, u8, u9, u10⟩, uW, uE⟩ := hS
      exact ⟨⟨(g1 0).trans u0, (g1 3).trans u3, (g1 6).trans u6, (g1 7).trans u7, (g1 8).trans u8, (g1 9).trans u9, (g1 10).trans u10⟩, uW, uE⟩
    · show RX (c.1 13) (m'.1 16) _ _
      rw [g4]
      exact hTx
    · first
        | exact hRf
        | (show RR _ _ _ (m'.2 3)
           rw [g3]
           exact hRf)
  · rw [if_neg q, if_neg q]
    apply fin
    · simp only [c_bad, m_bad, Option.bind_some, ↓reduceIte]
      exact rfl
    · exact rd5 z
    · exact ⟨⟨a, hM, hS, hB, hs, hb⟩, hTx, hRf.bad, hI⟩
