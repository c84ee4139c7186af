theorem c_copyRow (k n : Nat) (hn : n < 1000) (f g : Nat → Int32) : ∃ h, fX6_copyRow k n n f g = some h ∧ ∀ i : Nat, i < n → h i = f i := by
  unfold fX6_copyRow
  have e : (if (Int32.ofNat n) < (Int32.ofNat n) then (Int32.ofNat n) else (Int32.ofNat n)) = J (n : Int) := by
    rw [J_ofNat]
    split <;> rfl
  have z0 : (0 : Int32).toNatClampNeg = 0 := rfl
  have nn : (J (n : Int)).toNatClampNeg = n := J_natn (by omega)
  have z1 : ¬ (0 : Int32) < 0 := by decide
  have z2 : ¬ J (n : Int) < 0 := by
    rw [J_lit, J_lt (by omega)]
    omega
  rw [e]
  unfold chc
  rw [if_pos ⟨z1, z1, z2, by rw [z0, nn]; omega, by rw [z0, nn]; omega⟩]
  refine ⟨_, rfl, fun i hi => ?_⟩
  unfold va_cpy
  rw [z0, nn, if_pos (by omega)]
  congr 1
  omega
theorem c_like4 (k : Nat) {t st : Dat} {a : Nat → Int} (hS : SS st a) (hs : WS a) : ∃ d : Dat, fX4_becomeLike k t st = some d ∧ SS (d.1, va_up (va_up (va_up (va_up t.2 1 (d.2 1)) 2 (d.2 2)) 4 (d.2 4)) 5 (d.2 5)) a := by
  obtain ⟨r1, e1, f1⟩ := c_copyRow k 6 (by omega) (st.2 1) (t.2 1)
  obtain ⟨r2, e2, f2⟩ := c_copyRow k 6 (by omega) (st.2 2) (t.2 2)
  obtain ⟨r4, e4, f4⟩ := c_copyRow k 3 (by omega) (st.2 4) (t.2 4)
  obtain ⟨r5, e5, f5⟩ := c_copyRow k 3 (by omega) (st.2 5) (t.2 5)
  obtain ⟨⟨h0, h3, h6, h7, h8, h9, h10⟩, hW, hE⟩ := hS
  obtain ⟨n54, n55, _⟩ := hs
  unfold fX4_becomeLike
  simp only [e1, e2, e4, e5, Option.bind_some]
  refine ⟨_, rfl, ⟨h0, h3, h6, h7, h8, h9, h10⟩, fun w hw => ?_, fun e he => ?_⟩
  · have := hW w hw
    exact ⟨(f1 w (by omega)).trans this.1, (f2 w (by omega)).trans this.2⟩
  · have := hE e he
    exact ⟨(f4 e (by omega)).trans this.1, (f5 e (by omega)).trans this.2⟩
theorem c_like0 (k : Nat) {t bd : Dat} {a : Nat → Int} (hB : BB bd a) (hb : WB a) : ∃ d : Dat, fX0_becomeLike k t bd = some d ∧ BB (d.1, va_up (va_up (va_up (va_up (va_up (va_up t.2 1 (d.2 1)) 2 (d.2 2)) 3 (d.2 3)) 4 (d.2 4)) 5 (d.2 5)) 9 (d.2 9)) a := by
  obtain ⟨r1, e1, f1⟩ := c_copyRow k 6 (by omega) (bd.2 1) (t.2 1)
  obtain ⟨r2, e2, f2⟩ := c_copyRow k 6 (by omega) (bd.2 2) (t.2 2)
  obtain ⟨r3, e3, f3⟩ := c_copyRow k 6 (by omega) (bd.2 3) (t.2 3)
  obtain ⟨r4, e4, f4⟩ := c_copyRow k 6 (by omega) (bd.2 4) (t.2 4)
  obtain ⟨r5, e5, f5⟩ := c_copyRow k 6 (by omega) (bd.2 5) (t.2 5)
  obtain ⟨r9, e9, f9⟩ := c_copyRow k 48 (by omega) (bd.2 9) (t.2 9)
  obtain ⟨⟨g0, g7, g8⟩, gP, gQ⟩ := hB
  obtain ⟨n56, n57, _⟩ := hb
  unfold fX0_becomeLike
  simp only [e1, e2, e3, e4, e5, e9, Option.bind_some]
  refine ⟨_, rfl, ⟨g0, g7, g8⟩, fun w hw => ?_, fun r e hr he => ?_⟩
  · have := gP w hw
    exact ⟨(f1 w (by omega)).trans this.1, (f2 w (by omega)).trans this.2.1, (f3 w (by omega)).trans this.2.2.1, (f4 w (by omega)).trans this.2.2.2.1, (f5 w (by omega)).trans this.2.2.2.2⟩
  · exact (f9 (6 * r + e) (by omega)).trans (gQ r e hr he)
theorem m_image (k : Nat) (hk : 1000 < k) {m : Dat} {X : Nat} (hX : X < 2) : ∃ m' : Dat, fX7_image k m (J X) = some (1, m') ∧ (∀ i : Nat, i < 106 → m'.2 1 (106 * X + i) = m.2 0 i) ∧ (∀ i : Nat, (i < 106 * X ∨ 106 * X + 106 ≤ i) → m'.2 1 i = m.2 1 i) ∧ m'.2 2 = upd (m.2 2) X 1 ∧ m'.2 3 = m.2 3 := by
  unfold fX7_image
  rw [mi_0_1 k (by omega)]
  simp only [Option.bind_some, b_ite]
  rw [if_pos (by omega)]
  refine lp_for (fun (j : Nat) (v : Int32 × Dat) => v.1 = J j ∧ (∀ i : Nat, i < j → v.2.2 1 (106 * X + i) = m.2 0 i) ∧ (∀ i : Nat, (i < 106 * X ∨ 106 * X + j ≤ i) → v.2.2 1 i = m.2 1 i)) 106 (fun (o : Option (Int32 × Dat)) => ∃ m' : Dat, o = some (1, m') ∧ (∀ i : Nat, i < 106 → m'.2 1 (106 * X + i) = m.2 0 i) ∧ (∀ i : Nat, (i < 106 * X ∨ 106 * X + 106 ≤ i) → m'.2 1 i = m.2 1 i) ∧ m'.2 2 = upd (m.2 2) X 1 ∧ m'.2 3 = m.2 3) ?_ ?_ ⟨rfl, fun i hi => by omega, fun i hi => rfl⟩ (by omega)
  · intro j v hj ⟨hv, h1, h2⟩
    obtain ⟨i, w⟩ := v
    have hv' : i = J j := hv
    subst hv'
    replace h1 : ∀ i : Nat, i < j → w.2 1 (106 * X + i) = m.2 0 i := h1
    replace h2 : ∀ i : Nat, (i < 106 * X ∨ 106 * X + j ≤ i) → w.2 1 i = m.2 1 i := h2
    left
    apply Exists.intro
    refine ⟨fun rec => ?_, ?_, fun i hi => ?_, fun i hi => ?_⟩
    · unfold fX7_image_B19
      have e2 : (106 : Int32) * J X + J j = J ((106 * X + j : Nat) : Int) := by
        simp only [J_lit, J_mul, J_add]
        congr 1
      simp (disch := omega) only [e2, chk_J, J_nat, Int.toNat_natCast, J_suc]
      rw [if_neg (by rw [J_lit, J_le (by omega)]; omega)]
    · rfl
    · show upd (w.2 1) (106 * X + j) (m.2 0 j) (106 * X + i) = m.2 0 i
      by_cases q : i = j
      · subst q
        exact upd_same _ _ _
      · rw [upd_ne (by omega)]
        exact h1 i (by omega)
    · show upd (w.2 1) (106 * X + j) (m.2 0 j) i = m.2 1 i
      rw [upd_ne (by omega)]
      exact h2 i (by omega)
  · intro v ⟨hv, h1, h2⟩ rec
    obtain ⟨i, w⟩ := v
    have hv' : i = J ((106 : Nat) : Int) := hv
    subst hv'
    unfold fX7_image_B19
    rw [if_pos (show (106 : Int32) ≤ J ((106 : Nat) : Int) from by decide)]
    simp (disch := omega) only [chk_J, J_nat, Int.toNat_natCast]
    exact ⟨_, rfl, h1, h2, rfl, rfl⟩
theorem m_from (k : Nat) (hk : 1000 < k) {m : Dat} {X : Nat} (hX : X < 2) (h1 : m.2 2 X = 1) : ∃ m' : Dat, fX7_from k m (J X) = some (1, m') ∧ (∀ i : Nat, m'.2 0 i = if i < 106 then m.2 1 (106 * X + i) else m.2 0 i) ∧ m'.2 3 = m.2 3 := by
  unfold fX7_from
  rw [mi_0_1 k (by omega)]
  simp only [Option.bind_some, b_ite]
  rw [if_pos (by omega)]
  simp (disch := omega) only [chk_J, J_nat, Int.toNat_natCast, h1]
  rw [if_neg (by decide)]
  refine lp_for (fun (j : Nat) (v : Int32 × Dat) => v.1 = J j ∧ (∀ i : Nat, v.2.2 0 i = if i < j then m.2 1 (106 * X + i) else m.2 0 i)) 106 (fun (o : Option (Int32 × Dat)) => ∃ m' : Dat, o = some (1, m') ∧ (∀ i : Nat, m'.2 0 i = if i < 106 then m.2 1 (106 * X + i) else m.2 0 i) ∧ m'.2 3 = m.2 3) ?_ ?_ ⟨rfl, fun i => (if_neg (by omega)).symm⟩ (by omega)
  · intro j v hj ⟨hv, h1⟩
    obtain ⟨i, w⟩ := v
    have hv' : i = J j := hv
    subst hv'
    replace h1 : ∀ i : Nat, w.2 0 i = if i < j then m.2 1 (106 * X + i) else m.2 0 i := h1
    left
    apply Exists.intro
    refine ⟨fun rec => ?_, ?_, fun i => ?_⟩
    · unfold fX7_from_B33
      have e2 : (106 : Int32) * J X + J j = J ((106 * X + j : Nat) : Int) := by
        simp only [J_lit, J_mul, J_add]
        congr 1
      simp (disch := omega) only [e2, chk_J, J_nat, Int.toNat_natCast, J_suc]
      rw [if_neg (by rw [J_lit, J_le (by omega)]; omega)]
    · rfl
    · show upd (w.2 0) j (m.2 1 (106 * X + j)) i = _
      by_cases q : i = j
      · subst q
        rw [upd_same, if_pos (by omega)]
      · rw [upd_ne q, h1 i]
        by_cases q2 : i < j
        · rw [if_pos q2, if_pos (by omega)]
        · rw [if_neg q2, if_neg (by omega)]
  · intro v ⟨hv, h1⟩ rec
    obtain ⟨i, w⟩ := v
    have hv' : i = J ((106 : Nat) : Int) := hv
    subst hv'
    unfold fX7_from_B33
    rw [if_pos (show (106 : Int32) ≤ J ((106 : Nat) : Int) from by decide)]
    exact ⟨_, rfl, h1, rfl⟩
theorem RI.ext {x : Int32} {is ib : Dat} {g g' : Nat → Int32} {y : Int32} (h : RI x is ib g y) (e : ∀ i : Nat, i < 106 → g' i = g i) : RI x is ib g' y := by
  rcases h with h | ⟨h1, h2, b, h3, h4⟩
  · exact Or.inl h
  · exact Or.inr ⟨h1, h2, b, fun i hi => (e i hi).trans (h3 i hi), h4⟩
set_option maxHeartbeats 4000000 in
theorem L_27 (k L : Nat) (hk : 1000 < k) (xs : Nat → Int32) (hL : L ≤ 2560) : OP L (fL_27 k L xs) := by
  intro rec z c st bd i0 i1 b0 b1 t5 t6 t7 h8 t9 s10 r11 m hz hzL hR
  unfold fL_27
  simp only [rd hz hzL hL]
  generalize xs (J z + 1).toNatClampNeg = x1
  obtain ⟨X, hX, rfl⟩ := J_ex x1
  obtain ⟨⟨a, hM, hS, hB, hs, hb⟩, hTx, hRf, hI⟩ := hR
  obtain ⟨n54, n55, n20, n21, n22, n18, hp⟩ := id hs
  obtain ⟨n56, n57, n23, hP, hQ⟩ := id hb
  have j0 : (J X = 0) = (X = 0) := by rw [J_lit, J_eq (by omega)]
  have j1 : (J X = 1) = (X = 1) := by rw [J_lit, J_eq (by omega)]
  simp only [j0, j1]
  by_cases q0 : X = 0
  · subst q0
    rw [if_pos rfl]
    obtain ⟨s1, e1, hS1⟩ := c_like4 k (t := i0) hS hs
    obtain ⟨d1, e2, hB1⟩ := c_like0 k (t := b0) hB hb
    obtain ⟨m1, e3, f1, f2, f3, f4⟩ := m_image k hk (m := m) (X := 0) (by omega)
    have e3' : fX7_image k m (J 0) = some (1, m1) := e3
    have c0 : fX6_isWithin k 0 0 1 = some 1 := rfl
    have c2 : ∀ {α : Type} (E : Option α), chk 2 (0 : Int32) E = E := fun E => by rw [J_lit, chk_J (by omega)]
    unfold fX6_image_0
    apply fin
    · simp only [c0, e1, e2, e3', c2, Option.bind_some, show ((1 : Int32) = 0) = False from by decide, if_false, ↓reduceIte]
      all_goals exact rfl
    · exact rd5 z
    refine ⟨⟨a, hM, hS, hB, hs, hb⟩, hTx, ?_, ?_, ?_⟩
    · show RR _ _ _ (m1.2 3)
      rw [f4]
      exact hRf
    · show RI 1 _ _ (fun i => m1.2 1 i) (m1.2 2 0)
      rw [f3]
      refine Or.inr ⟨rfl, rfl, a, fun i hi => ?_, hS1, hB1, hs, hb⟩
      have := f1 i hi
      rw [Nat.mul_zero, Nat.zero_add, hM] at this
      exact this
    · show RI (c.2 4 1) _ _ (fun i => m1.2 1 (106 + i)) (m1.2 2 1)
      rw [f3]
      exact hI.2.ext (fun i hi => f2 (106 + i) (by omega))
  · by_cases q1 : X = 1
    · subst q1
      rw [if_neg q0, if_pos rfl]
      obtain ⟨s1, e1, hS1⟩ := c_like4 k (t := i1) hS hs
      obtain ⟨d1, e2, hB1⟩ := c_like0 k (t := b1) hB hb
      obtain ⟨m1, e3, f1, f2, f3, f4⟩ := m_image k hk (m := m) (X := 1) (by omega)
      have e3' : fX7_image k m (J 1) = some (1, m1) := e3
      have c0 : fX6_isWithin k 1 0 1 = some 1 := rfl
      have c2 : ∀ {α : Type} (E : Option α), chk 2 (1 : Int32) E = E := fun E => by rw [J_lit, chk_J (by omega)]
      unfold fX6_image_1
      apply fin
      · simp only [c0, e1, e2, e3', c2, Option.bind_some, show ((1 : Int32) = 0) = False from by decide, if_false, ↓reduceIte]
        all_goals exact rfl
      · exact rd5 z
      refine ⟨⟨a, hM, hS, hB, hs, hb⟩, hTx, ?_, ?_, ?_⟩
      · show RR _ _ _ (m1.2 3)
        rw [f4]
        exact hRf
      · show RI (c.2 4 0) _ _ (fun i => m1.2 1 i) (m1.2 2 0)
        rw [f3]
        exact hI.1.ext (fun i hi => f2 i (by omega))
      · show RI 1 _ _ (fun i => m1.2 1 (106 + i)) (m1.2 2 1)
        rw [f3]
        refine Or.inr ⟨rfl, rfl, a, fun i hi => ?_, hS1, hB1, hs, hb⟩
        have := f1 i hi
        rw [Nat.mul_one, hM] at this
        exact this
    · rw [if_neg q0, if_neg q1]
      have qn : ¬ (0 ≤ X ∧ X ≤ 1) := by omega
      unfold fX6_image_x fX7_image
      rw [cw_0_1 k hX, mi_0_1 k hX]
      simp only [Option.bind_some, b_ite, qn, if_false]
      apply fin
      · simp only [c_bad, m_bad, Option.bind_some, ↓reduceIte]
        exact rfl
      · exact rd5 z
      · exact ⟨⟨a, hM, hS, hB, hs, hb⟩, hTx, hRf.bad, hI⟩
def mxa (b a : Nat → Int) : Nat → Int := fun i => if i < 106 then b i else a i
theorem RI.get {x : Int32} {is ib : Dat} {g : Nat → Int32} {y : Int32} (h : RI x is ib g y) (q : ¬ x = 0) : y = 1 ∧ ∃ b : Nat → Int, (∀ i : Nat, i < 106 → g i = J (b i)) ∧ SS is b ∧ BB ib b ∧ WS b ∧ WB b := by
  rcases h with h | ⟨h1, h2⟩
  · exact absurd h.1 q
  · exact h2
theorem RI.zero {x : Int32} {is ib : Dat} {g : Nat → Int32} {y : Int32} (h : RI x is ib g y) (q : x = 0) : y = 0 := by
  rcases h with h | ⟨h1, h2⟩
  · exact h.2
  · rw [h1] at q
    exact absurd q (by decide)
set_option maxHeartbeats 4000000 in
theorem L_28 (k L : Nat) (hk : 1000 < k) (xs : Nat → Int32) (hL : L ≤ 2560) : OP L (fL_28 k L xs) := by
  intro rec z c st bd i0 i1 b0 b1 t5 t6 t7 h8 t9 s10 r11 m hz hzL hR
  unfold fL_28
  simp only [rd hz hzL hL]
  generalize xs (J z + 1).toNatClampNeg = x1
  obtain ⟨X, hX, rfl⟩ := J_ex x1
  obtain ⟨⟨a, hM, hS, hB, hs, hb⟩, hTx, hRf, hI⟩ := hR
  obtain ⟨n54, n55, n20, n21, n22, n18, hp⟩ := id hs
  obtain ⟨n56, n57, n23, hP, hQ⟩ := id hb
  have j0 : (J X = 0) = (X = 0) := by rw [J_lit, J_eq (by omega)]
  have j1 : (J X = 1) = (X = 1) := by rw [J_lit, J_eq (by omega)]
  simp only [j0, j1]
  by_cases q0 : X = 0
  · subst q0
    rw [if_pos rfl]
    have c0 : fX6_isWithin k 0 0 1 = some 1 := rfl
    have c2 : ∀ {α : Type} (E : Option α), chk 2 (0 : Int32) E = E := fun E => by rw [J_lit, chk_J (by omega)]
    have c2' : ∀ {α : Type} (E : Option α), chk 2 (J 0) E = E := fun E => by rw [chk_J (by omega)]
    have z0 : (0 : Int32).toNatClampNeg = 0 := rfl
    have z0' : (J 0).toNatClampNeg = 0 := rfl
    unfold fX6_from_0
    by_cases qk : c.2 4 0 = 0
    · have y := hI.1.zero qk
      unfold fX7_from
      rw [mi_0_1 k (by omega)]
      apply fin
      · simp only [c0, c2, c2', z0, z0', qk, y, Option.bind_some, b_ite, show ((1 : Int32) = 0) = False from by decide, show ((0 : Int) ≤ 0 ∧ (0 : Int) ≤ 1) = True from by decide, if_true, if_false, c_no, m_no, ↓reduceIte]
        all_goals exact rfl
      · exact rd5 z
      · exact ⟨⟨a, hM, hS, hB, hs, hb⟩, hTx, hRf.no, hI⟩
    · obtain ⟨y, b, g1, g2, g3, g4, g5⟩ := hI.1.get qk
      obtain ⟨s1, e1, hS1⟩ := c_like4 k (t := st) g2 g4
      obtain ⟨d1, e2, hB1⟩ := c_like0 k (t := bd) g3 g5
      obtain ⟨m1, e3, f1, f3⟩ := m_from k hk (m := m) (X := 0) (by omega) y
      have e3' : fX7_from k m (J 0) = some (1, m1) := e3
      have ex : ∀ i : Nat, i < 106 → mxa b a i = b i := fun i hi => if_pos hi
      have n57b := g5.2.1
      have n56b := g5.1
      apply fin
      · simp only [c0, c2, z0, qk, e1, e2, e3', Option.bind_some, show ((1 : Int32) = 0) = False from by decide, if_true, if_false, ↓reduceIte]
        all_goals exact rfl
      · exact rd5 z
      refine ⟨⟨mxa b a, ?_, ?_, ?_, ?_, ?_⟩, hTx, ?_, hI⟩
      · show m1.2 0 = _
        funext i
        rw [f1 i]
        unfold Jf mxa
        by_cases q : i < 106
        · rw [if_pos q, if_pos q, Nat.mul_zero, Nat.zero_add]
          exact g1 i q
        · rw [if_neg q, if_neg q, hM]
          rfl
      · exact SS_ext hS1 g4 (fun i hi => ex i (by omega))
      · obtain ⟨⟨u0, u7, u8⟩, uP, uQ⟩ := hB1
        refine ⟨⟨u0, u7, u8⟩, fun p hp => ?_, fun r p hr hp => ?_⟩
        · have hp' : (p : Int) < b 56 := hp
          rw [ex (24 + 5 * p) (by omega), ex (24 + 5 * p + 1) (by omega), ex (24 + 5 * p + 2) (by omega), ex (24 + 5 * p + 3) (by omega), ex (24 + 5 * p + 4) (by omega)]
          exact uP p hp'
        · have hp' : (p : Int) < b 56 := hp
          have hr' : (r : Int) < b 57 := hr
          rw [ex (58 + 6 * r + p) (by omega)]
          exact uQ r p hr' hp'
      · exact WS_ext g4 (fun i hi => ex i (by omega))
      · obtain ⟨u56, u57, u23, uP, uQ⟩ := g5
        refine ⟨u56, u57, u23, fun p hp => ?_, fun r p hr hp => ?_⟩
        · have hp' : (p : Int) < b 56 := hp
          unfold W1
          rw [ex (24 + 5 * p) (by omega), ex (24 + 5 * p + 1) (by omega), ex (24 + 5 * p + 2) (by omega), ex (24 + 5 * p + 3) (by omega), ex (24 + 5 * p + 4) (by omega)]
          exact uP p hp'
        · have hp' : (p : Int) < b 56 := hp
          have hr' : (r : Int) < b 57 := hr
          rw [ex (58 + 6 * r + p) (by omega)]
          exact uQ r p hr' hp'
      · show RR _ _ _ (m1.2 3)
        rw [f3]
        exact hRf
  · by_cases q1 : X = 1
    · subst q1
      rw [if_neg q0, if_pos rfl]
      have c0 : fX6_isWithin k 1 0 1 = some 1 := rfl
      have c2 : ∀ {α : Type} (E : Option α), chk 2 (1 : Int32) E = E := fun E => by rw [J_lit, chk_J (by omega)]
      have c2' : ∀ {α : Type} (E : Option α), chk 2 (J 1) E = E := fun E => by rw [chk_J (by omega)]
      have z0 : (1 : Int32).toNatClampNeg = 1 := rfl
      have z0' : (J 1).toNatClampNeg = 1 := rfl
      unfold fX6_from_1
      by_cases qk : c.2 4 1 = 0
      · have y := hI.2.zero qk
        unfold fX7_from
        rw [mi_0_1 k (by omega)]
        apply fin
        · simp only [c0, c2, c2', z0, z0', qk, y, Option.bind_some, b_ite, show ((1 : Int32) = 0) = False from by decide, show ((0 : Int) ≤ 1 ∧ (1 : Int) ≤ 1) = True from by decide, if_true, if_false, c_no, m_no, ↓reduceIte]
          all_goals exact rfl
        · exact rd5 z
        · exact ⟨⟨a, hM, hS, hB, hs, hb⟩, hTx, hRf.no, hI⟩
      · obtain ⟨y, b, g1, g2, g3, g4, g5⟩ := hI.2.get qk
        obtain ⟨s1, e1, hS1⟩ := c_like4 k (t := st) g2 g4
        obtain ⟨d1, e2, hB1⟩ := c_like0 k (t := bd) g3 g5
        obtain ⟨m1, e3, f1, f3⟩ := m_from k hk (m := m) (X := 1) (by omega) y
        have e3' : fX7_from k m (J 1) = some (1, m1) := e3
        have ex : ∀ i : Nat, i < 106 → mxa b a i = b i := fun i hi => if_pos hi
        have n57b := g5.2.1
        have n56b := g5.1
        apply fin
        · simp only [c0, c2, z0, qk, e1, e2, e3', Option.bind_some, show ((1 : Int32) = 0) = False from by decide, if_true, if_false, ↓reduceIte]
          all_goals exact rfl
        · exact rd5 z
        refine ⟨⟨mxa b a, ?_, ?_, ?_, ?_, ?_⟩, hTx, ?_, hI⟩
        · show m1.2 0 = _
          funext i
          rw [f1 i]
          unfold Jf mxa
          by_cases q : i < 106
          · rw [if_pos q, if_pos q, Nat.mul_one]
            exact g1 i q
          · rw [if_neg q, if_neg q, hM]
            rfl
        · exact SS_ext hS1 g4 (fun i hi => ex i (by omega))
        · obtain ⟨⟨u0, u7, u8⟩, uP, uQ⟩ := hB1
          refine ⟨⟨u0, u7, u8⟩, fun p hp => ?_, fun r p hr hp => ?_⟩
          · have hp' : (p : Int) < b 56 := hp
            rw [ex (24 + 5 * p) (by omega), ex (24 + 5 * p + 1) (by omega), ex (24 + 5 * p + 2) (by omega), ex (24 + 5 * p + 3) (by omega), ex (24 + 5 * p + 4) (by omega)]
            exact uP p hp'
          · have hp' : (p : Int) < b 56 := hp
            have hr' : (r : Int) < b 57 := hr
            rw [ex (58 + 6 * r + p) (by omega)]
            exact uQ r p hr' hp'
        · exact WS_ext g4 (fun i hi => ex i (by omega))
        · obtain ⟨u56, u57, u23, uP, uQ⟩ := g5
          refine ⟨u56, u57, u23, fun p hp => ?_, fun r p hr hp => ?_⟩
          · have hp' : (p : Int) < b 56 := hp
            unfold W1
            rw [ex (24 + 5 * p) (by omega), ex (24 + 5 * p + 1) (by omega), ex (24 + 5 * p + 2) (by omega), ex (24 + 5 * p + 3) (by omega), ex (24 + 5 * p + 4) (by omega)]
            exact uP p hp'
          · have hp' : (p : Int) < b 56 := hp
            have hr' : (r : Int) < b 57 := hr
            rw [ex (58 + 6 * r + p) (by omega)]
            exact uQ r p hr' hp'
        · show RR _ _ _ (m1.2 3)
          rw [f3]
          exact hRf
    · rw [if_neg q0, if_neg q1]
      have qn : ¬ (0 ≤ X ∧ X ≤ 1) := by omega
      unfold fX6_from_x fX7_from
      rw [cw_0_1 k hX, mi_0_1 k hX]
      simp only [Option.bind_some, b_ite, qn, if_false]
      apply fin
      · simp only [c_bad, m_bad, Option.bind_some, ↓reduceIte]
        exact rfl
      · exact rd5 z
      · exact ⟨⟨a, hM, hS, hB, hs, hb⟩, hTx, hRf.bad, hI⟩
def hld (v : Int) : Int := if v < -500 then -500 else if v > 500 then 500 else v
def lis (a : Nat → Int) (p : Nat) : Nat := (a (24 + 5 * p + 4)).toNat
def tkw (a : Nat → Int) (p q : Nat) : Int := pcs a (2 * wat a p) (2 * wat a q) * a 20
def rn (a o : Nat → Int) (p : Nat) : Int := if lis a p = p then o p else hld (o (lis a p) + tkw a p (lis a p) - a 23)
def cgn (a o : Nat → Int) : Nat → Nat
  | 0 => 0
  | n + 1 => if rn a o n = o n then cgn a o n else cgn a o n + 1
theorem cgn_b (a o : Nat → Int) (n : Nat) : cgn a o n ≤ n := by
  induction n with
  | zero => exact Nat.le_refl 0
  | succ n ih =>
    unfold cgn
    split <;> omega
def OB (a o : Nat → Int) : Prop := ∀ p : Nat, (p : Int) < a 56 → -500 ≤ o p ∧ o p ≤ 500
def AB (bd : Dat) (a o : Nat → Int) : Prop := bd.1 0 = J (a 56) ∧ bd.1 7 = J (a 23) ∧ ∀ p : Nat, (p : Int) < a 56 → bd.2 2 p = J (a (24 + 5 * p + 1)) ∧ bd.2 4 p = J (o p) ∧ bd.2 5 p = J (a (24 + 5 * p + 4))
theorem hld_b (v : Int) : -500 ≤ hld v ∧ hld v ≤ 500 := by
  unfold hld
  omega
theorem rn_b {a o : Nat → Int} (ho : OB a o) : OB a (rn a o) := fun p hp => by
  have := ho p hp
  have := hld_b (o (lis a p) + tkw a p (lis a p) - a 23)
  unfold rn
  omega
theorem lis_b {a : Nat → Int} {p : Nat} (h : W1 a p) : J (a (24 + 5 * p + 4)) = J (lis a p : Nat) ∧ (lis a p : Int) < a 56 := by
  obtain ⟨_, _, _, _, h1⟩ := h
  have e : (lis a p : Int) = a (24 + 5 * p + 4) := by unfold lis; omega
  rw [e]
  exact ⟨rfl, h1.2⟩
theorem tkw_b {a : Nat → Int} (hs : WS a) {p q : Nat} (hp : wat a p < 6) (hq : wat a q < 6) : 0 ≤ tkw a p q ∧ tkw a p q ≤ 1782 := by
  have s2 := pcs_b hs (i := 2 * wat a p) (j := 2 * wat a q) (by omega) (by omega)
  have b20 := hs.2.2.1
  have m1 := @mul_b (pcs a (2 * wat a p) (2 * wat a q)) (a 20) 198 9 (by omega) (by omega) (by omega) (by omega)
  have m0 : 0 ≤ pcs a (2 * wat a p) (2 * wat a q) * a 20 := Int.mul_nonneg s2.1 (by omega)
  unfold tkw
  omega
theorem c_held (k : Nat) {v : Int} (h : -10000 ≤ v ∧ v ≤ 10000) : fX6_heldOffset k (J v) = some (J (hld v)) := by
  unfold fX6_heldOffset
  simp (disch := omega) only [J_lit, J_neg, J_lt, J_ite]
  congr 2
  unfold hld
  omega
theorem m_hold (k : Nat) {v : Int} (h : -10000 ≤ v ∧ v ≤ 10000) : fX7_hold k (J v) = some (J (hld v)) := by
  unfold fX7_hold hld
  have e1 : (-500 ≤ J v) = (-500 ≤ v) := by rw [show (-500 : Int32) = J (-500) from rfl, J_le (by omega)]
  have e2 : (J v ≤ 500) = (v ≤ 500) := by rw [show (500 : Int32) = J 500 from rfl, J_le (by omega)]
  simp only [e1, e2]
  by_cases q1 : -500 ≤ v
  · by_cases q2 : v ≤ 500
    · rw [if_pos q1, if_pos q2, if_neg (by omega), if_neg (by omega)]
    · rw [if_pos q1, if_neg q2, if_neg (by omega), if_pos (by omega)]
      rfl
  · rw [if_neg q1, if_pos (by omega)]
    rfl
set_option maxHeartbeats 1000000 in
theorem c_advance (k : Nat) (hk : 100 < k) {st bd : Dat} {a o : Nat → Int} (hS : SS st a) (hs : WS a) (hA : AB bd a o) (ho : OB a o) (n56 : 0 ≤ a 56 ∧ a 56 ≤ 6) (n23 : 0 ≤ a 23 ∧ a 23 ≤ 999) (hP : ∀ p : Nat, (p : Int) < a 56 → W1 a p) :
    ∃ d' : Dat, fX0_advance k bd st = some (J (cgn a o (a 56).toNat : Nat), d') ∧ ∀ p : Nat, (p : Int) < a 56 → d'.2 4 p = J (rn a o p) := by
  obtain ⟨h0, h7, hR⟩ := hA
  have n54 := hs.1
  unfold fX0_advance
  refine lp_for (fun (j : Nat) (v : Int32 × Dat) => v.1 = J j ∧ ∀ p : Nat, p < j → v.2.2 6 p = J (rn a o p)) (a 56).toNat (fun (u : Option (Int32 × Dat)) => ∃ d' : Dat, u = some (J (cgn a o (a 56).toNat : Nat), d') ∧ ∀ p : Nat, (p : Int) < a 56 → d'.2 4 p = J (rn a o p)) ?_ ?_ ⟨rfl, fun p hp => by omega⟩ (by omega)
  · intro j v hj ⟨hv, hr⟩
    obtain ⟨i, w⟩ := v
    have hv' : i = J j := hv
    subst hv'
    replace hr : ∀ p : Nat, p < j → w.2 6 p = J (rn a o p) := hr
    have w1 := hP j (by omega)
    obtain ⟨wa, wb⟩ := wat_b w1
    obtain ⟨la, lb⟩ := lis_b w1
    obtain ⟨wa2, wb2⟩ := wat_b (hP (lis a j) lb)
    obtain ⟨p2, p4, p5⟩ := hR j (by omega)
    obtain ⟨q2, q4, q5⟩ := hR (lis a j) lb
    rw [wa] at p2
    rw [la] at p5
    rw [wa2] at q2
    have tb := c_timeBetween k hS hs wb wb2
    have tw := tkw_b hs (p := j) (q := lis a j) (by omega) (by omega)
    have ho1 := ho (lis a j) lb
    have hq : (J (a 56) ≤ J j) = False := by rw [J_le (by omega)]; exact eq_false (by omega)
    have he : (J (lis a j : Nat) = J j) = (lis a j = j) := by rw [J_eq (by omega)]; exact propext (by omega)
    left
    by_cases q : lis a j = j
    · apply Exists.intro
      refine ⟨fun rec => ?_, ?_, fun p hp => ?_⟩
      · unfold fX0_advance_B2
        simp (disch := omega) only [h0, hq, if_false, chk_J, J_nat, Int.toNat_natCast, p5, he, q, if_true, p4, J_suc]
        all_goals exact rfl
      · rfl
      · show upd (w.2 6) j (J (o j)) p = _
        by_cases e : p = j
        · subst e
          rw [upd_same]
          unfold rn
          rw [if_pos q]
        · rw [upd_ne e]
          exact hr p (by omega)
    · have h1 := c_held k (v := o (lis a j) + tkw a j (lis a j) - a 23) (by omega)
      apply Exists.intro
      refine ⟨fun rec => ?_, ?_, fun p hp => ?_⟩
      · unfold fX0_advance_B2
        simp (disch := omega) only [h0, hq, if_false, chk_J, J_nat, Int.toNat_natCast, p5, he, q, if_false, p2, p4, q2, q4, tb, Option.bind_some, h7, J_add, J_sub, J_suc]
        rw [show o (lis a j) + pcs a (2 * wat a j) (2 * wat a (lis a j)) * a 20 - a 23 = o (lis a j) + tkw a j (lis a j) - a 23 from rfl, h1]
        simp only [Option.bind_some]
        all_goals exact rfl
      · rfl
      · show upd (upd (w.2 6) j (J (o j))) j (J (hld (o (lis a j) + tkw a j (lis a j) - a 23))) p = _
        by_cases e : p = j
        · subst e
          rw [upd_same]
          unfold rn
          rw [if_neg q]
        · rw [upd_ne e, upd_ne e]
          exact hr p (by omega)
  · intro v ⟨hv, hr⟩ rec
    obtain ⟨i, w⟩ := v
    have hv' : i = J ((a 56).toNat : Nat) := hv
    subst hv'
    replace hr : ∀ p : Nat, p < (a 56).toNat → w.2 6 p = J (rn a o p) := hr
    have hq : (J (a 56) ≤ J ((a 56).toNat : Nat)) = True := by rw [J_le (by omega)]; exact eq_true (by omega)
    have nb := rn_b ho
    unfold fX0_advance_B2
    simp only [h0, hq, if_true]
    refine lp_for (fun (j : Nat) (v : Int32 × Int32 × Dat) => v.1 = J (cgn a o j : Nat) ∧ v.2.1 = J j ∧ (∀ p : Nat, p < j → v.2.2.2 4 p = J (rn a o p)) ∧ (∀ p : Nat, j ≤ p → (p : Int) < a 56 → v.2.2.2 4 p = J (o p))) (a 56).toNat (fun (u : Option (Int32 × Dat)) => ∃ d' : Dat, u = some (J (cgn a o (a 56).toNat : Nat), d') ∧ ∀ p : Nat, (p : Int) < a 56 → d'.2 4 p = J (rn a o p)) ?_ ?_ ⟨rfl, rfl, fun p hp => by omega, fun p _ hp => (hR p hp).2.1⟩ (by omega)
    · intro j v hj ⟨hx, hv, hr1, hr2⟩
      obtain ⟨x, i, u⟩ := v
      have hv' : i = J j := hv
      subst hv'
      have hx' : x = J (cgn a o j : Nat) := hx
      subst hx'
      replace hr1 : ∀ p : Nat, p < j → u.2 4 p = J (rn a o p) := hr1
      replace hr2 : ∀ p : Nat, j ≤ p → (p : Int) < a 56 → u.2 4 p = J (o p) := hr2
      have hq : (J (a 56) ≤ J j) = False := by rw [J_le (by omega)]; exact eq_false (by omega)
      have hj6 := hr j hj
      have oj := hr2 j (Nat.le_refl j) (by omega)
      have b1 := ho j (by omega)
      have b2 := nb j (by omega)
      have he : (J (rn a o j) = J (o j)) = (rn a o j = o j) := by rw [J_eq (by omega)]
      have h6 : (va_up bd.2 6 (va_up bd.2 6 (w.2 6) 6) 6) j = J (rn a o j) := hj6
      left
      by_cases q : rn a o j = o j
      · refine ⟨(J (cgn a o j : Nat), J ((j + 1 : Nat) : Int), bd.1, va_up (va_up bd.2 6 (w.2 6)) 4 (upd (u.2 4) j (J (rn a o j)))), fun rec => ?_, ?_, rfl, fun p hp => ?_, fun p hp hp2 => ?_⟩
        · unfold fX0_advance_B85
          simp (disch := omega) only [h0, hq, if_false, chk_J, J_nat, Int.toNat_natCast, vu_same, hj6, oj, he, q, if_true, J_suc]
          all_goals exact rfl
        · show J _ = _
          rw [show cgn a o (j + 1) = if rn a o j = o j then cgn a o j else cgn a o j + 1 from rfl, if_pos q]
        · show upd (u.2 4) j (J (rn a o j)) p = _
          by_cases e : p = j
          · subst e
            exact upd_same _ _ _
          · rw [upd_ne e]
            exact hr1 p (by omega)
        · show upd (u.2 4) j (J (rn a o j)) p = _
          rw [upd_ne (by omega)]
          exact hr2 p (by omega) hp2
      · refine ⟨(J ((cgn a o j + 1 : Nat) : Int), J ((j + 1 : Nat) : Int), bd.1, va_up (va_up bd.2 6 (w.2 6)) 4 (upd (u.2 4) j (J (rn a o j)))), fun rec => ?_, ?_, rfl, fun p hp => ?_, fun p hp hp2 => ?_⟩
        · unfold fX0_advance_B85
          simp (disch := omega) only [h0, hq, if_false, chk_J, J_nat, Int.toNat_natCast, vu_same, hj6, oj, he, q, if_false, J_suc]
          all_goals exact rfl
        · show J _ = _
          rw [show cgn a o (j + 1) = if rn a o j = o j then cgn a o j else cgn a o j + 1 from rfl, if_neg q]
        · show upd (u.2 4) j (J (rn a o j)) p = _
          by_cases e : p = j
          · subst e
            exact upd_same _ _ _
          · rw [upd_ne e]
            exact hr1 p (by omega)
        · show upd (u.2 4) j (J (rn a o j)) p = _
          rw [upd_ne (by omega)]
          exact hr2 p (by omega) hp2
    · intro v ⟨hx, hv, hr1, hr2⟩ rec
      obtain ⟨x, i, u⟩ := v
      have hv' : i = J ((a 56).toNat : Nat) := hv
      subst hv'
      have hx' : x = J (cgn a o (a 56).toNat : Nat) := hx
      subst hx'
      replace hr1 : ∀ p : Nat, p < (a 56).toNat → u.2 4 p = J (rn a o p) := hr1
      unfold fX0_advance_B85
      simp only [h0, hq, if_true]
      exact ⟨_, rfl, fun p hp => hr1 p (by omega)⟩
theorem m_takeOffsets (k : Nat) (hk : 100 < k) {m : Dat} {a : Nat → Int} (hM : m.2 0 = Jf a) (n56 : 0 ≤ a 56 ∧ a 56 ≤ 6) (f : Nat → Int32) :
    ∃ f', fX7_takeOffsets k m 6 f = some f' ∧ ∀ p : Nat, (p : Int) < a 56 → f' p = J (a (24 + 5 * p + 3)) := by
  unfold fX7_takeOffsets
  refine lp_for (fun (j : Nat) (v : Int32 × (Nat → Int32)) => v.1 = J j ∧ ∀ p : Nat, p < j → v.2 p = J (a (24 + 5 * p + 3))) (a 56).toNat (fun (u : Option (Nat → Int32)) => ∃ f', u = some f' ∧ ∀ p : Nat, (p : Int) < a 56 → f' p = J (a (24 + 5 * p + 3))) ?_ ?_ ⟨rfl, fun p hp => by omega⟩ (by omega)
  · intro j v hj ⟨hv, hr⟩
    obtain ⟨i, w⟩ := v
    have hv' : i = J j := hv
    subst hv'
    replace hr : ∀ p : Nat, p < j → w p = J (a (24 + 5 * p + 3)) := hr
    have ho : fX7_of k m (J j) 3 = some (J (a (24 + 5 * j + 3))) := m_of k hM (p := j) (x := 3) (by omega) (by omega)
    have hq : (J (a 56) ≤ J j) = False := by rw [J_le (by omega)]; exact eq_false (by omega)
    left
    refine ⟨(J ((j + 1 : Nat) : Int), upd w j (J (a (24 + 5 * j + 3)))), fun rec => ?_, rfl, fun p hp => ?_⟩
    · unfold fX7_takeOffsets_B2
      simp (disch := omega) only [m_players k hM, hq, if_false, chk_J, J_nat, Int.toNat_natCast, ho, Option.bind_some, J_suc]
    · show upd w j _ p = _
      by_cases e : p = j
      · subst e
        exact upd_same _ _ _
      · rw [upd_ne e]
        exact hr p (by omega)
  · intro v ⟨hv, hr⟩ rec
    obtain ⟨i, w⟩ := v
    have hv' : i = J ((a 56).toNat : Nat) := hv
    subst hv'
    have hq : (J (a 56) ≤ J ((a 56).toNat : Nat)) = True := by rw [J_le (by omega)]; exact eq_true (by omega)
    unfold fX7_takeOffsets_B2
    simp only [m_players k hM, hq, if_true, Option.bind_some]
    exact ⟨w, rfl, fun p hp => hr p (by omega)⟩
set_option maxHeartbeats 1000000 in
theorem m_makeRound (k : Nat) (hk : 100 < k) {m : Dat} {a o : Nat → Int} {f : Nat → Int32} (hM : m.2 0 = Jf a) (hs : WS a) (hf : ∀ p : Nat, (p : Int) < a 56 → f p = J (o p)) (ho : OB a o) (n56 : 0 ≤ a 56 ∧ a 56 ≤ 6) (n23 : 0 ≤ a 23 ∧ a 23 ≤ 999) (hP : ∀ p : Nat, (p : Int) < a 56 → W1 a p) :
    ∃ (m' : Dat) (f' : Nat → Int32), fX7_makeRound k m 6 f = some (J (cgn a o (a 56).toNat : Nat), m', f') ∧ ∀ p : Nat, (p : Int) < a 56 → f' p = J (rn a o p) := by
  have n54 := hs.1
  have c20 : ∀ {α : Type} (E : Option α), chk 106 20 E = E := fun E => by rw [J_lit, chk_J (by omega)]
  have c23 : ∀ {α : Type} (E : Option α), chk 106 23 E = E := fun E => by rw [J_lit, chk_J (by omega)]
  have h20 : (m.2 0) (20 : Int32).toNatClampNeg = J (a 20) := by rw [hM]; rfl
  have h23 : (m.2 0) (23 : Int32).toNatClampNeg = J (a 23) := by rw [hM]; rfl
  have hMx : ∀ g : Nat → Int32, ((m.1, va_up m.2 11 g) : Dat).2 0 = Jf a := fun g => hM
  unfold fX7_makeRound
  refine lp_for (fun (j : Nat) (v : Int32 × Dat) => v.1 = J j ∧ ∀ p : Nat, p < j → v.2.2 11 p = J (rn a o p)) (a 56).toNat (fun (u : Option (Int32 × Dat × (Nat → Int32))) => ∃ (m' : Dat) (f' : Nat → Int32), u = some (J (cgn a o (a 56).toNat : Nat), m', f') ∧ ∀ p : Nat, (p : Int) < a 56 → f' p = J (rn a o p)) ?_ ?_ ⟨rfl, fun p hp => by omega⟩ (by omega)
  · intro j v hj ⟨hv, hr⟩
    obtain ⟨i, w⟩ := v
    have hv' : i = J j := hv
    subst hv'
    replace hr : ∀ p : Nat, p < j → w.2 11 p = J (rn a o p) := hr
    have w1 := hP j (by omega)
    obtain ⟨wa, wb⟩ := wat_b w1
    obtain ⟨la, lb⟩ := lis_b w1
    obtain ⟨wa2, wb2⟩ := wat_b (hP (lis a j) lb)
    have tw := tkw_b hs (p := j) (q := lis a j) (by omega) (by omega)
    have ho1 := ho (lis a j) lb
    have hq : (J (a 56) ≤ J j) = False := by rw [J_le (by omega)]; exact eq_false (by omega)
    have he : (J (lis a j : Nat) = J j) = (lis a j = j) := by rw [J_eq (by omega)]; exact propext (by omega)
    have hM1 := hMx (w.2 11)
    have o4 : fX7_of k (m.1, va_up m.2 11 (w.2 11)) (J j) 4 = some (J (lis a j : Nat)) := by rw [← la]; exact m_of k hM1 (p := j) (x := 4) (by omega) (by omega)
    have o1 : fX7_of k (m.1, va_up m.2 11 (w.2 11)) (J j) 1 = some (J (wat a j : Nat)) := by rw [← wa]; exact m_of k hM1 (p := j) (x := 1) (by omega) (by omega)
    have o2 : fX7_of k (m.1, va_up m.2 11 (w.2 11)) (J (lis a j : Nat)) 1 = some (J (wat a (lis a j) : Nat)) := by rw [← wa2]; exact m_of k hM1 (p := lis a j) (x := 1) (by omega) (by omega)
    have bp := hs.2.2.2.2.2.2
    have pp : fX7_paces k (m.1, va_up m.2 11 (w.2 11)) (J ((2 * wat a j : Nat) : Int)) (J ((2 * wat a (lis a j) : Nat) : Int)) = some (J (pcs a (2 * wat a j) (2 * wat a (lis a j)))) :=
      m_paces k hM1 (by omega) (by omega) (fun q hq => by
        have := bp q (by omega)
        omega)
    left
    by_cases q : lis a j = j
    · apply Exists.intro
      refine ⟨fun rec => ?_, ?_, fun p hp => ?_⟩
      · unfold fX7_makeRound_B2
        simp (disch := omega) only [m_players k hM1, hq, if_false, Option.bind_some, o4, o1, o2, m_at, pp, c20, he, eq_true q, if_true, chk_J, J_nat, Int.toNat_natCast, J_suc, hf j (by omega)]
        all_goals exact rfl
      · rfl
      · show upd (w.2 11) j (J (o j)) p = _
        by_cases e : p = j
        · subst e
          rw [upd_same]
          unfold rn
          rw [if_pos q]
        · rw [upd_ne e]
          exact hr p (by omega)
    · have h1 := m_hold k (v := o (lis a j) + tkw a j (lis a j) - a 23) (by omega)
      apply Exists.intro
      refine ⟨fun rec => ?_, ?_, fun p hp => ?_⟩
      · unfold fX7_makeRound_B2
        simp (disch := omega) only [m_players k hM1, hq, if_false, Option.bind_some, o4, o1, o2, m_at, pp, c20, c23, he, q, chk_J, J_nat, Int.toNat_natCast, J_suc, hf (lis a j) lb, h20, h23, J_mul, J_add, J_sub]
        rw [show o (lis a j) + pcs a (2 * wat a j) (2 * wat a (lis a j)) * a 20 - a 23 = o (lis a j) + tkw a j (lis a j) - a 23 from rfl, h1]
        simp only [Option.bind_some]
        all_goals exact rfl
      · rfl
      · show upd (w.2 11) j (J (hld (o (lis a j) + tkw a j (lis a j) - a 23))) p = _
        by_cases e : p = j
        · subst e
          rw [upd_same]
          unfold rn
          rw [if_neg q]
        · rw [upd_ne e]
          exact hr p (by omega)
  · intro v ⟨hv, hr⟩ rec
    obtain ⟨i, w⟩ := v
    have hv' : i = J ((a 56).toNat : Nat) := hv
    subst hv'
    replace hr : ∀ p : Nat, p < (a 56).toNat → w.2 11 p = J (rn a o p) := hr
    have hq : (J (a 56) ≤ J ((a 56).toNat : Nat)) = True := by rw [J_le (by omega)]; exact eq_true (by omega)
    have nb := rn_b ho
    have hM1 := hMx (w.2 11)
    unfold fX7_makeRound_B2
    simp only [m_players k hM1, Option.bind_some, hq, if_true, vu_same]
    refine lp_for (fun (j : Nat) (v : Int32 × Int32 × (Nat → Int32)) => v.1 = J (cgn a o j : Nat) ∧ v.2.1 = J j ∧ (∀ p : Nat, p < j → v.2.2 p = J (rn a o p)) ∧ (∀ p : Nat, j ≤ p → (p : Int) < a 56 → v.2.2 p = J (o p))) (a 56).toNat (fun (u : Option (Int32 × Dat × (Nat → Int32))) => ∃ (m' : Dat) (f' : Nat → Int32), u = some (J (cgn a o (a 56).toNat : Nat), m', f') ∧ ∀ p : Nat, (p : Int) < a 56 → f' p = J (rn a o p)) ?_ ?_ ⟨rfl, rfl, fun p hp => by omega, fun p _ hp => hf p hp⟩ (by omega)
    · intro j v hj ⟨hx, hv, hr1, hr2⟩
      obtain ⟨x, i, u⟩ := v
      have hv' : i = J j := hv
      subst hv'
      have hx' : x = J (cgn a o j : Nat) := hx
      subst hx'
      replace hr1 : ∀ p : Nat, p < j → u p = J (rn a o p) := hr1
      replace hr2 : ∀ p : Nat, j ≤ p → (p : Int) < a 56 → u p = J (o p) := hr2
      have hq : (J (a 56) ≤ J j) = False := by rw [J_le (by omega)]; exact eq_false (by omega)
      have hj6 := hr j hj
      have oj := hr2 j (Nat.le_refl j) (by omega)
      have b1 := ho j (by omega)
      have b2 := nb j (by omega)
      have he : (J (rn a o j) = J (o j)) = (rn a o j = o j) := by rw [J_eq (by omega)]
      have z0 : J (cgn a o j : Nat) + 0 = J (cgn a o j : Nat) := by rw [J_lit, J_add]; congr 1
      left
      by_cases q : rn a o j = o j
      · refine ⟨(J (cgn a o j : Nat), J ((j + 1 : Nat) : Int), upd u j (J (rn a o j))), fun rec => ?_, ?_, rfl, fun p hp => ?_, fun p hp hp2 => ?_⟩
        · unfold fX7_makeRound_B95
          simp (disch := omega) only [m_players k hM1, Option.bind_some, hq, if_false, chk_J, J_nat, Int.toNat_natCast, vu_same, hj6, oj, he, q, if_true, J_suc, z0]
          all_goals exact rfl
        · show J _ = _
          rw [show cgn a o (j + 1) = if rn a o j = o j then cgn a o j else cgn a o j + 1 from rfl, if_pos q]
        · show upd u j (J (rn a o j)) p = _
          by_cases e : p = j
          · subst e
            exact upd_same _ _ _
          · rw [upd_ne e]
            exact hr1 p (by omega)
        · show upd u j (J (rn a o j)) p = _
          rw [upd_ne (by omega)]
          exact hr2 p (by omega) hp2
      · refine ⟨(J ((cgn a o j + 1 : Nat) : Int), J ((j + 1 : Nat) : Int), upd u j (J (rn a o j))), fun rec => ?_, ?_, rfl, fun p hp => ?_, fun p hp hp2 => ?_⟩
        · unfold fX7_makeRound_B95
          simp (disch := omega) only [m_players k hM1, Option.bind_some, hq, if_false, chk_J, J_nat, Int.toNat_natCast, vu_same, hj6, oj, he, q, J_suc]
          all_goals exact rfl
        · show J _ = _
          rw [show cgn a o (j + 1) = if rn a o j = o j then cgn a o j else cgn a o j + 1 from rfl, if_neg q]
        · show upd u j (J (rn a o j)) p = _
          by_cases e : p = j
          · subst e
            exact upd_same _ _ _
          · rw [upd_ne e]
            exact hr1 p (by omega)
        · show upd u j (J (rn a o j)) p = _
          rw [upd_ne (by omega)]
          exact hr2 p (by omega) hp2
    · intro v ⟨hx, hv, hr1, hr2⟩ rec
      obtain ⟨x, i, u⟩ := v
      have hv' : i = J ((a 56).toNat : Nat) := hv
      subst hv'
      have hx' : x = J (cgn a o (a 56).toNat : Nat) := hx
      subst hx'
      replace hr1 : ∀ p : Nat, p < (a 56).toNat → u p = J (rn a o p) := hr1
      unfold fX7_makeRound_B95
      simp only [m_players k hM1, Option.bind_some, hq, if_true]
      exact ⟨_, _, rfl, fun p hp => hr1 p (by omega)⟩
def rnn (a o : Nat → Int) : Nat → Nat → Int
  | 0 => o
  | r + 1 => rn a (rnn a o r)
theorem rnn_b {a o : Nat → Int} (ho : OB a o) (r : Nat) : OB a (rnn a o r) := by
  induction r with
  | zero => exact ho
  | succ r ih => exact rn_b ih
def ofa (a : Nat → Int) (p : Nat) : Int := a (24 + 5 * p + 3)
theorem ofa_b {a : Nat → Int} (hP : ∀ p : Nat, (p : Int) < a 56 → W1 a p) : OB a (ofa a) := fun p hp => by
  obtain ⟨_, _, _, h, _⟩ := hP p hp
  exact h
theorem BB_AB {bd : Dat} {a : Nat → Int} (h : BB bd a) : AB bd a (ofa a) := ⟨h.1.1, h.1.2.1, fun p hp => ⟨(h.2.1 p hp).2.1, (h.2.1 p hp).2.2.2.1, (h.2.1 p hp).2.2.2.2⟩⟩
theorem AB_adv {bd d : Dat} {a o o' : Nat → Int} (h : AB bd a o) (g : ∀ p : Nat, (p : Int) < a 56 → d.2 4 p = J (o' p)) : AB (bd.1, va_up (va_up bd.2 4 (d.2 4)) 6 (d.2 6)) a o' :=
  ⟨h.1, h.2.1, fun p hp => ⟨(h.2.2 p hp).1, g p hp, (h.2.2 p hp).2.2⟩⟩
set_option maxHeartbeats 2000000 in
theorem L_21 (k L : Nat) (hk : 100 < k) (xs : Nat → Int32) (hL : L ≤ 2560) : OP L (fL_21 k ) := by
  intro rec z c st bd i0 i1 b0 b1 t5 t6 t7 h8 t9 s10 r11 m hz hzL hR
  unfold fL_21
  obtain ⟨⟨a, hM, hS, hB, hs, hb⟩, hTx, hRf, hI⟩ := hR
  obtain ⟨n54, n55, n20, n21, n22, n18, hp⟩ := id hs
  obtain ⟨n56, n57, n23, hP, hQ⟩ := id hb
  have oB := ofa_b hP
  obtain ⟨d1, e1, hB1⟩ := c_like0 k (t := t6) hB hb
  obtain ⟨f1, e2, g1⟩ := m_takeOffsets k hk hM n56 (m.2 10)
  have key : ∃ (r : Int32) (d' m' : Dat), fX6_settles k c st bd t6 = some (r, d') ∧ fX7_settles k m = some (r, m') := by
    by_cases hq : ∃ r : Nat, r ≤ 20 ∧ cgn a (rnn a (ofa a) r) (a 56).toNat = 0 ∧ ∀ i : Nat, i < r → ¬ cgn a (rnn a (ofa a) i) (a 56).toNat = 0
    · obtain ⟨r, hr, hr0, hr1⟩ := hq
      refine ⟨J r, ?_⟩
      have l1 : ∃ d', fX6_settles k c st bd t6 = some (J r, d') := by
        unfold fX6_settles
        rw [e1]
        simp only [Option.bind_some]
        refine lp_for (fun (j : Nat) (v : Int32 × Dat) => v.1 = J j ∧ AB (d1.1, va_up (va_up (va_up (va_up (va_up (va_up (va_up t6.2 1 (d1.2 1)) 2 (d1.2 2)) 3 (d1.2 3)) 4 (v.2.2 4)) 5 (d1.2 5)) 9 (d1.2 9)) 6 (v.2.2 6)) a (rnn a (ofa a) j)) r (fun (u : Option (Int32 × Dat)) => ∃ d', u = some (J r, d')) ?_ ?_ ⟨rfl, BB_AB hB1⟩ (by omega)
        · intro j v hj ⟨hv, hA⟩
          obtain ⟨i, w⟩ := v
          have hv' : i = J j := hv
          subst hv'
          obtain ⟨d2, e3, g3⟩ := c_advance k hk (bd := (d1.1, va_up (va_up (va_up (va_up (va_up (va_up (va_up (va_up t6.2 1 (d1.2 1)) 2 (d1.2 2)) 3 (d1.2 3)) 4 (d1.2 4)) 5 (d1.2 5)) 9 (d1.2 9)) 4 (w.2 4)) 6 (w.2 6))) hS hs hA (rnn_b oB j) n56 n23 hP
          have hc := cgn_b a (rnn a (ofa a) j) (a 56).toNat
          have hn : (J (cgn a (rnn a (ofa a) j) (a 56).toNat : Nat) = 0) = False := by
            rw [J_lit, J_eq (by omega)]
            exact eq_false (by have := hr1 j hj; omega)
          have h20 : (20 < J (j : Int)) = False := by rw [J_lit, J_lt (by omega)]; exact eq_false (by omega)
          left
          apply Exists.intro
          refine ⟨fun rec => ?_, ?_, ?_⟩
          · unfold fX6_settles_B13
            simp only [h20, if_false, e3, Option.bind_some, hn, J_suc]
            all_goals exact rfl
          · rfl
          · exact ⟨hA.1, hA.2.1, fun p hp => ⟨(hA.2.2 p hp).1, g3 p hp, (hA.2.2 p hp).2.2⟩⟩
        · intro v ⟨hv, hA⟩ rec
          obtain ⟨i, w⟩ := v
          have hv' : i = J r := hv
          subst hv'
          obtain ⟨d2, e3, g3⟩ := c_advance k hk (bd := (d1.1, va_up (va_up (va_up (va_up (va_up (va_up (va_up (va_up t6.2 1 (d1.2 1)) 2 (d1.2 2)) 3 (d1.2 3)) 4 (d1.2 4)) 5 (d1.2 5)) 9 (d1.2 9)) 4 (w.2 4)) 6 (w.2 6))) hS hs hA (rnn_b oB r) n56 n23 hP
          have hn : (J (cgn a (rnn a (ofa a) r) (a 56).toNat : Nat) = 0) = True := by
            rw [hr0]
            exact eq_true rfl
          have h20 : (20 < J (r : Int)) = False := by rw [J_lit, J_lt (by omega)]; exact eq_false (by omega)
          unfold fX6_settles_B13
          simp only [h20, if_false, e3, Option.bind_some, hn, if_true]
          exact ⟨_, rfl⟩
      have l2 : ∃ m', fX7_settles k m = some (J r, m') := by
        unfold fX7_settles
        rw [e2]
        simp only [Option.bind_some]
        refine lp_for (fun (j : Nat) (v : Int32 × Dat) => v.1 = J j ∧ ∀ p : Nat, (p : Int) < a 56 → v.2.2 10 p = J (rnn a (ofa a) j p)) r (fun (u : Option (Int32 × Dat)) => ∃ d', u = some (J r, d')) ?_ ?_ ⟨rfl, g1⟩ (by omega)
        · intro j v hj ⟨hv, hA⟩
          obtain ⟨i, w⟩ := v
          have hv' : i = J j := hv
          subst hv'
          obtain ⟨m2, f2, e3, g3⟩ := m_makeRound k hk (m := (m.1, va_up (va_up (va_up m.2 10 f1) 10 (w.2 10)) 11 (w.2 11))) (f := w.2 10) hM hs hA (rnn_b oB j) n56 n23 hP
          have hc := cgn_b a (rnn a (ofa a) j) (a 56).toNat
          have hn : (J (cgn a (rnn a (ofa a) j) (a 56).toNat : Nat) = 0) = False := by
            rw [J_lit, J_eq (by omega)]
            exact eq_false (by have := hr1 j hj; omega)
          have h20 : (20 < J (j : Int)) = False := by rw [J_lit, J_lt (by omega)]; exact eq_false (by omega)
          left
          apply Exists.intro
          refine ⟨fun rec => ?_, ?_, ?_⟩
          · unfold fX7_settles_B10
            simp only [h20, if_false, e3, Option.bind_some, hn, J_suc]
            all_goals exact rfl
          · rfl
          · exact g3
        · intro v ⟨hv, hA⟩ rec
          obtain ⟨i, w⟩ := v
          have hv' : i = J r := hv
          subst hv'
          obtain ⟨m2, f2, e3, g3⟩ := m_makeRound k hk (m := (m.1, va_up (va_up (va_up m.2 10 f1) 10 (w.2 10)) 11 (w.2 11))) (f := w.2 10) hM hs hA (rnn_b oB r) n56 n23 hP
          have hn : (J (cgn a (rnn a (ofa a) r) (a 56).toNat : Nat) = 0) = True := by
            rw [hr0]
            exact eq_true rfl
          have h20 : (20 < J (r : Int)) = False := by rw [J_lit, J_lt (by omega)]; exact eq_false (by omega)
          unfold fX7_settles_B10
          simp only [h20, if_false, e3, Option.bind_some, hn, if_true]
          exact ⟨_, rfl⟩
      obtain ⟨d', l1⟩ := l1
      obtain ⟨m', l2⟩ := l2
      exact ⟨d', m', l1, l2⟩
    · have hr1 : ∀ i : Nat, i < 21 → ¬ cgn a (rnn a (ofa a) i) (a 56).toNat = 0 := by
        intro i
        induction i using Nat.strongRecOn with
        | ind i ih =>
          intro hi h0
          exact hq ⟨i, by omega, h0, fun j hj => ih j hj (by omega)⟩
      refine ⟨-1, ?_⟩
      have l1 : ∃ d', fX6_settles k c st bd t6 = some (-1, d') := by
        unfold fX6_settles
        rw [e1]
        simp only [Option.bind_some]
        refine lp_for (fun (j : Nat) (v : Int32 × Dat) => v.1 = J j ∧ AB (d1.1, va_up (va_up (va_up (va_up (va_up (va_up (va_up t6.2 1 (d1.2 1)) 2 (d1.2 2)) 3 (d1.2 3)) 4 (v.2.2 4)) 5 (d1.2 5)) 9 (d1.2 9)) 6 (v.2.2 6)) a (rnn a (ofa a) j)) 21 (fun (u : Option (Int32 × Dat)) => ∃ d', u = some (-1, d')) ?_ ?_ ⟨rfl, BB_AB hB1⟩ (by omega)
        · intro j v hj ⟨hv, hA⟩
          obtain ⟨i, w⟩ := v
          have hv' : i = J j := hv
          subst hv'
          obtain ⟨d2, e3, g3⟩ := c_advance k hk (bd := (d1.1, va_up (va_up (va_up (va_up (va_up (va_up (va_up (va_up t6.2 1 (d1.2 1)) 2 (d1.2 2)) 3 (d1.2 3)) 4 (d1.2 4)) 5 (d1.2 5)) 9 (d1.2 9)) 4 (w.2 4)) 6 (w.2 6))) hS hs hA (rnn_b oB j) n56 n23 hP
          have hc := cgn_b a (rnn a (ofa a) j) (a 56).toNat
          have hn : (J (cgn a (rnn a (ofa a) j) (a 56).toNat : Nat) = 0) = False := by
            rw [J_lit, J_eq (by omega)]
            exact eq_false (by have := hr1 j hj; omega)
          have h20 : (20 < J (j : Int)) = False := by rw [J_lit, J_lt (by omega)]; exact eq_false (by omega)
          left
          apply Exists.intro
          refine ⟨fun rec => ?_, ?_, ?_⟩
          · unfold fX6_settles_B13
            simp only [h20, if_false, e3, Option.bind_some, hn, J_suc]
            all_goals exact rfl
          · rfl
          · exact ⟨hA.1, hA.2.1, fun p hp => ⟨(hA.2.2 p hp).1, g3 p hp, (hA.2.2 p hp).2.2⟩⟩
        · intro v ⟨hv, hA⟩ rec
          obtain ⟨i, w⟩ := v
          have hv' : i = J ((21 : Nat) : Int) := hv
          subst hv'
          unfold fX6_settles_B13
          rw [if_pos (show (20 : Int32) < J ((21 : Nat) : Int) from by decide)]
          exact ⟨_, rfl⟩
      have l2 : ∃ m', fX7_settles k m = some (-1, m') := by
        unfold fX7_settles
        rw [e2]
        simp only [Option.bind_some]
        refine lp_for (fun (j : Nat) (v : Int32 × Dat) => v.1 = J j ∧ ∀ p : Nat, (p : Int) < a 56 → v.2.2 10 p = J (rnn a (ofa a) j p)) 21 (fun (u : Option (Int32 × Dat)) => ∃ d', u = some (-1, d')) ?_ ?_ ⟨rfl, g1⟩ (by omega)
        · intro j v hj ⟨hv, hA⟩
          obtain ⟨i, w⟩ := v
          have hv' : i = J j := hv
          subst hv'
          obtain ⟨m2, f2, e3, g3⟩ := m_makeRound k hk (m := (m.1, va_up (va_up (va_up m.2 10 f1) 10 (w.2 10)) 11 (w.2 11))) (f := w.2 10) hM hs hA (rnn_b oB j) n56 n23 hP
          have hc := cgn_b a (rnn a (ofa a) j) (a 56).toNat
          have hn : (J (cgn a (rnn a (ofa a) j) (a 56).toNat : Nat) = 0) = False := by
            rw [J_lit, J_eq (by omega)]
            exact eq_false (by have := hr1 j hj; omega)
          have h20 : (20 < J (j : Int)) = False := by rw [J_lit, J_lt (by omega)]; exact eq_false (by omega)
          left
          apply Exists.intro
          refine ⟨fun rec => ?_, ?_, ?_⟩
          · unfold fX7_settles_B10
            simp only [h20, if_false, e3, Option.bind_some, hn, J_suc]
            all_goals exact rfl
          · rfl
          · exact g3
        · intro v ⟨hv, hA⟩ rec
          obtain ⟨i, w⟩ := v
          have hv' : i = J ((21 : Nat) : Int) := hv
          subst hv'
          unfold fX7_settles_B10
          rw [if_pos (show (20 : Int32) < J ((21 : Nat) : Int) from by decide)]
          exact ⟨_, rfl⟩
      obtain ⟨d', l1⟩ := l1
      obtain ⟨m', l2⟩ := l2
      exact ⟨d', m', l1, l2⟩
  obtain ⟨r, d', m', l1, l2⟩ := key
  apply fin
  · simp only [l1, l2, Option.bind_some, ↓reduceIte]
    all_goals exact rfl
  · exact rd5 z
  · exact ⟨⟨a, hM, hS, hB, hs, hb⟩, hTx, hRf, hI⟩
