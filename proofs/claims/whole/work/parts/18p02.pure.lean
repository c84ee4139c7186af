set_option maxHeartbeats 4000000 in
theorem L_3 (k L : Nat) (xs : Nat → Int32) (hL : L ≤ 2560) : OP L (fL_3 k L xs) := by
  intro rec z c st bd i0 i1 b0 b1 t5 t6 t7 h8 t9 s10 r11 m hz hzL hR
  unfold fL_3
  simp only [rd hz hzL hL]
  generalize xs (J z + 1).toNatClampNeg = x1
  generalize xs (J z + 2).toNatClampNeg = x2
  obtain ⟨X, hX, rfl⟩ := J_ex x1
  obtain ⟨Y, hY, rfl⟩ := J_ex x2
  obtain ⟨⟨a, hM, hS, hB, hs, hb⟩, hTx, hRf, hI⟩ := hR
  obtain ⟨n54, n55, n20, n21, n22, n18, hp⟩ := id hs
  have j0 : (J X = 0) = (X = 0) := by rw [J_lit, J_eq (by omega)]
  have j1 : (J X = 1) = (X = 1) := by rw [J_lit, J_eq (by omega)]
  have j2 : (J X = 2) = (X = 2) := by rw [J_lit, J_eq (by omega)]
  have j3 : (J X = 3) = (X = 3) := by rw [J_lit, J_eq (by omega)]
  have w0 := @cw_1_9 k Y hY
  have w1 := @cw_m2_2 k Y hY
  have w3 := @cw_0_999 k Y hY
  have v0 := @mi_1_9 k Y hY
  have v1 := @mi_m2_2 k Y hY
  have v3 := @mi_0_999 k Y hY
  have dn : ((X = 0 ∧ (1 ≤ Y ∧ Y ≤ 9)) ∨ (X = 1 ∧ (-2 ≤ Y ∧ Y ≤ 2)) ∨ (X = 2 ∧ (-2 ≤ Y ∧ Y ≤ 2)) ∨ (X = 3 ∧ (0 ≤ Y ∧ Y ≤ 999))) ∨ ¬ ((X = 0 ∧ (1 ≤ Y ∧ Y ≤ 9)) ∨ (X = 1 ∧ (-2 ≤ Y ∧ Y ≤ 2)) ∨ (X = 2 ∧ (-2 ≤ Y ∧ Y ≤ 2)) ∨ (X = 3 ∧ (0 ≤ Y ∧ Y ≤ 999))) := Classical.em _
  unfold fX6_put fX7_put fX7_isNumber
  rcases dn with dn | dn
  · have key : ∀ i : Nat, (i < 23 ∨ i = 23) → ∀ j : Nat, i = 20 ∨ i = 21 ∨ i = 22 ∨ i = 23 → ¬ j = i → zup a i Y j = a j := fun i _ j _ h => zup_ne h
    rcases dn with ⟨q0, qy⟩ | ⟨q1, qy⟩ | ⟨q2, qy⟩ | ⟨q3, qy⟩
    · have t0 : (X = 0) = True := eq_true q0
      have t1 : (X = 1) = False := eq_false (by omega)
      have t2 : (X = 2) = False := eq_false (by omega)
      have t3 : (X = 3) = False := eq_false (by omega)
      have ty : (1 ≤ Y ∧ Y ≤ 9) = True := eq_true qy
      have cx : ∀ {α : Type} (E : Option α), chk 106 (20 + J X) E = E := fun E => by rw [J_lit, J_add, chk_J (by omega)]
      have nx : (20 + J X).toNatClampNeg = 20 := by rw [J_lit, J_add, J_nat (by omega)]; omega
      have hv : st.1 8 = m.2 0 20 := by rw [hM]; exact hS.1.2.2.2.2.1
      apply fin
      · simp only [j0, j1, j2, j3, t0, t1, t2, t3, w0, v0, Option.bind_some, b_ite, ty, chb_1, cx, nx, ↓reduceIte, hv, if_true, show ((1 : Int32) = 0) = False from by decide]
        exact rfl
      · exact rd5 z
      refine ⟨⟨zup a 20 Y, ?_, ?_, ?_, ?_, ?_⟩, hTx, hRf, hI⟩
      · show upd (m.2 0) 20 (J Y) = _
        rw [hM]
        exact upd_J _ _ _
      · obtain ⟨⟨h0, h3, h6, h7, h8, h9, h10⟩, hW, hE⟩ := hS
        refine ⟨⟨h0, h3, h6, h7, rfl, h9, h10⟩, fun w' hw' => ?_, fun e he => ?_⟩
        · simp (disch := omega) only [zup_same, zup_ne] at hw'
          rw [zup_ne (by omega), zup_ne (by omega)]
          exact hW w' hw'
        · simp (disch := omega) only [zup_same, zup_ne] at he
          rw [zup_ne (by omega), zup_ne (by omega)]
          exact hE e he
      · exact BB_ext hB hb (fun i hi h4 h5 => zup_ne (by omega))
      · refine ⟨n54, n55, qy, n21, n22, n18, fun i hi => ?_⟩
        rw [zup_ne (by omega)]
        exact hp i hi
      · exact WB_ext hb (Int.le_refl _) (fun i hi h4 h5 => zup_ne (by omega))
    · have t0 : (X = 0) = False := eq_false (by omega)
      have t1 : (X = 1) = True := eq_true q1
      have t2 : (X = 2) = False := eq_false (by omega)
      have t3 : (X = 3) = False := eq_false (by omega)
      have ty : (-2 ≤ Y ∧ Y ≤ 2) = True := eq_true qy
      have cx : ∀ {α : Type} (E : Option α), chk 106 (20 + J X) E = E := fun E => by rw [J_lit, J_add, chk_J (by omega)]
      have nx : (20 + J X).toNatClampNeg = 21 := by rw [J_lit, J_add, J_nat (by omega)]; omega
      have hv : st.1 9 = m.2 0 21 := by rw [hM]; exact hS.1.2.2.2.2.2.1
      apply fin
      · simp only [j0, j1, j2, j3, t0, t1, t2, t3, w1, v1, Option.bind_some, b_ite, ty, chb_1, cx, nx, ↓reduceIte, hv, if_true, show ((1 : Int32) = 0) = False from by decide]
        exact rfl
      · exact rd5 z
      refine ⟨⟨zup a 21 Y, ?_, ?_, ?_, ?_, ?_⟩, hTx, hRf, hI⟩
      · show upd (m.2 0) 21 (J Y) = _
        rw [hM]
        exact upd_J _ _ _
      · obtain ⟨⟨h0, h3, h6, h7, h8, h9, h10⟩, hW, hE⟩ := hS
        refine ⟨⟨h0, h3, h6, h7, h8, rfl, h10⟩, fun w' hw' => ?_, fun e he => ?_⟩
        · simp (disch := omega) only [zup_same, zup_ne] at hw'
          rw [zup_ne (by omega), zup_ne (by omega)]
          exact hW w' hw'
        · simp (disch := omega) only [zup_same, zup_ne] at he
          rw [zup_ne (by omega), zup_ne (by omega)]
          exact hE e he
      · exact BB_ext hB hb (fun i hi h4 h5 => zup_ne (by omega))
      · refine ⟨n54, n55, n20, qy, n22, n18, fun i hi => ?_⟩
        rw [zup_ne (by omega)]
        exact hp i hi
      · exact WB_ext hb (Int.le_refl _) (fun i hi h4 h5 => zup_ne (by omega))
    · have t0 : (X = 0) = False := eq_false (by omega)
      have t1 : (X = 1) = False := eq_false (by omega)
      have t2 : (X = 2) = True := eq_true q2
      have t3 : (X = 3) = False := eq_false (by omega)
      have ty : (-2 ≤ Y ∧ Y ≤ 2) = True := eq_true qy
      have cx : ∀ {α : Type} (E : Option α), chk 106 (20 + J X) E = E := fun E => by rw [J_lit, J_add, chk_J (by omega)]
      have nx : (20 + J X).toNatClampNeg = 22 := by rw [J_lit, J_add, J_nat (by omega)]; omega
      have hv : st.1 10 = m.2 0 22 := by rw [hM]; exact hS.1.2.2.2.2.2.2
      apply fin
      · simp only [j0, j1, j2, j3, t0, t1, t2, t3, w1, v1, Option.bind_some, b_ite, ty, chb_1, cx, nx, ↓reduceIte, hv, if_true, show ((1 : Int32) = 0) = False from by decide]
        exact rfl
      · exact rd5 z
      refine ⟨⟨zup a 22 Y, ?_, ?_, ?_, ?_, ?_⟩, hTx, hRf, hI⟩
      · show upd (m.2 0) 22 (J Y) = _
        rw [hM]
        exact upd_J _ _ _
      · obtain ⟨⟨h0, h3, h6, h7, h8, h9, h10⟩, hW, hE⟩ := hS
        refine ⟨⟨h0, h3, h6, h7, h8, h9, rfl⟩, fun w' hw' => ?_, fun e he => ?_⟩
        · simp (disch := omega) only [zup_same, zup_ne] at hw'
          rw [zup_ne (by omega), zup_ne (by omega)]
          exact hW w' hw'
        · simp (disch := omega) only [zup_same, zup_ne] at he
          rw [zup_ne (by omega), zup_ne (by omega)]
          exact hE e he
      · exact BB_ext hB hb (fun i hi h4 h5 => zup_ne (by omega))
      · refine ⟨n54, n55, n20, n21, qy, n18, fun i hi => ?_⟩
        rw [zup_ne (by omega)]
        exact hp i hi
      · exact WB_ext hb (Int.le_refl _) (fun i hi h4 h5 => zup_ne (by omega))
    · have t0 : (X = 0) = False := eq_false (by omega)
      have t1 : (X = 1) = False := eq_false (by omega)
      have t2 : (X = 2) = False := eq_false (by omega)
      have t3 : (X = 3) = True := eq_true q3
      have ty : (0 ≤ Y ∧ Y ≤ 999) = True := eq_true qy
      have cx : ∀ {α : Type} (E : Option α), chk 106 (20 + J X) E = E := fun E => by rw [J_lit, J_add, chk_J (by omega)]
      have nx : (20 + J X).toNatClampNeg = 23 := by rw [J_lit, J_add, J_nat (by omega)]; omega
      have hv : bd.1 7 = m.2 0 23 := by rw [hM]; exact hB.1.2.1
      apply fin
      · simp only [j0, j1, j2, j3, t0, t1, t2, t3, w3, v3, Option.bind_some, b_ite, ty, chb_1, cx, nx, ↓reduceIte, hv, if_true, show ((1 : Int32) = 0) = False from by decide]
        exact rfl
      · exact rd5 z
      refine ⟨⟨zup a 23 Y, ?_, ?_, ?_, ?_, ?_⟩, hTx, hRf, hI⟩
      · show upd (m.2 0) 23 (J Y) = _
        rw [hM]
        exact upd_J _ _ _
      · exact SS_ext hS hs (fun i hi => zup_ne (by omega))
      · obtain ⟨⟨g0, g7, g8⟩, hP, hQ⟩ := hB
        refine ⟨⟨g0, rfl, g8⟩, fun p hp => ?_, fun r p hr hp => ?_⟩
        · simp (disch := omega) only [zup_same, zup_ne] at hp
          simp (disch := omega) only [zup_same, zup_ne]
          exact hP p hp
        · simp (disch := omega) only [zup_same, zup_ne] at hr hp
          simp (disch := omega) only [zup_same, zup_ne]
          exact hQ r p hr hp
      · exact WS_ext hs (fun i hi => zup_ne (by omega))
      · obtain ⟨g56, g57, g23, hP, hQ⟩ := hb
        refine ⟨g56, g57, qy, fun p hp => ?_, fun r p hr hp => ?_⟩
        · simp (disch := omega) only [zup_same, zup_ne] at hp
          unfold W1
          simp (disch := omega) only [zup_same, zup_ne]
          exact hP p hp
        · simp (disch := omega) only [zup_same, zup_ne] at hr hp
          simp (disch := omega) only [zup_same, zup_ne]
          exact hQ r p hr hp
  · apply fin
    · by_cases q0 : X = 0
      · have t0 : (X = 0) = True := eq_true q0
        have t1 : (X = 1) = False := eq_false (by omega)
        have t2 : (X = 2) = False := eq_false (by omega)
        have t3 : (X = 3) = False := eq_false (by omega)
        have ty : (1 ≤ Y ∧ Y ≤ 9) = False := eq_false (by omega)
        simp only [j0, j1, j2, j3, t0, t1, t2, t3, w0, v0, Option.bind_some, b_ite, ty, chb_0, ↓reduceIte, if_true, if_false, c_bad, m_bad]
        exact rfl
      · by_cases q1 : X = 1
        · have t0 : (X = 0) = False := eq_false (by omega)
          have t1 : (X = 1) = True := eq_true q1
          have t2 : (X = 2) = False := eq_false (by omega)
          have t3 : (X = 3) = False := eq_false (by omega)
          have ty : (-2 ≤ Y ∧ Y ≤ 2) = False := eq_false (by omega)
          simp only [j0, j1, j2, j3, t0, t1, t2, t3, w1, v1, Option.bind_some, b_ite, ty, chb_0, ↓reduceIte, if_true, if_false, c_bad, m_bad]
          all_goals exact rfl
        · by_cases q2 : X = 2
          · have t0 : (X = 0) = False := eq_false (by omega)
            have t1 : (X = 1) = False := eq_false (by omega)
            have t2 : (X = 2) = True := eq_true q2
            have t3 : (X = 3) = False := eq_false (by omega)
            have ty : (-2 ≤ Y ∧ Y ≤ 2) = False := eq_false (by omega)
            simp only [j0, j1, j2, j3, t0, t1, t2, t3, w1, v1, Option.bind_some, b_ite, ty, chb_0, ↓reduceIte, if_true, if_false, c_bad, m_bad]
            all_goals exact rfl
          · by_cases q3 : X = 3
            · have t0 : (X = 0) = False := eq_false (by omega)
              have t1 : (X = 1) = False := eq_false (by omega)
              have t2 : (X = 2) = False := eq_false (by omega)
              have t3 : (X = 3) = True := eq_true q3
              have ty : (0 ≤ Y ∧ Y ≤ 999) = False := eq_false (by omega)
              simp only [j0, j1, j2, j3, t0, t1, t2, t3, w3, v3, Option.bind_some, b_ite, ty, chb_0, ↓reduceIte, if_true, if_false, c_bad, m_bad]
              all_goals exact rfl
            · have t0 : (X = 0) = False := eq_false (by omega)
              have t1 : (X = 1) = False := eq_false (by omega)
              have t2 : (X = 2) = False := eq_false (by omega)
              have t3 : (X = 3) = False := eq_false (by omega)
              simp only [j0, j1, j2, j3, t0, t1, t2, t3, Option.bind_some, ↓reduceIte, if_true, if_false, c_bad, m_bad]
              all_goals exact rfl
    · exact rd5 z
    · exact ⟨⟨a, hM, hS, hB, hs, hb⟩, hTx, hRf.bad, hI⟩
def tkb (a : Nat → Int) (x : Int) : Nat → Bool
  | 0 => false
  | n + 1 => tkb a x n || decide (a (24 + 5 * n + 1) = x)
theorem tkb_s (a : Nat → Int) (x : Int) (n : Nat) : tkb a x (n + 1) = (tkb a x n || decide (a (24 + 5 * n + 1) = x)) := rfl
theorem tkb_mono {a : Nat → Int} {x : Int} {i n : Nat} (h : i ≤ n) (t : tkb a x i = true) : tkb a x n = true := by
  induction n with
  | zero =>
    have : i = 0 := by omega
    subst this
    exact t
  | succ n ih =>
    by_cases q : i = n + 1
    · subst q
      exact t
    · unfold tkb
      rw [ih (by omega), Bool.true_or]
theorem c_playsAt (k : Nat) (hk : 100 < k) {bd : Dat} {a : Nat → Int} {n : Nat} (h0 : bd.1 0 = J n) (hn : n ≤ 6) (h2 : ∀ p : Nat, p < n → bd.2 2 p = J (a (24 + 5 * p + 1)) ∧ -1000 ≤ a (24 + 5 * p + 1) ∧ a (24 + 5 * p + 1) ≤ 1000) {x : Int} (hx : -2147483648 ≤ x ∧ x < 2147483648) : fX0_playsAt k bd (J x) = some (if tkb a x n = true then 1 else 0) := by
  unfold fX0_playsAt
  refine lp_for (fun (j : Nat) (v : Int32) => v = J j ∧ tkb a x j = false) n (fun (o : Option Int32) => o = some (if tkb a x n = true then 1 else 0)) ?_ ?_ ⟨rfl, rfl⟩ (by omega)
  · intro j v hj ⟨hv, ht⟩
    subst hv
    obtain ⟨g1, g2⟩ := h2 j hj
    by_cases q : a (24 + 5 * j + 1) = x
    · right
      intro rec
      have t : tkb a x (j + 1) = true := by
        unfold tkb
        rw [decide_eq_true q, Bool.or_true]
      unfold fX0_playsAt_B2
      simp (disch := omega) only [h0, J_le, chk_J, J_nat, Int.toNat_natCast, g1, J_eq]
      rw [if_neg (by omega), if_pos q, if_pos (tkb_mono (by omega) t)]
    · left
      refine ⟨J ((j + 1 : Nat) : Int), fun rec => ?_, rfl, ?_⟩
      · unfold fX0_playsAt_B2
        simp (disch := omega) only [h0, J_le, chk_J, J_nat, Int.toNat_natCast, g1, J_eq, J_suc]
        rw [if_neg (by omega), if_neg q]
      · unfold tkb
        rw [ht, decide_eq_false q]
        rfl
  · intro v ⟨hv, ht⟩ rec
    subst hv
    unfold fX0_playsAt_B2
    simp (disch := omega) only [h0, J_le]
    rw [if_pos (by omega), ht]
    rfl
theorem m_isTaken (k : Nat) (hk : 100 < k) {m : Dat} {a : Nat → Int} (hM : m.2 0 = Jf a) {n : Nat} (h0 : a 56 = n) (hn : n ≤ 6) (h2 : ∀ p : Nat, p < n → -1000 ≤ a (24 + 5 * p + 1) ∧ a (24 + 5 * p + 1) ≤ 1000) {x : Int} (hx : -2147483648 ≤ x ∧ x < 2147483648) : fX7_isTaken k m (J x) = some (if tkb a x n = true then 1 else 0) := by
  unfold fX7_isTaken
  refine lp_for (fun (j : Nat) (v : Int32 × Int32) => v = ((if tkb a x j = true then 1 else 0), J j)) n (fun (o : Option Int32) => o = some (if tkb a x n = true then 1 else 0)) ?_ ?_ rfl (by omega)
  · intro j v hj hv
    subst hv
    have g2 := h2 j hj
    left
    have ho : fX7_of k m (J j) 1 = some (J (a (24 + 5 * j + 1))) := m_of k hM (p := j) (x := 1) (by omega) (by omega)
    refine ⟨((if tkb a x (j + 1) = true then 1 else 0), J ((j + 1 : Nat) : Int)), fun rec => ?_, rfl⟩
    unfold fX7_isTaken_B4
    simp (disch := omega) only [m_players k hM, h0, Option.bind_some, J_le, ho, J_eq, J_suc, b_ite]
    rw [if_neg (by omega)]
    rw [tkb_s]
    by_cases t : tkb a x j = true
    · rw [if_pos t, t, Bool.true_or, if_pos rfl]
    · rw [if_neg t]
      by_cases q : a (24 + 5 * j + 1) = x
      · rw [if_pos q, decide_eq_true q, Bool.or_true, if_pos rfl]
      · rw [if_neg q, decide_eq_false q, Bool.or_false, if_neg t]
  · intro v hv rec
    subst hv
    unfold fX7_isTaken_B4
    simp (disch := omega) only [m_players k hM, h0, Option.bind_some, J_le, chb_b]
    rw [if_pos (by omega)]
def adp (a : Nat → Int) (p : Nat) (X Y Z : Int) : Nat → Int := zup (zup (zup (zup (zup (zup a (24 + 5 * p) X) (24 + 5 * p + 1) Y) (24 + 5 * p + 2) Z) (24 + 5 * p + 3) 0) (24 + 5 * p + 4) p) 56 (p + 1)
theorem adp_o {a : Nat → Int} {p : Nat} {X Y Z : Int} {i : Nat} (h : i < 24 + 5 * p ∨ 24 + 5 * p + 4 < i) (h6 : ¬ i = 56) : adp a p X Y Z i = a i := by
  unfold adp
  rw [zup_ne h6, zup_ne (by omega), zup_ne (by omega), zup_ne (by omega), zup_ne (by omega), zup_ne (by omega)]
theorem adp_6 {a : Nat → Int} {p : Nat} {X Y Z : Int} : adp a p X Y Z 56 = p + 1 := zup_same _ _ _
theorem adp_p {a : Nat → Int} {p : Nat} (hp : p < 6) {X Y Z : Int} : adp a p X Y Z (24 + 5 * p) = X ∧ adp a p X Y Z (24 + 5 * p + 1) = Y ∧ adp a p X Y Z (24 + 5 * p + 2) = Z ∧ adp a p X Y Z (24 + 5 * p + 3) = 0 ∧ adp a p X Y Z (24 + 5 * p + 4) = p := by
  unfold adp
  refine ⟨?_, ?_, ?_, ?_, ?_⟩ <;> simp (disch := omega) only [zup_same, zup_ne]
theorem c_addPlayer (k : Nat) {bd : Dat} {a a' : Nat → Int} {p : Nat} {X Y Z : Int} (hB : BB bd a) (hp : a 56 = p) (h6 : p < 6) (h57 : a' 57 = 0) (h56 : a' 56 = p + 1) (h23 : a' 23 = a 23)
    (ho : ∀ i : Nat, 24 ≤ i → i < 24 + 5 * p → a' i = a i) (hn : a' (24 + 5 * p) = X ∧ a' (24 + 5 * p + 1) = Y ∧ a' (24 + 5 * p + 2) = Z ∧ a' (24 + 5 * p + 3) = 0 ∧ a' (24 + 5 * p + 4) = p) :
    ∃ d : Dat, fX0_addPlayer k bd (J X) (J Y) (J Z) = some (J p, d) ∧ BB (d.1, va_up (va_up (va_up (va_up (va_up bd.2 1 (d.2 1)) 2 (d.2 2)) 3 (d.2 3)) 4 (d.2 4)) 5 (d.2 5)) a' := by
  obtain ⟨⟨g0, g7, g8⟩, hP, hQ⟩ := hB
  rw [hp] at g0
  have c6 : ∀ {α : Type} (E : Option α), chk 6 (J (p : Int)) E = E := fun E => chk_J (by omega)
  have e1 : J (p : Int) + 1 - 1 = J p := by rw [J_lit, J_add, J_sub]; congr 1; omega
  unfold fX0_addPlayer
  simp (disch := omega) only [g0, c6, J_nat, Int.toNat_natCast, e1]
  rw [if_pos (by rw [J_lit, J_lt (by omega)]; omega)]
  refine ⟨_, rfl, ⟨?_, ?_, ?_⟩, fun q hq => ?_, fun r q hr _ => ?_⟩
  · rw [h56]
    show J (p : Int) + 1 = _
    rw [J_lit, J_add]
  · rw [h23]
    exact g7
  · rw [h57]
    rfl
  · rw [h56] at hq
    by_cases e : q = p
    · subst e
      rw [hn.1, hn.2.1, hn.2.2.1, hn.2.2.2.1, hn.2.2.2.2]
      exact ⟨upd_same _ _ _, upd_same _ _ _, upd_same _ _ _, upd_same _ _ _, upd_same _ _ _⟩
    · have := hP q (by omega)
      rw [ho (24 + 5 * q) (by omega) (by omega), ho (24 + 5 * q + 1) (by omega) (by omega), ho (24 + 5 * q + 2) (by omega) (by omega), ho (24 + 5 * q + 3) (by omega) (by omega), ho (24 + 5 * q + 4) (by omega) (by omega)]
      exact ⟨(upd_ne e).trans this.1, (upd_ne e).trans this.2.1, (upd_ne e).trans this.2.2.1, (upd_ne e).trans this.2.2.2.1, (upd_ne e).trans this.2.2.2.2⟩
  · rw [h57] at hr
    omega
theorem m_layPlayer (k : Nat) {n : Nat} {f : Nat → Int32} {a : Nat → Int} {p : Nat} {X Y Z : Int} (hf : ∀ i : Nat, i < n → f i = J (a i)) (hn : 54 ≤ n ∧ n ≤ 106) (hp : p < 6) :
    ∃ f', fX7_layPlayer k n f (24 + 5 * J p) (J X) (J Y) (J Z) (J p) = some f' ∧ (∀ i : Nat, i < n → f' i = J (zup (zup (zup (zup (zup a (24 + 5 * p) X) (24 + 5 * p + 1) Y) (24 + 5 * p + 2) Z) (24 + 5 * p + 3) 0) (24 + 5 * p + 4) p i))
      ∧ f' = upd (upd (upd (upd (upd f (24 + 5 * p) (J X)) (24 + 5 * p + 1) (J Y)) (24 + 5 * p + 2) (J Z)) (24 + 5 * p + 3) (J 0)) (24 + 5 * p + 4) (J p) := by
  unfold fX7_layPlayer
  have e : (24 : Int32) + 5 * J p = J ((24 + 5 * p : Nat) : Int) := by
    simp only [J_lit, J_mul, J_add]
    congr 1
  have e0 : J ((24 + 5 * p : Nat) : Int) + 0 = J ((24 + 5 * p : Nat) : Int) := by rw [J_lit, J_add]; congr 1
  have e1 : J ((24 + 5 * p : Nat) : Int) + 1 = J ((24 + 5 * p + 1 : Nat) : Int) := by rw [J_lit, J_add]; rfl
  have e2 : J ((24 + 5 * p : Nat) : Int) + 2 = J ((24 + 5 * p + 2 : Nat) : Int) := by rw [J_lit, J_add]; rfl
  have e3 : J ((24 + 5 * p : Nat) : Int) + 3 = J ((24 + 5 * p + 3 : Nat) : Int) := by rw [J_lit, J_add]; rfl
  have e4 : J ((24 + 5 * p : Nat) : Int) + 4 = J ((24 + 5 * p + 4 : Nat) : Int) := by rw [J_lit, J_add]; rfl
  simp (disch := omega) only [e, e0, e1, e2, e3, e4, chk_J, J_nat, Int.toNat_natCast]
  refine ⟨_, rfl, fun i hi => ?_, rfl⟩
  unfold upd zup
  have := hf i hi
  by_cases c4 : i = 24 + 5 * p + 4
  · rw [if_pos c4, if_pos c4]
  · by_cases c3 : i = 24 + 5 * p + 3
    · rw [if_neg c4, if_neg c4, if_pos c3, if_pos c3]
      rfl
    · by_cases c2 : i = 24 + 5 * p + 2
      · rw [if_neg c4, if_neg c4, if_neg c3, if_neg c3, if_pos c2, if_pos c2]
      · by_cases c1 : i = 24 + 5 * p + 1
        · rw [if_neg c4, if_neg c4, if_neg c3, if_neg c3, if_neg c2, if_neg c2, if_pos c1, if_pos c1]
        · by_cases c0 : i = 24 + 5 * p
          · rw [if_neg c4, if_neg c4, if_neg c3, if_neg c3, if_neg c2, if_neg c2, if_neg c1, if_neg c1, if_pos c0, if_pos c0]
          · rw [if_neg c4, if_neg c4, if_neg c3, if_neg c3, if_neg c2, if_neg c2, if_neg c1, if_neg c1, if_neg c0, if_neg c0]
            exact this
theorem WB_add {a a' : Nat → Int} {p : Nat} (hb : WB a) (hp : a 56 = p) (h6 : p < 6) (h54 : a' 54 = a 54) (h57 : a' 57 = 0) (h56 : a' 56 = p + 1) (h23 : a' 23 = a 23)
    (ho : ∀ i : Nat, 24 ≤ i → i < 24 + 5 * p → a' i = a i) (hn : (0 ≤ a' (24 + 5 * p) ∧ a' (24 + 5 * p) ≤ 5) ∧ (0 ≤ a' (24 + 5 * p + 1) ∧ a' (24 + 5 * p + 1) < a 54) ∧ (1 ≤ a' (24 + 5 * p + 2) ∧ a' (24 + 5 * p + 2) ≤ 99) ∧ a' (24 + 5 * p + 3) = 0 ∧ a' (24 + 5 * p + 4) = p) : WB a' := by
  obtain ⟨g56, g57, g23, hP, hQ⟩ := hb
  refine ⟨by omega, by omega, by omega, fun q hq => ?_, fun r q hr hq => by omega⟩
  unfold W1
  rw [h54, h56]
  by_cases e : q = p
  · subst e
    omega
  · have := hP q (by omega)
    unfold W1 at this
    rw [ho (24 + 5 * q) (by omega) (by omega), ho (24 + 5 * q + 1) (by omega) (by omega), ho (24 + 5 * q + 2) (by omega) (by omega), ho (24 + 5 * q + 3) (by omega) (by omega), ho (24 + 5 * q + 4) (by omega) (by omega)]
    omega
set_option maxHeartbeats 4000000 in
theorem L_4 (k L : Nat) (hk : 100 < k) (xs : Nat → Int32) (hL : L ≤ 2560) : OP L (fL_4 k L xs) := by
  intro rec z c st bd i0 i1 b0 b1 t5 t6 t7 h8 t9 s10 r11 m hz hzL hR
  unfold fL_4
  simp only [rd hz hzL hL]
  generalize xs (J z + 1).toNatClampNeg = x1
  generalize xs (J z + 2).toNatClampNeg = x2
  generalize xs (J z + 3).toNatClampNeg = x3
  obtain ⟨X, hX, rfl⟩ := J_ex x1
  obtain ⟨Y, hY, rfl⟩ := J_ex x2
  obtain ⟨Z, hZ, rfl⟩ := J_ex x3
  obtain ⟨⟨a, hM, hS, hB, hs, hb⟩, hTx, hRf, hI⟩ := hR
  obtain ⟨n56, n57, n23, hP, hQ⟩ := id hb
  have n54 := hs.1
  obtain ⟨p, hp⟩ : ∃ p : Nat, a 56 = p := ⟨(a 56).toNat, by omega⟩
  have pA := c_playsAt k hk (bd := bd) (a := a) (n := p) (by rw [← hp]; exact hB.1.1) (by omega) (fun q hq => by
    have w := hP q (by omega)
    unfold W1 at w
    exact ⟨(hB.2.1 q (by omega)).2.1, by omega, by omega⟩) hY
  have iT := m_isTaken k hk hM hp (by omega) (fun q hq => by
    have w := hP q (by omega)
    unfold W1 at w
    omega) hY
  unfold fX6_player fX7_player
  rw [cw_0_5 k hX, mi_0_5 k hX, c_hasWindow k hS hs hY, m_isWindow k hM hs hY, cw_1_99 k hZ, mi_1_99 k hZ, pA, iT]
  simp only [Option.bind_some, b_ite, m_players k hM, hB.1.1, hp]
  have e6 : (J (p : Int) < 6) = (p < 6) := by rw [J_lit, J_lt (by omega)]; exact propext (by omega)
  have e7 : (J (p : Int) = 6) = (p = 6) := by rw [J_lit, J_eq (by omega)]; exact propext (by omega)
  simp only [e6, e7]
  by_cases q1 : 0 ≤ X ∧ X ≤ 5
  · by_cases q2 : 0 ≤ Y ∧ Y ≤ a 54 - 1
    · by_cases q3 : 1 ≤ Z ∧ Z ≤ 99
      · simp only [q1, q2, q3, and_self, if_true, ↓reduceIte]
        by_cases q4 : tkb a Y p = true
        · simp only [q4, ↓reduceIte, c_bad, m_bad, Option.bind_some]
          apply fin
          · exact rfl
          · exact rd5 z
          · exact ⟨⟨a, hM, hS, hB, hs, hb⟩, hTx, hRf.bad, hI⟩
        · simp only [q4, ↓reduceIte, Bool.false_eq_true, if_false]
          by_cases q6 : p = 6
          · rw [if_neg (show ¬ p < 6 from by omega), if_pos q6]
            simp only [c_full, m_full, Option.bind_some, ↓reduceIte]
            apply fin
            · exact rfl
            · exact rd5 z
            · exact ⟨⟨a, hM, hS, hB, hs, hb⟩, hTx, hRf.full, hI⟩
          · rw [if_pos (show p < 6 from by omega), if_neg q6]
            have p6 : p < 6 := by omega
            have hn := @adp_p a p p6 X Y Z
            have ho : ∀ i : Nat, (i < 24 + 5 * p ∨ 24 + 5 * p + 4 < i) → ¬ i = 56 → ¬ i = 57 → zup (adp a p X Y Z) 57 0 i = a i := fun i h1 h2 h3 => by
              rw [zup_ne h3, adp_o h1 h2]
            have hn' : zup (adp a p X Y Z) 57 0 (24 + 5 * p) = X ∧ zup (adp a p X Y Z) 57 0 (24 + 5 * p + 1) = Y ∧ zup (adp a p X Y Z) 57 0 (24 + 5 * p + 2) = Z ∧ zup (adp a p X Y Z) 57 0 (24 + 5 * p + 3) = 0 ∧ zup (adp a p X Y Z) 57 0 (24 + 5 * p + 4) = p := by
              rw [zup_ne (by omega), zup_ne (by omega), zup_ne (by omega), zup_ne (by omega), zup_ne (by omega)]
              exact hn
            have h56 : zup (adp a p X Y Z) 57 0 56 = p + 1 := by
              rw [zup_ne (by omega)]
              exact adp_6
            obtain ⟨d, e1, hB'⟩ := c_addPlayer k (a' := zup (adp a p X Y Z) 57 0) hB hp p6 (zup_same _ _ _) h56 (ho 23 (by omega) (by omega) (by omega)) (fun i h1 h2 => ho i (by omega) (by omega) (by omega)) hn'
            obtain ⟨f', e2, hf, hff⟩ := m_layPlayer k (n := 106) (f := m.2 0) (a := a) (p := p) (X := X) (Y := Y) (Z := Z) (fun i _ => by rw [hM]; rfl) (by omega) p6
            have c56 : ∀ {α : Type} (E : Option α), chk 106 (56 : Int32) E = E := fun E => by rw [J_lit, chk_J (by omega)]
            have c57 : ∀ {α : Type} (E : Option α), chk 106 (57 : Int32) E = E := fun E => by rw [J_lit, chk_J (by omega)]
            rw [e1, e2]
            simp only [Option.bind_some, c56, c57, ↓reduceIte, Bool.false_eq_true, if_false]
            apply fin
            · exact rfl
            · exact rd5 z
            refine ⟨⟨zup (adp a p X Y Z) 57 0, ?_, ?_, hB', ?_, ?_⟩, hTx, hRf, hI⟩
            · show upd (upd f' 56 (f' 56 + 1)) 57 0 = _
              have h6' : f' 56 = J p := by
                rw [hf 56 (by omega), zup_ne (by omega), zup_ne (by omega), zup_ne (by omega), zup_ne (by omega), zup_ne (by omega), hp]
              rw [h6', hff, hM, J_lit, J_add, upd_J, upd_J, upd_J, upd_J, upd_J, upd_J]
              exact upd_J (adp a p X Y Z) 57 0
            · exact SS_ext hS hs (fun i hi => ho i (by omega) (by omega) (by omega))
            · exact WS_ext hs (fun i hi => ho i (by omega) (by omega) (by omega))
            · exact WB_add hb hp p6 (ho 54 (by omega) (by omega) (by omega)) (zup_same _ _ _) h56 (ho 23 (by omega) (by omega) (by omega)) (fun i h1 h2 => ho i (by omega) (by omega) (by omega)) (by rw [hn'.1, hn'.2.1, hn'.2.2.1, hn'.2.2.2.1, hn'.2.2.2.2]; omega)
      · simp only [q1, q2, q3, and_self, if_true, ↓reduceIte, c_bad, m_bad, Option.bind_some]
        apply fin
        · exact rfl
        · exact rd5 z
        · exact ⟨⟨a, hM, hS, hB, hs, hb⟩, hTx, hRf.bad, hI⟩
    · simp only [q1, q2, and_self, if_true, ↓reduceIte, c_bad, m_bad, Option.bind_some]
      apply fin
      · exact rfl
      · exact rd5 z
      · exact ⟨⟨a, hM, hS, hB, hs, hb⟩, hTx, hRf.bad, hI⟩
  · simp only [q1, ↓reduceIte, c_bad, m_bad, Option.bind_some]
    apply fin
    · exact rfl
    · exact rd5 z
    · exact ⟨⟨a, hM, hS, hB, hs, hb⟩, hTx, hRf.bad, hI⟩
theorem L_5 (k L : Nat) (hk : 100 < k) (xs : Nat → Int32) (hL : L ≤ 2560) : OP L (fL_5 k L xs) := by
  intro rec z c st bd i0 i1 b0 b1 t5 t6 t7 h8 t9 s10 r11 m hz hzL hR
  unfold fL_5
  simp only [rd hz hzL hL]
  generalize xs (J z + 1).toNatClampNeg = x1
  generalize xs (J z + 2).toNatClampNeg = x2
  obtain ⟨X, hX, rfl⟩ := J_ex x1
  obtain ⟨Y, hY, rfl⟩ := J_ex x2
  obtain ⟨⟨a, hM, hS, hB, hs, hb⟩, hTx, hRf, hI⟩ := hR
  obtain ⟨n54, n55, n20, n21, n22, n18, hp⟩ := id hs
  obtain ⟨n56, n57, n23, hP, hQ⟩ := id hb
  unfold fX6_offset fX7_offset fX7_isOffset
  rw [c_hasPlayer k hB hb hX, m_isPlayer k hM hb hX, cw_m500_500 k hY, mi_m500_500 k hY]
  simp only [Option.bind_some, b_ite, chb_b]
  by_cases q1 : 0 ≤ X ∧ X ≤ a 56 - 1
  · rw [if_pos q1, if_pos q1]
    by_cases q2 : -500 ≤ Y ∧ Y ≤ 500
    · rw [if_pos q2, if_pos q2]
      obtain ⟨p, rfl⟩ : ∃ p : Nat, X = p := ⟨X.toNat, by omega⟩
      have hBp := hB.2.1 p (by omega)
      have wp := hP p (by omega)
      have ho : fX7_of k m (J p) 3 = some (J (a (24 + 5 * p + 3))) := m_of k hM (p := p) (x := 3) (by omega) (by omega)
      have e3 : (24 : Int32) + 5 * J (p : Int) + 3 = J ((24 + 5 * p + 3 : Nat) : Int) := by
        simp only [J_lit, J_mul, J_add]
        congr 1
      apply fin
      · simp (disch := omega) only [ho, e3, chk_J, J_nat, Int.toNat_natCast, Option.bind_some, hBp.2.2.2.1, ↓reduceIte]
        all_goals exact rfl
      · exact rd5 z
      refine ⟨⟨zup a (24 + 5 * p + 3) Y, ?_, ?_, ?_, ?_, ?_⟩, hTx, hRf, hI⟩
      · show upd (m.2 0) (24 + 5 * p + 3) (J Y) = _
        rw [hM]
        exact upd_J _ _ _
      · exact SS_ext hS hs (fun i hi => zup_ne (by omega))
      · obtain ⟨⟨g0, g7, g8⟩, gP, gQ⟩ := hB
        refine ⟨⟨by simp (disch := omega) only [zup_same, zup_ne]; exact g0, by simp (disch := omega) only [zup_same, zup_ne]; exact g7, by simp (disch := omega) only [zup_same, zup_ne]; exact g8⟩, fun q hq => ?_, fun r q hr hq => ?_⟩
        · simp (disch := omega) only [zup_same, zup_ne] at hq
          have := gP q hq
          by_cases e : q = p
          · subst e
            simp (disch := omega) only [zup_same, zup_ne]
            exact ⟨this.1, this.2.1, this.2.2.1, upd_same _ _ _, this.2.2.2.2⟩
          · simp (disch := omega) only [zup_same, zup_ne]
            exact ⟨this.1, this.2.1, this.2.2.1, (upd_ne e).trans this.2.2.2.1, this.2.2.2.2⟩
        · simp (disch := omega) only [zup_same, zup_ne] at hr hq
          simp (disch := omega) only [zup_same, zup_ne]
          exact gQ r q hr hq
      · exact WS_ext hs (fun i hi => zup_ne (by omega))
      · refine ⟨by simp (disch := omega) only [zup_same, zup_ne]; exact n56, by simp (disch := omega) only [zup_same, zup_ne]; exact n57, by simp (disch := omega) only [zup_same, zup_ne]; exact n23, fun q hq => ?_, fun r q hr hq => ?_⟩
        · simp (disch := omega) only [zup_same, zup_ne] at hq
          have := hP q hq
          unfold W1 at this ⊢
          by_cases e : q = p
          · subst e
            simp (disch := omega) only [zup_same, zup_ne]
            omega
          · simp (disch := omega) only [zup_same, zup_ne]
            omega
        · simp (disch := omega) only [zup_same, zup_ne] at hr hq
          simp (disch := omega) only [zup_same, zup_ne]
          exact hQ r q hr hq
    · rw [if_neg q2, if_neg q2]
      apply fin
      · simp only [c_bad, m_bad, Option.bind_some, ↓reduceIte]
        exact rfl
      · exact rd5 z
      · exact ⟨⟨a, hM, hS, hB, hs, hb⟩, hTx, hRf.bad, hI⟩
  · rw [if_neg q1, if_neg q1]
    apply fin
    · simp only [c_bad, m_bad, Option.bind_some, ↓reduceIte]
      exact rfl
    · exact rd5 z
    · exact ⟨⟨a, hM, hS, hB, hs, hb⟩, hTx, hRf.bad, hI⟩
theorem L_6 (k L : Nat) (hk : 100 < k) (xs : Nat → Int32) (hL : L ≤ 2560) : OP L (fL_6 k L xs) := by
  intro rec z c st bd i0 i1 b0 b1 t5 t6 t7 h8 t9 s10 r11 m hz hzL hR
  unfold fL_6
  simp only [rd hz hzL hL]
  generalize xs (J z + 1).toNatClampNeg = x1
  generalize xs (J z + 2).toNatClampNeg = x2
  obtain ⟨X, hX, rfl⟩ := J_ex x1
  obtain ⟨Y, hY, rfl⟩ := J_ex x2
  obtain ⟨⟨a, hM, hS, hB, hs, hb⟩, hTx, hRf, hI⟩ := hR
  obtain ⟨n54, n55, n20, n21, n22, n18, hp⟩ := id hs
  obtain ⟨n56, n57, n23, hP, hQ⟩ := id hb
  unfold fX6_late fX7_late
  rw [c_hasPlayer k hB hb hX, m_isPlayer k hM hb hX, cw_0_1 k hY, mi_0_1 k hY]
  simp only [Option.bind_some, b_ite, chb_b]
  by_cases q1 : 0 ≤ X ∧ X ≤ a 56 - 1
  · rw [if_pos q1, if_pos q1]
    by_cases q2 : 0 ≤ Y ∧ Y ≤ 1
    · rw [if_pos q2, if_pos q2]
      obtain ⟨p, rfl⟩ : ∃ p : Nat, X = p := ⟨X.toNat, by omega⟩
      have hBp := hB.2.1 p (by omega)
      have wp := hP p (by omega)
      have ho : fX7_of k m (J p) 3 = some (J (a (24 + 5 * p + 3))) := m_of k hM (p := p) (x := 3) (by omega) (by omega)
      have jy : (J Y = 0) = (Y = 0) := by rw [J_lit, J_eq (by omega)]
      apply fin
      · simp (disch := omega) only [ho, chk_J, J_nat, Int.toNat_natCast, Option.bind_some, hBp.2.2.2.1, c_lateOf k hB hb (show (p : Int) < a 56 by omega), m_lateOf k hM (show p < 6 by omega) wp, jy]
        by_cases y0 : Y = 0
        · simp only [y0, ↓reduceIte, Option.bind_some]
          all_goals exact rfl
        · simp only [y0, ↓reduceIte, Option.bind_some]
          all_goals exact rfl
      · exact rd5 z
      · exact ⟨⟨a, hM, hS, hB, hs, hb⟩, hTx, hRf, hI⟩
    · rw [if_neg q2, if_neg q2]
      apply fin
      · simp only [c_bad, m_bad, Option.bind_some, ↓reduceIte]
        exact rfl
      · exact rd5 z
      · exact ⟨⟨a, hM, hS, hB, hs, hb⟩, hTx, hRf.bad, hI⟩
  · rw [if_neg q1, if_neg q1]
    apply fin
    · simp only [c_bad, m_bad, Option.bind_some, ↓reduceIte]
      exact rfl
    · exact rd5 z
    · exact ⟨⟨a, hM, hS, hB, hs, hb⟩, hTx, hRf.bad, hI⟩
theorem L_7 (k L : Nat) (hk : 100 < k) (xs : Nat → Int32) (hL : L ≤ 2560) : OP L (fL_7 k L xs) := by
  intro rec z c st bd i0 i1 b0 b1 t5 t6 t7 h8 t9 s10 r11 m hz hzL hR
  unfold fL_7
  simp only [rd hz hzL hL]
  generalize xs (J z + 1).toNatClampNeg = x1
  generalize xs (J z + 2).toNatClampNeg = x2
  obtain ⟨X, hX, rfl⟩ := J_ex x1
  obtain ⟨Y, hY, rfl⟩ := J_ex x2
  obtain ⟨⟨a, hM, hS, hB, hs, hb⟩, hTx, hRf, hI⟩ := hR
  obtain ⟨n54, n55, n20, n21, n22, n18, hp⟩ := id hs
  obtain ⟨n56, n57, n23, hP, hQ⟩ := id hb
  unfold fX6_sound fX7_sound
  rw [c_hasWindow k hS hs hX, m_isWindow k hM hs hX, c_hasEar k hS hs hY, m_isEar k hM hs hY]
  simp only [Option.bind_some, b_ite, chb_b]
  by_cases q1 : 0 ≤ X ∧ X ≤ a 54 - 1
  · rw [if_pos q1, if_pos q1]
    by_cases q2 : 0 ≤ Y ∧ Y ≤ a 55 - 1
    · rw [if_pos q2, if_pos q2]
      obtain ⟨p, rfl⟩ : ∃ p : Nat, X = p := ⟨X.toNat, by omega⟩
      obtain ⟨e, rfl⟩ : ∃ p : Nat, Y = p := ⟨Y.toNat, by omega⟩
      apply fin
      · simp only [c_soundTime k hS hs (show (p : Int) < a 54 by omega) (show (e : Int) < a 55 by omega), m_soundOf k hM hs (show (p : Int) < a 54 by omega) (show (e : Int) < a 55 by omega), Option.bind_some, ↓reduceIte]
        all_goals exact rfl
      · exact rd5 z
      · exact ⟨⟨a, hM, hS, hB, hs, hb⟩, hTx, hRf, hI⟩
    · rw [if_neg q2, if_neg q2]
      apply fin
      · simp only [c_bad, m_bad, Option.bind_some, ↓reduceIte]
        exact rfl
      · exact rd5 z
      · exact ⟨⟨a, hM, hS, hB, hs, hb⟩, hTx, hRf.bad, hI⟩
  · rw [if_neg q1, if_neg q1]
    apply fin
    · simp only [c_bad, m_bad, Option.bind_some, ↓reduceIte]
      exact rfl
    · exact rd5 z
    · exact ⟨⟨a, hM, hS, hB, hs, hb⟩, hTx, hRf.bad, hI⟩
theorem L_9 (k L : Nat) (hk : 100 < k) (xs : Nat → Int32) (hL : L ≤ 2560) : OP L (fL_9 k ) := by
  intro rec z c st bd i0 i1 b0 b1 t5 t6 t7 h8 t9 s10 r11 m hz hzL hR
  unfold fL_9
  obtain ⟨⟨a, hM, hS, hB, hs, hb⟩, hTx, hRf, hI⟩ := hR
  obtain ⟨n54, n55, n20, n21, n22, n18, hp⟩ := id hs
  obtain ⟨n56, n57, n23, hP, hQ⟩ := id hb
  obtain ⟨w, w1, w2, w3, w4⟩ := hTx
  unfold fX6_clear fX7_clear
  apply fin
  · simp only [w2, w3, Option.bind_some, ↓reduceIte]
    all_goals exact rfl
  · exact rd5 z
  · exact ⟨⟨a, hM, hS, hB, hs, hb⟩, ⟨0, by omega, rfl, rfl, fun i hi => by omega⟩, hRf, hI⟩
theorem FM.R {m m' : Dat} {x y z : Int32} (h : FM m m') (r : RR x y z (m.2 3)) : RR x y z (m'.2 3) := by
  rw [h.2 3 (by omega) (by omega) (by omega)]
  exact r
theorem FM.X {m m' : Dat} {n : Int32} {t t' : Nat → Int32} (h : FM (upd m.1 8 0, m.2) m') (r : RX n (m.1 16) t t') : RX n (m'.1 16) t t' := by
  have e : m'.1 16 = m.1 16 := h.1 16 (by omega)
  rw [e]
  exact r
theorem cw_time (k : Nat) {z : Int} (h : -2147483648 ≤ z ∧ z < 2147483648) : fX6_isTime k (J z) = some (if 0 ≤ z ∧ z ≤ 9999 then 1 else 0) := by
  unfold fX6_isTime
  rw [cw_0_9999 k h]
  simp only [Option.bind_some, chb_b]
set_option maxHeartbeats 4000000 in
theorem L_11 (k L : Nat) (hk : 100 < k) (xs : Nat → Int32) (hL : L ≤ 2560) : OP L (fL_11 k L xs) := by
  intro rec z c st bd i0 i1 b0 b1 t5 t6 t7 h8 t9 s10 r11 m hz hzL hR
  unfold fL_11
  simp only [rd hz hzL hL]
  generalize xs (J z + 1).toNatClampNeg = x1
  generalize xs (J z + 2).toNatClampNeg = x2
  generalize xs (J z + 3).toNatClampNeg = x3
  obtain ⟨X, hX, rfl⟩ := J_ex x1
  obtain ⟨Y, hY, rfl⟩ := J_ex x2
  obtain ⟨Z, hZ, rfl⟩ := J_ex x3
  obtain ⟨⟨a, hM, hS, hB, hs, hb⟩, hTx, hRf, hI⟩ := hR
  obtain ⟨n54, n55, n20, n21, n22, n18, hp⟩ := id hs
  obtain ⟨n56, n57, n23, hP, hQ⟩ := id hb
  unfold fX6_heard fX7_heard
  rw [c_hasEar k hS hs hX, m_isEar k hM hs hX, cw_time k hY, mi_0_9999 k hY]
  have jz : (-1 ≤ J Z) = (-1 ≤ Z) := by
    rw [show (-1 : Int32) = J (-1) from rfl, J_le (by omega)]
  have jz1 : (J Z = -1) = (Z = -1) := by
    rw [show (-1 : Int32) = J (-1) from rfl, J_eq (by omega)]
  simp only [Option.bind_some, b_ite, chb_b, jz, jz1]
  by_cases q1 : 0 ≤ X ∧ X ≤ a 55 - 1
  · rw [if_pos q1, if_pos q1]
    by_cases q2 : 0 ≤ Y ∧ Y ≤ 9999
    · rw [if_pos q2, if_pos q2]
      by_cases q3 : -1 ≤ Z
      · rw [if_pos q3, if_pos q3]
        obtain ⟨e, rfl⟩ : ∃ p : Nat, X = p := ⟨X.toNat, by omega⟩
        obtain ⟨d1, e1, g1⟩ := c_listen k hk (d := h8) hS hB hs hb (show (e : Int) < a 55 by omega)
        obtain ⟨m1, e2, g2, f2⟩ := m_layAll k hk (m := (upd m.1 8 0, m.2)) (s := 0) hM rfl (by omega) hs hb (show (e : Int) < a 55 by omega)
        have hlen := hl_len a 0 e (a 56).toNat
        have l1 := g1.1
        have l2 := g2.1
        have fR := FM.R f2 hRf
        have fX := FM.X f2 hTx
        by_cases q4 : Z = -1
        · apply fin
          · simp only [e1, e2, q4, Option.bind_some, ↓reduceIte, l1, l2]
            all_goals exact rfl
          · exact rd5 z
          · exact ⟨⟨a, hM, hS, hB, hs, hb⟩, fX, hRf, hI⟩
        · by_cases q5 : Z < (hl a 0 e (a 56).toNat).length
          · obtain ⟨i, rfl⟩ : ∃ p : Nat, Z = p := ⟨Z.toNat, by omega⟩
            have t1 := c_timeOf k (d := (d1.1, va_up (va_up (va_up h8.2 1 (d1.2 1)) 2 (d1.2 2)) 3 (d1.2 3))) hB hs hb (show (e : Int) < a 55 by omega) (s := 0) g1 (show i < _ by omega)
            obtain ⟨x, y, t2, t3, t4⟩ := m_timeOf k (m := (m1.1, va_up (va_up (va_up m.2 4 (m1.2 4)) 5 (m1.2 5)) 6 (m1.2 6))) hM hs hb (show (e : Int) < a 55 by omega) (s := 0) g2 (show i < _ by omega)
            replace t2 : fX7_lateOf k (m1.1, va_up (va_up (va_up m.2 4 (m1.2 4)) 5 (m1.2 5)) 6 (m1.2 6)) (m1.2 4 i) = some x := t2
            replace t3 : m1.2 5 i = y := t3
            apply fin
            · have a1 : (J (i : Int) < J ((hl a 0 e (a 56).toNat).length : Nat)) = True := by rw [J_lt (by omega)]; exact eq_true q5
              have a2 : (J ((hl a 0 e (a 56).toNat).length : Nat) ≤ J (i : Int)) = False := by rw [J_le (by omega)]; exact eq_false (by omega)
              simp (disch := omega) only [e1, e2, q4, Option.bind_some, ↓reduceIte, l1, l2, a1, a2, t1, J_nat, Int.toNat_natCast, t2, t3, chk_J, if_true, if_false, Int32.add_assoc, t4]
              all_goals exact rfl
            · exact rd5 z
            · exact ⟨⟨a, hM, hS, hB, hs, hb⟩, fX, hRf, hI⟩
          · apply fin
            · have a1 : (J Z < J ((hl a 0 e (a 56).toNat).length : Nat)) = False := by rw [J_lt (by omega)]; exact eq_false q5
              have a2 : (J ((hl a 0 e (a 56).toNat).length : Nat) ≤ J Z) = True := by rw [J_le (by omega)]; exact eq_true (by omega)
              simp only [e1, e2, q4, Option.bind_some, ↓reduceIte, l1, l2, a1, a2, if_true, if_false]
              all_goals exact rfl
            · exact rd5 z
            · exact ⟨⟨a, hM, hS, hB, hs, hb⟩, fX, hRf, hI⟩
      · rw [if_neg q3, if_neg q3]
        apply fin
        · simp only [c_bad, m_bad, Option.bind_some, ↓reduceIte]
          exact rfl
        · exact rd5 z
        · exact ⟨⟨a, hM, hS, hB, hs, hb⟩, hTx, hRf.bad, hI⟩
    · rw [if_neg q2, if_neg q2]
      apply fin
      · simp only [c_bad, m_bad, Option.bind_some, ↓reduceIte]
        exact rfl
      · exact rd5 z
      · exact ⟨⟨a, hM, hS, hB, hs, hb⟩, hTx, hRf.bad, hI⟩
  · rw [if_neg q1, if_neg q1]
    apply fin
    · simp only [c_bad, m_bad, Option.bind_some, ↓reduceIte]
      exact rfl
    · exact rd5 z
    · exact ⟨⟨a, hM, hS, hB, hs, hb⟩, hTx, hRf.bad, hI⟩
set_option maxHeartbeats 4000000 in
theorem L_12 (k L : Nat) (hk : 100 < k) (xs : Nat → Int32) (hL : L ≤ 2560) : OP L (fL_12 k L xs) := by
  intro rec z c st bd i0 i1 b0 b1 t5 t6 t7 h8 t9 s10 r11 m hz hzL hR
  unfold fL_12
  simp only [rd hz hzL hL]
  generalize xs (J z + 1).toNatClampNeg = x1
  generalize xs (J z + 2).toNatClampNeg = x2
  obtain ⟨X, hX, rfl⟩ := J_ex x1
  obtain ⟨Y, hY, rfl⟩ := J_ex x2
  obtain ⟨⟨a, hM, hS, hB, hs, hb⟩, hTx, hRf, hI⟩ := hR
  obtain ⟨n54, n55, n20, n21, n22, n18, hp⟩ := id hs
  obtain ⟨n56, n57, n23, hP, hQ⟩ := id hb
  unfold fX6_loud fX7_loud
  rw [c_hasEar k hS hs hX, m_isEar k hM hs hX]
  have jz : (0 ≤ J Y) = (0 ≤ Y) := by
    rw [J_lit, J_le (by omega)]
  simp only [Option.bind_some, b_ite, chb_b, jz]
  by_cases q1 : 0 ≤ X ∧ X ≤ a 55 - 1
  · rw [if_pos q1, if_pos q1]
    by_cases q3 : 0 ≤ Y
    · rw [if_pos q3, if_pos q3]
      obtain ⟨e, rfl⟩ : ∃ p : Nat, X = p := ⟨X.toNat, by omega⟩
      obtain ⟨i, rfl⟩ : ∃ p : Nat, Y = p := ⟨Y.toNat, by omega⟩
      obtain ⟨d1, e1, g1⟩ := c_listen k hk (d := h8) hS hB hs hb (show (e : Int) < a 55 by omega)
      obtain ⟨m1, e2, g2, f2⟩ := m_layAll k hk (m := (upd m.1 8 0, m.2)) (s := 0) hM rfl (by omega) hs hb (show (e : Int) < a 55 by omega)
      have hlen := hl_len a 0 e (a 56).toNat
      have l1 := g1.1
      have l2 := g2.1
      have fR := FM.R f2 hRf
      have fX := FM.X f2 hTx
      by_cases q5 : (i : Int) < (hl a 0 e (a 56).toNat).length
      · obtain ⟨u, _, _, _, _, u1⟩ := HR_at g1 (show i < _ by omega)
        obtain ⟨u', _, _, _, _, u2⟩ := HR_at g2 (show i < _ by omega)
        have huu : u = u' := by simp_all
        subst huu
        apply fin
        · have a1 : (J (i : Int) < J ((hl a 0 e (a 56).toNat).length : Nat)) = True := by rw [J_lt (by omega)]; exact eq_true q5
          have a2 : (J ((hl a 0 e (a 56).toNat).length : Nat) ≤ J (i : Int)) = False := by rw [J_le (by omega)]; exact eq_false (by omega)
          simp (disch := omega) only [e1, e2, Option.bind_some, ↓reduceIte, l1, l2, a1, a2, J_nat, Int.toNat_natCast, u1, u2, chk_J, if_true, if_false]
          all_goals exact rfl
        · exact rd5 z
        · exact ⟨⟨a, hM, hS, hB, hs, hb⟩, fX, hRf, hI⟩
      · apply fin
        · have a1 : (J (i : Int) < J ((hl a 0 e (a 56).toNat).length : Nat)) = False := by rw [J_lt (by omega)]; exact eq_false q5
          have a2 : (J ((hl a 0 e (a 56).toNat).length : Nat) ≤ J (i : Int)) = True := by rw [J_le (by omega)]; exact eq_true (by omega)
          simp only [e1, e2, Option.bind_some, ↓reduceIte, l1, l2, a1, a2, if_true, if_false]
          all_goals exact rfl
        · exact rd5 z
        · exact ⟨⟨a, hM, hS, hB, hs, hb⟩, fX, hRf, hI⟩
    · rw [if_neg q3, if_neg q3]
      apply fin
      · simp only [c_bad, m_bad, Option.bind_some, ↓reduceIte]
        exact rfl
      · exact rd5 z
      · exact ⟨⟨a, hM, hS, hB, hs, hb⟩, hTx, hRf.bad, hI⟩
  · rw [if_neg q1, if_neg q1]
    apply fin
    · simp only [c_bad, m_bad, Option.bind_some, ↓reduceIte]
      exact rfl
    · exact rd5 z
    · exact ⟨⟨a, hM, hS, hB, hs, hb⟩, hTx, hRf.bad, hI⟩
theorem L_13 (k L : Nat) (hk : 100 < k) (xs : Nat → Int32) (hL : L ≤ 2560) : OP L (fL_13 k L xs) := by
  intro rec z c st bd i0 i1 b0 b1 t5 t6 t7 h8 t9 s10 r11 m hz hzL hR
  unfold fL_13
  simp only [rd hz hzL hL]
  generalize xs (J z + 1).toNatClampNeg = x1
  obtain ⟨X, hX, rfl⟩ := J_ex x1
  obtain ⟨⟨a, hM, hS, hB, hs, hb⟩, hTx, hRf, hI⟩ := hR
  obtain ⟨n54, n55, n20, n21, n22, n18, hp⟩ := id hs
  obtain ⟨n56, n57, n23, hP, hQ⟩ := id hb
  unfold fX6_spread fX7_spread
  rw [c_hasEar k hS hs hX, m_isEar k hM hs hX]
  simp only [Option.bind_some, b_ite, chb_b]
  by_cases q1 : 0 ≤ X ∧ X ≤ a 55 - 1
  · rw [if_pos q1, if_pos q1]
    obtain ⟨e, rfl⟩ : ∃ p : Nat, X = p := ⟨X.toNat, by omega⟩
    obtain ⟨d1, e1⟩ := c_spreadAt k hk (d := h8) hS hB hs hb (show (e : Int) < a 55 by omega)
    obtain ⟨m1, e2, f2⟩ := m_spreadOf k hk (m := (upd m.1 8 0, m.2)) (s := 0) hM rfl (by omega) hs hb (show (e : Int) < a 55 by omega)
    have fR := FM.R f2 hRf
    have fX := FM.X f2 hTx
    apply fin
    · simp only [e1, e2, Option.bind_some, ↓reduceIte]
      all_goals exact rfl
    · exact rd5 z
    · exact ⟨⟨a, hM, hS, hB, hs, hb⟩, fX, hRf, hI⟩
  · rw [if_neg q1, if_neg q1]
    apply fin
    · simp only [c_bad, m_bad, Option.bind_some, ↓reduceIte]
      exact rfl
    · exact rd5 z
    · exact ⟨⟨a, hM, hS, hB, hs, hb⟩, hTx, hRf.bad, hI⟩
def tgb (a : Nat → Int) (s : Nat) (n : Int) : Nat → Bool
  | 0 => true
  | j + 1 => tgb a s n j && decide (sprd a s j ≤ n)
theorem tgb_s (a : Nat → Int) (s : Nat) (n : Int) (j : Nat) : tgb a s n (j + 1) = (tgb a s n j && decide (sprd a s j ≤ n)) := rfl
theorem tgb_mono {a : Nat → Int} {s : Nat} {n : Int} {i j : Nat} (h : i ≤ j) (t : tgb a s n i = false) : tgb a s n j = false := by
  induction j with
  | zero =>
    have : i = 0 := by omega
    subst this
    exact t
  | succ j ih =>
    by_cases q : i = j + 1
    · subst q
      exact t
    · rw [tgb_s, ih (by omega)]
      rfl
theorem c_isTogether (k : Nat) (hk : 100 < k) {c d st bd : Dat} {a : Nat → Int} (hS : SS st a) (hB : BB bd a) (hs : WS a) (hb : WB a) {n : Int} (hn : -2147483648 ≤ n ∧ n < 2147483648) :
    ∃ d', fX6_isTogether k c st bd d (J n) = some (if tgb a 0 n (a 55).toNat = true then 1 else 0, d') := by
  have n55 := hs.2.1
  have h3 := hS.1.2.1
  unfold fX6_isTogether
  refine lp_for (fun (j : Nat) (v : Int32 × Dat) => v.1 = J j ∧ tgb a 0 n j = true) (a 55).toNat (fun (o : Option (Int32 × Dat)) => ∃ d', o = some (if tgb a 0 n (a 55).toNat = true then 1 else 0, d')) ?_ ?_ ⟨rfl, rfl⟩ (by omega)
  · intro j v hj ⟨hv, ht⟩
    obtain ⟨i, w⟩ := v
    have hv' : i = J j := hv
    subst hv'
    obtain ⟨d1, e1⟩ := c_spreadAt k hk (d := (w.1, va_up (va_up (va_up d.2 1 (w.2 1)) 2 (w.2 2)) 3 (w.2 3))) hS hB hs hb (show (j : Int) < a 55 by omega)
    have sb := sprd_b hs hb (s := 0) (show (j : Int) < a 55 by omega)
    have hq : (J (a 55) ≤ J j) = False := by rw [J_le (by omega)]; exact eq_false (by omega)
    by_cases q : sprd a 0 j ≤ n
    · left
      have hq2 : (J (sprd a 0 j) ≤ J n) = True := by rw [J_le (by omega)]; exact eq_true q
      apply Exists.intro
      refine ⟨fun rec => ?_, ?_⟩
      · unfold fX6_isTogether_B2
        simp only [h3, hq, hq2, e1, Option.bind_some, if_true, if_false, J_suc]
        all_goals exact rfl
      · refine ⟨rfl, ?_⟩
        rw [tgb_s, ht, decide_eq_true q]
        rfl
    · right
      intro rec
      have hq2 : (J (sprd a 0 j) ≤ J n) = False := by rw [J_le (by omega)]; exact eq_false q
      have t : tgb a 0 n (j + 1) = false := by
        rw [tgb_s, decide_eq_false q, Bool.and_false]
      have tt := tgb_mono (show j + 1 ≤ (a 55).toNat by omega) t
      unfold fX6_isTogether_B2
      simp only [h3, hq, hq2, e1, Option.bind_some, if_false, tt, Bool.false_eq_true]
      exact ⟨_, rfl⟩
  · intro v ⟨hv, ht⟩ rec
    obtain ⟨i, w⟩ := v
    have hv' : i = J ((a 55).toNat : Nat) := hv
    subst hv'
    have hq : (J (a 55) ≤ J ((a 55).toNat : Nat)) = True := by rw [J_le (by omega)]; exact eq_true (by omega)
    unfold fX6_isTogether_B2
    simp only [h3, hq, if_true, ht]
    exact ⟨_, rfl⟩
theorem m_isTogether (k : Nat) (hk : 100 < k) {m : Dat} {a : Nat → Int} {s : Nat} (hM : m.2 0 = Jf a) (h8 : m.1 8 = J s) (hS : s < 64) (hs : WS a) (hb : WB a) {n : Int} (hn : -2147483648 ≤ n ∧ n < 2147483648) :
    ∃ m', fX7_isTogether k m (J n) = some (if tgb a s n (a 55).toNat = true then 1 else 0, m') ∧ FM m m' := by
  have n55 := hs.2.1
  unfold fX7_isTogether
  refine lp_for (fun (j : Nat) (v : Int32 × Int32 × Dat) => v.1 = (if tgb a s n j = true then 1 else 0) ∧ v.2.1 = J j ∧ FM m v.2.2) (a 55).toNat (fun (o : Option (Int32 × Dat)) => ∃ m', o = some (if tgb a s n (a 55).toNat = true then 1 else 0, m') ∧ FM m m') ?_ ?_ ⟨rfl, rfl, FM.rf m⟩ (by omega)
  · intro j v hj ⟨hv, hv2, hF⟩
    obtain ⟨x, i, w⟩ := v
    have hv' : i = J j := hv2
    subst hv'
    have hvx : x = (if tgb a s n j = true then 1 else 0) := hv
    subst hvx
    replace hF : FM m w := hF
    left
    have es1 : ((w.1, va_up (va_up (va_up m.2 4 (w.2 4)) 5 (w.2 5)) 6 (w.2 6)) : Dat) = sh4 m.2 w := rfl
    have hM1 : (sh4 m.2 w).2 0 = Jf a := hM
    have h81 : (sh4 m.2 w).1 8 = J s := (hF.1 8 (by omega)).trans h8
    obtain ⟨d1, e1, f1⟩ := m_spreadOf k hk hM1 h81 hS hs hb (show (j : Int) < a 55 by omega)
    have sb := sprd_b hs hb (s := s) (show (j : Int) < a 55 by omega)
    have hq : (J (a 55) ≤ J j) = False := by rw [J_le (by omega)]; exact eq_false (by omega)
    by_cases t : tgb a s n j = true
    · by_cases q : sprd a s j ≤ n
      · have hq2 : (J n < J (sprd a s j)) = False := by rw [J_lt (by omega)]; exact eq_false (by omega)
        have t1 : tgb a s n (j + 1) = true := by rw [tgb_s, t, decide_eq_true q]; rfl
        refine ⟨(1, J ((j + 1 : Nat) : Int), sh4 m.2 d1), fun rec => ?_, ?_, rfl, FM_sh (fun i hi => (f1.1 i hi).trans (hF.1 i hi))⟩
        · unfold fX7_isTogether_B4
          simp only [es1, m_ears k hM1, Option.bind_some, hq, t, if_true, e1, hq2, J_suc, if_false, show ((1 : Int32) = 0) = False from by decide]
          all_goals exact rfl
        · rw [t1]
          rfl
      · have hq2 : (J n < J (sprd a s j)) = True := by rw [J_lt (by omega)]; exact eq_true (by omega)
        have t1 : tgb a s n (j + 1) = false := by rw [tgb_s, t, decide_eq_false q]; rfl
        refine ⟨(0, J ((j + 1 : Nat) : Int), sh4 m.2 d1), fun rec => ?_, ?_, rfl, FM_sh (fun i hi => (f1.1 i hi).trans (hF.1 i hi))⟩
        · unfold fX7_isTogether_B4
          simp only [es1, m_ears k hM1, Option.bind_some, hq, t, if_true, e1, hq2, J_suc, if_false, show ((1 : Int32) = 0) = False from by decide]
          all_goals exact rfl
        · rw [t1]
          rfl
    · have t0 : tgb a s n j = false := by
        cases h : tgb a s n j with
        | true => exact absurd h t
        | false => rfl
      have t1 : tgb a s n (j + 1) = false := by rw [tgb_s, t0]; rfl
      refine ⟨(0, J ((j + 1 : Nat) : Int), sh4 m.2 w), fun rec => ?_, ?_, rfl, FM_sh hF.1⟩
      · unfold fX7_isTogether_B4
        simp only [es1, m_ears k hM1, Option.bind_some, hq, t0, if_true, J_suc, if_false, Bool.false_eq_true]
        all_goals exact rfl
      · rw [t1]
        rfl
  · intro v ⟨hv, hv2, hF⟩ rec
    obtain ⟨x, i, w⟩ := v
    have hv' : i = J ((a 55).toNat : Nat) := hv2
    subst hv'
    have hvx : x = (if tgb a s n (a 55).toNat = true then 1 else 0) := hv
    subst hvx
    replace hF : FM m w := hF
    have es1 : ((w.1, va_up (va_up (va_up m.2 4 (w.2 4)) 5 (w.2 5)) 6 (w.2 6)) : Dat) = sh4 m.2 w := rfl
    have hM1 : (sh4 m.2 w).2 0 = Jf a := hM
    have hq : (J (a 55) ≤ J ((a 55).toNat : Nat)) = True := by rw [J_le (by omega)]; exact eq_true (by omega)
    unfold fX7_isTogether_B4
    simp only [es1, m_ears k hM1, Option.bind_some, hq, if_true, chb_b]
    exact ⟨_, rfl, FM_sh hF.1⟩
theorem m_isParts (k : Nat) {z : Int} (h : -2147483648 ≤ z ∧ z < 2147483648) : fX7_isParts k (J z) = some (if 0 ≤ z ∧ z ≤ 999 then 1 else 0) := by
  unfold fX7_isParts
  rw [mi_0_999 k h]
  simp only [Option.bind_some, chb_b]
theorem L_14 (k L : Nat) (hk : 100 < k) (xs : Nat → Int32) (hL : L ≤ 2560) : OP L (fL_14 k L xs) := by
  intro rec z c st bd i0 i1 b0 b1 t5 t6 t7 h8 t9 s10 r11 m hz hzL hR
  unfold fL_14
  simp only [rd hz hzL hL]
  generalize xs (J z + 1).toNatClampNeg = x1
  obtain ⟨X, hX, rfl⟩ := J_ex x1
  obtain ⟨⟨a, hM, hS, hB, hs, hb⟩, hTx, hRf, hI⟩ := hR
  obtain ⟨n54, n55, n20, n21, n22, n18, hp⟩ := id hs
  obtain ⟨n56, n57, n23, hP, hQ⟩ := id hb
  unfold fX6_together fX7_together
  rw [cw_0_999 k hX, m_isParts k hX]
  simp only [Option.bind_some, b_ite]
  by_cases q1 : 0 ≤ X ∧ X ≤ 999
  · rw [if_pos q1, if_pos q1]
    obtain ⟨d1, e1⟩ := c_isTogether k hk (c := c) (d := h8) hS hB hs hb hX
    obtain ⟨m1, e2, f2⟩ := m_isTogether k hk (m := (upd m.1 8 0, m.2)) (s := 0) hM rfl (by omega) hs hb hX
    have fX := FM.X f2 hTx
    apply fin
    · simp only [e1, e2, Option.bind_some, b_ite]
      by_cases t : tgb a 0 X (a 55).toNat = true
      · simp only [t, ↓reduceIte]
        all_goals exact rfl
      · simp only [t, ↓reduceIte]
        all_goals exact rfl
    · exact rd5 z
    · exact ⟨⟨a, hM, hS, hB, hs, hb⟩, fX, hRf, hI⟩
  · rw [if_neg q1, if_neg q1]
    apply fin
    · simp only [c_bad, m_bad, Option.bind_some, ↓reduceIte]
      exact rfl
    · exact rd5 z
    · exact ⟨⟨a, hM, hS, hB, hs, hb⟩, hTx, hRf.bad, hI⟩
theorem L_18 (k L : Nat) (hk : 100 < k) (xs : Nat → Int32) (hL : L ≤ 2560) : OP L (fL_18 k L xs) := by
  intro rec z c st bd i0 i1 b0 b1 t5 t6 t7 h8 t9 s10 r11 m hz hzL hR
  unfold fL_18
  simp only [rd hz hzL hL]
  generalize xs (J z + 1).toNatClampNeg = x1
  generalize xs (J z + 2).toNatClampNeg = x2
  obtain ⟨X, hX, rfl⟩ := J_ex x1
  obtain ⟨Y, hY, rfl⟩ := J_ex x2
  obtain ⟨⟨a, hM, hS, hB, hs, hb⟩, hTx, hRf, hI⟩ := hR
  obtain ⟨n54, n55, n20, n21, n22, n18, hp⟩ := id hs
  obtain ⟨n56, n57, n23, hP, hQ⟩ := id hb
  unfold fX6_follow fX7_follow
  rw [c_hasPlayer k hB hb hX, m_isPlayer k hM hb hX, c_hasPlayer k hB hb hY, m_isPlayer k hM hb hY]
  simp only [Option.bind_some, b_ite, chb_b]
  by_cases q1 : 0 ≤ X ∧ X ≤ a 56 - 1
  · rw [if_pos q1, if_pos q1]
    by_cases q2 : 0 ≤ Y ∧ Y ≤ a 56 - 1
    · rw [if_pos q2, if_pos q2]
      obtain ⟨p, rfl⟩ : ∃ p : Nat, X = p := ⟨X.toNat, by omega⟩
      have hBp := hB.2.1 p (by omega)
      have wp := hP p (by omega)
      have ho : fX7_of k m (J p) 4 = some (J (a (24 + 5 * p + 4))) := m_of k hM (p := p) (x := 4) (by omega) (by omega)
      have e3 : (24 : Int32) + 5 * J (p : Int) + 4 = J ((24 + 5 * p + 4 : Nat) : Int) := by
        simp only [J_lit, J_mul, J_add]
        congr 1
      apply fin
      · simp (disch := omega) only [ho, e3, chk_J, J_nat, Int.toNat_natCast, Option.bind_some, hBp.2.2.2.2, ↓reduceIte]
        all_goals exact rfl
      · exact rd5 z
      refine ⟨⟨zup a (24 + 5 * p + 4) Y, ?_, ?_, ?_, ?_, ?_⟩, hTx, hRf, hI⟩
      · show upd (m.2 0) (24 + 5 * p + 4) (J Y) = _
        rw [hM]
        exact upd_J _ _ _
      · exact SS_ext hS hs (fun i hi => zup_ne (by omega))
      · obtain ⟨⟨g0, g7, g8⟩, gP, gQ⟩ := hB
        refine ⟨⟨by simp (disch := omega) only [zup_same, zup_ne]; exact g0, by simp (disch := omega) only [zup_same, zup_ne]; exact g7, by simp (disch := omega) only [zup_same, zup_ne]; exact g8⟩, fun q hq => ?_, fun r q hr hq => ?_⟩
        · simp (disch := omega) only [zup_same, zup_ne] at hq
          have := gP q hq
          by_cases e : q = p
          · subst e
            simp (disch := omega) only [zup_same, zup_ne]
            exact ⟨this.1, this.2.1, this.2.2.1, this.2.2.2.1, upd_same _ _ _⟩
          · simp (disch := omega) only [zup_same, zup_ne]
            exact ⟨this.1, this.2.1, this.2.2.1, this.2.2.2.1, (upd_ne e).trans this.2.2.2.2⟩
        · simp (disch := omega) only [zup_same, zup_ne] at hr hq
          simp (disch := omega) only [zup_same, zup_ne]
          exact gQ r q hr hq
      · exact WS_ext hs (fun i hi => zup_ne (by omega))
      · refine ⟨by simp (disch := omega) only [zup_same, zup_ne]; exact n56, by simp (disch := omega) only [zup_same, zup_ne]; exact n57, by simp (disch := omega) only [zup_same, zup_ne]; exact n23, fun q hq => ?_, fun r q hr hq => ?_⟩
        · simp (disch := omega) only [zup_same, zup_ne] at hq
          have := hP q hq
          unfold W1 at this ⊢
          by_cases e : q = p
          · subst e
            simp (disch := omega) only [zup_same, zup_ne]
            omega
          · simp (disch := omega) only [zup_same, zup_ne]
            omega
        · simp (disch := omega) only [zup_same, zup_ne] at hr hq
          simp (disch := omega) only [zup_same, zup_ne]
          exact hQ r q hr hq
    · rw [if_neg q2, if_neg q2]
      apply fin
      · simp only [c_bad, m_bad, Option.bind_some, ↓reduceIte]
        exact rfl
      · exact rd5 z
      · exact ⟨⟨a, hM, hS, hB, hs, hb⟩, hTx, hRf.bad, hI⟩
  · rw [if_neg q1, if_neg q1]
    apply fin
    · simp only [c_bad, m_bad, Option.bind_some, ↓reduceIte]
      exact rfl
    · exact rd5 z
    · exact ⟨⟨a, hM, hS, hB, hs, hb⟩, hTx, hRf.bad, hI⟩
theorem L_29 (k L : Nat) (hk : 100 < k) (xs : Nat → Int32) (hL : L ≤ 2560) : OP L (fL_29 k L xs) := by
  intro rec z c st bd i0 i1 b0 b1 t5 t6 t7 h8 t9 s10 r11 m hz hzL hR
  unfold fL_29
  simp only [rd hz hzL hL]
  generalize xs (J z + 1).toNatClampNeg = x1
  obtain ⟨X, hX, rfl⟩ := J_ex x1
  obtain ⟨⟨a, hM, hS, hB, hs, hb⟩, hTx, hRf, hI⟩ := hR
  obtain ⟨n54, n55, n20, n21, n22, n18, hp⟩ := id hs
  obtain ⟨n56, n57, n23, hP, hQ⟩ := id hb
  unfold fX6_status fX7_status
  rw [mi_0_2 k hX]
  have j0 : (J X = 0) = (X = 0) := by rw [J_lit, J_eq (by omega)]
  have j1 : (J X = 1) = (X = 1) := by rw [J_lit, J_eq (by omega)]
  have j2 : (J X = 2) = (X = 2) := by rw [J_lit, J_eq (by omega)]
  simp only [Option.bind_some, b_ite, j0, j1, j2]
  by_cases q : 0 ≤ X ∧ X ≤ 2
  · rw [if_pos q]
    have cx : ∀ {α : Type} (E : Option α), chk 3 (J X) E = E := fun E => chk_J (by omega)
    have nx : (J X).toNatClampNeg = X.toNat := J_nat (by omega)
    have key : (if X = 0 then some (c.1 15, c) else if X = 1 then some (c.1 16, c) else if X = 2 then some (c.1 17, c) else (fX6_refuseBad k c (-1)).bind fun r7 => some (r7.1, (r7.2.1, c.2))) = some (m.2 3 X.toNat, c) := by
      obtain ⟨r0, r1, r2⟩ := hRf
      by_cases q0 : X = 0
      · rw [if_pos q0, q0, r0]
        rfl
      · by_cases q1 : X = 1
        · rw [if_neg q0, if_pos q1, q1, r1]
          rfl
        · have q2 : X = 2 := by omega
          rw [if_neg q0, if_neg q1, if_pos q2, q2, r2]
          rfl
    apply fin
    · simp only [cx, nx, key, Option.bind_some, ↓reduceIte]
      all_goals exact rfl
    · exact rd5 z
    · exact ⟨⟨a, hM, hS, hB, hs, hb⟩, hTx, hRf, hI⟩
  · have q0 : ¬ X = 0 := by omega
    have q1 : ¬ X = 1 := by omega
    have q2 : ¬ X = 2 := by omega
    rw [if_neg q, if_neg q0, if_neg q1, if_neg q2]
    apply fin
    · simp only [c_bad, m_bad, Option.bind_some, ↓reduceIte]
      exact rfl
    · exact rd5 z
    · exact ⟨⟨a, hM, hS, hB, hs, hb⟩, hTx, hRf.bad, hI⟩
theorem counts (k : Nat) {c st bd m : Dat} {a : Nat → Int} (hM : m.2 0 = Jf a) (hS : SS st a) (hB : BB bd a) (hTx : RX (c.1 13) (m.1 16) (c.2 12) (m.2 15)) {X : Int} (q : 0 ≤ X ∧ X ≤ 4) : ∃ r, fX6_howMany k c st bd (J X) = some r ∧ fX7_counted k m (J X) = some r := by
  obtain ⟨w, w1, w2, w3, w4⟩ := hTx
  unfold fX6_howMany fX7_counted
  have j0 : (J X = 0) = (X = 0) := by rw [J_lit, J_eq (by omega)]
  have j1 : (J X = 1) = (X = 1) := by rw [J_lit, J_eq (by omega)]
  have j2 : (J X = 2) = (X = 2) := by rw [J_lit, J_eq (by omega)]
  have j3 : (J X = 3) = (X = 3) := by rw [J_lit, J_eq (by omega)]
  have j4 : (J X = 4) = (X = 4) := by rw [J_lit, J_eq (by omega)]
  have cx : X < 4 → ∀ {α : Type} (E : Option α), chk 106 (54 + J X) E = E := fun h α E => by
    rw [J_lit, J_add, chk_J (by omega)]
  have nx : (54 + J X).toNatClampNeg = (54 + X).toNat := by
    rw [J_lit, J_add, J_nat (by omega)]
  simp only [j0, j1, j2, j3, j4, nx, hM, Jf_ap]
  obtain ⟨⟨h0, h3, _⟩, _⟩ := hS
  obtain ⟨⟨g0, g7, g8⟩, _⟩ := hB
  by_cases q4 : X = 4
  · subst q4
    exact ⟨J w, by simp only [w2, show ((4 : Int) = 0) = False from by decide, show ((4 : Int) = 1) = False from by decide, show ((4 : Int) = 2) = False from by decide, show ((4 : Int) = 3) = False from by decide, if_false], by rw [if_pos rfl, w3]⟩
  · rw [if_neg q4, cx (by omega)]
    by_cases q0 : X = 0
    · subst q0
      exact ⟨J (a 54), by rw [if_pos rfl, h0], rfl⟩
    · by_cases q1 : X = 1
      · subst q1
        exact ⟨J (a 55), by rw [if_neg (by decide), if_pos rfl, h3], rfl⟩
      · by_cases q2 : X = 2
        · subst q2
          exact ⟨J (a 56), by rw [if_neg (by decide), if_neg (by decide), if_pos rfl, g0], rfl⟩
        · have q3 : X = 3 := by omega
          subst q3
          exact ⟨J (a 57), by rw [if_neg (by decide), if_neg (by decide), if_neg (by decide), if_pos rfl, g8], rfl⟩
theorem L_30 (k L : Nat) (hk : 100 < k) (xs : Nat → Int32) (hL : L ≤ 2560) : OP L (fL_30 k L xs) := by
  intro rec z c st bd i0 i1 b0 b1 t5 t6 t7 h8 t9 s10 r11 m hz hzL hR
  unfold fL_30
  simp only [rd hz hzL hL]
  generalize xs (J z + 1).toNatClampNeg = x1
  obtain ⟨X, hX, rfl⟩ := J_ex x1
  obtain ⟨⟨a, hM, hS, hB, hs, hb⟩, hTx, hRf, hI⟩ := hR
  obtain ⟨n54, n55, n20, n21, n22, n18, hp⟩ := id hs
  obtain ⟨n56, n57, n23, hP, hQ⟩ := id hb
  unfold fX6_count fX7_count
  rw [cw_0_4 k hX, mi_0_4 k hX]
  simp only [Option.bind_some, b_ite]
  by_cases q : 0 ≤ X ∧ X ≤ 4
  · rw [if_pos q, if_pos q]
    obtain ⟨r, e1, e2⟩ := counts k hM hS hB hTx q
    apply fin
    · simp only [e1, e2, Option.bind_some, ↓reduceIte]
      all_goals exact rfl
    · exact rd5 z
    · exact ⟨⟨a, hM, hS, hB, hs, hb⟩, hTx, hRf, hI⟩
  · rw [if_neg q, if_neg q]
    apply fin
    · simp only [c_bad, m_bad, Option.bind_some, ↓reduceIte]
      exact rfl
    · exact rd5 z
    · exact ⟨⟨a, hM, hS, hB, hs, hb⟩, hTx, hRf.bad, hI⟩
def sm (a : Nat → Int) (h : Int64) (f : Nat) : Nat → Int64
  | 0 => h
  | n + 1 => 31 * sm a h f n + (J (a (f + n))).toInt64
theorem sm_add (a : Nat → Int) (h : Int64) (f n : Nat) : ∀ i, sm a h f (n + i) = sm a (sm a h f n) (f + n) i := by
  intro i
  induction i with
  | zero => rfl
  | succ i ih =>
    show 31 * sm a h f (n + i) + (J (a (f + (n + i)))).toInt64 = 31 * sm a (sm a h f n) (f + n) i + (J (a (f + n + i))).toInt64
    rw [ih, Nat.add_assoc]
theorem m_sums (k : Nat) (hk : 100 < k) {m : Dat} {a : Nat → Int} (hM : m.2 0 = Jf a) {h : Int64} {f n : Nat} (hf : f + n ≤ 106) (hn : n < 60) : fX7_sums k m h (J f) (J n) = some (sm a h f n) := by
  unfold fX7_sums
  refine lp_run (fun j => (sm a h f j, J (j : Int))) n _ (fun j hj rec => ?_) (fun rec => ?_) (by omega)
  · unfold fX7_sums_B6
    simp (disch := omega) only [J_le, J_add, chk_J, hM, J_nat, Jf_ap]
    rw [if_neg (by omega), J_suc, show ((f : Int) + (j : Int)).toNat = f + j from by omega]
    rfl
  · unfold fX7_sums_B6
    simp (disch := omega) only [J_le]
    rw [if_pos (by omega)]
theorem c_dg4 (k : Nat) (hk : 100 < k) {st : Dat} {a : Nat → Int} (hS : SS st a) (hs : WS a) (h : Int64) : fX4_digestOn k st h = some (sm a (sm a (sm a h 0 (2 * (a 54).toNat)) 12 (2 * (a 55).toNat)) 18 2) := by
  obtain ⟨⟨h0, h3, h6, h7, _⟩, hW, hE⟩ := hS
  obtain ⟨n54, n55, _⟩ := hs
  unfold fX4_digestOn
  refine lp_run (fun j => (sm a h 0 (2 * j), J (j : Int))) (a 54).toNat _ (fun j hj rec => ?_) (fun rec => ?_) (by omega)
  · obtain ⟨q1, q2⟩ := hW j (by omega)
    unfold fX4_digestOn_B5
    simp (disch := omega) only [h0, J_le, chk_J, J_nat, Int.toNat_natCast, q1, q2]
    rw [if_neg (by omega), J_suc]
    congr 2
    show _ = 31 * (31 * sm a h 0 (2 * j) + (J (a (0 + 2 * j))).toInt64) + (J (a (0 + (2 * j + 1)))).toInt64
    rw [Nat.zero_add, Nat.zero_add]
  · unfold fX4_digestOn_B5
    simp (disch := omega) only [h0, J_le]
    rw [if_pos (by omega)]
    refine lp_run (fun j => (sm a (sm a h 0 (2 * (a 54).toNat)) 12 (2 * j), J (j : Int))) (a 55).toNat _ (fun j hj rec => ?_) (fun rec => ?_) (by omega)
    · obtain ⟨q1, q2⟩ := hE j (by omega)
      unfold fX4_digestOn_B53
      simp (disch := omega) only [h3, J_le, chk_J, J_nat, Int.toNat_natCast, q1, q2]
      rw [if_neg (by omega), J_suc]
      congr 2
    · unfold fX4_digestOn_B53
      simp (disch := omega) only [h3, J_le, h6, h7]
      rw [if_pos (by omega)]
      rfl
theorem c_dg0 (k : Nat) (hk : 100 < k) {st bd : Dat} {a : Nat → Int} (hS : SS st a) (hB : BB bd a) (hb : WB a) (h : Int64) : fX0_digestOn k bd st h = some (sm a (sm a h 20 4) 24 (5 * (a 56).toNat)) := by
  obtain ⟨⟨_, _, _, _, h8, h9, h10⟩, _⟩ := hS
  obtain ⟨⟨g0, g7, g8⟩, gP, _⟩ := hB
  have n56 := hb.1
  unfold fX0_digestOn
  rw [h8, h9, h10, g7]
  refine lp_run (fun j => (sm a (sm a h 20 4) 24 (5 * j), J (j : Int))) (a 56).toNat _ (fun j hj rec => ?_) (fun rec => ?_) (by omega)
  · obtain ⟨q1, q2, q3, q4, q5⟩ := gP j (by omega)
    unfold fX0_digestOn_B62
    simp (disch := omega) only [g0, J_le, chk_J, J_nat, Int.toNat_natCast, q1, q2, q3, q4, q5]
    rw [if_neg (by omega), J_suc]
    congr 2
  · unfold fX0_digestOn_B62
    simp (disch := omega) only [g0, J_le]
    rw [if_pos (by omega)]
theorem lg_refl (r : Int64) : lg_cmp r r = 0 := by
  unfold lg_cmp
  rw [if_neg (fun h => Int64.lt_irrefl h), if_pos rfl]
theorem L_31 (k L : Nat) (hk : 100 < k) (xs : Nat → Int32) (hL : L ≤ 2560) : OP L (fL_31 k ) := by
  intro rec z c st bd i0 i1 b0 b1 t5 t6 t7 h8 t9 s10 r11 m hz hzL hR
  unfold fL_31
  obtain ⟨⟨a, hM, hS, hB, hs, hb⟩, hTx, hRf, hI⟩ := hR
  obtain ⟨n54, n55, n20, n21, n22, n18, hp⟩ := id hs
  obtain ⟨n56, n57, n23, hP, hQ⟩ := id hb
  have dig : ∃ r, fX6_digest k c st bd = some r ∧ fX7_digest k m = some r := by
    obtain ⟨H, hH⟩ : ∃ H : Nat → Int64, ∀ j : Nat, H 0 = 677 ∧ (j < 5 → ∃ r, fX6_howMany k c st bd (J j) = some r ∧ fX7_counted k m (J j) = some r ∧ H (j + 1) = 31 * H j + r.toInt64) := by
      refine ⟨fun j => Nat.rec (677 : Int64) (fun j h => 31 * h + ((fX7_counted k m (J j)).getD 0).toInt64) j, fun j => ⟨rfl, fun hj => ?_⟩⟩
      obtain ⟨r, e1, e2⟩ := counts k (X := (j : Int)) hM hS hB hTx (by omega)
      refine ⟨r, e1, e2, ?_⟩
      show 31 * _ + ((fX7_counted k m (J j)).getD 0).toInt64 = _
      rw [e2]
      rfl
    refine ⟨sm a (sm a (sm a (sm a (H 5) 0 (2 * (a 54).toNat)) 12 (2 * (a 55).toNat)) 18 6) 24 (5 * (a 56).toNat), ?_, ?_⟩
    · unfold fX6_digest
      rw [show (677 : Int64) = H 0 from (hH 0).1.symm]
      refine lp_run (fun j => (H j, J (j : Int))) 5 _ (fun j hj rec => ?_) (fun rec => ?_) (by omega)
      · obtain ⟨r, e1, e2, e3⟩ := (hH j).2 hj
        unfold fX6_digest_B6
        simp (disch := omega) only [J_lit, J_lt, e1, Option.bind_some]
        rw [if_neg (by omega), e3, ← J_lit, J_suc]
      · unfold fX6_digest_B6
        simp only [c_dg4 k hk hS hs, c_dg0 k hk hS hB hb, Option.bind_some]
        rw [if_pos (by decide), show (6 : Nat) = 2 + 4 from rfl, sm_add]
    · unfold fX7_digest
      rw [show (677 : Int64) = H 0 from (hH 0).1.symm]
      refine lp_run (fun j => (H j, J (j : Int))) 5 _ (fun j hj rec => ?_) (fun rec => ?_) (by omega)
      · obtain ⟨r, e1, e2, e3⟩ := (hH j).2 hj
        unfold fX7_digest_B6
        simp (disch := omega) only [J_lit, J_le, e2, Option.bind_some]
        rw [if_neg (by omega), e3, ← J_lit, J_suc]
      · unfold fX7_digest_B6
        have m0 := @m_sums k hk m a hM (H 5) 0 (2 * (a 54).toNat) (by omega) (by omega)
        have m1 := @m_sums k hk m a hM (sm a (H 5) 0 (2 * (a 54).toNat)) 12 (2 * (a 55).toNat) (by omega) (by omega)
        have m2 := @m_sums k hk m a hM (sm a (sm a (H 5) 0 (2 * (a 54).toNat)) 12 (2 * (a 55).toNat)) 18 6 (by omega) (by omega)
        have m3 := @m_sums k hk m a hM (sm a (sm a (sm a (H 5) 0 (2 * (a 54).toNat)) 12 (2 * (a 55).toNat)) 18 6) 24 (5 * (a 56).toNat) (by omega) (by omega)
        have t1 : (2 : Int32) * J (a 54) = J ((2 * (a 54).toNat : Nat) : Int) := by rw [J_lit, J_mul]; congr 1; omega
        have t2 : (2 : Int32) * J (a 55) = J ((2 * (a 55).toNat : Nat) : Int) := by rw [J_lit, J_mul]; congr 1; omega
        have t3 : (5 : Int32) * J (a 56) = J ((5 * (a 56).toNat : Nat) : Int) := by rw [J_lit, J_mul]; congr 1; omega
        rw [if_pos (show (5 : Int32) ≤ J ((5 : Nat) : Int) from by decide), m_windows k hM, m_ears k hM, m_players k hM]
        simp only [Option.bind_some, t1, t2, t3]
        rw [show (0 : Int32) = J (0 : Nat) from rfl, show (12 : Int32) = J (12 : Nat) from rfl, show (18 : Int32) = J (18 : Nat) from rfl, show (6 : Int32) = J (6 : Nat) from rfl, show (24 : Int32) = J (24 : Nat) from rfl]
        rw [m0, Option.bind_some, m1, Option.bind_some, m2, Option.bind_some, m3, Option.bind_some]
  obtain ⟨r, e1, e2⟩ := dig
  apply fin
  · simp only [e1, e2, Option.bind_some, lg_refl, ↓reduceIte]
    all_goals exact rfl
  · exact rd5 z
  · exact ⟨⟨a, hM, hS, hB, hs, hb⟩, hTx, hRf, hI⟩
