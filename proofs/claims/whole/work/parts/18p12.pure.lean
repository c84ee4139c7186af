def WQ (T : Nat → Nat) (s e n : Nat) (w : Nat → Nat) : Prop := e - s = n ∧ ∀ j : Nat, j < n → T (s + j) = w j
set_option maxHeartbeats 1000000 in
theorem c_isWord (k : Nat) (hk : 1000 < k) {T : Nat → Nat} {z s e : Nat} {v : Int} {d : Dat} (hT : TB T z) (hR : CRd T z d) (ct : CTok z d s e 1 v) (hse : s ≤ e) (hez : e ≤ z) (i1 n : Nat) (w : Nat → Nat) (hn : n ≤ 6) (h1 : sL i1 = J (n : Nat)) (h2 : sLen.getD i1 0 = n) (hw : ∀ j : Nat, j < n → sC i1 (J (j : Int)) = J (w j : Int) ∧ w j < 128) :
    (WQ T s e n w ∧ fX2_isWord k d i1 = some 1) ∨ (¬ WQ T s e n w ∧ fX2_isWord k d i1 = some 0) := by
  obtain ⟨z250, hb⟩ := hT
  obtain ⟨x1, x2, x3, x4, x5⟩ := ct
  have ed : (d.1 2 - d.1 3 = sL i1) = (e - s = n) := by
    rw [x2, x3, h1, J_sub, J_eq (by omega)]
    exact propext (by omega)
  unfold fX2_isWord
  simp only [ed]
  by_cases c : e - s = n
  · rw [if_pos c]
    refine lp_for (fun (j : Nat) (u : Int32) => u = J (j : Int) ∧ ∀ t : Nat, t < j → T (s + t) = w t) n (fun (o : Option Int32) => (WQ T s e n w ∧ o = some 1) ∨ (¬ WQ T s e n w ∧ o = some 0)) ?_ ?_ ⟨rfl, fun t h => by omega⟩ (by omega)
    · intro j u hj ⟨hu, ha⟩
      subst hu
      have q1 : (J (n : Int) ≤ J (j : Int)) = False := by rw [J_le (by omega)]; exact eq_false (by omega)
      have ea : J (s : Int) + J (j : Int) = J ((s + j : Nat) : Int) := by rw [J_add]; rfl
      have q2 : (J (sx8 (T (s + j))) = J (w j : Int)) = (T (s + j) = w j) := sx8_eq (hb (s + j) (by omega)) (hw j hj).2
      have st : ∀ rec, fX2_isWord_B20 k i1 d (fun (w3 : Unit) => some 0) (fun (w4 : Unit) => some 1) rec (J (j : Int)) = if T (s + j) = w j then rec (J ((j + 1 : Nat) : Int)) else some 0 := fun rec => by
        unfold fX2_isWord_B20
        simp (disch := omega) only [h1, q1, if_false, x3, ea, chk_J, h2, J_natn, hR.2 (s + j) (by omega), (hw j hj).1, q2, J_suc]
      by_cases cq : T (s + j) = w j
      · left
        refine ⟨_, fun rec => by rw [st rec, if_pos cq], rfl, fun t h => ?_⟩
        by_cases et : t = j
        · rw [et]
          exact cq
        · exact ha t (by omega)
      · right
        intro rec
        rw [st rec, if_neg cq]
        exact Or.inr ⟨fun h => cq (h.2 j hj), rfl⟩
    · intro u ⟨hu, ha⟩ rec
      subst hu
      unfold fX2_isWord_B20
      rw [h1, if_pos (show J (n : Int) ≤ J (n : Int) from by rw [J_le (by omega)]; omega)]
      exact Or.inl ⟨⟨c, ha⟩, rfl⟩
  · rw [if_neg c]
    exact Or.inr ⟨fun h => c h.1, rfl⟩
set_option maxHeartbeats 2000000 in
theorem m_wordloop (k : Nat) (hk : 1000 < k) {T : Nat → Nat} {z s e : Nat} {m : Dat} (hT : TB T z) (hR : MRd T z m) (h17 : m.1 17 = J (s : Int)) (hez : e ≤ z) (n : Nat) (w : Nat → Nat) (hn : n ≤ 6) (hw : ∀ j : Nat, w j < 128) (hse : e = s + n) :
    (WQ T s e n w ∧ lp (fX7_isWord_B49 k (J (w 0 : Int)) (J (w 1 : Int)) (J (w 2 : Int)) (J (w 3 : Int)) (J (w 4 : Int)) (J (w 5 : Int)) (J (n : Int)) m (fun (w25 : Int32) => chb w25 (some w25))) k (1, 0) = some 1) ∨ (¬ WQ T s e n w ∧ lp (fX7_isWord_B49 k (J (w 0 : Int)) (J (w 1 : Int)) (J (w 2 : Int)) (J (w 3 : Int)) (J (w 4 : Int)) (J (w 5 : Int)) (J (n : Int)) m (fun (w25 : Int32) => chb w25 (some w25))) k (1, 0) = some 0) := by
  obtain ⟨z250, hb⟩ := hT
  refine lp_for (fun (j : Nat) (u : Int32 × Int32) => u.2 = J (j : Int) ∧ ((u.1 = 1 ∧ ∀ t : Nat, t < j → T (s + t) = w t) ∨ (u.1 = 0 ∧ ¬ WQ T s e n w))) n (fun (o : Option Int32) => (WQ T s e n w ∧ o = some 1) ∨ (¬ WQ T s e n w ∧ o = some 0)) ?_ ?_ ⟨rfl, Or.inl ⟨rfl, fun t h => by omega⟩⟩ (by omega)
  · intro j u hj ⟨hu, ha⟩
    obtain ⟨f, y⟩ := u
    have hy : y = J (j : Int) := hu
    subst hy
    have q1 : (J (n : Int) ≤ J (j : Int)) = False := by rw [J_le (by omega)]; exact eq_false (by omega)
    rcases ha with ⟨hf, ha⟩ | ⟨hf, ha⟩
    · have hf' : f = 1 := hf
      subst hf'
      have ea : J (s : Int) + J (j : Int) = J ((s + j : Nat) : Int) := by rw [J_add]; rfl
      have bt := hb (s + j) (by omega)
      have q2 : ∀ c : Nat, c < 128 → (J (T (s + j) : Int) = J (c : Int)) = (T (s + j) = c) := fun c hc => J_nateq (by omega)
      have st : ∀ rec, fX7_isWord_B49 k (J (w 0 : Int)) (J (w 1 : Int)) (J (w 2 : Int)) (J (w 3 : Int)) (J (w 4 : Int)) (J (w 5 : Int)) (J (n : Int)) m (fun (w25 : Int32) => chb w25 (some w25)) rec (1, J (j : Int)) = if T (s + j) = w j then rec (1, J ((j + 1 : Nat) : Int)) else rec (0, J ((j + 1 : Nat) : Int)) := fun rec => by
        unfold fX7_isWord_B49
        have l : ∀ c : Nat, c < 6 → ((J (j : Int) = J (c : Int)) = (j = c)) := fun c hc => J_nateq (by omega)
        have l0 : (J (j : Int) = 0) = (j = 0) := l 0 (by omega)
        have l1 : (J (j : Int) = 1) = (j = 1) := l 1 (by omega)
        have l2 : (J (j : Int) = 2) = (j = 2) := l 2 (by omega)
        have l3 : (J (j : Int) = 3) = (j = 3) := l 3 (by omega)
        have l4 : (J (j : Int) = 4) = (j = 4) := l 4 (by omega)
        have n10 : ((1 : Int32) = 0) = False := eq_false (by decide)
        simp (disch := omega) only [q1, if_false, n10, h17, ea, chk_J, J_natn, hR.2 (s + j) (by omega), l0, l1, l2, l3, l4, q2 _ (hw 0), q2 _ (hw 1), q2 _ (hw 2), q2 _ (hw 3), q2 _ (hw 4), q2 _ (hw 5), J_suc]
        by_cases e0 : j = 0
        · subst e0; rw [if_pos rfl]
        · rw [if_neg e0]
          by_cases e1 : j = 1
          · subst e1; rw [if_pos rfl]
          · rw [if_neg e1]
            by_cases e2 : j = 2
            · subst e2; rw [if_pos rfl]
            · rw [if_neg e2]
              by_cases e3 : j = 3
              · subst e3; rw [if_pos rfl]
              · rw [if_neg e3]
                by_cases e4 : j = 4
                · subst e4; rw [if_pos rfl]
                · have e5 : j = 5 := by omega
                  subst e5
                  rw [if_neg e4]
      left
      by_cases cq : T (s + j) = w j
      · refine ⟨_, fun rec => by rw [st rec, if_pos cq], rfl, Or.inl ⟨rfl, fun t h => ?_⟩⟩
        by_cases et : t = j
        · rw [et]
          exact cq
        · exact ha t (by omega)
      · refine ⟨_, fun rec => by rw [st rec, if_neg cq], rfl, Or.inr ⟨rfl, fun h => cq (h.2 j hj)⟩⟩
    · have hf' : f = 0 := hf
      subst hf'
      right
      intro rec
      unfold fX7_isWord_B49
      simp only [q1, if_false, if_true]
      exact Or.inr ⟨ha, rfl⟩
  · intro u ⟨hu, ha⟩ rec
    obtain ⟨f, y⟩ := u
    have hy : y = J (n : Int) := hu
    subst hy
    unfold fX7_isWord_B49
    rw [if_pos (show J (n : Int) ≤ J (n : Int) from by rw [J_le (by omega)]; omega)]
    rcases ha with ⟨hf, ha⟩ | ⟨hf, ha⟩
    · have hf' : f = 1 := hf
      subst hf'
      exact Or.inl ⟨⟨by omega, ha⟩, rfl⟩
    · have hf' : f = 0 := hf
      subst hf'
      exact Or.inr ⟨ha, rfl⟩
theorem m_wordno (k : Nat) (hk : 1000 < k) (x1 x2 x3 x4 x5 x6 : Int32) {m : Dat} {n : Nat} (hn : 1 ≤ n ∧ n ≤ 6) : lp (fX7_isWord_B49 k x1 x2 x3 x4 x5 x6 (J (n : Int)) m (fun (w25 : Int32) => chb w25 (some w25))) k (0, 0) = some 0 := by
  obtain ⟨k', rfl⟩ : ∃ k' : Nat, k = k' + 1 := ⟨k - 1, by omega⟩
  show fX7_isWord_B49 (k' + 1) x1 x2 x3 x4 x5 x6 (J (n : Int)) m _ _ (0, 0) = _
  unfold fX7_isWord_B49
  rw [if_neg (show ¬ J (n : Int) ≤ 0 from by rw [J_lit, J_le (by omega)]; omega), if_pos rfl]
  rfl
theorem m_isWord (k : Nat) (hk : 1000 < k) {T : Nat → Nat} {z s e kk : Nat} {v : Int} {m : Dat} (hT : TB T z) (hR : MRd T z m) (mt : MTok z m s e kk v) (hkk : kk ≤ 5) (n : Nat) (w : Nat → Nat) (hw : ∀ j : Nat, w j < 128) (hn : (n = 3 ∧ w 3 = 0) ∨ (n = 4 ∧ ¬ w 3 = 0 ∧ w 4 = 0) ∨ (n = 6 ∧ ¬ w 3 = 0 ∧ ¬ w 4 = 0)) :
    (kk = 1 ∧ WQ T s e n w ∧ fX7_isWord k m (J (w 0 : Int)) (J (w 1 : Int)) (J (w 2 : Int)) (J (w 3 : Int)) (J (w 4 : Int)) (J (w 5 : Int)) = some 1) ∨ (¬ (kk = 1 ∧ WQ T s e n w) ∧ fX7_isWord k m (J (w 0 : Int)) (J (w 1 : Int)) (J (w 2 : Int)) (J (w 3 : Int)) (J (w 4 : Int)) (J (w 5 : Int)) = some 0) := by
  obtain ⟨y16, y17, y18, y19, y20, y21, y22⟩ := id mt
  have z250 := hT.1
  have w3 := hw 3
  have w4 := hw 4
  have q3 : (J (w 3 : Int) = 0) = (w 3 = 0) := J_nateq (b := 0) (by omega)
  have q4 : (J (w 4 : Int) = 0) = (w 4 = 0) := J_nateq (b := 0) (by omega)
  have q19 : (m.1 19 = 1) = (kk = 1) := by rw [y19]; exact J_nateq (b := 1) (by omega)
  have q18 : ∀ n' : Nat, n' ≤ 6 → (m.1 18 = J (n' : Int)) = (e - s = n') := fun n' h => by rw [y18]; exact J_nateq (by omega)
  have q18' : (m.1 18 = 3) = (e - s = 3) ∧ (m.1 18 = 4) = (e - s = 4) ∧ (m.1 18 = 6) = (e - s = 6) := ⟨q18 3 (by omega), q18 4 (by omega), q18 6 (by omega)⟩
  unfold fX7_isWord
  simp only [q3, q4, q19, q18'.1, q18'.2.1, q18'.2.2]
  have no : ∀ x1 x2 x3 x4 x5 x6 : Int32, ∀ n' : Nat, 1 ≤ n' ∧ n' ≤ 6 → lp (fX7_isWord_B49 k x1 x2 x3 x4 x5 x6 (J (n' : Int)) m (fun (w25 : Int32) => chb w25 (some w25))) k (0, 0) = some 0 := fun x1 x2 x3 x4 x5 x6 n' h => m_wordno k hk x1 x2 x3 x4 x5 x6 h
  by_cases c1 : kk = 1
  · by_cases ce : e - s = n
    · have := m_wordloop k hk hT hR y17 y22 n w (by omega) hw (by omega)
      rcases hn with ⟨rfl, h3⟩ | ⟨rfl, h3, h4⟩ | ⟨rfl, h3, h4⟩
      · rw [if_pos h3, if_pos c1, if_pos ce]
        rcases this with ⟨a, b⟩ | ⟨a, b⟩
        · exact Or.inl ⟨c1, a, b⟩
        · exact Or.inr ⟨fun h => a h.2, b⟩
      · rw [if_neg h3, if_pos h4, if_pos c1, if_pos ce]
        rcases this with ⟨a, b⟩ | ⟨a, b⟩
        · exact Or.inl ⟨c1, a, b⟩
        · exact Or.inr ⟨fun h => a h.2, b⟩
      · rw [if_neg h3, if_neg h4, if_pos c1, if_pos ce]
        rcases this with ⟨a, b⟩ | ⟨a, b⟩
        · exact Or.inl ⟨c1, a, b⟩
        · exact Or.inr ⟨fun h => a h.2, b⟩
    · right
      refine ⟨fun h => ce h.2.1, ?_⟩
      rcases hn with ⟨rfl, h3⟩ | ⟨rfl, h3, h4⟩ | ⟨rfl, h3, h4⟩
      · rw [if_pos h3, if_pos c1, if_neg ce]
        exact no _ _ _ _ _ _ 3 (by omega)
      · rw [if_neg h3, if_pos h4, if_pos c1, if_neg ce]
        exact no _ _ _ _ _ _ 4 (by omega)
      · rw [if_neg h3, if_neg h4, if_pos c1, if_neg ce]
        exact no _ _ _ _ _ _ 6 (by omega)
  · right
    refine ⟨fun h => c1 h.1, ?_⟩
    rcases hn with ⟨rfl, h3⟩ | ⟨rfl, h3, h4⟩ | ⟨rfl, h3, h4⟩
    · rw [if_pos h3, if_neg c1]
      exact no _ _ _ _ _ _ 3 (by omega)
    · rw [if_neg h3, if_pos h4, if_neg c1]
      exact no _ _ _ _ _ _ 4 (by omega)
    · rw [if_neg h3, if_neg h4, if_neg c1]
      exact no _ _ _ _ _ _ 6 (by omega)
theorem n10 : ¬ (1 : Int32) = 0 := by decide
theorem FR.up {f g : Nat → Int32} (h : FR f g) : FR f g := h
def TWO (k : Nat) (T : Nat → Nat) (z e : Nat) (d m : Dat) (p : Nat) (om : Option (Int32 × Dat)) : Prop :=
  (∃ (d1 d2 m' : Nat → Int32) (X Y : Int) (i' : Nat), fX2_takeNumber k d 0 99 = some (1, (d1, d.2)) ∧ d1 5 = J X ∧ fX2_takeNumber k (d1, d.2) 0 99 = some (1, (d2, d.2)) ∧ d2 5 = J Y ∧ ((0 ≤ X ∧ X ≤ 99) ∧ 0 ≤ Y ∧ Y ≤ 99) ∧ om = some (1, (m', va_up m.2 21 (upd (upd (m.2 21) p (J X)) (p + 1) (J Y)))) ∧ AL T z i' (d2, d.2) (m', m.2) ∧ FR m' m.1 ∧ e ≤ i')
  ∨ (∃ (d1 : Nat → Int32) (mD : Dat), fX2_takeNumber k d 0 99 = some (0, (d1, d.2)) ∧ om = some (0, mD) ∧ d1 3 = mD.1 17 ∧ FR mD.1 m.1)
  ∨ (∃ (d1 d2 : Nat → Int32) (mD : Dat), fX2_takeNumber k d 0 99 = some (1, (d1, d.2)) ∧ fX2_takeNumber k (d1, d.2) 0 99 = some (0, (d2, d.2)) ∧ om = some (0, mD) ∧ d2 3 = mD.1 17 ∧ FR mD.1 m.1)
theorem al_two (k : Nat) (hk : 1000 < k) {T : Nat → Nat} {z i s e kk : Nat} {v : Int} {d m : Dat} (hT : TB T z) (h : CUR T z d m i s e kk v) {p : Nat} (hp : p + 1 < 58) (x : Int32) (hx : x = J (p : Int)) : TWO k T z e d m p (fX7_readsPlace k m x) := by
  subst hx
  obtain ⟨m0, e0, al0, fr0⟩ := cur_go k hk hT h
  unfold fX7_readsPlace
  rw [e0, Option.bind_some]
  rcases al_num k hk hT al0 0 99 0 99 rfl rfl (by omega) with ⟨d1, m1, i1, X, a1, b1, v1, r1, al1, fr1, _, le1⟩ | ⟨d1, a1, b1, x1⟩
  · rw [b1, Option.bind_some, if_neg n10]
    have w1 : m1 22 = J X := v1.2
    have al1' : AL T z i1 (d1, d.2) (m1, va_up m.2 21 (upd (m.2 21) p (J X))) := al1
    rcases al_num k hk hT al1' 0 99 0 99 rfl rfl (by omega) with ⟨d2, m2, i2, Y, a2, b2, v2, r2, al2, fr2, _, le2⟩ | ⟨d2, a2, b2, x2⟩
    · left
      have w2 : m2 22 = J Y := v2.2
      refine ⟨d1, d2, m2, X, Y, i2, a1, v1.1, a2, v2.1, ⟨r1, r2⟩, ?_, al2, fr2.tr (fr1.tr fr0), by omega⟩
      simp (disch := omega) only [chk_J, J_natn, w1, b2, Option.bind_some, w2, J_suc, show ((1 : Int32) = 0) = False from eq_false (by decide), if_false]
    · right
      right
      refine ⟨d1, d2, _, a1, a2, ?_, x2, fr1.tr fr0⟩
      simp (disch := omega) only [chk_J, J_natn, w1, b2, Option.bind_some, if_true]
  · right
    left
    rw [b1, Option.bind_some, if_pos rfl]
    exact ⟨d1, _, a1, rfl, x1, fr0⟩
def NB (st bd : Dat) (f : Nat → Int32) (b : Nat → Int) : Prop :=
  (∀ i : Nat, i < 58 → ¬ i = 21 → ¬ i = 22 → f i = J (b i)) ∧ SS st b ∧ BB bd b ∧ WS b ∧ WB b ∧ b 57 = 0 ∧ b 23 = 0
def IR (k : Nat) (T : Nat → Nat) (z e : Nat) (d m : Dat) (b : Nat → Int) (oc : Option (Int32 × Dat × Dat × Dat)) (om : Option (Int32 × Dat)) : Prop :=
  (∃ (d' : Dat) (st' bd' mD : Dat) (b' : Nat → Int) (i' s' e' : Nat) (v' : Int), oc = some (1, d', st', bd') ∧ om = some (1, mD) ∧ mD.1 19 = 3 ∧ e ≤ i' ∧ CUR T z (d'.1, d.2) mD i' s' e' 3 v' ∧ FR mD.1 m.1 ∧ NB st' bd' (mD.2 21) b' ∧ (b' 21 = b 21 ∧ b' 22 = b 22) ∧ mD.2 15 = m.2 15)
  ∨ (∃ (d' st' bd' mD : Dat) (rm : Int32), oc = some (0, d', st', bd') ∧ om = some (rm, mD) ∧ (rm = 0 ∨ (rm = 1 ∧ ¬ mD.1 19 = 3)) ∧ d'.1 3 = mD.1 17 ∧ FR mD.1 m.1)
theorem SS_win {st st' : Dat} {b b' : Nat → Int} (hS : SS st b) {w : Nat} (hw : b 54 = w) (h6 : w < 6) (hs : WS b) {X Y : Int} (g54 : b' 54 = w + 1) (gx : b' (2 * w) = X) (gy : b' (2 * w + 1) = Y) (go : ∀ i : Nat, ¬ i = 54 → ¬ i = 2 * w → ¬ i = 2 * w + 1 → b' i = b i)
    (s0 : st'.1 0 = J (w + 1)) (so : ∀ q : Nat, ¬ q = 0 → st'.1 q = st.1 q) (s1 : st'.2 1 = upd (st.2 1) w (J X)) (s2 : st'.2 2 = upd (st.2 2) w (J Y)) (s4 : st'.2 4 = st.2 4) (s5 : st'.2 5 = st.2 5) : SS st' b' := by
  obtain ⟨⟨h0, h3, h6', h7, h8, h9, h10⟩, hW, hE⟩ := hS
  obtain ⟨n54, n55, _⟩ := hs
  refine ⟨⟨by rw [g54]; exact s0, ?_, ?_, ?_, ?_, ?_, ?_⟩, fun w' hw' => ?_, fun e he => ?_⟩
  · rw [so 3 (by omega), go 55 (by omega) (by omega) (by omega)]; exact h3
  · rw [so 6 (by omega), go 18 (by omega) (by omega) (by omega)]; exact h6'
  · rw [so 7 (by omega), go 19 (by omega) (by omega) (by omega)]; exact h7
  · rw [so 8 (by omega), go 20 (by omega) (by omega) (by omega)]; exact h8
  · rw [so 9 (by omega), go 21 (by omega) (by omega) (by omega)]; exact h9
  · rw [so 10 (by omega), go 22 (by omega) (by omega) (by omega)]; exact h10
  · rw [s1, s2]
    rw [g54] at hw'
    by_cases qw : w' = w
    · subst qw
      rw [gx, gy]
      exact ⟨upd_same _ _ _, upd_same _ _ _⟩
    · rw [go (2 * w') (by omega) (by omega) (by omega), go (2 * w' + 1) (by omega) (by omega) (by omega)]
      have := hW w' (by omega)
      exact ⟨(upd_ne qw).trans this.1, (upd_ne qw).trans this.2⟩
  · rw [go 55 (by omega) (by omega) (by omega)] at he
    rw [s4, s5, go (12 + 2 * e) (by omega) (by omega) (by omega), go (12 + 2 * e + 1) (by omega) (by omega) (by omega)]
    exact hE e he
theorem SS_ear {st st' : Dat} {b b' : Nat → Int} (hS : SS st b) {w : Nat} (hw : b 55 = w) (h6 : w < 3) (hs : WS b) {X Y : Int} (g54 : b' 55 = w + 1) (gx : b' (12 + 2 * w) = X) (gy : b' (12 + 2 * w + 1) = Y) (go : ∀ i : Nat, ¬ i = 55 → ¬ i = 12 + 2 * w → ¬ i = 12 + 2 * w + 1 → b' i = b i)
    (s0 : st'.1 3 = J (w + 1)) (so : ∀ q : Nat, ¬ q = 3 → st'.1 q = st.1 q) (s1 : st'.2 4 = upd (st.2 4) w (J X)) (s2 : st'.2 5 = upd (st.2 5) w (J Y)) (s4 : st'.2 1 = st.2 1) (s5 : st'.2 2 = st.2 2) : SS st' b' := by
  obtain ⟨⟨h0, h3, h6', h7, h8, h9, h10⟩, hW, hE⟩ := hS
  obtain ⟨n54, n55, _⟩ := hs
  refine ⟨⟨?_, by rw [g54]; exact s0, ?_, ?_, ?_, ?_, ?_⟩, fun e he => ?_, fun w' hw' => ?_⟩
  · rw [so 0 (by omega), go 54 (by omega) (by omega) (by omega)]; exact h0
  · rw [so 6 (by omega), go 18 (by omega) (by omega) (by omega)]; exact h6'
  · rw [so 7 (by omega), go 19 (by omega) (by omega) (by omega)]; exact h7
  · rw [so 8 (by omega), go 20 (by omega) (by omega) (by omega)]; exact h8
  · rw [so 9 (by omega), go 21 (by omega) (by omega) (by omega)]; exact h9
  · rw [so 10 (by omega), go 22 (by omega) (by omega) (by omega)]; exact h10
  · rw [go 54 (by omega) (by omega) (by omega)] at he
    rw [s4, s5, go (2 * e) (by omega) (by omega) (by omega), go (2 * e + 1) (by omega) (by omega) (by omega)]
    exact hW e he
  · rw [s1, s2]
    rw [g54] at hw'
    by_cases qw : w' = w
    · subst qw
      rw [gx, gy]
      exact ⟨upd_same _ _ _, upd_same _ _ _⟩
    · rw [go (12 + 2 * w') (by omega) (by omega) (by omega), go (12 + 2 * w' + 1) (by omega) (by omega) (by omega)]
      have := hE w' (by omega)
      exact ⟨(upd_ne qw).trans this.1, (upd_ne qw).trans this.2⟩
theorem cur_eq {T : Nat → Nat} {z i s e kk : Nat} {v : Int} {d m : Dat} (h : CUR T z d m i s e kk v) : d.1 3 = m.1 17 := h.2.2.1.2.2.1.trans h.2.2.2.1.2.1.symm
theorem chb1 {α : Type} {E : Option α} : chb 1 E = E := chb_1
theorem chb0 {α : Type} {E : Option α} : chb 0 E = E := chb_0
set_option maxHeartbeats 2000000 in
theorem it_window (k : Nat) (hk : 1000 < k) {T : Nat → Nat} {z i s e kk : Nat} {v : Int} {d m st bd : Dat} {b : Nat → Int} (hT : TB T z) (h : CUR T z d m i s e kk v) (hNB : NB st bd (m.2 21) b) :
    IR k T z e d m b ((fX2_readWindow k d st).bind (fun (r37 : Int32 × Dat × Dat) => chb (r37.1) (some ((r37.1), (r37.2.1.1, d.2), (r37.2.2.1, (va_up (va_up st.2 1 (r37.2.2.2 1)) 2 (r37.2.2.2 2))), bd)))) ((fX7_readsOneOf k m 0 0 6).bind (fun (r37 : Int32 × Dat) => chb (r37.1) (some ((r37.1), (r37.2.1, (va_up m.2 21 (r37.2.2 21))))))) := by
  obtain ⟨hN, hS, hB, hs, hb, h57, h23⟩ := hNB
  have n54 := hs.1
  obtain ⟨w, hw⟩ : ∃ w : Nat, b 54 = w := ⟨(b 54).toNat, by omega⟩
  have f54 : m.2 21 54 = J (w : Int) := (hN 54 (by omega) (by omega) (by omega)).trans (by rw [hw])
  have s0 : st.1 0 = J (w : Int) := hS.1.1.trans (by rw [hw])
  unfold fX2_readWindow fX7_readsOneOf
  have e6 : (6 ≤ J (w : Int)) = (6 ≤ w) := by rw [J_lit, J_le (by omega)]; exact propext (by omega)
  have e7 : (J (w : Int) = 6) = (w = 6) := J_nateq (b := 6) (by omega)
  have ex : (0 : Int32) + 2 * (J (w : Int) + 1 - 1) = J ((2 * w : Nat) : Int) := by
    simp only [J_lit, J_add, J_sub, J_mul]
    congr 1
    omega
  rw [show (54 + 0 : Int32) = J ((54 : Nat) : Int) from rfl]
  simp (disch := omega) only [chk_J, J_natn, f54, upd_same, s0, e6, e7, ex]
  by_cases q : w = 6
  · rw [if_pos (by omega), if_pos q, Option.bind_some, Option.bind_some, chb0, chb0]
    exact Or.inr ⟨_, _, _, _, 0, rfl, rfl, Or.inl rfl, cur_eq h, FR.rf _⟩
  · rw [if_neg (by omega), if_neg q]
    have h' : CUR T z d (m.1, va_up m.2 21 (upd (m.2 21) 54 (J (w : Int) + 1))) i s e kk v := h
    rcases al_two k hk hT h' (p := 2 * w) (by omega) _ rfl with ⟨d1, d2, m', X, Y, i', a1, v1, a2, v2, r, am, al, fr, le⟩ | ⟨d1, mD, a1, am, x1, fr⟩ | ⟨d1, d2, mD, a1, a2, am, x1, fr⟩
    · rw [a1, Option.bind_some, if_neg n10, a2, Option.bind_some, if_neg n10, am, Option.bind_some, chb1, Option.bind_some, chb1]
      dsimp only
      rw [v1, v2]
      unfold fX4_addWindow
      rw [s0, if_pos (show J (w : Int) < 6 by rw [J_lit, J_lt (by omega)]; omega)]
      simp (disch := omega) only [chk_J, J_natn, Option.bind_some]
      have nb : NB (upd st.1 0 (J (w : Int) + 1), va_up (va_up st.2 1 (upd (st.2 1) w (J X))) 2 (upd (st.2 2) w (J Y))) bd (upd (upd (upd (m.2 21) 54 (J (w : Int) + 1)) (2 * w) (J X)) (2 * w + 1) (J Y)) (zup (zup (zup b 54 (w + 1)) (2 * w) X) (2 * w + 1) Y) := by
        have go : ∀ i : Nat, ¬ i = 54 → ¬ i = 2 * w → ¬ i = 2 * w + 1 → zup (zup (zup b 54 (w + 1)) (2 * w) X) (2 * w + 1) Y i = b i := fun i a1 a2 a3 => by rw [zup_ne a3, zup_ne a2, zup_ne a1]
        have g54 : zup (zup (zup b 54 (w + 1)) (2 * w) X) (2 * w + 1) Y 54 = w + 1 := by rw [zup_ne (by omega), zup_ne (by omega), zup_same]
        have gx : zup (zup (zup b 54 (w + 1)) (2 * w) X) (2 * w + 1) Y (2 * w) = X := by rw [zup_ne (by omega), zup_same]
        have gy : zup (zup (zup b 54 (w + 1)) (2 * w) X) (2 * w + 1) Y (2 * w + 1) = Y := zup_same _ _ _
        refine ⟨fun i hi a1 a2 => ?_, ?_, BB_ext hB hb (fun i hi h4 h5 => go i h4 (by omega) (by omega)), ?_, WB_ext hb (by omega) (fun i hi h4 h5 => go i h4 (by omega) (by omega)), ?_, ?_⟩
        · have := hN i hi a1 a2
          unfold upd zup
          by_cases c1 : i = 2 * w + 1
          · rw [if_pos c1, if_pos c1]
          · by_cases c2 : i = 2 * w
            · rw [if_neg c1, if_neg c1, if_pos c2, if_pos c2]
            · by_cases c3 : i = 54
              · rw [if_neg c1, if_neg c1, if_neg c2, if_neg c2, if_pos c3, if_pos c3, J_suc]
                rfl
              · rw [if_neg c1, if_neg c1, if_neg c2, if_neg c2, if_neg c3, if_neg c3]
                exact this
        · refine SS_win hS hw (by omega) hs g54 gx gy go ?_ (fun q hq => upd_ne hq) rfl rfl rfl rfl
          show J (w : Int) + 1 = _
          rw [J_suc]
          rfl
        · obtain ⟨n54, n55, n20, n21, n22, n18, hp⟩ := hs
          refine ⟨by omega, by rw [go 55 (by omega) (by omega) (by omega)]; exact n55, by rw [go 20 (by omega) (by omega) (by omega)]; exact n20, by rw [go 21 (by omega) (by omega) (by omega)]; exact n21, by rw [go 22 (by omega) (by omega) (by omega)]; exact n22, by rw [go 18 (by omega) (by omega) (by omega), go 19 (by omega) (by omega) (by omega)]; exact n18, fun i hi => ?_⟩
          have := hp i hi
          unfold zup
          omega
        · rw [go 57 (by omega) (by omega) (by omega)]; exact h57
        · rw [go 23 (by omega) (by omega) (by omega)]; exact h23
      rcases al_stop k hk hT al with ⟨d3, s', e', v', b1, y19, cu⟩ | ⟨d3, b1, y19, x1⟩
      · left
        rw [b1, Option.bind_some, chb1, Option.bind_some, chb1]
        refine ⟨_, _, _, _, zup (zup (zup b 54 (w + 1)) (2 * w) X) (2 * w + 1) Y, i', s', e', v', rfl, rfl, y19, le, cu, fr, nb, ⟨?_, ?_⟩, rfl⟩
        · rw [zup_ne (by omega), zup_ne (by omega), zup_ne (by omega)]
        · rw [zup_ne (by omega), zup_ne (by omega), zup_ne (by omega)]
      · right
        rw [b1, Option.bind_some, chb0, Option.bind_some, chb0]
        exact ⟨_, _, _, _, 1, rfl, rfl, Or.inr ⟨rfl, y19⟩, x1, fr⟩
    · right
      rw [a1, Option.bind_some, if_pos rfl, am, Option.bind_some, chb0, Option.bind_some, chb0, Option.bind_some, chb0]
      exact ⟨_, _, _, _, 0, rfl, rfl, Or.inl rfl, x1, fr⟩
    · right
      rw [a1, Option.bind_some, if_neg n10, a2, Option.bind_some, if_pos rfl, am, Option.bind_some, chb0, Option.bind_some, chb0, Option.bind_some, chb0]
      exact ⟨_, _, _, _, 0, rfl, rfl, Or.inl rfl, x1, fr⟩
set_option maxHeartbeats 2000000 in
theorem it_ear (k : Nat) (hk : 1000 < k) {T : Nat → Nat} {z i s e kk : Nat} {v : Int} {d m st bd : Dat} {b : Nat → Int} (hT : TB T z) (h : CUR T z d m i s e kk v) (hNB : NB st bd (m.2 21) b) :
    IR k T z e d m b ((fX2_readEar k d st).bind (fun (r35 : Int32 × Dat × Dat) => chb (r35.1) (some ((r35.1), (r35.2.1.1, d.2), (r35.2.2.1, (va_up (va_up st.2 4 (r35.2.2.2 4)) 5 (r35.2.2.2 5))), bd)))) ((fX7_readsOneOf k m 1 12 3).bind (fun (r35 : Int32 × Dat) => chb (r35.1) (some ((r35.1), (r35.2.1, (va_up m.2 21 (r35.2.2 21))))))) := by
  obtain ⟨hN, hS, hB, hs, hb, h57, h23⟩ := hNB
  have n55 := hs.2.1
  obtain ⟨w, hw⟩ : ∃ w : Nat, b 55 = w := ⟨(b 55).toNat, by omega⟩
  have f54 : m.2 21 55 = J (w : Int) := (hN 55 (by omega) (by omega) (by omega)).trans (by rw [hw])
  have s0 : st.1 3 = J (w : Int) := hS.1.2.1.trans (by rw [hw])
  unfold fX2_readEar fX7_readsOneOf
  have e6 : (3 ≤ J (w : Int)) = (3 ≤ w) := by rw [J_lit, J_le (by omega)]; exact propext (by omega)
  have e7 : (J (w : Int) = 3) = (w = 3) := J_nateq (b := 3) (by omega)
  have ex : (12 : Int32) + 2 * (J (w : Int) + 1 - 1) = J ((12 + 2 * w : Nat) : Int) := by
    simp only [J_lit, J_add, J_sub, J_mul]
    congr 1
    omega
  rw [show (54 + 1 : Int32) = J ((55 : Nat) : Int) from rfl]
  simp (disch := omega) only [chk_J, J_natn, f54, upd_same, s0, e6, e7, ex]
  by_cases q : w = 3
  · rw [if_pos (by omega), if_pos q, Option.bind_some, Option.bind_some, chb0, chb0]
    exact Or.inr ⟨_, _, _, _, 0, rfl, rfl, Or.inl rfl, cur_eq h, FR.rf _⟩
  · rw [if_neg (by omega), if_neg q]
    have h' : CUR T z d (m.1, va_up m.2 21 (upd (m.2 21) 55 (J (w : Int) + 1))) i s e kk v := h
    rcases al_two k hk hT h' (p := 12 + 2 * w) (by omega) _ rfl with ⟨d1, d2, m', X, Y, i', a1, v1, a2, v2, r, am, al, fr, le⟩ | ⟨d1, mD, a1, am, x1, fr⟩ | ⟨d1, d2, mD, a1, a2, am, x1, fr⟩
    · rw [a1, Option.bind_some, if_neg n10, a2, Option.bind_some, if_neg n10, am, Option.bind_some, chb1, Option.bind_some, chb1]
      dsimp only
      rw [v1, v2]
      unfold fX4_addEar
      rw [s0, if_pos (show J (w : Int) < 3 by rw [J_lit, J_lt (by omega)]; omega)]
      simp (disch := omega) only [chk_J, J_natn, Option.bind_some]
      have nb : NB (upd st.1 3 (J (w : Int) + 1), va_up (va_up st.2 4 (upd (st.2 4) w (J X))) 5 (upd (st.2 5) w (J Y))) bd (upd (upd (upd (m.2 21) 55 (J (w : Int) + 1)) (12 + 2 * w) (J X)) (12 + 2 * w + 1) (J Y)) (zup (zup (zup b 55 (w + 1)) (12 + 2 * w) X) (12 + 2 * w + 1) Y) := by
        have go : ∀ i : Nat, ¬ i = 55 → ¬ i = 12 + 2 * w → ¬ i = 12 + 2 * w + 1 → zup (zup (zup b 55 (w + 1)) (12 + 2 * w) X) (12 + 2 * w + 1) Y i = b i := fun i a1 a2 a3 => by rw [zup_ne a3, zup_ne a2, zup_ne a1]
        have g54 : zup (zup (zup b 55 (w + 1)) (12 + 2 * w) X) (12 + 2 * w + 1) Y 55 = w + 1 := by rw [zup_ne (by omega), zup_ne (by omega), zup_same]
        have gx : zup (zup (zup b 55 (w + 1)) (12 + 2 * w) X) (12 + 2 * w + 1) Y (12 + 2 * w) = X := by rw [zup_ne (by omega), zup_same]
        have gy : zup (zup (zup b 55 (w + 1)) (12 + 2 * w) X) (12 + 2 * w + 1) Y (12 + 2 * w + 1) = Y := zup_same _ _ _
        refine ⟨fun i hi a1 a2 => ?_, ?_, BB_ext hB hb (fun i hi h4 h5 => go i h5 (by omega) (by omega)), ?_, WB_ext hb (by rw [go 54 (by omega) (by omega) (by omega)]; omega) (fun i hi h4 h5 => go i h5 (by omega) (by omega)), ?_, ?_⟩
        · have := hN i hi a1 a2
          unfold upd zup
          by_cases c1 : i = 12 + 2 * w + 1
          · rw [if_pos c1, if_pos c1]
          · by_cases c2 : i = 12 + 2 * w
            · rw [if_neg c1, if_neg c1, if_pos c2, if_pos c2]
            · by_cases c3 : i = 55
              · rw [if_neg c1, if_neg c1, if_neg c2, if_neg c2, if_pos c3, if_pos c3, J_suc]
                rfl
              · rw [if_neg c1, if_neg c1, if_neg c2, if_neg c2, if_neg c3, if_neg c3]
                exact this
        · refine SS_ear hS hw (by omega) hs g54 gx gy go ?_ (fun q hq => upd_ne hq) rfl rfl rfl rfl
          show J (w : Int) + 1 = _
          rw [J_suc]
          rfl
        · obtain ⟨n54, n55, n20, n21, n22, n18, hp⟩ := hs
          refine ⟨by rw [go 54 (by omega) (by omega) (by omega)]; exact n54, by omega, by rw [go 20 (by omega) (by omega) (by omega)]; exact n20, by rw [go 21 (by omega) (by omega) (by omega)]; exact n21, by rw [go 22 (by omega) (by omega) (by omega)]; exact n22, by rw [go 18 (by omega) (by omega) (by omega), go 19 (by omega) (by omega) (by omega)]; exact n18, fun i hi => ?_⟩
          have := hp i hi
          unfold zup
          omega
        · rw [go 57 (by omega) (by omega) (by omega)]; exact h57
        · rw [go 23 (by omega) (by omega) (by omega)]; exact h23
      rcases al_stop k hk hT al with ⟨d3, s', e', v', b1, y19, cu⟩ | ⟨d3, b1, y19, x1⟩
      · left
        rw [b1, Option.bind_some, chb1, Option.bind_some, chb1]
        refine ⟨_, _, _, _, zup (zup (zup b 55 (w + 1)) (12 + 2 * w) X) (12 + 2 * w + 1) Y, i', s', e', v', rfl, rfl, y19, le, cu, fr, nb, ⟨?_, ?_⟩, rfl⟩
        · rw [zup_ne (by omega), zup_ne (by omega), zup_ne (by omega)]
        · rw [zup_ne (by omega), zup_ne (by omega), zup_ne (by omega)]
      · right
        rw [b1, Option.bind_some, chb0, Option.bind_some, chb0]
        exact ⟨_, _, _, _, 1, rfl, rfl, Or.inr ⟨rfl, y19⟩, x1, fr⟩
    · right
      rw [a1, Option.bind_some, if_pos rfl, am, Option.bind_some, chb0, Option.bind_some, chb0, Option.bind_some, chb0]
      exact ⟨_, _, _, _, 0, rfl, rfl, Or.inl rfl, x1, fr⟩
    · right
      rw [a1, Option.bind_some, if_neg n10, a2, Option.bind_some, if_pos rfl, am, Option.bind_some, chb0, Option.bind_some, chb0, Option.bind_some, chb0]
      exact ⟨_, _, _, _, 0, rfl, rfl, Or.inl rfl, x1, fr⟩
set_option maxHeartbeats 2000000 in
theorem it_mill (k : Nat) (hk : 1000 < k) {T : Nat → Nat} {z i s e kk : Nat} {v : Int} {d m st bd : Dat} {b : Nat → Int} (hT : TB T z) (h : CUR T z d m i s e kk v) (hNB : NB st bd (m.2 21) b) :
    IR k T z e d m b ((fX2_readMill k d st).bind (fun (r33 : Int32 × Dat × Dat) => chb (r33.1) (some ((r33.1), (r33.2.1.1, d.2), (r33.2.2.1, st.2), bd)))) ((fX7_readsPlace k m 18).bind (fun (r33 : Int32 × Dat) => chb (r33.1) (some ((r33.1), (r33.2.1, (va_up m.2 21 (r33.2.2 21))))))) := by
  obtain ⟨hN, hS, hB, hs, hb, h57, h23⟩ := hNB
  unfold fX2_readMill
  rcases al_two k hk hT h (p := 18) (by omega) 18 rfl with ⟨d1, d2, m', X, Y, i', a1, v1, a2, v2, r, am, al, fr, le⟩ | ⟨d1, mD, a1, am, x1, fr⟩ | ⟨d1, d2, mD, a1, a2, am, x1, fr⟩
  · rw [a1, Option.bind_some, if_neg n10, a2, Option.bind_some, if_neg n10, am, Option.bind_some, chb1]
    dsimp only
    rw [v1, v2]
    unfold fX4_buildMill
    simp only [Option.bind_some]
    have nb : NB (upd (upd st.1 6 (J X)) 7 (J Y), st.2) bd (upd (upd (m.2 21) 18 (J X)) 19 (J Y)) (zup (zup b 18 X) 19 Y) := by
      have go : ∀ i : Nat, ¬ i = 18 → ¬ i = 19 → zup (zup b 18 X) 19 Y i = b i := fun i a1 a2 => by rw [zup_ne a2, zup_ne a1]
      obtain ⟨⟨h0, h3, h6, h7, h8, h9, h10⟩, hW, hE⟩ := hS
      obtain ⟨n54, n55, n20, n21, n22, n18, hp⟩ := hs
      refine ⟨fun i hi a1 a2 => ?_, ⟨⟨?_, ?_, rfl, rfl, ?_, ?_, ?_⟩, fun w hw => ?_, fun w hw => ?_⟩, BB_ext hB hb (fun i hi h4 h5 => go i (by omega) (by omega)), ⟨?_, ?_, ?_, ?_, ?_, Or.inr ⟨r.1.1, r.1.2, r.2.1, r.2.2⟩, fun i hi => ?_⟩, WB_ext hb (by rw [go 54 (by omega) (by omega)]; omega) (fun i hi h4 h5 => go i (by omega) (by omega)), ?_, ?_⟩
      · have := hN i hi a1 a2
        unfold upd zup
        by_cases c1 : i = 19
        · rw [if_pos c1, if_pos c1]
        · by_cases c2 : i = 18
          · rw [if_neg c1, if_neg c1, if_pos c2, if_pos c2]
          · rw [if_neg c1, if_neg c1, if_neg c2, if_neg c2]
            exact this
      · exact h0
      · exact h3
      · exact h8
      · exact h9
      · exact h10
      · rw [go 54 (by omega) (by omega)] at hw
        rw [go (2 * w) (by omega) (by omega), go (2 * w + 1) (by omega) (by omega)]
        exact hW w hw
      · rw [go 55 (by omega) (by omega)] at hw
        rw [go (12 + 2 * w) (by omega) (by omega), go (12 + 2 * w + 1) (by omega) (by omega)]
        exact hE w hw
      · exact n54
      · exact n55
      · exact n20
      · exact n21
      · exact n22
      · rw [go i (by omega) (by omega)]
        exact hp i hi
      · exact h57
      · exact h23
    rcases al_stop k hk hT al with ⟨d3, s', e', v', b1, y19, cu⟩ | ⟨d3, b1, y19, x1⟩
    · left
      rw [b1, Option.bind_some, chb1, Option.bind_some, chb1]
      exact ⟨_, _, _, _, zup (zup b 18 X) 19 Y, i', s', e', v', rfl, rfl, y19, le, cu, fr, nb, ⟨rfl, rfl⟩, rfl⟩
    · right
      rw [b1, Option.bind_some, chb0, Option.bind_some, chb0]
      exact ⟨_, _, _, _, 1, rfl, rfl, Or.inr ⟨rfl, y19⟩, x1, fr⟩
  · right
    rw [a1, Option.bind_some, if_pos rfl, am, Option.bind_some, chb0, Option.bind_some, chb0]
    exact ⟨_, _, _, _, 0, rfl, rfl, Or.inl rfl, x1, fr⟩
  · right
    rw [a1, Option.bind_some, if_neg n10, a2, Option.bind_some, if_pos rfl, am, Option.bind_some, chb0, Option.bind_some, chb0]
    exact ⟨_, _, _, _, 0, rfl, rfl, Or.inl rfl, x1, fr⟩
set_option maxHeartbeats 2000000 in
theorem it_slow (k : Nat) (hk : 1000 < k) {T : Nat → Nat} {z i s e kk : Nat} {v : Int} {d m st bd : Dat} {b : Nat → Int} (hT : TB T z) (h : CUR T z d m i s e kk v) (hNB : NB st bd (m.2 21) b) :
    IR k T z e d m b ((fX2_readSlow k d st).bind (fun (r31 : Int32 × Dat × Dat) => chb (r31.1) (some ((r31.1), (r31.2.1.1, d.2), (r31.2.2.1, st.2), bd)))) ((fX7_goOn k m).bind (fun (r25 : Dat) => (fX7_takes k (r25.1, m.2) 1 9).bind (fun (r27 : Int32 × Dat) => chk 58 20 (chb (r27.1) (some ((r27.1), (r27.2.1, (va_up m.2 21 (upd (m.2 21) (20 : Int32).toNatClampNeg (r27.2.1 22))))))))) ) := by
  obtain ⟨hN, hS, hB, hs, hb, h57, h23⟩ := hNB
  unfold fX2_readSlow
  obtain ⟨m0, e0, al0, fr0⟩ := cur_go k hk hT h
  rw [e0, Option.bind_some]
  have c20 : ∀ {α : Type} (E : Option α), chk 58 (20 : Int32) E = E := fun E => by rw [J_lit, chk_J (by omega)]
  have t20 : (20 : Int32).toNatClampNeg = 20 := by decide
  rcases al_num k hk hT al0 1 9 1 9 rfl rfl (by omega) with ⟨d1, m1, i1, X, a1, b1, v1, r1, al, fr1, _, le⟩ | ⟨d1, a1, b1, x1⟩
  · rw [a1, Option.bind_some, if_neg n10, b1, Option.bind_some, c20, chb1, t20]
    dsimp only
    rw [v1.1, v1.2]
    have nb : NB (upd st.1 8 (J X), st.2) bd (upd (m.2 21) 20 (J X)) (zup b 20 X) := by
      have go : ∀ i : Nat, ¬ i = 20 → zup b 20 X i = b i := fun i a1 => by rw [zup_ne a1]
      obtain ⟨⟨h0, h3, h6, h7, h8, h9, h10⟩, hW, hE⟩ := hS
      obtain ⟨n54, n55, n20, n21, n22, n18, hp⟩ := hs
      refine ⟨fun i hi a1 a2 => ?_, ⟨⟨?_, ?_, ?_, ?_, rfl, ?_, ?_⟩, fun w hw => ?_, fun w hw => ?_⟩, BB_ext hB hb (fun i hi h4 h5 => go i (by omega)), ⟨?_, ?_, r1, ?_, ?_, ?_, fun i hi => ?_⟩, WB_ext hb (by rw [go 54 (by omega)]; omega) (fun i hi h4 h5 => go i (by omega)), ?_, ?_⟩
      · have := hN i hi a1 a2
        unfold upd zup
        by_cases c1 : i = 20
        · rw [if_pos c1, if_pos c1]
        · rw [if_neg c1, if_neg c1]
          exact this
      · exact h0
      · exact h3
      · exact h6
      · exact h7
      · exact h9
      · exact h10
      · rw [go 54 (by omega)] at hw
        rw [go (2 * w) (by omega), go (2 * w + 1) (by omega)]
        exact hW w hw
      · rw [go 55 (by omega)] at hw
        rw [go (12 + 2 * w) (by omega), go (12 + 2 * w + 1) (by omega)]
        exact hE w hw
      · exact n54
      · exact n55
      · exact n21
      · exact n22
      · exact n18
      · rw [go i (by omega)]
        exact hp i hi
      · exact h57
      · exact h23
    rcases al_stop k hk hT al with ⟨d3, s', e', v', c1, y19, cu⟩ | ⟨d3, c1, y19, x1⟩
    · left
      rw [c1, Option.bind_some, chb1, Option.bind_some, chb1]
      exact ⟨_, _, _, _, zup b 20 X, i1, s', e', v', rfl, rfl, y19, le, cu, fr1.tr fr0, nb, ⟨rfl, rfl⟩, rfl⟩
    · right
      rw [c1, Option.bind_some, chb0, Option.bind_some, chb0]
      exact ⟨_, _, _, _, 1, rfl, rfl, Or.inr ⟨rfl, y19⟩, x1, fr1.tr fr0⟩
  · right
    rw [a1, Option.bind_some, if_pos rfl, b1, Option.bind_some, Option.bind_some, c20, chb0, chb0]
    exact ⟨_, _, _, _, 0, rfl, rfl, Or.inl rfl, x1, fr0⟩
theorem m_isTakenThen (k : Nat) (hk : 100 < k) {m : Dat} {a : Nat → Int} {n : Nat} (h0 : m.2 21 56 = J (n : Int)) (hn : n ≤ 6) (h2 : ∀ p : Nat, p < n → m.2 21 (24 + 5 * p + 1) = J (a (24 + 5 * p + 1)) ∧ -1000 ≤ a (24 + 5 * p + 1) ∧ a (24 + 5 * p + 1) ≤ 1000) {x : Int} (hx : -2147483648 ≤ x ∧ x < 2147483648) : fX7_isTakenThen k m (J x) = some (if tkb a x n = true then 1 else 0) := by
  unfold fX7_isTakenThen
  have c56 : ∀ {α : Type} (E : Option α), chk 58 (56 : Int32) E = E := fun E => by rw [J_lit, chk_J (by omega)]
  have t56 : (56 : Int32).toNatClampNeg = 56 := by decide
  refine lp_for (fun (j : Nat) (v : Int32 × Int32) => v = ((if tkb a x j = true then 1 else 0), J j)) n (fun (o : Option Int32) => o = some (if tkb a x n = true then 1 else 0)) ?_ ?_ rfl (by omega)
  · intro j v hj hv
    subst hv
    have g2 := h2 j hj
    left
    have e1 : (24 : Int32) + 5 * J (j : Int) + 1 = J ((24 + 5 * j + 1 : Nat) : Int) := by
      simp only [J_lit, J_mul, J_add]
      congr 1
    refine ⟨((if tkb a x (j + 1) = true then 1 else 0), J ((j + 1 : Nat) : Int)), fun rec => ?_, rfl⟩
    unfold fX7_isTakenThen_B4
    simp (disch := omega) only [c56, t56, h0, J_le, e1, chk_J, J_natn, g2.1, J_eq, J_suc, b_ite]
    rw [if_neg (by omega)]
    rw [tkb_s]
    by_cases t : tkb a x j = true
    · rw [if_pos t, t, Bool.true_or, if_pos rfl]
    · rw [if_neg t]
      by_cases q : a (24 + 5 * j + 1) = x
      · rw [if_pos q, decide_eq_true q, Bool.or_true, if_pos rfl]
      · rw [if_neg q, decide_eq_false q, Bool.or_false, if_neg t]
  · intro v hv rec
    subst hv
    unfold fX7_isTakenThen_B4
    simp (disch := omega) only [c56, t56, h0, J_le, chb_b]
    rw [if_pos (by omega)]
theorem al_val {T : Nat → Nat} {z i : Nat} {d m : Dat} (h : AL T z i d m) (h2 : m.1 19 = 2) : ∃ v : Int, m.1 20 = J v ∧ 0 ≤ v ∧ v ≤ 999 := by
  obtain ⟨hC, hM, _, hi, s, e, kk, v, tk, mt⟩ := h
  obtain ⟨⟨f1, f2, f3, f4⟩, fv, _⟩ := TK_f tk
  have e2 : kk = 2 := by
    have := mt.2.2.2.1
    rw [h2, J_lit, J_eq (by omega)] at this
    omega
  exact ⟨v, mt.2.2.2.2.1 e2, fv e2⟩
set_option maxHeartbeats 4000000 in
theorem it_player (k : Nat) (hk : 1000 < k) {T : Nat → Nat} {z i s e kk : Nat} {v : Int} {d m st bd : Dat} {b : Nat → Int} (hT : TB T z) (h : CUR T z d m i s e kk v) (hNB : NB st bd (m.2 21) b) :
    IR k T z e d m b ((fX2_readPlayer k d st bd).bind (fun (r29 : Int32 × Dat × Dat) => chb (r29.1) (some ((r29.1), (r29.2.1.1, d.2), st, (r29.2.2.1, (va_up (va_up (va_up (va_up (va_up bd.2 1 (r29.2.2.2 1)) 2 (r29.2.2.2 2)) 3 (r29.2.2.2 3)) 4 (r29.2.2.2 4)) 5 (r29.2.2.2 5))))))) ((fX7_readsPlayer k m).bind (fun (r31 : Int32 × Dat) => chb (r31.1) (some ((r31.1), (r31.2.1, (va_up m.2 21 (r31.2.2 21))))))) := by
  obtain ⟨hN, hS, hB, hs, hb, h57, h23⟩ := hNB
  have n56 := hb.1
  have n54 := hs.1
  obtain ⟨p, hp⟩ : ∃ p : Nat, b 56 = p := ⟨(b 56).toNat, by omega⟩
  have f56 : m.2 21 56 = J (p : Int) := (hN 56 (by omega) (by omega) (by omega)).trans (by rw [hp])
  have f54 : m.2 21 54 - 1 = J (b 54 - 1) := by rw [hN 54 (by omega) (by omega) (by omega), J_lit, J_sub]
  have b0 : bd.1 0 = J (p : Int) := hB.1.1.trans (by rw [hp])
  have s0 : st.1 0 - 1 = J (b 54 - 1) := by rw [hS.1.1, J_lit, J_sub]
  have c56 : ∀ {α : Type} (E : Option α), chk 58 (56 : Int32) E = E := fun E => by rw [J_lit, chk_J (by omega)]
  have c54 : ∀ {α : Type} (E : Option α), chk 58 (54 : Int32) E = E := fun E => by rw [J_lit, chk_J (by omega)]
  have t56 : (56 : Int32).toNatClampNeg = 56 := by decide
  have t54 : (54 : Int32).toNatClampNeg = 54 := by decide
  have e6 : (6 ≤ J (p : Int)) = (6 ≤ p) := by rw [J_lit, J_le (by omega)]; exact propext (by omega)
  have e7 : (J (p : Int) = 6) = (p = 6) := J_nateq (b := 6) (by omega)
  have pw : ∀ q : Nat, q < p → -1000 ≤ b (24 + 5 * q + 1) ∧ b (24 + 5 * q + 1) ≤ 1000 := fun q hq => by
    have := hb.2.2.2.1 q (by omega)
    unfold W1 at this
    omega
  unfold fX2_readPlayer fX7_readsPlayer
  simp only [c56, c54, t56, t54, f56, f54, b0, s0, e6, e7]
  by_cases q : p = 6
  · rw [if_pos (by omega), if_pos q, Option.bind_some, Option.bind_some, chb0, chb0]
    exact Or.inr ⟨_, _, _, _, 0, rfl, rfl, Or.inl rfl, cur_eq h, FR.rf _⟩
  · rw [if_neg (by omega), if_neg q]
    obtain ⟨m0, e0, al0, fr0⟩ := cur_go k hk hT h
    rw [e0, Option.bind_some]
    rcases al_num k hk hT al0 0 5 0 5 rfl rfl (by omega) with ⟨d1, m1, i1, X, a1, g1, v1, r1, al1, fr1, _, le1⟩ | ⟨d1, a1, g1, x1⟩
    · rw [a1, Option.bind_some, if_neg n10, g1, Option.bind_some, if_neg n10]
      dsimp only
      have taken : ∀ x : Int, 0 ≤ x ∧ x ≤ 999 → fX7_isTakenThen k (m1, m.2) (J x) = some (if tkb b x p = true then 1 else 0) := fun x hx =>
        m_isTakenThen k (by omega) f56 (by omega) (fun q hq => ⟨hN (24 + 5 * q + 1) (by omega) (by omega) (by omega), pw q hq⟩) (by omega)
      have plays : ∀ x : Int, 0 ≤ x ∧ x ≤ 999 → fX0_playsAt k bd (J x) = some (if tkb b x p = true then 1 else 0) := fun x hx =>
        c_playsAt k (by omega) b0 (by omega) (fun q hq => ⟨(hB.2.1 q (by omega)).2.1, pw q hq⟩) (by omega)
      rcases al_num k hk hT al1 0 (J (b 54 - 1)) 0 (b 54 - 1) rfl rfl (by omega) with ⟨d2, m2, i2, Y, a2, g2, v2, r2, al2, fr2, ⟨k19, k20, ks⟩, le2⟩ | ⟨d2, a2, g2, x2⟩
      · rw [a2, Option.bind_some, if_neg n10, if_pos k19]
        dsimp only
        rw [show m1 20 = J Y from k20, v2.1, taken Y (by omega), plays Y (by omega), Option.bind_some, Option.bind_some]
        by_cases ct : tkb b Y p = true
        · right
          rw [if_pos ct, if_neg n10, if_neg n10, Option.bind_some, Option.bind_some, chb0, chb0]
          exact ⟨_, _, _, _, 0, rfl, rfl, Or.inl rfl, ks, fr1.tr fr0⟩
        · rw [if_neg ct, if_pos rfl, if_pos rfl, g2, Option.bind_some, if_neg n10]
          rcases al_num k hk hT al2 1 99 1 99 rfl rfl (by omega) with ⟨d3, m3, i3, Z, a3, g3, v3, r3, al3, fr3, _, le3⟩ | ⟨d3, a3, g3, x3⟩
          · rw [a3, Option.bind_some, if_neg n10, g3, Option.bind_some, if_neg n10]
            dsimp only
            rw [v1.1, v1.2, v2.2, v3.1, v3.2]
            obtain ⟨x21, _, h21⟩ := J_ex (m.2 21 21)
            obtain ⟨x22, _, h22⟩ := J_ex (m.2 21 22)
            have hf : ∀ i : Nat, i < 58 → m.2 21 i = J (zup (zup b 21 x21) 22 x22 i) := fun i hi => by
              unfold zup
              by_cases c2 : i = 22
              · rw [if_pos c2, c2, h22]
              · by_cases c1 : i = 21
                · rw [if_neg c2, if_pos c1, c1, h21]
                · rw [if_neg c2, if_neg c1]
                  exact hN i hi c1 c2
            obtain ⟨f', l1, l2, l3⟩ := m_layPlayer k (n := 58) (f := m.2 21) (a := zup (zup b 21 x21) 22 x22) (p := p) (X := X) (Y := Y) (Z := Z) hf (by omega) (by omega)
            have ao : ∀ i : Nat, (i < 24 + 5 * p ∨ 24 + 5 * p + 4 < i) → ¬ i = 56 → adp b p X Y Z i = b i := fun i h1 h2 => adp_o h1 h2
            have ap := adp_p (a := b) (p := p) (by omega) (X := X) (Y := Y) (Z := Z)
            obtain ⟨nd, ad, hBB⟩ := c_addPlayer k (bd := bd) (a := b) (a' := adp b p X Y Z) (p := p) (X := X) (Y := Y) (Z := Z) hB hp (by omega) (by rw [ao 57 (by omega) (by omega)]; exact h57) adp_6 (ao 23 (by omega) (by omega)) (fun i h1 h2 => ao i (by omega) (by omega)) ap
            rw [l1, Option.bind_some, ad, Option.bind_some]
            dsimp only
            rw [Option.bind_some, chb1]
            have f56' : f' 56 = J (p : Int) := by
              rw [l3, upd_ne (by omega), upd_ne (by omega), upd_ne (by omega), upd_ne (by omega), upd_ne (by omega)]
              exact f56
            rw [f56']
            have rowb : ∀ i : Nat, i < 58 → ¬ i = 21 → ¬ i = 22 → upd f' 56 (J (p : Int) + 1) i = J (adp b p X Y Z i) := fun i hi c1 c2 => by
              by_cases c : i = 56
              · subst c
                rw [upd_same, adp_6, J_suc]
                rfl
              · rw [upd_ne c, l2 i hi]
                unfold adp
                rw [zup_ne c]
                unfold zup
                simp only [c1, c2, if_false]
            have nSS : SS st (adp b p X Y Z) := SS_ext hS hs (fun i hi => ao i (by omega) (by omega))
            have nWS : WS (adp b p X Y Z) := WS_ext hs (fun i hi => ao i (by omega) (by omega))
            have nWB : WB (adp b p X Y Z) := WB_add hb hp (by omega) (ao 54 (by omega) (by omega)) (by rw [ao 57 (by omega) (by omega)]; exact h57) adp_6 (ao 23 (by omega) (by omega)) (fun i h1 h2 => ao i (by omega) (by omega)) (by rw [ap.1, ap.2.1, ap.2.2.1, ap.2.2.2.1, ap.2.2.2.2]; omega)
            rcases al_stop k hk hT al3 with ⟨d4, s', e', v', w1, y19, cu⟩ | ⟨d4, w1, y19, x4⟩
            · left
              rw [w1, Option.bind_some, chb1, Option.bind_some, chb1]
              refine ⟨_, _, _, _, adp b p X Y Z, i3, s', e', v', rfl, rfl, y19, by omega, cu, fr3.tr (fr2.tr (fr1.tr fr0)), ⟨rowb, nSS, ?_, nWS, nWB, ?_, ?_⟩, ⟨ao 21 (by omega) (by omega), ao 22 (by omega) (by omega)⟩, rfl⟩
              · obtain ⟨q1, q2, q3⟩ := hBB
                exact ⟨q1, fun p hp => q2 p hp, fun r p hr hp => q3 r p hr hp⟩
              · rw [ao 57 (by omega) (by omega)]; exact h57
              · rw [ao 23 (by omega) (by omega)]; exact h23
            · right
              rw [w1, Option.bind_some, chb0, Option.bind_some, chb0]
              exact ⟨_, _, _, _, 1, rfl, rfl, Or.inr ⟨rfl, y19⟩, x4, fr3.tr (fr2.tr (fr1.tr fr0))⟩
          · right
            rw [a3, Option.bind_some, if_pos rfl, Option.bind_some, chb0, g3, Option.bind_some, if_pos rfl, Option.bind_some, chb0]
            exact ⟨_, _, _, _, 0, rfl, rfl, Or.inl rfl, x3, fr2.tr (fr1.tr fr0)⟩
      · right
        rw [a2, Option.bind_some, if_pos rfl, Option.bind_some, chb0]
        by_cases c2 : m1 19 = 2
        · obtain ⟨V, hV, hVb⟩ := al_val al1 c2
          have hV' : m1 20 = J V := hV
          rw [if_pos c2, hV', taken V hVb, Option.bind_some]
          by_cases ct : tkb b V p = true
          · rw [if_pos ct, if_neg n10, Option.bind_some, chb0]
            exact ⟨_, _, _, _, 0, rfl, rfl, Or.inl rfl, x2, fr1.tr fr0⟩
          · rw [if_neg ct, if_pos rfl, g2, Option.bind_some, if_pos rfl, Option.bind_some, chb0]
            exact ⟨_, _, _, _, 0, rfl, rfl, Or.inl rfl, x2, fr1.tr fr0⟩
        · rw [if_neg c2, Option.bind_some, chb0]
          exact ⟨_, _, _, _, 0, rfl, rfl, Or.inl rfl, x2, fr1.tr fr0⟩
    · right
      rw [a1, Option.bind_some, if_pos rfl, Option.bind_some, chb0, g1, Option.bind_some, if_pos rfl, Option.bind_some, chb0]
      exact ⟨_, _, _, _, 0, rfl, rfl, Or.inl rfl, x1, fr0⟩
