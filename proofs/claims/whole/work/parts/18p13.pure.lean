theorem NB_off {st bd : Dat} {f : Nat → Int32} {b : Nat → Int} {p : Nat} {V : Int} (h : NB st bd f b) (hp : (p : Int) < b 56) (hV : -500 ≤ V ∧ V ≤ 500) : NB st (bd.1, va_up bd.2 4 (upd (bd.2 4) p (J V))) (upd f (24 + 5 * p + 3) (J V)) (zup b (24 + 5 * p + 3) V) := by
  obtain ⟨hN, hS, hB, hs, hb, h57, h23⟩ := h
  have n56 := hb.1
  have go : ∀ i : Nat, ¬ i = 24 + 5 * p + 3 → zup b (24 + 5 * p + 3) V i = b i := fun i h => zup_ne h
  have gs : zup b (24 + 5 * p + 3) V (24 + 5 * p + 3) = V := zup_same _ _ _
  obtain ⟨⟨g0, g7, g8⟩, gP, gQ⟩ := hB
  refine ⟨fun i hi a1 a2 => ?_, SS_ext hS hs (fun i hi => go i (by omega)), ⟨⟨?_, ?_, ?_⟩, fun q hq => ?_, fun r q hr hq => ?_⟩, WS_ext hs (fun i hi => go i (by omega)), ⟨?_, ?_, ?_, fun q hq => ?_, fun r q hr hq => ?_⟩, ?_, ?_⟩
  · by_cases c : i = 24 + 5 * p + 3
    · rw [c, upd_same, gs]
    · rw [upd_ne c, go i c]
      exact hN i hi a1 a2
  · rw [go 56 (by omega)]; exact g0
  · rw [go 23 (by omega)]; exact g7
  · rw [go 57 (by omega)]; exact g8
  · rw [go 56 (by omega)] at hq
    obtain ⟨q1, q2, q3, q4, q5⟩ := gP q hq
    rw [go (24 + 5 * q) (by omega), go (24 + 5 * q + 1) (by omega), go (24 + 5 * q + 2) (by omega), go (24 + 5 * q + 4) (by omega)]
    refine ⟨q1, q2, q3, ?_, q5⟩
    show upd (bd.2 4) p (J V) q = _
    by_cases c : q = p
    · subst c
      rw [upd_same, gs]
    · rw [upd_ne c, go (24 + 5 * q + 3) (by omega)]
      exact q4
  · rw [go 57 (by omega)] at hr
    omega
  · rw [go 56 (by omega)]; exact n56
  · rw [go 57 (by omega)]; omega
  · rw [go 23 (by omega)]; omega
  · rw [go 56 (by omega)] at hq
    have := hb.2.2.2.1 q hq
    unfold W1 at this ⊢
    rw [go 54 (by omega), go 56 (by omega), go (24 + 5 * q) (by omega), go (24 + 5 * q + 1) (by omega), go (24 + 5 * q + 2) (by omega), go (24 + 5 * q + 4) (by omega)]
    by_cases c : q = p
    · subst c
      rw [gs]
      omega
    · rw [go (24 + 5 * q + 3) (by omega)]
      exact this
  · rw [go 57 (by omega)] at hr
    omega
  · rw [go 57 (by omega)]; exact h57
  · rw [go 23 (by omega)]; exact h23
set_option maxHeartbeats 4000000 in
theorem it_offset (k : Nat) (hk : 1000 < k) {T : Nat → Nat} {z i s e kk : Nat} {v : Int} {d m st bd : Dat} {b : Nat → Int} (hT : TB T z) (h : CUR T z d m i s e kk v) (hNB : NB st bd (m.2 21) b) :
    IR k T z e d m b ((fX2_readOffset k d bd).bind (fun (r27 : Int32 × Dat × Dat) => chb (r27.1) (some ((r27.1), (r27.2.1.1, d.2), st, (bd.1, (va_up bd.2 4 (r27.2.2.2 4))))))) ((fX7_readsOffset k m).bind (fun (r29 : Int32 × Dat) => chb (r29.1) (some ((r29.1), (r29.2.1, (va_up m.2 21 (r29.2.2 21))))))) := by
  obtain ⟨hN, hS, hB, hs, hb, h57, h23⟩ := id hNB
  have n56 := hb.1
  have f56 : m.2 21 56 - 1 = J (b 56 - 1) := by rw [hN 56 (by omega) (by omega) (by omega), J_lit, J_sub]
  have b0 : bd.1 0 - 1 = J (b 56 - 1) := by rw [hB.1.1, J_lit, J_sub]
  have c56 : ∀ {α : Type} (E : Option α), chk 58 (56 : Int32) E = E := fun E => by rw [J_lit, chk_J (by omega)]
  have t56 : (56 : Int32).toNatClampNeg = 56 := by decide
  unfold fX2_readOffset fX7_readsOffset
  simp only [c56, t56, f56, b0, if_true]
  obtain ⟨m0, e0, al0, fr0⟩ := cur_go k hk hT h
  rw [e0, Option.bind_some]
  rcases al_num k hk hT al0 0 (J (b 56 - 1)) 0 (b 56 - 1) rfl rfl (by omega) with ⟨d1, m1, i1, X, a1, g1, v1, r1, al1, fr1, _, le1⟩ | ⟨d1, a1, g1, x1⟩
  · rw [a1, Option.bind_some, if_neg n10, g1, Option.bind_some, if_neg n10]
    dsimp only
    obtain ⟨p, hp⟩ : ∃ p : Nat, X = p := ⟨X.toNat, by omega⟩
    subst hp
    obtain ⟨d2, s2, e2, k2, v2, t2, cu2⟩ := al_tok k hk hT al1
    rw [t2, Option.bind_some, v1.1, v1.2]
    have ix : (24 : Int32) + 5 * J (p : Int) + 3 = J ((24 + 5 * p + 3 : Nat) : Int) := by
      simp only [J_lit, J_mul, J_add]
      congr 1
    have tf2 := TK_f cu2.2.2.2.2
    by_cases c5 : k2 = 5
    · subst c5
      rw [if_pos (show d2.1 4 = 3 from cu2.2.2.1.2.2.2.1), if_pos (show m1 19 = 5 from cu2.2.2.2.1.2.2.2.1)]
      rw [if_neg n10, if_neg n10]
      obtain ⟨m2, g2, al2, fr2⟩ := cur_go k hk hT cu2
      have al2' : AL T z e2 (d2.1, d.2) (m2, m.2) := al2
      obtain ⟨d3, s3, e3, k3, v3, t3, cu3⟩ := al_tok k hk hT al2'
      have g2' : fX7_goOn k (m1, m.2) = some (m2, m.2) := g2
      rw [t3, Option.bind_some, g2', Option.bind_some]
      have tf3 := TK_f cu3.2.2.2.2
      rcases cur_num k hk hT cu3 0 500 0 500 rfl rfl (by omega) with ⟨m4, q1, q2, q3, q4, al4, fr4, _⟩ | ⟨q1, q2, q3⟩
      · have q1' : fX2_isNumber k (d3.1, d.2) 0 500 = some 1 := q1
        have q2' : fX7_takes k (m2, m.2) 0 500 = some (1, (m4, m.2)) := q2
        have q31 : d3.1 5 = J v3 := q3.1
        rw [q1', Option.bind_some, if_neg n10, if_neg n10, q2', Option.bind_some, if_neg n10, if_neg n10, ix]
        dsimp only
        rw [q31, q3.2, J_neg]
        simp (disch := omega) only [chk_J, J_natn]
        rw [Option.bind_some, chb1]
        have nb := NB_off (p := p) (V := - v3) hNB (by omega) (by omega)
        have al4' : AL T z e3 (d3.1, d.2) (m4, m.2) := al4
        rcases al_stop k hk hT al4' with ⟨d5, s', e', v', w1, y19, cu⟩ | ⟨d5, w1, y19, x4⟩
        · left
          rw [w1, Option.bind_some, chb1, Option.bind_some, chb1]
          exact ⟨_, _, _, _, zup b (24 + 5 * p + 3) (- v3), e3, s', e', v', rfl, rfl, y19, by omega, cu, fr4.tr (fr2.tr (fr1.tr fr0)), nb, ⟨zup_ne (by omega), zup_ne (by omega)⟩, rfl⟩
        · right
          rw [w1, Option.bind_some, chb0, Option.bind_some, chb0]
          exact ⟨_, _, _, _, 1, rfl, rfl, Or.inr ⟨rfl, y19⟩, x4, fr4.tr (fr2.tr (fr1.tr fr0))⟩
      · right
        have q1' : fX2_isNumber k (d3.1, d.2) 0 500 = some 0 := q1
        have q2' : fX7_takes k (m2, m.2) 0 500 = some (0, (m2, m.2)) := q2
        rw [q1', Option.bind_some, if_pos rfl, Option.bind_some, chb0, q2', Option.bind_some, if_pos rfl, Option.bind_some, chb0]
        exact ⟨_, _, _, _, 0, rfl, rfl, Or.inl rfl, q3, fr2.tr (fr1.tr fr0)⟩
    · have n1 : ¬ d2.1 4 = 3 := by
        rw [show d2.1 4 = J (ck k2) from cu2.2.2.1.2.2.2.1, J_lit, J_eq (by unfold ck; omega)]
        unfold ck
        omega
      have n2 : ¬ m1 19 = 5 := by
        rw [show m1 19 = J (k2 : Int) from cu2.2.2.2.1.2.2.2.1, J_lit, J_eq (by omega)]
        omega
      rw [if_neg n1, if_neg n2]
      rcases cur_num k hk hT cu2 0 500 0 500 rfl rfl (by omega) with ⟨m4, q1, q2, q3, q4, al4, fr4, _⟩ | ⟨q1, q2, q3⟩
      · have q1' : fX2_isNumber k (d2.1, d.2) 0 500 = some 1 := q1
        have q2' : fX7_takes k (m1, m.2) 0 500 = some (1, (m4, m.2)) := q2
        have q31 : d2.1 5 = J v2 := q3.1
        rw [q1', Option.bind_some, if_neg n10, q2', Option.bind_some, if_neg n10, ix]
        dsimp only
        rw [q31, q3.2]
        simp (disch := omega) only [chk_J, J_natn]
        rw [Option.bind_some, chb1]
        have nb := NB_off (p := p) (V := v2) hNB (by omega) (by omega)
        have al4' : AL T z e2 (d2.1, d.2) (m4, m.2) := al4
        rcases al_stop k hk hT al4' with ⟨d5, s', e', v', w1, y19, cu⟩ | ⟨d5, w1, y19, x4⟩
        · left
          rw [w1, Option.bind_some, chb1, Option.bind_some, chb1]
          exact ⟨_, _, _, _, zup b (24 + 5 * p + 3) v2, e2, s', e', v', rfl, rfl, y19, by omega, cu, fr4.tr (fr1.tr fr0), nb, ⟨zup_ne (by omega), zup_ne (by omega)⟩, rfl⟩
        · right
          rw [w1, Option.bind_some, chb0, Option.bind_some, chb0]
          exact ⟨_, _, _, _, 1, rfl, rfl, Or.inr ⟨rfl, y19⟩, x4, fr4.tr (fr1.tr fr0)⟩
      · right
        have q1' : fX2_isNumber k (d2.1, d.2) 0 500 = some 0 := q1
        have q2' : fX7_takes k (m1, m.2) 0 500 = some (0, (m1, m.2)) := q2
        rw [q1', Option.bind_some, if_pos rfl, Option.bind_some, chb0, q2', Option.bind_some, if_pos rfl, Option.bind_some, chb0]
        exact ⟨_, _, _, _, 0, rfl, rfl, Or.inl rfl, q3, fr1.tr fr0⟩
  · right
    rw [a1, Option.bind_some, if_pos rfl, Option.bind_some, chb0, g1, Option.bind_some, if_pos rfl, Option.bind_some, chb0]
    exact ⟨_, _, _, _, 0, rfl, rfl, Or.inl rfl, x1, fr0⟩
def wd (l : List Nat) (j : Nat) : Nat := l.getD j 0
theorem wd_b {l : List Nat} (h : ∀ x : Nat, x ∈ l → x < 128) (j : Nat) : wd l j < 128 := by
  unfold wd
  rw [List.getD_eq_getElem?_getD]
  cases h' : l[j]? with
  | none => exact (by decide : (0 : Nat) < 128)
  | some x => exact h x (List.mem_of_getElem? h')
theorem wj (k : Nat) (hk : 1000 < k) {T : Nat → Nat} {z i s e : Nat} {v : Int} {d m : Dat} (hT : TB T z) (h : CUR T z d m i s e 1 v) (i1 n : Nat) (l : List Nat) (hl : ∀ x : Nat, x ∈ l → x < 128) (h1 : sL i1 = J (n : Nat)) (h2 : sLen.getD i1 0 = n) (hw : ∀ j : Nat, j < n → sC i1 (J (j : Int)) = J (wd l j : Int)) (hn : (n = 3 ∧ wd l 3 = 0) ∨ (n = 4 ∧ ¬ wd l 3 = 0 ∧ wd l 4 = 0) ∨ (n = 6 ∧ ¬ wd l 3 = 0 ∧ ¬ wd l 4 = 0)) :
    (WQ T s e n (wd l) ∧ fX2_isWord k d i1 = some 1 ∧ fX7_isWord k m (J (wd l 0 : Int)) (J (wd l 1 : Int)) (J (wd l 2 : Int)) (J (wd l 3 : Int)) (J (wd l 4 : Int)) (J (wd l 5 : Int)) = some 1) ∨ (¬ WQ T s e n (wd l) ∧ fX2_isWord k d i1 = some 0 ∧ fX7_isWord k m (J (wd l 0 : Int)) (J (wd l 1 : Int)) (J (wd l 2 : Int)) (J (wd l 3 : Int)) (J (wd l 4 : Int)) (J (wd l 5 : Int)) = some 0) := by
  obtain ⟨hC, hM, ct, mt, tk⟩ := id h
  obtain ⟨⟨f1, f2, f3, f4⟩, _⟩ := TK_f tk
  rcases c_isWord k hk hT hC ct f2 f3 i1 n (wd l) (by omega) h1 h2 (fun j hj => ⟨hw j hj, wd_b hl j⟩) with ⟨a, b⟩ | ⟨a, b⟩
  · rcases m_isWord k hk hT hM mt (by omega) n (wd l) (fun j => wd_b hl j) hn with ⟨_, a', b'⟩ | ⟨a', b'⟩
    · exact Or.inl ⟨a, b, b'⟩
    · exact absurd ⟨rfl, a⟩ a'
  · rcases m_isWord k hk hT hM mt (by omega) n (wd l) (fun j => wd_b hl j) hn with ⟨_, a', b'⟩ | ⟨a', b'⟩
    · exact absurd a' a
    · exact Or.inr ⟨a, b, b'⟩
def wWin : List Nat := [119, 105, 110, 100, 111, 119]
def wEar : List Nat := [101, 97, 114, 0, 0, 0]
def wMil : List Nat := [109, 105, 108, 108, 0, 0]
def wSlo : List Nat := [115, 108, 111, 119, 0, 0]
def wPla : List Nat := [112, 108, 97, 121, 101, 114]
def wOff : List Nat := [111, 102, 102, 115, 101, 116]
theorem wj0 (k : Nat) (hk : 1000 < k) {T : Nat → Nat} {z i s e : Nat} {v : Int} {d m : Dat} (hT : TB T z) (h : CUR T z d m i s e 1 v) : (WQ T s e 6 (wd wWin) ∧ fX2_isWord k d 0 = some 1 ∧ fX7_isWord k m 119 105 110 100 111 119 = some 1) ∨ (¬ WQ T s e 6 (wd wWin) ∧ fX2_isWord k d 0 = some 0 ∧ fX7_isWord k m 119 105 110 100 111 119 = some 0) :=
  wj k hk hT h 0 6 wWin (by decide) (by decide) (by decide) (by decide) (by decide)
theorem wj1 (k : Nat) (hk : 1000 < k) {T : Nat → Nat} {z i s e : Nat} {v : Int} {d m : Dat} (hT : TB T z) (h : CUR T z d m i s e 1 v) : (WQ T s e 3 (wd wEar) ∧ fX2_isWord k d 1 = some 1 ∧ fX7_isWord k m 101 97 114 0 0 0 = some 1) ∨ (¬ WQ T s e 3 (wd wEar) ∧ fX2_isWord k d 1 = some 0 ∧ fX7_isWord k m 101 97 114 0 0 0 = some 0) :=
  wj k hk hT h 1 3 wEar (by decide) (by decide) (by decide) (by decide) (by decide)
theorem wj2 (k : Nat) (hk : 1000 < k) {T : Nat → Nat} {z i s e : Nat} {v : Int} {d m : Dat} (hT : TB T z) (h : CUR T z d m i s e 1 v) : (WQ T s e 4 (wd wMil) ∧ fX2_isWord k d 2 = some 1 ∧ fX7_isWord k m 109 105 108 108 0 0 = some 1) ∨ (¬ WQ T s e 4 (wd wMil) ∧ fX2_isWord k d 2 = some 0 ∧ fX7_isWord k m 109 105 108 108 0 0 = some 0) :=
  wj k hk hT h 2 4 wMil (by decide) (by decide) (by decide) (by decide) (by decide)
theorem wj3 (k : Nat) (hk : 1000 < k) {T : Nat → Nat} {z i s e : Nat} {v : Int} {d m : Dat} (hT : TB T z) (h : CUR T z d m i s e 1 v) : (WQ T s e 4 (wd wSlo) ∧ fX2_isWord k d 3 = some 1 ∧ fX7_isWord k m 115 108 111 119 0 0 = some 1) ∨ (¬ WQ T s e 4 (wd wSlo) ∧ fX2_isWord k d 3 = some 0 ∧ fX7_isWord k m 115 108 111 119 0 0 = some 0) :=
  wj k hk hT h 3 4 wSlo (by decide) (by decide) (by decide) (by decide) (by decide)
theorem wj4 (k : Nat) (hk : 1000 < k) {T : Nat → Nat} {z i s e : Nat} {v : Int} {d m : Dat} (hT : TB T z) (h : CUR T z d m i s e 1 v) : (WQ T s e 6 (wd wPla) ∧ fX2_isWord k d 4 = some 1 ∧ fX7_isWord k m 112 108 97 121 101 114 = some 1) ∨ (¬ WQ T s e 6 (wd wPla) ∧ fX2_isWord k d 4 = some 0 ∧ fX7_isWord k m 112 108 97 121 101 114 = some 0) :=
  wj k hk hT h 4 6 wPla (by decide) (by decide) (by decide) (by decide) (by decide)
theorem wj5 (k : Nat) (hk : 1000 < k) {T : Nat → Nat} {z i s e : Nat} {v : Int} {d m : Dat} (hT : TB T z) (h : CUR T z d m i s e 1 v) : (WQ T s e 6 (wd wOff) ∧ fX2_isWord k d 5 = some 1 ∧ fX7_isWord k m 111 102 102 115 101 116 = some 1) ∨ (¬ WQ T s e 6 (wd wOff) ∧ fX2_isWord k d 5 = some 0 ∧ fX7_isWord k m 111 102 102 115 101 116 = some 0) :=
  wj k hk hT h 5 6 wOff (by decide) (by decide) (by decide) (by decide) (by decide)
theorem m_noword (k : Nat) (hk : 1000 < k) {T : Nat → Nat} {z i s e kk : Nat} {v : Int} {d m : Dat} (hT : TB T z) (h : CUR T z d m i s e kk v) (hkk : ¬ kk = 1) (n : Nat) (l : List Nat) (hl : ∀ x : Nat, x ∈ l → x < 128) (hn : (n = 3 ∧ wd l 3 = 0) ∨ (n = 4 ∧ ¬ wd l 3 = 0 ∧ wd l 4 = 0) ∨ (n = 6 ∧ ¬ wd l 3 = 0 ∧ ¬ wd l 4 = 0)) :
    fX7_isWord k m (J (wd l 0 : Int)) (J (wd l 1 : Int)) (J (wd l 2 : Int)) (J (wd l 3 : Int)) (J (wd l 4 : Int)) (J (wd l 5 : Int)) = some 0 := by
  obtain ⟨hC, hM, ct, mt, tk⟩ := id h
  obtain ⟨⟨f1, f2, f3, f4⟩, _⟩ := TK_f tk
  rcases m_isWord k hk hT hM mt (by omega) n (wd l) (fun j => wd_b hl j) hn with ⟨a, _⟩ | ⟨_, b'⟩
  · exact absurd a hkk
  · exact b'
set_option maxHeartbeats 4000000 in
theorem it_item (k : Nat) (hk : 1000 < k) {T : Nat → Nat} {z i s e kk : Nat} {v : Int} {d m st bd : Dat} {b : Nat → Int} (hT : TB T z) (h : CUR T z d m i s e kk v) (hNB : NB st bd (m.2 21) b) :
    IR k T z e d m b (fX2_readItem k d st bd) (fX7_readsItem k m) := by
  unfold fX2_readItem fX7_readsItem
  by_cases c1 : kk = 1
  · subst c1
    rw [if_pos (show d.1 4 = 1 from h.2.2.1.2.2.2.1)]
    rcases wj0 k hk hT h with ⟨_, a, a'⟩ | ⟨_, a, a'⟩
    · rw [a, a', Option.bind_some, Option.bind_some, if_neg n10, if_neg n10]
      exact it_window k hk hT h hNB
    · rw [a, a', Option.bind_some, Option.bind_some, if_pos rfl, if_pos rfl]
      rcases wj1 k hk hT h with ⟨_, a, a'⟩ | ⟨_, a, a'⟩
      · rw [a, a', Option.bind_some, Option.bind_some, if_neg n10, if_neg n10]
        exact it_ear k hk hT h hNB
      · rw [a, a', Option.bind_some, Option.bind_some, if_pos rfl, if_pos rfl]
        rcases wj2 k hk hT h with ⟨_, a, a'⟩ | ⟨_, a, a'⟩
        · rw [a, a', Option.bind_some, Option.bind_some, if_neg n10, if_neg n10]
          exact it_mill k hk hT h hNB
        · rw [a, a', Option.bind_some, Option.bind_some, if_pos rfl, if_pos rfl]
          rcases wj3 k hk hT h with ⟨q, a, a'⟩ | ⟨_, a, a'⟩
          · rw [a, Option.bind_some, if_neg n10]
            rcases wj4 k hk hT h with ⟨q4, b4, b4'⟩ | ⟨_, b4, b4'⟩
            · exact absurd q.1 (by have := q4.1; omega)
            · rcases wj5 k hk hT h with ⟨q5, b5, b5'⟩ | ⟨_, b5, b5'⟩
              · exact absurd q.1 (by have := q5.1; omega)
              · rw [b4', Option.bind_some, if_pos rfl, b5', Option.bind_some, if_pos rfl, a', Option.bind_some, if_neg n10]
                exact it_slow k hk hT h hNB
          · rw [a, Option.bind_some, if_pos rfl]
            rcases wj4 k hk hT h with ⟨q4, b4, b4'⟩ | ⟨_, b4, b4'⟩
            · rw [b4, b4', Option.bind_some, Option.bind_some, if_neg n10, if_neg n10]
              exact it_player k hk hT h hNB
            · rw [b4, b4', Option.bind_some, Option.bind_some, if_pos rfl, if_pos rfl]
              rcases wj5 k hk hT h with ⟨q5, b5, b5'⟩ | ⟨_, b5, b5'⟩
              · rw [b5, b5', Option.bind_some, Option.bind_some, if_neg n10, if_neg n10]
                exact it_offset k hk hT h hNB
              · rw [b5, b5', Option.bind_some, Option.bind_some, if_pos rfl, if_pos rfl, a', Option.bind_some, if_pos rfl]
                exact Or.inr ⟨_, _, _, _, 0, rfl, rfl, Or.inl rfl, cur_eq h, FR.rf _⟩
  · have tf := TK_f h.2.2.2.2
    have n1 : ¬ d.1 4 = 1 := by
      rw [show d.1 4 = J (ck kk) from h.2.2.1.2.2.2.1, J_lit, J_eq (by unfold ck; omega)]
      unfold ck
      omega
    have w0 : fX7_isWord k m 119 105 110 100 111 119 = some 0 := m_noword k hk hT h c1 6 wWin (by decide) (by decide)
    have w1 : fX7_isWord k m 101 97 114 0 0 0 = some 0 := m_noword k hk hT h c1 3 wEar (by decide) (by decide)
    have w2 : fX7_isWord k m 109 105 108 108 0 0 = some 0 := m_noword k hk hT h c1 4 wMil (by decide) (by decide)
    have w3 : fX7_isWord k m 115 108 111 119 0 0 = some 0 := m_noword k hk hT h c1 4 wSlo (by decide) (by decide)
    have w4 : fX7_isWord k m 112 108 97 121 101 114 = some 0 := m_noword k hk hT h c1 6 wPla (by decide) (by decide)
    have w5 : fX7_isWord k m 111 102 102 115 101 116 = some 0 := m_noword k hk hT h c1 6 wOff (by decide) (by decide)
    rw [if_neg n1, w0, Option.bind_some, if_pos rfl, w1, Option.bind_some, if_pos rfl, w2, Option.bind_some, if_pos rfl, w4, Option.bind_some, if_pos rfl, w5, Option.bind_some, if_pos rfl, w3, Option.bind_some, if_pos rfl]
    exact Or.inr ⟨_, _, _, _, 0, rfl, rfl, Or.inl rfl, cur_eq h, FR.rf _⟩
theorem SS_wr {st : Dat} {X : Nat → Nat → Int32} {a : Nat → Int} (h : SS st a) : SS (st.1, va_up (va_up (va_up (va_up X 1 (st.2 1)) 2 (st.2 2)) 4 (st.2 4)) 5 (st.2 5)) a := by
  obtain ⟨h1, h2, h3⟩ := h
  exact ⟨h1, fun w hw => h2 w hw, fun w hw => h3 w hw⟩
theorem BB_wr {bd : Dat} {X : Nat → Nat → Int32} {a : Nat → Int} (h : BB bd a) (h57 : a 57 = 0) : BB (bd.1, va_up (va_up (va_up (va_up (va_up X 1 (bd.2 1)) 2 (bd.2 2)) 3 (bd.2 3)) 4 (bd.2 4)) 5 (bd.2 5)) a := by
  obtain ⟨h1, h2, h3⟩ := h
  exact ⟨h1, fun w hw => h2 w hw, fun r q hr _ => by omega⟩
theorem BB_wr9 {bd : Dat} {X : Nat → Nat → Int32} {a : Nat → Int} (h : BB bd a) : BB (bd.1, va_up (va_up (va_up (va_up (va_up (va_up X 1 (bd.2 1)) 2 (bd.2 2)) 3 (bd.2 3)) 4 (bd.2 4)) 5 (bd.2 5)) 9 (bd.2 9)) a := by
  obtain ⟨h1, h2, h3⟩ := h
  exact ⟨h1, fun w hw => h2 w hw, fun r q hr hq => h3 r q hr hq⟩
theorem NB_wr {st bd : Dat} {f : Nat → Int32} {b : Nat → Int} (X Y : Nat → Nat → Int32) (h : NB st bd f b) : NB (st.1, va_up (va_up (va_up (va_up X 1 (st.2 1)) 2 (st.2 2)) 4 (st.2 4)) 5 (st.2 5)) (bd.1, va_up (va_up (va_up (va_up (va_up Y 1 (bd.2 1)) 2 (bd.2 2)) 3 (bd.2 3)) 4 (bd.2 4)) 5 (bd.2 5)) f b := by
  obtain ⟨hN, hS, hB, hs, hb, h57, h23⟩ := h
  exact ⟨hN, SS_wr hS, BB_wr hB h57, hs, hb, h57, h23⟩
def RDO (z : Nat) (m : Dat) (b : Nat → Int) (K43 : Int32 × Dat × Dat × Dat → Option (Int32 × Dat × Dat × Dat)) (K56 : Dat × Dat × Dat → Option (Int32 × Dat × Dat × Dat)) (K74 : Dat → Option (Int32 × Dat)) (K92 : Int32 × Dat → Option (Int32 × Dat)) (oc : Option (Int32 × Dat × Dat × Dat)) (om : Option (Int32 × Dat)) : Prop :=
  (∃ (n : Nat) (d' st' bd' m' : Dat) (b' : Nat → Int), oc = K43 (J (n : Int), d', st', bd') ∧ om = K92 (J (n : Int), m') ∧ n ≤ z ∧ NB st' bd' (m'.2 21) b' ∧ (b' 21 = b 21 ∧ b' 22 = b 22) ∧ FR m'.1 m.1)
  ∨ (∃ (d' st' bd' m' : Dat), oc = K56 (d', st', bd') ∧ om = K74 m' ∧ d'.1 3 = m'.1 17 ∧ FR m'.1 m.1)
theorem al_kind (k : Nat) (hk : 1000 < k) {T : Nat → Nat} {z i s e kk : Nat} {v : Int} {d m : Dat} (h : CUR T z d m i s e kk v) : (d.1 4 = 0) = (kk = 0) ∧ (m.1 19 = 0) = (kk = 0) := by
  have tf := TK_f h.2.2.2.2
  constructor
  · rw [h.2.2.1.2.2.2.1, J_lit, J_eq (by unfold ck; omega)]
    unfold ck
    exact propext (by omega)
  · rw [h.2.2.2.1.2.2.2.1]
    exact J_nateq (b := 0) (by omega)
set_option maxHeartbeats 4000000 in
theorem rd_loop (k : Nat) (hk : 1000 < k) {T : Nat → Nat} {z : Nat} (hT : TB T z) (D A3 A4 M : Dat) (fa : Nat → Int32) (m0 : Dat) (b0 : Nat → Int) (K43 : Int32 × Dat × Dat × Dat → Option (Int32 × Dat × Dat × Dat)) (K56 K72 : Dat × Dat × Dat → Option (Int32 × Dat × Dat × Dat)) (K74 : Dat → Option (Int32 × Dat)) (K92 : Int32 × Dat → Option (Int32 × Dat)) :
    ∀ (n n' : Nat) (items i : Nat) (d st bd m : Dat) (b : Nat → Int), z - i < n → z - i < n' → items ≤ i →
      AL T z i (d.1, va_up D.2 0 fa) (m.1, va_up M.2 21 (m.2 21)) → NB st bd (m.2 21) b → (b 21 = b0 21 ∧ b 22 = b0 22) → FR m.1 m0.1 →
      RDO z m0 b0 K43 K56 K74 K92 (lp (fX2_readTown_B23 k D A3 A4 fa K43 K56 K72) n (J (items : Int), d, st, bd)) (lp (fX7_read_B52 k M K74 K92) n' (J (items : Int), m)) := by
  intro n
  induction n with
  | zero => intro n' items i d st bd m b h; omega
  | succ n ih =>
    intro n' items i d st bd m b h1 h2 h3 al nb hw fr
    obtain ⟨n', rfl⟩ : ∃ q : Nat, n' = q + 1 := ⟨n' - 1, by omega⟩
    show RDO z m0 b0 K43 K56 K74 K92 (fX2_readTown_B23 k D A3 A4 fa K43 K56 K72 (lp (fX2_readTown_B23 k D A3 A4 fa K43 K56 K72) n) (J (items : Int), d, st, bd)) (fX7_read_B52 k M K74 K92 (lp (fX7_read_B52 k M K74 K92) n') (J (items : Int), m))
    have z250 := hT.1
    have iz := al.2.2.2.1
    have d1 : d.1 1 = J (z : Int) := al.1.1
    unfold fX2_readTown_B23 fX7_read_B52
    dsimp only
    rw [d1, if_neg (show ¬ J (z : Int) < J (items : Int) by rw [J_lt (by omega)]; omega)]
    obtain ⟨d', s, e, kk, v, t1, cu⟩ := al_tok k hk hT al
    rw [t1, Option.bind_some]
    obtain ⟨q1, q2⟩ := al_kind k hk cu
    replace q1 : (d'.1 4 = 0) = (kk = 0) := q1
    replace q2 : (m.1 19 = 0) = (kk = 0) := q2
    simp only [q1, q2]
    have nbw := NB_wr A3.2 A4.2 nb
    by_cases c : kk = 0
    · rw [if_pos c, if_pos c]
      exact Or.inl ⟨items, _, _, _, _, b, rfl, rfl, by omega, nbw, hw, fr⟩
    · rw [if_neg c, if_neg c]
      have tf := TK_f cu.2.2.2.2
      have ir := it_item k hk (b := b) hT cu nbw
      replace ir : IR k T z e (d'.1, va_up D.2 0 fa) (m.1, va_up M.2 21 (m.2 21)) b (fX2_readItem k (d'.1, va_up D.2 0 fa) (st.1, va_up (va_up (va_up (va_up A3.2 1 (st.2 1)) 2 (st.2 2)) 4 (st.2 4)) 5 (st.2 5)) (bd.1, va_up (va_up (va_up (va_up (va_up A4.2 1 (bd.2 1)) 2 (bd.2 2)) 3 (bd.2 3)) 4 (bd.2 4)) 5 (bd.2 5))) (fX7_readsItem k (m.1, va_up M.2 21 (m.2 21))) := ir
      rcases ir with ⟨d2, st', bd', mD, b', i', s', e', v', o1, o2, y19, le, cu2, fr2, nb2, hw2, _⟩ | ⟨d2, st', bd', mD, rm, o1, o2, yy, x3, fr2⟩
      · rw [o1, o2, Option.bind_some, Option.bind_some]
        dsimp only
        rw [if_neg n10, if_neg n10, if_pos y19]
        have tf2 := TK_f cu2.2.2.2.2
        have lt2 := tf2.2.2.1 (by omega)
        have lt1 := tf.2.2.1 c
        have cu3 : CUR T z (d2.1, va_up D.2 0 fa) (mD.1, va_up M.2 21 (mD.2 21)) i' s' e' 3 v' := ⟨cu2.1, ⟨cu2.2.1.1, cu.2.1.2⟩, cu2.2.2.1, cu2.2.2.2.1, cu2.2.2.2.2⟩
        obtain ⟨m', g1, al3, fr3⟩ := cur_go k hk hT cu3
        rw [g1, Option.bind_some, J_suc]
        exact ih n' (items + 1) e' (d2.1, D.2) _ _ (m', va_up M.2 21 (mD.2 21)) b' (by omega) (by omega) (by omega) al3 (NB_wr A3.2 A4.2 nb2) ⟨hw2.1.trans hw.1, hw2.2.trans hw.2⟩ (fr3.tr (fr2.tr fr))
      · right
        rw [o1, o2, Option.bind_some, Option.bind_some]
        dsimp only
        rw [if_pos rfl]
        rcases yy with hr | ⟨hr, y19⟩
        · rw [hr, if_pos rfl]
          exact ⟨_, _, _, _, rfl, rfl, x3, fr2.tr fr⟩
        · rw [hr, if_neg n10, if_neg y19]
          exact ⟨_, _, _, _, rfl, rfl, x3, fr2.tr fr⟩
theorem m_clear58 (k : Nat) (hk : 100 < k) (m : Dat) : ∃ w : Dat, (∀ K : Dat → Option (Int32 × Dat), lp (fX7_read_B2 k m K) k (0, m) = K w) ∧ ∀ i : Nat, i < 58 → w.2 21 i = 0 := by
  refine lp_forK (B := fun K => fX7_read_B2 k m K) (fun (j : Nat) (v : Int32 × Dat) => v.1 = J (j : Int) ∧ ∀ i : Nat, i < j → v.2.2 21 i = 0) 58 _ ?_ ?_ ⟨rfl, fun i hi => by omega⟩ (by omega)
  · intro j v hj ⟨hv, h1⟩
    obtain ⟨y, w⟩ := v
    have hy : y = J (j : Int) := hv
    subst hy
    refine ⟨(J ((j + 1 : Nat) : Int), (m.1, va_up m.2 21 (upd (w.2 21) j 0))), fun K rec => ?_, rfl, fun i hi => ?_⟩
    · unfold fX7_read_B2
      dsimp only
      rw [if_neg (show ¬ (58 : Int32) ≤ J (j : Int) by rw [J_lit, J_le (by omega)]; omega), chk_J (by omega), J_natn (by omega), J_suc]
    · show upd (w.2 21) j 0 i = 0
      by_cases c : i = j
      · rw [c, upd_same]
      · rw [upd_ne c]
        exact h1 i (by omega)
  · intro v ⟨hv, h1⟩
    obtain ⟨y, w⟩ := v
    have hy : y = J ((58 : Nat) : Int) := hv
    subst hy
    refine ⟨(m.1, va_up m.2 21 (w.2 21)), fun K rec => ?_, h1⟩
    unfold fX7_read_B2
    dsimp only
    rw [if_pos (show (58 : Int32) ≤ J ((58 : Nat) : Int) by decide)]
theorem m_copy58 (k : Nat) (hk : 100 < k) (D : Dat) : ∃ w : Dat, (∀ K : Dat → Option (Int32 × Dat), lp (fX7_read_B122 k D K) k (0, D) = K w) ∧ ∀ i : Nat, w.2 0 i = if i < 58 then D.2 21 i else D.2 0 i := by
  refine lp_forK (B := fun K => fX7_read_B122 k D K) (fun (j : Nat) (v : Int32 × Dat) => v.1 = J (j : Int) ∧ ∀ i : Nat, v.2.2 0 i = if i < j then D.2 21 i else D.2 0 i) 58 _ ?_ ?_ ⟨rfl, fun i => (if_neg (by omega)).symm⟩ (by omega)
  · intro j v hj ⟨hv, h1⟩
    obtain ⟨y, w⟩ := v
    have hy : y = J (j : Int) := hv
    subst hy
    refine ⟨(J ((j + 1 : Nat) : Int), (D.1, va_up D.2 0 (upd (w.2 0) j (D.2 21 j)))), fun K rec => ?_, rfl, fun i => ?_⟩
    · unfold fX7_read_B122
      dsimp only
      rw [if_neg (show ¬ (58 : Int32) ≤ J (j : Int) by rw [J_lit, J_le (by omega)]; omega), chk_J (by omega), chk_J (by omega), J_natn (by omega), J_suc]
    · show upd (w.2 0) j (D.2 21 j) i = _
      by_cases c : i = j
      · rw [c, upd_same, if_pos (by omega)]
      · rw [upd_ne c]
        have := h1 i
        by_cases c2 : i < j
        · rw [if_pos (by omega)]
          rw [if_pos c2] at this
          exact this
        · rw [if_neg (by omega)]
          rw [if_neg c2] at this
          exact this
  · intro v ⟨hv, h1⟩
    obtain ⟨y, w⟩ := v
    have hy : y = J ((58 : Nat) : Int) := hv
    subst hy
    refine ⟨(D.1, va_up D.2 0 (w.2 0)), fun K rec => ?_, h1⟩
    unfold fX7_read_B122
    dsimp only
    rw [if_pos (show (58 : Int32) ≤ J ((58 : Nat) : Int) by decide)]
theorem RDO.el {z : Nat} {m : Dat} {b : Nat → Int} {K43 : Int32 × Dat × Dat × Dat → Option (Int32 × Dat × Dat × Dat)} {K56 : Dat × Dat × Dat → Option (Int32 × Dat × Dat × Dat)} {K74 : Dat → Option (Int32 × Dat)} {K92 : Int32 × Dat → Option (Int32 × Dat)} {oc : Option (Int32 × Dat × Dat × Dat)} {om : Option (Int32 × Dat)} (Q : Option (Int32 × Dat × Dat × Dat) → Option (Int32 × Dat) → Prop)
    (h : RDO z m b K43 K56 K74 K92 oc om)
    (h1 : ∀ (n : Nat) (d' st' bd' m' : Dat) (b' : Nat → Int), n ≤ z → NB st' bd' (m'.2 21) b' → (b' 21 = b 21 ∧ b' 22 = b 22) → FR m'.1 m.1 → Q (K43 (J (n : Int), d', st', bd')) (K92 (J (n : Int), m')))
    (h2 : ∀ (d' st' bd' m' : Dat), d'.1 3 = m'.1 17 → FR m'.1 m.1 → Q (K56 (d', st', bd')) (K74 m')) : Q oc om := by
  rcases h with ⟨n, d', st', bd', m', b', e1, e2, hn, nb, hw, fr⟩ | ⟨d', st', bd', m', e1, e2, x, fr⟩
  · rw [e1, e2]
    exact h1 n d' st' bd' m' b' hn nb hw fr
  · rw [e1, e2]
    exact h2 d' st' bd' m' x fr
def RDP (m : Dat) (oc : Option (Int32 × Dat × Dat × Dat)) (om : Option (Int32 × Dat)) : Prop :=
  (∃ (n : Nat) (d' st' bd' mD : Dat) (a' : Nat → Int), oc = some (J (n : Int), d', st', bd') ∧ om = some (J (n : Int), mD) ∧ n ≤ 250 ∧ SS st' a' ∧ BB bd' a' ∧ WS a' ∧ WB a' ∧ mD.2 0 = Jf a' ∧ FR mD.1 m.1 ∧ a' 57 = 0)
  ∨ (∃ (d' st' bd' mD : Dat), oc = some (-1, d', st', bd') ∧ om = some (-10 - d'.1 6, mD) ∧ mD.2 0 = m.2 0 ∧ FR mD.1 m.1)
set_option maxHeartbeats 4000000 in
theorem rd_both (k : Nat) (hk : 1000 < k) {T : Nat → Nat} {Z : Nat} (hT : TB T Z) {m r11 st bd : Dat} {a tb : Nat → Int} (fa : Nat → Int32) (hfa : ∀ i : Nat, i < Z → fa i = J (sx8 (T i))) (hm16 : m.1 16 = J (Z : Int)) (hm15 : ∀ i : Nat, i < Z → m.2 15 i = J (T i : Int)) (hM : m.2 0 = Jf a) (hwa : (-2 ≤ a 21 ∧ a 21 ≤ 2) ∧ (-2 ≤ a 22 ∧ a 22 ≤ 2))
    (hSt : SS st tb) (hBt : BB bd tb) (hst : WS tb) (hbt : WB tb) (htb : ∀ i : Nat, ¬ i = 21 → ¬ i = 22 → tb i = if i = 18 ∨ i = 19 then -1 else if i = 20 then 3 else 0) (hw21 : tb 21 = a 21) (hw22 : tb 22 = a 22) :
    RDP m (fX2_readTown k r11 st bd fa (J (Z : Int))) (fX7_read k m) := by
  have z250 := hT.1
  have hmin : (if (Int32.ofNat 250) < J (Z : Int) then (Int32.ofNat 250) else J (Z : Int)) = J (Z : Int) := by
    refine if_neg (fun h => ?_)
    rw [show Int32.ofNat 250 = J (250 : Int) from rfl, J_lt (by omega)] at h
    omega
  have c18 : ∀ {α : Type} (E : Option α), chk 58 (18 : Int32) E = E := fun E => by rw [J_lit, chk_J (by omega)]
  have c19 : ∀ {α : Type} (E : Option α), chk 58 (19 : Int32) E = E := fun E => by rw [J_lit, chk_J (by omega)]
  have c20 : ∀ {α : Type} (E : Option α), chk 58 (20 : Int32) E = E := fun E => by rw [J_lit, chk_J (by omega)]
  have c21 : ∀ {α : Type} (E : Option α), chk 58 (21 : Int32) E = E := fun E => by rw [J_lit, chk_J (by omega)]
  have c22 : ∀ {α : Type} (E : Option α), chk 58 (22 : Int32) E = E := fun E => by rw [J_lit, chk_J (by omega)]
  have C21 : ∀ {α : Type} (E : Option α), chk 106 (21 : Int32) E = E := fun E => by rw [J_lit, chk_J (by omega)]
  have C22 : ∀ {α : Type} (E : Option α), chk 106 (22 : Int32) E = E := fun E => by rw [J_lit, chk_J (by omega)]
  have t18 : (18 : Int32).toNatClampNeg = 18 := by decide
  have t19 : (19 : Int32).toNatClampNeg = 19 := by decide
  have t20 : (20 : Int32).toNatClampNeg = 20 := by decide
  have t21 : (21 : Int32).toNatClampNeg = 21 := by decide
  have t22 : (22 : Int32).toNatClampNeg = 22 := by decide
  unfold fX2_readTown fX7_read
  rw [hmin]
  obtain ⟨w, ew, hw⟩ := m_clear58 k (by omega) m
  rw [ew]
  simp only [c18, c19, c20, c21, c22, C21, C22, t18, t19, t20, t21, t22]
  generalize hg : upd (upd (upd (w.2 21) 18 (-1)) 19 (-1)) 20 3 = g
  have hgi : ∀ i : Nat, i < 58 → ¬ i = 21 → ¬ i = 22 → g i = J (tb i) := fun i hi h1 h2 => by
    rw [htb i h1 h2, ← hg]
    unfold upd
    by_cases e20 : i = 20
    · rw [if_pos e20, if_neg (by omega), if_pos e20]
      rfl
    · by_cases e19 : i = 19
      · rw [if_neg e20, if_pos e19, if_pos (by omega)]
        rfl
      · by_cases e18 : i = 18
        · rw [if_neg e20, if_neg e19, if_pos e18, if_pos (by omega)]
          rfl
        · rw [if_neg e20, if_neg e19, if_neg e18, if_neg (by omega), if_neg e20]
          exact hw i hi
  have lq := m_look k hk (m := (m.1, va_up m.2 21 g)) (i := 0) hT ⟨hm16, hm15⟩ (by omega)
  obtain ⟨m1, s, e, kk, v, l1, tk, mt, fo⟩ := lq
  replace l1 : fX7_look k (m.1, va_up m.2 21 g) 0 = some m1 := l1
  rw [l1, Option.bind_some]
  have fr0 : FR m1.1 m.1 := fun q h1 h2 h3 h4 _ => fo q h1 h2 h3 h4
  have al : AL T Z 0 (upd (upd r11.1 1 (J (Z : Int))) 2 0, va_up r11.2 0 fa) (m1.1, va_up (va_up m.2 21 g) 21 ((va_up m.2 21 g) 21)) := ⟨⟨rfl, hfa⟩, ⟨mt.1, hm15⟩, rfl, by omega, s, e, kk, v, tk, mt⟩
  have nb : NB st bd ((va_up m.2 21 g) 21) tb := ⟨hgi, hSt, hBt, hst, hbt, by rw [htb 57 (by omega) (by omega)]; rfl, by rw [htb 23 (by omega) (by omega)]; rfl⟩
  refine RDO.el (RDP m) (rd_loop k hk hT (upd (upd r11.1 1 (J (Z : Int))) 2 0, r11.2) st bd (m1.1, va_up m.2 21 g) fa m tb _ _ _ _ _ k k 0 0 (upd (upd r11.1 1 (J (Z : Int))) 2 0, r11.2) st bd (m1.1, va_up m.2 21 g) tb (by omega) (by omega) (by omega) al nb ⟨rfl, rfl⟩ fr0) ?_ ?_
  · intro n d' st' bd' m' b' hn nb' hw' fr'
    left
    dsimp only
    obtain ⟨u, eu, hu⟩ := m_copy58 k (by omega) (m'.1, va_up m.2 21 (upd (upd (m'.2 21) 21 (m.2 0 21)) 22 (m.2 0 22)))
    rw [eu]
    obtain ⟨hN, hS, hB, hs, hb, h57, h23⟩ := NB_wr st.2 bd.2 nb'
    have ai : ∀ i : Nat, i < 58 → (fun i => if i < 58 then b' i else a i) i = b' i := fun i hi => if_pos hi
    generalize ha : (fun i : Nat => if i < 58 then b' i else a i) = a' at ai
    obtain ⟨q1, q2, q3⟩ := hB
    obtain ⟨w56, w57, w23, wP, wQ⟩ := hb
    refine ⟨n, _, _, _, _, a', rfl, rfl, by omega, SS_ext hS hs (fun i hi => ai i (by omega)), ⟨⟨?_, ?_, ?_⟩, fun p hp => ?_, fun r p hr hp => ?_⟩, WS_ext hs (fun i hi => ai i (by omega)), ⟨?_, ?_, ?_, fun p hp => ?_, fun r p hr hp => ?_⟩, ?_, fr', by rw [ai 57 (by omega)]; exact h57⟩
    · rw [ai 56 (by omega)]; exact q1.1
    · rw [ai 23 (by omega)]; exact q1.2.1
    · rw [ai 57 (by omega)]; exact q1.2.2
    · rw [ai 56 (by omega)] at hp
      rw [ai (24 + 5 * p) (by omega), ai (24 + 5 * p + 1) (by omega), ai (24 + 5 * p + 2) (by omega), ai (24 + 5 * p + 3) (by omega), ai (24 + 5 * p + 4) (by omega)]
      exact q2 p hp
    · rw [ai 57 (by omega)] at hr
      omega
    · rw [ai 56 (by omega)]; exact w56
    · rw [ai 57 (by omega)]; exact w57
    · rw [ai 23 (by omega)]; exact w23
    · rw [ai 56 (by omega)] at hp
      have := wP p hp
      unfold W1 at this ⊢
      rw [ai 54 (by omega), ai 56 (by omega), ai (24 + 5 * p) (by omega), ai (24 + 5 * p + 1) (by omega), ai (24 + 5 * p + 2) (by omega), ai (24 + 5 * p + 3) (by omega), ai (24 + 5 * p + 4) (by omega)]
      exact this
    · rw [ai 57 (by omega)] at hr
      omega
    · funext i
      show u.2 0 i = J (a' i)
      rw [hu i, ← ha]
      by_cases c : i < 58
      · simp only [c, if_true]
        show upd (upd (m'.2 21) 21 (m.2 0 21)) 22 (m.2 0 22) i = J (b' i)
        by_cases c2 : i = 22
        · subst c2
          rw [upd_same, hM, Jf_ap, hw'.2, hw22]
        · rw [upd_ne c2]
          by_cases c1 : i = 21
          · subst c1
            rw [upd_same, hM, Jf_ap, hw'.1, hw21]
          · rw [upd_ne c1]
            exact hN i c c1 c2
      · simp only [c, if_false]
        show m.2 0 i = J (a i)
        rw [hM, Jf_ap]
  · intro d' st' bd' m' hx fr'
    right
    dsimp only
    refine ⟨_, _, _, (m'.1, va_up m.2 21 (m'.2 21)), rfl, ?_, rfl, fr'⟩
    show some (-10 - m'.1 17, (m'.1, va_up m.2 21 (m'.2 21))) = some (-10 - d'.1 3, (m'.1, va_up m.2 21 (m'.2 21)))
    rw [hx]
set_option maxHeartbeats 4000000 in
theorem L_10 (k L : Nat) (hk : 1000 < k) (xs : Nat → Int32) (hL : L ≤ 2560) : OP L (fL_10 k ) := by
  intro rec z c st bd i0 i1 b0 b1 t5 t6 t7 h8 t9 s10 r11 m hz hzL hR
  unfold fL_10
  obtain ⟨⟨a, hM, hS, hB, hs, hb⟩, hTx, hRf, hI⟩ := hR
  obtain ⟨n54, n55, n20, n21, n22, n18, hp⟩ := id hs
  obtain ⟨n56, n57, n23, hP, hQ⟩ := id hb
  obtain ⟨Z, hZ, hc13, hm16, hTT⟩ := id hTx
  have hT : ∀ i : Nat, i < Z → (m.2 15 i).toNatClampNeg < 256 ∧ m.2 15 i = J (((m.2 15 i).toNatClampNeg : Nat) : Int) ∧ c.2 12 i = J (sx8 (m.2 15 i).toNatClampNeg) := fun i hi => by
    obtain ⟨q, h1, h2, h3⟩ := hTT i hi
    rw [h2, J_natn (by omega)]
    exact ⟨h1, rfl, h3⟩
  obtain ⟨r1, e1, hS1⟩ := c_like4 k (t := t5) hS hs
  unfold fX6_read
  rw [e1, Option.bind_some]
  unfold fX4_makeEmpty fX0_makeEmpty
  simp only [Option.bind_some]
  let tb : Nat → Int := fun i => if i = 21 then a 21 else if i = 22 then a 22 else if i = 18 ∨ i = 19 then -1 else if i = 20 then 3 else 0
  have htb : ∀ i : Nat, ¬ i = 21 → ¬ i = 22 → tb i = if i = 18 ∨ i = 19 then -1 else if i = 20 then 3 else 0 := fun i h1 h2 => by
    show (if i = 21 then a 21 else if i = 22 then a 22 else if i = 18 ∨ i = 19 then -1 else if i = 20 then 3 else 0) = _
    rw [if_neg h1, if_neg h2]
  have hz : ∀ i : Nat, (i < 18 ∨ 22 < i) → tb i = 0 := fun i h => by rw [htb i (by omega) (by omega), if_neg (by omega), if_neg (by omega)]
  have z54 : tb 54 = 0 := hz 54 (by omega)
  have z55 : tb 55 = 0 := hz 55 (by omega)
  have z56 : tb 56 = 0 := hz 56 (by omega)
  have z57 : tb 57 = 0 := hz 57 (by omega)
  have z23 : tb 23 = 0 := hz 23 (by omega)
  have hst : WS tb := ⟨by omega, by omega, ⟨by show (1 : Int) ≤ 3; decide, by show (3 : Int) ≤ 9; decide⟩, n21, n22, Or.inl ⟨rfl, rfl⟩, fun i hi => by rw [hz i (by omega)]; omega⟩
  have hbt : WB tb := ⟨by omega, by omega, by omega, fun p hp => by omega, fun r p hr hp => by omega⟩
  have hSt : SS (upd (upd (upd (upd (upd r1.1 0 0) 3 0) 6 (-1)) 7 (-1)) 8 3, va_up (va_up (va_up (va_up t5.2 1 (r1.2 1)) 2 (r1.2 2)) 4 (r1.2 4)) 5 (r1.2 5)) tb := by
    refine ⟨⟨rfl, rfl, rfl, rfl, rfl, ?_, ?_⟩, fun w hw => by omega, fun w hw => by omega⟩
    · exact hS1.1.2.2.2.2.2.1
    · exact hS1.1.2.2.2.2.2.2
  have hBt : BB (upd (upd (upd t6.1 0 0) 7 0) 8 0, t6.2) tb := ⟨⟨rfl, rfl, rfl⟩, fun p hp => by omega, fun r p hr hp => by omega⟩
  have key := rd_both k hk (T := fun i => (m.2 15 i).toNatClampNeg) (Z := Z) ⟨hZ, fun i hi => (hT i hi).1⟩ (r11 := r11) (fa := c.2 12) (fun i hi => (hT i hi).2.2) hm16 (fun i hi => (hT i hi).2.1) hM ⟨n21, n22⟩ hSt hBt hst hbt htb rfl rfl
  rw [hc13]
  rcases key with ⟨n, d', st', bd', mD, a', o1, o2, hn, gS, gB, gs, gb, gM, fr, g57⟩ | ⟨d', st', bd', mD, o1, o2, gM, fr⟩
  · rw [o1, Option.bind_some, o2]
    dsimp only
    rw [if_pos (show (0 : Int32) ≤ J (n : Int) by rw [J_lit, J_le (by omega)]; omega)]
    obtain ⟨u4, f4, hu4⟩ := c_like4 k (t := st) (SS_wr (X := t5.2) gS) gs
    obtain ⟨u0, f0, hu0⟩ := c_like0 k (t := bd) (BB_wr (X := t6.2) gB g57) gb
    rw [f4, Option.bind_some, f0, Option.bind_some, Option.bind_some, Option.bind_some]
    dsimp only
    rw [if_pos rfl]
    apply fin
    · exact rfl
    · exact rd5 z
    · exact ⟨⟨a', gM, SS_wr (X := st.2) hu4, BB_wr9 (X := bd.2) hu0, gs, gb⟩, ⟨Z, hZ, hc13, (fr 16 (by omega) (by omega) (by omega) (by omega) (by omega)).trans hm16, hTT⟩, hRf, hI⟩
  · rw [o1, Option.bind_some, o2]
    dsimp only
    rw [if_neg (show ¬ (0 : Int32) ≤ -1 by decide), Option.bind_some, Option.bind_some]
    dsimp only
    rw [if_pos rfl]
    apply fin
    · exact rfl
    · exact rd5 z
    · exact ⟨⟨a, gM.trans hM, SS_wr (X := st.2) hS, BB_wr9 (X := bd.2) hB, hs, hb⟩, ⟨Z, hZ, hc13, (fr 16 (by omega) (by omega) (by omega) (by omega) (by omega)).trans hm16, hTT⟩, hRf, hI⟩
