def ub (o o' : Nat → Int) : Nat → Int32
  | 0 => 0
  | n + 1 => if o n = o' n then ub o o' n else ub o o' n ||| (1 <<< (J (n : Int) &&& 31))
theorem c_playersUnlike (k : Nat) (hk : 100 < k) {d d' : Dat} {a o o' : Nat → Int} (h0 : d.1 0 = J (a 56)) (n56 : 0 ≤ a 56 ∧ a 56 ≤ 6) (h1 : ∀ p : Nat, (p : Int) < a 56 → d.2 4 p = J (o p)) (h2 : ∀ p : Nat, (p : Int) < a 56 → d'.2 4 p = J (o' p)) (ho : OB a o) (ho' : OB a o') :
    fX0_playersUnlike k d d' = some (ub o o' (a 56).toNat) := by
  unfold fX0_playersUnlike
  refine lp_run (fun j => (ub o o' j, J (j : Int))) (a 56).toNat _ (fun j hj rec => ?_) (fun rec => ?_) (by omega)
  · have b1 := ho j (by omega)
    have b2 := ho' j (by omega)
    unfold fX0_playersUnlike_B4
    simp (disch := omega) only [h0, J_le, chk_J, J_nat, Int.toNat_natCast, h1 j (by omega), h2 j (by omega), J_eq, J_suc]
    rw [if_neg (by omega), show ub o o' (j + 1) = if o j = o' j then ub o o' j else ub o o' j ||| (1 <<< (J (j : Int) &&& 31)) from rfl]
    split <;> rfl
  · unfold fX0_playersUnlike_B4
    simp (disch := omega) only [h0, J_le]
    rw [if_pos (by omega)]
set_option maxHeartbeats 2000000 in
theorem L_22 (k L : Nat) (hk : 100 < k) (xs : Nat → Int32) (hL : L ≤ 2560) : OP L (fL_22 k L xs) := by
  intro rec z c st bd i0 i1 b0 b1 t5 t6 t7 h8 t9 s10 r11 m hz hzL hR
  unfold fL_22
  simp only [rd hz hzL hL]
  generalize xs (J z + 1).toNatClampNeg = x1
  generalize xs (J z + 2).toNatClampNeg = x2
  generalize xs (J z + 3).toNatClampNeg = x3
  obtain ⟨X, hX, rfl⟩ := J_ex x1
  obtain ⟨Y, hY, rfl⟩ := J_ex x2
  obtain ⟨Z, hZ, rfl⟩ := J_ex x3
  obtain ⟨⟨a, hM, hS, hB, hs, hb⟩, hTx, hRf, hI⟩ := hR
  obtain ⟨n54, n55, n20, n21, n22, n18, hp⟩ := id hs
  obtain ⟨n56, n57, n23, hP, hQ⟩ := id hb
  have oB := ofa_b hP
  by_cases qq : (0 ≤ X ∧ X ≤ a 56 - 1) ∧ (-99 ≤ Y ∧ Y ≤ 99) ∧ (0 ≤ Z ∧ Z ≤ 20)
  · obtain ⟨q1, q2, q3⟩ := qq
    obtain ⟨p, rfl⟩ : ∃ p : Nat, X = p := ⟨X.toNat, by omega⟩
    obtain ⟨r, rfl⟩ : ∃ p : Nat, Z = p := ⟨Z.toNat, by omega⟩
    obtain ⟨d1, e1, hB1⟩ := c_like0 k (t := t6) hB hb
    obtain ⟨d2, e2, hB2⟩ := c_like0 k (t := t7) hB hb
    obtain ⟨f1, e3, g1⟩ := m_takeOffsets k hk hM n56 (m.2 10)
    obtain ⟨f2, e4, g2⟩ := m_takeOffsets k hk (m := (m.1, va_up m.2 10 f1)) hM n56 (m.2 12)
    have op := oB p (by omega)
    have ch := c_held k (v := ofa a p + Y) (by unfold ofa at *; omega)
    have mh := m_hold k (v := ofa a p + Y) (by unfold ofa at *; omega)
    have hb4 := (hB.2.1 p (by omega)).2.2.2.1
    have hz := hld_b (ofa a p + Y)
    have o0 : OB a (zup (ofa a) p (hld (ofa a p + Y))) := fun q hq => by
      by_cases e : q = p
      · subst e
        rw [zup_same]
        exact hz
      · rw [zup_ne e]
        exact oB q hq
    have l1 : ∃ t6' t7', fX6_slip k c st bd t6 t7 (J p) (J Y) (J r) = some (ub (rnn a (ofa a) r) (rnn a (zup (ofa a) p (hld (ofa a p + Y))) r) (a 56).toNat, c, t6', t7') := by
      unfold fX6_slip
      rw [c_hasPlayer k hB hb hX, cw_m99_99 k hY, cw_0_20 k hZ]
      simp only [Option.bind_some, b_ite, q1, q2, q3, and_self, if_true, e1, e2]
      simp (disch := omega) only [chk_J, J_nat, Int.toNat_natCast, hb4, J_add]
      rw [show a (24 + 5 * p + 3) + Y = ofa a p + Y from rfl, ch]
      simp only [Option.bind_some]
      refine lp_for (fun (j : Nat) (v : Int32 × Dat × Dat) => v.1 = J j ∧ AB (d1.1, va_up (va_up (va_up (va_up (va_up (va_up (va_up t6.2 1 (d1.2 1)) 2 (d1.2 2)) 3 (d1.2 3)) 5 (d1.2 5)) 9 (d1.2 9)) 4 (v.2.1.2 4)) 6 (v.2.1.2 6)) a (rnn a (ofa a) j) ∧ AB (d2.1, va_up (va_up (va_up (va_up (va_up (va_up (va_up t7.2 1 (d2.2 1)) 2 (d2.2 2)) 3 (d2.2 3)) 5 (d2.2 5)) 9 (d2.2 9)) 4 (v.2.2.2 4)) 6 (v.2.2.2 6)) a (rnn a (zup (ofa a) p (hld (ofa a p + Y))) j)) r (fun (u : Option (Int32 × Dat × Dat × Dat)) => ∃ t6' t7', u = some (ub (rnn a (ofa a) r) (rnn a (zup (ofa a) p (hld (ofa a p + Y))) r) (a 56).toNat, c, t6', t7')) ?_ ?_ ⟨rfl, BB_AB hB1, ?_⟩ (by omega)
      · intro j v hj ⟨hv, hA, hA2⟩
        obtain ⟨i, w, w'⟩ := v
        have hv' : i = J j := hv
        subst hv'
        obtain ⟨u1, e5, g5⟩ := c_advance k hk (bd := (d1.1, va_up (va_up (va_up (va_up (va_up (va_up (va_up (va_up t6.2 1 (d1.2 1)) 2 (d1.2 2)) 3 (d1.2 3)) 4 (d1.2 4)) 5 (d1.2 5)) 9 (d1.2 9)) 4 (w.2 4)) 6 (w.2 6))) hS hs hA (rnn_b oB j) n56 n23 hP
        obtain ⟨u2, e6, g6⟩ := c_advance k hk (bd := (d2.1, va_up (va_up (va_up (va_up (va_up (va_up (va_up (va_up t7.2 1 (d2.2 1)) 2 (d2.2 2)) 3 (d2.2 3)) 4 (upd (d2.2 4) p (J (hld (ofa a p + Y))))) 5 (d2.2 5)) 9 (d2.2 9)) 4 (w'.2 4)) 6 (w'.2 6))) hS hs hA2 (rnn_b o0 j) n56 n23 hP
        have hq : (J (r : Int) ≤ J j) = False := by rw [J_le (by omega)]; exact eq_false (by omega)
        left
        apply Exists.intro
        refine ⟨fun rec => ?_, ?_, ?_, ?_⟩
        · unfold fX6_slip_B84
          simp only [hq, if_false, e5, e6, Option.bind_some, J_suc]
          all_goals exact rfl
        · rfl
        · exact ⟨hA.1, hA.2.1, fun p hp => ⟨(hA.2.2 p hp).1, g5 p hp, (hA.2.2 p hp).2.2⟩⟩
        · exact ⟨hA2.1, hA2.2.1, fun p hp => ⟨(hA2.2.2 p hp).1, g6 p hp, (hA2.2.2 p hp).2.2⟩⟩
      · intro v ⟨hv, hA, hA2⟩ rec
        obtain ⟨i, w, w'⟩ := v
        have hv' : i = J r := hv
        subst hv'
        have hq : (J (r : Int) ≤ J r) = True := by rw [J_le (by omega)]; exact eq_true (by omega)
        unfold fX6_slip_B84
        simp only [hq, if_true]
        have PU : ∀ d d' : Dat, d.1 0 = J (a 56) → (∀ p : Nat, (p : Int) < a 56 → d.2 4 p = J (rnn a (ofa a) r p)) → (∀ q : Nat, (q : Int) < a 56 → d'.2 4 q = J (rnn a (zup (ofa a) p (hld (ofa a p + Y))) r q)) → fX0_playersUnlike k d d' = some (ub (rnn a (ofa a) r) (rnn a (zup (ofa a) p (hld (ofa a p + Y))) r) (a 56).toNat) := fun d d' h1 h2 h3 => c_playersUnlike k hk h1 n56 h2 h3 (rnn_b oB r) (rnn_b o0 r)
        rw [PU]
        · exact ⟨_, _, rfl⟩
        · exact hA.1
        · exact fun p hp => (hA.2.2 p hp).2.1
        · exact fun p hp => (hA2.2.2 p hp).2.1
      · refine ⟨hB2.1.1, hB2.1.2.1, fun q hq => ⟨(hB2.2.1 q hq).2.1, ?_, (hB2.2.1 q hq).2.2.2.2⟩⟩
        show upd (d2.2 4) p (J (hld (ofa a p + Y))) q = J (zup (ofa a) p (hld (ofa a p + Y)) q)
        by_cases e : q = p
        · subst e
          rw [upd_same, zup_same]
        · rw [upd_ne e, zup_ne e]
          exact (hB2.2.1 q hq).2.2.2.1
    have l2 : ∃ m', fX7_slip k m (J p) (J Y) (J r) = some (ub (rnn a (ofa a) r) (rnn a (zup (ofa a) p (hld (ofa a p + Y))) r) (a 56).toNat, m.1, m') ∧ m' 3 = m.2 3 := by
      unfold fX7_slip
      rw [m_isPlayer k hM hb hX, mi_m99_99 k hY, mi_0_20 k hZ]
      simp only [Option.bind_some, b_ite, q1, q2, q3, and_self, if_true, e3, e4]
      simp (disch := omega) only [chk_J, J_nat, Int.toNat_natCast, g2 p (by omega), J_add]
      rw [show a (24 + 5 * p + 3) + Y = ofa a p + Y from rfl, mh]
      simp only [Option.bind_some]
      refine lp_for (fun (j : Nat) (v : Int32 × Dat) => v.1 = J j ∧ (∀ q : Nat, (q : Int) < a 56 → v.2.2 10 q = J (rnn a (ofa a) j q)) ∧ (∀ q : Nat, (q : Int) < a 56 → v.2.2 12 q = J (rnn a (zup (ofa a) p (hld (ofa a p + Y))) j q))) r (fun (u : Option (Int32 × Dat)) => ∃ m', u = some (ub (rnn a (ofa a) r) (rnn a (zup (ofa a) p (hld (ofa a p + Y))) r) (a 56).toNat, m.1, m') ∧ m' 3 = m.2 3) ?_ ?_ ⟨rfl, g1, ?_⟩ (by omega)
      · intro j v hj ⟨hv, hA, hA2⟩
        obtain ⟨i, w⟩ := v
        have hv' : i = J j := hv
        subst hv'
        replace hA : ∀ q : Nat, (q : Int) < a 56 → w.2 10 q = J (rnn a (ofa a) j q) := hA
        replace hA2 : ∀ q : Nat, (q : Int) < a 56 → w.2 12 q = J (rnn a (zup (ofa a) p (hld (ofa a p + Y))) j q) := hA2
        obtain ⟨m1, f5, e5, g5⟩ := m_makeRound k hk (m := (m.1, va_up (va_up (va_up (va_up (va_up m.2 10 f1) 12 (upd f2 p (J (hld (ofa a p + Y))))) 10 (w.2 10)) 11 (w.2 11)) 12 (w.2 12))) (f := w.2 10) hM hs hA (rnn_b oB j) n56 n23 hP
        obtain ⟨m2, f6, e6, g6⟩ := m_makeRound k hk (m := (m.1, va_up (va_up (va_up (va_up (va_up m.2 10 f1) 12 (upd f2 p (J (hld (ofa a p + Y))))) 10 f5) 11 (m1.2 11)) 12 (w.2 12))) (f := w.2 12) hM hs hA2 (rnn_b o0 j) n56 n23 hP
        have hq : (J (r : Int) ≤ J j) = False := by rw [J_le (by omega)]; exact eq_false (by omega)
        left
        apply Exists.intro
        refine ⟨fun rec => ?_, ?_, ?_, ?_⟩
        · unfold fX7_slip_B77
          simp only [hq, if_false, e5, e6, Option.bind_some, J_suc]
          all_goals exact rfl
        · rfl
        · exact g5
        · exact g6
      · intro v ⟨hv, hA, hA2⟩ rec
        obtain ⟨i, w⟩ := v
        have hv' : i = J r := hv
        subst hv'
        replace hA : ∀ q : Nat, (q : Int) < a 56 → w.2 10 q = J (rnn a (ofa a) r q) := hA
        replace hA2 : ∀ q : Nat, (q : Int) < a 56 → w.2 12 q = J (rnn a (zup (ofa a) p (hld (ofa a p + Y))) r q) := hA2
        have hq : (J (r : Int) ≤ J r) = True := by rw [J_le (by omega)]; exact eq_true (by omega)
        have mp : ∀ m' : Dat, m'.2 0 = Jf a → fX7_players k m' = some (J (a 56)) := fun m' h => m_players k h
        have bo1 := rnn_b oB r
        have bo2 := rnn_b o0 r
        unfold fX7_slip_B77
        simp only [hq, if_true]
        refine lp_for (fun (j : Nat) (v : Int32 × Int32) => v = (ub (rnn a (ofa a) r) (rnn a (zup (ofa a) p (hld (ofa a p + Y))) r) j, J (j : Int))) (a 56).toNat (fun (u : Option (Int32 × Dat)) => ∃ m', u = some (ub (rnn a (ofa a) r) (rnn a (zup (ofa a) p (hld (ofa a p + Y))) r) (a 56).toNat, m.1, m') ∧ m' 3 = m.2 3) ?_ ?_ rfl (by omega)
        · intro j v hj hv
          subst hv
          left
          have b1 := bo1 j (by omega)
          have b2 := bo2 j (by omega)
          have hq2 : (J (a 56) ≤ J j) = False := by rw [J_le (by omega)]; exact eq_false (by omega)
          have v1 := hA j (by omega)
          have v2 := hA2 j (by omega)
          have oz : ∀ x : Int32, x ||| 0 = x := fun x => Int32.or_zero
          refine ⟨(ub (rnn a (ofa a) r) (rnn a (zup (ofa a) p (hld (ofa a p + Y))) r) (j + 1), J ((j + 1 : Nat) : Int)), fun rec => ?_, rfl⟩
          unfold fX7_slip_B115
          rw [mp]
          rotate_left
          · exact hM
          simp (disch := omega) only [Option.bind_some, hq2, if_false, chk_J, J_nat, Int.toNat_natCast, vu_same, vu_ne, v1, v2, J_eq, J_suc, oz]
          rw [show ub (rnn a (ofa a) r) (rnn a (zup (ofa a) p (hld (ofa a p + Y))) r) (j + 1) = if rnn a (ofa a) r j = rnn a (zup (ofa a) p (hld (ofa a p + Y))) r j then ub (rnn a (ofa a) r) (rnn a (zup (ofa a) p (hld (ofa a p + Y))) r) j else ub (rnn a (ofa a) r) (rnn a (zup (ofa a) p (hld (ofa a p + Y))) r) j ||| (1 <<< (J (j : Int) &&& 31)) from rfl]
          split <;> rfl
        · intro v hv rec
          subst hv
          have hq2 : (J (a 56) ≤ J ((a 56).toNat : Nat)) = True := by rw [J_le (by omega)]; exact eq_true (by omega)
          unfold fX7_slip_B115
          rw [mp]
          rotate_left
          · exact hM
          simp only [Option.bind_some, hq2, if_true]
          exact ⟨_, rfl, rfl⟩
      · intro q hq
        show upd f2 p (J (hld (ofa a p + Y))) q = J (zup (ofa a) p (hld (ofa a p + Y)) q)
        by_cases e : q = p
        · subst e
          rw [upd_same, zup_same]
        · rw [upd_ne e, zup_ne e]
          exact g2 q hq
    obtain ⟨t6', t7', l1⟩ := l1
    obtain ⟨m', l2, l3⟩ := l2
    apply fin
    · simp only [l1, l2, l3, Option.bind_some, ↓reduceIte]
      all_goals exact rfl
    · exact rd5 z
    · exact ⟨⟨a, hM, hS, hB, hs, hb⟩, hTx, hRf, hI⟩
  · unfold fX6_slip fX7_slip
    rw [c_hasPlayer k hB hb hX, m_isPlayer k hM hb hX, cw_m99_99 k hY, mi_m99_99 k hY, cw_0_20 k hZ, mi_0_20 k hZ]
    simp only [Option.bind_some, b_ite]
    by_cases q1 : 0 ≤ X ∧ X ≤ a 56 - 1
    · rw [if_pos q1, if_pos q1]
      by_cases q2 : -99 ≤ Y ∧ Y ≤ 99
      · have q3 : ¬ (0 ≤ Z ∧ Z ≤ 20) := fun q3 => qq ⟨q1, q2, q3⟩
        rw [if_pos q2, if_pos q2, if_neg q3, if_neg q3]
        apply fin
        · simp only [c_bad, m_bad, Option.bind_some, ↓reduceIte]
          exact rfl
        · exact rd5 z
        · exact ⟨⟨a, hM, hS, hB, hs, hb⟩, hTx, hRf.bad, hI⟩
      · rw [if_neg q2, if_neg q2]
        apply fin
        · simp only [c_bad, m_bad, Option.bind_some, ↓reduceIte]
          exact rfl
        · exact rd5 z
        · exact ⟨⟨a, hM, hS, hB, hs, hb⟩, hTx, hRf.bad, hI⟩
    · rw [if_neg q1, if_neg q1]
      apply fin
      · simp only [c_bad, m_bad, Option.bind_some, ↓reduceIte]
        exact rfl
      · exact rd5 z
      · exact ⟨⟨a, hM, hS, hB, hs, hb⟩, hTx, hRf.bad, hI⟩
theorem tI {x : Int32} {z : Int} (h : x = J z) (h1 : -2147483648 ≤ z ∧ z < 2147483648) : x.toInt = z := by
  rw [h, toInt_J h1.1 h1.2]
def NO (n i : Nat) : Prop := ∀ q : Nat, q < n → ¬ i = 24 + 5 * q + 3
def toA (f : Nat → Int32) : Nat → Int := fun i => (f i).toInt
theorem Jf_toA (f : Nat → Int32) : f = Jf (toA f) := by
  funext i
  exact (J_toInt (f i)).symm
theorem SS_BB_to {st bd : Dat} {a a' : Nat → Int} {nP : Nat} (hS : SS st a) (hB : AB bd a (fun p => a' (24 + 5 * p + 3))) (hs : WS a) (hb : WB a) (hn : a 56 = nP)
    (hk : ∀ p : Nat, p < nP → bd.2 1 p = J (a (24 + 5 * p)) ∧ bd.2 3 p = J (a (24 + 5 * p + 2)))
    (he : ∀ i : Nat, i < 58 → ¬ i = 57 → NO nP i → a' i = a i) (ho : ∀ p : Nat, p < nP → -500 ≤ a' (24 + 5 * p + 3) ∧ a' (24 + 5 * p + 3) ≤ 500)
    (h57 : 0 ≤ a' 57 ∧ a' 57 ≤ 8) (h8 : bd.1 8 = J (a' 57)) (hp : ∀ r p : Nat, (r : Int) < a' 57 → p < nP → bd.2 9 (6 * r + p) = J (a' (58 + 6 * r + p)) ∧ -500 ≤ a' (58 + 6 * r + p) ∧ a' (58 + 6 * r + p) ≤ 500) :
    SS st a' ∧ BB bd a' ∧ WS a' ∧ WB a' := by
  obtain ⟨n56, n57, n23, hP, hQ⟩ := id hb
  have eS : ∀ i : Nat, (i < 23 ∨ i = 54 ∨ i = 55) → a' i = a i := fun i hi => he i (by omega) (by omega) (fun q hq => by omega)
  have e56 : a' 56 = a 56 := he 56 (by omega) (by omega) (fun q hq => by omega)
  have e23 : a' 23 = a 23 := he 23 (by omega) (by omega) (fun q hq => by omega)
  have e54 : a' 54 = a 54 := eS 54 (by omega)
  have e0 : ∀ p : Nat, p < nP → a' (24 + 5 * p) = a (24 + 5 * p) := fun p hp => he _ (by omega) (by omega) (fun q hq => by omega)
  have e1 : ∀ p : Nat, p < nP → a' (24 + 5 * p + 1) = a (24 + 5 * p + 1) := fun p hp => he _ (by omega) (by omega) (fun q hq => by omega)
  have e2 : ∀ p : Nat, p < nP → a' (24 + 5 * p + 2) = a (24 + 5 * p + 2) := fun p hp => he _ (by omega) (by omega) (fun q hq => by omega)
  have e4 : ∀ p : Nat, p < nP → a' (24 + 5 * p + 4) = a (24 + 5 * p + 4) := fun p hp => he _ (by omega) (by omega) (fun q hq => by omega)
  refine ⟨SS_ext hS hs eS, ⟨⟨by rw [e56]; exact hB.1, by rw [e23]; exact hB.2.1, h8⟩, fun p hp' => ?_, fun r p hr hp' => ?_⟩, WS_ext hs eS, by rw [e56]; exact n56, h57, by rw [e23]; exact n23, fun p hp' => ?_, fun r p hr hp' => ?_⟩
  · rw [e56] at hp'
    have h := hB.2.2 p hp'
    have h2 := hk p (by omega)
    rw [e0 p (by omega), e1 p (by omega), e2 p (by omega), e4 p (by omega)]
    exact ⟨h2.1, h.1, h2.2, h.2.1, h.2.2⟩
  · rw [e56] at hp'
    exact (hp r p hr (by omega)).1
  · rw [e56] at hp'
    have := hP p hp'
    have h3 := ho p (by omega)
    unfold W1 at this ⊢
    rw [e56, e54, e0 p (by omega), e1 p (by omega), e2 p (by omega), e4 p (by omega)]
    omega
  · rw [e56] at hp'
    exact (hp r p hr (by omega)).2
theorem chc_J {α : Type} {n0 n1 : Nat} {s d n : Nat} {E : Option α} (h : s + n ≤ n0 ∧ d + n ≤ n1 ∧ n0 < 1000 ∧ n1 < 1000) : chc n0 n1 (J s) (J d) (J n) E = E := by
  unfold chc
  have z : ∀ x : Nat, x < 2000 → ¬ J (x : Int) < 0 := fun x hx => by
    rw [J_lit, J_lt (by omega)]
    omega
  rw [if_pos ⟨z s (by omega), z d (by omega), z n (by omega), by rw [J_natn (by omega), J_natn (by omega)]; omega, by rw [J_natn (by omega), J_natn (by omega)]; omega⟩]
theorem RT.norm {st bd : Dat} {f : Nat → Int32} (h : RT st bd f) : ∃ a : Nat → Int, f = Jf a ∧ (∀ i : Nat, -2147483648 ≤ a i ∧ a i < 2147483648) ∧ SS st a ∧ BB bd a ∧ WS a ∧ WB a := by
  obtain ⟨a, hM, hS, hB, hs, hb⟩ := h
  obtain ⟨n54, n55, n20, n21, n22, n18, hp⟩ := id hs
  obtain ⟨n56, n57, n23, hP, hQ⟩ := id hb
  have key : ∀ i : Nat, (-2147483648 ≤ a i ∧ a i < 2147483648) → toA f i = a i := fun i hi => by
    rw [hM]
    exact toInt_J hi.1 hi.2
  have eS : ∀ i : Nat, (i < 23 ∨ i = 54 ∨ i = 55) → toA f i = a i := fun i hi => by
    refine key i ?_
    by_cases q : i < 18
    · have := hp i q
      omega
    · have : i = 18 ∨ i = 19 ∨ i = 20 ∨ i = 21 ∨ i = 22 ∨ i = 54 ∨ i = 55 := by omega
      rcases this with h | h | h | h | h | h | h <;> subst h <;> omega
  have e56 := key 56 (by omega)
  have e57 := key 57 (by omega)
  have e23 := key 23 (by omega)
  have e54 := eS 54 (by omega)
  have eP : ∀ p : Nat, (p : Int) < a 56 → toA f (24 + 5 * p) = a (24 + 5 * p) ∧ toA f (24 + 5 * p + 1) = a (24 + 5 * p + 1) ∧ toA f (24 + 5 * p + 2) = a (24 + 5 * p + 2) ∧ toA f (24 + 5 * p + 3) = a (24 + 5 * p + 3) ∧ toA f (24 + 5 * p + 4) = a (24 + 5 * p + 4) := fun p hp => by
    have := hP p hp
    unfold W1 at this
    exact ⟨key _ (by omega), key _ (by omega), key _ (by omega), key _ (by omega), key _ (by omega)⟩
  have eQ : ∀ r p : Nat, (r : Int) < a 57 → (p : Int) < a 56 → toA f (58 + 6 * r + p) = a (58 + 6 * r + p) := fun r p hr hp => by
    have := hQ r p hr hp
    exact key _ (by omega)
  refine ⟨toA f, Jf_toA f, fun i => J_rng (f i), SS_ext hS hs eS, ⟨⟨by rw [e56]; exact hB.1.1, by rw [e23]; exact hB.1.2.1, by rw [e57]; exact hB.1.2.2⟩, fun p hp => ?_, fun r p hr hp => ?_⟩, WS_ext hs eS, by rw [e56]; exact n56, by rw [e57]; exact n57, by rw [e23]; exact n23, fun p hp => ?_, fun r p hr hp => ?_⟩
  · rw [e56] at hp
    obtain ⟨u0, u1, u2, u3, u4⟩ := eP p hp
    rw [u0, u1, u2, u3, u4]
    exact hB.2.1 p hp
  · rw [e56] at hp
    rw [e57] at hr
    rw [eQ r p hr hp]
    exact hB.2.2 r p hr hp
  · rw [e56] at hp
    obtain ⟨u0, u1, u2, u3, u4⟩ := eP p hp
    have := hP p hp
    unfold W1 at this ⊢
    rw [u0, u1, u2, u3, u4, e56, e54]
    exact this
  · rw [e56] at hp
    rw [e57] at hr
    rw [eQ r p hr hp]
    exact hQ r p hr hp
set_option maxHeartbeats 2000000 in
theorem L_20 (k L : Nat) (hk : 100 < k) (xs : Nat → Int32) (hL : L ≤ 2560) : OP L (fL_20 k ) := by
  intro rec z c st bd i0 i1 b0 b1 t5 t6 t7 h8 t9 s10 r11 m hz hzL hR
  unfold fL_20
  obtain ⟨⟨a, hM, hS, hB, hs, hb⟩, hTx, hRf, hI⟩ := hR
  obtain ⟨n54, n55, n20, n21, n22, n18, hp⟩ := id hs
  obtain ⟨n56, n57, n23, hP, hQ⟩ := id hb
  clear n54 n55 n20 n21 n22 n18 hp n56 n57 n23 hP hQ
  obtain ⟨a, hM, hr, hS, hB, hs, hb⟩ := RT.norm ⟨a, hM, hS, hB, hs, hb⟩
  obtain ⟨n56, n57, n23, hP, hQ⟩ := id hb
  obtain ⟨nP, hnP⟩ : ∃ n : Nat, a 56 = n := ⟨(a 56).toNat, by omega⟩
  have c57 : ∀ {α : Type} (E : Option α), chk 106 57 E = E := fun E => by rw [J_lit, chk_J (by omega)]
  have h57 : (m.2 0) (57 : Int32).toNatClampNeg = J (a 57) := by rw [hM]; rfl
  by_cases q : a 57 = 0
  · have e1 : (0 < bd.1 8) = False := by rw [hB.1.2.2, q]; exact eq_false (by decide)
    have e2 : (J (a 57) = 0) = True := by rw [q]; exact eq_true rfl
    unfold fX6_undo fX7_undo
    apply fin
    · simp only [e1, e2, c57, h57, if_true, if_false, c_no, m_no, Option.bind_some, ↓reduceIte]
      all_goals exact rfl
    · exact rd5 z
    · exact ⟨⟨a, hM, hS, hB, hs, hb⟩, hTx, hRf.no, hI⟩
  · obtain ⟨u, hu⟩ : ∃ u : Nat, a 57 = (u : Int) + 1 := ⟨(a 57 - 1).toNat, by omega⟩
    have e1 : (0 < bd.1 8) = True := by
      rw [hB.1.2.2, J_lit, J_lt (by omega)]
      exact eq_true (by omega)
    have l1 : ∃ d : Dat, fX6_undo k c bd = some (1, c, d.1, va_up bd.2 4 (d.2 4)) ∧ d.1 0 = bd.1 0 ∧ d.1 7 = bd.1 7 ∧ d.1 8 = J u ∧ ∀ p : Nat, p < 6 → d.2 4 p = bd.2 9 (6 * u + p) := by
      have s1 : J (a 57) - 1 = J u := by rw [J_lit, J_sub]; congr 1; omega
      have s2 : J (u : Int) * 6 = J ((6 * u : Nat) : Int) := by rw [J_lit, J_mul]; congr 1; omega
      have e1' : (0 < J (a 57)) = True := by rw [← hB.1.2.2]; exact e1
      unfold fX6_undo fX0_recallOffsets
      simp only [hB.1.2.2, e1', if_true, s1, s2]
      rw [show (0 : Int32) = J ((0 : Nat) : Int) from rfl, show (6 : Int32) = J ((6 : Nat) : Int) from rfl]
      rw [chc_J (by omega)]
      refine ⟨_, rfl, rfl, rfl, upd_same bd.1 8 (J u), fun p hp => ?_⟩
      show va_cpy (bd.2 9) (bd.2 4) _ _ _ p = _
      unfold va_cpy
      rw [J_natn (by omega), J_natn (by omega), J_natn (by omega), if_pos (by omega)]
      congr 1
    have l2 : ∃ m' : Dat, fX7_undo k m = some (1, m') ∧ m'.2 0 57 = J u ∧ (∀ p : Nat, p < nP → m'.2 0 (24 + 5 * p + 3) = J (a (58 + 6 * u + p))) ∧ (∀ i : Nat, ¬ i = 57 → NO nP i → m'.2 0 i = J (a i)) ∧ m'.2 3 = m.2 3 := by
      have e2 : (J (a 57) = 0) = False := by
        rw [J_lit, J_eq (by omega)]
        exact eq_false (by omega)
      have s1 : J (a 57) - 1 = J u := by rw [J_lit, J_sub]; congr 1; omega
      have n57' : (57 : Int32).toNatClampNeg = 57 := rfl
      unfold fX7_undo
      have h57' : m.2 0 57 = J (a 57) := h57
      simp only [c57, n57', h57', e2, if_false, s1]
      refine lp_for (fun (j : Nat) (v : Int32 × Dat) => v.1 = J j ∧ v.2.2 0 57 = J u ∧ (∀ p : Nat, p < j → v.2.2 0 (24 + 5 * p + 3) = J (a (58 + 6 * u + p))) ∧ (∀ i : Nat, ¬ i = 57 → NO j i → v.2.2 0 i = J (a i))) nP (fun (o : Option (Int32 × Dat)) => ∃ m' : Dat, o = some (1, m') ∧ m'.2 0 57 = J u ∧ (∀ p : Nat, p < nP → m'.2 0 (24 + 5 * p + 3) = J (a (58 + 6 * u + p))) ∧ (∀ i : Nat, ¬ i = 57 → NO nP i → m'.2 0 i = J (a i)) ∧ m'.2 3 = m.2 3) ?_ ?_ ?_ (show nP < k by omega)
      · intro j v hj ⟨hv, g1, g2, g3⟩
        obtain ⟨i, w⟩ := v
        have hv' : i = J j := hv
        subst hv'
        replace g1 : w.2 0 57 = J u := g1
        replace g2 : ∀ p : Nat, p < j → w.2 0 (24 + 5 * p + 3) = J (a (58 + 6 * u + p)) := g2
        replace g3 : ∀ i : Nat, ¬ i = 57 → NO j i → w.2 0 i = J (a i) := g3
        have w56 : w.2 0 56 = J (nP : Nat) := by rw [g3 56 (by omega) (fun q hq => by omega), hnP]
        have pl : ∀ m' : Dat, m'.2 0 = w.2 0 → fX7_players k m' = some (J (nP : Nat)) := fun m' h => by
          unfold fX7_players
          rw [h, show (56 : Int32).toNatClampNeg = 56 from rfl, w56]
          rfl
        have hq : (J (nP : Int) ≤ J j) = False := by rw [J_le (by omega)]; exact eq_false (by omega)
        have i1 : (58 : Int32) + 6 * J u + J j = J ((58 + 6 * u + j : Nat) : Int) := by
          simp only [J_lit, J_mul, J_add]
          congr 1
        have i2 : (24 : Int32) + 5 * J j + 3 = J ((24 + 5 * j + 3 : Nat) : Int) := by
          simp only [J_lit, J_mul, J_add]
          congr 1
        have r1 := g3 (58 + 6 * u + j) (by omega) (fun q hq => by omega)
        left
        apply Exists.intro
        refine ⟨fun rec => ?_, ?_, ?_, fun p hp => ?_, fun i hi hn => ?_⟩
        · unfold fX7_undo_B28
          rw [pl]
          rotate_left
          · rfl
          simp (disch := omega) only [Option.bind_some, hq, if_false, c57, n57', g1, i1, i2, chk_J, J_nat, Int.toNat_natCast, r1, J_suc]
          all_goals exact rfl
        · rfl
        · show upd (w.2 0) (24 + 5 * j + 3) _ 57 = _
          rw [upd_ne (by omega)]
          exact g1
        · show upd (w.2 0) (24 + 5 * j + 3) _ (24 + 5 * p + 3) = _
          by_cases e : p = j
          · subst e
            exact upd_same _ _ _
          · rw [upd_ne (by omega)]
            exact g2 p (by omega)
        · show upd (w.2 0) (24 + 5 * j + 3) _ i = _
          rw [upd_ne (hn j (by omega))]
          exact g3 i hi (fun q hq => hn q (by omega))
      · intro v ⟨hv, g1, g2, g3⟩ rec
        obtain ⟨i, w⟩ := v
        have hv' : i = J nP := hv
        subst hv'
        replace g3 : ∀ i : Nat, ¬ i = 57 → NO nP i → w.2 0 i = J (a i) := g3
        have w56 : w.2 0 56 = J (nP : Nat) := by rw [g3 56 (by omega) (fun q hq => by omega), hnP]
        have pl : ∀ m' : Dat, m'.2 0 = w.2 0 → fX7_players k m' = some (J (nP : Nat)) := fun m' h => by
          unfold fX7_players
          rw [h, show (56 : Int32).toNatClampNeg = 56 from rfl, w56]
          rfl
        have hq : (J (nP : Int) ≤ J nP) = True := by rw [J_le (by omega)]; exact eq_true (by omega)
        unfold fX7_undo_B28
        rw [pl]
        rotate_left
        · rfl
        simp only [Option.bind_some, hq, if_true]
        exact ⟨_, rfl, g1, g2, g3, rfl⟩
      · refine ⟨rfl, upd_same (m.2 0) 57 (J u), fun p hp => absurd hp (Nat.not_lt_zero p), fun i hi _ => ?_⟩
        show upd (m.2 0) 57 (J u) i = _
        rw [upd_ne hi, hM]
        rfl
    obtain ⟨d, l1, d0, d7, d8, d4⟩ := l1
    obtain ⟨m', l2, f57, f3, fo, f33⟩ := l2
    apply fin
    · simp only [l1, l2, Option.bind_some, ↓reduceIte]
      all_goals exact rfl
    · exact rd5 z
    have hp3 : ∀ p : Nat, p < nP → toA (m'.2 0) (24 + 5 * p + 3) = a (58 + 6 * u + p) := fun p hp => by
      have := hQ u p (by omega) (by omega)
      exact tI (f3 p hp) (by omega)
    have he : ∀ i : Nat, ¬ i = 57 → NO nP i → toA (m'.2 0) i = a i := fun i h1 h2 => tI (fo i h1 h2) (hr i)
    have h57' : toA (m'.2 0) 57 = u := tI f57 (by omega)
    have fin4 := SS_BB_to (bd := (d.1, va_up bd.2 4 (d.2 4))) (a' := toA (m'.2 0)) hS ⟨by rw [d0]; exact hB.1.1, by rw [d7]; exact hB.1.2.1, fun p hp => ⟨(hB.2.1 p hp).2.1, ?_, (hB.2.1 p hp).2.2.2.2⟩⟩ hs hb hnP (fun p hp => ⟨(hB.2.1 p (by omega)).1, (hB.2.1 p (by omega)).2.2.1⟩) (fun i _ h1 h2 => he i h1 h2) (fun p hp => by rw [hp3 p hp]; exact hQ u p (by omega) (by omega)) (by rw [h57']; omega) (by rw [h57']; exact d8) (fun r p hr' hp => ?_)
    · obtain ⟨k1, k2, k3, k4⟩ := fin4
      exact ⟨⟨toA (m'.2 0), Jf_toA _, k1, k2, k3, k4⟩, hTx, by show RR _ _ _ (m'.2 3); rw [f33]; exact hRf, hI⟩
    · show d.2 4 p = J (toA (m'.2 0) (24 + 5 * p + 3))
      rw [d4 p (by omega), hp3 p (by omega)]
      exact hB.2.2 u p (by omega) hp
    · rw [h57'] at hr'
      have e := he (58 + 6 * r + p) (by omega) (fun q hq => by omega)
      rw [e]
      exact ⟨hB.2.2 r p (by omega) (by omega), hQ r p (by omega) (by omega)⟩
def una (a : Nat → Int) : Int := if a 57 = 8 then 8 else a 57 + 1
def psv (a : Nat → Int) (r p : Nat) : Int := if a 57 = 8 then (if r < 7 then a (58 + 6 * (r + 1) + p) else ofa a p) else if (r : Int) < a 57 then a (58 + 6 * r + p) else ofa a p
theorem c_remember (k : Nat) {bd : Dat} {a : Nat → Int} (hB : BB bd a) (hb : WB a) : ∃ d : Dat, fX0_rememberOffsets k bd = some d ∧ d.1 0 = bd.1 0 ∧ d.1 7 = bd.1 7 ∧ d.1 8 = J (una a) ∧ ∀ r p : Nat, (r : Int) < una a → (p : Int) < a 56 → d.2 9 (6 * r + p) = J (psv a r p) := by
  obtain ⟨n56, n57, n23, hP, hQ⟩ := id hb
  obtain ⟨⟨g0, g7, g8⟩, gP, gQ⟩ := hB
  unfold fX0_rememberOffsets una psv
  by_cases q : a 57 = 8
  · have e1 : (J (a 57) < 8) = False := by rw [J_lit, J_lt (by omega)]; exact eq_false (by omega)
    simp only [g8, e1, if_false, if_pos q]
    rw [show (0 : Int32) = J ((0 : Nat) : Int) from rfl, show (6 : Int32) = J ((6 : Nat) : Int) from rfl, show (42 : Int32) = J ((42 : Nat) : Int) from rfl, show (7 * J ((6 : Nat) : Int) : Int32) = J ((42 : Nat) : Int) from by rw [J_lit, J_mul]; rfl]
    rw [chc_J (by omega), chc_J (by omega)]
    refine ⟨_, rfl, rfl, rfl, rfl, fun r p hr hp => ?_⟩
    show va_cpy (bd.2 4) (va_cpy (bd.2 9) (bd.2 9) _ _ _) _ _ _ (6 * r + p) = _
    unfold va_cpy
    rw [J_natn (by omega), J_natn (by omega), J_natn (by omega)]
    by_cases q7 : r < 7
    · rw [if_neg (by omega), if_pos (by omega), if_pos q7]
      have := gQ (r + 1) p (by omega) hp
      have e : 6 + (6 * r + p - 0) = 6 * (r + 1) + p := by omega
      rw [e]
      exact this
    · rw [if_pos (by omega), if_neg q7]
      have e : 0 + (6 * r + p - 42) = p := by omega
      rw [e]
      exact (gP p hp).2.2.2.1
  · obtain ⟨u, hu⟩ : ∃ u : Nat, a 57 = u := ⟨(a 57).toNat, by omega⟩
    have e1 : (J (a 57) < 8) = True := by rw [J_lit, J_lt (by omega)]; exact eq_true (by omega)
    have s2 : J (a 57) * 6 = J ((6 * u : Nat) : Int) := by rw [J_lit, J_mul]; congr 1; omega
    simp only [g8, e1, if_true, if_neg q, s2]
    rw [show (0 : Int32) = J ((0 : Nat) : Int) from rfl, show (6 : Int32) = J ((6 : Nat) : Int) from rfl]
    rw [chc_J (by omega)]
    refine ⟨_, rfl, rfl, rfl, ?_, fun r p hr hp => ?_⟩
    · show J (a 57) + 1 = _
      rw [J_lit, J_add]
    show va_cpy (bd.2 4) (bd.2 9) _ _ _ (6 * r + p) = _
    unfold va_cpy
    rw [J_natn (by omega), J_natn (by omega), J_natn (by omega)]
    by_cases q7 : (r : Int) < a 57
    · rw [if_neg (by omega), if_pos q7]
      exact gQ r p q7 hp
    · have hru : r = u := by omega
      subst hru
      rw [if_pos (by omega), if_neg q7]
      have e : 0 + (6 * r + p - 6 * r) = p := by omega
      rw [e]
      exact (gP p hp).2.2.2.1
theorem r14 (k : Nat) (hk : 100 < k) {d : Dat} {K : Dat → Option (Int32 × Dat)} {Q : Option (Int32 × Dat) → Prop} {X : Dat} {g : Nat → Int32} (hX : X.2 0 = g)
    (hK : ∀ w : Dat, (∀ i : Nat, w.2 0 i = if 58 ≤ i ∧ i < 100 then g (i + 6) else g i) → Q (K w)) : Q (lp (fX7_round_B14 k d K) k (0, X)) := by
  refine lp_for (fun (j : Nat) (v : Int32 × Dat) => v.1 = J j ∧ ∀ i : Nat, v.2.2 0 i = if 58 ≤ i ∧ i < 58 + j then g (i + 6) else g i) 42 Q ?_ ?_ ⟨rfl, fun i => by rw [if_neg (by omega)]; exact congrFun hX i⟩ (by omega)
  · intro j v hj ⟨hv, h1⟩
    obtain ⟨i, w⟩ := v
    have hv' : i = J j := hv
    subst hv'
    replace h1 : ∀ i : Nat, w.2 0 i = if 58 ≤ i ∧ i < 58 + j then g (i + 6) else g i := h1
    have i1 : (64 : Int32) + J j = J ((64 + j : Nat) : Int) := by rw [J_lit, J_add]; rfl
    have i2 : (58 : Int32) + J j = J ((58 + j : Nat) : Int) := by rw [J_lit, J_add]; rfl
    have hq : (42 ≤ J (j : Int)) = False := by rw [J_lit, J_le (by omega)]; exact eq_false (by omega)
    left
    apply Exists.intro
    refine ⟨fun rec => ?_, ?_, fun i => ?_⟩
    · unfold fX7_round_B14
      simp (disch := omega) only [hq, if_false, i1, i2, chk_J, J_nat, Int.toNat_natCast, J_suc]
      all_goals exact rfl
    · rfl
    · show upd (w.2 0) (58 + j) (w.2 0 (64 + j)) i = _
      rw [h1 (64 + j), if_neg (by omega)]
      by_cases e : i = 58 + j
      · subst e
        rw [upd_same, if_pos (by omega)]
        congr 1
        omega
      · rw [upd_ne e, h1 i]
        by_cases q : 58 ≤ i ∧ i < 58 + j
        · rw [if_pos q, if_pos (by omega)]
        · rw [if_neg q, if_neg (by omega)]
  · intro v ⟨hv, h1⟩ rec
    obtain ⟨i, w⟩ := v
    have hv' : i = J ((42 : Nat) : Int) := hv
    subst hv'
    unfold fX7_round_B14
    rw [if_pos (show (42 : Int32) ≤ J ((42 : Nat) : Int) from by decide)]
    exact hK _ h1
theorem r63 (k : Nat) (hk : 100 < k) {d : Dat} {K : Dat → Option (Int32 × Dat)} {Q : Option (Int32 × Dat) → Prop} {X : Dat} {g : Nat → Int32} {u : Nat} (hX : X.2 0 = g) (hg : g 57 = J u) (hu : u < 8)
    (hK : ∀ w : Dat, (∀ i : Nat, w.2 0 i = if 58 + 6 * u ≤ i ∧ i < 58 + 6 * u + 6 then d.2 10 (i - (58 + 6 * u)) else g i) → Q (K w)) : Q (lp (fX7_round_B63 k d K) k (0, X)) := by
  refine lp_for (fun (j : Nat) (v : Int32 × Dat) => v.1 = J j ∧ ∀ i : Nat, v.2.2 0 i = if 58 + 6 * u ≤ i ∧ i < 58 + 6 * u + j then d.2 10 (i - (58 + 6 * u)) else g i) 6 Q ?_ ?_ ⟨rfl, fun i => by rw [if_neg (by omega)]; exact congrFun hX i⟩ (by omega)
  · intro j v hj ⟨hv, h1⟩
    obtain ⟨i, w⟩ := v
    have hv' : i = J j := hv
    subst hv'
    replace h1 : ∀ i : Nat, w.2 0 i = if 58 + 6 * u ≤ i ∧ i < 58 + 6 * u + j then d.2 10 (i - (58 + 6 * u)) else g i := h1
    have h57 : w.2 0 57 = J u := by rw [h1 57, if_neg (by omega)]; exact hg
    have c57 : ∀ {α : Type} (E : Option α), chk 106 57 E = E := fun E => by rw [J_lit, chk_J (by omega)]
    have n57 : (57 : Int32).toNatClampNeg = 57 := rfl
    have i1 : (58 : Int32) + 6 * J u + J j = J ((58 + 6 * u + j : Nat) : Int) := by
      simp only [J_lit, J_mul, J_add]
      congr 1
    have hq : (6 ≤ J (j : Int)) = False := by rw [J_lit, J_le (by omega)]; exact eq_false (by omega)
    left
    apply Exists.intro
    refine ⟨fun rec => ?_, ?_, fun i => ?_⟩
    · unfold fX7_round_B63
      simp (disch := omega) only [hq, if_false, c57, n57, h57, i1, chk_J, J_nat, Int.toNat_natCast, J_suc]
      all_goals exact rfl
    · rfl
    · show upd (w.2 0) (58 + 6 * u + j) (d.2 10 j) i = _
      by_cases e : i = 58 + 6 * u + j
      · subst e
        have ej : 58 + 6 * u + j - (58 + 6 * u) = j := by omega
        rw [upd_same, if_pos (by omega), ej]
      · rw [upd_ne e, h1 i]
        by_cases q : 58 + 6 * u ≤ i ∧ i < 58 + 6 * u + j
        · rw [if_pos q, if_pos (by omega)]
        · rw [if_neg q, if_neg (by omega)]
  · intro v ⟨hv, h1⟩ rec
    obtain ⟨i, w⟩ := v
    have hv' : i = J ((6 : Nat) : Int) := hv
    subst hv'
    unfold fX7_round_B63
    rw [if_pos (show (6 : Int32) ≤ J ((6 : Nat) : Int) from by decide)]
    exact hK _ h1
theorem r123 (k : Nat) (hk : 100 < k) {d : Dat} {K : Dat → Option (Int32 × Dat)} {Q : Option (Int32 × Dat) → Prop} {X : Dat} {g : Nat → Int32} {n : Nat} (hX : X.2 0 = g) (hg : g 56 = J n) (hn : n ≤ 6)
    (hK : ∀ w : Dat, (∀ p : Nat, p < n → w.2 0 (24 + 5 * p + 3) = d.2 10 p) → (∀ i : Nat, NO n i → w.2 0 i = g i) → Q (K w)) : Q (lp (fX7_round_B123 k d K) k (0, X)) := by
  refine lp_for (fun (j : Nat) (v : Int32 × Dat) => v.1 = J j ∧ (∀ p : Nat, p < j → v.2.2 0 (24 + 5 * p + 3) = d.2 10 p) ∧ (∀ i : Nat, NO j i → v.2.2 0 i = g i)) n Q ?_ ?_ ⟨rfl, fun p hp => absurd hp (Nat.not_lt_zero p), fun i _ => congrFun hX i⟩ (by omega)
  · intro j v hj ⟨hv, h1, h2⟩
    obtain ⟨i, w⟩ := v
    have hv' : i = J j := hv
    subst hv'
    replace h1 : ∀ p : Nat, p < j → w.2 0 (24 + 5 * p + 3) = d.2 10 p := h1
    replace h2 : ∀ i : Nat, NO j i → w.2 0 i = g i := h2
    have w56 : w.2 0 56 = J (n : Nat) := by rw [h2 56 (fun q hq => by omega), hg]
    have pl : ∀ m' : Dat, m'.2 0 = w.2 0 → fX7_players k m' = some (J (n : Nat)) := fun m' h => by
      unfold fX7_players
      rw [h, show (56 : Int32).toNatClampNeg = 56 from rfl, w56]
      rfl
    have hq : (J (n : Int) ≤ J j) = False := by rw [J_le (by omega)]; exact eq_false (by omega)
    have i2 : (24 : Int32) + 5 * J j + 3 = J ((24 + 5 * j + 3 : Nat) : Int) := by
      simp only [J_lit, J_mul, J_add]
      congr 1
    left
    apply Exists.intro
    refine ⟨fun rec => ?_, ?_, fun p hp => ?_, fun i hi => ?_⟩
    · unfold fX7_round_B123
      rw [pl]
      rotate_left
      · rfl
      simp (disch := omega) only [Option.bind_some, hq, if_false, i2, chk_J, J_nat, Int.toNat_natCast, J_suc]
      all_goals exact rfl
    · rfl
    · show upd (w.2 0) (24 + 5 * j + 3) (d.2 10 j) (24 + 5 * p + 3) = _
      by_cases e : p = j
      · subst e
        exact upd_same _ _ _
      · rw [upd_ne (by omega)]
        exact h1 p (by omega)
    · show upd (w.2 0) (24 + 5 * j + 3) (d.2 10 j) i = _
      rw [upd_ne (hi j (by omega))]
      exact h2 i (fun q hq => hi q (by omega))
  · intro v ⟨hv, h1, h2⟩ rec
    obtain ⟨i, w⟩ := v
    have hv' : i = J n := hv
    subst hv'
    replace h2 : ∀ i : Nat, NO n i → w.2 0 i = g i := h2
    have w56 : w.2 0 56 = J (n : Nat) := by rw [h2 56 (fun q hq => by omega), hg]
    have pl : ∀ m' : Dat, m'.2 0 = w.2 0 → fX7_players k m' = some (J (n : Nat)) := fun m' h => by
      unfold fX7_players
      rw [h, show (56 : Int32).toNatClampNeg = 56 from rfl, w56]
      rfl
    have hq : (J (n : Int) ≤ J n) = True := by rw [J_le (by omega)]; exact eq_true (by omega)
    unfold fX7_round_B123
    rw [pl]
    rotate_left
    · rfl
    simp only [Option.bind_some, hq, if_true]
    exact hK _ h1 h2
def RF (a : Nat → Int) (nP : Nat) (f : Nat → Int32) : Prop :=
  f 57 = J (una a) ∧ (∀ i : Nat, i < 57 → NO nP i → f i = J (a i)) ∧ (∀ p : Nat, p < nP → f (24 + 5 * p + 3) = J (rn a (ofa a) p)) ∧ (∀ r p : Nat, (r : Int) < una a → p < nP → f (58 + 6 * r + p) = J (psv a r p))
theorem rn_ext {a a' o : Nat → Int} (e : ∀ i : Nat, i < 57 → a' i = a i) {p : Nat} (hp : p < 6) (hw : wat a p < 6) (hl : lis a p < 6) (hw2 : wat a (lis a p) < 6) : rn a' o p = rn a o p := by
  have e1 : lis a' p = lis a p := by unfold lis; rw [e _ (by omega)]
  have e2 : wat a' p = wat a p := by unfold wat; rw [e _ (by omega)]
  have e3 : wat a' (lis a p) = wat a (lis a p) := by unfold wat; rw [e _ (by omega)]
  have e4 : tkw a' p (lis a p) = tkw a p (lis a p) := by
    unfold tkw pcs
    rw [e2, e3, e _ (by omega), e (2 * wat a (lis a p)) (by omega), e (2 * wat a p + 1) (by omega), e (2 * wat a (lis a p) + 1) (by omega), e 20 (by omega)]
  unfold rn
  rw [e1, e4, e 23 (by omega)]
theorem cgn_ext {a a' o : Nat → Int} {n : Nat} (h : ∀ p : Nat, p < n → rn a' o p = rn a o p) : cgn a' o n = cgn a o n := by
  induction n with
  | zero => rfl
  | succ n ih =>
    unfold cgn
    rw [h n (by omega), ih (fun p hp => h p (by omega))]
theorem m_rest (k : Nat) (hk : 100 < k) {m : Dat} {a o : Nat → Int} {g : Nat → Int32} {f : Nat → Int32} (hs : WS a) (hb : WB a) (ho : OB a o) (hM : m.2 0 = g) (hg : ∀ i : Nat, i < 57 → g i = J (a i)) (hr : ∀ i : Nat, -2147483648 ≤ a i ∧ a i < 2147483648) (hf : ∀ p : Nat, (p : Int) < a 56 → f p = J (o p)) :
    ∃ (m' : Dat) (f' : Nat → Int32), fX7_makeRound k m 6 f = some (J (cgn a o (a 56).toNat : Nat), m', f') ∧ ∀ p : Nat, (p : Int) < a 56 → f' p = J (rn a o p) := by
  obtain ⟨n56, n57, n23, hP, hQ⟩ := id hb
  have n54 := hs.1
  have e : ∀ i : Nat, i < 57 → toA g i = a i := fun i hi => tI (hg i hi) (hr i)
  have hx : ∀ p : Nat, (p : Int) < a 56 → rn (toA g) o p = rn a o p := fun p hp => by
    obtain ⟨_, wb⟩ := wat_b (hP p hp)
    obtain ⟨_, lb⟩ := lis_b (hP p hp)
    obtain ⟨_, wb2⟩ := wat_b (hP _ lb)
    exact rn_ext e (by omega) (by omega) (by omega) (by omega)
  have e56 := e 56 (by omega)
  have ws : WS (toA g) := WS_ext hs (fun i hi => e i (by omega))
  obtain ⟨m', f', h1, h2⟩ := m_makeRound k hk (a := toA g) (o := o) (f := f) (by rw [hM]; exact Jf_toA g) ws (fun p hp => hf p (by rw [e56] at hp; exact hp)) (fun p hp => ho p (by rw [e56] at hp; exact hp)) (by rw [e56]; exact n56) (by rw [e 23 (by omega)]; exact n23) (fun p hp => by
    rw [e56] at hp
    have := hP p hp
    unfold W1 at this ⊢
    rw [e (24 + 5 * p) (by omega), e (24 + 5 * p + 1) (by omega), e (24 + 5 * p + 2) (by omega), e (24 + 5 * p + 3) (by omega), e (24 + 5 * p + 4) (by omega), e56, e 54 (by omega)]
    exact this)
  refine ⟨m', f', ?_, fun p hp => ?_⟩
  · rw [h1, e56, cgn_ext (fun p hp => hx p (by omega))]
  · rw [h2 p (by rw [e56]; exact hp), hx p hp]
set_option maxHeartbeats 2000000 in
theorem m_round (k : Nat) (hk : 100 < k) {m : Dat} {a : Nat → Int} {nP : Nat} (hM : m.2 0 = Jf a) (hr : ∀ i : Nat, -2147483648 ≤ a i ∧ a i < 2147483648) (hs : WS a) (hb : WB a) (hn : a 56 = nP) :
    ∃ m' : Dat, fX7_round k m = some (J (cgn a (ofa a) (a 56).toNat : Nat), m') ∧ RF a nP (m'.2 0) := by
  obtain ⟨n56, n57, n23, hP, hQ⟩ := id hb
  have oB := ofa_b hP
  have c57 : ∀ {α : Type} (E : Option α), chk 106 57 E = E := fun E => by rw [J_lit, chk_J (by omega)]
  have z57 : (57 : Int32).toNatClampNeg = 57 := rfl
  have h57 : m.2 0 57 = J (a 57) := by rw [hM]; rfl
  unfold fX7_round
  simp only [c57, z57, h57]
  by_cases q : a 57 = 8
  · rw [if_pos (show J (a 57) = 8 from by rw [q]; rfl)]
    have ua : una a = 8 := if_pos q
    refine r14 k hk (Q := fun (o : Option (Int32 × Dat)) => ∃ m' : Dat, o = some (J (cgn a (ofa a) (a 56).toNat : Nat), m') ∧ RF a nP (m'.2 0)) (g := m.2 0) rfl (fun w1 g1 => ?_)
    have gg : ∀ i : Nat, i < 57 → upd (w1.2 0) 57 7 i = J (a i) := fun i hi => by
      rw [upd_ne (by omega), g1 i, if_neg (by omega), hM]
      rfl
    obtain ⟨f1, e1, g2⟩ := m_takeOffsets k hk (m := (m.1, va_up m.2 0 (upd (w1.2 0) 57 7))) (a := toA (upd (w1.2 0) 57 7)) (Jf_toA _) (by rw [show toA (upd (w1.2 0) 57 7) 56 = a 56 from tI (gg 56 (by omega)) (hr 56)]; exact n56) (m.2 10)
    have g2' : ∀ p : Nat, (p : Int) < a 56 → f1 p = J (ofa a p) := fun p hp => by
      have e : toA (upd (w1.2 0) 57 7) 56 = a 56 := tI (gg 56 (by omega)) (hr 56)
      rw [g2 p (by rw [e]; exact hp), show toA (upd (w1.2 0) 57 7) (24 + 5 * p + 3) = a (24 + 5 * p + 3) from tI (gg _ (by omega)) (hr _)]
      rfl
    rw [e1]
    simp only [Option.bind_some]
    refine r63 k hk (Q := fun (o : Option (Int32 × Dat)) => ∃ m' : Dat, o = some (J (cgn a (ofa a) (a 56).toNat : Nat), m') ∧ RF a nP (m'.2 0)) (g := upd (w1.2 0) 57 7) (u := 7) rfl rfl (by omega) (fun w2 g3 => ?_)
    have h57b : w2.2 0 57 = 7 := by rw [g3 57, if_neg (by omega)]; exact upd_same _ _ _
    simp only [h57b]
    have gw : ∀ i : Nat, i < 57 → upd (w2.2 0) 57 (7 + 1) i = J (a i) := fun i hi => by
      rw [upd_ne (by omega), g3 i, if_neg (by omega)]
      exact gg i hi
    obtain ⟨m2, f2, e3, g4⟩ := m_rest k hk (m := (m.1, va_up (va_up m.2 0 (upd (w2.2 0) 57 (7 + 1))) 10 f1)) (o := ofa a) (f := f1) hs hb oB rfl gw hr g2'
    rw [e3]
    simp only [Option.bind_some]
    refine r123 k hk (Q := fun (o : Option (Int32 × Dat)) => ∃ m' : Dat, o = some (J (cgn a (ofa a) (a 56).toNat : Nat), m') ∧ RF a nP (m'.2 0)) (g := upd (w2.2 0) 57 (7 + 1)) (n := nP) rfl (by rw [gw 56 (by omega), hn]) (by omega) (fun w3 g5 g6 => ?_)
    refine ⟨_, rfl, ?_, fun i hi h2 => ?_, fun p hp => ?_, fun r p hr' hp => ?_⟩
    · show w3.2 0 57 = _
      rw [g6 57 (fun q hq => by omega), upd_same, ua]
      rfl
    · show w3.2 0 i = _
      rw [g6 i h2]
      exact gw i hi
    · show w3.2 0 (24 + 5 * p + 3) = _
      rw [g5 p hp]
      exact g4 p (by omega)
    · show w3.2 0 (58 + 6 * r + p) = _
      rw [ua] at hr'
      rw [g6 _ (fun q hq => by omega), upd_ne (by omega), g3 _]
      unfold psv
      rw [if_pos q]
      by_cases q7 : r < 7
      · rw [if_neg (by omega), if_pos q7, upd_ne (by omega), g1 _, if_pos (by omega), hM]
        show J _ = J _
        congr 2
        omega
      · rw [if_pos (by omega), if_neg q7]
        have e : 58 + 6 * r + p - (58 + 6 * 7) = p := by omega
        rw [e]
        exact g2' p (by omega)
  · rw [if_neg (show ¬ J (a 57) = 8 from by rw [J_lit, J_eq (by omega)]; exact q)]
    obtain ⟨u, hu⟩ : ∃ u : Nat, a 57 = u := ⟨(a 57).toNat, by omega⟩
    have ua : una a = u + 1 := by unfold una; rw [if_neg q, hu]
    obtain ⟨f1, e1, g2⟩ := m_takeOffsets k hk hM n56 (m.2 10)
    rw [e1]
    simp only [Option.bind_some]
    refine r63 k hk (Q := fun (o : Option (Int32 × Dat)) => ∃ m' : Dat, o = some (J (cgn a (ofa a) (a 56).toNat : Nat), m') ∧ RF a nP (m'.2 0)) (g := m.2 0) (u := u) rfl (by rw [h57, hu]) (by omega) (fun w2 g3 => ?_)
    have h57b : w2.2 0 57 = J u := by rw [g3 57, if_neg (by omega), h57, hu]
    simp only [h57b, J_suc]
    have gw : ∀ i : Nat, i < 57 → upd (w2.2 0) 57 (J ((u + 1 : Nat) : Int)) i = J (a i) := fun i hi => by
      rw [upd_ne (by omega), g3 i, if_neg (by omega), hM]
      rfl
    obtain ⟨m2, f2, e3, g4⟩ := m_rest k hk (m := (m.1, va_up (va_up m.2 0 (upd (w2.2 0) 57 (J ((u + 1 : Nat) : Int)))) 10 f1)) (o := ofa a) (f := f1) hs hb oB rfl gw hr g2
    rw [e3]
    simp only [Option.bind_some]
    refine r123 k hk (Q := fun (o : Option (Int32 × Dat)) => ∃ m' : Dat, o = some (J (cgn a (ofa a) (a 56).toNat : Nat), m') ∧ RF a nP (m'.2 0)) (g := upd (w2.2 0) 57 (J ((u + 1 : Nat) : Int))) (n := nP) rfl (by rw [gw 56 (by omega), hn]) (by omega) (fun w3 g5 g6 => ?_)
    refine ⟨_, rfl, ?_, fun i hi h2 => ?_, fun p hp => ?_, fun r p hr' hp => ?_⟩
    · show w3.2 0 57 = _
      rw [g6 57 (fun q hq => by omega), upd_same, ua]
      rfl
    · show w3.2 0 i = _
      rw [g6 i h2]
      exact gw i hi
    · show w3.2 0 (24 + 5 * p + 3) = _
      rw [g5 p hp]
      exact g4 p (by omega)
    · show w3.2 0 (58 + 6 * r + p) = _
      rw [ua] at hr'
      rw [g6 _ (fun q hq => by omega), upd_ne (by omega), g3 _]
      unfold psv
      rw [if_neg q]
      by_cases q7 : (r : Int) < a 57
      · rw [if_neg (by omega), if_pos q7, hM]
        rfl
      · rw [if_pos (by omega), if_neg q7]
        have e : 58 + 6 * r + p - (58 + 6 * u) = p := by omega
        rw [e]
        exact g2 p (by omega)
set_option maxHeartbeats 2000000 in
theorem L_19 (k L : Nat) (hk : 100 < k) (xs : Nat → Int32) (hL : L ≤ 2560) : OP L (fL_19 k ) := by
  intro rec z c st bd i0 i1 b0 b1 t5 t6 t7 h8 t9 s10 r11 m hz hzL hR
  unfold fL_19
  obtain ⟨⟨a, hM, hS, hB, hs, hb⟩, hTx, hRf, hI⟩ := hR
  obtain ⟨n54, n55, n20, n21, n22, n18, hp⟩ := id hs
  obtain ⟨n56, n57, n23, hP, hQ⟩ := id hb
  clear n54 n55 n20 n21 n22 n18 hp n56 n57 n23 hP hQ
  obtain ⟨a, hM, hr, hS, hB, hs, hb⟩ := RT.norm ⟨a, hM, hS, hB, hs, hb⟩
  obtain ⟨n56, n57, n23, hP, hQ⟩ := id hb
  obtain ⟨nP, hnP⟩ : ∃ n : Nat, a 56 = n := ⟨(a 56).toNat, by omega⟩
  have oB := ofa_b hP
  obtain ⟨d1, e1, d0, d7, d8, d9⟩ := c_remember k hB hb
  have hA : AB (d1.1, va_up bd.2 9 (d1.2 9)) a (ofa a) := ⟨by rw [d0]; exact hB.1.1, by rw [d7]; exact hB.1.2.1, (BB_AB hB).2.2⟩
  obtain ⟨d2, e2, g2⟩ := c_advance k hk hS hs hA oB n56 n23 hP
  obtain ⟨m', e3, f57, fo, f3, fp⟩ := m_round k hk hM hr hs hb hnP
  unfold fX6_round
  apply fin
  · simp only [e1, e2, e3, Option.bind_some, ↓reduceIte]
    all_goals exact rfl
  · exact rd5 z
  have ub : 0 ≤ una a ∧ una a ≤ 8 := by unfold una; omega
  have h57' : toA (m'.2 0) 57 = una a := tI f57 (by omega)
  have rb := rn_b oB
  have h3 : ∀ p : Nat, p < nP → toA (m'.2 0) (24 + 5 * p + 3) = rn a (ofa a) p := fun p hp => tI (f3 p hp) (by have := rb p (by omega); omega)
  have pb : ∀ r p : Nat, (r : Int) < una a → p < nP → -500 ≤ psv a r p ∧ psv a r p ≤ 500 := fun r p hr' hp => by
    have h1 := oB p (by omega)
    unfold una at hr'
    unfold psv
    by_cases q : a 57 = 8
    · rw [if_pos q]
      rw [if_pos q] at hr'
      by_cases q7 : r < 7
      · rw [if_pos q7]
        exact hQ (r + 1) p (by omega) (by omega)
      · rw [if_neg q7]
        exact h1
    · rw [if_neg q]
      rw [if_neg q] at hr'
      by_cases q7 : (r : Int) < a 57
      · rw [if_pos q7]
        exact hQ r p q7 (by omega)
      · rw [if_neg q7]
        exact h1
  have hps : ∀ r p : Nat, (r : Int) < una a → p < nP → toA (m'.2 0) (58 + 6 * r + p) = psv a r p := fun r p hr' hp => tI (fp r p hr' hp) (by have := pb r p hr' hp; omega)
  have fin4 := SS_BB_to (bd := (d1.1, va_up (va_up (va_up bd.2 4 (d2.2 4)) 6 (d2.2 6)) 9 (d1.2 9))) (a' := toA (m'.2 0)) hS ⟨by rw [d0]; exact hB.1.1, by rw [d7]; exact hB.1.2.1, fun p hp => ⟨(hB.2.1 p hp).2.1, (g2 p hp).trans (congrArg J (h3 p (by omega)).symm), (hB.2.1 p hp).2.2.2.2⟩⟩ hs hb hnP (fun p hp => ⟨(hB.2.1 p (by omega)).1, (hB.2.1 p (by omega)).2.2.1⟩) (fun i h0 h1 h2 => tI (fo i (by omega) h2) (hr i)) (fun p hp => by rw [h3 p hp]; exact rb p (by omega)) (by rw [h57']; exact ub) (by rw [h57']; exact d8) (fun r p hr' hp => by
    rw [h57'] at hr'
    rw [hps r p hr' hp]
    exact ⟨d9 r p hr' (by omega), pb r p hr' hp⟩)
  obtain ⟨k1, k2, k3, k4⟩ := fin4
  exact ⟨⟨toA (m'.2 0), Jf_toA _, k1, k2, k3, k4⟩, hTx, hRf, hI⟩
