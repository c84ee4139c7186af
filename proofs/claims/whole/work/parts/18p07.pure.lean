def tmq (a O : Nat → Int) (q : Nat × Int × Int) : Int := lbz (a (24 + 5 * q.1)) (O q.1) + q.2.1
def tmo (a O : Nat → Int) (L : List (Nat × Int × Int)) (i : Nat) : Int := match L[i]? with
  | some q => tmq a O q
  | none => 0
theorem lbz_mono {x o o' : Int} (h : o ≤ o') : lbz x o ≤ lbz x o' := by
  unfold lbz
  rw [td10, td10]
  omega
theorem mxf_ge {f : Nat → Int} {i n : Nat} (h : i < n) : f i ≤ mxf f n := by
  induction n with
  | zero => omega
  | succ n ih =>
    rw [mxf_s]
    by_cases e : i = n
    · subst e
      split <;> omega
    · have := ih (by omega)
      split <;> omega
theorem mxf_at {f : Nat → Int} (h : ∀ i, -1000000 < f i) {n : Nat} (hn : 0 < n) : ∃ i : Nat, i < n ∧ mxf f n = f i := by
  induction n with
  | zero => omega
  | succ n ih =>
    rw [mxf_s]
    by_cases c : mxf f n < f n
    · rw [if_pos c]
      exact ⟨n, by omega, rfl⟩
    · rw [if_neg c]
      by_cases e : n = 0
      · subst e
        have := h 0
        have : mxf f 0 = -1000000 := rfl
        omega
      · obtain ⟨i, h1, h2⟩ := ih (by omega)
        exact ⟨i, by omega, h2⟩
def OO (f : Nat → Int32) (O : Nat → Int) : Prop := ∀ p : Nat, p < 6 → f p = J (O p) ∧ -500 ≤ O p ∧ O p ≤ 500
def RQ (a : Nat → Int) (n : Int) (O : Nat → Int) (L : List (Nat × Int × Int)) (m : Dat) (o : Option (Int32 × Dat)) : Prop :=
  ∃ (r : Int32) (m' : Dat), o = some (r, m') ∧ m'.1 = m.1 ∧ (∀ t : Nat, ¬ t = 9 → m'.2 t = m.2 t) ∧
    ((r = 0 ∧ OO (m'.2 9) O ∧ ∀ u v : Nat × Int × Int, u ∈ L → v ∈ L → tmq a O u - tmq a O v ≤ n)
    ∨ (r = 1 ∧ ∃ (u w : Nat × Int × Int) (t : Int), u ∈ L ∧ w ∈ L ∧ O u.1 < t ∧ t ≤ 500 ∧ lbz (a (24 + 5 * u.1)) (t - 1) + u.2.1 < tmq a O w - n ∧ OO (m'.2 9) (zup O u.1 t))
    ∨ (r = -1 ∧ ∃ u w : Nat × Int × Int, u ∈ L ∧ w ∈ L ∧ lbz (a (24 + 5 * u.1)) 500 + u.2.1 < tmq a O w - n))
set_option maxHeartbeats 4000000 in
theorem m_raiseAt (k : Nat) (hk : 2000 < k) {m : Dat} {a O : Nat → Int} (hM : m.2 0 = Jf a) (hs : WS a) (hb : WB a) {n : Int} (hn : 0 ≤ n ∧ n ≤ 999) {s e : Nat} (he : (e : Int) < a 55) (hL : HR (m.1 7) (m.2 4) (m.2 5) (m.2 6) (hl a s e (a 56).toNat)) (hO : OO (m.2 9) O) :
    RQ a n O (hl a s e (a 56).toNat) m (fX7_raiseAt k m (J n)) := by
  obtain ⟨n56, n57, n23, hP, hQ⟩ := id hb
  have hlen := hl_len a s e (a 56).toNat
  have hL0 := hL.1
  have at' : ∀ i : Nat, i < (hl a s e (a 56).toNat).length → ∃ q : Nat × Int × Int, (hl a s e (a 56).toNat)[i]? = some q ∧ q ∈ hl a s e (a 56).toNat ∧ m.2 4 i = J q.1 ∧ m.2 5 i = J q.2.1 ∧ q.1 < 6 ∧ (q.1 : Int) < a 56 ∧ (0 ≤ q.2.1 ∧ q.2.1 ≤ 4000) := fun i hi => by
    obtain ⟨q, q0, qm, q1, q2, _⟩ := HR_at hL hi
    obtain ⟨w1, w2, w3, _⟩ := hl_who hs hb he qm
    exact ⟨q, q0, qm, q1, q2, w1, w2, w3⟩
  have wh : ∀ {u : Nat × Int × Int}, u ∈ hl a s e (a 56).toNat → u.1 < 6 ∧ (0 ≤ u.2.1 ∧ u.2.1 ≤ 4000) := fun hu => by
    obtain ⟨w1, w2, w3, _⟩ := hl_who hs hb he hu
    exact ⟨w1, w3⟩
  have tq : ∀ {u : Nat × Int × Int}, u ∈ hl a s e (a 56).toNat → -1000 ≤ tmq a O u ∧ tmq a O u ≤ 5000 := fun {u} hu => by
    obtain ⟨w1, w3⟩ := wh hu
    have h1 := (hO u.1 w1).2
    have h2 := @lbz_b (a (24 + 5 * u.1)) (O u.1) (by omega)
    unfold tmq
    omega
  have tb : ∀ i : Nat, -1000 ≤ tmo a O (hl a s e (a 56).toNat) i ∧ tmo a O (hl a s e (a 56).toNat) i ≤ 5000 := fun i => by
    unfold tmo
    cases h : (hl a s e (a 56).toNat)[i]? with
    | none =>
      show -1000 ≤ (0 : Int) ∧ (0 : Int) ≤ 5000
      decide
    | some q => exact tq (List.mem_of_getElem? h)
  have tt : ∀ {i : Nat} {q : Nat × Int × Int}, (hl a s e (a 56).toNat)[i]? = some q → tmo a O (hl a s e (a 56).toNat) i = tmq a O q := fun {i q} h => by
    unfold tmo
    rw [h]
  have mb := fun j => mxf_b tb j
  have tim : ∀ (i : Nat) (q : Nat × Int × Int), i < (hl a s e (a 56).toNat).length → (hl a s e (a 56).toNat)[i]? = some q → m.2 4 i = J q.1 → q.1 < 6 → (q.1 : Int) < a 56 → (fX7_of k m (J q.1) 0).bind (fun r3 => fX7_lateBy k r3 (m.2 9 q.1)) = some (J (lbz (a (24 + 5 * q.1)) (O q.1))) := fun i q hi h0 h4 w1 w2 => by
    rw [show fX7_of k m (J q.1) 0 = some (J (a (24 + 5 * q.1))) from m_of k hM (p := q.1) (x := 0) w1 (by omega)]
    obtain ⟨k1, _⟩ := hP q.1 w2
    have h1 := hO q.1 w1
    rw [Option.bind_some, h1.1, m_lateBy k k1 (by omega)]
  unfold fX7_raiseAt
  refine lp_for (fun (j : Nat) (v : Int32 × Int32) => v = (J (mxf (tmo a O (hl a s e (a 56).toNat)) j), J (j : Int))) (hl a s e (a 56).toNat).length (RQ a n O (hl a s e (a 56).toNat) m) ?_ ?_ rfl (by omega)
  · intro j v hj hv
    subst hv
    obtain ⟨q, q0, qm, q4, q5, w1, w2, w3⟩ := at' j hj
    have hq : (J ((hl a s e (a 56).toNat).length : Nat) ≤ J (j : Int)) = False := by rw [J_le (by omega)]; exact eq_false (by omega)
    have t1 := tb j
    have m1 := mb j
    have ho : fX7_of k m (J q.1) 0 = some (J (a (24 + 5 * q.1))) := m_of k hM (p := q.1) (x := 0) w1 (by omega)
    obtain ⟨k1, _⟩ := hP q.1 w2
    have h1 := hO q.1 w1
    have hl1 : fX7_lateBy k (J (a (24 + 5 * q.1))) (m.2 9 q.1) = some (J (lbz (a (24 + 5 * q.1)) (O q.1))) := by rw [h1.1, m_lateBy k k1 (by omega)]
    have hc : (J (lbz (a (24 + 5 * q.1)) (O q.1) + q.2.1) ≤ J (mxf (tmo a O (hl a s e (a 56).toNat)) j)) = (tmo a O (hl a s e (a 56).toNat) j ≤ mxf (tmo a O (hl a s e (a 56).toNat)) j) := by
      have e1 : lbz (a (24 + 5 * q.1)) (O q.1) + q.2.1 = tmo a O (hl a s e (a 56).toNat) j := (tt q0).symm
      rw [e1, J_le (by omega)]
    left
    refine ⟨_, fun rec => ?_, rfl⟩
    unfold fX7_raiseAt_B5
    simp (disch := omega) only [hL0, hq, if_false, chk_J, J_nat, Int.toNat_natCast, q4, ho, hl1, Option.bind_some, q5, J_add, hc, J_suc]
    rw [mxf_s]
    by_cases c : tmo a O (hl a s e (a 56).toNat) j ≤ mxf (tmo a O (hl a s e (a 56).toNat)) j
    · rw [if_pos c, if_neg (by omega)]
    · rw [if_neg c, if_pos (by omega), tt q0]
      rfl
  · intro v hv rec
    subst hv
    have hq : (J ((hl a s e (a 56).toNat).length : Nat) ≤ J ((hl a s e (a 56).toNat).length : Nat)) = True := by rw [J_le (by omega)]; exact eq_true (by omega)
    have M1 := mb (hl a s e (a 56).toNat).length
    unfold fX7_raiseAt_B5
    simp only [hL0, hq, if_true]
    refine lp_for (fun (j : Nat) (v : Int32) => v = J (j : Int) ∧ ∀ i : Nat, i < j → mxf (tmo a O (hl a s e (a 56).toNat)) (hl a s e (a 56).toNat).length - n ≤ tmo a O (hl a s e (a 56).toNat) i) (hl a s e (a 56).toNat).length (RQ a n O (hl a s e (a 56).toNat) m) ?_ ?_ ⟨rfl, fun i hi => absurd hi (Nat.not_lt_zero i)⟩ (by omega)
    · intro j v hj ⟨hv, hF⟩
      subst hv
      obtain ⟨q, q0, qm, q4, q5, w1, w2, w3⟩ := at' j hj
      have hq : (J ((hl a s e (a 56).toNat).length : Nat) ≤ J (j : Int)) = False := by rw [J_le (by omega)]; exact eq_false (by omega)
      have t1 := tb j
      have ho : fX7_of k m (J q.1) 0 = some (J (a (24 + 5 * q.1))) := m_of k hM (p := q.1) (x := 0) w1 (by omega)
      obtain ⟨k1, _⟩ := hP q.1 w2
      have h1 := hO q.1 w1
      have hl1 : fX7_lateBy k (J (a (24 + 5 * q.1))) (m.2 9 q.1) = some (J (lbz (a (24 + 5 * q.1)) (O q.1))) := by rw [h1.1, m_lateBy k k1 (by omega)]
      have e1 : lbz (a (24 + 5 * q.1)) (O q.1) + q.2.1 = tmo a O (hl a s e (a 56).toNat) j := (tt q0).symm
      have hc : (J (mxf (tmo a O (hl a s e (a 56).toNat)) (hl a s e (a 56).toNat).length - n) ≤ J (lbz (a (24 + 5 * q.1)) (O q.1) + q.2.1)) = (mxf (tmo a O (hl a s e (a 56).toNat)) (hl a s e (a 56).toNat).length - n ≤ tmo a O (hl a s e (a 56).toNat) j) := by
        rw [e1, J_le (by omega)]
      by_cases c : mxf (tmo a O (hl a s e (a 56).toNat)) (hl a s e (a 56).toNat).length - n ≤ tmo a O (hl a s e (a 56).toNat) j
      · left
        refine ⟨J ((j + 1 : Nat) : Int), fun rec => ?_, rfl, fun i hi => ?_⟩
        · unfold fX7_raiseAt_B68
          simp (disch := omega) only [hL0, hq, if_false, chk_J, J_nat, Int.toNat_natCast, q4, ho, hl1, Option.bind_some, q5, J_add, J_sub, hc, J_suc]
          rw [if_pos c]
        · by_cases ei : i = j
          · rw [ei]
            exact c
          · exact hF i (by omega)
      · right
        intro rec
        obtain ⟨iw, hiw, hmx⟩ := mxf_at (f := tmo a O (hl a s e (a 56).toNat)) (fun i => by have := tb i; omega) (n := (hl a s e (a 56).toNat).length) (by omega)
        obtain ⟨w, wq0, wm, _⟩ := at' iw hiw
        rw [tt wq0] at hmx
        have cneg : ¬ (mxf (tmo a O (hl a s e (a 56).toNat)) (hl a s e (a 56).toNat).length - n ≤ tmq a O q) := by rw [← tt q0]; exact c
        unfold fX7_raiseAt_B68
        simp (disch := omega) only [hL0, hq, if_false, chk_J, J_nat, Int.toNat_natCast, q4, ho, hl1, Option.bind_some, q5, J_add, J_sub, hc]
        rw [if_neg c]
        refine lp_for (fun (i : Nat) (v : Dat) => (∀ p : Nat, p < 6 → v.2 9 p = J (zup O q.1 (O q.1 + i) p)) ∧ (lbz (a (24 + 5 * q.1)) (O q.1 + i - 1) + q.2.1 < tmq a O w - n ∨ i = 0)) (501 - O q.1).toNat (RQ a n O (hl a s e (a 56).toNat) m) ?_ ?_ ⟨fun p hp => ?_, Or.inr rfl⟩ (by have := h1.2; omega)
        · intro i v hi ⟨hv, hlt⟩
          have hv4 := hv q.1 w1
          rw [zup_same] at hv4
          have ti : O q.1 + i ≤ 500 := by omega
          have hM2 : ((m.1, va_up m.2 9 (v.2 9)) : Dat).2 0 = Jf a := hM
          have ho2 : fX7_of k (m.1, va_up m.2 9 (v.2 9)) (J q.1) 0 = some (J (a (24 + 5 * q.1))) := m_of k hM2 (p := q.1) (x := 0) w1 (by omega)
          have h500 : (500 < J (O q.1 + i)) = False := by rw [J_lit, J_lt (by omega)]; exact eq_false (by omega)
          have hl2 : fX7_lateBy k (J (a (24 + 5 * q.1))) (J (O q.1 + i)) = some (J (lbz (a (24 + 5 * q.1)) (O q.1 + i))) := m_lateBy k k1 (by omega)
          have lb := @lbz_b (a (24 + 5 * q.1)) (O q.1 + i) (by omega)
          have hc2 : (J (mxf (tmo a O (hl a s e (a 56).toNat)) (hl a s e (a 56).toNat).length - n) ≤ J (lbz (a (24 + 5 * q.1)) (O q.1 + i) + q.2.1)) = (mxf (tmo a O (hl a s e (a 56).toNat)) (hl a s e (a 56).toNat).length - n ≤ lbz (a (24 + 5 * q.1)) (O q.1 + i) + q.2.1) := by rw [J_le (by omega)]
          by_cases c2 : mxf (tmo a O (hl a s e (a 56).toNat)) (hl a s e (a 56).toNat).length - n ≤ lbz (a (24 + 5 * q.1)) (O q.1 + i) + q.2.1
          · right
            intro rec
            have i0 : ¬ i = 0 := fun h => by
              subst h
              apply cneg
              have : tmq a O q = lbz (a (24 + 5 * q.1)) (O q.1 + ((0 : Nat) : Int)) + q.2.1 := by
                unfold tmq
                congr 2
                omega
              rw [this]
              exact c2
            have hlt' := hlt.resolve_right i0
            have h500' : (J (O q.1 + i) ≤ 500) = True := by rw [J_lit, J_le (by omega)]; exact eq_true (by omega)
            unfold fX7_raiseAt_B114
            simp (disch := omega) only [chk_J, J_nat, Int.toNat_natCast, hv4, h500, if_false, ho2, hl2, Option.bind_some, q5, J_add, J_sub, hc2, vu_same]
            rw [if_pos c2]
            simp (disch := omega) only [chk_J, J_nat, Int.toNat_natCast, hv4, h500', if_true, vu_same]
            refine ⟨_, _, rfl, rfl, fun t ht => ?_, Or.inr (Or.inl ⟨rfl, q, w, O q.1 + i, qm, wm, by omega, ti, hlt', fun p hp => ⟨hv p hp, ?_⟩⟩)⟩
            · show va_up m.2 9 _ t = m.2 t
              exact vu_ne ht
            · by_cases ep : p = q.1
              · subst ep
                rw [zup_same]
                omega
              · rw [zup_ne ep]
                exact (hO p hp).2
          · left
            apply Exists.intro
            refine ⟨fun rec => ?_, fun p hp => ?_, Or.inl ?_⟩
            · unfold fX7_raiseAt_B114
              simp (disch := omega) only [chk_J, J_nat, Int.toNat_natCast, hv4, h500, if_false, ho2, hl2, Option.bind_some, q5, J_add, J_sub, hc2]
              rw [if_neg c2]
            · show upd (v.2 9) q.1 (J (O q.1 + i) + 1) p = J (zup O q.1 (O q.1 + ((i + 1 : Nat) : Int)) p)
              by_cases ep : p = q.1
              · subst ep
                rw [upd_same, zup_same, J_lit, J_add]
                congr 1
                omega
              · rw [upd_ne ep, zup_ne ep]
                have := hv p hp
                rw [zup_ne ep] at this
                exact this
            · have e2 : O q.1 + ((i + 1 : Nat) : Int) - 1 = O q.1 + i := by omega
              rw [e2, ← hmx]
              omega
        · intro v ⟨hv, hlt⟩ rec
          have hv4 := hv q.1 w1
          rw [zup_same, show O q.1 + ((501 - O q.1).toNat : Nat) = 501 from by have := h1.2; omega] at hv4
          have hlt' := hlt.resolve_right (by have := h1.2; omega)
          rw [show O q.1 + ((501 - O q.1).toNat : Nat) - 1 = 500 from by have := h1.2; omega] at hlt'
          unfold fX7_raiseAt_B114
          simp (disch := omega) only [chk_J, J_nat, Int.toNat_natCast, hv4]
          rw [if_pos (show (500 : Int32) < J 501 from by decide)]
          simp (disch := omega) only [chk_J, J_nat, Int.toNat_natCast, hv4, vu_same]
          rw [if_neg (show ¬ J 501 ≤ (500 : Int32) from by decide)]
          refine ⟨_, _, rfl, rfl, fun t ht => ?_, Or.inr (Or.inr ⟨rfl, q, w, qm, wm, hlt'⟩)⟩
          show va_up m.2 9 _ t = m.2 t
          exact vu_ne ht
        · have e2 : O q.1 + ((0 : Nat) : Int) = O q.1 := by omega
          rw [e2]
          by_cases ep : p = q.1
          · subst ep
            rw [zup_same]
            exact h1.1
          · rw [zup_ne ep]
            exact (hO p hp).1
    · intro v ⟨hv, hF⟩ rec
      subst hv
      unfold fX7_raiseAt_B68
      simp only [hL0, hq, if_true]
      refine ⟨_, _, rfl, rfl, fun t ht => rfl, Or.inl ⟨rfl, hO, fun u v hu hv => ?_⟩⟩
      obtain ⟨iu, hu'⟩ := List.getElem?_of_mem hu
      obtain ⟨iv, hv'⟩ := List.getElem?_of_mem hv
      have lu : iu < (hl a s e (a 56).toNat).length := by
        by_cases c : iu < (hl a s e (a 56).toNat).length
        · exact c
        · rw [List.getElem?_eq_none (by omega)] at hu'
          cases hu'
      have lv : iv < (hl a s e (a 56).toNat).length := by
        by_cases c : iv < (hl a s e (a 56).toNat).length
        · exact c
        · rw [List.getElem?_eq_none (by omega)] at hv'
          cases hv'
      have h1 := hF iv lv
      have h2 := mxf_ge (f := tmo a O (hl a s e (a 56).toNat)) lu
      rw [tt hv'] at h1
      rw [tt hu'] at h2
      omega
def OF (a : Nat → Int) (n : Int) (s : Nat) (O : Nat → Int) : Prop :=
  (∀ p : Nat, p < 6 → -500 ≤ O p ∧ O p ≤ 500) ∧ ∀ e : Nat, (e : Int) < a 55 → ∀ u v : Nat × Int × Int, u ∈ hl a s e (a 56).toNat → v ∈ hl a s e (a 56).toNat → tmq a O u - tmq a O v ≤ n
def LI (a : Nat → Int) (n : Int) (s : Nat) (O : Nat → Int) : Prop := ∀ O' : Nat → Int, OF a n s O' → ∀ p : Nat, p < 6 → O p ≤ O' p
def FT (m m' : Dat) : Prop := (∀ i : Nat, ¬ i = 7 → m'.1 i = m.1 i) ∧ (∀ t : Nat, ¬ t = 4 → ¬ t = 5 → ¬ t = 6 → ¬ t = 9 → m'.2 t = m.2 t)
def sh5 (g : Nat → Nat → Int32) (d : Dat) : Dat := (d.1, va_up (va_up (va_up (va_up g 4 (d.2 4)) 5 (d.2 5)) 6 (d.2 6)) 9 (d.2 9))
theorem sh5_o (g : Nat → Nat → Int32) (d : Dat) {t : Nat} (h4 : ¬ t = 4) (h5 : ¬ t = 5) (h6 : ¬ t = 6) (h9 : ¬ t = 9) : (sh5 g d).2 t = g t := by
  show va_up (va_up (va_up (va_up g 4 (d.2 4)) 5 (d.2 5)) 6 (d.2 6)) 9 (d.2 9) t = g t
  rw [vu_ne h9, vu_ne h6, vu_ne h5, vu_ne h4]
theorem FT_sh {m d : Dat} {g : Nat → Nat → Int32} (h : ∀ i : Nat, ¬ i = 7 → d.1 i = m.1 i) (hg : ∀ t : Nat, ¬ t = 4 → ¬ t = 5 → ¬ t = 6 → ¬ t = 9 → g t = m.2 t) : FT m (sh5 g d) := ⟨h, fun t h4 h5 h6 h9 => (sh5_o g d h4 h5 h6 h9).trans (hg t h4 h5 h6 h9)⟩
def sm6 (f : Nat → Int32) : Nat := (500 - (f 0).toInt).toNat + (500 - (f 1).toInt).toNat + (500 - (f 2).toInt).toNat + (500 - (f 3).toInt).toNat + (500 - (f 4).toInt).toNat + (500 - (f 5).toInt).toNat
theorem OO_int {f : Nat → Int32} {O : Nat → Int} (h : OO f O) {p : Nat} (hp : p < 6) : (f p).toInt = O p := by
  have := h p hp
  exact tI this.1 (by omega)
theorem sm6_eq {f : Nat → Int32} {O : Nat → Int} (h : OO f O) : sm6 f = (500 - O 0).toNat + (500 - O 1).toNat + (500 - O 2).toNat + (500 - O 3).toNat + (500 - O 4).toNat + (500 - O 5).toNat := by
  unfold sm6
  rw [OO_int h (p := 0) (by omega), OO_int h (p := 1) (by omega), OO_int h (p := 2) (by omega), OO_int h (p := 3) (by omega), OO_int h (p := 4) (by omega), OO_int h (p := 5) (by omega)]
theorem sm6_lt {f f' : Nat → Int32} {O : Nat → Int} {q : Nat} {t : Int} (hq : q < 6) (h : OO f O) (h' : OO f' (zup O q t)) (ht : O q < t) : sm6 f' < sm6 f := by
  rw [sm6_eq h, sm6_eq h']
  have b := (h' q hq).2
  rw [zup_same] at b
  have : q = 0 ∨ q = 1 ∨ q = 2 ∨ q = 3 ∨ q = 4 ∨ q = 5 := by omega
  rcases this with e | e | e | e | e | e <;> subst e <;> simp (disch := omega) only [zup_same, zup_ne] <;> omega
def EQ (a : Nat → Int) (n : Int) (s : Nat) (m : Dat) (f : Nat → Int32) (w : Int32 × Dat) : Prop :=
  FT m w.2 ∧ ((w.1 = 0 ∧ ∃ O : Nat → Int, OO (w.2.2 9) O ∧ OF a n s O ∧ LI a n s O) ∨ (w.1 = 1 ∧ (∃ O : Nat → Int, OO (w.2.2 9) O ∧ LI a n s O) ∧ sm6 (w.2.2 9) < sm6 f) ∨ (w.1 = -1 ∧ ¬ ∃ O : Nat → Int, OF a n s O))
set_option maxHeartbeats 4000000 in
theorem m_round34 (k : Nat) (hk : 2000 < k) {m X : Dat} {a O : Nat → Int} (hM : m.2 0 = Jf a) {s : Nat} (h8 : m.1 8 = J s) (h64 : s < 64) (hs : WS a) (hb : WB a) {n : Int} (hn : 0 ≤ n ∧ n ≤ 999) (hX : FT m X) (hO : OO (X.2 9) O) (hI : LI a n s O) :
    ∃ w : Int32 × Dat, (∀ K : Int32 × Dat → Option (Int32 × Dat), lp (fX7_canTune_B34 k (J n) X K) k (0, 0, X) = K w) ∧ EQ a n s m (X.2 9) w := by
  have n55 := hs.2.1
  have n56 := hb.1
  refine lp_forKE (B := fun K => fX7_canTune_B34 k (J n) X K) (fun (j : Nat) (v : Int32 × Int32 × Dat) => v.2.1 = J j ∧ FT m v.2.2 ∧ ((v.1 = 0 ∧ OO (v.2.2.2 9) O ∧ ∀ e : Nat, e < j → ∀ u q : Nat × Int × Int, u ∈ hl a s e (a 56).toNat → q ∈ hl a s e (a 56).toNat → tmq a O u - tmq a O q ≤ n) ∨ (v.1 = 1 ∧ (∃ O : Nat → Int, OO (v.2.2.2 9) O ∧ LI a n s O) ∧ sm6 (v.2.2.2 9) < sm6 (X.2 9)) ∨ (v.1 = -1 ∧ ¬ ∃ O : Nat → Int, OF a n s O))) (a 55).toNat _ ?_ ?_ ⟨rfl, hX, Or.inl ⟨rfl, hO, fun e he => absurd he (Nat.not_lt_zero e)⟩⟩ (by omega)
  · intro j v hj ⟨hv, hF, hr⟩
    obtain ⟨r, i, w⟩ := v
    have hv' : i = J j := hv
    subst hv'
    replace hF : FT m w := hF
    have hq : (J (a 55) ≤ J j) = False := by rw [J_le (by omega)]; exact eq_false (by omega)
    have es : ((w.1, va_up (va_up (va_up (va_up X.2 4 (w.2 4)) 5 (w.2 5)) 6 (w.2 6)) 9 (w.2 9)) : Dat) = sh5 X.2 w := rfl
    have hM1 : (sh5 X.2 w).2 0 = Jf a := (hX.2 0 (by omega) (by omega) (by omega) (by omega)).trans hM
    have h81 : (sh5 X.2 w).1 8 = J s := (hF.1 8 (by omega)).trans h8
    have fsh : FT m (sh5 X.2 w) := FT_sh hF.1 hX.2
    rcases hr with ⟨r0, hO1, hp⟩ | ⟨r1, hr⟩ | ⟨r1, hr⟩
    · have r0' : r = 0 := r0
      subst r0'
      replace hO1 : OO (w.2 9) O := hO1
      have hj' : (j : Int) < a 55 := by omega
      obtain ⟨d1, e1, g1, f1⟩ := m_layAll k (by omega) hM1 h81 h64 hs hb hj'
      have hM2 : ((d1.1, va_up (va_up (va_up (va_up X.2 4 (d1.2 4)) 5 (d1.2 5)) 6 (d1.2 6)) 9 (w.2 9)) : Dat).2 0 = Jf a := (hX.2 0 (by omega) (by omega) (by omega) (by omega)).trans hM
      obtain ⟨r, m2, e2, g2, g3, hr⟩ := m_raiseAt k hk (m := (d1.1, va_up (va_up (va_up (va_up X.2 4 (d1.2 4)) 5 (d1.2 5)) 6 (d1.2 6)) 9 (w.2 9))) (s := s) (e := j) hM2 hs hb hn hj' g1 hO1
      have fd : ∀ i : Nat, ¬ i = 7 → d1.1 i = m.1 i := fun i hi => (f1.1 i hi).trans (hF.1 i hi)
      have fin' : FT m (d1.1, va_up (va_up (va_up (va_up X.2 4 (d1.2 4)) 5 (d1.2 5)) 6 (d1.2 6)) 9 (m2.2 9)) := FT_sh (d := (d1.1, fun t => if t = 9 then m2.2 9 else d1.2 t)) fd hX.2
      left
      refine ⟨(r, J ((j + 1 : Nat) : Int), (d1.1, va_up (va_up (va_up (va_up X.2 4 (d1.2 4)) 5 (d1.2 5)) 6 (d1.2 6)) 9 (m2.2 9))), fun K rec => ?_, rfl, fin', ?_⟩
      · unfold fX7_canTune_B34
        simp only [es, m_ears k hM1, Option.bind_some, hq, if_false, if_true, e1, e2, J_suc]
        all_goals exact rfl
      · rcases hr with ⟨r0, h1, h2⟩ | ⟨r1, u, q, t, hu, hqm, ht, t5, hlt, h1⟩ | ⟨r1, u, q, hu, hqm, hlt⟩
        · left
          refine ⟨r0, h1, fun e he u q hu hq' => ?_⟩
          by_cases c : e = j
          · subst c
            exact h2 u q hu hq'
          · exact hp e (by omega) u q hu hq'
        · right
          left
          obtain ⟨uw, _⟩ := hl_who hs hb hj' hu
          obtain ⟨qw, _⟩ := hl_who hs hb hj' hqm
          have eX : sm6 (w.2 9) = sm6 (X.2 9) := by rw [sm6_eq hO, sm6_eq hO1]
          refine ⟨r1, ⟨zup O u.1 t, h1, fun O' hO' p hp' => ?_⟩, ?_⟩
          · by_cases c : p = u.1
            · rw [c, zup_same]
              by_cases c2 : t ≤ O' u.1
              · exact c2
              · exfalso
                have k1 := hO'.2 j hj' q u hqm hu
                have k2 := @lbz_mono (a (24 + 5 * u.1)) (O' u.1) (t - 1) (by omega)
                have k3 := @lbz_mono (a (24 + 5 * q.1)) (O q.1) (O' q.1) (hI O' hO' q.1 qw)
                unfold tmq at k1 hlt
                omega
            · rw [zup_ne c]
              exact hI O' hO' p hp'
          · have := sm6_lt uw hO1 h1 ht
            show sm6 (m2.2 9) < sm6 (X.2 9)
            omega
        · right
          right
          refine ⟨r1, fun ⟨O', hO'⟩ => ?_⟩
          obtain ⟨uw, _⟩ := hl_who hs hb hj' hu
          obtain ⟨qw, _⟩ := hl_who hs hb hj' hqm
          have k1 := hO'.2 j hj' q u hqm hu
          have k2 := @lbz_mono (a (24 + 5 * u.1)) (O' u.1) 500 (hO'.1 u.1 uw).2
          have k3 := @lbz_mono (a (24 + 5 * q.1)) (O q.1) (O' q.1) (hI O' hO' q.1 qw)
          unfold tmq at k1 hlt
          omega
    · have r1' : r = 1 := r1
      subst r1'
      right
      refine ⟨(1, sh5 X.2 w), fun K rec => ?_, fsh, Or.inr (Or.inl ⟨rfl, hr⟩)⟩
      unfold fX7_canTune_B34
      simp only [es, m_ears k hM1, Option.bind_some, hq, if_false, show ((1 : Int32) = 0) = False from by decide]
    · have r1' : r = -1 := r1
      subst r1'
      right
      refine ⟨(-1, sh5 X.2 w), fun K rec => ?_, fsh, Or.inr (Or.inr ⟨rfl, hr⟩)⟩
      unfold fX7_canTune_B34
      simp only [es, m_ears k hM1, Option.bind_some, hq, if_false, show ((-1 : Int32) = 0) = False from by decide]
  · intro v ⟨hv, hF, hr⟩
    obtain ⟨r, i, w⟩ := v
    have hv' : i = J ((a 55).toNat : Nat) := hv
    subst hv'
    replace hF : FT m w := hF
    have hq : (J (a 55) ≤ J ((a 55).toNat : Nat)) = True := by rw [J_le (by omega)]; exact eq_true (by omega)
    have es : ((w.1, va_up (va_up (va_up (va_up X.2 4 (w.2 4)) 5 (w.2 5)) 6 (w.2 6)) 9 (w.2 9)) : Dat) = sh5 X.2 w := rfl
    have hM1 : (sh5 X.2 w).2 0 = Jf a := (hX.2 0 (by omega) (by omega) (by omega) (by omega)).trans hM
    have fsh : FT m (sh5 X.2 w) := FT_sh hF.1 hX.2
    refine ⟨(r, sh5 X.2 w), fun K rec => ?_, fsh, ?_⟩
    · unfold fX7_canTune_B34
      simp only [es, m_ears k hM1, Option.bind_some, hq, if_true]
    · rcases hr with ⟨r0, hO1, hp⟩ | hr | hr
      · left
        exact ⟨r0, O, hO1, ⟨fun p hp' => (hO p hp').2, fun e he u q hu hq' => hp e (by omega) u q hu hq'⟩, hI⟩
      · exact Or.inr (Or.inl hr)
      · exact Or.inr (Or.inr hr)
def CQ (a : Nat → Int) (n : Int) (s : Nat) (m : Dat) (o : Option (Int32 × Dat)) : Prop :=
  ∃ (r : Int32) (m' : Dat), o = some (r, m') ∧ FT m m' ∧ ((r = 1 ∧ ∃ O : Nat → Int, OO (m'.2 9) O ∧ OF a n s O ∧ LI a n s O) ∨ (r = 0 ∧ ¬ ∃ O : Nat → Int, OF a n s O))
set_option maxHeartbeats 4000000 in
theorem m_canTune (k : Nat) (hk : 10000 < k) {m : Dat} {a : Nat → Int} (hM : m.2 0 = Jf a) {s : Nat} (h8 : m.1 8 = J s) (h64 : s < 64) (hs : WS a) (hb : WB a) {n : Int} (hn : 0 ≤ n ∧ n ≤ 999) :
    CQ a n s m (fX7_canTune k m (J n)) := by
  unfold fX7_canTune
  refine lp_for (fun (j : Nat) (v : Int32 × Dat) => v.1 = J j ∧ ∀ p : Nat, p < j → v.2.2 9 p = J (-500)) 6 (CQ a n s m) ?_ ?_ ⟨rfl, fun p hp => absurd hp (Nat.not_lt_zero p)⟩ (by omega)
  · intro j v hj ⟨hv, h1⟩
    obtain ⟨i, w⟩ := v
    have hv' : i = J j := hv
    subst hv'
    replace h1 : ∀ p : Nat, p < j → w.2 9 p = J (-500) := h1
    have hq : (6 ≤ J (j : Int)) = False := by rw [J_lit, J_le (by omega)]; exact eq_false (by omega)
    left
    apply Exists.intro
    refine ⟨fun rec => ?_, ?_, fun p hp => ?_⟩
    · unfold fX7_canTune_B2
      simp (disch := omega) only [hq, if_false, chk_J, J_nat, Int.toNat_natCast, J_suc]
      all_goals exact rfl
    · rfl
    · show upd (w.2 9) j (-500) p = _
      by_cases e : p = j
      · subst e
        rw [upd_same]
        rfl
      · rw [upd_ne e]
        exact h1 p (by omega)
  · intro v ⟨hv, h1⟩ rec
    obtain ⟨i, w⟩ := v
    have hv' : i = J ((6 : Nat) : Int) := hv
    subst hv'
    replace h1 : ∀ p : Nat, p < 6 → w.2 9 p = J (-500) := h1
    unfold fX7_canTune_B2
    rw [if_pos (show (6 : Int32) ≤ J ((6 : Nat) : Int) from by decide)]
    have hO0 : OO (w.2 9) (fun _ => -500) := fun p hp => ⟨h1 p hp, by show (-500 : Int) ≤ -500; decide, by show (-500 : Int) ≤ 500; decide⟩
    refine lp_inv (fun (v : Int32 × Dat) => EQ a n s m (fun _ => J (-600)) v ∨ (v.1 = 1 ∧ FT m v.2 ∧ ∃ O : Nat → Int, OO (v.2.2 9) O ∧ LI a n s O)) (fun v => if v.1 = 1 then 1 + sm6 (v.2.2 9) else 0) (CQ a n s m) ?_ k _ (Or.inr ⟨rfl, ?_, fun _ => -500, hO0, fun O' hO' p hp => (hO'.1 p hp).1⟩) ?_
    · intro v hv rec hrec
      obtain ⟨r, x⟩ := v
      have hx3 : (r = 0 ∧ FT m x ∧ ∃ O : Nat → Int, OO (x.2 9) O ∧ OF a n s O ∧ LI a n s O) ∨ (r = 1 ∧ FT m x ∧ ∃ O : Nat → Int, OO (x.2 9) O ∧ LI a n s O) ∨ (r = -1 ∧ FT m x ∧ ¬ ∃ O : Nat → Int, OF a n s O) := by
        rcases hv with ⟨hF, h | h | h⟩ | h
        · exact Or.inl ⟨h.1, hF, h.2⟩
        · exact Or.inr (Or.inl ⟨h.1, hF, h.2.1⟩)
        · exact Or.inr (Or.inr ⟨h.1, hF, h.2⟩)
        · exact Or.inr (Or.inl h)
      rcases hx3 with ⟨r0, hF, O, g1, g2, g3⟩ | ⟨r1, hF, O, g1, g3⟩ | ⟨r1, hF, hno⟩
      · subst r0
        unfold fX7_canTune_B25
        rw [if_neg (show ¬ (0 : Int32) = 1 from by decide)]
        refine ⟨_, _, rfl, ?_, Or.inl ⟨rfl, O, g1, g2, g3⟩⟩
        exact FT_sh (d := x) hF.1 (fun t _ _ _ _ => rfl)
      · subst r1
        have hX : FT m (x.1, va_up (va_up (va_up (va_up (va_up m.2 9 (va_up m.2 9 (w.2 9) 9)) 4 (x.2 4)) 5 (x.2 5)) 6 (x.2 6)) 9 (x.2 9)) := FT_sh (d := x) (g := va_up m.2 9 (va_up m.2 9 (w.2 9) 9)) hF.1 (fun t h4 h5 h6 h9 => vu_ne h9)
        obtain ⟨w3, e3, hE⟩ := m_round34 k (by omega) (X := (x.1, va_up (va_up (va_up (va_up (va_up m.2 9 (va_up m.2 9 (w.2 9) 9)) 4 (x.2 4)) 5 (x.2 5)) 6 (x.2 6)) 9 (x.2 9))) hM h8 h64 hs hb hn hX g1 g3
        unfold fX7_canTune_B25
        rw [if_pos rfl, e3]
        obtain ⟨r3, x3⟩ := w3
        have hF3 : FT m (x3.1, va_up (va_up (va_up (va_up (va_up m.2 9 (va_up m.2 9 (w.2 9) 9)) 4 (x3.2 4)) 5 (x3.2 5)) 6 (x3.2 6)) 9 (x3.2 9)) := FT_sh (d := x3) (g := va_up m.2 9 (va_up m.2 9 (w.2 9) 9)) hE.1.1 (fun t h4 h5 h6 h9 => vu_ne h9)
        refine hrec _ ?_ ?_
        · rcases hE.2 with h | h | h
          · exact Or.inl ⟨hF3, Or.inl h⟩
          · exact Or.inr ⟨h.1, hF3, h.2.1⟩
          · exact Or.inl ⟨hF3, Or.inr (Or.inr h)⟩
        · show (if r3 = 1 then 1 + sm6 (x3.2 9) else 0) < (if (1 : Int32) = 1 then 1 + sm6 (x.2 9) else 0)
          rw [if_pos rfl]
          rcases hE.2 with ⟨h, _⟩ | ⟨h, _, hlt⟩ | ⟨h, _⟩
          · have h' : r3 = 0 := h
            rw [if_neg (by rw [h']; decide)]
            omega
          · have hlt' : sm6 (x3.2 9) < sm6 (x.2 9) := hlt
            split <;> omega
          · have h' : r3 = -1 := h
            rw [if_neg (by rw [h']; decide)]
            omega
      · subst r1
        unfold fX7_canTune_B25
        rw [if_neg (show ¬ (-1 : Int32) = 1 from by decide)]
        refine ⟨_, _, rfl, ?_, Or.inr ⟨rfl, hno⟩⟩
        exact FT_sh (d := x) hF.1 (fun t _ _ _ _ => rfl)
    · refine ⟨fun i hi => rfl, fun t h4 h5 h6 h9 => ?_⟩
      show va_up m.2 9 _ t = m.2 t
      exact vu_ne h9
    · show (if (1 : Int32) = 1 then 1 + sm6 (va_up m.2 9 (va_up m.2 9 (w.2 9) 9) 9) else 0) < k
      rw [if_pos rfl]
      have : sm6 (w.2 9) ≤ 6000 := by
        rw [sm6_eq hO0]
        decide
      show 1 + sm6 (w.2 9) < k
      omega
def lof (x l : Int) : Int := if x = 1 then l + 20 else if x = 3 then (if 0 < l then l else (if -500 < l - 9 then l - 9 else -500)) else l
theorem lof_lbz {x l : Int} (h : lowz x ≤ l ∧ l ≤ lowz x + 1000) (h10 : x = 3 → l % 10 = 0) : lbz x (lof x l) = l ∧ -500 ≤ lof x l ∧ lof x l ≤ 500 := by
  unfold lowz at h
  unfold lbz lof
  rw [td10]
  by_cases q1 : x = 1
  · subst q1
    simp only [if_true] at h ⊢
    omega
  · by_cases q3 : x = 3
    · have := h10 q3
      subst q3
      simp only [show ((3 : Int) = 1) = False from by decide, if_true, if_false] at h ⊢
      omega
    · simp only [q1, q3, if_false, true_and] at h ⊢
      omega
theorem lof_le {x l o : Int} (h : lowz x ≤ l ∧ l ≤ lowz x + 1000) (h10 : x = 3 → l % 10 = 0) (ho : -500 ≤ o) (hle : l ≤ lbz x o) : lof x l ≤ o := by
  unfold lowz at h
  unfold lbz at hle
  rw [td10] at hle
  unfold lof
  by_cases q1 : x = 1
  · subst q1
    simp only [if_true] at h hle ⊢
    omega
  · by_cases q3 : x = 3
    · have := h10 q3
      subst q3
      simp only [show ((3 : Int) = 1) = False from by decide, if_true, if_false] at h hle ⊢
      omega
    · simp only [q1, q3, if_false] at h hle ⊢
      omega
theorem lbz_S {x o : Int} (h : -500 ≤ o ∧ o ≤ 500) : lowz x ≤ lbz x o ∧ lbz x o ≤ lowz x + 1000 ∧ (x = 3 → lbz x o % 10 = 0) := by
  unfold lowz lbz
  rw [td10]
  by_cases q1 : x = 1
  · subst q1
    simp only [if_true]
    omega
  · by_cases q3 : x = 3
    · subst q3
      simp only [show ((3 : Int) = 1) = False from by decide, if_true, if_false]
      omega
    · simp only [q1, q3, if_false, false_implies, and_true]
      omega
def toL (a O : Nat → Int) (p : Nat) : Int := lbz (a (24 + 5 * p)) (O p)
def toO (a l : Nat → Int) (p : Nat) : Int := if (p : Int) < a 56 then lof (a (24 + 5 * p)) (l p) else -500
theorem OF_LF {a O : Nat → Int} {n : Int} {s : Nat} (hb : WB a) (h : OF a n s O) : LF a n s (toL a O) := by
  have n56 := hb.1
  exact ⟨fun p hp => lbz_S (h.1 p (by omega)), fun e he u v hu hv => h.2 e he u v hu hv⟩
theorem LF_OF {a l : Nat → Int} {n : Int} {s : Nat} (hs : WS a) (hb : WB a) (h : LF a n s l) : OF a n s (toO a l) := by
  have key : ∀ p : Nat, (p : Int) < a 56 → lbz (a (24 + 5 * p)) (toO a l p) = l p := fun p hp => by
    unfold toO
    rw [if_pos hp]
    have := h.1 p hp
    exact (lof_lbz ⟨this.1, this.2.1⟩ this.2.2).1
  refine ⟨fun p hp => ?_, fun e he u v hu hv => ?_⟩
  · unfold toO
    split
    · rename_i hp'
      have := h.1 p hp'
      exact (lof_lbz ⟨this.1, this.2.1⟩ this.2.2).2
    · exact ⟨by decide, by decide⟩
  · obtain ⟨_, u56, _, _⟩ := hl_who hs hb he hu
    obtain ⟨_, v56, _, _⟩ := hl_who hs hb he hv
    have := h.2 e he u v hu hv
    unfold tmq
    rw [key u.1 u56, key v.1 v56]
    exact this
theorem tun_iff {a : Nat → Int} {n : Int} {s : Nat} (hs : WS a) (hb : WB a) : (∃ l, LF a n s l) ↔ ∃ O, OF a n s O := ⟨fun ⟨l, h⟩ => ⟨_, LF_OF hs hb h⟩, fun ⟨O, h⟩ => ⟨_, OF_LF hb h⟩⟩
theorem least_eq {a y O : Nat → Int} {n : Int} {S s : Nat} (hs : WS a) (hb : WB a) (h1 : LF a n s y) (h2 : ∀ l : Nat → Int, LF a n s l → ∀ p : Nat, (p : Int) < a 56 → S.testBit p = true → y p ≤ l p) (h3 : OF a n s O) (h4 : LI a n s O) {p : Nat} (hp : (p : Int) < a 56) (hS : S.testBit p = true) : lof (a (24 + 5 * p)) (y p) = O p := by
  have n56 := hb.1
  have k1 := h4 _ (LF_OF hs hb h1) p (by omega)
  have k2 := h2 _ (OF_LF hb h3) p hp hS
  have k3 := h1.1 p hp
  have k4 := lof_le (x := a (24 + 5 * p)) (l := y p) (o := O p) ⟨k3.1, k3.2.1⟩ k3.2.2 (h3.1 p (by omega)).1 k2
  unfold toO at k1
  rw [if_pos hp] at k1
  omega
theorem c_leastOffset (k : Nat) {d bd : Dat} {a y : Nat → Int} (hB : BB bd a) (hb : WB a) (hy : RLt a (d.2 1) y) {p : Nat} (hp : (p : Int) < a 56) (hr : -600 ≤ y p ∧ y p ≤ 600) : fX5_leastOffset k d bd (J p) = some (J (lof (a (24 + 5 * p)) (y p))) := by
  have n56 := hb.1
  obtain ⟨k1, _⟩ := hb.2.2.2.1 p hp
  have g1 := (hB.2.1 p hp).1
  have y1 := hy p hp
  have e1 : (J (a (24 + 5 * p)) = 1) = (a (24 + 5 * p) = 1) := by rw [J_lit, J_eq (by omega)]
  have e3 : (J (a (24 + 5 * p)) = 3) = (a (24 + 5 * p) = 3) := by rw [J_lit, J_eq (by omega)]
  have e0 : (0 < J (y p)) = (0 < y p) := by rw [J_lit, J_lt (by omega)]
  have e5 : ((-500 : Int32) < J (y p) - 9) = (-500 < y p - 9) := by
    rw [show (-500 : Int32) = J (-500) from rfl, show (9 : Int32) = J 9 from rfl, J_sub, J_lt (by omega)]
  unfold fX5_leastOffset lof
  simp (disch := omega) only [chk_J, J_nat, Int.toNat_natCast, g1, y1, e1, e3, e0, e5]
  by_cases q1 : a (24 + 5 * p) = 1
  · rw [if_pos q1, if_pos q1, J_lit, J_add]
  · rw [if_neg q1, if_neg q1]
    by_cases q3 : a (24 + 5 * p) = 3
    · rw [if_pos q3, if_pos q3]
      by_cases q0 : 0 < y p
      · rw [if_pos q0, if_pos q0]
      · rw [if_neg q0, if_neg q0]
        by_cases q5 : -500 < y p - 9
        · rw [if_pos q5, if_pos q5, J_lit, J_sub]
        · rw [if_neg q5, if_neg q5]
          rfl
    · rw [if_neg q3, if_neg q3]
def ALL (a : Nat → Int) : Nat := 2 ^ (a 56).toNat - 1
theorem all_b {a : Nat → Int} (n56 : 0 ≤ a 56 ∧ a 56 ≤ 6) : ALL a < 64 := by
  unfold ALL
  have : (a 56).toNat = 0 ∨ (a 56).toNat = 1 ∨ (a 56).toNat = 2 ∨ (a 56).toNat = 3 ∨ (a 56).toNat = 4 ∨ (a 56).toNat = 5 ∨ (a 56).toNat = 6 := by omega
  rcases this with h | h | h | h | h | h | h <;> rw [h] <;> decide
theorem all_J {a : Nat → Int} (n56 : 0 ≤ a 56 ∧ a 56 ≤ 6) : (1 : Int32) <<< (J (a 56) &&& 31) - 1 = J (ALL a : Nat) := by
  have h1 : 1 ≤ 2 ^ (a 56).toNat := Nat.one_le_two_pow
  rw [J_z n56.1, shl_J (by omega), J_lit, J_sub]
  congr 1
  unfold ALL
  omega
theorem all_bit (a : Nat → Int) (p : Nat) : (ALL a).testBit p = decide (p < (a 56).toNat) := Nat.testBit_two_pow_sub_one _ _
theorem co_all (a : Nat → Int) : co a (ALL a) 0 := fun p hp => by
  rw [all_bit, decide_eq_true (by omega), Nat.zero_testBit]
  rfl
set_option maxHeartbeats 4000000 in
theorem L_15 (k L : Nat) (hk : 10000 < k) (xs : Nat → Int32) (hL : L ≤ 2560) : OP L (fL_15 k L xs) := by
  intro rec z c st bd i0 i1 b0 b1 t5 t6 t7 h8 t9 s10 r11 m hz hzL hR
  unfold fL_15
  simp only [rd hz hzL hL]
  generalize xs (J z + 1).toNatClampNeg = x1
  generalize xs (J z + 2).toNatClampNeg = x2
  obtain ⟨X, hX, rfl⟩ := J_ex x1
  obtain ⟨Y, hY, rfl⟩ := J_ex x2
  obtain ⟨⟨a, hM, hS, hB, hs, hb⟩, hTx, hRf, hI⟩ := hR
  obtain ⟨n54, n55, n20, n21, n22, n18, hp⟩ := id hs
  obtain ⟨n56, n57, n23, hP, hQ⟩ := id hb
  have hA := all_b n56
  have ev : fX6_everyPlayer k c bd = some (J (ALL a : Nat)) := by
    unfold fX6_everyPlayer
    rw [hB.1.1, all_J n56]
  have jy : (J Y = -1) = (Y = -1) := by rw [show (-1 : Int32) = J (-1) from rfl, J_eq (by omega)]
  unfold fX6_tuned fX7_tuned
  rw [cw_0_999 k hX, m_isParts k hX, c_hasPlayer k hB hb hY, m_isPlayer k hM hb hY]
  simp only [Option.bind_some, b_ite, jy, ev]
  by_cases q1 : 0 ≤ X ∧ X ≤ 999
  · rw [if_pos q1, if_pos q1]
    obtain ⟨w9, w8, e1, g, hR, hC⟩ := c_weigh k (by omega) (d := t9) (h8 := h8) hS hB hs hb q1
    obtain ⟨r, d', e2, hr⟩ := c_tunes k (by omega) (d := (t9.1, va_up t9.2 0 (w9.2 0))) hB hs hb q1 hA (co_all a) hR hC
    obtain ⟨r', m', e3, hF, hr'⟩ := m_canTune k hk (m := (upd m.1 8 0, m.2)) (s := 0) hM rfl (by omega) hs hb q1
    have ti := tun_iff (n := X) (s := 0) hs hb
    have h16 : m'.1 16 = m.1 16 := hF.1 16 (by omega)
    have fX : RX (c.1 13) (m'.1 16) (c.2 12) (m.2 15) := by
      rw [h16]
      exact hTx
    by_cases qy : Y = -1
    · rw [if_pos qy, if_pos qy]
      rcases hr with ⟨r1, y, hy, hl1, hl2⟩ | ⟨r0, hno⟩
      · rcases hr' with ⟨r1', O, hO, ho1, ho2⟩ | ⟨r0', hno'⟩
        · subst r1
          subst r1'
          apply fin
          · simp only [e1, e2, e3, qy, Option.bind_some, show ((1 : Int32) = 0) = False from by decide, if_false, ↓reduceIte]
            all_goals exact rfl
          · exact rd5 z
          · exact ⟨⟨a, hM, hS, hB, hs, hb⟩, fX, hRf, hI⟩
        · exact absurd (ti.mp ⟨y, hl1⟩) hno'
      · rcases hr' with ⟨r1', O, hO, ho1, ho2⟩ | ⟨r0', hno'⟩
        · exact absurd (ti.mpr ⟨O, ho1⟩) hno
        · subst r0
          subst r0'
          apply fin
          · simp only [e1, e2, e3, qy, Option.bind_some, ↓reduceIte]
            all_goals exact rfl
          · exact rd5 z
          · exact ⟨⟨a, hM, hS, hB, hs, hb⟩, fX, hRf, hI⟩
    · rw [if_neg qy, if_neg qy]
      by_cases q2 : 0 ≤ Y ∧ Y ≤ a 56 - 1
      · rw [if_pos q2, if_pos q2]
        obtain ⟨p, rfl⟩ : ∃ p : Nat, Y = p := ⟨Y.toNat, by omega⟩
        rcases hr with ⟨r1, y, hy, hl1, hl2⟩ | ⟨r0, hno⟩
        · rcases hr' with ⟨r1', O, hO, ho1, ho2⟩ | ⟨r0', hno'⟩
          · subst r1
            subst r1'
            have hp56 : (p : Int) < a 56 := by omega
            have le := least_eq (S := ALL a) hs hb hl1 hl2 ho1 ho2 hp56 (by rw [all_bit]; exact decide_eq_true (by omega))
            have yb := hl1.1 p hp56
            have lb := lowz_b (a (24 + 5 * p))
            have lo := c_leastOffset k (d := (t9.1, va_up (va_up t9.2 0 (w9.2 0)) 1 (d'.2 1))) hB hb hy hp56 (by omega)
            have mo := (hO p (by omega)).1
            apply fin
            · simp (disch := omega) only [e1, e2, e3, qy, Option.bind_some, show ((1 : Int32) = 0) = False from by decide, if_false, ↓reduceIte, lo, chk_J, J_nat, Int.toNat_natCast, mo, le]
              all_goals exact rfl
            · exact rd5 z
            · exact ⟨⟨a, hM, hS, hB, hs, hb⟩, fX, hRf, hI⟩
          · exact absurd (ti.mp ⟨y, hl1⟩) hno'
        · rcases hr' with ⟨r1', O, hO, ho1, ho2⟩ | ⟨r0', hno'⟩
          · exact absurd (ti.mpr ⟨O, ho1⟩) hno
          · subst r0
            subst r0'
            apply fin
            · simp only [e1, e2, e3, qy, Option.bind_some, ↓reduceIte]
              all_goals exact rfl
            · exact rd5 z
            · exact ⟨⟨a, hM, hS, hB, hs, hb⟩, fX, hRf, hI⟩
      · rw [if_neg q2, if_neg q2]
        apply fin
        · simp only [c_bad, m_bad, Option.bind_some, ↓reduceIte]
          exact rfl
        · exact rd5 z
        · exact ⟨⟨a, hM, hS, hB, hs, hb⟩, hTx, hRf.bad, hI⟩
  · rw [if_neg q1, if_neg q1]
    apply fin
    · simp only [c_bad, m_bad, Option.bind_some, ↓reduceIte]
      exact rfl
    · exact rd5 z
    · exact ⟨⟨a, hM, hS, hB, hs, hb⟩, hTx, hRf.bad, hI⟩
