theorem m_pl (k : Nat) {m : Dat} {z : Int32} (h : m.2 0 56 = z) : fX7_players k m = some z := by
  unfold fX7_players
  rw [show (56 : Int32).toNatClampNeg = 56 from rfl, h]
  rfl
theorem m_wi (k : Nat) {m : Dat} {z : Int32} (h : m.2 0 54 = z) : fX7_windows k m = some z := by
  unfold fX7_windows
  rw [show (54 : Int32).toNatClampNeg = 54 from rfl, h]
  rfl
theorem m_of1 (k : Nat) {m : Dat} {z : Int32} {p : Nat} (hp : p < 6) (h : m.2 0 (24 + 5 * p + 1) = z) : fX7_of k m (J p) 1 = some z := by
  unfold fX7_of
  have e : (24 : Int32) + 5 * J p + 1 = J ((24 + 5 * p + 1 : Nat) : Int) := by
    simp only [J_lit, J_mul, J_add]
    congr 1
  rw [e, chk_J (by omega), J_natn (by omega), h]
theorem dv_J {L N : Nat} (h : L < 100000) (N0 : 0 < N) (N6 : N ≤ 6) : J (L : Int) / J (N : Int) = J ((L / N : Nat) : Int) := by
  rw [J_div (by omega)]
  rfl
theorem md_J {L N : Nat} : J (L : Int) - J ((L / N : Nat) : Int) * J (N : Int) = J ((L % N : Nat) : Int) := by
  rw [J_mul, J_sub]
  congr 1
  have h := Nat.div_add_mod L N
  rw [Nat.mul_comm] at h
  have h2 := congrArg (fun x : Nat => (x : Int)) h
  simp only [Int.natCast_add, Int.natCast_mul] at h2
  generalize ((L / N : Nat) : Int) * (N : Int) = z at *
  generalize ((L % N : Nat) : Int) = y at *
  omega
def dg (N n j : Nat) (p : Nat) : Int := ((j / N ^ (n - 1 - p) % N : Nat) : Int)
theorem cd_dg {N n j : Nat} (hj : j < N ^ n) : ∀ p : Nat, p ≤ n → cd (N : Int) (dg N n j) p = ((j / N ^ (n - p) : Nat) : Int) := by
  intro p
  induction p with
  | zero =>
    intro _
    rw [Nat.sub_zero, Nat.div_eq_of_lt hj]
    rfl
  | succ p ih =>
    intro hp
    rw [cd_s, ih (by omega)]
    unfold dg
    have e1 : n - 1 - p = n - (p + 1) := by omega
    have e2 : n - p = n - (p + 1) + 1 := by omega
    rw [e1, e2, Nat.pow_succ, ← Nat.div_div_eq_div_mul]
    have h := Nat.div_add_mod (j / N ^ (n - (p + 1))) N
    rw [Nat.mul_comm] at h
    have h2 := congrArg (fun x : Nat => (x : Int)) h
    simp only [Int.natCast_add, Int.natCast_mul] at h2
    exact h2
theorem cd_rng {N : Nat} {A : Nat → Int} : ∀ {p : Nat}, (∀ q : Nat, q < p → 0 ≤ A q ∧ A q < N) → 0 ≤ cd (N : Int) A p ∧ cd (N : Int) A p < ((N ^ p : Nat) : Int) := by
  intro p
  induction p with
  | zero =>
    intro _
    show (0 : Int) ≤ 0 ∧ (0 : Int) < ((N ^ 0 : Nat) : Int)
    rw [Nat.pow_zero]
    decide
  | succ p ih =>
    intro h
    have h1 := ih (fun q hq => h q (by omega))
    have h2 := h p (by omega)
    rw [cd_s, Nat.pow_succ, Int.natCast_mul]
    generalize ((N ^ p : Nat) : Int) = M at *
    generalize cd (N : Int) A p = x at *
    have h3 : 0 ≤ x * (N : Int) := Int.mul_nonneg h1.1 (by omega)
    have h4 : (x + 1) * (N : Int) ≤ M * (N : Int) := Int.mul_le_mul_of_nonneg_right (by omega) (by omega)
    rw [Int.add_mul, Int.one_mul] at h4
    omega
theorem dg_rng {N n j : Nat} (hN : 0 < N) (p : Nat) : 0 ≤ dg N n j p ∧ dg N n j p < N := by
  have := Nat.mod_lt (j / N ^ (n - 1 - p)) hN
  unfold dg
  omega
def NA (a : Nat → Int) (g : Nat → Int32) : Prop := ∀ i : Nat, (∀ p : Nat, (p : Int) < a 56 → ¬ i = 24 + 5 * p + 1) → g i = J (a i)
theorem NA_lo {a : Nat → Int} {g : Nat → Int32} (n56 : 0 ≤ a 56 ∧ a 56 ≤ 6) (h : NA a g) {i : Nat} (hi : i < 24 ∨ 54 ≤ i) : g i = J (a i) := h i (fun p hp => by omega)
theorem NA_atA {a A : Nat → Int} {g : Nat → Int32} (h : NA a g) (h2 : ∀ p : Nat, (p : Int) < a 56 → g (24 + 5 * p + 1) = J (A p)) : g = Jf (atA a A) := by
  funext i
  show g i = J (atA a A i)
  by_cases q : ∃ p : Nat, (p : Int) < a 56 ∧ i = 24 + 5 * p + 1
  · obtain ⟨p, hp, rfl⟩ := q
    rw [atA_at hp, h2 p hp]
  · have hn : ∀ p : Nat, (p : Int) < a 56 → ¬ i = 24 + 5 * p + 1 := fun p hp e => q ⟨p, hp, e⟩
    rw [atA_o hn, h i hn]
def PQ (a : Nat → Int) (N n j : Nat) (m : Dat) (o : Option (Int32 × Dat)) : Prop :=
  ∃ (r : Int32) (m' : Dat), o = some (r, m') ∧ m'.2 0 = Jf (atA a (dg N n j)) ∧ ((r = 1 ∧ Way a (dg N n j)) ∨ (r = 0 ∧ ¬ Way a (dg N n j)))
set_option maxHeartbeats 4000000 in
theorem m_putAll (k : Nat) (hk : 100 < k) {m : Dat} {a : Nat → Int} {N n j : Nat} (hN : a 54 = N) (hn : a 56 = n) (N6 : N ≤ 6) (N0 : 0 < N) (n6 : n ≤ 6) (hj : j < 100000) (hA : NA a (m.2 0)) :
    PQ a N n j m (fX7_putAll k m (J j)) := by
  have n56 : 0 ≤ a 56 ∧ a 56 ≤ 6 := by omega
  have lft : ∀ i : Nat, j / N ^ i < 100000 := fun i => Nat.lt_of_le_of_lt (Nat.div_le_self _ _) hj
  unfold fX7_putAll
  rw [m_pl k (NA_lo n56 hA (by omega)), hn]
  simp only [Option.bind_some]
  rw [show J (n : Int) - 1 = J ((n : Int) - 1 - ((0 : Nat) : Int)) from by rw [J_lit, J_sub]; congr 1; omega]
  refine lp_for (fun (i : Nat) (v : Int32 × Int32 × Int32 × Dat) => v.1 = J ((j / N ^ i : Nat) : Int) ∧ v.2.2.1 = J ((n : Int) - 1 - i) ∧ NA a (v.2.2.2.2 0) ∧ (∀ q : Nat, n - i ≤ q → q < n → v.2.2.2.2 0 (24 + 5 * q + 1) = J (dg N n j q)) ∧ ((v.2.1 = 1 ∧ ∀ p q : Nat, n - i ≤ p → p < q → q < n → ¬ dg N n j p = dg N n j q) ∨ (v.2.1 = 0 ∧ ¬ ∀ p q : Nat, n - i ≤ p → p < q → q < n → ¬ dg N n j p = dg N n j q))) n (PQ a N n j m) ?_ ?_ ⟨by rw [Nat.pow_zero, Nat.div_one], rfl, hA, fun q h1 h2 => by omega, Or.inl ⟨rfl, fun p q h1 h2 h3 => by omega⟩⟩ (by omega)
  · intro i v hi ⟨hv, hv2, hA, hr, hu⟩
    obtain ⟨x, u, y, w⟩ := v
    have hx : x = J ((j / N ^ i : Nat) : Int) := hv
    subst hx
    obtain ⟨p, hp⟩ : ∃ p : Nat, n - 1 - i = p := ⟨_, rfl⟩
    have ep : (n : Int) - 1 - i = p := by omega
    have hy : y = J p := by rw [← ep]; exact hv2
    subst hy
    replace hA : NA a (w.2 0) := hA
    replace hr : ∀ q : Nat, n - i ≤ q → q < n → w.2 0 (24 + 5 * q + 1) = J (dg N n j q) := hr
    replace hu : (u = 1 ∧ ∀ p q : Nat, n - i ≤ p → p < q → q < n → ¬ dg N n j p = dg N n j q) ∨ (u = 0 ∧ ¬ ∀ p q : Nat, n - i ≤ p → p < q → q < n → ¬ dg N n j p = dg N n j q) := hu
    have l1 := lft i
    have hneg : (J (p : Int) < 0) = False := by rw [J_lit, J_lt (by omega)]; exact eq_false (by omega)
    have w54 : w.2 0 54 = J (N : Int) := by rw [NA_lo n56 hA (by omega), hN]
    have e1 : (24 : Int32) + 5 * J p + 1 = J ((24 + 5 * p + 1 : Nat) : Int) := by
      simp only [J_lit, J_mul, J_add]
      congr 1
    have dvN : j / N ^ (i + 1) = j / N ^ i / N := by rw [Nat.pow_succ, Nat.div_div_eq_div_mul]
    have dv : J ((j / N ^ i : Nat) : Int) / J (N : Int) = J ((j / N ^ (i + 1) : Nat) : Int) := by
      rw [dvN]
      exact dv_J l1 N0 N6
    have md : J ((j / N ^ i : Nat) : Int) - J ((j / N ^ (i + 1) : Nat) : Int) * J (N : Int) = J (dg N n j p) := by
      rw [dvN, md_J]
      unfold dg
      rw [show n - 1 - p = i by omega]
    have row54 : ∀ z : Int32, upd (w.2 0) (24 + 5 * p + 1) z 54 = J (N : Int) := fun z => by rw [upd_ne (by omega)]; exact w54
    have row56 : ∀ z : Int32, upd (w.2 0) (24 + 5 * p + 1) z 56 = J (n : Int) := fun z => by rw [upd_ne (by omega), NA_lo n56 hA (by omega), hn]
    have NA' : NA a (upd (w.2 0) (24 + 5 * p + 1) (J (dg N n j p))) := fun q hq => by
      rw [upd_ne (hq p (by omega))]
      exact hA q hq
    have hr' : ∀ q : Nat, p ≤ q → q < n → upd (w.2 0) (24 + 5 * p + 1) (J (dg N n j p)) (24 + 5 * q + 1) = J (dg N n j q) := fun q h1 h2 => by
      by_cases c : q = p
      · rw [c, upd_same]
      · rw [upd_ne (by omega)]
        exact hr q (by omega) h2
    have db := fun q => dg_rng (n := n) (j := j) N0 q
    have inner : ∃ z : Int32, (∀ K : Int32 → Option (Int32 × Dat), lp (fX7_putAll_B50 k (J p) (m.1, va_up m.2 0 (upd (w.2 0) (24 + 5 * p + 1) (J (dg N n j p)))) K) k (u, J ((p + 1 : Nat) : Int)) = K z) ∧ ((z = 1 ∧ u = 1 ∧ ∀ q : Nat, p < q → q < n → ¬ dg N n j p = dg N n j q) ∨ (z = 0 ∧ ¬ (u = 1 ∧ ∀ q : Nat, p < q → q < n → ¬ dg N n j p = dg N n j q))) := by
      refine lp_forK (B := fun K => fX7_putAll_B50 k (J p) (m.1, va_up m.2 0 (upd (w.2 0) (24 + 5 * p + 1) (J (dg N n j p)))) K) (fun (l : Nat) (v : Int32 × Int32) => v.2 = J ((p + 1 + l : Nat) : Int) ∧ ((v.1 = 1 ∧ u = 1 ∧ ∀ q : Nat, p < q → q < p + 1 + l → ¬ dg N n j p = dg N n j q) ∨ (v.1 = 0 ∧ ¬ (u = 1 ∧ ∀ q : Nat, p < q → q < p + 1 + l → ¬ dg N n j p = dg N n j q)))) (n - (p + 1)) _ ?_ ?_ ⟨rfl, ?_⟩ (by omega)
      · intro l v hl ⟨hv, hz⟩
        obtain ⟨z, y⟩ := v
        have hy : y = J ((p + 1 + l : Nat) : Int) := hv
        subst hy
        replace hz : (z = 1 ∧ u = 1 ∧ ∀ q : Nat, p < q → q < p + 1 + l → ¬ dg N n j p = dg N n j q) ∨ (z = 0 ∧ ¬ (u = 1 ∧ ∀ q : Nat, p < q → q < p + 1 + l → ¬ dg N n j p = dg N n j q)) := hz
        have pl := m_pl k (m := (m.1, va_up m.2 0 (upd (w.2 0) (24 + 5 * p + 1) (J (dg N n j p))))) (row56 (J (dg N n j p)))
        have hq : (J (n : Int) ≤ J ((p + 1 + l : Nat) : Int)) = False := by rw [J_le (by omega)]; exact eq_false (by omega)
        have o1 := m_of1 k (m := (m.1, va_up m.2 0 (upd (w.2 0) (24 + 5 * p + 1) (J (dg N n j p))))) (p := p) (by omega) (hr' p (Nat.le_refl p) (by omega))
        have o2 := m_of1 k (m := (m.1, va_up m.2 0 (upd (w.2 0) (24 + 5 * p + 1) (J (dg N n j p))))) (p := p + 1 + l) (by omega) (hr' (p + 1 + l) (by omega) (by omega))
        have d1 := db p
        have d2 := db (p + 1 + l)
        have he : (J (dg N n j p) = J (dg N n j (p + 1 + l))) = (dg N n j p = dg N n j (p + 1 + l)) := by rw [J_eq (by omega)]
        rcases hz with ⟨z1, u1, h1⟩ | ⟨z0, h1⟩
        · subst z1
          by_cases c : dg N n j p = dg N n j (p + 1 + l)
          · refine ⟨(0, J ((p + 1 + l + 1 : Nat) : Int)), fun K rec => ?_, rfl, Or.inr ⟨rfl, fun h => h.2 (p + 1 + l) (by omega) (by omega) c⟩⟩
            unfold fX7_putAll_B50
            simp only [pl, Option.bind_some, hq, if_false, show ((1 : Int32) = 0) = False from by decide, o1, o2, he, J_suc]
            rw [if_pos c]
          · refine ⟨(1, J ((p + 1 + l + 1 : Nat) : Int)), fun K rec => ?_, rfl, Or.inl ⟨rfl, u1, fun q a1 a2 => ?_⟩⟩
            · unfold fX7_putAll_B50
              simp only [pl, Option.bind_some, hq, if_false, show ((1 : Int32) = 0) = False from by decide, o1, o2, he, J_suc]
              rw [if_neg c]
            · by_cases c2 : q = p + 1 + l
              · rw [c2]
                exact c
              · exact h1 q a1 (by omega)
        · subst z0
          refine ⟨(0, J ((p + 1 + l + 1 : Nat) : Int)), fun K rec => ?_, rfl, Or.inr ⟨rfl, fun h => h1 ⟨h.1, fun q a1 a2 => h.2 q a1 (by omega)⟩⟩⟩
          unfold fX7_putAll_B50
          simp only [pl, Option.bind_some, hq, if_false, if_true, J_suc]
      · intro v ⟨hv, hz⟩
        obtain ⟨z, y⟩ := v
        have hy : y = J ((p + 1 + (n - (p + 1)) : Nat) : Int) := hv
        subst hy
        have pl := m_pl k (m := (m.1, va_up m.2 0 (upd (w.2 0) (24 + 5 * p + 1) (J (dg N n j p))))) (row56 (J (dg N n j p)))
        have hq : (J (n : Int) ≤ J ((p + 1 + (n - (p + 1)) : Nat) : Int)) = True := by rw [J_le (by omega)]; exact eq_true (by omega)
        rw [show p + 1 + (n - (p + 1)) = n from by omega] at hz
        refine ⟨z, fun K rec => ?_, hz⟩
        unfold fX7_putAll_B50
        simp only [pl, Option.bind_some, hq, if_true]
      · rcases hu with ⟨u1, _⟩ | ⟨u0, _⟩
        · exact Or.inl ⟨u1, u1, fun q a1 a2 => by omega⟩
        · refine Or.inr ⟨u0, fun h => ?_⟩
          rw [u0] at h
          exact absurd h.1 (by decide)
    obtain ⟨z, ez, hz⟩ := inner
    have wi1 := m_wi k (m := (m.1, va_up m.2 0 (w.2 0))) w54
    have wi2 := m_wi k (m := (m.1, va_up m.2 0 (upd (w.2 0) (24 + 5 * p + 1) (J (dg N n j p))))) (row54 (J (dg N n j p)))
    have epm : J (p : Int) + -1 = J ((n : Int) - 1 - ((i + 1 : Nat) : Int)) := by
      rw [show (-1 : Int32) = J (-1) from rfl, J_add]
      congr 1
      omega
    left
    refine ⟨(J ((j / N ^ (i + 1) : Nat) : Int), z, J ((n : Int) - 1 - ((i + 1 : Nat) : Int)), (m.1, va_up m.2 0 (upd (w.2 0) (24 + 5 * p + 1) (J (dg N n j p))))), fun rec => ?_, rfl, rfl, NA', fun q h1 h2 => hr' q (by omega) h2, ?_⟩
    · unfold fX7_putAll_B12
      simp only [hneg, if_false, wi1, Option.bind_some, e1]
      rw [chz_J (by omega), chk_J (by omega), J_natn (by omega)]
      simp only [dv, md, wi2, Option.bind_some]
      rw [chz_J (by omega), J_suc, ez, epm]
    · have hi' : n - (i + 1) = p := by omega
      rw [hi']
      rcases hz with ⟨z1, u1, h1⟩ | ⟨z0, h1⟩
      · left
        rcases hu with ⟨_, h2⟩ | ⟨u0, _⟩
        · refine ⟨z1, fun p' q a1 a2 a3 => ?_⟩
          by_cases c : p' = p
          · rw [c] at a2 ⊢
            exact h1 q a2 a3
          · exact h2 p' q (by omega) a2 a3
        · rw [u0] at u1
          exact absurd u1 (by decide)
      · right
        refine ⟨z0, fun h => h1 ⟨?_, fun q a1 a2 => h p q (Nat.le_refl p) a1 a2⟩⟩
        rcases hu with ⟨u1, _⟩ | ⟨_, h2⟩
        · exact u1
        · exact absurd (fun p' q a1 a2 a3 => h p' q (by omega) a2 a3) h2
  · intro v ⟨hv, hv2, hA, hr, hu⟩ rec
    obtain ⟨x, u, y, w⟩ := v
    have hy : y = J ((n : Int) - 1 - n) := hv2
    subst hy
    replace hA : NA a (w.2 0) := hA
    replace hr : ∀ q : Nat, n - n ≤ q → q < n → w.2 0 (24 + 5 * q + 1) = J (dg N n j q) := hr
    replace hu : (u = 1 ∧ ∀ p q : Nat, n - n ≤ p → p < q → q < n → ¬ dg N n j p = dg N n j q) ∨ (u = 0 ∧ ¬ ∀ p q : Nat, n - n ≤ p → p < q → q < n → ¬ dg N n j p = dg N n j q) := hu
    have hneg : (J ((n : Int) - 1 - n) < 0) = True := by rw [J_lit, J_lt (by omega)]; exact eq_true (by omega)
    have row := NA_atA (A := dg N n j) hA (fun p hp => hr p (by omega) (by omega))
    unfold fX7_putAll_B12
    simp only [hneg, if_true]
    rcases hu with ⟨u1, h2⟩ | ⟨u0, h2⟩
    · subst u1
      rw [chb_1]
      refine ⟨1, _, rfl, row, Or.inl ⟨rfl, fun p hp => ?_, fun p q a1 a2 => h2 p q (by omega) a2 (by omega)⟩⟩
      have := dg_rng (n := n) (j := j) N0 p
      omega
    · subst u0
      rw [chb_0]
      exact ⟨0, _, rfl, row, Or.inr ⟨rfl, fun h => h2 (fun p q a1 a2 a3 => h.2 p q (by omega) a2)⟩⟩
set_option maxHeartbeats 2000000 in
theorem m_leastLoud (k : Nat) (hk : 100 < k) {m : Dat} {a A : Nat → Int} (hM : m.2 0 = Jf (atA a A)) (hs : WS a) (hb : WB a) (hA : ∀ p : Nat, (p : Int) < a 56 → 0 ≤ A p ∧ A p < a 54) : fX7_leastLoud k m = some (J (mlz a A (a 56).toNat)) := by
  have n54 := hs.1
  have n55 := hs.2.1
  have n56 := hb.1
  have bp := hs.2.2.2.2.2.2
  have e55 : atA a A 55 = a 55 := atA_lo n56 (by omega)
  have e56 : atA a A 56 = a 56 := atA_lo n56 (by omega)
  have me := m_ears k hM
  rw [e55] at me
  have mp := m_players k hM
  rw [e56] at mp
  have mb : ∀ p : Nat, 0 ≤ mlz a A p ∧ mlz a A p ≤ 1000000 := fun p => by
    refine ⟨(cz_mlz a A p).2, ?_⟩
    induction p with
    | zero => exact Int.le_refl _
    | succ p ih =>
      rw [mlz_s]
      split
      · exact ih
      · exact Int.le_trans (mle_le a p (A p) _ _) ih
  unfold fX7_leastLoud
  refine lp_run (fun p => (J (mlz a A p), J (p : Int))) (a 56).toNat _ (fun p hp rec => ?_) (fun rec => ?_) (by omega)
  · have hp' : (p : Int) < a 56 := by omega
    have hq : (J (a 56) ≤ J (p : Int)) = False := by rw [J_le (by omega)]; exact eq_false (by omega)
    have w1 := hb.2.2.2.1 p hp'
    unfold W1 at w1
    have wA := hA p hp'
    obtain ⟨k0, k2, _, _⟩ := @atA_k a A p
    have o0 : fX7_of k m (J p) 0 = some (J (a (24 + 5 * p))) := by
      have := m_of k hM (p := p) (x := 0) (by omega) (by omega)
      rw [Nat.add_zero, k0] at this
      exact this
    have o2 : fX7_of k m (J p) 2 = some (J (a (24 + 5 * p + 2))) := by
      have := m_of k hM (p := p) (x := 2) (by omega) (by omega)
      rw [k2] at this
      exact this
    have o1 : fX7_of k m (J p) 1 = some (J ((A p).toNat : Nat)) := by
      have := m_of k hM (p := p) (x := 1) (by omega) (by omega)
      rw [atA_at hp', J_z wA.1] at this
      exact this
    have e5 : (J (a (24 + 5 * p)) = 5) = (a (24 + 5 * p) = 5) := by rw [J_lit, J_eq (by omega)]
    unfold fX7_leastLoud_B5
    simp only [mp, Option.bind_some, hq, if_false, J_suc]
    by_cases q5 : a (24 + 5 * p) = 5
    · have e : mlz a A (p + 1) = mlz a A p := by rw [mlz_s, if_pos q5]
      rw [e]
      refine lp_for (fun (j : Nat) (v : Int32 × Int32) => v = (J (mlz a A p), J (j : Int))) (a 55).toNat (fun o => o = rec (J (mlz a A p), J ((p + 1 : Nat) : Int))) ?_ ?_ rfl (by omega)
      · intro j v hj hv
        subst hv
        have hq2 : (J (a 55) ≤ J (j : Int)) = False := by rw [J_le (by omega)]; exact eq_false (by omega)
        right
        intro rec'
        unfold fX7_leastLoud_B15
        simp only [me, Option.bind_some, hq2, if_false, o0, e5, eq_true q5, if_true]
      · intro v hv rec'
        subst hv
        have hq2 : (J (a 55) ≤ J ((a 55).toNat : Nat)) = True := by rw [J_le (by omega)]; exact eq_true (by omega)
        unfold fX7_leastLoud_B15
        simp only [me, Option.bind_some, hq2, if_true]
    · have e : mlz a A (p + 1) = mle a p (A p) (mlz a A p) (a 55).toNat := by rw [mlz_s, if_neg q5]
      rw [e]
      refine lp_run (fun j => (J (mle a p (A p) (mlz a A p) j), J (j : Int))) (a 55).toNat _ (fun j hj rec' => ?_) (fun rec' => ?_) (by omega)
      · have hq2 : (J (a 55) ≤ J (j : Int)) = False := by rw [J_le (by omega)]; exact eq_false (by omega)
        have pp : fX7_paces k m (J ((2 * (A p).toNat : Nat) : Int)) (J ((12 + 2 * j : Nat) : Int)) = some (J (pcs (atA a A) (2 * (A p).toNat) (12 + 2 * j))) := m_paces k hM (by omega) (by omega) (fun q hq => by
          rw [atA_lo n56 (by omega)]
          have := bp q (by omega)
          omega)
        have pe : pcs (atA a A) (2 * (A p).toNat) (12 + 2 * j) = pcs a (2 * (A p).toNat) (12 + 2 * j) := by
          unfold pcs
          rw [atA_lo n56 (by omega), atA_lo n56 (i := 12 + 2 * j) (by omega), atA_lo n56 (i := 2 * (A p).toNat + 1) (by omega), atA_lo n56 (i := 12 + 2 * j + 1) (by omega)]
        rw [pe] at pp
        have x1 := xl_b hs hb hp' wA (e := j) (by omega)
        have m1 := (mle_cle a p (A p) (mb p).1 j).2.2
        have m2 := mle_le a p (A p) (mlz a A p) j
        have m3 := (mb p).2
        have ex : J (a (24 + 5 * p + 2)) - J (pcs a (2 * (A p).toNat) (12 + 2 * j)) = J (xl a p (A p) j) := by rw [J_sub]; rfl
        have g1 : (0 ≤ J (xl a p (A p) j)) = (0 ≤ xl a p (A p) j) := by rw [J_lit, J_le (by omega)]
        have g2 : (J (mle a p (A p) (mlz a A p) j) ≤ J (xl a p (A p) j)) = (mle a p (A p) (mlz a A p) j ≤ xl a p (A p) j) := by rw [J_le (by omega)]
        have g3 : (J (mle a p (A p) (mlz a A p) j) ≤ 0) = (mle a p (A p) (mlz a A p) j ≤ 0) := by rw [J_lit, J_le (by omega)]
        unfold fX7_leastLoud_B15
        simp only [me, Option.bind_some, hq2, if_false, o0, e5, eq_false q5, o2, o1, m_at, m_ea, pp, ex, g1, g2, g3, J_suc]
        rw [mle_s]
        by_cases c1 : 0 ≤ xl a p (A p) j
        · rw [if_pos c1, if_neg (show ¬ xl a p (A p) j < 0 by omega)]
          by_cases c2 : mle a p (A p) (mlz a A p) j ≤ xl a p (A p) j
          · rw [if_pos c2, if_neg (by omega)]
          · rw [if_neg c2, if_pos (by omega)]
        · rw [if_neg c1, if_pos (show xl a p (A p) j < 0 by omega)]
          by_cases c2 : mle a p (A p) (mlz a A p) j ≤ 0
          · rw [if_pos c2, if_neg (by omega)]
          · rw [if_neg c2, if_pos (by omega)]
            rfl
      · have hq2 : (J (a 55) ≤ J ((a 55).toNat : Nat)) = True := by rw [J_le (by omega)]; exact eq_true (by omega)
        unfold fX7_leastLoud_B15
        simp only [me, Option.bind_some, hq2, if_true]
  · have hq : (J (a 56) ≤ J ((a 56).toNat : Nat)) = True := by rw [J_le (by omega)]; exact eq_true (by omega)
    unfold fX7_leastLoud_B5
    simp only [mp, Option.bind_some, hq, if_true]
theorem m_sum (k : Nat) (hk : 100 < k) {X : Dat} {a : Nat → Int} (hM : X.2 0 = Jf a) (h8 : X.1 8 = J ((0 : Nat) : Int)) (hs : WS a) (hb : WB a) :
    ∃ w : Int32 × Dat, (∀ K : Int32 × Dat → Option Dat, lp (fX7_findBest_B87 k X K) k (0, 0, X) = K w) ∧ w.1 = J (ssm a (a 55).toNat) ∧ ∀ i : Nat, ¬ i = 7 → w.2.1 i = X.1 i := by
  have n55 := hs.2.1
  refine lp_forK (B := fun K => fX7_findBest_B87 k X K) (fun (j : Nat) (v : Int32 × Int32 × Dat) => v.1 = J (ssm a j) ∧ v.2.1 = J j ∧ ∀ i : Nat, ¬ i = 7 → v.2.2.1 i = X.1 i) (a 55).toNat _ ?_ ?_ ⟨rfl, rfl, fun i _ => rfl⟩ (by omega)
  · intro j v hj ⟨hv, hv2, hF⟩
    obtain ⟨x, y, w⟩ := v
    have hx : x = J (ssm a j) := hv
    subst hx
    have hy : y = J j := hv2
    subst hy
    replace hF : ∀ i : Nat, ¬ i = 7 → w.1 i = X.1 i := hF
    have es : ((w.1, va_up (va_up (va_up X.2 4 (w.2 4)) 5 (w.2 5)) 6 (w.2 6)) : Dat) = sh4 X.2 w := rfl
    have hM1 : (sh4 X.2 w).2 0 = Jf a := hM
    have hq : (J (a 55) ≤ J (j : Int)) = False := by rw [J_le (by omega)]; exact eq_false (by omega)
    obtain ⟨d1, e1, f1⟩ := m_spreadOf k hk (m := sh4 X.2 w) (s := 0) hM1 ((hF 8 (by omega)).trans h8) (by omega) hs hb (show (j : Int) < a 55 by omega)
    refine ⟨(J (ssm a (j + 1)), J ((j + 1 : Nat) : Int), sh4 X.2 d1), fun K rec => ?_, rfl, rfl, fun i hi => (f1.1 i hi).trans (hF i hi)⟩
    unfold fX7_findBest_B87
    simp only [es, m_ears k hM1, Option.bind_some, hq, if_false, e1, J_add, J_suc, ssm_s]
    all_goals exact rfl
  · intro v ⟨hv, hv2, hF⟩
    obtain ⟨x, y, w⟩ := v
    have hx : x = J (ssm a (a 55).toNat) := hv
    subst hx
    have hy : y = J ((a 55).toNat : Nat) := hv2
    subst hy
    have es : ((w.1, va_up (va_up (va_up X.2 4 (w.2 4)) 5 (w.2 5)) 6 (w.2 6)) : Dat) = sh4 X.2 w := rfl
    have hM1 : (sh4 X.2 w).2 0 = Jf a := hM
    have hq : (J (a 55) ≤ J ((a 55).toNat : Nat)) = True := by rw [J_le (by omega)]; exact eq_true (by omega)
    refine ⟨(J (ssm a (a 55).toNat), sh4 X.2 w), fun K rec => ?_, rfl, hF⟩
    unfold fX7_findBest_B87
    simp only [es, m_ears k hM1, Option.bind_some, hq, if_true]
theorem m_take (k : Nat) (hk : 100 < k) {X : Dat} {a A : Nat → Int} (hM : X.2 0 = Jf (atA a A)) (n56 : 0 ≤ a 56 ∧ a 56 ≤ 6) :
    ∃ w : Dat, (∀ K : Dat → Option Dat, lp (fX7_findBest_B140 k X K) k (0, X) = K w) ∧ ∀ q : Nat, (q : Int) < a 56 → w.2 14 q = J (A q) := by
  have e56 : atA a A 56 = a 56 := atA_lo n56 (by omega)
  refine lp_forK (B := fun K => fX7_findBest_B140 k X K) (fun (j : Nat) (v : Int32 × Dat) => v.1 = J j ∧ ∀ q : Nat, q < j → v.2.2 14 q = J (A q)) (a 56).toNat _ ?_ ?_ ⟨rfl, fun q hq => absurd hq (Nat.not_lt_zero q)⟩ (by omega)
  · intro j v hj ⟨hv, h1⟩
    obtain ⟨y, w⟩ := v
    have hy : y = J j := hv
    subst hy
    replace h1 : ∀ q : Nat, q < j → w.2 14 q = J (A q) := h1
    have pl : fX7_players k (X.1, va_up X.2 14 (w.2 14)) = some (J (a 56)) := by
      rw [← e56]
      exact m_players k hM
    have hq : (J (a 56) ≤ J (j : Int)) = False := by rw [J_le (by omega)]; exact eq_false (by omega)
    have o1 : fX7_of k (X.1, va_up X.2 14 (w.2 14)) (J j) 1 = some (J (A j)) := by
      refine m_of1 k (by omega) ?_
      show X.2 0 (24 + 5 * j + 1) = _
      rw [hM, Jf_ap, atA_at (by omega)]
    refine ⟨(J ((j + 1 : Nat) : Int), (X.1, va_up X.2 14 (upd (w.2 14) j (J (A j))))), fun K rec => ?_, rfl, fun q hq' => ?_⟩
    · unfold fX7_findBest_B140
      simp (disch := omega) only [pl, Option.bind_some, hq, if_false, o1, chk_J, J_nat, Int.toNat_natCast, J_suc]
    · show upd (w.2 14) j (J (A j)) q = _
      by_cases c : q = j
      · rw [c, upd_same]
      · rw [upd_ne c]
        exact h1 q (by omega)
  · intro v ⟨hv, h1⟩
    obtain ⟨y, w⟩ := v
    have hy : y = J ((a 56).toNat : Nat) := hv
    subst hy
    replace h1 : ∀ q : Nat, q < (a 56).toNat → w.2 14 q = J (A q) := h1
    have pl : fX7_players k (X.1, va_up X.2 14 (w.2 14)) = some (J (a 56)) := by
      rw [← e56]
      exact m_players k hM
    have hq : (J (a 56) ≤ J ((a 56).toNat : Nat)) = True := by rw [J_le (by omega)]; exact eq_true (by omega)
    refine ⟨(X.1, va_up X.2 14 (w.2 14)), fun K rec => ?_, fun q hq' => h1 q (by omega)⟩
    unfold fX7_findBest_B140
    simp only [pl, Option.bind_some, hq, if_true]
def MS (a : Nat → Int) (N n j : Nat) (mo sp : Int32) (f : Nat → Int32) : Prop :=
  (mo = J (-1) ∧ sp = J 0 ∧ ∀ i : Nat, i < j → ¬ Way a (dg N n i))
  ∨ ∃ i : Nat, i < j ∧ Way a (dg N n i) ∧ mo = J (mlz a (dg N n i) (a 56).toNat) ∧ sp = J (SM a (dg N n i)) ∧ (∀ q : Nat, (q : Int) < a 56 → f q = J (dg N n i q)) ∧ ∀ i' : Nat, i' < j → Way a (dg N n i') → Bet a (dg N n i) (dg N n i')
def XQ (a : Nat → Int) (m : Dat) (o : Option Dat) : Prop :=
  ∃ m' : Dat, o = some m' ∧ m'.2 0 = Jf a ∧ (∀ i : Nat, ¬ i = 7 → m'.1 i = m.1 i) ∧ ∃ B : Nat → Int, Best a B ∧ ∀ q : Nat, (q : Int) < a 56 → m'.2 14 q = J (B q)
theorem mlz_b (a A : Nat → Int) (p : Nat) : 0 ≤ mlz a A p ∧ mlz a A p ≤ 1000000 := by
  refine ⟨(cz_mlz a A p).2, ?_⟩
  induction p with
  | zero => exact Int.le_refl _
  | succ p ih =>
    rw [mlz_s]
    split
    · exact ih
    · exact Int.le_trans (mle_le a p (A p) _ _) ih
set_option maxHeartbeats 8000000 in
theorem m_findBest (k : Nat) (hk : 100000 < k) {m : Dat} {a : Nat → Int} (hM : m.2 0 = Jf a) (h8 : m.1 8 = J ((0 : Nat) : Int)) (hs : WS a) (hb : WB a) (hp0 : 0 < a 56) (hle : a 56 ≤ a 54) (h55 : 0 < a 55) : XQ a m (fX7_findBest k m) := by
  have n56 := hb.1
  have n54 := hs.1
  have n55 := hs.2.1
  obtain ⟨n, hn⟩ : ∃ n : Nat, a 56 = n := ⟨(a 56).toNat, by omega⟩
  obtain ⟨N, hN⟩ : ∃ N : Nat, a 54 = N := ⟨(a 54).toNat, by omega⟩
  have N0 : 0 < N := by omega
  have N6 : N ≤ 6 := by omega
  have n6 : n ≤ 6 := by omega
  have hnn : (a 56).toNat = n := by omega
  have pwb : ∀ i : Nat, i ≤ n → N ^ i ≤ 46656 := fun i hi => by
    have h1 : N ^ i ≤ 6 ^ i := Nat.pow_le_pow_left N6 i
    have h2 : 6 ^ i ≤ 6 ^ 6 := Nat.pow_le_pow_right (by decide) (by omega)
    have h3 : (6 : Nat) ^ 6 = 46656 := by decide
    omega
  unfold fX7_findBest
  refine lp_for (fun (j : Nat) (v : Int32 × Dat) => v.1 = J j ∧ ∀ q : Nat, q < j → v.2.2 13 q = J (a (24 + 5 * q + 1))) n (XQ a m) ?_ ?_ ⟨rfl, fun q hq => absurd hq (Nat.not_lt_zero q)⟩ (by omega)
  · intro j v hj ⟨hv, h1⟩
    obtain ⟨y, w⟩ := v
    have hy : y = J j := hv
    subst hy
    replace h1 : ∀ q : Nat, q < j → w.2 13 q = J (a (24 + 5 * q + 1)) := h1
    have pl : fX7_players k (m.1, va_up m.2 13 (w.2 13)) = some (J (a 56)) := m_players k hM
    have hq : (J (a 56) ≤ J (j : Int)) = False := by rw [J_le (by omega)]; exact eq_false (by omega)
    have o1 : fX7_of k (m.1, va_up m.2 13 (w.2 13)) (J j) 1 = some (J (a (24 + 5 * j + 1))) := by
      refine m_of1 k (by omega) ?_
      show m.2 0 (24 + 5 * j + 1) = _
      rw [hM]
      rfl
    left
    refine ⟨(J ((j + 1 : Nat) : Int), (m.1, va_up m.2 13 (upd (w.2 13) j (J (a (24 + 5 * j + 1)))))), fun rec => ?_, rfl, fun q hq' => ?_⟩
    · unfold fX7_findBest_B2
      simp (disch := omega) only [pl, Option.bind_some, hq, if_false, o1, chk_J, J_nat, Int.toNat_natCast, J_suc]
    · show upd (w.2 13) j (J (a (24 + 5 * j + 1))) q = _
      by_cases c : q = j
      · rw [c, upd_same]
      · rw [upd_ne c]
        exact h1 q (by omega)
  · intro v ⟨hv, hwas⟩ rec
    obtain ⟨y, w0⟩ := v
    have hy : y = J n := hv
    subst hy
    replace hwas : ∀ q : Nat, q < n → w0.2 13 q = J (a (24 + 5 * q + 1)) := hwas
    have pl : ∀ g : Nat → Int32, fX7_players k (m.1, va_up m.2 13 g) = some (J (a 56)) := fun g => m_players k hM
    have hq : (J (a 56) ≤ J (n : Int)) = True := by rw [J_le (by omega)]; exact eq_true (by omega)
    unfold fX7_findBest_B2
    simp only [pl, Option.bind_some, hq, if_true, vu_same]
    refine lp_for (fun (j : Nat) (v : Int32 × Int32) => v = (J ((N ^ j : Nat) : Int), J (j : Int))) n (XQ a m) ?_ ?_ (by rw [Nat.pow_zero]; rfl) (by omega)
    · intro j v hj hv
      subst hv
      have hq : (J (a 56) ≤ J (j : Int)) = False := by rw [J_le (by omega)]; exact eq_false (by omega)
      have wi := m_windows k (m := (m.1, va_up m.2 13 (w0.2 13))) hM
      left
      refine ⟨_, fun rec => ?_, rfl⟩
      unfold fX7_findBest_B32
      simp only [pl, Option.bind_some, hq, if_false]
      rw [wi]
      simp only [Option.bind_some, hN, J_mul, J_suc, Nat.pow_succ, Int.natCast_mul]
    · intro v hv rec
      subst hv
      unfold fX7_findBest_B32
      simp only [pl, Option.bind_some, hq, if_true]
      have cb := pwb n (Nat.le_refl n)
      refine lp_for (fun (j : Nat) (v : Int32 × Int32 × Int32 × Dat) => v.2.2.1 = J j ∧ (∀ i : Nat, ¬ i = 7 → v.2.2.2.1 i = m.1 i) ∧ NA a (v.2.2.2.2 0) ∧ MS a N n j v.1 v.2.1 (v.2.2.2.2 14)) (N ^ n) (XQ a m) ?_ ?_ ⟨rfl, fun i _ => rfl, ?_, Or.inl ⟨rfl, rfl, fun i hi => absurd hi (Nat.not_lt_zero i)⟩⟩ (by omega)
      · intro j v hj ⟨hv, hF, hA, hms⟩
        obtain ⟨mo, sp, y, w⟩ := v
        have hy : y = J j := hv
        subst hy
        replace hF : ∀ i : Nat, ¬ i = 7 → w.1 i = m.1 i := hF
        replace hA : NA a (w.2 0) := hA
        replace hms : MS a N n j mo sp (w.2 14) := hms
        have hq2 : (J ((N ^ n : Nat) : Int) ≤ J (j : Int)) = False := by rw [J_le (by omega)]; exact eq_false (by omega)
        obtain ⟨r3, m3, e3, g3, hr⟩ := m_putAll k (by omega) (m := (w.1, va_up (va_up (va_up (va_up (va_up (va_up m.2 13 (w0.2 13)) 0 (w.2 0)) 4 (w.2 4)) 5 (w.2 5)) 6 (w.2 6)) 14 (w.2 14))) (j := j) hN hn N6 N0 n6 (by omega) hA
        have hNA : NA a (m3.2 0) := fun i hi => by
          rw [g3, Jf_ap, atA_o hi]
        left
        rcases hr with ⟨r1, hway⟩ | ⟨r0, hway⟩
        · subst r1
          have hs' := WS_at (A := dg N n j) hs hb
          have hb' := WB_at hb hway.1
          have ll := m_leastLoud k (by omega) (m := (w.1, va_up (va_up (va_up (va_up (va_up (va_up m.2 13 (w0.2 13)) 0 (m3.2 0)) 4 (w.2 4)) 5 (w.2 5)) 6 (w.2 6)) 14 (w.2 14))) (A := dg N n j) g3 hs hb hway.1
          obtain ⟨w9, e9, s9, f9⟩ := m_sum k (by omega) (X := (w.1, va_up (va_up (va_up (va_up (va_up (va_up m.2 13 (w0.2 13)) 0 (m3.2 0)) 4 (w.2 4)) 5 (w.2 5)) 6 (w.2 6)) 14 (w.2 14))) g3 ((hF 8 (by omega)).trans h8) hs' hb'
          rw [show ssm (atA a (dg N n j)) (atA a (dg N n j) 55).toNat = SM a (dg N n j) from by unfold SM; rw [atA_lo n56 (by omega)]] at s9
          obtain ⟨x9, d9⟩ := w9
          have s9' : x9 = J (SM a (dg N n j)) := s9
          subst s9'
          replace f9 : ∀ i : Nat, ¬ i = 7 → d9.1 i = w.1 i := f9
          obtain ⟨w12, e12, h12⟩ := m_take k (by omega) (X := (d9.1, va_up (va_up (va_up (va_up (va_up (va_up m.2 13 (w0.2 13)) 0 (m3.2 0)) 4 (d9.2 4)) 5 (d9.2 5)) 6 (d9.2 6)) 14 (w.2 14))) (A := dg N n j) g3 n56
          have mb := mlz_b a (dg N n j) (a 56).toNat
          have sb := SM_b hs hb hway
          have cdj : cd (a 54) (dg N n j) (a 56).toNat = j := by
            rw [hN, hnn, cd_dg hj n (Nat.le_refl n), Nat.sub_self, Nat.pow_zero, Nat.div_one]
          have self : Bet a (dg N n j) (dg N n j) := Or.inr ⟨rfl, Or.inr ⟨rfl, Int.le_refl _⟩⟩
          have newMS : (∀ i' : Nat, i' < j → Way a (dg N n i') → Bet a (dg N n j) (dg N n i')) → MS a N n (j + 1) (J (mlz a (dg N n j) (a 56).toNat)) (J (SM a (dg N n j))) (w12.2 14) := fun hall => Or.inr ⟨j, by omega, hway, rfl, rfl, h12, fun i' hi' hw' => by
            by_cases c : i' = j
            · rw [c]
              exact self
            · exact hall i' (by omega) hw'⟩
          have fin' : ∀ i : Nat, ¬ i = 7 → d9.1 i = m.1 i := fun i hi => (f9 i hi).trans (hF i hi)
          rcases hms with ⟨a1, a2, a3⟩ | ⟨i0, b1, b2, b3, b4, b5, b6⟩
          · subst a1
            subst a2
            have c1 : (J (-1) < J (mlz a (dg N n j) (a 56).toNat)) = True := by rw [J_lt (by omega)]; exact eq_true (by omega)
            refine ⟨(J (mlz a (dg N n j) (a 56).toNat), J (SM a (dg N n j)), J ((j + 1 : Nat) : Int), (d9.1, va_up (va_up (va_up (va_up (va_up (va_up m.2 13 (w0.2 13)) 0 (m3.2 0)) 4 (d9.2 4)) 5 (d9.2 5)) 6 (d9.2 6)) 14 (w12.2 14))), fun rec => ?_, rfl, fin', hNA, newMS (fun i' hi' hw' => absurd hw' (a3 i' hi'))⟩
            unfold fX7_findBest_B60
            simp only [hq2, if_false, e3, Option.bind_some, show ((1 : Int32) = 0) = False from by decide, ll, e9, c1, if_true, e12, J_suc]
          · subst b3
            subst b4
            have mb0 := mlz_b a (dg N n i0) (a 56).toNat
            have sb0 := SM_b hs hb b2
            have cd0 : cd (a 54) (dg N n i0) (a 56).toNat = i0 := by
              rw [hN, hnn, cd_dg (by omega) n (Nat.le_refl n), Nat.sub_self, Nat.pow_zero, Nat.div_one]
            have c1 : (J (mlz a (dg N n i0) (a 56).toNat) < J (mlz a (dg N n j) (a 56).toNat)) = (mlz a (dg N n i0) (a 56).toNat < mlz a (dg N n j) (a 56).toNat) := by rw [J_lt (by omega)]
            have c2 : (J (mlz a (dg N n j) (a 56).toNat) = J (mlz a (dg N n i0) (a 56).toNat)) = (mlz a (dg N n j) (a 56).toNat = mlz a (dg N n i0) (a 56).toNat) := by rw [J_eq (by omega)]
            have c3 : (J (SM a (dg N n i0)) ≤ J (SM a (dg N n j))) = (SM a (dg N n i0) ≤ SM a (dg N n j)) := by rw [J_le (by omega)]
            have oldMS : ∀ f : Nat → Int32, (∀ q : Nat, (q : Int) < a 56 → f q = J (dg N n i0 q)) → Bet a (dg N n i0) (dg N n j) → MS a N n (j + 1) (J (mlz a (dg N n i0) (a 56).toNat)) (J (SM a (dg N n i0))) f := fun f hf hbt => Or.inr ⟨i0, by omega, b2, rfl, rfl, hf, fun i' hi' hw' => by
              by_cases c : i' = j
              · rw [c]
                exact hbt
              · exact b6 i' (by omega) hw'⟩
            by_cases q1 : mlz a (dg N n i0) (a 56).toNat < mlz a (dg N n j) (a 56).toNat
            · refine ⟨(J (mlz a (dg N n j) (a 56).toNat), J (SM a (dg N n j)), J ((j + 1 : Nat) : Int), (d9.1, va_up (va_up (va_up (va_up (va_up (va_up m.2 13 (w0.2 13)) 0 (m3.2 0)) 4 (d9.2 4)) 5 (d9.2 5)) 6 (d9.2 6)) 14 (w12.2 14))), fun rec => ?_, rfl, fin', hNA, newMS (fun i' hi' hw' => ?_)⟩
              · unfold fX7_findBest_B60
                simp only [hq2, if_false, e3, Option.bind_some, show ((1 : Int32) = 0) = False from by decide, ll, e9, c1, eq_true q1, if_true, e12, J_suc]
              · have := b6 i' hi' hw'
                unfold Bet at this ⊢
                omega
            · by_cases q2 : mlz a (dg N n j) (a 56).toNat = mlz a (dg N n i0) (a 56).toNat
              · by_cases q3 : SM a (dg N n i0) ≤ SM a (dg N n j)
                · refine ⟨(J (mlz a (dg N n i0) (a 56).toNat), J (SM a (dg N n i0)), J ((j + 1 : Nat) : Int), (d9.1, va_up (va_up (va_up (va_up (va_up (va_up m.2 13 (w0.2 13)) 0 (m3.2 0)) 4 (d9.2 4)) 5 (d9.2 5)) 6 (d9.2 6)) 14 (w.2 14))), fun rec => ?_, rfl, fin', hNA, oldMS _ b5 ?_⟩
                  · unfold fX7_findBest_B60
                    simp only [hq2, if_false, e3, Option.bind_some, show ((1 : Int32) = 0) = False from by decide, ll, e9, c1, eq_false q1, c2, eq_true q2, c3, eq_true q3, if_true, J_suc]
                  · unfold Bet
                    omega
                · refine ⟨(J (mlz a (dg N n j) (a 56).toNat), J (SM a (dg N n j)), J ((j + 1 : Nat) : Int), (d9.1, va_up (va_up (va_up (va_up (va_up (va_up m.2 13 (w0.2 13)) 0 (m3.2 0)) 4 (d9.2 4)) 5 (d9.2 5)) 6 (d9.2 6)) 14 (w12.2 14))), fun rec => ?_, rfl, fin', hNA, newMS (fun i' hi' hw' => ?_)⟩
                  · unfold fX7_findBest_B60
                    simp only [hq2, if_false, e3, Option.bind_some, show ((1 : Int32) = 0) = False from by decide, ll, e9, c1, eq_false q1, c2, eq_true q2, c3, eq_false q3, if_true, e12, J_suc]
                  · have := b6 i' hi' hw'
                    unfold Bet at this ⊢
                    omega
              · refine ⟨(J (mlz a (dg N n i0) (a 56).toNat), J (SM a (dg N n i0)), J ((j + 1 : Nat) : Int), (d9.1, va_up (va_up (va_up (va_up (va_up (va_up m.2 13 (w0.2 13)) 0 (m3.2 0)) 4 (d9.2 4)) 5 (d9.2 5)) 6 (d9.2 6)) 14 (w.2 14))), fun rec => ?_, rfl, fin', hNA, oldMS _ b5 ?_⟩
                · unfold fX7_findBest_B60
                  simp only [hq2, if_false, e3, Option.bind_some, show ((1 : Int32) = 0) = False from by decide, ll, e9, c1, eq_false q1, c2, eq_false q2, J_suc]
                · unfold Bet
                  omega
        · subst r0
          refine ⟨(mo, sp, J ((j + 1 : Nat) : Int), (w.1, va_up (va_up (va_up (va_up (va_up (va_up m.2 13 (w0.2 13)) 0 (m3.2 0)) 4 (w.2 4)) 5 (w.2 5)) 6 (w.2 6)) 14 (w.2 14))), fun rec => ?_, rfl, hF, hNA, ?_⟩
          · unfold fX7_findBest_B60
            simp only [hq2, if_false, e3, Option.bind_some, if_true, J_suc]
          · rcases hms with ⟨a1, a2, a3⟩ | ⟨i0, b1, b2, b3, b4, b5, b6⟩
            · refine Or.inl ⟨a1, a2, fun i hi hw' => ?_⟩
              by_cases c : i = j
              · rw [c] at hw'
                exact hway hw'
              · exact a3 i (by omega) hw'
            · refine Or.inr ⟨i0, by omega, b2, b3, b4, b5, fun i' hi' hw' => ?_⟩
              by_cases c : i' = j
              · rw [c] at hw'
                exact absurd hw' hway
              · exact b6 i' (by omega) hw'
      · intro v ⟨hv, hF, hA, hms⟩ rec
        obtain ⟨mo, sp, y, w⟩ := v
        have hy : y = J ((N ^ n : Nat) : Int) := hv
        subst hy
        replace hF : ∀ i : Nat, ¬ i = 7 → w.1 i = m.1 i := hF
        replace hA : NA a (w.2 0) := hA
        replace hms : MS a N n (N ^ n) mo sp (w.2 14) := hms
        have hq2 : (J ((N ^ n : Nat) : Int) ≤ J ((N ^ n : Nat) : Int)) = True := by rw [J_le (by omega)]; exact eq_true (by omega)
        have code : ∀ A : Nat → Int, Way a A → ∃ i : Nat, i < N ^ n ∧ Way a (dg N n i) ∧ (∀ q : Nat, (q : Int) < a 56 → A q = dg N n i q) := fun A hA' => by
          have rg := cd_rng (N := N) (A := A) (p := n) (fun q hq' => by have := hA'.1 q (by omega); omega)
          have hlt : (cd (N : Int) A n).toNat < N ^ n := by omega
          have e1 := cd_dg hlt n (Nat.le_refl n)
          rw [Nat.sub_self, Nat.pow_zero, Nat.div_one] at e1
          have e2 : ∀ q : Nat, q < n → A q = dg N n (cd (N : Int) A n).toNat q := cd_inj (N := (N : Int)) (fun q hq' => by have := hA'.1 q (by omega); omega) (fun q hq' => dg_rng N0 q) (by omega)
          refine ⟨(cd (N : Int) A n).toNat, hlt, ⟨fun p hp => ?_, fun p q a1 a2 => ?_⟩, fun q hq' => e2 q (by omega)⟩
          · rw [← e2 p (by omega)]
            exact hA'.1 p hp
          · rw [← e2 p (by omega), ← e2 q (by omega)]
            exact hA'.2 p q a1 a2
        have found : ∃ B : Nat → Int, Best a B ∧ ∀ q : Nat, (q : Int) < a 56 → w.2 14 q = J (B q) := by
          rcases hms with ⟨_, _, a3⟩ | ⟨i0, b1, b2, b3, b4, b5, b6⟩
          · obtain ⟨i, h1, h2, _⟩ := code _ (way_id hle)
            exact absurd h2 (a3 i h1)
          · refine ⟨dg N n i0, ⟨b2, fun A hA' => ?_⟩, b5⟩
            obtain ⟨i, h1, h2, h3⟩ := code A hA'
            have hbt := b6 i h1 h2
            obtain ⟨s1, s2, s3⟩ := alike (X := dg N n i) h3
            unfold Bet at hbt ⊢
            rw [s1, s2, s3]
            exact hbt
        unfold fX7_findBest_B60
        simp only [hq2, if_true]
        refine lp_for (fun (j : Nat) (v : Int32 × Dat) => v.1 = J j ∧ NA a (v.2.2 0) ∧ ∀ q : Nat, q < j → v.2.2 0 (24 + 5 * q + 1) = J (a (24 + 5 * q + 1))) n (XQ a m) ?_ ?_ ⟨rfl, hA, fun q hq => absurd hq (Nat.not_lt_zero q)⟩ (by omega)
        · intro j v hj ⟨hv, hA1, h1⟩
          obtain ⟨y, u⟩ := v
          have hy : y = J j := hv
          subst hy
          replace hA1 : NA a (u.2 0) := hA1
          replace h1 : ∀ q : Nat, q < j → u.2 0 (24 + 5 * q + 1) = J (a (24 + 5 * q + 1)) := h1
          have u56 : u.2 0 56 = J (a 56) := NA_lo n56 hA1 (by omega)
          have pl2 : ∀ m' : Dat, m'.2 0 = u.2 0 → fX7_players k m' = some (J (a 56)) := fun m' h => m_pl k (by rw [h]; exact u56)
          have hq3 : (J (a 56) ≤ J (j : Int)) = False := by rw [J_le (by omega)]; exact eq_false (by omega)
          have e1 : (24 : Int32) + 5 * J j + 1 = J ((24 + 5 * j + 1 : Nat) : Int) := by
            simp only [J_lit, J_mul, J_add]
            congr 1
          left
          apply Exists.intro
          refine ⟨fun rec => ?_, ?_, fun i hi => ?_, fun q hq' => ?_⟩
          · unfold fX7_findBest_B178
            rw [pl2]
            rotate_left
            · rfl
            simp (disch := omega) only [Option.bind_some, hq3, if_false, e1, chk_J, J_nat, Int.toNat_natCast, J_suc]
            all_goals exact rfl
          · rfl
          · show upd (u.2 0) (24 + 5 * j + 1) _ i = _
            rw [upd_ne (hi j (by omega))]
            exact hA1 i hi
          · show upd (u.2 0) (24 + 5 * j + 1) (w0.2 13 j) (24 + 5 * q + 1) = _
            by_cases c : q = j
            · rw [c, upd_same]
              exact hwas j hj
            · rw [upd_ne (by omega)]
              exact h1 q (by omega)
        · intro v ⟨hv, hA1, h1⟩ rec
          obtain ⟨y, u⟩ := v
          have hy : y = J n := hv
          subst hy
          replace hA1 : NA a (u.2 0) := hA1
          replace h1 : ∀ q : Nat, q < n → u.2 0 (24 + 5 * q + 1) = J (a (24 + 5 * q + 1)) := h1
          have u56 : u.2 0 56 = J (a 56) := NA_lo n56 hA1 (by omega)
          have pl2 : ∀ m' : Dat, m'.2 0 = u.2 0 → fX7_players k m' = some (J (a 56)) := fun m' h => m_pl k (by rw [h]; exact u56)
          unfold fX7_findBest_B178
          rw [pl2]
          rotate_left
          · rfl
          simp only [Option.bind_some, hq, if_true]
          refine ⟨_, rfl, ?_, hF, found⟩
          show u.2 0 = Jf a
          funext i
          show u.2 0 i = J (a i)
          by_cases c : ∃ p : Nat, (p : Int) < a 56 ∧ i = 24 + 5 * p + 1
          · obtain ⟨p, hp, rfl⟩ := c
            exact h1 p (by omega)
          · exact hA1 i (fun p hp e => c ⟨p, hp, e⟩)
      · intro i hi
        show m.2 0 i = J (a i)
        rw [hM]
        rfl
set_option maxHeartbeats 2000000 in
theorem L_23 (k L : Nat) (hk : 100000 < k) (xs : Nat → Int32) (hL : L ≤ 2560) : OP L (fL_23 k L xs) := by
  intro rec z c st bd i0 i1 b0 b1 t5 t6 t7 h8 t9 s10 r11 m hz hzL hR
  unfold fL_23
  simp only [rd hz hzL hL]
  generalize xs (J z + 1).toNatClampNeg = x1
  obtain ⟨X, hX, rfl⟩ := J_ex x1
  obtain ⟨⟨a, hM, hS, hB, hs, hb⟩, hTx, hRf, hI⟩ := hR
  obtain ⟨n54, n55, n20, n21, n22, n18, hp⟩ := id hs
  obtain ⟨n56, n57, n23, hP, hQ⟩ := id hb
  unfold fX6_best fX7_best
  rw [c_hasPlayer k hB hb hX, m_isPlayer k hM hb hX, m_windows k hM, m_players k hM, m_ears k hM]
  have c1 : (J (a 54) < J (a 56)) = (a 54 < a 56) := by rw [J_lt (by omega)]
  have c2 : (J (a 55) = 0) = (a 55 = 0) := by rw [J_lit, J_eq (by omega)]
  simp only [Option.bind_some, b_ite, hS.1.1, hB.1.1, hS.1.2.1, c1, c2]
  by_cases q1 : 0 ≤ X ∧ X ≤ a 56 - 1
  · rw [if_pos q1, if_pos q1]
    by_cases q2 : a 54 < a 56
    · rw [if_pos q2, if_pos q2]
      apply fin
      · simp only [Option.bind_some, ↓reduceIte]
        all_goals exact rfl
      · exact rd5 z
      · exact ⟨⟨a, hM, hS, hB, hs, hb⟩, hTx, hRf, hI⟩
    · rw [if_neg q2, if_neg q2]
      by_cases q3 : a 55 = 0
      · rw [if_pos q3, if_pos q3]
        apply fin
        · simp only [Option.bind_some, ↓reduceIte]
          all_goals exact rfl
        · exact rd5 z
        · exact ⟨⟨a, hM, hS, hB, hs, hb⟩, hTx, hRf, hI⟩
      · rw [if_neg q3, if_neg q3]
        obtain ⟨p, rfl⟩ : ∃ p : Nat, X = p := ⟨X.toNat, by omega⟩
        obtain ⟨d1, e1, hB1⟩ := c_like0 k (t := t6) hB hb
        obtain ⟨s', t', h', e2, B, hBest, hBr⟩ := c_search k (by omega) (d := s10) (bd := (d1.1, va_up (va_up (va_up (va_up (va_up (va_up t6.2 1 (d1.2 1)) 2 (d1.2 2)) 3 (d1.2 3)) 4 (d1.2 4)) 5 (d1.2 5)) 9 (d1.2 9))) (h8 := h8) hS hs hb hB1 (by omega) (by omega) (by omega)
        obtain ⟨m', e3, g0, gF, B', hBest', hBr'⟩ := m_findBest k hk (m := (upd m.1 8 0, m.2)) hM rfl hs hb (by omega) (by omega) (by omega)
        have e4 := hBr p (by omega)
        have e5 := hBr' p (by omega)
        have e6 := Best_eq hBest hBest' p (by omega)
        rw [e6] at e4
        apply fin
        · simp (disch := omega) only [e1, e2, e3, Option.bind_some, chk_J, J_nat, Int.toNat_natCast, e4, e5, ↓reduceIte, vu_same, vu_ne]
          all_goals exact rfl
        · exact rd5 z
        · refine ⟨⟨a, ?_, hS, hB, hs, hb⟩, ?_, hRf, hI⟩
          · show m'.2 0 = Jf a
            exact g0
          · show RX (c.1 13) (m'.1 16) _ _
            rw [gF 16 (by omega)]
            exact hTx
  · rw [if_neg q1, if_neg q1]
    apply fin
    · simp only [c_bad, m_bad, Option.bind_some, ↓reduceIte]
      exact rfl
    · exact rd5 z
    · exact ⟨⟨a, hM, hS, hB, hs, hb⟩, hTx, hRf.bad, hI⟩
