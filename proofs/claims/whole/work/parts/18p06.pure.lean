theorem php : ∀ (n : Nat) (f : Nat → Nat), (∀ i : Nat, i ≤ n → f i < n) → ∃ i j : Nat, i < j ∧ j ≤ n ∧ f i = f j := by
  intro n
  induction n with
  | zero =>
    intro f h
    exact absurd (h 0 (Nat.le_refl 0)) (Nat.not_lt_zero _)
  | succ n ih =>
    intro f h
    by_cases q : ∃ i : Nat, i ≤ n ∧ f i = f (n + 1)
    · obtain ⟨i, hi, e⟩ := q
      exact ⟨i, n + 1, by omega, Nat.le_refl _, e⟩
    · have hq : ∀ i : Nat, i ≤ n → ¬ f i = f (n + 1) := fun i hi e => q ⟨i, hi, e⟩
      have hv := h (n + 1) (Nat.le_refl _)
      obtain ⟨i, j, hij, hj, e⟩ := ih (fun i => if f i = n then f (n + 1) else f i) (fun i hi => by
        have h1 := h i (by omega)
        have h2 := hq i hi
        show (if f i = n then f (n + 1) else f i) < n
        split <;> omega)
      refine ⟨i, j, hij, by omega, ?_⟩
      have h1 := hq i (by omega)
      have h2 := hq j hj
      have e' : (if f i = n then f (n + 1) else f i) = (if f j = n then f (n + 1) else f j) := e
      split at e' <;> split at e' <;> omega
def rup (b : Bool) (z : Int) : Int := if b = true then -((-z) / 10 * 10) else z
theorem rup_ge (b : Bool) (z : Int) : z ≤ rup b z := by
  unfold rup
  split <;> omega
theorem rup_mono (b : Bool) {y z : Int} (h : y ≤ z) : rup b y ≤ rup b z := by
  unfold rup
  split <;> omega
theorem rup_le {b : Bool} {z l : Int} (h : z ≤ l) (h10 : b = true → l % 10 = 0) : rup b z ≤ l := by
  unfold rup
  split
  · have := h10 (by assumption)
    omega
  · exact h
theorem rup_10 (b : Bool) (z : Int) : b = true → rup b z % 10 = 0 := by
  intro h
  unfold rup
  rw [if_pos h]
  omega
theorem rup_fix {b : Bool} {z : Int} (h : b = true → z % 10 = 0) : rup b z = z := by
  unfold rup
  split
  · have := h (by assumption)
    omega
  · rfl
theorem rup_add {b : Bool} {z d : Int} (h : b = true → d % 10 = 0) : rup b (z + d) = rup b z + d := by
  unfold rup
  split
  · have := h (by assumption)
    omega
  · rfl
def ndd (S : Nat → Bool) (c : Nat → Nat → Int) (x : Nat → Int) (p : Nat) : Nat → Int
  | 0 => x p
  | q + 1 => if S q = true then (if ndd S c x p q < x q + c q p then x q + c q p else ndd S c x p q) else ndd S c x p q
theorem ndd_s (S : Nat → Bool) (c : Nat → Nat → Int) (x : Nat → Int) (p q : Nat) : ndd S c x p (q + 1) = if S q = true then (if ndd S c x p q < x q + c q p then x q + c q p else ndd S c x p q) else ndd S c x p q := rfl
theorem ndd_ge (S : Nat → Bool) (c : Nat → Nat → Int) (x : Nat → Int) (p : Nat) : ∀ m : Nat, x p ≤ ndd S c x p m ∧ ∀ q : Nat, q < m → S q = true → x q + c q p ≤ ndd S c x p m := by
  intro m
  induction m with
  | zero => exact ⟨Int.le_refl _, fun q hq => absurd hq (Nat.not_lt_zero q)⟩
  | succ m ih =>
    rw [ndd_s]
    refine ⟨?_, fun q hq hs => ?_⟩
    · split
      · split <;> omega
      · exact ih.1
    · by_cases e : q = m
      · subst e
        rw [if_pos hs]
        split <;> omega
      · have := ih.2 q (by omega) hs
        split
        · split <;> omega
        · exact this
theorem ndd_at (S : Nat → Bool) (c : Nat → Nat → Int) (x : Nat → Int) (p : Nat) : ∀ m : Nat, ndd S c x p m = x p ∨ ∃ q : Nat, q < m ∧ S q = true ∧ ndd S c x p m = x q + c q p := by
  intro m
  induction m with
  | zero => exact Or.inl rfl
  | succ m ih =>
    rw [ndd_s]
    by_cases hs : S m = true
    · rw [if_pos hs]
      by_cases h : ndd S c x p m < x m + c m p
      · rw [if_pos h]
        exact Or.inr ⟨m, by omega, hs, rfl⟩
      · rw [if_neg h]
        rcases ih with ih | ⟨q, h1, h2, h3⟩
        · exact Or.inl ih
        · exact Or.inr ⟨q, by omega, h2, h3⟩
    · rw [if_neg hs]
      rcases ih with ih | ⟨q, h1, h2, h3⟩
      · exact Or.inl ih
      · exact Or.inr ⟨q, by omega, h2, h3⟩
theorem ndd_le {S : Nat → Bool} {c : Nat → Nat → Int} {x : Nat → Int} {p m : Nat} {B : Int} (h1 : x p ≤ B) (h2 : ∀ q : Nat, q < m → S q = true → x q + c q p ≤ B) : ndd S c x p m ≤ B := by
  rcases ndd_at S c x p m with h | ⟨q, a1, a2, a3⟩
  · omega
  · rw [a3]
    exact h2 q a1 a2
def stp (m : Nat) (S b : Nat → Bool) (c : Nat → Nat → Int) (x : Nat → Int) (p : Nat) : Int := if S p = true then rup (b p) (ndd S c x p m) else x p
def itr (m : Nat) (S b : Nat → Bool) (c : Nat → Nat → Int) (x : Nat → Int) : Nat → Nat → Int
  | 0 => x
  | k + 1 => stp m S b c (itr m S b c x k)
def FV (m : Nat) (S b : Nat → Bool) (c : Nat → Nat → Int) (l : Nat → Int) : Prop :=
  ∀ p : Nat, p < m → S p = true → (b p = true → l p % 10 = 0) ∧ ∀ q : Nat, q < m → S q = true → l q + c q p ≤ l p
theorem stp_ge (m : Nat) (S b : Nat → Bool) (c : Nat → Nat → Int) (x : Nat → Int) (p : Nat) : x p ≤ stp m S b c x p := by
  unfold stp
  split
  · exact Int.le_trans (ndd_ge S c x p m).1 (rup_ge _ _)
  · exact Int.le_refl _
theorem stp_le {m : Nat} {S b : Nat → Bool} {c : Nat → Nat → Int} {x l : Nat → Int} (hl : FV m S b c l) (h : ∀ p : Nat, p < m → S p = true → x p ≤ l p) {p : Nat} (hp : p < m) (hs : S p = true) : stp m S b c x p ≤ l p := by
  unfold stp
  rw [if_pos hs]
  exact rup_le (ndd_le (h p hp hs) (fun q h1 h2 => Int.le_trans (Int.add_le_add_right (h q h1 h2) _) ((hl p hp hs).2 q h1 h2))) (hl p hp hs).1
theorem stp_mono {m : Nat} {S b : Nat → Bool} {c : Nat → Nat → Int} {x y : Nat → Int} (h : ∀ p : Nat, p < m → x p ≤ y p) {p : Nat} (hp : p < m) : stp m S b c x p ≤ stp m S b c y p := by
  unfold stp
  split
  · refine rup_mono _ (ndd_le (Int.le_trans (h p hp) (ndd_ge S c y p m).1) (fun q h1 h2 => Int.le_trans (Int.add_le_add_right (h q h1) _) ((ndd_ge S c y p m).2 q h1 h2)))
  · exact h p hp
theorem itr_mono (m : Nat) (S b : Nat → Bool) (c : Nat → Nat → Int) (x : Nat → Int) (p : Nat) {i j : Nat} (h : i ≤ j) : itr m S b c x i p ≤ itr m S b c x j p := by
  induction j with
  | zero =>
    have : i = 0 := by omega
    subst this
    exact Int.le_refl _
  | succ j ih =>
    by_cases e : i = j + 1
    · subst e
      exact Int.le_refl _
    · exact Int.le_trans (ih (by omega)) (stp_ge m S b c _ p)
theorem itr_le {m : Nat} {S b : Nat → Bool} {c : Nat → Nat → Int} {x l : Nat → Int} (hl : FV m S b c l) (h : ∀ p : Nat, p < m → S p = true → x p ≤ l p) (k : Nat) : ∀ p : Nat, p < m → S p = true → itr m S b c x k p ≤ l p := by
  induction k with
  | zero => exact h
  | succ k ih => exact fun p hp hs => stp_le hl ih hp hs
theorem itr_10 {m : Nat} {S b : Nat → Bool} {c : Nat → Nat → Int} {x : Nat → Int} (h : ∀ p : Nat, b p = true → x p % 10 = 0) (k : Nat) : ∀ p : Nat, b p = true → itr m S b c x k p % 10 = 0 := by
  induction k with
  | zero => exact h
  | succ k ih =>
    intro p hb
    show stp m S b c (itr m S b c x k) p % 10 = 0
    unfold stp
    split
    · exact rup_10 _ _ hb
    · exact ih p hb
theorem raised {m : Nat} {S b : Nat → Bool} {c : Nat → Nat → Int} {x : Nat → Int} (h10 : ∀ p : Nat, b p = true → x p % 10 = 0) {k p : Nat} (hp : p < m) (h : itr m S b c x k p < itr m S b c x (k + 1) p) :
    S p = true ∧ ∃ q : Nat, q < m ∧ S q = true ∧ itr m S b c x (k + 1) p = rup (b p) (itr m S b c x k q + c q p) ∧ (0 < k → itr m S b c x (k - 1) q < itr m S b c x k q) := by
  have hs : S p = true := by
    cases e : S p with
    | true => rfl
    | false =>
      have : itr m S b c x (k + 1) p = itr m S b c x k p := by
        show stp m S b c (itr m S b c x k) p = _
        unfold stp
        rw [e]
        rfl
      omega
  refine ⟨hs, ?_⟩
  have e1 : itr m S b c x (k + 1) p = rup (b p) (ndd S c (itr m S b c x k) p m) := by
    show stp m S b c (itr m S b c x k) p = _
    unfold stp
    rw [if_pos hs]
  rcases ndd_at S c (itr m S b c x k) p m with h1 | ⟨q, h1, h2, h3⟩
  · rw [h1, rup_fix (itr_10 h10 k p)] at e1
    omega
  · refine ⟨q, h1, h2, by rw [e1, h3], fun hk => ?_⟩
    obtain ⟨k', rfl⟩ : ∃ k' : Nat, k = k' + 1 := ⟨k - 1, by omega⟩
    show itr m S b c x k' q < itr m S b c x (k' + 1) q
    have h4 := itr_mono m S b c x q (show k' ≤ k' + 1 by omega)
    by_cases e : itr m S b c x k' q = itr m S b c x (k' + 1) q
    · have h5 : rup (b p) (itr m S b c x k' q + c q p) ≤ itr m S b c x (k' + 1) p := by
        show _ ≤ stp m S b c (itr m S b c x k') p
        unfold stp
        rw [if_pos hs]
        exact rup_mono _ ((ndd_ge S c (itr m S b c x k') p m).2 q h1 h2)
      rw [e, ← h3, ← e1] at h5
      omega
    · omega
theorem chain {m : Nat} {S b : Nat → Bool} {c : Nat → Nat → Int} {x : Nat → Int} (h10 : ∀ p : Nat, b p = true → x p % 10 = 0) : ∀ (n p : Nat), p < m → itr m S b c x n p < itr m S b c x (n + 1) p →
    ∃ P : Nat → Nat, P (n + 1) = p ∧ (∀ k : Nat, k ≤ n + 1 → P k < m ∧ S (P k) = true) ∧ ∀ k : Nat, k ≤ n → itr m S b c x (k + 1) (P (k + 1)) = rup (b (P (k + 1))) (itr m S b c x k (P k) + c (P k) (P (k + 1))) ∧ itr m S b c x k (P (k + 1)) < itr m S b c x (k + 1) (P (k + 1)) := by
  intro n
  induction n with
  | zero =>
    intro p hp h
    obtain ⟨hs, q, h1, h2, h3, _⟩ := raised h10 hp h
    refine ⟨fun k => if k = 0 then q else p, rfl, fun k hk => ?_, fun k hk => ?_⟩
    · by_cases e : k = 0
      · simp only [e, if_true]
        exact ⟨h1, h2⟩
      · simp only [e, if_false]
        exact ⟨hp, hs⟩
    · have e : k = 0 := by omega
      subst e
      exact ⟨h3, h⟩
  | succ n ih =>
    intro p hp h
    obtain ⟨hs, q, h1, h2, h3, h4⟩ := raised h10 hp h
    obtain ⟨P, p1, p2, p3⟩ := ih q h1 (h4 (by omega))
    refine ⟨fun k => if k ≤ n + 1 then P k else p, if_neg (by omega), fun k hk => ?_, fun k hk => ?_⟩
    · by_cases e : k ≤ n + 1
      · simp only [e, if_true]
        exact p2 k e
      · simp only [e, if_false]
        exact ⟨hp, hs⟩
    · by_cases e : k ≤ n
      · have e1 : k ≤ n + 1 := by omega
        have e2 : k + 1 ≤ n + 1 := by omega
        simp only [e1, e2, if_true]
        exact p3 k e
      · have e1 : k = n + 1 := by omega
        subst e1
        have e2 : ¬ (n + 1 + 1 ≤ n + 1) := by omega
        have e3 : n + 1 ≤ n + 1 := Nat.le_refl _
        simp only [e2, e3, if_true, if_false, p1]
        exact ⟨h3, h⟩
theorem no_cycle {m n : Nat} {S b : Nat → Bool} {c : Nat → Nat → Int} {x l : Nat → Int} (h10 : ∀ p : Nat, b p = true → x p % 10 = 0) (hl : FV m S b c l) {P : Nat → Nat} (p2 : ∀ k : Nat, k ≤ n + 1 → P k < m ∧ S (P k) = true)
    (p3 : ∀ k : Nat, k ≤ n → itr m S b c x (k + 1) (P (k + 1)) = rup (b (P (k + 1))) (itr m S b c x k (P k) + c (P k) (P (k + 1))) ∧ itr m S b c x k (P (k + 1)) < itr m S b c x (k + 1) (P (k + 1)))
    {i j : Nat} (hij : i < j) (hj : j ≤ n + 1) (e : P i = P j) (hb : b (P i) = true ∨ ∀ t : Nat, i < t → t ≤ j → ¬ b (P t) = true) : False := by
  have step : ∀ t : Nat, i + t ≤ j → itr m S b c x (i + t) (P (i + t)) ≤ l (P (i + t)) + (itr m S b c x i (P i) - l (P i)) := by
    intro t
    induction t with
    | zero =>
      intro _
      show itr m S b c x i (P i) ≤ l (P i) + (itr m S b c x i (P i) - l (P i))
      omega
    | succ t ih =>
      intro ht
      have h1 := ih (by omega)
      have h2 := (p3 (i + t) (by omega)).1
      have h3 := hl (P (i + t + 1)) (p2 (i + t + 1) (by omega)).1 (p2 (i + t + 1) (by omega)).2
      have h4 := h3.2 (P (i + t)) (p2 (i + t) (by omega)).1 (p2 (i + t) (by omega)).2
      have hd : b (P (i + t + 1)) = true → (itr m S b c x i (P i) - l (P i)) % 10 = 0 := fun hbt => by
        rcases hb with hb | hb
        · have a1 := itr_10 (m := m) (S := S) (c := c) h10 i (P i) hb
          have a2 := (hl (P i) (p2 i (by omega)).1 (p2 i (by omega)).2).1 hb
          omega
        · exact absurd hbt (hb (i + t + 1) (by omega) (by omega))
      rw [show i + (t + 1) = i + t + 1 from rfl, h2]
      have h5 : rup (b (P (i + t + 1))) (itr m S b c x (i + t) (P (i + t)) + c (P (i + t)) (P (i + t + 1))) ≤ rup (b (P (i + t + 1))) ((l (P (i + t)) + c (P (i + t)) (P (i + t + 1))) + (itr m S b c x i (P i) - l (P i))) := rup_mono _ (by omega)
      rw [rup_add hd] at h5
      have h6 := rup_le (b := b (P (i + t + 1))) h4 h3.1
      omega
  obtain ⟨t, rfl⟩ : ∃ t : Nat, j = i + t := ⟨j - i, by omega⟩
  have h1 := step t (Nat.le_refl _)
  rw [← e] at h1
  obtain ⟨t', rfl⟩ : ∃ t' : Nat, t = t' + 1 := ⟨t - 1, by omega⟩
  have h2 := (p3 (i + t') (by omega)).2
  rw [show i + t' + 1 = i + (t' + 1) from rfl, ← e] at h2
  have h3 := itr_mono m S b c x (P i) (show i ≤ i + t' by omega)
  omega
theorem still {m : Nat} {S b : Nat → Bool} {c : Nat → Nat → Int} {x l : Nat → Int} (hm : m ≤ 6) (h10 : ∀ p : Nat, b p = true → x p % 10 = 0) (hl : FV m S b c l) (p : Nat) (hp : p < m) : itr m S b c x 63 p = itr m S b c x 64 p := by
  by_cases h : itr m S b c x 63 p < itr m S b c x (63 + 1) p
  · exfalso
    obtain ⟨P, p1, p2, p3⟩ := chain h10 63 p hp h
    have win : ∀ w : Nat, w ≤ 6 → ∃ t : Nat, 7 * w ≤ t ∧ t ≤ 7 * w + 6 ∧ b (P t) = true := by
      intro w hw
      refine Classical.byContradiction (fun hn => ?_)
      obtain ⟨i, j, hij, hj, e⟩ := php 6 (fun i => P (7 * w + i)) (fun i hi => by
        have := (p2 (7 * w + i) (by omega)).1
        show P (7 * w + i) < 6
        omega)
      exact no_cycle h10 hl p2 p3 (i := 7 * w + i) (j := 7 * w + j) (by omega) (by omega) e (Or.inr (fun t h1 h2 hb => hn ⟨t, by omega, by omega, hb⟩))
    have tw : ∃ T : Nat → Nat, ∀ w : Nat, w ≤ 6 → 7 * w ≤ T w ∧ T w ≤ 7 * w + 6 ∧ b (P (T w)) = true := by
      refine ⟨fun w => if hw : w ≤ 6 then Classical.choose (win w hw) else 0, fun w hw => ?_⟩
      simp only [dif_pos hw]
      exact Classical.choose_spec (win w hw)
    obtain ⟨T, hT⟩ := tw
    obtain ⟨i, j, hij, hj, e⟩ := php 6 (fun w => P (T w)) (fun w hw => by
      have h1 := hT w hw
      have := (p2 (T w) (by omega)).1
      show P (T w) < 6
      omega)
    have h1 := hT i (by omega)
    have h2 := hT j (by omega)
    exact no_cycle h10 hl p2 p3 (i := T i) (j := T j) (by omega) (by omega) e (Or.inl h1.2.2)
  · have := itr_mono m S b c x p (show 63 ≤ 63 + 1 by omega)
    have h2 : itr m S b c x (63 + 1) p = itr m S b c x 64 p := rfl
    omega
theorem xor_sign {a b : Int} (ha : -2147483648 ≤ a ∧ a < 2147483648) (hb : 0 ≤ b ∧ b < 2147483648) : (0 ≤ (J a ^^^ J b)) = (0 ≤ a) := by
  rw [Int32.le_iff_toInt_le]
  show ((0 : Int) ≤ (J a ^^^ J b).toBitVec.toInt) = _
  rw [Int32.toBitVec_xor]
  have h1 := @BitVec.msb_eq_toInt 32 ((J a).toBitVec ^^^ (J b).toBitVec)
  have h2 := @BitVec.msb_eq_toInt 32 (J a).toBitVec
  have h3 := @BitVec.msb_eq_toInt 32 (J b).toBitVec
  rw [BitVec.msb_xor, h2, h3] at h1
  have ea : (J a).toBitVec.toInt = a := toInt_J ha.1 ha.2
  have eb : (J b).toBitVec.toInt = b := toInt_J (by omega) (by omega)
  rw [ea, eb] at h1
  have n3 : decide (b < 0) = false := decide_eq_false (by omega)
  rw [n3, Bool.xor_false] at h1
  by_cases q : a < 0
  · rw [decide_eq_true q] at h1
    have := of_decide_eq_true h1.symm
    exact propext ⟨fun h => by omega, fun h => by omega⟩
  · rw [decide_eq_false q] at h1
    have := of_decide_eq_false h1.symm
    exact propext ⟨fun h => by omega, fun h => by omega⟩
theorem fdv_J {a : Int} (ha : -2147483000 ≤ a ∧ a < 2147483000) : fdv (J a) 10 = J (a / 10) := by
  unfold fdv
  have e10 : (10 : Int32) = J 10 := J_lit 10
  rw [e10]
  have hx := xor_sign (a := a) (b := 10) (by omega) (by omega)
  have ht := td10 a
  simp only [hx]
  rw [J_div (by omega)]
  by_cases q : 0 ≤ a
  · rw [if_pos q] at ht ⊢
    rw [ht]
  · rw [if_neg q] at ht ⊢
    have hm : (J (a.tdiv 10) * J 10 = J a) = (a.tdiv 10 * 10 = a) := by
      rw [J_mul, J_eq (by omega)]
    simp only [hm]
    split
    · congr 1
      omega
    · rw [J_lit, J_sub]
      congr 1
      omega
def lowz (k : Int) : Int := if k = 1 then -520 else -500
theorem lowz_b (k : Int) : -520 ≤ lowz k ∧ lowz k ≤ -500 := by
  unfold lowz
  omega
def LF (a : Nat → Int) (n : Int) (s : Nat) (l : Nat → Int) : Prop :=
  (∀ p : Nat, (p : Int) < a 56 → lowz (a (24 + 5 * p)) ≤ l p ∧ l p ≤ lowz (a (24 + 5 * p)) + 1000 ∧ (a (24 + 5 * p) = 3 → l p % 10 = 0))
  ∧ ∀ e : Nat, (e : Int) < a 55 → ∀ u v : Nat × Int × Int, u ∈ hl a s e (a 56).toNat → v ∈ hl a s e (a 56).toNat → l u.1 + u.2.1 - (l v.1 + v.2.1) ≤ n
def Att (a : Nat → Int) (n : Int) (g : Nat → Int) : Prop :=
  ∀ i : Nat, i < 36 → g i = -100000 ∨ ∃ (e : Nat) (u v : Nat × Int × Int), (e : Int) < a 55 ∧ u ∈ hl a 0 e (a 56).toNat ∧ v ∈ hl a 0 e (a 56).toNat ∧ i = 6 * u.1 + v.1 ∧ g i = u.2.1 - v.2.1 - n
def bnd (n : Int) (g : Nat → Int) (u v : Nat × Int × Int) : Prop := u.2.1 - v.2.1 - n ≤ g (6 * u.1 + v.1)
def CL (a : Nat → Int) (n : Int) (g : Nat → Int) : Prop :=
  Att a n g ∧ ∀ e : Nat, (e : Int) < a 55 → ∀ u v : Nat × Int × Int, u ∈ hl a 0 e (a 56).toNat → v ∈ hl a 0 e (a 56).toNat → bnd n g u v
theorem att_b {a : Nat → Int} {n : Int} {g : Nat → Int} (hs : WS a) (hb : WB a) (hn : 0 ≤ n ∧ n ≤ 999) (h : Att a n g) {i : Nat} (hi : i < 36) : -100000 ≤ g i ∧ g i ≤ 5000 := by
  rcases h i hi with h | ⟨e, u, v, he, hu, hv, _, h⟩
  · omega
  · have n56 := hb.1
    obtain ⟨_, _, b1, _⟩ := hl_mem hs hb he (by omega) hu
    obtain ⟨_, _, b2, _⟩ := hl_mem hs hb he (by omega) hv
    omega
theorem hl_who {a : Nat → Int} (hs : WS a) (hb : WB a) {s e : Nat} (he : (e : Int) < a 55) {u : Nat × Int × Int} (h : u ∈ hl a s e (a 56).toNat) : u.1 < 6 ∧ (u.1 : Int) < a 56 ∧ (0 ≤ u.2.1 ∧ u.2.1 ≤ 4000) ∧ s.testBit u.1 = false := by
  have n56 := hb.1
  obtain ⟨h1, h2, h3, _⟩ := hl_mem hs hb he (by omega) h
  exact ⟨by omega, by omega, h3, (awk_t.mp h2).2⟩
theorem hl_sub {a : Nat → Int} {s e : Nat} {u : Nat × Int × Int} : ∀ {j : Nat}, u ∈ hl a s e j → u ∈ hl a 0 e j := by
  intro j
  induction j with
  | zero => exact id
  | succ j ih =>
    intro h
    unfold hl at h ⊢
    rcases List.mem_append.mp h with h | h
    · exact List.mem_append.mpr (Or.inl (ih h))
    · refine List.mem_append.mpr (Or.inr ?_)
      by_cases q : awk a s j = true
      · rw [if_pos q] at h
        rw [if_pos (awk_t.mpr ⟨(awk_t.mp q).1, Nat.zero_testBit j⟩)]
        exact h
      · rw [if_neg q] at h
        cases h
theorem hl_sup {a : Nat → Int} (hs : WS a) (hb : WB a) {s e : Nat} (he : (e : Int) < a 55) {u : Nat × Int × Int} (hu : s.testBit u.1 = false) : ∀ {j : Nat}, (j : Int) ≤ a 56 → u ∈ hl a 0 e j → u ∈ hl a s e j := by
  intro j
  induction j with
  | zero => intro _ h; exact h
  | succ j ih =>
    intro hj h
    unfold hl at h ⊢
    rcases List.mem_append.mp h with h | h
    · exact List.mem_append.mpr (Or.inl (ih (by omega) h))
    · refine List.mem_append.mpr (Or.inr ?_)
      by_cases q : awk a 0 j = true
      · rw [if_pos q] at h
        have e1 := (sxp_mem hs he (hb.2.2.2.1 j (by omega)) h).1
        rw [if_pos (awk_t.mpr ⟨(awk_t.mp q).1, by rw [← e1]; exact hu⟩)]
        exact h
      · rw [if_neg q] at h
        cases h
theorem c_pair {u v : Nat × Int × Int} : J (u.1 : Int) * 6 + J (v.1 : Int) = J ((6 * u.1 + v.1 : Nat) : Int) := by
  rw [J_lit, J_mul, J_add]
  congr 1
  omega
def PR (a : Nat → Int) (n : Int) (g : Nat → Int) (e i j : Nat) : Prop :=
  (∀ e' : Nat, e' < e → ∀ u v : Nat × Int × Int, u ∈ hl a 0 e' (a 56).toNat → v ∈ hl a 0 e' (a 56).toNat → bnd n g u v)
  ∧ (∀ (i' : Nat) (u v : Nat × Int × Int), i' < i → (hl a 0 e (a 56).toNat)[i']? = some u → v ∈ hl a 0 e (a 56).toNat → bnd n g u v)
  ∧ (∀ (j' : Nat) (u v : Nat × Int × Int), j' < j → (hl a 0 e (a 56).toNat)[i]? = some u → (hl a 0 e (a 56).toNat)[j']? = some v → bnd n g u v)
theorem PR.up {a : Nat → Int} {n : Int} {g g' : Nat → Int} {e i j : Nat} (h : PR a n g e i j) (hg : ∀ x : Nat, g x ≤ g' x) : PR a n g' e i j :=
  ⟨fun e' he u v hu hv => Int.le_trans (h.1 e' he u v hu hv) (hg _), fun i' u v hi hu hv => Int.le_trans (h.2.1 i' u v hi hu hv) (hg _), fun j' u v hj hu hv => Int.le_trans (h.2.2 j' u v hj hu hv) (hg _)⟩
theorem PR.nexti {a : Nat → Int} {n : Int} {g : Nat → Int} {e i : Nat} (h : PR a n g e i (hl a 0 e (a 56).toNat).length) : PR a n g e (i + 1) 0 := by
  refine ⟨h.1, fun i' u v hi hu hv => ?_, fun j' u v hj _ _ => absurd hj (Nat.not_lt_zero _)⟩
  by_cases q : i' = i
  · subst q
    obtain ⟨j', hj'⟩ := List.getElem?_of_mem hv
    refine h.2.2 j' u v ?_ hu hj'
    by_cases c : j' < (hl a 0 e (a 56).toNat).length
    · exact c
    · rw [List.getElem?_eq_none (by omega)] at hj'
      cases hj'
  · exact h.2.1 i' u v (by omega) hu hv
theorem PR.nexte {a : Nat → Int} {n : Int} {g : Nat → Int} {e : Nat} (h : PR a n g e (hl a 0 e (a 56).toNat).length 0) : PR a n g (e + 1) 0 0 := by
  refine ⟨fun e' he u v hu hv => ?_, fun i' u v hi _ _ => absurd hi (Nat.not_lt_zero _), fun j' u v hj _ _ => absurd hj (Nat.not_lt_zero _)⟩
  by_cases q : e' = e
  · subst q
    obtain ⟨i', hi'⟩ := List.getElem?_of_mem hu
    refine h.2.1 i' u v ?_ hi' hv
    by_cases c : i' < (hl a 0 e' (a 56).toNat).length
    · exact c
    · rw [List.getElem?_eq_none (by omega)] at hi'
      cases hi'
  · exact h.1 e' (by omega) u v hu hv
def CR (f : Nat → Int32) (g : Nat → Int) : Prop := ∀ i : Nat, i < 36 → f i = J (g i)
theorem w63 (k : Nat) (hk : 100 < k) {d d3 X : Dat} {a : Nat → Int} (hs : WS a) (hb : WB a) {n : Int} (hn : 0 ≤ n ∧ n ≤ 999) {e i : Nat} (he : (e : Int) < a 55) (hL : HR (d3.1 0) (d3.2 1) (d3.2 2) (d3.2 3) (hl a 0 e (a 56).toNat)) (hi : i < (hl a 0 e (a 56).toNat).length)
    {g : Nat → Int} (hC : CR (X.2 0) g) (hA : Att a n g) (hP : PR a n g e i 0) :
    ∃ w : Dat, (∀ K : Dat → Option (Dat × Dat), lp (fX5_weigh_B63 k (J n) (J i) d d3 K) k (0, X) = K w) ∧ ∃ g' : Nat → Int, CR (w.2 0) g' ∧ Att a n g' ∧ PR a n g' e (i + 1) 0 := by
  have n56 := hb.1
  have hlen := hl_len a 0 e (a 56).toNat
  have hL0 := hL.1
  obtain ⟨u, u0, um, ua, ub, _⟩ := HR_at hL hi
  obtain ⟨uw, _, uv, _⟩ := hl_who hs hb he um
  refine lp_forK (fun (j : Nat) (v : Int32 × Dat) => v.1 = J j ∧ ∃ g' : Nat → Int, CR (v.2.2 0) g' ∧ Att a n g' ∧ PR a n g' e i j) (hl a 0 e (a 56).toNat).length (fun w : Dat => ∃ g' : Nat → Int, CR (w.2 0) g' ∧ Att a n g' ∧ PR a n g' e (i + 1) 0) ?_ ?_ ⟨rfl, g, hC, hA, hP⟩ (by omega)
  · intro j v hj ⟨hv, g', hC, hA, hP⟩
    obtain ⟨x, w⟩ := v
    have hv' : x = J j := hv
    subst hv'
    replace hC : CR (w.2 0) g' := hC
    obtain ⟨q, q0, qm, qa, qb, _⟩ := HR_at hL hj
    obtain ⟨qw, _, qv, _⟩ := hl_who hs hb he qm
    have hx : 6 * u.1 + q.1 < 36 := by omega
    have gb := att_b hs hb hn hA hx
    have cc := hC (6 * u.1 + q.1) hx
    have hq : (J ((hl a 0 e (a 56).toNat).length : Nat) ≤ J (j : Int)) = False := by rw [J_le (by omega)]; exact eq_false (by omega)
    have hlt : (J (g' (6 * u.1 + q.1)) < J (u.2.1 - q.2.1 - n)) = (g' (6 * u.1 + q.1) < u.2.1 - q.2.1 - n) := by rw [J_lt (by omega)]
    have ge : ∀ x : Nat, g' x ≤ zup g' (6 * u.1 + q.1) (if g' (6 * u.1 + q.1) < u.2.1 - q.2.1 - n then u.2.1 - q.2.1 - n else g' (6 * u.1 + q.1)) x := fun x => by
      by_cases c : x = 6 * u.1 + q.1
      · subst c
        rw [zup_same]
        split <;> omega
      · rw [zup_ne c]
        exact Int.le_refl _
    refine ⟨(J ((j + 1 : Nat) : Int), (d.1, va_up d.2 0 (upd (w.2 0) (6 * u.1 + q.1) (J (if g' (6 * u.1 + q.1) < u.2.1 - q.2.1 - n then u.2.1 - q.2.1 - n else g' (6 * u.1 + q.1)))))), fun K rec => ?_, rfl, zup g' (6 * u.1 + q.1) (if g' (6 * u.1 + q.1) < u.2.1 - q.2.1 - n then u.2.1 - q.2.1 - n else g' (6 * u.1 + q.1)), fun x hx' => ?_, fun x hx' => ?_, ?_⟩
    · unfold fX5_weigh_B63
      simp (disch := omega) only [hL0, hq, if_false, chk_J, J_nat, Int.toNat_natCast, ua, qa, c_pair, ub, qb, J_sub, cc, hlt, J_ite, J_suc]
    · show upd (w.2 0) (6 * u.1 + q.1) _ x = _
      by_cases c : x = 6 * u.1 + q.1
      · subst c
        rw [upd_same, zup_same]
      · rw [upd_ne c, zup_ne c]
        exact hC x hx'
    · by_cases c : x = 6 * u.1 + q.1
      · rw [c, zup_same]
        by_cases c2 : g' (6 * u.1 + q.1) < u.2.1 - q.2.1 - n
        · rw [if_pos c2]
          exact Or.inr ⟨e, u, q, he, um, qm, rfl, rfl⟩
        · rw [if_neg c2]
          exact hA _ hx
      · rw [zup_ne c]
        exact hA x hx'
    · have hP' := hP.up ge
      refine ⟨hP'.1, hP'.2.1, fun j' u' v' hj' hu' hv' => ?_⟩
      by_cases c : j' = j
      · subst c
        rw [u0] at hu'
        rw [q0] at hv'
        cases hu'
        cases hv'
        unfold bnd
        rw [zup_same]
        split <;> omega
      · exact hP'.2.2 j' u' v' (by omega) hu' hv'
  · intro v ⟨hv, g', hC, hA, hP⟩
    obtain ⟨x, w⟩ := v
    have hv' : x = J ((hl a 0 e (a 56).toNat).length : Nat) := hv
    subst hv'
    have hq : (J ((hl a 0 e (a 56).toNat).length : Nat) ≤ J ((hl a 0 e (a 56).toNat).length : Nat)) = True := by rw [J_le (by omega)]; exact eq_true (by omega)
    refine ⟨(d.1, va_up d.2 0 (w.2 0)), fun K rec => ?_, g', hC, hA, hP.nexti⟩
    unfold fX5_weigh_B63
    simp only [hL0, hq, if_true]
theorem w51 (k : Nat) (hk : 100 < k) {d d3 X : Dat} {a : Nat → Int} (hs : WS a) (hb : WB a) {n : Int} (hn : 0 ≤ n ∧ n ≤ 999) {e : Nat} (he : (e : Int) < a 55) (hL : HR (d3.1 0) (d3.2 1) (d3.2 2) (d3.2 3) (hl a 0 e (a 56).toNat))
    {g : Nat → Int} (hC : CR (X.2 0) g) (hA : Att a n g) (hP : PR a n g e 0 0) :
    ∃ w : Dat, (∀ K : Dat → Option (Dat × Dat), lp (fX5_weigh_B51 k (J n) d d3 K) k (0, X) = K w) ∧ ∃ g' : Nat → Int, CR (w.2 0) g' ∧ Att a n g' ∧ PR a n g' (e + 1) 0 0 := by
  have n56 := hb.1
  have hlen := hl_len a 0 e (a 56).toNat
  have hL0 := hL.1
  refine lp_forK (fun (j : Nat) (v : Int32 × Dat) => v.1 = J j ∧ ∃ g' : Nat → Int, CR (v.2.2 0) g' ∧ Att a n g' ∧ PR a n g' e j 0) (hl a 0 e (a 56).toNat).length (fun w : Dat => ∃ g' : Nat → Int, CR (w.2 0) g' ∧ Att a n g' ∧ PR a n g' (e + 1) 0 0) ?_ ?_ ⟨rfl, g, hC, hA, hP⟩ (by omega)
  · intro j v hj ⟨hv, g', hC, hA, hP⟩
    obtain ⟨x, w⟩ := v
    have hv' : x = J j := hv
    subst hv'
    replace hC : CR (w.2 0) g' := hC
    have hq : (J ((hl a 0 e (a 56).toNat).length : Nat) ≤ J (j : Int)) = False := by rw [J_le (by omega)]; exact eq_false (by omega)
    obtain ⟨w3, e3, g3, c3, a3, p3⟩ := w63 k hk (d := (d.1, va_up d.2 0 (w.2 0))) (X := (d.1, va_up d.2 0 (w.2 0))) hs hb hn he hL hj hC hA hP
    refine ⟨(J ((j + 1 : Nat) : Int), (d.1, va_up d.2 0 (w3.2 0))), fun K rec => ?_, rfl, g3, c3, a3, p3⟩
    unfold fX5_weigh_B51
    simp only [hL0, hq, if_false, e3, J_suc]
  · intro v ⟨hv, g', hC, hA, hP⟩
    obtain ⟨x, w⟩ := v
    have hv' : x = J ((hl a 0 e (a 56).toNat).length : Nat) := hv
    subst hv'
    have hq : (J ((hl a 0 e (a 56).toNat).length : Nat) ≤ J ((hl a 0 e (a 56).toNat).length : Nat)) = True := by rw [J_le (by omega)]; exact eq_true (by omega)
    refine ⟨(d.1, va_up d.2 0 (w.2 0)), fun K rec => ?_, g', hC, hA, hP.nexte⟩
    unfold fX5_weigh_B51
    simp only [hL0, hq, if_true]
set_option maxHeartbeats 2000000 in
theorem c_weigh (k : Nat) (hk : 100 < k) {d st bd h8 : Dat} {a : Nat → Int} (hS : SS st a) (hB : BB bd a) (hs : WS a) (hb : WB a) {n : Int} (hn : 0 ≤ n ∧ n ≤ 999) :
    ∃ d' h', fX5_weigh k d st bd h8 (J n) = some (d', h') ∧ ∃ g : Nat → Int, CR (d'.2 0) g ∧ CL a n g := by
  have n55 := hs.2.1
  have n56 := hb.1
  have h3 := hS.1.2.1
  unfold fX5_weigh
  refine lp_for (fun (j : Nat) (v : Int32 × Dat) => v.1 = J j ∧ ∀ i : Nat, i < j → v.2.2 0 i = J (-100000)) 36 (fun (o : Option (Dat × Dat)) => ∃ d' h', o = some (d', h') ∧ ∃ g : Nat → Int, CR (d'.2 0) g ∧ CL a n g) ?_ ?_ ⟨rfl, fun i hi => absurd hi (Nat.not_lt_zero i)⟩ (by omega)
  · intro j v hj ⟨hv, h1⟩
    obtain ⟨i, w⟩ := v
    have hv' : i = J j := hv
    subst hv'
    replace h1 : ∀ i : Nat, i < j → w.2 0 i = J (-100000) := h1
    have hq : (Int32.ofNat 36 ≤ J (j : Int)) = False := by rw [J_ofNat, J_le (by omega)]; exact eq_false (by omega)
    left
    apply Exists.intro
    refine ⟨fun rec => ?_, ?_, fun i hi => ?_⟩
    · unfold fX5_weigh_B3
      simp (disch := omega) only [hq, if_false, chk_J, J_nat, Int.toNat_natCast, J_suc]
      all_goals exact rfl
    · rfl
    · show upd (w.2 0) j (-100000) i = _
      by_cases e : i = j
      · subst e
        rw [upd_same]
        rfl
      · rw [upd_ne e]
        exact h1 i (by omega)
  · intro v ⟨hv, h1⟩ rec
    obtain ⟨i, w⟩ := v
    have hv' : i = J ((36 : Nat) : Int) := hv
    subst hv'
    replace h1 : ∀ i : Nat, i < 36 → w.2 0 i = J (-100000) := h1
    unfold fX5_weigh_B3
    rw [if_pos (show Int32.ofNat 36 ≤ J ((36 : Nat) : Int) from by decide)]
    refine lp_for (fun (e : Nat) (v : Int32 × Dat × Dat) => v.1 = J e ∧ ∃ g : Nat → Int, CR (v.2.1.2 0) g ∧ Att a n g ∧ PR a n g e 0 0) (a 55).toNat (fun (o : Option (Dat × Dat)) => ∃ d' h', o = some (d', h') ∧ ∃ g : Nat → Int, CR (d'.2 0) g ∧ CL a n g) ?_ ?_ ⟨rfl, fun _ => -100000, h1, fun i hi => Or.inl rfl, fun e' he => absurd he (Nat.not_lt_zero _), fun i' u v hi => absurd hi (Nat.not_lt_zero _), fun j' u v hj => absurd hj (Nat.not_lt_zero _)⟩ (by omega)
    · intro e v he ⟨hv, g, hC, hA, hP⟩
      obtain ⟨i, w1, w2⟩ := v
      have hv' : i = J e := hv
      subst hv'
      replace hC : CR (w1.2 0) g := hC
      have he' : (e : Int) < a 55 := by omega
      obtain ⟨d1, e1, hL⟩ := c_listen k hk (d := (w2.1, va_up (va_up (va_up h8.2 1 (w2.2 1)) 2 (w2.2 2)) 3 (w2.2 3))) hS hB hs hb he'
      have hlen := hl_len a 0 e (a 56).toNat
      have hq : (J (a 55) ≤ J e) = False := by rw [J_le (by omega)]; exact eq_false (by omega)
      have hL0 := hL.1
      left
      obtain ⟨w3, e3, g3, c3, a3, p3⟩ := w51 k hk (d := (d.1, va_up (va_up d.2 0 (va_up d.2 0 (w.2 0) 0)) 0 (w1.2 0))) (d3 := (d1.1, va_up (va_up (va_up h8.2 1 (d1.2 1)) 2 (d1.2 2)) 3 (d1.2 3))) (X := (d.1, va_up (va_up d.2 0 (va_up d.2 0 (w.2 0) 0)) 0 (w1.2 0))) hs hb hn he' hL hC hA hP
      apply Exists.intro
      refine ⟨fun rec => ?_, ?_, g3, ?_, a3, p3⟩
      · unfold fX5_weigh_B31
        simp only [h3, hq, if_false, e1, Option.bind_some, e3, J_suc]
        all_goals exact rfl
      · rfl
      · exact c3
    · intro v ⟨hv, g, hC, hA, hP⟩ rec
      obtain ⟨i, w1, w2⟩ := v
      have hv' : i = J ((a 55).toNat : Nat) := hv
      subst hv'
      have hq : (J (a 55) ≤ J ((a 55).toNat : Nat)) = True := by rw [J_le (by omega)]; exact eq_true (by omega)
      unfold fX5_weigh_B31
      simp only [h3, hq, if_true]
      exact ⟨_, _, rfl, g, hC, hA, fun e he u v hu hv => hP.1 e (by omega) u v hu hv⟩
theorem lp_forKE {σ ω ρ : Type} {B : (ω → Option ρ) → (σ → Option ρ) → σ → Option ρ} (I : Nat → σ → Prop) (n : Nat) (P : ω → Prop)
    (hs : ∀ j v, j < n → I j v → (∃ v1, (∀ K rec, B K rec v = rec v1) ∧ I (j + 1) v1) ∨ (∃ w, (∀ K rec, B K rec v = K w) ∧ P w))
    (he : ∀ v, I n v → ∃ w, (∀ K rec, B K rec v = K w) ∧ P w) {k : Nat} {v : σ} (h0 : I 0 v) (hk : n < k) : ∃ w, (∀ K, lp (B K) k v = K w) ∧ P w := by
  have key : ∀ m, m ≤ n → ∀ k v, I (n - m) v → m < k → ∃ w, (∀ K, lp (B K) k v = K w) ∧ P w := by
    intro m
    induction m with
    | zero =>
      intro _ k v hv hk
      cases k with
      | zero => omega
      | succ k =>
        obtain ⟨w, h1, h2⟩ := he v hv
        exact ⟨w, fun K => h1 K _, h2⟩
    | succ m ih =>
      intro hm k v hv hk
      cases k with
      | zero => omega
      | succ k =>
        rcases hs (n - (m + 1)) v (by omega) hv with ⟨v1, h1, h2⟩ | ⟨w, h1, h2⟩
        · have e : n - (m + 1) + 1 = n - m := by omega
          rw [e] at h2
          obtain ⟨w, h3, h4⟩ := ih (by omega) k v1 h2 (by omega)
          exact ⟨w, fun K => (h1 K _).trans (h3 K), h4⟩
        · exact ⟨w, fun K => h1 K _, h2⟩
  have e : n - n = 0 := Nat.sub_self n
  exact key n (Nat.le_refl n) k v (by rw [e]; exact h0) hk
def bS (S : Nat) (p : Nat) : Bool := S.testBit p
def b3 (a : Nat → Int) (p : Nat) : Bool := decide (a (24 + 5 * p) = 3)
def cq (g : Nat → Int) (q p : Nat) : Int := g (6 * q + p)
def lw (a : Nat → Int) (p : Nat) : Int := lowz (a (24 + 5 * p))
theorem b3_t {a : Nat → Int} {p : Nat} : b3 a p = true ↔ a (24 + 5 * p) = 3 := decide_eq_true_iff
theorem lw_10 (a : Nat → Int) (p : Nat) : b3 a p = true → lw a p % 10 = 0 := fun h => by
  have := b3_t.mp h
  unfold lw lowz
  rw [this]
  decide
def co (a : Nat → Int) (S s : Nat) : Prop := ∀ p : Nat, (p : Int) < a 56 → S.testBit p = !s.testBit p
theorem LF_FV {a : Nat → Int} {n : Int} {g l : Nat → Int} {S s : Nat} (hs : WS a) (hb : WB a) (hA : Att a n g) (hc : co a S s) (hl' : LF a n s l) : FV (a 56).toNat (bS S) (b3 a) (cq g) l := by
  have n56 := hb.1
  intro p hp hS
  obtain ⟨h1, h2⟩ := hl'
  refine ⟨fun h => (h1 p (by omega)).2.2 (b3_t.mp h), fun q hq hSq => ?_⟩
  have r1 := h1 p (by omega)
  have r2 := h1 q (by omega)
  have lb1 := lowz_b (a (24 + 5 * p))
  have lb2 := lowz_b (a (24 + 5 * q))
  unfold cq
  rcases hA (6 * q + p) (by omega) with h | ⟨e, u, v, he, hu, hv, hi, hg⟩
  · omega
  · obtain ⟨uw, _, _, _⟩ := hl_who hs hb he hu
    obtain ⟨vw, _, _, _⟩ := hl_who hs hb he hv
    have eu : u.1 = q := by omega
    have ev : v.1 = p := by omega
    have su : s.testBit u.1 = false := by
      have := hc q (by omega)
      rw [show S.testBit q = true from hSq] at this
      rw [eu]
      exact (Bool.not_eq_true' _).mp this.symm
    have sv : s.testBit v.1 = false := by
      have := hc p (by omega)
      rw [show S.testBit p = true from hS] at this
      rw [ev]
      exact (Bool.not_eq_true' _).mp this.symm
    have := h2 e he u v (hl_sup hs hb he su (by omega) hu) (hl_sup hs hb he sv (by omega) hv)
    rw [eu, ev] at this
    rw [hg]
    omega
theorem FV_LF {a : Nat → Int} {n : Int} {g l : Nat → Int} {S s : Nat} (hs : WS a) (hb : WB a) (hC : CL a n g) (hc : co a S s) (h1 : ∀ p : Nat, (p : Int) < a 56 → lw a p ≤ l p ∧ l p ≤ lw a p + 1000 ∧ (a (24 + 5 * p) = 3 → l p % 10 = 0)) (h2 : FV (a 56).toNat (bS S) (b3 a) (cq g) l) : LF a n s l := by
  have n56 := hb.1
  refine ⟨h1, fun e he u v hu hv => ?_⟩
  obtain ⟨uw, u56, _, su⟩ := hl_who hs hb he hu
  obtain ⟨vw, v56, _, sv⟩ := hl_who hs hb he hv
  have b := hC.2 e he u v (hl_sub hu) (hl_sub hv)
  unfold bnd at b
  have Su : bS S u.1 = true := by
    show S.testBit u.1 = true
    rw [hc u.1 u56, su]
    rfl
  have Sv : bS S v.1 = true := by
    show S.testBit v.1 = true
    rw [hc v.1 v56, sv]
    rfl
  have := (h2 v.1 (by omega) Sv).2 u.1 (by omega) Su
  unfold cq at this
  omega
theorem c_lowest (k : Nat) {x : Int} (h : 0 ≤ x ∧ x ≤ 5) : fX5_lowestLate k (J x) = some (J (lowz x)) := by
  unfold fX5_lowestLate lowz
  have e : (J x = 1) = (x = 1) := by rw [J_lit, J_eq (by omega)]
  simp only [e]
  split <;> rfl
theorem c_needed (k : Nat) (hk : 100 < k) {d bd : Dat} {a : Nat → Int} (hB : BB bd a) (hs : WS a) (hb : WB a) {n : Int} (hn : 0 ≤ n ∧ n ≤ 999) {g y : Nat → Int} {S p : Nat} (h64 : S < 64) (hp : (p : Int) < a 56) (hC : CR (d.2 0) g) (hA : Att a n g)
    (hy : ∀ q : Nat, (q : Int) < a 56 → d.2 1 q = J (y q) ∧ -600 ≤ y q ∧ y q ≤ 600) :
    fX5_neededLate k d bd (J S) (J p) = some (J (rup (b3 a p) (ndd (bS S) (cq g) y p (a 56).toNat))) ∧ -600 ≤ ndd (bS S) (cq g) y p (a 56).toNat ∧ ndd (bS S) (cq g) y p (a 56).toNat ≤ 6000 := by
  obtain ⟨n56, n57, n23, hP, hQ⟩ := id hb
  have nb : ∀ j : Nat, j ≤ (a 56).toNat → -600 ≤ ndd (bS S) (cq g) y p j ∧ ndd (bS S) (cq g) y p j ≤ 6000 := fun j hj => by
    have h1 := (hy p hp).2
    refine ⟨Int.le_trans h1.1 (ndd_ge (bS S) (cq g) y p j).1, ndd_le (by omega) (fun q hq _ => ?_)⟩
    have h2 := (hy q (by omega)).2
    have h3 := att_b hs hb hn hA (i := 6 * q + p) (by omega)
    unfold cq
    omega
  refine ⟨?_, nb _ (Nat.le_refl _)⟩
  obtain ⟨w1, _, _, _, _⟩ := hP p hp
  have hk1 := (hB.2.1 p hp).1
  unfold fX5_neededLate
  simp (disch := omega) only [chk_J, J_nat, Int.toNat_natCast, (hy p hp).1]
  refine lp_run (fun j => (J (ndd (bS S) (cq g) y p j), J (j : Int))) (a 56).toNat _ (fun j hj rec => ?_) (fun rec => ?_) (by omega)
  · have hq : (J (a 56) ≤ J j) = False := by rw [J_le (by omega)]; exact eq_false (by omega)
    have hh := c_holds k h64 (show j < 6 by omega)
    have yj := hy j (by omega)
    have cj := hC (6 * j + p) (by omega)
    have cb := att_b hs hb hn hA (i := 6 * j + p) (by omega)
    have n1 := nb j (by omega)
    have i1 : J (j : Int) * 6 + J (p : Int) = J ((6 * j + p : Nat) : Int) := by
      rw [J_lit, J_mul, J_add]
      congr 1
      omega
    unfold fX5_neededLate_B11
    rw [hB.1.1, ndd_s]
    simp only [hq, if_false, hh, Option.bind_some, b_ite]
    by_cases t : S.testBit j = true
    · have hlt : (J (ndd (bS S) (cq g) y p j) < J (y j + g (6 * j + p))) = (ndd (bS S) (cq g) y p j < y j + cq g j p) := by rw [J_lt (by omega)]; rfl
      rw [if_pos t, if_pos (show bS S j = true from t)]
      simp (disch := omega) only [chk_J, J_nat, Int.toNat_natCast, i1, yj.1, cj, J_add, hlt, J_ite, J_suc]
      rfl
    · rw [if_neg t, if_neg (show ¬ bS S j = true from t), J_suc]
  · have hq : (J (a 56) ≤ J ((a 56).toNat : Nat)) = True := by rw [J_le (by omega)]; exact eq_true (by omega)
    have n1 := nb (a 56).toNat (Nat.le_refl _)
    have e3 : (J (a (24 + 5 * p)) = 3) = (a (24 + 5 * p) = 3) := by rw [J_lit, J_eq (by omega)]
    unfold fX5_neededLate_B11
    rw [hB.1.1]
    simp (disch := omega) only [hq, if_true, chk_J, J_nat, Int.toNat_natCast, hk1, e3]
    unfold rup b3
    by_cases c : a (24 + 5 * p) = 3
    · rw [if_pos c, decide_eq_true c, if_pos rfl, J_neg, fdv_J (by omega), J_lit, J_mul, J_neg]
    · rw [if_neg c, decide_eq_false c, if_neg (by decide)]
def YY (a : Nat → Int) (n : Int) (g : Nat → Int) (S s : Nat) (x y : Nat → Int) : Prop :=
  (∀ p : Nat, (p : Int) < a 56 → lw a p ≤ y p ∧ y p ≤ lw a p + 1000 ∧ (a (24 + 5 * p) = 3 → y p % 10 = 0))
  ∧ (∀ p : Nat, (p : Int) < a 56 → ¬ S.testBit p = true → y p = lw a p)
  ∧ (∀ l : Nat → Int, LF a n s l → ∀ p : Nat, (p : Int) < a 56 → S.testBit p = true → y p ≤ l p)
  ∧ (∀ p : Nat, (p : Int) < a 56 → x p ≤ y p)
def RLt (a : Nat → Int) (f : Nat → Int32) (y : Nat → Int) : Prop := ∀ p : Nat, (p : Int) < a 56 → f p = J (y p)
theorem itr_out (m : Nat) (S b : Nat → Bool) (c : Nat → Nat → Int) (x : Nat → Int) (k : Nat) {p : Nat} (h : ¬ S p = true) : itr m S b c x k p = x p := by
  induction k with
  | zero => rfl
  | succ k ih =>
    show stp m S b c (itr m S b c x k) p = x p
    unfold stp
    rw [if_neg h]
    exact ih
def XX (a : Nat → Int) (g : Nat → Int) (S : Nat) (k : Nat) : Nat → Int := itr (a 56).toNat (bS S) (b3 a) (cq g) (lw a) k
theorem XX_LF {a : Nat → Int} {n : Int} {g l : Nat → Int} {S s : Nat} (hs : WS a) (hb : WB a) (hC : CL a n g) (hc : co a S s) (hl' : LF a n s l) : LF a n s (XX a g S 63) := by
  have n56 := hb.1
  have fv := LF_FV hs hb hC.1 hc hl'
  have le := itr_le (x := lw a) fv (fun p hp _ => (hl'.1 p (by omega)).1) 63
  have st := still (S := bS S) (b := b3 a) (c := cq g) (x := lw a) (show (a 56).toNat ≤ 6 by omega) (lw_10 a) fv
  have mo := fun p => itr_mono (a 56).toNat (bS S) (b3 a) (cq g) (lw a) p (show 0 ≤ 63 by omega)
  have t10 := itr_10 (m := (a 56).toNat) (S := bS S) (c := cq g) (lw_10 a) 63
  refine FV_LF hs hb hC hc (fun p hp => ⟨mo p, ?_, fun h => t10 p (b3_t.mpr h)⟩) (fun p hp hS => ⟨fun h => t10 p h, fun q hq hSq => ?_⟩)
  · by_cases q : bS S p = true
    · have := le p (by omega) q
      have := (hl'.1 p hp).2.1
      show itr (a 56).toNat (bS S) (b3 a) (cq g) (lw a) 63 p ≤ _
      unfold lw at *
      omega
    · have := itr_out (a 56).toNat (bS S) (b3 a) (cq g) (lw a) 63 q
      show itr (a 56).toNat (bS S) (b3 a) (cq g) (lw a) 63 p ≤ _
      omega
  · have h1 := st p hp
    have h2 : itr (a 56).toNat (bS S) (b3 a) (cq g) (lw a) 64 p = rup (b3 a p) (ndd (bS S) (cq g) (itr (a 56).toNat (bS S) (b3 a) (cq g) (lw a) 63) p (a 56).toNat) := by
      show stp (a 56).toNat (bS S) (b3 a) (cq g) (itr (a 56).toNat (bS S) (b3 a) (cq g) (lw a) 63) p = _
      unfold stp
      rw [if_pos hS]
    have h3 := (ndd_ge (bS S) (cq g) (itr (a 56).toNat (bS S) (b3 a) (cq g) (lw a) 63) p (a 56).toNat).2 q hq hSq
    have h4 := rup_ge (b3 a p) (ndd (bS S) (cq g) (itr (a 56).toNat (bS S) (b3 a) (cq g) (lw a) 63) p (a 56).toNat)
    show itr (a 56).toNat (bS S) (b3 a) (cq g) (lw a) 63 q + cq g q p ≤ itr (a 56).toNat (bS S) (b3 a) (cq g) (lw a) 63 p
    omega
def TQ (a : Nat → Int) (n : Int) (S s : Nat) (o : Option (Int32 × Dat)) : Prop :=
  ∃ (r : Int32) (d' : Dat), o = some (r, d') ∧ ((r = 1 ∧ ∃ y : Nat → Int, RLt a (d'.2 1) y ∧ LF a n s y ∧ ∀ l : Nat → Int, LF a n s l → ∀ p : Nat, (p : Int) < a 56 → S.testBit p = true → y p ≤ l p) ∨ (r = 0 ∧ ¬ ∃ l : Nat → Int, LF a n s l))
set_option maxHeartbeats 4000000 in
theorem c_pass (k : Nat) (hk : 100 < k) {d bd X : Dat} {a : Nat → Int} (hB : BB bd a) (hs : WS a) (hb : WB a) {n : Int} (hn : 0 ≤ n ∧ n ≤ 999) {g y0 : Nat → Int} {S s q : Nat} (h64 : S < 64) (hc : co a S s) (hR : CR (d.2 0) g) (hC : CL a n g) (hq : q < 64)
    (hX : RLt a (X.2 1) y0) (hY : YY a n g S s (XX a g S q) y0) :
    ∃ w : Dat ⊕ (Int32 × Dat), (∀ K : Dat ⊕ (Int32 × Dat) → Option (Int32 × Dat), lp (fX5_tunes_B45 k (J S) d bd (fun w => K (Sum.inl w)) (fun w => K (Sum.inr w))) k (0, 0, X) = K w) ∧
      ((∃ u : Dat, w = Sum.inl u ∧ ¬ ∃ l : Nat → Int, LF a n s l) ∨ (∃ u : Dat, w = Sum.inr (0, u) ∧ ∃ y : Nat → Int, RLt a (u.2 1) y ∧ LF a n s y ∧ ∀ l : Nat → Int, LF a n s l → ∀ p : Nat, (p : Int) < a 56 → S.testBit p = true → y p ≤ l p)
        ∨ (∃ u : Dat, w = Sum.inr (1, u) ∧ (q = 63 → ¬ ∃ l : Nat → Int, LF a n s l) ∧ ∃ y : Nat → Int, RLt a (u.2 1) y ∧ YY a n g S s (XX a g S (q + 1)) y)) := by
  obtain ⟨n56, n57, n23, hP, hQ⟩ := id hb
  have h0 := hB.1.1
  refine lp_forKE (B := fun K => fX5_tunes_B45 k (J S) d bd (fun w => K (Sum.inl w)) (fun w => K (Sum.inr w)))
    (fun (j : Nat) (v : Int32 × Int32 × Dat) => v.2.1 = J j ∧ ∃ y : Nat → Int, RLt a (v.2.2.2 1) y ∧ YY a n g S s (XX a g S q) y ∧ (∀ p : Nat, p < j → XX a g S (q + 1) p ≤ y p) ∧ ((v.1 = 0 ∧ ∀ p : Nat, p < j → S.testBit p = true → rup (b3 a p) (ndd (bS S) (cq g) y p (a 56).toNat) = y p) ∨ (v.1 = 1 ∧ (q = 63 → ¬ ∃ l : Nat → Int, LF a n s l)))) (a 56).toNat _ ?_ ?_ ⟨rfl, y0, hX, hY, fun p hp => absurd hp (Nat.not_lt_zero p), Or.inl ⟨rfl, fun p hp => absurd hp (Nat.not_lt_zero p)⟩⟩ (by omega)
  · intro j v hj ⟨hv, y, hy, hYY, hx, hr⟩
    obtain ⟨r, i, w⟩ := v
    have hv' : i = J j := hv
    subst hv'
    replace hy : RLt a (w.2 1) y := hy
    replace hr : (r = 0 ∧ ∀ p : Nat, p < j → S.testBit p = true → rup (b3 a p) (ndd (bS S) (cq g) y p (a 56).toNat) = y p) ∨ (r = 1 ∧ (q = 63 → ¬ ∃ l : Nat → Int, LF a n s l)) := hr
    obtain ⟨Y1, Y2, Y3, Y4⟩ := hYY
    have hj' : (j : Int) < a 56 := by omega
    have hqq : (J (a 56) ≤ J j) = False := by rw [J_le (by omega)]; exact eq_false (by omega)
    have hh := c_holds k h64 (show j < 6 by omega)
    have xs : ∀ p : Nat, XX a g S (q + 1) p = stp (a 56).toNat (bS S) (b3 a) (cq g) (XX a g S q) p := fun p => rfl
    by_cases t : S.testBit j = true
    · have yr : ∀ p : Nat, (p : Int) < a 56 → w.2 1 p = J (y p) ∧ -600 ≤ y p ∧ y p ≤ 600 := fun p hp => by
        have h1 := Y1 p hp
        have h2 := lowz_b (a (24 + 5 * p))
        unfold lw at h1
        exact ⟨hy p hp, by omega, by omega⟩
      have nd := c_needed k hk (d := (d.1, va_up d.2 1 (w.2 1))) hB hs hb hn h64 hj' hR hC.1 yr
      obtain ⟨nd1, nd2, nd3⟩ := nd
      obtain ⟨w1, _, _, _, _⟩ := hP j hj'
      have hk1 := (hB.2.1 j hj').1
      have rg := rup_ge (b3 a j) (ndd (bS S) (cq g) y j (a 56).toNat)
      have rl : rup (b3 a j) (ndd (bS S) (cq g) y j (a 56).toNat) ≤ 6010 := by
        unfold rup
        split <;> omega
      have ge := (ndd_ge (bS S) (cq g) y j (a 56).toNat).1
      have lb := lowz_b (a (24 + 5 * j))
      have nl : ∀ l : Nat → Int, LF a n s l → rup (b3 a j) (ndd (bS S) (cq g) y j (a 56).toNat) ≤ l j := fun l hl' => by
        have fv := LF_FV hs hb hC.1 hc hl'
        have h1 := stp_le (x := y) fv (fun p hp hS => Y3 l hl' p (by omega) hS) hj (show bS S j = true from t)
        unfold stp at h1
        rw [if_pos (show bS S j = true from t)] at h1
        exact h1
      have st1 : XX a g S (q + 1) j ≤ rup (b3 a j) (ndd (bS S) (cq g) y j (a 56).toNat) := by
        rw [xs]
        have h1 := stp_mono (m := (a 56).toNat) (S := bS S) (b := b3 a) (c := cq g) (x := XX a g S q) (y := y) (fun p hp => Y4 p (by omega)) hj
        have h2 : stp (a 56).toNat (bS S) (b3 a) (cq g) y j = rup (b3 a j) (ndd (bS S) (cq g) y j (a 56).toNat) := by
          unfold stp
          rw [if_pos (show bS S j = true from t)]
        omega
      have c1 : (J (rup (b3 a j) (ndd (bS S) (cq g) y j (a 56).toNat)) ≤ J (lowz (a (24 + 5 * j)) + 1000)) = (rup (b3 a j) (ndd (bS S) (cq g) y j (a 56).toNat) ≤ lowz (a (24 + 5 * j)) + 1000) := by rw [J_le (by omega)]
      have c2 : (J (rup (b3 a j) (ndd (bS S) (cq g) y j (a 56).toNat)) ≤ J (y j)) = (rup (b3 a j) (ndd (bS S) (cq g) y j (a 56).toNat) ≤ y j) := by
        have := (yr j hj').2
        rw [J_le (by omega)]
      have e1000 : J (lowz (a (24 + 5 * j))) + 1000 = J (lowz (a (24 + 5 * j)) + 1000) := by rw [J_lit, J_add]
      by_cases q1 : rup (b3 a j) (ndd (bS S) (cq g) y j (a 56).toNat) ≤ lowz (a (24 + 5 * j)) + 1000
      · have r10 : a (24 + 5 * j) = 3 → rup (b3 a j) (ndd (bS S) (cq g) y j (a 56).toNat) % 10 = 0 := fun h => rup_10 _ _ (b3_t.mpr h)
        left
        by_cases q2 : rup (b3 a j) (ndd (bS S) (cq g) y j (a 56).toNat) ≤ y j
        · have eq : rup (b3 a j) (ndd (bS S) (cq g) y j (a 56).toNat) = y j := by omega
          apply Exists.intro
          refine ⟨fun K rec => ?_, ?_, y, ?_, ⟨Y1, Y2, Y3, Y4⟩, fun p hp => ?_, ?_⟩
          · show fX5_tunes_B45 k (J S) d bd _ _ rec (r, J j, w) = _
            unfold fX5_tunes_B45
            simp (disch := omega) only [h0, hqq, if_false, hh, Option.bind_some, b_ite, t, if_true, nd1, chk_J, J_nat, Int.toNat_natCast, hk1, c_lowest, e1000, c1, q1, (yr j hj').1, c2, q2, J_suc]
            all_goals exact rfl
          · rfl
          · show RLt a (upd (w.2 1) j (J (rup (b3 a j) (ndd (bS S) (cq g) y j (a 56).toNat)))) y
            intro p hp
            by_cases e : p = j
            · rw [e, upd_same, eq]
            · rw [upd_ne e]
              exact hy p hp
          · by_cases e : p = j
            · rw [e]
              omega
            · exact hx p (by omega)
          · rcases hr with ⟨r0, hr⟩ | hr
            · left
              refine ⟨r0, fun p hp hS => ?_⟩
              by_cases e : p = j
              · rw [e]
                exact eq
              · exact hr p (by omega) hS
            · exact Or.inr hr
        · apply Exists.intro
          refine ⟨fun K rec => ?_, ?_, zup y j (rup (b3 a j) (ndd (bS S) (cq g) y j (a 56).toNat)), ?_, ⟨fun p hp => ?_, fun p hp hn' => ?_, fun l hl' p hp hS => ?_, fun p hp => ?_⟩, fun p hp => ?_, Or.inr ⟨?_, fun h63 ⟨l, hl'⟩ => ?_⟩⟩
          · show fX5_tunes_B45 k (J S) d bd _ _ rec (r, J j, w) = _
            unfold fX5_tunes_B45
            simp (disch := omega) only [h0, hqq, if_false, hh, Option.bind_some, b_ite, t, if_true, nd1, chk_J, J_nat, Int.toNat_natCast, hk1, c_lowest, e1000, c1, q1, (yr j hj').1, c2, q2, J_suc]
            all_goals exact rfl
          · rfl
          · show RLt a (upd (w.2 1) j (J (rup (b3 a j) (ndd (bS S) (cq g) y j (a 56).toNat)))) _
            intro p hp
            by_cases e : p = j
            · rw [e, upd_same, zup_same]
            · rw [upd_ne e, zup_ne e]
              exact hy p hp
          · have h1 := Y1 p hp
            by_cases e : p = j
            · subst e
              rw [zup_same]
              refine ⟨by omega, q1, r10⟩
            · rw [zup_ne e]
              exact h1
          · by_cases e : p = j
            · rw [e] at hn'
              exact absurd t hn'
            · rw [zup_ne e]
              exact Y2 p hp hn'
          · by_cases e : p = j
            · subst e
              rw [zup_same]
              exact nl l hl'
            · rw [zup_ne e]
              exact Y3 l hl' p hp hS
          · by_cases e : p = j
            · subst e
              rw [zup_same]
              have := Y4 p hp
              omega
            · rw [zup_ne e]
              exact Y4 p hp
          · by_cases e : p = j
            · subst e
              rw [zup_same]
              exact st1
            · rw [zup_ne e]
              exact hx p (by omega)
          · rfl
          · have h1 := nl _ (XX_LF hs hb hC hc hl')
            have h2 := Y4 j hj'
            rw [h63] at h2
            omega
      · right
        refine ⟨Sum.inl (d.1, va_up d.2 1 (w.2 1)), fun K rec => ?_, Or.inl ⟨_, rfl, fun ⟨l, hl'⟩ => ?_⟩⟩
        · show fX5_tunes_B45 k (J S) d bd _ _ rec (r, J j, w) = _
          unfold fX5_tunes_B45
          simp (disch := omega) only [h0, hqq, if_false, hh, Option.bind_some, b_ite, t, if_true, nd1, chk_J, J_nat, Int.toNat_natCast, hk1, c_lowest, e1000, c1, q1]
          all_goals exact rfl
        · have h1 := nl l hl'
          have h2 := (hl'.1 j hj').2.1
          omega
    · left
      refine ⟨(r, J ((j + 1 : Nat) : Int), (d.1, va_up d.2 1 (w.2 1))), fun K rec => ?_, rfl, y, hy, ⟨Y1, Y2, Y3, Y4⟩, fun p hp => ?_, ?_⟩
      · show fX5_tunes_B45 k (J S) d bd _ _ rec (r, J j, w) = _
        unfold fX5_tunes_B45
        simp only [h0, hqq, if_false, hh, Option.bind_some, b_ite, t, J_suc]
        all_goals exact rfl
      · by_cases e : p = j
        · subst e
          have h1 : XX a g S (q + 1) p = lw a p := itr_out _ _ _ _ _ _ t
          have h2 := Y2 p hj' t
          omega
        · exact hx p (by omega)
      · rcases hr with ⟨r0, hr⟩ | hr
        · left
          refine ⟨r0, fun p hp hS => ?_⟩
          by_cases e : p = j
          · rw [e] at hS
            exact absurd hS t
          · exact hr p (by omega) hS
        · exact Or.inr hr
  · intro v ⟨hv, y, hy, hYY, hx, hr⟩
    obtain ⟨r, i, w⟩ := v
    have hv' : i = J ((a 56).toNat : Nat) := hv
    subst hv'
    replace hr : (r = 0 ∧ ∀ p : Nat, p < (a 56).toNat → S.testBit p = true → rup (b3 a p) (ndd (bS S) (cq g) y p (a 56).toNat) = y p) ∨ (r = 1 ∧ (q = 63 → ¬ ∃ l : Nat → Int, LF a n s l)) := hr
    have hqq : (J (a 56) ≤ J ((a 56).toNat : Nat)) = True := by rw [J_le (by omega)]; exact eq_true (by omega)
    refine ⟨Sum.inr (r, (d.1, va_up d.2 1 (w.2 1))), fun K rec => ?_, ?_⟩
    · show fX5_tunes_B45 k (J S) d bd _ _ rec (r, J ((a 56).toNat : Nat), w) = _
      unfold fX5_tunes_B45
      simp only [h0, hqq, if_true]
    · right
      obtain ⟨Y1, Y2, Y3, Y4⟩ := hYY
      rcases hr with ⟨r0, hr⟩ | ⟨r1, hr⟩
      · left
        subst r0
        refine ⟨_, rfl, y, hy, FV_LF hs hb hC hc Y1 (fun p hp hS => ⟨fun h => (Y1 p (by omega)).2.2 (b3_t.mp h), fun p' hp' hS' => ?_⟩), Y3⟩
        have h1 := hr p hp hS
        have h2 := (ndd_ge (bS S) (cq g) y p (a 56).toNat).2 p' hp' hS'
        have h3 := rup_ge (b3 a p) (ndd (bS S) (cq g) y p (a 56).toNat)
        omega
      · right
        subst r1
        exact ⟨_, rfl, hr, y, hy, Y1, Y2, Y3, fun p hp => hx p (by omega)⟩
set_option maxHeartbeats 4000000 in
theorem c_tunes (k : Nat) (hk : 100 < k) {d bd : Dat} {a : Nat → Int} (hB : BB bd a) (hs : WS a) (hb : WB a) {n : Int} (hn : 0 ≤ n ∧ n ≤ 999) {g : Nat → Int} {S s : Nat} (h64 : S < 64) (hc : co a S s) (hR : CR (d.2 0) g) (hC : CL a n g) :
    TQ a n S s (fX5_tunes k d bd (J S)) := by
  obtain ⟨n56, n57, n23, hP, hQ⟩ := id hb
  have h0 := hB.1.1
  unfold fX5_tunes
  refine lp_for (fun (j : Nat) (v : Int32 × Dat) => v.1 = J j ∧ ∀ p : Nat, p < j → v.2.2 1 p = J (lw a p)) (a 56).toNat (TQ a n S s) ?_ ?_ ⟨rfl, fun p hp => absurd hp (Nat.not_lt_zero p)⟩ (by omega)
  · intro j v hj ⟨hv, h1⟩
    obtain ⟨i, w⟩ := v
    have hv' : i = J j := hv
    subst hv'
    replace h1 : ∀ p : Nat, p < j → w.2 1 p = J (lw a p) := h1
    have hq : (J (a 56) ≤ J j) = False := by rw [J_le (by omega)]; exact eq_false (by omega)
    obtain ⟨w1, _, _, _, _⟩ := hP j (by omega)
    have hk1 := (hB.2.1 j (by omega)).1
    left
    apply Exists.intro
    refine ⟨fun rec => ?_, ?_, fun p hp => ?_⟩
    · unfold fX5_tunes_B2
      simp (disch := omega) only [h0, hq, if_false, chk_J, J_nat, Int.toNat_natCast, hk1, c_lowest, Option.bind_some, J_suc]
      all_goals exact rfl
    · rfl
    · show upd (w.2 1) j (J (lw a j)) p = _
      by_cases e : p = j
      · subst e
        exact upd_same _ _ _
      · rw [upd_ne e]
        exact h1 p (by omega)
  · intro v ⟨hv, h1⟩ rec
    obtain ⟨i, w⟩ := v
    have hv' : i = J ((a 56).toNat : Nat) := hv
    subst hv'
    replace h1 : ∀ p : Nat, p < (a 56).toNat → w.2 1 p = J (lw a p) := h1
    have hq : (J (a 56) ≤ J ((a 56).toNat : Nat)) = True := by rw [J_le (by omega)]; exact eq_true (by omega)
    unfold fX5_tunes_B2
    simp only [h0, hq, if_true]
    refine lp_for (fun (q : Nat) (v : Int32 × Dat) => v.1 = J q ∧ (q = 64 → ¬ ∃ l : Nat → Int, LF a n s l) ∧ ∃ y : Nat → Int, RLt a (v.2.2 1) y ∧ YY a n g S s (XX a g S q) y) 64 (TQ a n S s) ?_ ?_ ⟨rfl, fun h => by omega, lw a, fun p hp => h1 p (by omega), fun p hp => ⟨Int.le_refl _, by omega, fun h => lw_10 a p (b3_t.mpr h)⟩, fun p hp _ => rfl, fun l hl' p hp _ => (hl'.1 p hp).1, fun p hp => Int.le_refl _⟩ (by omega)
    · intro q v hq64 ⟨hv, _, y0, hy0, hY0⟩
      obtain ⟨i, w0⟩ := v
      have hv' : i = J q := hv
      subst hv'
      replace hy0 : RLt a (w0.2 1) y0 := hy0
      have hq : (64 ≤ J (q : Int)) = False := by rw [J_lit, J_le (by omega)]; exact eq_false (by omega)
      obtain ⟨w1, e1, hw⟩ := c_pass k hk (d := (d.1, va_up (va_up d.2 1 (va_up d.2 1 (w.2 1) 1)) 1 (w0.2 1))) (X := (d.1, va_up (va_up d.2 1 (va_up d.2 1 (w.2 1) 1)) 1 (w0.2 1))) hB hs hb hn h64 hc hR hC hq64 hy0 hY0
      have e2 : ∀ (F : Dat → Option (Int32 × Dat)) (G : Int32 × Dat → Option (Int32 × Dat)), lp (fX5_tunes_B45 k (J S) (d.1, va_up (va_up d.2 1 (va_up d.2 1 (w.2 1) 1)) 1 (w0.2 1)) bd F G) k (0, 0, (d.1, va_up (va_up d.2 1 (va_up d.2 1 (w.2 1) 1)) 1 (w0.2 1))) = Sum.elim F G w1 := fun F G => e1 (Sum.elim F G)
      rcases hw with ⟨u, e, hno⟩ | ⟨u, e, y, g1, g2, g3⟩ | ⟨u, e, hno, y, g1, g2⟩
      · right
        intro rec
        subst e
        unfold fX5_tunes_B33
        simp only [hq, if_false]
        rw [e2]
        exact ⟨_, _, rfl, Or.inr ⟨rfl, hno⟩⟩
      · right
        intro rec
        subst e
        unfold fX5_tunes_B33
        simp only [hq, if_false]
        rw [e2]
        exact ⟨_, _, rfl, Or.inl ⟨rfl, y, g1, g2, g3⟩⟩
      · left
        subst e
        apply Exists.intro
        refine ⟨fun rec => ?_, ?_, fun h => hno (by omega), y, ?_, g2⟩
        · unfold fX5_tunes_B33
          simp only [hq, if_false]
          rw [e2]
          simp only [Sum.elim_inr, show ((1 : Int32) = 0) = False from by decide, if_false, J_suc]
          all_goals exact rfl
        · rfl
        · exact g1
    · intro v ⟨hv, hno, y, _, _⟩ rec
      obtain ⟨i, w0⟩ := v
      have hv' : i = J ((64 : Nat) : Int) := hv
      subst hv'
      unfold fX5_tunes_B33
      rw [if_pos (show (64 : Int32) ≤ J ((64 : Nat) : Int) from by decide)]
      exact ⟨_, _, rfl, Or.inr ⟨rfl, hno rfl⟩⟩
