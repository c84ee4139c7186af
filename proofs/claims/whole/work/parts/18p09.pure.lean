def atA (a : Nat → Int) (A : Nat → Int) : Nat → Int := fun i => if 25 ≤ i ∧ (i - 25) % 5 = 0 ∧ (((i - 25) / 5 : Nat) : Int) < a 56 then A ((i - 25) / 5) else a i
theorem atA_at {a A : Nat → Int} {p : Nat} (hp : (p : Int) < a 56) : atA a A (24 + 5 * p + 1) = A p := by
  unfold atA
  have e : (24 + 5 * p + 1 - 25) / 5 = p := by omega
  rw [if_pos ⟨by omega, by omega, by rw [e]; exact hp⟩, e]
theorem atA_o {a A : Nat → Int} {i : Nat} (h : ∀ p : Nat, (p : Int) < a 56 → ¬ i = 24 + 5 * p + 1) : atA a A i = a i := by
  unfold atA
  refine if_neg (fun q => h ((i - 25) / 5) q.2.2 ?_)
  omega
theorem atA_lo {a A : Nat → Int} (n56 : 0 ≤ a 56 ∧ a 56 ≤ 6) {i : Nat} (h : i < 24 ∨ 54 ≤ i) : atA a A i = a i := atA_o (fun p hp => by omega)
theorem atA_k {a A : Nat → Int} {p : Nat} : atA a A (24 + 5 * p) = a (24 + 5 * p) ∧ atA a A (24 + 5 * p + 2) = a (24 + 5 * p + 2) ∧ atA a A (24 + 5 * p + 3) = a (24 + 5 * p + 3) ∧ atA a A (24 + 5 * p + 4) = a (24 + 5 * p + 4) :=
  ⟨atA_o (fun q _ => by omega), atA_o (fun q _ => by omega), atA_o (fun q _ => by omega), atA_o (fun q _ => by omega)⟩
theorem atA_ext {a A B : Nat → Int} (h : ∀ p : Nat, (p : Int) < a 56 → A p = B p) : atA a A = atA a B := by
  funext i
  unfold atA
  split
  · rename_i q
    exact h _ q.2.2
  · rfl
def Way (a A : Nat → Int) : Prop := (∀ p : Nat, (p : Int) < a 56 → 0 ≤ A p ∧ A p < a 54) ∧ ∀ p q : Nat, (q : Int) < a 56 → p < q → ¬ A p = A q
theorem WS_at {a A : Nat → Int} (hs : WS a) (hb : WB a) : WS (atA a A) := WS_ext hs (fun i hi => atA_lo hb.1 (by omega))
theorem WB_at {a A : Nat → Int} (hb : WB a) (hA : ∀ p : Nat, (p : Int) < a 56 → 0 ≤ A p ∧ A p < a 54) : WB (atA a A) := by
  obtain ⟨n56, n57, n23, hP, hQ⟩ := hb
  have e56 : atA a A 56 = a 56 := atA_lo n56 (by omega)
  have e57 : atA a A 57 = a 57 := atA_lo n56 (by omega)
  have e54 : atA a A 54 = a 54 := atA_lo n56 (by omega)
  refine ⟨by rw [e56]; exact n56, by rw [e57]; exact n57, by rw [atA_lo n56 (by omega)]; exact n23, fun p hp => ?_, fun r p hr hp => ?_⟩
  · rw [e56] at hp
    have h := hP p hp
    obtain ⟨k0, k2, k3, k4⟩ := @atA_k a A p
    unfold W1 at h ⊢
    rw [atA_at hp, k0, k2, k3, k4, e54, e56]
    exact ⟨h.1, hA p hp, h.2.2⟩
  · rw [e56] at hp
    rw [e57] at hr
    rw [atA_lo n56 (by omega)]
    exact hQ r p hr hp
theorem SS_at {st : Dat} {a A : Nat → Int} (hS : SS st a) (hs : WS a) (hb : WB a) : SS st (atA a A) := SS_ext hS hs (fun i hi => atA_lo hb.1 (by omega))
theorem BB_at {bd : Dat} {a A : Nat → Int} {f : Nat → Int32} (hB : BB bd a) (hb : WB a) (hf : ∀ p : Nat, (p : Int) < a 56 → f p = J (A p)) : BB (bd.1, va_up bd.2 2 f) (atA a A) := by
  obtain ⟨⟨g0, g7, g8⟩, gP, gQ⟩ := hB
  have n56 := hb.1
  have e56 : atA a A 56 = a 56 := atA_lo n56 (by omega)
  have e57 : atA a A 57 = a 57 := atA_lo n56 (by omega)
  refine ⟨⟨by rw [e56]; exact g0, by rw [atA_lo n56 (by omega)]; exact g7, by rw [e57]; exact g8⟩, fun p hp => ?_, fun r p hr hp => ?_⟩
  · rw [e56] at hp
    obtain ⟨k0, k2, k3, k4⟩ := @atA_k a A p
    rw [atA_at hp, k0, k2, k3, k4]
    have := gP p hp
    exact ⟨this.1, hf p hp, this.2.2⟩
  · rw [e56] at hp
    rw [e57] at hr
    rw [atA_lo n56 (by omega)]
    exact gQ r p hr hp
def ssm (a : Nat → Int) : Nat → Int
  | 0 => 0
  | e + 1 => ssm a e + sprd a 0 e
theorem ssm_s (a : Nat → Int) (e : Nat) : ssm a (e + 1) = ssm a e + sprd a 0 e := rfl
theorem ssm_b {a : Nat → Int} (hs : WS a) (hb : WB a) : ∀ e : Nat, (e : Int) ≤ a 55 → 0 ≤ ssm a e ∧ ssm a e ≤ 6000 * e := by
  intro e
  induction e with
  | zero => intro _; exact ⟨Int.le_refl _, Int.le_refl _⟩
  | succ e ih =>
    intro h
    have h1 := ih (by omega)
    have h2 := sprd_b hs hb (s := 0) (show (e : Int) < a 55 by omega)
    rw [ssm_s]
    omega
def SM (a A : Nat → Int) : Int := ssm (atA a A) (a 55).toNat
def xl (a : Nat → Int) (p : Nat) (w : Int) (e : Nat) : Int := a (24 + 5 * p + 2) - pcs a (2 * w.toNat) (12 + 2 * e)
def mle (a : Nat → Int) (p : Nat) (w acc : Int) : Nat → Int
  | 0 => acc
  | e + 1 => if (if xl a p w e < 0 then 0 else xl a p w e) < mle a p w acc e then (if xl a p w e < 0 then 0 else xl a p w e) else mle a p w acc e
def mlz (a A : Nat → Int) : Nat → Int
  | 0 => 1000000
  | p + 1 => if a (24 + 5 * p) = 5 then mlz a A p else mle a p (A p) (mlz a A p) (a 55).toNat
theorem mle_s (a : Nat → Int) (p : Nat) (w acc : Int) (e : Nat) : mle a p w acc (e + 1) = if (if xl a p w e < 0 then 0 else xl a p w e) < mle a p w acc e then (if xl a p w e < 0 then 0 else xl a p w e) else mle a p w acc e := rfl
theorem mlz_s (a A : Nat → Int) (p : Nat) : mlz a A (p + 1) = if a (24 + 5 * p) = 5 then mlz a A p else mle a p (A p) (mlz a A p) (a 55).toNat := rfl
def cle (a : Nat → Int) (p : Nat) (w : Int) : Nat → Int
  | 0 => 99
  | e + 1 => if xl a p w e < cle a p w e then xl a p w e else cle a p w e
theorem cle_s (a : Nat → Int) (p : Nat) (w : Int) (e : Nat) : cle a p w (e + 1) = if xl a p w e < cle a p w e then xl a p w e else cle a p w e := rfl
def lv (a : Nat → Int) (p : Nat) (w : Int) : Int := if a (24 + 5 * p) = 5 then 99 else if 0 < cle a p w (a 55).toNat then cle a p w (a 55).toNat else 0
def cz (a A : Nat → Int) : Nat → Int
  | 0 => 99
  | p + 1 => if lv a p (A p) < cz a A p then lv a p (A p) else cz a A p
theorem cz_s (a A : Nat → Int) (p : Nat) : cz a A (p + 1) = if lv a p (A p) < cz a A p then lv a p (A p) else cz a A p := rfl
theorem mle_cle (a : Nat → Int) (p : Nat) (w : Int) {acc : Int} (h : 0 ≤ acc) : ∀ e : Nat, min 99 (mle a p w acc e) = min (min 99 acc) (if 0 < cle a p w e then cle a p w e else 0) ∧ cle a p w e ≤ 99 ∧ 0 ≤ mle a p w acc e := by
  intro e
  induction e with
  | zero =>
    show min 99 acc = min (min 99 acc) (if (0 : Int) < 99 then 99 else 0) ∧ (99 : Int) ≤ 99 ∧ 0 ≤ acc
    rw [if_pos (by decide)]
    omega
  | succ e ih =>
    rw [mle_s, cle_s]
    generalize mle a p w acc e = x at *
    generalize cle a p w e = y at *
    generalize xl a p w e = z at *
    omega
theorem cz_mlz (a A : Nat → Int) : ∀ p : Nat, cz a A p = min 99 (mlz a A p) ∧ 0 ≤ mlz a A p := by
  intro p
  induction p with
  | zero =>
    show (99 : Int) = min 99 1000000 ∧ (0 : Int) ≤ 1000000
    decide
  | succ p ih =>
    rw [cz_s, mlz_s]
    unfold lv
    by_cases q : a (24 + 5 * p) = 5
    · rw [if_pos q, if_pos q]
      have := ih.1
      refine ⟨?_, ih.2⟩
      omega
    · rw [if_neg q, if_neg q]
      have h := mle_cle a p (A p) ih.2 (a 55).toNat
      have h1 := ih.1
      omega
theorem cz_anti (a A : Nat → Int) (p : Nat) : ∀ i : Nat, cz a A (p + i) ≤ cz a A p := by
  intro i
  induction i with
  | zero => exact Int.le_refl _
  | succ i ih =>
    rw [show p + (i + 1) = p + i + 1 from rfl, cz_s]
    omega
theorem cz_ext {a A B : Nat → Int} {p : Nat} (h : ∀ q : Nat, q < p → A q = B q) : cz a A p = cz a B p := by
  induction p with
  | zero => rfl
  | succ p ih => rw [cz_s, cz_s, ih (fun q hq => h q (by omega)), h p (by omega)]
theorem mlz_ext {a A B : Nat → Int} {p : Nat} (h : ∀ q : Nat, q < p → A q = B q) : mlz a A p = mlz a B p := by
  induction p with
  | zero => rfl
  | succ p ih => rw [mlz_s, mlz_s, ih (fun q hq => h q (by omega)), h p (by omega)]
theorem mle_le (a : Nat → Int) (p : Nat) (w acc : Int) : ∀ e : Nat, mle a p w acc e ≤ acc := by
  intro e
  induction e with
  | zero => exact Int.le_refl _
  | succ e ih =>
    rw [mle_s]
    omega
theorem mlz_two {a : Nat → Int} (hs : WS a) (hb : WB a) (h55 : 0 < a 55) : ∀ n : Nat, (n : Int) ≤ a 56 → (∀ A : Nat → Int, (∀ p : Nat, p < n → 0 ≤ A p ∧ A p < a 54) → mlz a A n ≤ 99) ∨ ∀ A : Nat → Int, mlz a A n = 1000000 := by
  intro n
  induction n with
  | zero => intro _; exact Or.inr (fun _ => rfl)
  | succ n ih =>
    intro hn
    have n54 := hs.1
    by_cases q : a (24 + 5 * n) = 5
    · rcases ih (by omega) with h | h
      · left
        intro A hA
        rw [mlz_s, if_pos q]
        exact h A (fun p hp => hA p (by omega))
      · right
        intro A
        rw [mlz_s, if_pos q]
        exact h A
    · left
      intro A hA
      rw [mlz_s, if_neg q]
      obtain ⟨e', he'⟩ : ∃ e' : Nat, (a 55).toNat = e' + 1 := ⟨(a 55).toNat - 1, by omega⟩
      have hw := hA n (by omega)
      have w1 := hb.2.2.2.1 n (by omega)
      unfold W1 at w1
      have n55 := hs.2.1
      have pb := pcs_b hs (i := 2 * (A n).toNat) (j := 12 + 2 * e') (by omega) (by omega)
      rw [he', mle_s]
      have : xl a n (A n) e' ≤ 99 := by
        unfold xl
        omega
      omega
def cd (N : Int) (A : Nat → Int) : Nat → Int
  | 0 => 0
  | p + 1 => cd N A p * N + A p
theorem cd_s (N : Int) (A : Nat → Int) (p : Nat) : cd N A (p + 1) = cd N A p * N + A p := rfl
theorem cd_lt {N P Q x y : Int} (hx : 0 ≤ x ∧ x < N) (hy : -1 ≤ y ∧ y < N) : P * N + x ≤ Q * N + y ↔ P < Q ∨ (P = Q ∧ x ≤ y) := by
  constructor
  · intro h
    by_cases c : P < Q
    · exact Or.inl c
    · by_cases e : P = Q
      · subst e
        exact Or.inr ⟨rfl, by omega⟩
      · exfalso
        have h1 : Q + 1 ≤ P := by omega
        have h2 : (Q + 1) * N ≤ P * N := Int.mul_le_mul_of_nonneg_right h1 (by omega)
        rw [Int.add_mul, Int.one_mul] at h2
        omega
  · rintro (h | ⟨h, h2⟩)
    · have h1 : P + 1 ≤ Q := by omega
      have h2 : (P + 1) * N ≤ Q * N := Int.mul_le_mul_of_nonneg_right h1 (by omega)
      rw [Int.add_mul, Int.one_mul] at h2
      omega
    · subst h
      omega
theorem cd_inj {N : Int} {A B : Nat → Int} : ∀ {p : Nat}, (∀ q : Nat, q < p → 0 ≤ A q ∧ A q < N) → (∀ q : Nat, q < p → 0 ≤ B q ∧ B q < N) → cd N A p = cd N B p → ∀ q : Nat, q < p → A q = B q := by
  intro p
  induction p with
  | zero => intro _ _ _ q hq; exact absurd hq (Nat.not_lt_zero q)
  | succ p ih =>
    intro hA hB h q hq
    rw [cd_s, cd_s] at h
    have ha := hA p (by omega)
    have hb := hB p (by omega)
    have h1 := (cd_lt (N := N) (P := cd N A p) (Q := cd N B p) ha ⟨by omega, hb.2⟩).mp (by omega)
    have h2 := (cd_lt (N := N) (P := cd N B p) (Q := cd N A p) hb ⟨by omega, ha.2⟩).mp (by omega)
    have e : cd N A p = cd N B p := by omega
    by_cases c : q = p
    · subst c
      omega
    · exact ih (fun q hq => hA q (by omega)) (fun q hq => hB q (by omega)) e q (by omega)
theorem cd_ext {N : Int} {A B : Nat → Int} {p : Nat} (h : ∀ q : Nat, q < p → A q = B q) : cd N A p = cd N B p := by
  induction p with
  | zero => rfl
  | succ p ih => rw [cd_s, cd_s, ih (fun q hq => h q (by omega)), h p (by omega)]
def Bet (a B A : Nat → Int) : Prop := mlz a A (a 56).toNat < mlz a B (a 56).toNat ∨ (mlz a A (a 56).toNat = mlz a B (a 56).toNat ∧ (SM a B < SM a A ∨ (SM a B = SM a A ∧ cd (a 54) B (a 56).toNat ≤ cd (a 54) A (a 56).toNat)))
def Best (a B : Nat → Int) : Prop := Way a B ∧ ∀ A : Nat → Int, Way a A → Bet a B A
theorem Best_eq {a B B' : Nat → Int} (h : Best a B) (h' : Best a B') : ∀ p : Nat, (p : Int) < a 56 → B p = B' p := by
  have h1 := h.2 B' h'.1
  have h2 := h'.2 B h.1
  unfold Bet at h1 h2
  have e : cd (a 54) B (a 56).toNat = cd (a 54) B' (a 56).toNat := by omega
  intro p hp
  exact cd_inj (fun q hq => h.1.1 q (by omega)) (fun q hq => h'.1.1 q (by omega)) e p (by omega)
def tkn (W : Nat → Int) : Nat → Nat
  | 0 => 0
  | q + 1 => tkn W q ||| 2 ^ (W q).toNat
theorem tkn_s (W : Nat → Int) (q : Nat) : tkn W (q + 1) = tkn W q ||| 2 ^ (W q).toNat := rfl
theorem tkn_bit (W : Nat → Int) (v : Nat) : ∀ p : Nat, (tkn W p).testBit v = true ↔ ∃ q : Nat, q < p ∧ (W q).toNat = v := by
  intro p
  induction p with
  | zero =>
    constructor
    · intro h
      rw [show tkn W 0 = 0 from rfl, Nat.zero_testBit] at h
      cases h
    · rintro ⟨q, hq, _⟩
      exact absurd hq (Nat.not_lt_zero q)
  | succ p ih =>
    rw [tkn_s, Nat.testBit_or, Bool.or_eq_true, ih, Nat.testBit_two_pow, decide_eq_true_iff]
    constructor
    · rintro (⟨q, h1, h2⟩ | h)
      · exact ⟨q, by omega, h2⟩
      · exact ⟨p, by omega, h⟩
    · rintro ⟨q, h1, h2⟩
      by_cases e : q = p
      · subst e
        exact Or.inr h2
      · exact Or.inl ⟨q, by omega, h2⟩
theorem tkn_lt {W : Nat → Int} : ∀ {p : Nat}, (∀ q : Nat, q < p → 0 ≤ W q ∧ W q < 6) → tkn W p < 64 := by
  intro p
  induction p with
  | zero => intro _; exact (by decide : 0 < 64)
  | succ p ih =>
    intro h
    rw [tkn_s]
    have h1 := ih (fun q hq => h q (by omega))
    have h2 := h p (by omega)
    have h3 : 2 ^ (W p).toNat < 2 ^ 6 := Nat.pow_lt_pow_right (by decide) (by omega)
    exact Nat.or_lt_two_pow (n := 6) h1 h3
theorem tkn_ext {W V : Nat → Int} {p : Nat} (h : ∀ q : Nat, q < p → W q = V q) : tkn W p = tkn V p := by
  induction p with
  | zero => rfl
  | succ p ih => rw [tkn_s, tkn_s, ih (fun q hq => h q (by omega)), h p (by omega)]
theorem or_dec : ∀ (s : Fin 64) (w : Fin 6), J ((s.val : Nat) : Int) ||| ((1 : Int32) <<< (J ((w.val : Nat) : Int) &&& 31)) = J ((s.val ||| 2 ^ w.val : Nat) : Int) := by decide +kernel
theorem or_J {s w : Nat} (hs : s < 64) (hw : w < 6) : J (s : Int) ||| ((1 : Int32) <<< (J (w : Int) &&& 31)) = J ((s ||| 2 ^ w : Nat) : Int) := or_dec ⟨s, hs⟩ ⟨w, hw⟩
def frc (s lo : Nat) : Nat → Nat
  | 0 => 0
  | w + 1 => frc s lo w + (if lo ≤ w ∧ s.testBit w = false then 1 else 0)
theorem frc_s (s lo w : Nat) : frc s lo (w + 1) = frc s lo w + (if lo ≤ w ∧ s.testBit w = false then 1 else 0) := rfl
theorem frc_next {s lo r : Nat} (h1 : lo ≤ r) (h2 : s.testBit r = false) (h3 : ∀ v : Nat, lo ≤ v → v < r → s.testBit v = true) : ∀ N : Nat, frc s lo N = frc s (r + 1) N + (if r < N then 1 else 0) := by
  intro N
  induction N with
  | zero => rfl
  | succ N ih =>
    rw [frc_s, frc_s, ih]
    by_cases c3 : s.testBit N = false
    · have hn : ¬ (lo ≤ N ∧ N < r) := fun q => by
        have := h3 N q.1 q.2
        rw [c3] at this
        cases this
      simp only [c3, and_true]
      repeat' split
      all_goals omega
    · have c3' : (s.testBit N = false) = False := eq_false c3
      have hn : ¬ N = r := fun e => c3 (e ▸ h2)
      simp only [c3', and_false, if_false]
      repeat' split
      all_goals omega
theorem frc_pcn (s : Nat) : ∀ N : Nat, frc s 0 N + pcn s N = N := by
  intro N
  induction N with
  | zero => rfl
  | succ N ih =>
    rw [frc_s, pcn_s]
    cases h : s.testBit N with
    | true =>
      rw [if_neg (fun q => absurd q.2 (by decide)), if_pos rfl]
      omega
    | false =>
      rw [if_pos ⟨Nat.zero_le _, rfl⟩, if_neg (by decide)]
      omega
theorem pcn_or : ∀ (N : Fin 7) (s : Fin 64) (w : Fin 6), w.val < N.val → s.val.testBit w.val = false → pcn (s.val ||| 2 ^ w.val) N.val = pcn s.val N.val + 1 := by decide +kernel
theorem pcn_tkn {W : Nat → Int} {N : Nat} (hN : N ≤ 6) : ∀ {p : Nat}, (∀ q : Nat, q < p → 0 ≤ W q ∧ W q < N) → (∀ q q' : Nat, q < q' → q' < p → ¬ W q = W q') → pcn (tkn W p) N = p := by
  intro p
  induction p with
  | zero =>
    intro _ _
    have : ∀ M : Nat, pcn 0 M = 0 := fun M => by
      induction M with
      | zero => rfl
      | succ M ih => rw [pcn_s, ih, Nat.zero_testBit]; rfl
    exact this N
  | succ p ih =>
    intro h1 h2
    have e := ih (fun q hq => h1 q (by omega)) (fun q q' a b => h2 q q' a (by omega))
    have hp := h1 p (by omega)
    have lt := tkn_lt (W := W) (p := p) (fun q hq => by have := h1 q (by omega); omega)
    have nb : (tkn W p).testBit (W p).toNat = false := by
      cases c : (tkn W p).testBit (W p).toNat with
      | false => rfl
      | true =>
        obtain ⟨q, hq, eq⟩ := (tkn_bit W _ p).mp c
        have h3 := h1 q (by omega)
        exact absurd (show W q = W p by omega) (h2 q p hq (by omega))
    have := pcn_or ⟨N, by omega⟩ ⟨tkn W p, lt⟩ ⟨(W p).toNat, by omega⟩ (by show (W p).toNat < N; omega) nb
    rw [tkn_s]
    have h4 : pcn (tkn W p ||| 2 ^ (W p).toNat) N = pcn (tkn W p) N + 1 := this
    omega
def cc : Nat → Nat
  | 0 => 532
  | 1 => 106
  | 2 => 26
  | 3 => 8
  | 4 => 3
  | _ => 1
def mus (N : Nat) (W : Nat → Int) : Nat → Nat
  | 0 => 0
  | q + 1 => mus N W q + frc (tkn W q) (W q + 1).toNat N * cc q + 1
theorem mus_s (N : Nat) (W : Nat → Int) (q : Nat) : mus N W (q + 1) = mus N W q + frc (tkn W q) (W q + 1).toNat N * cc q + 1 := rfl
theorem mus_ext {N : Nat} {W V : Nat → Int} {p : Nat} (h : ∀ q : Nat, q < p → W q = V q) : mus N W p = mus N V p := by
  induction p with
  | zero => rfl
  | succ p ih => rw [mus_s, mus_s, ih (fun q hq => h q (by omega)), tkn_ext (fun q hq => h q (by omega)), h p (by omega)]
theorem c_nextFree (k : Nat) (hk : 100 < k) {st bd : Dat} {a W : Nat → Int} (hS : SS st a) (hs : WS a) {p : Nat} (hp : p < 6) (ht : ∀ q : Nat, q ≤ p → bd.2 2 q = J (W q)) (h1 : ∀ q : Nat, q < p → 0 ≤ W q ∧ W q < a 54) (h2 : -1 ≤ W p ∧ W p < a 54) :
    ∃ r : Int, fX3_nextFree k st bd (J p) = some (J r) ∧ ((r = -1 ∧ ∀ v : Nat, W p < v → (v : Int) < a 54 → (tkn W p).testBit v = true) ∨ (W p < r ∧ r < a 54 ∧ (tkn W p).testBit r.toNat = false ∧ ∀ v : Nat, W p < v → (v : Int) < r → (tkn W p).testBit v = true)) := by
  have n54 := hs.1
  have tl : ∀ q : Nat, q ≤ p → tkn W q < 64 := fun q hq => tkn_lt (fun i hi => by have := h1 i (by omega); omega)
  unfold fX3_nextFree
  refine lp_for (fun (j : Nat) (v : Int32 × Int32) => v = (J (tkn W j : Nat), J (j : Int))) p (fun (o : Option Int32) => ∃ r : Int, o = some (J r) ∧ ((r = -1 ∧ ∀ v : Nat, W p < v → (v : Int) < a 54 → (tkn W p).testBit v = true) ∨ (W p < r ∧ r < a 54 ∧ (tkn W p).testBit r.toNat = false ∧ ∀ v : Nat, W p < v → (v : Int) < r → (tkn W p).testBit v = true))) ?_ ?_ rfl (by omega)
  · intro j v hj hv
    subst hv
    have hq : (J (p : Int) ≤ J (j : Int)) = False := by rw [J_le (by omega)]; exact eq_false (by omega)
    have wj := h1 j hj
    have ew : J (W j) = J ((W j).toNat : Nat) := J_z wj.1
    left
    refine ⟨_, fun rec => ?_, rfl⟩
    unfold fX3_nextFree_B5
    simp (disch := omega) only [hq, if_false, chk_J, J_nat, Int.toNat_natCast, ht j (by omega), J_suc]
    rw [ew, or_J (tl j (by omega)) (by omega), tkn_s]
  · intro v hv rec
    subst hv
    have hq : (J (p : Int) ≤ J (p : Int)) = True := by rw [J_le (by omega)]; exact eq_true (by omega)
    unfold fX3_nextFree_B5
    simp (disch := omega) only [hq, if_true, chk_J, J_nat, Int.toNat_natCast, ht p (Nat.le_refl p)]
    rw [show J (W p) + 1 = J (W p + 1) from by rw [J_lit, J_add]]
    refine lp_for (fun (j : Nat) (v : Int32) => v = J (W p + 1 + j) ∧ ∀ u : Nat, W p < u → (u : Int) < W p + 1 + j → (tkn W p).testBit u = true) (a 54 - (W p + 1)).toNat (fun (o : Option Int32) => ∃ r : Int, o = some (J r) ∧ ((r = -1 ∧ ∀ v : Nat, W p < v → (v : Int) < a 54 → (tkn W p).testBit v = true) ∨ (W p < r ∧ r < a 54 ∧ (tkn W p).testBit r.toNat = false ∧ ∀ v : Nat, W p < v → (v : Int) < r → (tkn W p).testBit v = true))) ?_ ?_ ⟨by congr 1; omega, fun u h3 h4 => by omega⟩ (by omega)
    · intro j v hj ⟨hv, hno⟩
      subst hv
      have hq : (J (a 54) ≤ J (W p + 1 + j)) = False := by rw [J_le (by omega)]; exact eq_false (by omega)
      have hh : fX6_holds k (J (tkn W p : Nat)) (J (W p + 1 + j)) = some (if (tkn W p).testBit (W p + 1 + j).toNat = true then 1 else 0) := by
        rw [J_z (show 0 ≤ W p + 1 + j by omega)]
        exact c_holds k (tl p (Nat.le_refl p)) (by omega)
      by_cases c : (tkn W p).testBit (W p + 1 + j).toNat = true
      · left
        refine ⟨J (W p + 1 + ((j + 1 : Nat) : Int)), fun rec => ?_, rfl, fun u h3 h4 => ?_⟩
        · unfold fX3_nextFree_B39
          simp only [hS.1.1, hq, if_false, hh, Option.bind_some, b_ite]
          rw [if_pos c, J_lit, J_add]
          congr 2
          omega
        · by_cases e : (u : Int) = W p + 1 + j
          · have : u = (W p + 1 + j).toNat := by omega
            rw [this]
            exact c
          · exact hno u h3 (by omega)
      · right
        intro rec
        refine ⟨W p + 1 + j, ?_, Or.inr ⟨by omega, by omega, ?_, hno⟩⟩
        · unfold fX3_nextFree_B39
          simp only [hS.1.1, hq, if_false, hh, Option.bind_some, b_ite]
          rw [if_neg c]
        · cases h : (tkn W p).testBit (W p + 1 + j).toNat with
          | true => exact absurd h c
          | false => rfl
    · intro v ⟨hv, hno⟩ rec
      subst hv
      have hq : (J (a 54) ≤ J (W p + 1 + ((a 54 - (W p + 1)).toNat : Nat))) = True := by rw [J_le (by omega)]; exact eq_true (by omega)
      refine ⟨-1, ?_, Or.inl ⟨rfl, fun u h3 h4 => hno u h3 (by omega)⟩⟩
      unfold fX3_nextFree_B39
      simp only [hS.1.1, hq, if_true]
      rfl
theorem xl_b {a : Nat → Int} (hs : WS a) (hb : WB a) {p e : Nat} {w : Int} (hp : (p : Int) < a 56) (hw : 0 ≤ w ∧ w < a 54) (he : (e : Int) < a 55) : -200 ≤ xl a p w e ∧ xl a p w e ≤ 99 := by
  have w1 := hb.2.2.2.1 p hp
  unfold W1 at w1
  have n54 := hs.1
  have n55 := hs.2.1
  have pb := pcs_b hs (i := 2 * w.toNat) (j := 12 + 2 * e) (by omega) (by omega)
  unfold xl
  omega
theorem cle_b {a : Nat → Int} (hs : WS a) (hb : WB a) {p : Nat} {w : Int} (hp : (p : Int) < a 56) (hw : 0 ≤ w ∧ w < a 54) : ∀ e : Nat, (e : Int) ≤ a 55 → -200 ≤ cle a p w e ∧ cle a p w e ≤ 99 := by
  intro e
  induction e with
  | zero =>
    intro _
    show -200 ≤ (99 : Int) ∧ (99 : Int) ≤ 99
    decide
  | succ e ih =>
    intro h
    have h1 := ih (by omega)
    have h2 := xl_b hs hb hp hw (e := e) (by omega)
    rw [cle_s]
    omega
theorem c_leastLoud (k : Nat) (hk : 100 < k) {st bd : Dat} {a : Nat → Int} (hS : SS st a) (hs : WS a) (hb : WB a) {p : Nat} {w : Int} (hp : (p : Int) < a 56) (hw : 0 ≤ w ∧ w < a 54) (h1 : bd.2 1 p = J (a (24 + 5 * p))) (h2 : bd.2 2 p = J w) (h3 : bd.2 3 p = J (a (24 + 5 * p + 2))) :
    fX3_leastLoud k st bd (J p) = some (J (lv a p w)) := by
  have n56 := hb.1
  have n54 := hs.1
  have n55 := hs.2.1
  have w1 := hb.2.2.2.1 p hp
  unfold W1 at w1
  have e5 : (J (a (24 + 5 * p)) = 5) = (a (24 + 5 * p) = 5) := by rw [J_lit, J_eq (by omega)]
  have ew : J w = J (w.toNat : Nat) := J_z hw.1
  unfold fX3_leastLoud
  simp (disch := omega) only [chk_J, J_nat, Int.toNat_natCast, h1, e5]
  unfold lv
  by_cases q : a (24 + 5 * p) = 5
  · rw [if_pos q, if_pos q]
    rfl
  · rw [if_neg q, if_neg q]
    refine lp_run (fun j => (J (cle a p w j), J (j : Int))) (a 55).toNat _ (fun j hj rec => ?_) (fun rec => ?_) (by omega)
    · have hq : (J (a 55) ≤ J (j : Int)) = False := by rw [J_le (by omega)]; exact eq_false (by omega)
      have pe := c_pacesToEar k hS hs (w := w.toNat) (e := j) (by omega) (by omega)
      rw [← ew] at pe
      have x1 := xl_b hs hb hp hw (e := j) (by omega)
      have c1 := cle_b hs hb hp hw j (by omega)
      have hlt : (J (a (24 + 5 * p + 2) - pcs a (2 * w.toNat) (12 + 2 * j)) < J (cle a p w j)) = (xl a p w j < cle a p w j) := by
        rw [show a (24 + 5 * p + 2) - pcs a (2 * w.toNat) (12 + 2 * j) = xl a p w j from rfl, J_lt (by omega)]
      unfold fX3_leastLoud_B18
      simp (disch := omega) only [hS.1.2.1, hq, if_false, chk_J, J_nat, Int.toNat_natCast, h2, h3, pe, Option.bind_some, J_sub, hlt, J_ite, J_suc]
      rfl
    · have hq : (J (a 55) ≤ J ((a 55).toNat : Nat)) = True := by rw [J_le (by omega)]; exact eq_true (by omega)
      have c1 := cle_b hs hb hp hw (a 55).toNat (by omega)
      have h0 : (0 < J (cle a p w (a 55).toNat)) = (0 < cle a p w (a 55).toNat) := by rw [J_lit, J_lt (by omega)]
      unfold fX3_leastLoud_B18
      simp only [hS.1.2.1, hq, if_true, h0]
      rw [show (0 : Int32) = J 0 from rfl, J_ite]
def JQ (a : Nat → Int) (d : Dat) (A : Nat → Int) (l cl cs : Int) (o : Option (Dat × Dat)) : Prop :=
  ∃ s' h' : Dat, o = some (s', h') ∧ (((cl < l ∨ SM a A < cs) ∧ s'.1 2 = J l ∧ s'.1 3 = J (SM a A) ∧ ∀ q : Nat, (q : Int) < a 56 → s'.2 0 q = J (A q)) ∨ (¬ cl < l ∧ ¬ SM a A < cs ∧ s'.1 2 = d.1 2 ∧ s'.1 3 = d.1 3 ∧ s'.2 0 = d.2 0))
set_option maxHeartbeats 1000000 in
theorem c_judge (k : Nat) (hk : 100 < k) {d st bd h8 : Dat} {a A : Nat → Int} (hS : SS st a) (hs : WS a) (hb : WB a) (hB : BB bd (atA a A)) (hA : ∀ p : Nat, (p : Int) < a 56 → 0 ≤ A p ∧ A p < a 54) {l cl cs : Int} (hl : 0 ≤ l ∧ l ≤ 99) (hcl : -1 ≤ cl ∧ cl ≤ 99) (hcs : 0 ≤ cs ∧ cs ≤ 100000) (e2 : d.1 2 = J cl) (e3 : d.1 3 = J cs) :
    JQ a d A l cl cs (fX3_judge k d st bd h8 (J l)) := by
  have n55 := hs.2.1
  have n56 := hb.1
  have hs' := WS_at (A := A) hs hb
  have hb' := WB_at hb hA
  have hS' := SS_at (A := A) hS hs hb
  have e55 : atA a A 55 = a 55 := atA_lo n56 (by omega)
  have e56 : atA a A 56 = a 56 := atA_lo n56 (by omega)
  unfold fX3_judge
  refine lp_for (fun (j : Nat) (v : Int32 × Int32 × Dat) => v.1 = J (ssm (atA a A) j) ∧ v.2.1 = J j) (a 55).toNat (JQ a d A l cl cs) ?_ ?_ ⟨rfl, rfl⟩ (by omega)
  · intro j v hj ⟨hv, hv2⟩
    obtain ⟨x, i, w⟩ := v
    have hv' : i = J j := hv2
    subst hv'
    have hx' : x = J (ssm (atA a A) j) := hv
    subst hx'
    have hq : (J (a 55) ≤ J (j : Int)) = False := by rw [J_le (by omega)]; exact eq_false (by omega)
    obtain ⟨d1, e1⟩ := c_spreadAt k hk (d := (w.1, va_up (va_up (va_up h8.2 1 (w.2 1)) 2 (w.2 2)) 3 (w.2 3))) hS' hB hs' hb' (e := j) (by rw [e55]; omega)
    left
    apply Exists.intro
    refine ⟨fun rec => ?_, ?_, ?_⟩
    · unfold fX3_judge_B6
      simp only [hS.1.2.1, hq, if_false, e1, Option.bind_some, J_add, J_suc]
      all_goals exact rfl
    · rfl
    · rfl
  · intro v ⟨hv, hv2⟩ rec
    obtain ⟨x, i, w⟩ := v
    have hv' : i = J ((a 55).toNat : Nat) := hv2
    subst hv'
    have hx' : x = J (ssm (atA a A) (a 55).toNat) := hv
    subst hx'
    have hq : (J (a 55) ≤ J ((a 55).toNat : Nat)) = True := by rw [J_le (by omega)]; exact eq_true (by omega)
    have sb : 0 ≤ SM a A ∧ SM a A ≤ 18000 := by
      have := ssm_b hs' hb' (a 55).toNat (by rw [e55]; omega)
      unfold SM
      omega
    have eS : ssm (atA a A) (a 55).toNat = SM a A := rfl
    obtain ⟨r, er, fr⟩ := c_copyRow k 6 (by omega) (bd.2 2) (d.2 0)
    have c1 : (J cl < J l) = (cl < l) := by rw [J_lt (by omega)]
    have c2 : (J cs ≤ J (SM a A)) = (cs ≤ SM a A) := by rw [J_le (by omega)]
    have row : ∀ q : Nat, (q : Int) < a 56 → r q = J (A q) := fun q hq' => by
      rw [fr q (by omega), (hB.2.1 q (by rw [e56]; exact hq')).2.1, atA_at hq']
    unfold fX3_judge_B6
    simp only [hS.1.2.1, hq, if_true, e2, e3, eS, c1, c2, er, Option.bind_some]
    by_cases q1 : cl < l
    · rw [if_pos q1]
      exact ⟨_, _, rfl, Or.inl ⟨Or.inl q1, rfl, rfl, row⟩⟩
    · rw [if_neg q1]
      by_cases q2 : cs ≤ SM a A
      · rw [if_pos q2]
        exact ⟨_, _, rfl, Or.inr ⟨q1, by omega, rfl, rfl, rfl⟩⟩
      · rw [if_neg q2]
        exact ⟨_, _, rfl, Or.inl ⟨Or.inr (by omega), rfl, rfl, row⟩⟩
def Sof (a : Nat → Int) (D : (Nat → Int) → Prop) (s : Dat) : Prop :=
  (s.1 2 = J (-1) ∧ s.1 3 = J 0 ∧ ∀ A : Nat → Int, Way a A → D A → False)
  ∨ ∃ B : Nat → Int, Way a B ∧ D B ∧ s.1 2 = J (cz a B (a 56).toNat) ∧ s.1 3 = J (SM a B) ∧ (∀ q : Nat, (q : Int) < a 56 → s.2 0 q = J (B q)) ∧ ∀ A : Nat → Int, Way a A → D A → Bet a B A
theorem Sof.ext {a : Nat → Int} {D D' : (Nat → Int) → Prop} {s s' : Dat} (h : Sof a D s) (h1 : s'.1 2 = s.1 2) (h2 : s'.1 3 = s.1 3) (h3 : s'.2 0 = s.2 0) (hD : ∀ A, Way a A → D' A → D A) (hD2 : ∀ A, Way a A → D A → D' A) : Sof a D' s' := by
  rcases h with ⟨a1, a2, a3⟩ | ⟨B, b1, b2, b3, b4, b5, b6⟩
  · exact Or.inl ⟨h1.trans a1, h2.trans a2, fun A hA hd => a3 A hA (hD A hA hd)⟩
  · exact Or.inr ⟨B, b1, hD2 B b1 b2, h1.trans b3, h2.trans b4, fun q hq => by rw [h3]; exact b5 q hq, fun A hA hd => b6 A hA (hD A hA hd)⟩
def SQ (a : Nat → Int) (o : Option (Dat × Dat × Dat)) : Prop :=
  ∃ s' t' h' : Dat, o = some (s', t', h') ∧ ∃ B : Nat → Int, Best a B ∧ ∀ q : Nat, (q : Int) < a 56 → s'.2 0 q = J (B q)
def AtP (a : Nat → Int) (j p : Nat) (s t : Dat) : Prop :=
  ∃ W : Nat → Int, (∀ q : Nat, q ≤ p → t.2 2 q = J (W q)) ∧ (∀ q : Nat, q < p → 0 ≤ W q ∧ W q < a 54) ∧ (-1 ≤ W p ∧ W p < a 54) ∧ (∀ q q' : Nat, q < q' → q' < p → ¬ W q = W q')
    ∧ (∀ q : Nat, q < p → s.2 1 q = J (cz a W (q + 1))) ∧ j + mus (a 54).toNat W (p + 1) ≤ 3193 ∧ Sof a (fun A => cd (a 54) A (p + 1) ≤ cd (a 54) W (p + 1)) s
theorem cz_b {a A : Nat → Int} (p : Nat) : 0 ≤ cz a A p ∧ cz a A p ≤ 99 := by
  have h := cz_mlz a A p
  omega
theorem lv_b {a : Nat → Int} (hs : WS a) (hb : WB a) {p : Nat} {w : Int} (hp : (p : Int) < a 56) (hw : 0 ≤ w ∧ w < a 54) : 0 ≤ lv a p w ∧ lv a p w ≤ 99 := by
  have n55 := hs.2.1
  have := cle_b hs hb hp hw (a 55).toNat (by omega)
  unfold lv
  repeat' split
  all_goals omega
theorem way_free {a A W : Nat → Int} (hA : Way a A) {p : Nat} (hp : (p : Int) < a 56) (h1 : ∀ q : Nat, q < p → 0 ≤ W q ∧ W q < a 54) (e : ∀ q : Nat, q < p → A q = W q) : (tkn W p).testBit (A p).toNat = false := by
  cases c : (tkn W p).testBit (A p).toNat with
  | false => rfl
  | true =>
    obtain ⟨q, hq, eq⟩ := (tkn_bit W _ p).mp c
    have a1 := hA.1 p hp
    have a2 := h1 q hq
    have a3 := e q hq
    exact absurd (show A q = A p by omega) (hA.2 q p hp hq)
theorem cd_pre {a A W : Nat → Int} (hA : Way a A) {p : Nat} (hp : (p : Int) ≤ a 56) (h1 : ∀ q : Nat, q < p → 0 ≤ W q ∧ W q < a 54) (e : cd (a 54) A p = cd (a 54) W p) : ∀ q : Nat, q < p → A q = W q :=
  cd_inj (fun q hq => hA.1 q (by omega)) h1 e
theorem J_inj {x y : Int} (h : J x = J y) (hx : -2147483648 ≤ x ∧ x < 2147483648) (hy : -2147483648 ≤ y ∧ y < 2147483648) : x = y := by
  have := congrArg Int32.toInt h
  rw [toInt_J hx.1 hx.2, toInt_J hy.1 hy.2] at this
  exact this
theorem SM_b {a A : Nat → Int} (hs : WS a) (hb : WB a) (hA : Way a A) : 0 ≤ SM a A ∧ SM a A ≤ 18000 := by
  have n55 := hs.2.1
  have := ssm_b (WS_at (A := A) hs hb) (WB_at hb hA.1) (a 55).toNat (by rw [atA_lo hb.1 (by omega)]; omega)
  unfold SM
  omega
theorem alike {a A X : Nat → Int} (h : ∀ q : Nat, (q : Int) < a 56 → A q = X q) : mlz a A (a 56).toNat = mlz a X (a 56).toNat ∧ SM a A = SM a X ∧ cd (a 54) A (a 56).toNat = cd (a 54) X (a 56).toNat := by
  refine ⟨mlz_ext (fun q hq' => h q (by omega)), ?_, cd_ext (fun q hq' => h q (by omega))⟩
  unfold SM
  rw [atA_ext h]
def Two (a : Nat → Int) : Prop := (∀ A : Nat → Int, Way a A → mlz a A (a 56).toNat ≤ 99) ∨ ∀ A : Nat → Int, mlz a A (a 56).toNat = 1000000
theorem Two_cz {a A B : Nat → Int} (h : Two a) (hA : Way a A) (hB : Way a B) : (cz a A (a 56).toNat < cz a B (a 56).toNat → mlz a A (a 56).toNat < mlz a B (a 56).toNat) ∧ (cz a A (a 56).toNat = cz a B (a 56).toNat → mlz a A (a 56).toNat = mlz a B (a 56).toNat) := by
  have h1 := cz_mlz a A (a 56).toNat
  have h2 := cz_mlz a B (a 56).toNat
  rcases h with h | h
  · have h3 := h A hA
    have h4 := h B hB
    omega
  · have h3 := h A
    have h4 := h B
    omega
theorem cz_lt {a A B : Nat → Int} {n : Nat} (h : cz a A n < cz a B n) : mlz a A n < mlz a B n := by
  have h1 := cz_mlz a A n
  have h2 := cz_mlz a B n
  omega
theorem Sof_new {a X : Nat → Int} {D D' : (Nat → Int) → Prop} {s s' : Dat} {cl cs l : Int} (hs : WS a) (hb : WB a) (two : Two a) (h : Sof a D s) (ecl : s.1 2 = J cl) (ecs : s.1 3 = J cs) (b1 : -1 ≤ cl ∧ cl ≤ 99) (b2 : 0 ≤ cs ∧ cs ≤ 100000) (hX : Way a X) (hl : cz a X (a 56).toNat = l) (hle : cl ≤ l) (better : cl < l ∨ SM a X < cs)
    (e1 : s'.1 2 = J l) (e2 : s'.1 3 = J (SM a X)) (e3 : ∀ q : Nat, (q : Int) < a 56 → s'.2 0 q = J (X q)) (mid : ∀ A, Way a A → D' A → D A ∨ ∀ q : Nat, (q : Int) < a 56 → A q = X q) (hD : D' X) : Sof a D' s' := by
  refine Or.inr ⟨X, hX, hD, by rw [hl]; exact e1, e2, e3, fun A hA hd => ?_⟩
  rcases mid A hA hd with h1 | h1
  · rcases h with ⟨_, _, a3⟩ | ⟨B, c1, c2, c3, c4, c5, c6⟩
    · exact absurd (a3 A hA h1) id
    · have hBA := c6 A hA h1
      have cb := @cz_b a B (a 56).toNat
      have sb := SM_b hs hb c1
      have k1 : cl = cz a B (a 56).toNat := J_inj (ecl.symm.trans c3) (by omega) (by omega)
      have k2 : cs = SM a B := J_inj (ecs.symm.trans c4) (by omega) (by omega)
      have t := Two_cz two c1 hX
      unfold Bet at hBA ⊢
      by_cases c : cl < l
      · have := t.1 (by omega)
        omega
      · have := t.2 (by omega)
        omega
  · obtain ⟨s1, s2, s3⟩ := alike h1
    exact Or.inr ⟨s1, Or.inr ⟨s2.symm, by omega⟩⟩
theorem Sof_old {a X : Nat → Int} {D D' : (Nat → Int) → Prop} {s s' : Dat} {cl cs l : Int} (hs : WS a) (hb : WB a) (two : Two a) (h : Sof a D s) (ecl : s.1 2 = J cl) (ecs : s.1 3 = J cs) (b1 : -1 ≤ cl ∧ cl ≤ 99) (b2 : 0 ≤ cs ∧ cs ≤ 100000) (hX : Way a X) (hl : cz a X (a 56).toNat = l) (hle : cl ≤ l) (nb1 : ¬ cl < l) (nb2 : ¬ SM a X < cs)
    (e1 : s'.1 2 = s.1 2) (e2 : s'.1 3 = s.1 3) (e3 : s'.2 0 = s.2 0) (mid : ∀ A, Way a A → D' A → D A ∨ ∀ q : Nat, (q : Int) < a 56 → A q = X q) (hD : ∀ A, Way a A → D A → D' A) (lt : ∀ A, D A → cd (a 54) A (a 56).toNat ≤ cd (a 54) X (a 56).toNat) : Sof a D' s' := by
  rcases h with ⟨a1, _, _⟩ | ⟨B, c1, c2, c3, c4, c5, c6⟩
  · exfalso
    have cx := @cz_b a X (a 56).toNat
    have k1 : cl = -1 := J_inj (ecl.symm.trans a1) (by omega) (by omega)
    omega
  · have cb := @cz_b a B (a 56).toNat
    have sb := SM_b hs hb c1
    have k1 : cl = cz a B (a 56).toNat := J_inj (ecl.symm.trans c3) (by omega) (by omega)
    have k2 : cs = SM a B := J_inj (ecs.symm.trans c4) (by omega) (by omega)
    refine Or.inr ⟨B, c1, hD B c1 c2, e1.trans c3, e2.trans c4, fun q hq => by rw [e3]; exact c5 q hq, fun A hA hd => ?_⟩
    rcases mid A hA hd with h1 | h1
    · exact c6 A hA h1
    · obtain ⟨s1, s2, s3⟩ := alike h1
      have t := (Two_cz two hX c1).2 (by omega)
      have l1 := lt B c2
      unfold Bet
      omega
theorem Sof_prune {a X : Nat → Int} {D D' : (Nat → Int) → Prop} {s s' : Dat} {cl : Int} {p : Nat} (h : Sof a D s) (ecl : s.1 2 = J cl) (b1 : -1 ≤ cl ∧ cl ≤ 99) (hp : (p : Int) < a 56) (hlt : cz a X (p + 1) < cl)
    (e1 : s'.1 2 = s.1 2) (e2 : s'.1 3 = s.1 3) (e3 : s'.2 0 = s.2 0) (mid : ∀ A, Way a A → D' A → D A ∨ ∀ q : Nat, q < p + 1 → A q = X q) (hD : ∀ A, Way a A → D A → D' A) : Sof a D' s' := by
  rcases h with ⟨a1, _, _⟩ | ⟨B, c1, c2, c3, c4, c5, c6⟩
  · exfalso
    have cx := @cz_b a X (p + 1)
    have k1 : cl = -1 := J_inj (ecl.symm.trans a1) (by omega) (by omega)
    omega
  · have cb := @cz_b a B (a 56).toNat
    have k1 : cl = cz a B (a 56).toNat := J_inj (ecl.symm.trans c3) (by omega) (by omega)
    refine Or.inr ⟨B, c1, hD B c1 c2, e1.trans c3, e2.trans c4, fun q hq => by rw [e3]; exact c5 q hq, fun A hA hd => ?_⟩
    rcases mid A hA hd with h1 | h1
    · exact c6 A hA h1
    · left
      refine cz_lt ?_
      have h2 := cz_anti a A (p + 1) ((a 56).toNat - (p + 1))
      rw [show p + 1 + ((a 56).toNat - (p + 1)) = (a 56).toNat from by omega, cz_ext h1] at h2
      omega
theorem way_id {a : Nat → Int} (hle : a 56 ≤ a 54) : Way a (fun q => (q : Int)) := by
  refine ⟨fun q hq' => ?_, fun p q a1 a2 => ?_⟩
  · show (0 : Int) ≤ (q : Int) ∧ (q : Int) < a 54
    omega
  · show ¬ (p : Int) = (q : Int)
    omega
set_option maxHeartbeats 8000000 in
theorem c_search (k : Nat) (hk : 20000 < k) {d st bd h8 : Dat} {a : Nat → Int} (hS : SS st a) (hs : WS a) (hb : WB a) (hB : BB bd a) (hp0 : 0 < a 56) (hle : a 56 ≤ a 54) (h55 : 0 < a 55) : SQ a (fX3_search k d st bd h8) := by
  obtain ⟨n56, n57, n23, hP, hQ⟩ := id hb
  have n54 := hs.1
  have hN : (((a 54).toNat : Nat) : Int) = a 54 := by omega
  have two : Two a := by
    rcases mlz_two hs hb h55 (a 56).toNat (by omega) with h | h
    · exact Or.inl (fun A hA => h A (fun p hp => hA.1 p (by omega)))
    · exact Or.inr h
  have c0 : ∀ {α : Type} (E : Option α), chk 6 (0 : Int32) E = E := fun E => by rw [J_lit, chk_J (by omega)]
  have z0 : (0 : Int32).toNatClampNeg = 0 := rfl
  unfold fX3_search
  simp only [c0, z0]
  refine lp_for (fun (j : Nat) (v : Int32 × Int32 × Dat × Dat × Dat) => v.2.1 = J j ∧ ((∃ p : Nat, v.1 = J p ∧ (p : Int) < a 56 ∧ AtP a j p v.2.2.1 v.2.2.2.1) ∨ (v.1 = J (-1) ∧ Sof a (fun _ => True) v.2.2.1))) 10000 (SQ a) ?_ ?_ ⟨rfl, Or.inl ⟨0, rfl, by omega, fun _ => -1, ?_, ?_, ?_, ?_, ?_, ?_, ?_⟩⟩ (by omega)
  · intro j v hj ⟨hv, hc⟩
    obtain ⟨x, i, s, t, h⟩ := v
    have hv' : i = J j := hv
    subst hv'
    have hq : (10000 ≤ J (j : Int)) = False := by rw [J_lit, J_le (by omega)]; exact eq_false (by omega)
    rcases hc with ⟨p, hx, hp, W, w1, w2, w3, w4, w5, w6, w7⟩ | ⟨hx, hB'⟩
    · have hx' : x = J p := hx
      subst hx'
      replace w1 : ∀ q : Nat, q ≤ p → t.2 2 q = J (W q) := w1
      replace w5 : ∀ q : Nat, q < p → s.2 1 q = J (cz a W (q + 1)) := w5
      replace w7 : Sof a (fun A => cd (a 54) A (p + 1) ≤ cd (a 54) W (p + 1)) s := w7
      have hneg : (J (p : Int) < 0) = False := by rw [J_lit, J_lt (by omega)]; exact eq_false (by omega)
      obtain ⟨r, er, hr⟩ := c_nextFree k (by omega) (bd := (bd.1, va_up (va_up bd.2 2 (upd (bd.2 2) 0 (-1))) 2 (t.2 2))) hS hs (show p < 6 by omega) w1 w2 w3
      left
      rcases hr with ⟨r1, hnone⟩ | ⟨r1, r2, r3, r4⟩
      · -- no window is left for p
        subst r1
        have eback : J (p : Int) + -1 = J ((p : Int) - 1) := by rw [show (-1 : Int32) = J (-1) from rfl, J_add]; congr 1
        have hdone : ∀ A : Nat → Int, Way a A → cd (a 54) A p ≤ cd (a 54) W p → cd (a 54) A (p + 1) ≤ cd (a 54) W (p + 1) := fun A hA hd => by
          have ap := hA.1 p hp
          rw [cd_s, cd_s]
          refine (cd_lt ap w3).mpr ?_
          by_cases c : cd (a 54) A p < cd (a 54) W p
          · exact Or.inl c
          · right
            have e : cd (a 54) A p = cd (a 54) W p := by omega
            have pre := cd_pre hA (by omega) w2 e
            have fr := way_free hA hp w2 pre
            refine ⟨e, ?_⟩
            by_cases c2 : A p ≤ W p
            · exact c2
            · have := hnone (A p).toNat (by omega) (by omega)
              rw [this] at fr
              cases fr
        have hdone2 : ∀ A : Nat → Int, Way a A → cd (a 54) A (p + 1) ≤ cd (a 54) W (p + 1) → cd (a 54) A p ≤ cd (a 54) W p := fun A hA hd => by
          have ap := hA.1 p hp
          rw [cd_s, cd_s] at hd
          have := (cd_lt ap w3).mp hd
          omega
        apply Exists.intro
        refine ⟨fun rec => ?_, ?_, ?_⟩
        · unfold fX3_search_B24
          simp (disch := omega) only [hq, hneg, if_false, er, Option.bind_some, chk_J, J_nat, Int.toNat_natCast, upd_same]
          rw [if_pos (show J (-1) = -1 from rfl), eback, J_suc]
        · rfl
        · by_cases p0 : p = 0
          · subst p0
            right
            refine ⟨rfl, w7.ext rfl rfl rfl (fun A hA _ => hdone A hA (Int.le_refl _)) (fun A hA _ => trivial)⟩
          · left
            obtain ⟨p', rfl⟩ : ∃ p' : Nat, p = p' + 1 := ⟨p - 1, by omega⟩
            refine ⟨p', ?_, by omega, W, fun q hq' => ?_, fun q hq' => w2 q (by omega), ?_, fun q q' a1 a2 => w4 q q' a1 (by omega), fun q hq' => w5 q (by omega), ?_, w7.ext rfl rfl rfl hdone hdone2⟩
            · show J ((((p' + 1 : Nat) : Int)) - 1) = J p'
              congr 1
              omega
            · show upd (t.2 2) (p' + 1) (J (-1)) q = J (W q)
              rw [upd_ne (by omega)]
              exact w1 q (by omega)
            · have := w2 p' (by omega)
              omega
            · rw [mus_s] at w6
              omega
      · -- the next window r
        have W'p : zup W p r p = r := zup_same _ _ _
        have W'q : ∀ q : Nat, q < p → zup W p r q = W q := fun q hq' => zup_ne (by omega)
        have e0 := hB.2.1 p hp
        have c1 : cz a (zup W p r) (p + 1) = if lv a p r < cz a W p then lv a p r else cz a W p := by
          rw [cz_s, W'p, cz_ext W'q]
        have lb := lv_b hs hb (w := r) hp (by omega)
        have czb := @cz_b a W p
        have czb' := @cz_b a (zup W p r) (p + 1)
        have ll := c_leastLoud k (by omega) (bd := (bd.1, va_up (va_up bd.2 2 (upd (bd.2 2) 0 (-1))) 2 (upd (t.2 2) p (J r)))) hS hs hb (w := r) hp (by omega) e0.1 (upd_same (t.2 2) p (J r)) e0.2.2.1
        have rn1 : (J r = -1) = False := by rw [show (-1 : Int32) = J (-1) from rfl, J_eq (by omega)]; exact eq_false (by omega)
        have frn := frc_next (s := tkn W p) (lo := (W p + 1).toNat) (r := r.toNat) (by omega) r3 (fun v a1 a2 => r4 v (by omega) (by omega)) (a 54).toNat
        rw [if_pos (show r.toNat < (a 54).toNat by omega)] at frn
        have mus1 : mus (a 54).toNat (zup W p r) (p + 1) + cc p ≤ mus (a 54).toNat W (p + 1) := by
          rw [mus_s, mus_s, mus_ext W'q, tkn_ext W'q, W'p, frn, Nat.add_mul, show (r + 1).toNat = r.toNat + 1 from by omega]
          omega
        have ccp : 1 ≤ cc p := by
          have : p = 0 ∨ p = 1 ∨ p = 2 ∨ p = 3 ∨ p = 4 ∨ p = 5 := by omega
          rcases this with e | e | e | e | e | e <;> subst e <;> decide
        have cdW' : cd (a 54) (zup W p r) (p + 1) = cd (a 54) W p * a 54 + r := by rw [cd_s, W'p, cd_ext W'q]
        have row : ∀ q : Nat, q ≤ p → upd (t.2 2) p (J r) q = J (zup W p r q) := fun q hq' => by
          by_cases e : q = p
          · rw [e, upd_same, zup_same]
          · rw [upd_ne e, zup_ne e]
            exact w1 q hq'
        have rng : ∀ q : Nat, q < p + 1 → 0 ≤ zup W p r q ∧ zup W p r q < a 54 := fun q hq' => by
          by_cases e : q = p
          · rw [e, zup_same]
            omega
          · rw [zup_ne e]
            exact w2 q (by omega)
        have dis : ∀ q q' : Nat, q < q' → q' < p + 1 → ¬ zup W p r q = zup W p r q' := fun q q' a1 a2 => by
          by_cases e : q' = p
          · rw [e, zup_same, zup_ne (by omega)]
            intro h
            have := (tkn_bit W r.toNat p).mpr ⟨q, by omega, by rw [h]⟩
            rw [this] at r3
            cases r3
          · rw [zup_ne (by omega), zup_ne e]
            exact w4 q q' a1 (by omega)
        have czrow : ∀ q : Nat, q < p + 1 → upd (s.2 1) p (J (cz a (zup W p r) (p + 1))) q = J (cz a (zup W p r) (q + 1)) := fun q hq' => by
          by_cases e : q = p
          · rw [e, upd_same]
          · rw [upd_ne e, w5 q (by omega)]
            congr 1
            exact cz_ext (fun i hi => (zup_ne (by omega)).symm)
        have lsf0 : p = 0 → (if J (lv a p r) < (99 : Int32) then J (lv a p r) else (99 : Int32)) = J (cz a (zup W p r) (p + 1)) := fun e => by
          rw [c1]
          subst e
          rw [show (99 : Int32) = J 99 from rfl]
          simp (disch := omega) only [J_lt, J_ite]
          rfl
        have lsf1 : ¬ p = 0 → (if J (lv a p r) < s.2 1 (p - 1) then J (lv a p r) else s.2 1 (p - 1)) = J (cz a (zup W p r) (p + 1)) := fun e => by
          rw [w5 (p - 1) (by omega), c1, show p - 1 + 1 = p from by omega]
          simp (disch := omega) only [J_lt, J_ite]
        have pz : (J (p : Int) = 0) = (p = 0) := by rw [J_lit, J_eq (by omega)]; exact propext (by omega)
        have mid : ∀ A : Nat → Int, Way a A → cd (a 54) A (p + 1) ≤ cd (a 54) (zup W p r) (p + 1) → cd (a 54) A (p + 1) ≤ cd (a 54) W (p + 1) ∨ ∀ q : Nat, q < p + 1 → A q = zup W p r q := fun A hA hd => by
          have ap := hA.1 p hp
          rw [cdW', cd_s] at hd
          have h1 := (cd_lt ap (show -1 ≤ r ∧ r < a 54 by omega)).mp hd
          by_cases c : cd (a 54) A (p + 1) ≤ cd (a 54) W (p + 1)
          · exact Or.inl c
          · right
            have h2 : ¬ (cd (a 54) A p < cd (a 54) W p ∨ (cd (a 54) A p = cd (a 54) W p ∧ A p ≤ W p)) := fun h => c (by rw [cd_s, cd_s]; exact (cd_lt ap w3).mpr h)
            have e : cd (a 54) A p = cd (a 54) W p := by omega
            have pre := cd_pre hA (by omega) w2 e
            have fr := way_free hA hp w2 pre
            have ar : A p = r := by
              by_cases c3 : A p < r
              · have := r4 (A p).toNat (by omega) (by omega)
                rw [this] at fr
                cases fr
              · omega
            intro q hq'
            by_cases e2 : q = p
            · rw [e2, W'p]
              exact ar
            · rw [W'q q (by omega)]
              exact pre q (by omega)
        have up : ∀ A : Nat → Int, cd (a 54) A (p + 1) ≤ cd (a 54) W (p + 1) → cd (a 54) A (p + 1) < cd (a 54) (zup W p r) (p + 1) := fun A h => by
          rw [cdW']
          rw [cd_s (a 54) W p] at h
          omega
        have cur : ∃ cl cs : Int, s.1 2 = J cl ∧ s.1 3 = J cs ∧ -1 ≤ cl ∧ cl ≤ 99 ∧ 0 ≤ cs ∧ cs ≤ 100000 := by
          rcases w7 with ⟨a1, a2, _⟩ | ⟨B, b1, _, b3, b4, _⟩
          · exact ⟨-1, 0, a1, a2, by omega, by omega, by omega, by omega⟩
          · have := @cz_b a B (a 56).toNat
            have := ssm_b (WS_at (A := B) hs hb) (WB_at hb b1.1) (a 55).toNat (by rw [atA_lo n56 (by omega)]; have := hs.2.1; omega)
            have n55 := hs.2.1
            refine ⟨_, _, b3, b4, by omega, by omega, ?_, ?_⟩
            · unfold SM
              omega
            · unfold SM
              omega
        obtain ⟨cl, cs, ecl, ecs, bl1, bl2, bs1, bs2⟩ := cur
        have ple : (J cl ≤ J (cz a (zup W p r) (p + 1))) = (cl ≤ cz a (zup W p r) (p + 1)) := by rw [J_le (by omega)]
        by_cases prune : cl ≤ cz a (zup W p r) (p + 1)
        · by_cases leaf : a 56 ≤ (p : Int) + 1
          · -- a whole way
            have hpn : (a 56).toNat = p + 1 := by omega
            have lf : (J (a 56) ≤ J ((p + 1 : Nat) : Int)) = True := by rw [J_le (by omega)]; exact eq_true (by omega)
            have hBw : BB (bd.1, va_up (va_up bd.2 2 (upd (bd.2 2) 0 (-1))) 2 (upd (t.2 2) p (J r))) (atA a (zup W p r)) := by
              have := BB_at (f := upd (t.2 2) p (J r)) (A := zup W p r) hB hb (fun q hq' => row q (by omega))
              exact this
            have hway : Way a (zup W p r) := ⟨fun q hq' => rng q (by omega), fun q q' a1 a2 => dis q q' a2 (by omega)⟩
            obtain ⟨s', h', ej, hj'⟩ := c_judge k (by omega) (d := (s.1, va_up (va_up d.2 0 (s.2 0)) 1 (upd (s.2 1) p (J (cz a (zup W p r) (p + 1)))))) (h8 := (h.1, va_up (va_up (va_up h8.2 1 (h.2 1)) 2 (h.2 2)) 3 (h.2 3))) (l := cz a (zup W p r) (p + 1)) hS hs hb hBw hway.1 czb' ⟨bl1, bl2⟩ ⟨bs1, bs2⟩ ecl ecs
            apply Exists.intro
            refine ⟨fun rec => ?_, ?_, Or.inl ⟨p, ?_, hp, zup W p r, ?_, ?_, ?_, ?_, ?_, ?_, ?_⟩⟩
            · by_cases p0 : p = 0
              · unfold fX3_search_B24
                simp (disch := omega) only [hq, hneg, if_false, er, Option.bind_some, chk_J, J_nat, Int.toNat_natCast, upd_same, rn1, pz, eq_true p0, if_true, ll, lsf0 p0, ecl, ple, prune, hB.1.1, J_suc, lf, ej]
                all_goals exact rfl
              · have i1 : J (p : Int) - 1 = J ((p : Int) - 1) := by rw [J_lit, J_sub]
                have i2 : ((p : Int) - 1).toNat = p - 1 := by omega
                unfold fX3_search_B24
                simp (disch := omega) only [hq, hneg, if_false, er, Option.bind_some, chk_J, J_nat, Int.toNat_natCast, upd_same, rn1, pz, eq_false p0, if_true, ll, i1, i2, lsf1 p0, ecl, ple, prune, hB.1.1, J_suc, lf, ej]
                all_goals exact rfl
            · rfl
            · rfl
            · exact fun q hq' => row q hq'
            · exact fun q hq' => rng q (by omega)
            · rw [W'p]
              omega
            · exact fun q q' a1 a2 => dis q q' a1 (by omega)
            · exact fun q hq' => czrow q (by omega)
            · omega
            · have m2 : ∀ A, Way a A → cd (a 54) A (p + 1) ≤ cd (a 54) (zup W p r) (p + 1) → cd (a 54) A (p + 1) ≤ cd (a 54) W (p + 1) ∨ ∀ q : Nat, (q : Int) < a 56 → A q = zup W p r q := fun A hA hd => by
                rcases mid A hA hd with h1 | h1
                · exact Or.inl h1
                · exact Or.inr (fun q hq' => h1 q (by omega))
              rcases hj' with ⟨hbetter, g1, g2, g3⟩ | ⟨hn1, hn2, g1, g2, g3⟩
              · exact Sof_new hs hb two w7 ecl ecs ⟨bl1, bl2⟩ ⟨bs1, bs2⟩ hway (by rw [hpn]) prune hbetter g1 g2 g3 m2 (Int.le_refl _)
              · exact Sof_old hs hb two w7 ecl ecs ⟨bl1, bl2⟩ ⟨bs1, bs2⟩ hway (by rw [hpn]) prune hn1 hn2 g1 g2 g3 m2 (fun A _ hd => Int.le_of_lt (up A hd)) (fun A hd => by rw [hpn]; exact Int.le_of_lt (up A hd))
          · -- one player further
            have lf : (J (a 56) ≤ J ((p + 1 : Nat) : Int)) = False := by rw [J_le (by omega)]; exact eq_false (by omega)
            have V2 : ∀ q : Nat, q < p + 1 → zup (zup W p r) (p + 1) (-1) q = zup W p r q := fun q hq' => zup_ne (by omega)
            have mus2 : mus (a 54).toNat (zup (zup W p r) (p + 1) (-1)) (p + 2) + 1 ≤ mus (a 54).toNat (zup W p r) (p + 1) + cc p := by
              rw [mus_s, mus_ext V2, tkn_ext V2, zup_same]
              have f1 := frc_pcn (tkn (zup W p r) (p + 1)) (a 54).toNat
              have f2 := pcn_tkn (W := zup W p r) (N := (a 54).toNat) (by omega) (p := p + 1) (fun q hq' => by have := rng q hq'; omega) dis
              rw [show ((-1 : Int) + 1).toNat = 0 from rfl]
              have f3 : frc (tkn (zup W p r) (p + 1)) 0 (a 54).toNat ≤ 5 - p := by omega
              have f4 := Nat.mul_le_mul_right (cc (p + 1)) f3
              have : p = 0 ∨ p = 1 ∨ p = 2 ∨ p = 3 ∨ p = 4 := by omega
              rcases this with e | e | e | e | e <;> subst e <;> simp only [cc, Nat.reduceAdd, Nat.reduceSub, Nat.reduceMul] at f4 ⊢ <;> omega
            apply Exists.intro
            refine ⟨fun rec => ?_, ?_, Or.inl ⟨p + 1, ?_, by omega, zup (zup W p r) (p + 1) (-1), ?_, ?_, ?_, ?_, ?_, ?_, ?_⟩⟩
            · by_cases p0 : p = 0
              · unfold fX3_search_B24
                simp (disch := omega) only [hq, hneg, if_false, er, Option.bind_some, chk_J, J_nat, Int.toNat_natCast, upd_same, rn1, pz, eq_true p0, if_true, ll, lsf0 p0, ecl, ple, prune, hB.1.1, J_suc, lf]
                all_goals exact rfl
              · have i1 : J (p : Int) - 1 = J ((p : Int) - 1) := by rw [J_lit, J_sub]
                have i2 : ((p : Int) - 1).toNat = p - 1 := by omega
                unfold fX3_search_B24
                simp (disch := omega) only [hq, hneg, if_false, er, Option.bind_some, chk_J, J_nat, Int.toNat_natCast, upd_same, rn1, pz, eq_false p0, if_true, ll, i1, i2, lsf1 p0, ecl, ple, prune, hB.1.1, J_suc, lf]
                all_goals exact rfl
            · rfl
            · rfl
            · intro q hq'
              show upd (upd (t.2 2) p (J r)) (p + 1) (J (-1)) q = _
              by_cases e : q = p + 1
              · rw [e, upd_same, zup_same]
              · rw [upd_ne e, zup_ne e]
                exact row q (by omega)
            · intro q hq'
              rw [V2 q hq']
              exact rng q hq'
            · rw [zup_same]
              omega
            · intro q q' a1 a2
              rw [V2 q (by omega), V2 q' a2]
              exact dis q q' a1 a2
            · intro q hq'
              rw [cz_ext (B := zup W p r) (fun i hi => V2 i (by omega))]
              exact czrow q hq'
            · show j + 1 + mus (a 54).toNat (zup (zup W p r) (p + 1) (-1)) (p + 2) ≤ 3193
              omega
            · have hcd : cd (a 54) (zup (zup W p r) (p + 1) (-1)) (p + 2) = cd (a 54) (zup W p r) (p + 1) * a 54 + -1 := by rw [cd_s, cd_ext V2, zup_same]
              refine w7.ext rfl rfl rfl (fun A hA hd => ?_) (fun A hA hd => ?_)
              · have hd' : cd (a 54) A (p + 2) ≤ cd (a 54) (zup (zup W p r) (p + 1) (-1)) (p + 2) := hd
                rw [hcd, cd_s] at hd'
                have h1 := (cd_lt (hA.1 (p + 1) (by omega)) (show -1 ≤ (-1 : Int) ∧ (-1 : Int) < a 54 by omega)).mp hd'
                have ap := (hA.1 (p + 1) (by omega)).1
                rcases mid A hA (by omega) with h2 | h2
                · exact h2
                · have := cd_ext (N := a 54) h2
                  omega
              · show cd (a 54) A (p + 2) ≤ _
                rw [hcd, cd_s]
                refine (cd_lt (hA.1 (p + 1) (by omega)) (by omega)).mpr (Or.inl (up A hd))
        · -- less loud than the best one
          apply Exists.intro
          refine ⟨fun rec => ?_, ?_, Or.inl ⟨p, ?_, hp, zup W p r, ?_, ?_, ?_, ?_, ?_, ?_, ?_⟩⟩
          · by_cases p0 : p = 0
            · unfold fX3_search_B24
              simp (disch := omega) only [hq, hneg, if_false, er, Option.bind_some, chk_J, J_nat, Int.toNat_natCast, upd_same, rn1, pz, eq_true p0, if_true, ll, lsf0 p0, ecl, ple, prune, J_suc]
              all_goals exact rfl
            · have i1 : J (p : Int) - 1 = J ((p : Int) - 1) := by rw [J_lit, J_sub]
              have i2 : ((p : Int) - 1).toNat = p - 1 := by omega
              unfold fX3_search_B24
              simp (disch := omega) only [hq, hneg, if_false, er, Option.bind_some, chk_J, J_nat, Int.toNat_natCast, upd_same, rn1, pz, eq_false p0, if_true, ll, i1, i2, lsf1 p0, ecl, ple, prune, J_suc]
              all_goals exact rfl
          · rfl
          · rfl
          · exact fun q hq' => row q hq'
          · exact fun q hq' => rng q (by omega)
          · rw [W'p]
            omega
          · exact fun q q' a1 a2 => dis q q' a1 (by omega)
          · exact fun q hq' => czrow q (by omega)
          · omega
          · exact Sof_prune w7 ecl ⟨bl1, bl2⟩ hp (by omega) rfl rfl rfl mid (fun A _ hd => Int.le_of_lt (up A hd))
    · -- the end
      right
      intro rec
      have hx' : x = J (-1) := hx
      subst hx'
      unfold fX3_search_B24
      simp only [hq, if_false]
      rw [if_pos (show J (-1) < 0 from by decide)]
      refine ⟨_, _, _, rfl, ?_⟩
      rcases hB' with ⟨_, _, a3⟩ | ⟨B, b1, _, _, _, b5, b6⟩
      · exact absurd (a3 (fun q => (q : Int)) (way_id hle) trivial) id
      · exact ⟨B, ⟨b1, fun A hA => b6 A hA trivial⟩, b5⟩
  · intro v ⟨hv, hc⟩ rec
    obtain ⟨x, i, s, t, h⟩ := v
    have hv' : i = J ((10000 : Nat) : Int) := hv
    subst hv'
    rcases hc with ⟨p, hx, hp, W, w1, w2, w3, w4, w5, w6, w7⟩ | ⟨hx, hB'⟩
    · exfalso
      omega
    · unfold fX3_search_B24
      rw [if_pos (show (10000 : Int32) ≤ J ((10000 : Nat) : Int) from by decide)]
      refine ⟨_, _, _, rfl, ?_⟩
      rcases hB' with ⟨_, _, a3⟩ | ⟨B, b1, _, _, _, b5, b6⟩
      · exact absurd (a3 (fun q => (q : Int)) (way_id hle) trivial) id
      · exact ⟨B, ⟨b1, fun A hA => b6 A hA trivial⟩, b5⟩
  · intro q hq'
    have : q = 0 := by omega
    subst this
    exact upd_same (bd.2 2) 0 (-1)
  · intro q hq'
    exact absurd hq' (Nat.not_lt_zero q)
  · show -1 ≤ (-1 : Int) ∧ (-1 : Int) < a 54
    omega
  · intro q q' a1 a2
    exact absurd a2 (Nat.not_lt_zero q')
  · intro q hq'
    exact absurd hq' (Nat.not_lt_zero q)
  · have f1 := frc_pcn 0 (a 54).toNat
    show 0 + (0 + frc 0 ((-1 : Int) + 1).toNat (a 54).toNat * 532 + 1) ≤ 3193
    rw [show ((-1 : Int) + 1).toNat = 0 from rfl]
    omega
  · refine Or.inl ⟨rfl, rfl, fun A hA hd => ?_⟩
    have h0 := (hA.1 0 (by omega)).1
    have hd' : 0 * a 54 + A 0 ≤ 0 * a 54 + -1 := hd
    omega
