def J (z : Int) : Int32 := Int32.ofInt z
def Jf (a : Nat → Int) : Nat → Int32 := fun i => J (a i)
theorem Jf_ap (a : Nat → Int) (i : Nat) : Jf a i = J (a i) := rfl
theorem J_lit (n : Nat) : (no_index (OfNat.ofNat n) : Int32) = J (OfNat.ofNat n : Int) := by
  show Int32.ofNat n = Int32.ofInt (n : Int)
  exact Int32.ofInt_eq_ofNat.symm
theorem J_ofNat (n : Nat) : Int32.ofNat n = J (n : Int) := Int32.ofInt_eq_ofNat.symm
theorem J_add (a b : Int) : J a + J b = J (a + b) := (Int32.ofInt_add a b).symm
theorem J_sub (a b : Int) : J a - J b = J (a - b) := (Int32.ofInt_sub a b).symm
theorem J_mul (a b : Int) : J a * J b = J (a * b) := (Int32.ofInt_mul a b).symm
theorem J_neg (a : Int) : - J a = J (- a) := (Int32.ofInt_neg a).symm
theorem J_toInt (x : Int32) : J x.toInt = x := Int32.ofInt_toInt x
theorem toInt_J {z : Int} (h1 : -2147483648 ≤ z) (h2 : z < 2147483648) : (J z).toInt = z := Int32.toInt_ofInt_of_le h1 h2
theorem J_rng (x : Int32) : -2147483648 ≤ x.toInt ∧ x.toInt < 2147483648 := ⟨Int32.le_toInt x, Int32.toInt_lt x⟩
theorem J_lt {a b : Int} (h : -2147483648 ≤ a ∧ a < 2147483648 ∧ -2147483648 ≤ b ∧ b < 2147483648) : (J a < J b) = (a < b) := by
  rw [Int32.lt_iff_toInt_lt, toInt_J h.1 h.2.1, toInt_J h.2.2.1 h.2.2.2]
theorem J_le {a b : Int} (h : -2147483648 ≤ a ∧ a < 2147483648 ∧ -2147483648 ≤ b ∧ b < 2147483648) : (J a ≤ J b) = (a ≤ b) := by
  rw [Int32.le_iff_toInt_le, toInt_J h.1 h.2.1, toInt_J h.2.2.1 h.2.2.2]
theorem J_eq {a b : Int} (h : -2147483648 ≤ a ∧ a < 2147483648 ∧ -2147483648 ≤ b ∧ b < 2147483648) : (J a = J b) = (a = b) := by
  rw [← Int32.toInt_inj, toInt_J h.1 h.2.1, toInt_J h.2.2.1 h.2.2.2]
theorem J_nat {a : Int} (h : -2147483648 ≤ a ∧ a < 2147483648) : (J a).toNatClampNeg = a.toNat := by
  rw [← Int32.toNat_toInt, toInt_J h.1 h.2]
theorem J_natn {a : Nat} (h : a < 2147483648) : (J (a : Int)).toNatClampNeg = a := by
  rw [J_nat (by omega)]
  omega
theorem chk_J {α : Type} {n : Nat} {a : Int} {E : Option α} (h : 0 ≤ a ∧ a < n ∧ a < 2147483648) : chk n (J a) E = E := by
  unfold chk
  refine if_neg (fun q => ?_)
  rcases q with q | q
  · rw [J_lit, J_lt (by omega)] at q
    omega
  · rw [J_nat (by omega)] at q
    omega
theorem J_div {a b : Int} (h : -2147483648 < a ∧ a < 2147483648 ∧ 0 < b ∧ b < 2147483648) : J a / J b = J (a.tdiv b) := by
  have hb : (J a / J b).toInt = (J (a.tdiv b)).toInt := by
    have h1 : (a.tdiv b).natAbs ≤ a.natAbs := Int.natAbs_tdiv_le_natAbs a b
    rw [Int32.toInt_div_of_ne_left, toInt_J (by omega) (by omega), toInt_J (by omega) (by omega), toInt_J (by omega) (by omega)]
    intro hq
    have h2 := congrArg Int32.toInt hq
    rw [toInt_J (by omega) (by omega)] at h2
    have : Int32.minValue.toInt = -2147483648 := by decide
    omega
  exact Int32.toInt_inj.mp hb
theorem J_mod {a b : Int} (h : -2147483648 ≤ a ∧ a < 2147483648 ∧ 0 < b ∧ b < 2147483648) : J a % J b = J (a.tmod b) := by
  have hb : (J a % J b).toInt = (J (a.tmod b)).toInt := by
    rw [Int32.toInt_mod, toInt_J (by omega) (by omega), toInt_J (by omega) (by omega)]
    have h1 := Int.tmod_lt_of_pos a h.2.2.1
    have h2 : -b < a.tmod b := by
      have := Int.tmod_lt_of_pos (-a) h.2.2.1
      rw [Int.neg_tmod] at this
      omega
    rw [toInt_J (by omega) (by omega)]
  exact Int32.toInt_inj.mp hb
theorem lp_run {σ ρ : Type} {B : (σ → Option ρ) → σ → Option ρ} (v : Nat → σ) (n : Nat) (out : Option ρ)
    (h : ∀ j, j < n → ∀ rec, B rec (v j) = rec (v (j + 1))) (he : ∀ rec, B rec (v n) = out) {k : Nat} (hk : n < k) : lp B k (v 0) = out := by
  have key : ∀ m, m ≤ n → ∀ k, m < k → lp B k (v (n - m)) = out := by
    intro m
    induction m with
    | zero =>
      intro _ k hk
      cases k with
      | zero => omega
      | succ k =>
        show B (lp B k) (v (n - 0)) = out
        exact he _
    | succ m ih =>
      intro hm k hk
      cases k with
      | zero => omega
      | succ k =>
        show B (lp B k) (v (n - (m + 1))) = out
        rw [h (n - (m + 1)) (by omega)]
        have e : n - (m + 1) + 1 = n - m := by omega
        rw [e]
        exact ih (by omega) k (by omega)
  have h0 := key n (Nat.le_refl n) k hk
  rw [Nat.sub_self] at h0
  exact h0
theorem lp_inv {σ ρ : Type} {B : (σ → Option ρ) → σ → Option ρ} (I : σ → Prop) (mu : σ → Nat) (Q : Option ρ → Prop)
    (h : ∀ v, I v → ∀ rec : σ → Option ρ, (∀ v1, I v1 → mu v1 < mu v → Q (rec v1)) → Q (B rec v)) : ∀ (k : Nat) (v : σ), I v → mu v < k → Q (lp B k v) := by
  intro k
  induction k with
  | zero => intro v _ hk; omega
  | succ k ih =>
    intro v hv hk
    show Q (B (lp B k) v)
    exact h v hv _ (fun v1 h1 h2 => ih v1 h1 (by omega))
theorem upd_same (f : Nat → Int32) (k : Nat) (x : Int32) : upd f k x k = x := if_pos rfl
theorem upd_ne {f : Nat → Int32} {k j : Nat} {x : Int32} (h : ¬ j = k) : upd f k x j = f j := if_neg h
theorem vu_same {α : Type} (f : Nat → α) (k : Nat) (x : α) : va_up f k x k = x := if_pos rfl
theorem vu_ne {α : Type} {f : Nat → α} {k j : Nat} {x : α} (h : ¬ j = k) : va_up f k x j = f j := if_neg h
def zup (a : Nat → Int) (k : Nat) (x : Int) : Nat → Int := fun j => if j = k then x else a j
theorem zup_same (f : Nat → Int) (k : Nat) (x : Int) : zup f k x k = x := if_pos rfl
theorem zup_ne {f : Nat → Int} {k j : Nat} {x : Int} (h : ¬ j = k) : zup f k x j = f j := if_neg h
theorem upd_J (a : Nat → Int) (k : Nat) (x : Int) : upd (Jf a) k (J x) = Jf (zup a k x) := by
  funext j
  unfold upd Jf zup
  split <;> rfl
theorem chb_0 {α : Type} {E : Option α} : chb 0 E = E := if_pos (Or.inl rfl)
theorem chb_1 {α : Type} {E : Option α} : chb 1 E = E := if_pos (Or.inr rfl)
theorem chb_b {α : Type} (c : Prop) [Decidable c] {E : Option α} : chb (if c then 1 else 0) E = E := by
  split
  · exact chb_1
  · exact chb_0
def b2 (c : Prop) [Decidable c] : Int32 := if c then 1 else 0

theorem J_ite (c : Prop) [Decidable c] (x y : Int) : (if c then J x else J y) = J (if c then x else y) := by split <;> rfl
theorem lp_for {σ ρ : Type} {B : (σ → Option ρ) → σ → Option ρ} (I : Nat → σ → Prop) (n : Nat) (Q : Option ρ → Prop)
    (hs : ∀ j v, j < n → I j v → (∃ v1, (∀ rec, B rec v = rec v1) ∧ I (j + 1) v1) ∨ (∀ rec, Q (B rec v)))
    (he : ∀ v, I n v → ∀ rec, Q (B rec v)) {k : Nat} {v : σ} (h0 : I 0 v) (hk : n < k) : Q (lp B k v) := by
  have key : ∀ m, m ≤ n → ∀ k v, I (n - m) v → m < k → Q (lp B k v) := by
    intro m
    induction m with
    | zero =>
      intro _ k v hv hk
      cases k with
      | zero => omega
      | succ k => exact he v hv _
    | succ m ih =>
      intro hm k v hv hk
      cases k with
      | zero => omega
      | succ k =>
        show Q (B (lp B k) v)
        rcases hs (n - (m + 1)) v (by omega) hv with ⟨v1, h2, h1⟩ | h
        · rw [h2]
          refine ih (by omega) k v1 ?_ (by omega)
          have e : n - (m + 1) + 1 = n - m := by omega
          rw [e] at h1
          exact h1
        · exact h _
  have e : n - n = 0 := Nat.sub_self n
  exact key n (Nat.le_refl n) k v (by rw [e]; exact h0) hk
theorem some_ex {α : Type} {x : α} {P : α → Prop} (h : P x) : ∃ y, some x = some y ∧ P y := ⟨x, rfl, h⟩

theorem lp_forK {σ ω ρ : Type} {B : (ω → Option ρ) → (σ → Option ρ) → σ → Option ρ} (I : Nat → σ → Prop) (n : Nat) (P : ω → Prop)
    (hs : ∀ j v, j < n → I j v → ∃ v1, (∀ K rec, B K rec v = rec v1) ∧ I (j + 1) v1)
    (he : ∀ v, I n v → ∃ w, (∀ K rec, B K rec v = K w) ∧ P w) {k : Nat} {v : σ} (h0 : I 0 v) (hk : n < k) : ∃ w, (∀ K, lp (B K) k v = K w) ∧ P w := by
  have key : ∀ m, m ≤ n → ∀ k v, I (n - m) v → m < k → ∃ w, (∀ K, lp (B K) k v = K w) ∧ P w := by
    intro m
    induction m with
    | zero =>
      intro _ k v hv hk
      cases k with
      | zero => omega
      | succ k =>
        obtain ⟨w, h1, h2⟩ := he v hv
        exact ⟨w, fun K => h1 K _, h2⟩
    | succ m ih =>
      intro hm k v hv hk
      cases k with
      | zero => omega
      | succ k =>
        obtain ⟨v1, h1, h2⟩ := hs (n - (m + 1)) v (by omega) hv
        have e : n - (m + 1) + 1 = n - m := by omega
        rw [e] at h2
        obtain ⟨w, h3, h4⟩ := ih (by omega) k v1 h2 (by omega)
        exact ⟨w, fun K => (h1 K _).trans (h3 K), h4⟩
  have e : n - n = 0 := Nat.sub_self n
  exact key n (Nat.le_refl n) k v (by rw [e]; exact h0) hk
def far (a b : Int) : Int := if b < a then a - b else b - a
def pcs (a : Nat → Int) (i j : Nat) : Int := far (a i) (a j) + far (a (i + 1)) (a (j + 1))
def snv (a : Nat → Int) (w e : Nat) : Int := pcs a (2 * w) (12 + 2 * e) * a 20 + (a 21 * (a (2 * w) - a (12 + 2 * e)) + a 22 * (a (2 * w + 1) - a (12 + 2 * e + 1)))
def snw (a : Nat → Int) (w e : Nat) : Int := if snv a w e < 0 then 0 else snv a w e
def SS (st : Dat) (a : Nat → Int) : Prop :=
  (st.1 0 = J (a 54) ∧ st.1 3 = J (a 55) ∧ st.1 6 = J (a 18) ∧ st.1 7 = J (a 19) ∧ st.1 8 = J (a 20) ∧ st.1 9 = J (a 21) ∧ st.1 10 = J (a 22))
  ∧ (∀ w : Nat, (w : Int) < a 54 → st.2 1 w = J (a (2 * w)) ∧ st.2 2 w = J (a (2 * w + 1)))
  ∧ (∀ e : Nat, (e : Int) < a 55 → st.2 4 e = J (a (12 + 2 * e)) ∧ st.2 5 e = J (a (12 + 2 * e + 1)))
def BB (bd : Dat) (a : Nat → Int) : Prop :=
  (bd.1 0 = J (a 56) ∧ bd.1 7 = J (a 23) ∧ bd.1 8 = J (a 57))
  ∧ (∀ p : Nat, (p : Int) < a 56 → bd.2 1 p = J (a (24 + 5 * p)) ∧ bd.2 2 p = J (a (24 + 5 * p + 1)) ∧ bd.2 3 p = J (a (24 + 5 * p + 2)) ∧ bd.2 4 p = J (a (24 + 5 * p + 3)) ∧ bd.2 5 p = J (a (24 + 5 * p + 4)))
  ∧ (∀ r p : Nat, (r : Int) < a 57 → (p : Int) < a 56 → bd.2 9 (6 * r + p) = J (a (58 + 6 * r + p)))
def WS (a : Nat → Int) : Prop :=
  (0 ≤ a 54 ∧ a 54 ≤ 6) ∧ (0 ≤ a 55 ∧ a 55 ≤ 3) ∧ (1 ≤ a 20 ∧ a 20 ≤ 9) ∧ (-2 ≤ a 21 ∧ a 21 ≤ 2) ∧ (-2 ≤ a 22 ∧ a 22 ≤ 2)
  ∧ ((a 18 = -1 ∧ a 19 = -1) ∨ (0 ≤ a 18 ∧ a 18 ≤ 99 ∧ 0 ≤ a 19 ∧ a 19 ≤ 99))
  ∧ (∀ i : Nat, i < 18 → 0 ≤ a i ∧ a i ≤ 99)
def W1 (a : Nat → Int) (p : Nat) : Prop :=
  (0 ≤ a (24 + 5 * p) ∧ a (24 + 5 * p) ≤ 5) ∧ (0 ≤ a (24 + 5 * p + 1) ∧ a (24 + 5 * p + 1) < a 54) ∧ (1 ≤ a (24 + 5 * p + 2) ∧ a (24 + 5 * p + 2) ≤ 99)
  ∧ (-500 ≤ a (24 + 5 * p + 3) ∧ a (24 + 5 * p + 3) ≤ 500) ∧ (0 ≤ a (24 + 5 * p + 4) ∧ a (24 + 5 * p + 4) < a 56)
def WB (a : Nat → Int) : Prop :=
  (0 ≤ a 56 ∧ a 56 ≤ 6) ∧ (0 ≤ a 57 ∧ a 57 ≤ 8) ∧ (0 ≤ a 23 ∧ a 23 ≤ 999)
  ∧ (∀ p : Nat, (p : Int) < a 56 → W1 a p)
  ∧ (∀ r p : Nat, (r : Int) < a 57 → (p : Int) < a 56 → -500 ≤ a (58 + 6 * r + p) ∧ a (58 + 6 * r + p) ≤ 500)
theorem mul_b {x y X Y : Int} (h1 : -X ≤ x) (h2 : x ≤ X) (h3 : -Y ≤ y) (h4 : y ≤ Y) : -(X * Y) ≤ x * y ∧ x * y ≤ X * Y := by
  have hX : (x.natAbs : Int) ≤ X := by omega
  have hY : (y.natAbs : Int) ≤ Y := by omega
  have h : (x.natAbs : Int) * (y.natAbs : Int) ≤ X * Y := Int.mul_le_mul hX hY (by omega) (by omega)
  have e : (x.natAbs : Int) * (y.natAbs : Int) = ((x * y).natAbs : Int) := by rw [Int.natAbs_mul]; rfl
  omega
theorem far_b {a b : Int} (h : 0 ≤ a ∧ a ≤ 99 ∧ 0 ≤ b ∧ b ≤ 99) : 0 ≤ far a b ∧ far a b ≤ 99 := by
  unfold far
  omega
theorem snv_b {a : Nat → Int} (hs : WS a) {w e : Nat} (hw : w < 6) (he : e < 3) : (0 ≤ pcs a (2 * w) (12 + 2 * e) ∧ pcs a (2 * w) (12 + 2 * e) ≤ 198) ∧ (0 ≤ pcs a (2 * w) (12 + 2 * e) * a 20 ∧ pcs a (2 * w) (12 + 2 * e) * a 20 ≤ 1782) ∧ (-198 ≤ a 21 * (a (2 * w) - a (12 + 2 * e)) ∧ a 21 * (a (2 * w) - a (12 + 2 * e)) ≤ 198) ∧ (-198 ≤ a 22 * (a (2 * w + 1) - a (12 + 2 * e + 1)) ∧ a 22 * (a (2 * w + 1) - a (12 + 2 * e + 1)) ≤ 198) := by
  obtain ⟨_, _, h20, h21, h22, _, hp⟩ := hs
  have a1 := hp (2 * w) (by omega)
  have a2 := hp (2 * w + 1) (by omega)
  have a3 := hp (12 + 2 * e) (by omega)
  have a4 := hp (12 + 2 * e + 1) (by omega)
  have f1 := @far_b (a (2 * w)) (a (12 + 2 * e)) (by omega)
  have f2 := @far_b (a (2 * w + 1)) (a (12 + 2 * e + 1)) (by omega)
  have hP : 0 ≤ pcs a (2 * w) (12 + 2 * e) ∧ pcs a (2 * w) (12 + 2 * e) ≤ 198 := by
    unfold pcs
    omega
  have m1 := @mul_b (pcs a (2 * w) (12 + 2 * e)) (a 20) 198 9 (by omega) (by omega) (by omega) (by omega)
  have m0 : 0 ≤ pcs a (2 * w) (12 + 2 * e) * a 20 := Int.mul_nonneg hP.1 (by omega)
  have m2 := @mul_b (a 21) (a (2 * w) - a (12 + 2 * e)) 2 99 (by omega) (by omega) (by omega) (by omega)
  have m3 := @mul_b (a 22) (a (2 * w + 1) - a (12 + 2 * e + 1)) 2 99 (by omega) (by omega) (by omega) (by omega)
  exact ⟨hP, ⟨m0, by omega⟩, by omega, by omega⟩
theorem snw_b {a : Nat → Int} (hs : WS a) {w e : Nat} (hw : w < 6) (he : e < 3) : 0 ≤ snw a w e ∧ snw a w e ≤ 2178 := by
  have h := snv_b hs hw he
  unfold snw snv
  omega
theorem c_apart (k : Nat) {x0 y0 x1 y1 : Int} (h : -1000 ≤ x0 ∧ x0 ≤ 1000 ∧ -1000 ≤ y0 ∧ y0 ≤ 1000 ∧ -1000 ≤ x1 ∧ x1 ≤ 1000 ∧ -1000 ≤ y1 ∧ y1 ≤ 1000) : fX6_apart k (J x0) (J y0) (J x1) (J y1) = some (J (far x0 x1 + far y0 y1)) := by
  unfold fX6_apart far
  simp (disch := omega) only [J_sub, J_lit, J_le]
  have e : ∀ (z : Int), (if (0 : Int) ≤ z then J z else J (0 - z)) = J (if 0 ≤ z then z else 0 - z) := fun z => by split <;> rfl
  rw [e, e, J_add]
  have e1 : ∀ u v : Int, (if (0 : Int) ≤ u - v then u - v else 0 - (u - v)) = (if v < u then u - v else v - u) := fun u v => by split <;> split <;> omega
  rw [e1, e1]
theorem c_soundTime (k : Nat) {st : Dat} {a : Nat → Int} (hS : SS st a) (hs : WS a) {w e : Nat} (hw : (w : Int) < a 54) (he : (e : Int) < a 55) : fX4_soundTime k st (J w) (J e) = some (J (snw a w e)) := by
  have b := hs
  obtain ⟨b54, b55, b20, b21, b22, b18, bp⟩ := b
  have w6 : w < 6 := by omega
  have e3 : e < 3 := by omega
  have hb := snv_b hs w6 e3
  obtain ⟨⟨_, _, _, _, h8, h9, h10⟩, hW, hE⟩ := hS
  obtain ⟨q1, q2⟩ := hW w hw
  obtain ⟨q3, q4⟩ := hE e he
  unfold fX4_soundTime
  have a1 := bp (2 * w) (by omega)
  have a2 := bp (2 * w + 1) (by omega)
  have a3 := bp (12 + 2 * e) (by omega)
  have a4 := bp (12 + 2 * e + 1) (by omega)
  simp (disch := omega) only [chk_J, J_natn, q1, q2, q3, q4, h8, h9, h10, c_apart, Option.bind_some, J_add, J_sub, J_mul, J_lit]
  have hv : snv a w e = (far (a (2 * w)) (a (12 + 2 * e)) + far (a (2 * w + 1)) (a (12 + 2 * e + 1))) * a 20 + (a 21 * (a (2 * w) - a (12 + 2 * e)) + a 22 * (a (2 * w + 1) - a (12 + 2 * e + 1))) := rfl
  have hv' := hv
  unfold snv at hv'
  rw [← hv]
  have hv2 : -1000 ≤ snv a w e ∧ snv a w e ≤ 3000 := by unfold snv; omega
  simp (disch := omega) only [J_lt, J_ite]
  congr 2
  unfold snw
  omega
theorem c_pacesToEar (k : Nat) {st : Dat} {a : Nat → Int} (hS : SS st a) (hs : WS a) {w e : Nat} (hw : (w : Int) < a 54) (he : (e : Int) < a 55) : fX4_pacesToEar k st (J w) (J e) = some (J (pcs a (2 * w) (12 + 2 * e))) := by
  have b := hs
  obtain ⟨b54, b55, b20, b21, b22, b18, bp⟩ := b
  obtain ⟨_, hW, hE⟩ := hS
  obtain ⟨q1, q2⟩ := hW w hw
  obtain ⟨q3, q4⟩ := hE e he
  unfold fX4_pacesToEar
  have a1 := bp (2 * w) (by omega)
  have a2 := bp (2 * w + 1) (by omega)
  have a3 := bp (12 + 2 * e) (by omega)
  have a4 := bp (12 + 2 * e + 1) (by omega)
  simp (disch := omega) only [chk_J, J_natn, q1, q2, q3, q4, c_apart, Option.bind_some]
  rfl
theorem c_pacesByMill (k : Nat) {st : Dat} {a : Nat → Int} (hS : SS st a) (hs : WS a) {w e : Nat} (hw : (w : Int) < a 54) (he : (e : Int) < a 55) : fX4_pacesByMill k st (J w) (J e) = some (J (pcs a (2 * w) 18 + pcs a 18 (12 + 2 * e))) := by
  have b := hs
  obtain ⟨b54, b55, b20, b21, b22, b18, bp⟩ := b
  obtain ⟨⟨_, _, h6, h7, _⟩, hW, hE⟩ := hS
  obtain ⟨q1, q2⟩ := hW w hw
  obtain ⟨q3, q4⟩ := hE e he
  unfold fX4_pacesByMill
  have a1 := bp (2 * w) (by omega)
  have a2 := bp (2 * w + 1) (by omega)
  have a3 := bp (12 + 2 * e) (by omega)
  have a4 := bp (12 + 2 * e + 1) (by omega)
  simp (disch := omega) only [chk_J, J_natn, q1, q2, q3, q4, h6, h7, c_apart, Option.bind_some, J_add]
  rfl
theorem c_timeBetween (k : Nat) {st : Dat} {a : Nat → Int} (hS : SS st a) (hs : WS a) {w v : Nat} (hw : (w : Int) < a 54) (hv : (v : Int) < a 54) : fX4_timeBetween k st (J w) (J v) = some (J (pcs a (2 * w) (2 * v) * a 20)) := by
  have b := hs
  obtain ⟨b54, b55, b20, b21, b22, b18, bp⟩ := b
  obtain ⟨⟨_, _, h6, h7, h8, _⟩, hW, hE⟩ := hS
  obtain ⟨q1, q2⟩ := hW w hw
  obtain ⟨q3, q4⟩ := hW v hv
  unfold fX4_timeBetween
  have a1 := bp (2 * w) (by omega)
  have a2 := bp (2 * w + 1) (by omega)
  have a3 := bp (2 * v) (by omega)
  have a4 := bp (2 * v + 1) (by omega)
  simp (disch := omega) only [chk_J, J_natn, q1, q2, q3, q4, h8, c_apart, Option.bind_some, J_mul]
  rfl
def nxw (a : Nat → Int) (w : Nat) : Nat := if (w : Int) + 1 < a 54 then w + 1 else 0
theorem c_nextWindow (k : Nat) {st : Dat} {a : Nat → Int} (hS : SS st a) (hs : WS a) {w : Nat} (hw : (w : Int) < a 54) : fX4_nextWindow k st (J w) = some (J (nxw a w : Nat)) := by
  obtain ⟨b54, b55, b20, b21, b22, b18, bp⟩ := hs
  obtain ⟨⟨h0, _⟩, _⟩ := hS
  unfold fX4_nextWindow nxw
  rw [h0]
  simp (disch := omega) only [J_lit, J_add, J_le]
  by_cases h : (w : Int) + 1 < a 54
  · rw [if_neg (by omega), if_pos h]
    rfl
  · rw [if_pos (by omega), if_neg h]
    rfl
theorem c_hasMill (k : Nat) {st : Dat} {a : Nat → Int} (hS : SS st a) (hs : WS a) : fX4_hasMill k st = some (if a 18 = -1 then 0 else 1) := by
  obtain ⟨b54, b55, b20, b21, b22, b18, bp⟩ := hs
  obtain ⟨⟨_, _, h6, _⟩, _⟩ := hS
  unfold fX4_hasMill
  rw [h6]
  rw [show (0 : Int32) = J 0 from J_lit 0]
  simp (disch := omega) only [J_lt]
  by_cases h : a 18 = -1
  · rw [if_pos (by omega), if_pos h]
  · rw [if_neg (by omega), if_neg h]
theorem m_far (k : Nat) {x y : Int} (h : -1000 ≤ x ∧ x ≤ 1000 ∧ -1000 ≤ y ∧ y ≤ 1000) : fX7_far k (J x) (J y) = some (J (far x y)) := by
  unfold fX7_far far
  simp (disch := omega) only [J_le, J_sub]
  by_cases q : x ≤ y
  · rw [if_pos q, if_neg (by omega)]
  · rw [if_neg q, if_pos (by omega)]
theorem m_paces (k : Nat) {m : Dat} {a : Nat → Int} (hM : m.2 0 = Jf a) {i j : Nat} (hi : i < 105) (hj : j < 105) (hb : ∀ q : Nat, (q = i ∨ q = i + 1 ∨ q = j ∨ q = j + 1) → -1000 ≤ a q ∧ a q ≤ 1000) : fX7_paces k m (J i) (J j) = some (J (pcs a i j)) := by
  have b1 := hb i (by omega)
  have b2 := hb (i + 1) (by omega)
  have b3 := hb j (by omega)
  have b4 := hb (j + 1) (by omega)
  unfold fX7_paces
  have e1 : J (i : Int) + 1 = J ((i + 1 : Nat) : Int) := by rw [J_lit, J_add]; rfl
  have e2 : J (j : Int) + 1 = J ((j + 1 : Nat) : Int) := by rw [J_lit, J_add]; rfl
  rw [e1, e2]
  simp (disch := omega) only [chk_J, J_natn, hM, Jf_ap, m_far, Option.bind_some, J_add]
  rfl
theorem m_at (i : Nat) : (0 : Int32) + 2 * J i = J ((2 * i : Nat) : Int) := by
  simp only [J_lit, J_mul, J_add]
  congr 1
  omega
theorem m_ea (i : Nat) : (12 : Int32) + 2 * J i = J ((12 + 2 * i : Nat) : Int) := by
  simp only [J_lit, J_mul, J_add]
  congr 1
theorem J_suc (i : Nat) : J (i : Int) + 1 = J ((i + 1 : Nat) : Int) := by rw [J_lit, J_add]; rfl
theorem m_soundOf (k : Nat) {m : Dat} {a : Nat → Int} (hM : m.2 0 = Jf a) (hs : WS a) {w e : Nat} (hw : (w : Int) < a 54) (he : (e : Int) < a 55) : fX7_soundOf k m (J w) (J e) = some (J (snw a w e)) := by
  have b := hs
  obtain ⟨b54, b55, b20, b21, b22, b18, bp⟩ := b
  have w6 : w < 6 := by omega
  have e3 : e < 3 := by omega
  have hb := snv_b hs w6 e3
  unfold fX7_soundOf
  rw [m_at, m_ea]
  rw [m_paces k hM (by omega) (by omega) (fun q hq => by have := bp q (by omega); omega)]
  simp only [Option.bind_some, J_suc]
  simp (disch := omega) only [chk_J, J_nat, Int.toNat_natCast, Int.reduceToNat, Jf_ap, Option.bind_some, J_add, J_sub, J_mul, J_neg, J_ofNat, J_lit, hM]
  have hv : snv a w e = pcs a (2 * w) (12 + 2 * e) * a 20 + (a 21 * (a (2 * w) - a (12 + 2 * e)) + a 22 * (a (2 * w + 1) - a (12 + 2 * e + 1))) := rfl
  rw [← hv]
  have hv2 : -1000 ≤ snv a w e ∧ snv a w e ≤ 3000 := by unfold snv; omega
  simp (disch := omega) only [J_le]
  unfold snw
  by_cases q : snv a w e < 0
  · rw [if_neg (by omega), if_pos q]
  · rw [if_pos (by omega), if_neg q]
theorem m_of (k : Nat) {m : Dat} {a : Nat → Int} (hM : m.2 0 = Jf a) {p x : Nat} (hp : p < 6) (hx : x < 5) : fX7_of k m (J p) (J x) = some (J (a (24 + 5 * p + x))) := by
  unfold fX7_of
  have e : (24 : Int32) + 5 * J p + J x = J ((24 + 5 * p + x : Nat) : Int) := by
    simp only [J_lit, J_mul, J_add]
    congr 1
  rw [e]
  simp (disch := omega) only [chk_J, J_natn, hM, Jf_ap]
theorem m_windows (k : Nat) {m : Dat} {a : Nat → Int} (hM : m.2 0 = Jf a) : fX7_windows k m = some (J (a 54)) := by
  unfold fX7_windows
  rw [hM]
  rfl
theorem m_ears (k : Nat) {m : Dat} {a : Nat → Int} (hM : m.2 0 = Jf a) : fX7_ears k m = some (J (a 55)) := by
  unfold fX7_ears
  rw [hM]
  rfl
theorem m_players (k : Nat) {m : Dat} {a : Nat → Int} (hM : m.2 0 = Jf a) : fX7_players k m = some (J (a 56)) := by
  unfold fX7_players
  rw [hM]
  rfl
def ent (p : Nat) (t l : Int) : List (Nat × Int × Int) := if 0 < l then [(p, t, l)] else []
def wat (a : Nat → Int) (p : Nat) : Nat := (a (24 + 5 * p + 1)).toNat
def mlp (a : Nat → Int) (w e : Nat) : Int := pcs a (2 * w) 18 + pcs a 18 (12 + 2 * e)
def sxp (a : Nat → Int) (e p : Nat) : List (Nat × Int × Int) :=
  ent p (snw a (wat a p) e) (a (24 + 5 * p + 2) - pcs a (2 * wat a p) (12 + 2 * e))
  ++ (if a (24 + 5 * p) = 2 ∧ ¬ a 18 = -1 then ent p (mlp a (wat a p) e * a 20) ((a (24 + 5 * p + 2)).tdiv 2 - mlp a (wat a p) e) else [])
  ++ (if a (24 + 5 * p) = 4 then ent p (snw a (nxw a (wat a p)) e) (a (24 + 5 * p + 2) - pcs a (2 * nxw a (wat a p)) (12 + 2 * e)) else [])
def awk (a : Nat → Int) (s p : Nat) : Bool := decide (¬ a (24 + 5 * p) = 5) && !s.testBit p
theorem awk_t {a : Nat → Int} {s p : Nat} : awk a s p = true ↔ ¬ a (24 + 5 * p) = 5 ∧ s.testBit p = false := by
  unfold awk
  rw [Bool.and_eq_true, decide_eq_true_iff, Bool.not_eq_true']
def hl (a : Nat → Int) (s e : Nat) : Nat → List (Nat × Int × Int)
  | 0 => []
  | j + 1 => hl a s e j ++ (if awk a s j = true then sxp a e j else [])
def HR (n : Int32) (f1 f2 f3 : Nat → Int32) (L : List (Nat × Int × Int)) : Prop :=
  n = J L.length ∧ ∀ (i : Nat) (q : Nat × Int × Int), L[i]? = some q → f1 i = J q.1 ∧ f2 i = J q.2.1 ∧ f3 i = J q.2.2
theorem HR_app {n : Int32} {f1 f2 f3 : Nat → Int32} {L : List (Nat × Int × Int)} (h : HR n f1 f2 f3 L) (hL : L.length < 1000) (p : Nat) (t l : Int) :
    HR (n + 1) (upd f1 n.toNatClampNeg (J p)) (upd f2 n.toNatClampNeg (J t)) (upd f3 n.toNatClampNeg (J l)) (L ++ [(p, t, l)]) := by
  obtain ⟨h1, h2⟩ := h
  subst h1
  refine ⟨?_, ?_⟩
  · rw [List.length_append, List.length_singleton, J_suc]
  · intro i q hq
    simp (disch := omega) only [J_nat, Int.toNat_natCast]
    by_cases hi : i = L.length
    · subst hi
      rw [List.getElem?_append_right (Nat.le_refl _), Nat.sub_self] at hq
      cases hq
      exact ⟨upd_same _ _ _, upd_same _ _ _, upd_same _ _ _⟩
    · rw [upd_ne hi, upd_ne hi, upd_ne hi]
      by_cases hl : i < L.length
      · rw [List.getElem?_append_left hl] at hq
        exact h2 i q hq
      · rw [List.getElem?_eq_none (by rw [List.length_append, List.length_singleton]; omega)] at hq
        cases hq
theorem ent_len (p : Nat) (t l : Int) : (ent p t l).length ≤ 1 := by
  unfold ent
  split <;> simp
theorem sxp_len (a : Nat → Int) (e p : Nat) : (sxp a e p).length ≤ 2 := by
  unfold sxp
  have h1 := ent_len p (snw a (wat a p) e) (a (24 + 5 * p + 2) - pcs a (2 * wat a p) (12 + 2 * e))
  have h2 := ent_len p (mlp a (wat a p) e * a 20) ((a (24 + 5 * p + 2)).tdiv 2 - mlp a (wat a p) e)
  have h3 := ent_len p (snw a (nxw a (wat a p)) e) (a (24 + 5 * p + 2) - pcs a (2 * nxw a (wat a p)) (12 + 2 * e))
  rw [List.length_append, List.length_append]
  by_cases q : a (24 + 5 * p) = 4
  · rw [if_neg (by omega), if_pos q, List.length_nil]
    omega
  · rw [if_neg q, List.length_nil]
    split
    · omega
    · rw [List.length_nil]
      omega
theorem hl_len (a : Nat → Int) (s e j : Nat) : (hl a s e j).length ≤ 2 * j := by
  induction j with
  | zero => exact Nat.le_refl 0
  | succ j ih =>
    have h := sxp_len a e j
    unfold hl
    rw [List.length_append]
    split
    · omega
    · rw [List.length_nil]
      omega
theorem c_add (k : Nat) {d : Dat} {L : List (Nat × Int × Int)} (h : HR (d.1 0) (d.2 1) (d.2 2) (d.2 3) L) (hL : L.length < 12) {p : Nat} {t l : Int} (hp : p < 6) (hl : -10000 ≤ l ∧ l ≤ 10000) :
    ∃ d', fX1_add k d (J p) (J t) (J l) = some d' ∧ HR (d'.1 0) (d'.2 1) (d'.2 2) (d'.2 3) (L ++ ent p t l) := by
  have h0 := h.1
  unfold fX1_add ent
  by_cases q : 0 < l
  · have e1 : ¬ J l ≤ 0 := by
      rw [J_lit, J_le (by omega)]
      omega
    have e2 : d.1 0 < Int32.ofNat 12 := by
      rw [h0, J_ofNat, J_lt (by omega)]
      omega
    have e3 : ∀ {α : Type} (E : Option α), chk 12 (d.1 0) E = E := fun E => by
      rw [h0, chk_J (by omega)]
    rw [if_neg e1, if_pos e2, if_pos q]
    simp only [e3]
    exact ⟨_, rfl, HR_app h (by omega) p t l⟩
  · have e1 : J l ≤ 0 := by
      rw [J_lit, J_le (by omega)]
      omega
    rw [if_pos e1, if_neg q, List.append_nil]
    exact ⟨d, rfl, h⟩
theorem wat_b {a : Nat → Int} {p : Nat} (h : W1 a p) : J (a (24 + 5 * p + 1)) = J (wat a p : Nat) ∧ (wat a p : Int) < a 54 := by
  obtain ⟨_, h1, _⟩ := h
  have e : (wat a p : Int) = a (24 + 5 * p + 1) := by unfold wat; omega
  rw [e]
  exact ⟨rfl, h1.2⟩
theorem nxw_b {a : Nat → Int} {w : Nat} (h : (w : Int) < a 54) : (nxw a w : Int) < a 54 := by
  unfold nxw
  split <;> omega
theorem pcs_b {a : Nat → Int} (hs : WS a) {i j : Nat} (hi : i < 17) (hj : j < 17) : 0 ≤ pcs a i j ∧ pcs a i j ≤ 198 := by
  obtain ⟨_, _, _, _, _, _, bp⟩ := hs
  have a1 := bp i (by omega)
  have a2 := bp (i + 1) (by omega)
  have a3 := bp j (by omega)
  have a4 := bp (j + 1) (by omega)
  unfold pcs far
  omega
theorem mlp_b {a : Nat → Int} (hs : WS a) {w e : Nat} (hw : w < 6) (he : e < 3) : 0 ≤ mlp a w e ∧ mlp a w e ≤ 400 := by
  obtain ⟨_, _, _, _, _, hm, bp⟩ := hs
  have a1 := bp (2 * w) (by omega)
  have a2 := bp (2 * w + 1) (by omega)
  have a3 := bp (12 + 2 * e) (by omega)
  have a4 := bp (12 + 2 * e + 1) (by omega)
  unfold mlp pcs far
  simp only [Nat.reduceAdd]
  omega
theorem c_listen (k : Nat) (hk : 100 < k) {d st bd : Dat} {a : Nat → Int} (hS : SS st a) (hB : BB bd a) (hs : WS a) (hb : WB a) {e : Nat} (he : (e : Int) < a 55) :
    ∃ d', fX1_listen k d st bd (J e) = some d' ∧ HR (d'.1 0) (d'.2 1) (d'.2 2) (d'.2 3) (hl a 0 e (a 56).toNat) := by
  obtain ⟨⟨b0, b7, b8⟩, hP, _⟩ := hB
  obtain ⟨n56, n57, n23, hW, _⟩ := id hb
  obtain ⟨b54, b55, b20, b21, b22, b18, bp⟩ := id hs
  unfold fX1_listen
  refine lp_for (fun (j : Nat) (v : Int32 × Dat) => v.1 = J j ∧ HR (v.2.1 0) (v.2.2 1) (v.2.2 2) (v.2.2 3) (hl a 0 e j)) (a 56).toNat (fun (o : Option Dat) => ∃ d', o = some d' ∧ HR (d'.1 0) (d'.2 1) (d'.2 2) (d'.2 3) (hl a 0 e (a 56).toNat)) ?_ ?_ ?_ (by omega)
  · intro j v hj ⟨hv, hL⟩
    left
    obtain ⟨i, w⟩ := v
    have hv' : i = J j := hv
    subst hv'
    replace hL : HR (w.1 0) (w.2 1) (w.2 2) (w.2 3) (hl a 0 e j) := hL
    have w1 := hW j (by omega)
    obtain ⟨p1, p2, p3, p4, p5⟩ := hP j (by omega)
    obtain ⟨wa, wb⟩ := wat_b w1
    obtain ⟨k1, k2, k3, k4, k5⟩ := w1
    rw [wa] at p2
    have hlen := hl_len a 0 e j
    have s1 := snw_b hs (w := wat a j) (e := e) (by omega) (by omega)
    have s2 := pcs_b hs (i := 2 * wat a j) (j := 12 + 2 * e) (by omega) (by omega)
    have nb := nxw_b wb
    have s3 := snw_b hs (w := nxw a (wat a j)) (e := e) (by omega) (by omega)
    have s4 := pcs_b hs (i := 2 * nxw a (wat a j)) (j := 12 + 2 * e) (by omega) (by omega)
    have s5 := mlp_b hs (w := wat a j) (e := e) (by omega) (by omega)
    have hq : ¬ (a 56 ≤ (j : Int)) := by omega
    unfold hl
    unfold fX1_listen_B8
    by_cases q5 : a (24 + 5 * j) = 5
    · rw [if_neg (fun q => (awk_t.mp q).1 q5), List.append_nil]
      apply Exists.intro
      refine ⟨fun rec => ?_, ?_⟩
      · simp (disch := omega) only [chk_J, J_nat, Int.toNat_natCast, Int.reduceToNat, Jf_ap, Option.bind_some, J_add, J_sub, J_mul, J_neg, J_ofNat, J_lit, J_lt, J_le, J_eq, b0, p1, hq, q5, ↓reduceIte]
        all_goals exact rfl
      · exact ⟨rfl, hL⟩
    · rw [if_pos (awk_t.mpr ⟨q5, Nat.zero_testBit j⟩)]
      obtain ⟨d1, e1, h1⟩ := @c_add k (w.1, va_up (va_up (va_up d.2 1 (w.2 1)) 2 (w.2 2)) 3 (w.2 3)) _ hL (by omega) j (snw a (wat a j) e) (a (24 + 5 * j + 2) - pcs a (2 * wat a j) (12 + 2 * e)) (by omega) (by omega)
      have l1 := ent_len j (snw a (wat a j) e) (a (24 + 5 * j + 2) - pcs a (2 * wat a j) (12 + 2 * e))
      have l1' : (hl a 0 e j ++ ent j (snw a (wat a j) e) (a (24 + 5 * j + 2) - pcs a (2 * wat a j) (12 + 2 * e))).length < 12 := by
        rw [List.length_append]
        omega
      unfold sxp
      by_cases q4 : a (24 + 5 * j) = 4
      · obtain ⟨d2, e2, h2⟩ := @c_add k (d1.1, va_up (va_up (va_up d.2 1 (d1.2 1)) 2 (d1.2 2)) 3 (d1.2 3)) _ h1 l1' j (snw a (nxw a (wat a j)) e) (a (24 + 5 * j + 2) - pcs a (2 * nxw a (wat a j)) (12 + 2 * e)) (by omega) (by omega)
        have q2 : ¬ a (24 + 5 * j) = 2 := by omega
        rw [if_neg (fun q => q2 q.1), if_pos q4, List.append_nil, ← List.append_assoc]
        apply Exists.intro
        refine ⟨fun rec => ?_, ?_⟩
        · simp (disch := omega) only [chk_J, J_nat, Int.toNat_natCast, Int.reduceToNat, Jf_ap, Option.bind_some, J_add, J_sub, J_mul, J_neg, J_ofNat, J_lit, J_lt, J_le, J_eq, b0, p1, p2, p3, hq, q5, q2, c_soundTime k hS hs wb he, c_pacesToEar k hS hs wb he, e1, c_nextWindow k hS hs wb, c_soundTime k hS hs nb he, c_pacesToEar k hS hs nb he, ↓reduceIte]
          simp (disch := omega) only [chk_J, J_nat, Int.toNat_natCast, Int.reduceToNat, Jf_ap, Option.bind_some, J_add, J_sub, J_mul, J_neg, J_ofNat, J_lit, J_lt, J_le, J_eq, q4, e2, ↓reduceIte]
          all_goals exact rfl
        · exact ⟨rfl, h2⟩
      · rw [if_neg q4, List.append_nil]
        by_cases q2 : a (24 + 5 * j) = 2 ∧ ¬ a 18 = -1
        · have h8 := hS.1.2.2.2.2.1
          have tb : 0 ≤ (a (24 + 5 * j + 2)).tdiv 2 ∧ (a (24 + 5 * j + 2)).tdiv 2 ≤ 99 := by
            rw [Int.tdiv_eq_ediv_of_nonneg (by omega)]
            omega
          obtain ⟨d2, e2, h2⟩ := @c_add k (d1.1, va_up (va_up (va_up d.2 1 (d1.2 1)) 2 (d1.2 2)) 3 (d1.2 3)) _ h1 l1' j (mlp a (wat a j) e * a 20) ((a (24 + 5 * j + 2)).tdiv 2 - mlp a (wat a j) e) (by omega) (by omega)
          rw [if_pos q2, ← List.append_assoc]
          have e3 : J (mlp a (wat a j) e) = J (pcs a (2 * wat a j) 18 + pcs a 18 (12 + 2 * e)) := rfl
          apply Exists.intro
          refine ⟨fun rec => ?_, ?_⟩
          · simp (disch := omega) only [chk_J, J_nat, Int.toNat_natCast, Int.reduceToNat, Jf_ap, Option.bind_some, J_add, J_sub, J_mul, J_neg, J_ofNat, J_lit, J_lt, J_le, J_eq, J_div, b0, p1, p2, p3, hq, q5, q2.1, q2.2, c_soundTime k hS hs wb he, c_pacesToEar k hS hs wb he, e1, c_hasMill k hS hs, c_pacesByMill k hS hs wb he, h8, ↓reduceIte]
            rw [← J_mul, ← J_sub, ← e3, J_mul, J_sub]
            simp (disch := omega) only [chk_J, J_nat, Int.toNat_natCast, Int.reduceToNat, Jf_ap, Option.bind_some, J_add, J_sub, J_mul, J_neg, J_ofNat, J_lit, e2]
            simp only [show ((2 : Int) = 4) = False from by decide, ↓reduceIte]
            all_goals exact rfl
          · exact ⟨rfl, h2⟩
        · rw [if_neg q2, List.append_nil]
          apply Exists.intro
          refine ⟨fun rec => ?_, ?_⟩
          · by_cases q2' : a (24 + 5 * j) = 2
            · have q18 : a 18 = -1 := by
                refine Classical.byContradiction (fun h => q2 ⟨q2', h⟩)
              simp (disch := omega) only [chk_J, J_nat, Int.toNat_natCast, Int.reduceToNat, Jf_ap, Option.bind_some, J_add, J_sub, J_mul, J_neg, J_ofNat, J_lit, J_lt, J_le, J_eq, b0, p1, p2, p3, hq, q5, q4, q2', q18, c_soundTime k hS hs wb he, c_pacesToEar k hS hs wb he, e1, c_hasMill k hS hs, ↓reduceIte]
              all_goals exact rfl
            · simp (disch := omega) only [chk_J, J_nat, Int.toNat_natCast, Int.reduceToNat, Jf_ap, Option.bind_some, J_add, J_sub, J_mul, J_neg, J_ofNat, J_lit, J_lt, J_le, J_eq, b0, p1, p2, p3, hq, q5, q4, q2', c_soundTime k hS hs wb he, c_pacesToEar k hS hs wb he, e1, ↓reduceIte]
              all_goals exact rfl
          · exact ⟨rfl, h1⟩
  · intro v ⟨hv, hL⟩ rec
    obtain ⟨i, w⟩ := v
    have hv' : i = J ((a 56).toNat : Nat) := hv
    subst hv'
    unfold fX1_listen_B8
    simp (disch := omega) only [chk_J, J_nat, Int.toNat_natCast, Int.reduceToNat, Jf_ap, Option.bind_some, J_add, J_sub, J_mul, J_neg, J_ofNat, J_lit, J_lt, J_le, J_eq, b0]
    rw [if_pos (by omega)]
    exact ⟨_, rfl, hL⟩
  · refine ⟨rfl, rfl, fun i q h => by cases h⟩
def FM (m m' : Dat) : Prop := (∀ i : Nat, ¬ i = 7 → m'.1 i = m.1 i) ∧ (∀ s : Nat, ¬ s = 4 → ¬ s = 5 → ¬ s = 6 → m'.2 s = m.2 s)
theorem FM.rf (m : Dat) : FM m m := ⟨fun _ _ => rfl, fun _ _ _ _ => rfl⟩
theorem FM.tr {m m1 m2 : Dat} (h : FM m m1) (h' : FM m1 m2) : FM m m2 :=
  ⟨fun i q => (h'.1 i q).trans (h.1 i q), fun s q1 q2 q3 => (h'.2 s q1 q2 q3).trans (h.2 s q1 q2 q3)⟩
def sh4 (g : Nat → Nat → Int32) (d : Dat) : Dat := (d.1, va_up (va_up (va_up g 4 (d.2 4)) 5 (d.2 5)) 6 (d.2 6))
theorem sh4_o (g : Nat → Nat → Int32) (d : Dat) {s : Nat} (h4 : ¬ s = 4) (h5 : ¬ s = 5) (h6 : ¬ s = 6) : (sh4 g d).2 s = g s := by
  show va_up (va_up (va_up g 4 (d.2 4)) 5 (d.2 5)) 6 (d.2 6) s = g s
  rw [vu_ne h6, vu_ne h5, vu_ne h4]
theorem FM_sh {m d : Dat} (h : ∀ i : Nat, ¬ i = 7 → d.1 i = m.1 i) : FM m (sh4 m.2 d) := ⟨h, fun s h4 h5 h6 => sh4_o m.2 d h4 h5 h6⟩
theorem m_laySound (k : Nat) {m : Dat} {L : List (Nat × Int × Int)} (h : HR (m.1 7) (m.2 4) (m.2 5) (m.2 6) L) (hL : L.length < 12) {p : Nat} {t l : Int} (hl : -10000 ≤ l ∧ l ≤ 10000) :
    ∃ m', fX7_laySound k m (J p) (J t) (J l) = some m' ∧ HR (m'.1 7) (m'.2 4) (m'.2 5) (m'.2 6) (L ++ ent p t l) ∧ FM m m' := by
  have h0 := h.1
  unfold fX7_laySound ent
  by_cases q : 0 < l
  · have e1 : ¬ J l ≤ 0 := by
      rw [J_lit, J_le (by omega)]
      omega
    have e3 : ∀ {α : Type} (E : Option α), chk 12 (m.1 7) E = E := fun E => by
      rw [h0, chk_J (by omega)]
    rw [if_neg e1, if_pos q]
    simp only [e3]
    refine ⟨_, rfl, HR_app h (by omega) p t l, fun i hi => upd_ne hi, fun s h4 h5 h6 => ?_⟩
    show va_up (va_up (va_up m.2 4 _) 5 _) 6 _ s = m.2 s
    rw [vu_ne h6, vu_ne h5, vu_ne h4]
  · have e1 : J l ≤ 0 := by
      rw [J_lit, J_le (by omega)]
      omega
    rw [if_pos e1, if_neg q, List.append_nil]
    exact ⟨m, rfl, h, FM.rf m⟩
theorem bit_dec : ∀ s : Fin 64, ∀ p : Fin 6, ((J ((s.val : Nat) : Int) >>> (J ((p.val : Nat) : Int) &&& 31)) &&& 1) = if s.val.testBit p.val = true then 1 else 0 := by decide +kernel
theorem bit_J {s p : Nat} (hs : s < 64) (hp : p < 6) : ((J (s : Int) >>> (J (p : Int) &&& 31)) &&& 1) = if s.testBit p = true then 1 else 0 := bit_dec ⟨s, hs⟩ ⟨p, hp⟩
theorem m_isAwake (k : Nat) {m : Dat} {a : Nat → Int} {s p : Nat} (hM : m.2 0 = Jf a) (h8 : m.1 8 = J s) (hs : s < 64) (hp : p < 6) (hb : 0 ≤ a (24 + 5 * p) ∧ a (24 + 5 * p) ≤ 5) : fX7_isAwake k m (J p) = some (if awk a s p = true then 1 else 0) := by
  unfold fX7_isAwake
  rw [show (fX7_of k m (J p) 0) = some (J (a (24 + 5 * p))) from m_of k hM (p := p) (x := 0) hp (by omega)]
  rw [h8, bit_J hs hp]
  simp only [Option.bind_some]
  by_cases q : a (24 + 5 * p) = 5
  · rw [if_pos (by rw [q]; rfl), if_neg (fun h => (awk_t.mp h).1 q)]
  · have e1 : ¬ J (a (24 + 5 * p)) = 5 := by
      rw [J_lit, J_eq (by omega)]
      exact q
    rw [if_neg e1]
    by_cases t : s.testBit p = true
    · rw [if_neg (by rw [if_pos t]; decide), if_neg (fun h => by rw [(awk_t.mp h).2] at t; cases t)]
    · rw [if_pos (by rw [if_neg t]), if_pos (awk_t.mpr ⟨q, by cases h : s.testBit p with | true => exact absurd h t | false => rfl⟩)]
theorem nxw_e {a : Nat → Int} {w : Nat} (h : (w : Int) < a 54) : (w : Int) + 1 - ((w : Int) + 1).tdiv (a 54) * a 54 = (nxw a w : Nat) := by
  rw [Int.tdiv_eq_ediv_of_nonneg (by omega)]
  unfold nxw
  by_cases q : (w : Int) + 1 < a 54
  · rw [if_pos q, Int.ediv_eq_zero_of_lt (by omega) q]
    omega
  · have e : (w : Int) + 1 = a 54 := by omega
    rw [if_neg q, e, Int.ediv_self (by omega)]
    omega
theorem nxw_J {a : Nat → Int} {w : Nat} (h : (w : Int) < a 54) (h6 : a 54 ≤ 6) : (J (w : Int) + 1) - (J (w : Int) + 1) / J (a 54) * J (a 54) = J (nxw a w : Nat) := by
  rw [← nxw_e h]
  simp (disch := omega) only [chk_J, J_nat, Int.toNat_natCast, Int.reduceToNat, Jf_ap, Option.bind_some, J_add, J_sub, J_mul, J_neg, J_ofNat, J_lit, J_div]
theorem chz_J {α : Type} {z : Int} {E : Option α} (h : -2147483648 ≤ z ∧ z < 2147483648 ∧ ¬ z = 0) : chz (J z) E = E := by
  unfold chz
  refine if_neg (fun q => ?_)
  rw [J_lit, J_eq (by omega)] at q
  exact h.2.2 q
theorem m_layOf (k : Nat) {m : Dat} {a : Nat → Int} {L : List (Nat × Int × Int)} (hM : m.2 0 = Jf a) (hL : HR (m.1 7) (m.2 4) (m.2 5) (m.2 6) L) (hs : WS a) {p e : Nat} (hp : p < 6) (w1 : W1 a p) (he : (e : Int) < a 55) (hlen : L.length ≤ 10) :
    ∃ m', fX7_layOf k m (J p) (J e) = some m' ∧ HR (m'.1 7) (m'.2 4) (m'.2 5) (m'.2 6) (L ++ sxp a e p) ∧ FM m m' := by
  obtain ⟨b54, b55, b20, b21, b22, b18, bp⟩ := id hs
  obtain ⟨wa, wb⟩ := wat_b w1
  obtain ⟨k1, k2, k3, k4, k5⟩ := w1
  have o0 := m_of k hM (p := p) (x := 0) hp (by omega)
  have o1 := m_of k hM (p := p) (x := 1) hp (by omega)
  have o2 := m_of k hM (p := p) (x := 2) hp (by omega)
  rw [wa] at o1
  have nb := nxw_b wb
  have ne := nxw_e wb
  have s1 := snw_b hs (w := wat a p) (e := e) (by omega) (by omega)
  have s2 := pcs_b hs (i := 2 * wat a p) (j := 12 + 2 * e) (by omega) (by omega)
  have s3 := snw_b hs (w := nxw a (wat a p)) (e := e) (by omega) (by omega)
  have s4 := pcs_b hs (i := 2 * nxw a (wat a p)) (j := 12 + 2 * e) (by omega) (by omega)
  have s5 := mlp_b hs (w := wat a p) (e := e) (by omega) (by omega)
  have c0 : (0 : Int32) = J (0 : Nat) := J_lit 0
  have c1 : (1 : Int32) = J (1 : Nat) := J_lit 1
  have c2 : (2 : Int32) = J (2 : Nat) := J_lit 2
  have c4 : (4 : Int32) = J (4 : Nat) := J_lit 4
  have pb : ∀ {w : Nat}, (w : Int) < a 54 → ∀ q : Nat, (q = 2 * w ∨ q = 2 * w + 1 ∨ q = 12 + 2 * e ∨ q = 12 + 2 * e + 1) → -1000 ≤ a q ∧ a q ≤ 1000 := fun {w} hw q hq => by
    have := bp q (by omega)
    omega
  have pb1 : ∀ {w : Nat}, (w : Int) < a 54 → ∀ q : Nat, (q = 2 * w ∨ q = 2 * w + 1 ∨ q = 18 ∨ q = 18 + 1) → -1000 ≤ a q ∧ a q ≤ 1000 := fun {w} hw q hq => by
    rcases hq with h | h | h | h
    · have := bp q (by omega)
      omega
    · have := bp q (by omega)
      omega
    · subst h
      omega
    · subst h
      simp only [Nat.reduceAdd]
      omega
  have pb2 : ∀ q : Nat, (q = 18 ∨ q = 18 + 1 ∨ q = 12 + 2 * e ∨ q = 12 + 2 * e + 1) → -1000 ≤ a q ∧ a q ≤ 1000 := fun q hq => by
    rcases hq with h | h | h | h
    · subst h
      omega
    · subst h
      simp only [Nat.reduceAdd]
      omega
    · have := bp q (by omega)
      omega
    · have := bp q (by omega)
      omega
  obtain ⟨d1, e1, h1, f1⟩ := @m_laySound k m _ hL (by omega) p (snw a (wat a p) e) (a (24 + 5 * p + 2) - pcs a (2 * wat a p) (12 + 2 * e)) (by omega)
  have l1 := ent_len p (snw a (wat a p) e) (a (24 + 5 * p + 2) - pcs a (2 * wat a p) (12 + 2 * e))
  have l1' : (L ++ ent p (snw a (wat a p) e) (a (24 + 5 * p + 2) - pcs a (2 * wat a p) (12 + 2 * e))).length < 12 := by
    rw [List.length_append]
    omega
  have hM1 : (sh4 m.2 d1).2 0 = Jf a := hM
  have hL1 : HR ((sh4 m.2 d1).1 7) ((sh4 m.2 d1).2 4) ((sh4 m.2 d1).2 5) ((sh4 m.2 d1).2 6) (L ++ ent p (snw a (wat a p) e) (a (24 + 5 * p + 2) - pcs a (2 * wat a p) (12 + 2 * e))) := h1
  have g1 : FM m (sh4 m.2 d1) := FM_sh f1.1
  have n0 := m_of k hM1 (p := p) (x := 0) hp (by omega)
  have n2 := m_of k hM1 (p := p) (x := 2) hp (by omega)
  unfold fX7_layOf
  change ∃ m', _ = some m' ∧ _
  have es1 : ((d1.1, va_up (va_up (va_up m.2 4 (d1.2 4)) 5 (d1.2 5)) 6 (d1.2 6)) : Dat) = sh4 m.2 d1 := rfl
  rw [show (fX7_of k m (J p) 1) = some (J (wat a p : Nat)) from o1]
  simp only [Option.bind_some]
  rw [m_soundOf k hM hs wb he]
  rw [show (fX7_of k m (J p) 2) = some (J (a (24 + 5 * p + 2))) from o2]
  simp only [Option.bind_some]
  rw [m_at, m_ea, m_paces k hM (by omega) (by omega) (pb wb)]
  simp only [Option.bind_some, J_sub]
  rw [e1]
  simp only [Option.bind_some, es1]
  rw [show (fX7_of k (sh4 m.2 d1) (J p) 0) = some (J (a (24 + 5 * p))) from n0]
  simp only [Option.bind_some]
  unfold sxp
  by_cases q4 : a (24 + 5 * p) = 4
  · have q2 : ¬ a (24 + 5 * p) = 2 := by omega
    rw [if_neg (show ¬ (a (24 + 5 * p) = 2 ∧ ¬ a 18 = -1) from fun q => q2 q.1), if_pos q4, List.append_nil, ← List.append_assoc]
    obtain ⟨d2, e2, h2, f2⟩ := @m_laySound k (sh4 m.2 d1) _ hL1 l1' p (snw a (nxw a (wat a p)) e) (a (24 + 5 * p + 2) - pcs a (2 * nxw a (wat a p)) (12 + 2 * e)) (by omega)
    have e23 := nxw_J wb b54.2
    rw [if_neg (by rw [J_lit, J_eq (by omega)]; exact q2)]
    rw [q4, if_pos (by rfl)]
    rw [m_windows k hM1]
    simp only [Option.bind_some]
    rw [chz_J (by omega), e23, m_soundOf k hM1 hs nb he]
    rw [show (fX7_of k (sh4 m.2 d1) (J p) 2) = some (J (a (24 + 5 * p + 2))) from n2]
    simp only [Option.bind_some]
    rw [m_at, m_paces k hM1 (by omega) (by omega) (pb nb)]
    simp only [Option.bind_some, J_sub]
    rw [e2]
    refine ⟨_, rfl, h2, ?_⟩
    exact g1.tr (FM.tr f2 ⟨fun _ _ => rfl, fun s h4 h5 h6 => by
      rw [f2.2 s h4 h5 h6, sh4_o m.2 d1 h4 h5 h6]
      exact sh4_o m.2 d2 h4 h5 h6⟩)
  · have q4' : ¬ J (a (24 + 5 * p)) = 4 := by
      rw [J_lit, J_eq (by omega)]
      exact q4
    rw [if_neg q4, List.append_nil]
    by_cases q2 : a (24 + 5 * p) = 2
    · rw [if_pos (show J (a (24 + 5 * p)) = 2 from by rw [q2]; rfl)]
      have h18 : (m.2 0) (18 : Int32).toNatClampNeg = J (a 18) := by rw [hM]; rfl
      have h20 : (m.2 0) (20 : Int32).toNatClampNeg = J (a 20) := by rw [hM]; rfl
      have c18 : ∀ {α : Type} (E : Option α), chk 106 18 E = E := fun E => by
        rw [J_lit, chk_J (by omega)]
      have c20 : ∀ {α : Type} (E : Option α), chk 106 20 E = E := fun E => by
        rw [J_lit, chk_J (by omega)]
      rw [c18, h18]
      by_cases q18 : a 18 = -1
      · rw [if_pos (show J (a 18) = -1 from by rw [q18]; rfl), if_neg (show ¬ (a (24 + 5 * p) = 2 ∧ ¬ a 18 = -1) from fun q => q.2 q18), List.append_nil, if_neg q4']
        exact ⟨_, rfl, h1, g1⟩
      · have q18' : ¬ J (a 18) = -1 := by
          rw [show (-1 : Int32) = J (-1) from rfl, J_eq (by omega)]
          exact q18
        rw [if_neg q18', if_pos (show (a (24 + 5 * p) = 2 ∧ ¬ a 18 = -1) from ⟨q2, q18⟩), ← List.append_assoc]
        have tb : 0 ≤ (a (24 + 5 * p + 2)).tdiv 2 ∧ (a (24 + 5 * p + 2)).tdiv 2 ≤ 99 := by
          rw [Int.tdiv_eq_ediv_of_nonneg (by omega)]
          omega
        obtain ⟨d2, e2, h2, f2⟩ := @m_laySound k (sh4 m.2 d1) _ hL1 l1' p (mlp a (wat a p) e * a 20) ((a (24 + 5 * p + 2)).tdiv 2 - mlp a (wat a p) e) (by omega)
        have c18' : (18 : Int32) = J (18 : Nat) := J_lit 18
        rw [c18', m_paces k hM1 (by omega) (by omega) (pb1 wb), m_paces k hM1 (by omega) (by omega) pb2]
        simp only [Option.bind_some, c20, h20]
        rw [show (fX7_of k (sh4 m.2 d1) (J p) 2) = some (J (a (24 + 5 * p + 2))) from n2]
        simp only [Option.bind_some]
        have e25 : J (a (24 + 5 * p + 2)) / 2 = J ((a (24 + 5 * p + 2)).tdiv 2) := by
          rw [J_lit, J_div (by omega)]
        rw [e25, J_add, show pcs a (2 * wat a p) 18 + pcs a 18 (12 + 2 * e) = mlp a (wat a p) e from rfl, J_mul, J_sub, e2]
        have es2 : ((d2.1, va_up (va_up (va_up m.2 4 (d2.2 4)) 5 (d2.2 5)) 6 (d2.2 6)) : Dat) = sh4 m.2 d2 := rfl
        simp only [Option.bind_some, es2]
        have hM2 : (sh4 m.2 d2).2 0 = Jf a := hM
        have n02 := m_of k hM2 (p := p) (x := 0) hp (by omega)
        rw [show (fX7_of k (sh4 m.2 d2) (J p) 0) = some (J (a (24 + 5 * p))) from n02]
        simp only [Option.bind_some]
        rw [if_neg q4']
        refine ⟨_, rfl, h2, ?_⟩
        exact FM_sh (fun i hi => (f2.1 i hi).trans (f1.1 i hi))
    · have q2' : ¬ J (a (24 + 5 * p)) = 2 := by
        rw [J_lit, J_eq (by omega)]
        exact q2
      rw [if_neg q2', if_neg q4', if_neg (show ¬ (a (24 + 5 * p) = 2 ∧ ¬ a 18 = -1) from fun q => q2 q.1), List.append_nil]
      exact ⟨_, rfl, h1, g1⟩

theorem m_layAll (k : Nat) (hk : 100 < k) {m : Dat} {a : Nat → Int} {s : Nat} (hM : m.2 0 = Jf a) (h8 : m.1 8 = J s) (hS : s < 64) (hs : WS a) (hb : WB a) {e : Nat} (he : (e : Int) < a 55) :
    ∃ m', fX7_layAll k m (J e) = some m' ∧ HR (m'.1 7) (m'.2 4) (m'.2 5) (m'.2 6) (hl a s e (a 56).toNat) ∧ FM m m' := by
  obtain ⟨n56, n57, n23, hW, _⟩ := id hb
  unfold fX7_layAll
  refine lp_for (fun (j : Nat) (v : Int32 × Dat) => v.1 = J j ∧ HR (v.2.1 7) (v.2.2 4) (v.2.2 5) (v.2.2 6) (hl a s e j) ∧ FM m v.2) (a 56).toNat (fun (o : Option Dat) => ∃ m', o = some m' ∧ HR (m'.1 7) (m'.2 4) (m'.2 5) (m'.2 6) (hl a s e (a 56).toNat) ∧ FM m m') ?_ ?_ ?_ (by omega)
  · intro j v hj ⟨hv, hL, hF⟩
    left
    obtain ⟨i, w⟩ := v
    have hv' : i = J j := hv
    subst hv'
    replace hL : HR (w.1 7) (w.2 4) (w.2 5) (w.2 6) (hl a s e j) := hL
    replace hF : FM m w := hF
    have w1 := hW j (by omega)
    have hlen := hl_len a s e j
    have hM1 : (sh4 m.2 w).2 0 = Jf a := hM
    have hL1 : HR ((sh4 m.2 w).1 7) ((sh4 m.2 w).2 4) ((sh4 m.2 w).2 5) ((sh4 m.2 w).2 6) (hl a s e j) := hL
    have g1 : FM m (sh4 m.2 w) := FM_sh hF.1
    have h81 : (sh4 m.2 w).1 8 = J s := (hF.1 8 (by omega)).trans h8
    have es1 : ((w.1, va_up (va_up (va_up m.2 4 (w.2 4)) 5 (w.2 5)) 6 (w.2 6)) : Dat) = sh4 m.2 w := rfl
    have aw := m_isAwake k hM1 h81 hS (p := j) (by omega) w1.1
    have hq : ¬ (a 56 ≤ (j : Int)) := by omega
    unfold hl
    unfold fX7_layAll_B7
    by_cases q : awk a s j = true
    · obtain ⟨m2, e2, h2, f2⟩ := m_layOf k hM1 hL1 hs (p := j) (by omega) w1 he (by omega)
      rw [if_pos q]
      rw [if_pos q] at aw
      refine ⟨(J j + 1, sh4 m.2 m2), fun rec => ?_, J_suc j, h2, ?_⟩
      · simp only [es1, m_players k hM1, aw, e2, Option.bind_some]
        rw [if_neg (by rw [J_le (by omega)]; exact hq), if_neg (by decide)]
        rfl
      · exact FM_sh (fun i hi => (f2.1 i hi).trans (hF.1 i hi))
    · rw [if_neg q, List.append_nil]
      rw [if_neg q] at aw
      refine ⟨(J j + 1, sh4 m.2 w), fun rec => ?_, J_suc j, hL1, g1⟩
      simp only [es1, m_players k hM1, aw, Option.bind_some]
      rw [if_neg (by rw [J_le (by omega)]; exact hq), if_pos trivial]
  · intro v ⟨hv, hL, hF⟩ rec
    obtain ⟨i, w⟩ := v
    have hv' : i = J ((a 56).toNat : Nat) := hv
    subst hv'
    replace hL : HR (w.1 7) (w.2 4) (w.2 5) (w.2 6) (hl a s e (a 56).toNat) := hL
    replace hF : FM m w := hF
    have hM1 : (sh4 m.2 w).2 0 = Jf a := hM
    have es1 : ((w.1, va_up (va_up (va_up m.2 4 (w.2 4)) 5 (w.2 5)) 6 (w.2 6)) : Dat) = sh4 m.2 w := rfl
    unfold fX7_layAll_B7
    simp only [es1, m_players k hM1, Option.bind_some]
    rw [if_pos (by rw [J_le (by omega)]; omega)]
    exact ⟨sh4 m.2 (sh4 m.2 w), rfl, hL, FM_sh (fun i hi => hF.1 i hi)⟩
  · refine ⟨rfl, ⟨?_, fun i q h => by cases h⟩, fun i hi => upd_ne hi, fun _ _ _ _ => rfl⟩
    rfl
def lbz (k o : Int) : Int := if k = 1 then o - 20 else if k = 3 then o.tdiv 10 * 10 else o
def lat (a : Nat → Int) (p : Nat) : Int := lbz (a (24 + 5 * p)) (a (24 + 5 * p + 3))
theorem td10 (o : Int) : o.tdiv 10 = if 0 ≤ o then o / 10 else -((-o) / 10) := by
  split
  · rw [Int.tdiv_eq_ediv_of_nonneg (by omega)]
  · have h : (-o).tdiv 10 = (-o) / 10 := Int.tdiv_eq_ediv_of_nonneg (by omega)
    rw [Int.neg_tdiv] at h
    omega
theorem lbz_b {k o : Int} (h : -600 ≤ o ∧ o ≤ 600) : -620 ≤ lbz k o ∧ lbz k o ≤ 600 := by
  unfold lbz
  rw [td10]
  omega
theorem lat_b {a : Nat → Int} {p : Nat} (w : W1 a p) : -620 ≤ lat a p ∧ lat a p ≤ 600 := by
  obtain ⟨_, _, _, h, _⟩ := w
  exact lbz_b (by omega)
theorem m_lateBy (k : Nat) {x o : Int} (hx : 0 ≤ x ∧ x ≤ 5) (ho : -1000 ≤ o ∧ o ≤ 1000) : fX7_lateBy k (J x) (J o) = some (J (lbz x o)) := by
  unfold fX7_lateBy lbz
  simp (disch := omega) only [chk_J, J_nat, Int.toNat_natCast, Int.reduceToNat, Jf_ap, Option.bind_some, J_add, J_sub, J_mul, J_neg, J_ofNat, J_lit, J_lt, J_le, J_eq, J_div]
  by_cases q1 : x = 1
  · simp only [q1, ↓reduceIte]
  · by_cases q3 : x = 3
    · simp only [q3, ↓reduceIte, show ((3 : Int) = 1) = False from by decide]
    · simp only [q1, q3, ↓reduceIte]
theorem m_lateOf (k : Nat) {m : Dat} {a : Nat → Int} (hM : m.2 0 = Jf a) {p : Nat} (hp : p < 6) (w : W1 a p) : fX7_lateOf k m (J p) = some (J (lat a p)) := by
  unfold fX7_lateOf
  rw [show (fX7_of k m (J p) 0) = some (J (a (24 + 5 * p))) from m_of k hM (p := p) (x := 0) hp (by omega)]
  rw [show (fX7_of k m (J p) 3) = some (J (a (24 + 5 * p + 3))) from m_of k hM (p := p) (x := 3) hp (by omega)]
  obtain ⟨h0, _, _, h3, _⟩ := w
  simp only [Option.bind_some]
  rw [m_lateBy k (by omega) (by omega)]
  rfl
theorem c_lateOf (k : Nat) {bd : Dat} {a : Nat → Int} (hB : BB bd a) (hb : WB a) {p : Nat} (hp : (p : Int) < a 56) : fX0_lateOf k bd (J p) = some (J (lat a p)) := by
  obtain ⟨_, hP, _⟩ := hB
  obtain ⟨n56, _, _, hW, _⟩ := hb
  obtain ⟨k0, k1, k2, k3, k4⟩ := hW p hp
  obtain ⟨p1, p2, p3, p4, p5⟩ := hP p hp
  unfold fX0_lateOf lat lbz
  simp (disch := omega) only [chk_J, J_nat, Int.toNat_natCast, Int.reduceToNat, Jf_ap, Option.bind_some, J_add, J_sub, J_mul, J_neg, J_ofNat, J_lit, J_lt, J_le, J_eq, J_div, p1, p4]
  by_cases q1 : a (24 + 5 * p) = 1
  · simp only [q1, ↓reduceIte]
  · by_cases q3 : a (24 + 5 * p) = 3
    · simp only [q3, ↓reduceIte, show ((3 : Int) = 1) = False from by decide]
    · simp only [q1, q3, ↓reduceIte]
def tm (a : Nat → Int) (L : List (Nat × Int × Int)) (i : Nat) : Int := match L[i]? with
  | some q => lat a q.1 + q.2.1
  | none => 0
def mnf (f : Nat → Int) : Nat → Int
  | 0 => 1000000
  | n + 1 => if f n < mnf f n then f n else mnf f n
def mxf (f : Nat → Int) : Nat → Int
  | 0 => -1000000
  | n + 1 => if mxf f n < f n then f n else mxf f n
theorem mnf_s (f : Nat → Int) (n : Nat) : mnf f (n + 1) = if f n < mnf f n then f n else mnf f n := rfl
theorem mxf_s (f : Nat → Int) (n : Nat) : mxf f (n + 1) = if mxf f n < f n then f n else mxf f n := rfl
def spr (a : Nat → Int) (L : List (Nat × Int × Int)) : Int := if L.length = 0 then 0 else mxf (tm a L) L.length - mnf (tm a L) L.length
def sprd (a : Nat → Int) (s e : Nat) : Int := spr a (hl a s e (a 56).toNat)
def okq (a : Nat → Int) (s j : Nat) (q : Nat × Int × Int) : Prop := q.1 < j ∧ awk a s q.1 = true ∧ (0 ≤ q.2.1 ∧ q.2.1 ≤ 4000) ∧ (1 ≤ q.2.2 ∧ q.2.2 ≤ 99)
theorem ent_mem {p : Nat} {t l : Int} {q : Nat × Int × Int} (h : q ∈ ent p t l) : q = (p, t, l) ∧ 0 < l := by
  unfold ent at h
  split at h
  · exact ⟨List.mem_singleton.mp h, by assumption⟩
  · cases h
theorem sxp_mem {a : Nat → Int} (hs : WS a) {e p : Nat} (he : (e : Int) < a 55) (w : W1 a p) {q : Nat × Int × Int} (h : q ∈ sxp a e p) : q.1 = p ∧ (0 ≤ q.2.1 ∧ q.2.1 ≤ 4000) ∧ (1 ≤ q.2.2 ∧ q.2.2 ≤ 99) := by
  obtain ⟨b54, b55, b20, b21, b22, b18, bp⟩ := id hs
  obtain ⟨wa, wb⟩ := wat_b w
  obtain ⟨k1, k2, k3, k4, k5⟩ := w
  have nb := nxw_b wb
  have s1 := snw_b hs (w := wat a p) (e := e) (by omega) (by omega)
  have s2 := pcs_b hs (i := 2 * wat a p) (j := 12 + 2 * e) (by omega) (by omega)
  have s3 := snw_b hs (w := nxw a (wat a p)) (e := e) (by omega) (by omega)
  have s4 := pcs_b hs (i := 2 * nxw a (wat a p)) (j := 12 + 2 * e) (by omega) (by omega)
  have s5 := mlp_b hs (w := wat a p) (e := e) (by omega) (by omega)
  have tb : 0 ≤ (a (24 + 5 * p + 2)).tdiv 2 ∧ (a (24 + 5 * p + 2)).tdiv 2 ≤ 99 := by
    rw [Int.tdiv_eq_ediv_of_nonneg (by omega)]
    omega
  have s6 := @mul_b (mlp a (wat a p) e) (a 20) 400 9 (by omega) (by omega) (by omega) (by omega)
  have s7 : 0 ≤ mlp a (wat a p) e * a 20 := Int.mul_nonneg s5.1 (by omega)
  unfold sxp at h
  rcases List.mem_append.mp h with h | h
  · rcases List.mem_append.mp h with h | h
    · obtain ⟨rfl, h2⟩ := ent_mem h
      refine ⟨rfl, ?_, ?_⟩ <;> dsimp only <;> omega
    · split at h
      · obtain ⟨rfl, h2⟩ := ent_mem h
        refine ⟨rfl, ?_, ?_⟩ <;> dsimp only <;> omega
      · cases h
  · split at h
    · obtain ⟨rfl, h2⟩ := ent_mem h
      refine ⟨rfl, ?_, ?_⟩ <;> dsimp only <;> omega
    · cases h
theorem hl_mem {a : Nat → Int} (hs : WS a) (hb : WB a) {s e : Nat} (he : (e : Int) < a 55) : ∀ {j : Nat}, (j : Int) ≤ a 56 → ∀ {q : Nat × Int × Int}, q ∈ hl a s e j → okq a s j q := by
  intro j
  induction j with
  | zero => intro _ q h; cases h
  | succ j ih =>
    intro hj q h
    unfold hl at h
    rcases List.mem_append.mp h with h | h
    · obtain ⟨h1, h2⟩ := ih (by omega) h
      exact ⟨by omega, h2⟩
    · split at h
      · rename_i aw
        obtain ⟨h1, h2⟩ := sxp_mem hs he (hb.2.2.2.1 j (by omega)) h
        exact ⟨by omega, by rw [h1]; exact aw, h2⟩
      · cases h
theorem tm_b {a : Nat → Int} (hs : WS a) (hb : WB a) {s e : Nat} (he : (e : Int) < a 55) (i : Nat) : -1000 ≤ tm a (hl a s e (a 56).toNat) i ∧ tm a (hl a s e (a 56).toNat) i ≤ 5000 := by
  have n56 := hb.1
  unfold tm
  cases h : (hl a s e (a 56).toNat)[i]? with
  | none =>
    show -1000 ≤ (0 : Int) ∧ (0 : Int) ≤ 5000
    decide
  | some q =>
    obtain ⟨h1, _, h2, _⟩ := hl_mem hs hb he (by omega) (List.mem_of_getElem? h)
    have := lat_b (hb.2.2.2.1 q.1 (by omega))
    show -1000 ≤ lat a q.1 + q.2.1 ∧ lat a q.1 + q.2.1 ≤ 5000
    omega
theorem mnf_b {f : Nat → Int} (h : ∀ i, -1000 ≤ f i ∧ f i ≤ 5000) (n : Nat) : -1000 ≤ mnf f n ∧ mnf f n ≤ 1000000 := by
  induction n with
  | zero =>
    show -1000 ≤ (1000000 : Int) ∧ (1000000 : Int) ≤ 1000000
    decide
  | succ n ih =>
    have := h n
    unfold mnf
    omega
theorem mxf_b {f : Nat → Int} (h : ∀ i, -1000 ≤ f i ∧ f i ≤ 5000) (n : Nat) : -1000000 ≤ mxf f n ∧ mxf f n ≤ 5000 := by
  induction n with
  | zero =>
    show -1000000 ≤ (-1000000 : Int) ∧ (-1000000 : Int) ≤ 5000
    decide
  | succ n ih =>
    have := h n
    unfold mxf
    omega
theorem mnf_le {f : Nat → Int} (h : ∀ i, -1000 ≤ f i ∧ f i ≤ 5000) (n : Nat) : mnf f (n + 1) ≤ 5000 ∧ -1000 ≤ mxf f (n + 1) ∧ mnf f (n + 1) ≤ mxf f (n + 1) := by
  induction n with
  | zero =>
    have := h 0
    unfold mnf mxf mnf mxf
    omega
  | succ n ih =>
    have := h (n + 1)
    rw [show mnf f (n + 1 + 1) = if f (n + 1) < mnf f (n + 1) then f (n + 1) else mnf f (n + 1) from rfl, show mxf f (n + 1 + 1) = if mxf f (n + 1) < f (n + 1) then f (n + 1) else mxf f (n + 1) from rfl]
    omega
theorem sprd_b {a : Nat → Int} (hs : WS a) (hb : WB a) {s e : Nat} (he : (e : Int) < a 55) : 0 ≤ sprd a s e ∧ sprd a s e ≤ 6000 := by
  unfold sprd spr
  split
  · exact ⟨by decide, by decide⟩
  · have ht := fun i => tm_b hs hb (s := s) he i
    obtain ⟨n, hn⟩ : ∃ n, (hl a s e (a 56).toNat).length = n + 1 := ⟨(hl a s e (a 56).toNat).length - 1, by omega⟩
    rw [hn]
    have h1 := mnf_le ht n
    have h2 := mnf_b ht (n + 1)
    have h3 := mxf_b ht (n + 1)
    omega
theorem HR_at {n : Int32} {f1 f2 f3 : Nat → Int32} {L : List (Nat × Int × Int)} (h : HR n f1 f2 f3 L) {i : Nat} (hi : i < L.length) : ∃ q, L[i]? = some q ∧ q ∈ L ∧ f1 i = J q.1 ∧ f2 i = J q.2.1 ∧ f3 i = J q.2.2 := by
  have e : L[i]? = some L[i] := List.getElem?_eq_getElem hi
  exact ⟨L[i], e, List.getElem_mem hi, h.2 i _ e⟩
theorem c_timeOf (k : Nat) {d bd : Dat} {a : Nat → Int} (hB : BB bd a) (hs : WS a) (hb : WB a) {e s : Nat} (he : (e : Int) < a 55) (hL : HR (d.1 0) (d.2 1) (d.2 2) (d.2 3) (hl a s e (a 56).toNat)) {i : Nat} (hi : i < (hl a s e (a 56).toNat).length) :
    fX1_timeOf k d bd (J i) = some (J (tm a (hl a s e (a 56).toNat) i)) := by
  have n56 := hb.1
  have hlen := hl_len a s e (a 56).toNat
  obtain ⟨q, h0, hm, h1, h2, h3⟩ := HR_at hL hi
  obtain ⟨hq, _, _, _⟩ := hl_mem hs hb he (by omega) hm
  unfold fX1_timeOf tm
  simp (disch := omega) only [chk_J, J_nat, Int.toNat_natCast, Int.reduceToNat, Jf_ap, Option.bind_some, J_add, J_sub, J_mul, J_neg, J_ofNat, J_lit, h1, h2, c_lateOf k hB hb (p := q.1) (by omega)]
  rw [h0]
theorem m_timeOf (k : Nat) {m : Dat} {a : Nat → Int} (hM : m.2 0 = Jf a) (hs : WS a) (hb : WB a) {e s : Nat} (he : (e : Int) < a 55) (hL : HR (m.1 7) (m.2 4) (m.2 5) (m.2 6) (hl a s e (a 56).toNat)) {i : Nat} (hi : i < (hl a s e (a 56).toNat).length) :
    ∃ x y, fX7_lateOf k m (m.2 4 i) = some x ∧ m.2 5 i = y ∧ x + y = J (tm a (hl a s e (a 56).toNat) i) := by
  have n56 := hb.1
  have hlen := hl_len a s e (a 56).toNat
  obtain ⟨q, h0, hm, h1, h2, h3⟩ := HR_at hL hi
  obtain ⟨hq, _, _, _⟩ := hl_mem hs hb he (by omega) hm
  rw [h1, m_lateOf k hM (p := q.1) (by omega) (hb.2.2.2.1 q.1 (by omega))]
  refine ⟨_, _, rfl, h2, ?_⟩
  unfold tm
  rw [h0, J_add]
theorem c_spreadAt (k : Nat) (hk : 100 < k) {d st bd : Dat} {a : Nat → Int} (hS : SS st a) (hB : BB bd a) (hs : WS a) (hb : WB a) {e : Nat} (he : (e : Int) < a 55) :
    ∃ d', fX1_spreadAt k d st bd (J e) = some (J (sprd a 0 e), d') := by
  have n56 := hb.1
  obtain ⟨d1, e1, h1⟩ := c_listen k hk (d := d) hS hB hs hb he
  have hlen := hl_len a 0 e (a 56).toNat
  unfold fX1_spreadAt
  rw [e1]
  simp only [Option.bind_some]
  have h0 := h1.1
  rw [h0]
  have hT : ∀ i : Nat, i < (hl a 0 e (a 56).toNat).length → fX1_timeOf k (d1.1, va_up (va_up (va_up d.2 1 (d1.2 1)) 2 (d1.2 2)) 3 (d1.2 3)) bd (J i) = some (J (tm a (hl a 0 e (a 56).toNat) i)) := fun i hi => c_timeOf k hB hs hb he h1 hi
  have ht := fun i => tm_b hs hb (s := 0) he i
  unfold sprd spr
  generalize hl a 0 e (a 56).toNat = L at *
  by_cases q : 2 ≤ L.length
  · rw [if_pos (by rw [J_lit, J_le (by omega)]; omega), if_neg (by omega)]
    rw [show (0 : Int32) = J (0 : Nat) from J_lit 0, hT 0 (by omega)]
    simp only [Option.bind_some]
    refine lp_for (fun (j : Nat) (v : Int32 × Int32 × Int32) => v = (J (mnf (tm a L) (j + 1)), J (mxf (tm a L) (j + 1)), J ((j + 1 : Nat) : Int))) (L.length - 1) (fun (o : Option (Int32 × Dat)) => ∃ d', o = some (J (mxf (tm a L) L.length - mnf (tm a L) L.length), d')) ?_ ?_ ?_ (by omega)
    · intro j v hj hv
      left
      subst hv
      have b1 := mnf_b ht (j + 1)
      have b2 := mxf_b ht (j + 1)
      have b3 := ht (j + 1)
      refine ⟨_, fun rec => ?_, rfl⟩
      unfold fX1_spreadAt_B32
      simp only [h0, hT (j + 1) (by omega), Option.bind_some]
      rw [if_neg (by rw [J_le (by omega)]; omega)]
      congr 1
      simp (disch := omega) only [J_lt, J_ite, J_suc]
      rfl
    · intro v hv rec
      subst hv
      have en : L.length - 1 + 1 = L.length := by omega
      rw [en]
      unfold fX1_spreadAt_B32
      simp only [h0]
      rw [if_pos (by rw [J_le (by omega)]; omega), J_sub]
      exact ⟨_, rfl⟩
    · have b3 := ht 0
      have x1 : mnf (tm a L) (0 + 1) = tm a L 0 := by
        unfold mnf mnf
        omega
      have x2 : mxf (tm a L) (0 + 1) = tm a L 0 := by
        unfold mxf mxf
        omega
      rw [x1, x2]
      rfl
  · rw [if_neg (by rw [J_lit, J_le (by omega)]; omega)]
    refine ⟨(d1.1, va_up (va_up (va_up d.2 1 (d1.2 1)) 2 (d1.2 2)) 3 (d1.2 3)), ?_⟩
    · congr 2
      by_cases q0 : L.length = 0
      · rw [if_pos q0]
        rfl
      · have q1 : L.length = 0 + 1 := by omega
        have b3 := ht 0
        rw [if_neg q0, q1]
        unfold mnf mxf mnf mxf
        have : (if -1000000 < tm a L 0 then tm a L 0 else -1000000) - (if tm a L 0 < 1000000 then tm a L 0 else 1000000) = 0 := by omega
        rw [this]
        rfl
theorem m_spreadOf (k : Nat) (hk : 100 < k) {m : Dat} {a : Nat → Int} {s : Nat} (hM : m.2 0 = Jf a) (h8 : m.1 8 = J s) (hS : s < 64) (hs : WS a) (hb : WB a) {e : Nat} (he : (e : Int) < a 55) :
    ∃ m', fX7_spreadOf k m (J e) = some (J (sprd a s e), m') ∧ FM m m' := by
  have n56 := hb.1
  obtain ⟨d1, e1, h1, f1⟩ := m_layAll k hk hM h8 hS hs hb he
  have hlen := hl_len a s e (a 56).toNat
  unfold fX7_spreadOf
  rw [e1]
  simp only [Option.bind_some]
  have es1 : ((d1.1, va_up (va_up (va_up m.2 4 (d1.2 4)) 5 (d1.2 5)) 6 (d1.2 6)) : Dat) = sh4 m.2 d1 := rfl
  have hM1 : (sh4 m.2 d1).2 0 = Jf a := hM
  have hL1 : HR ((sh4 m.2 d1).1 7) ((sh4 m.2 d1).2 4) ((sh4 m.2 d1).2 5) ((sh4 m.2 d1).2 6) (hl a s e (a 56).toNat) := h1
  have g1 : FM m (sh4 m.2 d1) := FM_sh f1.1
  rw [es1]
  have h0 := h1.1
  have h0' : (sh4 m.2 d1).1 7 = J (hl a s e (a 56).toNat).length := h0
  have hT : ∀ i : Nat, i < (hl a s e (a 56).toNat).length → ∃ x y, fX7_lateOf k (sh4 m.2 d1) ((sh4 m.2 d1).2 4 i) = some x ∧ (sh4 m.2 d1).2 5 i = y ∧ x + y = J (tm a (hl a s e (a 56).toNat) i) := fun i hi => m_timeOf k hM1 hs hb he hL1 hi
  have ht := fun i => tm_b hs hb (s := s) he i
  unfold sprd spr
  generalize hl a s e (a 56).toNat = L at *
  refine lp_for (fun (j : Nat) (v : Int32 × Int32 × Int32) => v = (J (mnf (tm a L) j), J (mxf (tm a L) j), J (j : Int))) L.length (fun (o : Option (Int32 × Dat)) => ∃ m', o = some (J (if L.length = 0 then 0 else mxf (tm a L) L.length - mnf (tm a L) L.length), m') ∧ FM m m') ?_ ?_ ?_ (by omega)
  · intro j v hj hv
    left
    subst hv
    have b1 := mnf_b ht j
    have b2 := mxf_b ht j
    have b3 := ht j
    obtain ⟨x, y, t1, t2, t3⟩ := hT j hj
    refine ⟨_, fun rec => ?_, rfl⟩
    unfold fX7_spreadOf_B14
    simp (disch := omega) only [h0', J_nat, Int.toNat_natCast, t1, t2, chk_J, t3, Option.bind_some, J_le]
    rw [if_neg (by omega), mnf_s, mxf_s]
    by_cases c1 : mnf (tm a L) j ≤ tm a L j
    · by_cases c2 : tm a L j ≤ mxf (tm a L) j
      · rw [if_pos c1, if_pos c2, if_neg (by omega), if_neg (by omega), J_suc]
      · rw [if_pos c1, if_neg c2, if_neg (by omega), if_pos (by omega), J_suc]
    · by_cases c2 : tm a L j ≤ mxf (tm a L) j
      · rw [if_neg c1, if_pos c2, if_pos (by omega), if_neg (by omega), J_suc]
      · rw [if_neg c1, if_neg c2, if_pos (by omega), if_pos (by omega), J_suc]
  · intro v hv rec
    subst hv
    unfold fX7_spreadOf_B14
    simp only [h0', h0]
    rw [if_pos (by rw [J_le (by omega)]; omega)]
    by_cases q0 : L.length = 0
    · rw [if_pos q0, if_pos (by rw [q0]; rfl)]
      exact ⟨_, rfl, g1⟩
    · rw [if_neg q0, if_neg (by rw [J_lit, J_eq (by omega)]; omega), J_sub]
      exact ⟨_, rfl, g1⟩
  · rfl
def K (z : Int) : Int64 := Int64.ofInt z
theorem K_lit (n : Nat) : (no_index (OfNat.ofNat n) : Int64) = K (OfNat.ofNat n : Int) := by
  show Int64.ofNat n = Int64.ofInt (n : Int)
  exact Int64.ofInt_eq_ofNat.symm
theorem K_neg (a : Int) : - K a = K (- a) := (Int64.ofInt_neg a).symm
theorem K_add (a b : Int) : K a + K b = K (a + b) := (Int64.ofInt_add a b).symm
theorem K_mul (a b : Int) : K a * K b = K (a * b) := (Int64.ofInt_mul a b).symm
theorem toInt_K {z : Int} (h : -2147483648 ≤ z ∧ z < 2147483648) : (K z).toInt = z := Int64.toInt_ofInt_of_le (by omega) (by omega)
theorem J_64 {z : Int} (h : -2147483648 ≤ z ∧ z < 2147483648) : (J z).toInt64 = K z := by
  rw [← Int64.toInt_inj, toInt_K h, Int32.toInt_toInt64, toInt_J h.1 h.2]
theorem m_in (k : Nat) {z lo hi : Int} (h : (-2147483648 ≤ z ∧ z < 2147483648) ∧ (-2147483648 ≤ lo ∧ lo < 2147483648) ∧ (-2147483648 ≤ hi ∧ hi < 2147483648)) : fX7_in k (K z) (K lo) (K hi) = some (if lo ≤ z ∧ z ≤ hi then 1 else 0) := by
  have hl : (K z < K lo) = (z < lo) := by rw [Int64.lt_iff_toInt_lt, toInt_K h.1, toInt_K h.2.1]
  have hg : (K z > K lo) = (lo < z) := by
    show (K lo < K z) = _
    rw [Int64.lt_iff_toInt_lt, toInt_K h.1, toInt_K h.2.1]
  have he : (K z = K lo) = (z = lo) := by rw [← Int64.toInt_inj, toInt_K h.1, toInt_K h.2.1]
  have hg2 : (K z > K hi) = (hi < z) := by
    show (K hi < K z) = _
    rw [Int64.lt_iff_toInt_lt, toInt_K h.1, toInt_K h.2.2]
  have he2 : (K z = K hi) = (z = hi) := by rw [← Int64.toInt_inj, toInt_K h.1, toInt_K h.2.2]
  unfold fX7_in lg_cmp
  simp only [hg, he, hg2, he2]
  by_cases q1 : lo < z
  · rw [if_pos q1, if_neg (by decide)]
    by_cases q2 : hi < z
    · rw [if_pos q2, if_pos (by decide), if_neg (by omega)]
    · by_cases q3 : z = hi
      · rw [if_neg q2, if_pos q3, if_neg (by decide), if_pos (by omega)]
      · rw [if_neg q2, if_neg q3, if_neg (by decide), if_pos (by omega)]
  · by_cases q0 : z = lo
    · rw [if_neg q1, if_pos q0, if_neg (by decide)]
      by_cases q2 : hi < z
      · rw [if_pos q2, if_pos (by decide), if_neg (by omega)]
      · by_cases q3 : z = hi
        · rw [if_neg q2, if_pos q3, if_neg (by decide), if_pos (by omega)]
        · rw [if_neg q2, if_neg q3, if_neg (by decide), if_pos (by omega)]
    · rw [if_neg q1, if_neg q0, if_pos (by decide), if_neg (by omega)]
theorem c_isWithin (k : Nat) {z lo hi : Int} (h : (-2147483648 ≤ z ∧ z < 2147483648) ∧ (-2147483648 ≤ lo ∧ lo < 2147483648) ∧ (-2147483648 ≤ hi ∧ hi < 2147483648)) : fX6_isWithin k (J z) (J lo) (J hi) = some (if lo ≤ z ∧ z ≤ hi then 1 else 0) := by
  unfold fX6_isWithin
  simp (disch := omega) only [J_lt]
  by_cases q1 : z < lo
  · rw [if_pos q1, if_neg (by omega)]
  · by_cases q2 : hi < z
    · rw [if_neg q1, if_pos q2, if_neg (by omega)]
    · rw [if_neg q1, if_neg q2, if_pos (by omega)]
theorem J_ex (x : Int32) : ∃ z : Int, (-2147483648 ≤ z ∧ z < 2147483648) ∧ x = J z := ⟨x.toInt, J_rng x, (J_toInt x).symm⟩
theorem b_0 (c : Prop) [Decidable c] : ((if c then (1 : Int32) else 0) = 0) = ¬ c := by
  by_cases q : c
  · rw [if_pos q]
    exact propext ⟨fun h => absurd h (by decide), fun h => absurd q h⟩
  · rw [if_neg q]
    exact propext ⟨fun _ => q, fun _ => rfl⟩
theorem b_ite (c : Prop) [Decidable c] {α : Type} (x y : α) : (if (if c then (1 : Int32) else 0) = 0 then x else y) = if c then y else x := by
  by_cases q : c
  · rw [if_pos q, if_pos q, if_neg (by decide)]
  · rw [if_neg q, if_neg q, if_pos rfl]
theorem c_isPlace (k : Nat) {x y : Int} (hx : -2147483648 ≤ x ∧ x < 2147483648) (hy : -2147483648 ≤ y ∧ y < 2147483648) : fX6_isPlace k (J x) (J y) = some (if (0 ≤ x ∧ x ≤ 99) ∧ (0 ≤ y ∧ y ≤ 99) then 1 else 0) := by
  unfold fX6_isPlace
  rw [show (0 : Int32) = J 0 from J_lit 0, show (99 : Int32) = J 99 from J_lit 99, c_isWithin k ⟨hx, by decide, by decide⟩, c_isWithin k ⟨hy, by decide, by decide⟩]
  simp only [Option.bind_some]
  rw [show J 0 = (0 : Int32) from rfl, b_ite, b_ite]
  by_cases q1 : 0 ≤ x ∧ x ≤ 99
  · by_cases q2 : 0 ≤ y ∧ y ≤ 99
    · rw [if_pos q1, if_pos q2, if_pos ⟨q1, q2⟩]
    · rw [if_pos q1, if_neg q2, if_neg (fun h => q2 h.2)]
  · rw [if_neg q1, if_neg (fun h => q1 h.1)]
theorem m_isPlace (k : Nat) {x y : Int} (hx : -2147483648 ≤ x ∧ x < 2147483648) (hy : -2147483648 ≤ y ∧ y < 2147483648) : fX7_isPlace k (J x) (J y) = some (if (0 ≤ x ∧ x ≤ 99) ∧ (0 ≤ y ∧ y ≤ 99) then 1 else 0) := by
  unfold fX7_isPlace
  rw [J_64 hx, J_64 hy, show (0 : Int64) = K 0 from K_lit 0, show (99 : Int64) = K 99 from K_lit 99, m_in k ⟨hx, by decide, by decide⟩, m_in k ⟨hy, by decide, by decide⟩]
  simp only [Option.bind_some]
  rw [b_ite, b_ite]
  by_cases q1 : 0 ≤ x ∧ x ≤ 99
  · by_cases q2 : 0 ≤ y ∧ y ≤ 99
    · rw [if_pos q1, if_pos q2, if_pos ⟨q1, q2⟩]
    · rw [if_pos q1, if_neg q2, if_neg (fun h => q2 h.2)]
  · rw [if_neg q1, if_neg (fun h => q1 h.1)]
theorem c_has (n : Int) (x : Int) (hn : 0 ≤ n ∧ n ≤ 10) (hx : -2147483648 ≤ x ∧ x < 2147483648) : (if J x < 0 then some (0 : Int32) else (if J n ≤ J x then some 0 else some 1)) = some (if 0 ≤ x ∧ x ≤ n - 1 then 1 else 0) := by
  have e : (J x < 0) = (x < 0) := by rw [J_lit, J_lt (by omega)]
  simp only [e, @J_le n x (by omega)]
  by_cases q1 : x < 0
  · rw [if_pos q1, if_neg (by omega)]
  · by_cases q2 : n ≤ x
    · rw [if_neg q1, if_pos q2, if_neg (by omega)]
    · rw [if_neg q1, if_neg q2, if_pos (by omega)]
theorem m_has (k : Nat) (n : Int) (x : Int) (hn : 0 ≤ n ∧ n ≤ 10) (hx : -2147483648 ≤ x ∧ x < 2147483648) : ((fX7_in k (J x).toInt64 0 (J n - 1).toInt64).bind (fun (r3 : Int32) => chb r3 (some r3))) = some (if 0 ≤ x ∧ x ≤ n - 1 then 1 else 0) := by
  have e1 : (J n - 1).toInt64 = K (n - 1) := by
    rw [show (1 : Int32) = J 1 from J_lit 1, J_sub, J_64 (by omega)]
  rw [e1, J_64 hx, show (0 : Int64) = K 0 from K_lit 0, m_in k ⟨hx, by decide, by omega⟩]
  simp only [Option.bind_some, chb_b]
theorem c_hasWindow (k : Nat) {c st : Dat} {a : Nat → Int} (hS : SS st a) (hs : WS a) {x : Int} (hx : -2147483648 ≤ x ∧ x < 2147483648) : fX6_hasWindow k c st (J x) = some (if 0 ≤ x ∧ x ≤ a 54 - 1 then 1 else 0) := by
  unfold fX6_hasWindow
  rw [hS.1.1]
  exact c_has _ _ (by have := hs.1; omega) hx
theorem c_hasEar (k : Nat) {c st : Dat} {a : Nat → Int} (hS : SS st a) (hs : WS a) {x : Int} (hx : -2147483648 ≤ x ∧ x < 2147483648) : fX6_hasEar k c st (J x) = some (if 0 ≤ x ∧ x ≤ a 55 - 1 then 1 else 0) := by
  unfold fX6_hasEar
  rw [hS.1.2.1]
  exact c_has _ _ (by have := hs.2.1; omega) hx
theorem c_hasPlayer (k : Nat) {c bd : Dat} {a : Nat → Int} (hB : BB bd a) (hb : WB a) {x : Int} (hx : -2147483648 ≤ x ∧ x < 2147483648) : fX6_hasPlayer k c bd (J x) = some (if 0 ≤ x ∧ x ≤ a 56 - 1 then 1 else 0) := by
  unfold fX6_hasPlayer
  rw [hB.1.1]
  exact c_has _ _ (by have := hb.1; omega) hx
theorem m_isWindow (k : Nat) {m : Dat} {a : Nat → Int} (hM : m.2 0 = Jf a) (hs : WS a) {x : Int} (hx : -2147483648 ≤ x ∧ x < 2147483648) : fX7_isWindow k m (J x) = some (if 0 ≤ x ∧ x ≤ a 54 - 1 then 1 else 0) := by
  unfold fX7_isWindow
  rw [m_windows k hM, Option.bind_some]
  exact m_has k _ _ (by have := hs.1; omega) hx
theorem m_isEar (k : Nat) {m : Dat} {a : Nat → Int} (hM : m.2 0 = Jf a) (hs : WS a) {x : Int} (hx : -2147483648 ≤ x ∧ x < 2147483648) : fX7_isEar k m (J x) = some (if 0 ≤ x ∧ x ≤ a 55 - 1 then 1 else 0) := by
  unfold fX7_isEar
  rw [m_ears k hM, Option.bind_some]
  exact m_has k _ _ (by have := hs.2.1; omega) hx
theorem m_isPlayer (k : Nat) {m : Dat} {a : Nat → Int} (hM : m.2 0 = Jf a) (hb : WB a) {x : Int} (hx : -2147483648 ≤ x ∧ x < 2147483648) : fX7_isPlayer k m (J x) = some (if 0 ≤ x ∧ x ≤ a 56 - 1 then 1 else 0) := by
  unfold fX7_isPlayer
  rw [m_players k hM, Option.bind_some]
  exact m_has k _ _ (by have := hb.1; omega) hx
def sx8 (b : Nat) : Int := if b < 128 then b else (b : Int) - 256
def RT (st bd : Dat) (f : Nat → Int32) : Prop := ∃ a : Nat → Int, f = Jf a ∧ SS st a ∧ BB bd a ∧ WS a ∧ WB a
def RX (n n' : Int32) (t t' : Nat → Int32) : Prop := ∃ z : Nat, z ≤ 250 ∧ n = J z ∧ n' = J z ∧ ∀ i : Nat, i < z → ∃ b : Nat, b < 256 ∧ t' i = J b ∧ t i = J (sx8 b)
def RR (x y z : Int32) (f : Nat → Int32) : Prop := x = f 0 ∧ y = f 1 ∧ z = f 2
def RI (x : Int32) (is ib : Dat) (g : Nat → Int32) (y : Int32) : Prop :=
  (x = 0 ∧ y = 0) ∨ (x = 1 ∧ y = 1 ∧ ∃ b : Nat → Int, (∀ i : Nat, i < 106 → g i = J (b i)) ∧ SS is b ∧ BB ib b ∧ WS b ∧ WB b)
def Rel (c st bd i0 i1 b0 b1 m : Dat) : Prop :=
  RT st bd (m.2 0) ∧ RX (c.1 13) (m.1 16) (c.2 12) (m.2 15) ∧ RR (c.1 15) (c.1 16) (c.1 17) (m.2 3)
  ∧ RI (c.2 4 0) i0 b0 (fun i => m.2 1 i) (m.2 2 0) ∧ RI (c.2 4 1) i1 b1 (fun i => m.2 1 (106 + i)) (m.2 2 1)
theorem Rel.bad {c st bd i0 i1 b0 b1 m : Dat} (h : Rel c st bd i0 i1 b0 b1 m) : Rel (upd c.1 15 (c.1 15 + 1), c.2) st bd i0 i1 b0 b1 (m.1, va_up m.2 3 (upd (m.2 3) 0 (m.2 3 0 + 1))) := by
  obtain ⟨hT, hX, ⟨r0, r1, r2⟩, hI⟩ := h
  refine ⟨hT, hX, ⟨?_, r1, r2⟩, hI⟩
  show c.1 15 + 1 = m.2 3 0 + 1
  rw [r0]
theorem Rel.no {c st bd i0 i1 b0 b1 m : Dat} (h : Rel c st bd i0 i1 b0 b1 m) : Rel (upd c.1 16 (c.1 16 + 1), c.2) st bd i0 i1 b0 b1 (m.1, va_up m.2 3 (upd (m.2 3) 1 (m.2 3 1 + 1))) := by
  obtain ⟨hT, hX, ⟨r0, r1, r2⟩, hI⟩ := h
  refine ⟨hT, hX, ⟨r0, ?_, r2⟩, hI⟩
  show c.1 16 + 1 = m.2 3 1 + 1
  rw [r1]
theorem Rel.full {c st bd i0 i1 b0 b1 m : Dat} (h : Rel c st bd i0 i1 b0 b1 m) : Rel (upd c.1 17 (c.1 17 + 1), c.2) st bd i0 i1 b0 b1 (m.1, va_up m.2 3 (upd (m.2 3) 2 (m.2 3 2 + 1))) := by
  obtain ⟨hT, hX, ⟨r0, r1, r2⟩, hI⟩ := h
  refine ⟨hT, hX, ⟨r0, r1, ?_⟩, hI⟩
  show c.1 17 + 1 = m.2 3 2 + 1
  rw [r2]
theorem c_bad (k : Nat) (c : Dat) (z : Int32) : fX6_refuseBad k c z = some (z, (upd c.1 15 (c.1 15 + 1), c.2)) := rfl
theorem c_no (k : Nat) (c : Dat) : fX6_refuseNo k c = some (-3, (upd c.1 16 (c.1 16 + 1), c.2)) := rfl
theorem c_full (k : Nat) (c : Dat) : fX6_refuseFull k c = some (-4, (upd c.1 17 (c.1 17 + 1), c.2)) := rfl
theorem m_bad (k : Nat) (m : Dat) (z : Int32) : fX7_bad k m z = some (z, (m.1, va_up m.2 3 (upd (m.2 3) 0 (m.2 3 0 + 1)))) := rfl
theorem m_no (k : Nat) (m : Dat) : fX7_no k m = some (-3, (m.1, va_up m.2 3 (upd (m.2 3) 1 (m.2 3 1 + 1)))) := rfl
theorem m_full (k : Nat) (m : Dat) : fX7_full k m = some (-4, (m.1, va_up m.2 3 (upd (m.2 3) 2 (m.2 3 2 + 1)))) := rfl
abbrev D16 : Type := Int32 × Dat × Dat × Dat × Dat × Dat × Dat × Dat × Dat × Dat × Dat × Dat × Dat × Dat × Dat × Dat
def RelV (v : D16) : Prop := Rel v.2.1 v.2.2.1 v.2.2.2.1 v.2.2.2.2.1 v.2.2.2.2.2.1 v.2.2.2.2.2.2.1 v.2.2.2.2.2.2.2.1 v.2.2.2.2.2.2.2.2.2.2.2.2.2.2.2
def OP (L : Nat) (f : (D16 → Option Int32) → Int32 → Dat → Dat → Dat → Dat → Dat → Dat → Dat → Dat → Dat → Dat → Dat → Dat → Dat → Dat → Dat → Option Int32) : Prop :=
  ∀ (rec : D16 → Option Int32) (z : Int) (c st bd i0 i1 b0 b1 t5 t6 t7 h8 t9 s10 r11 m : Dat), 0 ≤ z → z + 5 ≤ L → Rel c st bd i0 i1 b0 b1 m →
    ∃ v : D16, f rec (J z) c st bd i0 i1 b0 b1 t5 t6 t7 h8 t9 s10 r11 m = rec v ∧ v.1 = J (z + 5) ∧ RelV v
theorem fin {rec : D16 → Option Int32} {E : Option Int32} {z : Int} {v : D16} (h1 : E = rec v) (h2 : v.1 = J (z + 5)) (h3 : RelV v) : ∃ v : D16, E = rec v ∧ v.1 = J (z + 5) ∧ RelV v := ⟨v, h1, h2, h3⟩
theorem cw_1_9 (k : Nat) {z : Int} (h : -2147483648 ≤ z ∧ z < 2147483648) : fX6_isWithin k (J z) 1 9 = some (if 1 ≤ z ∧ z ≤ 9 then 1 else 0) := by
  rw [show (1 : Int32) = J (1) from rfl, show (9 : Int32) = J (9) from rfl]
  exact c_isWithin k ⟨h, by decide, by decide⟩
theorem mi_1_9 (k : Nat) {z : Int} (h : -2147483648 ≤ z ∧ z < 2147483648) : fX7_in k (J z).toInt64 1 9 = some (if 1 ≤ z ∧ z ≤ 9 then 1 else 0) := by
  rw [J_64 h, show (1 : Int64) = K (1) from rfl, show (9 : Int64) = K (9) from rfl]
  exact m_in k ⟨h, by decide, by decide⟩
theorem cw_m2_2 (k : Nat) {z : Int} (h : -2147483648 ≤ z ∧ z < 2147483648) : fX6_isWithin k (J z) (-2) 2 = some (if -2 ≤ z ∧ z ≤ 2 then 1 else 0) := by
  rw [show (-2 : Int32) = J (-2) from rfl, show (2 : Int32) = J (2) from rfl]
  exact c_isWithin k ⟨h, by decide, by decide⟩
theorem mi_m2_2 (k : Nat) {z : Int} (h : -2147483648 ≤ z ∧ z < 2147483648) : fX7_in k (J z).toInt64 (-2) 2 = some (if -2 ≤ z ∧ z ≤ 2 then 1 else 0) := by
  rw [J_64 h, show (-2 : Int64) = K (-2) from rfl, show (2 : Int64) = K (2) from rfl]
  exact m_in k ⟨h, by decide, by decide⟩
theorem cw_0_999 (k : Nat) {z : Int} (h : -2147483648 ≤ z ∧ z < 2147483648) : fX6_isWithin k (J z) 0 999 = some (if 0 ≤ z ∧ z ≤ 999 then 1 else 0) := by
  rw [show (0 : Int32) = J (0) from rfl, show (999 : Int32) = J (999) from rfl]
  exact c_isWithin k ⟨h, by decide, by decide⟩
theorem mi_0_999 (k : Nat) {z : Int} (h : -2147483648 ≤ z ∧ z < 2147483648) : fX7_in k (J z).toInt64 0 999 = some (if 0 ≤ z ∧ z ≤ 999 then 1 else 0) := by
  rw [J_64 h, show (0 : Int64) = K (0) from rfl, show (999 : Int64) = K (999) from rfl]
  exact m_in k ⟨h, by decide, by decide⟩
theorem cw_0_5 (k : Nat) {z : Int} (h : -2147483648 ≤ z ∧ z < 2147483648) : fX6_isWithin k (J z) 0 5 = some (if 0 ≤ z ∧ z ≤ 5 then 1 else 0) := by
  rw [show (0 : Int32) = J (0) from rfl, show (5 : Int32) = J (5) from rfl]
  exact c_isWithin k ⟨h, by decide, by decide⟩
theorem mi_0_5 (k : Nat) {z : Int} (h : -2147483648 ≤ z ∧ z < 2147483648) : fX7_in k (J z).toInt64 0 5 = some (if 0 ≤ z ∧ z ≤ 5 then 1 else 0) := by
  rw [J_64 h, show (0 : Int64) = K (0) from rfl, show (5 : Int64) = K (5) from rfl]
  exact m_in k ⟨h, by decide, by decide⟩
theorem cw_1_99 (k : Nat) {z : Int} (h : -2147483648 ≤ z ∧ z < 2147483648) : fX6_isWithin k (J z) 1 99 = some (if 1 ≤ z ∧ z ≤ 99 then 1 else 0) := by
  rw [show (1 : Int32) = J (1) from rfl, show (99 : Int32) = J (99) from rfl]
  exact c_isWithin k ⟨h, by decide, by decide⟩
theorem mi_1_99 (k : Nat) {z : Int} (h : -2147483648 ≤ z ∧ z < 2147483648) : fX7_in k (J z).toInt64 1 99 = some (if 1 ≤ z ∧ z ≤ 99 then 1 else 0) := by
  rw [J_64 h, show (1 : Int64) = K (1) from rfl, show (99 : Int64) = K (99) from rfl]
  exact m_in k ⟨h, by decide, by decide⟩
theorem cw_m500_500 (k : Nat) {z : Int} (h : -2147483648 ≤ z ∧ z < 2147483648) : fX6_isWithin k (J z) (-500) 500 = some (if -500 ≤ z ∧ z ≤ 500 then 1 else 0) := by
  rw [show (-500 : Int32) = J (-500) from rfl, show (500 : Int32) = J (500) from rfl]
  exact c_isWithin k ⟨h, by decide, by decide⟩
theorem mi_m500_500 (k : Nat) {z : Int} (h : -2147483648 ≤ z ∧ z < 2147483648) : fX7_in k (J z).toInt64 (-500) 500 = some (if -500 ≤ z ∧ z ≤ 500 then 1 else 0) := by
  rw [J_64 h, show (-500 : Int64) = K (-500) from rfl, show (500 : Int64) = K (500) from rfl]
  exact m_in k ⟨h, by decide, by decide⟩
theorem cw_0_1 (k : Nat) {z : Int} (h : -2147483648 ≤ z ∧ z < 2147483648) : fX6_isWithin k (J z) 0 1 = some (if 0 ≤ z ∧ z ≤ 1 then 1 else 0) := by
  rw [show (0 : Int32) = J (0) from rfl, show (1 : Int32) = J (1) from rfl]
  exact c_isWithin k ⟨h, by decide, by decide⟩
theorem mi_0_1 (k : Nat) {z : Int} (h : -2147483648 ≤ z ∧ z < 2147483648) : fX7_in k (J z).toInt64 0 1 = some (if 0 ≤ z ∧ z ≤ 1 then 1 else 0) := by
  rw [J_64 h, show (0 : Int64) = K (0) from rfl, show (1 : Int64) = K (1) from rfl]
  exact m_in k ⟨h, by decide, by decide⟩
theorem cw_0_9999 (k : Nat) {z : Int} (h : -2147483648 ≤ z ∧ z < 2147483648) : fX6_isWithin k (J z) 0 9999 = some (if 0 ≤ z ∧ z ≤ 9999 then 1 else 0) := by
  rw [show (0 : Int32) = J (0) from rfl, show (9999 : Int32) = J (9999) from rfl]
  exact c_isWithin k ⟨h, by decide, by decide⟩
theorem mi_0_9999 (k : Nat) {z : Int} (h : -2147483648 ≤ z ∧ z < 2147483648) : fX7_in k (J z).toInt64 0 9999 = some (if 0 ≤ z ∧ z ≤ 9999 then 1 else 0) := by
  rw [J_64 h, show (0 : Int64) = K (0) from rfl, show (9999 : Int64) = K (9999) from rfl]
  exact m_in k ⟨h, by decide, by decide⟩
theorem cw_m99_99 (k : Nat) {z : Int} (h : -2147483648 ≤ z ∧ z < 2147483648) : fX6_isWithin k (J z) (-99) 99 = some (if -99 ≤ z ∧ z ≤ 99 then 1 else 0) := by
  rw [show (-99 : Int32) = J (-99) from rfl, show (99 : Int32) = J (99) from rfl]
  exact c_isWithin k ⟨h, by decide, by decide⟩
theorem mi_m99_99 (k : Nat) {z : Int} (h : -2147483648 ≤ z ∧ z < 2147483648) : fX7_in k (J z).toInt64 (-99) 99 = some (if -99 ≤ z ∧ z ≤ 99 then 1 else 0) := by
  rw [J_64 h, show (-99 : Int64) = K (-99) from rfl, show (99 : Int64) = K (99) from rfl]
  exact m_in k ⟨h, by decide, by decide⟩
theorem cw_0_20 (k : Nat) {z : Int} (h : -2147483648 ≤ z ∧ z < 2147483648) : fX6_isWithin k (J z) 0 20 = some (if 0 ≤ z ∧ z ≤ 20 then 1 else 0) := by
  rw [show (0 : Int32) = J (0) from rfl, show (20 : Int32) = J (20) from rfl]
  exact c_isWithin k ⟨h, by decide, by decide⟩
theorem mi_0_20 (k : Nat) {z : Int} (h : -2147483648 ≤ z ∧ z < 2147483648) : fX7_in k (J z).toInt64 0 20 = some (if 0 ≤ z ∧ z ≤ 20 then 1 else 0) := by
  rw [J_64 h, show (0 : Int64) = K (0) from rfl, show (20 : Int64) = K (20) from rfl]
  exact m_in k ⟨h, by decide, by decide⟩
theorem cw_1_8 (k : Nat) {z : Int} (h : -2147483648 ≤ z ∧ z < 2147483648) : fX6_isWithin k (J z) 1 8 = some (if 1 ≤ z ∧ z ≤ 8 then 1 else 0) := by
  rw [show (1 : Int32) = J (1) from rfl, show (8 : Int32) = J (8) from rfl]
  exact c_isWithin k ⟨h, by decide, by decide⟩
theorem mi_1_8 (k : Nat) {z : Int} (h : -2147483648 ≤ z ∧ z < 2147483648) : fX7_in k (J z).toInt64 1 8 = some (if 1 ≤ z ∧ z ≤ 8 then 1 else 0) := by
  rw [J_64 h, show (1 : Int64) = K (1) from rfl, show (8 : Int64) = K (8) from rfl]
  exact m_in k ⟨h, by decide, by decide⟩
theorem cw_0_4 (k : Nat) {z : Int} (h : -2147483648 ≤ z ∧ z < 2147483648) : fX6_isWithin k (J z) 0 4 = some (if 0 ≤ z ∧ z ≤ 4 then 1 else 0) := by
  rw [show (0 : Int32) = J (0) from rfl, show (4 : Int32) = J (4) from rfl]
  exact c_isWithin k ⟨h, by decide, by decide⟩
theorem mi_0_4 (k : Nat) {z : Int} (h : -2147483648 ≤ z ∧ z < 2147483648) : fX7_in k (J z).toInt64 0 4 = some (if 0 ≤ z ∧ z ≤ 4 then 1 else 0) := by
  rw [J_64 h, show (0 : Int64) = K (0) from rfl, show (4 : Int64) = K (4) from rfl]
  exact m_in k ⟨h, by decide, by decide⟩
theorem cw_0_2 (k : Nat) {z : Int} (h : -2147483648 ≤ z ∧ z < 2147483648) : fX6_isWithin k (J z) 0 2 = some (if 0 ≤ z ∧ z ≤ 2 then 1 else 0) := by
  rw [show (0 : Int32) = J (0) from rfl, show (2 : Int32) = J (2) from rfl]
  exact c_isWithin k ⟨h, by decide, by decide⟩
theorem mi_0_2 (k : Nat) {z : Int} (h : -2147483648 ≤ z ∧ z < 2147483648) : fX7_in k (J z).toInt64 0 2 = some (if 0 ≤ z ∧ z ≤ 2 then 1 else 0) := by
  rw [J_64 h, show (0 : Int64) = K (0) from rfl, show (2 : Int64) = K (2) from rfl]
  exact m_in k ⟨h, by decide, by decide⟩
theorem cw_0_99 (k : Nat) {z : Int} (h : -2147483648 ≤ z ∧ z < 2147483648) : fX6_isWithin k (J z) 0 99 = some (if 0 ≤ z ∧ z ≤ 99 then 1 else 0) := by
  rw [show (0 : Int32) = J (0) from rfl, show (99 : Int32) = J (99) from rfl]
  exact c_isWithin k ⟨h, by decide, by decide⟩
theorem mi_0_99 (k : Nat) {z : Int} (h : -2147483648 ≤ z ∧ z < 2147483648) : fX7_in k (J z).toInt64 0 99 = some (if 0 ≤ z ∧ z ≤ 99 then 1 else 0) := by
  rw [J_64 h, show (0 : Int64) = K (0) from rfl, show (99 : Int64) = K (99) from rfl]
  exact m_in k ⟨h, by decide, by decide⟩
theorem cw_0_500 (k : Nat) {z : Int} (h : -2147483648 ≤ z ∧ z < 2147483648) : fX6_isWithin k (J z) 0 500 = some (if 0 ≤ z ∧ z ≤ 500 then 1 else 0) := by
  rw [show (0 : Int32) = J (0) from rfl, show (500 : Int32) = J (500) from rfl]
  exact c_isWithin k ⟨h, by decide, by decide⟩
theorem mi_0_500 (k : Nat) {z : Int} (h : -2147483648 ≤ z ∧ z < 2147483648) : fX7_in k (J z).toInt64 0 500 = some (if 0 ≤ z ∧ z ≤ 500 then 1 else 0) := by
  rw [J_64 h, show (0 : Int64) = K (0) from rfl, show (500 : Int64) = K (500) from rfl]
  exact m_in k ⟨h, by decide, by decide⟩
theorem rd5 (z : Int) : J z + 5 = J (z + 5) := by rw [J_lit, J_add]
theorem rd {α : Type} {L : Nat} {z : Int} (h0 : 0 ≤ z) (h1 : z + 5 ≤ L) (hL : L ≤ 2560) {E : Option α} : chk L (J z + 1) E = E ∧ chk L (J z + 2) E = E ∧ chk L (J z + 3) E = E ∧ chk L (J z + 4) E = E := by
  simp (disch := omega) only [J_lit, J_add, chk_J, and_self]
theorem RR.bad {x y z : Int32} {f : Nat → Int32} (h : RR x y z f) : RR (x + 1) y z (upd f 0 (f 0 + 1)) := ⟨by rw [h.1]; rfl, h.2.1, h.2.2⟩
theorem RR.no {x y z : Int32} {f : Nat → Int32} (h : RR x y z f) : RR x (y + 1) z (upd f 1 (f 1 + 1)) := ⟨h.1, by rw [h.2.1]; rfl, h.2.2⟩
theorem RR.full {x y z : Int32} {f : Nat → Int32} (h : RR x y z f) : RR x y (z + 1) (upd f 2 (f 2 + 1)) := ⟨h.1, h.2.1, by rw [h.2.2]; rfl⟩
theorem BB_ext {bd : Dat} {a a' : Nat → Int} (h : BB bd a) (hb : WB a) (e : ∀ i : Nat, (i = 23 ∨ 24 ≤ i) → ¬ i = 54 → ¬ i = 55 → a' i = a i) : BB bd a' := by
  obtain ⟨⟨h0, h7, h8⟩, hP, hR⟩ := h
  have n56 := hb.1
  have e56 := e 56 (by omega) (by omega) (by omega)
  have e57 := e 57 (by omega) (by omega) (by omega)
  refine ⟨⟨by rw [e56]; exact h0, by rw [e 23 (by omega) (by omega) (by omega)]; exact h7, by rw [e57]; exact h8⟩, fun p hp => ?_, fun r p hr hp => ?_⟩
  · rw [e56] at hp
    rw [e (24 + 5 * p) (by omega) (by omega) (by omega), e (24 + 5 * p + 1) (by omega) (by omega) (by omega), e (24 + 5 * p + 2) (by omega) (by omega) (by omega), e (24 + 5 * p + 3) (by omega) (by omega) (by omega), e (24 + 5 * p + 4) (by omega) (by omega) (by omega)]
    exact hP p hp
  · rw [e56] at hp
    rw [e57] at hr
    rw [e (58 + 6 * r + p) (by omega) (by omega) (by omega)]
    exact hR r p hr hp
theorem WB_ext {a a' : Nat → Int} (hb : WB a) (h54 : a 54 ≤ a' 54) (e : ∀ i : Nat, (i = 23 ∨ 24 ≤ i) → ¬ i = 54 → ¬ i = 55 → a' i = a i) : WB a' := by
  obtain ⟨n56, n57, n23, hP, hR⟩ := hb
  have e56 := e 56 (by omega) (by omega) (by omega)
  have e57 := e 57 (by omega) (by omega) (by omega)
  refine ⟨by rw [e56]; exact n56, by rw [e57]; exact n57, by rw [e 23 (by omega) (by omega) (by omega)]; exact n23, fun p hp => ?_, fun r p hr hp => ?_⟩
  · rw [e56] at hp
    unfold W1
    rw [e56, e (24 + 5 * p) (by omega) (by omega) (by omega), e (24 + 5 * p + 1) (by omega) (by omega) (by omega), e (24 + 5 * p + 2) (by omega) (by omega) (by omega), e (24 + 5 * p + 3) (by omega) (by omega) (by omega), e (24 + 5 * p + 4) (by omega) (by omega) (by omega)]
    have := hP p hp
    unfold W1 at this
    omega
  · rw [e56] at hp
    rw [e57] at hr
    rw [e (58 + 6 * r + p) (by omega) (by omega) (by omega)]
    exact hR r p hr hp
theorem SS_ext {st : Dat} {a a' : Nat → Int} (h : SS st a) (hs : WS a) (e : ∀ i : Nat, (i < 23 ∨ i = 54 ∨ i = 55) → a' i = a i) : SS st a' := by
  obtain ⟨⟨h0, h3, h6, h7, h8, h9, h10⟩, hW, hE⟩ := h
  obtain ⟨n54, n55, _⟩ := hs
  refine ⟨?_, fun w hw => ?_, fun q hq => ?_⟩
  · rw [e 54 (by omega), e 55 (by omega), e 18 (by omega), e 19 (by omega), e 20 (by omega), e 21 (by omega), e 22 (by omega)]
    exact ⟨h0, h3, h6, h7, h8, h9, h10⟩
  · rw [e 54 (by omega)] at hw
    rw [e (2 * w) (by omega), e (2 * w + 1) (by omega)]
    exact hW w hw
  · rw [e 55 (by omega)] at hq
    rw [e (12 + 2 * q) (by omega), e (12 + 2 * q + 1) (by omega)]
    exact hE q hq
theorem WS_ext {a a' : Nat → Int} (hs : WS a) (e : ∀ i : Nat, (i < 23 ∨ i = 54 ∨ i = 55) → a' i = a i) : WS a' := by
  obtain ⟨n54, n55, n20, n21, n22, n18, hp⟩ := hs
  refine ⟨by rw [e 54 (by omega)]; exact n54, by rw [e 55 (by omega)]; exact n55, by rw [e 20 (by omega)]; exact n20, by rw [e 21 (by omega)]; exact n21, by rw [e 22 (by omega)]; exact n22, by rw [e 18 (by omega), e 19 (by omega)]; exact n18, fun i hi => ?_⟩
  rw [e i (by omega)]
  exact hp i hi
theorem J_z {n : Int} (h : 0 ≤ n) : J n = J (n.toNat : Nat) := by
  congr 1
  omega
theorem L_0 (k L : Nat) (xs : Nat → Int32) (hL : L ≤ 2560) : OP L (fL_0 k L xs) := by
  intro rec z c st bd i0 i1 b0 b1 t5 t6 t7 h8 t9 s10 r11 m hz hzL hR
  unfold fL_0
  simp only [rd hz hzL hL]
  generalize xs (J z + 1).toNatClampNeg = x1
  generalize xs (J z + 2).toNatClampNeg = x2
  obtain ⟨X, hX, rfl⟩ := J_ex x1
  obtain ⟨Y, hY, rfl⟩ := J_ex x2
  obtain ⟨⟨a, hM, hS, hB, hs, hb⟩, hTx, hRf, hI⟩ := hR
  obtain ⟨n54, n55, n20, n21, n22, n18, hp⟩ := id hs
  unfold fX6_window fX7_window
  rw [c_isPlace k hX hY, m_isPlace k hX hY]
  simp only [Option.bind_some, b_ite, m_windows k hM, hS.1.1]
  by_cases q : (0 ≤ X ∧ X ≤ 99) ∧ (0 ≤ Y ∧ Y ≤ 99)
  · rw [if_pos q, if_pos q]
    have e6 : (J (a 54) < 6) = (a 54 < 6) := by rw [J_lit, J_lt (by omega)]
    have e7 : (J (a 54) = 6) = (a 54 = 6) := by rw [J_lit, J_eq (by omega)]
    simp only [e6, e7]
    by_cases q6 : a 54 = 6
    · rw [if_neg (by omega), if_pos q6]
      apply fin
      · simp only [c_full, m_full, Option.bind_some, ↓reduceIte]
        exact rfl
      · exact rd5 z
      · exact ⟨⟨a, hM, hS, hB, hs, hb⟩, hTx, hRf.full, hI⟩
    · rw [if_pos (by omega), if_neg q6]
      obtain ⟨w, hw⟩ : ∃ w : Nat, a 54 = w := ⟨(a 54).toNat, by omega⟩
      have c1 : ∀ {α : Type} (E : Option α), chk 106 (54 : Int32) E = E := fun E => by rw [J_lit, chk_J (by omega)]
      unfold fX4_addWindow
      rw [hS.1.1, hw, m_at, J_suc]
      rw [if_pos (by rw [J_lit, J_lt (by omega)]; omega)]
      simp (disch := omega) only [chk_J, c1, Option.bind_some, J_natn, J_suc]
      have er : J ((w + 1 : Nat) : Int) - 1 = J w := by rw [J_lit, J_sub]; congr 1; omega
      apply fin
      · simp only [er, ↓reduceIte]
        exact rfl
      · exact rd5 z
      refine ⟨⟨zup (zup (zup a (2 * w) X) (2 * w + 1) Y) 54 (w + 1), ?_, ?_, ?_, ?_, ?_⟩, hTx, hRf, hI⟩
      · show upd (upd (upd (m.2 0) (2 * w) (J X)) (2 * w + 1) (J Y)) 54 (upd (upd (m.2 0) (2 * w) (J X)) (2 * w + 1) (J Y) 54 + 1) = _
        rw [upd_ne (by omega), upd_ne (by omega), hM, Jf_ap, hw, J_suc, upd_J, upd_J]
        exact upd_J _ _ _
      · obtain ⟨⟨h0, h3, h6, h7, h8, h9, h10⟩, hW, hE⟩ := hS
        refine ⟨⟨?_, ?_, ?_, ?_, ?_, ?_, ?_⟩, fun w' hw' => ?_, fun e he => ?_⟩
        · rfl
        · rw [zup_ne (by omega), zup_ne (by omega), zup_ne (by omega)]; exact h3
        · rw [zup_ne (by omega), zup_ne (by omega), zup_ne (by omega)]; exact h6
        · rw [zup_ne (by omega), zup_ne (by omega), zup_ne (by omega)]; exact h7
        · rw [zup_ne (by omega), zup_ne (by omega), zup_ne (by omega)]; exact h8
        · rw [zup_ne (by omega), zup_ne (by omega), zup_ne (by omega)]; exact h9
        · rw [zup_ne (by omega), zup_ne (by omega), zup_ne (by omega)]; exact h10
        · rw [zup_same] at hw'
          by_cases qw : w' = w
          · subst qw
            rw [zup_ne (by omega), zup_ne (by omega), zup_same, zup_ne (by omega), zup_same]
            exact ⟨upd_same _ _ _, upd_same _ _ _⟩
          · rw [zup_ne (by omega), zup_ne (by omega), zup_ne (by omega), zup_ne (by omega), zup_ne (by omega), zup_ne (by omega)]
            have := hW w' (by omega)
            exact ⟨(upd_ne qw).trans this.1, (upd_ne qw).trans this.2⟩
        · rw [zup_ne (by omega), zup_ne (by omega), zup_ne (by omega)] at he
          rw [zup_ne (by omega), zup_ne (by omega), zup_ne (by omega), zup_ne (by omega), zup_ne (by omega), zup_ne (by omega)]
          exact hE e he
      · exact BB_ext hB hb (fun i hi h4 h5 => by rw [zup_ne h4, zup_ne (by omega), zup_ne (by omega)])
      · refine ⟨by rw [zup_same]; omega, ?_, ?_, ?_, ?_, ?_, fun i hi => ?_⟩
        · rw [zup_ne (by omega), zup_ne (by omega), zup_ne (by omega)]; exact n55
        · rw [zup_ne (by omega), zup_ne (by omega), zup_ne (by omega)]; exact n20
        · rw [zup_ne (by omega), zup_ne (by omega), zup_ne (by omega)]; exact n21
        · rw [zup_ne (by omega), zup_ne (by omega), zup_ne (by omega)]; exact n22
        · rw [zup_ne (by omega), zup_ne (by omega), zup_ne (by omega), zup_ne (by omega), zup_ne (by omega), zup_ne (by omega)]; exact n18
        · have := hp i hi
          unfold zup
          omega
      · exact WB_ext hb (by rw [zup_same]; omega) (fun i hi h4 h5 => by rw [zup_ne h4, zup_ne (by omega), zup_ne (by omega)])
  · rw [if_neg q, if_neg q]
    apply fin
    · simp only [c_bad, m_bad, Option.bind_some, ↓reduceIte]
      exact rfl
    · exact rd5 z
    · exact ⟨⟨a, hM, hS, hB, hs, hb⟩, hTx, hRf.bad, hI⟩
theorem L_1 (k L : Nat) (xs : Nat → Int32) (hL : L ≤ 2560) : OP L (fL_1 k L xs) := by
  intro rec z c st bd i0 i1 b0 b1 t5 t6 t7 h8 t9 s10 r11 m hz hzL hR
  unfold fL_1
  simp only [rd hz hzL hL]
  generalize xs (J z + 1).toNatClampNeg = x1
  generalize xs (J z + 2).toNatClampNeg = x2
  obtain ⟨X, hX, rfl⟩ := J_ex x1
  obtain ⟨Y, hY, rfl⟩ := J_ex x2
  obtain ⟨⟨a, hM, hS, hB, hs, hb⟩, hTx, hRf, hI⟩ := hR
  obtain ⟨n54, n55, n20, n21, n22, n18, hp⟩ := id hs
  unfold fX6_ear fX7_ear
  rw [c_isPlace k hX hY, m_isPlace k hX hY]
  simp only [Option.bind_some, b_ite, m_ears k hM, hS.1.2.1]
  by_cases q : (0 ≤ X ∧ X ≤ 99) ∧ (0 ≤ Y ∧ Y ≤ 99)
  · rw [if_pos q, if_pos q]
    have e6 : (J (a 55) < 3) = (a 55 < 3) := by rw [J_lit, J_lt (by omega)]
    have e7 : (J (a 55) = 3) = (a 55 = 3) := by rw [J_lit, J_eq (by omega)]
    simp only [e6, e7]
    by_cases q6 : a 55 = 3
    · rw [if_neg (by omega), if_pos q6]
      apply fin
      · simp only [c_full, m_full, Option.bind_some, ↓reduceIte]
        exact rfl
      · exact rd5 z
      · exact ⟨⟨a, hM, hS, hB, hs, hb⟩, hTx, hRf.full, hI⟩
    · rw [if_pos (by omega), if_neg q6]
      obtain ⟨w, hw⟩ : ∃ w : Nat, a 55 = w := ⟨(a 55).toNat, by omega⟩
      have c1 : ∀ {α : Type} (E : Option α), chk 106 (55 : Int32) E = E := fun E => by rw [J_lit, chk_J (by omega)]
      unfold fX4_addEar
      rw [hS.1.2.1, hw, m_ea, J_suc]
      rw [if_pos (by rw [J_lit, J_lt (by omega)]; omega)]
      simp (disch := omega) only [chk_J, c1, Option.bind_some, J_natn, J_suc]
      have er : J ((w + 1 : Nat) : Int) - 1 = J w := by rw [J_lit, J_sub]; congr 1; omega
      apply fin
      · simp only [er, ↓reduceIte]
        exact rfl
      · exact rd5 z
      refine ⟨⟨zup (zup (zup a (12 + 2 * w) X) (12 + 2 * w + 1) Y) 55 (w + 1), ?_, ?_, ?_, ?_, ?_⟩, hTx, hRf, hI⟩
      · show upd (upd (upd (m.2 0) (12 + 2 * w) (J X)) (12 + 2 * w + 1) (J Y)) 55 (upd (upd (m.2 0) (12 + 2 * w) (J X)) (12 + 2 * w + 1) (J Y) 55 + 1) = _
        rw [upd_ne (by omega), upd_ne (by omega), hM, Jf_ap, hw, J_suc, upd_J, upd_J]
        exact upd_J _ _ _
      · obtain ⟨⟨h0, h3, h6, h7, h8, h9, h10⟩, hW, hE⟩ := hS
        refine ⟨⟨?_, ?_, ?_, ?_, ?_, ?_, ?_⟩, fun w' hw' => ?_, fun e he => ?_⟩
        · simp (disch := omega) only [zup_same, zup_ne]; exact h0
        · rfl
        · simp (disch := omega) only [zup_same, zup_ne]; exact h6
        · simp (disch := omega) only [zup_same, zup_ne]; exact h7
        · simp (disch := omega) only [zup_same, zup_ne]; exact h8
        · simp (disch := omega) only [zup_same, zup_ne]; exact h9
        · simp (disch := omega) only [zup_same, zup_ne]; exact h10
        · simp (disch := omega) only [zup_same, zup_ne] at hw'
          simp (disch := omega) only [zup_same, zup_ne]
          exact hW w' hw'
        · rw [zup_same] at he
          by_cases qw : e = w
          · subst qw
            simp (disch := omega) only [zup_same, zup_ne]
            exact ⟨upd_same _ _ _, upd_same _ _ _⟩
          · simp (disch := omega) only [zup_same, zup_ne]
            have := hE e (by omega)
            exact ⟨(upd_ne qw).trans this.1, (upd_ne qw).trans this.2⟩
      · exact BB_ext hB hb (fun i hi h4 h5 => by simp (disch := omega) only [zup_same, zup_ne])
      · refine ⟨by simp (disch := omega) only [zup_same, zup_ne]; exact n54, by rw [zup_same]; omega, ?_, ?_, ?_, ?_, fun i hi => ?_⟩
        · simp (disch := omega) only [zup_same, zup_ne]; exact n20
        · simp (disch := omega) only [zup_same, zup_ne]; exact n21
        · simp (disch := omega) only [zup_same, zup_ne]; exact n22
        · simp (disch := omega) only [zup_same, zup_ne]; exact n18
        · have := hp i hi
          unfold zup
          omega
      · exact WB_ext hb (by simp (disch := omega) only [zup_same, zup_ne]; omega) (fun i hi h4 h5 => by simp (disch := omega) only [zup_same, zup_ne])
  · rw [if_neg q, if_neg q]
    apply fin
    · simp only [c_bad, m_bad, Option.bind_some, ↓reduceIte]
      exact rfl
    · exact rd5 z
    · exact ⟨⟨a, hM, hS, hB, hs, hb⟩, hTx, hRf.bad, hI⟩
theorem L_2 (k L : Nat) (xs : Nat → Int32) (hL : L ≤ 2560) : OP L (fL_2 k L xs) := by
  intro rec z c st bd i0 i1 b0 b1 t5 t6 t7 h8 t9 s10 r11 m hz hzL hR
  unfold fL_2
  simp only [rd hz hzL hL]
  generalize xs (J z + 1).toNatClampNeg = x1
  generalize xs (J z + 2).toNatClampNeg = x2
  obtain ⟨X, hX, rfl⟩ := J_ex x1
  obtain ⟨Y, hY, rfl⟩ := J_ex x2
  obtain ⟨⟨a, hM, hS, hB, hs, hb⟩, hTx, hRf, hI⟩ := hR
  obtain ⟨n54, n55, n20, n21, n22, n18, hp⟩ := id hs
  unfold fX6_mill fX7_mill
  rw [c_isPlace k hX hY, m_isPlace k hX hY]
  simp only [Option.bind_some, b_ite]
  by_cases q : (0 ≤ X ∧ X ≤ 99) ∧ (0 ≤ Y ∧ Y ≤ 99)
  · rw [if_pos q, if_pos q]
    have c1 : ∀ {α : Type} (E : Option α), chk 106 (18 : Int32) E = E := fun E => by rw [J_lit, chk_J (by omega)]
    have c2 : ∀ {α : Type} (E : Option α), chk 106 (19 : Int32) E = E := fun E => by rw [J_lit, chk_J (by omega)]
    unfold fX4_buildMill
    apply fin
    · simp only [c1, c2, Option.bind_some, ↓reduceIte]
      exact rfl
    · exact rd5 z
    have ex : ∀ i : Nat, ¬ i = 18 → ¬ i = 19 → zup (zup a 18 X) 19 Y i = a i := fun i h1 h2 => by rw [zup_ne h2, zup_ne h1]
    refine ⟨⟨zup (zup a 18 X) 19 Y, ?_, ?_, ?_, ?_, ?_⟩, hTx, hRf, hI⟩
    · show upd (upd (m.2 0) 18 (J X)) 19 (J Y) = _
      rw [hM, upd_J]
      exact upd_J _ _ _
    · obtain ⟨⟨h0, h3, h6, h7, h8, h9, h10⟩, hW, hE⟩ := hS
      refine ⟨⟨by simp (disch := omega) only [zup_same, zup_ne]; exact h0, by simp (disch := omega) only [zup_same, zup_ne]; exact h3, ?_, ?_, by simp (disch := omega) only [zup_same, zup_ne]; exact h8, by simp (disch := omega) only [zup_same, zup_ne]; exact h9, by simp (disch := omega) only [zup_same, zup_ne]; exact h10⟩, fun w' hw' => ?_, fun e he => ?_⟩
      · simp (disch := omega) only [zup_same, zup_ne]
        rfl
      · rfl
      · simp (disch := omega) only [zup_same, zup_ne] at hw'
        simp (disch := omega) only [zup_same, zup_ne]
        exact hW w' hw'
      · simp (disch := omega) only [zup_same, zup_ne] at he
        have := hE e he
        rw [ex (12 + 2 * e) (by omega) (by omega), ex (12 + 2 * e + 1) (by omega) (by omega)]
        exact this
    · exact BB_ext hB hb (fun i hi h4 h5 => by simp (disch := omega) only [zup_same, zup_ne])
    · refine ⟨by simp (disch := omega) only [zup_same, zup_ne]; exact n54, by simp (disch := omega) only [zup_same, zup_ne]; exact n55, ?_, ?_, ?_, ?_, fun i hi => ?_⟩
      · simp (disch := omega) only [zup_same, zup_ne]; exact n20
      · simp (disch := omega) only [zup_same, zup_ne]; exact n21
      · simp (disch := omega) only [zup_same, zup_ne]; exact n22
      · right
        simp (disch := omega) only [zup_same, zup_ne]
        omega
      · have := hp i hi
        rw [ex i (by omega) (by omega)]
        exact this
    · exact WB_ext hb (by simp (disch := omega) only [zup_same, zup_ne]; omega) (fun i hi h4 h5 => by simp (disch := omega) only [zup_same, zup_ne])
  · rw [if_neg q, if_neg q]
    apply fin
    · simp only [c_bad, m_bad, Option.bind_some, ↓reduceIte]
      exact rfl
    · exact rd5 z
    · exact ⟨⟨a, hM, hS, hB, hs, hb⟩, hTx, hRf.bad, hI⟩
