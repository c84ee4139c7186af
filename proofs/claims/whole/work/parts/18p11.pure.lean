def ltr (b : Nat) : Prop := 97 ≤ b ∧ b ≤ 122
def fgr (b : Nat) : Prop := 48 ≤ b ∧ b ≤ 57
def run (P : Nat → Prop) (T : Nat → Nat) (z s e : Nat) : Prop := s < e ∧ e ≤ z ∧ (∀ j : Nat, s ≤ j → j < e → P (T j)) ∧ (e < z → ¬ P (T e))
def vl (T : Nat → Nat) (s : Nat) : Nat → Int
  | 0 => 0
  | i + 1 => vl T s i * 10 + ((T (s + i) : Int) - 48)
theorem vl_s (T : Nat → Nat) (s i : Nat) : vl T s (i + 1) = vl T s i * 10 + ((T (s + i) : Int) - 48) := rfl
def TK (T : Nat → Nat) (z i s e k : Nat) (v : Int) : Prop :=
  i ≤ s ∧ s ≤ z ∧ (∀ j : Nat, i ≤ j → j < s → T j = 32) ∧
  ((s = z ∧ e = z ∧ k = 0) ∨ (s < z ∧ ¬ T s = 32 ∧
    ((ltr (T s) ∧ k = 1 ∧ run ltr T z s e)
    ∨ (fgr (T s) ∧ run fgr T z s e ∧ ((e - s ≤ 3 ∧ k = 2 ∧ v = vl T s (e - s)) ∨ (3 < e - s ∧ k = 4)))
    ∨ (¬ ltr (T s) ∧ ¬ fgr (T s) ∧ e = s + 1 ∧ ((T s = 59 ∧ k = 3) ∨ (T s = 45 ∧ k = 5) ∨ (¬ T s = 59 ∧ ¬ T s = 45 ∧ k = 4))))))
theorem run_det {P : Nat → Prop} {T : Nat → Nat} {z s e e' : Nat} (h : run P T z s e) (h' : run P T z s e') : e = e' := by
  obtain ⟨h1, h2, h3, h4⟩ := h
  obtain ⟨g1, g2, g3, g4⟩ := h'
  by_cases c : e < e'
  · exact absurd (g3 e (by omega) c) (h4 (by omega))
  · by_cases c2 : e' < e
    · exact absurd (h3 e' (by omega) c2) (g4 (by omega))
    · omega
theorem ltr_fgr {b : Nat} (h : ltr b) (h' : fgr b) : False := by
  unfold ltr at h
  unfold fgr at h'
  omega
theorem TK_det {T : Nat → Nat} {z i s e k s' e' k' : Nat} {v v' : Int} (h : TK T z i s e k v) (h' : TK T z i s' e' k' v') : s = s' ∧ e = e' ∧ k = k' ∧ (k = 2 → v = v') := by
  obtain ⟨h1, h2, h3, h4⟩ := h
  obtain ⟨g1, g2, g3, g4⟩ := h'
  have es : s = s' := by
    by_cases c : s < s'
    · have b := g3 s h1 c
      rcases h4 with ⟨a, _⟩ | ⟨_, a, _⟩
      · omega
      · exact absurd b a
    · by_cases c2 : s' < s
      · have b := h3 s' g1 c2
        rcases g4 with ⟨a, _⟩ | ⟨_, a, _⟩
        · omega
        · exact absurd b a
      · omega
  subst es
  refine ⟨rfl, ?_⟩
  rcases h4 with ⟨a1, a2, a3⟩ | ⟨a1, a2, a3⟩
  · rcases g4 with ⟨b1, b2, b3⟩ | ⟨b1, b2, b3⟩
    · exact ⟨by omega, by omega, fun h => by omega⟩
    · omega
  · rcases g4 with ⟨b1, b2, b3⟩ | ⟨b1, b2, b3⟩
    · omega
    · rcases a3 with ⟨c1, c2, c3⟩ | ⟨c1, c3, c2⟩ | ⟨c1, c2, c3, c4⟩
      · rcases b3 with ⟨d1, d2, d3⟩ | ⟨d1, d3, d2⟩ | ⟨d1, d2, d3, d4⟩
        · exact ⟨run_det c3 d3, by omega, fun h => by omega⟩
        · exact absurd (ltr_fgr c1 d1) id
        · exact absurd c1 d1
      · rcases b3 with ⟨d1, d2, d3⟩ | ⟨d1, d3, d2⟩ | ⟨d1, d2, d3, d4⟩
        · exact absurd (ltr_fgr d1 c1) id
        · have ee := run_det c3 d3
          subst ee
          refine ⟨rfl, by omega, fun h => ?_⟩
          rcases c2 with ⟨_, _, x1⟩ | ⟨_, x⟩
          · rcases d2 with ⟨_, _, x2⟩ | ⟨_, x⟩
            · rw [x1, x2]
            · omega
          · omega
        · exact absurd c1 d2
      · rcases b3 with ⟨d1, d2, d3⟩ | ⟨d1, d3, d2⟩ | ⟨d1, d2, d3, d4⟩
        · exact absurd d1 c1
        · exact absurd d1 c2
        · exact ⟨by omega, by omega, fun h => by omega⟩
theorem un2 {f : Nat → Int32} {k j : Nat} {x z : Int32} (hn : ¬ j = k) (h : f j = z) : upd f k x j = z := (upd_ne hn).trans h
def ck (k : Nat) : Int := if k = 3 then 4 else if k = 4 then 5 else if k = 5 then 3 else k
def CRd (T : Nat → Nat) (z : Nat) (d : Dat) : Prop := d.1 1 = J z ∧ ∀ i : Nat, i < z → d.2 0 i = J (sx8 (T i))
def TB (T : Nat → Nat) (z : Nat) : Prop := z ≤ 250 ∧ ∀ i : Nat, i < z → T i < 256
theorem sx8_b {b : Nat} (h : b < 256) : -128 ≤ sx8 b ∧ sx8 b < 128 := by
  unfold sx8
  omega
theorem c_isLetter (k : Nat) {b : Nat} (h : b < 256) : fX2_isLetter k (J (sx8 b)) = some (if 97 ≤ b ∧ b ≤ 122 then 1 else 0) := by
  have hb := sx8_b h
  unfold fX2_isLetter
  have e1 : (J (sx8 b) < 97) = (sx8 b < 97) := by rw [J_lit, J_lt (by omega)]
  have e2 : (122 < J (sx8 b)) = (122 < sx8 b) := by rw [J_lit, J_lt (by omega)]
  simp only [e1, e2]
  unfold sx8
  by_cases q : 97 ≤ b ∧ b ≤ 122
  · rw [if_pos q, if_neg (by omega), if_neg (by omega)]
  · rw [if_neg q]
    by_cases q1 : (if b < 128 then (b : Int) else (b : Int) - 256) < 97
    · rw [if_pos q1]
    · rw [if_neg q1, if_pos (by omega)]
theorem c_isFigure (k : Nat) {b : Nat} (h : b < 256) : fX2_isFigure k (J (sx8 b)) = some (if 48 ≤ b ∧ b ≤ 57 then 1 else 0) := by
  have hb := sx8_b h
  unfold fX2_isFigure
  have e1 : (J (sx8 b) < 48) = (sx8 b < 48) := by rw [J_lit, J_lt (by omega)]
  have e2 : (57 < J (sx8 b)) = (57 < sx8 b) := by rw [J_lit, J_lt (by omega)]
  simp only [e1, e2]
  unfold sx8
  by_cases q : 48 ≤ b ∧ b ≤ 57
  · rw [if_pos q, if_neg (by omega), if_neg (by omega)]
  · rw [if_neg q]
    by_cases q1 : (if b < 128 then (b : Int) else (b : Int) - 256) < 48
    · rw [if_pos q1]
    · rw [if_neg q1, if_pos (by omega)]
theorem sx8_eq {b c : Nat} (h : b < 256) (hc : c < 128) : (J (sx8 b) = J (c : Int)) = (b = c) := by
  have hb := sx8_b h
  rw [J_eq (by omega)]
  unfold sx8
  exact propext ⟨fun h => by omega, fun h => by omega⟩
theorem c_takeWord (k : Nat) (hk : 1000 < k) {T : Nat → Nat} {z s : Nat} {d : Dat} (hT : TB T z) (hR : CRd T z d) (h2 : d.1 2 = J s) (hs : s < z) (hl : ltr (T s)) :
    ∃ d' e, fX2_takeWord k d = some d' ∧ run ltr T z s e ∧ d'.1 2 = J (e : Nat) ∧ d'.1 4 = J 1 ∧ ∀ q : Nat, ¬ q = 2 → ¬ q = 4 → d'.1 q = d.1 q := by
  obtain ⟨z250, hb⟩ := hT
  obtain ⟨r1, r2⟩ := hR
  unfold fX2_takeWord
  refine lp_for (fun (j : Nat) (v : Dat) => v.1 2 = J ((s + j : Nat) : Int) ∧ v.1 4 = J 1 ∧ (∀ q : Nat, ¬ q = 2 → ¬ q = 4 → v.1 q = d.1 q) ∧ s + j ≤ z ∧ ∀ i : Nat, s ≤ i → i < s + j → ltr (T i)) (z - s) (fun (o : Option Dat) => ∃ d' e, o = some d' ∧ run ltr T z s e ∧ d'.1 2 = J (e : Nat) ∧ d'.1 4 = J 1 ∧ ∀ q : Nat, ¬ q = 2 → ¬ q = 4 → d'.1 q = d.1 q) ?_ ?_ ?_ (by omega)
  rotate_left
  rotate_left
  · exact ⟨h2, rfl, fun q _ h4 => upd_ne h4, by omega, fun i h3 h4 => by omega⟩
  · intro j v hj ⟨v2, v4, vo, vz, vl'⟩
    have v1 : v.1 1 = J z := (vo 1 (by omega) (by omega)).trans r1
    have hq : (J (z : Int) ≤ J ((s + j : Nat) : Int)) = False := by rw [J_le (by omega)]; exact eq_false (by omega)
    have bt := hb (s + j) (by omega)
    have hl2 := c_isLetter k bt
    by_cases c : 97 ≤ T (s + j) ∧ T (s + j) ≤ 122
    · rw [if_pos c] at hl2
      left
      apply Exists.intro
      refine ⟨fun rec => ?_, ?_, ?_, fun q h2' h4 => ?_, by omega, fun i h3 h4 => ?_⟩
      · unfold fX2_takeWord_B5
        simp (disch := omega) only [v1, v2, hq, if_false, chk_J, J_nat, Int.toNat_natCast, r2 (s + j) (by omega), hl2, Option.bind_some, show ((1 : Int32) = 0) = False from by decide, J_suc]
        all_goals exact rfl
      · exact upd_same v.1 2 _
      · exact v4
      · exact (upd_ne h2').trans (vo q h2' h4)
      · by_cases e : i = s + j
        · rw [e]
          exact c
        · exact vl' i h3 (by omega)
    · rw [if_neg c] at hl2
      right
      intro rec
      have j0 : 0 < j := by
        by_cases e : j = 0
        · subst e
          exact absurd hl c
        · omega
      unfold fX2_takeWord_B5
      simp (disch := omega) only [v1, v2, hq, if_false, chk_J, J_nat, Int.toNat_natCast, r2 (s + j) (by omega), hl2, Option.bind_some, if_true]
      exact ⟨_, s + j, rfl, ⟨by omega, vz, vl', fun _ => c⟩, v2, v4, vo⟩
  · intro v ⟨v2, v4, vo, vz, vl'⟩ rec
    have v1 : v.1 1 = J z := (vo 1 (by omega) (by omega)).trans r1
    rw [show s + (z - s) = z from by omega] at v2 vl'
    have hq : (J (z : Int) ≤ J (z : Int)) = True := by rw [J_le (by omega)]; exact eq_true (by omega)
    unfold fX2_takeWord_B5
    simp only [v1, v2, hq, if_true]
    exact ⟨_, z, rfl, ⟨hs, Nat.le_refl z, vl', fun h => by omega⟩, v2, v4, vo⟩
theorem c_takeFigures (k : Nat) (hk : 1000 < k) {T : Nat → Nat} {z s : Nat} {d : Dat} (hT : TB T z) (hR : CRd T z d) (h2 : d.1 2 = J s) (h3 : d.1 3 = J s) (hs : s < z) (hl : fgr (T s)) :
    ∃ d' e, fX2_takeFigures k d = some d' ∧ run fgr T z s e ∧ d'.1 2 = J (e : Nat) ∧ ((e - s ≤ 3 ∧ d'.1 4 = J 2 ∧ d'.1 5 = J (vl T s (e - s))) ∨ (3 < e - s ∧ d'.1 4 = J 5)) ∧ ∀ q : Nat, ¬ q = 2 → ¬ q = 4 → ¬ q = 5 → d'.1 q = d.1 q := by
  obtain ⟨z250, hb⟩ := hT
  obtain ⟨r1, r2⟩ := hR
  unfold fX2_takeFigures
  have ends : ∀ (v : Dat) (e : Nat), v.1 2 = J (e : Nat) → v.1 3 = J s → (e - s ≤ 3 → v.1 5 = J (vl T s (e - s))) → (∀ q : Nat, ¬ q = 2 → ¬ q = 5 → v.1 q = d.1 q) → run fgr T z s e →
      ∃ d' e, (if 3 < v.1 2 - v.1 3 then some ((upd v.1 4 5, d.2) : Dat) else some (upd v.1 4 2, d.2)) = some d' ∧ run fgr T z s e ∧ d'.1 2 = J (e : Nat) ∧ ((e - s ≤ 3 ∧ d'.1 4 = J 2 ∧ d'.1 5 = J (vl T s (e - s))) ∨ (3 < e - s ∧ d'.1 4 = J 5)) ∧ ∀ q : Nat, ¬ q = 2 → ¬ q = 4 → ¬ q = 5 → d'.1 q = d.1 q := fun v e v2 v3 v5 vo hr => by
    have he := hr.2.1
    have hse := hr.1
    have hc : (3 < J (e : Int) - J (s : Int)) = (3 < e - s) := by
      rw [J_sub, J_lit, J_lt (by omega)]
      exact propext (by omega)
    rw [v2, v3]
    simp only [hc]
    by_cases c : 3 < e - s
    · rw [if_pos c]
      exact ⟨_, e, rfl, hr, v2, Or.inr ⟨c, rfl⟩, fun q a1 a2 a3 => (upd_ne a2).trans (vo q a1 a3)⟩
    · rw [if_neg c]
      exact ⟨_, e, rfl, hr, v2, Or.inl ⟨by omega, rfl, (v5 (by omega))⟩, fun q a1 a2 a3 => (upd_ne a2).trans (vo q a1 a3)⟩
  refine lp_for (fun (j : Nat) (v : Dat) => v.1 2 = J ((s + j : Nat) : Int) ∧ (j ≤ 3 → v.1 5 = J (vl T s j)) ∧ (∀ q : Nat, ¬ q = 2 → ¬ q = 5 → v.1 q = d.1 q) ∧ s + j ≤ z ∧ ∀ i : Nat, s ≤ i → i < s + j → fgr (T i)) (z - s) (fun (o : Option Dat) => ∃ d' e, o = some d' ∧ run fgr T z s e ∧ d'.1 2 = J (e : Nat) ∧ ((e - s ≤ 3 ∧ d'.1 4 = J 2 ∧ d'.1 5 = J (vl T s (e - s))) ∨ (3 < e - s ∧ d'.1 4 = J 5)) ∧ ∀ q : Nat, ¬ q = 2 → ¬ q = 4 → ¬ q = 5 → d'.1 q = d.1 q) ?_ ?_ ?_ (by omega)
  rotate_left
  rotate_left
  · exact ⟨h2, fun _ => rfl, fun q _ h4 => upd_ne h4, by omega, fun i h3 h4 => by omega⟩
  · intro j v hj ⟨v2, v5, vo, vz, vl'⟩
    have v1 : v.1 1 = J z := (vo 1 (by omega) (by omega)).trans r1
    have v3 : v.1 3 = J s := (vo 3 (by omega) (by omega)).trans h3
    have hq : (J (z : Int) ≤ J ((s + j : Nat) : Int)) = False := by rw [J_le (by omega)]; exact eq_false (by omega)
    have bt := hb (s + j) (by omega)
    have hl2 := c_isFigure k bt
    have hc : (3 ≤ J ((s + j : Nat) : Int) - J (s : Int)) = (3 ≤ j) := by
      rw [J_sub, J_lit, J_le (by omega)]
      exact propext (by omega)
    by_cases c : 48 ≤ T (s + j) ∧ T (s + j) ≤ 57
    · rw [if_pos c] at hl2
      left
      by_cases c3 : 3 ≤ j
      · apply Exists.intro
        refine ⟨fun rec => ?_, ?_, fun h => by omega, fun q h2' h4 => ?_, by omega, fun i h3 h4 => ?_⟩
        · unfold fX2_takeFigures_B5
          simp (disch := omega) only [v1, v2, v3, hq, if_false, chk_J, J_nat, Int.toNat_natCast, r2 (s + j) (by omega), hl2, Option.bind_some, show ((1 : Int32) = 0) = False from by decide, hc, eq_true c3, if_true, J_suc]
          all_goals exact rfl
        · exact upd_same v.1 2 _
        · exact (upd_ne h2').trans (vo q h2' h4)
        · by_cases e : i = s + j
          · rw [e]
            exact c
          · exact vl' i h3 (by omega)
      · have e5 := v5 (by omega)
        have es : sx8 (T (s + j)) = (T (s + j) : Int) := by
          unfold sx8
          omega
        apply Exists.intro
        refine ⟨fun rec => ?_, ?_, fun h => ?_, fun q h2' h4 => ?_, by omega, fun i h3 h4 => ?_⟩
        · unfold fX2_takeFigures_B5
          simp (disch := omega) only [v1, v2, v3, hq, if_false, chk_J, J_nat, Int.toNat_natCast, r2 (s + j) (by omega), hl2, Option.bind_some, show ((1 : Int32) = 0) = False from by decide, hc, eq_false c3, e5, J_suc]
          all_goals exact rfl
        · exact rfl
        · show J (vl T s j) * 10 + (J (sx8 (T (s + j))) - 48) = _
          rw [es, vl_s]
          simp only [J_lit, J_mul, J_sub, J_add]
        · exact (upd_ne h4).trans ((upd_ne h2').trans (vo q h2' h4))
        · by_cases e : i = s + j
          · rw [e]
            exact c
          · exact vl' i h3 (by omega)
    · rw [if_neg c] at hl2
      right
      intro rec
      have j0 : 0 < j := by
        by_cases e : j = 0
        · subst e
          exact absurd hl c
        · omega
      unfold fX2_takeFigures_B5
      simp (disch := omega) only [v1, v2, hq, if_false, chk_J, J_nat, Int.toNat_natCast, r2 (s + j) (by omega), hl2, Option.bind_some, if_true]
      have := ends v (s + j) v2 v3 (fun h => by rw [show s + j - s = j from by omega] at h ⊢; exact v5 h) vo ⟨by omega, vz, vl', fun _ => c⟩
      rw [v2] at this
      exact this
  · intro v ⟨v2, v5, vo, vz, vl'⟩ rec
    have v1 : v.1 1 = J z := (vo 1 (by omega) (by omega)).trans r1
    have v3 : v.1 3 = J s := (vo 3 (by omega) (by omega)).trans h3
    rw [show s + (z - s) = z from by omega] at v2 vl'
    have hq : (J (z : Int) ≤ J (z : Int)) = True := by rw [J_le (by omega)]; exact eq_true (by omega)
    unfold fX2_takeFigures_B5
    simp only [v1, v2, hq, if_true]
    have := ends v z v2 v3 (fun h => v5 h) vo ⟨hs, Nat.le_refl z, vl', fun h => by omega⟩
    rw [v2] at this
    exact this
def CTok (z : Nat) (d : Dat) (s e kk : Nat) (v : Int) : Prop := d.1 1 = J z ∧ d.1 2 = J e ∧ d.1 3 = J s ∧ d.1 4 = J (ck kk) ∧ (kk = 2 → d.1 5 = J v)
set_option maxHeartbeats 2000000 in
theorem c_takeToken (k : Nat) (hk : 1000 < k) {T : Nat → Nat} {z i : Nat} {d : Dat} (hT : TB T z) (hR : CRd T z d) (h2 : d.1 2 = J i) (hi : i ≤ z) :
    ∃ (d' : Dat) (s e kk : Nat) (v : Int), fX2_takeToken k d = some d' ∧ TK T z i s e kk v ∧ CTok z d' s e kk v := by
  obtain ⟨z250, hb⟩ := id hT
  obtain ⟨r1, r2⟩ := id hR
  have sk : ∃ w : Dat, (∀ K : Dat → Option Dat, lp (fX2_takeToken_B0 k d K) k d = K w) ∧ ∃ s : Nat, w.1 2 = J s ∧ (∀ q : Nat, ¬ q = 2 → w.1 q = d.1 q) ∧ w.2 = d.2 ∧ i ≤ s ∧ s ≤ z ∧ (∀ j : Nat, i ≤ j → j < s → T j = 32) ∧ (s < z → ¬ T s = 32) := by
    refine lp_forKE (B := fun K => fX2_takeToken_B0 k d K) (fun (j : Nat) (v : Dat) => v.1 2 = J ((i + j : Nat) : Int) ∧ (∀ q : Nat, ¬ q = 2 → v.1 q = d.1 q) ∧ ∀ t : Nat, i ≤ t → t < i + j → T t = 32) (z - i) _ ?_ ?_ ⟨h2, fun q _ => rfl, fun t a b => by omega⟩ (by omega)
    · intro j v hj ⟨v2, vo, vb⟩
      have v1 : v.1 1 = J z := (vo 1 (by omega)).trans r1
      have hq : (J (z : Int) ≤ J ((i + j : Nat) : Int)) = False := by rw [J_le (by omega)]; exact eq_false (by omega)
      have bt := hb (i + j) (by omega)
      have e32 : (J (sx8 (T (i + j))) = 32) = (T (i + j) = 32) := sx8_eq bt (c := 32) (by omega)
      by_cases c : T (i + j) = 32
      · left
        apply Exists.intro
        refine ⟨fun K rec => ?_, ?_, fun q h2' => ?_, fun t a b => ?_⟩
        · unfold fX2_takeToken_B0
          simp (disch := omega) only [v1, v2, hq, if_false, chk_J, J_nat, Int.toNat_natCast, r2 (i + j) (by omega), e32, eq_true c, if_true, J_suc]
          all_goals exact rfl
        · exact rfl
        · exact (upd_ne h2').trans (vo q h2')
        · by_cases et : t = i + j
          · rw [et]
            exact c
          · exact vb t a (by omega)
      · right
        refine ⟨(v.1, d.2), fun K rec => ?_, i + j, v2, vo, rfl, by omega, by omega, vb, fun _ => c⟩
        unfold fX2_takeToken_B0
        simp (disch := omega) only [v1, v2, hq, if_false, chk_J, J_nat, Int.toNat_natCast, r2 (i + j) (by omega), e32, eq_false c]
    · intro v ⟨v2, vo, vb⟩
      have v1 : v.1 1 = J z := (vo 1 (by omega)).trans r1
      rw [show i + (z - i) = z from by omega] at v2 vb
      have hq : (J (z : Int) ≤ J (z : Int)) = True := by rw [J_le (by omega)]; exact eq_true (by omega)
      refine ⟨(v.1, d.2), fun K rec => ?_, z, v2, vo, rfl, hi, Nat.le_refl z, vb, fun h => by omega⟩
      unfold fX2_takeToken_B0
      simp only [v1, v2, hq, if_true]
  obtain ⟨w, ew, s, w2, wo, wr, is', sz, sb, sn⟩ := sk
  have w1 : w.1 1 = J z := (wo 1 (by omega)).trans r1
  unfold fX2_takeToken
  rw [ew, w1, w2]
  by_cases c : s < z
  · have hq : (J (s : Int) < J (z : Int)) = True := by rw [J_lt (by omega)]; exact eq_true (by omega)
    have bt := hb s (by omega)
    have h32 := sn c
    have hl := c_isLetter k bt
    have hf := c_isFigure k bt
    simp (disch := omega) only [hq, if_true, chk_J, J_nat, Int.toNat_natCast, r2 s c, hl, hf, Option.bind_some, b_ite]
    have hR' : CRd T z (upd w.1 3 (J s), d.2) := ⟨w1, r2⟩
    by_cases l : 97 ≤ T s ∧ T s ≤ 122
    · rw [if_pos l]
      obtain ⟨d', e, e1, er, g2, g4, go⟩ := c_takeWord k hk (d := (upd w.1 3 (J s), d.2)) hT hR' w2 c l
      rw [e1]
      exact ⟨_, s, e, 1, 0, rfl, ⟨is', sz, sb, Or.inr ⟨c, h32, Or.inl ⟨l, rfl, er⟩⟩⟩, (go 1 (by omega) (by omega)).trans w1, g2, go 3 (by omega) (by omega), g4, fun h => by omega⟩
    · rw [if_neg l]
      by_cases f : 48 ≤ T s ∧ T s ≤ 57
      · rw [if_pos f]
        obtain ⟨d', e, e1, er, g2, g4, go⟩ := c_takeFigures k hk (d := (upd w.1 3 (J s), d.2)) hT hR' w2 rfl c f
        rw [e1]
        rcases g4 with ⟨a1, a2, a3⟩ | ⟨a1, a2⟩
        · exact ⟨_, s, e, 2, vl T s (e - s), rfl, ⟨is', sz, sb, Or.inr ⟨c, h32, Or.inr (Or.inl ⟨f, er, Or.inl ⟨a1, rfl, rfl⟩⟩)⟩⟩, (go 1 (by omega) (by omega) (by omega)).trans w1, g2, go 3 (by omega) (by omega) (by omega), a2, fun _ => a3⟩
        · exact ⟨_, s, e, 4, 0, rfl, ⟨is', sz, sb, Or.inr ⟨c, h32, Or.inr (Or.inl ⟨f, er, Or.inr ⟨a1, rfl⟩⟩)⟩⟩, (go 1 (by omega) (by omega) (by omega)).trans w1, g2, go 3 (by omega) (by omega) (by omega), a2, fun h => by omega⟩
      · rw [if_neg f]
        have e45 : (J (sx8 (T s)) = 45) = (T s = 45) := sx8_eq bt (c := 45) (by omega)
        have e59 : (J (sx8 (T s)) = 59) = (T s = 59) := sx8_eq bt (c := 59) (by omega)
        have u2 : upd w.1 3 (J s) 2 = J s := w2
        unfold fX2_takeSign
        simp (disch := omega) only [u2, chk_J, J_nat, Int.toNat_natCast, r2 s c, e45, e59, J_suc]
        by_cases c1 : T s = 45
        · rw [if_pos c1]
          exact ⟨_, s, s + 1, 5, 0, rfl, ⟨is', sz, sb, Or.inr ⟨c, h32, Or.inr (Or.inr ⟨l, f, rfl, Or.inr (Or.inl ⟨c1, rfl⟩)⟩)⟩⟩, w1, rfl, rfl, rfl, fun h => by omega⟩
        · rw [if_neg c1]
          by_cases c2 : T s = 59
          · rw [if_pos c2]
            exact ⟨_, s, s + 1, 3, 0, rfl, ⟨is', sz, sb, Or.inr ⟨c, h32, Or.inr (Or.inr ⟨l, f, rfl, Or.inl ⟨c2, rfl⟩⟩)⟩⟩, w1, rfl, rfl, rfl, fun h => by omega⟩
          · rw [if_neg c2]
            exact ⟨_, s, s + 1, 4, 0, rfl, ⟨is', sz, sb, Or.inr ⟨c, h32, Or.inr (Or.inr ⟨l, f, rfl, Or.inr (Or.inr ⟨c2, c1, rfl⟩)⟩)⟩⟩, w1, rfl, rfl, rfl, fun h => by omega⟩
  · have e : s = z := by omega
    subst e
    have hq : (J (s : Int) < J (s : Int)) = False := by rw [J_lt (by omega)]; exact eq_false (by omega)
    simp only [hq, if_false]
    exact ⟨_, s, s, 0, 0, rfl, ⟨is', sz, sb, Or.inl ⟨rfl, rfl, rfl⟩⟩, w1, w2, rfl, rfl, fun h => by omega⟩
def MRd (T : Nat → Nat) (z : Nat) (m : Dat) : Prop := m.1 16 = J z ∧ ∀ i : Nat, i < z → m.2 15 i = J (T i : Int)
def MTok (z : Nat) (m : Dat) (s e kk : Nat) (v : Int) : Prop := m.1 16 = J z ∧ m.1 17 = J s ∧ m.1 18 = J ((e - s : Nat) : Int) ∧ m.1 19 = J (kk : Int) ∧ (kk = 2 → m.1 20 = J v) ∧ s ≤ e ∧ e ≤ z
theorem m_isSmall (k : Nat) {b : Nat} (h : b < 256) : fX7_isSmall k (J (b : Int)) = some (if 97 ≤ b ∧ b ≤ 122 then 1 else 0) := by
  unfold fX7_isSmall
  rw [J_64 (by omega), show (97 : Int64) = K 97 from rfl, show (122 : Int64) = K 122 from rfl, m_in k ⟨by omega, by decide, by decide⟩]
  simp only [Option.bind_some, chb_b]
  by_cases q : 97 ≤ b ∧ b ≤ 122
  · rw [if_pos q, if_pos (by omega)]
  · rw [if_neg q, if_neg (by omega)]
theorem m_isFigure (k : Nat) {b : Nat} (h : b < 256) : fX7_isFigure k (J (b : Int)) = some (if 48 ≤ b ∧ b ≤ 57 then 1 else 0) := by
  unfold fX7_isFigure
  rw [J_64 (by omega), show (48 : Int64) = K 48 from rfl, show (57 : Int64) = K 57 from rfl, m_in k ⟨by omega, by decide, by decide⟩]
  simp only [Option.bind_some, chb_b]
  by_cases q : 48 ≤ b ∧ b ≤ 57
  · rw [if_pos q, if_pos (by omega)]
  · rw [if_neg q, if_neg (by omega)]
theorem J_nateq {a b : Nat} (h : a < 1000 ∧ b < 1000) : (J (a : Int) = J (b : Int)) = (a = b) := by
  rw [J_eq (by omega)]
  exact propext (by omega)
theorem m_run (k : Nat) (hk : 1000 < k) {T : Nat → Nat} {z s kd : Nat} {d X : Dat} (hT : TB T z) (hR : MRd T z d) (hkd : kd = 1 ∨ kd = 2) {P : Nat → Prop} (hP : P = if kd = 1 then ltr else fgr) (hs : s < z) (h0 : P (T s)) (x16 : X.1 16 = J z) (x17 : X.1 17 = J s) (x18 : X.1 18 = J 1) (x19 : X.1 19 = J (kd : Int)) :
    ∃ w : Dat, (∀ K : Dat → Option Dat, lp (fX7_look_B146 k d K) k (1, X) = K w) ∧ ∃ e : Nat, run P T z s e ∧ w.1 18 = J ((e - s : Nat) : Int) ∧ ∀ q : Nat, ¬ q = 18 → w.1 q = X.1 q := by
  obtain ⟨z250, hb⟩ := hT
  obtain ⟨r1, r2⟩ := hR
  refine lp_forKE (B := fun K => fX7_look_B146 k d K) (fun (j : Nat) (v : Int32 × Dat) => (∀ q : Nat, ¬ q = 18 → v.2.1 q = X.1 q) ∧ ((v.1 = 1 ∧ v.2.1 18 = J ((1 + j : Nat) : Int) ∧ s + 1 + j ≤ z ∧ ∀ i : Nat, s ≤ i → i < s + 1 + j → P (T i)) ∨ (v.1 = 0 ∧ ∃ e : Nat, run P T z s e ∧ v.2.1 18 = J ((e - s : Nat) : Int)))) (z - s) _ ?_ ?_ ⟨fun q _ => rfl, Or.inl ⟨rfl, x18, by omega, fun i a b => by
    have : i = s := by omega
    rw [this]
    exact h0⟩⟩ (by omega)
  · intro j v hj ⟨vo, hv⟩
    obtain ⟨c, w⟩ := v
    replace vo : ∀ q : Nat, ¬ q = 18 → w.1 q = X.1 q := vo
    have w16 := (vo 16 (by omega)).trans x16
    have w17 := (vo 17 (by omega)).trans x17
    have w19 := (vo 19 (by omega)).trans x19
    rcases hv with ⟨c1, w18, hz, hall⟩ | ⟨c0, e, er, w18⟩
    · have c1' : c = 1 := c1
      subst c1'
      replace w18 : w.1 18 = J ((1 + j : Nat) : Int) := w18
      have ea : J (s : Int) + J ((1 + j : Nat) : Int) = J ((s + 1 + j : Nat) : Int) := by rw [J_add]; congr 1; omega
      by_cases cz' : s + 1 + j < z
      · have hq : (J (z : Int) ≤ J ((s + 1 + j : Nat) : Int)) = False := by rw [J_le (by omega)]; exact eq_false (by omega)
        have bt := hb (s + 1 + j) cz'
        have e1 : (J (kd : Int) = 1) = (kd = 1) := J_nateq (b := 1) (by omega)
        have go : ∀ (r : Int32), (r = 0 ∨ r = 1) → (r = 1 ↔ P (T (s + 1 + j))) → (∀ rec K, fX7_look_B146 k d K rec (1, w) = (if r = 0 then rec (r, ((upd w.1 18 (w.1 18 + 0)), d.2)) else rec (r, ((upd w.1 18 (w.1 18 + 1)), d.2)))) → (∃ v1 : Int32 × Dat, (∀ (K : Dat → Option Dat) rec, fX7_look_B146 k d K rec (1, w) = rec v1) ∧ ((∀ q : Nat, ¬ q = 18 → v1.2.1 q = X.1 q) ∧ ((v1.1 = 1 ∧ v1.2.1 18 = J ((1 + (j + 1) : Nat) : Int) ∧ s + 1 + (j + 1) ≤ z ∧ ∀ i : Nat, s ≤ i → i < s + 1 + (j + 1) → P (T i)) ∨ (v1.1 = 0 ∧ ∃ e : Nat, run P T z s e ∧ v1.2.1 18 = J ((e - s : Nat) : Int))))) := fun r hr hrP hB => by
          rcases hr with h | h
          · subst h
            refine ⟨(0, ((upd w.1 18 (w.1 18 + 0)), d.2)), fun K rec => by rw [hB rec K, if_pos rfl], fun q hq' => (upd_ne hq').trans (vo q hq'), Or.inr ⟨rfl, s + 1 + j, ⟨by omega, by omega, hall, fun _ h => absurd (hrP.mpr h) (by decide)⟩, ?_⟩⟩
            show w.1 18 + 0 = _
            rw [w18, J_lit, J_add]
            congr 1
            omega
          · subst h
            refine ⟨(1, ((upd w.1 18 (w.1 18 + 1)), d.2)), fun K rec => by rw [hB rec K, if_neg (by decide)], fun q hq' => (upd_ne hq').trans (vo q hq'), Or.inl ⟨rfl, ?_, by omega, fun i a b => ?_⟩⟩
            · show w.1 18 + 1 = _
              rw [w18, J_suc]
              rfl
            · by_cases ei : i = s + 1 + j
              · rw [ei]
                exact hrP.mp rfl
              · exact hall i a (by omega)
        left
        rcases hkd with hk1 | hk2
        · subst hk1
          refine go (if 97 ≤ T (s + 1 + j) ∧ T (s + 1 + j) ≤ 122 then 1 else 0) (by split <;> simp) ?_ (fun rec K => ?_)
          · rw [hP, if_pos (show (1 : Nat) = 1 from rfl)]
            unfold ltr
            by_cases q : 97 ≤ T (s + 1 + j) ∧ T (s + 1 + j) ≤ 122
            · rw [if_pos q]
              exact ⟨fun _ => q, fun _ => rfl⟩
            · rw [if_neg q]
              exact ⟨fun h => absurd h (by decide), fun h => absurd h q⟩
          · unfold fX7_look_B146
            simp (disch := omega) only [show ((1 : Int32) = 0) = False from by decide, w16, w17, w18, w19, ea, hq, if_false, e1, if_true, chk_J, J_nat, Int.toNat_natCast, r2 (s + 1 + j) cz', m_isSmall k bt, Option.bind_some]
        · subst hk2
          refine go (if 48 ≤ T (s + 1 + j) ∧ T (s + 1 + j) ≤ 57 then 1 else 0) (by split <;> simp) ?_ (fun rec K => ?_)
          · rw [hP, if_neg (show ¬ (2 : Nat) = 1 by decide)]
            unfold fgr
            by_cases q : 48 ≤ T (s + 1 + j) ∧ T (s + 1 + j) ≤ 57
            · rw [if_pos q]
              exact ⟨fun _ => q, fun _ => rfl⟩
            · rw [if_neg q]
              exact ⟨fun h => absurd h (by decide), fun h => absurd h q⟩
          · unfold fX7_look_B146
            simp (disch := omega) only [show ((1 : Int32) = 0) = False from by decide, show ((2 : Nat) = 1) = False from by decide, w16, w17, w18, w19, ea, hq, if_false, e1, if_true, chk_J, J_nat, Int.toNat_natCast, r2 (s + 1 + j) cz', m_isFigure k bt, Option.bind_some]
      · right
        have hq : (J (z : Int) ≤ J ((s + 1 + j : Nat) : Int)) = True := by rw [J_le (by omega)]; exact eq_true (by omega)
        refine ⟨(w.1, d.2), fun K rec => ?_, s + 1 + j, ⟨by omega, hz, hall, fun h => absurd h cz'⟩, ?_, vo⟩
        · show fX7_look_B146 k d K rec (1, w) = _
          unfold fX7_look_B146
          simp only [show ((1 : Int32) = 0) = False from by decide, w16, w17, w18, ea, hq, if_false, if_true]
        · show w.1 18 = _
          rw [w18]
          congr 1
          omega
    · have c0' : c = 0 := c0
      subst c0'
      right
      refine ⟨(w.1, d.2), fun K rec => ?_, e, er, w18, vo⟩
      show fX7_look_B146 k d K rec (0, w) = _
      unfold fX7_look_B146
      simp only [if_true]
  · intro v ⟨vo, hv⟩
    obtain ⟨c, w⟩ := v
    replace vo : ∀ q : Nat, ¬ q = 18 → w.1 q = X.1 q := vo
    rcases hv with ⟨c1, w18, hz, hall⟩ | ⟨c0, e, er, w18⟩
    · omega
    · have c0' : c = 0 := c0
      subst c0'
      refine ⟨(w.1, d.2), fun K rec => ?_, e, er, w18, vo⟩
      show fX7_look_B146 k d K rec (0, w) = _
      unfold fX7_look_B146
      simp only [if_true]
theorem m_value (k : Nat) (hk : 1000 < k) {T : Nat → Nat} {z s e : Nat} {d X : Dat} (hT : TB T z) (hR : MRd T z d) (hse : s < e) (hez : e ≤ z) (x17 : X.1 17 = J s) (x18 : X.1 18 = J ((e - s : Nat) : Int)) (x19 : X.1 19 = J 2) (x20 : X.1 20 = J 0) :
    ∃ w : Dat, (∀ K : Dat → Option Dat, lp (fX7_look_B228 k d K) k (0, X) = K w) ∧ (e - s ≤ 3 → w.1 20 = J (vl T s (e - s))) ∧ ∀ q : Nat, ¬ q = 20 → w.1 q = X.1 q := by
  obtain ⟨z250, hb⟩ := hT
  obtain ⟨r1, r2⟩ := hR
  refine lp_forK (B := fun K => fX7_look_B228 k d K) (fun (j : Nat) (v : Int32 × Dat) => v.1 = J (j : Int) ∧ v.2.1 20 = J (vl T s j) ∧ ∀ q : Nat, ¬ q = 20 → v.2.1 q = X.1 q) (min (e - s) 3) _ ?_ ?_ ⟨rfl, x20, fun q _ => rfl⟩ (by omega)
  · intro j v hj ⟨hv, v20, vo⟩
    obtain ⟨y, w⟩ := v
    have hy : y = J (j : Int) := hv
    subst hy
    replace v20 : w.1 20 = J (vl T s j) := v20
    replace vo : ∀ q : Nat, ¬ q = 20 → w.1 q = X.1 q := vo
    have w17 := (vo 17 (by omega)).trans x17
    have w18 := (vo 18 (by omega)).trans x18
    have w19 := (vo 19 (by omega)).trans x19
    have q1 : (J ((e - s : Nat) : Int) ≤ J (j : Int)) = False := by rw [J_le (by omega)]; exact eq_false (by omega)
    have q2 : (3 ≤ J (j : Int)) = False := by rw [J_lit, J_le (by omega)]; exact eq_false (by omega)
    have q3 : (J 2 = 2) = True := eq_true rfl
    have ea : J (s : Int) + J (j : Int) = J ((s + j : Nat) : Int) := by rw [J_add]; rfl
    apply Exists.intro
    refine ⟨fun K rec => ?_, ?_, ?_, fun q hq => ?_⟩
    · unfold fX7_look_B228
      simp (disch := omega) only [w17, w18, w19, v20, q1, q2, q3, if_false, if_true, ea, chk_J, J_nat, Int.toNat_natCast, r2 (s + j) (by omega), J_suc]
      all_goals exact rfl
    · rfl
    · show 10 * J (vl T s j) + J (T (s + j) : Int) - 48 = _
      rw [vl_s]
      simp only [J_lit, J_mul, J_add, J_sub]
      congr 1
      omega
    · exact (upd_ne hq).trans (vo q hq)
  · intro v ⟨hv, v20, vo⟩
    obtain ⟨y, w⟩ := v
    have hy : y = J ((min (e - s) 3 : Nat) : Int) := hv
    subst hy
    replace v20 : w.1 20 = J (vl T s (min (e - s) 3)) := v20
    replace vo : ∀ q : Nat, ¬ q = 20 → w.1 q = X.1 q := vo
    have w18 := (vo 18 (by omega)).trans x18
    refine ⟨(w.1, d.2), fun K rec => ?_, fun h => ?_, vo⟩
    · unfold fX7_look_B228
      simp only [w18]
      by_cases c : e - s ≤ 3
      · rw [if_pos (by rw [J_le (by omega)]; omega)]
      · rw [if_neg (by rw [J_le (by omega)]; omega), if_pos (by rw [J_lit, J_le (by omega)]; omega)]
    · show w.1 20 = _
      rw [v20, show min (e - s) 3 = e - s from by omega]
theorem m_novalue (k : Nat) (hk : 1000 < k) {d X : Dat} {n : Nat} {z19 : Int32} (hn : 1 ≤ n ∧ n ≤ 250) (x18 : X.1 18 = J (n : Int)) (x19 : X.1 19 = z19) (h2 : ¬ z19 = 2) (K : Dat → Option Dat) : lp (fX7_look_B228 k d K) k (0, X) = K (X.1, d.2) := by
  obtain ⟨k', rfl⟩ : ∃ k' : Nat, k = k' + 1 := ⟨k - 1, by omega⟩
  show fX7_look_B228 (k' + 1) d K (lp (fX7_look_B228 (k' + 1) d K) k') (0, X) = _
  unfold fX7_look_B228
  simp only [x18, x19]
  rw [if_neg (by rw [J_lit, J_le (by omega)]; omega), if_neg (by decide), if_neg h2]
theorem m_norun (k : Nat) (hk : 1000 < k) {d X : Dat} (K : Dat → Option Dat) : lp (fX7_look_B146 k d K) k (0, X) = K (X.1, d.2) := by
  obtain ⟨k', rfl⟩ : ∃ k' : Nat, k = k' + 1 := ⟨k - 1, by omega⟩
  show fX7_look_B146 (k' + 1) d K (lp (fX7_look_B146 (k' + 1) d K) k') (0, X) = _
  unfold fX7_look_B146
  rw [if_pos rfl]
def LQ (T : Nat → Nat) (z i : Nat) (m : Dat) (o : Option Dat) : Prop :=
  ∃ (m' : Dat) (s e kk : Nat) (v : Int), o = some m' ∧ TK T z i s e kk v ∧ MTok z m' s e kk v ∧ ∀ q : Nat, ¬ q = 17 → ¬ q = 18 → ¬ q = 19 → ¬ q = 20 → m'.1 q = m.1 q
set_option maxHeartbeats 4000000 in
theorem m_look (k : Nat) (hk : 1000 < k) {T : Nat → Nat} {z i : Nat} {m : Dat} (hT : TB T z) (hR : MRd T z m) (hi : i ≤ z) : LQ T z i m (fX7_look k m (J (i : Int))) := by
  obtain ⟨z250, hb⟩ := id hT
  obtain ⟨r1, r2⟩ := id hR
  have sk : ∃ w : Dat, (∀ K : Dat → Option Dat, lp (fX7_look_B5 k (upd m.1 17 (J (i : Int)), m.2) K) k (upd m.1 17 (J (i : Int)), m.2) = K w) ∧ ∃ s : Nat, w.1 17 = J s ∧ (∀ q : Nat, ¬ q = 17 → w.1 q = m.1 q) ∧ i ≤ s ∧ s ≤ z ∧ (∀ j : Nat, i ≤ j → j < s → T j = 32) ∧ (s < z → ¬ T s = 32) := by
    refine lp_forKE (B := fun K => fX7_look_B5 k (upd m.1 17 (J (i : Int)), m.2) K) (fun (j : Nat) (v : Dat) => v.1 17 = J ((i + j : Nat) : Int) ∧ (∀ q : Nat, ¬ q = 17 → v.1 q = m.1 q) ∧ ∀ t : Nat, i ≤ t → t < i + j → T t = 32) (z - i) _ ?_ ?_ ⟨rfl, fun q hq => upd_ne hq, fun t a b => by omega⟩ (by omega)
    · intro j v hj ⟨v2, vo, vb⟩
      have v1 : v.1 16 = J z := (vo 16 (by omega)).trans r1
      have hq : (J (z : Int) ≤ J ((i + j : Nat) : Int)) = False := by rw [J_le (by omega)]; exact eq_false (by omega)
      have bt := hb (i + j) (by omega)
      have e32 : (J (T (i + j) : Int) = 32) = (T (i + j) = 32) := J_nateq (b := 32) (by omega)
      by_cases c : T (i + j) = 32
      · left
        apply Exists.intro
        refine ⟨fun K rec => ?_, ?_, fun q h2' => ?_, fun t a b => ?_⟩
        · unfold fX7_look_B5
          simp (disch := omega) only [v1, v2, hq, if_false, chk_J, J_nat, Int.toNat_natCast, r2 (i + j) (by omega), e32, eq_true c, if_true, J_suc]
          all_goals exact rfl
        · exact rfl
        · exact (upd_ne h2').trans (vo q h2')
        · by_cases et : t = i + j
          · rw [et]
            exact c
          · exact vb t a (by omega)
      · right
        refine ⟨(v.1, m.2), fun K rec => ?_, i + j, v2, vo, by omega, by omega, vb, fun _ => c⟩
        unfold fX7_look_B5
        simp (disch := omega) only [v1, v2, hq, if_false, chk_J, J_nat, Int.toNat_natCast, r2 (i + j) (by omega), e32, eq_false c]
    · intro v ⟨v2, vo, vb⟩
      have v1 : v.1 16 = J z := (vo 16 (by omega)).trans r1
      rw [show i + (z - i) = z from by omega] at v2 vb
      have hq : (J (z : Int) ≤ J (z : Int)) = True := by rw [J_le (by omega)]; exact eq_true (by omega)
      refine ⟨(v.1, m.2), fun K rec => ?_, z, v2, vo, hi, Nat.le_refl z, vb, fun h => by omega⟩
      unfold fX7_look_B5
      simp only [v1, v2, hq, if_true]
  obtain ⟨w, ew, s, w2, wo, is', sz, sb, sn⟩ := sk
  have w1 : w.1 16 = J z := (wo 16 (by omega)).trans r1
  unfold fX7_look
  rw [ew, w1, w2]
  by_cases c : s < z
  · have hq : (J (s : Int) = J (z : Int)) = False := by rw [J_nateq (by omega)]; exact eq_false (by omega)
    have bt := hb s (by omega)
    have h32 := sn c
    have hl := m_isSmall k bt
    have hf := m_isFigure k bt
    rw [if_neg (fun h => by rw [hq] at h; exact h), chk_J (by omega), J_natn (by omega), r2 s c, hl, Option.bind_some, b_ite, hf, Option.bind_some, b_ite]
    have X17 : ∀ x y u : Int32, (upd (upd (upd w.1 18 x) 19 y) 20 u) 17 = J s := fun x y u => w2
    have X16 : ∀ x y u : Int32, (upd (upd (upd w.1 18 x) 19 y) 20 u) 16 = J z := fun x y u => w1
    have Xo : ∀ (x y u : Int32) (q : Nat), ¬ q = 17 → ¬ q = 18 → ¬ q = 19 → ¬ q = 20 → (upd (upd (upd w.1 18 x) 19 y) 20 u) q = m.1 q := fun x y u q a b c' d => by rw [upd_ne d, upd_ne c', upd_ne b]; exact wo q a
    have sign : ∀ (kd : Nat) (Z : Int32), Z = J (kd : Int) → (kd = 3 ∨ kd = 4 ∨ kd = 5) → TK T z i s (s + 1) kd 0 → LQ T z i m (lp (fX7_look_B146 k ((upd (upd (upd w.1 18 1) 19 Z) 20 0), m.2) (fun (w46 : Dat) => lp (fX7_look_B228 k (w46.1, m.2) (fun (w47 : Dat) => (if (w47.1 19) = 2 then (if (w47.1 18) ≤ 3 then some ((upd w47.1 19 (w47.1 19)), m.2) else some ((upd w47.1 19 4), m.2)) else some ((upd w47.1 19 (w47.1 19)), m.2)))) k (0, (w46.1, m.2)))) k (0, ((upd (upd (upd w.1 18 1) 19 Z) 20 0), m.2))) := fun kd Z hZ hkd htk => by
      have Zn : ¬ Z = 2 := by
        rw [hZ, show (2 : Int32) = J ((2 : Nat) : Int) from rfl, J_nateq (by omega)]
        omega
      rw [m_norun k hk, m_novalue k hk (n := 1) (z19 := Z) (by omega) rfl rfl Zn]
      have z19 : (upd (upd (upd w.1 18 1) 19 Z) 20 0) 19 = Z := rfl
      simp only [z19]
      rw [if_neg Zn]
      refine ⟨_, s, s + 1, kd, 0, rfl, htk, ⟨?_, ?_, ?_, ?_, fun h => by omega, by omega, by omega⟩, fun q a b c' d => ?_⟩
      · exact w1
      · exact w2
      · rw [show s + 1 - s = 1 from by omega]
        rfl
      · rw [← hZ]
        rfl
      · exact (upd_ne c').trans (Xo 1 Z 0 q a b c' d)
    by_cases l : 97 ≤ T s ∧ T s ≤ 122
    · rw [if_pos l, if_neg (show ¬ (3 : Int32) ≤ 1 from by decide)]
      obtain ⟨u, eu, e, er, u18, uo⟩ := m_run k hk (d := ((upd (upd (upd w.1 18 1) 19 1) 20 0), m.2)) (X := ((upd (upd (upd w.1 18 1) 19 1) 20 0), m.2)) (kd := 1) (P := ltr) hT ⟨w1, r2⟩ (Or.inl rfl) (if_pos rfl).symm c l (X16 1 1 0) (X17 1 1 0) rfl rfl
      rw [eu]
      have u19 : u.1 19 = 1 := (uo 19 (by omega)).trans rfl
      have hse := er.1
      have hez := er.2.1
      rw [m_novalue k hk (X := (u.1, m.2)) (n := e - s) (z19 := 1) (by omega) u18 u19 (by decide)]
      simp only [u19]
      rw [if_neg (by decide)]
      refine ⟨_, s, e, 1, 0, rfl, ⟨is', sz, sb, Or.inr ⟨c, h32, Or.inl ⟨l, rfl, er⟩⟩⟩, ⟨?_, ?_, ?_, rfl, fun h => by omega, by omega, by omega⟩, fun q a b c' d => ?_⟩
      · exact (uo 16 (by omega)).trans w1
      · exact (uo 17 (by omega)).trans w2
      · exact u18
      · exact (upd_ne c').trans ((uo q b).trans (Xo 1 1 0 q a b c' d))
    · rw [if_neg l]
      by_cases f : 48 ≤ T s ∧ T s ≤ 57
      · rw [if_pos f, if_neg (show ¬ (3 : Int32) ≤ 2 from by decide)]
        obtain ⟨u, eu, e, er, u18, uo⟩ := m_run k hk (d := ((upd (upd (upd w.1 18 1) 19 2) 20 0), m.2)) (X := ((upd (upd (upd w.1 18 1) 19 2) 20 0), m.2)) (kd := 2) (P := fgr) hT ⟨w1, r2⟩ (Or.inr rfl) (if_neg (by decide)).symm c f (X16 1 2 0) (X17 1 2 0) rfl rfl
        rw [eu]
        have u19 : u.1 19 = J 2 := (uo 19 (by omega)).trans rfl
        have u20 : u.1 20 = J 0 := (uo 20 (by omega)).trans rfl
        have u17 : u.1 17 = J s := (uo 17 (by omega)).trans w2
        have u16 : u.1 16 = J z := (uo 16 (by omega)).trans w1
        have hse := er.1
        have hez := er.2.1
        obtain ⟨x, ex, x20, xo⟩ := m_value k hk (d := (u.1, m.2)) (X := (u.1, m.2)) hT ⟨u16, r2⟩ hse hez u17 u18 u19 u20
        rw [ex]
        have x19 : x.1 19 = 2 := (xo 19 (by omega)).trans u19
        have x18 : x.1 18 = J ((e - s : Nat) : Int) := (xo 18 (by omega)).trans u18
        have x17 : x.1 17 = J s := (xo 17 (by omega)).trans u17
        have x16 : x.1 16 = J z := (xo 16 (by omega)).trans u16
        have xq : ∀ q : Nat, ¬ q = 17 → ¬ q = 18 → ¬ q = 19 → ¬ q = 20 → x.1 q = m.1 q := fun q a b c' d => (xo q d).trans ((uo q b).trans (Xo 1 2 0 q a b c' d))
        have h3 : (J ((e - s : Nat) : Int) ≤ 3) = (e - s ≤ 3) := by rw [J_lit, J_le (by omega)]; exact propext (by omega)
        simp only [x19, x18, if_true, h3]
        by_cases c3 : e - s ≤ 3
        · rw [if_pos c3]
          refine ⟨_, s, e, 2, vl T s (e - s), rfl, ⟨is', sz, sb, Or.inr ⟨c, h32, Or.inr (Or.inl ⟨f, er, Or.inl ⟨c3, rfl, rfl⟩⟩)⟩⟩, ⟨x16, x17, x18, rfl, fun _ => x20 c3, by omega, by omega⟩, fun q a b c' d => (upd_ne c').trans (xq q a b c' d)⟩
        · rw [if_neg c3]
          refine ⟨_, s, e, 4, 0, rfl, ⟨is', sz, sb, Or.inr ⟨c, h32, Or.inr (Or.inl ⟨f, er, Or.inr ⟨by omega, rfl⟩⟩)⟩⟩, ⟨x16, x17, x18, rfl, fun h => by omega, by omega, by omega⟩, fun q a b c' d => (upd_ne c').trans (xq q a b c' d)⟩
      · rw [if_neg f]
        have e45 : (J (T s : Int) = 45) = (T s = 45) := J_nateq (b := 45) (by omega)
        have e59 : (J (T s : Int) = 59) = (T s = 59) := J_nateq (b := 59) (by omega)
        simp only [e45, e59]
        by_cases c2 : T s = 59
        · rw [if_pos c2, if_pos (show (3 : Int32) ≤ 3 from by decide)]
          exact sign 3 3 rfl (by omega) ⟨is', sz, sb, Or.inr ⟨c, h32, Or.inr (Or.inr ⟨l, f, rfl, Or.inl ⟨c2, rfl⟩⟩)⟩⟩
        · rw [if_neg c2]
          by_cases c1 : T s = 45
          · rw [if_pos c1, if_pos (show (3 : Int32) ≤ 5 from by decide)]
            exact sign 5 5 rfl (by omega) ⟨is', sz, sb, Or.inr ⟨c, h32, Or.inr (Or.inr ⟨l, f, rfl, Or.inr (Or.inl ⟨c1, rfl⟩)⟩)⟩⟩
          · rw [if_neg c1, if_pos (show (3 : Int32) ≤ 4 from by decide)]
            exact sign 4 4 rfl (by omega) ⟨is', sz, sb, Or.inr ⟨c, h32, Or.inr (Or.inr ⟨l, f, rfl, Or.inr (Or.inr ⟨c2, c1, rfl⟩)⟩)⟩⟩
  · have e : s = z := by omega
    subst e
    rw [if_pos rfl]
    refine ⟨_, s, s, 0, 0, rfl, ⟨is', sz, sb, Or.inl ⟨rfl, rfl, rfl⟩⟩, ⟨w1, w2, ?_, rfl, fun h => by omega, by omega, by omega⟩, fun q a b c' d => ?_⟩
    · rw [Nat.sub_self]
      rfl
    · show upd (upd (upd w.1 18 0) 19 0) 20 0 q = _
      rw [upd_ne d, upd_ne c', upd_ne b]
      exact wo q a
theorem vl_b {T : Nat → Nat} {s n : Nat} (h : ∀ j : Nat, s ≤ j → j < s + n → fgr (T j)) (hn : n ≤ 3) : 0 ≤ vl T s n ∧ vl T s n ≤ 999 := by
  unfold fgr at h
  match n, hn with
  | 0, _ => exact ⟨Int.le_refl 0, show (0 : Int) ≤ 999 by decide⟩
  | 1, _ =>
    have a := h s (by omega) (by omega)
    simp only [vl, Nat.add_zero]
    omega
  | 2, _ =>
    have a := h s (by omega) (by omega)
    have b := h (s + 1) (by omega) (by omega)
    simp only [vl, Nat.add_zero]
    omega
  | 3, _ =>
    have a := h s (by omega) (by omega)
    have b := h (s + 1) (by omega) (by omega)
    have c := h (s + 2) (by omega) (by omega)
    simp only [vl, Nat.add_zero]
    omega
theorem TK_f {T : Nat → Nat} {z i s e k : Nat} {v : Int} (h : TK T z i s e k v) : (i ≤ s ∧ s ≤ e ∧ e ≤ z ∧ k ≤ 5) ∧ (k = 2 → 0 ≤ v ∧ v ≤ 999) ∧ (¬ k = 0 → s < e) ∧ (k = 1 → run ltr T z s e) := by
  obtain ⟨h1, h2, h3, h4⟩ := h
  rcases h4 with ⟨a1, a2, a3⟩ | ⟨a1, a2, ⟨c1, c2, c3⟩ | ⟨c1, c3, c2⟩ | ⟨c1, c2, c3, c4⟩⟩
  · exact ⟨by omega, fun h => by omega, fun h => by omega, fun h => by omega⟩
  · have := c3.1
    have := c3.2.1
    exact ⟨by omega, fun h => by omega, fun h => by omega, fun _ => c3⟩
  · have := c3.1
    have := c3.2.1
    refine ⟨by omega, fun h => ?_, fun h => by omega, fun h => by omega⟩
    rcases c2 with ⟨x1, x2, x3⟩ | ⟨x1, x2⟩
    · rw [x3]
      exact vl_b (fun j a b => c3.2.2.1 j a (by omega)) x1
    · omega
  · exact ⟨by omega, fun h => by omega, fun h => by omega, fun h => by omega⟩
def AL (T : Nat → Nat) (z i : Nat) (d m : Dat) : Prop :=
  CRd T z d ∧ MRd T z m ∧ d.1 2 = J (i : Nat) ∧ i ≤ z ∧ ∃ (s e kk : Nat) (v : Int), TK T z i s e kk v ∧ MTok z m s e kk v
def CUR (T : Nat → Nat) (z : Nat) (d m : Dat) (i s e kk : Nat) (v : Int) : Prop :=
  CRd T z d ∧ MRd T z m ∧ CTok z d s e kk v ∧ MTok z m s e kk v ∧ TK T z i s e kk v
def FR (f g : Nat → Int32) : Prop := ∀ q : Nat, ¬ q = 17 → ¬ q = 18 → ¬ q = 19 → ¬ q = 20 → ¬ q = 22 → f q = g q
theorem FR.tr {f g h : Nat → Int32} (a : FR f g) (b : FR g h) : FR f h := fun q h1 h2 h3 h4 h5 => (a q h1 h2 h3 h4 h5).trans (b q h1 h2 h3 h4 h5)
theorem FR.rf (f : Nat → Int32) : FR f f := fun q _ _ _ _ _ => rfl
theorem al_tok (k : Nat) (hk : 1000 < k) {T : Nat → Nat} {z i : Nat} {d m : Dat} (hT : TB T z) (h : AL T z i d m) : ∃ (d' : Dat) (s e kk : Nat) (v : Int), fX2_takeToken k d = some d' ∧ CUR T z (d'.1, d.2) m i s e kk v := by
  obtain ⟨hC, hM, h2, hi, s, e, kk, v, tk, mt⟩ := h
  obtain ⟨d', s', e', kk', v', e1, tk', ct⟩ := c_takeToken k hk hT hC h2 hi
  obtain ⟨es, ee, ek, ev⟩ := TK_det tk tk'
  subst es
  subst ee
  subst ek
  obtain ⟨x1, x2, x3, x4, x5⟩ := ct
  refine ⟨d', s, e, kk, v, e1, ⟨x1, hC.2⟩, hM, ⟨x1, x2, x3, x4, fun h => ?_⟩, mt, tk⟩
  rw [ev h]
  exact x5 h
theorem cur_go (k : Nat) (hk : 1000 < k) {T : Nat → Nat} {z i s e kk : Nat} {v : Int} {d m : Dat} (hT : TB T z) (h : CUR T z d m i s e kk v) : ∃ m' : Nat → Int32, fX7_goOn k m = some (m', m.2) ∧ AL T z e d (m', m.2) ∧ FR m' m.1 := by
  obtain ⟨hC, hM, ct, mt, tk⟩ := h
  obtain ⟨⟨f1, f2, f3, f4⟩, _⟩ := TK_f tk
  obtain ⟨y16, y17, y18, y19, y20, _, _⟩ := id mt
  unfold fX7_goOn
  have ea : m.1 17 + m.1 18 = J (e : Int) := by
    rw [y17, y18, J_add]
    congr 1
    omega
  rw [ea]
  obtain ⟨m', s', e', kk', v', e1, tk', mt', fo⟩ := m_look k hk hT hM f3
  rw [e1]
  exact ⟨m'.1, rfl, ⟨hC, ⟨mt'.1, hM.2⟩, ct.2.1, f3, s', e', kk', v', tk', mt'⟩, fun q h1 h2 h3 h4 _ => fo q h1 h2 h3 h4⟩
theorem MTok.up {z : Nat} {m : Dat} {s e kk : Nat} {v : Int} (h : MTok z m s e kk v) (x : Int32) : MTok z (upd m.1 22 x, m.2) s e kk v := h
theorem cur_num (k : Nat) (hk : 1000 < k) {T : Nat → Nat} {z i s e kk : Nat} {v : Int} {d m : Dat} (hT : TB T z) (h : CUR T z d m i s e kk v) (xl xh : Int32) (lo hi : Int) (hl : xl = J lo) (hh : xh = J hi) (hr : -1000 ≤ lo ∧ lo ≤ 1000 ∧ -1000 ≤ hi ∧ hi ≤ 1000) :
    (∃ m' : Nat → Int32, fX2_isNumber k d xl xh = some 1 ∧ fX7_takes k m xl xh = some (1, (m', m.2)) ∧ (d.1 5 = J v ∧ m' 22 = J v) ∧ (lo ≤ v ∧ v ≤ hi) ∧ AL T z e d (m', m.2) ∧ FR m' m.1 ∧ (m.1 19 = 2 ∧ m.1 20 = J v)) ∨
    (fX2_isNumber k d xl xh = some 0 ∧ fX7_takes k m xl xh = some (0, m) ∧ d.1 3 = m.1 17) := by
  obtain ⟨hC, hM, ct, mt, tk⟩ := id h
  obtain ⟨⟨f1, f2, f3, f4⟩, fv, _⟩ := TK_f tk
  obtain ⟨y16, y17, y18, y19, y20, _, _⟩ := id mt
  obtain ⟨x1, x2, x3, x4, x5⟩ := id ct
  subst hl
  subst hh
  unfold fX2_isNumber fX7_takes
  by_cases c2 : kk = 2
  · subst c2
    have v1 := x5 rfl
    have v2 := y20 rfl
    have vb := fv rfl
    rw [if_pos (show d.1 4 = 2 from x4), if_pos (show m.1 19 = 2 from y19), v1, v2, c_isWithin k ⟨by omega, by omega, by omega⟩, J_64 (by omega), J_64 (by omega), J_64 (by omega), m_in k ⟨by omega, by omega, by omega⟩, Option.bind_some, Option.bind_some, b_ite, b_ite]
    by_cases c : lo ≤ v ∧ v ≤ hi
    · left
      rw [if_pos c, if_pos c]
      obtain ⟨m', e1, al, fr⟩ := cur_go k hk (d := d) (m := (upd m.1 22 (J v), m.2)) hT ⟨hC, ⟨hM.1, hM.2⟩, ct, mt.up _, tk⟩
      rw [e1]
      have m22 : m' 22 = J v := by
        have := e1
        unfold fX7_goOn at this
        obtain ⟨m2, s', e', kk', v', e2, tk', mt', fo⟩ := m_look k hk (m := (upd m.1 22 (J v), m.2)) hT ⟨hM.1, hM.2⟩ f3
        have ea : (upd m.1 22 (J v)) 17 + (upd m.1 22 (J v)) 18 = J (e : Int) := by
          show m.1 17 + m.1 18 = _
          rw [y17, y18, J_add]
          congr 1
          omega
        simp only [ea, e2, Option.bind_some] at this
        have e3 := congrArg (fun o : Option Dat => match o with | some q => q.1 22 | none => 0) this
        have e4 : m2.1 22 = m' 22 := e3
        rw [← e4, fo 22 (by omega) (by omega) (by omega) (by omega)]
        exact upd_same m.1 22 _
      exact ⟨m', rfl, rfl, ⟨rfl, m22⟩, c, al, fun q h1 h2 h3 h4 h5 => (fr q h1 h2 h3 h4 h5).trans (upd_ne h5), y19, rfl⟩
    · right
      rw [if_neg c, if_neg c]
      exact ⟨rfl, rfl, x3.trans y17.symm⟩
  · right
    have n1 : ¬ d.1 4 = 2 := by
      rw [x4, J_lit, J_eq (by unfold ck; omega)]
      unfold ck
      omega
    have n2 : ¬ m.1 19 = 2 := by
      rw [y19, J_lit, J_eq (by omega)]
      omega
    rw [if_neg n1, if_neg n2]
    exact ⟨rfl, rfl, x3.trans y17.symm⟩
theorem al_num (k : Nat) (hk : 1000 < k) {T : Nat → Nat} {z i : Nat} {d m : Dat} (hT : TB T z) (h : AL T z i d m) (xl xh : Int32) (lo hi : Int) (hl : xl = J lo) (hh : xh = J hi) (hr : -1000 ≤ lo ∧ lo ≤ 1000 ∧ -1000 ≤ hi ∧ hi ≤ 1000) :
    (∃ (d' m' : Nat → Int32) (e : Nat) (v : Int), fX2_takeNumber k d xl xh = some (1, (d', d.2)) ∧ fX7_takes k m xl xh = some (1, (m', m.2)) ∧ (d' 5 = J v ∧ m' 22 = J v) ∧ (lo ≤ v ∧ v ≤ hi) ∧ AL T z e (d', d.2) (m', m.2) ∧ FR m' m.1 ∧ (m.1 19 = 2 ∧ m.1 20 = J v ∧ d' 3 = m.1 17) ∧ i ≤ e) ∨
    (∃ d' : Nat → Int32, fX2_takeNumber k d xl xh = some (0, (d', d.2)) ∧ fX7_takes k m xl xh = some (0, m) ∧ d' 3 = m.1 17) := by
  obtain ⟨d', s, e, kk, v, e1, cu⟩ := al_tok k hk hT h
  unfold fX2_takeNumber
  rw [e1, Option.bind_some]
  rcases cur_num k hk hT cu xl xh lo hi hl hh hr with ⟨m', a1, a2, a3, a4, a5, a6, a7⟩ | ⟨a1, a2, a3⟩
  · left
    rw [a1]
    have tf := (TK_f cu.2.2.2.2).1
    exact ⟨d'.1, m', e, v, rfl, a2, a3, a4, a5, a6, ⟨a7.1, a7.2, cu.2.2.1.2.2.1.trans cu.2.2.2.1.2.1.symm⟩, by omega⟩
  · right
    rw [a1]
    exact ⟨d'.1, rfl, a2, a3⟩
theorem al_stop (k : Nat) (hk : 1000 < k) {T : Nat → Nat} {z i : Nat} {d m : Dat} (hT : TB T z) (h : AL T z i d m) :
    (∃ (d' : Nat → Int32) (s e : Nat) (v : Int), fX2_takeStop k d = some (1, (d', d.2)) ∧ m.1 19 = 3 ∧ CUR T z (d', d.2) m i s e 3 v) ∨
    (∃ d' : Nat → Int32, fX2_takeStop k d = some (0, (d', d.2)) ∧ ¬ m.1 19 = 3 ∧ d' 3 = m.1 17) := by
  obtain ⟨d', s, e, kk, v, e1, cu⟩ := al_tok k hk hT h
  obtain ⟨hC, hM, ct, mt, tk⟩ := id cu
  obtain ⟨⟨f1, f2, f3, f4⟩, fv, fs, _⟩ := TK_f tk
  obtain ⟨y16, y17, y18, y19, y20, _, _⟩ := id mt
  obtain ⟨x1, x2, x3, x4, x5⟩ := id ct
  unfold fX2_takeStop
  rw [e1, Option.bind_some]
  by_cases c : kk = 3
  · subst c
    left
    rw [if_pos (show d'.1 4 = 4 from x4)]
    exact ⟨d'.1, s, e, v, rfl, y19, cu⟩
  · right
    have n1 : ¬ d'.1 4 = 4 := by
      rw [show d'.1 4 = J (ck kk) from x4, J_lit, J_eq (by unfold ck; omega)]
      unfold ck
      omega
    have n2 : ¬ m.1 19 = 3 := by
      rw [y19, J_lit, J_eq (by omega)]
      omega
    rw [if_neg n1]
    exact ⟨d'.1, rfl, n2, x3.trans y17.symm⟩
