def pcn (s : Nat) : Nat → Nat
  | 0 => 0
  | j + 1 => pcn s j + (if s.testBit j = true then 1 else 0)
def pc (s : Nat) : Nat := pcn s 6
theorem pcn_s (s j : Nat) : pcn s (j + 1) = pcn s j + (if s.testBit j = true then 1 else 0) := rfl
theorem pc_b (s : Nat) : ∀ j : Nat, pcn s j ≤ j := by
  intro j
  induction j with
  | zero => exact Nat.le_refl 0
  | succ j ih =>
    rw [pcn_s]
    split <;> omega
theorem bc_dec : ∀ s : Fin 64, fJ6_bitCount_0f7a4 0 (J ((s.val : Nat) : Int)) = some (J ((pc s.val : Nat) : Int)) := by decide +kernel
theorem c_bitCount (k : Nat) {s : Nat} (h : s < 64) : fJ6_bitCount_0f7a4 k (J s) = some (J (pc s : Nat)) := bc_dec ⟨s, h⟩
theorem m_manyIn (k : Nat) (hk : 100 < k) {s : Nat} (h : s < 64) : fX7_manyIn k (J s) = some (J (pc s : Nat)) := by
  unfold fX7_manyIn
  refine lp_run (fun j => (J (pcn s j : Nat), J (j : Int))) 6 _ (fun j hj rec => ?_) (fun rec => ?_) (by omega)
  · have hq : (6 ≤ J (j : Int)) = False := by rw [J_lit, J_le (by omega)]; exact eq_false (by omega)
    unfold fX7_manyIn_B4
    simp only [hq, if_false, bit_J h (show j < 6 by omega), J_suc, pcn_s]
    by_cases t : s.testBit j = true
    · rw [if_pos t, if_pos t, J_lit, J_add]
      rfl
    · rw [if_neg t, if_neg t, J_lit, J_add]
      rfl
  · unfold fX7_manyIn_B4
    rw [if_pos (show (6 : Int32) ≤ J ((6 : Nat) : Int) from by decide)]
    rfl
theorem pc_0 : ∀ s : Fin 64, pc s.val = 0 → s.val = 0 := by decide +kernel
theorem pc_n : ∀ (n : Fin 7) (s : Fin 64), s.val < 2 ^ n.val → pc s.val ≤ n.val := by decide +kernel
theorem cmp_bit : ∀ (n : Fin 7) (s : Fin 64) (p : Fin 6), s.val < 2 ^ n.val → p.val < n.val → s.val.testBit p.val = !((2 ^ n.val - 1 - s.val).testBit p.val) := by decide +kernel
theorem cmp_J0 : ∀ (n : Fin 7) (s : Fin 64), s.val < 2 ^ n.val → (J ((2 ^ n.val - 1 : Nat) : Int)) &&& ((J ((s.val : Nat) : Int)) ^^^ (-1)) = J ((2 ^ n.val - 1 - s.val : Nat) : Int) := by decide +kernel
theorem all_lt {a : Nat → Int} {s : Nat} (h : s ≤ ALL a) : s < 2 ^ (a 56).toNat := by
  have h1 : 1 ≤ 2 ^ (a 56).toNat := Nat.one_le_two_pow
  unfold ALL at h
  omega
theorem cmp_J {a : Nat → Int} (n56 : 0 ≤ a 56 ∧ a 56 ≤ 6) {s : Nat} (h : s ≤ ALL a) : J (ALL a : Nat) &&& (J (s : Int) ^^^ (-1)) = J ((ALL a - s : Nat) : Int) :=
  cmp_J0 ⟨(a 56).toNat, by omega⟩ ⟨s, by have := all_b n56; omega⟩ (all_lt h)
theorem co_cmp {a : Nat → Int} (n56 : 0 ≤ a 56 ∧ a 56 ≤ 6) {s : Nat} (h : s ≤ ALL a) : co a s (ALL a - s) := fun p hp =>
  cmp_bit ⟨(a 56).toNat, by omega⟩ ⟨s, by have := all_b n56; omega⟩ ⟨p, by omega⟩ (all_lt h) (by show p < (a 56).toNat; omega)
def Tn (a : Nat → Int) (n : Int) (s : Nat) : Prop := ∃ l, LF a n s l
theorem LF_sub {a l : Nat → Int} {n : Int} {s : Nat} (h : LF a n 0 l) : LF a n s l := ⟨h.1, fun e he u v hu hv => h.2 e he u v (hl_sub hu) (hl_sub hv)⟩
theorem Tn_all {a : Nat → Int} (hs : WS a) (hb : WB a) (n : Int) : Tn a n (ALL a) := by
  refine ⟨lw a, fun p hp => ⟨Int.le_refl _, by unfold lw; omega, fun h => lw_10 a p (b3_t.mpr h)⟩, fun e he u v hu hv => ?_⟩
  obtain ⟨_, u56, _, su⟩ := hl_who hs hb he hu
  rw [all_bit, decide_eq_true (by omega)] at su
  cases su
def isC (N : Nat) (U : Nat → Prop) (x : Nat) : Prop := U x ∧ x ≤ N ∧ ∀ y : Nat, y ≤ N → U y → pc x < pc y ∨ (pc x = pc y ∧ x ≤ y)
theorem isC_eq {N : Nat} {U : Nat → Prop} {x y : Nat} (h : isC N U x) (h' : isC N U y) : x = y := by
  have h1 := h.2.2 y h'.2.1 h'.1
  have h2 := h'.2.2 x h.2.1 h.1
  omega
def ansC (N : Nat) (U : Nat → Prop) (r : Int32) : Prop := (r = -1 ∧ ∀ x : Nat, x ≤ N → ¬ U x) ∨ ∃ x : Nat, r = J x ∧ isC N U x
theorem ansC_eq {N : Nat} {U : Nat → Prop} {r r' : Int32} (h : ansC N U r) (h' : ansC N U r') : r = r' := by
  rcases h with ⟨h1, h2⟩ | ⟨x, h1, h2⟩
  · rcases h' with ⟨h3, h4⟩ | ⟨y, h3, h4⟩
    · rw [h1, h3]
    · exact absurd h4.1 (h2 y h4.2.1)
  · rcases h' with ⟨h3, h4⟩ | ⟨y, h3, h4⟩
    · exact absurd h2.1 (h4 x h2.2.1)
    · rw [h1, h3, isC_eq h2 h4]
def UC (a : Nat → Int) (n : Int) (s : Nat) : Prop := ¬ Tn a n (ALL a - s)
set_option maxHeartbeats 4000000 in
theorem c_clash (k : Nat) (hk : 100 < k) {c st bd h8 t9 : Dat} {a : Nat → Int} (hS : SS st a) (hB : BB bd a) (hs : WS a) (hb : WB a) {n : Int} (hn : 0 ≤ n ∧ n ≤ 999) :
    ∃ r h' d', fX6_clash k c st bd h8 t9 (J n) = some (r, c, h', d') ∧ ansC (ALL a) (UC a n) r := by
  have n56 := hb.1
  have hA := all_b n56
  have ev : fX6_everyPlayer k c bd = some (J (ALL a : Nat)) := by
    unfold fX6_everyPlayer
    rw [hB.1.1, all_J n56]
  obtain ⟨w9, w8, e1, g, hR, hC⟩ := c_weigh k hk (d := t9) (h8 := h8) hS hB hs hb hn
  have tu : ∀ (d : Dat) (s : Nat), s ≤ ALL a → CR (d.2 0) g → ∃ (r : Int32) (d' : Dat), fX5_tunes k d bd (J s) = some (r, d') ∧ ((r = 1 ∧ ¬ UC a n s) ∨ (r = 0 ∧ UC a n s)) := fun d s h hR => by
    obtain ⟨r, d', e2, hr⟩ := c_tunes k hk hB hs hb hn (S := s) (s := ALL a - s) (by omega) (co_cmp n56 h) hR hC
    refine ⟨r, d', e2, ?_⟩
    rcases hr with ⟨r1, y, _, h1, _⟩ | ⟨r0, h0⟩
    · exact Or.inl ⟨r1, fun hU => hU ⟨y, h1⟩⟩
    · exact Or.inr ⟨r0, h0⟩
  unfold fX6_clash
  rw [cw_0_999 k (by omega)]
  simp only [Option.bind_some, b_ite, e1, ev]
  rw [if_pos hn]
  obtain ⟨r, d', e2, hr⟩ := tu (t9.1, va_up t9.2 0 (w9.2 0)) (ALL a) (Nat.le_refl _) hR
  simp only [e2, Option.bind_some]
  rcases hr with ⟨r1, hU⟩ | ⟨r0, hU⟩
  · subst r1
    rw [if_neg (by decide)]
    refine ⟨_, _, _, rfl, Or.inl ⟨rfl, fun x hx hx' => ?_⟩⟩
    apply hU
    intro ⟨l, hl'⟩
    rw [Nat.sub_self] at hl'
    exact hx' ⟨l, LF_sub hl'⟩
  · subst r0
    rw [if_pos rfl]
    refine lp_for (fun (i : Nat) (v : Int32 × Dat) => v.1 = J ((i + 1 : Nat) : Int) ∧ ∀ x : Nat, x ≤ ALL a → pc x < i + 1 → ¬ UC a n x) (a 56).toNat (fun (o : Option (Int32 × Dat × Dat × Dat)) => ∃ r h' d', o = some (r, c, h', d') ∧ ansC (ALL a) (UC a n) r) ?_ ?_ ⟨rfl, fun x hx hp => ?_⟩ (by omega)
    · intro i v hi ⟨hv, hno⟩
      obtain ⟨x, w⟩ := v
      have hv' : x = J ((i + 1 : Nat) : Int) := hv
      subst hv'
      have hq : (J (a 56) < J ((i + 1 : Nat) : Int)) = False := by rw [J_lt (by omega)]; exact eq_false (by omega)
      have inn : ∃ z : (Int32 × Dat) ⊕ Dat, (∀ K : (Int32 × Dat) ⊕ Dat → Option (Int32 × Dat × Dat × Dat), lp (fX6_clash_B76 k (J (ALL a : Nat)) (J ((i + 1 : Nat) : Int)) bd (t9.1, va_up (va_up (va_up t9.2 0 (w9.2 0)) 1 (d'.2 1)) 1 (w.2 1)) (fun w => K (Sum.inl w)) (fun w => K (Sum.inr w))) k (1, (t9.1, va_up (va_up (va_up t9.2 0 (w9.2 0)) 1 (d'.2 1)) 1 (w.2 1))) = K z) ∧
          ((∃ (x : Nat) (u : Dat), z = Sum.inl (J x, u) ∧ isC (ALL a) (UC a n) x) ∨ (∃ u : Dat, z = Sum.inr u ∧ ∀ x : Nat, x ≤ ALL a → pc x < i + 2 → ¬ UC a n x)) := by
        refine lp_forKE (B := fun K => fX6_clash_B76 k (J (ALL a : Nat)) (J ((i + 1 : Nat) : Int)) bd (t9.1, va_up (va_up (va_up t9.2 0 (w9.2 0)) 1 (d'.2 1)) 1 (w.2 1)) (fun w => K (Sum.inl w)) (fun w => K (Sum.inr w))) (fun (j : Nat) (v : Int32 × Dat) => v.1 = J ((j + 1 : Nat) : Int) ∧ ∀ x : Nat, x < j + 1 → pc x = i + 1 → ¬ UC a n x) (ALL a) _ ?_ ?_ ⟨rfl, fun x hx hp => ?_⟩ (by omega)
        · intro j v hj ⟨hv, hno2⟩
          obtain ⟨x, u⟩ := v
          have hv' : x = J ((j + 1 : Nat) : Int) := hv
          subst hv'
          have hq2 : (J (ALL a : Nat) < J ((j + 1 : Nat) : Int)) = False := by rw [J_lt (by omega)]; exact eq_false (by omega)
          have bc := c_bitCount k (show j + 1 < 64 by omega)
          have pb := pc_b (j + 1) 6
          have hpc : (J (pc (j + 1) : Nat) = J ((i + 1 : Nat) : Int)) = (pc (j + 1) = i + 1) := by
            have : pc (j + 1) ≤ 6 := pb
            rw [J_eq (by omega)]
            exact propext (by omega)
          by_cases c1 : pc (j + 1) = i + 1
          · obtain ⟨r, d3, e3, hr⟩ := tu (t9.1, va_up (va_up (va_up (va_up t9.2 0 (w9.2 0)) 1 (d'.2 1)) 1 (w.2 1)) 1 (u.2 1)) (j + 1) (by omega) hR
            rcases hr with ⟨r1, hU'⟩ | ⟨r0, hU'⟩
            · subst r1
              left
              refine ⟨(J ((j + 1 + 1 : Nat) : Int), (t9.1, va_up (va_up (va_up (va_up t9.2 0 (w9.2 0)) 1 (d'.2 1)) 1 (w.2 1)) 1 (d3.2 1))), fun K rec => ?_, rfl, fun x hx hp => ?_⟩
              · unfold fX6_clash_B76
                simp only [hq2, if_false, bc, Option.bind_some, hpc, c1, if_true, e3, show ((1 : Int32) = 0) = False from by decide, J_suc]
              · by_cases c2 : x = j + 1
                · rw [c2]
                  exact hU'
                · exact hno2 x (by omega) hp
            · subst r0
              right
              refine ⟨Sum.inl (J ((j + 1 : Nat) : Int), (t9.1, va_up (va_up (va_up (va_up t9.2 0 (w9.2 0)) 1 (d'.2 1)) 1 (w.2 1)) 1 (d3.2 1))), fun K rec => ?_, Or.inl ⟨j + 1, _, rfl, hU', by omega, fun y hy hUy => ?_⟩⟩
              · unfold fX6_clash_B76
                simp only [hq2, if_false, bc, Option.bind_some, hpc, c1, if_true, e3]
              · by_cases c2 : pc y < i + 1
                · exact absurd hUy (hno y hy c2)
                · by_cases c3 : pc y = i + 1
                  · right
                    refine ⟨by omega, ?_⟩
                    by_cases c4 : y < j + 1
                    · exact absurd hUy (hno2 y c4 c3)
                    · omega
                  · left
                    omega
          · left
            refine ⟨(J ((j + 1 + 1 : Nat) : Int), (t9.1, va_up (va_up (va_up (va_up t9.2 0 (w9.2 0)) 1 (d'.2 1)) 1 (w.2 1)) 1 (u.2 1))), fun K rec => ?_, rfl, fun x hx hp => ?_⟩
            · unfold fX6_clash_B76
              simp only [hq2, if_false, bc, Option.bind_some, hpc, c1, J_suc]
            · by_cases c2 : x = j + 1
              · rw [c2] at hp
                exact absurd hp c1
              · exact hno2 x (by omega) hp
        · intro v ⟨hv, hno2⟩
          obtain ⟨x, u⟩ := v
          have hv' : x = J ((ALL a + 1 : Nat) : Int) := hv
          subst hv'
          have hq2 : (J (ALL a : Nat) < J ((ALL a + 1 : Nat) : Int)) = True := by rw [J_lt (by omega)]; exact eq_true (by omega)
          refine ⟨Sum.inr (t9.1, va_up (va_up (va_up (va_up t9.2 0 (w9.2 0)) 1 (d'.2 1)) 1 (w.2 1)) 1 (u.2 1)), fun K rec => ?_, Or.inr ⟨_, rfl, fun x hx hp => ?_⟩⟩
          · unfold fX6_clash_B76
            simp only [hq2, if_true]
          · by_cases c1 : pc x = i + 1
            · exact hno2 x (by omega) c1
            · exact hno x hx (by omega)
        · have : x = 0 := by omega
          subst this
          exact absurd hp (by show ¬ 0 = i + 1; omega)
      obtain ⟨z0, e3, hz⟩ := inn
      have e4 : ∀ (F : Int32 × Dat → Option (Int32 × Dat × Dat × Dat)) (G : Dat → Option (Int32 × Dat × Dat × Dat)), lp (fX6_clash_B76 k (J (ALL a : Nat)) (J ((i + 1 : Nat) : Int)) bd (t9.1, va_up (va_up (va_up t9.2 0 (w9.2 0)) 1 (d'.2 1)) 1 (w.2 1)) F G) k (1, (t9.1, va_up (va_up (va_up t9.2 0 (w9.2 0)) 1 (d'.2 1)) 1 (w.2 1))) = Sum.elim F G z0 := fun F G => e3 (Sum.elim F G)
      rcases hz with ⟨x, u, ez, hx⟩ | ⟨u, ez, hx⟩
      · subst ez
        right
        intro rec
        unfold fX6_clash_B62
        simp only [hB.1.1, hq, if_false]
        rw [e4]
        exact ⟨_, _, _, rfl, Or.inr ⟨x, rfl, hx⟩⟩
      · subst ez
        left
        apply Exists.intro
        refine ⟨fun rec => ?_, ?_, ?_⟩
        · unfold fX6_clash_B62
          simp only [hB.1.1, hq, if_false]
          rw [e4]
          simp only [Sum.elim_inr, J_suc]
          all_goals exact rfl
        · rfl
        · exact hx
    · intro v ⟨hv, hno⟩ rec
      obtain ⟨x, w⟩ := v
      have hv' : x = J (((a 56).toNat + 1 : Nat) : Int) := hv
      subst hv'
      have hq : (J (a 56) < J (((a 56).toNat + 1 : Nat) : Int)) = True := by rw [J_lt (by omega)]; exact eq_true (by omega)
      unfold fX6_clash_B62
      simp only [hB.1.1, hq, if_true]
      refine ⟨_, _, _, rfl, Or.inl ⟨rfl, fun x hx => hno x hx ?_⟩⟩
      have := pc_n ⟨(a 56).toNat, by omega⟩ ⟨x, by omega⟩ (all_lt hx)
      have h2 : pc x ≤ (a 56).toNat := this
      omega
    · have h0 := pc_0 ⟨x, by omega⟩ (by show pc x = 0; omega)
      have h0' : x = 0 := h0
      subst h0'
      exact fun hU' => hU' (Tn_all hs hb n)
def FU (m m' : Dat) : Prop := (∀ i : Nat, ¬ i = 7 → ¬ i = 8 → m'.1 i = m.1 i) ∧ (∀ t : Nat, ¬ t = 4 → ¬ t = 5 → ¬ t = 6 → ¬ t = 9 → m'.2 t = m.2 t)
theorem m_all (k : Nat) {m : Dat} {a : Nat → Int} (hM : m.2 0 = Jf a) (n56 : 0 ≤ a 56 ∧ a 56 ≤ 6) : fX7_all k m = some (J (ALL a : Nat)) := by
  unfold fX7_all
  rw [m_players k hM, Option.bind_some, all_J n56]
def ansJ (j : Nat) (U : Nat → Prop) (r : Int32) : Prop := (r = -1 ∧ ∀ x : Nat, x < j → ¬ U x) ∨ ∃ x : Nat, r = J x ∧ U x ∧ x < j ∧ ∀ y : Nat, y < j → U y → pc x < pc y ∨ (pc x = pc y ∧ x ≤ y)
theorem FU_sh {m d w : Dat} {v : Int32} (hw : FU m w) (h : FT (upd w.1 8 v, va_up (va_up (va_up (va_up m.2 4 (w.2 4)) 5 (w.2 5)) 6 (w.2 6)) 9 (w.2 9)) d) : FU m (d.1, va_up (va_up (va_up (va_up m.2 4 (d.2 4)) 5 (d.2 5)) 6 (d.2 6)) 9 (d.2 9)) :=
  ⟨fun i h7 h8 => (h.1 i h7).trans ((upd_ne h8).trans (hw.1 i h7 h8)), fun t h4 h5 h6 h9 => sh5_o m.2 d h4 h5 h6 h9⟩
theorem pc6 (s : Nat) : pc s ≤ 6 := pc_b s 6
set_option maxHeartbeats 4000000 in
theorem m_clash (k : Nat) (hk : 10000 < k) {m : Dat} {a : Nat → Int} (hM : m.2 0 = Jf a) (hs : WS a) (hb : WB a) {n : Int} (hn : 0 ≤ n ∧ n ≤ 999) :
    ∃ r m', fX7_clash k m (J n) = some (r, m') ∧ FU m m' ∧ ansC (ALL a) (UC a n) r := by
  have n56 := hb.1
  have hA := all_b n56
  have cm1 : ∀ x : Nat, (J (x : Int) = -1) = False ∨ ¬ x < 1000 := fun x => by
    by_cases h : x < 1000
    · left
      rw [show (-1 : Int32) = J (-1) from rfl, J_eq (by omega)]
      exact eq_false (by omega)
    · exact Or.inr h
  unfold fX7_clash
  rw [m_isParts k (by omega)]
  simp only [Option.bind_some, b_ite]
  rw [if_pos hn]
  refine lp_for (fun (j : Nat) (v : Int32 × Int32 × Dat) => v.2.1 = J j ∧ FU m v.2.2 ∧ ansJ j (UC a n) v.1) (ALL a + 1) (fun (o : Option (Int32 × Dat)) => ∃ r m', o = some (r, m') ∧ FU m m' ∧ ansC (ALL a) (UC a n) r) ?_ ?_ ⟨rfl, ⟨fun _ _ _ => rfl, fun _ _ _ _ _ => rfl⟩, Or.inl ⟨rfl, fun x hx => absurd hx (Nat.not_lt_zero x)⟩⟩ (by omega)
  · intro j v hj ⟨hv, hF, hr⟩
    obtain ⟨b, i, w⟩ := v
    have hv' : i = J j := hv
    subst hv'
    replace hF : FU m w := hF
    replace hr : ansJ j (UC a n) b := hr
    have es : ((w.1, va_up (va_up (va_up (va_up m.2 4 (w.2 4)) 5 (w.2 5)) 6 (w.2 6)) 9 (w.2 9)) : Dat) = sh5 m.2 w := rfl
    have hM1 : (sh5 m.2 w).2 0 = Jf a := hM
    have hq : (J (ALL a : Nat) < J (j : Int)) = False := by rw [J_lt (by omega)]; exact eq_false (by omega)
    have mj := m_manyIn k (by omega) (show j < 64 by omega)
    have ce := cmp_J n56 (show j ≤ ALL a by omega)
    obtain ⟨r, d1, e1, f1, hr1⟩ := m_canTune k hk (m := (upd w.1 8 (J ((ALL a - j : Nat) : Int)), va_up (va_up (va_up (va_up m.2 4 (w.2 4)) 5 (w.2 5)) 6 (w.2 6)) 9 (w.2 9))) (s := ALL a - j) hM (upd_same w.1 8 (J ((ALL a - j : Nat) : Int))) (by omega) hs hb hn
    have fd := FU_sh hF f1
    have hUj : (r = 1 ∧ ¬ UC a n j) ∨ (r = 0 ∧ UC a n j) := by
      rcases hr1 with ⟨r1, O, _, h1, _⟩ | ⟨r0, h0⟩
      · exact Or.inl ⟨r1, fun hU => hU ((tun_iff hs hb).mpr ⟨O, h1⟩)⟩
      · exact Or.inr ⟨r0, fun ⟨l, h⟩ => h0 ((tun_iff hs hb).mp ⟨l, h⟩)⟩
    have fw : FU m (upd w.1 8 (J ((ALL a - j : Nat) : Int)), va_up (va_up (va_up (va_up m.2 4 (w.2 4)) 5 (w.2 5)) 6 (w.2 6)) 9 (w.2 9)) := ⟨fun i h7 h8 => (upd_ne h8).trans (hF.1 i h7 h8), fun t h4 h5 h6 h9 => sh5_o m.2 w h4 h5 h6 h9⟩
    left
    rcases hr with ⟨b1, hno⟩ | ⟨x, bx, hUx, hxj, hmin⟩
    · subst b1
      rcases hUj with ⟨r1, hU⟩ | ⟨r0, hU⟩
      · subst r1
        refine ⟨(-1, J ((j + 1 : Nat) : Int), (d1.1, va_up (va_up (va_up (va_up m.2 4 (d1.2 4)) 5 (d1.2 5)) 6 (d1.2 6)) 9 (d1.2 9))), fun rec => ?_, rfl, fd, Or.inl ⟨rfl, fun x hx => ?_⟩⟩
        · unfold fX7_clash_B18
          simp only [es, m_all k hM1 n56, Option.bind_some, hq, if_false, if_true, show ((1 : Int32) = 0) = False from by decide, ce, J_suc]
          rw [show fX7_canTune k (upd w.1 8 (J ((ALL a - j : Nat) : Int)), va_up (va_up (va_up (va_up m.2 4 (w.2 4)) 5 (w.2 5)) 6 (w.2 6)) 9 (w.2 9)) (J n) = some (1, d1) from e1]
          simp only [Option.bind_some, show ((1 : Int32) = 0) = False from by decide, if_false]
        · by_cases c : x = j
          · rw [c]
            exact hU
          · exact hno x (by omega)
      · subst r0
        refine ⟨(J j, J ((j + 1 : Nat) : Int), (d1.1, va_up (va_up (va_up (va_up m.2 4 (d1.2 4)) 5 (d1.2 5)) 6 (d1.2 6)) 9 (d1.2 9))), fun rec => ?_, rfl, fd, Or.inr ⟨j, rfl, hU, by omega, fun y hy hUy => ?_⟩⟩
        · unfold fX7_clash_B18
          simp only [es, m_all k hM1 n56, Option.bind_some, hq, if_false, if_true, show ((1 : Int32) = 0) = False from by decide, ce, J_suc]
          rw [show fX7_canTune k (upd w.1 8 (J ((ALL a - j : Nat) : Int)), va_up (va_up (va_up (va_up m.2 4 (w.2 4)) 5 (w.2 5)) 6 (w.2 6)) 9 (w.2 9)) (J n) = some (0, d1) from e1]
          simp only [Option.bind_some, if_true]
        · by_cases c : y = j
          · right
            rw [c]
            exact ⟨rfl, Nat.le_refl _⟩
          · exact absurd hUy (hno y (by omega))
    · subst bx
      have bn := (cm1 x).resolve_right (fun h => h (by omega))
      have mx := m_manyIn k (by omega) (show x < 64 by omega)
      have p1 := pc6 x
      have p2 := pc6 j
      have hc : (J (pc x : Nat) ≤ J (pc j : Nat)) = (pc x ≤ pc j) := by rw [J_le (by omega)]; exact propext (by omega)
      by_cases c1 : pc x ≤ pc j
      · refine ⟨(J x, J ((j + 1 : Nat) : Int), (upd w.1 8 (J ((ALL a - j : Nat) : Int)), va_up (va_up (va_up (va_up m.2 4 (w.2 4)) 5 (w.2 5)) 6 (w.2 6)) 9 (w.2 9))), fun rec => ?_, rfl, fw, Or.inr ⟨x, rfl, hUx, by omega, fun y hy hUy => ?_⟩⟩
        · unfold fX7_clash_B18
          simp only [es, m_all k hM1 n56, Option.bind_some, hq, if_false, bn, mj, mx, hc, c1, if_true, ce, J_suc]
          all_goals exact rfl
        · by_cases c : y = j
          · rw [c]
            omega
          · exact hmin y (by omega) hUy
      · rcases hUj with ⟨r1, hU⟩ | ⟨r0, hU⟩
        · subst r1
          refine ⟨(J x, J ((j + 1 : Nat) : Int), (d1.1, va_up (va_up (va_up (va_up m.2 4 (d1.2 4)) 5 (d1.2 5)) 6 (d1.2 6)) 9 (d1.2 9))), fun rec => ?_, rfl, fd, Or.inr ⟨x, rfl, hUx, by omega, fun y hy hUy => ?_⟩⟩
          · unfold fX7_clash_B18
            simp only [es, m_all k hM1 n56, Option.bind_some, hq, if_false, bn, mj, mx, hc, c1, show ((1 : Int32) = 0) = False from by decide, ce, J_suc]
            rw [show fX7_canTune k (upd w.1 8 (J ((ALL a - j : Nat) : Int)), va_up (va_up (va_up (va_up m.2 4 (w.2 4)) 5 (w.2 5)) 6 (w.2 6)) 9 (w.2 9)) (J n) = some (1, d1) from e1]
            simp only [Option.bind_some, show ((1 : Int32) = 0) = False from by decide, if_false]
          · by_cases c : y = j
            · rw [c] at hUy
              exact absurd hUy hU
            · exact hmin y (by omega) hUy
        · subst r0
          refine ⟨(J j, J ((j + 1 : Nat) : Int), (d1.1, va_up (va_up (va_up (va_up m.2 4 (d1.2 4)) 5 (d1.2 5)) 6 (d1.2 6)) 9 (d1.2 9))), fun rec => ?_, rfl, fd, Or.inr ⟨j, rfl, hU, by omega, fun y hy hUy => ?_⟩⟩
          · unfold fX7_clash_B18
            simp only [es, m_all k hM1 n56, Option.bind_some, hq, if_false, bn, mj, mx, hc, c1, show ((1 : Int32) = 0) = False from by decide, ce, J_suc]
            rw [show fX7_canTune k (upd w.1 8 (J ((ALL a - j : Nat) : Int)), va_up (va_up (va_up (va_up m.2 4 (w.2 4)) 5 (w.2 5)) 6 (w.2 6)) 9 (w.2 9)) (J n) = some (0, d1) from e1]
            simp only [Option.bind_some, if_true]
          · by_cases c : y = j
            · right
              rw [c]
              exact ⟨rfl, Nat.le_refl _⟩
            · have := hmin y (by omega) hUy
              left
              omega
  · intro v ⟨hv, hF, hr⟩ rec
    obtain ⟨b, i, w⟩ := v
    have hv' : i = J ((ALL a + 1 : Nat) : Int) := hv
    subst hv'
    replace hF : FU m w := hF
    replace hr : ansJ (ALL a + 1) (UC a n) b := hr
    have es : ((w.1, va_up (va_up (va_up (va_up m.2 4 (w.2 4)) 5 (w.2 5)) 6 (w.2 6)) 9 (w.2 9)) : Dat) = sh5 m.2 w := rfl
    have hM1 : (sh5 m.2 w).2 0 = Jf a := hM
    have hq : (J (ALL a : Nat) < J ((ALL a + 1 : Nat) : Int)) = True := by rw [J_lt (by omega)]; exact eq_true (by omega)
    unfold fX7_clash_B18
    simp only [es, m_all k hM1 n56, Option.bind_some, hq, if_true]
    refine ⟨_, _, rfl, ⟨fun i h7 h8 => hF.1 i h7 h8, fun t h4 h5 h6 h9 => sh5_o m.2 w h4 h5 h6 h9⟩, ?_⟩
    rcases hr with ⟨b1, hno⟩ | ⟨x, bx, hUx, hxj, hmin⟩
    · exact Or.inl ⟨b1, fun x hx => hno x (by omega)⟩
    · exact Or.inr ⟨x, bx, hUx, by omega, fun y hy hUy => hmin y (by omega) hUy⟩
theorem L_16 (k L : Nat) (hk : 10000 < k) (xs : Nat → Int32) (hL : L ≤ 2560) : OP L (fL_16 k L xs) := by
  intro rec z c st bd i0 i1 b0 b1 t5 t6 t7 h8 t9 s10 r11 m hz hzL hR
  unfold fL_16
  simp only [rd hz hzL hL]
  generalize xs (J z + 1).toNatClampNeg = x1
  obtain ⟨X, hX, rfl⟩ := J_ex x1
  obtain ⟨⟨a, hM, hS, hB, hs, hb⟩, hTx, hRf, hI⟩ := hR
  obtain ⟨n54, n55, n20, n21, n22, n18, hp⟩ := id hs
  obtain ⟨n56, n57, n23, hP, hQ⟩ := id hb
  by_cases q1 : 0 ≤ X ∧ X ≤ 999
  · obtain ⟨r, h', d', e1, a1⟩ := c_clash k (by omega) (c := c) (h8 := h8) (t9 := t9) hS hB hs hb q1
    obtain ⟨r', m', e2, f2, a2⟩ := m_clash k hk hM hs hb q1
    have er := ansC_eq a1 a2
    subst er
    apply fin
    · simp only [e1, e2, Option.bind_some, ↓reduceIte]
      all_goals exact rfl
    · exact rd5 z
    · refine ⟨⟨a, hM, hS, hB, hs, hb⟩, ?_, ?_, hI⟩
      · show RX (c.1 13) (m'.1 16) _ _
        rw [f2.1 16 (by omega) (by omega)]
        exact hTx
      · show RR _ _ _ (m'.2 3)
        rw [f2.2 3 (by omega) (by omega) (by omega) (by omega)]
        exact hRf
  · unfold fX6_clash fX7_clash
    rw [cw_0_999 k hX, m_isParts k hX]
    simp only [Option.bind_some, b_ite]
    rw [if_neg q1, if_neg q1]
    apply fin
    · simp only [c_bad, m_bad, Option.bind_some, ↓reduceIte]
      exact rfl
    · exact rd5 z
    · exact ⟨⟨a, hM, hS, hB, hs, hb⟩, hTx, hRf.bad, hI⟩
theorem co_cmp' {a : Nat → Int} (n56 : 0 ≤ a 56 ∧ a 56 ≤ 6) {s : Nat} (h : s ≤ ALL a) : co a (ALL a - s) s := fun p hp => by
  have := co_cmp n56 h p hp
  rw [this, Bool.not_not]
set_option maxHeartbeats 4000000 in
theorem c_leftOut (k : Nat) (hk : 100 < k) {c st bd h8 t9 : Dat} {a : Nat → Int} (hS : SS st a) (hB : BB bd a) (hs : WS a) (hb : WB a) {n : Int} (hn : 0 ≤ n ∧ n ≤ 999) :
    ∃ r h' d', fX6_leftOut k c st bd h8 t9 (J n) = some (r, c, h', d') ∧ ∃ x : Nat, r = J x ∧ isC (ALL a) (Tn a n) x := by
  have n56 := hb.1
  have hA := all_b n56
  have ev : fX6_everyPlayer k c bd = some (J (ALL a : Nat)) := by
    unfold fX6_everyPlayer
    rw [hB.1.1, all_J n56]
  obtain ⟨w9, w8, e1, g, hR, hC⟩ := c_weigh k hk (d := t9) (h8 := h8) hS hB hs hb hn
  have tu : ∀ (d : Dat) (s : Nat), s ≤ ALL a → CR (d.2 0) g → ∃ (r : Int32) (d' : Dat), fX5_tunes k d bd (J ((ALL a - s : Nat) : Int)) = some (r, d') ∧ ((r = 1 ∧ Tn a n s) ∨ (r = 0 ∧ ¬ Tn a n s)) := fun d s h hR => by
    obtain ⟨r, d', e2, hr⟩ := c_tunes k hk hB hs hb hn (S := ALL a - s) (s := s) (by omega) (co_cmp' n56 h) hR hC
    refine ⟨r, d', e2, ?_⟩
    rcases hr with ⟨r1, y, _, h1, _⟩ | ⟨r0, h0⟩
    · exact Or.inl ⟨r1, y, h1⟩
    · exact Or.inr ⟨r0, h0⟩
  unfold fX6_leftOut
  rw [cw_0_999 k (by omega)]
  simp only [Option.bind_some, b_ite, e1, ev]
  rw [if_pos hn]
  refine lp_for (fun (i : Nat) (v : Int32 × Dat) => v.1 = J (i : Int) ∧ ∀ x : Nat, x ≤ ALL a → pc x < i → ¬ Tn a n x) ((a 56).toNat + 1) (fun (o : Option (Int32 × Dat × Dat × Dat)) => ∃ r h' d', o = some (r, c, h', d') ∧ ∃ x : Nat, r = J x ∧ isC (ALL a) (Tn a n) x) ?_ ?_ ⟨rfl, fun x hx hp => absurd hp (Nat.not_lt_zero _)⟩ (by omega)
  · intro i v hi ⟨hv, hno⟩
    obtain ⟨x, w⟩ := v
    have hv' : x = J (i : Int) := hv
    subst hv'
    have hq : (J (a 56) < J (i : Int)) = False := by rw [J_lt (by omega)]; exact eq_false (by omega)
    have inn : ∃ z : (Int32 × Dat) ⊕ Dat, (∀ K : (Int32 × Dat) ⊕ Dat → Option (Int32 × Dat × Dat × Dat), lp (fX6_leftOut_B59 k (J (ALL a : Nat)) (J (i : Int)) bd (t9.1, va_up (va_up t9.2 0 (w9.2 0)) 1 (w.2 1)) (fun w => K (Sum.inl w)) (fun w => K (Sum.inr w))) k (0, (t9.1, va_up (va_up t9.2 0 (w9.2 0)) 1 (w.2 1))) = K z) ∧
        ((∃ (x : Nat) (u : Dat), z = Sum.inl (J x, u) ∧ isC (ALL a) (Tn a n) x) ∨ (∃ u : Dat, z = Sum.inr u ∧ ∀ x : Nat, x ≤ ALL a → pc x < i + 1 → ¬ Tn a n x)) := by
      refine lp_forKE (B := fun K => fX6_leftOut_B59 k (J (ALL a : Nat)) (J (i : Int)) bd (t9.1, va_up (va_up t9.2 0 (w9.2 0)) 1 (w.2 1)) (fun w => K (Sum.inl w)) (fun w => K (Sum.inr w))) (fun (j : Nat) (v : Int32 × Dat) => v.1 = J (j : Int) ∧ ∀ x : Nat, x < j → pc x = i → ¬ Tn a n x) (ALL a + 1) _ ?_ ?_ ⟨rfl, fun x hx hp => absurd hx (Nat.not_lt_zero _)⟩ (by omega)
      · intro j v hj ⟨hv, hno2⟩
        obtain ⟨x, u⟩ := v
        have hv' : x = J (j : Int) := hv
        subst hv'
        have hq2 : (J (ALL a : Nat) < J (j : Int)) = False := by rw [J_lt (by omega)]; exact eq_false (by omega)
        have bc := c_bitCount k (show j < 64 by omega)
        have pb := pc6 j
        have ce := cmp_J n56 (show j ≤ ALL a by omega)
        have hpc : (J (pc j : Nat) = J (i : Int)) = (pc j = i) := by
          rw [J_eq (by omega)]
          exact propext (by omega)
        by_cases c1 : pc j = i
        · obtain ⟨r, d3, e3, hr⟩ := tu (t9.1, va_up (va_up (va_up t9.2 0 (w9.2 0)) 1 (w.2 1)) 1 (u.2 1)) j (by omega) hR
          rcases hr with ⟨r1, hU'⟩ | ⟨r0, hU'⟩
          · subst r1
            right
            refine ⟨Sum.inl (J (j : Int), (t9.1, va_up (va_up (va_up t9.2 0 (w9.2 0)) 1 (w.2 1)) 1 (d3.2 1))), fun K rec => ?_, Or.inl ⟨j, _, rfl, hU', by omega, fun y hy hUy => ?_⟩⟩
            · unfold fX6_leftOut_B59
              simp only [hq2, if_false, bc, Option.bind_some, hpc, c1, if_true, ce, e3, show ((1 : Int32) = 0) = False from by decide]
            · by_cases c2 : pc y < i
              · exact absurd hUy (hno y hy c2)
              · by_cases c3 : pc y = i
                · right
                  refine ⟨by omega, ?_⟩
                  by_cases c4 : y < j
                  · exact absurd hUy (hno2 y c4 c3)
                  · omega
                · left
                  omega
          · subst r0
            left
            refine ⟨(J ((j + 1 : Nat) : Int), (t9.1, va_up (va_up (va_up t9.2 0 (w9.2 0)) 1 (w.2 1)) 1 (d3.2 1))), fun K rec => ?_, rfl, fun x hx hp => ?_⟩
            · unfold fX6_leftOut_B59
              simp only [hq2, if_false, bc, Option.bind_some, hpc, c1, if_true, ce, e3, J_suc]
            · by_cases c2 : x = j
              · rw [c2]
                exact hU'
              · exact hno2 x (by omega) hp
        · left
          refine ⟨(J ((j + 1 : Nat) : Int), (t9.1, va_up (va_up (va_up t9.2 0 (w9.2 0)) 1 (w.2 1)) 1 (u.2 1))), fun K rec => ?_, rfl, fun x hx hp => ?_⟩
          · unfold fX6_leftOut_B59
            simp only [hq2, if_false, bc, Option.bind_some, hpc, c1, J_suc]
          · by_cases c2 : x = j
            · rw [c2] at hp
              exact absurd hp c1
            · exact hno2 x (by omega) hp
      · intro v ⟨hv, hno2⟩
        obtain ⟨x, u⟩ := v
        have hv' : x = J ((ALL a + 1 : Nat) : Int) := hv
        subst hv'
        have hq2 : (J (ALL a : Nat) < J ((ALL a + 1 : Nat) : Int)) = True := by rw [J_lt (by omega)]; exact eq_true (by omega)
        refine ⟨Sum.inr (t9.1, va_up (va_up (va_up t9.2 0 (w9.2 0)) 1 (w.2 1)) 1 (u.2 1)), fun K rec => ?_, Or.inr ⟨_, rfl, fun x hx hp => ?_⟩⟩
        · unfold fX6_leftOut_B59
          simp only [hq2, if_true]
        · by_cases c1 : pc x = i
          · exact hno2 x (by omega) c1
          · exact hno x hx (by omega)
    obtain ⟨z0, e3, hz⟩ := inn
    have e4 : ∀ (F : Int32 × Dat → Option (Int32 × Dat × Dat × Dat)) (G : Dat → Option (Int32 × Dat × Dat × Dat)), lp (fX6_leftOut_B59 k (J (ALL a : Nat)) (J (i : Int)) bd (t9.1, va_up (va_up t9.2 0 (w9.2 0)) 1 (w.2 1)) F G) k (0, (t9.1, va_up (va_up t9.2 0 (w9.2 0)) 1 (w.2 1))) = Sum.elim F G z0 := fun F G => e3 (Sum.elim F G)
    rcases hz with ⟨x, u, ez, hx⟩ | ⟨u, ez, hx⟩
    · subst ez
      right
      intro rec
      unfold fX6_leftOut_B45
      simp only [hB.1.1, hq, if_false]
      rw [e4]
      exact ⟨_, _, _, rfl, x, rfl, hx⟩
    · subst ez
      left
      apply Exists.intro
      refine ⟨fun rec => ?_, ?_, ?_⟩
      · unfold fX6_leftOut_B45
        simp only [hB.1.1, hq, if_false]
        rw [e4]
        simp only [Sum.elim_inr, J_suc]
        all_goals exact rfl
      · rfl
      · exact hx
  · intro v ⟨hv, hno⟩ rec
    exfalso
    have := pc_n ⟨(a 56).toNat, by omega⟩ ⟨ALL a, by omega⟩ (all_lt (Nat.le_refl _))
    have h2 : pc (ALL a) ≤ (a 56).toNat := this
    exact hno (ALL a) (Nat.le_refl _) (by omega) (Tn_all hs hb n)
set_option maxHeartbeats 4000000 in
theorem m_leftOut (k : Nat) (hk : 10000 < k) {m : Dat} {a : Nat → Int} (hM : m.2 0 = Jf a) (hs : WS a) (hb : WB a) {n : Int} (hn : 0 ≤ n ∧ n ≤ 999) :
    ∃ r m', fX7_leftOut k m (J n) = some (r, m') ∧ FU m m' ∧ ∃ x : Nat, r = J x ∧ isC (ALL a) (Tn a n) x := by
  have n56 := hb.1
  have hA := all_b n56
  unfold fX7_leftOut
  rw [m_isParts k (by omega), m_all k hM n56]
  simp only [Option.bind_some, b_ite]
  rw [if_pos hn]
  refine lp_for (fun (j : Nat) (v : Int32 × Int32 × Dat) => v.2.1 = J j ∧ FU m v.2.2 ∧ ∃ x : Nat, v.1 = J x ∧ x ≤ ALL a ∧ Tn a n x ∧ ∀ y : Nat, y < j → Tn a n y → pc x < pc y ∨ (pc x = pc y ∧ x ≤ y)) (ALL a + 1) (fun (o : Option (Int32 × Dat)) => ∃ r m', o = some (r, m') ∧ FU m m' ∧ ∃ x : Nat, r = J x ∧ isC (ALL a) (Tn a n) x) ?_ ?_ ⟨rfl, ⟨fun _ _ _ => rfl, fun _ _ _ _ _ => rfl⟩, ALL a, rfl, Nat.le_refl _, Tn_all hs hb n, fun y hy => absurd hy (Nat.not_lt_zero y)⟩ (by omega)
  · intro j v hj ⟨hv, hF, x, bx, hx, hVx, hmin⟩
    obtain ⟨b, i, w⟩ := v
    have hv' : i = J j := hv
    subst hv'
    have bx' : b = J x := bx
    subst bx'
    replace hF : FU m w := hF
    have es : ((w.1, va_up (va_up (va_up (va_up m.2 4 (w.2 4)) 5 (w.2 5)) 6 (w.2 6)) 9 (w.2 9)) : Dat) = sh5 m.2 w := rfl
    have hM1 : (sh5 m.2 w).2 0 = Jf a := hM
    have hq : (J (ALL a : Nat) < J (j : Int)) = False := by rw [J_lt (by omega)]; exact eq_false (by omega)
    have mj := m_manyIn k (by omega) (show j < 64 by omega)
    have mx := m_manyIn k (by omega) (show x < 64 by omega)
    have p1 := pc6 x
    have p2 := pc6 j
    obtain ⟨r, d1, e1, f1, hr1⟩ := m_canTune k hk (m := (upd w.1 8 (J (j : Int)), va_up (va_up (va_up (va_up m.2 4 (w.2 4)) 5 (w.2 5)) 6 (w.2 6)) 9 (w.2 9))) (s := j) hM (upd_same w.1 8 (J (j : Int))) (by omega) hs hb hn
    have fd := FU_sh hF f1
    have e1' : fX7_canTune k (upd w.1 8 (J (j : Int)), va_up (va_up (va_up (va_up m.2 4 (w.2 4)) 5 (w.2 5)) 6 (w.2 6)) 9 (w.2 9)) (J n) = some (r, d1) := e1
    have hUj : (r = 1 ∧ Tn a n j) ∨ (r = 0 ∧ ¬ Tn a n j) := by
      rcases hr1 with ⟨r1, O, _, h1, _⟩ | ⟨r0, h0⟩
      · exact Or.inl ⟨r1, (tun_iff hs hb).mpr ⟨O, h1⟩⟩
      · exact Or.inr ⟨r0, fun ⟨l, h⟩ => h0 ((tun_iff hs hb).mp ⟨l, h⟩)⟩
    have fw : FU m (upd w.1 8 (J (j : Int)), va_up (va_up (va_up (va_up m.2 4 (w.2 4)) 5 (w.2 5)) 6 (w.2 6)) 9 (w.2 9)) := ⟨fun i h7 h8 => (upd_ne h8).trans (hF.1 i h7 h8), fun t h4 h5 h6 h9 => sh5_o m.2 w h4 h5 h6 h9⟩
    have c1 : (0 < J ((pc x : Int) - pc j)) = (pc j < pc x) := by rw [J_lit, J_lt (by omega)]; exact propext (by omega)
    have c2 : (J ((pc x : Int) - pc j) = 0) = (pc j = pc x) := by rw [J_lit, J_eq (by omega)]; exact propext (by omega)
    have c3 : (J (x : Int) ≤ J (j : Int)) = (x ≤ j) := by rw [J_le (by omega)]; exact propext (by omega)
    by_cases better : pc j < pc x ∨ (pc j = pc x ∧ ¬ x ≤ j)
    · left
      have st : ∀ rec, fX7_leftOut_B21 k (J n) m (fun w7 => some (w7.1, (w7.2.1, va_up (va_up (va_up (va_up m.2 4 (w7.2.2 4)) 5 (w7.2.2 5)) 6 (w7.2.2 6)) 9 (w7.2.2 9)))) rec (J x, J j, w) = (if r = 0 then rec (J x, J ((j + 1 : Nat) : Int), (d1.1, va_up (va_up (va_up (va_up m.2 4 (d1.2 4)) 5 (d1.2 5)) 6 (d1.2 6)) 9 (d1.2 9))) else rec (J j, J ((j + 1 : Nat) : Int), (d1.1, va_up (va_up (va_up (va_up m.2 4 (d1.2 4)) 5 (d1.2 5)) 6 (d1.2 6)) 9 (d1.2 9)))) := fun rec => by
        unfold fX7_leftOut_B21
        simp only [es, m_all k hM1 n56, Option.bind_some, hq, if_false, mj, mx, J_sub, c1, c2, c3, J_suc]
        rcases better with h | ⟨h1, h2⟩
        · rw [if_pos h]
          rw [show fX7_canTune k (upd w.1 8 (J (j : Int)), va_up (va_up (va_up (va_up m.2 4 (w.2 4)) 5 (w.2 5)) 6 (w.2 6)) 9 (w.2 9)) (J n) = some (r, d1) from e1']
          rfl
        · rw [if_neg (show ¬ pc j < pc x by omega), if_pos h1, if_neg h2]
          rw [show fX7_canTune k (upd w.1 8 (J (j : Int)), va_up (va_up (va_up (va_up m.2 4 (w.2 4)) 5 (w.2 5)) 6 (w.2 6)) 9 (w.2 9)) (J n) = some (r, d1) from e1']
          rfl
      rcases hUj with ⟨r1, hU⟩ | ⟨r0, hU⟩
      · subst r1
        refine ⟨(J j, J ((j + 1 : Nat) : Int), (d1.1, va_up (va_up (va_up (va_up m.2 4 (d1.2 4)) 5 (d1.2 5)) 6 (d1.2 6)) 9 (d1.2 9))), fun rec => ?_, rfl, fd, j, rfl, by omega, hU, fun y hy hVy => ?_⟩
        · rw [st, if_neg (by decide)]
        · by_cases c : y = j
          · right
            rw [c]
            exact ⟨rfl, Nat.le_refl _⟩
          · have := hmin y (by omega) hVy
            omega
      · subst r0
        refine ⟨(J x, J ((j + 1 : Nat) : Int), (d1.1, va_up (va_up (va_up (va_up m.2 4 (d1.2 4)) 5 (d1.2 5)) 6 (d1.2 6)) 9 (d1.2 9))), fun rec => ?_, rfl, fd, x, rfl, hx, hVx, fun y hy hVy => ?_⟩
        · rw [st, if_pos rfl]
        · by_cases c : y = j
          · rw [c] at hVy
            exact absurd hVy hU
          · exact hmin y (by omega) hVy
    · left
      refine ⟨(J x, J ((j + 1 : Nat) : Int), (upd w.1 8 (J (j : Int)), va_up (va_up (va_up (va_up m.2 4 (w.2 4)) 5 (w.2 5)) 6 (w.2 6)) 9 (w.2 9))), fun rec => ?_, rfl, fw, x, rfl, hx, hVx, fun y hy hVy => ?_⟩
      · unfold fX7_leftOut_B21
        simp only [es, m_all k hM1 n56, Option.bind_some, hq, if_false, mj, mx, J_sub, c1, c2, c3, J_suc]
        rw [if_neg (show ¬ pc j < pc x by omega)]
        by_cases h1 : pc j = pc x
        · rw [if_pos h1, if_pos (show x ≤ j by omega)]
        · rw [if_neg h1]
      · by_cases c : y = j
        · rw [c]
          omega
        · exact hmin y (by omega) hVy
  · intro v ⟨hv, hF, x, bx, hx, hVx, hmin⟩ rec
    obtain ⟨b, i, w⟩ := v
    have hv' : i = J ((ALL a + 1 : Nat) : Int) := hv
    subst hv'
    replace hF : FU m w := hF
    have es : ((w.1, va_up (va_up (va_up (va_up m.2 4 (w.2 4)) 5 (w.2 5)) 6 (w.2 6)) 9 (w.2 9)) : Dat) = sh5 m.2 w := rfl
    have hM1 : (sh5 m.2 w).2 0 = Jf a := hM
    have hq : (J (ALL a : Nat) < J ((ALL a + 1 : Nat) : Int)) = True := by rw [J_lt (by omega)]; exact eq_true (by omega)
    unfold fX7_leftOut_B21
    simp only [es, m_all k hM1 n56, Option.bind_some, hq, if_true]
    exact ⟨_, _, rfl, ⟨fun i h7 h8 => hF.1 i h7 h8, fun t h4 h5 h6 h9 => sh5_o m.2 w h4 h5 h6 h9⟩, x, bx, hVx, hx, fun y hy hVy => hmin y (by omega) hVy⟩
theorem L_17 (k L : Nat) (hk : 10000 < k) (xs : Nat → Int32) (hL : L ≤ 2560) : OP L (fL_17 k L xs) := by
  intro rec z c st bd i0 i1 b0 b1 t5 t6 t7 h8 t9 s10 r11 m hz hzL hR
  unfold fL_17
  simp only [rd hz hzL hL]
  generalize xs (J z + 1).toNatClampNeg = x1
  obtain ⟨X, hX, rfl⟩ := J_ex x1
  obtain ⟨⟨a, hM, hS, hB, hs, hb⟩, hTx, hRf, hI⟩ := hR
  obtain ⟨n54, n55, n20, n21, n22, n18, hp⟩ := id hs
  obtain ⟨n56, n57, n23, hP, hQ⟩ := id hb
  by_cases q1 : 0 ≤ X ∧ X ≤ 999
  · obtain ⟨r, h', d', e1, x, ex, hx⟩ := c_leftOut k (by omega) (c := c) (h8 := h8) (t9 := t9) hS hB hs hb q1
    obtain ⟨r', m', e2, f2, y, ey, hy⟩ := m_leftOut k hk hM hs hb q1
    have er : r = r' := by rw [ex, ey, isC_eq hx hy]
    subst er
    apply fin
    · simp only [e1, e2, Option.bind_some, ↓reduceIte]
      all_goals exact rfl
    · exact rd5 z
    · refine ⟨⟨a, hM, hS, hB, hs, hb⟩, ?_, ?_, hI⟩
      · show RX (c.1 13) (m'.1 16) _ _
        rw [f2.1 16 (by omega) (by omega)]
        exact hTx
      · show RR _ _ _ (m'.2 3)
        rw [f2.2 3 (by omega) (by omega) (by omega) (by omega)]
        exact hRf
  · unfold fX6_leftOut fX7_leftOut
    rw [cw_0_999 k hX, m_isParts k hX]
    simp only [Option.bind_some, b_ite]
    rw [if_neg q1, if_neg q1]
    apply fin
    · simp only [c_bad, m_bad, Option.bind_some, ↓reduceIte]
      exact rfl
    · exact rd5 z
    · exact ⟨⟨a, hM, hS, hB, hs, hb⟩, hTx, hRf.bad, hI⟩
