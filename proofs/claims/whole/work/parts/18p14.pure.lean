theorem and31 (y : Int32) : ∃ n : Nat, n < 32 ∧ y &&& 31 = J (n : Int) := by
  refine ⟨y.toBitVec.toNat % 32, Nat.mod_lt _ (by decide), ?_⟩
  apply Int32.toBitVec_inj.mp
  have e : (J ((y.toBitVec.toNat % 32 : Nat) : Int)).toBitVec = BitVec.ofNat 32 (y.toBitVec.toNat % 32) := by
    show BitVec.ofInt 32 _ = _
    exact BitVec.ofInt_natCast _ _
  rw [e]
  apply BitVec.eq_of_toNat_eq
  show (y.toBitVec &&& BitVec.ofNat 32 31).toNat = _
  rw [BitVec.toNat_and, BitVec.toNat_ofNat, BitVec.toNat_ofNat]
  have h : y.toBitVec.toNat &&& 31 = y.toBitVec.toNat % 32 := Nat.and_two_pow_sub_one_eq_mod _ 5
  rw [show 31 % 2 ^ 32 = 31 from rfl, h]
  omega
theorem lw_stp {k L n t : Nat} {xs : Nat → Int32} {f : (D16 → Option Int32) → Int32 → Dat → Dat → Dat → Dat → Dat → Dat → Dat → Dat → Dat → Dat → Dat → Dat → Dat → Dat → Dat → Option Int32}
    (ih : ∀ (t : Nat) (v : D16), 5 * t ≤ L → L < 5 * t + 5 * n → v.1 = J ((5 * t : Nat) : Int) → RelV v → lp (fL_B18 k L xs) n v = some 1)
    (h : OP L f) {v : D16} (hR : RelV v) (h5 : 5 * t + 5 ≤ L) (hn : L < 5 * t + 5 * (n + 1)) :
    f (lp (fL_B18 k L xs) n) (J ((5 * t : Nat) : Int)) v.2.1 v.2.2.1 v.2.2.2.1 v.2.2.2.2.1 v.2.2.2.2.2.1 v.2.2.2.2.2.2.1 v.2.2.2.2.2.2.2.1 v.2.2.2.2.2.2.2.2.1 v.2.2.2.2.2.2.2.2.2.1 v.2.2.2.2.2.2.2.2.2.2.1 v.2.2.2.2.2.2.2.2.2.2.2.1 v.2.2.2.2.2.2.2.2.2.2.2.2.1 v.2.2.2.2.2.2.2.2.2.2.2.2.2.1 v.2.2.2.2.2.2.2.2.2.2.2.2.2.2.1 v.2.2.2.2.2.2.2.2.2.2.2.2.2.2.2 = some 1 := by
  obtain ⟨v', e1, e2, e3⟩ := h (lp (fL_B18 k L xs) n) ((5 * t : Nat) : Int) v.2.1 v.2.2.1 v.2.2.2.1 v.2.2.2.2.1 v.2.2.2.2.2.1 v.2.2.2.2.2.2.1 v.2.2.2.2.2.2.2.1 v.2.2.2.2.2.2.2.2.1 v.2.2.2.2.2.2.2.2.2.1 v.2.2.2.2.2.2.2.2.2.2.1 v.2.2.2.2.2.2.2.2.2.2.2.1 v.2.2.2.2.2.2.2.2.2.2.2.2.1 v.2.2.2.2.2.2.2.2.2.2.2.2.2.1 v.2.2.2.2.2.2.2.2.2.2.2.2.2.2.1 v.2.2.2.2.2.2.2.2.2.2.2.2.2.2.2 (by omega) (by omega) hR
  rw [e1]
  exact ih (t + 1) v' (by omega) (by omega) (e2.trans (congrArg J (by omega))) e3
set_option maxHeartbeats 8000000 in
set_option maxRecDepth 100000 in
theorem law_steps (k L : Nat) (hk : 100000 < k) (xs : Nat → Int32) (hL : L ≤ 2560) : ∀ (n t : Nat) (v : D16), 5 * t ≤ L → L < 5 * t + 5 * n → v.1 = J ((5 * t : Nat) : Int) → RelV v → lp (fL_B18 k L xs) n v = some 1 := by
  intro n
  induction n with
  | zero => intro t v h1 h2; omega
  | succ n ih =>
    intro t v h1 h2 hv hR
    show fL_B18 k L xs (lp (fL_B18 k L xs) n) v = some 1
    unfold fL_B18
    rw [hv]
    unfold fL_h
    have ec : (Int32.ofNat L - 5 < J ((5 * t : Nat) : Int)) = (L < 5 * t + 5) := by
      rw [J_ofNat, J_lit, J_sub, J_lt (by omega)]
      exact propext (by omega)
    by_cases c : L < 5 * t + 5
    · rw [if_pos (ec.mpr c)]
    · rw [if_neg (fun h => c (ec.mp h)), chk_J (by omega)]
      obtain ⟨y, hy, ey⟩ := and31 (xs (J ((5 * t : Nat) : Int)).toNatClampNeg)
      rw [ey]
      by_cases y0 : y = 0
      · rw [if_pos (show J (y : Int) = 0 from by rw [y0]; rfl)]
        exact lw_stp ih (L_0 k L xs hL) hR (by omega) h2
      rw [if_neg (show ¬ J (y : Int) = 0 from fun h => y0 (by rw [J_lit, J_eq (by omega)] at h; omega))]
      by_cases y1 : y = 1
      · rw [if_pos (show J (y : Int) = 1 from by rw [y1]; rfl)]
        exact lw_stp ih (L_1 k L xs hL) hR (by omega) h2
      rw [if_neg (show ¬ J (y : Int) = 1 from fun h => y1 (by rw [J_lit, J_eq (by omega)] at h; omega))]
      by_cases y2 : y = 2
      · rw [if_pos (show J (y : Int) = 2 from by rw [y2]; rfl)]
        exact lw_stp ih (L_2 k L xs hL) hR (by omega) h2
      rw [if_neg (show ¬ J (y : Int) = 2 from fun h => y2 (by rw [J_lit, J_eq (by omega)] at h; omega))]
      by_cases y3 : y = 3
      · rw [if_pos (show J (y : Int) = 3 from by rw [y3]; rfl)]
        exact lw_stp ih (L_3 k L xs hL) hR (by omega) h2
      rw [if_neg (show ¬ J (y : Int) = 3 from fun h => y3 (by rw [J_lit, J_eq (by omega)] at h; omega))]
      by_cases y4 : y = 4
      · rw [if_pos (show J (y : Int) = 4 from by rw [y4]; rfl)]
        exact lw_stp ih (L_4 k L (by omega) xs hL) hR (by omega) h2
      rw [if_neg (show ¬ J (y : Int) = 4 from fun h => y4 (by rw [J_lit, J_eq (by omega)] at h; omega))]
      by_cases y5 : y = 5
      · rw [if_pos (show J (y : Int) = 5 from by rw [y5]; rfl)]
        exact lw_stp ih (L_5 k L (by omega) xs hL) hR (by omega) h2
      rw [if_neg (show ¬ J (y : Int) = 5 from fun h => y5 (by rw [J_lit, J_eq (by omega)] at h; omega))]
      by_cases y6 : y = 6
      · rw [if_pos (show J (y : Int) = 6 from by rw [y6]; rfl)]
        exact lw_stp ih (L_6 k L (by omega) xs hL) hR (by omega) h2
      rw [if_neg (show ¬ J (y : Int) = 6 from fun h => y6 (by rw [J_lit, J_eq (by omega)] at h; omega))]
      by_cases y7 : y = 7
      · rw [if_pos (show J (y : Int) = 7 from by rw [y7]; rfl)]
        exact lw_stp ih (L_7 k L (by omega) xs hL) hR (by omega) h2
      rw [if_neg (show ¬ J (y : Int) = 7 from fun h => y7 (by rw [J_lit, J_eq (by omega)] at h; omega))]
      by_cases y8 : y = 8
      · rw [if_pos (show J (y : Int) = 8 from by rw [y8]; rfl)]
        exact lw_stp ih (L_8 k L (by omega) xs hL) hR (by omega) h2
      rw [if_neg (show ¬ J (y : Int) = 8 from fun h => y8 (by rw [J_lit, J_eq (by omega)] at h; omega))]
      by_cases y9 : y = 9
      · rw [if_pos (show J (y : Int) = 9 from by rw [y9]; rfl)]
        exact lw_stp ih (L_9 k L (by omega) xs hL) hR (by omega) h2
      rw [if_neg (show ¬ J (y : Int) = 9 from fun h => y9 (by rw [J_lit, J_eq (by omega)] at h; omega))]
      by_cases y10 : y = 10
      · rw [if_pos (show J (y : Int) = 10 from by rw [y10]; rfl)]
        exact lw_stp ih (L_10 k L (by omega) xs hL) hR (by omega) h2
      rw [if_neg (show ¬ J (y : Int) = 10 from fun h => y10 (by rw [J_lit, J_eq (by omega)] at h; omega))]
      by_cases y11 : y = 11
      · rw [if_pos (show J (y : Int) = 11 from by rw [y11]; rfl)]
        exact lw_stp ih (L_11 k L (by omega) xs hL) hR (by omega) h2
      rw [if_neg (show ¬ J (y : Int) = 11 from fun h => y11 (by rw [J_lit, J_eq (by omega)] at h; omega))]
      by_cases y12 : y = 12
      · rw [if_pos (show J (y : Int) = 12 from by rw [y12]; rfl)]
        exact lw_stp ih (L_12 k L (by omega) xs hL) hR (by omega) h2
      rw [if_neg (show ¬ J (y : Int) = 12 from fun h => y12 (by rw [J_lit, J_eq (by omega)] at h; omega))]
      by_cases y13 : y = 13
      · rw [if_pos (show J (y : Int) = 13 from by rw [y13]; rfl)]
        exact lw_stp ih (L_13 k L (by omega) xs hL) hR (by omega) h2
      rw [if_neg (show ¬ J (y : Int) = 13 from fun h => y13 (by rw [J_lit, J_eq (by omega)] at h; omega))]
      by_cases y14 : y = 14
      · rw [if_pos (show J (y : Int) = 14 from by rw [y14]; rfl)]
        exact lw_stp ih (L_14 k L (by omega) xs hL) hR (by omega) h2
      rw [if_neg (show ¬ J (y : Int) = 14 from fun h => y14 (by rw [J_lit, J_eq (by omega)] at h; omega))]
      by_cases y15 : y = 15
      · rw [if_pos (show J (y : Int) = 15 from by rw [y15]; rfl)]
        exact lw_stp ih (L_15 k L (by omega) xs hL) hR (by omega) h2
      rw [if_neg (show ¬ J (y : Int) = 15 from fun h => y15 (by rw [J_lit, J_eq (by omega)] at h; omega))]
      by_cases y16 : y = 16
      · rw [if_pos (show J (y : Int) = 16 from by rw [y16]; rfl)]
        exact lw_stp ih (L_16 k L (by omega) xs hL) hR (by omega) h2
      rw [if_neg (show ¬ J (y : Int) = 16 from fun h => y16 (by rw [J_lit, J_eq (by omega)] at h; omega))]
      by_cases y17 : y = 17
      · rw [if_pos (show J (y : Int) = 17 from by rw [y17]; rfl)]
        exact lw_stp ih (L_17 k L (by omega) xs hL) hR (by omega) h2
      rw [if_neg (show ¬ J (y : Int) = 17 from fun h => y17 (by rw [J_lit, J_eq (by omega)] at h; omega))]
      by_cases y18 : y = 18
      · rw [if_pos (show J (y : Int) = 18 from by rw [y18]; rfl)]
        exact lw_stp ih (L_18 k L (by omega) xs hL) hR (by omega) h2
      rw [if_neg (show ¬ J (y : Int) = 18 from fun h => y18 (by rw [J_lit, J_eq (by omega)] at h; omega))]
      by_cases y19 : y = 19
      · rw [if_pos (show J (y : Int) = 19 from by rw [y19]; rfl)]
        exact lw_stp ih (L_19 k L (by omega) xs hL) hR (by omega) h2
      rw [if_neg (show ¬ J (y : Int) = 19 from fun h => y19 (by rw [J_lit, J_eq (by omega)] at h; omega))]
      by_cases y20 : y = 20
      · rw [if_pos (show J (y : Int) = 20 from by rw [y20]; rfl)]
        exact lw_stp ih (L_20 k L (by omega) xs hL) hR (by omega) h2
      rw [if_neg (show ¬ J (y : Int) = 20 from fun h => y20 (by rw [J_lit, J_eq (by omega)] at h; omega))]
      by_cases y21 : y = 21
      · rw [if_pos (show J (y : Int) = 21 from by rw [y21]; rfl)]
        exact lw_stp ih (L_21 k L (by omega) xs hL) hR (by omega) h2
      rw [if_neg (show ¬ J (y : Int) = 21 from fun h => y21 (by rw [J_lit, J_eq (by omega)] at h; omega))]
      by_cases y22 : y = 22
      · rw [if_pos (show J (y : Int) = 22 from by rw [y22]; rfl)]
        exact lw_stp ih (L_22 k L (by omega) xs hL) hR (by omega) h2
      rw [if_neg (show ¬ J (y : Int) = 22 from fun h => y22 (by rw [J_lit, J_eq (by omega)] at h; omega))]
      by_cases y23 : y = 23
      · rw [if_pos (show J (y : Int) = 23 from by rw [y23]; rfl)]
        exact lw_stp ih (L_23 k L (by omega) xs hL) hR (by omega) h2
      rw [if_neg (show ¬ J (y : Int) = 23 from fun h => y23 (by rw [J_lit, J_eq (by omega)] at h; omega))]
      by_cases y24 : y = 24
      · rw [if_pos (show J (y : Int) = 24 from by rw [y24]; rfl)]
        exact lw_stp ih (L_24 k L (by omega) xs hL) hR (by omega) h2
      rw [if_neg (show ¬ J (y : Int) = 24 from fun h => y24 (by rw [J_lit, J_eq (by omega)] at h; omega))]
      by_cases y25 : y = 25
      · rw [if_pos (show J (y : Int) = 25 from by rw [y25]; rfl)]
        exact lw_stp ih (L_25 k L (by omega) xs hL) hR (by omega) h2
      rw [if_neg (show ¬ J (y : Int) = 25 from fun h => y25 (by rw [J_lit, J_eq (by omega)] at h; omega))]
      by_cases y26 : y = 26
      · rw [if_pos (show J (y : Int) = 26 from by rw [y26]; rfl)]
        exact lw_stp ih (L_26 k L (by omega) xs hL) hR (by omega) h2
      rw [if_neg (show ¬ J (y : Int) = 26 from fun h => y26 (by rw [J_lit, J_eq (by omega)] at h; omega))]
      by_cases y27 : y = 27
      · rw [if_pos (show J (y : Int) = 27 from by rw [y27]; rfl)]
        exact lw_stp ih (L_27 k L (by omega) xs hL) hR (by omega) h2
      rw [if_neg (show ¬ J (y : Int) = 27 from fun h => y27 (by rw [J_lit, J_eq (by omega)] at h; omega))]
      by_cases y28 : y = 28
      · rw [if_pos (show J (y : Int) = 28 from by rw [y28]; rfl)]
        exact lw_stp ih (L_28 k L (by omega) xs hL) hR (by omega) h2
      rw [if_neg (show ¬ J (y : Int) = 28 from fun h => y28 (by rw [J_lit, J_eq (by omega)] at h; omega))]
      by_cases y29 : y = 29
      · rw [if_pos (show J (y : Int) = 29 from by rw [y29]; rfl)]
        exact lw_stp ih (L_29 k L (by omega) xs hL) hR (by omega) h2
      rw [if_neg (show ¬ J (y : Int) = 29 from fun h => y29 (by rw [J_lit, J_eq (by omega)] at h; omega))]
      by_cases y30 : y = 30
      · rw [if_pos (show J (y : Int) = 30 from by rw [y30]; rfl)]
        exact lw_stp ih (L_30 k L (by omega) xs hL) hR (by omega) h2
      rw [if_neg (show ¬ J (y : Int) = 30 from fun h => y30 (by rw [J_lit, J_eq (by omega)] at h; omega))]
      by_cases y31 : y = 31
      · rw [if_pos (show J (y : Int) = 31 from by rw [y31]; rfl)]
        exact lw_stp ih (L_31 k L (by omega) xs hL) hR (by omega) h2
      rw [if_neg (show ¬ J (y : Int) = 31 from fun h => y31 (by rw [J_lit, J_eq (by omega)] at h; omega))]
      omega
abbrev v0p : D16 := (0, zX6, zX4, zX0, zX4, zX4, zX0, zX0, zX4, zX0, zX0, zX1, zX5, zX3, zX2, zX7)
theorem rel0 : RelV v0p := by
  let a : Nat → Int := fun i => if i = 18 ∨ i = 19 then -1 else if i = 20 then 3 else 0
  have hz : ∀ i : Nat, (i < 18 ∨ 20 < i) → a i = 0 := fun i h => by
    show (if i = 18 ∨ i = 19 then -1 else if i = 20 then 3 else 0) = _
    rw [if_neg (by omega), if_neg (by omega)]
  have z54 : a 54 = 0 := hz 54 (by omega)
  have z55 : a 55 = 0 := hz 55 (by omega)
  have z56 : a 56 = 0 := hz 56 (by omega)
  have z57 : a 57 = 0 := hz 57 (by omega)
  have z23 : a 23 = 0 := hz 23 (by omega)
  have z21 : a 21 = 0 := hz 21 (by omega)
  have z22 : a 22 = 0 := hz 22 (by omega)
  refine ⟨⟨a, ?_, ⟨⟨rfl, rfl, rfl, rfl, rfl, rfl, rfl⟩, fun w hw => by omega, fun w hw => by omega⟩, ⟨⟨rfl, rfl, rfl⟩, fun p hp => by omega, fun r p hr hp => by omega⟩, ⟨by omega, by omega, ⟨by show (1 : Int) ≤ 3; decide, by show (3 : Int) ≤ 9; decide⟩, by omega, by omega, Or.inl ⟨rfl, rfl⟩, fun i hi => by rw [hz i (by omega)]; omega⟩, ⟨by omega, by omega, by omega, fun p hp => by omega, fun r p hr hp => by omega⟩⟩, ⟨0, by omega, rfl, rfl, fun i hi => by omega⟩, ⟨rfl, rfl, rfl⟩, Or.inl ⟨rfl, rfl⟩, Or.inl ⟨rfl, rfl⟩⟩
  funext i
  show upd (upd (upd (fun _ => 0) (18 : Int32).toNatClampNeg (-1)) (19 : Int32).toNatClampNeg (-1)) (20 : Int32).toNatClampNeg 3 i = J (if i = 18 ∨ i = 19 then -1 else if i = 20 then 3 else 0)
  rw [show (18 : Int32).toNatClampNeg = 18 from by decide, show (19 : Int32).toNatClampNeg = 19 from by decide, show (20 : Int32).toNatClampNeg = 20 from by decide]
  unfold upd
  by_cases e20 : i = 20
  · rw [if_pos e20, if_neg (by omega), if_pos e20]
    rfl
  · by_cases e19 : i = 19
    · rw [if_neg e20, if_pos e19, if_pos (by omega)]
      rfl
    · by_cases e18 : i = 18
      · rw [if_neg e20, if_neg e19, if_pos e18, if_pos (by omega)]
        rfl
      · rw [if_neg e20, if_neg e19, if_neg e18, if_neg (by omega), if_neg e20]
        rfl
theorem law_pure0 (L : Nat) (xs : Nat → Int32) (hL : L ≤ 2560) : ∃ (k n : Nat), lp (fL_B18 k L xs) n v0p = some 1 :=
  ⟨1000000, 513, law_steps 1000000 L (by omega) xs hL 513 0 v0p (by omega) (by omega) rfl rel0⟩
