set_option maxHeartbeats 8000000 in
set_option maxRecDepth 100000 in
theorem mL_h {l : Launch} {p : Program} {e : Env} {s : State} {m : MethodId} {below : List Frame} {meth : Method} {c : Code} {D : va_G} {cs : Nat → ClassId} {sk : Nat → Nat} {b L : Nat} {xs : Nat → Int32} {cl sl : Nat} (h_a1 : Nat) (h_a2 : Nat) (q_a1 : Nat → Nat) (q_a1_0 : Nat → Nat) (q_a1_1 : Nat → Nat) (q_a1_2 : Nat → Nat) (q_a1_2_0 : Nat → Nat) (q_a1_2_1 : Nat → Nat) (q_a1_3 : Nat → Nat) (q_a1_3_0 : Nat → Nat) (q_a1_3_1 : Nat → Nat) (q_a1_5 : Nat → Nat) (q_a1_6 : Nat → Nat) (q_a1_7 : Nat → Nat) (q_a1_8 : Nat → Nat) (q_a1_9 : Nat → Nat) (q_a1_10 : Nat → Nat) (q_a2 : Nat → Nat) (k : Nat) {rec : Int32 × Dat × Dat × Dat × Dat × Dat × Dat × Dat × Dat × Dat × Dat × Dat × Dat × Dat × Dat × Dat → Option Int32} {rv : Int32}
    (M : MC p s m #[Value.ref b] meth c D cs sk (fun q : Nat => s.heap.size ≤ q) RL cL_law 4 ret) (hX : va_X b L xs s s.heap) (hbl : b < s.heap.size) (hcl : cl ≤ room_1.cells ∧ sl ≤ room_1.slots)
    (ih : ∀ v : Int32 × Dat × Dat × Dat × Dat × Dat × Dat × Dat × Dat × Dat × Dat × Dat × Dat × Dat × Dat × Dat, rec v = some rv → ∀ (q_a1_11 : Nat → Nat) (H : Heap) (locs : List Loc) (ls : Array Slot), va_P D vwCl (wL cs h_a1 h_a2 q_a1 q_a1_0 q_a1_1 q_a1_2 q_a1_2_0 q_a1_2_1 q_a1_3 q_a1_3_0 q_a1_3_1 q_a1_5 q_a1_6 q_a1_7 q_a1_8 q_a1_9 q_a1_10 q_a2 (v.2.1) (v.2.2.1) (v.2.2.2.1) (v.2.2.2.2.1) (v.2.2.2.2.2.1) (v.2.2.2.2.2.2.1) (v.2.2.2.2.2.2.2.1) (v.2.2.2.2.2.2.2.2.1) (v.2.2.2.2.2.2.2.2.2.1) (v.2.2.2.2.2.2.2.2.2.2.1) (v.2.2.2.2.2.2.2.2.2.2.2.1) (v.2.2.2.2.2.2.2.2.2.2.2.2.1) (v.2.2.2.2.2.2.2.2.2.2.2.2.2.1) (v.2.2.2.2.2.2.2.2.2.2.2.2.2.2.1) (v.2.2.2.2.2.2.2.2.2.2.2.2.2.2.2) q_a1_11) H → va_D (fun q : Nat => s.heap.size ≤ q) (wL cs h_a1 h_a2 q_a1 q_a1_0 q_a1_1 q_a1_2 q_a1_2_0 q_a1_2_1 q_a1_3 q_a1_3_0 q_a1_3_1 q_a1_5 q_a1_6 q_a1_7 q_a1_8 q_a1_9 q_a1_10 q_a2 (v.2.1) (v.2.2.1) (v.2.2.2.1) (v.2.2.2.2.1) (v.2.2.2.2.2.1) (v.2.2.2.2.2.2.1) (v.2.2.2.2.2.2.2.1) (v.2.2.2.2.2.2.2.2.1) (v.2.2.2.2.2.2.2.2.2.1) (v.2.2.2.2.2.2.2.2.2.2.1) (v.2.2.2.2.2.2.2.2.2.2.2.1) (v.2.2.2.2.2.2.2.2.2.2.2.2.1) (v.2.2.2.2.2.2.2.2.2.2.2.2.2.1) (v.2.2.2.2.2.2.2.2.2.2.2.2.2.2.1) (v.2.2.2.2.2.2.2.2.2.2.2.2.2.2.2) q_a1_11) → va_S (fun q : Nat => s.heap.size ≤ q) s.heap H locs → lv_has ls 4 [(0, .ref b), (1, .ref h_a1), (2, .ref h_a2), (3, .int (v.1))] → W p l e room_1 s m #[Value.ref b] below meth c H locs cl sl (lw_Z below #[Value.ref b] s) (F0 m 18 ls [])) (x3 : Int32) (d_a1 : Dat) (d_a1_0 : Dat) (d_a1_1 : Dat) (d_a1_2_0 : Dat) (d_a1_2_1 : Dat) (d_a1_3_0 : Dat) (d_a1_3_1 : Dat) (d_a1_5 : Dat) (d_a1_6 : Dat) (d_a1_7 : Dat) (d_a1_8 : Dat) (d_a1_9 : Dat) (d_a1_10 : Dat) (d_a1_11 : Dat) (d_a2 : Dat) (hf : fL_h k L xs rec x3 d_a1 d_a1_0 d_a1_1 d_a1_2_0 d_a1_2_1 d_a1_3_0 d_a1_3_1 d_a1_5 d_a1_6 d_a1_7 d_a1_8 d_a1_9 d_a1_10 d_a1_11 d_a2 = some rv) (q_a1_11 : Nat → Nat) (H : Heap) (locs : List Loc) (ls : Array Slot) (hP : va_P D vwCl (wL cs h_a1 h_a2 q_a1 q_a1_0 q_a1_1 q_a1_2 q_a1_2_0 q_a1_2_1 q_a1_3 q_a1_3_0 q_a1_3_1 q_a1_5 q_a1_6 q_a1_7 q_a1_8 q_a1_9 q_a1_10 q_a2 d_a1 d_a1_0 d_a1_1 d_a1_2_0 d_a1_2_1 d_a1_3_0 d_a1_3_1 d_a1_5 d_a1_6 d_a1_7 d_a1_8 d_a1_9 d_a1_10 d_a1_11 d_a2 q_a1_11) H) (hD : va_D (fun q : Nat => s.heap.size ≤ q) (wL cs h_a1 h_a2 q_a1 q_a1_0 q_a1_1 q_a1_2 q_a1_2_0 q_a1_2_1 q_a1_3 q_a1_3_0 q_a1_3_1 q_a1_5 q_a1_6 q_a1_7 q_a1_8 q_a1_9 q_a1_10 q_a2 d_a1 d_a1_0 d_a1_1 d_a1_2_0 d_a1_2_1 d_a1_3_0 d_a1_3_1 d_a1_5 d_a1_6 d_a1_7 d_a1_8 d_a1_9 d_a1_10 d_a1_11 d_a2 q_a1_11)) (hS : va_S (fun q : Nat => s.heap.size ≤ q) s.heap H locs) (hl : lv_has ls 4 [(0, .ref b), (1, .ref h_a1), (2, .ref h_a2), (3, .int x3)]) : W p l e room_1 s m #[Value.ref b] below meth c H locs cl sl (lw_Z below #[Value.ref b] s) (F0 m 18 ls []) := by
  have M0 := M
  have hP0 := hP
  have hD0 := hD
  have hS0 := hS
  have ih0 := ih
  obtain ⟨hx, hb, hml, hT, hown, hlk, hrt, hK, hN, hSE⟩ := id M
  obtain ⟨A, hAe⟩ : ∃ A : Nat → Prop, A = (fun q : Nat => s.heap.size ≤ q) := ⟨_, rfl⟩
  rw [← hAe] at hD hS M hSE
  have hA : ∀ q : Nat, s.heap.size ≤ q → A q := fun _ h => by rw [hAe]; exact h
  have hbA : ¬ A b := by rw [hAe]; exact Nat.not_le.mpr hbl
  rw [← hAe] at ih
  unfold fL_h at hf
  refine lv_iload_n hx hb dL_law_18 rfl (lv_at hl 3 rfl) ?_
  refine lv_aload_n hx hb dL_law_19 rfl (lv_at hl 0 rfl) ?_
  refine va_slen hx hb hX hbl hbA hS dL_law_20 ?_
  refine lv_iconst (v := 5) hx hb dL_law_21 rfl ?_
  refine lv_isub hx hb dL_law_22 ?_
  have g2 := ite_some hf
  refine lv_icmp_gt (tgt := 1089) hx hb dL_law_23 (by decide) (fun c1 => ?_) (fun c1 => ?_)
  · replace hf := g2.1 c1
    refine lv_iconst (v := 1) hx hb dL_law_1089 rfl ?_
    refine va_forget (fun q hq => hS0.2.2 q hq) ?_
    refine W.widen (k := 600000) (n := 7302250) hcl.1 hcl.2 ?_
    exact lw_ret hx hb hrt hlk dL_law_1090
  · replace hf := g2.2 c1
    refine lv_aload_n hx hb dL_law_26 rfl (lv_at hl 0 rfl) ?_
    refine lv_iload_n hx hb dL_law_27 rfl (lv_at hl 3 rfl) ?_
    obtain ⟨hi, hf⟩ := chk_some hf
    refine va_sld hx hb hX hbl hbA hS hi dL_law_28 ?_
    refine lv_bipush (v := 31) hx hb dL_law_29 rfl ?_
    refine lv_iand hx hb dL_law_31 ?_
    have g0 := ite_some hf
    by_cases c0 : ((xs x3.toNatClampNeg) &&& 31) = 0
    · replace hf := g0.1 c0
      refine lv_tableIn (off := 144) (tgt := 176) hx hb dL_law_32 (by rw [c0]; decide) (by rw [c0]; decide) (by rw [c0]; rfl) (by decide) ?_
      exact mL_0 h_a1 h_a2 q_a1 q_a1_0 q_a1_1 q_a1_2 q_a1_2_0 q_a1_2_1 q_a1_3 q_a1_3_0 q_a1_3_1 q_a1_5 q_a1_6 q_a1_7 q_a1_8 q_a1_9 q_a1_10 q_a2 k M0 hX hbl hcl ih0 x3 d_a1 d_a1_0 d_a1_1 d_a1_2_0 d_a1_2_1 d_a1_3_0 d_a1_3_1 d_a1_5 d_a1_6 d_a1_7 d_a1_8 d_a1_9 d_a1_10 d_a1_11 d_a2 hf q_a1_11 H locs ls hP0 hD0 hS0 hl
    replace hf := g0.2 c0
    have g1 := ite_some hf
    by_cases c1 : ((xs x3.toNatClampNeg) &&& 31) = 1
    · replace hf := g1.1 c1
      refine lv_tableIn (off := 177) (tgt := 209) hx hb dL_law_32 (by rw [c1]; decide) (by rw [c1]; decide) (by rw [c1]; rfl) (by decide) ?_
      exact mL_1 h_a1 h_a2 q_a1 q_a1_0 q_a1_1 q_a1_2 q_a1_2_0 q_a1_2_1 q_a1_3 q_a1_3_0 q_a1_3_1 q_a1_5 q_a1_6 q_a1_7 q_a1_8 q_a1_9 q_a1_10 q_a2 k M0 hX hbl hcl ih0 x3 d_a1 d_a1_0 d_a1_1 d_a1_2_0 d_a1_2_1 d_a1_3_0 d_a1_3_1 d_a1_5 d_a1_6 d_a1_7 d_a1_8 d_a1_9 d_a1_10 d_a1_11 d_a2 hf q_a1_11 H locs ls hP0 hD0 hS0 hl
    replace hf := g1.2 c1
    have g2 := ite_some hf
    by_cases c2 : ((xs x3.toNatClampNeg) &&& 31) = 2
    · replace hf := g2.1 c2
      refine lv_tableIn (off := 210) (tgt := 242) hx hb dL_law_32 (by rw [c2]; decide) (by rw [c2]; decide) (by rw [c2]; rfl) (by decide) ?_
      exact mL_2 h_a1 h_a2 q_a1 q_a1_0 q_a1_1 q_a1_2 q_a1_2_0 q_a1_2_1 q_a1_3 q_a1_3_0 q_a1_3_1 q_a1_5 q_a1_6 q_a1_7 q_a1_8 q_a1_9 q_a1_10 q_a2 k M0 hX hbl hcl ih0 x3 d_a1 d_a1_0 d_a1_1 d_a1_2_0 d_a1_2_1 d_a1_3_0 d_a1_3_1 d_a1_5 d_a1_6 d_a1_7 d_a1_8 d_a1_9 d_a1_10 d_a1_11 d_a2 hf q_a1_11 H locs ls hP0 hD0 hS0 hl
    replace hf := g2.2 c2
    have g3 := ite_some hf
    by_cases c3 : ((xs x3.toNatClampNeg) &&& 31) = 3
    · replace hf := g3.1 c3
      refine lv_tableIn (off := 243) (tgt := 275) hx hb dL_law_32 (by rw [c3]; decide) (by rw [c3]; decide) (by rw [c3]; rfl) (by decide) ?_
      exact mL_3 h_a1 h_a2 q_a1 q_a1_0 q_a1_1 q_a1_2 q_a1_2_0 q_a1_2_1 q_a1_3 q_a1_3_0 q_a1_3_1 q_a1_5 q_a1_6 q_a1_7 q_a1_8 q_a1_9 q_a1_10 q_a2 k M0 hX hbl hcl ih0 x3 d_a1 d_a1_0 d_a1_1 d_a1_2_0 d_a1_2_1 d_a1_3_0 d_a1_3_1 d_a1_5 d_a1_6 d_a1_7 d_a1_8 d_a1_9 d_a1_10 d_a1_11 d_a2 hf q_a1_11 H locs ls hP0 hD0 hS0 hl
    replace hf := g3.2 c3
    have g4 := ite_some hf
    by_cases c4 : ((xs x3.toNatClampNeg) &&& 31) = 4
    · replace hf := g4.1 c4
      refine lv_tableIn (off := 276) (tgt := 308) hx hb dL_law_32 (by rw [c4]; decide) (by rw [c4]; decide) (by rw [c4]; rfl) (by decide) ?_
      exact mL_4 h_a1 h_a2 q_a1 q_a1_0 q_a1_1 q_a1_2 q_a1_2_0 q_a1_2_1 q_a1_3 q_a1_3_0 q_a1_3_1 q_a1_5 q_a1_6 q_a1_7 q_a1_8 q_a1_9 q_a1_10 q_a2 k M0 hX hbl hcl ih0 x3 d_a1 d_a1_0 d_a1_1 d_a1_2_0 d_a1_2_1 d_a1_3_0 d_a1_3_1 d_a1_5 d_a1_6 d_a1_7 d_a1_8 d_a1_9 d_a1_10 d_a1_11 d_a2 hf q_a1_11 H locs ls hP0 hD0 hS0 hl
    replace hf := g4.2 c4
    have g5 := ite_some hf
    by_cases c5 : ((xs x3.toNatClampNeg) &&& 31) = 5
    · replace hf := g5.1 c5
      refine lv_tableIn (off := 319) (tgt := 351) hx hb dL_law_32 (by rw [c5]; decide) (by rw [c5]; decide) (by rw [c5]; rfl) (by decide) ?_
      exact mL_5 h_a1 h_a2 q_a1 q_a1_0 q_a1_1 q_a1_2 q_a1_2_0 q_a1_2_1 q_a1_3 q_a1_3_0 q_a1_3_1 q_a1_5 q_a1_6 q_a1_7 q_a1_8 q_a1_9 q_a1_10 q_a2 k M0 hX hbl hcl ih0 x3 d_a1 d_a1_0 d_a1_1 d_a1_2_0 d_a1_2_1 d_a1_3_0 d_a1_3_1 d_a1_5 d_a1_6 d_a1_7 d_a1_8 d_a1_9 d_a1_10 d_a1_11 d_a2 hf q_a1_11 H locs ls hP0 hD0 hS0 hl
    replace hf := g5.2 c5
    have g6 := ite_some hf
    by_cases c6 : ((xs x3.toNatClampNeg) &&& 31) = 6
    · replace hf := g6.1 c6
      refine lv_tableIn (off := 352) (tgt := 384) hx hb dL_law_32 (by rw [c6]; decide) (by rw [c6]; decide) (by rw [c6]; rfl) (by decide) ?_
      exact mL_6 h_a1 h_a2 q_a1 q_a1_0 q_a1_1 q_a1_2 q_a1_2_0 q_a1_2_1 q_a1_3 q_a1_3_0 q_a1_3_1 q_a1_5 q_a1_6 q_a1_7 q_a1_8 q_a1_9 q_a1_10 q_a2 k M0 hX hbl hcl ih0 x3 d_a1 d_a1_0 d_a1_1 d_a1_2_0 d_a1_2_1 d_a1_3_0 d_a1_3_1 d_a1_5 d_a1_6 d_a1_7 d_a1_8 d_a1_9 d_a1_10 d_a1_11 d_a2 hf q_a1_11 H locs ls hP0 hD0 hS0 hl
    replace hf := g6.2 c6
    have g7 := ite_some hf
    by_cases c7 : ((xs x3.toNatClampNeg) &&& 31) = 7
    · replace hf := g7.1 c7
      refine lv_tableIn (off := 385) (tgt := 417) hx hb dL_law_32 (by rw [c7]; decide) (by rw [c7]; decide) (by rw [c7]; rfl) (by decide) ?_
      exact mL_7 h_a1 h_a2 q_a1 q_a1_0 q_a1_1 q_a1_2 q_a1_2_0 q_a1_2_1 q_a1_3 q_a1_3_0 q_a1_3_1 q_a1_5 q_a1_6 q_a1_7 q_a1_8 q_a1_9 q_a1_10 q_a2 k M0 hX hbl hcl ih0 x3 d_a1 d_a1_0 d_a1_1 d_a1_2_0 d_a1_2_1 d_a1_3_0 d_a1_3_1 d_a1_5 d_a1_6 d_a1_7 d_a1_8 d_a1_9 d_a1_10 d_a1_11 d_a2 hf q_a1_11 H locs ls hP0 hD0 hS0 hl
    replace hf := g7.2 c7
    have g8 := ite_some hf
    by_cases c8 : ((xs x3.toNatClampNeg) &&& 31) = 8
    · replace hf := g8.1 c8
      refine lv_tableIn (off := 418) (tgt := 450) hx hb dL_law_32 (by rw [c8]; decide) (by rw [c8]; decide) (by rw [c8]; rfl) (by decide) ?_
      exact mL_8 h_a1 h_a2 q_a1 q_a1_0 q_a1_1 q_a1_2 q_a1_2_0 q_a1_2_1 q_a1_3 q_a1_3_0 q_a1_3_1 q_a1_5 q_a1_6 q_a1_7 q_a1_8 q_a1_9 q_a1_10 q_a2 k M0 hX hbl hcl ih0 x3 d_a1 d_a1_0 d_a1_1 d_a1_2_0 d_a1_2_1 d_a1_3_0 d_a1_3_1 d_a1_5 d_a1_6 d_a1_7 d_a1_8 d_a1_9 d_a1_10 d_a1_11 d_a2 hf q_a1_11 H locs ls hP0 hD0 hS0 hl
    replace hf := g8.2 c8
    have g9 := ite_some hf
    by_cases c9 : ((xs x3.toNatClampNeg) &&& 31) = 9
    · replace hf := g9.1 c9
      refine lv_tableIn (off := 481) (tgt := 513) hx hb dL_law_32 (by rw [c9]; decide) (by rw [c9]; decide) (by rw [c9]; rfl) (by decide) ?_
      exact mL_9 h_a1 h_a2 q_a1 q_a1_0 q_a1_1 q_a1_2 q_a1_2_0 q_a1_2_1 q_a1_3 q_a1_3_0 q_a1_3_1 q_a1_5 q_a1_6 q_a1_7 q_a1_8 q_a1_9 q_a1_10 q_a2 k M0 hX hbl hcl ih0 x3 d_a1 d_a1_0 d_a1_1 d_a1_2_0 d_a1_2_1 d_a1_3_0 d_a1_3_1 d_a1_5 d_a1_6 d_a1_7 d_a1_8 d_a1_9 d_a1_10 d_a1_11 d_a2 hf q_a1_11 H locs ls hP0 hD0 hS0 hl
    replace hf := g9.2 c9
    have g10 := ite_some hf
    by_cases c10 : ((xs x3.toNatClampNeg) &&& 31) = 10
    · replace hf := g10.1 c10
      refine lv_tableIn (off := 494) (tgt := 526) hx hb dL_law_32 (by rw [c10]; decide) (by rw [c10]; decide) (by rw [c10]; rfl) (by decide) ?_
      exact mL_10 h_a1 h_a2 q_a1 q_a1_0 q_a1_1 q_a1_2 q_a1_2_0 q_a1_2_1 q_a1_3 q_a1_3_0 q_a1_3_1 q_a1_5 q_a1_6 q_a1_7 q_a1_8 q_a1_9 q_a1_10 q_a2 k M0 hX hbl hcl ih0 x3 d_a1 d_a1_0 d_a1_1 d_a1_2_0 d_a1_2_1 d_a1_3_0 d_a1_3_1 d_a1_5 d_a1_6 d_a1_7 d_a1_8 d_a1_9 d_a1_10 d_a1_11 d_a2 hf q_a1_11 H locs ls hP0 hD0 hS0 hl
    replace hf := g10.2 c10
    have g11 := ite_some hf
    by_cases c11 : ((xs x3.toNatClampNeg) &&& 31) = 11
    · replace hf := g11.1 c11
      refine lv_tableIn (off := 507) (tgt := 539) hx hb dL_law_32 (by rw [c11]; decide) (by rw [c11]; decide) (by rw [c11]; rfl) (by decide) ?_
      exact mL_11 h_a1 h_a2 q_a1 q_a1_0 q_a1_1 q_a1_2 q_a1_2_0 q_a1_2_1 q_a1_3 q_a1_3_0 q_a1_3_1 q_a1_5 q_a1_6 q_a1_7 q_a1_8 q_a1_9 q_a1_10 q_a2 k M0 hX hbl hcl ih0 x3 d_a1 d_a1_0 d_a1_1 d_a1_2_0 d_a1_2_1 d_a1_3_0 d_a1_3_1 d_a1_5 d_a1_6 d_a1_7 d_a1_8 d_a1_9 d_a1_10 d_a1_11 d_a2 hf q_a1_11 H locs ls hP0 hD0 hS0 hl
    replace hf := g11.2 c11
    have g12 := ite_some hf
    by_cases c12 : ((xs x3.toNatClampNeg) &&& 31) = 12
    · replace hf := g12.1 c12
      refine lv_tableIn (off := 550) (tgt := 582) hx hb dL_law_32 (by rw [c12]; decide) (by rw [c12]; decide) (by rw [c12]; rfl) (by decide) ?_
      exact mL_12 h_a1 h_a2 q_a1 q_a1_0 q_a1_1 q_a1_2 q_a1_2_0 q_a1_2_1 q_a1_3 q_a1_3_0 q_a1_3_1 q_a1_5 q_a1_6 q_a1_7 q_a1_8 q_a1_9 q_a1_10 q_a2 k M0 hX hbl hcl ih0 x3 d_a1 d_a1_0 d_a1_1 d_a1_2_0 d_a1_2_1 d_a1_3_0 d_a1_3_1 d_a1_5 d_a1_6 d_a1_7 d_a1_8 d_a1_9 d_a1_10 d_a1_11 d_a2 hf q_a1_11 H locs ls hP0 hD0 hS0 hl
    replace hf := g12.2 c12
    have g13 := ite_some hf
    by_cases c13 : ((xs x3.toNatClampNeg) &&& 31) = 13
    · replace hf := g13.1 c13
      refine lv_tableIn (off := 583) (tgt := 615) hx hb dL_law_32 (by rw [c13]; decide) (by rw [c13]; decide) (by rw [c13]; rfl) (by decide) ?_
      exact mL_13 h_a1 h_a2 q_a1 q_a1_0 q_a1_1 q_a1_2 q_a1_2_0 q_a1_2_1 q_a1_3 q_a1_3_0 q_a1_3_1 q_a1_5 q_a1_6 q_a1_7 q_a1_8 q_a1_9 q_a1_10 q_a2 k M0 hX hbl hcl ih0 x3 d_a1 d_a1_0 d_a1_1 d_a1_2_0 d_a1_2_1 d_a1_3_0 d_a1_3_1 d_a1_5 d_a1_6 d_a1_7 d_a1_8 d_a1_9 d_a1_10 d_a1_11 d_a2 hf q_a1_11 H locs ls hP0 hD0 hS0 hl
    replace hf := g13.2 c13
    have g14 := ite_some hf
    by_cases c14 : ((xs x3.toNatClampNeg) &&& 31) = 14
    · replace hf := g14.1 c14
      refine lv_tableIn (off := 606) (tgt := 638) hx hb dL_law_32 (by rw [c14]; decide) (by rw [c14]; decide) (by rw [c14]; rfl) (by decide) ?_
      exact mL_14 h_a1 h_a2 q_a1 q_a1_0 q_a1_1 q_a1_2 q_a1_2_0 q_a1_2_1 q_a1_3 q_a1_3_0 q_a1_3_1 q_a1_5 q_a1_6 q_a1_7 q_a1_8 q_a1_9 q_a1_10 q_a2 k M0 hX hbl hcl ih0 x3 d_a1 d_a1_0 d_a1_1 d_a1_2_0 d_a1_2_1 d_a1_3_0 d_a1_3_1 d_a1_5 d_a1_6 d_a1_7 d_a1_8 d_a1_9 d_a1_10 d_a1_11 d_a2 hf q_a1_11 H locs ls hP0 hD0 hS0 hl
    replace hf := g14.2 c14
    have g15 := ite_some hf
    by_cases c15 : ((xs x3.toNatClampNeg) &&& 31) = 15
    · replace hf := g15.1 c15
      refine lv_tableIn (off := 629) (tgt := 661) hx hb dL_law_32 (by rw [c15]; decide) (by rw [c15]; decide) (by rw [c15]; rfl) (by decide) ?_
      exact mL_15 h_a1 h_a2 q_a1 q_a1_0 q_a1_1 q_a1_2 q_a1_2_0 q_a1_2_1 q_a1_3 q_a1_3_0 q_a1_3_1 q_a1_5 q_a1_6 q_a1_7 q_a1_8 q_a1_9 q_a1_10 q_a2 k M0 hX hbl hcl ih0 x3 d_a1 d_a1_0 d_a1_1 d_a1_2_0 d_a1_2_1 d_a1_3_0 d_a1_3_1 d_a1_5 d_a1_6 d_a1_7 d_a1_8 d_a1_9 d_a1_10 d_a1_11 d_a2 hf q_a1_11 H locs ls hP0 hD0 hS0 hl
    replace hf := g15.2 c15
    have g16 := ite_some hf
    by_cases c16 : ((xs x3.toNatClampNeg) &&& 31) = 16
    · replace hf := g16.1 c16
      refine lv_tableIn (off := 662) (tgt := 694) hx hb dL_law_32 (by rw [c16]; decide) (by rw [c16]; decide) (by rw [c16]; rfl) (by decide) ?_
      exact mL_16 h_a1 h_a2 q_a1 q_a1_0 q_a1_1 q_a1_2 q_a1_2_0 q_a1_2_1 q_a1_3 q_a1_3_0 q_a1_3_1 q_a1_5 q_a1_6 q_a1_7 q_a1_8 q_a1_9 q_a1_10 q_a2 k M0 hX hbl hcl ih0 x3 d_a1 d_a1_0 d_a1_1 d_a1_2_0 d_a1_2_1 d_a1_3_0 d_a1_3_1 d_a1_5 d_a1_6 d_a1_7 d_a1_8 d_a1_9 d_a1_10 d_a1_11 d_a2 hf q_a1_11 H locs ls hP0 hD0 hS0 hl
    replace hf := g16.2 c16
    have g17 := ite_some hf
    by_cases c17 : ((xs x3.toNatClampNeg) &&& 31) = 17
    · replace hf := g17.1 c17
      refine lv_tableIn (off := 685) (tgt := 717) hx hb dL_law_32 (by rw [c17]; decide) (by rw [c17]; decide) (by rw [c17]; rfl) (by decide) ?_
      exact mL_17 h_a1 h_a2 q_a1 q_a1_0 q_a1_1 q_a1_2 q_a1_2_0 q_a1_2_1 q_a1_3 q_a1_3_0 q_a1_3_1 q_a1_5 q_a1_6 q_a1_7 q_a1_8 q_a1_9 q_a1_10 q_a2 k M0 hX hbl hcl ih0 x3 d_a1 d_a1_0 d_a1_1 d_a1_2_0 d_a1_2_1 d_a1_3_0 d_a1_3_1 d_a1_5 d_a1_6 d_a1_7 d_a1_8 d_a1_9 d_a1_10 d_a1_11 d_a2 hf q_a1_11 H locs ls hP0 hD0 hS0 hl
    replace hf := g17.2 c17
    have g18 := ite_some hf
    by_cases c18 : ((xs x3.toNatClampNeg) &&& 31) = 18
    · replace hf := g18.1 c18
      refine lv_tableIn (off := 708) (tgt := 740) hx hb dL_law_32 (by rw [c18]; decide) (by rw [c18]; decide) (by rw [c18]; rfl) (by decide) ?_
      exact mL_18 h_a1 h_a2 q_a1 q_a1_0 q_a1_1 q_a1_2 q_a1_2_0 q_a1_2_1 q_a1_3 q_a1_3_0 q_a1_3_1 q_a1_5 q_a1_6 q_a1_7 q_a1_8 q_a1_9 q_a1_10 q_a2 k M0 hX hbl hcl ih0 x3 d_a1 d_a1_0 d_a1_1 d_a1_2_0 d_a1_2_1 d_a1_3_0 d_a1_3_1 d_a1_5 d_a1_6 d_a1_7 d_a1_8 d_a1_9 d_a1_10 d_a1_11 d_a2 hf q_a1_11 H locs ls hP0 hD0 hS0 hl
    replace hf := g18.2 c18
    have g19 := ite_some hf
    by_cases c19 : ((xs x3.toNatClampNeg) &&& 31) = 19
    · replace hf := g19.1 c19
      refine lv_tableIn (off := 741) (tgt := 773) hx hb dL_law_32 (by rw [c19]; decide) (by rw [c19]; decide) (by rw [c19]; rfl) (by decide) ?_
      exact mL_19 h_a1 h_a2 q_a1 q_a1_0 q_a1_1 q_a1_2 q_a1_2_0 q_a1_2_1 q_a1_3 q_a1_3_0 q_a1_3_1 q_a1_5 q_a1_6 q_a1_7 q_a1_8 q_a1_9 q_a1_10 q_a2 k M0 hX hbl hcl ih0 x3 d_a1 d_a1_0 d_a1_1 d_a1_2_0 d_a1_2_1 d_a1_3_0 d_a1_3_1 d_a1_5 d_a1_6 d_a1_7 d_a1_8 d_a1_9 d_a1_10 d_a1_11 d_a2 hf q_a1_11 H locs ls hP0 hD0 hS0 hl
    replace hf := g19.2 c19
    have g20 := ite_some hf
    by_cases c20 : ((xs x3.toNatClampNeg) &&& 31) = 20
    · replace hf := g20.1 c20
      refine lv_tableIn (off := 754) (tgt := 786) hx hb dL_law_32 (by rw [c20]; decide) (by rw [c20]; decide) (by rw [c20]; rfl) (by decide) ?_
      exact mL_20 h_a1 h_a2 q_a1 q_a1_0 q_a1_1 q_a1_2 q_a1_2_0 q_a1_2_1 q_a1_3 q_a1_3_0 q_a1_3_1 q_a1_5 q_a1_6 q_a1_7 q_a1_8 q_a1_9 q_a1_10 q_a2 k M0 hX hbl hcl ih0 x3 d_a1 d_a1_0 d_a1_1 d_a1_2_0 d_a1_2_1 d_a1_3_0 d_a1_3_1 d_a1_5 d_a1_6 d_a1_7 d_a1_8 d_a1_9 d_a1_10 d_a1_11 d_a2 hf q_a1_11 H locs ls hP0 hD0 hS0 hl
    replace hf := g20.2 c20
    have g21 := ite_some hf
    by_cases c21 : ((xs x3.toNatClampNeg) &&& 31) = 21
    · replace hf := g21.1 c21
      refine lv_tableIn (off := 767) (tgt := 799) hx hb dL_law_32 (by rw [c21]; decide) (by rw [c21]; decide) (by rw [c21]; rfl) (by decide) ?_
      exact mL_21 h_a1 h_a2 q_a1 q_a1_0 q_a1_1 q_a1_2 q_a1_2_0 q_a1_2_1 q_a1_3 q_a1_3_0 q_a1_3_1 q_a1_5 q_a1_6 q_a1_7 q_a1_8 q_a1_9 q_a1_10 q_a2 k M0 hX hbl hcl ih0 x3 d_a1 d_a1_0 d_a1_1 d_a1_2_0 d_a1_2_1 d_a1_3_0 d_a1_3_1 d_a1_5 d_a1_6 d_a1_7 d_a1_8 d_a1_9 d_a1_10 d_a1_11 d_a2 hf q_a1_11 H locs ls hP0 hD0 hS0 hl
    replace hf := g21.2 c21
    have g22 := ite_some hf
    by_cases c22 : ((xs x3.toNatClampNeg) &&& 31) = 22
    · replace hf := g22.1 c22
      refine lv_tableIn (off := 780) (tgt := 812) hx hb dL_law_32 (by rw [c22]; decide) (by rw [c22]; decide) (by rw [c22]; rfl) (by decide) ?_
      exact mL_22 h_a1 h_a2 q_a1 q_a1_0 q_a1_1 q_a1_2 q_a1_2_0 q_a1_2_1 q_a1_3 q_a1_3_0 q_a1_3_1 q_a1_5 q_a1_6 q_a1_7 q_a1_8 q_a1_9 q_a1_10 q_a2 k M0 hX hbl hcl ih0 x3 d_a1 d_a1_0 d_a1_1 d_a1_2_0 d_a1_2_1 d_a1_3_0 d_a1_3_1 d_a1_5 d_a1_6 d_a1_7 d_a1_8 d_a1_9 d_a1_10 d_a1_11 d_a2 hf q_a1_11 H locs ls hP0 hD0 hS0 hl
    replace hf := g22.2 c22
    have g23 := ite_some hf
    by_cases c23 : ((xs x3.toNatClampNeg) &&& 31) = 23
    · replace hf := g23.1 c23
      refine lv_tableIn (off := 823) (tgt := 855) hx hb dL_law_32 (by rw [c23]; decide) (by rw [c23]; decide) (by rw [c23]; rfl) (by decide) ?_
      exact mL_23 h_a1 h_a2 q_a1 q_a1_0 q_a1_1 q_a1_2 q_a1_2_0 q_a1_2_1 q_a1_3 q_a1_3_0 q_a1_3_1 q_a1_5 q_a1_6 q_a1_7 q_a1_8 q_a1_9 q_a1_10 q_a2 k M0 hX hbl hcl ih0 x3 d_a1 d_a1_0 d_a1_1 d_a1_2_0 d_a1_2_1 d_a1_3_0 d_a1_3_1 d_a1_5 d_a1_6 d_a1_7 d_a1_8 d_a1_9 d_a1_10 d_a1_11 d_a2 hf q_a1_11 H locs ls hP0 hD0 hS0 hl
    replace hf := g23.2 c23
    have g24 := ite_some hf
    by_cases c24 : ((xs x3.toNatClampNeg) &&& 31) = 24
    · replace hf := g24.1 c24
      refine lv_tableIn (off := 846) (tgt := 878) hx hb dL_law_32 (by rw [c24]; decide) (by rw [c24]; decide) (by rw [c24]; rfl) (by decide) ?_
      exact mL_24 h_a1 h_a2 q_a1 q_a1_0 q_a1_1 q_a1_2 q_a1_2_0 q_a1_2_1 q_a1_3 q_a1_3_0 q_a1_3_1 q_a1_5 q_a1_6 q_a1_7 q_a1_8 q_a1_9 q_a1_10 q_a2 k M0 hX hbl hcl ih0 x3 d_a1 d_a1_0 d_a1_1 d_a1_2_0 d_a1_2_1 d_a1_3_0 d_a1_3_1 d_a1_5 d_a1_6 d_a1_7 d_a1_8 d_a1_9 d_a1_10 d_a1_11 d_a2 hf q_a1_11 H locs ls hP0 hD0 hS0 hl
    replace hf := g24.2 c24
    have g25 := ite_some hf
    by_cases c25 : ((xs x3.toNatClampNeg) &&& 31) = 25
    · replace hf := g25.1 c25
      refine lv_tableIn (off := 899) (tgt := 931) hx hb dL_law_32 (by rw [c25]; decide) (by rw [c25]; decide) (by rw [c25]; rfl) (by decide) ?_
      exact mL_25 h_a1 h_a2 q_a1 q_a1_0 q_a1_1 q_a1_2 q_a1_2_0 q_a1_2_1 q_a1_3 q_a1_3_0 q_a1_3_1 q_a1_5 q_a1_6 q_a1_7 q_a1_8 q_a1_9 q_a1_10 q_a2 k M0 hX hbl hcl ih0 x3 d_a1 d_a1_0 d_a1_1 d_a1_2_0 d_a1_2_1 d_a1_3_0 d_a1_3_1 d_a1_5 d_a1_6 d_a1_7 d_a1_8 d_a1_9 d_a1_10 d_a1_11 d_a2 hf q_a1_11 H locs ls hP0 hD0 hS0 hl
    replace hf := g25.2 c25
    have g26 := ite_some hf
    by_cases c26 : ((xs x3.toNatClampNeg) &&& 31) = 26
    · replace hf := g26.1 c26
      refine lv_tableIn (off := 922) (tgt := 954) hx hb dL_law_32 (by rw [c26]; decide) (by rw [c26]; decide) (by rw [c26]; rfl) (by decide) ?_
      exact mL_26 h_a1 h_a2 q_a1 q_a1_0 q_a1_1 q_a1_2 q_a1_2_0 q_a1_2_1 q_a1_3 q_a1_3_0 q_a1_3_1 q_a1_5 q_a1_6 q_a1_7 q_a1_8 q_a1_9 q_a1_10 q_a2 k M0 hX hbl hcl ih0 x3 d_a1 d_a1_0 d_a1_1 d_a1_2_0 d_a1_2_1 d_a1_3_0 d_a1_3_1 d_a1_5 d_a1_6 d_a1_7 d_a1_8 d_a1_9 d_a1_10 d_a1_11 d_a2 hf q_a1_11 H locs ls hP0 hD0 hS0 hl
    replace hf := g26.2 c26
    have g27 := ite_some hf
    by_cases c27 : ((xs x3.toNatClampNeg) &&& 31) = 27
    · replace hf := g27.1 c27
      refine lv_tableIn (off := 945) (tgt := 977) hx hb dL_law_32 (by rw [c27]; decide) (by rw [c27]; decide) (by rw [c27]; rfl) (by decide) ?_
      exact mL_27 h_a1 h_a2 q_a1 q_a1_0 q_a1_1 q_a1_2 q_a1_2_0 q_a1_2_1 q_a1_3 q_a1_3_0 q_a1_3_1 q_a1_5 q_a1_6 q_a1_7 q_a1_8 q_a1_9 q_a1_10 q_a2 k M0 hX hbl hcl ih0 x3 d_a1 d_a1_0 d_a1_1 d_a1_2_0 d_a1_2_1 d_a1_3_0 d_a1_3_1 d_a1_5 d_a1_6 d_a1_7 d_a1_8 d_a1_9 d_a1_10 d_a1_11 d_a2 hf q_a1_11 H locs ls hP0 hD0 hS0 hl
    replace hf := g27.2 c27
    have g28 := ite_some hf
    by_cases c28 : ((xs x3.toNatClampNeg) &&& 31) = 28
    · replace hf := g28.1 c28
      refine lv_tableIn (off := 968) (tgt := 1000) hx hb dL_law_32 (by rw [c28]; decide) (by rw [c28]; decide) (by rw [c28]; rfl) (by decide) ?_
      exact mL_28 h_a1 h_a2 q_a1 q_a1_0 q_a1_1 q_a1_2 q_a1_2_0 q_a1_2_1 q_a1_3 q_a1_3_0 q_a1_3_1 q_a1_5 q_a1_6 q_a1_7 q_a1_8 q_a1_9 q_a1_10 q_a2 k M0 hX hbl hcl ih0 x3 d_a1 d_a1_0 d_a1_1 d_a1_2_0 d_a1_2_1 d_a1_3_0 d_a1_3_1 d_a1_5 d_a1_6 d_a1_7 d_a1_8 d_a1_9 d_a1_10 d_a1_11 d_a2 hf q_a1_11 H locs ls hP0 hD0 hS0 hl
    replace hf := g28.2 c28
    have g29 := ite_some hf
    by_cases c29 : ((xs x3.toNatClampNeg) &&& 31) = 29
    · replace hf := g29.1 c29
      refine lv_tableIn (off := 991) (tgt := 1023) hx hb dL_law_32 (by rw [c29]; decide) (by rw [c29]; decide) (by rw [c29]; rfl) (by decide) ?_
      exact mL_29 h_a1 h_a2 q_a1 q_a1_0 q_a1_1 q_a1_2 q_a1_2_0 q_a1_2_1 q_a1_3 q_a1_3_0 q_a1_3_1 q_a1_5 q_a1_6 q_a1_7 q_a1_8 q_a1_9 q_a1_10 q_a2 k M0 hX hbl hcl ih0 x3 d_a1 d_a1_0 d_a1_1 d_a1_2_0 d_a1_2_1 d_a1_3_0 d_a1_3_1 d_a1_5 d_a1_6 d_a1_7 d_a1_8 d_a1_9 d_a1_10 d_a1_11 d_a2 hf q_a1_11 H locs ls hP0 hD0 hS0 hl
    replace hf := g29.2 c29
    have g30 := ite_some hf
    by_cases c30 : ((xs x3.toNatClampNeg) &&& 31) = 30
    · replace hf := g30.1 c30
      refine lv_tableIn (off := 1014) (tgt := 1046) hx hb dL_law_32 (by rw [c30]; decide) (by rw [c30]; decide) (by rw [c30]; rfl) (by decide) ?_
      exact mL_30 h_a1 h_a2 q_a1 q_a1_0 q_a1_1 q_a1_2 q_a1_2_0 q_a1_2_1 q_a1_3 q_a1_3_0 q_a1_3_1 q_a1_5 q_a1_6 q_a1_7 q_a1_8 q_a1_9 q_a1_10 q_a2 k M0 hX hbl hcl ih0 x3 d_a1 d_a1_0 d_a1_1 d_a1_2_0 d_a1_2_1 d_a1_3_0 d_a1_3_1 d_a1_5 d_a1_6 d_a1_7 d_a1_8 d_a1_9 d_a1_10 d_a1_11 d_a2 hf q_a1_11 H locs ls hP0 hD0 hS0 hl
    replace hf := g30.2 c30
    have g31 := ite_some hf
    by_cases c31 : ((xs x3.toNatClampNeg) &&& 31) = 31
    · replace hf := g31.1 c31
      refine lv_tableIn (off := 1037) (tgt := 1069) hx hb dL_law_32 (by rw [c31]; decide) (by rw [c31]; decide) (by rw [c31]; rfl) (by decide) ?_
      exact mL_31 h_a1 h_a2 q_a1 q_a1_0 q_a1_1 q_a1_2 q_a1_2_0 q_a1_2_1 q_a1_3 q_a1_3_0 q_a1_3_1 q_a1_5 q_a1_6 q_a1_7 q_a1_8 q_a1_9 q_a1_10 q_a2 k M0 hX hbl hcl ih0 x3 d_a1 d_a1_0 d_a1_1 d_a1_2_0 d_a1_2_1 d_a1_3_0 d_a1_3_1 d_a1_5 d_a1_6 d_a1_7 d_a1_8 d_a1_9 d_a1_10 d_a1_11 d_a2 hf q_a1_11 H locs ls hP0 hD0 hS0 hl
    replace hf := g31.2 c31
    exact none_some hf
set_option maxHeartbeats 8000000 in
set_option maxRecDepth 100000 in
theorem mL_B18 {l : Launch} {p : Program} {e : Env} {s : State} {m : MethodId} {below : List Frame} {meth : Method} {c : Code} {D : va_G} {cs : Nat → ClassId} {sk : Nat → Nat} {b L : Nat} {xs : Nat → Int32} {cl sl : Nat} (h_a1 : Nat) (h_a2 : Nat) (q_a1 : Nat → Nat) (q_a1_0 : Nat → Nat) (q_a1_1 : Nat → Nat) (q_a1_2 : Nat → Nat) (q_a1_2_0 : Nat → Nat) (q_a1_2_1 : Nat → Nat) (q_a1_3 : Nat → Nat) (q_a1_3_0 : Nat → Nat) (q_a1_3_1 : Nat → Nat) (q_a1_5 : Nat → Nat) (q_a1_6 : Nat → Nat) (q_a1_7 : Nat → Nat) (q_a1_8 : Nat → Nat) (q_a1_9 : Nat → Nat) (q_a1_10 : Nat → Nat) (q_a2 : Nat → Nat) (k : Nat) {rv : Int32}
    (M : MC p s m #[Value.ref b] meth c D cs sk (fun q : Nat => s.heap.size ≤ q) RL cL_law 4 ret) (hX : va_X b L xs s s.heap) (hbl : b < s.heap.size) (hcl : cl ≤ room_1.cells ∧ sl ≤ room_1.slots) : ∀ (n : Nat) (v : Int32 × Dat × Dat × Dat × Dat × Dat × Dat × Dat × Dat × Dat × Dat × Dat × Dat × Dat × Dat × Dat), lp (fL_B18 k L xs) n v = some rv → ∀ (q_a1_11 : Nat → Nat) (H : Heap) (locs : List Loc) (ls : Array Slot), va_P D vwCl (wL cs h_a1 h_a2 q_a1 q_a1_0 q_a1_1 q_a1_2 q_a1_2_0 q_a1_2_1 q_a1_3 q_a1_3_0 q_a1_3_1 q_a1_5 q_a1_6 q_a1_7 q_a1_8 q_a1_9 q_a1_10 q_a2 (v.2.1) (v.2.2.1) (v.2.2.2.1) (v.2.2.2.2.1) (v.2.2.2.2.2.1) (v.2.2.2.2.2.2.1) (v.2.2.2.2.2.2.2.1) (v.2.2.2.2.2.2.2.2.1) (v.2.2.2.2.2.2.2.2.2.1) (v.2.2.2.2.2.2.2.2.2.2.1) (v.2.2.2.2.2.2.2.2.2.2.2.1) (v.2.2.2.2.2.2.2.2.2.2.2.2.1) (v.2.2.2.2.2.2.2.2.2.2.2.2.2.1) (v.2.2.2.2.2.2.2.2.2.2.2.2.2.2.1) (v.2.2.2.2.2.2.2.2.2.2.2.2.2.2.2) q_a1_11) H → va_D (fun q : Nat => s.heap.size ≤ q) (wL cs h_a1 h_a2 q_a1 q_a1_0 q_a1_1 q_a1_2 q_a1_2_0 q_a1_2_1 q_a1_3 q_a1_3_0 q_a1_3_1 q_a1_5 q_a1_6 q_a1_7 q_a1_8 q_a1_9 q_a1_10 q_a2 (v.2.1) (v.2.2.1) (v.2.2.2.1) (v.2.2.2.2.1) (v.2.2.2.2.2.1) (v.2.2.2.2.2.2.1) (v.2.2.2.2.2.2.2.1) (v.2.2.2.2.2.2.2.2.1) (v.2.2.2.2.2.2.2.2.2.1) (v.2.2.2.2.2.2.2.2.2.2.1) (v.2.2.2.2.2.2.2.2.2.2.2.1) (v.2.2.2.2.2.2.2.2.2.2.2.2.1) (v.2.2.2.2.2.2.2.2.2.2.2.2.2.1) (v.2.2.2.2.2.2.2.2.2.2.2.2.2.2.1) (v.2.2.2.2.2.2.2.2.2.2.2.2.2.2.2) q_a1_11) → va_S (fun q : Nat => s.heap.size ≤ q) s.heap H locs → lv_has ls 4 [(0, .ref b), (1, .ref h_a1), (2, .ref h_a2), (3, .int (v.1))] → W p l e room_1 s m #[Value.ref b] below meth c H locs cl sl (lw_Z below #[Value.ref b] s) (F0 m 18 ls []) := by
  refine lp_ind (fun rec ih v hf q_a1_11 H locs ls hP hD hS hl => ?_)
  exact mL_h h_a1 h_a2 q_a1 q_a1_0 q_a1_1 q_a1_2 q_a1_2_0 q_a1_2_1 q_a1_3 q_a1_3_0 q_a1_3_1 q_a1_5 q_a1_6 q_a1_7 q_a1_8 q_a1_9 q_a1_10 q_a2 k M hX hbl hcl ih (v.1) (v.2.1) (v.2.2.1) (v.2.2.2.1) (v.2.2.2.2.1) (v.2.2.2.2.2.1) (v.2.2.2.2.2.2.1) (v.2.2.2.2.2.2.2.1) (v.2.2.2.2.2.2.2.2.1) (v.2.2.2.2.2.2.2.2.2.1) (v.2.2.2.2.2.2.2.2.2.2.1) (v.2.2.2.2.2.2.2.2.2.2.2.1) (v.2.2.2.2.2.2.2.2.2.2.2.2.1) (v.2.2.2.2.2.2.2.2.2.2.2.2.2.1) (v.2.2.2.2.2.2.2.2.2.2.2.2.2.2.1) (v.2.2.2.2.2.2.2.2.2.2.2.2.2.2.2) hf q_a1_11 H locs ls hP hD hS hl
