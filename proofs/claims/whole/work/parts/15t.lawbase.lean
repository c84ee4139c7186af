/-! The law's calls: a callee's cells back at ascending places, in one pass -/
def setM : Nat → va_W → List Nat → va_W → va_W
  | i, x :: xs, k :: ks, q :: qs => match Nat.beq i k with
    | true => q :: setM (i + 1) xs ks qs
    | false => x :: setM (i + 1) xs (k :: ks) (q :: qs)
  | _, xs, _, _ => xs
def ascB : Nat → List Nat → Bool
  | _, [] => true
  | i, k :: ks => Nat.ble i k && ascB (k + 1) ks
theorem setAll_nil (is : List Nat) : ∀ qs : va_W, setAll [] is qs = [] := by
  induction is with
  | nil => intro qs; cases qs <;> rfl
  | cons i is ih => intro qs; cases qs with
    | nil => rfl
    | cons q qs => exact ih qs
theorem setAll_succ (js : List Nat) : ∀ (y : Nat × va_E) (xs qs : va_W), setAll (y :: xs) (js.map (fun j => j + 1)) qs = y :: setAll xs js qs := by
  induction js with
  | nil => intro y xs qs; cases qs <;> rfl
  | cons j js ih => intro y xs qs; cases qs with
    | nil => rfl
    | cons q qs => exact ih y (xs.set j q) qs
theorem ascB_le {i : Nat} {is : List Nat} (h : ascB i is = true) : ∀ k ∈ is, i ≤ k := by
  induction is generalizing i with
  | nil => intro k hk; cases hk
  | cons a as ih =>
    simp only [ascB, Bool.and_eq_true] at h
    have h1 : i ≤ a := Nat.le_of_ble_eq_true h.1
    intro k hk
    rcases List.mem_cons.mp hk with e | e
    · omega
    · have := ih h.2 k e
      omega
theorem map_sub_succ {i : Nat} {is : List Nat} (h : ∀ k ∈ is, i + 1 ≤ k) : is.map (fun k => k - i) = (is.map (fun k => k - (i + 1))).map (fun j => j + 1) := by
  rw [List.map_map]
  apply List.map_congr_left
  intro k hk
  have := h k hk
  show k - i = k - (i + 1) + 1
  omega
theorem setM_eq (ws : va_W) : ∀ (i : Nat) (is : List Nat) (qs : va_W), ascB i is = true → setM i ws is qs = setAll ws (is.map (fun k => k - i)) qs := by
  induction ws with
  | nil => intro i is qs _; rw [setAll_nil]; cases is <;> cases qs <;> rfl
  | cons x xs ih =>
    intro i is qs h
    cases is with
    | nil => cases qs <;> rfl
    | cons k ks =>
      cases qs with
      | nil => rfl
      | cons q qs =>
        simp only [ascB, Bool.and_eq_true] at h
        have h1 : i ≤ k := Nat.le_of_ble_eq_true h.1
        by_cases e : i = k
        · subst e
          have h2 := map_sub_succ (ascB_le h.2)
          show (match Nat.beq i i with | true => q :: setM (i + 1) xs ks qs | false => x :: setM (i + 1) xs (i :: ks) (q :: qs)) = _
          rw [Nat.beq_refl]
          show q :: setM (i + 1) xs ks qs = setAll ((x :: xs).set (i - i) q) (ks.map (fun k => k - i)) qs
          rw [Nat.sub_self, h2, ih (i + 1) ks qs h.2]
          exact (setAll_succ _ _ _ _).symm
        · have e2 : Nat.beq i k = false := by
            cases hb : Nat.beq i k with
            | true => exact absurd (Nat.eq_of_beq_eq_true hb) e
            | false => rfl
          have hh : ascB (i + 1) (k :: ks) = true := by
            simp only [ascB, Bool.and_eq_true]
            exact ⟨Nat.ble_eq_true_of_le (by omega), h.2⟩
          show (match Nat.beq i k with | true => q :: setM (i + 1) xs ks qs | false => x :: setM (i + 1) xs (k :: ks) (q :: qs)) = _
          rw [e2]
          show x :: setM (i + 1) xs (k :: ks) (q :: qs) = _
          rw [ih (i + 1) (k :: ks) (q :: qs) hh, map_sub_succ (ascB_le hh)]
          exact (setAll_succ _ _ _ _).symm
theorem setM_0 {ws : va_W} {is : List Nat} {qs : va_W} (h : ascB 0 is = true) : setM 0 ws is qs = setAll ws is qs := by
  rw [setM_eq ws 0 is qs h]
  congr 1
  exact List.map_id' is
section LawCallsM
variable {p : Program} {l : Launch} {e : Env} {R : Room} {s : State} {m : MethodId} {args : Array Value} {below : List Frame} {meth : Method} {c : Code} {H : Heap} {locs : List Loc} {cells slots : Nat} {Q : State → Prop} {D : va_G} {cs : Nat → ClassId} {sk : Nat → Nat} {A : Nat → Prop}
variable {own : String} {cc : ByteArray} {nL : Nat} {ret0 : Option FieldType} {y : MethodName} {bytes : ByteArray} {n : Nat} {rt : Option FieldType} {rm : Room} {WS WS' ws : va_W} {pc : Nat} {ls : Array Slot} {st : List Value}
theorem callVim {idx : Nat} {r : Int32} {C : String} {a : Nat} {As rest : List Value} (M : MC p s m args meth c D cs sk A own cc nL ret0) (hC : CTi l y (Cond.code y bytes n rt :: gtbl) rm D cs sk (.ref a :: As) WS r WS') (lk : lkV own idx C y bytes n rt)
    (hlen : (parseMethodDescriptor y.desc).map (fun d => d.parameters.length) = some As.length) (hR : rm.cells = 0 ∧ rm.slots = 0 ∧ rm.frames + 1 ≤ R.frames ∧ 8 + (n + 11) + rm.locals ≤ R.locals)
    (hP : va_P D vwCl ws H) (hD : va_D A ws) (hS : va_S A s.heap H locs) (hA : ∀ q, s.heap.size ≤ q → A q) (is : List Nat) (hn : va_nd is = true) (has : ascB 0 is = true) (hi : is.map (fun i => ws[i]?) = WS.map some) (hf : WS'.map Prod.fst = WS.map Prod.fst)
    {q0 ci : Nat} {fs : List Value} {qc : vw_C} (hq : WS[q0]? = some (a, .inr (ci, fs))) (hc : vwCl[ci]? = some qc) (hqc : qc.1 = C) (hcl : cells ≤ R.cells ∧ slots ≤ R.slots)
    (hl : ls.size = nL) (hst : st = As.reverse ++ .ref a :: rest) (hcat : (rest.map fun v => v.category).sum ≤ 8) (hd : decode cc pc = .ok (.invokevirtual idx, 3))
    (kk : ∀ (H1 : Heap) (locs1 : List Loc), va_P D vwCl (setM 0 ws is WS') H1 → va_D A (setM 0 ws is WS') → va_S A s.heap H1 locs1 → W p l e R s m args below meth c H1 locs1 cells slots Q (F0 m (pc + 3) ls (.int r :: rest))) : W p l e R s m args below meth c H locs cells slots Q (F0 m pc ls st) := by
  refine callVi M hC lk hlen hR hP hD hS hA is hn hi hf hq hc hqc hcl hl hst hcat hd (fun H1 locs1 h1 h2 h3 => kk H1 locs1 ?_ ?_ h3)
  · rw [setM_0 has]; exact h1
  · rw [setM_0 has]; exact h2
theorem callVlm {idx : Nat} {r : Int64} {C : String} {a : Nat} {As rest : List Value} (M : MC p s m args meth c D cs sk A own cc nL ret0) (hC : CTl l y (Cond.code y bytes n (some .long) :: gtbl) rm D cs sk (.ref a :: As) WS r WS') (lk : lkV own idx C y bytes n (some .long))
    (hlen : (parseMethodDescriptor y.desc).map (fun d => d.parameters.length) = some As.length) (hR : rm.cells = 0 ∧ rm.slots = 0 ∧ rm.frames + 1 ≤ R.frames ∧ 8 + (n + 11) + rm.locals ≤ R.locals)
    (hP : va_P D vwCl ws H) (hD : va_D A ws) (hS : va_S A s.heap H locs) (hA : ∀ q, s.heap.size ≤ q → A q) (is : List Nat) (hn : va_nd is = true) (has : ascB 0 is = true) (hi : is.map (fun i => ws[i]?) = WS.map some) (hf : WS'.map Prod.fst = WS.map Prod.fst)
    {q0 ci : Nat} {fs : List Value} {qc : vw_C} (hq : WS[q0]? = some (a, .inr (ci, fs))) (hc : vwCl[ci]? = some qc) (hqc : qc.1 = C) (hcl : cells ≤ R.cells ∧ slots ≤ R.slots)
    (hl : ls.size = nL) (hst : st = As.reverse ++ .ref a :: rest) (hcat : (rest.map fun v => v.category).sum ≤ 8) (hd : decode cc pc = .ok (.invokevirtual idx, 3))
    (kk : ∀ (H1 : Heap) (locs1 : List Loc), va_P D vwCl (setM 0 ws is WS') H1 → va_D A (setM 0 ws is WS') → va_S A s.heap H1 locs1 → W p l e R s m args below meth c H1 locs1 cells slots Q (F0 m (pc + 3) ls (.long r :: rest))) : W p l e R s m args below meth c H locs cells slots Q (F0 m pc ls st) := by
  refine callVl M hC lk hlen hR hP hD hS hA is hn hi hf hq hc hqc hcl hl hst hcat hd (fun H1 locs1 h1 h2 h3 => kk H1 locs1 ?_ ?_ h3)
  · rw [setM_0 has]; exact h1
  · rw [setM_0 has]; exact h2
theorem callVvm {idx : Nat} {C : String} {a : Nat} {As rest : List Value} (M : MC p s m args meth c D cs sk A own cc nL ret0) (hC : CTv l y (Cond.code y bytes n none :: gtbl) rm D cs sk (.ref a :: As) WS WS') (lk : lkV own idx C y bytes n none)
    (hlen : (parseMethodDescriptor y.desc).map (fun d => d.parameters.length) = some As.length) (hR : rm.cells = 0 ∧ rm.slots = 0 ∧ rm.frames + 1 ≤ R.frames ∧ 8 + (n + 11) + rm.locals ≤ R.locals)
    (hP : va_P D vwCl ws H) (hD : va_D A ws) (hS : va_S A s.heap H locs) (hA : ∀ q, s.heap.size ≤ q → A q) (is : List Nat) (hn : va_nd is = true) (has : ascB 0 is = true) (hi : is.map (fun i => ws[i]?) = WS.map some) (hf : WS'.map Prod.fst = WS.map Prod.fst)
    {q0 ci : Nat} {fs : List Value} {qc : vw_C} (hq : WS[q0]? = some (a, .inr (ci, fs))) (hc : vwCl[ci]? = some qc) (hqc : qc.1 = C) (hcl : cells ≤ R.cells ∧ slots ≤ R.slots)
    (hl : ls.size = nL) (hst : st = As.reverse ++ .ref a :: rest) (hcat : (rest.map fun v => v.category).sum ≤ 8) (hd : decode cc pc = .ok (.invokevirtual idx, 3))
    (kk : ∀ (H1 : Heap) (locs1 : List Loc), va_P D vwCl (setM 0 ws is WS') H1 → va_D A (setM 0 ws is WS') → va_S A s.heap H1 locs1 → W p l e R s m args below meth c H1 locs1 cells slots Q (F0 m (pc + 3) ls (rest))) : W p l e R s m args below meth c H locs cells slots Q (F0 m pc ls st) := by
  refine callVv M hC lk hlen hR hP hD hS hA is hn hi hf hq hc hqc hcl hl hst hcat hd (fun H1 locs1 h1 h2 h3 => kk H1 locs1 ?_ ?_ h3)
  · rw [setM_0 has]; exact h1
  · rw [setM_0 has]; exact h2
end LawCallsM
