/-! THE BASE: data of objects, pure pieces, one form of contract, calls by places -/
abbrev Dat : Type := (Nat → Int32) × (Nat → Nat → Int32)
def sI (d : Dat) (k : Nat) (v : Int32) : Dat := (upd d.1 k v, d.2)
def sA (d : Dat) (k : Nat) (f : Nat → Int32) : Dat := (d.1, va_up d.2 k f)
abbrev TY (cs : Nat → ClassId) : List (ClassId × FieldType) := [(cs 0, .int), (cs 1, .byte), (cs 2, .boolean), (cs 3, .object "TownPlayers$Streets"), (cs 4, .object "TownPlayers$Band")]
-- pure pieces: a test that fails gives none
def chk {α : Type} (n : Nat) (i : Int32) (E : Option α) : Option α := if i < 0 ∨ n ≤ i.toNatClampNeg then none else E
def chz {α : Type} (y : Int32) (E : Option α) : Option α := if y = 0 then none else E
def chb {α : Type} (v : Int32) (E : Option α) : Option α := if v = 0 ∨ v = 1 then E else none
def chc {α : Type} (n0 n1 : Nat) (sp dp n : Int32) (E : Option α) : Option α := if ¬ sp < 0 ∧ ¬ dp < 0 ∧ ¬ n < 0 ∧ sp.toNatClampNeg + n.toNatClampNeg ≤ n0 ∧ dp.toNatClampNeg + n.toNatClampNeg ≤ n1 then E else none
def lp {σ ρ : Type} (B : (σ → Option ρ) → σ → Option ρ) : Nat → σ → Option ρ
  | 0 => fun _ => none
  | n + 1 => B (lp B n)
theorem none_some {α : Type} {a : α} {C : Prop} (h : (none : Option α) = some a) : C := by cases h
theorem chk_some {α : Type} {n : Nat} {i : Int32} {E : Option α} {r : α} (h : chk n i E = some r) : vp_in i n ∧ E = some r := by
  unfold chk at h
  split at h
  · cases h
  · rename_i q
    exact ⟨q, h⟩
theorem chz_some {α : Type} {y : Int32} {E : Option α} {r : α} (h : chz y E = some r) : ¬ y = 0 ∧ E = some r := by
  unfold chz at h
  split at h
  · cases h
  · rename_i q
    exact ⟨q, h⟩
theorem chb_some {α : Type} {v : Int32} {E : Option α} {r : α} (h : chb v E = some r) : (v = 0 ∨ v = 1) ∧ E = some r := by
  unfold chb at h
  split at h
  · rename_i q
    exact ⟨q, h⟩
  · cases h
theorem chc_some {α : Type} {n0 n1 : Nat} {sp dp n : Int32} {E : Option α} {r : α} (h : chc n0 n1 sp dp n E = some r) : (¬ sp < 0 ∧ ¬ dp < 0 ∧ ¬ n < 0 ∧ sp.toNatClampNeg + n.toNatClampNeg ≤ n0 ∧ dp.toNatClampNeg + n.toNatClampNeg ≤ n1) ∧ E = some r := by
  unfold chc at h
  split at h
  · rename_i q
    exact ⟨q, h⟩
  · cases h
theorem ite_some {α : Type} {c : Prop} [Decidable c] {a b : Option α} {r : α} (h : (if c then a else b) = some r) : (c → a = some r) ∧ (¬ c → b = some r) := by
  constructor
  · intro q
    rw [if_pos q] at h
    exact h
  · intro q
    rw [if_neg q] at h
    exact h
theorem bind_some {α β : Type} {x : Option α} {f : α → Option β} {r : β} (h : x.bind f = some r) : ∃ a, x = some a ∧ f a = some r := by
  cases x with
  | none => cases h
  | some a => exact ⟨a, rfl, h⟩
theorem lp_ind {σ ρ : Type} {B : (σ → Option ρ) → σ → Option ρ} {r : ρ} {Wd : σ → Prop} (h : ∀ (rec : σ → Option ρ), (∀ v, rec v = some r → Wd v) → ∀ v, B rec v = some r → Wd v) : ∀ (n : Nat) (v : σ), lp B n v = some r → Wd v := by
  intro n
  induction n with
  | zero => intro v hf; exact none_some hf
  | succ n ih => intro v hf; exact h (lp B n) ih v hf
-- the tables' words
def gtbl : List Cond := lw_tbl.filter goodWord
theorem gtbl_sub : ∀ w ∈ gtbl, w ∈ lw_tbl := fun _ h => (List.mem_filter.mp h).1
theorem tl_mem (ws : List Cond) (ps : List Nat) (h : ws.map some = ps.map (fun i => lw_tbl[i]?)) : ∀ w ∈ ws, w ∈ lw_tbl := by
  intro w hw
  have h1 : some w ∈ ws.map some := List.mem_map.mpr ⟨w, hw, rfl⟩
  rw [h] at h1
  obtain ⟨i, -, hi⟩ := List.mem_map.mp h1
  exact List.mem_of_getElem? hi
theorem tw_mem (ws : List Cond) (ps : List Nat) (h : ws.map some = ps.map (fun i => lw_tbl[i]?)) (hg : ws.all goodWord = true) : ∀ w ∈ ws, w ∈ gtbl := fun w hw => List.mem_filter.mpr ⟨tl_mem ws ps h w hw, List.all_eq_true.mp hg w hw⟩
theorem tw_one {w : Cond} (i : Nat) (h : lw_tbl[i]? = some w) (hg : goodWord w = true) : w ∈ gtbl := List.mem_filter.mpr ⟨List.mem_of_getElem? h, hg⟩
theorem gtbl_good {big : List Cond} (hb : ∀ w ∈ gtbl, w ∈ big) : ∀ w ∈ gtbl, w ∈ big ∧ ((w.onTables && w.keeps) = true ∨ ∃ ty, w = .arrayClass ty) := fun w hw => ⟨hb w hw, good_of_word (List.mem_filter.mp hw).2⟩
theorem tbl_in {big : List Cond} (hb : ∀ w ∈ gtbl, w ∈ big) (ws : List Cond) (c1 : Cond) (h1 : ∀ w ∈ ws, w ∈ gtbl) (h2 : c1 ∈ gtbl) : GoodIn big (ws ++ (c1 :: gtbl)) := by
  intro w hw
  rcases List.mem_append.mp hw with h | h
  · exact gtbl_good hb w (h1 w h)
  · rcases List.mem_cons.mp h with h | h
    · subst h
      exact gtbl_good hb _ h2
    · exact gtbl_good hb w h
def nestL : List (String × Nat × MethodName × String) := [(RX6, 9, yX4_init, RX6), (RX6, 18, yX0_init, RX6), (RX6, 46, yX1_init, RX6), (RX6, 53, yX5_init, RX6), (RX6, 60, yX3_init, RX6), (RX6, 67, yX2_init, RX6), (RX4, 50, yX6_apart, RX6), (RX4, 46, yX6_copyRow, RX6), (RX2, 131, yX6_isWithin, RX6), (RX0, 43, yX6_copyRow, RX6), (RX5, 58, yX6_holds, RX6), (RX0, 53, yX6_heldOffset, RX6), (RX3, 54, yX6_holds, RX6), (RX3, 66, yX6_copyRow, RX6), (RX4, 60, yX6_holds, RX6)]
theorem nest_in : ∀ q ∈ nestL, Cond.methodLinkNest q.1 q.2.1 q.2.2.1 q.2.2.2 ∈ lw_tbl := by
  have h := tl_mem (nestL.map fun q => Cond.methodLinkNest q.1 q.2.1 q.2.2.1 q.2.2.2) [93, 149, 205, 229, 242, 262, 431, 456, 569, 608, 694, 743, 783, 795, 804] (by decide +kernel)
  intro q hq
  exact h _ (List.mem_map.mpr ⟨q, hq, rfl⟩)
def NW (U : State) : Prop := ∀ q ∈ nestL, va_Nw (.methodLinkNest q.1 q.2.1 q.2.2.1 q.2.2.2) U
theorem NW.warm {s U : State} (hW : s.WarmedH U.vm) (h : NW s) : NW U := fun q hq => va_Nw.warmM hW (h q hq)
theorem NW.same {u U : State} (hv : u.vm = U.vm) (h : NW u) : NW U := fun q hq => va_Nw.same rfl hv (h q hq)
-- the six words of the reader: their objects at sk 0 .. 5, their bytes at sk 10 .. 15; the statics that String asks
def sByt : List (List Int32) := [[119, 105, 110, 100, 111, 119], [101, 97, 114], [109, 105, 108, 108], [115, 108, 111, 119], [112, 108, 97, 121, 101, 114], [111, 102, 102, 115, 101, 116]]
def sLen : List Nat := [6, 3, 4, 4, 6, 6]
def sCp : List Nat := [47, 57, 62, 67, 72, 77]
def sTx : List String := ["window", "ear", "mill", "slow", "player", "offset"]
def SE (sk : Nat → Nat) (A : Nat → Prop) (U : State) (H : Heap) : Prop :=
  vk_S 6 sLen sByt sk (fun i => sk (10 + i)) A U H ∧ va_Z "java/lang/String" "COMPACT_STRINGS" "Z" (.int 1) A U H ∧ (∃ v : Value, v.category = 1 ∧ va_Z "jdk/internal/util/Preconditions" "SIOOBE_FORMATTER" "Ljava/util/function/BiFunction;" v A U H) ∧ ∀ i, i < 6 → vk_R RX2 (sCp.getD i 0) (sTx.getD i "") (sk i) U
theorem SE.kept {sk : Nat → Nat} {A : Nat → Prop} {U : State} {H H1 : Heap} (h : SE sk A U H) (hq : ∀ a : Nat, a < H.size → ¬ A a → H1[a]? = H[a]?) : SE sk A U H1 := by
  obtain ⟨h1, h2, ⟨v, hv, h3⟩, h4⟩ := h
  exact ⟨h1.kept hq, h2.kept hq, ⟨v, hv, h3.kept hq⟩, h4⟩
theorem SE.narrow {sk : Nat → Nat} {A B : Nat → Prop} {U : State} {H : Heap} (h : SE sk A U H) (hAB : ∀ q, B q → A q) : SE sk B U H := by
  obtain ⟨h1, h2, ⟨v, hv, h3⟩, h4⟩ := h
  exact ⟨h1.narrow hAB, h2.narrow hAB, ⟨v, hv, h3.narrow hAB⟩, h4⟩
theorem SE.warm {sk : Nat → Nat} {A : Nat → Prop} {s U : State} {H : Heap} (hW : s.WarmedH U.vm) (h : SE sk A s H) : SE sk A U H := by
  obtain ⟨h1, h2, ⟨v, hv, h3⟩, h4⟩ := h
  exact ⟨vk_S.moved hW.alike h1, va_Z.moved hW.alike h2, ⟨v, hv, va_Z.moved hW.alike h3⟩, fun i hi => vk_R.warm hW (h4 i hi)⟩
theorem SE.same {sk : Nat → Nat} {A : Nat → Prop} {u U : State} {H : Heap} (hv : U.vm = u.vm) (h : SE sk A u H) : SE sk A U H := by
  have ha : u.vm.Alike U.vm := by rw [hv]; exact Vm.Alike.refl u.vm
  obtain ⟨h1, h2, ⟨v, hc, h3⟩, h4⟩ := h
  exact ⟨vk_S.moved ha h1, va_Z.moved ha h2, ⟨v, hc, va_Z.moved ha h3⟩, fun i hi => vk_R.same hv (h4 i hi)⟩
-- the machine at a method's own instructions
def MC (p : Program) (s : State) (m : MethodId) (args : Array Value) (meth : Method) (c : Code) (D : va_G) (cs : Nat → ClassId) (sk : Nat → Nat) (A : Nat → Prop) (own : String) (cc : ByteArray) (maxL : Nat) (ret : Option FieldType) : Prop :=
  p.tables.exec = Jvm.exec ∧ c.code = cc ∧ c.maxLocals = maxL ∧ (∀ w ∈ gtbl, w.before args s = true) ∧ s.vm.findClass own = some m.cls ∧ meth.locks = false ∧ meth.sig.returnType = ret ∧ va_K D vwCl (TY cs) s ∧ NW s ∧ SE sk A s s.heap
-- contracts: of an int (or boolean), of a long, of nothing
def CTi (l : Launch) (y : MethodName) (ws : List Cond) (rm : Room) (D : va_G) (cs : Nat → ClassId) (sk : Nat → Nat) (av : List Value) (WS : va_W) (r : Int32) (WS' : va_W) : Prop :=
  ∀ sz : Nat, Met l y ws rm (va_Pc av (fun U => U.heap.size = sz ∧ va_P D vwCl WS U.heap ∧ va_K D vwCl (TY cs) U ∧ va_D (fun _ => True) WS ∧ NW U ∧ SE sk (va_A WS sz) U U.heap)) (va_Qi (fun (x : Int32) (_ : Unit) => x = r) (fun _ t => va_P D vwCl WS' t.heap) (va_A WS sz)) 0 0 (va_A WS sz)
def CTl (l : Launch) (y : MethodName) (ws : List Cond) (rm : Room) (D : va_G) (cs : Nat → ClassId) (sk : Nat → Nat) (av : List Value) (WS : va_W) (r : Int64) (WS' : va_W) : Prop :=
  ∀ sz : Nat, Met l y ws rm (va_Pc av (fun U => U.heap.size = sz ∧ va_P D vwCl WS U.heap ∧ va_K D vwCl (TY cs) U ∧ va_D (fun _ => True) WS ∧ NW U ∧ SE sk (va_A WS sz) U U.heap)) (va_Ql (fun (x : Int64) (_ : Unit) => x = r) (fun _ t => va_P D vwCl WS' t.heap) (va_A WS sz)) 0 0 (va_A WS sz)
def CTv (l : Launch) (y : MethodName) (ws : List Cond) (rm : Room) (D : va_G) (cs : Nat → ClassId) (sk : Nat → Nat) (av : List Value) (WS : va_W) (WS' : va_W) : Prop :=
  ∀ sz : Nat, Met l y ws rm (va_Pc av (fun U => U.heap.size = sz ∧ va_P D vwCl WS U.heap ∧ va_K D vwCl (TY cs) U ∧ va_D (fun _ => True) WS ∧ NW U ∧ SE sk (va_A WS sz) U U.heap)) (va_Qv (fun (_ : Unit) => True) (fun _ t => va_P D vwCl WS' t.heap) (va_A WS sz)) 0 0 (va_A WS sz)
def RetI (p : Program) (l : Launch) (e : Env) (R : Room) (s : State) (m : MethodId) (args : Array Value) (below : List Frame) (meth : Method) (c : Code) (D : va_G) (cc : ByteArray) (A : Nat → Prop) (Q : State → Prop) (r : Int32) (WS' : va_W) : Prop :=
  ∀ (pc : Nat) (ls : Array Slot) (H : Heap) (locs : List Loc), decode cc pc = .ok (.ireturn, 1) → va_P D vwCl WS' H → va_S A s.heap H locs → W p l e R s m args below meth c H locs 0 0 Q (F0 m pc ls [.int r])
def RetZ (p : Program) (l : Launch) (e : Env) (R : Room) (s : State) (m : MethodId) (args : Array Value) (below : List Frame) (meth : Method) (c : Code) (D : va_G) (cc : ByteArray) (A : Nat → Prop) (Q : State → Prop) (r : Int32) (WS' : va_W) : Prop :=
  ∀ (pc : Nat) (ls : Array Slot) (H : Heap) (locs : List Loc), decode cc pc = .ok (.ireturn, 1) → (r = 0 ∨ r = 1) → va_P D vwCl WS' H → va_S A s.heap H locs → W p l e R s m args below meth c H locs 0 0 Q (F0 m pc ls [.int r])
def RetN (p : Program) (l : Launch) (e : Env) (R : Room) (s : State) (m : MethodId) (args : Array Value) (below : List Frame) (meth : Method) (c : Code) (D : va_G) (cc : ByteArray) (A : Nat → Prop) (Q : State → Prop) (ty : FieldType) (r : Int32) (WS' : va_W) : Prop :=
  ∀ (pc : Nat) (ls : Array Slot) (H : Heap) (locs : List Loc), decode cc pc = .ok (.ireturn, 1) → narrow ty (.int r) = .int r → va_P D vwCl WS' H → va_S A s.heap H locs → W p l e R s m args below meth c H locs 0 0 Q (F0 m pc ls [.int r])
def RetL (p : Program) (l : Launch) (e : Env) (R : Room) (s : State) (m : MethodId) (args : Array Value) (below : List Frame) (meth : Method) (c : Code) (D : va_G) (cc : ByteArray) (A : Nat → Prop) (Q : State → Prop) (r : Int64) (WS' : va_W) : Prop :=
  ∀ (pc : Nat) (ls : Array Slot) (H : Heap) (locs : List Loc), decode cc pc = .ok (.lreturn, 1) → va_P D vwCl WS' H → va_S A s.heap H locs → W p l e R s m args below meth c H locs 0 0 Q (F0 m pc ls [.long r])
def RetV (p : Program) (l : Launch) (e : Env) (R : Room) (s : State) (m : MethodId) (args : Array Value) (below : List Frame) (meth : Method) (c : Code) (D : va_G) (cc : ByteArray) (A : Nat → Prop) (Q : State → Prop) (WS' : va_W) : Prop :=
  ∀ (pc : Nat) (ls : Array Slot) (H : Heap) (locs : List Loc), decode cc pc = .ok (.return_, 1) → va_P D vwCl WS' H → va_S A s.heap H locs → W p l e R s m args below meth c H locs 0 0 Q (F0 m pc ls [])
section Contracts
variable {l : Launch} {y : MethodName} {cc : ByteArray} {maxL : Nat} {rm : Room} {D : va_G} {cs : Nat → ClassId} {sk : Nat → Nat} {av : List Value} {WS WS' : va_W}
theorem CTi.of {r : Int32} (own : String) (hy : plainName y.cls = true) (hyo : y.cls = own) (hn : (lg_sl av).length ≤ maxL)
    (body : ∀ (p : Program) (e : Env) (s : State) (m : MethodId) (args : Array Value) (below : List Frame) (meth : Method) (c : Code) (A : Nat → Prop) (Q : State → Prop) (ls : Array Slot), MC p s m args meth c D cs sk A own cc maxL (some .int) → (∀ q, s.heap.size ≤ q → A q) → RetI p l e rm s m args below meth c D cc A Q r WS' → lv_has ls maxL (lv_args 0 av) → va_P D vwCl WS s.heap → va_D A WS → va_S A s.heap s.heap [] → W p l e rm s m args below meth c s.heap [] 0 0 Q (F0 m 0 ls [])) :
    CTi l y (Cond.code y cc maxL (some .int) :: gtbl) rm D cs sk av WS r WS' := by
  intro sz
  refine Met.ofW (cc := cc) (maxL := maxL) (ret := some .int) hy rfl ?_
  intro p e s m args below meth c s₁ B hml hv
  obtain ⟨rfl, hsz, hP, hK, hD0, hN, hSE⟩ := hv
  have hts := atoms_spec (ws := Cond.code y cc maxL (some .int) :: gtbl) B.pre
  have hown : s.vm.findClass own = some m.cls := by rw [← hyo]; exact findClass_of_methodNamed B.named
  have hr := B.returns
  have hx := B.exec
  have hb := B.bytes
  have hlocks := B.notSynchronized
  subst hsz
  have hD := hD0.self (sz := s.heap.size)
  have hl := lv_entry av (n := maxL) hn
  rw [lg_entry_eq]
  exact body p e s m _ below meth c (va_A WS s.heap.size) _ _ ⟨hx, hb, hml, fun w hw => hts w (List.mem_cons_of_mem _ hw), hown, hlocks, hr, hK, hN, hSE⟩ (fun q h => Or.inr h) (fun pc ls H locs hd hP' hS => W.iret (v := r) hx hb hr (fun t ht hW => ⟨⟨r, (), rfl, rfl, by show va_P D vwCl WS' t.heap; rw [ht]; exact hP'⟩, hS.F ht⟩) hS.2.2 hd hlocks) hl hP hD va_S.rf
theorem CTi.ofZ {r : Int32} (own : String) (hy : plainName y.cls = true) (hyo : y.cls = own) (hn : (lg_sl av).length ≤ maxL)
    (body : ∀ (p : Program) (e : Env) (s : State) (m : MethodId) (args : Array Value) (below : List Frame) (meth : Method) (c : Code) (A : Nat → Prop) (Q : State → Prop) (ls : Array Slot), MC p s m args meth c D cs sk A own cc maxL (some .boolean) → (∀ q, s.heap.size ≤ q → A q) → RetZ p l e rm s m args below meth c D cc A Q r WS' → lv_has ls maxL (lv_args 0 av) → va_P D vwCl WS s.heap → va_D A WS → va_S A s.heap s.heap [] → W p l e rm s m args below meth c s.heap [] 0 0 Q (F0 m 0 ls [])) :
    CTi l y (Cond.code y cc maxL (some .boolean) :: gtbl) rm D cs sk av WS r WS' := by
  intro sz
  refine Met.ofW (cc := cc) (maxL := maxL) (ret := some .boolean) hy rfl ?_
  intro p e s m args below meth c s₁ B hml hv
  obtain ⟨rfl, hsz, hP, hK, hD0, hN, hSE⟩ := hv
  have hts := atoms_spec (ws := Cond.code y cc maxL (some .boolean) :: gtbl) B.pre
  have hown : s.vm.findClass own = some m.cls := by rw [← hyo]; exact findClass_of_methodNamed B.named
  have hr := B.returns
  have hx := B.exec
  have hb := B.bytes
  have hlocks := B.notSynchronized
  subst hsz
  have hD := hD0.self (sz := s.heap.size)
  have hl := lv_entry av (n := maxL) hn
  rw [lg_entry_eq]
  refine body p e s m _ below meth c (va_A WS s.heap.size) _ _ ⟨hx, hb, hml, fun w hw => hts w (List.mem_cons_of_mem _ hw), hown, hlocks, hr, hK, hN, hSE⟩ (fun q h => Or.inr h) (fun pc ls H locs hd h01 hP' hS => ?_) hl hP hD va_S.rf
  refine W.zret (v := r) hx hb hr ?_ (fun t ht hW => ⟨⟨r, (), rfl, rfl, by show va_P D vwCl WS' t.heap; rw [ht]; exact hP'⟩, hS.F ht⟩) hS.2.2 hd hlocks
  rcases h01 with h | h <;> subst h <;> rfl
theorem CTi.ofN {r : Int32} (ty : FieldType) (own : String) (hy : plainName y.cls = true) (hyo : y.cls = own) (hn : (lg_sl av).length ≤ maxL)
    (body : ∀ (p : Program) (e : Env) (s : State) (m : MethodId) (args : Array Value) (below : List Frame) (meth : Method) (c : Code) (A : Nat → Prop) (Q : State → Prop) (ls : Array Slot), MC p s m args meth c D cs sk A own cc maxL (some ty) → (∀ q, s.heap.size ≤ q → A q) → RetN p l e rm s m args below meth c D cc A Q ty r WS' → lv_has ls maxL (lv_args 0 av) → va_P D vwCl WS s.heap → va_D A WS → va_S A s.heap s.heap [] → W p l e rm s m args below meth c s.heap [] 0 0 Q (F0 m 0 ls [])) :
    CTi l y (Cond.code y cc maxL (some ty) :: gtbl) rm D cs sk av WS r WS' := by
  intro sz
  refine Met.ofW (cc := cc) (maxL := maxL) (ret := some ty) hy rfl ?_
  intro p e s m args below meth c s₁ B hml hv
  obtain ⟨rfl, hsz, hP, hK, hD0, hN, hSE⟩ := hv
  have hts := atoms_spec (ws := Cond.code y cc maxL (some ty) :: gtbl) B.pre
  have hown : s.vm.findClass own = some m.cls := by rw [← hyo]; exact findClass_of_methodNamed B.named
  have hr := B.returns
  have hx := B.exec
  have hb := B.bytes
  have hlocks := B.notSynchronized
  subst hsz
  have hD := hD0.self (sz := s.heap.size)
  have hl := lv_entry av (n := maxL) hn
  rw [lg_entry_eq]
  refine body p e s m _ below meth c (va_A WS s.heap.size) _ _ ⟨hx, hb, hml, fun w hw => hts w (List.mem_cons_of_mem _ hw), hown, hlocks, hr, hK, hN, hSE⟩ (fun q h => Or.inr h) (fun pc ls H locs hd h01 hP' hS => ?_) hl hP hD va_S.rf
  exact W.zret (v := r) hx hb hr h01 (fun t ht hW => ⟨⟨r, (), rfl, rfl, by show va_P D vwCl WS' t.heap; rw [ht]; exact hP'⟩, hS.F ht⟩) hS.2.2 hd hlocks
theorem CTl.of {r : Int64} (own : String) (hy : plainName y.cls = true) (hyo : y.cls = own) (hn : (lg_sl av).length ≤ maxL)
    (body : ∀ (p : Program) (e : Env) (s : State) (m : MethodId) (args : Array Value) (below : List Frame) (meth : Method) (c : Code) (A : Nat → Prop) (Q : State → Prop) (ls : Array Slot), MC p s m args meth c D cs sk A own cc maxL (some .long) → (∀ q, s.heap.size ≤ q → A q) → RetL p l e rm s m args below meth c D cc A Q r WS' → lv_has ls maxL (lv_args 0 av) → va_P D vwCl WS s.heap → va_D A WS → va_S A s.heap s.heap [] → W p l e rm s m args below meth c s.heap [] 0 0 Q (F0 m 0 ls [])) :
    CTl l y (Cond.code y cc maxL (some .long) :: gtbl) rm D cs sk av WS r WS' := by
  intro sz
  refine Met.ofW (cc := cc) (maxL := maxL) (ret := some .long) hy rfl ?_
  intro p e s m args below meth c s₁ B hml hv
  obtain ⟨rfl, hsz, hP, hK, hD0, hN, hSE⟩ := hv
  have hts := atoms_spec (ws := Cond.code y cc maxL (some .long) :: gtbl) B.pre
  have hown : s.vm.findClass own = some m.cls := by rw [← hyo]; exact findClass_of_methodNamed B.named
  have hr := B.returns
  have hx := B.exec
  have hb := B.bytes
  have hlocks := B.notSynchronized
  subst hsz
  have hD := hD0.self (sz := s.heap.size)
  have hl := lv_entry av (n := maxL) hn
  rw [lg_entry_eq]
  exact body p e s m _ below meth c (va_A WS s.heap.size) _ _ ⟨hx, hb, hml, fun w hw => hts w (List.mem_cons_of_mem _ hw), hown, hlocks, hr, hK, hN, hSE⟩ (fun q h => Or.inr h) (fun pc ls H locs hd hP' hS => W.lret (v := r) hx hb hr (fun t ht hW => ⟨⟨r, (), rfl, rfl, by show va_P D vwCl WS' t.heap; rw [ht]; exact hP'⟩, hS.F ht⟩) hS.2.2 hd hlocks) hl hP hD va_S.rf
theorem CTv.of (own : String) (hy : plainName y.cls = true) (hyo : y.cls = own) (hn : (lg_sl av).length ≤ maxL)
    (body : ∀ (p : Program) (e : Env) (s : State) (m : MethodId) (args : Array Value) (below : List Frame) (meth : Method) (c : Code) (A : Nat → Prop) (Q : State → Prop) (ls : Array Slot), MC p s m args meth c D cs sk A own cc maxL none → (∀ q, s.heap.size ≤ q → A q) → RetV p l e rm s m args below meth c D cc A Q WS' → lv_has ls maxL (lv_args 0 av) → va_P D vwCl WS s.heap → va_D A WS → va_S A s.heap s.heap [] → W p l e rm s m args below meth c s.heap [] 0 0 Q (F0 m 0 ls [])) :
    CTv l y (Cond.code y cc maxL none :: gtbl) rm D cs sk av WS WS' := by
  intro sz
  refine Met.ofW (cc := cc) (maxL := maxL) (ret := none) hy rfl ?_
  intro p e s m args below meth c s₁ B hml hv
  obtain ⟨rfl, hsz, hP, hK, hD0, hN, hSE⟩ := hv
  have hts := atoms_spec (ws := Cond.code y cc maxL none :: gtbl) B.pre
  have hown : s.vm.findClass own = some m.cls := by rw [← hyo]; exact findClass_of_methodNamed B.named
  have hr := B.returns
  have hx := B.exec
  have hb := B.bytes
  have hlocks := B.notSynchronized
  subst hsz
  have hD := hD0.self (sz := s.heap.size)
  have hl := lv_entry av (n := maxL) hn
  rw [lg_entry_eq]
  exact body p e s m _ below meth c (va_A WS s.heap.size) _ _ ⟨hx, hb, hml, fun w hw => hts w (List.mem_cons_of_mem _ hw), hown, hlocks, hr, hK, hN, hSE⟩ (fun q h => Or.inr h) (fun pc ls H locs hd hP' hS => W.vret hx hb hr (fun t ht hW => ⟨⟨(), rfl, trivial, by show va_P D vwCl WS' t.heap; rw [ht]; exact hP'⟩, hS.F ht⟩) hS.2.2 hd hlocks) hl hP hD va_S.rf
end Contracts
-- a callee's cells back at their places
def setAll (ws : va_W) : List Nat → va_W → va_W
  | i :: is, q :: qs => setAll (ws.set i q) is qs
  | _, _ => ws
theorem setAll_get (is : List Nat) : ∀ (ws w : va_W) (k : Nat) (q : Nat × va_E), (setAll ws is w)[k]? = some q → (∃ j : Nat, is[j]? = some k ∧ w[j]? = some q) ∨ (ws[k]? = some q ∧ ∀ j : Nat, j < w.length → is[j]? ≠ some k) := by
  induction is with
  | nil => intro ws w k q h; exact Or.inr ⟨by cases w <;> exact h, fun j _ => by simp⟩
  | cons i is ih =>
    intro ws w k q h
    cases w with
    | nil => exact Or.inr ⟨h, fun j hj => absurd hj (Nat.not_lt_zero _)⟩
    | cons x xs =>
      rcases ih (ws.set i x) xs k q h with ⟨j, h1, h2⟩ | ⟨h1, h2⟩
      · exact Or.inl ⟨j + 1, by simpa using h1, by simpa using h2⟩
      · by_cases hk : i = k
        · subst hk
          rw [List.getElem?_set] at h1
          split at h1
          · split at h1
            · exact Or.inl ⟨0, by simp, by simpa using h1⟩
            · cases h1
          · rename_i hne
            exact absurd rfl hne
        · rw [List.getElem?_set_ne hk] at h1
          refine Or.inr ⟨h1, fun j hj => ?_⟩
          cases j with
          | zero => simpa using hk
          | succ j => simpa using h2 j (by simpa using hj)
theorem setAll_addr {ws wc w : va_W} {is : List Nat} (hC : is.map (fun i => ws[i]?) = wc.map some) (hf : w.map Prod.fst = wc.map Prod.fst) {k : Nat} {q : Nat × va_E} (h : (setAll ws is w)[k]? = some q) : ∃ e, ws[k]? = some (q.1, e) := by
  rcases setAll_get is ws w k q h with ⟨j, h1, h2⟩ | ⟨h1, -⟩
  · have h3 : (w.map Prod.fst)[j]? = some q.1 := by rw [List.getElem?_map, h2]; rfl
    rw [hf, List.getElem?_map] at h3
    cases h4 : wc[j]? with
    | none => rw [h4] at h3; cases h3
    | some y =>
      rw [h4] at h3
      have h5 : (is.map (fun i => ws[i]?))[j]? = some (ws[k]?) := by rw [List.getElem?_map, h1]; rfl
      rw [hC, List.getElem?_map, h4] at h5
      have h6 : some y = ws[k]? := Option.some.inj h5
      have h7 : y.1 = q.1 := Option.some.inj h3
      exact ⟨y.2, by rw [← h6, ← h7]⟩
  · exact ⟨q.2, h1⟩
theorem call_join {A0 : Nat → Prop} {D : va_G} {cl : List vw_C} {ws wc w1 : va_W} {H H1 : Heap} (hP : va_P D cl ws H) (hD : va_D A0 ws) (is : List Nat) (hC : is.map (fun i => ws[i]?) = wc.map some) (hf : w1.map Prod.fst = wc.map Prod.fst)
    (hk : ∀ q : Nat, q < H.size → ¬ va_A wc H.size q → H1[q]? = H[q]?) (hP1 : va_P D cl w1 H1) : va_P D cl (setAll ws is w1) H1 ∧ va_D A0 (setAll ws is w1) := by
  refine ⟨fun k q hq => ?_, fun i j p q hi hj e => ?_, fun k q hq => ?_⟩
  · rcases setAll_get is ws w1 k q hq with ⟨j, h1, h2⟩ | ⟨h1, h2⟩
    · exact hP1 j q h2
    · refine (hP k q h1).kept (hk q.1 (hP k q h1).lt ?_)
      rintro (⟨j, e, hj⟩ | hz)
      · have h3 : (is.map (fun i => ws[i]?))[j]? = some (some (q.1, e)) := by rw [hC, List.getElem?_map, hj]; rfl
        rw [List.getElem?_map] at h3
        cases h4 : is[j]? with
        | none => rw [h4] at h3; cases h3
        | some i =>
          rw [h4] at h3
          have h5 : ws[i]? = some (q.1, e) := Option.some.inj h3
          have h6 : i = k := hD.1 i k _ _ h5 h1 rfl
          subst h6
          have hlen : j < w1.length := by
            have : w1.length = wc.length := by simpa using congrArg List.length hf
            rw [this]
            exact (List.getElem?_eq_some_iff.mp hj).1
          exact h2 j hlen h4
      · exact absurd (hP k q h1).lt (Nat.not_lt.mpr hz)
  · obtain ⟨e1, h1⟩ := setAll_addr hC hf hi
    obtain ⟨e2, h2⟩ := setAll_addr hC hf hj
    exact hD.1 i j _ _ h1 h2 e
  · obtain ⟨e1, h1⟩ := setAll_addr hC hf hq
    exact hD.2 k (q.1, e1) h1
section Calls
variable {p : Program} {l : Launch} {e : Env} {R : Room} {s : State} {m : MethodId} {args : Array Value} {below : List Frame} {meth : Method} {c : Code} {H : Heap} {locs : List Loc} {cells slots : Nat} {Q : State → Prop} {D : va_G} {cs : Nat → ClassId} {sk : Nat → Nat} {A : Nat → Prop}
variable {own : String} {cc : ByteArray} {nL : Nat} {ret0 : Option FieldType} {y : MethodName} {bytes : ByteArray} {n : Nat} {rt : Option FieldType} {rm : Room} {WS WS' ws : va_W} {pc : Nat} {ls : Array Slot} {st : List Value}
/-- what is asked of a call: the callee's place in the tables, by kind: 0 virtual (selects), 1 static, 2 virtual nest mate, 3 static nest mate -/
def lkV (own : String) (idx : Nat) (C : String) (y : MethodName) (bytes : ByteArray) (n : Nat) (rt : Option FieldType) : Prop := (∀ w ∈ ([.methodLink own idx y, .instanceMethod y, .selects C y y, .initialized C] : List Cond), w ∈ gtbl) ∧ Cond.code y bytes n rt ∈ gtbl ∧ y.cls = C ∧ y.cls ≠ "java/lang/invoke/MethodHandle" ∧ y.cls ≠ "java/lang/invoke/VarHandle"
def lkS (own : String) (idx : Nat) (y : MethodName) (bytes : ByteArray) (n : Nat) (rt : Option FieldType) : Prop := (∀ w ∈ ([.methodLink own idx y, .static y, .initialized y.cls] : List Cond), w ∈ gtbl) ∧ Cond.code y bytes n rt ∈ gtbl ∧ y.cls ≠ "java/lang/invoke/MethodHandle" ∧ y.cls ≠ "java/lang/invoke/VarHandle"
def lkSN (own : String) (idx : Nat) (y : MethodName) (bytes : ByteArray) (n : Nat) (rt : Option FieldType) (host : String) : Prop := (∀ w ∈ ([.static y, .initialized y.cls] : List Cond), w ∈ gtbl) ∧ Cond.code y bytes n rt ∈ gtbl ∧ y.cls ≠ "java/lang/invoke/MethodHandle" ∧ y.cls ≠ "java/lang/invoke/VarHandle" ∧ (own, idx, y, host) ∈ nestL
theorem blindW {av : List Value} {sz : Nat} : FrameBlind (va_Pc av (fun U => U.heap.size = sz ∧ va_P D vwCl WS U.heap ∧ va_K D vwCl (TY cs) U ∧ va_D (fun _ => True) WS ∧ NW U ∧ SE sk (va_A WS sz) U U.heap)) := fun a U g mk q => by
  obtain ⟨q0, q1, qP, qK, qD, qN, qE⟩ := q
  exact ⟨q0, q1, qP, va_K.moved (u := U) (U := U.calling g mk a) (Vm.Alike.refl U.vm) qK, qD, NW.same (u := U) (U := U.calling g mk a) rfl qN, SE.same (u := U) (U := U.calling g mk a) rfl qE⟩
theorem preW {av : List Value} (hK : va_K D vwCl (TY cs) s) (hN : NW s) (hSE : SE sk A s s.heap) (hS : va_S A s.heap H locs) (hF : ∀ q, va_A WS H.size q → A q) (hP : va_P D vwCl WS H) (hD : va_D A WS) : ∀ U : State, U.heap = H → s.WarmedH U.vm → va_Pc av (fun U => U.heap.size = H.size ∧ va_P D vwCl WS U.heap ∧ va_K D vwCl (TY cs) U ∧ va_D (fun _ => True) WS ∧ NW U ∧ SE sk (va_A WS H.size) U U.heap) av.toArray U := fun U hU hW => ⟨rfl, by rw [hU], by rw [hU]; exact hP, va_K.moved hW.alike hK, hD.weaken (fun _ _ _ _ => trivial), NW.warm hW hN, by rw [hU]; exact SE.warm hW ((hSE.kept hS.2.1).narrow hF)⟩
theorem cutP {is : List Nat} (hP : va_P D vwCl ws H) (hC : is.map (fun i => ws[i]?) = WS.map some) : va_P D vwCl WS H := by
  intro k q hk
  have h1 : (is.map (fun i => ws[i]?))[k]? = some (some q) := by rw [hC, List.getElem?_map, hk]; rfl
  rw [List.getElem?_map] at h1
  cases h2 : is[k]? with
  | none => rw [h2] at h1; cases h1
  | some i => rw [h2] at h1; exact hP i q (Option.some.inj h1)
theorem cutD {is : List Nat} (hD : va_D A ws) (hn : va_nd is = true) (hC : is.map (fun i => ws[i]?) = WS.map some) : va_D A WS := by
  exact hD.sub is hn hC
theorem freeC {is : List Nat} {H0 : Heap} (hD : va_D A ws) (hS : va_S A H0 H locs) (hA : ∀ q, H0.size ≤ q → A q) (hC : is.map (fun i => ws[i]?) = WS.map some) : ∀ q, va_A WS H.size q → A q := va_free hD hS hA is hC
theorem callVi {idx : Nat} {r : Int32} {C : String} {a : Nat} {As rest : List Value} (M : MC p s m args meth c D cs sk A own cc nL ret0) (hC : CTi l y (Cond.code y bytes n rt :: gtbl) rm D cs sk (.ref a :: As) WS r WS') (lk : lkV own idx C y bytes n rt)
    (hlen : (parseMethodDescriptor y.desc).map (fun d => d.parameters.length) = some As.length) (hR : rm.cells = 0 ∧ rm.slots = 0 ∧ rm.frames + 1 ≤ R.frames ∧ 8 + (n + 11) + rm.locals ≤ R.locals)
    (hP : va_P D vwCl ws H) (hD : va_D A ws) (hS : va_S A s.heap H locs) (hA : ∀ q, s.heap.size ≤ q → A q) (is : List Nat) (hn : va_nd is = true) (hi : is.map (fun i => ws[i]?) = WS.map some) (hf : WS'.map Prod.fst = WS.map Prod.fst)
    {q0 ci : Nat} {fs : List Value} {qc : vw_C} (hq : WS[q0]? = some (a, .inr (ci, fs))) (hc : vwCl[ci]? = some qc) (hqc : qc.1 = C) (hcl : cells ≤ R.cells ∧ slots ≤ R.slots)
    (hl : ls.size = nL) (hst : st = As.reverse ++ .ref a :: rest) (hcat : (rest.map fun v => v.category).sum ≤ 8) (hd : decode cc pc = .ok (.invokevirtual idx, 3))
    (kk : ∀ (H1 : Heap) (locs1 : List Loc), va_P D vwCl (setAll ws is WS') H1 → va_D A (setAll ws is WS') → va_S A s.heap H1 locs1 → W p l e R s m args below meth c H1 locs1 cells slots Q (F0 m (pc + 3) ls (.int r :: rest))) : W p l e R s m args below meth c H locs cells slots Q (F0 m pc ls st) := by
  obtain ⟨hx, hb, hml, hT, hown, -, -, hK, hN, hSE⟩ := M
  have hPc := cutP hP hi
  have hDc := cutD hD hn hi
  have hFc := freeC hD hS hA hi
  subst hqc
  refine va_calli (va_runV (As := As) (rest := rest) ⟨hx, hb, hml, hown, hT⟩ (hC H.size) (cwV As.length hT (tbl_in (fun _ h => h) _ _ lk.1 lk.2.1) rfl hR.1 hR.2.1 ⟨lk.2.2.1, lk.2.2.2.1, lk.2.2.2.2, hlen⟩ hR.2.2) ⟨blindW, va_recv hK hPc hc hq, preW hK hN hSE hS hFc hPc hDc⟩ rfl rfl hl hst (lv_room hcat) hd ⟨hcl.1, hcl.2⟩) hS (fun q _ h => hFc q h) hFc (fun r1 u t H1 locs1 ht hvm hw hB hz1 hk1 hS => ?_)
  subst hw
  replace hB : va_P D vwCl WS' t.heap := hB
  rw [ht] at hB
  obtain ⟨h1, h2⟩ := call_join hP hD is hi hf hk1 hB
  exact kk H1 locs1 h1 h2 hS
theorem callVsi {idx : Nat} {r : Int32} {i : Nat} (hi6 : i < 6) {As rest : List Value} (M : MC p s m args meth c D cs sk A own cc nL ret0) (hC : CTi l y (Cond.code y bytes n rt :: gtbl) rm D cs sk (.ref (sk i) :: As) WS r WS') (lk : lkV own idx "java/lang/String" y bytes n rt)
    (hlen : (parseMethodDescriptor y.desc).map (fun d => d.parameters.length) = some As.length) (hR : rm.cells = 0 ∧ rm.slots = 0 ∧ rm.frames + 1 ≤ R.frames ∧ 8 + (n + 11) + rm.locals ≤ R.locals)
    (hP : va_P D vwCl ws H) (hD : va_D A ws) (hS : va_S A s.heap H locs) (hA : ∀ q, s.heap.size ≤ q → A q) (is : List Nat) (hn : va_nd is = true) (hi : is.map (fun i => ws[i]?) = WS.map some) (hf : WS'.map Prod.fst = WS.map Prod.fst)
    (hcl : cells ≤ R.cells ∧ slots ≤ R.slots)
    (hl : ls.size = nL) (hst : st = As.reverse ++ .ref (sk i) :: rest) (hcat : (rest.map fun v => v.category).sum ≤ 8) (hd : decode cc pc = .ok (.invokevirtual idx, 3))
    (kk : ∀ (H1 : Heap) (locs1 : List Loc), va_P D vwCl (setAll ws is WS') H1 → va_D A (setAll ws is WS') → va_S A s.heap H1 locs1 → W p l e R s m args below meth c H1 locs1 cells slots Q (F0 m (pc + 3) ls (.int r :: rest))) : W p l e R s m args below meth c H locs cells slots Q (F0 m pc ls st) := by
  obtain ⟨hx, hb, hml, hT, hown, -, -, hK, hN, hSE⟩ := M
  have hPc := cutP hP hi
  have hDc := cutD hD hn hi
  have hFc := freeC hD hS hA hi
  refine va_calli (va_runV (As := As) (rest := rest) ⟨hx, hb, hml, hown, hT⟩ (hC H.size) (cwV As.length hT (tbl_in (fun _ h => h) _ _ lk.1 lk.2.1) rfl hR.1 hR.2.1 ⟨lk.2.2.1, lk.2.2.2.1, lk.2.2.2.2, hlen⟩ hR.2.2) ⟨blindW, vk_recv hSE.1 hi6 hS, preW hK hN hSE hS hFc hPc hDc⟩ rfl rfl hl hst (lv_room hcat) hd ⟨hcl.1, hcl.2⟩) hS (fun q _ h => hFc q h) hFc (fun r1 u t H1 locs1 ht hvm hw hB hz1 hk1 hS => ?_)
  subst hw
  replace hB : va_P D vwCl WS' t.heap := hB
  rw [ht] at hB
  obtain ⟨h1, h2⟩ := call_join hP hD is hi hf hk1 hB
  exact kk H1 locs1 h1 h2 hS
theorem callVl {idx : Nat} {r : Int64} {C : String} {a : Nat} {As rest : List Value} (M : MC p s m args meth c D cs sk A own cc nL ret0) (hC : CTl l y (Cond.code y bytes n (some .long) :: gtbl) rm D cs sk (.ref a :: As) WS r WS') (lk : lkV own idx C y bytes n (some .long))
    (hlen : (parseMethodDescriptor y.desc).map (fun d => d.parameters.length) = some As.length) (hR : rm.cells = 0 ∧ rm.slots = 0 ∧ rm.frames + 1 ≤ R.frames ∧ 8 + (n + 11) + rm.locals ≤ R.locals)
    (hP : va_P D vwCl ws H) (hD : va_D A ws) (hS : va_S A s.heap H locs) (hA : ∀ q, s.heap.size ≤ q → A q) (is : List Nat) (hn : va_nd is = true) (hi : is.map (fun i => ws[i]?) = WS.map some) (hf : WS'.map Prod.fst = WS.map Prod.fst)
    {q0 ci : Nat} {fs : List Value} {qc : vw_C} (hq : WS[q0]? = some (a, .inr (ci, fs))) (hc : vwCl[ci]? = some qc) (hqc : qc.1 = C) (hcl : cells ≤ R.cells ∧ slots ≤ R.slots)
    (hl : ls.size = nL) (hst : st = As.reverse ++ .ref a :: rest) (hcat : (rest.map fun v => v.category).sum ≤ 8) (hd : decode cc pc = .ok (.invokevirtual idx, 3))
    (kk : ∀ (H1 : Heap) (locs1 : List Loc), va_P D vwCl (setAll ws is WS') H1 → va_D A (setAll ws is WS') → va_S A s.heap H1 locs1 → W p l e R s m args below meth c H1 locs1 cells slots Q (F0 m (pc + 3) ls (.long r :: rest))) : W p l e R s m args below meth c H locs cells slots Q (F0 m pc ls st) := by
  obtain ⟨hx, hb, hml, hT, hown, -, -, hK, hN, hSE⟩ := M
  have hPc := cutP hP hi
  have hDc := cutD hD hn hi
  have hFc := freeC hD hS hA hi
  subst hqc
  refine va_calll (va_runV (As := As) (rest := rest) ⟨hx, hb, hml, hown, hT⟩ (hC H.size) (cwV As.length hT (tbl_in (fun _ h => h) _ _ lk.1 lk.2.1) rfl hR.1 hR.2.1 ⟨lk.2.2.1, lk.2.2.2.1, lk.2.2.2.2, hlen⟩ hR.2.2) ⟨blindW, va_recv hK hPc hc hq, preW hK hN hSE hS hFc hPc hDc⟩ rfl rfl hl hst (lv_room hcat) hd ⟨hcl.1, hcl.2⟩) hS (fun q _ h => hFc q h) hFc (fun r1 u t H1 locs1 ht hvm hw hB hz1 hk1 hS => ?_)
  subst hw
  replace hB : va_P D vwCl WS' t.heap := hB
  rw [ht] at hB
  obtain ⟨h1, h2⟩ := call_join hP hD is hi hf hk1 hB
  exact kk H1 locs1 h1 h2 hS
theorem callVv {idx : Nat} {C : String} {a : Nat} {As rest : List Value} (M : MC p s m args meth c D cs sk A own cc nL ret0) (hC : CTv l y (Cond.code y bytes n none :: gtbl) rm D cs sk (.ref a :: As) WS WS') (lk : lkV own idx C y bytes n none)
    (hlen : (parseMethodDescriptor y.desc).map (fun d => d.parameters.length) = some As.length) (hR : rm.cells = 0 ∧ rm.slots = 0 ∧ rm.frames + 1 ≤ R.frames ∧ 8 + (n + 11) + rm.locals ≤ R.locals)
    (hP : va_P D vwCl ws H) (hD : va_D A ws) (hS : va_S A s.heap H locs) (hA : ∀ q, s.heap.size ≤ q → A q) (is : List Nat) (hn : va_nd is = true) (hi : is.map (fun i => ws[i]?) = WS.map some) (hf : WS'.map Prod.fst = WS.map Prod.fst)
    {q0 ci : Nat} {fs : List Value} {qc : vw_C} (hq : WS[q0]? = some (a, .inr (ci, fs))) (hc : vwCl[ci]? = some qc) (hqc : qc.1 = C) (hcl : cells ≤ R.cells ∧ slots ≤ R.slots)
    (hl : ls.size = nL) (hst : st = As.reverse ++ .ref a :: rest) (hcat : (rest.map fun v => v.category).sum ≤ 8) (hd : decode cc pc = .ok (.invokevirtual idx, 3))
    (kk : ∀ (H1 : Heap) (locs1 : List Loc), va_P D vwCl (setAll ws is WS') H1 → va_D A (setAll ws is WS') → va_S A s.heap H1 locs1 → W p l e R s m args below meth c H1 locs1 cells slots Q (F0 m (pc + 3) ls (rest))) : W p l e R s m args below meth c H locs cells slots Q (F0 m pc ls st) := by
  obtain ⟨hx, hb, hml, hT, hown, -, -, hK, hN, hSE⟩ := M
  have hPc := cutP hP hi
  have hDc := cutD hD hn hi
  have hFc := freeC hD hS hA hi
  subst hqc
  refine va_callv (va_runV (As := As) (rest := rest) ⟨hx, hb, hml, hown, hT⟩ (hC H.size) (cwV As.length hT (tbl_in (fun _ h => h) _ _ lk.1 lk.2.1) rfl hR.1 hR.2.1 ⟨lk.2.2.1, lk.2.2.2.1, lk.2.2.2.2, hlen⟩ hR.2.2) ⟨blindW, va_recv hK hPc hc hq, preW hK hN hSE hS hFc hPc hDc⟩ rfl rfl hl hst (lv_room hcat) hd ⟨hcl.1, hcl.2⟩) hS (fun q _ h => hFc q h) hFc (fun u t H1 locs1 ht hvm hw hB hz1 hk1 hS => ?_)
  replace hB : va_P D vwCl WS' t.heap := hB
  rw [ht] at hB
  obtain ⟨h1, h2⟩ := call_join hP hD is hi hf hk1 hB
  exact kk H1 locs1 h1 h2 hS
theorem callSi {idx : Nat} {r : Int32} {As rest : List Value} (M : MC p s m args meth c D cs sk A own cc nL ret0) (hC : CTi l y (Cond.code y bytes n rt :: gtbl) rm D cs sk As WS r WS') (lk : lkS own idx y bytes n rt)
    (hlen : (parseMethodDescriptor y.desc).map (fun d => d.parameters.length) = some As.length) (hR : rm.cells = 0 ∧ rm.slots = 0 ∧ rm.frames + 1 ≤ R.frames ∧ 8 + (n + 11) + rm.locals ≤ R.locals)
    (hP : va_P D vwCl ws H) (hD : va_D A ws) (hS : va_S A s.heap H locs) (hA : ∀ q, s.heap.size ≤ q → A q) (is : List Nat) (hn : va_nd is = true) (hi : is.map (fun i => ws[i]?) = WS.map some) (hf : WS'.map Prod.fst = WS.map Prod.fst)
    (hcl : cells ≤ R.cells ∧ slots ≤ R.slots)
    (hl : ls.size = nL) (hst : st = As.reverse ++ rest) (hcat : (rest.map fun v => v.category).sum ≤ 8) (hd : decode cc pc = .ok (.invokestatic idx, 3))
    (kk : ∀ (H1 : Heap) (locs1 : List Loc), va_P D vwCl (setAll ws is WS') H1 → va_D A (setAll ws is WS') → va_S A s.heap H1 locs1 → W p l e R s m args below meth c H1 locs1 cells slots Q (F0 m (pc + 3) ls (.int r :: rest))) : W p l e R s m args below meth c H locs cells slots Q (F0 m pc ls st) := by
  obtain ⟨hx, hb, hml, hT, hown, -, -, hK, hN, hSE⟩ := M
  have hPc := cutP hP hi
  have hDc := cutD hD hn hi
  have hFc := freeC hD hS hA hi
  refine va_calli (va_runS (As := As) (rest := rest) ⟨hx, hb, hml, hown, hT⟩ (hC H.size) (va_cwS As.length hT (tbl_in (fun _ h => h) _ _ lk.1 lk.2.1) rfl hR.1 hR.2.1 ⟨lk.2.2.1, lk.2.2.2, hlen⟩ hR.2.2) ⟨blindW, preW hK hN hSE hS hFc hPc hDc⟩ rfl rfl hl hst (lv_room hcat) hd ⟨hcl.1, hcl.2⟩) hS (fun q _ h => hFc q h) hFc (fun r1 u t H1 locs1 ht hvm hw hB hz1 hk1 hS => ?_)
  subst hw
  replace hB : va_P D vwCl WS' t.heap := hB
  rw [ht] at hB
  obtain ⟨h1, h2⟩ := call_join hP hD is hi hf hk1 hB
  exact kk H1 locs1 h1 h2 hS
theorem callSl {idx : Nat} {r : Int64} {As rest : List Value} (M : MC p s m args meth c D cs sk A own cc nL ret0) (hC : CTl l y (Cond.code y bytes n (some .long) :: gtbl) rm D cs sk As WS r WS') (lk : lkS own idx y bytes n (some .long))
    (hlen : (parseMethodDescriptor y.desc).map (fun d => d.parameters.length) = some As.length) (hR : rm.cells = 0 ∧ rm.slots = 0 ∧ rm.frames + 1 ≤ R.frames ∧ 8 + (n + 11) + rm.locals ≤ R.locals)
    (hP : va_P D vwCl ws H) (hD : va_D A ws) (hS : va_S A s.heap H locs) (hA : ∀ q, s.heap.size ≤ q → A q) (is : List Nat) (hn : va_nd is = true) (hi : is.map (fun i => ws[i]?) = WS.map some) (hf : WS'.map Prod.fst = WS.map Prod.fst)
    (hcl : cells ≤ R.cells ∧ slots ≤ R.slots)
    (hl : ls.size = nL) (hst : st = As.reverse ++ rest) (hcat : (rest.map fun v => v.category).sum ≤ 8) (hd : decode cc pc = .ok (.invokestatic idx, 3))
    (kk : ∀ (H1 : Heap) (locs1 : List Loc), va_P D vwCl (setAll ws is WS') H1 → va_D A (setAll ws is WS') → va_S A s.heap H1 locs1 → W p l e R s m args below meth c H1 locs1 cells slots Q (F0 m (pc + 3) ls (.long r :: rest))) : W p l e R s m args below meth c H locs cells slots Q (F0 m pc ls st) := by
  obtain ⟨hx, hb, hml, hT, hown, -, -, hK, hN, hSE⟩ := M
  have hPc := cutP hP hi
  have hDc := cutD hD hn hi
  have hFc := freeC hD hS hA hi
  refine va_calll (va_runS (As := As) (rest := rest) ⟨hx, hb, hml, hown, hT⟩ (hC H.size) (va_cwS As.length hT (tbl_in (fun _ h => h) _ _ lk.1 lk.2.1) rfl hR.1 hR.2.1 ⟨lk.2.2.1, lk.2.2.2, hlen⟩ hR.2.2) ⟨blindW, preW hK hN hSE hS hFc hPc hDc⟩ rfl rfl hl hst (lv_room hcat) hd ⟨hcl.1, hcl.2⟩) hS (fun q _ h => hFc q h) hFc (fun r1 u t H1 locs1 ht hvm hw hB hz1 hk1 hS => ?_)
  subst hw
  replace hB : va_P D vwCl WS' t.heap := hB
  rw [ht] at hB
  obtain ⟨h1, h2⟩ := call_join hP hD is hi hf hk1 hB
  exact kk H1 locs1 h1 h2 hS
theorem callSv {idx : Nat} {As rest : List Value} (M : MC p s m args meth c D cs sk A own cc nL ret0) (hC : CTv l y (Cond.code y bytes n none :: gtbl) rm D cs sk As WS WS') (lk : lkS own idx y bytes n none)
    (hlen : (parseMethodDescriptor y.desc).map (fun d => d.parameters.length) = some As.length) (hR : rm.cells = 0 ∧ rm.slots = 0 ∧ rm.frames + 1 ≤ R.frames ∧ 8 + (n + 11) + rm.locals ≤ R.locals)
    (hP : va_P D vwCl ws H) (hD : va_D A ws) (hS : va_S A s.heap H locs) (hA : ∀ q, s.heap.size ≤ q → A q) (is : List Nat) (hn : va_nd is = true) (hi : is.map (fun i => ws[i]?) = WS.map some) (hf : WS'.map Prod.fst = WS.map Prod.fst)
    (hcl : cells ≤ R.cells ∧ slots ≤ R.slots)
    (hl : ls.size = nL) (hst : st = As.reverse ++ rest) (hcat : (rest.map fun v => v.category).sum ≤ 8) (hd : decode cc pc = .ok (.invokestatic idx, 3))
    (kk : ∀ (H1 : Heap) (locs1 : List Loc), va_P D vwCl (setAll ws is WS') H1 → va_D A (setAll ws is WS') → va_S A s.heap H1 locs1 → W p l e R s m args below meth c H1 locs1 cells slots Q (F0 m (pc + 3) ls (rest))) : W p l e R s m args below meth c H locs cells slots Q (F0 m pc ls st) := by
  obtain ⟨hx, hb, hml, hT, hown, -, -, hK, hN, hSE⟩ := M
  have hPc := cutP hP hi
  have hDc := cutD hD hn hi
  have hFc := freeC hD hS hA hi
  refine va_callv (va_runS (As := As) (rest := rest) ⟨hx, hb, hml, hown, hT⟩ (hC H.size) (va_cwS As.length hT (tbl_in (fun _ h => h) _ _ lk.1 lk.2.1) rfl hR.1 hR.2.1 ⟨lk.2.2.1, lk.2.2.2, hlen⟩ hR.2.2) ⟨blindW, preW hK hN hSE hS hFc hPc hDc⟩ rfl rfl hl hst (lv_room hcat) hd ⟨hcl.1, hcl.2⟩) hS (fun q _ h => hFc q h) hFc (fun u t H1 locs1 ht hvm hw hB hz1 hk1 hS => ?_)
  replace hB : va_P D vwCl WS' t.heap := hB
  rw [ht] at hB
  obtain ⟨h1, h2⟩ := call_join hP hD is hi hf hk1 hB
  exact kk H1 locs1 h1 h2 hS
theorem callSNi {idx : Nat} {r : Int32} {host : String} {As rest : List Value} (M : MC p s m args meth c D cs sk A own cc nL ret0) (hC : CTi l y (Cond.code y bytes n rt :: gtbl) rm D cs sk As WS r WS') (lk : lkSN own idx y bytes n rt host)
    (hlen : (parseMethodDescriptor y.desc).map (fun d => d.parameters.length) = some As.length) (hR : rm.cells = 0 ∧ rm.slots = 0 ∧ rm.frames + 1 ≤ R.frames ∧ 8 + (n + 11) + rm.locals ≤ R.locals)
    (hP : va_P D vwCl ws H) (hD : va_D A ws) (hS : va_S A s.heap H locs) (hA : ∀ q, s.heap.size ≤ q → A q) (is : List Nat) (hn : va_nd is = true) (hi : is.map (fun i => ws[i]?) = WS.map some) (hf : WS'.map Prod.fst = WS.map Prod.fst)
    (hcl : cells ≤ R.cells ∧ slots ≤ R.slots)
    (hl : ls.size = nL) (hst : st = As.reverse ++ rest) (hcat : (rest.map fun v => v.category).sum ≤ 8) (hd : decode cc pc = .ok (.invokestatic idx, 3))
    (kk : ∀ (H1 : Heap) (locs1 : List Loc), va_P D vwCl (setAll ws is WS') H1 → va_D A (setAll ws is WS') → va_S A s.heap H1 locs1 → W p l e R s m args below meth c H1 locs1 cells slots Q (F0 m (pc + 3) ls (.int r :: rest))) : W p l e R s m args below meth c H locs cells slots Q (F0 m pc ls st) := by
  obtain ⟨hx, hb, hml, hT, hown, -, -, hK, hN, hSE⟩ := M
  have hPc := cutP hP hi
  have hDc := cutD hD hn hi
  have hFc := freeC hD hS hA hi
  refine va_calli (va_runSN (As := As) (rest := rest) ⟨hx, hb, hml, hown, hT⟩ (hC H.size) ⟨va_cnB As.length hT (tbl_in (fun _ h => h) [] _ (fun _ h => by cases h) lk.2.1) rfl hR.1 hR.2.1 (hN _ lk.2.2.2.2) (hT _ (lk.1 _ (by simp))) ⟨lk.2.2.1, lk.2.2.2.1, hlen⟩ hR.2.2, hT _ (lk.1 _ (by simp)), trivial⟩ ⟨blindW, preW hK hN hSE hS hFc hPc hDc⟩ rfl rfl hl hst (lv_room hcat) hd ⟨hcl.1, hcl.2⟩) hS (fun q _ h => hFc q h) hFc (fun r1 u t H1 locs1 ht hvm hw hB hz1 hk1 hS => ?_)
  subst hw
  replace hB : va_P D vwCl WS' t.heap := hB
  rw [ht] at hB
  obtain ⟨h1, h2⟩ := call_join hP hD is hi hf hk1 hB
  exact kk H1 locs1 h1 h2 hS
theorem callSNv {idx : Nat} {host : String} {As rest : List Value} (M : MC p s m args meth c D cs sk A own cc nL ret0) (hC : CTv l y (Cond.code y bytes n none :: gtbl) rm D cs sk As WS WS') (lk : lkSN own idx y bytes n none host)
    (hlen : (parseMethodDescriptor y.desc).map (fun d => d.parameters.length) = some As.length) (hR : rm.cells = 0 ∧ rm.slots = 0 ∧ rm.frames + 1 ≤ R.frames ∧ 8 + (n + 11) + rm.locals ≤ R.locals)
    (hP : va_P D vwCl ws H) (hD : va_D A ws) (hS : va_S A s.heap H locs) (hA : ∀ q, s.heap.size ≤ q → A q) (is : List Nat) (hn : va_nd is = true) (hi : is.map (fun i => ws[i]?) = WS.map some) (hf : WS'.map Prod.fst = WS.map Prod.fst)
    (hcl : cells ≤ R.cells ∧ slots ≤ R.slots)
    (hl : ls.size = nL) (hst : st = As.reverse ++ rest) (hcat : (rest.map fun v => v.category).sum ≤ 8) (hd : decode cc pc = .ok (.invokestatic idx, 3))
    (kk : ∀ (H1 : Heap) (locs1 : List Loc), va_P D vwCl (setAll ws is WS') H1 → va_D A (setAll ws is WS') → va_S A s.heap H1 locs1 → W p l e R s m args below meth c H1 locs1 cells slots Q (F0 m (pc + 3) ls (rest))) : W p l e R s m args below meth c H locs cells slots Q (F0 m pc ls st) := by
  obtain ⟨hx, hb, hml, hT, hown, -, -, hK, hN, hSE⟩ := M
  have hPc := cutP hP hi
  have hDc := cutD hD hn hi
  have hFc := freeC hD hS hA hi
  refine va_callv (va_runSN (As := As) (rest := rest) ⟨hx, hb, hml, hown, hT⟩ (hC H.size) ⟨va_cnB As.length hT (tbl_in (fun _ h => h) [] _ (fun _ h => by cases h) lk.2.1) rfl hR.1 hR.2.1 (hN _ lk.2.2.2.2) (hT _ (lk.1 _ (by simp))) ⟨lk.2.2.1, lk.2.2.2.1, hlen⟩ hR.2.2, hT _ (lk.1 _ (by simp)), trivial⟩ ⟨blindW, preW hK hN hSE hS hFc hPc hDc⟩ rfl rfl hl hst (lv_room hcat) hd ⟨hcl.1, hcl.2⟩) hS (fun q _ h => hFc q h) hFc (fun u t H1 locs1 ht hvm hw hB hz1 hk1 hS => ?_)
  replace hB : va_P D vwCl WS' t.heap := hB
  rw [ht] at hB
  obtain ⟨h1, h2⟩ := call_join hP hD is hi hf hk1 hB
  exact kk H1 locs1 h1 h2 hS
end Calls
