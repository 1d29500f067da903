/-! ===== what every contract of this claim is made of (own text) ===== -/
abbrev Ob : Type := (Nat → Int32) × (Nat → Nat → Int32)
def sF (t : Ob) (k : Nat) (v : Int32) : Ob := (fun j => if j = k then v else t.1 j, t.2)
def sA (t : Ob) (k i : Nat) (v : Int32) : Ob := (t.1, fun j => if j = k then upd (t.2 k) i v else t.2 j)
def sX (X : Nat → Ob) (k : Nat) (t : Ob) : Nat → Ob := fun j => if j = k then t else X j

def wX0 (cA : ClassId) (a : Nat → Nat) (b : Nat) (t : Ob) : va_W := [(a 0, .inr (0, [.ref b, .ref (a 2)])), (a 2, .inl (cA, 256, .inl (t.2 1)))]
def wX1 (cA : ClassId) (a : Nat → Nat) (t : Ob) : va_W := [(a 0, .inr (1, [.ref (a 1), .ref (a 2), .ref (a 3), .int (t.1 3)])), (a 1, .inl (cA, 8, .inl (t.2 0))), (a 2, .inl (cA, 8, .inl (t.2 1))), (a 3, .inl (cA, 8, .inl (t.2 2)))]
def wX2 (cA : ClassId) (a : Nat → Nat) (t : Ob) : va_W := [(a 0, .inr (2, [.ref (a 1)])), (a 1, .inl (cA, 5, .inl (t.2 0)))]
def wX3 (cA : ClassId) (a : Nat → Nat) (t : Ob) : va_W := [(a 0, .inr (3, [.ref (a 1), .int (t.1 1), .int (t.1 2)])), (a 1, .inl (cA, 16, .inl (t.2 0)))]
def wX4 (cA : ClassId) (a : Nat → Nat) (t : Ob) : va_W := [(a 0, .inr (4, [.ref (a 1), .int (t.1 1)])), (a 1, .inl (cA, 8, .inl (t.2 0)))]
def wX5 (cA : ClassId) (a : Nat → Nat) (t : Ob) : va_W := [(a 0, .inr (5, [.ref (a 1), .int (t.1 1)])), (a 1, .inl (cA, 300, .inl (t.2 0)))]
def wX6 (cA : ClassId) (a : Nat → Nat) (t : Ob) : va_W := [(a 0, .inr (6, [.ref (a 1), .ref (a 2), .ref (a 3), .ref (a 4), .ref (a 5), .ref (a 6), .int (t.1 6), .int (t.1 7), .int (t.1 8), .int (t.1 9), .int (t.1 10), .int (t.1 11)])), (a 1, .inl (cA, 8, .inl (t.2 0))), (a 2, .inl (cA, 8, .inl (t.2 1))), (a 3, .inl (cA, 8, .inl (t.2 2))), (a 4, .inl (cA, 8, .inl (t.2 3))), (a 5, .inl (cA, 8, .inl (t.2 4))), (a 6, .inl (cA, 8, .inl (t.2 5)))]
def tX7 (ad : Nat → Nat → Nat) (t : Ob) : va_W := [(ad 6 0, .inr (7, [.ref (ad 0 0), .ref (ad 1 0), .ref (ad 2 0), .ref (ad 3 0), .ref (ad 4 0), .ref (ad 5 0), .int (t.1 6), .ref (ad 7 0), .ref (ad 8 0), .ref (ad 9 0), .ref (ad 10 0), .ref (ad 11 0)]))]
def wX7b (cA : ClassId) (ad : Nat → Nat → Nat) (x0 x1 x2 x3 x4 x5 x6 x7 x8 x9 x10 x11 : Ob) : va_W := tX7 ad x6 ++ (wX5 cA (ad 0) x0 ++ (wX2 cA (ad 1) x1 ++ (wX6 cA (ad 2) x2 ++ (wX6 cA (ad 3) x3 ++ (wX6 cA (ad 4) x4 ++ (wX6 cA (ad 5) x5 ++ (wX1 cA (ad 7) x7 ++ (wX0 cA (ad 8) (ad 2 0) x8 ++ (wX4 cA (ad 9) x9 ++ (wX3 cA (ad 10) x10 ++ (wX3 cA (ad 11) x11)))))))))))
def wX7 (cA : ClassId) (ad : Nat → Nat → Nat) (X : Nat → Ob) : va_W := wX7b cA ad (X 0) (X 1) (X 2) (X 3) (X 4) (X 5) (X 6) (X 7) (X 8) (X 9) (X 10) (X 11)
def nestW : List Cond := [Cond.methodLinkNest RX7 9 yX5_init "TiedToTown", Cond.methodLinkNest RX7 18 yX2_init "TiedToTown", Cond.methodLinkNest RX7 25 yX6_init "TiedToTown", Cond.fieldLinkNest RX7 111 "TiedToTown$Town" "first" "[I" "TiedToTown", Cond.fieldLinkNest RX7 115 "TiedToTown$Town" "second" "[I" "TiedToTown", Cond.fieldLinkNest RX0 89 "TiedToTown$Town" "people" "[I" "TiedToTown", Cond.fieldLinkNest RX7 118 "TiedToTown$Town" "through" "[I" "TiedToTown", Cond.fieldLinkNest RX4 36 "TiedToTown$Town" "through" "[I" "TiedToTown", Cond.fieldLinkNest RX0 73 "TiedToTown$Town" "through" "[I" "TiedToTown", Cond.fieldLinkNest RX7 121 "TiedToTown$Town" "due" "[I" "TiedToTown", Cond.fieldLinkNest RX7 124 "TiedToTown$Town" "kind" "[I" "TiedToTown", Cond.fieldLinkNest RX7 259 "TiedToTown$Town" "persons" "I" "TiedToTown", Cond.fieldLinkNest RX0 25 "TiedToTown$Town" "alive" "I" "TiedToTown", Cond.fieldLinkNest RX7 145 "TiedToTown$Town" "alive" "I" "TiedToTown", Cond.fieldLinkNest RX7 262 "TiedToTown$Town" "law" "I" "TiedToTown", Cond.fieldLinkNest RX1 28 "TiedToTown$Town" "knots" "I" "TiedToTown", Cond.fieldLinkNest RX7 99 "TiedToTown$Town" "knots" "I" "TiedToTown", Cond.fieldLinkNest RX0 80 "TiedToTown$Town" "knots" "I" "TiedToTown", Cond.fieldLinkNest RX0 32 "TiedToTown$Town" "tied" "I" "TiedToTown", Cond.fieldLinkNest RX1 32 "TiedToTown$Town" "tied" "I" "TiedToTown", Cond.fieldLinkNest RX7 127 "TiedToTown$Town" "tied" "I" "TiedToTown", Cond.fieldLinkNest RX0 19 "TiedToTown$Town" "day" "I" "TiedToTown", Cond.fieldLinkNest RX1 34 "TiedToTown$Town" "day" "I" "TiedToTown", Cond.fieldLinkNest RX7 177 "TiedToTown$Town" "day" "I" "TiedToTown", Cond.methodLinkNest RX7 45 yX1_init "TiedToTown", Cond.methodLinkNest RX7 61 yX4_init "TiedToTown", Cond.methodLinkNest RX7 68 yX3_init "TiedToTown", Cond.methodLinkNest RX6 49 yX7_bit "TiedToTown", Cond.methodLinkNest RX6 64 yX7_has "TiedToTown", Cond.methodLinkNest RX6 82 yX7_isWithin "TiedToTown", Cond.methodLinkNest RX0 39 yX7_bit "TiedToTown", Cond.methodLinkNest RX0 43 yX7_has "TiedToTown", Cond.methodLinkNest RX0 64 yX7_isWithin "TiedToTown", Cond.methodLinkNest RX0 67 yX7_ropeOf "TiedToTown", Cond.methodLinkNest RX4 27 yX7_bit "TiedToTown", Cond.methodLinkNest RX4 23 yX7_has "TiedToTown"]
set_option maxRecDepth 20000 in
theorem nest_in : ∀ w ∈ nestW, w ∈ lw_tbl := mem_r _ [34, 48, 58, 63, 65, 67, 69, 70, 71, 73, 75, 77, 79, 80, 82, 84, 85, 86, 88, 89, 90, 91, 93, 94, 122, 154, 167, 201, 271, 298, 367, 372, 418, 419, 438, 439] (by decide +kernel)
theorem nest_warm {s U : State} (hW : s.WarmedH U.vm) (h : ∀ w ∈ nestW, va_Nw w s) : ∀ w ∈ nestW, va_Nw w U := by
  intro w hw
  have h1 := h w hw
  unfold nestW at hw
  simp only [List.mem_cons, List.not_mem_nil, or_false] at hw
  rcases hw with rfl | rfl | rfl | rfl | rfl | rfl | rfl | rfl | rfl | rfl | rfl | rfl | rfl | rfl | rfl | rfl | rfl | rfl | rfl | rfl | rfl | rfl | rfl | rfl | rfl | rfl | rfl | rfl | rfl | rfl | rfl | rfl | rfl | rfl | rfl | rfl <;> first | exact va_Nw.warmF hW h1 | exact va_Nw.warmM hW h1
theorem nest_same {u U : State} (e : u.vm = U.vm) (h : ∀ w ∈ nestW, va_Nw w u) : ∀ w ∈ nestW, va_Nw w U := by
  intro w hw
  have h1 := h w hw
  unfold nestW at hw
  simp only [List.mem_cons, List.not_mem_nil, or_false] at hw
  rcases hw with rfl | rfl | rfl | rfl | rfl | rfl | rfl | rfl | rfl | rfl | rfl | rfl | rfl | rfl | rfl | rfl | rfl | rfl | rfl | rfl | rfl | rfl | rfl | rfl | rfl | rfl | rfl | rfl | rfl | rfl | rfl | rfl | rfl | rfl | rfl | rfl <;> exact va_Nw.same rfl e h1
/-- what the tables say of the classes, of int arrays, of the nest -/
def KB (D : va_G) (cA : ClassId) (U : State) : Prop := va_K D vwCl [(cA, .int)] U ∧ ∀ w ∈ nestW, va_Nw w U
theorem KB.warm {D : va_G} {cA : ClassId} {s U : State} (h : KB D cA s) (hW : s.WarmedH U.vm) : KB D cA U := ⟨va_K.moved hW.alike h.1, nest_warm hW h.2⟩
theorem KB.call {D : va_G} {cA : ClassId} {U : State} {g : JFrame} {mk : MethodId} {a : Array Value} (h : KB D cA U) : KB D cA (U.calling g mk a) := ⟨va_K.moved (u := U) (U := U.calling g mk a) (Vm.Alike.refl U.vm) h.1, nest_same (u := U) (U := U.calling g mk a) rfl h.2⟩
/-! contracts: R reads alone; W writes, answers an int; V writes, answers nothing; A answers a cell -/
def ConR (l : Launch) (y : MethodName) (ws : List Cond) (rm : Room) (D : va_G) (cA : ClassId) (As : List Value) (wc : va_W) (r : Int32) : Prop :=
  Met l y ws rm (va_Pc As (fun U => va_P D vwCl wc U.heap ∧ KB D cA U)) (vp_Si (fun x => x = r)) 0 0 (fun _ => False)
def ConW (l : Launch) (y : MethodName) (ws : List Cond) (rm : Room) (D : va_G) (cA : ClassId) (As : List Value) (wc : va_W) (r : Int32) (w1 : va_W) : Prop :=
  ∀ sz, Met l y ws rm (va_Pc As (fun U => U.heap.size = sz ∧ va_P D vwCl wc U.heap ∧ KB D cA U ∧ va_D (fun _ => True) wc)) (va_Qi (fun x (_ : Unit) => x = r) (fun _ t => va_P D vwCl w1 t.heap ∧ va_D (va_A wc sz) w1) (va_A wc sz)) 0 0 (va_A wc sz)
def ConV (l : Launch) (y : MethodName) (ws : List Cond) (rm : Room) (D : va_G) (cA : ClassId) (As : List Value) (wc : va_W) (w1 : va_W) : Prop :=
  ∀ sz, Met l y ws rm (va_Pc As (fun U => U.heap.size = sz ∧ va_P D vwCl wc U.heap ∧ KB D cA U ∧ va_D (fun _ => True) wc)) (va_Qv (fun (_ : Unit) => True) (fun _ t => va_P D vwCl w1 t.heap ∧ va_D (va_A wc sz) w1) (va_A wc sz)) 0 0 (va_A wc sz)
def ConA (l : Launch) (y : MethodName) (ws : List Cond) (rm : Room) (D : va_G) (cA : ClassId) (As : List Value) (wc : va_W) (q : Nat) : Prop :=
  Met l y ws rm (va_Pc As (fun U => va_P D vwCl wc U.heap ∧ KB D cA U)) (va_Sr (fun k => k = q) (fun k => Value.ref k)) 0 0 (fun _ => False)
/-! the pure side's words -/
def nm {α β : Type} (e : α) (k : α → β) : β := k e
theorem nm_ap {α β : Type} {e x : α} {k : α → Option β} {r : β} (h : x = e) (h2 : nm e k = some r) : k x = some r := by rw [h]; exact h2
def bd {α β : Type} (o : Option α) (k : α → Option β) : Option β := match o with
  | some x => k x
  | none => none
theorem bd_some {α β : Type} {o : Option α} {k : α → Option β} {r : β} (h : bd o k = some r) : ∃ x, o = some x ∧ k x = some r := by
  cases o with
  | none => cases h
  | some x => exact ⟨x, rfl, h⟩
def gd {α : Type} (c : Bool) (o : Option α) : Option α := match c with
  | true => o
  | false => none
theorem gd_some {α : Type} {c : Bool} {o : Option α} {r : α} (h : gd c o = some r) : c = true ∧ o = some r := by
  cases c with
  | false => cases h
  | true => exact ⟨rfl, h⟩
def ck (i : Int32) (n : Nat) : Bool := !(decide (i < 0)) && decide (i.toNatClampNeg < n)
theorem ck_in {i : Int32} {n : Nat} (h : ck i n = true) : vp_in i n := by
  intro h2
  unfold ck at h
  simp only [Bool.and_eq_true, Bool.not_eq_true', decide_eq_false_iff_not, decide_eq_true_eq] at h
  rcases h2 with h2 | h2
  · exact h.1 h2
  · omega
def ckz (v : Int32) : Bool := decide ((v &&& 1) = v)
theorem ckz_n {v : Int32} (h : ckz v = true) : narrow .boolean (.int v) = .int v := by
  have h1 := of_decide_eq_true h
  show Value.int (v &&& 1) = Value.int v
  rw [h1]
theorem if_t {α : Type} {c : Prop} {d : Decidable c} {a b : Option α} {r : α} (hc : c) (h : (if c then a else b) = some r) : a = some r := by rw [if_pos hc] at h; exact h
theorem if_f {α : Type} {c : Prop} {d : Decidable c} {a b : Option α} {r : α} (hc : ¬ c) (h : (if c then a else b) = some r) : b = some r := by rw [if_neg hc] at h; exact h
theorem fm_of {α β : Type} {f : α → Option β} {is : List α} {w : List β} (h : is.map f = w.map some) : is.filterMap f = w := by
  induction is generalizing w with
  | nil => cases w with
    | nil => rfl
    | cons x w => simp at h
  | cons i is ih => cases w with
    | nil => simp at h
    | cons x w =>
      simp only [List.map_cons, List.cons.injEq] at h
      rw [List.filterMap_cons, h.1]
      exact congrArg _ (ih h.2)

theorem ConR.enter {l : Launch} {y : MethodName} {ws ws' : List Cond} {rm : Room} {D : va_G} {cA : ClassId} {As : List Value} {wc : va_W} {r : Int32} {cc : ByteArray} {maxL : Nat} (hy : plainName y.cls = true) (hw : ws = Cond.code y cc maxL (some .int) :: ws') (hlen : (lg_sl As).length ≤ maxL)
    (body : ∀ (p : Program) (e : Env) (s : State) (m : MethodId) (args : Array Value) (below : List Frame) (meth : Method) (c : Code) (Q : State → Prop), p.tables.exec = Jvm.exec → c.code = cc → c.maxLocals = maxL → s.vm.findClass y.cls = some m.cls → (∀ w ∈ ws, w.before args s = true) → KB D cA s → va_P D vwCl wc s.heap →
      (∀ (pc : Nat) (ls : Array Slot), decode cc pc = .ok (.ireturn, 1) → W p l e rm s m args below meth c s.heap [] 0 0 Q (F0 m pc ls [.int r])) →
      ∀ ls : Array Slot, lv_has ls maxL (lv_args 0 As) → W p l e rm s m args below meth c s.heap [] 0 0 Q (F0 m 0 ls [])) : ConR l y ws rm D cA As wc r := by
  refine Met.ofW (cc := cc) (maxL := maxL) (ret := some .int) hy hw ?_
  intro p e s m args below meth c s₁ B hml hv
  obtain ⟨rfl, hP, hK⟩ := hv
  have hl := lv_entry As (n := maxL) hlen
  rw [lg_entry_eq]
  exact body p e s m As.toArray below meth c _ B.exec B.bytes hml (findClass_of_methodNamed B.named) (atoms_spec (ws := ws) B.pre) hK hP (fun pc ls hd => W.iret B.exec B.bytes B.returns (fun t ht hW => ⟨r, rfl, rfl, ht⟩) (fun q hq => by cases hq) hd B.notSynchronized) _ hl

theorem ConZ.enter {l : Launch} {y : MethodName} {ws ws' : List Cond} {rm : Room} {D : va_G} {cA : ClassId} {As : List Value} {wc : va_W} {r : Int32} {cc : ByteArray} {maxL : Nat} (hy : plainName y.cls = true) (hw : ws = Cond.code y cc maxL (some .boolean) :: ws') (hlen : (lg_sl As).length ≤ maxL)
    (body : ∀ (p : Program) (e : Env) (s : State) (m : MethodId) (args : Array Value) (below : List Frame) (meth : Method) (c : Code) (Q : State → Prop), p.tables.exec = Jvm.exec → c.code = cc → c.maxLocals = maxL → s.vm.findClass y.cls = some m.cls → (∀ w ∈ ws, w.before args s = true) → KB D cA s → va_P D vwCl wc s.heap →
      (∀ (pc : Nat) (ls : Array Slot) (_ : narrow .boolean (.int r) = .int r), decode cc pc = .ok (.ireturn, 1) → W p l e rm s m args below meth c s.heap [] 0 0 Q (F0 m pc ls [.int r])) →
      ∀ ls : Array Slot, lv_has ls maxL (lv_args 0 As) → W p l e rm s m args below meth c s.heap [] 0 0 Q (F0 m 0 ls [])) : ConR l y ws rm D cA As wc r := by
  refine Met.ofW (cc := cc) (maxL := maxL) (ret := some .boolean) hy hw ?_
  intro p e s m args below meth c s₁ B hml hv
  obtain ⟨rfl, hP, hK⟩ := hv
  have hl := lv_entry As (n := maxL) hlen
  rw [lg_entry_eq]
  exact body p e s m As.toArray below meth c _ B.exec B.bytes hml (findClass_of_methodNamed B.named) (atoms_spec (ws := ws) B.pre) hK hP (fun pc ls hn hd => W.zret B.exec B.bytes B.returns hn (fun t ht hW => ⟨r, rfl, rfl, ht⟩) (fun q hq => by cases hq) hd B.notSynchronized) _ hl

theorem ConW.enter {l : Launch} {y : MethodName} {ws ws' : List Cond} {rm : Room} {D : va_G} {cA : ClassId} {As : List Value} {wc w1 : va_W} {r : Int32} {cc : ByteArray} {maxL : Nat} (hy : plainName y.cls = true) (hw : ws = Cond.code y cc maxL (some .int) :: ws') (hlen : (lg_sl As).length ≤ maxL)
    (body : ∀ (p : Program) (e : Env) (s : State) (m : MethodId) (args : Array Value) (below : List Frame) (meth : Method) (c : Code) (Q : State → Prop) (A : Nat → Prop), p.tables.exec = Jvm.exec → c.code = cc → c.maxLocals = maxL → s.vm.findClass y.cls = some m.cls → (∀ w ∈ ws, w.before args s = true) → KB D cA s → va_P D vwCl wc s.heap → va_D A wc → (∀ q : Nat, s.heap.size ≤ q → A q) →
      (∀ (H : Heap) (locs : List Loc) (pc : Nat) (ls : Array Slot), va_P D vwCl w1 H → va_D A w1 → va_S A s.heap H locs → decode cc pc = .ok (.ireturn, 1) → W p l e rm s m args below meth c H locs 0 0 Q (F0 m pc ls [.int r])) →
      ∀ ls : Array Slot, lv_has ls maxL (lv_args 0 As) → W p l e rm s m args below meth c s.heap [] 0 0 Q (F0 m 0 ls [])) : ConW l y ws rm D cA As wc r w1 := by
  intro sz
  refine Met.ofW (cc := cc) (maxL := maxL) (ret := (some .int)) hy hw ?_
  intro p e s m args below meth c s₁ B hml hv
  obtain ⟨rfl, hsz, hP, hK, hD0⟩ := hv
  subst hsz
  have hl := lv_entry As (n := maxL) hlen
  rw [lg_entry_eq]
  exact body p e s m As.toArray below meth c _ (va_A wc s.heap.size) B.exec B.bytes hml (findClass_of_methodNamed B.named) (atoms_spec (ws := ws) B.pre) hK hP hD0.self (fun q h => Or.inr h) (fun H locs pc ls hP hD hS hd => W.iret B.exec B.bytes B.returns (fun t ht hW => ⟨⟨r, (), rfl, rfl, by rw [ht]; exact hP, hD⟩, hS.F ht⟩) hS.2.2 hd B.notSynchronized) _ hl

theorem ConWZ.enter {l : Launch} {y : MethodName} {ws ws' : List Cond} {rm : Room} {D : va_G} {cA : ClassId} {As : List Value} {wc w1 : va_W} {r : Int32} {cc : ByteArray} {maxL : Nat} (hy : plainName y.cls = true) (hw : ws = Cond.code y cc maxL (some .boolean) :: ws') (hlen : (lg_sl As).length ≤ maxL)
    (body : ∀ (p : Program) (e : Env) (s : State) (m : MethodId) (args : Array Value) (below : List Frame) (meth : Method) (c : Code) (Q : State → Prop) (A : Nat → Prop), p.tables.exec = Jvm.exec → c.code = cc → c.maxLocals = maxL → s.vm.findClass y.cls = some m.cls → (∀ w ∈ ws, w.before args s = true) → KB D cA s → va_P D vwCl wc s.heap → va_D A wc → (∀ q : Nat, s.heap.size ≤ q → A q) →
      (∀ (H : Heap) (locs : List Loc) (pc : Nat) (ls : Array Slot) (_ : narrow .boolean (.int r) = .int r), va_P D vwCl w1 H → va_D A w1 → va_S A s.heap H locs → decode cc pc = .ok (.ireturn, 1) → W p l e rm s m args below meth c H locs 0 0 Q (F0 m pc ls [.int r])) →
      ∀ ls : Array Slot, lv_has ls maxL (lv_args 0 As) → W p l e rm s m args below meth c s.heap [] 0 0 Q (F0 m 0 ls [])) : ConW l y ws rm D cA As wc r w1 := by
  intro sz
  refine Met.ofW (cc := cc) (maxL := maxL) (ret := (some .boolean)) hy hw ?_
  intro p e s m args below meth c s₁ B hml hv
  obtain ⟨rfl, hsz, hP, hK, hD0⟩ := hv
  subst hsz
  have hl := lv_entry As (n := maxL) hlen
  rw [lg_entry_eq]
  exact body p e s m As.toArray below meth c _ (va_A wc s.heap.size) B.exec B.bytes hml (findClass_of_methodNamed B.named) (atoms_spec (ws := ws) B.pre) hK hP hD0.self (fun q h => Or.inr h) (fun H locs pc ls hn hP hD hS hd => W.zret B.exec B.bytes B.returns hn (fun t ht hW => ⟨⟨r, (), rfl, rfl, by rw [ht]; exact hP, hD⟩, hS.F ht⟩) hS.2.2 hd B.notSynchronized) _ hl

theorem ConV.enter {l : Launch} {y : MethodName} {ws ws' : List Cond} {rm : Room} {D : va_G} {cA : ClassId} {As : List Value} {wc w1 : va_W} {cc : ByteArray} {maxL : Nat} (hy : plainName y.cls = true) (hw : ws = Cond.code y cc maxL none :: ws') (hlen : (lg_sl As).length ≤ maxL)
    (body : ∀ (p : Program) (e : Env) (s : State) (m : MethodId) (args : Array Value) (below : List Frame) (meth : Method) (c : Code) (Q : State → Prop) (A : Nat → Prop), p.tables.exec = Jvm.exec → c.code = cc → c.maxLocals = maxL → s.vm.findClass y.cls = some m.cls → (∀ w ∈ ws, w.before args s = true) → KB D cA s → va_P D vwCl wc s.heap → va_D A wc → (∀ q : Nat, s.heap.size ≤ q → A q) →
      (∀ (H : Heap) (locs : List Loc) (pc : Nat) (ls : Array Slot), va_P D vwCl w1 H → va_D A w1 → va_S A s.heap H locs → decode cc pc = .ok (.return_, 1) → W p l e rm s m args below meth c H locs 0 0 Q (F0 m pc ls [])) →
      ∀ ls : Array Slot, lv_has ls maxL (lv_args 0 As) → W p l e rm s m args below meth c s.heap [] 0 0 Q (F0 m 0 ls [])) : ConV l y ws rm D cA As wc w1 := by
  intro sz
  refine Met.ofW (cc := cc) (maxL := maxL) (ret := none) hy hw ?_
  intro p e s m args below meth c s₁ B hml hv
  obtain ⟨rfl, hsz, hP, hK, hD0⟩ := hv
  subst hsz
  have hl := lv_entry As (n := maxL) hlen
  rw [lg_entry_eq]
  exact body p e s m As.toArray below meth c _ (va_A wc s.heap.size) B.exec B.bytes hml (findClass_of_methodNamed B.named) (atoms_spec (ws := ws) B.pre) hK hP hD0.self (fun q h => Or.inr h) (fun H locs pc ls hP hD hS hd => W.vret B.exec B.bytes B.returns (fun t ht hW => ⟨⟨(), rfl, trivial, by rw [ht]; exact hP, hD⟩, hS.F ht⟩) hS.2.2 hd B.notSynchronized) _ hl

theorem ConA.enter {l : Launch} {y : MethodName} {ws ws' : List Cond} {rm : Room} {D : va_G} {cA : ClassId} {As : List Value} {wc : va_W} {r : Nat} {cc : ByteArray} {maxL : Nat} {C : String} (hy : plainName y.cls = true) (hw : ws = Cond.code y cc maxL (some (.object C)) :: ws') (hlen : (lg_sl As).length ≤ maxL)
    (body : ∀ (p : Program) (e : Env) (s : State) (m : MethodId) (args : Array Value) (below : List Frame) (meth : Method) (c : Code) (Q : State → Prop), p.tables.exec = Jvm.exec → c.code = cc → c.maxLocals = maxL → s.vm.findClass y.cls = some m.cls → (∀ w ∈ ws, w.before args s = true) → KB D cA s → va_P D vwCl wc s.heap →
      (∀ (pc : Nat) (ls : Array Slot), decode cc pc = .ok (.areturn, 1) → W p l e rm s m args below meth c s.heap [] 0 0 Q (F0 m pc ls [.ref r])) →
      ∀ ls : Array Slot, lv_has ls maxL (lv_args 0 As) → W p l e rm s m args below meth c s.heap [] 0 0 Q (F0 m 0 ls [])) : ConA l y ws rm D cA As wc r := by
  refine Met.ofW (cc := cc) (maxL := maxL) (ret := some (.object C)) hy hw ?_
  intro p e s m args below meth c s₁ B hml hv
  obtain ⟨rfl, hP, hK⟩ := hv
  have hl := lv_entry As (n := maxL) hlen
  rw [lg_entry_eq]
  exact body p e s m As.toArray below meth c _ B.exec B.bytes hml (findClass_of_methodNamed B.named) (atoms_spec (ws := ws) B.pre) hK hP (fun pc ls hd => W.aret (v := .ref r) B.exec B.bytes B.returns (Or.inl ⟨C, rfl⟩) (Or.inr ⟨r, rfl⟩) (fun t ht hW => ⟨r, rfl, rfl, ht⟩) (fun q hq => by cases hq) hd B.notSynchronized) _ hl
section CALLS
variable {p : Program} {l : Launch} {e : Env} {R : Room} {s : State} {m : MethodId} {args : Array Value} {below : List Frame} {meth : Method} {c : Code} {H : Heap} {locs : List Loc} {cells slots : Nat} {Q : State → Prop}
variable {pc nL maxL n index : Nat} {ls : Array Slot} {As rest st0 : List Value} {cc bytes : ByteArray} {y : MethodName} {own C host : String} {ret : Option FieldType} {Ts wy : List Cond} {rm : Room} {b : Nat} {D : va_G} {cA : ClassId} {wc ws w1 wr wn : va_W} {r : Int32} {q : Nat} {A0 : Nat → Prop} {H0 : Heap}
theorem cs_i {a : Array Value} (hr : va_Run p l e R s m args below meth c H locs cells slots 0 0 (F0 m pc ls st0) rest (vp_Si (fun x => x = r) a) (fun _ => False)) (k : W p l e R s m args below meth c H locs cells slots Q (F0 m (pc + 3) ls (.int r :: rest))) : W p l e R s m args below meth c H locs cells slots Q (F0 m pc ls st0) := by
  intro T hT X
  obtain ⟨v, st₀, t, T', L, h0, X', hL, e1, e2, ⟨r', hv, hp, hh⟩, st⟩ := hr T hT X
  cases hv
  subst hp
  cases L with
  | cons q L => exact (hL q List.mem_cons_self).elim
  | nil =>
    rw [List.append_nil] at X'
    obtain ⟨t2, a1, b1⟩ := k T' (by rw [e1, hh, h0]) X'
    exact ⟨t2, st t2 a1, b1⟩
theorem cs_a {a : Array Value} (hr : va_Run p l e R s m args below meth c H locs cells slots 0 0 (F0 m pc ls st0) rest (va_Sr (fun x => x = q) (fun k => Value.ref k) a) (fun _ => False)) (k : W p l e R s m args below meth c H locs cells slots Q (F0 m (pc + 3) ls (.ref q :: rest))) : W p l e R s m args below meth c H locs cells slots Q (F0 m pc ls st0) := by
  intro T hT X
  obtain ⟨v, st₀, t, T', L, h0, X', hL, e1, e2, ⟨r', hv, hp, hh⟩, st⟩ := hr T hT X
  cases hv
  subst hp
  cases L with
  | cons q L => exact (hL q List.mem_cons_self).elim
  | nil =>
    rw [List.append_nil] at X'
    obtain ⟨t2, a1, b1⟩ := k T' (by rw [e1, hh, h0]) X'
    exact ⟨t2, st t2 a1, b1⟩
theorem preR {U : State} (hP : va_P D vwCl ws H) (is : List Nat) (hs : is.filterMap (fun i => ws[i]?) = wc) : va_P D vwCl wc H := hP.sub is hs
theorem blindR {As : List Value} : FrameBlind (va_Pc As (fun U => va_P D vwCl wc U.heap ∧ KB D cA U)) := fun _ _ _ _ h => ⟨h.1, h.2.1, h.2.2.call⟩
theorem blindW {As : List Value} {sz : Nat} : FrameBlind (va_Pc As (fun U => U.heap.size = sz ∧ va_P D vwCl wc U.heap ∧ KB D cA U ∧ va_D (fun _ => True) wc)) := fun _ _ _ _ h => ⟨h.1, h.2.1, h.2.2.1, h.2.2.2.1.call, h.2.2.2.2⟩
/-- the callee's cells out of the caller's -/
theorem recvK (hK : KB D cA s) (hP : va_P D vwCl ws H) (q0 ci : Nat) {fs : List Value} {T : u_T} {N : Nat} (hc : vwCl[ci]? = some (C, T, N)) (he : ws[q0]? = some (b, .inr (ci, fs))) : ∃ cellB : Cell, H[b]? = some cellB ∧ cellB.vm.isStatics = false ∧ s.vm.findClass C = some cellB.cls := va_recv hK.1 hP hc he

theorem cR_V (S : CallFix p m c cc nL s args Ts own) (hM : ConR l y wy rm D cA (.ref b :: As) wc r) (cw : CallW R s args own C index y bytes maxL ret wy rm 0 0 n) (hr : ∃ cellB : Cell, H[b]? = some cellB ∧ cellB.vm.isStatics = false ∧ s.vm.findClass C = some cellB.cls) (hK : KB D cA s) (hP : va_P D vwCl ws H) (is : List Nat) (hs : is.filterMap (fun i => ws[i]?) = wc)
    (hn : As.length = n) (hsize : ls.size = nL) (hst : st0 = As.reverse ++ .ref b :: rest) (hW : (rest.map fun v => v.category).sum ≤ 8) (hdg : decode cc pc = .ok (.invokevirtual index, 3)) (hf : cells + 0 ≤ R.cells ∧ slots + 0 ≤ R.slots)
    (k : W p l e R s m args below meth c H locs cells slots Q (F0 m (pc + 3) ls (.int r :: rest))) : W p l e R s m args below meth c H locs cells slots Q (F0 m pc ls st0) :=
  cs_i (va_runV (As := As) (rest := rest) S hM cw ⟨blindR, hr, fun U hU hW => ⟨rfl, by rw [hU]; exact hP.sub is hs, hK.warm hW⟩⟩ rfl hn hsize hst (lv_room hW) hdg hf) k
theorem cR_S (S : CallFix p m c cc nL s args Ts own) (hM : ConR l y wy rm D cA As wc r) (cw : CallB R s args own index y bytes maxL ret wy rm 0 0 n ∧ (Cond.static y).before args s = true) (hK : KB D cA s) (hP : va_P D vwCl ws H) (is : List Nat) (hs : is.filterMap (fun i => ws[i]?) = wc)
    (hn : As.length = n) (hsize : ls.size = nL) (hst : st0 = As.reverse ++ rest) (hW : (rest.map fun v => v.category).sum ≤ 8) (hdg : decode cc pc = .ok (.invokestatic index, 3)) (hf : cells + 0 ≤ R.cells ∧ slots + 0 ≤ R.slots)
    (k : W p l e R s m args below meth c H locs cells slots Q (F0 m (pc + 3) ls (.int r :: rest))) : W p l e R s m args below meth c H locs cells slots Q (F0 m pc ls st0) :=
  cs_i (va_runS (As := As) (rest := rest) S hM cw ⟨blindR, fun U hU hW => ⟨rfl, by rw [hU]; exact hP.sub is hs, hK.warm hW⟩⟩ rfl hn hsize hst (lv_room hW) hdg hf) k
theorem cR_SN (S : CallFix p m c cc nL s args Ts own) (hM : ConR l y wy rm D cA As wc r) (cw : va_CN R s args own index y host bytes maxL ret wy rm 0 0 n ∧ (Cond.static y).before args s = true ∧ True) (hK : KB D cA s) (hP : va_P D vwCl ws H) (is : List Nat) (hs : is.filterMap (fun i => ws[i]?) = wc)
    (hn : As.length = n) (hsize : ls.size = nL) (hst : st0 = As.reverse ++ rest) (hW : (rest.map fun v => v.category).sum ≤ 8) (hdg : decode cc pc = .ok (.invokestatic index, 3)) (hf : cells + 0 ≤ R.cells ∧ slots + 0 ≤ R.slots)
    (k : W p l e R s m args below meth c H locs cells slots Q (F0 m (pc + 3) ls (.int r :: rest))) : W p l e R s m args below meth c H locs cells slots Q (F0 m pc ls st0) :=
  cs_i (va_runSN (As := As) (rest := rest) S hM cw ⟨blindR, fun U hU hW => ⟨rfl, by rw [hU]; exact hP.sub is hs, hK.warm hW⟩⟩ rfl hn hsize hst (lv_room hW) hdg hf) k
theorem cA_V (S : CallFix p m c cc nL s args Ts own) (hM : ConA l y wy rm D cA (.ref b :: As) wc q) (cw : CallW R s args own C index y bytes maxL ret wy rm 0 0 n) (hr : ∃ cellB : Cell, H[b]? = some cellB ∧ cellB.vm.isStatics = false ∧ s.vm.findClass C = some cellB.cls) (hK : KB D cA s) (hP : va_P D vwCl ws H) (is : List Nat) (hs : is.filterMap (fun i => ws[i]?) = wc)
    (hn : As.length = n) (hsize : ls.size = nL) (hst : st0 = As.reverse ++ .ref b :: rest) (hW : (rest.map fun v => v.category).sum ≤ 8) (hdg : decode cc pc = .ok (.invokevirtual index, 3)) (hf : cells + 0 ≤ R.cells ∧ slots + 0 ≤ R.slots)
    (k : W p l e R s m args below meth c H locs cells slots Q (F0 m (pc + 3) ls (.ref q :: rest))) : W p l e R s m args below meth c H locs cells slots Q (F0 m pc ls st0) :=
  cs_a (va_runV (As := As) (rest := rest) S hM cw ⟨blindR, hr, fun U hU hW => ⟨rfl, by rw [hU]; exact hP.sub is hs, hK.warm hW⟩⟩ rfl hn hsize hst (lv_room hW) hdg hf) k
/-- after a call that wrote: the caller's other cells beside what came back, in the caller's order -/
theorem backW (hP : va_P D vwCl ws H) (hD : va_D A0 ws) (hS : va_S A0 H0 H locs) (hA : ∀ q, H0.size ≤ q → A0 q) (isC isR pm : List Nat) (hC : isC.map (fun i => ws[i]?) = wc.map some) (hR : isR.map (fun i => ws[i]?) = wr.map some) (hn : va_nd isR = true) (hdis : isR.all (fun i => !isC.contains i) = true) (hpm : pm.map (fun i => (wr ++ w1)[i]?) = wn.map some) (hnd : va_nd pm = true) {H1 : Heap}
    (hk : ∀ q : Nat, q < H.size → ¬ va_A wc H.size q → H1[q]? = H[q]?) (hP1 : va_P D vwCl w1 H1) (hD1 : va_D (va_A wc H.size) w1) : va_P D vwCl wn H1 ∧ va_D A0 wn := by
  have hF := va_free (wc := wc) hD hS hA isC hC
  obtain ⟨h1, h2⟩ := va_join (wr := wr) (w1 := w1) hP hD isC isR hC hR hn (fun i hi hc => by
    have h3 := List.all_eq_true.mp hdis i hi
    rw [List.contains_iff_mem.mpr hc] at h3
    cases h3) hk hF hP1 hD1
  exact ⟨h1.sub pm (fm_of hpm), h2.sub pm hnd hpm⟩

theorem cW_V (S : CallFix p m c cc nL s args Ts own) (hM : ConW l y wy rm D cA (.ref b :: As) wc r w1) (cw : CallW R s args own C index y bytes maxL ret wy rm 0 0 n) (hr : ∃ cellB : Cell, H[b]? = some cellB ∧ cellB.vm.isStatics = false ∧ s.vm.findClass C = some cellB.cls) (hK : KB D cA s) (hP : va_P D vwCl ws H) (hD : va_D A0 ws) (hS : va_S A0 H0 H locs) (hA : ∀ q, H0.size ≤ q → A0 q) (isC isR pm : List Nat) (hC : isC.map (fun i => ws[i]?) = wc.map some) (hR : isR.map (fun i => ws[i]?) = (isR.filterMap (fun i => ws[i]?)).map some) (hnR : va_nd isR = true) (hnC : va_nd isC = true) (hdis : isR.all (fun i => !isC.contains i) = true) (hpm : pm.map (fun i => (isR.filterMap (fun i => ws[i]?) ++ w1)[i]?) = wn.map some) (hnd : va_nd pm = true)
    (hn : As.length = n) (hsize : ls.size = nL) (hst : st0 = As.reverse ++ .ref b :: rest) (hW : (rest.map fun v => v.category).sum ≤ 8) (hdg : decode cc pc = .ok (.invokevirtual index, 3)) (hf : cells + 0 ≤ R.cells ∧ slots + 0 ≤ R.slots)
    (k : ∀ (H : Heap) (locs : List Loc), va_P D vwCl wn H → va_D A0 wn → va_S A0 H0 H locs → W p l e R s m args below meth c H locs cells slots Q (F0 m (pc + 3) ls (.int r :: rest))) : W p l e R s m args below meth c H locs cells slots Q (F0 m pc ls st0) := by
  have hF := va_free (wc := wc) hD hS hA isC hC
  refine va_calli (va_runV (As := As) (rest := rest) S (hM H.size) cw ⟨blindW, hr, fun U hU hW => ⟨rfl, by rw [hU], by rw [hU]; exact hP.sub isC (fm_of hC), hK.warm hW, (hD.sub isC hnC hC).weaken (fun _ _ _ _ => trivial)⟩⟩ rfl hn hsize hst (lv_room hW) hdg hf) hS (fun q _ h => hF q h) hF (fun r1 u t H1 locs1 ht hvm hw hB hz1 hk1 hS1 => ?_)
  obtain ⟨hP1, hD1⟩ := hB
  rw [ht] at hP1
  subst hw
  obtain ⟨h1, h2⟩ := backW (wr := isR.filterMap (fun i => ws[i]?)) (w1 := w1) (wn := wn) hP hD hS hA isC isR pm hC hR hnR hdis hpm hnd hk1 hP1 hD1
  exact k H1 locs1 h1 h2 hS1
theorem cV_V (S : CallFix p m c cc nL s args Ts own) (hM : ConV l y wy rm D cA (.ref b :: As) wc w1) (cw : CallW R s args own C index y bytes maxL ret wy rm 0 0 n) (hr : ∃ cellB : Cell, H[b]? = some cellB ∧ cellB.vm.isStatics = false ∧ s.vm.findClass C = some cellB.cls) (hK : KB D cA s) (hP : va_P D vwCl ws H) (hD : va_D A0 ws) (hS : va_S A0 H0 H locs) (hA : ∀ q, H0.size ≤ q → A0 q) (isC isR pm : List Nat) (hC : isC.map (fun i => ws[i]?) = wc.map some) (hR : isR.map (fun i => ws[i]?) = (isR.filterMap (fun i => ws[i]?)).map some) (hnR : va_nd isR = true) (hnC : va_nd isC = true) (hdis : isR.all (fun i => !isC.contains i) = true) (hpm : pm.map (fun i => (isR.filterMap (fun i => ws[i]?) ++ w1)[i]?) = wn.map some) (hnd : va_nd pm = true)
    (hn : As.length = n) (hsize : ls.size = nL) (hst : st0 = As.reverse ++ .ref b :: rest) (hW : (rest.map fun v => v.category).sum ≤ 8) (hdg : decode cc pc = .ok (.invokevirtual index, 3)) (hf : cells + 0 ≤ R.cells ∧ slots + 0 ≤ R.slots)
    (k : ∀ (H : Heap) (locs : List Loc), va_P D vwCl wn H → va_D A0 wn → va_S A0 H0 H locs → W p l e R s m args below meth c H locs cells slots Q (F0 m (pc + 3) ls rest)) : W p l e R s m args below meth c H locs cells slots Q (F0 m pc ls st0) := by
  have hF := va_free (wc := wc) hD hS hA isC hC
  refine va_callv (va_runV (As := As) (rest := rest) S (hM H.size) cw ⟨blindW, hr, fun U hU hW => ⟨rfl, by rw [hU], by rw [hU]; exact hP.sub isC (fm_of hC), hK.warm hW, (hD.sub isC hnC hC).weaken (fun _ _ _ _ => trivial)⟩⟩ rfl hn hsize hst (lv_room hW) hdg hf) hS (fun q _ h => hF q h) hF (fun u t H1 locs1 ht hvm hw hB hz1 hk1 hS1 => ?_)
  obtain ⟨hP1, hD1⟩ := hB
  rw [ht] at hP1
  skip
  obtain ⟨h1, h2⟩ := backW (wr := isR.filterMap (fun i => ws[i]?)) (w1 := w1) (wn := wn) hP hD hS hA isC isR pm hC hR hnR hdis hpm hnd hk1 hP1 hD1
  exact k H1 locs1 h1 h2 hS1
theorem iald {t0 q0 : Nat} {f : Nat → Int32} {N : Nat} {a : Nat} {i : Int32} {j : Nat} (hexec : p.tables.exec = Jvm.exec) (hb : c.code = cc) (hK : KB D cA s) (hP : va_P D vwCl ws H) (q0 : Nat) (ha : ws[q0]? = some (a, .inl (cA, N, .inl f))) (hj : i.toNatClampNeg = j) (hin : vp_in i N) (hdg : decode cc pc = .ok (.iaload, 1))
    (kk : W p l e R s m args below meth c H locs cells slots Q (F0 m (pc + 1) ls (.int (f j) :: rest))) : W p l e R s m args below meth c H locs cells slots Q (F0 m pc ls (.int i :: .ref a :: rest)) :=
  va_iald hexec hb hK.1 hP q0 0 ha rfl hin hdg (by rw [hj]; exact kk)
theorem iast {f : Nat → Int32} {N : Nat} {a : Nat} {i x : Int32} {j : Nat} (hexec : p.tables.exec = Jvm.exec) (hb : c.code = cc) (hK : KB D cA s) (hP : va_P D vwCl ws H) (hD : va_D A0 ws) (hS : va_S A0 H0 H locs) (q0 : Nat) (ha : ws[q0]? = some (a, .inl (cA, N, .inl f))) (hj : i.toNatClampNeg = j) (hin : vp_in i N) (hdg : decode cc pc = .ok (.iastore, 1)) (hwn : ws.set q0 (a, .inl (cA, N, .inl (upd f j x))) = wn)
    (kk : ∀ (H : Heap) (locs : List Loc), va_P D vwCl wn H → va_D A0 wn → va_S A0 H0 H locs → W p l e R s m args below meth c H locs cells slots Q (F0 m (pc + 1) ls rest)) : W p l e R s m args below meth c H locs cells slots Q (F0 m pc ls (.int x :: .int i :: .ref a :: rest)) := by
  subst hj
  subst hwn
  exact va_iast hexec hb hK.1 hP hD hS q0 0 ha rfl hin hdg kk
theorem alen {N : Nat} {f : Nat → Int32} {a : Nat} {v : Int32} (hexec : p.tables.exec = Jvm.exec) (hb : c.code = cc) (hK : KB D cA s) (hP : va_P D vwCl ws H) (q0 : Nat) (ha : ws[q0]? = some (a, .inl (cA, N, .inl f))) (hv : Int32.ofNat N = v) (hdg : decode cc pc = .ok (.arraylength, 1))
    (kk : W p l e R s m args below meth c H locs cells slots Q (F0 m (pc + 1) ls (.int v :: rest))) : W p l e R s m args below meth c H locs cells slots Q (F0 m pc ls (.ref a :: rest)) :=
  va_alen hexec hb hK.1 hP q0 0 ha rfl hv hdg kk
end CALLS
/-! worlds by blocks, in any order -/
theorem perm_of {a b : va_W} (h : ∀ c : va_W → Nat, (∀ x y, c (x ++ y) = c x + c y) → c a = c b) : a.Perm b := by
  haveI : DecidableEq (Nat × va_E) := fun a b => Classical.propDecidable _
  exact List.perm_iff_count.mpr (fun x => h (fun l => l.count x) (fun _ _ => List.count_append))
theorem perm_nil {a : va_W} : a.Perm (a ++ []) := by rw [List.append_nil]
theorem P_mem {D : va_G} {cl : List vw_C} {a b : va_W} {H : Heap} (h : ∀ q, q ∈ b → q ∈ a) (hP : va_P D cl a H) : va_P D cl b H := by
  intro k q hk
  obtain ⟨i, hi⟩ := List.getElem?_of_mem (h q (List.mem_of_getElem? hk))
  exact hP i q hi
theorem P_perm {D : va_G} {cl : List vw_C} {a b : va_W} {H : Heap} (h : a.Perm b) (hP : va_P D cl a H) : va_P D cl b H := P_mem (fun _ hq => h.mem_iff.mpr hq) hP
theorem P_left {D : va_G} {cl : List vw_C} {ws wc R : va_W} {H : Heap} (h : ws.Perm (wc ++ R)) (hP : va_P D cl ws H) : va_P D cl wc H := P_mem (fun _ hq => h.mem_iff.mpr (List.mem_append_left _ hq)) hP
theorem D_pw {A : Nat → Prop} {a : va_W} (hD : va_D A a) : a.Pairwise (fun p q => p.1 ≠ q.1) := by
  rw [List.pairwise_iff_getElem]
  intro i j hi hj hij he
  have := hD.1 i j a[i] a[j] (List.getElem?_eq_getElem hi) (List.getElem?_eq_getElem hj) he
  omega
theorem D_of {A : Nat → Prop} {a : va_W} (h1 : a.Pairwise (fun p q => p.1 ≠ q.1)) (h2 : ∀ q, q ∈ a → A q.1) : va_D A a := by
  refine ⟨fun i j p q hi hj he => ?_, fun k q hk => h2 q (List.mem_of_getElem? hk)⟩
  rw [List.pairwise_iff_getElem] at h1
  obtain ⟨hi1, hi2⟩ := List.getElem?_eq_some_iff.mp hi
  obtain ⟨hj1, hj2⟩ := List.getElem?_eq_some_iff.mp hj
  rcases Nat.lt_trichotomy i j with q1 | q1 | q1
  · exact absurd (by rw [hi2, hj2]; exact he) (h1 i j hi1 hj1 q1)
  · exact q1
  · exact absurd (by rw [hi2, hj2]; exact he.symm) (h1 j i hj1 hi1 q1)
theorem D_in {A : Nat → Prop} {a : va_W} (hD : va_D A a) {q : Nat × va_E} (hq : q ∈ a) : A q.1 := by
  obtain ⟨i, hi⟩ := List.getElem?_of_mem hq
  exact hD.2 i q hi
theorem D_perm {A : Nat → Prop} {a b : va_W} (h : a.Perm b) (hD : va_D A a) : va_D A b :=
  D_of ((h.pairwise_iff (fun h => Ne.symm h)).mp (D_pw hD)) (fun _ hq => D_in hD (h.mem_iff.mpr hq))
theorem free_perm {A0 : Nat → Prop} {ws wc R : va_W} {H0 H : Heap} {locs : List Loc} (h : ws.Perm (wc ++ R)) (hD : va_D A0 ws) (hS : va_S A0 H0 H locs) (hA : ∀ q, H0.size ≤ q → A0 q) : ∀ q, va_A wc H.size q → A0 q := by
  intro q hq
  rcases hq with ⟨k, e, hk⟩ | hq
  · exact D_in hD (q := (q, e)) (h.mem_iff.mpr (List.mem_append_left _ (List.mem_of_getElem? hk)))
  · exact hA q (Nat.le_trans hS.1 hq)
theorem back_perm {D : va_G} {A0 : Nat → Prop} {ws wc w1 R wn : va_W} {H0 H H1 : Heap} {locs : List Loc} (hP : va_P D vwCl ws H) (hD : va_D A0 ws) (hS : va_S A0 H0 H locs) (hA : ∀ q, H0.size ≤ q → A0 q) (h : ws.Perm (wc ++ R)) (h2 : (w1 ++ R).Perm wn)
    (hk : ∀ q : Nat, q < H.size → ¬ va_A wc H.size q → H1[q]? = H[q]?) (hP1 : va_P D vwCl w1 H1) (hD1 : va_D (va_A wc H.size) w1) : va_P D vwCl wn H1 ∧ va_D A0 wn := by
  have hF := free_perm h hD hS hA
  have hP2 := P_perm h hP
  have hpw := List.pairwise_append.mp (D_pw (D_perm h hD))
  have apart : ∀ q, q ∈ R → q.1 < H.size ∧ ¬ va_A wc H.size q.1 := by
    intro q hq
    obtain ⟨i, hi⟩ := List.getElem?_of_mem (List.mem_append_right wc hq)
    have hlt := (hP2 i q hi).lt
    refine ⟨hlt, fun hc => ?_⟩
    rcases hc with ⟨k, e, hk2⟩ | hc
    · exact hpw.2.2 (q.1, e) (List.mem_of_getElem? hk2) q hq rfl
    · omega
  have h3 : va_P D vwCl (w1 ++ R) H1 := by
    refine va_P.app hP1 (fun k q hq => ?_)
    have hm := List.mem_of_getElem? hq
    obtain ⟨g1, g2⟩ := apart q hm
    obtain ⟨i, hi⟩ := List.getElem?_of_mem (List.mem_append_right wc hm)
    exact (hP2 i q hi).kept (hk q.1 g1 g2)
  have h4 : va_D A0 (w1 ++ R) := by
    refine D_of (List.pairwise_append.mpr ⟨D_pw hD1, hpw.2.1, fun a ha b hb he => ?_⟩) (fun q hq => ?_)
    · exact (apart b hb).2 (by rw [← he]; exact D_in hD1 ha)
    · rcases List.mem_append.mp hq with hq | hq
      · exact hF _ (D_in hD1 hq)
      · exact D_in hD (h.mem_iff.mpr (List.mem_append_right _ hq))
  exact ⟨P_perm h2 h3, D_perm h2 h4⟩
section CALLP
variable {p : Program} {l : Launch} {e : Env} {R : Room} {s : State} {m : MethodId} {args : Array Value} {below : List Frame} {meth : Method} {c : Code} {H : Heap} {locs : List Loc} {cells slots : Nat} {Q : State → Prop}
variable {pc nL maxL n index : Nat} {ls : Array Slot} {As rest st0 : List Value} {cc bytes : ByteArray} {y : MethodName} {own C host : String} {ret : Option FieldType} {Ts wy : List Cond} {rm : Room} {b : Nat} {D : va_G} {cA : ClassId} {wc ws w1 wr wn : va_W} {r : Int32} {q : Nat} {A0 : Nat → Prop} {H0 : Heap}

theorem pR_V (S : CallFix p m c cc nL s args Ts own) (hM : ConR l y wy rm D cA (.ref b :: As) wc r) (cw : CallW R s args own C index y bytes maxL ret wy rm 0 0 n) (hr : ∃ cellB : Cell, H[b]? = some cellB ∧ cellB.vm.isStatics = false ∧ s.vm.findClass C = some cellB.cls) (hK : KB D cA s) (hP : va_P D vwCl ws H) (hpm : ws.Perm (wc ++ wr))
    (hn : As.length = n) (hsize : ls.size = nL) (hst : st0 = As.reverse ++ .ref b :: rest) (hW : (rest.map fun v => v.category).sum ≤ 8) (hdg : decode cc pc = .ok (.invokevirtual index, 3)) (hf : cells + 0 ≤ R.cells ∧ slots + 0 ≤ R.slots)
    (k : W p l e R s m args below meth c H locs cells slots Q (F0 m (pc + 3) ls (.int r :: rest))) : W p l e R s m args below meth c H locs cells slots Q (F0 m pc ls st0) :=
  cs_i (va_runV (As := As) (rest := rest) S hM cw ⟨blindR, hr, fun U hU hW => ⟨rfl, by rw [hU]; exact P_left hpm hP, hK.warm hW⟩⟩ rfl hn hsize hst (lv_room hW) hdg hf) k
theorem pA_V (S : CallFix p m c cc nL s args Ts own) (hM : ConA l y wy rm D cA (.ref b :: As) wc q) (cw : CallW R s args own C index y bytes maxL ret wy rm 0 0 n) (hr : ∃ cellB : Cell, H[b]? = some cellB ∧ cellB.vm.isStatics = false ∧ s.vm.findClass C = some cellB.cls) (hK : KB D cA s) (hP : va_P D vwCl ws H) (hpm : ws.Perm (wc ++ wr))
    (hn : As.length = n) (hsize : ls.size = nL) (hst : st0 = As.reverse ++ .ref b :: rest) (hW : (rest.map fun v => v.category).sum ≤ 8) (hdg : decode cc pc = .ok (.invokevirtual index, 3)) (hf : cells + 0 ≤ R.cells ∧ slots + 0 ≤ R.slots)
    (k : W p l e R s m args below meth c H locs cells slots Q (F0 m (pc + 3) ls (.ref q :: rest))) : W p l e R s m args below meth c H locs cells slots Q (F0 m pc ls st0) :=
  cs_a (va_runV (As := As) (rest := rest) S hM cw ⟨blindR, hr, fun U hU hW => ⟨rfl, by rw [hU]; exact P_left hpm hP, hK.warm hW⟩⟩ rfl hn hsize hst (lv_room hW) hdg hf) k
theorem pW_V (S : CallFix p m c cc nL s args Ts own) (hM : ConW l y wy rm D cA (.ref b :: As) wc r w1) (cw : CallW R s args own C index y bytes maxL ret wy rm 0 0 n) (hr : ∃ cellB : Cell, H[b]? = some cellB ∧ cellB.vm.isStatics = false ∧ s.vm.findClass C = some cellB.cls) (hK : KB D cA s) (hP : va_P D vwCl ws H) (hD : va_D A0 ws) (hS : va_S A0 H0 H locs) (hA : ∀ q, H0.size ≤ q → A0 q) (hpm : ws.Perm (wc ++ wr)) (hpm2 : (w1 ++ wr).Perm wn)
    (hn : As.length = n) (hsize : ls.size = nL) (hst : st0 = As.reverse ++ .ref b :: rest) (hW : (rest.map fun v => v.category).sum ≤ 8) (hdg : decode cc pc = .ok (.invokevirtual index, 3)) (hf : cells + 0 ≤ R.cells ∧ slots + 0 ≤ R.slots)
    (k : ∀ (H : Heap) (locs : List Loc), va_P D vwCl wn H → va_D A0 wn → va_S A0 H0 H locs → W p l e R s m args below meth c H locs cells slots Q (F0 m (pc + 3) ls (.int r :: rest))) : W p l e R s m args below meth c H locs cells slots Q (F0 m pc ls st0) := by
  have hF := free_perm hpm hD hS hA
  refine va_calli (va_runV (As := As) (rest := rest) S (hM H.size) cw ⟨blindW, hr, fun U hU hW => ⟨rfl, by rw [hU], by rw [hU]; exact P_left hpm hP, hK.warm hW, D_of (List.pairwise_append.mp (D_pw (D_perm hpm hD))).1 (fun _ _ => trivial)⟩⟩ rfl hn hsize hst (lv_room hW) hdg hf) hS (fun q _ h => hF q h) hF (fun r1 u t H1 locs1 ht hvm hw hB hz1 hk1 hS1 => ?_)
  obtain ⟨hP1, hD1⟩ := hB
  rw [ht] at hP1
  subst hw
  obtain ⟨h1, h2⟩ := back_perm (w1 := w1) (wn := wn) hP hD hS hA hpm hpm2 hk1 hP1 hD1
  exact k H1 locs1 h1 h2 hS1
theorem pV_V (S : CallFix p m c cc nL s args Ts own) (hM : ConV l y wy rm D cA (.ref b :: As) wc w1) (cw : CallW R s args own C index y bytes maxL ret wy rm 0 0 n) (hr : ∃ cellB : Cell, H[b]? = some cellB ∧ cellB.vm.isStatics = false ∧ s.vm.findClass C = some cellB.cls) (hK : KB D cA s) (hP : va_P D vwCl ws H) (hD : va_D A0 ws) (hS : va_S A0 H0 H locs) (hA : ∀ q, H0.size ≤ q → A0 q) (hpm : ws.Perm (wc ++ wr)) (hpm2 : (w1 ++ wr).Perm wn)
    (hn : As.length = n) (hsize : ls.size = nL) (hst : st0 = As.reverse ++ .ref b :: rest) (hW : (rest.map fun v => v.category).sum ≤ 8) (hdg : decode cc pc = .ok (.invokevirtual index, 3)) (hf : cells + 0 ≤ R.cells ∧ slots + 0 ≤ R.slots)
    (k : ∀ (H : Heap) (locs : List Loc), va_P D vwCl wn H → va_D A0 wn → va_S A0 H0 H locs → W p l e R s m args below meth c H locs cells slots Q (F0 m (pc + 3) ls rest)) : W p l e R s m args below meth c H locs cells slots Q (F0 m pc ls st0) := by
  have hF := free_perm hpm hD hS hA
  refine va_callv (va_runV (As := As) (rest := rest) S (hM H.size) cw ⟨blindW, hr, fun U hU hW => ⟨rfl, by rw [hU], by rw [hU]; exact P_left hpm hP, hK.warm hW, D_of (List.pairwise_append.mp (D_pw (D_perm hpm hD))).1 (fun _ _ => trivial)⟩⟩ rfl hn hsize hst (lv_room hW) hdg hf) hS (fun q _ h => hF q h) hF (fun u t H1 locs1 ht hvm hw hB hz1 hk1 hS1 => ?_)
  obtain ⟨hP1, hD1⟩ := hB
  rw [ht] at hP1
  skip
  obtain ⟨h1, h2⟩ := back_perm (w1 := w1) (wn := wn) hP hD hS hA hpm hpm2 hk1 hP1 hD1
  exact k H1 locs1 h1 h2 hS1
end CALLP
theorem hd_X0_init : yX0_init.cls = RX0 ∧ yX0_init.cls ≠ "java/lang/invoke/MethodHandle" ∧ yX0_init.cls ≠ "java/lang/invoke/VarHandle" ∧ (parseMethodDescriptor yX0_init.desc).map (fun d => d.parameters.length) = some 1 := by decide +kernel
theorem hd_X0_stuckToday : yX0_stuckToday.cls = RX0 ∧ yX0_stuckToday.cls ≠ "java/lang/invoke/MethodHandle" ∧ yX0_stuckToday.cls ≠ "java/lang/invoke/VarHandle" ∧ (parseMethodDescriptor yX0_stuckToday.desc).map (fun d => d.parameters.length) = some 0 := by decide +kernel
theorem hd_X0_stuckForEver : yX0_stuckForEver.cls = RX0 ∧ yX0_stuckForEver.cls ≠ "java/lang/invoke/MethodHandle" ∧ yX0_stuckForEver.cls ≠ "java/lang/invoke/VarHandle" ∧ (parseMethodDescriptor yX0_stuckForEver.desc).map (fun d => d.parameters.length) = some 1 := by decide +kernel
theorem hd_X0_stuck : yX0_stuck.cls = RX0 ∧ yX0_stuck.cls ≠ "java/lang/invoke/MethodHandle" ∧ yX0_stuck.cls ≠ "java/lang/invoke/VarHandle" ∧ (parseMethodDescriptor yX0_stuck.desc).map (fun d => d.parameters.length) = some 2 := by decide +kernel
theorem hd_X0_withAhead : yX0_withAhead.cls = RX0 ∧ yX0_withAhead.cls ≠ "java/lang/invoke/MethodHandle" ∧ yX0_withAhead.cls ≠ "java/lang/invoke/VarHandle" ∧ (parseMethodDescriptor yX0_withAhead.desc).map (fun d => d.parameters.length) = some 1 := by decide +kernel
theorem hd_X0_withAbove : yX0_withAbove.cls = RX0 ∧ yX0_withAbove.cls ≠ "java/lang/invoke/MethodHandle" ∧ yX0_withAbove.cls ≠ "java/lang/invoke/VarHandle" ∧ (parseMethodDescriptor yX0_withAbove.desc).map (fun d => d.parameters.length) = some 1 := by decide +kernel
theorem hd_X0_inTurn : yX0_inTurn.cls = RX0 ∧ yX0_inTurn.cls ≠ "java/lang/invoke/MethodHandle" ∧ yX0_inTurn.cls ≠ "java/lang/invoke/VarHandle" ∧ (parseMethodDescriptor yX0_inTurn.desc).map (fun d => d.parameters.length) = some 2 := by decide +kernel
theorem hd_X0_lowestThatMay : yX0_lowestThatMay.cls = RX0 ∧ yX0_lowestThatMay.cls ≠ "java/lang/invoke/MethodHandle" ∧ yX0_lowestThatMay.cls ≠ "java/lang/invoke/VarHandle" ∧ (parseMethodDescriptor yX0_lowestThatMay.desc).map (fun d => d.parameters.length) = some 2 := by decide +kernel
theorem hd_X0_shortest : yX0_shortest.cls = RX0 ∧ yX0_shortest.cls ≠ "java/lang/invoke/MethodHandle" ∧ yX0_shortest.cls ≠ "java/lang/invoke/VarHandle" ∧ (parseMethodDescriptor yX0_shortest.desc).map (fun d => d.parameters.length) = some 2 := by decide +kernel
theorem hd_X0_tyingOrders : yX0_tyingOrders.cls = RX0 ∧ yX0_tyingOrders.cls ≠ "java/lang/invoke/MethodHandle" ∧ yX0_tyingOrders.cls ≠ "java/lang/invoke/VarHandle" ∧ (parseMethodDescriptor yX0_tyingOrders.desc).map (fun d => d.parameters.length) = some 0 := by decide +kernel
theorem hd_X0_waysOf : yX0_waysOf.cls = RX0 ∧ yX0_waysOf.cls ≠ "java/lang/invoke/MethodHandle" ∧ yX0_waysOf.cls ≠ "java/lang/invoke/VarHandle" ∧ (parseMethodDescriptor yX0_waysOf.desc).map (fun d => d.parameters.length) = some 1 := by decide +kernel
theorem hd_X0_drawn : yX0_drawn.cls = RX0 ∧ yX0_drawn.cls ≠ "java/lang/invoke/MethodHandle" ∧ yX0_drawn.cls ≠ "java/lang/invoke/VarHandle" ∧ (parseMethodDescriptor yX0_drawn.desc).map (fun d => d.parameters.length) = some 2 := by decide +kernel
theorem hd_X0_turned : yX0_turned.cls = RX0 ∧ yX0_turned.cls ≠ "java/lang/invoke/MethodHandle" ∧ yX0_turned.cls ≠ "java/lang/invoke/VarHandle" ∧ (parseMethodDescriptor yX0_turned.desc).map (fun d => d.parameters.length) = some 2 := by decide +kernel
theorem hd_X1_init : yX1_init.cls = RX1 ∧ yX1_init.cls ≠ "java/lang/invoke/MethodHandle" ∧ yX1_init.cls ≠ "java/lang/invoke/VarHandle" ∧ (parseMethodDescriptor yX1_init.desc).map (fun d => d.parameters.length) = some 0 := by decide +kernel
theorem hd_X1_size : yX1_size.cls = RX1 ∧ yX1_size.cls ≠ "java/lang/invoke/MethodHandle" ∧ yX1_size.cls ≠ "java/lang/invoke/VarHandle" ∧ (parseMethodDescriptor yX1_size.desc).map (fun d => d.parameters.length) = some 0 := by decide +kernel
theorem hd_X1_empty : yX1_empty.cls = RX1 ∧ yX1_empty.cls ≠ "java/lang/invoke/MethodHandle" ∧ yX1_empty.cls ≠ "java/lang/invoke/VarHandle" ∧ (parseMethodDescriptor yX1_empty.desc).map (fun d => d.parameters.length) = some 0 := by decide +kernel
theorem hd_X1_note : yX1_note.cls = RX1 ∧ yX1_note.cls ≠ "java/lang/invoke/MethodHandle" ∧ yX1_note.cls ≠ "java/lang/invoke/VarHandle" ∧ (parseMethodDescriptor yX1_note.desc).map (fun d => d.parameters.length) = some 1 := by decide +kernel
theorem hd_X1_forgetOldest : yX1_forgetOldest.cls = RX1 ∧ yX1_forgetOldest.cls ≠ "java/lang/invoke/MethodHandle" ∧ yX1_forgetOldest.cls ≠ "java/lang/invoke/VarHandle" ∧ (parseMethodDescriptor yX1_forgetOldest.desc).map (fun d => d.parameters.length) = some 0 := by decide +kernel
theorem hd_X1_restore : yX1_restore.cls = RX1 ∧ yX1_restore.cls ≠ "java/lang/invoke/MethodHandle" ∧ yX1_restore.cls ≠ "java/lang/invoke/VarHandle" ∧ (parseMethodDescriptor yX1_restore.desc).map (fun d => d.parameters.length) = some 1 := by decide +kernel
theorem hd_X2_init : yX2_init.cls = RX2 ∧ yX2_init.cls ≠ "java/lang/invoke/MethodHandle" ∧ yX2_init.cls ≠ "java/lang/invoke/VarHandle" ∧ (parseMethodDescriptor yX2_init.desc).map (fun d => d.parameters.length) = some 0 := by decide +kernel
theorem hd_X2_read : yX2_read.cls = RX2 ∧ yX2_read.cls ≠ "java/lang/invoke/MethodHandle" ∧ yX2_read.cls ≠ "java/lang/invoke/VarHandle" ∧ (parseMethodDescriptor yX2_read.desc).map (fun d => d.parameters.length) = some 2 := by decide +kernel
theorem hd_X2_numbersOf : yX2_numbersOf.cls = RX2 ∧ yX2_numbersOf.cls ≠ "java/lang/invoke/MethodHandle" ∧ yX2_numbersOf.cls ≠ "java/lang/invoke/VarHandle" ∧ (parseMethodDescriptor yX2_numbersOf.desc).map (fun d => d.parameters.length) = some 1 := by decide +kernel
theorem hd_X2_readNumbers : yX2_readNumbers.cls = RX2 ∧ yX2_readNumbers.cls ≠ "java/lang/invoke/MethodHandle" ∧ yX2_readNumbers.cls ≠ "java/lang/invoke/VarHandle" ∧ (parseMethodDescriptor yX2_readNumbers.desc).map (fun d => d.parameters.length) = some 3 := by decide +kernel
theorem hd_X2_figuresEnd : yX2_figuresEnd.cls = RX2 ∧ yX2_figuresEnd.cls ≠ "java/lang/invoke/MethodHandle" ∧ yX2_figuresEnd.cls ≠ "java/lang/invoke/VarHandle" ∧ (parseMethodDescriptor yX2_figuresEnd.desc).map (fun d => d.parameters.length) = some 2 := by decide +kernel
theorem hd_X2_valueOf : yX2_valueOf.cls = RX2 ∧ yX2_valueOf.cls ≠ "java/lang/invoke/MethodHandle" ∧ yX2_valueOf.cls ≠ "java/lang/invoke/VarHandle" ∧ (parseMethodDescriptor yX2_valueOf.desc).map (fun d => d.parameters.length) = some 3 := by decide +kernel
theorem hd_X2_takeItem : yX2_takeItem.cls = RX2 ∧ yX2_takeItem.cls ≠ "java/lang/invoke/MethodHandle" ∧ yX2_takeItem.cls ≠ "java/lang/invoke/VarHandle" ∧ (parseMethodDescriptor yX2_takeItem.desc).map (fun d => d.parameters.length) = some 2 := by decide +kernel
theorem hd_X3_init : yX3_init.cls = RX3 ∧ yX3_init.cls ≠ "java/lang/invoke/MethodHandle" ∧ yX3_init.cls ≠ "java/lang/invoke/VarHandle" ∧ (parseMethodDescriptor yX3_init.desc).map (fun d => d.parameters.length) = some 0 := by decide +kernel
theorem hd_X3_size : yX3_size.cls = RX3 ∧ yX3_size.cls ≠ "java/lang/invoke/MethodHandle" ∧ yX3_size.cls ≠ "java/lang/invoke/VarHandle" ∧ (parseMethodDescriptor yX3_size.desc).map (fun d => d.parameters.length) = some 0 := by decide +kernel
theorem hd_X3_loosenedSize : yX3_loosenedSize.cls = RX3 ∧ yX3_loosenedSize.cls ≠ "java/lang/invoke/MethodHandle" ∧ yX3_loosenedSize.cls ≠ "java/lang/invoke/VarHandle" ∧ (parseMethodDescriptor yX3_loosenedSize.desc).map (fun d => d.parameters.length) = some 0 := by decide +kernel
theorem hd_X3_empty : yX3_empty.cls = RX3 ∧ yX3_empty.cls ≠ "java/lang/invoke/MethodHandle" ∧ yX3_empty.cls ≠ "java/lang/invoke/VarHandle" ∧ (parseMethodDescriptor yX3_empty.desc).map (fun d => d.parameters.length) = some 0 := by decide +kernel
theorem hd_X3_append : yX3_append.cls = RX3 ∧ yX3_append.cls ≠ "java/lang/invoke/MethodHandle" ∧ yX3_append.cls ≠ "java/lang/invoke/VarHandle" ∧ (parseMethodDescriptor yX3_append.desc).map (fun d => d.parameters.length) = some 1 := by decide +kernel
theorem hd_X3_loosenedAt : yX3_loosenedAt.cls = RX3 ∧ yX3_loosenedAt.cls ≠ "java/lang/invoke/MethodHandle" ∧ yX3_loosenedAt.cls ≠ "java/lang/invoke/VarHandle" ∧ (parseMethodDescriptor yX3_loosenedAt.desc).map (fun d => d.parameters.length) = some 1 := by decide +kernel
theorem hd_X3_isPair : yX3_isPair.cls = RX3 ∧ yX3_isPair.cls ≠ "java/lang/invoke/MethodHandle" ∧ yX3_isPair.cls ≠ "java/lang/invoke/VarHandle" ∧ (parseMethodDescriptor yX3_isPair.desc).map (fun d => d.parameters.length) = some 2 := by decide +kernel
theorem hd_X3_isSame : yX3_isSame.cls = RX3 ∧ yX3_isSame.cls ≠ "java/lang/invoke/MethodHandle" ∧ yX3_isSame.cls ≠ "java/lang/invoke/VarHandle" ∧ (parseMethodDescriptor yX3_isSame.desc).map (fun d => d.parameters.length) = some 1 := by decide +kernel
theorem hd_X3_isTurned : yX3_isTurned.cls = RX3 ∧ yX3_isTurned.cls ≠ "java/lang/invoke/MethodHandle" ∧ yX3_isTurned.cls ≠ "java/lang/invoke/VarHandle" ∧ (parseMethodDescriptor yX3_isTurned.desc).map (fun d => d.parameters.length) = some 1 := by decide +kernel
theorem hd_X3_endPairs : yX3_endPairs.cls = RX3 ∧ yX3_endPairs.cls ≠ "java/lang/invoke/MethodHandle" ∧ yX3_endPairs.cls ≠ "java/lang/invoke/VarHandle" ∧ (parseMethodDescriptor yX3_endPairs.desc).map (fun d => d.parameters.length) = some 0 := by decide +kernel
theorem hd_X3_isSameTurned : yX3_isSameTurned.cls = RX3 ∧ yX3_isSameTurned.cls ≠ "java/lang/invoke/MethodHandle" ∧ yX3_isSameTurned.cls ≠ "java/lang/invoke/VarHandle" ∧ (parseMethodDescriptor yX3_isSameTurned.desc).map (fun d => d.parameters.length) = some 4 := by decide +kernel
theorem hd_X3_markOf : yX3_markOf.cls = RX3 ∧ yX3_markOf.cls ≠ "java/lang/invoke/MethodHandle" ∧ yX3_markOf.cls ≠ "java/lang/invoke/VarHandle" ∧ (parseMethodDescriptor yX3_markOf.desc).map (fun d => d.parameters.length) = some 1 := by decide +kernel
theorem hd_X4_init : yX4_init.cls = RX4 ∧ yX4_init.cls ≠ "java/lang/invoke/MethodHandle" ∧ yX4_init.cls ≠ "java/lang/invoke/VarHandle" ∧ (parseMethodDescriptor yX4_init.desc).map (fun d => d.parameters.length) = some 0 := by decide +kernel
theorem hd_X4_size : yX4_size.cls = RX4 ∧ yX4_size.cls ≠ "java/lang/invoke/MethodHandle" ∧ yX4_size.cls ≠ "java/lang/invoke/VarHandle" ∧ (parseMethodDescriptor yX4_size.desc).map (fun d => d.parameters.length) = some 0 := by decide +kernel
theorem hd_X4_empty : yX4_empty.cls = RX4 ∧ yX4_empty.cls ≠ "java/lang/invoke/MethodHandle" ∧ yX4_empty.cls ≠ "java/lang/invoke/VarHandle" ∧ (parseMethodDescriptor yX4_empty.desc).map (fun d => d.parameters.length) = some 0 := by decide +kernel
theorem hd_X4_append : yX4_append.cls = RX4 ∧ yX4_append.cls ≠ "java/lang/invoke/MethodHandle" ∧ yX4_append.cls ≠ "java/lang/invoke/VarHandle" ∧ (parseMethodDescriptor yX4_append.desc).map (fun d => d.parameters.length) = some 1 := by decide +kernel
theorem hd_X4_holds : yX4_holds.cls = RX4 ∧ yX4_holds.cls ≠ "java/lang/invoke/MethodHandle" ∧ yX4_holds.cls ≠ "java/lang/invoke/VarHandle" ∧ (parseMethodDescriptor yX4_holds.desc).map (fun d => d.parameters.length) = some 1 := by decide +kernel
theorem hd_X4_setFrom : yX4_setFrom.cls = RX4 ∧ yX4_setFrom.cls ≠ "java/lang/invoke/MethodHandle" ∧ yX4_setFrom.cls ≠ "java/lang/invoke/VarHandle" ∧ (parseMethodDescriptor yX4_setFrom.desc).map (fun d => d.parameters.length) = some 1 := by decide +kernel
theorem hd_X4_firstWrong : yX4_firstWrong.cls = RX4 ∧ yX4_firstWrong.cls ≠ "java/lang/invoke/MethodHandle" ∧ yX4_firstWrong.cls ≠ "java/lang/invoke/VarHandle" ∧ (parseMethodDescriptor yX4_firstWrong.desc).map (fun d => d.parameters.length) = some 1 := by decide +kernel
theorem hd_X5_init : yX5_init.cls = RX5 ∧ yX5_init.cls ≠ "java/lang/invoke/MethodHandle" ∧ yX5_init.cls ≠ "java/lang/invoke/VarHandle" ∧ (parseMethodDescriptor yX5_init.desc).map (fun d => d.parameters.length) = some 0 := by decide +kernel
theorem hd_X5_size : yX5_size.cls = RX5 ∧ yX5_size.cls ≠ "java/lang/invoke/MethodHandle" ∧ yX5_size.cls ≠ "java/lang/invoke/VarHandle" ∧ (parseMethodDescriptor yX5_size.desc).map (fun d => d.parameters.length) = some 0 := by decide +kernel
theorem hd_X5_empty : yX5_empty.cls = RX5 ∧ yX5_empty.cls ≠ "java/lang/invoke/MethodHandle" ∧ yX5_empty.cls ≠ "java/lang/invoke/VarHandle" ∧ (parseMethodDescriptor yX5_empty.desc).map (fun d => d.parameters.length) = some 0 := by decide +kernel
theorem hd_X5_append : yX5_append.cls = RX5 ∧ yX5_append.cls ≠ "java/lang/invoke/MethodHandle" ∧ yX5_append.cls ≠ "java/lang/invoke/VarHandle" ∧ (parseMethodDescriptor yX5_append.desc).map (fun d => d.parameters.length) = some 1 := by decide +kernel
theorem hd_X5_at : yX5_at.cls = RX5 ∧ yX5_at.cls ≠ "java/lang/invoke/MethodHandle" ∧ yX5_at.cls ≠ "java/lang/invoke/VarHandle" ∧ (parseMethodDescriptor yX5_at.desc).map (fun d => d.parameters.length) = some 1 := by decide +kernel
theorem hd_X6_init : yX6_init.cls = RX6 ∧ yX6_init.cls ≠ "java/lang/invoke/MethodHandle" ∧ yX6_init.cls ≠ "java/lang/invoke/VarHandle" ∧ (parseMethodDescriptor yX6_init.desc).map (fun d => d.parameters.length) = some 0 := by decide +kernel
theorem hd_X6_empty : yX6_empty.cls = RX6 ∧ yX6_empty.cls ≠ "java/lang/invoke/MethodHandle" ∧ yX6_empty.cls ≠ "java/lang/invoke/VarHandle" ∧ (parseMethodDescriptor yX6_empty.desc).map (fun d => d.parameters.length) = some 0 := by decide +kernel
theorem hd_X6_copy : yX6_copy.cls = RX6 ∧ yX6_copy.cls ≠ "java/lang/invoke/MethodHandle" ∧ yX6_copy.cls ≠ "java/lang/invoke/VarHandle" ∧ (parseMethodDescriptor yX6_copy.desc).map (fun d => d.parameters.length) = some 1 := by decide +kernel
theorem hd_X6_isPerson : yX6_isPerson.cls = RX6 ∧ yX6_isPerson.cls ≠ "java/lang/invoke/MethodHandle" ∧ yX6_isPerson.cls ≠ "java/lang/invoke/VarHandle" ∧ (parseMethodDescriptor yX6_isPerson.desc).map (fun d => d.parameters.length) = some 1 := by decide +kernel
theorem hd_X6_isKnot : yX6_isKnot.cls = RX6 ∧ yX6_isKnot.cls ≠ "java/lang/invoke/MethodHandle" ∧ yX6_isKnot.cls ≠ "java/lang/invoke/VarHandle" ∧ (parseMethodDescriptor yX6_isKnot.desc).map (fun d => d.parameters.length) = some 1 := by decide +kernel
theorem hd_X6_isSet : yX6_isSet.cls = RX6 ∧ yX6_isSet.cls ≠ "java/lang/invoke/MethodHandle" ∧ yX6_isSet.cls ≠ "java/lang/invoke/VarHandle" ∧ (parseMethodDescriptor yX6_isSet.desc).map (fun d => d.parameters.length) = some 1 := by decide +kernel
theorem hd_X6_addPerson : yX6_addPerson.cls = RX6 ∧ yX6_addPerson.cls ≠ "java/lang/invoke/MethodHandle" ∧ yX6_addPerson.cls ≠ "java/lang/invoke/VarHandle" ∧ (parseMethodDescriptor yX6_addPerson.desc).map (fun d => d.parameters.length) = some 1 := by decide +kernel
theorem hd_X6_setLaw : yX6_setLaw.cls = RX6 ∧ yX6_setLaw.cls ≠ "java/lang/invoke/MethodHandle" ∧ yX6_setLaw.cls ≠ "java/lang/invoke/VarHandle" ∧ (parseMethodDescriptor yX6_setLaw.desc).map (fun d => d.parameters.length) = some 1 := by decide +kernel
theorem hd_X6_suits : yX6_suits.cls = RX6 ∧ yX6_suits.cls ≠ "java/lang/invoke/MethodHandle" ∧ yX6_suits.cls ≠ "java/lang/invoke/VarHandle" ∧ (parseMethodDescriptor yX6_suits.desc).map (fun d => d.parameters.length) = some 5 := by decide +kernel
theorem hd_X6_addKnot : yX6_addKnot.cls = RX6 ∧ yX6_addKnot.cls ≠ "java/lang/invoke/MethodHandle" ∧ yX6_addKnot.cls ≠ "java/lang/invoke/VarHandle" ∧ (parseMethodDescriptor yX6_addKnot.desc).map (fun d => d.parameters.length) = some 5 := by decide +kernel
theorem hd_X6_ofKind : yX6_ofKind.cls = RX6 ∧ yX6_ofKind.cls ≠ "java/lang/invoke/MethodHandle" ∧ yX6_ofKind.cls ≠ "java/lang/invoke/VarHandle" ∧ (parseMethodDescriptor yX6_ofKind.desc).map (fun d => d.parameters.length) = some 1 := by decide +kernel
theorem hd_X6_ofPerson : yX6_ofPerson.cls = RX6 ∧ yX6_ofPerson.cls ≠ "java/lang/invoke/MethodHandle" ∧ yX6_ofPerson.cls ≠ "java/lang/invoke/VarHandle" ∧ (parseMethodDescriptor yX6_ofPerson.desc).map (fun d => d.parameters.length) = some 1 := by decide +kernel
theorem hd_X6_dueToday : yX6_dueToday.cls = RX6 ∧ yX6_dueToday.cls ≠ "java/lang/invoke/MethodHandle" ∧ yX6_dueToday.cls ≠ "java/lang/invoke/VarHandle" ∧ (parseMethodDescriptor yX6_dueToday.desc).map (fun d => d.parameters.length) = some 0 := by decide +kernel
theorem hd_X6_above : yX6_above.cls = RX6 ∧ yX6_above.cls ≠ "java/lang/invoke/MethodHandle" ∧ yX6_above.cls ≠ "java/lang/invoke/VarHandle" ∧ (parseMethodDescriptor yX6_above.desc).map (fun d => d.parameters.length) = some 1 := by decide +kernel
theorem hd_X6_inTheWay : yX6_inTheWay.cls = RX6 ∧ yX6_inTheWay.cls ≠ "java/lang/invoke/MethodHandle" ∧ yX6_inTheWay.cls ≠ "java/lang/invoke/VarHandle" ∧ (parseMethodDescriptor yX6_inTheWay.desc).map (fun d => d.parameters.length) = some 2 := by decide +kernel
theorem hd_X6_mayToday : yX6_mayToday.cls = RX6 ∧ yX6_mayToday.cls ≠ "java/lang/invoke/MethodHandle" ∧ yX6_mayToday.cls ≠ "java/lang/invoke/VarHandle" ∧ (parseMethodDescriptor yX6_mayToday.desc).map (fun d => d.parameters.length) = some 2 := by decide +kernel
theorem hd_X6_mayBe : yX6_mayBe.cls = RX6 ∧ yX6_mayBe.cls ≠ "java/lang/invoke/MethodHandle" ∧ yX6_mayBe.cls ≠ "java/lang/invoke/VarHandle" ∧ (parseMethodDescriptor yX6_mayBe.desc).map (fun d => d.parameters.length) = some 4 := by decide +kernel
theorem hd_X6_isLawful : yX6_isLawful.cls = RX6 ∧ yX6_isLawful.cls ≠ "java/lang/invoke/MethodHandle" ∧ yX6_isLawful.cls ≠ "java/lang/invoke/VarHandle" ∧ (parseMethodDescriptor yX6_isLawful.desc).map (fun d => d.parameters.length) = some 2 := by decide +kernel
theorem hd_X7_init : yX7_init.cls = RX7 ∧ yX7_init.cls ≠ "java/lang/invoke/MethodHandle" ∧ yX7_init.cls ≠ "java/lang/invoke/VarHandle" ∧ (parseMethodDescriptor yX7_init.desc).map (fun d => d.parameters.length) = some 0 := by decide +kernel
theorem hd_X7_write : yX7_write.cls = RX7 ∧ yX7_write.cls ≠ "java/lang/invoke/MethodHandle" ∧ yX7_write.cls ≠ "java/lang/invoke/VarHandle" ∧ (parseMethodDescriptor yX7_write.desc).map (fun d => d.parameters.length) = some 2 := by decide +kernel
theorem hd_X7_wipe : yX7_wipe.cls = RX7 ∧ yX7_wipe.cls ≠ "java/lang/invoke/MethodHandle" ∧ yX7_wipe.cls ≠ "java/lang/invoke/VarHandle" ∧ (parseMethodDescriptor yX7_wipe.desc).map (fun d => d.parameters.length) = some 0 := by decide +kernel
theorem hd_X7_fault : yX7_fault.cls = RX7 ∧ yX7_fault.cls ≠ "java/lang/invoke/MethodHandle" ∧ yX7_fault.cls ≠ "java/lang/invoke/VarHandle" ∧ (parseMethodDescriptor yX7_fault.desc).map (fun d => d.parameters.length) = some 0 := by decide +kernel
theorem hd_X7_lay : yX7_lay.cls = RX7 ∧ yX7_lay.cls ≠ "java/lang/invoke/MethodHandle" ∧ yX7_lay.cls ≠ "java/lang/invoke/VarHandle" ∧ (parseMethodDescriptor yX7_lay.desc).map (fun d => d.parameters.length) = some 0 := by decide +kernel
theorem hd_X7_knot : yX7_knot.cls = RX7 ∧ yX7_knot.cls ≠ "java/lang/invoke/MethodHandle" ∧ yX7_knot.cls ≠ "java/lang/invoke/VarHandle" ∧ (parseMethodDescriptor yX7_knot.desc).map (fun d => d.parameters.length) = some 2 := by decide +kernel
theorem hd_X7_person : yX7_person.cls = RX7 ∧ yX7_person.cls ≠ "java/lang/invoke/MethodHandle" ∧ yX7_person.cls ≠ "java/lang/invoke/VarHandle" ∧ (parseMethodDescriptor yX7_person.desc).map (fun d => d.parameters.length) = some 2 := by decide +kernel
theorem hd_X7_may : yX7_may.cls = RX7 ∧ yX7_may.cls ≠ "java/lang/invoke/MethodHandle" ∧ yX7_may.cls ≠ "java/lang/invoke/VarHandle" ∧ (parseMethodDescriptor yX7_may.desc).map (fun d => d.parameters.length) = some 1 := by decide +kernel
theorem hd_X7_undo : yX7_undo.cls = RX7 ∧ yX7_undo.cls ≠ "java/lang/invoke/MethodHandle" ∧ yX7_undo.cls ≠ "java/lang/invoke/VarHandle" ∧ (parseMethodDescriptor yX7_undo.desc).map (fun d => d.parameters.length) = some 1 := by decide +kernel
theorem hd_X7_tie : yX7_tie.cls = RX7 ∧ yX7_tie.cls ≠ "java/lang/invoke/MethodHandle" ∧ yX7_tie.cls ≠ "java/lang/invoke/VarHandle" ∧ (parseMethodDescriptor yX7_tie.desc).map (fun d => d.parameters.length) = some 5 := by decide +kernel
theorem hd_X7_pull : yX7_pull.cls = RX7 ∧ yX7_pull.cls ≠ "java/lang/invoke/MethodHandle" ∧ yX7_pull.cls ≠ "java/lang/invoke/VarHandle" ∧ (parseMethodDescriptor yX7_pull.desc).map (fun d => d.parameters.length) = some 1 := by decide +kernel
theorem hd_X7_cut : yX7_cut.cls = RX7 ∧ yX7_cut.cls ≠ "java/lang/invoke/MethodHandle" ∧ yX7_cut.cls ≠ "java/lang/invoke/VarHandle" ∧ (parseMethodDescriptor yX7_cut.desc).map (fun d => d.parameters.length) = some 1 := by decide +kernel
theorem hd_X7_days : yX7_days.cls = RX7 ∧ yX7_days.cls ≠ "java/lang/invoke/MethodHandle" ∧ yX7_days.cls ≠ "java/lang/invoke/VarHandle" ∧ (parseMethodDescriptor yX7_days.desc).map (fun d => d.parameters.length) = some 1 := by decide +kernel
theorem hd_X7_takeBack : yX7_takeBack.cls = RX7 ∧ yX7_takeBack.cls ≠ "java/lang/invoke/MethodHandle" ∧ yX7_takeBack.cls ≠ "java/lang/invoke/VarHandle" ∧ (parseMethodDescriptor yX7_takeBack.desc).map (fun d => d.parameters.length) = some 0 := by decide +kernel
theorem hd_X7_removeTied : yX7_removeTied.cls = RX7 ∧ yX7_removeTied.cls ≠ "java/lang/invoke/MethodHandle" ∧ yX7_removeTied.cls ≠ "java/lang/invoke/VarHandle" ∧ (parseMethodDescriptor yX7_removeTied.desc).map (fun d => d.parameters.length) = some 1 := by decide +kernel
theorem hd_X7_loosen : yX7_loosen.cls = RX7 ∧ yX7_loosen.cls ≠ "java/lang/invoke/MethodHandle" ∧ yX7_loosen.cls ≠ "java/lang/invoke/VarHandle" ∧ (parseMethodDescriptor yX7_loosen.desc).map (fun d => d.parameters.length) = some 1 := by decide +kernel
theorem hd_X7_pay : yX7_pay.cls = RX7 ∧ yX7_pay.cls ≠ "java/lang/invoke/MethodHandle" ∧ yX7_pay.cls ≠ "java/lang/invoke/VarHandle" ∧ (parseMethodDescriptor yX7_pay.desc).map (fun d => d.parameters.length) = some 1 := by decide +kernel
theorem hd_X7_forEver : yX7_forEver.cls = RX7 ∧ yX7_forEver.cls ≠ "java/lang/invoke/MethodHandle" ∧ yX7_forEver.cls ≠ "java/lang/invoke/VarHandle" ∧ (parseMethodDescriptor yX7_forEver.desc).map (fun d => d.parameters.length) = some 0 := by decide +kernel
theorem hd_X7_frees : yX7_frees.cls = RX7 ∧ yX7_frees.cls ≠ "java/lang/invoke/MethodHandle" ∧ yX7_frees.cls ≠ "java/lang/invoke/VarHandle" ∧ (parseMethodDescriptor yX7_frees.desc).map (fun d => d.parameters.length) = some 1 := by decide +kernel
theorem hd_X7_fresh : yX7_fresh.cls = RX7 ∧ yX7_fresh.cls ≠ "java/lang/invoke/MethodHandle" ∧ yX7_fresh.cls ≠ "java/lang/invoke/VarHandle" ∧ (parseMethodDescriptor yX7_fresh.desc).map (fun d => d.parameters.length) = some 3 := by decide +kernel
theorem hd_X7_orders : yX7_orders.cls = RX7 ∧ yX7_orders.cls ≠ "java/lang/invoke/MethodHandle" ∧ yX7_orders.cls ≠ "java/lang/invoke/VarHandle" ∧ (parseMethodDescriptor yX7_orders.desc).map (fun d => d.parameters.length) = some 0 := by decide +kernel
theorem hd_X7_tell : yX7_tell.cls = RX7 ∧ yX7_tell.cls ≠ "java/lang/invoke/MethodHandle" ∧ yX7_tell.cls ≠ "java/lang/invoke/VarHandle" ∧ (parseMethodDescriptor yX7_tell.desc).map (fun d => d.parameters.length) = some 1 := by decide +kernel
theorem hd_X7_noRow : yX7_noRow.cls = RX7 ∧ yX7_noRow.cls ≠ "java/lang/invoke/MethodHandle" ∧ yX7_noRow.cls ≠ "java/lang/invoke/VarHandle" ∧ (parseMethodDescriptor yX7_noRow.desc).map (fun d => d.parameters.length) = some 0 := by decide +kernel
theorem hd_X7_judge : yX7_judge.cls = RX7 ∧ yX7_judge.cls ≠ "java/lang/invoke/MethodHandle" ∧ yX7_judge.cls ≠ "java/lang/invoke/VarHandle" ∧ (parseMethodDescriptor yX7_judge.desc).map (fun d => d.parameters.length) = some 0 := by decide +kernel
theorem hd_X7_cross : yX7_cross.cls = RX7 ∧ yX7_cross.cls ≠ "java/lang/invoke/MethodHandle" ∧ yX7_cross.cls ≠ "java/lang/invoke/VarHandle" ∧ (parseMethodDescriptor yX7_cross.desc).map (fun d => d.parameters.length) = some 2 := by decide +kernel
theorem hd_X7_smooth : yX7_smooth.cls = RX7 ∧ yX7_smooth.cls ≠ "java/lang/invoke/MethodHandle" ∧ yX7_smooth.cls ≠ "java/lang/invoke/VarHandle" ∧ (parseMethodDescriptor yX7_smooth.desc).map (fun d => d.parameters.length) = some 1 := by decide +kernel
theorem hd_X7_loose : yX7_loose.cls = RX7 ∧ yX7_loose.cls ≠ "java/lang/invoke/MethodHandle" ∧ yX7_loose.cls ≠ "java/lang/invoke/VarHandle" ∧ (parseMethodDescriptor yX7_loose.desc).map (fun d => d.parameters.length) = some 2 := by decide +kernel
theorem hd_X7_alike : yX7_alike.cls = RX7 ∧ yX7_alike.cls ≠ "java/lang/invoke/MethodHandle" ∧ yX7_alike.cls ≠ "java/lang/invoke/VarHandle" ∧ (parseMethodDescriptor yX7_alike.desc).map (fun d => d.parameters.length) = some 0 := by decide +kernel
theorem hd_X7_mark : yX7_mark.cls = RX7 ∧ yX7_mark.cls ≠ "java/lang/invoke/MethodHandle" ∧ yX7_mark.cls ≠ "java/lang/invoke/VarHandle" ∧ (parseMethodDescriptor yX7_mark.desc).map (fun d => d.parameters.length) = some 2 := by decide +kernel
theorem hd_X7_year : yX7_year.cls = RX7 ∧ yX7_year.cls ≠ "java/lang/invoke/MethodHandle" ∧ yX7_year.cls ≠ "java/lang/invoke/VarHandle" ∧ (parseMethodDescriptor yX7_year.desc).map (fun d => d.parameters.length) = some 3 := by decide +kernel
theorem hd_X7_keep : yX7_keep.cls = RX7 ∧ yX7_keep.cls ≠ "java/lang/invoke/MethodHandle" ∧ yX7_keep.cls ≠ "java/lang/invoke/VarHandle" ∧ (parseMethodDescriptor yX7_keep.desc).map (fun d => d.parameters.length) = some 0 := by decide +kernel
theorem hd_X7_back : yX7_back.cls = RX7 ∧ yX7_back.cls ≠ "java/lang/invoke/MethodHandle" ∧ yX7_back.cls ≠ "java/lang/invoke/VarHandle" ∧ (parseMethodDescriptor yX7_back.desc).map (fun d => d.parameters.length) = some 0 := by decide +kernel
theorem hd_X7_count : yX7_count.cls = RX7 ∧ yX7_count.cls ≠ "java/lang/invoke/MethodHandle" ∧ yX7_count.cls ≠ "java/lang/invoke/VarHandle" ∧ (parseMethodDescriptor yX7_count.desc).map (fun d => d.parameters.length) = some 1 := by decide +kernel
theorem hd_X7_keptAt : yX7_keptAt.cls = RX7 ∧ yX7_keptAt.cls ≠ "java/lang/invoke/MethodHandle" ∧ yX7_keptAt.cls ≠ "java/lang/invoke/VarHandle" ∧ (parseMethodDescriptor yX7_keptAt.desc).map (fun d => d.parameters.length) = some 1 := by decide +kernel
theorem hd_X7_ropeAt : yX7_ropeAt.cls = RX7 ∧ yX7_ropeAt.cls ≠ "java/lang/invoke/MethodHandle" ∧ yX7_ropeAt.cls ≠ "java/lang/invoke/VarHandle" ∧ (parseMethodDescriptor yX7_ropeAt.desc).map (fun d => d.parameters.length) = some 1 := by decide +kernel
theorem hd_X7_isRope : yX7_isRope.cls = RX7 ∧ yX7_isRope.cls ≠ "java/lang/invoke/MethodHandle" ∧ yX7_isRope.cls ≠ "java/lang/invoke/VarHandle" ∧ (parseMethodDescriptor yX7_isRope.desc).map (fun d => d.parameters.length) = some 1 := by decide +kernel
theorem hd_X7_asNumber : yX7_asNumber.cls = RX7 ∧ yX7_asNumber.cls ≠ "java/lang/invoke/MethodHandle" ∧ yX7_asNumber.cls ≠ "java/lang/invoke/VarHandle" ∧ (parseMethodDescriptor yX7_asNumber.desc).map (fun d => d.parameters.length) = some 1 := by decide +kernel
theorem hd_X7_bit : yX7_bit.cls = RX7 ∧ yX7_bit.cls ≠ "java/lang/invoke/MethodHandle" ∧ yX7_bit.cls ≠ "java/lang/invoke/VarHandle" ∧ (parseMethodDescriptor yX7_bit.desc).map (fun d => d.parameters.length) = some 1 := by decide +kernel
theorem hd_X7_has : yX7_has.cls = RX7 ∧ yX7_has.cls ≠ "java/lang/invoke/MethodHandle" ∧ yX7_has.cls ≠ "java/lang/invoke/VarHandle" ∧ (parseMethodDescriptor yX7_has.desc).map (fun d => d.parameters.length) = some 2 := by decide +kernel
theorem hd_X7_isWithin : yX7_isWithin.cls = RX7 ∧ yX7_isWithin.cls ≠ "java/lang/invoke/MethodHandle" ∧ yX7_isWithin.cls ≠ "java/lang/invoke/VarHandle" ∧ (parseMethodDescriptor yX7_isWithin.desc).map (fun d => d.parameters.length) = some 2 := by decide +kernel
theorem hd_X7_ropeOf : yX7_ropeOf.cls = RX7 ∧ yX7_ropeOf.cls ≠ "java/lang/invoke/MethodHandle" ∧ yX7_ropeOf.cls ≠ "java/lang/invoke/VarHandle" ∧ (parseMethodDescriptor yX7_ropeOf.desc).map (fun d => d.parameters.length) = some 1 := by decide +kernel
theorem hd_J6_bitCount_0f7a4 : yJ6_bitCount_0f7a4.cls = RJ6 ∧ yJ6_bitCount_0f7a4.cls ≠ "java/lang/invoke/MethodHandle" ∧ yJ6_bitCount_0f7a4.cls ≠ "java/lang/invoke/VarHandle" ∧ (parseMethodDescriptor yJ6_bitCount_0f7a4.desc).map (fun d => d.parameters.length) = some 1 := by decide +kernel
theorem hd_J9_min_7cf53 : yJ9_min_7cf53.cls = RJ9 ∧ yJ9_min_7cf53.cls ≠ "java/lang/invoke/MethodHandle" ∧ yJ9_min_7cf53.cls ≠ "java/lang/invoke/VarHandle" ∧ (parseMethodDescriptor yJ9_min_7cf53.desc).map (fun d => d.parameters.length) = some 2 := by decide +kernel
