/-! ===== the law's own methods: what their contracts are made of (own text) ===== -/
def ConL (l : Launch) (y : MethodName) (ws : List Cond) (rm : Room) (D : va_G) (cA : ClassId) (As : List Value) (wc : va_W) (r : Int64) (w1 : va_W) : Prop :=
  ∀ sz, Met l y ws rm (va_Pc As (fun U => U.heap.size = sz ∧ va_P D vwCl wc U.heap ∧ KB D cA U ∧ va_D (fun _ => True) wc)) (va_Ql (fun x (_ : Unit) => x = r) (fun _ t => va_P D vwCl w1 t.heap ∧ va_D (va_A wc sz) w1) (va_A wc sz)) 0 0 (va_A wc sz)
/-- reads the script alone -/
def ConX (l : Launch) (y : MethodName) (ws : List Cond) (rm : Room) (D : va_G) (cA : ClassId) (As : List Value) (sa sL : Nat) (sxs : Nat → Int32) (r : Int32) : Prop :=
  Met l y ws rm (va_Pc As (fun U => va_X sa sL sxs U U.heap ∧ KB D cA U)) (vp_Si (fun x => x = r)) 0 0 (fun _ => False)
/-- reads the script, writes its world -/
def ConT (l : Launch) (y : MethodName) (ws : List Cond) (rm : Room) (D : va_G) (cA : ClassId) (As : List Value) (wc : va_W) (sa sL : Nat) (sxs : Nat → Int32) (r : Int32) (w1 : va_W) : Prop :=
  ∀ sz, Met l y ws rm (va_Pc As (fun U => U.heap.size = sz ∧ va_P D vwCl wc U.heap ∧ KB D cA U ∧ va_D (fun _ => True) wc ∧ va_X sa sL sxs U U.heap ∧ sa < sz ∧ ¬ va_A wc sz sa)) (va_Qi (fun x (_ : Unit) => x = r) (fun _ t => va_P D vwCl w1 t.heap ∧ va_D (va_A wc sz) w1) (va_A wc sz)) 0 0 (va_A wc sz)
theorem blindX {As : List Value} {sa sL : Nat} {sxs : Nat → Int32} {D : va_G} {cA : ClassId} : FrameBlind (va_Pc As (fun U => va_X sa sL sxs U U.heap ∧ KB D cA U)) := fun _ _ _ _ h => ⟨h.1, h.2.1, h.2.2.call⟩
theorem blindT {As : List Value} {sz sa sL : Nat} {sxs : Nat → Int32} {D : va_G} {cA : ClassId} {wc : va_W} : FrameBlind (va_Pc As (fun U => U.heap.size = sz ∧ va_P D vwCl wc U.heap ∧ KB D cA U ∧ va_D (fun _ => True) wc ∧ va_X sa sL sxs U U.heap ∧ sa < sz ∧ ¬ va_A wc sz sa)) := fun _ _ _ _ h => ⟨h.1, h.2.1, h.2.2.1, h.2.2.2.1.call, h.2.2.2.2.1, h.2.2.2.2.2.1, h.2.2.2.2.2.2⟩
theorem ConX.enter {l : Launch} {y : MethodName} {ws ws' : List Cond} {rm : Room} {D : va_G} {cA : ClassId} {As : List Value} {sa sL : Nat} {sxs : Nat → Int32} {r : Int32} {cc : ByteArray} {maxL : Nat} (hy : plainName y.cls = true) (hw : ws = Cond.code y cc maxL (some .int) :: ws') (hlen : (lg_sl As).length ≤ maxL)
    (body : ∀ (p : Program) (e : Env) (s : State) (m : MethodId) (args : Array Value) (below : List Frame) (meth : Method) (c : Code) (Q : State → Prop), p.tables.exec = Jvm.exec → c.code = cc → c.maxLocals = maxL → s.vm.findClass y.cls = some m.cls → (∀ w ∈ ws, w.before args s = true) → KB D cA s → va_X sa sL sxs s s.heap →
      (∀ (pc : Nat) (ls : Array Slot), decode cc pc = .ok (.ireturn, 1) → W p l e rm s m args below meth c s.heap [] 0 0 Q (F0 m pc ls [.int r])) →
      ∀ ls : Array Slot, lv_has ls maxL (lv_args 0 As) → W p l e rm s m args below meth c s.heap [] 0 0 Q (F0 m 0 ls [])) : ConX l y ws rm D cA As sa sL sxs r := by
  refine Met.ofW (cc := cc) (maxL := maxL) (ret := some .int) hy hw ?_
  intro p e s m args below meth c s₁ B hml hv
  obtain ⟨rfl, hP, hK⟩ := hv
  have hl := lv_entry As (n := maxL) hlen
  rw [lg_entry_eq]
  exact body p e s m As.toArray below meth c _ B.exec B.bytes hml (findClass_of_methodNamed B.named) (atoms_spec (ws := ws) B.pre) hK hP (fun pc ls hd => W.iret B.exec B.bytes B.returns (fun t ht hW => ⟨r, rfl, rfl, ht⟩) (fun q hq => by cases hq) hd B.notSynchronized) _ hl
theorem ConL.enter {l : Launch} {y : MethodName} {ws ws' : List Cond} {rm : Room} {D : va_G} {cA : ClassId} {As : List Value} {wc w1 : va_W} {r : Int64} {cc : ByteArray} {maxL : Nat} (hy : plainName y.cls = true) (hw : ws = Cond.code y cc maxL (some .long) :: ws') (hlen : (lg_sl As).length ≤ maxL)
    (body : ∀ (p : Program) (e : Env) (s : State) (m : MethodId) (args : Array Value) (below : List Frame) (meth : Method) (c : Code) (Q : State → Prop) (A : Nat → Prop), p.tables.exec = Jvm.exec → c.code = cc → c.maxLocals = maxL → s.vm.findClass y.cls = some m.cls → (∀ w ∈ ws, w.before args s = true) → KB D cA s → va_P D vwCl wc s.heap → va_D A wc → (∀ q : Nat, s.heap.size ≤ q → A q) →
      (∀ (H : Heap) (locs : List Loc) (pc : Nat) (ls : Array Slot), va_P D vwCl w1 H → va_D A w1 → va_S A s.heap H locs → decode cc pc = .ok (.lreturn, 1) → W p l e rm s m args below meth c H locs 0 0 Q (F0 m pc ls [.long r])) →
      ∀ ls : Array Slot, lv_has ls maxL (lv_args 0 As) → W p l e rm s m args below meth c s.heap [] 0 0 Q (F0 m 0 ls [])) : ConL l y ws rm D cA As wc r w1 := by
  intro sz
  refine Met.ofW (cc := cc) (maxL := maxL) (ret := some .long) hy hw ?_
  intro p e s m args below meth c s₁ B hml hv
  obtain ⟨rfl, hsz, hP, hK, hD0⟩ := hv
  subst hsz
  have hl := lv_entry As (n := maxL) hlen
  rw [lg_entry_eq]
  exact body p e s m As.toArray below meth c _ (va_A wc s.heap.size) B.exec B.bytes hml (findClass_of_methodNamed B.named) (atoms_spec (ws := ws) B.pre) hK hP hD0.self (fun q h => Or.inr h) (fun H locs pc ls hP hD hS hd => W.lret B.exec B.bytes B.returns (fun t ht hW => ⟨⟨r, (), rfl, rfl, by rw [ht]; exact hP, hD⟩, hS.F ht⟩) hS.2.2 hd B.notSynchronized) _ hl
theorem ConTZ.enter {l : Launch} {y : MethodName} {ws ws' : List Cond} {rm : Room} {D : va_G} {cA : ClassId} {As : List Value} {wc w1 : va_W} {sa sL : Nat} {sxs : Nat → Int32} {r : Int32} {cc : ByteArray} {maxL : Nat} (hy : plainName y.cls = true) (hw : ws = Cond.code y cc maxL (some .boolean) :: ws') (hlen : (lg_sl As).length ≤ maxL)
    (body : ∀ (p : Program) (e : Env) (s : State) (m : MethodId) (args : Array Value) (below : List Frame) (meth : Method) (c : Code) (Q : State → Prop) (A : Nat → Prop), p.tables.exec = Jvm.exec → c.code = cc → c.maxLocals = maxL → s.vm.findClass y.cls = some m.cls → (∀ w ∈ ws, w.before args s = true) → KB D cA s → va_P D vwCl wc s.heap → va_D A wc → (∀ q : Nat, s.heap.size ≤ q → A q) → va_X sa sL sxs s s.heap → sa < s.heap.size → ¬ A sa →
      (∀ (H : Heap) (locs : List Loc) (pc : Nat) (ls : Array Slot) (_ : narrow .boolean (.int r) = .int r), va_P D vwCl w1 H → va_D A w1 → va_S A s.heap H locs → decode cc pc = .ok (.ireturn, 1) → W p l e rm s m args below meth c H locs 0 0 Q (F0 m pc ls [.int r])) →
      ∀ ls : Array Slot, lv_has ls maxL (lv_args 0 As) → W p l e rm s m args below meth c s.heap [] 0 0 Q (F0 m 0 ls [])) : ConT l y ws rm D cA As wc sa sL sxs r w1 := by
  intro sz
  refine Met.ofW (cc := cc) (maxL := maxL) (ret := some .boolean) hy hw ?_
  intro p e s m args below meth c s₁ B hml hv
  obtain ⟨rfl, hsz, hP, hK, hD0, hX, hbl, hbA⟩ := hv
  subst hsz
  have hl := lv_entry As (n := maxL) hlen
  rw [lg_entry_eq]
  exact body p e s m As.toArray below meth c _ (va_A wc s.heap.size) B.exec B.bytes hml (findClass_of_methodNamed B.named) (atoms_spec (ws := ws) B.pre) hK hP hD0.self (fun q h => Or.inr h) hX hbl hbA (fun H locs pc ls hn hP hD hS hd => W.zret B.exec B.bytes B.returns hn (fun t ht hW => ⟨⟨r, (), rfl, rfl, by rw [ht]; exact hP, hD⟩, hS.F ht⟩) hS.2.2 hd B.notSynchronized) _ hl
section CALLQ
variable {p : Program} {l : Launch} {e : Env} {R : Room} {s : State} {m : MethodId} {args : Array Value} {below : List Frame} {meth : Method} {c : Code} {H : Heap} {locs : List Loc} {cells slots : Nat} {Q : State → Prop}
variable {pc nL maxL n index : Nat} {ls : Array Slot} {As rest st0 : List Value} {cc bytes : ByteArray} {y : MethodName} {own C host : String} {ret : Option FieldType} {Ts wy : List Cond} {rm : Room} {b : Nat} {D : va_G} {cA : ClassId} {wc ws w1 wr wn : va_W} {r : Int32} {r8 : Int64} {q : Nat} {A0 : Nat → Prop} {H0 : Heap} {sa sL : Nat} {sxs : Nat → Int32}
theorem pX_S (S : CallFix p m c cc nL s args Ts own) (hM : ConX l y wy rm D cA As sa sL sxs r) (cw : CallB R s args own index y bytes maxL ret wy rm 0 0 n ∧ (Cond.static y).before args s = true) (hK : KB D cA s) (hX : va_X sa sL sxs s H0) (hbl : sa < H0.size) (hbA : ¬ A0 sa) (hS : va_S A0 H0 H locs)
    (hn : As.length = n) (hsize : ls.size = nL) (hst : st0 = As.reverse ++ rest) (hW : (rest.map fun v => v.category).sum ≤ 8) (hdg : decode cc pc = .ok (.invokestatic index, 3)) (hf : cells + 0 ≤ R.cells ∧ slots + 0 ≤ R.slots)
    (k : W p l e R s m args below meth c H locs cells slots Q (F0 m (pc + 3) ls (.int r :: rest))) : W p l e R s m args below meth c H locs cells slots Q (F0 m pc ls st0) :=
  cs_i (va_runS (As := As) (rest := rest) S hM cw ⟨blindX, fun U hU hW => ⟨rfl, by rw [hU]; exact (hX.kept (hS.2.1 sa hbl hbA)).moved hW.alike, hK.warm hW⟩⟩ rfl hn hsize hst (lv_room hW) hdg hf) k
theorem pW_S (S : CallFix p m c cc nL s args Ts own) (hM : ConW l y wy rm D cA As wc r w1) (cw : CallB R s args own index y bytes maxL ret wy rm 0 0 n ∧ (Cond.static y).before args s = true) (hK : KB D cA s) (hP : va_P D vwCl ws H) (hD : va_D A0 ws) (hS : va_S A0 H0 H locs) (hA : ∀ q, H0.size ≤ q → A0 q) (hpm : ws.Perm (wc ++ wr)) (hpm2 : (w1 ++ wr).Perm wn)
    (hn : As.length = n) (hsize : ls.size = nL) (hst : st0 = As.reverse ++ rest) (hW : (rest.map fun v => v.category).sum ≤ 8) (hdg : decode cc pc = .ok (.invokestatic index, 3)) (hf : cells + 0 ≤ R.cells ∧ slots + 0 ≤ R.slots)
    (k : ∀ (H : Heap) (locs : List Loc), va_P D vwCl wn H → va_D A0 wn → va_S A0 H0 H locs → W p l e R s m args below meth c H locs cells slots Q (F0 m (pc + 3) ls (.int r :: rest))) : W p l e R s m args below meth c H locs cells slots Q (F0 m pc ls st0) := by
  have hF := free_perm hpm hD hS hA
  refine va_calli (va_runS (As := As) (rest := rest) S (hM H.size) cw ⟨blindW, fun U hU hW => ⟨rfl, by rw [hU], by rw [hU]; exact P_left hpm hP, hK.warm hW, D_of (List.pairwise_append.mp (D_pw (D_perm hpm hD))).1 (fun _ _ => trivial)⟩⟩ rfl hn hsize hst (lv_room hW) hdg hf) hS (fun q _ h => hF q h) hF (fun r1 u t H1 locs1 ht hvm hw hB hz1 hk1 hS1 => ?_)
  obtain ⟨hP1, hD1⟩ := hB
  rw [ht] at hP1
  subst hw
  obtain ⟨h1, h2⟩ := back_perm (w1 := w1) (wn := wn) hP hD hS hA hpm hpm2 hk1 hP1 hD1
  exact k H1 locs1 h1 h2 hS1
theorem pL_S (S : CallFix p m c cc nL s args Ts own) (hM : ConL l y wy rm D cA As wc r8 w1) (cw : CallB R s args own index y bytes maxL ret wy rm 0 0 n ∧ (Cond.static y).before args s = true) (hK : KB D cA s) (hP : va_P D vwCl ws H) (hD : va_D A0 ws) (hS : va_S A0 H0 H locs) (hA : ∀ q, H0.size ≤ q → A0 q) (hpm : ws.Perm (wc ++ wr)) (hpm2 : (w1 ++ wr).Perm wn)
    (hn : As.length = n) (hsize : ls.size = nL) (hst : st0 = As.reverse ++ rest) (hW : (rest.map fun v => v.category).sum ≤ 8) (hdg : decode cc pc = .ok (.invokestatic index, 3)) (hf : cells + 0 ≤ R.cells ∧ slots + 0 ≤ R.slots)
    (k : ∀ (H : Heap) (locs : List Loc), va_P D vwCl wn H → va_D A0 wn → va_S A0 H0 H locs → W p l e R s m args below meth c H locs cells slots Q (F0 m (pc + 3) ls (.long r8 :: rest))) : W p l e R s m args below meth c H locs cells slots Q (F0 m pc ls st0) := by
  have hF := free_perm hpm hD hS hA
  refine va_calll (va_runS (As := As) (rest := rest) S (hM H.size) cw ⟨blindW, fun U hU hW => ⟨rfl, by rw [hU], by rw [hU]; exact P_left hpm hP, hK.warm hW, D_of (List.pairwise_append.mp (D_pw (D_perm hpm hD))).1 (fun _ _ => trivial)⟩⟩ rfl hn hsize hst (lv_room hW) hdg hf) hS (fun q _ h => hF q h) hF (fun r1 u t H1 locs1 ht hvm hw hB hz1 hk1 hS1 => ?_)
  obtain ⟨hP1, hD1⟩ := hB
  rw [ht] at hP1
  subst hw
  obtain ⟨h1, h2⟩ := back_perm (w1 := w1) (wn := wn) hP hD hS hA hpm hpm2 hk1 hP1 hD1
  exact k H1 locs1 h1 h2 hS1
theorem pT_S (S : CallFix p m c cc nL s args Ts own) (hM : ConT l y wy rm D cA As wc sa sL sxs r w1) (cw : CallB R s args own index y bytes maxL ret wy rm 0 0 n ∧ (Cond.static y).before args s = true) (hK : KB D cA s) (hX : va_X sa sL sxs s H0) (hbl : sa < H0.size) (hbA : ¬ A0 sa) (hP : va_P D vwCl ws H) (hD : va_D A0 ws) (hS : va_S A0 H0 H locs) (hA : ∀ q, H0.size ≤ q → A0 q) (hpm : ws.Perm (wc ++ wr)) (hpm2 : (w1 ++ wr).Perm wn)
    (hn : As.length = n) (hsize : ls.size = nL) (hst : st0 = As.reverse ++ rest) (hW : (rest.map fun v => v.category).sum ≤ 8) (hdg : decode cc pc = .ok (.invokestatic index, 3)) (hf : cells + 0 ≤ R.cells ∧ slots + 0 ≤ R.slots)
    (k : ∀ (H : Heap) (locs : List Loc), va_P D vwCl wn H → va_D A0 wn → va_S A0 H0 H locs → W p l e R s m args below meth c H locs cells slots Q (F0 m (pc + 3) ls (.int r :: rest))) : W p l e R s m args below meth c H locs cells slots Q (F0 m pc ls st0) := by
  have hF := free_perm hpm hD hS hA
  refine va_calli (va_runS (As := As) (rest := rest) S (hM H.size) cw ⟨blindT, fun U hU hW => ⟨rfl, by rw [hU], by rw [hU]; exact P_left hpm hP, hK.warm hW, D_of (List.pairwise_append.mp (D_pw (D_perm hpm hD))).1 (fun _ _ => trivial), by rw [hU]; exact (hX.kept (hS.2.1 sa hbl hbA)).moved hW.alike, Nat.lt_of_lt_of_le hbl hS.1, fun hq => hbA (hF _ hq)⟩⟩ rfl hn hsize hst (lv_room hW) hdg hf) hS (fun q _ h => hF q h) hF (fun r1 u t H1 locs1 ht hvm hw hB hz1 hk1 hS1 => ?_)
  obtain ⟨hP1, hD1⟩ := hB
  rw [ht] at hP1
  subst hw
  obtain ⟨h1, h2⟩ := back_perm (w1 := w1) (wn := wn) hP hD hS hA hpm hpm2 hk1 hP1 hD1
  exact k H1 locs1 h1 h2 hS1
end CALLQ
theorem sw_out14 {x : Int32} (h0 : ¬ x = (0 : Int32)) (h1 : ¬ x = (1 : Int32)) (h2 : ¬ x = (2 : Int32)) (h3 : ¬ x = (3 : Int32)) (h4 : ¬ x = (4 : Int32)) (h5 : ¬ x = (5 : Int32)) (h6 : ¬ x = (6 : Int32)) (h7 : ¬ x = (7 : Int32)) (h8 : ¬ x = (8 : Int32)) (h9 : ¬ x = (9 : Int32)) (h10 : ¬ x = (10 : Int32)) (h11 : ¬ x = (11 : Int32)) (h12 : ¬ x = (12 : Int32)) (h13 : ¬ x = (13 : Int32)) (h14 : ¬ x = (14 : Int32)) : x.toInt < 0 ∨ (14 : Int) < x.toInt := by
  rcases Int.lt_or_le x.toInt 0 with h | h
  · exact Or.inl h
  · rcases Int.lt_or_le 14 x.toInt with h2 | h2
    · exact Or.inr h2
    · exfalso
      have hx : x = Int32.ofInt x.toInt := (Int32.ofInt_toInt x).symm
      have hc : x.toInt = 0 ∨ x.toInt = 1 ∨ x.toInt = 2 ∨ x.toInt = 3 ∨ x.toInt = 4 ∨ x.toInt = 5 ∨ x.toInt = 6 ∨ x.toInt = 7 ∨ x.toInt = 8 ∨ x.toInt = 9 ∨ x.toInt = 10 ∨ x.toInt = 11 ∨ x.toInt = 12 ∨ x.toInt = 13 ∨ x.toInt = 14 := by omega
      rcases hc with hc | hc | hc | hc | hc | hc | hc | hc | hc | hc | hc | hc | hc | hc | hc <;> rw [hc] at hx <;> simp_all
theorem hd_L_cell : yL_cell.cls = RL ∧ yL_cell.cls ≠ "java/lang/invoke/MethodHandle" ∧ yL_cell.cls ≠ "java/lang/invoke/VarHandle" ∧ (parseMethodDescriptor yL_cell.desc).map (fun d => d.parameters.length) = some 2 := by decide +kernel
theorem hd_L_some : yL_some.cls = RL ∧ yL_some.cls ≠ "java/lang/invoke/MethodHandle" ∧ yL_some.cls ≠ "java/lang/invoke/VarHandle" ∧ (parseMethodDescriptor yL_some.desc).map (fun d => d.parameters.length) = some 2 := by decide +kernel
theorem hd_L_number : yL_number.cls = RL ∧ yL_number.cls ≠ "java/lang/invoke/MethodHandle" ∧ yL_number.cls ≠ "java/lang/invoke/VarHandle" ∧ (parseMethodDescriptor yL_number.desc).map (fun d => d.parameters.length) = some 3 := by decide +kernel
theorem hd_L_item : yL_item.cls = RL ∧ yL_item.cls ≠ "java/lang/invoke/MethodHandle" ∧ yL_item.cls ≠ "java/lang/invoke/VarHandle" ∧ (parseMethodDescriptor yL_item.desc).map (fun d => d.parameters.length) = some 8 := by decide +kernel
theorem hd_L_town : yL_town.cls = RL ∧ yL_town.cls ≠ "java/lang/invoke/MethodHandle" ∧ yL_town.cls ≠ "java/lang/invoke/VarHandle" ∧ (parseMethodDescriptor yL_town.desc).map (fun d => d.parameters.length) = some 4 := by decide +kernel
theorem hd_L_act : yL_act.cls = RL ∧ yL_act.cls ≠ "java/lang/invoke/MethodHandle" ∧ yL_act.cls ≠ "java/lang/invoke/VarHandle" ∧ (parseMethodDescriptor yL_act.desc).map (fun d => d.parameters.length) = some 4 := by decide +kernel
abbrev rmL_cell : Room := ({ frames := 0, cells := 0, slots := 0, locals := 0 } : Room)
def f_L_cell (sL : Nat) (sxs : Nat → Int32) (x1 : Int32) : Option Int32 := if x1 < Int32.ofNat sL then gd (ck x1 sL) (some (sxs x1.toNatClampNeg)) else some ((1116352408 : Int32) * (x1 + (5 : Int32)) + (1899447441 : Int32))
set_option maxHeartbeats 4000000 in
set_option maxRecDepth 100000 in
theorem c_L_cell (l : Launch) (D : va_G) (cA : ClassId) (sa : Nat) (sL : Nat) (sxs : Nat → Int32) (x1 : Int32) (r : Int32) (h : f_L_cell sL sxs x1 = some r) : ConX l yL_cell wsL_cell rmL_cell D cA [.ref sa, .int x1] sa sL sxs r := by
  refine ConX.enter (cc := cL_cell) (maxL := 2) (by decide) rfl (Nat.le_of_ble_eq_true rfl) ?_
  intro p e s m args below meth c Q hx hb hml hown hts hK hX hend ls hl
  have hl : lv_has ls 2 [(0, .ref sa), (1, .int x1)] := hl
  have lkc7 := hts (.constant RL 7 (1116352408)) (List.mem_of_getElem? (i := 1) rfl)
  have lkc8 := hts (.constant RL 8 (1899447441)) (List.mem_of_getElem? (i := 2) rfl)
  have hbl : sa < s.heap.size := by
    obtain ⟨scr, h1, -⟩ := hX
    exact (Array.getElem?_eq_some_iff.mp h1).1
  have hS : va_S (fun _ => False) s.heap s.heap [] := va_S.rf
  unfold f_L_cell at h
  refine lv_iload_n hx hb dL_cell_0 rfl (lv_at hl 1 rfl) ?_
  refine lv_aload_n hx hb dL_cell_1 rfl (lv_at hl 0 rfl) ?_
  refine va_slen hx hb hX hbl (fun q => q) hS dL_cell_2 ?_
  refine lv_icmp_ge (tgt := 12) hx hb dL_cell_3 (by decide) (fun hc => ?_) (fun hc => ?_)
  · have h := if_f (fun hq => absurd (Int32.lt_iff_toInt_lt.mp hq) (Int.not_lt.mpr (Int32.le_iff_toInt_le.mp hc))) h
    refine lv_ldc hx hb hown lkc7 dL_cell_12 ?_
    refine lv_iload_n hx hb dL_cell_14 rfl (lv_at hl 1 rfl) ?_
    refine lv_iconst (v := (5 : Int32)) hx hb dL_cell_15 (by decide) ?_
    refine lv_iadd hx hb dL_cell_16 ?_
    refine lv_imul hx hb dL_cell_17 ?_
    refine lv_ldc hx hb hown lkc8 dL_cell_18 ?_
    refine lv_iadd hx hb dL_cell_20 ?_
    have h := Option.some.inj h
    rw [h]
    exact hend _ _ dL_cell_21
  · have hlt : x1 < Int32.ofNat sL := by
      rcases Int.lt_or_le x1.toInt (Int32.ofNat sL).toInt with hq | hq
      · exact Int32.lt_iff_toInt_lt.mpr hq
      · exact absurd (Int32.le_iff_toInt_le.mpr hq) hc
    have h := if_t hlt h
    obtain ⟨hi, h⟩ := gd_some h
    have hin : vp_in x1 sL := ck_in hi
    refine lv_aload_n hx hb dL_cell_6 rfl (lv_at hl 0 rfl) ?_
    refine lv_iload_n hx hb dL_cell_7 rfl (lv_at hl 1 rfl) ?_
    refine va_sld hx hb hX hbl (fun q => q) hS hin dL_cell_8 ?_
    refine lv_goto (tgt := 21) hx hb dL_cell_9 (by decide) ?_
    have h := Option.some.inj h
    rw [h]
    exact hend _ _ dL_cell_21
def f_L_some (x0 : Int32) (x1 : Int32) : Option (Int32) := gd (decide (¬ x1 = (0 : Int32))) (some ((x0 &&& (2147483647 : Int32)) - (x0 &&& (2147483647 : Int32)) / x1 * x1))
abbrev rmL_some : Room := ({ frames := 0, cells := 0, slots := 0, locals := 0 } : Room)
set_option maxHeartbeats 4000000 in
set_option maxRecDepth 100000 in
theorem c_L_some (l : Launch) (D : va_G) (cA : ClassId) (x0 : Int32) (x1 : Int32) (r : Int32) (h : f_L_some x0 x1 = some r) : ConR l yL_some wsL_some rmL_some D cA [.int x0, .int x1] ([] : va_W) r := by
  refine ConR.enter (cc := cL_some) (maxL := 2) (by decide) rfl (Nat.le_of_ble_eq_true rfl) ?_
  intro p e s m args below meth c Q hx hb hml hown hts hK hP  hend ls hl
  have hl : lv_has ls 2 [(0, .int x0), (1, .int x1)] := hl
  unfold f_L_some at h
  have lkc9 := hts (.constant RL 9 (2147483647)) (List.mem_of_getElem? (i := 1) rfl)
  refine lv_iload_n hx hb dL_some_0 rfl (lv_at hl 0 rfl) ?_
  refine lv_ldc hx hb hown lkc9 dL_some_1 ?_
  refine lv_iand hx hb dL_some_3 ?_
  refine lv_iload_n hx hb dL_some_4 rfl (lv_at hl 1 rfl) ?_
  obtain ⟨hn1, h⟩ := gd_some h
  refine lv_irem hx hb dL_some_5 (of_decide_eq_true hn1) ?_
  cases h
  exact hend _ _ dL_some_6
