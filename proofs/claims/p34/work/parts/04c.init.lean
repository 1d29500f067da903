/-! ===== constructors (own text) ===== -/
abbrev Z0 : Ob := (fun _ => 0, fun _ _ => 0)
def ConN {β : Type} (l : Launch) (y : MethodName) (ws : List Cond) (rm : Room) (D : va_G) (cA : ClassId) (As : List Value) (wc : va_W) (w1 : β → va_W) (ok : β → Prop) (mc ms : Nat) : Prop :=
  ∀ sz, Met l y ws rm (va_Pc As (fun U => U.heap.size = sz ∧ va_P D vwCl wc U.heap ∧ KB D cA U ∧ va_D (fun _ => True) wc)) (va_Qv ok (fun a t => va_P D vwCl (w1 a) t.heap ∧ va_D (va_A wc sz) (w1 a)) (va_A wc sz)) mc ms (va_A wc sz)
theorem ConN.enter {β : Type} {l : Launch} {y : MethodName} {ws ws' : List Cond} {rm : Room} {D : va_G} {cA : ClassId} {As : List Value} {wc : va_W} {w1 : β → va_W} {ok : β → Prop} {mc ms : Nat} {cc : ByteArray} {maxL : Nat} (hy : plainName y.cls = true) (hyn : y.name = "<init>") (hw : ws = Cond.code y cc maxL none :: ws') (hlen : (lg_sl As).length ≤ maxL)
    (body : ∀ (p : Program) (e : Env) (s : State) (m : MethodId) (args : Array Value) (below : List Frame) (meth : Method) (c : Code) (Q : State → Prop) (A : Nat → Prop), p.tables.exec = Jvm.exec → c.code = cc → c.maxLocals = maxL → s.vm.findClass y.cls = some m.cls → (∀ w ∈ ws, w.before args s = true) → KB D cA s → va_P D vwCl wc s.heap → va_D A wc → (∀ q : Nat, s.heap.size ≤ q → A q) → meth.name = "<init>" →
      (∀ (a : β) (H : Heap) (locs : List Loc) (pc : Nat) (ls : Array Slot), ok a → va_P D vwCl (w1 a) H → va_D A (w1 a) → va_S A s.heap H locs → decode cc pc = .ok (.return_, 1) → W p l e rm s m args below meth c H locs mc ms Q (F0 m pc ls [])) →
      ∀ ls : Array Slot, lv_has ls maxL (lv_args 0 As) → W p l e rm s m args below meth c s.heap [] 0 0 Q (F0 m 0 ls [])) : ConN l y ws rm D cA As wc w1 ok mc ms := by
  intro sz
  refine Met.ofW (cc := cc) (maxL := maxL) (ret := none) hy hw ?_
  intro p e s m args below meth c s₁ B hml hv
  obtain ⟨rfl, hsz, hP, hK, hD0⟩ := hv
  subst hsz
  have hl := lv_entry As (n := maxL) hlen
  rw [lg_entry_eq]
  exact body p e s m As.toArray below meth c _ (va_A wc s.heap.size) B.exec B.bytes hml (findClass_of_methodNamed B.named) (atoms_spec (ws := ws) B.pre) hK hP hD0.self (fun q h => Or.inr h) ((name_of_methodNamed B.named B.method).1.trans hyn) (fun a H locs pc ls ha hP hD hS hd => W.vret B.exec B.bytes B.returns (fun t ht hW => ⟨⟨a, rfl, ha, by rw [ht]; exact hP, hD⟩, hS.F ht⟩) hS.2.2 hd B.notSynchronized) _ hl
section CALLN
variable {p : Program} {l : Launch} {e : Env} {R : Room} {s : State} {m : MethodId} {args : Array Value} {below : List Frame} {meth : Method} {c : Code} {H : Heap} {locs : List Loc} {cells slots : Nat} {Q : State → Prop}
variable {pc nL maxL n index mc ms : Nat} {ls : Array Slot} {As rest st0 : List Value} {cc bytes : ByteArray} {y : MethodName} {own C host : String} {Ts wy : List Cond} {rm : Room} {b : Nat} {D : va_G} {cA : ClassId} {wc ws wr : va_W} {A0 : Nat → Prop} {H0 : Heap}
theorem newa {N' : Nat} {n : Int32} (hexec : p.tables.exec = Jvm.exec) (hb : c.code = cc) (harr : (Cond.arrayClass .int).before args s = true) (hK : KB D cA s) (hP : va_P D vwCl ws H) (hD : va_D A0 ws) (hS : va_S A0 H0 H locs) (hA : ∀ q, H0.size ≤ q → A0 q) (hn : ¬ n < 0) (hN : n.toNatClampNeg = N') (hbytes : N' * 4 ≤ 536870912) (hcells : cells + 1 ≤ R.cells) (hslots : slots + N' ≤ R.slots) (hdg : decode cc pc = .ok (.newarray .int, 2))
    (kk : ∀ (q : Nat) (H : Heap), va_P D vwCl (ws ++ [(q, .inl (cA, N', .inl (fun _ => 0)))]) H → va_D A0 (ws ++ [(q, .inl (cA, N', .inl (fun _ => 0)))]) → va_S A0 H0 H locs → W p l e R s m args below meth c H locs (cells + 1) (slots + N') Q (F0 m (pc + 2) ls (.ref q :: rest))) : W p l e R s m args below meth c H locs cells slots Q (F0 m pc ls (.int n :: rest)) := by
  refine va_newa (atype := .int) (ty := .int) (a0 := (N', .inl (fun _ => 0))) hexec hb harr rfl hK.1 hP hD hS hA (fun _ => rfl) hn hN hbytes hcells hslots hdg (fun q cA' H1 hK1 hP1 hD1 hS1 => ?_)
  have e1 : s.vm.findClass ("[" ++ FieldType.int.toString) = some cA := (hK.1.2 0 (cA, .int) rfl).2
  have e2 : s.vm.findClass ("[" ++ FieldType.int.toString) = some cA' := (hK1.2 1 (cA', .int) rfl).2
  have e3 : cA' = cA := Option.some.inj (e2.symm.trans e1)
  subst e3
  exact kk q H1 hP1 hD1 hS1
theorem cN_I {β : Type} {w1 : β → va_W} {ok : β → Prop} (S : CallFix p m c cc nL s args Ts own) (hM : ConN l y wy rm D cA (.ref b :: As) wc w1 ok mc ms) (cw : CallB R s args own index y bytes maxL none wy rm mc ms n ∧ y.name = "<init>" ∧ (Cond.instanceMethod y).before args s = true) (hK : KB D cA s) (hP : va_P D vwCl (wr ++ wc) H) (hD : va_D A0 (wr ++ wc)) (hS : va_S A0 H0 H locs) (hA : ∀ q, H0.size ≤ q → A0 q)
    (hn : As.length = n) (hsize : ls.size = nL) (hst : st0 = As.reverse ++ .ref b :: rest) (hW : (rest.map fun v => v.category).sum ≤ 8) (hdg : decode cc pc = .ok (.invokespecial index, 3)) (hf : cells + mc ≤ R.cells ∧ slots + ms ≤ R.slots)
    (k : ∀ (a : β) (H : Heap) (locs : List Loc), ok a → va_P D vwCl (wr ++ w1 a) H → va_D A0 (wr ++ w1 a) → va_S A0 H0 H locs → W p l e R s m args below meth c H locs (cells + mc) (slots + ms) Q (F0 m (pc + 3) ls rest)) : W p l e R s m args below meth c H locs cells slots Q (F0 m pc ls st0) := by
  have hpm : (wr ++ wc).Perm (wc ++ wr) := List.perm_append_comm
  have hF := free_perm hpm hD hS hA
  refine va_callv (va_runI (As := As) (rest := rest) S (hM H.size) cw ⟨blindW, fun U hU hW => ⟨rfl, by rw [hU], by rw [hU]; exact P_left hpm hP, hK.warm hW, D_of (List.pairwise_append.mp (D_pw (D_perm hpm hD))).1 (fun _ _ => trivial)⟩⟩ rfl hn hsize hst (lv_room hW) hdg hf) hS (fun q _ h => hF q h) hF (fun u t H1 locs1 ht hvm hw hB hz1 hk1 hS1 => ?_)
  obtain ⟨hP1, hD1⟩ := hB
  rw [ht] at hP1
  obtain ⟨h1, h2⟩ := back_perm (w1 := w1 u) (wn := wr ++ w1 u) hP hD hS hA hpm List.perm_append_comm hk1 hP1 hD1
  exact k u H1 locs1 hw h1 h2 hS1
theorem cN_IN {β : Type} {w1 : β → va_W} {ok : β → Prop} (S : CallFix p m c cc nL s args Ts own) (hM : ConN l y wy rm D cA (.ref b :: As) wc w1 ok mc ms) (cw : va_CN R s args own index y host bytes maxL none wy rm mc ms n ∧ y.name = "<init>" ∧ (Cond.instanceMethod y).before args s = true) (hK : KB D cA s) (hP : va_P D vwCl (wr ++ wc) H) (hD : va_D A0 (wr ++ wc)) (hS : va_S A0 H0 H locs) (hA : ∀ q, H0.size ≤ q → A0 q)
    (hn : As.length = n) (hsize : ls.size = nL) (hst : st0 = As.reverse ++ .ref b :: rest) (hW : (rest.map fun v => v.category).sum ≤ 8) (hdg : decode cc pc = .ok (.invokespecial index, 3)) (hf : cells + mc ≤ R.cells ∧ slots + ms ≤ R.slots)
    (k : ∀ (a : β) (H : Heap) (locs : List Loc), ok a → va_P D vwCl (wr ++ w1 a) H → va_D A0 (wr ++ w1 a) → va_S A0 H0 H locs → W p l e R s m args below meth c H locs (cells + mc) (slots + ms) Q (F0 m (pc + 3) ls rest)) : W p l e R s m args below meth c H locs cells slots Q (F0 m pc ls st0) := by
  have hpm : (wr ++ wc).Perm (wc ++ wr) := List.perm_append_comm
  have hF := free_perm hpm hD hS hA
  refine va_callv (va_runIN (As := As) (rest := rest) S (hM H.size) cw ⟨blindW, fun U hU hW => ⟨rfl, by rw [hU], by rw [hU]; exact P_left hpm hP, hK.warm hW, D_of (List.pairwise_append.mp (D_pw (D_perm hpm hD))).1 (fun _ _ => trivial)⟩⟩ rfl hn hsize hst (lv_room hW) hdg hf) hS (fun q _ h => hF q h) hF (fun u t H1 locs1 ht hvm hw hB hz1 hk1 hS1 => ?_)
  obtain ⟨hP1, hD1⟩ := hB
  rw [ht] at hP1
  obtain ⟨h1, h2⟩ := back_perm (w1 := w1 u) (wn := wr ++ w1 u) hP hD hS hA hpm List.perm_append_comm hk1 hP1 hD1
  exact k u H1 locs1 hw h1 h2 hS1
end CALLN
def f_X7_init : Option ((Nat → Ob)) := bd (f_X6_addPerson ((fun _ => Z0) 2) (1 : Int32)) (fun z1 => nm (sX (fun _ => Z0) 2 z1.2) (fun s2 => bd (f_X6_addPerson (s2 2) (1 : Int32)) (fun z3 => nm (sX s2 2 z3.2) (fun s4 => bd (f_X6_addPerson (s4 2) (1 : Int32)) (fun z5 => nm (sX s4 2 z5.2) (fun s6 => bd (f_X6_addKnot (s6 2) (0 : Int32) (1 : Int32) (0 : Int32) (5 : Int32) (0 : Int32)) (fun z7 => nm (sX s6 2 z7.2) (fun s8 => bd (f_X6_addKnot (s8 2) (1 : Int32) (2 : Int32) (1 : Int32) (9 : Int32) (0 : Int32)) (fun z9 => nm (sX s8 2 z9.2) (fun s10 => some s10))))))))))
def f_X8_init : Option (Ob) := bd (f_X8_noTown Z0 (0 : Int32)) (fun z1 => nm (sA z1 2 0 (3 : Int32)) (fun s2 => nm (sA s2 3 0 (7 : Int32)) (fun s3 => nm (sA s3 5 0 (2 : Int32)) (fun s4 => nm (sA s4 7 0 (1 : Int32)) (fun s5 => nm (sA s5 9 0 (5 : Int32)) (fun s6 => nm (sA s6 6 1 (1 : Int32)) (fun s7 => nm (sA s7 7 1 (2 : Int32)) (fun s8 => nm (sA s8 8 1 (1 : Int32)) (fun s9 => nm (sA s9 9 1 (9 : Int32)) (fun s10 => nm (sA s10 11 0 (3 : Int32)) (fun s11 => some s11)))))))))))
abbrev rmX1_init : Room := ({ frames := 1, cells := 3, slots := 24, locals := 12 } : Room)
set_option maxHeartbeats 4000000 in
set_option maxRecDepth 100000 in
theorem c_X1_init (l : Launch) (D : va_G) (cA : ClassId) (h0 : Nat) : ConN l yX1_init wsX1_init rmX1_init D cA [.ref h0] [(h0, .inr (1, [.null, .null, .null, .int 0]))] (fun a => wX1 cA a Z0) (fun a => a 0 = h0) 3 24 := by
  refine ConN.enter (cc := cX1_init) (maxL := 1) (by decide) rfl rfl (Nat.le_of_ble_eq_true rfl) ?_
  intro p e s m args below meth c Q A hx hb hml hown hts hK hP hD hA hin hend ls hl
  have hS : va_S A s.heap s.heap [] := va_S.rf
  have hl : lv_has ls 1 [(0, .ref h0)] := hl
  have harr := hts (.arrayClass .int) (List.mem_of_getElem? (i := 4) rfl)
  have lkf9 := hts (.fieldLink RX1 9 "TiedToTown$Past" "knots" "[I") (List.mem_of_getElem? (i := 5) rfl)
  have hinX1 : ∀ w ∈ wsX10, w ∈ wsX1_init := fun w h => List.mem_cons_of_mem _ (List.mem_append_right _ h)
  have lkf15 := hts (.fieldLink RX1 15 "TiedToTown$Past" "tied" "[I") (List.mem_of_getElem? (i := 6) rfl)
  have lkf18 := hts (.fieldLink RX1 18 "TiedToTown$Past" "day" "[I") (List.mem_of_getElem? (i := 7) rfl)
  refine lv_aload_n hx hb dX1_init_0 rfl (lv_at hl 0 rfl) ?_
  refine W.objInit hx hb hown (hts (.methodLink RX1 3 objectInit) (List.mem_of_getElem? (i := 1) rfl)) (hts (.instanceMethod objectInit) (List.mem_of_getElem? (i := 2) rfl)) (hts _ (List.mem_of_getElem? (i := 3) rfl)) rfl (by rw [hml]; exact hl.1) rfl dX1_init_1 (Nat.le_of_ble_eq_true rfl) (Nat.le_of_ble_eq_true rfl) ?_
  refine W.eq (g2 := F0 m 4 ls []) rfl ?_
  refine lv_aload_n hx hb dX1_init_4 rfl (lv_at hl 0 rfl) ?_
  refine lv_bipush (v := (8 : Int32)) hx hb dX1_init_5 (by decide) ?_
  refine newa (N' := 8) hx hb harr hK hP hD hS hA (by decide) (by decide) (Nat.le_of_ble_eq_true rfl) (Nat.le_of_ble_eq_true rfl) (Nat.le_of_ble_eq_true rfl) dX1_init_7 (fun q1 H hP hD hS => ?_)
  have hP : va_P D vwCl ([(h0, .inr (1, [.null, .null, .null, .int 0])), (q1, .inl (cA, 8, .inl (fun _ => 0)))]) H := hP
  have hD : va_D A ([(h0, .inr (1, [.null, .null, .null, .int 0])), (q1, .inl (cA, 8, .inl (fun _ => 0)))]) := hD
  refine va_putF (D := D) (ci := 1) (v := .ref q1) (ty := .array .int) (C := RX1) (T := TX1) (N := 4) hx hb hts hinX1 tyX1 tyX1_ok nmX1 hown hK.1 hP hD hS 0 rfl rfl 0 (by decide) lkf9 (fun _ h9 => h9) rfl hin rfl (by decide +kernel) rfl rfl (Nat.le_of_ble_eq_true rfl) dX1_init_9 (fun H locs hP hD hS => ?_)
  have hP : va_P D vwCl ([(h0, .inr (1, [.ref q1, .null, .null, .int 0])), (q1, .inl (cA, 8, .inl (fun _ => 0)))]) H := hP
  have hD : va_D A ([(h0, .inr (1, [.ref q1, .null, .null, .int 0])), (q1, .inl (cA, 8, .inl (fun _ => 0)))]) := hD
  refine lv_aload_n hx hb dX1_init_12 rfl (lv_at hl 0 rfl) ?_
  refine lv_bipush (v := (8 : Int32)) hx hb dX1_init_13 (by decide) ?_
  refine newa (N' := 8) hx hb harr hK hP hD hS hA (by decide) (by decide) (Nat.le_of_ble_eq_true rfl) (Nat.le_of_ble_eq_true rfl) (Nat.le_of_ble_eq_true rfl) dX1_init_15 (fun q2 H hP hD hS => ?_)
  have hP : va_P D vwCl ([(h0, .inr (1, [.ref q1, .null, .null, .int 0])), (q1, .inl (cA, 8, .inl (fun _ => 0))), (q2, .inl (cA, 8, .inl (fun _ => 0)))]) H := hP
  have hD : va_D A ([(h0, .inr (1, [.ref q1, .null, .null, .int 0])), (q1, .inl (cA, 8, .inl (fun _ => 0))), (q2, .inl (cA, 8, .inl (fun _ => 0)))]) := hD
  refine va_putF (D := D) (ci := 1) (v := .ref q2) (ty := .array .int) (C := RX1) (T := TX1) (N := 4) hx hb hts hinX1 tyX1 tyX1_ok nmX1 hown hK.1 hP hD hS 0 rfl rfl 1 (by decide) lkf15 (fun _ h9 => h9) rfl hin rfl (by decide +kernel) rfl rfl (Nat.le_of_ble_eq_true rfl) dX1_init_17 (fun H locs hP hD hS => ?_)
  have hP : va_P D vwCl ([(h0, .inr (1, [.ref q1, .ref q2, .null, .int 0])), (q1, .inl (cA, 8, .inl (fun _ => 0))), (q2, .inl (cA, 8, .inl (fun _ => 0)))]) H := hP
  have hD : va_D A ([(h0, .inr (1, [.ref q1, .ref q2, .null, .int 0])), (q1, .inl (cA, 8, .inl (fun _ => 0))), (q2, .inl (cA, 8, .inl (fun _ => 0)))]) := hD
  refine lv_aload_n hx hb dX1_init_20 rfl (lv_at hl 0 rfl) ?_
  refine lv_bipush (v := (8 : Int32)) hx hb dX1_init_21 (by decide) ?_
  refine newa (N' := 8) hx hb harr hK hP hD hS hA (by decide) (by decide) (Nat.le_of_ble_eq_true rfl) (Nat.le_of_ble_eq_true rfl) (Nat.le_of_ble_eq_true rfl) dX1_init_23 (fun q3 H hP hD hS => ?_)
  have hP : va_P D vwCl ([(h0, .inr (1, [.ref q1, .ref q2, .null, .int 0])), (q1, .inl (cA, 8, .inl (fun _ => 0))), (q2, .inl (cA, 8, .inl (fun _ => 0))), (q3, .inl (cA, 8, .inl (fun _ => 0)))]) H := hP
  have hD : va_D A ([(h0, .inr (1, [.ref q1, .ref q2, .null, .int 0])), (q1, .inl (cA, 8, .inl (fun _ => 0))), (q2, .inl (cA, 8, .inl (fun _ => 0))), (q3, .inl (cA, 8, .inl (fun _ => 0)))]) := hD
  refine va_putF (D := D) (ci := 1) (v := .ref q3) (ty := .array .int) (C := RX1) (T := TX1) (N := 4) hx hb hts hinX1 tyX1 tyX1_ok nmX1 hown hK.1 hP hD hS 0 rfl rfl 2 (by decide) lkf18 (fun _ h9 => h9) rfl hin rfl (by decide +kernel) rfl rfl (Nat.le_of_ble_eq_true rfl) dX1_init_25 (fun H locs hP hD hS => ?_)
  have hP : va_P D vwCl ([(h0, .inr (1, [.ref q1, .ref q2, .ref q3, .int 0])), (q1, .inl (cA, 8, .inl (fun _ => 0))), (q2, .inl (cA, 8, .inl (fun _ => 0))), (q3, .inl (cA, 8, .inl (fun _ => 0)))]) H := hP
  have hD : va_D A ([(h0, .inr (1, [.ref q1, .ref q2, .ref q3, .int 0])), (q1, .inl (cA, 8, .inl (fun _ => 0))), (q2, .inl (cA, 8, .inl (fun _ => 0))), (q3, .inl (cA, 8, .inl (fun _ => 0)))]) := hD
  refine W.widen (k := 3) (n := 24) (Nat.le_of_ble_eq_true rfl) (Nat.le_of_ble_eq_true rfl) ?_
  obtain ⟨a0, ea0⟩ : ∃ a : Nat → Nat, a = (fun k => [h0, q1, q2, q3, 0].getD k 0) := ⟨_, rfl⟩
  have e0 : h0 = a0 0 := by rw [ea0]; rfl
  have hP : va_P D vwCl (wX1 cA a0 Z0) H := by rw [ea0]; exact hP
  have hD : va_D A (wX1 cA a0 Z0) := by rw [ea0]; exact hD
  have hl : lv_has ls 1 [(0, .ref (a0 0))] := e0 ▸ hl
  exact hend a0 _ _ _ _ e0.symm hP hD hS dX1_init_28
abbrev rmX2_init : Room := ({ frames := 1, cells := 1, slots := 5, locals := 12 } : Room)
set_option maxHeartbeats 4000000 in
set_option maxRecDepth 100000 in
theorem c_X2_init (l : Launch) (D : va_G) (cA : ClassId) (h0 : Nat) : ConN l yX2_init wsX2_init rmX2_init D cA [.ref h0] [(h0, .inr (2, [.null]))] (fun a => wX2 cA a Z0) (fun a => a 0 = h0) 1 5 := by
  refine ConN.enter (cc := cX2_init) (maxL := 1) (by decide) rfl rfl (Nat.le_of_ble_eq_true rfl) ?_
  intro p e s m args below meth c Q A hx hb hml hown hts hK hP hD hA hin hend ls hl
  have hS : va_S A s.heap s.heap [] := va_S.rf
  have hl : lv_has ls 1 [(0, .ref h0)] := hl
  have harr := hts (.arrayClass .int) (List.mem_of_getElem? (i := 4) rfl)
  have lkf9 := hts (.fieldLink RX2 9 "TiedToTown$Reader" "numbers" "[I") (List.mem_of_getElem? (i := 5) rfl)
  have hinX2 : ∀ w ∈ wsX20, w ∈ wsX2_init := fun w h => List.mem_cons_of_mem _ (List.mem_append_right _ h)
  refine lv_aload_n hx hb dX2_init_0 rfl (lv_at hl 0 rfl) ?_
  refine W.objInit hx hb hown (hts (.methodLink RX2 3 objectInit) (List.mem_of_getElem? (i := 1) rfl)) (hts (.instanceMethod objectInit) (List.mem_of_getElem? (i := 2) rfl)) (hts _ (List.mem_of_getElem? (i := 3) rfl)) rfl (by rw [hml]; exact hl.1) rfl dX2_init_1 (Nat.le_of_ble_eq_true rfl) (Nat.le_of_ble_eq_true rfl) ?_
  refine W.eq (g2 := F0 m 4 ls []) rfl ?_
  refine lv_aload_n hx hb dX2_init_4 rfl (lv_at hl 0 rfl) ?_
  refine lv_iconst (v := (5 : Int32)) hx hb dX2_init_5 (by decide) ?_
  refine newa (N' := 5) hx hb harr hK hP hD hS hA (by decide) (by decide) (Nat.le_of_ble_eq_true rfl) (Nat.le_of_ble_eq_true rfl) (Nat.le_of_ble_eq_true rfl) dX2_init_6 (fun q1 H hP hD hS => ?_)
  have hP : va_P D vwCl ([(h0, .inr (2, [.null])), (q1, .inl (cA, 5, .inl (fun _ => 0)))]) H := hP
  have hD : va_D A ([(h0, .inr (2, [.null])), (q1, .inl (cA, 5, .inl (fun _ => 0)))]) := hD
  refine va_putF (D := D) (ci := 2) (v := .ref q1) (ty := .array .int) (C := RX2) (T := TX2) (N := 1) hx hb hts hinX2 tyX2 tyX2_ok nmX2 hown hK.1 hP hD hS 0 rfl rfl 0 (by decide) lkf9 (fun _ h9 => h9) rfl hin rfl (by decide +kernel) rfl rfl (Nat.le_of_ble_eq_true rfl) dX2_init_8 (fun H locs hP hD hS => ?_)
  have hP : va_P D vwCl ([(h0, .inr (2, [.ref q1])), (q1, .inl (cA, 5, .inl (fun _ => 0)))]) H := hP
  have hD : va_D A ([(h0, .inr (2, [.ref q1])), (q1, .inl (cA, 5, .inl (fun _ => 0)))]) := hD
  refine W.widen (k := 1) (n := 5) (Nat.le_of_ble_eq_true rfl) (Nat.le_of_ble_eq_true rfl) ?_
  obtain ⟨a0, ea0⟩ : ∃ a : Nat → Nat, a = (fun k => [h0, q1].getD k 0) := ⟨_, rfl⟩
  have e0 : h0 = a0 0 := by rw [ea0]; rfl
  have hP : va_P D vwCl (wX2 cA a0 Z0) H := by rw [ea0]; exact hP
  have hD : va_D A (wX2 cA a0 Z0) := by rw [ea0]; exact hD
  have hl : lv_has ls 1 [(0, .ref (a0 0))] := e0 ▸ hl
  exact hend a0 _ _ _ _ e0.symm hP hD hS dX2_init_11
abbrev rmX3_init : Room := ({ frames := 1, cells := 1, slots := 16, locals := 12 } : Room)
set_option maxHeartbeats 4000000 in
set_option maxRecDepth 100000 in
theorem c_X3_init (l : Launch) (D : va_G) (cA : ClassId) (h0 : Nat) : ConN l yX3_init wsX3_init rmX3_init D cA [.ref h0] [(h0, .inr (3, [.null, .int 0, .int 0]))] (fun a => wX3 cA a Z0) (fun a => a 0 = h0) 1 16 := by
  refine ConN.enter (cc := cX3_init) (maxL := 1) (by decide) rfl rfl (Nat.le_of_ble_eq_true rfl) ?_
  intro p e s m args below meth c Q A hx hb hml hown hts hK hP hD hA hin hend ls hl
  have hS : va_S A s.heap s.heap [] := va_S.rf
  have hl : lv_has ls 1 [(0, .ref h0)] := hl
  have harr := hts (.arrayClass .int) (List.mem_of_getElem? (i := 4) rfl)
  have lkf9 := hts (.fieldLink RX3 9 "TiedToTown$Rope" "loosened" "[I") (List.mem_of_getElem? (i := 5) rfl)
  have hinX3 : ∀ w ∈ wsX30, w ∈ wsX3_init := fun w h => List.mem_cons_of_mem _ (List.mem_append_right _ h)
  refine lv_aload_n hx hb dX3_init_0 rfl (lv_at hl 0 rfl) ?_
  refine W.objInit hx hb hown (hts (.methodLink RX3 3 objectInit) (List.mem_of_getElem? (i := 1) rfl)) (hts (.instanceMethod objectInit) (List.mem_of_getElem? (i := 2) rfl)) (hts _ (List.mem_of_getElem? (i := 3) rfl)) rfl (by rw [hml]; exact hl.1) rfl dX3_init_1 (Nat.le_of_ble_eq_true rfl) (Nat.le_of_ble_eq_true rfl) ?_
  refine W.eq (g2 := F0 m 4 ls []) rfl ?_
  refine lv_aload_n hx hb dX3_init_4 rfl (lv_at hl 0 rfl) ?_
  refine lv_bipush (v := (16 : Int32)) hx hb dX3_init_5 (by decide) ?_
  refine newa (N' := 16) hx hb harr hK hP hD hS hA (by decide) (by decide) (Nat.le_of_ble_eq_true rfl) (Nat.le_of_ble_eq_true rfl) (Nat.le_of_ble_eq_true rfl) dX3_init_7 (fun q1 H hP hD hS => ?_)
  have hP : va_P D vwCl ([(h0, .inr (3, [.null, .int 0, .int 0])), (q1, .inl (cA, 16, .inl (fun _ => 0)))]) H := hP
  have hD : va_D A ([(h0, .inr (3, [.null, .int 0, .int 0])), (q1, .inl (cA, 16, .inl (fun _ => 0)))]) := hD
  refine va_putF (D := D) (ci := 3) (v := .ref q1) (ty := .array .int) (C := RX3) (T := TX3) (N := 3) hx hb hts hinX3 tyX3 tyX3_ok nmX3 hown hK.1 hP hD hS 0 rfl rfl 0 (by decide) lkf9 (fun _ h9 => h9) rfl hin rfl (by decide +kernel) rfl rfl (Nat.le_of_ble_eq_true rfl) dX3_init_9 (fun H locs hP hD hS => ?_)
  have hP : va_P D vwCl ([(h0, .inr (3, [.ref q1, .int 0, .int 0])), (q1, .inl (cA, 16, .inl (fun _ => 0)))]) H := hP
  have hD : va_D A ([(h0, .inr (3, [.ref q1, .int 0, .int 0])), (q1, .inl (cA, 16, .inl (fun _ => 0)))]) := hD
  refine W.widen (k := 1) (n := 16) (Nat.le_of_ble_eq_true rfl) (Nat.le_of_ble_eq_true rfl) ?_
  obtain ⟨a0, ea0⟩ : ∃ a : Nat → Nat, a = (fun k => [h0, q1, 0, 0].getD k 0) := ⟨_, rfl⟩
  have e0 : h0 = a0 0 := by rw [ea0]; rfl
  have hP : va_P D vwCl (wX3 cA a0 Z0) H := by rw [ea0]; exact hP
  have hD : va_D A (wX3 cA a0 Z0) := by rw [ea0]; exact hD
  have hl : lv_has ls 1 [(0, .ref (a0 0))] := e0 ▸ hl
  exact hend a0 _ _ _ _ e0.symm hP hD hS dX3_init_12
abbrev rmX4_init : Room := ({ frames := 1, cells := 1, slots := 8, locals := 12 } : Room)
set_option maxHeartbeats 4000000 in
set_option maxRecDepth 100000 in
theorem c_X4_init (l : Launch) (D : va_G) (cA : ClassId) (h0 : Nat) : ConN l yX4_init wsX4_init rmX4_init D cA [.ref h0] [(h0, .inr (4, [.null, .int 0]))] (fun a => wX4 cA a Z0) (fun a => a 0 = h0) 1 8 := by
  refine ConN.enter (cc := cX4_init) (maxL := 1) (by decide) rfl rfl (Nat.le_of_ble_eq_true rfl) ?_
  intro p e s m args below meth c Q A hx hb hml hown hts hK hP hD hA hin hend ls hl
  have hS : va_S A s.heap s.heap [] := va_S.rf
  have hl : lv_has ls 1 [(0, .ref h0)] := hl
  have harr := hts (.arrayClass .int) (List.mem_of_getElem? (i := 4) rfl)
  have lkf9 := hts (.fieldLink RX4 9 "TiedToTown$Row" "knots" "[I") (List.mem_of_getElem? (i := 5) rfl)
  have hinX4 : ∀ w ∈ wsX40, w ∈ wsX4_init := fun w h => List.mem_cons_of_mem _ (List.mem_append_right _ h)
  refine lv_aload_n hx hb dX4_init_0 rfl (lv_at hl 0 rfl) ?_
  refine W.objInit hx hb hown (hts (.methodLink RX4 3 objectInit) (List.mem_of_getElem? (i := 1) rfl)) (hts (.instanceMethod objectInit) (List.mem_of_getElem? (i := 2) rfl)) (hts _ (List.mem_of_getElem? (i := 3) rfl)) rfl (by rw [hml]; exact hl.1) rfl dX4_init_1 (Nat.le_of_ble_eq_true rfl) (Nat.le_of_ble_eq_true rfl) ?_
  refine W.eq (g2 := F0 m 4 ls []) rfl ?_
  refine lv_aload_n hx hb dX4_init_4 rfl (lv_at hl 0 rfl) ?_
  refine lv_bipush (v := (8 : Int32)) hx hb dX4_init_5 (by decide) ?_
  refine newa (N' := 8) hx hb harr hK hP hD hS hA (by decide) (by decide) (Nat.le_of_ble_eq_true rfl) (Nat.le_of_ble_eq_true rfl) (Nat.le_of_ble_eq_true rfl) dX4_init_7 (fun q1 H hP hD hS => ?_)
  have hP : va_P D vwCl ([(h0, .inr (4, [.null, .int 0])), (q1, .inl (cA, 8, .inl (fun _ => 0)))]) H := hP
  have hD : va_D A ([(h0, .inr (4, [.null, .int 0])), (q1, .inl (cA, 8, .inl (fun _ => 0)))]) := hD
  refine va_putF (D := D) (ci := 4) (v := .ref q1) (ty := .array .int) (C := RX4) (T := TX4) (N := 2) hx hb hts hinX4 tyX4 tyX4_ok nmX4 hown hK.1 hP hD hS 0 rfl rfl 0 (by decide) lkf9 (fun _ h9 => h9) rfl hin rfl (by decide +kernel) rfl rfl (Nat.le_of_ble_eq_true rfl) dX4_init_9 (fun H locs hP hD hS => ?_)
  have hP : va_P D vwCl ([(h0, .inr (4, [.ref q1, .int 0])), (q1, .inl (cA, 8, .inl (fun _ => 0)))]) H := hP
  have hD : va_D A ([(h0, .inr (4, [.ref q1, .int 0])), (q1, .inl (cA, 8, .inl (fun _ => 0)))]) := hD
  refine W.widen (k := 1) (n := 8) (Nat.le_of_ble_eq_true rfl) (Nat.le_of_ble_eq_true rfl) ?_
  obtain ⟨a0, ea0⟩ : ∃ a : Nat → Nat, a = (fun k => [h0, q1, 0].getD k 0) := ⟨_, rfl⟩
  have e0 : h0 = a0 0 := by rw [ea0]; rfl
  have hP : va_P D vwCl (wX4 cA a0 Z0) H := by rw [ea0]; exact hP
  have hD : va_D A (wX4 cA a0 Z0) := by rw [ea0]; exact hD
  have hl : lv_has ls 1 [(0, .ref (a0 0))] := e0 ▸ hl
  exact hend a0 _ _ _ _ e0.symm hP hD hS dX4_init_12
abbrev rmX5_init : Room := ({ frames := 1, cells := 1, slots := 300, locals := 12 } : Room)
set_option maxHeartbeats 4000000 in
set_option maxRecDepth 100000 in
theorem c_X5_init (l : Launch) (D : va_G) (cA : ClassId) (h0 : Nat) : ConN l yX5_init wsX5_init rmX5_init D cA [.ref h0] [(h0, .inr (5, [.null, .int 0]))] (fun a => wX5 cA a Z0) (fun a => a 0 = h0) 1 300 := by
  refine ConN.enter (cc := cX5_init) (maxL := 1) (by decide) rfl rfl (Nat.le_of_ble_eq_true rfl) ?_
  intro p e s m args below meth c Q A hx hb hml hown hts hK hP hD hA hin hend ls hl
  have hS : va_S A s.heap s.heap [] := va_S.rf
  have hl : lv_has ls 1 [(0, .ref h0)] := hl
  have harr := hts (.arrayClass .int) (List.mem_of_getElem? (i := 4) rfl)
  have lkf9 := hts (.fieldLink RX5 9 "TiedToTown$Text" "bytes" "[I") (List.mem_of_getElem? (i := 5) rfl)
  have hinX5 : ∀ w ∈ wsX50, w ∈ wsX5_init := fun w h => List.mem_cons_of_mem _ (List.mem_append_right _ h)
  refine lv_aload_n hx hb dX5_init_0 rfl (lv_at hl 0 rfl) ?_
  refine W.objInit hx hb hown (hts (.methodLink RX5 3 objectInit) (List.mem_of_getElem? (i := 1) rfl)) (hts (.instanceMethod objectInit) (List.mem_of_getElem? (i := 2) rfl)) (hts _ (List.mem_of_getElem? (i := 3) rfl)) rfl (by rw [hml]; exact hl.1) rfl dX5_init_1 (Nat.le_of_ble_eq_true rfl) (Nat.le_of_ble_eq_true rfl) ?_
  refine W.eq (g2 := F0 m 4 ls []) rfl ?_
  refine lv_aload_n hx hb dX5_init_4 rfl (lv_at hl 0 rfl) ?_
  refine lv_sipush (v := (300 : Int32)) hx hb dX5_init_5 (by decide) ?_
  refine newa (N' := 300) hx hb harr hK hP hD hS hA (by decide) (by decide) (Nat.le_of_ble_eq_true rfl) (Nat.le_of_ble_eq_true rfl) (Nat.le_of_ble_eq_true rfl) dX5_init_8 (fun q1 H hP hD hS => ?_)
  have hP : va_P D vwCl ([(h0, .inr (5, [.null, .int 0])), (q1, .inl (cA, 300, .inl (fun _ => 0)))]) H := hP
  have hD : va_D A ([(h0, .inr (5, [.null, .int 0])), (q1, .inl (cA, 300, .inl (fun _ => 0)))]) := hD
  refine va_putF (D := D) (ci := 5) (v := .ref q1) (ty := .array .int) (C := RX5) (T := TX5) (N := 2) hx hb hts hinX5 tyX5 tyX5_ok nmX5 hown hK.1 hP hD hS 0 rfl rfl 0 (by decide) lkf9 (fun _ h9 => h9) rfl hin rfl (by decide +kernel) rfl rfl (Nat.le_of_ble_eq_true rfl) dX5_init_10 (fun H locs hP hD hS => ?_)
  have hP : va_P D vwCl ([(h0, .inr (5, [.ref q1, .int 0])), (q1, .inl (cA, 300, .inl (fun _ => 0)))]) H := hP
  have hD : va_D A ([(h0, .inr (5, [.ref q1, .int 0])), (q1, .inl (cA, 300, .inl (fun _ => 0)))]) := hD
  refine W.widen (k := 1) (n := 300) (Nat.le_of_ble_eq_true rfl) (Nat.le_of_ble_eq_true rfl) ?_
  obtain ⟨a0, ea0⟩ : ∃ a : Nat → Nat, a = (fun k => [h0, q1, 0].getD k 0) := ⟨_, rfl⟩
  have e0 : h0 = a0 0 := by rw [ea0]; rfl
  have hP : va_P D vwCl (wX5 cA a0 Z0) H := by rw [ea0]; exact hP
  have hD : va_D A (wX5 cA a0 Z0) := by rw [ea0]; exact hD
  have hl : lv_has ls 1 [(0, .ref (a0 0))] := e0 ▸ hl
  exact hend a0 _ _ _ _ e0.symm hP hD hS dX5_init_13
abbrev rmX6_init : Room := ({ frames := 1, cells := 6, slots := 48, locals := 12 } : Room)
set_option maxHeartbeats 4000000 in
set_option maxRecDepth 100000 in
theorem c_X6_init (l : Launch) (D : va_G) (cA : ClassId) (h0 : Nat) : ConN l yX6_init wsX6_init rmX6_init D cA [.ref h0] [(h0, .inr (6, [.null, .null, .null, .null, .null, .null, .int 0, .int 0, .int 0, .int 0, .int 0, .int 0]))] (fun a => wX6 cA a Z0) (fun a => a 0 = h0) 6 48 := by
  refine ConN.enter (cc := cX6_init) (maxL := 1) (by decide) rfl rfl (Nat.le_of_ble_eq_true rfl) ?_
  intro p e s m args below meth c Q A hx hb hml hown hts hK hP hD hA hin hend ls hl
  have hS : va_S A s.heap s.heap [] := va_S.rf
  have hl : lv_has ls 1 [(0, .ref h0)] := hl
  have harr := hts (.arrayClass .int) (List.mem_of_getElem? (i := 4) rfl)
  have lkf9 := hts (.fieldLink RX6 9 "TiedToTown$Town" "first" "[I") (List.mem_of_getElem? (i := 5) rfl)
  have hinX6 : ∀ w ∈ wsX60, w ∈ wsX6_init := fun w h => List.mem_cons_of_mem _ (List.mem_append_right _ h)
  have lkf15 := hts (.fieldLink RX6 15 "TiedToTown$Town" "second" "[I") (List.mem_of_getElem? (i := 6) rfl)
  have lkf18 := hts (.fieldLink RX6 18 "TiedToTown$Town" "people" "[I") (List.mem_of_getElem? (i := 7) rfl)
  have lkf21 := hts (.fieldLink RX6 21 "TiedToTown$Town" "through" "[I") (List.mem_of_getElem? (i := 8) rfl)
  have lkf24 := hts (.fieldLink RX6 24 "TiedToTown$Town" "due" "[I") (List.mem_of_getElem? (i := 9) rfl)
  have lkf27 := hts (.fieldLink RX6 27 "TiedToTown$Town" "kind" "[I") (List.mem_of_getElem? (i := 10) rfl)
  refine lv_aload_n hx hb dX6_init_0 rfl (lv_at hl 0 rfl) ?_
  refine W.objInit hx hb hown (hts (.methodLink RX6 3 objectInit) (List.mem_of_getElem? (i := 1) rfl)) (hts (.instanceMethod objectInit) (List.mem_of_getElem? (i := 2) rfl)) (hts _ (List.mem_of_getElem? (i := 3) rfl)) rfl (by rw [hml]; exact hl.1) rfl dX6_init_1 (Nat.le_of_ble_eq_true rfl) (Nat.le_of_ble_eq_true rfl) ?_
  refine W.eq (g2 := F0 m 4 ls []) rfl ?_
  refine lv_aload_n hx hb dX6_init_4 rfl (lv_at hl 0 rfl) ?_
  refine lv_bipush (v := (8 : Int32)) hx hb dX6_init_5 (by decide) ?_
  refine newa (N' := 8) hx hb harr hK hP hD hS hA (by decide) (by decide) (Nat.le_of_ble_eq_true rfl) (Nat.le_of_ble_eq_true rfl) (Nat.le_of_ble_eq_true rfl) dX6_init_7 (fun q1 H hP hD hS => ?_)
  have hP : va_P D vwCl ([(h0, .inr (6, [.null, .null, .null, .null, .null, .null, .int 0, .int 0, .int 0, .int 0, .int 0, .int 0])), (q1, .inl (cA, 8, .inl (fun _ => 0)))]) H := hP
  have hD : va_D A ([(h0, .inr (6, [.null, .null, .null, .null, .null, .null, .int 0, .int 0, .int 0, .int 0, .int 0, .int 0])), (q1, .inl (cA, 8, .inl (fun _ => 0)))]) := hD
  refine va_putF (D := D) (ci := 6) (v := .ref q1) (ty := .array .int) (C := RX6) (T := TX6) (N := 12) hx hb hts hinX6 tyX6 tyX6_ok nmX6 hown hK.1 hP hD hS 0 rfl rfl 0 (by decide) lkf9 (fun _ h9 => h9) rfl hin rfl (by decide +kernel) rfl rfl (Nat.le_of_ble_eq_true rfl) dX6_init_9 (fun H locs hP hD hS => ?_)
  have hP : va_P D vwCl ([(h0, .inr (6, [.ref q1, .null, .null, .null, .null, .null, .int 0, .int 0, .int 0, .int 0, .int 0, .int 0])), (q1, .inl (cA, 8, .inl (fun _ => 0)))]) H := hP
  have hD : va_D A ([(h0, .inr (6, [.ref q1, .null, .null, .null, .null, .null, .int 0, .int 0, .int 0, .int 0, .int 0, .int 0])), (q1, .inl (cA, 8, .inl (fun _ => 0)))]) := hD
  refine lv_aload_n hx hb dX6_init_12 rfl (lv_at hl 0 rfl) ?_
  refine lv_bipush (v := (8 : Int32)) hx hb dX6_init_13 (by decide) ?_
  refine newa (N' := 8) hx hb harr hK hP hD hS hA (by decide) (by decide) (Nat.le_of_ble_eq_true rfl) (Nat.le_of_ble_eq_true rfl) (Nat.le_of_ble_eq_true rfl) dX6_init_15 (fun q2 H hP hD hS => ?_)
  have hP : va_P D vwCl ([(h0, .inr (6, [.ref q1, .null, .null, .null, .null, .null, .int 0, .int 0, .int 0, .int 0, .int 0, .int 0])), (q1, .inl (cA, 8, .inl (fun _ => 0))), (q2, .inl (cA, 8, .inl (fun _ => 0)))]) H := hP
  have hD : va_D A ([(h0, .inr (6, [.ref q1, .null, .null, .null, .null, .null, .int 0, .int 0, .int 0, .int 0, .int 0, .int 0])), (q1, .inl (cA, 8, .inl (fun _ => 0))), (q2, .inl (cA, 8, .inl (fun _ => 0)))]) := hD
  refine va_putF (D := D) (ci := 6) (v := .ref q2) (ty := .array .int) (C := RX6) (T := TX6) (N := 12) hx hb hts hinX6 tyX6 tyX6_ok nmX6 hown hK.1 hP hD hS 0 rfl rfl 1 (by decide) lkf15 (fun _ h9 => h9) rfl hin rfl (by decide +kernel) rfl rfl (Nat.le_of_ble_eq_true rfl) dX6_init_17 (fun H locs hP hD hS => ?_)
  have hP : va_P D vwCl ([(h0, .inr (6, [.ref q1, .ref q2, .null, .null, .null, .null, .int 0, .int 0, .int 0, .int 0, .int 0, .int 0])), (q1, .inl (cA, 8, .inl (fun _ => 0))), (q2, .inl (cA, 8, .inl (fun _ => 0)))]) H := hP
  have hD : va_D A ([(h0, .inr (6, [.ref q1, .ref q2, .null, .null, .null, .null, .int 0, .int 0, .int 0, .int 0, .int 0, .int 0])), (q1, .inl (cA, 8, .inl (fun _ => 0))), (q2, .inl (cA, 8, .inl (fun _ => 0)))]) := hD
  refine lv_aload_n hx hb dX6_init_20 rfl (lv_at hl 0 rfl) ?_
  refine lv_bipush (v := (8 : Int32)) hx hb dX6_init_21 (by decide) ?_
  refine newa (N' := 8) hx hb harr hK hP hD hS hA (by decide) (by decide) (Nat.le_of_ble_eq_true rfl) (Nat.le_of_ble_eq_true rfl) (Nat.le_of_ble_eq_true rfl) dX6_init_23 (fun q3 H hP hD hS => ?_)
  have hP : va_P D vwCl ([(h0, .inr (6, [.ref q1, .ref q2, .null, .null, .null, .null, .int 0, .int 0, .int 0, .int 0, .int 0, .int 0])), (q1, .inl (cA, 8, .inl (fun _ => 0))), (q2, .inl (cA, 8, .inl (fun _ => 0))), (q3, .inl (cA, 8, .inl (fun _ => 0)))]) H := hP
  have hD : va_D A ([(h0, .inr (6, [.ref q1, .ref q2, .null, .null, .null, .null, .int 0, .int 0, .int 0, .int 0, .int 0, .int 0])), (q1, .inl (cA, 8, .inl (fun _ => 0))), (q2, .inl (cA, 8, .inl (fun _ => 0))), (q3, .inl (cA, 8, .inl (fun _ => 0)))]) := hD
  refine va_putF (D := D) (ci := 6) (v := .ref q3) (ty := .array .int) (C := RX6) (T := TX6) (N := 12) hx hb hts hinX6 tyX6 tyX6_ok nmX6 hown hK.1 hP hD hS 0 rfl rfl 2 (by decide) lkf18 (fun _ h9 => h9) rfl hin rfl (by decide +kernel) rfl rfl (Nat.le_of_ble_eq_true rfl) dX6_init_25 (fun H locs hP hD hS => ?_)
  have hP : va_P D vwCl ([(h0, .inr (6, [.ref q1, .ref q2, .ref q3, .null, .null, .null, .int 0, .int 0, .int 0, .int 0, .int 0, .int 0])), (q1, .inl (cA, 8, .inl (fun _ => 0))), (q2, .inl (cA, 8, .inl (fun _ => 0))), (q3, .inl (cA, 8, .inl (fun _ => 0)))]) H := hP
  have hD : va_D A ([(h0, .inr (6, [.ref q1, .ref q2, .ref q3, .null, .null, .null, .int 0, .int 0, .int 0, .int 0, .int 0, .int 0])), (q1, .inl (cA, 8, .inl (fun _ => 0))), (q2, .inl (cA, 8, .inl (fun _ => 0))), (q3, .inl (cA, 8, .inl (fun _ => 0)))]) := hD
  refine lv_aload_n hx hb dX6_init_28 rfl (lv_at hl 0 rfl) ?_
  refine lv_bipush (v := (8 : Int32)) hx hb dX6_init_29 (by decide) ?_
  refine newa (N' := 8) hx hb harr hK hP hD hS hA (by decide) (by decide) (Nat.le_of_ble_eq_true rfl) (Nat.le_of_ble_eq_true rfl) (Nat.le_of_ble_eq_true rfl) dX6_init_31 (fun q4 H hP hD hS => ?_)
  have hP : va_P D vwCl ([(h0, .inr (6, [.ref q1, .ref q2, .ref q3, .null, .null, .null, .int 0, .int 0, .int 0, .int 0, .int 0, .int 0])), (q1, .inl (cA, 8, .inl (fun _ => 0))), (q2, .inl (cA, 8, .inl (fun _ => 0))), (q3, .inl (cA, 8, .inl (fun _ => 0))), (q4, .inl (cA, 8, .inl (fun _ => 0)))]) H := hP
  have hD : va_D A ([(h0, .inr (6, [.ref q1, .ref q2, .ref q3, .null, .null, .null, .int 0, .int 0, .int 0, .int 0, .int 0, .int 0])), (q1, .inl (cA, 8, .inl (fun _ => 0))), (q2, .inl (cA, 8, .inl (fun _ => 0))), (q3, .inl (cA, 8, .inl (fun _ => 0))), (q4, .inl (cA, 8, .inl (fun _ => 0)))]) := hD
  refine va_putF (D := D) (ci := 6) (v := .ref q4) (ty := .array .int) (C := RX6) (T := TX6) (N := 12) hx hb hts hinX6 tyX6 tyX6_ok nmX6 hown hK.1 hP hD hS 0 rfl rfl 3 (by decide) lkf21 (fun _ h9 => h9) rfl hin rfl (by decide +kernel) rfl rfl (Nat.le_of_ble_eq_true rfl) dX6_init_33 (fun H locs hP hD hS => ?_)
  have hP : va_P D vwCl ([(h0, .inr (6, [.ref q1, .ref q2, .ref q3, .ref q4, .null, .null, .int 0, .int 0, .int 0, .int 0, .int 0, .int 0])), (q1, .inl (cA, 8, .inl (fun _ => 0))), (q2, .inl (cA, 8, .inl (fun _ => 0))), (q3, .inl (cA, 8, .inl (fun _ => 0))), (q4, .inl (cA, 8, .inl (fun _ => 0)))]) H := hP
  have hD : va_D A ([(h0, .inr (6, [.ref q1, .ref q2, .ref q3, .ref q4, .null, .null, .int 0, .int 0, .int 0, .int 0, .int 0, .int 0])), (q1, .inl (cA, 8, .inl (fun _ => 0))), (q2, .inl (cA, 8, .inl (fun _ => 0))), (q3, .inl (cA, 8, .inl (fun _ => 0))), (q4, .inl (cA, 8, .inl (fun _ => 0)))]) := hD
  refine lv_aload_n hx hb dX6_init_36 rfl (lv_at hl 0 rfl) ?_
  refine lv_bipush (v := (8 : Int32)) hx hb dX6_init_37 (by decide) ?_
  refine newa (N' := 8) hx hb harr hK hP hD hS hA (by decide) (by decide) (Nat.le_of_ble_eq_true rfl) (Nat.le_of_ble_eq_true rfl) (Nat.le_of_ble_eq_true rfl) dX6_init_39 (fun q5 H hP hD hS => ?_)
  have hP : va_P D vwCl ([(h0, .inr (6, [.ref q1, .ref q2, .ref q3, .ref q4, .null, .null, .int 0, .int 0, .int 0, .int 0, .int 0, .int 0])), (q1, .inl (cA, 8, .inl (fun _ => 0))), (q2, .inl (cA, 8, .inl (fun _ => 0))), (q3, .inl (cA, 8, .inl (fun _ => 0))), (q4, .inl (cA, 8, .inl (fun _ => 0))), (q5, .inl (cA, 8, .inl (fun _ => 0)))]) H := hP
  have hD : va_D A ([(h0, .inr (6, [.ref q1, .ref q2, .ref q3, .ref q4, .null, .null, .int 0, .int 0, .int 0, .int 0, .int 0, .int 0])), (q1, .inl (cA, 8, .inl (fun _ => 0))), (q2, .inl (cA, 8, .inl (fun _ => 0))), (q3, .inl (cA, 8, .inl (fun _ => 0))), (q4, .inl (cA, 8, .inl (fun _ => 0))), (q5, .inl (cA, 8, .inl (fun _ => 0)))]) := hD
  refine va_putF (D := D) (ci := 6) (v := .ref q5) (ty := .array .int) (C := RX6) (T := TX6) (N := 12) hx hb hts hinX6 tyX6 tyX6_ok nmX6 hown hK.1 hP hD hS 0 rfl rfl 4 (by decide) lkf24 (fun _ h9 => h9) rfl hin rfl (by decide +kernel) rfl rfl (Nat.le_of_ble_eq_true rfl) dX6_init_41 (fun H locs hP hD hS => ?_)
  have hP : va_P D vwCl ([(h0, .inr (6, [.ref q1, .ref q2, .ref q3, .ref q4, .ref q5, .null, .int 0, .int 0, .int 0, .int 0, .int 0, .int 0])), (q1, .inl (cA, 8, .inl (fun _ => 0))), (q2, .inl (cA, 8, .inl (fun _ => 0))), (q3, .inl (cA, 8, .inl (fun _ => 0))), (q4, .inl (cA, 8, .inl (fun _ => 0))), (q5, .inl (cA, 8, .inl (fun _ => 0)))]) H := hP
  have hD : va_D A ([(h0, .inr (6, [.ref q1, .ref q2, .ref q3, .ref q4, .ref q5, .null, .int 0, .int 0, .int 0, .int 0, .int 0, .int 0])), (q1, .inl (cA, 8, .inl (fun _ => 0))), (q2, .inl (cA, 8, .inl (fun _ => 0))), (q3, .inl (cA, 8, .inl (fun _ => 0))), (q4, .inl (cA, 8, .inl (fun _ => 0))), (q5, .inl (cA, 8, .inl (fun _ => 0)))]) := hD
  refine lv_aload_n hx hb dX6_init_44 rfl (lv_at hl 0 rfl) ?_
  refine lv_bipush (v := (8 : Int32)) hx hb dX6_init_45 (by decide) ?_
  refine newa (N' := 8) hx hb harr hK hP hD hS hA (by decide) (by decide) (Nat.le_of_ble_eq_true rfl) (Nat.le_of_ble_eq_true rfl) (Nat.le_of_ble_eq_true rfl) dX6_init_47 (fun q6 H hP hD hS => ?_)
  have hP : va_P D vwCl ([(h0, .inr (6, [.ref q1, .ref q2, .ref q3, .ref q4, .ref q5, .null, .int 0, .int 0, .int 0, .int 0, .int 0, .int 0])), (q1, .inl (cA, 8, .inl (fun _ => 0))), (q2, .inl (cA, 8, .inl (fun _ => 0))), (q3, .inl (cA, 8, .inl (fun _ => 0))), (q4, .inl (cA, 8, .inl (fun _ => 0))), (q5, .inl (cA, 8, .inl (fun _ => 0))), (q6, .inl (cA, 8, .inl (fun _ => 0)))]) H := hP
  have hD : va_D A ([(h0, .inr (6, [.ref q1, .ref q2, .ref q3, .ref q4, .ref q5, .null, .int 0, .int 0, .int 0, .int 0, .int 0, .int 0])), (q1, .inl (cA, 8, .inl (fun _ => 0))), (q2, .inl (cA, 8, .inl (fun _ => 0))), (q3, .inl (cA, 8, .inl (fun _ => 0))), (q4, .inl (cA, 8, .inl (fun _ => 0))), (q5, .inl (cA, 8, .inl (fun _ => 0))), (q6, .inl (cA, 8, .inl (fun _ => 0)))]) := hD
  refine va_putF (D := D) (ci := 6) (v := .ref q6) (ty := .array .int) (C := RX6) (T := TX6) (N := 12) hx hb hts hinX6 tyX6 tyX6_ok nmX6 hown hK.1 hP hD hS 0 rfl rfl 5 (by decide) lkf27 (fun _ h9 => h9) rfl hin rfl (by decide +kernel) rfl rfl (Nat.le_of_ble_eq_true rfl) dX6_init_49 (fun H locs hP hD hS => ?_)
  have hP : va_P D vwCl ([(h0, .inr (6, [.ref q1, .ref q2, .ref q3, .ref q4, .ref q5, .ref q6, .int 0, .int 0, .int 0, .int 0, .int 0, .int 0])), (q1, .inl (cA, 8, .inl (fun _ => 0))), (q2, .inl (cA, 8, .inl (fun _ => 0))), (q3, .inl (cA, 8, .inl (fun _ => 0))), (q4, .inl (cA, 8, .inl (fun _ => 0))), (q5, .inl (cA, 8, .inl (fun _ => 0))), (q6, .inl (cA, 8, .inl (fun _ => 0)))]) H := hP
  have hD : va_D A ([(h0, .inr (6, [.ref q1, .ref q2, .ref q3, .ref q4, .ref q5, .ref q6, .int 0, .int 0, .int 0, .int 0, .int 0, .int 0])), (q1, .inl (cA, 8, .inl (fun _ => 0))), (q2, .inl (cA, 8, .inl (fun _ => 0))), (q3, .inl (cA, 8, .inl (fun _ => 0))), (q4, .inl (cA, 8, .inl (fun _ => 0))), (q5, .inl (cA, 8, .inl (fun _ => 0))), (q6, .inl (cA, 8, .inl (fun _ => 0)))]) := hD
  refine W.widen (k := 6) (n := 48) (Nat.le_of_ble_eq_true rfl) (Nat.le_of_ble_eq_true rfl) ?_
  obtain ⟨a0, ea0⟩ : ∃ a : Nat → Nat, a = (fun k => [h0, q1, q2, q3, q4, q5, q6, 0, 0, 0, 0, 0, 0].getD k 0) := ⟨_, rfl⟩
  have e0 : h0 = a0 0 := by rw [ea0]; rfl
  have hP : va_P D vwCl (wX6 cA a0 Z0) H := by rw [ea0]; exact hP
  have hD : va_D A (wX6 cA a0 Z0) := by rw [ea0]; exact hD
  have hl : lv_has ls 1 [(0, .ref (a0 0))] := e0 ▸ hl
  exact hend a0 _ _ _ _ e0.symm hP hD hS dX6_init_52
abbrev rmX0_init : Room := ({ frames := 1, cells := 1, slots := 256, locals := 12 } : Room)
set_option maxHeartbeats 4000000 in
set_option maxRecDepth 100000 in
theorem c_X0_init (l : Launch) (D : va_G) (cA : ClassId) (h0 : Nat) (b : Nat) : ConN l yX0_init wsX0_init rmX0_init D cA [.ref h0, .ref b] [(h0, .inr (0, [.null, .null]))] (fun a => wX0 cA a b Z0) (fun a => a 0 = h0) 1 256 := by
  refine ConN.enter (cc := cX0_init) (maxL := 2) (by decide) rfl rfl (Nat.le_of_ble_eq_true rfl) ?_
  intro p e s m args below meth c Q A hx hb hml hown hts hK hP hD hA hin hend ls hl
  have hS : va_S A s.heap s.heap [] := va_S.rf
  have hl : lv_has ls 2 [(0, .ref h0), (1, .ref b)] := hl
  have harr := hts (.arrayClass .int) (List.mem_of_getElem? (i := 4) rfl)
  have lkf9 := hts (.fieldLink RX0 9 "TiedToTown$Outlook" "ways" "[I") (List.mem_of_getElem? (i := 5) rfl)
  have hinX0 : ∀ w ∈ wsX00, w ∈ wsX0_init := fun w h => List.mem_cons_of_mem _ (List.mem_append_right _ h)
  have lkf15 := hts (.fieldLink RX0 15 "TiedToTown$Outlook" "town" "LTiedToTown$Town;") (List.mem_of_getElem? (i := 6) rfl)
  refine lv_aload_n hx hb dX0_init_0 rfl (lv_at hl 0 rfl) ?_
  refine W.objInit hx hb hown (hts (.methodLink RX0 3 objectInit) (List.mem_of_getElem? (i := 1) rfl)) (hts (.instanceMethod objectInit) (List.mem_of_getElem? (i := 2) rfl)) (hts _ (List.mem_of_getElem? (i := 3) rfl)) rfl (by rw [hml]; exact hl.1) rfl dX0_init_1 (Nat.le_of_ble_eq_true rfl) (Nat.le_of_ble_eq_true rfl) ?_
  refine W.eq (g2 := F0 m 4 ls []) rfl ?_
  refine lv_aload_n hx hb dX0_init_4 rfl (lv_at hl 0 rfl) ?_
  refine lv_sipush (v := (256 : Int32)) hx hb dX0_init_5 (by decide) ?_
  refine newa (N' := 256) hx hb harr hK hP hD hS hA (by decide) (by decide) (Nat.le_of_ble_eq_true rfl) (Nat.le_of_ble_eq_true rfl) (Nat.le_of_ble_eq_true rfl) dX0_init_8 (fun q1 H hP hD hS => ?_)
  have hP : va_P D vwCl ([(h0, .inr (0, [.null, .null])), (q1, .inl (cA, 256, .inl (fun _ => 0)))]) H := hP
  have hD : va_D A ([(h0, .inr (0, [.null, .null])), (q1, .inl (cA, 256, .inl (fun _ => 0)))]) := hD
  refine va_putF (D := D) (ci := 0) (v := .ref q1) (ty := .array .int) (C := RX0) (T := TX0) (N := 2) hx hb hts hinX0 tyX0 tyX0_ok nmX0 hown hK.1 hP hD hS 0 rfl rfl 1 (by decide) lkf9 (fun _ h9 => h9) rfl hin rfl (by decide +kernel) rfl rfl (Nat.le_of_ble_eq_true rfl) dX0_init_10 (fun H locs hP hD hS => ?_)
  have hP : va_P D vwCl ([(h0, .inr (0, [.null, .ref q1])), (q1, .inl (cA, 256, .inl (fun _ => 0)))]) H := hP
  have hD : va_D A ([(h0, .inr (0, [.null, .ref q1])), (q1, .inl (cA, 256, .inl (fun _ => 0)))]) := hD
  refine lv_aload_n hx hb dX0_init_13 rfl (lv_at hl 0 rfl) ?_
  refine lv_aload_n hx hb dX0_init_14 rfl (lv_at hl 1 rfl) ?_
  refine va_putF (D := D) (ci := 0) (v := .ref b) (ty := .object "TiedToTown$Town") (C := RX0) (T := TX0) (N := 2) hx hb hts hinX0 tyX0 tyX0_ok nmX0 hown hK.1 hP hD hS 0 rfl rfl 0 (by decide) lkf15 (fun _ h9 => h9) rfl hin rfl (by decide +kernel) rfl rfl (Nat.le_of_ble_eq_true rfl) dX0_init_15 (fun H locs hP hD hS => ?_)
  have hP : va_P D vwCl ([(h0, .inr (0, [.ref b, .ref q1])), (q1, .inl (cA, 256, .inl (fun _ => 0)))]) H := hP
  have hD : va_D A ([(h0, .inr (0, [.ref b, .ref q1])), (q1, .inl (cA, 256, .inl (fun _ => 0)))]) := hD
  refine W.widen (k := 1) (n := 256) (Nat.le_of_ble_eq_true rfl) (Nat.le_of_ble_eq_true rfl) ?_
  obtain ⟨a0, ea0⟩ : ∃ a : Nat → Nat, a = (fun k => [h0, 0, q1].getD k 0) := ⟨_, rfl⟩
  have e0 : h0 = a0 0 := by rw [ea0]; rfl
  have hP : va_P D vwCl (wX0 cA a0 b Z0) H := by rw [ea0]; exact hP
  have hD : va_D A (wX0 cA a0 b Z0) := by rw [ea0]; exact hD
  have hl : lv_has ls 2 [(0, .ref (a0 0)), (1, .ref b)] := e0 ▸ hl
  exact hend a0 _ _ _ _ e0.symm hP hD hS dX0_init_18
abbrev rmX7_init : Room := ({ frames := 4, cells := 44, slots := 882, locals := 91 } : Room)
set_option maxHeartbeats 4000000 in
set_option maxRecDepth 100000 in
theorem c_X7_init (l : Launch) (D : va_G) (cA : ClassId) (h0 : Nat) (o_ : (Nat → Ob)) (h : f_X7_init = some o_) : ConN l yX7_init wsX7_init rmX7_init D cA [.ref h0] [(h0, .inr (7, [.null, .null, .null, .null, .null, .null, .int 0, .null, .null, .null, .null, .null]))] (fun ad => wX7 cA ad o_) (fun ad => ad 6 0 = h0) 44 882 := by
  refine ConN.enter (cc := cX7_init) (maxL := 1) (by decide) rfl rfl (Nat.le_of_ble_eq_true rfl) ?_
  intro p e s m args below meth c Q A hx hb hml hown hts hK hP hD hA hin hend ls hl
  have hS : va_S A s.heap s.heap [] := va_S.rf
  have hl : lv_has ls 1 [(0, .ref h0)] := hl
  have hinX5 : ∀ w ∈ wsX50, w ∈ wsX7_init := fun w h => List.mem_cons_of_mem _ (List.mem_append_left _ (List.mem_append_left _ (List.mem_append_left _ (List.mem_append_left _ (List.mem_append_left _ (List.mem_append_left _ (List.mem_append_left _ (List.mem_append_right _ h))))))))
  have lkf10 := hts (.fieldLink RX7 10 "TiedToTown" "text" "LTiedToTown$Text;") (List.mem_of_getElem? (i := 7) rfl)
  have hinX7 : ∀ w ∈ wsX70, w ∈ wsX7_init := fun w h => List.mem_cons_of_mem _ (List.mem_append_left _ (List.mem_append_left _ (List.mem_append_left _ (List.mem_append_left _ (List.mem_append_left _ (List.mem_append_left _ (List.mem_append_right _ h)))))))
  have hinX2 : ∀ w ∈ wsX20, w ∈ wsX7_init := fun w h => List.mem_cons_of_mem _ (List.mem_append_left _ (List.mem_append_left _ (List.mem_append_left _ (List.mem_append_left _ (List.mem_append_left _ (List.mem_append_right _ h))))))
  have lkf19 := hts (.fieldLink RX7 19 "TiedToTown" "reader" "LTiedToTown$Reader;") (List.mem_of_getElem? (i := 11) rfl)
  have hinX6 : ∀ w ∈ wsX60, w ∈ wsX7_init := fun w h => List.mem_cons_of_mem _ (List.mem_append_left _ (List.mem_append_left _ (List.mem_append_left _ (List.mem_append_left _ (List.mem_append_right _ h)))))
  have lkf26 := hts (.fieldLink RX7 26 "TiedToTown" "town" "LTiedToTown$Town;") (List.mem_of_getElem? (i := 15) rfl)
  have lkf30 := hts (.fieldLink RX7 30 "TiedToTown" "told" "LTiedToTown$Town;") (List.mem_of_getElem? (i := 16) rfl)
  have lkf33 := hts (.fieldLink RX7 33 "TiedToTown" "keptFirst" "LTiedToTown$Town;") (List.mem_of_getElem? (i := 17) rfl)
  have lkf36 := hts (.fieldLink RX7 36 "TiedToTown" "keptSecond" "LTiedToTown$Town;") (List.mem_of_getElem? (i := 18) rfl)
  have lkf39 := hts (.fieldLink RX7 39 "TiedToTown" "kept" "I") (List.mem_of_getElem? (i := 19) rfl)
  have hinX1 : ∀ w ∈ wsX10, w ∈ wsX7_init := fun w h => List.mem_cons_of_mem _ (List.mem_append_left _ (List.mem_append_left _ (List.mem_append_left _ (List.mem_append_right _ h))))
  have lkf46 := hts (.fieldLink RX7 46 "TiedToTown" "past" "LTiedToTown$Past;") (List.mem_of_getElem? (i := 23) rfl)
  have hinX0 : ∀ w ∈ wsX00, w ∈ wsX7_init := fun w h => List.mem_cons_of_mem _ (List.mem_append_left _ (List.mem_append_left _ (List.mem_append_right _ h)))
  have lkf55 := hts (.fieldLink RX7 55 "TiedToTown" "outlook" "LTiedToTown$Outlook;") (List.mem_of_getElem? (i := 27) rfl)
  have hinX4 : ∀ w ∈ wsX40, w ∈ wsX7_init := fun w h => List.mem_cons_of_mem _ (List.mem_append_left _ (List.mem_append_right _ h))
  have lkf62 := hts (.fieldLink RX7 62 "TiedToTown" "row" "LTiedToTown$Row;") (List.mem_of_getElem? (i := 31) rfl)
  have hinX3 : ∀ w ∈ wsX30, w ∈ wsX7_init := fun w h => List.mem_cons_of_mem _ (List.mem_append_right _ h)
  have lkf69 := hts (.fieldLink RX7 69 "TiedToTown" "leftRope" "LTiedToTown$Rope;") (List.mem_of_getElem? (i := 35) rfl)
  have lkf73 := hts (.fieldLink RX7 73 "TiedToTown" "rightRope" "LTiedToTown$Rope;") (List.mem_of_getElem? (i := 36) rfl)
  refine lv_aload_n hx hb dX7_init_0 rfl (lv_at hl 0 rfl) ?_
  refine W.objInit hx hb hown (hts (.methodLink RX7 1 objectInit) (List.mem_of_getElem? (i := 1) rfl)) (hts (.instanceMethod objectInit) (List.mem_of_getElem? (i := 2) rfl)) (hts _ (List.mem_of_getElem? (i := 3) rfl)) rfl (by rw [hml]; exact hl.1) rfl dX7_init_1 (Nat.le_of_ble_eq_true rfl) (Nat.le_of_ble_eq_true rfl) ?_
  refine W.eq (g2 := F0 m 4 ls []) rfl ?_
  refine lv_aload_n hx hb dX7_init_4 rfl (lv_at hl 0 rfl) ?_
  refine va_new (ci := 5) (fs := [.null, .int 0]) (C := RX5) (T := TX5) (N := 2) hx hb hts hinX5 tyX5 tyX5_ok hown (hts (.classLink RX7 7 RX5) (List.mem_of_getElem? (i := 4) rfl)) (hts (.instantiable RX5 2) (List.mem_of_getElem? (i := 5) rfl)) (hts (.initialized RX5) (List.mem_of_getElem? (i := 6) rfl)) hK.1 hP hD hS hA rfl (fun j hj => by rcases (show j = 0 ∨ j = 1 by omega) with rfl | rfl <;> rfl) (Nat.le_of_ble_eq_true rfl) (Nat.le_of_ble_eq_true rfl) dX7_init_5 (fun q1 H hP hD hS => ?_)
  have hP : va_P D vwCl ([(h0, .inr (7, [.null, .null, .null, .null, .null, .null, .int 0, .null, .null, .null, .null, .null])), (q1, .inr (5, [.null, .int 0]))]) H := hP
  have hD : va_D A ([(h0, .inr (7, [.null, .null, .null, .null, .null, .null, .int 0, .null, .null, .null, .null, .null])), (q1, .inr (5, [.null, .int 0]))]) := hD
  refine lv_dup hx hb dX7_init_8 rfl ?_
  have hP : va_P D vwCl (([(h0, .inr (7, [.null, .null, .null, .null, .null, .null, .int 0, .null, .null, .null, .null, .null]))]) ++ [(q1, .inr (5, [.null, .int 0]))]) H := hP
  have hD : va_D A (([(h0, .inr (7, [.null, .null, .null, .null, .null, .null, .int 0, .null, .null, .null, .null, .null]))]) ++ [(q1, .inr (5, [.null, .int 0]))]) := hD
  refine cN_IN (As := []) (rest := [.ref q1, .ref h0]) (wr := ([(h0, .inr (7, [.null, .null, .null, .null, .null, .null, .int 0, .null, .null, .null, .null, .null]))])) ⟨hx, hb, hml, hown, hts⟩ (c_X5_init l D cA q1) ⟨va_cnB 0 hts gX7_init_X5_init_n9 rfl rfl rfl (hK.2 _ (List.mem_of_getElem? (i := 0) rfl) : va_Nw (Cond.methodLinkNest RX7 9 yX5_init "TiedToTown") s) (hts (.initialized RX5) (List.mem_of_getElem? (i := 6) rfl)) hd_X5_init.2 ⟨(Nat.le_of_ble_eq_true rfl), (Nat.le_of_ble_eq_true rfl)⟩, rfl, (hts (.instanceMethod yX5_init) (List.mem_of_getElem? (i := 37) rfl))⟩ hK hP hD hS hA rfl hl.1 rfl (Nat.le_of_ble_eq_true rfl) dX7_init_9 ⟨(Nat.le_of_ble_eq_true rfl), (Nat.le_of_ble_eq_true rfl)⟩ (fun b0 H locs hb0 hP2 hD2 hS => ?_)
  have hb0 : q1 = b0 0 := hb0.symm
  subst hb0
  have hP := hP2
  have hD := hD2
  have hP : va_P D vwCl ([(h0, .inr (7, [.null, .null, .null, .null, .null, .null, .int 0, .null, .null, .null, .null, .null]))] ++ wX5 cA b0 Z0) H := hP
  have hD : va_D A ([(h0, .inr (7, [.null, .null, .null, .null, .null, .null, .int 0, .null, .null, .null, .null, .null]))] ++ wX5 cA b0 Z0) := hD
  refine va_putF (D := D) (ci := 7) (v := .ref (b0 0)) (ty := .object "TiedToTown$Text") (C := RX7) (T := TX7) (N := 12) hx hb hts hinX7 tyX7 tyX7_ok nmX7 hown hK.1 hP hD hS 0 rfl rfl 0 (by decide) lkf10 (fun _ h9 => h9) rfl hin rfl (by decide +kernel) rfl rfl (Nat.le_of_ble_eq_true rfl) dX7_init_12 (fun H locs hP hD hS => ?_)
  have hP : va_P D vwCl ([(h0, .inr (7, [.ref (b0 0), .null, .null, .null, .null, .null, .int 0, .null, .null, .null, .null, .null]))] ++ wX5 cA b0 Z0) H := hP
  have hD : va_D A ([(h0, .inr (7, [.ref (b0 0), .null, .null, .null, .null, .null, .int 0, .null, .null, .null, .null, .null]))] ++ wX5 cA b0 Z0) := hD
  refine lv_aload_n hx hb dX7_init_15 rfl (lv_at hl 0 rfl) ?_
  refine va_new (ci := 2) (fs := [.null]) (C := RX2) (T := TX2) (N := 1) hx hb hts hinX2 tyX2 tyX2_ok hown (hts (.classLink RX7 16 RX2) (List.mem_of_getElem? (i := 8) rfl)) (hts (.instantiable RX2 1) (List.mem_of_getElem? (i := 9) rfl)) (hts (.initialized RX2) (List.mem_of_getElem? (i := 10) rfl)) hK.1 hP hD hS hA rfl (fun j hj => by rcases (show j = 0 by omega) with rfl <;> rfl) (Nat.le_of_ble_eq_true rfl) (Nat.le_of_ble_eq_true rfl) dX7_init_16 (fun q2 H hP hD hS => ?_)
  have hP : va_P D vwCl ([(h0, .inr (7, [.ref (b0 0), .null, .null, .null, .null, .null, .int 0, .null, .null, .null, .null, .null]))] ++ wX5 cA b0 Z0 ++ [(q2, .inr (2, [.null]))]) H := hP
  have hD : va_D A ([(h0, .inr (7, [.ref (b0 0), .null, .null, .null, .null, .null, .int 0, .null, .null, .null, .null, .null]))] ++ wX5 cA b0 Z0 ++ [(q2, .inr (2, [.null]))]) := hD
  refine lv_dup hx hb dX7_init_19 rfl ?_
  have hP : va_P D vwCl (([(h0, .inr (7, [.ref (b0 0), .null, .null, .null, .null, .null, .int 0, .null, .null, .null, .null, .null]))] ++ wX5 cA b0 Z0) ++ [(q2, .inr (2, [.null]))]) H := hP
  have hD : va_D A (([(h0, .inr (7, [.ref (b0 0), .null, .null, .null, .null, .null, .int 0, .null, .null, .null, .null, .null]))] ++ wX5 cA b0 Z0) ++ [(q2, .inr (2, [.null]))]) := hD
  refine cN_IN (As := []) (rest := [.ref q2, .ref h0]) (wr := ([(h0, .inr (7, [.ref (b0 0), .null, .null, .null, .null, .null, .int 0, .null, .null, .null, .null, .null]))] ++ wX5 cA b0 Z0)) ⟨hx, hb, hml, hown, hts⟩ (c_X2_init l D cA q2) ⟨va_cnB 0 hts gX7_init_X2_init_n18 rfl rfl rfl (hK.2 _ (List.mem_of_getElem? (i := 1) rfl) : va_Nw (Cond.methodLinkNest RX7 18 yX2_init "TiedToTown") s) (hts (.initialized RX2) (List.mem_of_getElem? (i := 10) rfl)) hd_X2_init.2 ⟨(Nat.le_of_ble_eq_true rfl), (Nat.le_of_ble_eq_true rfl)⟩, rfl, (hts (.instanceMethod yX2_init) (List.mem_of_getElem? (i := 42) rfl))⟩ hK hP hD hS hA rfl hl.1 rfl (Nat.le_of_ble_eq_true rfl) dX7_init_20 ⟨(Nat.le_of_ble_eq_true rfl), (Nat.le_of_ble_eq_true rfl)⟩ (fun b1 H locs hb1 hP2 hD2 hS => ?_)
  have hb1 : q2 = b1 0 := hb1.symm
  subst hb1
  have hP := hP2
  have hD := hD2
  have hP : va_P D vwCl ([(h0, .inr (7, [.ref (b0 0), .null, .null, .null, .null, .null, .int 0, .null, .null, .null, .null, .null]))] ++ wX5 cA b0 Z0 ++ wX2 cA b1 Z0) H := hP
  have hD : va_D A ([(h0, .inr (7, [.ref (b0 0), .null, .null, .null, .null, .null, .int 0, .null, .null, .null, .null, .null]))] ++ wX5 cA b0 Z0 ++ wX2 cA b1 Z0) := hD
  refine va_putF (D := D) (ci := 7) (v := .ref (b1 0)) (ty := .object "TiedToTown$Reader") (C := RX7) (T := TX7) (N := 12) hx hb hts hinX7 tyX7 tyX7_ok nmX7 hown hK.1 hP hD hS 0 rfl rfl 1 (by decide) lkf19 (fun _ h9 => h9) rfl hin rfl (by decide +kernel) rfl rfl (Nat.le_of_ble_eq_true rfl) dX7_init_23 (fun H locs hP hD hS => ?_)
  have hP : va_P D vwCl ([(h0, .inr (7, [.ref (b0 0), .ref (b1 0), .null, .null, .null, .null, .int 0, .null, .null, .null, .null, .null]))] ++ wX5 cA b0 Z0 ++ wX2 cA b1 Z0) H := hP
  have hD : va_D A ([(h0, .inr (7, [.ref (b0 0), .ref (b1 0), .null, .null, .null, .null, .int 0, .null, .null, .null, .null, .null]))] ++ wX5 cA b0 Z0 ++ wX2 cA b1 Z0) := hD
  refine lv_aload_n hx hb dX7_init_26 rfl (lv_at hl 0 rfl) ?_
  refine va_new (ci := 6) (fs := [.null, .null, .null, .null, .null, .null, .int 0, .int 0, .int 0, .int 0, .int 0, .int 0]) (C := RX6) (T := TX6) (N := 12) hx hb hts hinX6 tyX6 tyX6_ok hown (hts (.classLink RX7 23 RX6) (List.mem_of_getElem? (i := 12) rfl)) (hts (.instantiable RX6 12) (List.mem_of_getElem? (i := 13) rfl)) (hts (.initialized RX6) (List.mem_of_getElem? (i := 14) rfl)) hK.1 hP hD hS hA rfl (fun j hj => by rcases (show j = 0 ∨ j = 1 ∨ j = 2 ∨ j = 3 ∨ j = 4 ∨ j = 5 ∨ j = 6 ∨ j = 7 ∨ j = 8 ∨ j = 9 ∨ j = 10 ∨ j = 11 by omega) with rfl | rfl | rfl | rfl | rfl | rfl | rfl | rfl | rfl | rfl | rfl | rfl <;> rfl) (Nat.le_of_ble_eq_true rfl) (Nat.le_of_ble_eq_true rfl) dX7_init_27 (fun q3 H hP hD hS => ?_)
  have hP : va_P D vwCl ([(h0, .inr (7, [.ref (b0 0), .ref (b1 0), .null, .null, .null, .null, .int 0, .null, .null, .null, .null, .null]))] ++ wX5 cA b0 Z0 ++ wX2 cA b1 Z0 ++ [(q3, .inr (6, [.null, .null, .null, .null, .null, .null, .int 0, .int 0, .int 0, .int 0, .int 0, .int 0]))]) H := hP
  have hD : va_D A ([(h0, .inr (7, [.ref (b0 0), .ref (b1 0), .null, .null, .null, .null, .int 0, .null, .null, .null, .null, .null]))] ++ wX5 cA b0 Z0 ++ wX2 cA b1 Z0 ++ [(q3, .inr (6, [.null, .null, .null, .null, .null, .null, .int 0, .int 0, .int 0, .int 0, .int 0, .int 0]))]) := hD
  refine lv_dup hx hb dX7_init_30 rfl ?_
  have hP : va_P D vwCl (([(h0, .inr (7, [.ref (b0 0), .ref (b1 0), .null, .null, .null, .null, .int 0, .null, .null, .null, .null, .null]))] ++ wX5 cA b0 Z0 ++ wX2 cA b1 Z0) ++ [(q3, .inr (6, [.null, .null, .null, .null, .null, .null, .int 0, .int 0, .int 0, .int 0, .int 0, .int 0]))]) H := hP
  have hD : va_D A (([(h0, .inr (7, [.ref (b0 0), .ref (b1 0), .null, .null, .null, .null, .int 0, .null, .null, .null, .null, .null]))] ++ wX5 cA b0 Z0 ++ wX2 cA b1 Z0) ++ [(q3, .inr (6, [.null, .null, .null, .null, .null, .null, .int 0, .int 0, .int 0, .int 0, .int 0, .int 0]))]) := hD
  refine cN_IN (As := []) (rest := [.ref q3, .ref h0]) (wr := ([(h0, .inr (7, [.ref (b0 0), .ref (b1 0), .null, .null, .null, .null, .int 0, .null, .null, .null, .null, .null]))] ++ wX5 cA b0 Z0 ++ wX2 cA b1 Z0)) ⟨hx, hb, hml, hown, hts⟩ (c_X6_init l D cA q3) ⟨va_cnB 0 hts gX7_init_X6_init_n25 rfl rfl rfl (hK.2 _ (List.mem_of_getElem? (i := 2) rfl) : va_Nw (Cond.methodLinkNest RX7 25 yX6_init "TiedToTown") s) (hts (.initialized RX6) (List.mem_of_getElem? (i := 14) rfl)) hd_X6_init.2 ⟨(Nat.le_of_ble_eq_true rfl), (Nat.le_of_ble_eq_true rfl)⟩, rfl, (hts (.instanceMethod yX6_init) (List.mem_of_getElem? (i := 46) rfl))⟩ hK hP hD hS hA rfl hl.1 rfl (Nat.le_of_ble_eq_true rfl) dX7_init_31 ⟨(Nat.le_of_ble_eq_true rfl), (Nat.le_of_ble_eq_true rfl)⟩ (fun b2 H locs hb2 hP2 hD2 hS => ?_)
  have hb2 : q3 = b2 0 := hb2.symm
  subst hb2
  have hP := hP2
  have hD := hD2
  have hP : va_P D vwCl ([(h0, .inr (7, [.ref (b0 0), .ref (b1 0), .null, .null, .null, .null, .int 0, .null, .null, .null, .null, .null]))] ++ wX5 cA b0 Z0 ++ wX2 cA b1 Z0 ++ wX6 cA b2 Z0) H := hP
  have hD : va_D A ([(h0, .inr (7, [.ref (b0 0), .ref (b1 0), .null, .null, .null, .null, .int 0, .null, .null, .null, .null, .null]))] ++ wX5 cA b0 Z0 ++ wX2 cA b1 Z0 ++ wX6 cA b2 Z0) := hD
  refine va_putF (D := D) (ci := 7) (v := .ref (b2 0)) (ty := .object "TiedToTown$Town") (C := RX7) (T := TX7) (N := 12) hx hb hts hinX7 tyX7 tyX7_ok nmX7 hown hK.1 hP hD hS 0 rfl rfl 2 (by decide) lkf26 (fun _ h9 => h9) rfl hin rfl (by decide +kernel) rfl rfl (Nat.le_of_ble_eq_true rfl) dX7_init_34 (fun H locs hP hD hS => ?_)
  have hP : va_P D vwCl ([(h0, .inr (7, [.ref (b0 0), .ref (b1 0), .ref (b2 0), .null, .null, .null, .int 0, .null, .null, .null, .null, .null]))] ++ wX5 cA b0 Z0 ++ wX2 cA b1 Z0 ++ wX6 cA b2 Z0) H := hP
  have hD : va_D A ([(h0, .inr (7, [.ref (b0 0), .ref (b1 0), .ref (b2 0), .null, .null, .null, .int 0, .null, .null, .null, .null, .null]))] ++ wX5 cA b0 Z0 ++ wX2 cA b1 Z0 ++ wX6 cA b2 Z0) := hD
  refine lv_aload_n hx hb dX7_init_37 rfl (lv_at hl 0 rfl) ?_
  refine va_new (ci := 6) (fs := [.null, .null, .null, .null, .null, .null, .int 0, .int 0, .int 0, .int 0, .int 0, .int 0]) (C := RX6) (T := TX6) (N := 12) hx hb hts hinX6 tyX6 tyX6_ok hown (hts (.classLink RX7 23 RX6) (List.mem_of_getElem? (i := 12) rfl)) (hts (.instantiable RX6 12) (List.mem_of_getElem? (i := 13) rfl)) (hts (.initialized RX6) (List.mem_of_getElem? (i := 14) rfl)) hK.1 hP hD hS hA rfl (fun j hj => by rcases (show j = 0 ∨ j = 1 ∨ j = 2 ∨ j = 3 ∨ j = 4 ∨ j = 5 ∨ j = 6 ∨ j = 7 ∨ j = 8 ∨ j = 9 ∨ j = 10 ∨ j = 11 by omega) with rfl | rfl | rfl | rfl | rfl | rfl | rfl | rfl | rfl | rfl | rfl | rfl <;> rfl) (Nat.le_of_ble_eq_true rfl) (Nat.le_of_ble_eq_true rfl) dX7_init_38 (fun q4 H hP hD hS => ?_)
  have hP : va_P D vwCl ([(h0, .inr (7, [.ref (b0 0), .ref (b1 0), .ref (b2 0), .null, .null, .null, .int 0, .null, .null, .null, .null, .null]))] ++ wX5 cA b0 Z0 ++ wX2 cA b1 Z0 ++ wX6 cA b2 Z0 ++ [(q4, .inr (6, [.null, .null, .null, .null, .null, .null, .int 0, .int 0, .int 0, .int 0, .int 0, .int 0]))]) H := hP
  have hD : va_D A ([(h0, .inr (7, [.ref (b0 0), .ref (b1 0), .ref (b2 0), .null, .null, .null, .int 0, .null, .null, .null, .null, .null]))] ++ wX5 cA b0 Z0 ++ wX2 cA b1 Z0 ++ wX6 cA b2 Z0 ++ [(q4, .inr (6, [.null, .null, .null, .null, .null, .null, .int 0, .int 0, .int 0, .int 0, .int 0, .int 0]))]) := hD
  refine lv_dup hx hb dX7_init_41 rfl ?_
  have hP : va_P D vwCl (([(h0, .inr (7, [.ref (b0 0), .ref (b1 0), .ref (b2 0), .null, .null, .null, .int 0, .null, .null, .null, .null, .null]))] ++ wX5 cA b0 Z0 ++ wX2 cA b1 Z0 ++ wX6 cA b2 Z0) ++ [(q4, .inr (6, [.null, .null, .null, .null, .null, .null, .int 0, .int 0, .int 0, .int 0, .int 0, .int 0]))]) H := hP
  have hD : va_D A (([(h0, .inr (7, [.ref (b0 0), .ref (b1 0), .ref (b2 0), .null, .null, .null, .int 0, .null, .null, .null, .null, .null]))] ++ wX5 cA b0 Z0 ++ wX2 cA b1 Z0 ++ wX6 cA b2 Z0) ++ [(q4, .inr (6, [.null, .null, .null, .null, .null, .null, .int 0, .int 0, .int 0, .int 0, .int 0, .int 0]))]) := hD
  refine cN_IN (As := []) (rest := [.ref q4, .ref h0]) (wr := ([(h0, .inr (7, [.ref (b0 0), .ref (b1 0), .ref (b2 0), .null, .null, .null, .int 0, .null, .null, .null, .null, .null]))] ++ wX5 cA b0 Z0 ++ wX2 cA b1 Z0 ++ wX6 cA b2 Z0)) ⟨hx, hb, hml, hown, hts⟩ (c_X6_init l D cA q4) ⟨va_cnB 0 hts gX7_init_X6_init_n25 rfl rfl rfl (hK.2 _ (List.mem_of_getElem? (i := 2) rfl) : va_Nw (Cond.methodLinkNest RX7 25 yX6_init "TiedToTown") s) (hts (.initialized RX6) (List.mem_of_getElem? (i := 14) rfl)) hd_X6_init.2 ⟨(Nat.le_of_ble_eq_true rfl), (Nat.le_of_ble_eq_true rfl)⟩, rfl, (hts (.instanceMethod yX6_init) (List.mem_of_getElem? (i := 46) rfl))⟩ hK hP hD hS hA rfl hl.1 rfl (Nat.le_of_ble_eq_true rfl) dX7_init_42 ⟨(Nat.le_of_ble_eq_true rfl), (Nat.le_of_ble_eq_true rfl)⟩ (fun b3 H locs hb3 hP2 hD2 hS => ?_)
  have hb3 : q4 = b3 0 := hb3.symm
  subst hb3
  have hP := hP2
  have hD := hD2
  have hP : va_P D vwCl ([(h0, .inr (7, [.ref (b0 0), .ref (b1 0), .ref (b2 0), .null, .null, .null, .int 0, .null, .null, .null, .null, .null]))] ++ wX5 cA b0 Z0 ++ wX2 cA b1 Z0 ++ wX6 cA b2 Z0 ++ wX6 cA b3 Z0) H := hP
  have hD : va_D A ([(h0, .inr (7, [.ref (b0 0), .ref (b1 0), .ref (b2 0), .null, .null, .null, .int 0, .null, .null, .null, .null, .null]))] ++ wX5 cA b0 Z0 ++ wX2 cA b1 Z0 ++ wX6 cA b2 Z0 ++ wX6 cA b3 Z0) := hD
  refine va_putF (D := D) (ci := 7) (v := .ref (b3 0)) (ty := .object "TiedToTown$Town") (C := RX7) (T := TX7) (N := 12) hx hb hts hinX7 tyX7 tyX7_ok nmX7 hown hK.1 hP hD hS 0 rfl rfl 3 (by decide) lkf30 (fun _ h9 => h9) rfl hin rfl (by decide +kernel) rfl rfl (Nat.le_of_ble_eq_true rfl) dX7_init_45 (fun H locs hP hD hS => ?_)
  have hP : va_P D vwCl ([(h0, .inr (7, [.ref (b0 0), .ref (b1 0), .ref (b2 0), .ref (b3 0), .null, .null, .int 0, .null, .null, .null, .null, .null]))] ++ wX5 cA b0 Z0 ++ wX2 cA b1 Z0 ++ wX6 cA b2 Z0 ++ wX6 cA b3 Z0) H := hP
  have hD : va_D A ([(h0, .inr (7, [.ref (b0 0), .ref (b1 0), .ref (b2 0), .ref (b3 0), .null, .null, .int 0, .null, .null, .null, .null, .null]))] ++ wX5 cA b0 Z0 ++ wX2 cA b1 Z0 ++ wX6 cA b2 Z0 ++ wX6 cA b3 Z0) := hD
  refine lv_aload_n hx hb dX7_init_48 rfl (lv_at hl 0 rfl) ?_
  refine va_new (ci := 6) (fs := [.null, .null, .null, .null, .null, .null, .int 0, .int 0, .int 0, .int 0, .int 0, .int 0]) (C := RX6) (T := TX6) (N := 12) hx hb hts hinX6 tyX6 tyX6_ok hown (hts (.classLink RX7 23 RX6) (List.mem_of_getElem? (i := 12) rfl)) (hts (.instantiable RX6 12) (List.mem_of_getElem? (i := 13) rfl)) (hts (.initialized RX6) (List.mem_of_getElem? (i := 14) rfl)) hK.1 hP hD hS hA rfl (fun j hj => by rcases (show j = 0 ∨ j = 1 ∨ j = 2 ∨ j = 3 ∨ j = 4 ∨ j = 5 ∨ j = 6 ∨ j = 7 ∨ j = 8 ∨ j = 9 ∨ j = 10 ∨ j = 11 by omega) with rfl | rfl | rfl | rfl | rfl | rfl | rfl | rfl | rfl | rfl | rfl | rfl <;> rfl) (Nat.le_of_ble_eq_true rfl) (Nat.le_of_ble_eq_true rfl) dX7_init_49 (fun q5 H hP hD hS => ?_)
  have hP : va_P D vwCl ([(h0, .inr (7, [.ref (b0 0), .ref (b1 0), .ref (b2 0), .ref (b3 0), .null, .null, .int 0, .null, .null, .null, .null, .null]))] ++ wX5 cA b0 Z0 ++ wX2 cA b1 Z0 ++ wX6 cA b2 Z0 ++ wX6 cA b3 Z0 ++ [(q5, .inr (6, [.null, .null, .null, .null, .null, .null, .int 0, .int 0, .int 0, .int 0, .int 0, .int 0]))]) H := hP
  have hD : va_D A ([(h0, .inr (7, [.ref (b0 0), .ref (b1 0), .ref (b2 0), .ref (b3 0), .null, .null, .int 0, .null, .null, .null, .null, .null]))] ++ wX5 cA b0 Z0 ++ wX2 cA b1 Z0 ++ wX6 cA b2 Z0 ++ wX6 cA b3 Z0 ++ [(q5, .inr (6, [.null, .null, .null, .null, .null, .null, .int 0, .int 0, .int 0, .int 0, .int 0, .int 0]))]) := hD
  refine lv_dup hx hb dX7_init_52 rfl ?_
  have hP : va_P D vwCl (([(h0, .inr (7, [.ref (b0 0), .ref (b1 0), .ref (b2 0), .ref (b3 0), .null, .null, .int 0, .null, .null, .null, .null, .null]))] ++ wX5 cA b0 Z0 ++ wX2 cA b1 Z0 ++ wX6 cA b2 Z0 ++ wX6 cA b3 Z0) ++ [(q5, .inr (6, [.null, .null, .null, .null, .null, .null, .int 0, .int 0, .int 0, .int 0, .int 0, .int 0]))]) H := hP
  have hD : va_D A (([(h0, .inr (7, [.ref (b0 0), .ref (b1 0), .ref (b2 0), .ref (b3 0), .null, .null, .int 0, .null, .null, .null, .null, .null]))] ++ wX5 cA b0 Z0 ++ wX2 cA b1 Z0 ++ wX6 cA b2 Z0 ++ wX6 cA b3 Z0) ++ [(q5, .inr (6, [.null, .null, .null, .null, .null, .null, .int 0, .int 0, .int 0, .int 0, .int 0, .int 0]))]) := hD
  refine cN_IN (As := []) (rest := [.ref q5, .ref h0]) (wr := ([(h0, .inr (7, [.ref (b0 0), .ref (b1 0), .ref (b2 0), .ref (b3 0), .null, .null, .int 0, .null, .null, .null, .null, .null]))] ++ wX5 cA b0 Z0 ++ wX2 cA b1 Z0 ++ wX6 cA b2 Z0 ++ wX6 cA b3 Z0)) ⟨hx, hb, hml, hown, hts⟩ (c_X6_init l D cA q5) ⟨va_cnB 0 hts gX7_init_X6_init_n25 rfl rfl rfl (hK.2 _ (List.mem_of_getElem? (i := 2) rfl) : va_Nw (Cond.methodLinkNest RX7 25 yX6_init "TiedToTown") s) (hts (.initialized RX6) (List.mem_of_getElem? (i := 14) rfl)) hd_X6_init.2 ⟨(Nat.le_of_ble_eq_true rfl), (Nat.le_of_ble_eq_true rfl)⟩, rfl, (hts (.instanceMethod yX6_init) (List.mem_of_getElem? (i := 46) rfl))⟩ hK hP hD hS hA rfl hl.1 rfl (Nat.le_of_ble_eq_true rfl) dX7_init_53 ⟨(Nat.le_of_ble_eq_true rfl), (Nat.le_of_ble_eq_true rfl)⟩ (fun b4 H locs hb4 hP2 hD2 hS => ?_)
  have hb4 : q5 = b4 0 := hb4.symm
  subst hb4
  have hP := hP2
  have hD := hD2
  have hP : va_P D vwCl ([(h0, .inr (7, [.ref (b0 0), .ref (b1 0), .ref (b2 0), .ref (b3 0), .null, .null, .int 0, .null, .null, .null, .null, .null]))] ++ wX5 cA b0 Z0 ++ wX2 cA b1 Z0 ++ wX6 cA b2 Z0 ++ wX6 cA b3 Z0 ++ wX6 cA b4 Z0) H := hP
  have hD : va_D A ([(h0, .inr (7, [.ref (b0 0), .ref (b1 0), .ref (b2 0), .ref (b3 0), .null, .null, .int 0, .null, .null, .null, .null, .null]))] ++ wX5 cA b0 Z0 ++ wX2 cA b1 Z0 ++ wX6 cA b2 Z0 ++ wX6 cA b3 Z0 ++ wX6 cA b4 Z0) := hD
  refine va_putF (D := D) (ci := 7) (v := .ref (b4 0)) (ty := .object "TiedToTown$Town") (C := RX7) (T := TX7) (N := 12) hx hb hts hinX7 tyX7 tyX7_ok nmX7 hown hK.1 hP hD hS 0 rfl rfl 4 (by decide) lkf33 (fun _ h9 => h9) rfl hin rfl (by decide +kernel) rfl rfl (Nat.le_of_ble_eq_true rfl) dX7_init_56 (fun H locs hP hD hS => ?_)
  have hP : va_P D vwCl ([(h0, .inr (7, [.ref (b0 0), .ref (b1 0), .ref (b2 0), .ref (b3 0), .ref (b4 0), .null, .int 0, .null, .null, .null, .null, .null]))] ++ wX5 cA b0 Z0 ++ wX2 cA b1 Z0 ++ wX6 cA b2 Z0 ++ wX6 cA b3 Z0 ++ wX6 cA b4 Z0) H := hP
  have hD : va_D A ([(h0, .inr (7, [.ref (b0 0), .ref (b1 0), .ref (b2 0), .ref (b3 0), .ref (b4 0), .null, .int 0, .null, .null, .null, .null, .null]))] ++ wX5 cA b0 Z0 ++ wX2 cA b1 Z0 ++ wX6 cA b2 Z0 ++ wX6 cA b3 Z0 ++ wX6 cA b4 Z0) := hD
  refine lv_aload_n hx hb dX7_init_59 rfl (lv_at hl 0 rfl) ?_
  refine va_new (ci := 6) (fs := [.null, .null, .null, .null, .null, .null, .int 0, .int 0, .int 0, .int 0, .int 0, .int 0]) (C := RX6) (T := TX6) (N := 12) hx hb hts hinX6 tyX6 tyX6_ok hown (hts (.classLink RX7 23 RX6) (List.mem_of_getElem? (i := 12) rfl)) (hts (.instantiable RX6 12) (List.mem_of_getElem? (i := 13) rfl)) (hts (.initialized RX6) (List.mem_of_getElem? (i := 14) rfl)) hK.1 hP hD hS hA rfl (fun j hj => by rcases (show j = 0 ∨ j = 1 ∨ j = 2 ∨ j = 3 ∨ j = 4 ∨ j = 5 ∨ j = 6 ∨ j = 7 ∨ j = 8 ∨ j = 9 ∨ j = 10 ∨ j = 11 by omega) with rfl | rfl | rfl | rfl | rfl | rfl | rfl | rfl | rfl | rfl | rfl | rfl <;> rfl) (Nat.le_of_ble_eq_true rfl) (Nat.le_of_ble_eq_true rfl) dX7_init_60 (fun q6 H hP hD hS => ?_)
  have hP : va_P D vwCl ([(h0, .inr (7, [.ref (b0 0), .ref (b1 0), .ref (b2 0), .ref (b3 0), .ref (b4 0), .null, .int 0, .null, .null, .null, .null, .null]))] ++ wX5 cA b0 Z0 ++ wX2 cA b1 Z0 ++ wX6 cA b2 Z0 ++ wX6 cA b3 Z0 ++ wX6 cA b4 Z0 ++ [(q6, .inr (6, [.null, .null, .null, .null, .null, .null, .int 0, .int 0, .int 0, .int 0, .int 0, .int 0]))]) H := hP
  have hD : va_D A ([(h0, .inr (7, [.ref (b0 0), .ref (b1 0), .ref (b2 0), .ref (b3 0), .ref (b4 0), .null, .int 0, .null, .null, .null, .null, .null]))] ++ wX5 cA b0 Z0 ++ wX2 cA b1 Z0 ++ wX6 cA b2 Z0 ++ wX6 cA b3 Z0 ++ wX6 cA b4 Z0 ++ [(q6, .inr (6, [.null, .null, .null, .null, .null, .null, .int 0, .int 0, .int 0, .int 0, .int 0, .int 0]))]) := hD
  refine lv_dup hx hb dX7_init_63 rfl ?_
  have hP : va_P D vwCl (([(h0, .inr (7, [.ref (b0 0), .ref (b1 0), .ref (b2 0), .ref (b3 0), .ref (b4 0), .null, .int 0, .null, .null, .null, .null, .null]))] ++ wX5 cA b0 Z0 ++ wX2 cA b1 Z0 ++ wX6 cA b2 Z0 ++ wX6 cA b3 Z0 ++ wX6 cA b4 Z0) ++ [(q6, .inr (6, [.null, .null, .null, .null, .null, .null, .int 0, .int 0, .int 0, .int 0, .int 0, .int 0]))]) H := hP
  have hD : va_D A (([(h0, .inr (7, [.ref (b0 0), .ref (b1 0), .ref (b2 0), .ref (b3 0), .ref (b4 0), .null, .int 0, .null, .null, .null, .null, .null]))] ++ wX5 cA b0 Z0 ++ wX2 cA b1 Z0 ++ wX6 cA b2 Z0 ++ wX6 cA b3 Z0 ++ wX6 cA b4 Z0) ++ [(q6, .inr (6, [.null, .null, .null, .null, .null, .null, .int 0, .int 0, .int 0, .int 0, .int 0, .int 0]))]) := hD
  refine cN_IN (As := []) (rest := [.ref q6, .ref h0]) (wr := ([(h0, .inr (7, [.ref (b0 0), .ref (b1 0), .ref (b2 0), .ref (b3 0), .ref (b4 0), .null, .int 0, .null, .null, .null, .null, .null]))] ++ wX5 cA b0 Z0 ++ wX2 cA b1 Z0 ++ wX6 cA b2 Z0 ++ wX6 cA b3 Z0 ++ wX6 cA b4 Z0)) ⟨hx, hb, hml, hown, hts⟩ (c_X6_init l D cA q6) ⟨va_cnB 0 hts gX7_init_X6_init_n25 rfl rfl rfl (hK.2 _ (List.mem_of_getElem? (i := 2) rfl) : va_Nw (Cond.methodLinkNest RX7 25 yX6_init "TiedToTown") s) (hts (.initialized RX6) (List.mem_of_getElem? (i := 14) rfl)) hd_X6_init.2 ⟨(Nat.le_of_ble_eq_true rfl), (Nat.le_of_ble_eq_true rfl)⟩, rfl, (hts (.instanceMethod yX6_init) (List.mem_of_getElem? (i := 46) rfl))⟩ hK hP hD hS hA rfl hl.1 rfl (Nat.le_of_ble_eq_true rfl) dX7_init_64 ⟨(Nat.le_of_ble_eq_true rfl), (Nat.le_of_ble_eq_true rfl)⟩ (fun b5 H locs hb5 hP2 hD2 hS => ?_)
  have hb5 : q6 = b5 0 := hb5.symm
  subst hb5
  have hP := hP2
  have hD := hD2
  have hP : va_P D vwCl ([(h0, .inr (7, [.ref (b0 0), .ref (b1 0), .ref (b2 0), .ref (b3 0), .ref (b4 0), .null, .int 0, .null, .null, .null, .null, .null]))] ++ wX5 cA b0 Z0 ++ wX2 cA b1 Z0 ++ wX6 cA b2 Z0 ++ wX6 cA b3 Z0 ++ wX6 cA b4 Z0 ++ wX6 cA b5 Z0) H := hP
  have hD : va_D A ([(h0, .inr (7, [.ref (b0 0), .ref (b1 0), .ref (b2 0), .ref (b3 0), .ref (b4 0), .null, .int 0, .null, .null, .null, .null, .null]))] ++ wX5 cA b0 Z0 ++ wX2 cA b1 Z0 ++ wX6 cA b2 Z0 ++ wX6 cA b3 Z0 ++ wX6 cA b4 Z0 ++ wX6 cA b5 Z0) := hD
  refine va_putF (D := D) (ci := 7) (v := .ref (b5 0)) (ty := .object "TiedToTown$Town") (C := RX7) (T := TX7) (N := 12) hx hb hts hinX7 tyX7 tyX7_ok nmX7 hown hK.1 hP hD hS 0 rfl rfl 5 (by decide) lkf36 (fun _ h9 => h9) rfl hin rfl (by decide +kernel) rfl rfl (Nat.le_of_ble_eq_true rfl) dX7_init_67 (fun H locs hP hD hS => ?_)
  have hP : va_P D vwCl ([(h0, .inr (7, [.ref (b0 0), .ref (b1 0), .ref (b2 0), .ref (b3 0), .ref (b4 0), .ref (b5 0), .int 0, .null, .null, .null, .null, .null]))] ++ wX5 cA b0 Z0 ++ wX2 cA b1 Z0 ++ wX6 cA b2 Z0 ++ wX6 cA b3 Z0 ++ wX6 cA b4 Z0 ++ wX6 cA b5 Z0) H := hP
  have hD : va_D A ([(h0, .inr (7, [.ref (b0 0), .ref (b1 0), .ref (b2 0), .ref (b3 0), .ref (b4 0), .ref (b5 0), .int 0, .null, .null, .null, .null, .null]))] ++ wX5 cA b0 Z0 ++ wX2 cA b1 Z0 ++ wX6 cA b2 Z0 ++ wX6 cA b3 Z0 ++ wX6 cA b4 Z0 ++ wX6 cA b5 Z0) := hD
  refine lv_aload_n hx hb dX7_init_70 rfl (lv_at hl 0 rfl) ?_
  refine lv_iconst (v := (0 : Int32)) hx hb dX7_init_71 (by decide) ?_
  refine va_put (D := D) (ci := 7) (v := .int (0 : Int32)) (ty := .int) (C := RX7) (T := TX7) (N := 12) hx hb hts hinX7 tyX7 tyX7_ok nmX7 hown hK.1 hP hD hS 0 rfl rfl 6 (by decide) lkf39 (fun _ h9 => h9) rfl (by decide +kernel) rfl rfl (Nat.le_of_ble_eq_true rfl) dX7_init_72 (fun H locs hP hD hS => ?_)
  have hP : va_P D vwCl ([(h0, .inr (7, [.ref (b0 0), .ref (b1 0), .ref (b2 0), .ref (b3 0), .ref (b4 0), .ref (b5 0), .int 0, .null, .null, .null, .null, .null]))] ++ wX5 cA b0 Z0 ++ wX2 cA b1 Z0 ++ wX6 cA b2 Z0 ++ wX6 cA b3 Z0 ++ wX6 cA b4 Z0 ++ wX6 cA b5 Z0) H := hP
  have hD : va_D A ([(h0, .inr (7, [.ref (b0 0), .ref (b1 0), .ref (b2 0), .ref (b3 0), .ref (b4 0), .ref (b5 0), .int 0, .null, .null, .null, .null, .null]))] ++ wX5 cA b0 Z0 ++ wX2 cA b1 Z0 ++ wX6 cA b2 Z0 ++ wX6 cA b3 Z0 ++ wX6 cA b4 Z0 ++ wX6 cA b5 Z0) := hD
  refine lv_aload_n hx hb dX7_init_75 rfl (lv_at hl 0 rfl) ?_
  refine va_new (ci := 1) (fs := [.null, .null, .null, .int 0]) (C := RX1) (T := TX1) (N := 4) hx hb hts hinX1 tyX1 tyX1_ok hown (hts (.classLink RX7 43 RX1) (List.mem_of_getElem? (i := 20) rfl)) (hts (.instantiable RX1 4) (List.mem_of_getElem? (i := 21) rfl)) (hts (.initialized RX1) (List.mem_of_getElem? (i := 22) rfl)) hK.1 hP hD hS hA rfl (fun j hj => by rcases (show j = 0 ∨ j = 1 ∨ j = 2 ∨ j = 3 by omega) with rfl | rfl | rfl | rfl <;> rfl) (Nat.le_of_ble_eq_true rfl) (Nat.le_of_ble_eq_true rfl) dX7_init_76 (fun q7 H hP hD hS => ?_)
  have hP : va_P D vwCl ([(h0, .inr (7, [.ref (b0 0), .ref (b1 0), .ref (b2 0), .ref (b3 0), .ref (b4 0), .ref (b5 0), .int 0, .null, .null, .null, .null, .null]))] ++ wX5 cA b0 Z0 ++ wX2 cA b1 Z0 ++ wX6 cA b2 Z0 ++ wX6 cA b3 Z0 ++ wX6 cA b4 Z0 ++ wX6 cA b5 Z0 ++ [(q7, .inr (1, [.null, .null, .null, .int 0]))]) H := hP
  have hD : va_D A ([(h0, .inr (7, [.ref (b0 0), .ref (b1 0), .ref (b2 0), .ref (b3 0), .ref (b4 0), .ref (b5 0), .int 0, .null, .null, .null, .null, .null]))] ++ wX5 cA b0 Z0 ++ wX2 cA b1 Z0 ++ wX6 cA b2 Z0 ++ wX6 cA b3 Z0 ++ wX6 cA b4 Z0 ++ wX6 cA b5 Z0 ++ [(q7, .inr (1, [.null, .null, .null, .int 0]))]) := hD
  refine lv_dup hx hb dX7_init_79 rfl ?_
  have hP : va_P D vwCl (([(h0, .inr (7, [.ref (b0 0), .ref (b1 0), .ref (b2 0), .ref (b3 0), .ref (b4 0), .ref (b5 0), .int 0, .null, .null, .null, .null, .null]))] ++ wX5 cA b0 Z0 ++ wX2 cA b1 Z0 ++ wX6 cA b2 Z0 ++ wX6 cA b3 Z0 ++ wX6 cA b4 Z0 ++ wX6 cA b5 Z0) ++ [(q7, .inr (1, [.null, .null, .null, .int 0]))]) H := hP
  have hD : va_D A (([(h0, .inr (7, [.ref (b0 0), .ref (b1 0), .ref (b2 0), .ref (b3 0), .ref (b4 0), .ref (b5 0), .int 0, .null, .null, .null, .null, .null]))] ++ wX5 cA b0 Z0 ++ wX2 cA b1 Z0 ++ wX6 cA b2 Z0 ++ wX6 cA b3 Z0 ++ wX6 cA b4 Z0 ++ wX6 cA b5 Z0) ++ [(q7, .inr (1, [.null, .null, .null, .int 0]))]) := hD
  refine cN_IN (As := []) (rest := [.ref q7, .ref h0]) (wr := ([(h0, .inr (7, [.ref (b0 0), .ref (b1 0), .ref (b2 0), .ref (b3 0), .ref (b4 0), .ref (b5 0), .int 0, .null, .null, .null, .null, .null]))] ++ wX5 cA b0 Z0 ++ wX2 cA b1 Z0 ++ wX6 cA b2 Z0 ++ wX6 cA b3 Z0 ++ wX6 cA b4 Z0 ++ wX6 cA b5 Z0)) ⟨hx, hb, hml, hown, hts⟩ (c_X1_init l D cA q7) ⟨va_cnB 0 hts gX7_init_X1_init_n45 rfl rfl rfl (hK.2 _ (List.mem_of_getElem? (i := 24) rfl) : va_Nw (Cond.methodLinkNest RX7 45 yX1_init "TiedToTown") s) (hts (.initialized RX1) (List.mem_of_getElem? (i := 22) rfl)) hd_X1_init.2 ⟨(Nat.le_of_ble_eq_true rfl), (Nat.le_of_ble_eq_true rfl)⟩, rfl, (hts (.instanceMethod yX1_init) (List.mem_of_getElem? (i := 55) rfl))⟩ hK hP hD hS hA rfl hl.1 rfl (Nat.le_of_ble_eq_true rfl) dX7_init_80 ⟨(Nat.le_of_ble_eq_true rfl), (Nat.le_of_ble_eq_true rfl)⟩ (fun b7 H locs hb7 hP2 hD2 hS => ?_)
  have hb7 : q7 = b7 0 := hb7.symm
  subst hb7
  have hP := hP2
  have hD := hD2
  have hP : va_P D vwCl ([(h0, .inr (7, [.ref (b0 0), .ref (b1 0), .ref (b2 0), .ref (b3 0), .ref (b4 0), .ref (b5 0), .int 0, .null, .null, .null, .null, .null]))] ++ wX5 cA b0 Z0 ++ wX2 cA b1 Z0 ++ wX6 cA b2 Z0 ++ wX6 cA b3 Z0 ++ wX6 cA b4 Z0 ++ wX6 cA b5 Z0 ++ wX1 cA b7 Z0) H := hP
  have hD : va_D A ([(h0, .inr (7, [.ref (b0 0), .ref (b1 0), .ref (b2 0), .ref (b3 0), .ref (b4 0), .ref (b5 0), .int 0, .null, .null, .null, .null, .null]))] ++ wX5 cA b0 Z0 ++ wX2 cA b1 Z0 ++ wX6 cA b2 Z0 ++ wX6 cA b3 Z0 ++ wX6 cA b4 Z0 ++ wX6 cA b5 Z0 ++ wX1 cA b7 Z0) := hD
  refine va_putF (D := D) (ci := 7) (v := .ref (b7 0)) (ty := .object "TiedToTown$Past") (C := RX7) (T := TX7) (N := 12) hx hb hts hinX7 tyX7 tyX7_ok nmX7 hown hK.1 hP hD hS 0 rfl rfl 7 (by decide) lkf46 (fun _ h9 => h9) rfl hin rfl (by decide +kernel) rfl rfl (Nat.le_of_ble_eq_true rfl) dX7_init_83 (fun H locs hP hD hS => ?_)
  have hP : va_P D vwCl ([(h0, .inr (7, [.ref (b0 0), .ref (b1 0), .ref (b2 0), .ref (b3 0), .ref (b4 0), .ref (b5 0), .int 0, .ref (b7 0), .null, .null, .null, .null]))] ++ wX5 cA b0 Z0 ++ wX2 cA b1 Z0 ++ wX6 cA b2 Z0 ++ wX6 cA b3 Z0 ++ wX6 cA b4 Z0 ++ wX6 cA b5 Z0 ++ wX1 cA b7 Z0) H := hP
  have hD : va_D A ([(h0, .inr (7, [.ref (b0 0), .ref (b1 0), .ref (b2 0), .ref (b3 0), .ref (b4 0), .ref (b5 0), .int 0, .ref (b7 0), .null, .null, .null, .null]))] ++ wX5 cA b0 Z0 ++ wX2 cA b1 Z0 ++ wX6 cA b2 Z0 ++ wX6 cA b3 Z0 ++ wX6 cA b4 Z0 ++ wX6 cA b5 Z0 ++ wX1 cA b7 Z0) := hD
  refine lv_aload_n hx hb dX7_init_86 rfl (lv_at hl 0 rfl) ?_
  refine va_new (ci := 0) (fs := [.null, .null]) (C := RX0) (T := TX0) (N := 2) hx hb hts hinX0 tyX0 tyX0_ok hown (hts (.classLink RX7 50 RX0) (List.mem_of_getElem? (i := 24) rfl)) (hts (.instantiable RX0 2) (List.mem_of_getElem? (i := 25) rfl)) (hts (.initialized RX0) (List.mem_of_getElem? (i := 26) rfl)) hK.1 hP hD hS hA rfl (fun j hj => by rcases (show j = 0 ∨ j = 1 by omega) with rfl | rfl <;> rfl) (Nat.le_of_ble_eq_true rfl) (Nat.le_of_ble_eq_true rfl) dX7_init_87 (fun q8 H hP hD hS => ?_)
  have hP : va_P D vwCl ([(h0, .inr (7, [.ref (b0 0), .ref (b1 0), .ref (b2 0), .ref (b3 0), .ref (b4 0), .ref (b5 0), .int 0, .ref (b7 0), .null, .null, .null, .null]))] ++ wX5 cA b0 Z0 ++ wX2 cA b1 Z0 ++ wX6 cA b2 Z0 ++ wX6 cA b3 Z0 ++ wX6 cA b4 Z0 ++ wX6 cA b5 Z0 ++ wX1 cA b7 Z0 ++ [(q8, .inr (0, [.null, .null]))]) H := hP
  have hD : va_D A ([(h0, .inr (7, [.ref (b0 0), .ref (b1 0), .ref (b2 0), .ref (b3 0), .ref (b4 0), .ref (b5 0), .int 0, .ref (b7 0), .null, .null, .null, .null]))] ++ wX5 cA b0 Z0 ++ wX2 cA b1 Z0 ++ wX6 cA b2 Z0 ++ wX6 cA b3 Z0 ++ wX6 cA b4 Z0 ++ wX6 cA b5 Z0 ++ wX1 cA b7 Z0 ++ [(q8, .inr (0, [.null, .null]))]) := hD
  refine lv_dup hx hb dX7_init_90 rfl ?_
  refine lv_aload_n hx hb dX7_init_91 rfl (lv_at hl 0 rfl) ?_
  refine va_get (D := D) (ci := 7) (v := .ref (b2 0)) (C := RX7) (T := TX7) (N := 12) hx hb hts hinX7 hown hK.1 hP 0 rfl rfl 2 (by decide) lkf26 (fun _ h9 => h9) rfl dX7_init_92 ?_
  have hP : va_P D vwCl (([(h0, .inr (7, [.ref (b0 0), .ref (b1 0), .ref (b2 0), .ref (b3 0), .ref (b4 0), .ref (b5 0), .int 0, .ref (b7 0), .null, .null, .null, .null]))] ++ wX5 cA b0 Z0 ++ wX2 cA b1 Z0 ++ wX6 cA b2 Z0 ++ wX6 cA b3 Z0 ++ wX6 cA b4 Z0 ++ wX6 cA b5 Z0 ++ wX1 cA b7 Z0) ++ [(q8, .inr (0, [.null, .null]))]) H := hP
  have hD : va_D A (([(h0, .inr (7, [.ref (b0 0), .ref (b1 0), .ref (b2 0), .ref (b3 0), .ref (b4 0), .ref (b5 0), .int 0, .ref (b7 0), .null, .null, .null, .null]))] ++ wX5 cA b0 Z0 ++ wX2 cA b1 Z0 ++ wX6 cA b2 Z0 ++ wX6 cA b3 Z0 ++ wX6 cA b4 Z0 ++ wX6 cA b5 Z0 ++ wX1 cA b7 Z0) ++ [(q8, .inr (0, [.null, .null]))]) := hD
  refine cN_I (As := [.ref (b2 0)]) (rest := [.ref q8, .ref h0]) (wr := ([(h0, .inr (7, [.ref (b0 0), .ref (b1 0), .ref (b2 0), .ref (b3 0), .ref (b4 0), .ref (b5 0), .int 0, .ref (b7 0), .null, .null, .null, .null]))] ++ wX5 cA b0 Z0 ++ wX2 cA b1 Z0 ++ wX6 cA b2 Z0 ++ wX6 cA b3 Z0 ++ wX6 cA b4 Z0 ++ wX6 cA b5 Z0 ++ wX1 cA b7 Z0)) ⟨hx, hb, hml, hown, hts⟩ (c_X0_init l D cA q8 (b2 0)) (cwI 1 hts gX7_init_X0_init rfl rfl rfl (hts (.initialized RX0) (List.mem_of_getElem? (i := 26) rfl)) (hts (.methodLink RX7 52 yX0_init) (List.mem_of_getElem? (i := 61) rfl)) (hts (.instanceMethod yX0_init) (List.mem_of_getElem? (i := 62) rfl)) rfl hd_X0_init.2 ⟨(Nat.le_of_ble_eq_true rfl), (Nat.le_of_ble_eq_true rfl)⟩) hK hP hD hS hA rfl hl.1 rfl (Nat.le_of_ble_eq_true rfl) dX7_init_95 ⟨(Nat.le_of_ble_eq_true rfl), (Nat.le_of_ble_eq_true rfl)⟩ (fun b8 H locs hb8 hP2 hD2 hS => ?_)
  have hb8 : q8 = b8 0 := hb8.symm
  subst hb8
  have hP := hP2
  have hD := hD2
  have hP : va_P D vwCl ([(h0, .inr (7, [.ref (b0 0), .ref (b1 0), .ref (b2 0), .ref (b3 0), .ref (b4 0), .ref (b5 0), .int 0, .ref (b7 0), .null, .null, .null, .null]))] ++ wX5 cA b0 Z0 ++ wX2 cA b1 Z0 ++ wX6 cA b2 Z0 ++ wX6 cA b3 Z0 ++ wX6 cA b4 Z0 ++ wX6 cA b5 Z0 ++ wX1 cA b7 Z0 ++ wX0 cA b8 (b2 0) Z0) H := hP
  have hD : va_D A ([(h0, .inr (7, [.ref (b0 0), .ref (b1 0), .ref (b2 0), .ref (b3 0), .ref (b4 0), .ref (b5 0), .int 0, .ref (b7 0), .null, .null, .null, .null]))] ++ wX5 cA b0 Z0 ++ wX2 cA b1 Z0 ++ wX6 cA b2 Z0 ++ wX6 cA b3 Z0 ++ wX6 cA b4 Z0 ++ wX6 cA b5 Z0 ++ wX1 cA b7 Z0 ++ wX0 cA b8 (b2 0) Z0) := hD
  refine va_putF (D := D) (ci := 7) (v := .ref (b8 0)) (ty := .object "TiedToTown$Outlook") (C := RX7) (T := TX7) (N := 12) hx hb hts hinX7 tyX7 tyX7_ok nmX7 hown hK.1 hP hD hS 0 rfl rfl 8 (by decide) lkf55 (fun _ h9 => h9) rfl hin rfl (by decide +kernel) rfl rfl (Nat.le_of_ble_eq_true rfl) dX7_init_98 (fun H locs hP hD hS => ?_)
  have hP : va_P D vwCl ([(h0, .inr (7, [.ref (b0 0), .ref (b1 0), .ref (b2 0), .ref (b3 0), .ref (b4 0), .ref (b5 0), .int 0, .ref (b7 0), .ref (b8 0), .null, .null, .null]))] ++ wX5 cA b0 Z0 ++ wX2 cA b1 Z0 ++ wX6 cA b2 Z0 ++ wX6 cA b3 Z0 ++ wX6 cA b4 Z0 ++ wX6 cA b5 Z0 ++ wX1 cA b7 Z0 ++ wX0 cA b8 (b2 0) Z0) H := hP
  have hD : va_D A ([(h0, .inr (7, [.ref (b0 0), .ref (b1 0), .ref (b2 0), .ref (b3 0), .ref (b4 0), .ref (b5 0), .int 0, .ref (b7 0), .ref (b8 0), .null, .null, .null]))] ++ wX5 cA b0 Z0 ++ wX2 cA b1 Z0 ++ wX6 cA b2 Z0 ++ wX6 cA b3 Z0 ++ wX6 cA b4 Z0 ++ wX6 cA b5 Z0 ++ wX1 cA b7 Z0 ++ wX0 cA b8 (b2 0) Z0) := hD
  refine lv_aload_n hx hb dX7_init_101 rfl (lv_at hl 0 rfl) ?_
  refine va_new (ci := 4) (fs := [.null, .int 0]) (C := RX4) (T := TX4) (N := 2) hx hb hts hinX4 tyX4 tyX4_ok hown (hts (.classLink RX7 59 RX4) (List.mem_of_getElem? (i := 28) rfl)) (hts (.instantiable RX4 2) (List.mem_of_getElem? (i := 29) rfl)) (hts (.initialized RX4) (List.mem_of_getElem? (i := 30) rfl)) hK.1 hP hD hS hA rfl (fun j hj => by rcases (show j = 0 ∨ j = 1 by omega) with rfl | rfl <;> rfl) (Nat.le_of_ble_eq_true rfl) (Nat.le_of_ble_eq_true rfl) dX7_init_102 (fun q9 H hP hD hS => ?_)
  have hP : va_P D vwCl ([(h0, .inr (7, [.ref (b0 0), .ref (b1 0), .ref (b2 0), .ref (b3 0), .ref (b4 0), .ref (b5 0), .int 0, .ref (b7 0), .ref (b8 0), .null, .null, .null]))] ++ wX5 cA b0 Z0 ++ wX2 cA b1 Z0 ++ wX6 cA b2 Z0 ++ wX6 cA b3 Z0 ++ wX6 cA b4 Z0 ++ wX6 cA b5 Z0 ++ wX1 cA b7 Z0 ++ wX0 cA b8 (b2 0) Z0 ++ [(q9, .inr (4, [.null, .int 0]))]) H := hP
  have hD : va_D A ([(h0, .inr (7, [.ref (b0 0), .ref (b1 0), .ref (b2 0), .ref (b3 0), .ref (b4 0), .ref (b5 0), .int 0, .ref (b7 0), .ref (b8 0), .null, .null, .null]))] ++ wX5 cA b0 Z0 ++ wX2 cA b1 Z0 ++ wX6 cA b2 Z0 ++ wX6 cA b3 Z0 ++ wX6 cA b4 Z0 ++ wX6 cA b5 Z0 ++ wX1 cA b7 Z0 ++ wX0 cA b8 (b2 0) Z0 ++ [(q9, .inr (4, [.null, .int 0]))]) := hD
  refine lv_dup hx hb dX7_init_105 rfl ?_
  have hP : va_P D vwCl (([(h0, .inr (7, [.ref (b0 0), .ref (b1 0), .ref (b2 0), .ref (b3 0), .ref (b4 0), .ref (b5 0), .int 0, .ref (b7 0), .ref (b8 0), .null, .null, .null]))] ++ wX5 cA b0 Z0 ++ wX2 cA b1 Z0 ++ wX6 cA b2 Z0 ++ wX6 cA b3 Z0 ++ wX6 cA b4 Z0 ++ wX6 cA b5 Z0 ++ wX1 cA b7 Z0 ++ wX0 cA b8 (b2 0) Z0) ++ [(q9, .inr (4, [.null, .int 0]))]) H := hP
  have hD : va_D A (([(h0, .inr (7, [.ref (b0 0), .ref (b1 0), .ref (b2 0), .ref (b3 0), .ref (b4 0), .ref (b5 0), .int 0, .ref (b7 0), .ref (b8 0), .null, .null, .null]))] ++ wX5 cA b0 Z0 ++ wX2 cA b1 Z0 ++ wX6 cA b2 Z0 ++ wX6 cA b3 Z0 ++ wX6 cA b4 Z0 ++ wX6 cA b5 Z0 ++ wX1 cA b7 Z0 ++ wX0 cA b8 (b2 0) Z0) ++ [(q9, .inr (4, [.null, .int 0]))]) := hD
  refine cN_IN (As := []) (rest := [.ref q9, .ref h0]) (wr := ([(h0, .inr (7, [.ref (b0 0), .ref (b1 0), .ref (b2 0), .ref (b3 0), .ref (b4 0), .ref (b5 0), .int 0, .ref (b7 0), .ref (b8 0), .null, .null, .null]))] ++ wX5 cA b0 Z0 ++ wX2 cA b1 Z0 ++ wX6 cA b2 Z0 ++ wX6 cA b3 Z0 ++ wX6 cA b4 Z0 ++ wX6 cA b5 Z0 ++ wX1 cA b7 Z0 ++ wX0 cA b8 (b2 0) Z0)) ⟨hx, hb, hml, hown, hts⟩ (c_X4_init l D cA q9) ⟨va_cnB 0 hts gX7_init_X4_init_n61 rfl rfl rfl (hK.2 _ (List.mem_of_getElem? (i := 25) rfl) : va_Nw (Cond.methodLinkNest RX7 61 yX4_init "TiedToTown") s) (hts (.initialized RX4) (List.mem_of_getElem? (i := 30) rfl)) hd_X4_init.2 ⟨(Nat.le_of_ble_eq_true rfl), (Nat.le_of_ble_eq_true rfl)⟩, rfl, (hts (.instanceMethod yX4_init) (List.mem_of_getElem? (i := 67) rfl))⟩ hK hP hD hS hA rfl hl.1 rfl (Nat.le_of_ble_eq_true rfl) dX7_init_106 ⟨(Nat.le_of_ble_eq_true rfl), (Nat.le_of_ble_eq_true rfl)⟩ (fun b9 H locs hb9 hP2 hD2 hS => ?_)
  have hb9 : q9 = b9 0 := hb9.symm
  subst hb9
  have hP := hP2
  have hD := hD2
  have hP : va_P D vwCl ([(h0, .inr (7, [.ref (b0 0), .ref (b1 0), .ref (b2 0), .ref (b3 0), .ref (b4 0), .ref (b5 0), .int 0, .ref (b7 0), .ref (b8 0), .null, .null, .null]))] ++ wX5 cA b0 Z0 ++ wX2 cA b1 Z0 ++ wX6 cA b2 Z0 ++ wX6 cA b3 Z0 ++ wX6 cA b4 Z0 ++ wX6 cA b5 Z0 ++ wX1 cA b7 Z0 ++ wX0 cA b8 (b2 0) Z0 ++ wX4 cA b9 Z0) H := hP
  have hD : va_D A ([(h0, .inr (7, [.ref (b0 0), .ref (b1 0), .ref (b2 0), .ref (b3 0), .ref (b4 0), .ref (b5 0), .int 0, .ref (b7 0), .ref (b8 0), .null, .null, .null]))] ++ wX5 cA b0 Z0 ++ wX2 cA b1 Z0 ++ wX6 cA b2 Z0 ++ wX6 cA b3 Z0 ++ wX6 cA b4 Z0 ++ wX6 cA b5 Z0 ++ wX1 cA b7 Z0 ++ wX0 cA b8 (b2 0) Z0 ++ wX4 cA b9 Z0) := hD
  refine va_putF (D := D) (ci := 7) (v := .ref (b9 0)) (ty := .object "TiedToTown$Row") (C := RX7) (T := TX7) (N := 12) hx hb hts hinX7 tyX7 tyX7_ok nmX7 hown hK.1 hP hD hS 0 rfl rfl 9 (by decide) lkf62 (fun _ h9 => h9) rfl hin rfl (by decide +kernel) rfl rfl (Nat.le_of_ble_eq_true rfl) dX7_init_109 (fun H locs hP hD hS => ?_)
  have hP : va_P D vwCl ([(h0, .inr (7, [.ref (b0 0), .ref (b1 0), .ref (b2 0), .ref (b3 0), .ref (b4 0), .ref (b5 0), .int 0, .ref (b7 0), .ref (b8 0), .ref (b9 0), .null, .null]))] ++ wX5 cA b0 Z0 ++ wX2 cA b1 Z0 ++ wX6 cA b2 Z0 ++ wX6 cA b3 Z0 ++ wX6 cA b4 Z0 ++ wX6 cA b5 Z0 ++ wX1 cA b7 Z0 ++ wX0 cA b8 (b2 0) Z0 ++ wX4 cA b9 Z0) H := hP
  have hD : va_D A ([(h0, .inr (7, [.ref (b0 0), .ref (b1 0), .ref (b2 0), .ref (b3 0), .ref (b4 0), .ref (b5 0), .int 0, .ref (b7 0), .ref (b8 0), .ref (b9 0), .null, .null]))] ++ wX5 cA b0 Z0 ++ wX2 cA b1 Z0 ++ wX6 cA b2 Z0 ++ wX6 cA b3 Z0 ++ wX6 cA b4 Z0 ++ wX6 cA b5 Z0 ++ wX1 cA b7 Z0 ++ wX0 cA b8 (b2 0) Z0 ++ wX4 cA b9 Z0) := hD
  refine lv_aload_n hx hb dX7_init_112 rfl (lv_at hl 0 rfl) ?_
  refine va_new (ci := 3) (fs := [.null, .int 0, .int 0]) (C := RX3) (T := TX3) (N := 3) hx hb hts hinX3 tyX3 tyX3_ok hown (hts (.classLink RX7 66 RX3) (List.mem_of_getElem? (i := 32) rfl)) (hts (.instantiable RX3 3) (List.mem_of_getElem? (i := 33) rfl)) (hts (.initialized RX3) (List.mem_of_getElem? (i := 34) rfl)) hK.1 hP hD hS hA rfl (fun j hj => by rcases (show j = 0 ∨ j = 1 ∨ j = 2 by omega) with rfl | rfl | rfl <;> rfl) (Nat.le_of_ble_eq_true rfl) (Nat.le_of_ble_eq_true rfl) dX7_init_113 (fun q10 H hP hD hS => ?_)
  have hP : va_P D vwCl ([(h0, .inr (7, [.ref (b0 0), .ref (b1 0), .ref (b2 0), .ref (b3 0), .ref (b4 0), .ref (b5 0), .int 0, .ref (b7 0), .ref (b8 0), .ref (b9 0), .null, .null]))] ++ wX5 cA b0 Z0 ++ wX2 cA b1 Z0 ++ wX6 cA b2 Z0 ++ wX6 cA b3 Z0 ++ wX6 cA b4 Z0 ++ wX6 cA b5 Z0 ++ wX1 cA b7 Z0 ++ wX0 cA b8 (b2 0) Z0 ++ wX4 cA b9 Z0 ++ [(q10, .inr (3, [.null, .int 0, .int 0]))]) H := hP
  have hD : va_D A ([(h0, .inr (7, [.ref (b0 0), .ref (b1 0), .ref (b2 0), .ref (b3 0), .ref (b4 0), .ref (b5 0), .int 0, .ref (b7 0), .ref (b8 0), .ref (b9 0), .null, .null]))] ++ wX5 cA b0 Z0 ++ wX2 cA b1 Z0 ++ wX6 cA b2 Z0 ++ wX6 cA b3 Z0 ++ wX6 cA b4 Z0 ++ wX6 cA b5 Z0 ++ wX1 cA b7 Z0 ++ wX0 cA b8 (b2 0) Z0 ++ wX4 cA b9 Z0 ++ [(q10, .inr (3, [.null, .int 0, .int 0]))]) := hD
  refine lv_dup hx hb dX7_init_116 rfl ?_
  have hP : va_P D vwCl (([(h0, .inr (7, [.ref (b0 0), .ref (b1 0), .ref (b2 0), .ref (b3 0), .ref (b4 0), .ref (b5 0), .int 0, .ref (b7 0), .ref (b8 0), .ref (b9 0), .null, .null]))] ++ wX5 cA b0 Z0 ++ wX2 cA b1 Z0 ++ wX6 cA b2 Z0 ++ wX6 cA b3 Z0 ++ wX6 cA b4 Z0 ++ wX6 cA b5 Z0 ++ wX1 cA b7 Z0 ++ wX0 cA b8 (b2 0) Z0 ++ wX4 cA b9 Z0) ++ [(q10, .inr (3, [.null, .int 0, .int 0]))]) H := hP
  have hD : va_D A (([(h0, .inr (7, [.ref (b0 0), .ref (b1 0), .ref (b2 0), .ref (b3 0), .ref (b4 0), .ref (b5 0), .int 0, .ref (b7 0), .ref (b8 0), .ref (b9 0), .null, .null]))] ++ wX5 cA b0 Z0 ++ wX2 cA b1 Z0 ++ wX6 cA b2 Z0 ++ wX6 cA b3 Z0 ++ wX6 cA b4 Z0 ++ wX6 cA b5 Z0 ++ wX1 cA b7 Z0 ++ wX0 cA b8 (b2 0) Z0 ++ wX4 cA b9 Z0) ++ [(q10, .inr (3, [.null, .int 0, .int 0]))]) := hD
  refine cN_IN (As := []) (rest := [.ref q10, .ref h0]) (wr := ([(h0, .inr (7, [.ref (b0 0), .ref (b1 0), .ref (b2 0), .ref (b3 0), .ref (b4 0), .ref (b5 0), .int 0, .ref (b7 0), .ref (b8 0), .ref (b9 0), .null, .null]))] ++ wX5 cA b0 Z0 ++ wX2 cA b1 Z0 ++ wX6 cA b2 Z0 ++ wX6 cA b3 Z0 ++ wX6 cA b4 Z0 ++ wX6 cA b5 Z0 ++ wX1 cA b7 Z0 ++ wX0 cA b8 (b2 0) Z0 ++ wX4 cA b9 Z0)) ⟨hx, hb, hml, hown, hts⟩ (c_X3_init l D cA q10) ⟨va_cnB 0 hts gX7_init_X3_init_n68 rfl rfl rfl (hK.2 _ (List.mem_of_getElem? (i := 26) rfl) : va_Nw (Cond.methodLinkNest RX7 68 yX3_init "TiedToTown") s) (hts (.initialized RX3) (List.mem_of_getElem? (i := 34) rfl)) hd_X3_init.2 ⟨(Nat.le_of_ble_eq_true rfl), (Nat.le_of_ble_eq_true rfl)⟩, rfl, (hts (.instanceMethod yX3_init) (List.mem_of_getElem? (i := 71) rfl))⟩ hK hP hD hS hA rfl hl.1 rfl (Nat.le_of_ble_eq_true rfl) dX7_init_117 ⟨(Nat.le_of_ble_eq_true rfl), (Nat.le_of_ble_eq_true rfl)⟩ (fun b10 H locs hb10 hP2 hD2 hS => ?_)
  have hb10 : q10 = b10 0 := hb10.symm
  subst hb10
  have hP := hP2
  have hD := hD2
  have hP : va_P D vwCl ([(h0, .inr (7, [.ref (b0 0), .ref (b1 0), .ref (b2 0), .ref (b3 0), .ref (b4 0), .ref (b5 0), .int 0, .ref (b7 0), .ref (b8 0), .ref (b9 0), .null, .null]))] ++ wX5 cA b0 Z0 ++ wX2 cA b1 Z0 ++ wX6 cA b2 Z0 ++ wX6 cA b3 Z0 ++ wX6 cA b4 Z0 ++ wX6 cA b5 Z0 ++ wX1 cA b7 Z0 ++ wX0 cA b8 (b2 0) Z0 ++ wX4 cA b9 Z0 ++ wX3 cA b10 Z0) H := hP
  have hD : va_D A ([(h0, .inr (7, [.ref (b0 0), .ref (b1 0), .ref (b2 0), .ref (b3 0), .ref (b4 0), .ref (b5 0), .int 0, .ref (b7 0), .ref (b8 0), .ref (b9 0), .null, .null]))] ++ wX5 cA b0 Z0 ++ wX2 cA b1 Z0 ++ wX6 cA b2 Z0 ++ wX6 cA b3 Z0 ++ wX6 cA b4 Z0 ++ wX6 cA b5 Z0 ++ wX1 cA b7 Z0 ++ wX0 cA b8 (b2 0) Z0 ++ wX4 cA b9 Z0 ++ wX3 cA b10 Z0) := hD
  refine va_putF (D := D) (ci := 7) (v := .ref (b10 0)) (ty := .object "TiedToTown$Rope") (C := RX7) (T := TX7) (N := 12) hx hb hts hinX7 tyX7 tyX7_ok nmX7 hown hK.1 hP hD hS 0 rfl rfl 10 (by decide) lkf69 (fun _ h9 => h9) rfl hin rfl (by decide +kernel) rfl rfl (Nat.le_of_ble_eq_true rfl) dX7_init_120 (fun H locs hP hD hS => ?_)
  have hP : va_P D vwCl ([(h0, .inr (7, [.ref (b0 0), .ref (b1 0), .ref (b2 0), .ref (b3 0), .ref (b4 0), .ref (b5 0), .int 0, .ref (b7 0), .ref (b8 0), .ref (b9 0), .ref (b10 0), .null]))] ++ wX5 cA b0 Z0 ++ wX2 cA b1 Z0 ++ wX6 cA b2 Z0 ++ wX6 cA b3 Z0 ++ wX6 cA b4 Z0 ++ wX6 cA b5 Z0 ++ wX1 cA b7 Z0 ++ wX0 cA b8 (b2 0) Z0 ++ wX4 cA b9 Z0 ++ wX3 cA b10 Z0) H := hP
  have hD : va_D A ([(h0, .inr (7, [.ref (b0 0), .ref (b1 0), .ref (b2 0), .ref (b3 0), .ref (b4 0), .ref (b5 0), .int 0, .ref (b7 0), .ref (b8 0), .ref (b9 0), .ref (b10 0), .null]))] ++ wX5 cA b0 Z0 ++ wX2 cA b1 Z0 ++ wX6 cA b2 Z0 ++ wX6 cA b3 Z0 ++ wX6 cA b4 Z0 ++ wX6 cA b5 Z0 ++ wX1 cA b7 Z0 ++ wX0 cA b8 (b2 0) Z0 ++ wX4 cA b9 Z0 ++ wX3 cA b10 Z0) := hD
  refine lv_aload_n hx hb dX7_init_123 rfl (lv_at hl 0 rfl) ?_
  refine va_new (ci := 3) (fs := [.null, .int 0, .int 0]) (C := RX3) (T := TX3) (N := 3) hx hb hts hinX3 tyX3 tyX3_ok hown (hts (.classLink RX7 66 RX3) (List.mem_of_getElem? (i := 32) rfl)) (hts (.instantiable RX3 3) (List.mem_of_getElem? (i := 33) rfl)) (hts (.initialized RX3) (List.mem_of_getElem? (i := 34) rfl)) hK.1 hP hD hS hA rfl (fun j hj => by rcases (show j = 0 ∨ j = 1 ∨ j = 2 by omega) with rfl | rfl | rfl <;> rfl) (Nat.le_of_ble_eq_true rfl) (Nat.le_of_ble_eq_true rfl) dX7_init_124 (fun q11 H hP hD hS => ?_)
  have hP : va_P D vwCl ([(h0, .inr (7, [.ref (b0 0), .ref (b1 0), .ref (b2 0), .ref (b3 0), .ref (b4 0), .ref (b5 0), .int 0, .ref (b7 0), .ref (b8 0), .ref (b9 0), .ref (b10 0), .null]))] ++ wX5 cA b0 Z0 ++ wX2 cA b1 Z0 ++ wX6 cA b2 Z0 ++ wX6 cA b3 Z0 ++ wX6 cA b4 Z0 ++ wX6 cA b5 Z0 ++ wX1 cA b7 Z0 ++ wX0 cA b8 (b2 0) Z0 ++ wX4 cA b9 Z0 ++ wX3 cA b10 Z0 ++ [(q11, .inr (3, [.null, .int 0, .int 0]))]) H := hP
  have hD : va_D A ([(h0, .inr (7, [.ref (b0 0), .ref (b1 0), .ref (b2 0), .ref (b3 0), .ref (b4 0), .ref (b5 0), .int 0, .ref (b7 0), .ref (b8 0), .ref (b9 0), .ref (b10 0), .null]))] ++ wX5 cA b0 Z0 ++ wX2 cA b1 Z0 ++ wX6 cA b2 Z0 ++ wX6 cA b3 Z0 ++ wX6 cA b4 Z0 ++ wX6 cA b5 Z0 ++ wX1 cA b7 Z0 ++ wX0 cA b8 (b2 0) Z0 ++ wX4 cA b9 Z0 ++ wX3 cA b10 Z0 ++ [(q11, .inr (3, [.null, .int 0, .int 0]))]) := hD
  refine lv_dup hx hb dX7_init_127 rfl ?_
  have hP : va_P D vwCl (([(h0, .inr (7, [.ref (b0 0), .ref (b1 0), .ref (b2 0), .ref (b3 0), .ref (b4 0), .ref (b5 0), .int 0, .ref (b7 0), .ref (b8 0), .ref (b9 0), .ref (b10 0), .null]))] ++ wX5 cA b0 Z0 ++ wX2 cA b1 Z0 ++ wX6 cA b2 Z0 ++ wX6 cA b3 Z0 ++ wX6 cA b4 Z0 ++ wX6 cA b5 Z0 ++ wX1 cA b7 Z0 ++ wX0 cA b8 (b2 0) Z0 ++ wX4 cA b9 Z0 ++ wX3 cA b10 Z0) ++ [(q11, .inr (3, [.null, .int 0, .int 0]))]) H := hP
  have hD : va_D A (([(h0, .inr (7, [.ref (b0 0), .ref (b1 0), .ref (b2 0), .ref (b3 0), .ref (b4 0), .ref (b5 0), .int 0, .ref (b7 0), .ref (b8 0), .ref (b9 0), .ref (b10 0), .null]))] ++ wX5 cA b0 Z0 ++ wX2 cA b1 Z0 ++ wX6 cA b2 Z0 ++ wX6 cA b3 Z0 ++ wX6 cA b4 Z0 ++ wX6 cA b5 Z0 ++ wX1 cA b7 Z0 ++ wX0 cA b8 (b2 0) Z0 ++ wX4 cA b9 Z0 ++ wX3 cA b10 Z0) ++ [(q11, .inr (3, [.null, .int 0, .int 0]))]) := hD
  refine cN_IN (As := []) (rest := [.ref q11, .ref h0]) (wr := ([(h0, .inr (7, [.ref (b0 0), .ref (b1 0), .ref (b2 0), .ref (b3 0), .ref (b4 0), .ref (b5 0), .int 0, .ref (b7 0), .ref (b8 0), .ref (b9 0), .ref (b10 0), .null]))] ++ wX5 cA b0 Z0 ++ wX2 cA b1 Z0 ++ wX6 cA b2 Z0 ++ wX6 cA b3 Z0 ++ wX6 cA b4 Z0 ++ wX6 cA b5 Z0 ++ wX1 cA b7 Z0 ++ wX0 cA b8 (b2 0) Z0 ++ wX4 cA b9 Z0 ++ wX3 cA b10 Z0)) ⟨hx, hb, hml, hown, hts⟩ (c_X3_init l D cA q11) ⟨va_cnB 0 hts gX7_init_X3_init_n68 rfl rfl rfl (hK.2 _ (List.mem_of_getElem? (i := 26) rfl) : va_Nw (Cond.methodLinkNest RX7 68 yX3_init "TiedToTown") s) (hts (.initialized RX3) (List.mem_of_getElem? (i := 34) rfl)) hd_X3_init.2 ⟨(Nat.le_of_ble_eq_true rfl), (Nat.le_of_ble_eq_true rfl)⟩, rfl, (hts (.instanceMethod yX3_init) (List.mem_of_getElem? (i := 71) rfl))⟩ hK hP hD hS hA rfl hl.1 rfl (Nat.le_of_ble_eq_true rfl) dX7_init_128 ⟨(Nat.le_of_ble_eq_true rfl), (Nat.le_of_ble_eq_true rfl)⟩ (fun b11 H locs hb11 hP2 hD2 hS => ?_)
  have hb11 : q11 = b11 0 := hb11.symm
  subst hb11
  have hP := hP2
  have hD := hD2
  have hP : va_P D vwCl ([(h0, .inr (7, [.ref (b0 0), .ref (b1 0), .ref (b2 0), .ref (b3 0), .ref (b4 0), .ref (b5 0), .int 0, .ref (b7 0), .ref (b8 0), .ref (b9 0), .ref (b10 0), .null]))] ++ wX5 cA b0 Z0 ++ wX2 cA b1 Z0 ++ wX6 cA b2 Z0 ++ wX6 cA b3 Z0 ++ wX6 cA b4 Z0 ++ wX6 cA b5 Z0 ++ wX1 cA b7 Z0 ++ wX0 cA b8 (b2 0) Z0 ++ wX4 cA b9 Z0 ++ wX3 cA b10 Z0 ++ wX3 cA b11 Z0) H := hP
  have hD : va_D A ([(h0, .inr (7, [.ref (b0 0), .ref (b1 0), .ref (b2 0), .ref (b3 0), .ref (b4 0), .ref (b5 0), .int 0, .ref (b7 0), .ref (b8 0), .ref (b9 0), .ref (b10 0), .null]))] ++ wX5 cA b0 Z0 ++ wX2 cA b1 Z0 ++ wX6 cA b2 Z0 ++ wX6 cA b3 Z0 ++ wX6 cA b4 Z0 ++ wX6 cA b5 Z0 ++ wX1 cA b7 Z0 ++ wX0 cA b8 (b2 0) Z0 ++ wX4 cA b9 Z0 ++ wX3 cA b10 Z0 ++ wX3 cA b11 Z0) := hD
  refine va_putF (D := D) (ci := 7) (v := .ref (b11 0)) (ty := .object "TiedToTown$Rope") (C := RX7) (T := TX7) (N := 12) hx hb hts hinX7 tyX7 tyX7_ok nmX7 hown hK.1 hP hD hS 0 rfl rfl 11 (by decide) lkf73 (fun _ h9 => h9) rfl hin rfl (by decide +kernel) rfl rfl (Nat.le_of_ble_eq_true rfl) dX7_init_131 (fun H locs hP hD hS => ?_)
  have hP : va_P D vwCl ([(h0, .inr (7, [.ref (b0 0), .ref (b1 0), .ref (b2 0), .ref (b3 0), .ref (b4 0), .ref (b5 0), .int 0, .ref (b7 0), .ref (b8 0), .ref (b9 0), .ref (b10 0), .ref (b11 0)]))] ++ wX5 cA b0 Z0 ++ wX2 cA b1 Z0 ++ wX6 cA b2 Z0 ++ wX6 cA b3 Z0 ++ wX6 cA b4 Z0 ++ wX6 cA b5 Z0 ++ wX1 cA b7 Z0 ++ wX0 cA b8 (b2 0) Z0 ++ wX4 cA b9 Z0 ++ wX3 cA b10 Z0 ++ wX3 cA b11 Z0) H := hP
  have hD : va_D A ([(h0, .inr (7, [.ref (b0 0), .ref (b1 0), .ref (b2 0), .ref (b3 0), .ref (b4 0), .ref (b5 0), .int 0, .ref (b7 0), .ref (b8 0), .ref (b9 0), .ref (b10 0), .ref (b11 0)]))] ++ wX5 cA b0 Z0 ++ wX2 cA b1 Z0 ++ wX6 cA b2 Z0 ++ wX6 cA b3 Z0 ++ wX6 cA b4 Z0 ++ wX6 cA b5 Z0 ++ wX1 cA b7 Z0 ++ wX0 cA b8 (b2 0) Z0 ++ wX4 cA b9 Z0 ++ wX3 cA b10 Z0 ++ wX3 cA b11 Z0) := hD
  refine W.widen (k := 44) (n := 882) (Nat.le_of_ble_eq_true rfl) (Nat.le_of_ble_eq_true rfl) ?_
  obtain ⟨ad, ead⟩ : ∃ a : Nat → Nat → Nat, a = (fun k => match k with | 6 => (fun _ => h0) | 0 => b0 | 1 => b1 | 2 => b2 | 3 => b3 | 4 => b4 | 5 => b5 | 7 => b7 | 8 => b8 | 9 => b9 | 10 => b10 | 11 => b11 | _ => (fun _ => 0)) := ⟨_, rfl⟩
  have e0 : h0 = ad 6 0 := by rw [ead]; rfl
  have hP : va_P D vwCl (wX7 cA ad (fun _ => Z0)) H := by rw [ead]; exact P_perm (b := [(h0, .inr (7, [.ref (b0 0), .ref (b1 0), .ref (b2 0), .ref (b3 0), .ref (b4 0), .ref (b5 0), .int 0, .ref (b7 0), .ref (b8 0), .ref (b9 0), .ref (b10 0), .ref (b11 0)]))] ++ (wX5 cA b0 Z0 ++ (wX2 cA b1 Z0 ++ (wX6 cA b2 Z0 ++ (wX6 cA b3 Z0 ++ (wX6 cA b4 Z0 ++ (wX6 cA b5 Z0 ++ (wX1 cA b7 Z0 ++ (wX0 cA b8 (b2 0) Z0 ++ (wX4 cA b9 Z0 ++ (wX3 cA b10 Z0 ++ (wX3 cA b11 Z0)))))))))))) (perm_of (fun c hc => by simp only [hc]; omega)) hP
  have hD : va_D A (wX7 cA ad (fun _ => Z0)) := by rw [ead]; exact D_perm (b := [(h0, .inr (7, [.ref (b0 0), .ref (b1 0), .ref (b2 0), .ref (b3 0), .ref (b4 0), .ref (b5 0), .int 0, .ref (b7 0), .ref (b8 0), .ref (b9 0), .ref (b10 0), .ref (b11 0)]))] ++ (wX5 cA b0 Z0 ++ (wX2 cA b1 Z0 ++ (wX6 cA b2 Z0 ++ (wX6 cA b3 Z0 ++ (wX6 cA b4 Z0 ++ (wX6 cA b5 Z0 ++ (wX1 cA b7 Z0 ++ (wX0 cA b8 (b2 0) Z0 ++ (wX4 cA b9 Z0 ++ (wX3 cA b10 Z0 ++ (wX3 cA b11 Z0)))))))))))) (perm_of (fun c hc => by simp only [hc]; omega)) hD
  have hl : lv_has ls 1 [(0, .ref (ad 6 0))] := e0 ▸ hl
  unfold f_X7_init at h
  refine lv_aload_n hx hb dX7_init_134 rfl (lv_at hl 0 rfl) ?_
  refine va_get (D := D) (ci := 7) (v := .ref (ad 2 0)) (C := RX7) (T := TX7) (N := 12) hx hb hts hinX7 hown hK.1 hP 0 rfl rfl 2 (by decide) lkf26 (fun _ h9 => h9) rfl dX7_init_135 ?_
  refine lv_iconst (v := (1 : Int32)) hx hb dX7_init_138 (by decide) ?_
  obtain ⟨z1, hz1, h⟩ := bd_some h
  refine pW_V (As := [.int (1 : Int32)]) (rest := []) (wr := (tX7 ad ((fun _ => Z0) 6) ++ (wX5 cA (ad 0) ((fun _ => Z0) 0) ++ (wX2 cA (ad 1) ((fun _ => Z0) 1) ++ (wX6 cA (ad 3) ((fun _ => Z0) 3) ++ (wX6 cA (ad 4) ((fun _ => Z0) 4) ++ (wX6 cA (ad 5) ((fun _ => Z0) 5) ++ (wX1 cA (ad 7) ((fun _ => Z0) 7) ++ (wX0 cA (ad 8) (ad 2 0) ((fun _ => Z0) 8) ++ (wX4 cA (ad 9) ((fun _ => Z0) 9) ++ (wX3 cA (ad 10) ((fun _ => Z0) 10) ++ (wX3 cA (ad 11) ((fun _ => Z0) 11))))))))))))) (wn := (wX7 cA ad (sX (fun _ => Z0) 2 z1.2))) ⟨hx, hb, hml, hown, hts⟩ (c_X6_addPerson l D cA (ad 2) ((fun _ => Z0) 2) (1 : Int32) z1.1 z1.2 hz1) (cwV 1 hts gX7_init_X6_addPerson rfl rfl rfl hd_X6_addPerson ⟨(Nat.le_of_ble_eq_true rfl), (Nat.le_of_ble_eq_true rfl)⟩) (recvK hK (P_left (wc := wX6 cA (ad 2) ((fun _ => Z0) 2)) (R := (tX7 ad ((fun _ => Z0) 6) ++ (wX5 cA (ad 0) ((fun _ => Z0) 0) ++ (wX2 cA (ad 1) ((fun _ => Z0) 1) ++ (wX6 cA (ad 3) ((fun _ => Z0) 3) ++ (wX6 cA (ad 4) ((fun _ => Z0) 4) ++ (wX6 cA (ad 5) ((fun _ => Z0) 5) ++ (wX1 cA (ad 7) ((fun _ => Z0) 7) ++ (wX0 cA (ad 8) (ad 2 0) ((fun _ => Z0) 8) ++ (wX4 cA (ad 9) ((fun _ => Z0) 9) ++ (wX3 cA (ad 10) ((fun _ => Z0) 10) ++ (wX3 cA (ad 11) ((fun _ => Z0) 11))))))))))))) (perm_of (fun c hc => by unfold wX7 wX7b; simp only [hc]; omega)) hP) 0 6 rfl rfl) hK hP hD hS hA (perm_of (fun c hc => by unfold wX7 wX7b; simp only [hc]; omega)) (perm_of (fun c hc => by rw [show wX7 cA ad (sX (fun _ => Z0) 2 z1.2) = wX7b cA ad ((fun _ => Z0) 0) ((fun _ => Z0) 1) z1.2 ((fun _ => Z0) 3) ((fun _ => Z0) 4) ((fun _ => Z0) 5) ((fun _ => Z0) 6) ((fun _ => Z0) 7) ((fun _ => Z0) 8) ((fun _ => Z0) 9) ((fun _ => Z0) 10) ((fun _ => Z0) 11) from rfl]; unfold wX7b; simp only [hc]; omega)) rfl hl.1 rfl (Nat.le_of_ble_eq_true rfl) dX7_init_139 ⟨(Nat.le_of_ble_eq_true rfl), (Nat.le_of_ble_eq_true rfl)⟩ (fun H locs hP hD hS => ?_)
  obtain ⟨s2, es2⟩ : ∃ z, z = sX (fun _ => Z0) 2 z1.2 := ⟨_, rfl⟩
  rw [← es2] at hP hD
  have h := nm_ap es2 h
  refine lv_pop hx hb dX7_init_142 rfl ?_
  refine lv_aload_n hx hb dX7_init_143 rfl (lv_at hl 0 rfl) ?_
  refine va_get (D := D) (ci := 7) (v := .ref (ad 2 0)) (C := RX7) (T := TX7) (N := 12) hx hb hts hinX7 hown hK.1 hP 0 rfl rfl 2 (by decide) lkf26 (fun _ h9 => h9) rfl dX7_init_144 ?_
  refine lv_iconst (v := (1 : Int32)) hx hb dX7_init_147 (by decide) ?_
  obtain ⟨z3, hz3, h⟩ := bd_some h
  refine pW_V (As := [.int (1 : Int32)]) (rest := []) (wr := (tX7 ad (s2 6) ++ (wX5 cA (ad 0) (s2 0) ++ (wX2 cA (ad 1) (s2 1) ++ (wX6 cA (ad 3) (s2 3) ++ (wX6 cA (ad 4) (s2 4) ++ (wX6 cA (ad 5) (s2 5) ++ (wX1 cA (ad 7) (s2 7) ++ (wX0 cA (ad 8) (ad 2 0) (s2 8) ++ (wX4 cA (ad 9) (s2 9) ++ (wX3 cA (ad 10) (s2 10) ++ (wX3 cA (ad 11) (s2 11))))))))))))) (wn := (wX7 cA ad (sX s2 2 z3.2))) ⟨hx, hb, hml, hown, hts⟩ (c_X6_addPerson l D cA (ad 2) (s2 2) (1 : Int32) z3.1 z3.2 hz3) (cwV 1 hts gX7_init_X6_addPerson rfl rfl rfl hd_X6_addPerson ⟨(Nat.le_of_ble_eq_true rfl), (Nat.le_of_ble_eq_true rfl)⟩) (recvK hK (P_left (wc := wX6 cA (ad 2) (s2 2)) (R := (tX7 ad (s2 6) ++ (wX5 cA (ad 0) (s2 0) ++ (wX2 cA (ad 1) (s2 1) ++ (wX6 cA (ad 3) (s2 3) ++ (wX6 cA (ad 4) (s2 4) ++ (wX6 cA (ad 5) (s2 5) ++ (wX1 cA (ad 7) (s2 7) ++ (wX0 cA (ad 8) (ad 2 0) (s2 8) ++ (wX4 cA (ad 9) (s2 9) ++ (wX3 cA (ad 10) (s2 10) ++ (wX3 cA (ad 11) (s2 11))))))))))))) (perm_of (fun c hc => by unfold wX7 wX7b; simp only [hc]; omega)) hP) 0 6 rfl rfl) hK hP hD hS hA (perm_of (fun c hc => by unfold wX7 wX7b; simp only [hc]; omega)) (perm_of (fun c hc => by rw [show wX7 cA ad (sX s2 2 z3.2) = wX7b cA ad (s2 0) (s2 1) z3.2 (s2 3) (s2 4) (s2 5) (s2 6) (s2 7) (s2 8) (s2 9) (s2 10) (s2 11) from rfl]; unfold wX7b; simp only [hc]; omega)) rfl hl.1 rfl (Nat.le_of_ble_eq_true rfl) dX7_init_148 ⟨(Nat.le_of_ble_eq_true rfl), (Nat.le_of_ble_eq_true rfl)⟩ (fun H locs hP hD hS => ?_)
  obtain ⟨s4, es4⟩ : ∃ z, z = sX s2 2 z3.2 := ⟨_, rfl⟩
  rw [← es4] at hP hD
  have h := nm_ap es4 h
  refine lv_pop hx hb dX7_init_151 rfl ?_
  refine lv_aload_n hx hb dX7_init_152 rfl (lv_at hl 0 rfl) ?_
  refine va_get (D := D) (ci := 7) (v := .ref (ad 2 0)) (C := RX7) (T := TX7) (N := 12) hx hb hts hinX7 hown hK.1 hP 0 rfl rfl 2 (by decide) lkf26 (fun _ h9 => h9) rfl dX7_init_153 ?_
  refine lv_iconst (v := (1 : Int32)) hx hb dX7_init_156 (by decide) ?_
  obtain ⟨z5, hz5, h⟩ := bd_some h
  refine pW_V (As := [.int (1 : Int32)]) (rest := []) (wr := (tX7 ad (s4 6) ++ (wX5 cA (ad 0) (s4 0) ++ (wX2 cA (ad 1) (s4 1) ++ (wX6 cA (ad 3) (s4 3) ++ (wX6 cA (ad 4) (s4 4) ++ (wX6 cA (ad 5) (s4 5) ++ (wX1 cA (ad 7) (s4 7) ++ (wX0 cA (ad 8) (ad 2 0) (s4 8) ++ (wX4 cA (ad 9) (s4 9) ++ (wX3 cA (ad 10) (s4 10) ++ (wX3 cA (ad 11) (s4 11))))))))))))) (wn := (wX7 cA ad (sX s4 2 z5.2))) ⟨hx, hb, hml, hown, hts⟩ (c_X6_addPerson l D cA (ad 2) (s4 2) (1 : Int32) z5.1 z5.2 hz5) (cwV 1 hts gX7_init_X6_addPerson rfl rfl rfl hd_X6_addPerson ⟨(Nat.le_of_ble_eq_true rfl), (Nat.le_of_ble_eq_true rfl)⟩) (recvK hK (P_left (wc := wX6 cA (ad 2) (s4 2)) (R := (tX7 ad (s4 6) ++ (wX5 cA (ad 0) (s4 0) ++ (wX2 cA (ad 1) (s4 1) ++ (wX6 cA (ad 3) (s4 3) ++ (wX6 cA (ad 4) (s4 4) ++ (wX6 cA (ad 5) (s4 5) ++ (wX1 cA (ad 7) (s4 7) ++ (wX0 cA (ad 8) (ad 2 0) (s4 8) ++ (wX4 cA (ad 9) (s4 9) ++ (wX3 cA (ad 10) (s4 10) ++ (wX3 cA (ad 11) (s4 11))))))))))))) (perm_of (fun c hc => by unfold wX7 wX7b; simp only [hc]; omega)) hP) 0 6 rfl rfl) hK hP hD hS hA (perm_of (fun c hc => by unfold wX7 wX7b; simp only [hc]; omega)) (perm_of (fun c hc => by rw [show wX7 cA ad (sX s4 2 z5.2) = wX7b cA ad (s4 0) (s4 1) z5.2 (s4 3) (s4 4) (s4 5) (s4 6) (s4 7) (s4 8) (s4 9) (s4 10) (s4 11) from rfl]; unfold wX7b; simp only [hc]; omega)) rfl hl.1 rfl (Nat.le_of_ble_eq_true rfl) dX7_init_157 ⟨(Nat.le_of_ble_eq_true rfl), (Nat.le_of_ble_eq_true rfl)⟩ (fun H locs hP hD hS => ?_)
  obtain ⟨s6, es6⟩ : ∃ z, z = sX s4 2 z5.2 := ⟨_, rfl⟩
  rw [← es6] at hP hD
  have h := nm_ap es6 h
  refine lv_pop hx hb dX7_init_160 rfl ?_
  refine lv_aload_n hx hb dX7_init_161 rfl (lv_at hl 0 rfl) ?_
  refine va_get (D := D) (ci := 7) (v := .ref (ad 2 0)) (C := RX7) (T := TX7) (N := 12) hx hb hts hinX7 hown hK.1 hP 0 rfl rfl 2 (by decide) lkf26 (fun _ h9 => h9) rfl dX7_init_162 ?_
  refine lv_iconst (v := (0 : Int32)) hx hb dX7_init_165 (by decide) ?_
  refine lv_iconst (v := (1 : Int32)) hx hb dX7_init_166 (by decide) ?_
  refine lv_iconst (v := (0 : Int32)) hx hb dX7_init_167 (by decide) ?_
  refine lv_iconst (v := (5 : Int32)) hx hb dX7_init_168 (by decide) ?_
  refine lv_iconst (v := (0 : Int32)) hx hb dX7_init_169 (by decide) ?_
  obtain ⟨z7, hz7, h⟩ := bd_some h
  refine pW_V (As := [.int (0 : Int32), .int (1 : Int32), .int (0 : Int32), .int (5 : Int32), .int (0 : Int32)]) (rest := []) (wr := (tX7 ad (s6 6) ++ (wX5 cA (ad 0) (s6 0) ++ (wX2 cA (ad 1) (s6 1) ++ (wX6 cA (ad 3) (s6 3) ++ (wX6 cA (ad 4) (s6 4) ++ (wX6 cA (ad 5) (s6 5) ++ (wX1 cA (ad 7) (s6 7) ++ (wX0 cA (ad 8) (ad 2 0) (s6 8) ++ (wX4 cA (ad 9) (s6 9) ++ (wX3 cA (ad 10) (s6 10) ++ (wX3 cA (ad 11) (s6 11))))))))))))) (wn := (wX7 cA ad (sX s6 2 z7.2))) ⟨hx, hb, hml, hown, hts⟩ (c_X6_addKnot l D cA (ad 2) (s6 2) (0 : Int32) (1 : Int32) (0 : Int32) (5 : Int32) (0 : Int32) z7.1 z7.2 hz7) (cwV 5 hts gX7_init_X6_addKnot rfl rfl rfl hd_X6_addKnot ⟨(Nat.le_of_ble_eq_true rfl), (Nat.le_of_ble_eq_true rfl)⟩) (recvK hK (P_left (wc := wX6 cA (ad 2) (s6 2)) (R := (tX7 ad (s6 6) ++ (wX5 cA (ad 0) (s6 0) ++ (wX2 cA (ad 1) (s6 1) ++ (wX6 cA (ad 3) (s6 3) ++ (wX6 cA (ad 4) (s6 4) ++ (wX6 cA (ad 5) (s6 5) ++ (wX1 cA (ad 7) (s6 7) ++ (wX0 cA (ad 8) (ad 2 0) (s6 8) ++ (wX4 cA (ad 9) (s6 9) ++ (wX3 cA (ad 10) (s6 10) ++ (wX3 cA (ad 11) (s6 11))))))))))))) (perm_of (fun c hc => by unfold wX7 wX7b; simp only [hc]; omega)) hP) 0 6 rfl rfl) hK hP hD hS hA (perm_of (fun c hc => by unfold wX7 wX7b; simp only [hc]; omega)) (perm_of (fun c hc => by rw [show wX7 cA ad (sX s6 2 z7.2) = wX7b cA ad (s6 0) (s6 1) z7.2 (s6 3) (s6 4) (s6 5) (s6 6) (s6 7) (s6 8) (s6 9) (s6 10) (s6 11) from rfl]; unfold wX7b; simp only [hc]; omega)) rfl hl.1 rfl (Nat.le_of_ble_eq_true rfl) dX7_init_170 ⟨(Nat.le_of_ble_eq_true rfl), (Nat.le_of_ble_eq_true rfl)⟩ (fun H locs hP hD hS => ?_)
  obtain ⟨s8, es8⟩ : ∃ z, z = sX s6 2 z7.2 := ⟨_, rfl⟩
  rw [← es8] at hP hD
  have h := nm_ap es8 h
  refine lv_pop hx hb dX7_init_173 rfl ?_
  refine lv_aload_n hx hb dX7_init_174 rfl (lv_at hl 0 rfl) ?_
  refine va_get (D := D) (ci := 7) (v := .ref (ad 2 0)) (C := RX7) (T := TX7) (N := 12) hx hb hts hinX7 hown hK.1 hP 0 rfl rfl 2 (by decide) lkf26 (fun _ h9 => h9) rfl dX7_init_175 ?_
  refine lv_iconst (v := (1 : Int32)) hx hb dX7_init_178 (by decide) ?_
  refine lv_iconst (v := (2 : Int32)) hx hb dX7_init_179 (by decide) ?_
  refine lv_iconst (v := (1 : Int32)) hx hb dX7_init_180 (by decide) ?_
  refine lv_bipush (v := (9 : Int32)) hx hb dX7_init_181 (by decide) ?_
  refine lv_iconst (v := (0 : Int32)) hx hb dX7_init_183 (by decide) ?_
  obtain ⟨z9, hz9, h⟩ := bd_some h
  refine pW_V (As := [.int (1 : Int32), .int (2 : Int32), .int (1 : Int32), .int (9 : Int32), .int (0 : Int32)]) (rest := []) (wr := (tX7 ad (s8 6) ++ (wX5 cA (ad 0) (s8 0) ++ (wX2 cA (ad 1) (s8 1) ++ (wX6 cA (ad 3) (s8 3) ++ (wX6 cA (ad 4) (s8 4) ++ (wX6 cA (ad 5) (s8 5) ++ (wX1 cA (ad 7) (s8 7) ++ (wX0 cA (ad 8) (ad 2 0) (s8 8) ++ (wX4 cA (ad 9) (s8 9) ++ (wX3 cA (ad 10) (s8 10) ++ (wX3 cA (ad 11) (s8 11))))))))))))) (wn := (wX7 cA ad (sX s8 2 z9.2))) ⟨hx, hb, hml, hown, hts⟩ (c_X6_addKnot l D cA (ad 2) (s8 2) (1 : Int32) (2 : Int32) (1 : Int32) (9 : Int32) (0 : Int32) z9.1 z9.2 hz9) (cwV 5 hts gX7_init_X6_addKnot rfl rfl rfl hd_X6_addKnot ⟨(Nat.le_of_ble_eq_true rfl), (Nat.le_of_ble_eq_true rfl)⟩) (recvK hK (P_left (wc := wX6 cA (ad 2) (s8 2)) (R := (tX7 ad (s8 6) ++ (wX5 cA (ad 0) (s8 0) ++ (wX2 cA (ad 1) (s8 1) ++ (wX6 cA (ad 3) (s8 3) ++ (wX6 cA (ad 4) (s8 4) ++ (wX6 cA (ad 5) (s8 5) ++ (wX1 cA (ad 7) (s8 7) ++ (wX0 cA (ad 8) (ad 2 0) (s8 8) ++ (wX4 cA (ad 9) (s8 9) ++ (wX3 cA (ad 10) (s8 10) ++ (wX3 cA (ad 11) (s8 11))))))))))))) (perm_of (fun c hc => by unfold wX7 wX7b; simp only [hc]; omega)) hP) 0 6 rfl rfl) hK hP hD hS hA (perm_of (fun c hc => by unfold wX7 wX7b; simp only [hc]; omega)) (perm_of (fun c hc => by rw [show wX7 cA ad (sX s8 2 z9.2) = wX7b cA ad (s8 0) (s8 1) z9.2 (s8 3) (s8 4) (s8 5) (s8 6) (s8 7) (s8 8) (s8 9) (s8 10) (s8 11) from rfl]; unfold wX7b; simp only [hc]; omega)) rfl hl.1 rfl (Nat.le_of_ble_eq_true rfl) dX7_init_184 ⟨(Nat.le_of_ble_eq_true rfl), (Nat.le_of_ble_eq_true rfl)⟩ (fun H locs hP hD hS => ?_)
  obtain ⟨s10, es10⟩ : ∃ z, z = sX s8 2 z9.2 := ⟨_, rfl⟩
  rw [← es10] at hP hD
  have h := nm_ap es10 h
  refine lv_pop hx hb dX7_init_187 rfl ?_
  cases h
  exact hend ad _ _ _ _ e0.symm hP hD hS dX7_init_188
