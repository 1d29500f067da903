def L_L_law_372_step (sL : Nat) (sxs : Nat → Int32) (x5 : Int32) (X : (Nat → Ob)) (Y : (Nat → Ob)) (B1 : (Nat → Int32)) (B2 : (Nat → Int32)) (self : Int32 → Int32 → Option (Int32)) (x9 : Int32) (x10 : Int32) : Option (Int32) := if (9 : Int32) ≤ x10 then some x9 else if x9 = (0 : Int32) then nm (x10 + (1 : Int32)) (fun v1 => self (0 : Int32) v1) else bd (f_X7_count X x10) (fun z2 => bd (f_X7_count Y x10) (fun z3 => if z2 = z3 then bd (f_X7_count X x10) (fun z5 => if z5 < (0 : Int32) then nm (x10 + (1 : Int32)) (fun v6 => self (0 : Int32) v6) else nm (x10 + (1 : Int32)) (fun v7 => self (1 : Int32) v7)) else nm (x10 + (1 : Int32)) (fun v4 => self (0 : Int32) v4)))
def L_L_law_372 (sL : Nat) (sxs : Nat → Int32) (x5 : Int32) (X : (Nat → Ob)) (Y : (Nat → Ob)) (B1 : (Nat → Int32)) (B2 : (Nat → Int32)) : Nat → Int32 → Int32 → Option (Int32)
  | 0 => fun _ _ => none
  | n + 1 => fun x9 x10 => L_L_law_372_step sL sxs x5 X Y B1 B2 (L_L_law_372 sL sxs x5 X Y B1 B2 n) x9 x10
def L_L_law_424_step (sL : Nat) (sxs : Nat → Int32) (x5 : Int32) (X : (Nat → Ob)) (Y : (Nat → Ob)) (B1 : (Nat → Int32)) (B2 : (Nat → Int32)) (self : Int32 → Int32 → Option (Int32)) (x9 : Int32) (x10 : Int32) : Option (Int32) := bd (f_X7_count X (1 : Int32)) (fun z1 => if z1 ≤ x10 then some x9 else if x9 = (0 : Int32) then nm (x10 + (1 : Int32)) (fun v2 => self (0 : Int32) v2) else bd (f_X7_knot X x10 (5 : Int32)) (fun z3 => bd (f_X7_knot Y x10 (5 : Int32)) (fun z4 => if z3 = z4 then bd (f_X7_knot X x10 (6 : Int32)) (fun z6 => bd (f_X7_knot Y x10 (6 : Int32)) (fun z7 => if z6 = z7 then bd (f_X7_may X x10) (fun z9 => bd (f_X7_may Y x10) (fun z10 => if z9 = z10 then bd (f_X7_may X x10) (fun z12 => bd (f_X7_knot X x10 (5 : Int32)) (fun z13 => if z13 < z12 then nm (x10 + (1 : Int32)) (fun v14 => self (0 : Int32) v14) else nm (x10 + (1 : Int32)) (fun v15 => self (1 : Int32) v15))) else nm (x10 + (1 : Int32)) (fun v11 => self (0 : Int32) v11))) else nm (x10 + (1 : Int32)) (fun v8 => self (0 : Int32) v8))) else nm (x10 + (1 : Int32)) (fun v5 => self (0 : Int32) v5))))
def L_L_law_424 (sL : Nat) (sxs : Nat → Int32) (x5 : Int32) (X : (Nat → Ob)) (Y : (Nat → Ob)) (B1 : (Nat → Int32)) (B2 : (Nat → Int32)) : Nat → Int32 → Int32 → Option (Int32)
  | 0 => fun _ _ => none
  | n + 1 => fun x9 x10 => L_L_law_424_step sL sxs x5 X Y B1 B2 (L_L_law_424 sL sxs x5 X Y B1 B2 n) x9 x10
def J_L_law_367l53 (sL : Nat) (sxs : Nat → Int32) (self : Int32 → (Nat → Ob) → (Nat → Ob) → Option (Nat × (Nat → Ob) × (Nat → Ob))) (k0 : Int32) (x5 : Int32) (X : (Nat → Ob)) (Y : (Nat → Ob)) (B1 : (Nat → Int32)) (B2 : (Nat → Int32)) : Option (Nat × (Nat → Ob) × (Nat → Ob)) := bd (L_L_law_372 sL sxs x5 X Y B1 B2 512 k0 (0 : Int32)) (fun z1 => bd (L_L_law_424 sL sxs x5 X Y B1 B2 512 z1 (0 : Int32)) (fun z2 => if z2 = (0 : Int32) then some (1, X, Y) else bd (f_X7_count X (1 : Int32)) (fun z3 => if z3 < B1 3 then some (1, X, Y) else bd (f_X7_count X (1 : Int32)) (fun z4 => if (8 : Int32) < z4 then some (1, X, Y) else bd (f_X7_count X (2 : Int32)) (fun z5 => bd (f_X7_count X (1 : Int32)) (fun z6 => if z6 < z5 then some (1, X, Y) else bd (f_X7_count X (3 : Int32)) (fun z7 => if (99 : Int32) < z7 then some (1, X, Y) else bd (f_X7_count X (5 : Int32)) (fun z8 => if (8 : Int32) < z8 then some (1, X, Y) else bd (f_X7_count X (6 : Int32)) (fun z9 => if z9 ≤ (2 : Int32) then nm (x5 + (1 : Int32)) (fun v10 => self v10 X Y) else some (1, X, Y))))))))))
def J_L_law_366l53 (sL : Nat) (sxs : Nat → Int32) (self : Int32 → (Nat → Ob) → (Nat → Ob) → Option (Nat × (Nat → Ob) × (Nat → Ob))) (x5 : Int32) (X : (Nat → Ob)) (Y : (Nat → Ob)) (B1 : (Nat → Int32)) (B2 : (Nat → Int32)) : Option (Nat × (Nat → Ob) × (Nat → Ob)) := J_L_law_367l53 sL sxs self (0 : Int32) x5 X Y B1 B2
def J_L_law_298l53 (sL : Nat) (sxs : Nat → Int32) (self : Int32 → (Nat → Ob) → (Nat → Ob) → Option (Nat × (Nat → Ob) × (Nat → Ob))) (k0 : Int32) (x5 : Int32) (x6 : Int32) (x7 : Int32) (X : (Nat → Ob)) (Y : (Nat → Ob)) (B1 : (Nat → Int32)) (B2 : (Nat → Int32)) : Option (Nat × (Nat → Ob) × (Nat → Ob)) := if k0 = (0 : Int32) then some (0, X, Y) else bd (f_L_act X B1 x6 x7) (fun z1 => bd (f_L_act Y B1 x6 x7) (fun z2 => if lg_cmp z1.1 z2.1 = (0 : Int32) then bd (f_X7_forEver z1.2) (fun z3 => bd (f_X7_forEver z2.2) (fun z4 => if z3 = z4 then bd (f_X7_alike z1.2) (fun z5 => bd (f_X7_alike z2.2) (fun z6 => if z5 = z6 then bd (f_X7_judge z1.2) (fun z7 => bd (f_X7_judge z2.2) (fun z8 => if z7 = z8 then J_L_law_367l53 sL sxs self (1 : Int32) x5 z1.2 z2.2 B1 B2 else J_L_law_366l53 sL sxs self x5 z1.2 z2.2 B1 B2)) else J_L_law_366l53 sL sxs self x5 z1.2 z2.2 B1 B2)) else J_L_law_366l53 sL sxs self x5 z1.2 z2.2 B1 B2)) else some (0, z1.2, z2.2)))
def J_L_law_297l53 (sL : Nat) (sxs : Nat → Int32) (self : Int32 → (Nat → Ob) → (Nat → Ob) → Option (Nat × (Nat → Ob) × (Nat → Ob))) (x5 : Int32) (x6 : Int32) (x7 : Int32) (X : (Nat → Ob)) (Y : (Nat → Ob)) (B1 : (Nat → Int32)) (B2 : (Nat → Int32)) : Option (Nat × (Nat → Ob) × (Nat → Ob)) := J_L_law_298l53 sL sxs self (0 : Int32) x5 x6 x7 X Y B1 B2
def L_L_law_53_step (sL : Nat) (sxs : Nat → Int32) (B1 : (Nat → Int32)) (B2 : (Nat → Int32)) (self : Int32 → (Nat → Ob) → (Nat → Ob) → Option (Nat × (Nat → Ob) × (Nat → Ob))) (x5 : Int32) (X : (Nat → Ob)) (Y : (Nat → Ob)) : Option (Nat × (Nat → Ob) × (Nat → Ob)) := if (40 : Int32) ≤ x5 then some (2, X, Y) else bd (f_L_cell sL sxs ((9 : Int32) + ((2 : Int32) * x5))) (fun z1 => bd (f_L_cell sL sxs ((10 : Int32) + ((2 : Int32) * x5))) (fun z2 => bd (f_X7_write Y (9 : Int32) (0 : Int64)) (fun z3 => if z3.1 = (-1 : Int32) then bd (f_X7_knot z3.2 (8 : Int32) (0 : Int32)) (fun z4 => if z4 = (-1 : Int32) then bd (f_X7_person z3.2 (6 : Int32) (0 : Int32)) (fun z5 => if z5 = (-1 : Int32) then bd (f_X7_may z3.2 (8 : Int32)) (fun z6 => if z6 = (-1 : Int32) then bd (f_X7_undo z3.2 (8 : Int32)) (fun z7 => if z7.1 = (-1 : Int32) then bd (f_X7_tie z7.2 (0 : Int32) (0 : Int32) (0 : Int32) (0 : Int32) (0 : Int32)) (fun z8 => if z8.1 = (-1 : Int32) then bd (f_X7_pull z8.2 (8 : Int32)) (fun z9 => if z9.1 = (-1 : Int32) then bd (f_X7_cut z9.2 (-1 : Int32)) (fun z10 => if z10.1 = (-1 : Int32) then bd (f_X7_days z10.2 (0 : Int32)) (fun z11 => if z11.1 = (-1 : Int32) then bd (f_X7_loosen z11.2 (8 : Int32)) (fun z12 => if z12 = (-1 : Int32) then bd (f_X7_pay z11.2 (-2 : Int32)) (fun z13 => if z13 = (-1 : Int32) then bd (f_X7_frees z11.2 (6 : Int32)) (fun z14 => if z14 = (-1 : Int32) then bd (f_X7_fresh z11.2 (9 : Int32) (0 : Int32) (0 : Int32)) (fun z15 => if z15 = (-1 : Int32) then bd (f_X7_tell z11.2 (8 : Int32)) (fun z16 => if z16.1 = (-1 : Int32) then bd (f_X7_cross z16.2 (2 : Int32) (0 : Int32)) (fun z17 => if z17.1 = (-1 : Int32) then bd (f_X7_smooth z17.2 (2 : Int32)) (fun z18 => if z18.1 = (-1 : Int32) then bd (f_X7_loose z18.2 (2 : Int32) (0 : Int32)) (fun z19 => if z19 = (-1 : Int32) then bd (f_X7_mark z18.2 (0 : Int32) (4 : Int32)) (fun z20 => if z20 = (-1 : Int32) then bd (f_X7_year z18.2 (0 : Int32) (61 : Int32) (0 : Int32)) (fun z21 => if z21 = (-1 : Int32) then bd (f_X7_count z18.2 (9 : Int32)) (fun z22 => if z22 = (-1 : Int32) then J_L_law_298l53 sL sxs self (1 : Int32) x5 z1 z2 X z18.2 B1 B2 else J_L_law_297l53 sL sxs self x5 z1 z2 X z18.2 B1 B2) else J_L_law_297l53 sL sxs self x5 z1 z2 X z18.2 B1 B2) else J_L_law_297l53 sL sxs self x5 z1 z2 X z18.2 B1 B2) else J_L_law_297l53 sL sxs self x5 z1 z2 X z18.2 B1 B2) else J_L_law_297l53 sL sxs self x5 z1 z2 X z18.2 B1 B2) else J_L_law_297l53 sL sxs self x5 z1 z2 X z17.2 B1 B2) else J_L_law_297l53 sL sxs self x5 z1 z2 X z16.2 B1 B2) else J_L_law_297l53 sL sxs self x5 z1 z2 X z11.2 B1 B2) else J_L_law_297l53 sL sxs self x5 z1 z2 X z11.2 B1 B2) else J_L_law_297l53 sL sxs self x5 z1 z2 X z11.2 B1 B2) else J_L_law_297l53 sL sxs self x5 z1 z2 X z11.2 B1 B2) else J_L_law_297l53 sL sxs self x5 z1 z2 X z11.2 B1 B2) else J_L_law_297l53 sL sxs self x5 z1 z2 X z10.2 B1 B2) else J_L_law_297l53 sL sxs self x5 z1 z2 X z9.2 B1 B2) else J_L_law_297l53 sL sxs self x5 z1 z2 X z8.2 B1 B2) else J_L_law_297l53 sL sxs self x5 z1 z2 X z7.2 B1 B2) else J_L_law_297l53 sL sxs self x5 z1 z2 X z3.2 B1 B2) else J_L_law_297l53 sL sxs self x5 z1 z2 X z3.2 B1 B2) else J_L_law_297l53 sL sxs self x5 z1 z2 X z3.2 B1 B2) else J_L_law_297l53 sL sxs self x5 z1 z2 X z3.2 B1 B2)))
def L_L_law_53 (sL : Nat) (sxs : Nat → Int32) (B1 : (Nat → Int32)) (B2 : (Nat → Int32)) : Nat → Int32 → (Nat → Ob) → (Nat → Ob) → Option (Nat × (Nat → Ob) × (Nat → Ob))
  | 0 => fun _ _ _ => none
  | n + 1 => fun x5 X Y => L_L_law_53_step sL sxs B1 B2 (L_L_law_53 sL sxs B1 B2 n) x5 X Y
def f_L_law (X : (Nat → Ob)) (Y : (Nat → Ob)) (B1 : (Nat → Int32)) (B2 : (Nat → Int32)) (sL : Nat) (sxs : (Nat → Int32)) : Option (Int32 × (Nat → Ob) × (Nat → Ob) × (Nat → Int32) × (Nat → Int32)) := bd (f_L_town X B1 sL sxs (0 : Int32)) (fun z1 => if z1.1 = (0 : Int32) then some ((0 : Int32), z1.2.1, Y, z1.2.2, B2) else bd (f_L_town Y B2 sL sxs (0 : Int32)) (fun z2 => if z2.1 = (0 : Int32) then some ((0 : Int32), z1.2.1, z2.2.1, z1.2.2, z2.2.2) else bd (L_L_law_53 sL sxs z1.2.2 z2.2.2 512 (0 : Int32) z1.2.1 z2.2.1) (fun z3 => if z3.1 = 0 then some ((0 : Int32), z3.2.1, z3.2.2, z1.2.2, z2.2.2) else if z3.1 = 1 then some ((0 : Int32), z3.2.1, z3.2.2, z1.2.2, z2.2.2) else some ((1 : Int32), z3.2.1, z3.2.2, z1.2.2, z2.2.2))))
abbrev rmL_law : Room := room_1
set_option maxHeartbeats 4000000 in
set_option maxRecDepth 100000 in
theorem law_walk {p : Program} {l : Launch} {e : Env} {s : State} {m : MethodId} {args : Array Value} {below : List Frame} {meth : Method} {c : Code} {D : va_G} {cA : ClassId} {Q : State → Prop} {A : Nat → Prop} (ad : (Nat → Nat → Nat)) (X : (Nat → Ob)) (ad2 : (Nat → Nat → Nat)) (Y : (Nat → Ob)) (ba1 : Nat) (B1 : (Nat → Int32)) (ba2 : Nat) (B2 : (Nat → Int32)) (sa : Nat) (sL : Nat) (sxs : Nat → Int32) (r : Int32) (X_ : (Nat → Ob)) (Y_ : (Nat → Ob)) (B1_ : (Nat → Int32)) (B2_ : (Nat → Int32)) (h : f_L_law X Y B1 B2 sL sxs = some (r, X_, Y_, B1_, B2_)) (hx : p.tables.exec = Jvm.exec) (hb : c.code = cL_law) (hml : c.maxLocals = 11) (hown : s.vm.findClass RL = some m.cls) (hts : ∀ w ∈ wsL_law, w.before args s = true) (hK : KB D cA s) (hX : va_X sa sL sxs s s.heap) (hbl : sa < s.heap.size) (hbA : ¬ A sa) (hA : ∀ q : Nat, s.heap.size ≤ q → A q)
    (hend : ∀ (H : Heap) (locs : List Loc) (pc : Nat) (ls : Array Slot) (_ : narrow .boolean (.int r) = .int r), va_P D vwCl (wX7 cA ad X_ ++ (wX7 cA ad2 Y_ ++ (([(ba1, .inl (cA, 46, .inl B1_))] : va_W) ++ (([(ba2, .inl (cA, 46, .inl B2_))] : va_W))))) H → va_D A (wX7 cA ad X_ ++ (wX7 cA ad2 Y_ ++ (([(ba1, .inl (cA, 46, .inl B1_))] : va_W) ++ (([(ba2, .inl (cA, 46, .inl B2_))] : va_W))))) → va_S A s.heap H locs → decode cL_law pc = .ok (.ireturn, 1) → W p l e rmL_law s m args below meth c H locs 92 1880 Q (F0 m pc ls [.int r]))
    (H : Heap) (locs : List Loc) (hP : va_P D vwCl (wX7 cA ad X ++ (wX7 cA ad2 Y ++ (([(ba1, .inl (cA, 46, .inl B1))] : va_W) ++ (([(ba2, .inl (cA, 46, .inl B2))] : va_W))))) H) (hD : va_D A (wX7 cA ad X ++ (wX7 cA ad2 Y ++ (([(ba1, .inl (cA, 46, .inl B1))] : va_W) ++ (([(ba2, .inl (cA, 46, .inl B2))] : va_W)))))) (hS : va_S A s.heap H locs) (ls : Array Slot) (hl : lv_has ls 11 [(0, .ref sa), (1, .ref (ad 6 0)), (2, .ref (ad2 6 0)), (3, .ref ba1), (4, .ref ba2)]) : W p l e rmL_law s m args below meth c H locs 92 1880 Q (F0 m 27 ls []) := by
  unfold f_L_law at h
  have LP372 : ∀ (x5 : Int32) (X : (Nat → Ob)) (Y : (Nat → Ob)) (B1 : (Nat → Int32)) (B2 : (Nat → Int32)) (n : Nat) (x9 : Int32) (x10 : Int32) (H : Heap) (locs : List Loc) (_ : va_P D vwCl (wX7 cA ad X ++ (wX7 cA ad2 Y ++ (([(ba1, .inl (cA, 46, .inl B1))] : va_W) ++ (([(ba2, .inl (cA, 46, .inl B2))] : va_W))))) H) (_ : va_D A (wX7 cA ad X ++ (wX7 cA ad2 Y ++ (([(ba1, .inl (cA, 46, .inl B1))] : va_W) ++ (([(ba2, .inl (cA, 46, .inl B2))] : va_W)))))) (_ : va_S A s.heap H locs) (ls : Array Slot) (_ : lv_has ls 11 [(0, .ref sa), (1, .ref (ad 6 0)), (2, .ref (ad2 6 0)), (3, .ref ba1), (5, .int x5), (9, .int x9), (10, .int x10)]) (res : Int32) (_ : L_L_law_372 sL sxs x5 X Y B1 B2 n x9 x10 = some res) (_ : (∀ (H : Heap) (locs : List Loc) (_ : va_P D vwCl (wX7 cA ad X ++ (wX7 cA ad2 Y ++ (([(ba1, .inl (cA, 46, .inl B1))] : va_W) ++ (([(ba2, .inl (cA, 46, .inl B2))] : va_W))))) H) (_ : va_D A (wX7 cA ad X ++ (wX7 cA ad2 Y ++ (([(ba1, .inl (cA, 46, .inl B1))] : va_W) ++ (([(ba2, .inl (cA, 46, .inl B2))] : va_W)))))) (_ : va_S A s.heap H locs) (ls : Array Slot), lv_has ls 11 [(0, .ref sa), (1, .ref (ad 6 0)), (2, .ref (ad2 6 0)), (3, .ref ba1), (5, .int x5), (9, .int res)] → W p l e rmL_law s m args below meth c H locs 92 1880 Q (F0 m 421 ls []))), W p l e rmL_law s m args below meth c H locs 92 1880 Q (F0 m 372 ls []) := by
    intro x5 X Y B1 B2 n
    induction n with
    | zero =>
      intro x9 x10 H locs hP hD hS ls hl res h K0
      exact absurd h (fun q : (none : Option (Int32)) = some res => by cases q)
    | succ n ih =>
      intro x9 x10 H locs hP hD hS ls hl res h K0
      have h : L_L_law_372_step sL sxs x5 X Y B1 B2 (L_L_law_372 sL sxs x5 X Y B1 B2 n) x9 x10 = some res := h
      unfold L_L_law_372_step at h
      refine lv_iload hx hb dL_law_372 (lv_at hl 6 rfl) ?_
      refine lv_bipush (v := (9 : Int32)) hx hb dL_law_374 (by decide) ?_
      refine lv_icmp_ge (tgt := 421) hx hb dL_law_376 (by decide) (fun hc => ?_) (fun hc => ?_)
      · have h := if_t hc h
        cases h
        exact K0 _ _ hP hD hS _ (lv_sub hl [0, 1, 2, 3, 4, 5] rfl)
      · have h := if_f hc h
        refine lv_iload hx hb dL_law_379 (lv_at hl 5 rfl) ?_
        refine lv_if_eq (tgt := 412) hx hb dL_law_381 (by decide) (fun hc => ?_) (fun hc => ?_)
        · have h := if_t hc h
          refine lv_iconst (v := (0 : Int32)) hx hb dL_law_412 (by decide) ?_
          refine lv_istore (lv' := [(9, .int (0 : Int32)), (0, .ref sa), (1, .ref (ad 6 0)), (2, .ref (ad2 6 0)), (3, .ref ba1), (5, .int x5), (10, .int x10)]) hx hb dL_law_413 hl (by decide) rfl (fun ls hl => ?_)
          obtain ⟨v1, ev1⟩ : ∃ y : Int32, y = x10 + (1 : Int32) := ⟨_, rfl⟩
          refine lv_iinc (v := v1) (lv' := [(10, .int v1), (9, .int (0 : Int32)), (0, .ref sa), (1, .ref (ad 6 0)), (2, .ref (ad2 6 0)), (3, .ref ba1), (5, .int x5)]) hx hb dL_law_415 hl (k := 6) rfl (by rw [ev1]; rfl) (by decide) rfl (fun ls hl => ?_)
          have h := nm_ap ev1 h
          refine lv_goto (tgt := 372) hx hb dL_law_418 (by decide) ?_
          exact ih (0 : Int32) v1 _ _ hP hD hS ls (lv_sub hl [2, 3, 4, 5, 6, 1, 0] rfl) _ h K0
        · have h := if_f hc h
          refine lv_aload_n hx hb dL_law_384 rfl (lv_at hl 1 rfl) ?_
          refine lv_iload hx hb dL_law_385 (lv_at hl 6 rfl) ?_
          obtain ⟨z2, hz2, h⟩ := bd_some h
          refine pR_V (As := [.int x10]) (rest := []) (wr := (wX7 cA ad2 Y ++ (([(ba1, .inl (cA, 46, .inl B1))] : va_W) ++ (([(ba2, .inl (cA, 46, .inl B2))] : va_W))))) ⟨hx, hb, hml, hown, hts⟩ (c_X7_count l D cA ad X x10 z2 hz2) (cwV 1 hts gL_law_X7_count rfl rfl rfl hd_X7_count ⟨(Nat.le_of_ble_eq_true rfl), (Nat.le_of_ble_eq_true rfl)⟩) (recvK hK (P_left (wc := wX7 cA ad X) (R := (wX7 cA ad2 Y ++ (([(ba1, .inl (cA, 46, .inl B1))] : va_W) ++ (([(ba2, .inl (cA, 46, .inl B2))] : va_W))))) (perm_of (fun c hc => by simp only [hc] <;> omega)) hP) 0 7 rfl rfl) hK hP (perm_of (fun c hc => by simp only [hc] <;> omega)) rfl hl.1 rfl (Nat.le_of_ble_eq_true rfl) dL_law_387 ⟨(Nat.le_of_ble_eq_true rfl), (Nat.le_of_ble_eq_true rfl)⟩ ?_
          refine lv_aload_n hx hb dL_law_390 rfl (lv_at hl 2 rfl) ?_
          refine lv_iload hx hb dL_law_391 (lv_at hl 6 rfl) ?_
          obtain ⟨z3, hz3, h⟩ := bd_some h
          refine pR_V (As := [.int x10]) (rest := [.int z2]) (wr := (wX7 cA ad X ++ (([(ba1, .inl (cA, 46, .inl B1))] : va_W) ++ (([(ba2, .inl (cA, 46, .inl B2))] : va_W))))) ⟨hx, hb, hml, hown, hts⟩ (c_X7_count l D cA ad2 Y x10 z3 hz3) (cwV 1 hts gL_law_X7_count rfl rfl rfl hd_X7_count ⟨(Nat.le_of_ble_eq_true rfl), (Nat.le_of_ble_eq_true rfl)⟩) (recvK hK (P_left (wc := wX7 cA ad2 Y) (R := (wX7 cA ad X ++ (([(ba1, .inl (cA, 46, .inl B1))] : va_W) ++ (([(ba2, .inl (cA, 46, .inl B2))] : va_W))))) (perm_of (fun c hc => by simp only [hc] <;> omega)) hP) 0 7 rfl rfl) hK hP (perm_of (fun c hc => by simp only [hc] <;> omega)) rfl hl.1 rfl (Nat.le_of_ble_eq_true rfl) dL_law_393 ⟨(Nat.le_of_ble_eq_true rfl), (Nat.le_of_ble_eq_true rfl)⟩ ?_
          refine lv_icmp_ne (tgt := 412) hx hb dL_law_396 (by decide) (fun hc => ?_) (fun hc => ?_)
          · have h := if_f hc h
            refine lv_iconst (v := (0 : Int32)) hx hb dL_law_412 (by decide) ?_
            refine lv_istore (lv' := [(9, .int (0 : Int32)), (0, .ref sa), (1, .ref (ad 6 0)), (2, .ref (ad2 6 0)), (3, .ref ba1), (5, .int x5), (10, .int x10)]) hx hb dL_law_413 hl (by decide) rfl (fun ls hl => ?_)
            obtain ⟨v4, ev4⟩ : ∃ y : Int32, y = x10 + (1 : Int32) := ⟨_, rfl⟩
            refine lv_iinc (v := v4) (lv' := [(10, .int v4), (9, .int (0 : Int32)), (0, .ref sa), (1, .ref (ad 6 0)), (2, .ref (ad2 6 0)), (3, .ref ba1), (5, .int x5)]) hx hb dL_law_415 hl (k := 6) rfl (by rw [ev4]; rfl) (by decide) rfl (fun ls hl => ?_)
            have h := nm_ap ev4 h
            refine lv_goto (tgt := 372) hx hb dL_law_418 (by decide) ?_
            exact ih (0 : Int32) v4 _ _ hP hD hS ls (lv_sub hl [2, 3, 4, 5, 6, 1, 0] rfl) _ h K0
          · have h := if_t hc h
            refine lv_aload_n hx hb dL_law_399 rfl (lv_at hl 1 rfl) ?_
            refine lv_iload hx hb dL_law_400 (lv_at hl 6 rfl) ?_
            obtain ⟨z5, hz5, h⟩ := bd_some h
            refine pR_V (As := [.int x10]) (rest := []) (wr := (wX7 cA ad2 Y ++ (([(ba1, .inl (cA, 46, .inl B1))] : va_W) ++ (([(ba2, .inl (cA, 46, .inl B2))] : va_W))))) ⟨hx, hb, hml, hown, hts⟩ (c_X7_count l D cA ad X x10 z5 hz5) (cwV 1 hts gL_law_X7_count rfl rfl rfl hd_X7_count ⟨(Nat.le_of_ble_eq_true rfl), (Nat.le_of_ble_eq_true rfl)⟩) (recvK hK (P_left (wc := wX7 cA ad X) (R := (wX7 cA ad2 Y ++ (([(ba1, .inl (cA, 46, .inl B1))] : va_W) ++ (([(ba2, .inl (cA, 46, .inl B2))] : va_W))))) (perm_of (fun c hc => by simp only [hc] <;> omega)) hP) 0 7 rfl rfl) hK hP (perm_of (fun c hc => by simp only [hc] <;> omega)) rfl hl.1 rfl (Nat.le_of_ble_eq_true rfl) dL_law_402 ⟨(Nat.le_of_ble_eq_true rfl), (Nat.le_of_ble_eq_true rfl)⟩ ?_
            refine lv_if_lt (tgt := 412) hx hb dL_law_405 (by decide) (fun hc => ?_) (fun hc => ?_)
            · have h := if_t hc h
              refine lv_iconst (v := (0 : Int32)) hx hb dL_law_412 (by decide) ?_
              refine lv_istore (lv' := [(9, .int (0 : Int32)), (0, .ref sa), (1, .ref (ad 6 0)), (2, .ref (ad2 6 0)), (3, .ref ba1), (5, .int x5), (10, .int x10)]) hx hb dL_law_413 hl (by decide) rfl (fun ls hl => ?_)
              obtain ⟨v6, ev6⟩ : ∃ y : Int32, y = x10 + (1 : Int32) := ⟨_, rfl⟩
              refine lv_iinc (v := v6) (lv' := [(10, .int v6), (9, .int (0 : Int32)), (0, .ref sa), (1, .ref (ad 6 0)), (2, .ref (ad2 6 0)), (3, .ref ba1), (5, .int x5)]) hx hb dL_law_415 hl (k := 6) rfl (by rw [ev6]; rfl) (by decide) rfl (fun ls hl => ?_)
              have h := nm_ap ev6 h
              refine lv_goto (tgt := 372) hx hb dL_law_418 (by decide) ?_
              exact ih (0 : Int32) v6 _ _ hP hD hS ls (lv_sub hl [2, 3, 4, 5, 6, 1, 0] rfl) _ h K0
            · have h := if_f hc h
              refine lv_iconst (v := (1 : Int32)) hx hb dL_law_408 (by decide) ?_
              refine lv_goto (tgt := 413) hx hb dL_law_409 (by decide) ?_
              refine lv_istore (lv' := [(9, .int (1 : Int32)), (0, .ref sa), (1, .ref (ad 6 0)), (2, .ref (ad2 6 0)), (3, .ref ba1), (5, .int x5), (10, .int x10)]) hx hb dL_law_413 hl (by decide) rfl (fun ls hl => ?_)
              obtain ⟨v7, ev7⟩ : ∃ y : Int32, y = x10 + (1 : Int32) := ⟨_, rfl⟩
              refine lv_iinc (v := v7) (lv' := [(10, .int v7), (9, .int (1 : Int32)), (0, .ref sa), (1, .ref (ad 6 0)), (2, .ref (ad2 6 0)), (3, .ref ba1), (5, .int x5)]) hx hb dL_law_415 hl (k := 6) rfl (by rw [ev7]; rfl) (by decide) rfl (fun ls hl => ?_)
              have h := nm_ap ev7 h
              refine lv_goto (tgt := 372) hx hb dL_law_418 (by decide) ?_
              exact ih (1 : Int32) v7 _ _ hP hD hS ls (lv_sub hl [2, 3, 4, 5, 6, 1, 0] rfl) _ h K0
  have LP424 : ∀ (x5 : Int32) (X : (Nat → Ob)) (Y : (Nat → Ob)) (B1 : (Nat → Int32)) (B2 : (Nat → Int32)) (n : Nat) (x9 : Int32) (x10 : Int32) (H : Heap) (locs : List Loc) (_ : va_P D vwCl (wX7 cA ad X ++ (wX7 cA ad2 Y ++ (([(ba1, .inl (cA, 46, .inl B1))] : va_W) ++ (([(ba2, .inl (cA, 46, .inl B2))] : va_W))))) H) (_ : va_D A (wX7 cA ad X ++ (wX7 cA ad2 Y ++ (([(ba1, .inl (cA, 46, .inl B1))] : va_W) ++ (([(ba2, .inl (cA, 46, .inl B2))] : va_W)))))) (_ : va_S A s.heap H locs) (ls : Array Slot) (_ : lv_has ls 11 [(0, .ref sa), (1, .ref (ad 6 0)), (2, .ref (ad2 6 0)), (3, .ref ba1), (5, .int x5), (9, .int x9), (10, .int x10)]) (res : Int32) (_ : L_L_law_424 sL sxs x5 X Y B1 B2 n x9 x10 = some res) (_ : (∀ (H : Heap) (locs : List Loc) (_ : va_P D vwCl (wX7 cA ad X ++ (wX7 cA ad2 Y ++ (([(ba1, .inl (cA, 46, .inl B1))] : va_W) ++ (([(ba2, .inl (cA, 46, .inl B2))] : va_W))))) H) (_ : va_D A (wX7 cA ad X ++ (wX7 cA ad2 Y ++ (([(ba1, .inl (cA, 46, .inl B1))] : va_W) ++ (([(ba2, .inl (cA, 46, .inl B2))] : va_W)))))) (_ : va_S A s.heap H locs) (ls : Array Slot), lv_has ls 11 [(0, .ref sa), (1, .ref (ad 6 0)), (2, .ref (ad2 6 0)), (3, .ref ba1), (5, .int x5), (9, .int res)] → W p l e rmL_law s m args below meth c H locs 92 1880 Q (F0 m 519 ls []))), W p l e rmL_law s m args below meth c H locs 92 1880 Q (F0 m 424 ls []) := by
    intro x5 X Y B1 B2 n
    induction n with
    | zero =>
      intro x9 x10 H locs hP hD hS ls hl res h K0
      exact absurd h (fun q : (none : Option (Int32)) = some res => by cases q)
    | succ n ih =>
      intro x9 x10 H locs hP hD hS ls hl res h K0
      have h : L_L_law_424_step sL sxs x5 X Y B1 B2 (L_L_law_424 sL sxs x5 X Y B1 B2 n) x9 x10 = some res := h
      unfold L_L_law_424_step at h
      refine lv_iload hx hb dL_law_424 (lv_at hl 6 rfl) ?_
      refine lv_aload_n hx hb dL_law_426 rfl (lv_at hl 1 rfl) ?_
      refine lv_iconst (v := (1 : Int32)) hx hb dL_law_427 (by decide) ?_
      obtain ⟨z1, hz1, h⟩ := bd_some h
      refine pR_V (As := [.int (1 : Int32)]) (rest := [.int x10]) (wr := (wX7 cA ad2 Y ++ (([(ba1, .inl (cA, 46, .inl B1))] : va_W) ++ (([(ba2, .inl (cA, 46, .inl B2))] : va_W))))) ⟨hx, hb, hml, hown, hts⟩ (c_X7_count l D cA ad X (1 : Int32) z1 hz1) (cwV 1 hts gL_law_X7_count rfl rfl rfl hd_X7_count ⟨(Nat.le_of_ble_eq_true rfl), (Nat.le_of_ble_eq_true rfl)⟩) (recvK hK (P_left (wc := wX7 cA ad X) (R := (wX7 cA ad2 Y ++ (([(ba1, .inl (cA, 46, .inl B1))] : va_W) ++ (([(ba2, .inl (cA, 46, .inl B2))] : va_W))))) (perm_of (fun c hc => by simp only [hc] <;> omega)) hP) 0 7 rfl rfl) hK hP (perm_of (fun c hc => by simp only [hc] <;> omega)) rfl hl.1 rfl (Nat.le_of_ble_eq_true rfl) dL_law_428 ⟨(Nat.le_of_ble_eq_true rfl), (Nat.le_of_ble_eq_true rfl)⟩ ?_
      refine lv_icmp_ge (tgt := 519) hx hb dL_law_431 (by decide) (fun hc => ?_) (fun hc => ?_)
      · have h := if_t hc h
        cases h
        exact K0 _ _ hP hD hS _ (lv_sub hl [0, 1, 2, 3, 4, 5] rfl)
      · have h := if_f hc h
        refine lv_iload hx hb dL_law_434 (lv_at hl 5 rfl) ?_
        refine lv_if_eq (tgt := 510) hx hb dL_law_436 (by decide) (fun hc => ?_) (fun hc => ?_)
        · have h := if_t hc h
          refine lv_iconst (v := (0 : Int32)) hx hb dL_law_510 (by decide) ?_
          refine lv_istore (lv' := [(9, .int (0 : Int32)), (0, .ref sa), (1, .ref (ad 6 0)), (2, .ref (ad2 6 0)), (3, .ref ba1), (5, .int x5), (10, .int x10)]) hx hb dL_law_511 hl (by decide) rfl (fun ls hl => ?_)
          obtain ⟨v2, ev2⟩ : ∃ y : Int32, y = x10 + (1 : Int32) := ⟨_, rfl⟩
          refine lv_iinc (v := v2) (lv' := [(10, .int v2), (9, .int (0 : Int32)), (0, .ref sa), (1, .ref (ad 6 0)), (2, .ref (ad2 6 0)), (3, .ref ba1), (5, .int x5)]) hx hb dL_law_513 hl (k := 6) rfl (by rw [ev2]; rfl) (by decide) rfl (fun ls hl => ?_)
          have h := nm_ap ev2 h
          refine lv_goto (tgt := 424) hx hb dL_law_516 (by decide) ?_
          exact ih (0 : Int32) v2 _ _ hP hD hS ls (lv_sub hl [2, 3, 4, 5, 6, 1, 0] rfl) _ h K0
        · have h := if_f hc h
          refine lv_aload_n hx hb dL_law_439 rfl (lv_at hl 1 rfl) ?_
          refine lv_iload hx hb dL_law_440 (lv_at hl 6 rfl) ?_
          refine lv_iconst (v := (5 : Int32)) hx hb dL_law_442 (by decide) ?_
          obtain ⟨z3, hz3, h⟩ := bd_some h
          refine pR_V (As := [.int x10, .int (5 : Int32)]) (rest := []) (wr := (wX7 cA ad2 Y ++ (([(ba1, .inl (cA, 46, .inl B1))] : va_W) ++ (([(ba2, .inl (cA, 46, .inl B2))] : va_W))))) ⟨hx, hb, hml, hown, hts⟩ (c_X7_knot l D cA ad X x10 (5 : Int32) z3 hz3) (cwV 2 hts gL_law_X7_knot rfl rfl rfl hd_X7_knot ⟨(Nat.le_of_ble_eq_true rfl), (Nat.le_of_ble_eq_true rfl)⟩) (recvK hK (P_left (wc := wX7 cA ad X) (R := (wX7 cA ad2 Y ++ (([(ba1, .inl (cA, 46, .inl B1))] : va_W) ++ (([(ba2, .inl (cA, 46, .inl B2))] : va_W))))) (perm_of (fun c hc => by simp only [hc] <;> omega)) hP) 0 7 rfl rfl) hK hP (perm_of (fun c hc => by simp only [hc] <;> omega)) rfl hl.1 rfl (Nat.le_of_ble_eq_true rfl) dL_law_443 ⟨(Nat.le_of_ble_eq_true rfl), (Nat.le_of_ble_eq_true rfl)⟩ ?_
          refine lv_aload_n hx hb dL_law_446 rfl (lv_at hl 2 rfl) ?_
          refine lv_iload hx hb dL_law_447 (lv_at hl 6 rfl) ?_
          refine lv_iconst (v := (5 : Int32)) hx hb dL_law_449 (by decide) ?_
          obtain ⟨z4, hz4, h⟩ := bd_some h
          refine pR_V (As := [.int x10, .int (5 : Int32)]) (rest := [.int z3]) (wr := (wX7 cA ad X ++ (([(ba1, .inl (cA, 46, .inl B1))] : va_W) ++ (([(ba2, .inl (cA, 46, .inl B2))] : va_W))))) ⟨hx, hb, hml, hown, hts⟩ (c_X7_knot l D cA ad2 Y x10 (5 : Int32) z4 hz4) (cwV 2 hts gL_law_X7_knot rfl rfl rfl hd_X7_knot ⟨(Nat.le_of_ble_eq_true rfl), (Nat.le_of_ble_eq_true rfl)⟩) (recvK hK (P_left (wc := wX7 cA ad2 Y) (R := (wX7 cA ad X ++ (([(ba1, .inl (cA, 46, .inl B1))] : va_W) ++ (([(ba2, .inl (cA, 46, .inl B2))] : va_W))))) (perm_of (fun c hc => by simp only [hc] <;> omega)) hP) 0 7 rfl rfl) hK hP (perm_of (fun c hc => by simp only [hc] <;> omega)) rfl hl.1 rfl (Nat.le_of_ble_eq_true rfl) dL_law_450 ⟨(Nat.le_of_ble_eq_true rfl), (Nat.le_of_ble_eq_true rfl)⟩ ?_
          refine lv_icmp_ne (tgt := 510) hx hb dL_law_453 (by decide) (fun hc => ?_) (fun hc => ?_)
          · have h := if_f hc h
            refine lv_iconst (v := (0 : Int32)) hx hb dL_law_510 (by decide) ?_
            refine lv_istore (lv' := [(9, .int (0 : Int32)), (0, .ref sa), (1, .ref (ad 6 0)), (2, .ref (ad2 6 0)), (3, .ref ba1), (5, .int x5), (10, .int x10)]) hx hb dL_law_511 hl (by decide) rfl (fun ls hl => ?_)
            obtain ⟨v5, ev5⟩ : ∃ y : Int32, y = x10 + (1 : Int32) := ⟨_, rfl⟩
            refine lv_iinc (v := v5) (lv' := [(10, .int v5), (9, .int (0 : Int32)), (0, .ref sa), (1, .ref (ad 6 0)), (2, .ref (ad2 6 0)), (3, .ref ba1), (5, .int x5)]) hx hb dL_law_513 hl (k := 6) rfl (by rw [ev5]; rfl) (by decide) rfl (fun ls hl => ?_)
            have h := nm_ap ev5 h
            refine lv_goto (tgt := 424) hx hb dL_law_516 (by decide) ?_
            exact ih (0 : Int32) v5 _ _ hP hD hS ls (lv_sub hl [2, 3, 4, 5, 6, 1, 0] rfl) _ h K0
          · have h := if_t hc h
            refine lv_aload_n hx hb dL_law_456 rfl (lv_at hl 1 rfl) ?_
            refine lv_iload hx hb dL_law_457 (lv_at hl 6 rfl) ?_
            refine lv_bipush (v := (6 : Int32)) hx hb dL_law_459 (by decide) ?_
            obtain ⟨z6, hz6, h⟩ := bd_some h
            refine pR_V (As := [.int x10, .int (6 : Int32)]) (rest := []) (wr := (wX7 cA ad2 Y ++ (([(ba1, .inl (cA, 46, .inl B1))] : va_W) ++ (([(ba2, .inl (cA, 46, .inl B2))] : va_W))))) ⟨hx, hb, hml, hown, hts⟩ (c_X7_knot l D cA ad X x10 (6 : Int32) z6 hz6) (cwV 2 hts gL_law_X7_knot rfl rfl rfl hd_X7_knot ⟨(Nat.le_of_ble_eq_true rfl), (Nat.le_of_ble_eq_true rfl)⟩) (recvK hK (P_left (wc := wX7 cA ad X) (R := (wX7 cA ad2 Y ++ (([(ba1, .inl (cA, 46, .inl B1))] : va_W) ++ (([(ba2, .inl (cA, 46, .inl B2))] : va_W))))) (perm_of (fun c hc => by simp only [hc] <;> omega)) hP) 0 7 rfl rfl) hK hP (perm_of (fun c hc => by simp only [hc] <;> omega)) rfl hl.1 rfl (Nat.le_of_ble_eq_true rfl) dL_law_461 ⟨(Nat.le_of_ble_eq_true rfl), (Nat.le_of_ble_eq_true rfl)⟩ ?_
            refine lv_aload_n hx hb dL_law_464 rfl (lv_at hl 2 rfl) ?_
            refine lv_iload hx hb dL_law_465 (lv_at hl 6 rfl) ?_
            refine lv_bipush (v := (6 : Int32)) hx hb dL_law_467 (by decide) ?_
            obtain ⟨z7, hz7, h⟩ := bd_some h
            refine pR_V (As := [.int x10, .int (6 : Int32)]) (rest := [.int z6]) (wr := (wX7 cA ad X ++ (([(ba1, .inl (cA, 46, .inl B1))] : va_W) ++ (([(ba2, .inl (cA, 46, .inl B2))] : va_W))))) ⟨hx, hb, hml, hown, hts⟩ (c_X7_knot l D cA ad2 Y x10 (6 : Int32) z7 hz7) (cwV 2 hts gL_law_X7_knot rfl rfl rfl hd_X7_knot ⟨(Nat.le_of_ble_eq_true rfl), (Nat.le_of_ble_eq_true rfl)⟩) (recvK hK (P_left (wc := wX7 cA ad2 Y) (R := (wX7 cA ad X ++ (([(ba1, .inl (cA, 46, .inl B1))] : va_W) ++ (([(ba2, .inl (cA, 46, .inl B2))] : va_W))))) (perm_of (fun c hc => by simp only [hc] <;> omega)) hP) 0 7 rfl rfl) hK hP (perm_of (fun c hc => by simp only [hc] <;> omega)) rfl hl.1 rfl (Nat.le_of_ble_eq_true rfl) dL_law_469 ⟨(Nat.le_of_ble_eq_true rfl), (Nat.le_of_ble_eq_true rfl)⟩ ?_
            refine lv_icmp_ne (tgt := 510) hx hb dL_law_472 (by decide) (fun hc => ?_) (fun hc => ?_)
            · have h := if_f hc h
              refine lv_iconst (v := (0 : Int32)) hx hb dL_law_510 (by decide) ?_
              refine lv_istore (lv' := [(9, .int (0 : Int32)), (0, .ref sa), (1, .ref (ad 6 0)), (2, .ref (ad2 6 0)), (3, .ref ba1), (5, .int x5), (10, .int x10)]) hx hb dL_law_511 hl (by decide) rfl (fun ls hl => ?_)
              obtain ⟨v8, ev8⟩ : ∃ y : Int32, y = x10 + (1 : Int32) := ⟨_, rfl⟩
              refine lv_iinc (v := v8) (lv' := [(10, .int v8), (9, .int (0 : Int32)), (0, .ref sa), (1, .ref (ad 6 0)), (2, .ref (ad2 6 0)), (3, .ref ba1), (5, .int x5)]) hx hb dL_law_513 hl (k := 6) rfl (by rw [ev8]; rfl) (by decide) rfl (fun ls hl => ?_)
              have h := nm_ap ev8 h
              refine lv_goto (tgt := 424) hx hb dL_law_516 (by decide) ?_
              exact ih (0 : Int32) v8 _ _ hP hD hS ls (lv_sub hl [2, 3, 4, 5, 6, 1, 0] rfl) _ h K0
            · have h := if_t hc h
              refine lv_aload_n hx hb dL_law_475 rfl (lv_at hl 1 rfl) ?_
              refine lv_iload hx hb dL_law_476 (lv_at hl 6 rfl) ?_
              obtain ⟨z9, hz9, h⟩ := bd_some h
              refine pR_V (As := [.int x10]) (rest := []) (wr := (wX7 cA ad2 Y ++ (([(ba1, .inl (cA, 46, .inl B1))] : va_W) ++ (([(ba2, .inl (cA, 46, .inl B2))] : va_W))))) ⟨hx, hb, hml, hown, hts⟩ (c_X7_may l D cA ad X x10 z9 hz9) (cwV 1 hts gL_law_X7_may rfl rfl rfl hd_X7_may ⟨(Nat.le_of_ble_eq_true rfl), (Nat.le_of_ble_eq_true rfl)⟩) (recvK hK (P_left (wc := wX7 cA ad X) (R := (wX7 cA ad2 Y ++ (([(ba1, .inl (cA, 46, .inl B1))] : va_W) ++ (([(ba2, .inl (cA, 46, .inl B2))] : va_W))))) (perm_of (fun c hc => by simp only [hc] <;> omega)) hP) 0 7 rfl rfl) hK hP (perm_of (fun c hc => by simp only [hc] <;> omega)) rfl hl.1 rfl (Nat.le_of_ble_eq_true rfl) dL_law_478 ⟨(Nat.le_of_ble_eq_true rfl), (Nat.le_of_ble_eq_true rfl)⟩ ?_
              refine lv_aload_n hx hb dL_law_481 rfl (lv_at hl 2 rfl) ?_
              refine lv_iload hx hb dL_law_482 (lv_at hl 6 rfl) ?_
              obtain ⟨z10, hz10, h⟩ := bd_some h
              refine pR_V (As := [.int x10]) (rest := [.int z9]) (wr := (wX7 cA ad X ++ (([(ba1, .inl (cA, 46, .inl B1))] : va_W) ++ (([(ba2, .inl (cA, 46, .inl B2))] : va_W))))) ⟨hx, hb, hml, hown, hts⟩ (c_X7_may l D cA ad2 Y x10 z10 hz10) (cwV 1 hts gL_law_X7_may rfl rfl rfl hd_X7_may ⟨(Nat.le_of_ble_eq_true rfl), (Nat.le_of_ble_eq_true rfl)⟩) (recvK hK (P_left (wc := wX7 cA ad2 Y) (R := (wX7 cA ad X ++ (([(ba1, .inl (cA, 46, .inl B1))] : va_W) ++ (([(ba2, .inl (cA, 46, .inl B2))] : va_W))))) (perm_of (fun c hc => by simp only [hc] <;> omega)) hP) 0 7 rfl rfl) hK hP (perm_of (fun c hc => by simp only [hc] <;> omega)) rfl hl.1 rfl (Nat.le_of_ble_eq_true rfl) dL_law_484 ⟨(Nat.le_of_ble_eq_true rfl), (Nat.le_of_ble_eq_true rfl)⟩ ?_
              refine lv_icmp_ne (tgt := 510) hx hb dL_law_487 (by decide) (fun hc => ?_) (fun hc => ?_)
              · have h := if_f hc h
                refine lv_iconst (v := (0 : Int32)) hx hb dL_law_510 (by decide) ?_
                refine lv_istore (lv' := [(9, .int (0 : Int32)), (0, .ref sa), (1, .ref (ad 6 0)), (2, .ref (ad2 6 0)), (3, .ref ba1), (5, .int x5), (10, .int x10)]) hx hb dL_law_511 hl (by decide) rfl (fun ls hl => ?_)
                obtain ⟨v11, ev11⟩ : ∃ y : Int32, y = x10 + (1 : Int32) := ⟨_, rfl⟩
                refine lv_iinc (v := v11) (lv' := [(10, .int v11), (9, .int (0 : Int32)), (0, .ref sa), (1, .ref (ad 6 0)), (2, .ref (ad2 6 0)), (3, .ref ba1), (5, .int x5)]) hx hb dL_law_513 hl (k := 6) rfl (by rw [ev11]; rfl) (by decide) rfl (fun ls hl => ?_)
                have h := nm_ap ev11 h
                refine lv_goto (tgt := 424) hx hb dL_law_516 (by decide) ?_
                exact ih (0 : Int32) v11 _ _ hP hD hS ls (lv_sub hl [2, 3, 4, 5, 6, 1, 0] rfl) _ h K0
              · have h := if_t hc h
                refine lv_aload_n hx hb dL_law_490 rfl (lv_at hl 1 rfl) ?_
                refine lv_iload hx hb dL_law_491 (lv_at hl 6 rfl) ?_
                obtain ⟨z12, hz12, h⟩ := bd_some h
                refine pR_V (As := [.int x10]) (rest := []) (wr := (wX7 cA ad2 Y ++ (([(ba1, .inl (cA, 46, .inl B1))] : va_W) ++ (([(ba2, .inl (cA, 46, .inl B2))] : va_W))))) ⟨hx, hb, hml, hown, hts⟩ (c_X7_may l D cA ad X x10 z12 hz12) (cwV 1 hts gL_law_X7_may rfl rfl rfl hd_X7_may ⟨(Nat.le_of_ble_eq_true rfl), (Nat.le_of_ble_eq_true rfl)⟩) (recvK hK (P_left (wc := wX7 cA ad X) (R := (wX7 cA ad2 Y ++ (([(ba1, .inl (cA, 46, .inl B1))] : va_W) ++ (([(ba2, .inl (cA, 46, .inl B2))] : va_W))))) (perm_of (fun c hc => by simp only [hc] <;> omega)) hP) 0 7 rfl rfl) hK hP (perm_of (fun c hc => by simp only [hc] <;> omega)) rfl hl.1 rfl (Nat.le_of_ble_eq_true rfl) dL_law_493 ⟨(Nat.le_of_ble_eq_true rfl), (Nat.le_of_ble_eq_true rfl)⟩ ?_
                refine lv_aload_n hx hb dL_law_496 rfl (lv_at hl 1 rfl) ?_
                refine lv_iload hx hb dL_law_497 (lv_at hl 6 rfl) ?_
                refine lv_iconst (v := (5 : Int32)) hx hb dL_law_499 (by decide) ?_
                obtain ⟨z13, hz13, h⟩ := bd_some h
                refine pR_V (As := [.int x10, .int (5 : Int32)]) (rest := [.int z12]) (wr := (wX7 cA ad2 Y ++ (([(ba1, .inl (cA, 46, .inl B1))] : va_W) ++ (([(ba2, .inl (cA, 46, .inl B2))] : va_W))))) ⟨hx, hb, hml, hown, hts⟩ (c_X7_knot l D cA ad X x10 (5 : Int32) z13 hz13) (cwV 2 hts gL_law_X7_knot rfl rfl rfl hd_X7_knot ⟨(Nat.le_of_ble_eq_true rfl), (Nat.le_of_ble_eq_true rfl)⟩) (recvK hK (P_left (wc := wX7 cA ad X) (R := (wX7 cA ad2 Y ++ (([(ba1, .inl (cA, 46, .inl B1))] : va_W) ++ (([(ba2, .inl (cA, 46, .inl B2))] : va_W))))) (perm_of (fun c hc => by simp only [hc] <;> omega)) hP) 0 7 rfl rfl) hK hP (perm_of (fun c hc => by simp only [hc] <;> omega)) rfl hl.1 rfl (Nat.le_of_ble_eq_true rfl) dL_law_500 ⟨(Nat.le_of_ble_eq_true rfl), (Nat.le_of_ble_eq_true rfl)⟩ ?_
                refine lv_icmp_gt (tgt := 510) hx hb dL_law_503 (by decide) (fun hc => ?_) (fun hc => ?_)
                · have h := if_t hc h
                  refine lv_iconst (v := (0 : Int32)) hx hb dL_law_510 (by decide) ?_
                  refine lv_istore (lv' := [(9, .int (0 : Int32)), (0, .ref sa), (1, .ref (ad 6 0)), (2, .ref (ad2 6 0)), (3, .ref ba1), (5, .int x5), (10, .int x10)]) hx hb dL_law_511 hl (by decide) rfl (fun ls hl => ?_)
                  obtain ⟨v14, ev14⟩ : ∃ y : Int32, y = x10 + (1 : Int32) := ⟨_, rfl⟩
                  refine lv_iinc (v := v14) (lv' := [(10, .int v14), (9, .int (0 : Int32)), (0, .ref sa), (1, .ref (ad 6 0)), (2, .ref (ad2 6 0)), (3, .ref ba1), (5, .int x5)]) hx hb dL_law_513 hl (k := 6) rfl (by rw [ev14]; rfl) (by decide) rfl (fun ls hl => ?_)
                  have h := nm_ap ev14 h
                  refine lv_goto (tgt := 424) hx hb dL_law_516 (by decide) ?_
                  exact ih (0 : Int32) v14 _ _ hP hD hS ls (lv_sub hl [2, 3, 4, 5, 6, 1, 0] rfl) _ h K0
                · have h := if_f hc h
                  refine lv_iconst (v := (1 : Int32)) hx hb dL_law_506 (by decide) ?_
                  refine lv_goto (tgt := 511) hx hb dL_law_507 (by decide) ?_
                  refine lv_istore (lv' := [(9, .int (1 : Int32)), (0, .ref sa), (1, .ref (ad 6 0)), (2, .ref (ad2 6 0)), (3, .ref ba1), (5, .int x5), (10, .int x10)]) hx hb dL_law_511 hl (by decide) rfl (fun ls hl => ?_)
                  obtain ⟨v15, ev15⟩ : ∃ y : Int32, y = x10 + (1 : Int32) := ⟨_, rfl⟩
                  refine lv_iinc (v := v15) (lv' := [(10, .int v15), (9, .int (1 : Int32)), (0, .ref sa), (1, .ref (ad 6 0)), (2, .ref (ad2 6 0)), (3, .ref ba1), (5, .int x5)]) hx hb dL_law_513 hl (k := 6) rfl (by rw [ev15]; rfl) (by decide) rfl (fun ls hl => ?_)
                  have h := nm_ap ev15 h
                  refine lv_goto (tgt := 424) hx hb dL_law_516 (by decide) ?_
                  exact ih (1 : Int32) v15 _ _ hP hD hS ls (lv_sub hl [2, 3, 4, 5, 6, 1, 0] rfl) _ h K0
  have LP53 : ∀ (B1 : (Nat → Int32)) (B2 : (Nat → Int32)) (n : Nat) (x5 : Int32) (X : (Nat → Ob)) (Y : (Nat → Ob)) (H : Heap) (locs : List Loc) (_ : va_P D vwCl (wX7 cA ad X ++ (wX7 cA ad2 Y ++ (([(ba1, .inl (cA, 46, .inl B1))] : va_W) ++ (([(ba2, .inl (cA, 46, .inl B2))] : va_W))))) H) (_ : va_D A (wX7 cA ad X ++ (wX7 cA ad2 Y ++ (([(ba1, .inl (cA, 46, .inl B1))] : va_W) ++ (([(ba2, .inl (cA, 46, .inl B2))] : va_W)))))) (_ : va_S A s.heap H locs) (ls : Array Slot) (_ : lv_has ls 11 [(0, .ref sa), (1, .ref (ad 6 0)), (2, .ref (ad2 6 0)), (3, .ref ba1), (5, .int x5)]) (res : Nat × (Nat → Ob) × (Nat → Ob)) (_ : L_L_law_53 sL sxs B1 B2 n x5 X Y = some res) (_ : (∀ (H : Heap) (locs : List Loc) (_ : va_P D vwCl (wX7 cA ad res.2.1 ++ (wX7 cA ad2 res.2.2 ++ (([(ba1, .inl (cA, 46, .inl B1))] : va_W) ++ (([(ba2, .inl (cA, 46, .inl B2))] : va_W))))) H) (_ : va_D A (wX7 cA ad res.2.1 ++ (wX7 cA ad2 res.2.2 ++ (([(ba1, .inl (cA, 46, .inl B1))] : va_W) ++ (([(ba2, .inl (cA, 46, .inl B2))] : va_W)))))) (_ : va_S A s.heap H locs) (ls : Array Slot), lv_has ls 11 [] → res.1 = 0 → W p l e rmL_law s m args below meth c H locs 92 1880 Q (F0 m 327 ls []))) (_ : (∀ (H : Heap) (locs : List Loc) (_ : va_P D vwCl (wX7 cA ad res.2.1 ++ (wX7 cA ad2 res.2.2 ++ (([(ba1, .inl (cA, 46, .inl B1))] : va_W) ++ (([(ba2, .inl (cA, 46, .inl B2))] : va_W))))) H) (_ : va_D A (wX7 cA ad res.2.1 ++ (wX7 cA ad2 res.2.2 ++ (([(ba1, .inl (cA, 46, .inl B1))] : va_W) ++ (([(ba2, .inl (cA, 46, .inl B2))] : va_W)))))) (_ : va_S A s.heap H locs) (ls : Array Slot), lv_has ls 11 [] → res.1 = 1 → W p l e rmL_law s m args below meth c H locs 92 1880 Q (F0 m 588 ls []))) (_ : (∀ (H : Heap) (locs : List Loc) (_ : va_P D vwCl (wX7 cA ad res.2.1 ++ (wX7 cA ad2 res.2.2 ++ (([(ba1, .inl (cA, 46, .inl B1))] : va_W) ++ (([(ba2, .inl (cA, 46, .inl B2))] : va_W))))) H) (_ : va_D A (wX7 cA ad res.2.1 ++ (wX7 cA ad2 res.2.2 ++ (([(ba1, .inl (cA, 46, .inl B1))] : va_W) ++ (([(ba2, .inl (cA, 46, .inl B2))] : va_W)))))) (_ : va_S A s.heap H locs) (ls : Array Slot), lv_has ls 11 [] → res.1 = 2 → W p l e rmL_law s m args below meth c H locs 92 1880 Q (F0 m 596 ls []))), W p l e rmL_law s m args below meth c H locs 92 1880 Q (F0 m 53 ls []) := by
    intro B1 B2 n
    induction n with
    | zero =>
      intro x5 X Y H locs hP hD hS ls hl res h K0 K1 K2
      exact absurd h (fun q : (none : Option (Nat × (Nat → Ob) × (Nat → Ob))) = some res => by cases q)
    | succ n ih =>
      intro x5 X Y H locs hP hD hS ls hl res h K0 K1 K2
      have h : L_L_law_53_step sL sxs B1 B2 (L_L_law_53 sL sxs B1 B2 n) x5 X Y = some res := h
      unfold L_L_law_53_step at h
      have JP53_367 : ∀ (k0 : Int32) (x5 : Int32) (X : (Nat → Ob)) (Y : (Nat → Ob)) (H : Heap) (locs : List Loc) (_ : va_P D vwCl (wX7 cA ad X ++ (wX7 cA ad2 Y ++ (([(ba1, .inl (cA, 46, .inl B1))] : va_W) ++ (([(ba2, .inl (cA, 46, .inl B2))] : va_W))))) H) (_ : va_D A (wX7 cA ad X ++ (wX7 cA ad2 Y ++ (([(ba1, .inl (cA, 46, .inl B1))] : va_W) ++ (([(ba2, .inl (cA, 46, .inl B2))] : va_W)))))) (_ : va_S A s.heap H locs) (ls : Array Slot) (_ : lv_has ls 11 [(0, .ref sa), (1, .ref (ad 6 0)), (2, .ref (ad2 6 0)), (3, .ref ba1), (5, .int x5)]) (_ : J_L_law_367l53 sL sxs (L_L_law_53 sL sxs B1 B2 n) k0 x5 X Y B1 B2 = some res), W p l e rmL_law s m args below meth c H locs 92 1880 Q (F0 m 367 ls [.int k0]) := by
        intro k0 x5 X Y H locs hP hD hS ls hl h
        unfold J_L_law_367l53 at h
        refine lv_istore (lv' := [(9, .int k0), (0, .ref sa), (1, .ref (ad 6 0)), (2, .ref (ad2 6 0)), (3, .ref ba1), (5, .int x5)]) hx hb dL_law_367 hl (by decide) rfl (fun ls hl => ?_)
        refine lv_iconst (v := (0 : Int32)) hx hb dL_law_369 (by decide) ?_
        refine lv_istore (lv' := [(10, .int (0 : Int32)), (9, .int k0), (0, .ref sa), (1, .ref (ad 6 0)), (2, .ref (ad2 6 0)), (3, .ref ba1), (5, .int x5)]) hx hb dL_law_370 hl (by decide) rfl (fun ls hl => ?_)
        obtain ⟨z1, hz1, h⟩ := bd_some h
        refine LP372 x5 X Y B1 B2 512 k0 (0 : Int32) _ _ hP hD hS ls (lv_sub hl [2, 3, 4, 5, 6, 1, 0] rfl) _ hz1 ?_
        · intro H locs hP hD hS ls hl
          refine lv_iconst (v := (0 : Int32)) hx hb dL_law_421 (by decide) ?_
          refine lv_istore (lv' := [(10, .int (0 : Int32)), (0, .ref sa), (1, .ref (ad 6 0)), (2, .ref (ad2 6 0)), (3, .ref ba1), (5, .int x5), (9, .int z1)]) hx hb dL_law_422 hl (by decide) rfl (fun ls hl => ?_)
          obtain ⟨z2, hz2, h⟩ := bd_some h
          refine LP424 x5 X Y B1 B2 512 z1 (0 : Int32) _ _ hP hD hS ls (lv_sub hl [1, 2, 3, 4, 5, 6, 0] rfl) _ hz2 ?_
          · intro H locs hP hD hS ls hl
            refine lv_iload hx hb dL_law_519 (lv_at hl 5 rfl) ?_
            refine lv_if_eq (tgt := 588) hx hb dL_law_521 (by decide) (fun hc => ?_) (fun hc => ?_)
            · have h := if_t hc h
              cases h
              exact K1 _ _ hP hD hS _ (lv_sub hl [] rfl) rfl
            · have h := if_f hc h
              refine lv_aload_n hx hb dL_law_524 rfl (lv_at hl 1 rfl) ?_
              refine lv_iconst (v := (1 : Int32)) hx hb dL_law_525 (by decide) ?_
              obtain ⟨z3, hz3, h⟩ := bd_some h
              refine pR_V (As := [.int (1 : Int32)]) (rest := []) (wr := (wX7 cA ad2 Y ++ (([(ba1, .inl (cA, 46, .inl B1))] : va_W) ++ (([(ba2, .inl (cA, 46, .inl B2))] : va_W))))) ⟨hx, hb, hml, hown, hts⟩ (c_X7_count l D cA ad X (1 : Int32) z3 hz3) (cwV 1 hts gL_law_X7_count rfl rfl rfl hd_X7_count ⟨(Nat.le_of_ble_eq_true rfl), (Nat.le_of_ble_eq_true rfl)⟩) (recvK hK (P_left (wc := wX7 cA ad X) (R := (wX7 cA ad2 Y ++ (([(ba1, .inl (cA, 46, .inl B1))] : va_W) ++ (([(ba2, .inl (cA, 46, .inl B2))] : va_W))))) (perm_of (fun c hc => by simp only [hc] <;> omega)) hP) 0 7 rfl rfl) hK hP (perm_of (fun c hc => by simp only [hc] <;> omega)) rfl hl.1 rfl (Nat.le_of_ble_eq_true rfl) dL_law_526 ⟨(Nat.le_of_ble_eq_true rfl), (Nat.le_of_ble_eq_true rfl)⟩ ?_
              refine lv_aload_n hx hb dL_law_529 rfl (lv_at hl 3 rfl) ?_
              refine lv_iconst (v := (3 : Int32)) hx hb dL_law_530 (by decide) ?_
              refine iald (q0 := 0) (t0 := 0) (j := 3) hx hb hK (P_left (wc := ([(ba1, .inl (cA, 46, .inl B1))] : va_W)) (R := (wX7 cA ad X ++ (wX7 cA ad2 Y ++ (([(ba2, .inl (cA, 46, .inl B2))] : va_W))))) (perm_of (fun c hc => by simp only [hc] <;> omega)) hP) 0 rfl rfl (vp_in_iff.mpr (by decide)) dL_law_531 ?_
              refine lv_icmp_lt (tgt := 588) hx hb dL_law_532 (by decide) (fun hc => ?_) (fun hc => ?_)
              · have h := if_t hc h
                cases h
                exact K1 _ _ hP hD hS _ (lv_sub hl [] rfl) rfl
              · have h := if_f hc h
                refine lv_aload_n hx hb dL_law_535 rfl (lv_at hl 1 rfl) ?_
                refine lv_iconst (v := (1 : Int32)) hx hb dL_law_536 (by decide) ?_
                obtain ⟨z4, hz4, h⟩ := bd_some h
                refine pR_V (As := [.int (1 : Int32)]) (rest := []) (wr := (wX7 cA ad2 Y ++ (([(ba1, .inl (cA, 46, .inl B1))] : va_W) ++ (([(ba2, .inl (cA, 46, .inl B2))] : va_W))))) ⟨hx, hb, hml, hown, hts⟩ (c_X7_count l D cA ad X (1 : Int32) z4 hz4) (cwV 1 hts gL_law_X7_count rfl rfl rfl hd_X7_count ⟨(Nat.le_of_ble_eq_true rfl), (Nat.le_of_ble_eq_true rfl)⟩) (recvK hK (P_left (wc := wX7 cA ad X) (R := (wX7 cA ad2 Y ++ (([(ba1, .inl (cA, 46, .inl B1))] : va_W) ++ (([(ba2, .inl (cA, 46, .inl B2))] : va_W))))) (perm_of (fun c hc => by simp only [hc] <;> omega)) hP) 0 7 rfl rfl) hK hP (perm_of (fun c hc => by simp only [hc] <;> omega)) rfl hl.1 rfl (Nat.le_of_ble_eq_true rfl) dL_law_537 ⟨(Nat.le_of_ble_eq_true rfl), (Nat.le_of_ble_eq_true rfl)⟩ ?_
                refine lv_bipush (v := (8 : Int32)) hx hb dL_law_540 (by decide) ?_
                refine lv_icmp_gt (tgt := 588) hx hb dL_law_542 (by decide) (fun hc => ?_) (fun hc => ?_)
                · have h := if_t hc h
                  cases h
                  exact K1 _ _ hP hD hS _ (lv_sub hl [] rfl) rfl
                · have h := if_f hc h
                  refine lv_aload_n hx hb dL_law_545 rfl (lv_at hl 1 rfl) ?_
                  refine lv_iconst (v := (2 : Int32)) hx hb dL_law_546 (by decide) ?_
                  obtain ⟨z5, hz5, h⟩ := bd_some h
                  refine pR_V (As := [.int (2 : Int32)]) (rest := []) (wr := (wX7 cA ad2 Y ++ (([(ba1, .inl (cA, 46, .inl B1))] : va_W) ++ (([(ba2, .inl (cA, 46, .inl B2))] : va_W))))) ⟨hx, hb, hml, hown, hts⟩ (c_X7_count l D cA ad X (2 : Int32) z5 hz5) (cwV 1 hts gL_law_X7_count rfl rfl rfl hd_X7_count ⟨(Nat.le_of_ble_eq_true rfl), (Nat.le_of_ble_eq_true rfl)⟩) (recvK hK (P_left (wc := wX7 cA ad X) (R := (wX7 cA ad2 Y ++ (([(ba1, .inl (cA, 46, .inl B1))] : va_W) ++ (([(ba2, .inl (cA, 46, .inl B2))] : va_W))))) (perm_of (fun c hc => by simp only [hc] <;> omega)) hP) 0 7 rfl rfl) hK hP (perm_of (fun c hc => by simp only [hc] <;> omega)) rfl hl.1 rfl (Nat.le_of_ble_eq_true rfl) dL_law_547 ⟨(Nat.le_of_ble_eq_true rfl), (Nat.le_of_ble_eq_true rfl)⟩ ?_
                  refine lv_aload_n hx hb dL_law_550 rfl (lv_at hl 1 rfl) ?_
                  refine lv_iconst (v := (1 : Int32)) hx hb dL_law_551 (by decide) ?_
                  obtain ⟨z6, hz6, h⟩ := bd_some h
                  refine pR_V (As := [.int (1 : Int32)]) (rest := [.int z5]) (wr := (wX7 cA ad2 Y ++ (([(ba1, .inl (cA, 46, .inl B1))] : va_W) ++ (([(ba2, .inl (cA, 46, .inl B2))] : va_W))))) ⟨hx, hb, hml, hown, hts⟩ (c_X7_count l D cA ad X (1 : Int32) z6 hz6) (cwV 1 hts gL_law_X7_count rfl rfl rfl hd_X7_count ⟨(Nat.le_of_ble_eq_true rfl), (Nat.le_of_ble_eq_true rfl)⟩) (recvK hK (P_left (wc := wX7 cA ad X) (R := (wX7 cA ad2 Y ++ (([(ba1, .inl (cA, 46, .inl B1))] : va_W) ++ (([(ba2, .inl (cA, 46, .inl B2))] : va_W))))) (perm_of (fun c hc => by simp only [hc] <;> omega)) hP) 0 7 rfl rfl) hK hP (perm_of (fun c hc => by simp only [hc] <;> omega)) rfl hl.1 rfl (Nat.le_of_ble_eq_true rfl) dL_law_552 ⟨(Nat.le_of_ble_eq_true rfl), (Nat.le_of_ble_eq_true rfl)⟩ ?_
                  refine lv_icmp_gt (tgt := 588) hx hb dL_law_555 (by decide) (fun hc => ?_) (fun hc => ?_)
                  · have h := if_t hc h
                    cases h
                    exact K1 _ _ hP hD hS _ (lv_sub hl [] rfl) rfl
                  · have h := if_f hc h
                    refine lv_aload_n hx hb dL_law_558 rfl (lv_at hl 1 rfl) ?_
                    refine lv_iconst (v := (3 : Int32)) hx hb dL_law_559 (by decide) ?_
                    obtain ⟨z7, hz7, h⟩ := bd_some h
                    refine pR_V (As := [.int (3 : Int32)]) (rest := []) (wr := (wX7 cA ad2 Y ++ (([(ba1, .inl (cA, 46, .inl B1))] : va_W) ++ (([(ba2, .inl (cA, 46, .inl B2))] : va_W))))) ⟨hx, hb, hml, hown, hts⟩ (c_X7_count l D cA ad X (3 : Int32) z7 hz7) (cwV 1 hts gL_law_X7_count rfl rfl rfl hd_X7_count ⟨(Nat.le_of_ble_eq_true rfl), (Nat.le_of_ble_eq_true rfl)⟩) (recvK hK (P_left (wc := wX7 cA ad X) (R := (wX7 cA ad2 Y ++ (([(ba1, .inl (cA, 46, .inl B1))] : va_W) ++ (([(ba2, .inl (cA, 46, .inl B2))] : va_W))))) (perm_of (fun c hc => by simp only [hc] <;> omega)) hP) 0 7 rfl rfl) hK hP (perm_of (fun c hc => by simp only [hc] <;> omega)) rfl hl.1 rfl (Nat.le_of_ble_eq_true rfl) dL_law_560 ⟨(Nat.le_of_ble_eq_true rfl), (Nat.le_of_ble_eq_true rfl)⟩ ?_
                    refine lv_bipush (v := (99 : Int32)) hx hb dL_law_563 (by decide) ?_
                    refine lv_icmp_gt (tgt := 588) hx hb dL_law_565 (by decide) (fun hc => ?_) (fun hc => ?_)
                    · have h := if_t hc h
                      cases h
                      exact K1 _ _ hP hD hS _ (lv_sub hl [] rfl) rfl
                    · have h := if_f hc h
                      refine lv_aload_n hx hb dL_law_568 rfl (lv_at hl 1 rfl) ?_
                      refine lv_iconst (v := (5 : Int32)) hx hb dL_law_569 (by decide) ?_
                      obtain ⟨z8, hz8, h⟩ := bd_some h
                      refine pR_V (As := [.int (5 : Int32)]) (rest := []) (wr := (wX7 cA ad2 Y ++ (([(ba1, .inl (cA, 46, .inl B1))] : va_W) ++ (([(ba2, .inl (cA, 46, .inl B2))] : va_W))))) ⟨hx, hb, hml, hown, hts⟩ (c_X7_count l D cA ad X (5 : Int32) z8 hz8) (cwV 1 hts gL_law_X7_count rfl rfl rfl hd_X7_count ⟨(Nat.le_of_ble_eq_true rfl), (Nat.le_of_ble_eq_true rfl)⟩) (recvK hK (P_left (wc := wX7 cA ad X) (R := (wX7 cA ad2 Y ++ (([(ba1, .inl (cA, 46, .inl B1))] : va_W) ++ (([(ba2, .inl (cA, 46, .inl B2))] : va_W))))) (perm_of (fun c hc => by simp only [hc] <;> omega)) hP) 0 7 rfl rfl) hK hP (perm_of (fun c hc => by simp only [hc] <;> omega)) rfl hl.1 rfl (Nat.le_of_ble_eq_true rfl) dL_law_570 ⟨(Nat.le_of_ble_eq_true rfl), (Nat.le_of_ble_eq_true rfl)⟩ ?_
                      refine lv_bipush (v := (8 : Int32)) hx hb dL_law_573 (by decide) ?_
                      refine lv_icmp_gt (tgt := 588) hx hb dL_law_575 (by decide) (fun hc => ?_) (fun hc => ?_)
                      · have h := if_t hc h
                        cases h
                        exact K1 _ _ hP hD hS _ (lv_sub hl [] rfl) rfl
                      · have h := if_f hc h
                        refine lv_aload_n hx hb dL_law_578 rfl (lv_at hl 1 rfl) ?_
                        refine lv_bipush (v := (6 : Int32)) hx hb dL_law_579 (by decide) ?_
                        obtain ⟨z9, hz9, h⟩ := bd_some h
                        refine pR_V (As := [.int (6 : Int32)]) (rest := []) (wr := (wX7 cA ad2 Y ++ (([(ba1, .inl (cA, 46, .inl B1))] : va_W) ++ (([(ba2, .inl (cA, 46, .inl B2))] : va_W))))) ⟨hx, hb, hml, hown, hts⟩ (c_X7_count l D cA ad X (6 : Int32) z9 hz9) (cwV 1 hts gL_law_X7_count rfl rfl rfl hd_X7_count ⟨(Nat.le_of_ble_eq_true rfl), (Nat.le_of_ble_eq_true rfl)⟩) (recvK hK (P_left (wc := wX7 cA ad X) (R := (wX7 cA ad2 Y ++ (([(ba1, .inl (cA, 46, .inl B1))] : va_W) ++ (([(ba2, .inl (cA, 46, .inl B2))] : va_W))))) (perm_of (fun c hc => by simp only [hc] <;> omega)) hP) 0 7 rfl rfl) hK hP (perm_of (fun c hc => by simp only [hc] <;> omega)) rfl hl.1 rfl (Nat.le_of_ble_eq_true rfl) dL_law_581 ⟨(Nat.le_of_ble_eq_true rfl), (Nat.le_of_ble_eq_true rfl)⟩ ?_
                        refine lv_iconst (v := (2 : Int32)) hx hb dL_law_584 (by decide) ?_
                        refine lv_icmp_le (tgt := 590) hx hb dL_law_585 (by decide) (fun hc => ?_) (fun hc => ?_)
                        · have h := if_t hc h
                          obtain ⟨v10, ev10⟩ : ∃ y : Int32, y = x5 + (1 : Int32) := ⟨_, rfl⟩
                          refine lv_iinc (v := v10) (lv' := [(5, .int v10), (0, .ref sa), (1, .ref (ad 6 0)), (2, .ref (ad2 6 0)), (3, .ref ba1), (9, .int z2)]) hx hb dL_law_590 hl (k := 4) rfl (by rw [ev10]; rfl) (by decide) rfl (fun ls hl => ?_)
                          have h := nm_ap ev10 h
                          refine lv_goto (tgt := 53) hx hb dL_law_593 (by decide) ?_
                          exact ih v10 X Y _ _ hP hD hS ls (lv_sub hl [1, 2, 3, 4, 0] rfl) _ h K0 K1 K2
                        · have h := if_f hc h
                          cases h
                          exact K1 _ _ hP hD hS _ (lv_sub hl [] rfl) rfl
      have JP53_366 : ∀ (x5 : Int32) (X : (Nat → Ob)) (Y : (Nat → Ob)) (H : Heap) (locs : List Loc) (_ : va_P D vwCl (wX7 cA ad X ++ (wX7 cA ad2 Y ++ (([(ba1, .inl (cA, 46, .inl B1))] : va_W) ++ (([(ba2, .inl (cA, 46, .inl B2))] : va_W))))) H) (_ : va_D A (wX7 cA ad X ++ (wX7 cA ad2 Y ++ (([(ba1, .inl (cA, 46, .inl B1))] : va_W) ++ (([(ba2, .inl (cA, 46, .inl B2))] : va_W)))))) (_ : va_S A s.heap H locs) (ls : Array Slot) (_ : lv_has ls 11 [(0, .ref sa), (1, .ref (ad 6 0)), (2, .ref (ad2 6 0)), (3, .ref ba1), (5, .int x5)]) (_ : J_L_law_366l53 sL sxs (L_L_law_53 sL sxs B1 B2 n) x5 X Y B1 B2 = some res), W p l e rmL_law s m args below meth c H locs 92 1880 Q (F0 m 366 ls []) := by
        intro x5 X Y H locs hP hD hS ls hl h
        unfold J_L_law_366l53 at h
        refine lv_iconst (v := (0 : Int32)) hx hb dL_law_366 (by decide) ?_
        exact JP53_367 (0 : Int32) x5 X Y _ _ hP hD hS ls (lv_sub hl [0, 1, 2, 3, 4] rfl) h
      have JP53_298 : ∀ (k0 : Int32) (x5 : Int32) (x6 : Int32) (x7 : Int32) (X : (Nat → Ob)) (Y : (Nat → Ob)) (H : Heap) (locs : List Loc) (_ : va_P D vwCl (wX7 cA ad X ++ (wX7 cA ad2 Y ++ (([(ba1, .inl (cA, 46, .inl B1))] : va_W) ++ (([(ba2, .inl (cA, 46, .inl B2))] : va_W))))) H) (_ : va_D A (wX7 cA ad X ++ (wX7 cA ad2 Y ++ (([(ba1, .inl (cA, 46, .inl B1))] : va_W) ++ (([(ba2, .inl (cA, 46, .inl B2))] : va_W)))))) (_ : va_S A s.heap H locs) (ls : Array Slot) (_ : lv_has ls 11 [(0, .ref sa), (1, .ref (ad 6 0)), (2, .ref (ad2 6 0)), (3, .ref ba1), (5, .int x5), (6, .int x6), (7, .int x7)]) (_ : J_L_law_298l53 sL sxs (L_L_law_53 sL sxs B1 B2 n) k0 x5 x6 x7 X Y B1 B2 = some res), W p l e rmL_law s m args below meth c H locs 92 1880 Q (F0 m 298 ls [.int k0]) := by
        intro k0 x5 x6 x7 X Y H locs hP hD hS ls hl h
        unfold J_L_law_298l53 at h
        refine lv_istore (lv' := [(8, .int k0), (0, .ref sa), (1, .ref (ad 6 0)), (2, .ref (ad2 6 0)), (3, .ref ba1), (5, .int x5), (6, .int x6), (7, .int x7)]) hx hb dL_law_298 hl (by decide) rfl (fun ls hl => ?_)
        refine lv_iload hx hb dL_law_300 (lv_at hl 0 rfl) ?_
        refine lv_if_eq (tgt := 327) hx hb dL_law_302 (by decide) (fun hc => ?_) (fun hc => ?_)
        · have h := if_t hc h
          cases h
          exact K0 _ _ hP hD hS _ (lv_sub hl [] rfl) rfl
        · have h := if_f hc h
          refine lv_aload_n hx hb dL_law_305 rfl (lv_at hl 2 rfl) ?_
          refine lv_iload hx hb dL_law_306 (lv_at hl 6 rfl) ?_
          refine lv_iload hx hb dL_law_308 (lv_at hl 7 rfl) ?_
          refine lv_aload_n hx hb dL_law_310 rfl (lv_at hl 4 rfl) ?_
          obtain ⟨z1, hz1, h⟩ := bd_some h
          refine pL_S (As := [.ref (ad 6 0), .int x6, .int x7, .ref ba1]) (rest := []) (wr := (wX7 cA ad2 Y ++ (([(ba2, .inl (cA, 46, .inl B2))] : va_W)))) (wn := (wX7 cA ad z1.2 ++ (wX7 cA ad2 Y ++ (([(ba1, .inl (cA, 46, .inl B1))] : va_W) ++ (([(ba2, .inl (cA, 46, .inl B2))] : va_W)))))) ⟨hx, hb, hml, hown, hts⟩ (c_L_act l D cA ad X ba1 B1 x6 x7 z1.1 z1.2 hz1) (va_cwS 4 hts gL_law_L_act rfl rfl rfl hd_L_act.2 ⟨(Nat.le_of_ble_eq_true rfl), (Nat.le_of_ble_eq_true rfl)⟩) hK hP hD hS hA (perm_of (fun c hc => by simp only [hc] <;> omega)) (perm_of (fun c hc => by simp only [hc] <;> omega)) rfl hl.1 rfl (Nat.le_of_ble_eq_true rfl) dL_law_311 ⟨(Nat.le_of_ble_eq_true rfl), (Nat.le_of_ble_eq_true rfl)⟩ (fun H locs hP hD hS => ?_)
          refine lv_aload_n hx hb dL_law_314 rfl (lv_at hl 3 rfl) ?_
          refine lv_iload hx hb dL_law_315 (lv_at hl 6 rfl) ?_
          refine lv_iload hx hb dL_law_317 (lv_at hl 7 rfl) ?_
          refine lv_aload_n hx hb dL_law_319 rfl (lv_at hl 4 rfl) ?_
          obtain ⟨z2, hz2, h⟩ := bd_some h
          refine pL_S (As := [.ref (ad2 6 0), .int x6, .int x7, .ref ba1]) (rest := [.long z1.1]) (wr := (wX7 cA ad z1.2 ++ (([(ba2, .inl (cA, 46, .inl B2))] : va_W)))) (wn := (wX7 cA ad z1.2 ++ (wX7 cA ad2 z2.2 ++ (([(ba1, .inl (cA, 46, .inl B1))] : va_W) ++ (([(ba2, .inl (cA, 46, .inl B2))] : va_W)))))) ⟨hx, hb, hml, hown, hts⟩ (c_L_act l D cA ad2 Y ba1 B1 x6 x7 z2.1 z2.2 hz2) (va_cwS 4 hts gL_law_L_act rfl rfl rfl hd_L_act.2 ⟨(Nat.le_of_ble_eq_true rfl), (Nat.le_of_ble_eq_true rfl)⟩) hK hP hD hS hA (perm_of (fun c hc => by simp only [hc] <;> omega)) (perm_of (fun c hc => by simp only [hc] <;> omega)) rfl hl.1 rfl (Nat.le_of_ble_eq_true rfl) dL_law_320 ⟨(Nat.le_of_ble_eq_true rfl), (Nat.le_of_ble_eq_true rfl)⟩ (fun H locs hP hD hS => ?_)
          refine W.lcmp hx hb dL_law_323 ?_
          refine lv_if_eq (tgt := 329) hx hb dL_law_324 (by decide) (fun hc => ?_) (fun hc => ?_)
          · have h := if_t hc h
            refine lv_aload_n hx hb dL_law_329 rfl (lv_at hl 2 rfl) ?_
            obtain ⟨z3, hz3, h⟩ := bd_some h
            refine pR_V (As := []) (rest := []) (wr := (wX7 cA ad2 z2.2 ++ (([(ba1, .inl (cA, 46, .inl B1))] : va_W) ++ (([(ba2, .inl (cA, 46, .inl B2))] : va_W))))) ⟨hx, hb, hml, hown, hts⟩ (c_X7_forEver l D cA ad z1.2  z3 hz3) (cwV 0 hts gL_law_X7_forEver rfl rfl rfl hd_X7_forEver ⟨(Nat.le_of_ble_eq_true rfl), (Nat.le_of_ble_eq_true rfl)⟩) (recvK hK (P_left (wc := wX7 cA ad z1.2) (R := (wX7 cA ad2 z2.2 ++ (([(ba1, .inl (cA, 46, .inl B1))] : va_W) ++ (([(ba2, .inl (cA, 46, .inl B2))] : va_W))))) (perm_of (fun c hc => by simp only [hc] <;> omega)) hP) 0 7 rfl rfl) hK hP (perm_of (fun c hc => by simp only [hc] <;> omega)) rfl hl.1 rfl (Nat.le_of_ble_eq_true rfl) dL_law_330 ⟨(Nat.le_of_ble_eq_true rfl), (Nat.le_of_ble_eq_true rfl)⟩ ?_
            refine lv_aload_n hx hb dL_law_333 rfl (lv_at hl 3 rfl) ?_
            obtain ⟨z4, hz4, h⟩ := bd_some h
            refine pR_V (As := []) (rest := [.int z3]) (wr := (wX7 cA ad z1.2 ++ (([(ba1, .inl (cA, 46, .inl B1))] : va_W) ++ (([(ba2, .inl (cA, 46, .inl B2))] : va_W))))) ⟨hx, hb, hml, hown, hts⟩ (c_X7_forEver l D cA ad2 z2.2  z4 hz4) (cwV 0 hts gL_law_X7_forEver rfl rfl rfl hd_X7_forEver ⟨(Nat.le_of_ble_eq_true rfl), (Nat.le_of_ble_eq_true rfl)⟩) (recvK hK (P_left (wc := wX7 cA ad2 z2.2) (R := (wX7 cA ad z1.2 ++ (([(ba1, .inl (cA, 46, .inl B1))] : va_W) ++ (([(ba2, .inl (cA, 46, .inl B2))] : va_W))))) (perm_of (fun c hc => by simp only [hc] <;> omega)) hP) 0 7 rfl rfl) hK hP (perm_of (fun c hc => by simp only [hc] <;> omega)) rfl hl.1 rfl (Nat.le_of_ble_eq_true rfl) dL_law_334 ⟨(Nat.le_of_ble_eq_true rfl), (Nat.le_of_ble_eq_true rfl)⟩ ?_
            refine lv_icmp_ne (tgt := 366) hx hb dL_law_337 (by decide) (fun hc => ?_) (fun hc => ?_)
            · have h := if_f hc h
              exact JP53_366 x5 z1.2 z2.2 _ _ hP hD hS ls (lv_sub hl [1, 2, 3, 4, 5] rfl) h
            · have h := if_t hc h
              refine lv_aload_n hx hb dL_law_340 rfl (lv_at hl 2 rfl) ?_
              obtain ⟨z5, hz5, h⟩ := bd_some h
              refine pR_V (As := []) (rest := []) (wr := (wX7 cA ad2 z2.2 ++ (([(ba1, .inl (cA, 46, .inl B1))] : va_W) ++ (([(ba2, .inl (cA, 46, .inl B2))] : va_W))))) ⟨hx, hb, hml, hown, hts⟩ (c_X7_alike l D cA ad z1.2  z5 hz5) (cwV 0 hts gL_law_X7_alike rfl rfl rfl hd_X7_alike ⟨(Nat.le_of_ble_eq_true rfl), (Nat.le_of_ble_eq_true rfl)⟩) (recvK hK (P_left (wc := wX7 cA ad z1.2) (R := (wX7 cA ad2 z2.2 ++ (([(ba1, .inl (cA, 46, .inl B1))] : va_W) ++ (([(ba2, .inl (cA, 46, .inl B2))] : va_W))))) (perm_of (fun c hc => by simp only [hc] <;> omega)) hP) 0 7 rfl rfl) hK hP (perm_of (fun c hc => by simp only [hc] <;> omega)) rfl hl.1 rfl (Nat.le_of_ble_eq_true rfl) dL_law_341 ⟨(Nat.le_of_ble_eq_true rfl), (Nat.le_of_ble_eq_true rfl)⟩ ?_
              refine lv_aload_n hx hb dL_law_344 rfl (lv_at hl 3 rfl) ?_
              obtain ⟨z6, hz6, h⟩ := bd_some h
              refine pR_V (As := []) (rest := [.int z5]) (wr := (wX7 cA ad z1.2 ++ (([(ba1, .inl (cA, 46, .inl B1))] : va_W) ++ (([(ba2, .inl (cA, 46, .inl B2))] : va_W))))) ⟨hx, hb, hml, hown, hts⟩ (c_X7_alike l D cA ad2 z2.2  z6 hz6) (cwV 0 hts gL_law_X7_alike rfl rfl rfl hd_X7_alike ⟨(Nat.le_of_ble_eq_true rfl), (Nat.le_of_ble_eq_true rfl)⟩) (recvK hK (P_left (wc := wX7 cA ad2 z2.2) (R := (wX7 cA ad z1.2 ++ (([(ba1, .inl (cA, 46, .inl B1))] : va_W) ++ (([(ba2, .inl (cA, 46, .inl B2))] : va_W))))) (perm_of (fun c hc => by simp only [hc] <;> omega)) hP) 0 7 rfl rfl) hK hP (perm_of (fun c hc => by simp only [hc] <;> omega)) rfl hl.1 rfl (Nat.le_of_ble_eq_true rfl) dL_law_345 ⟨(Nat.le_of_ble_eq_true rfl), (Nat.le_of_ble_eq_true rfl)⟩ ?_
              refine lv_icmp_ne (tgt := 366) hx hb dL_law_348 (by decide) (fun hc => ?_) (fun hc => ?_)
              · have h := if_f hc h
                exact JP53_366 x5 z1.2 z2.2 _ _ hP hD hS ls (lv_sub hl [1, 2, 3, 4, 5] rfl) h
              · have h := if_t hc h
                refine lv_aload_n hx hb dL_law_351 rfl (lv_at hl 2 rfl) ?_
                obtain ⟨z7, hz7, h⟩ := bd_some h
                refine pR_V (As := []) (rest := []) (wr := (wX7 cA ad2 z2.2 ++ (([(ba1, .inl (cA, 46, .inl B1))] : va_W) ++ (([(ba2, .inl (cA, 46, .inl B2))] : va_W))))) ⟨hx, hb, hml, hown, hts⟩ (c_X7_judge l D cA ad z1.2  z7 hz7) (cwV 0 hts gL_law_X7_judge rfl rfl rfl hd_X7_judge ⟨(Nat.le_of_ble_eq_true rfl), (Nat.le_of_ble_eq_true rfl)⟩) (recvK hK (P_left (wc := wX7 cA ad z1.2) (R := (wX7 cA ad2 z2.2 ++ (([(ba1, .inl (cA, 46, .inl B1))] : va_W) ++ (([(ba2, .inl (cA, 46, .inl B2))] : va_W))))) (perm_of (fun c hc => by simp only [hc] <;> omega)) hP) 0 7 rfl rfl) hK hP (perm_of (fun c hc => by simp only [hc] <;> omega)) rfl hl.1 rfl (Nat.le_of_ble_eq_true rfl) dL_law_352 ⟨(Nat.le_of_ble_eq_true rfl), (Nat.le_of_ble_eq_true rfl)⟩ ?_
                refine lv_aload_n hx hb dL_law_355 rfl (lv_at hl 3 rfl) ?_
                obtain ⟨z8, hz8, h⟩ := bd_some h
                refine pR_V (As := []) (rest := [.int z7]) (wr := (wX7 cA ad z1.2 ++ (([(ba1, .inl (cA, 46, .inl B1))] : va_W) ++ (([(ba2, .inl (cA, 46, .inl B2))] : va_W))))) ⟨hx, hb, hml, hown, hts⟩ (c_X7_judge l D cA ad2 z2.2  z8 hz8) (cwV 0 hts gL_law_X7_judge rfl rfl rfl hd_X7_judge ⟨(Nat.le_of_ble_eq_true rfl), (Nat.le_of_ble_eq_true rfl)⟩) (recvK hK (P_left (wc := wX7 cA ad2 z2.2) (R := (wX7 cA ad z1.2 ++ (([(ba1, .inl (cA, 46, .inl B1))] : va_W) ++ (([(ba2, .inl (cA, 46, .inl B2))] : va_W))))) (perm_of (fun c hc => by simp only [hc] <;> omega)) hP) 0 7 rfl rfl) hK hP (perm_of (fun c hc => by simp only [hc] <;> omega)) rfl hl.1 rfl (Nat.le_of_ble_eq_true rfl) dL_law_356 ⟨(Nat.le_of_ble_eq_true rfl), (Nat.le_of_ble_eq_true rfl)⟩ ?_
                refine lv_icmp_ne (tgt := 366) hx hb dL_law_359 (by decide) (fun hc => ?_) (fun hc => ?_)
                · have h := if_f hc h
                  exact JP53_366 x5 z1.2 z2.2 _ _ hP hD hS ls (lv_sub hl [1, 2, 3, 4, 5] rfl) h
                · have h := if_t hc h
                  refine lv_iconst (v := (1 : Int32)) hx hb dL_law_362 (by decide) ?_
                  refine lv_goto (tgt := 367) hx hb dL_law_363 (by decide) ?_
                  exact JP53_367 (1 : Int32) x5 z1.2 z2.2 _ _ hP hD hS ls (lv_sub hl [1, 2, 3, 4, 5] rfl) h
          · have h := if_f hc h
            cases h
            exact K0 _ _ hP hD hS _ (lv_sub hl [] rfl) rfl
      have JP53_297 : ∀ (x5 : Int32) (x6 : Int32) (x7 : Int32) (X : (Nat → Ob)) (Y : (Nat → Ob)) (H : Heap) (locs : List Loc) (_ : va_P D vwCl (wX7 cA ad X ++ (wX7 cA ad2 Y ++ (([(ba1, .inl (cA, 46, .inl B1))] : va_W) ++ (([(ba2, .inl (cA, 46, .inl B2))] : va_W))))) H) (_ : va_D A (wX7 cA ad X ++ (wX7 cA ad2 Y ++ (([(ba1, .inl (cA, 46, .inl B1))] : va_W) ++ (([(ba2, .inl (cA, 46, .inl B2))] : va_W)))))) (_ : va_S A s.heap H locs) (ls : Array Slot) (_ : lv_has ls 11 [(0, .ref sa), (1, .ref (ad 6 0)), (2, .ref (ad2 6 0)), (3, .ref ba1), (5, .int x5), (6, .int x6), (7, .int x7)]) (_ : J_L_law_297l53 sL sxs (L_L_law_53 sL sxs B1 B2 n) x5 x6 x7 X Y B1 B2 = some res), W p l e rmL_law s m args below meth c H locs 92 1880 Q (F0 m 297 ls []) := by
        intro x5 x6 x7 X Y H locs hP hD hS ls hl h
        unfold J_L_law_297l53 at h
        refine lv_iconst (v := (0 : Int32)) hx hb dL_law_297 (by decide) ?_
        exact JP53_298 (0 : Int32) x5 x6 x7 X Y _ _ hP hD hS ls (lv_sub hl [0, 1, 2, 3, 4, 5, 6] rfl) h
      refine lv_iload hx hb dL_law_53 (lv_at hl 4 rfl) ?_
      refine lv_bipush (v := (40 : Int32)) hx hb dL_law_55 (by decide) ?_
      refine lv_icmp_ge (tgt := 596) hx hb dL_law_57 (by decide) (fun hc => ?_) (fun hc => ?_)
      · have h := if_t hc h
        cases h
        exact K2 _ _ hP hD hS _ (lv_sub hl [] rfl) rfl
      · have h := if_f hc h
        refine lv_aload_n hx hb dL_law_60 rfl (lv_at hl 0 rfl) ?_
        refine lv_bipush (v := (9 : Int32)) hx hb dL_law_61 (by decide) ?_
        refine lv_iconst (v := (2 : Int32)) hx hb dL_law_63 (by decide) ?_
        refine lv_iload hx hb dL_law_64 (lv_at hl 4 rfl) ?_
        refine lv_imul hx hb dL_law_66 ?_
        refine lv_iadd hx hb dL_law_67 ?_
        obtain ⟨z1, hz1, h⟩ := bd_some h
        refine pX_S (As := [.ref sa, .int ((9 : Int32) + ((2 : Int32) * x5))]) (rest := []) ⟨hx, hb, hml, hown, hts⟩ (c_L_cell l D cA  sa sL sxs ((9 : Int32) + ((2 : Int32) * x5)) z1 hz1) (va_cwS 2 hts gL_law_L_cell rfl rfl rfl hd_L_cell.2 ⟨(Nat.le_of_ble_eq_true rfl), (Nat.le_of_ble_eq_true rfl)⟩) hK hX hbl hbA hS rfl hl.1 rfl (Nat.le_of_ble_eq_true rfl) dL_law_68 ⟨(Nat.le_of_ble_eq_true rfl), (Nat.le_of_ble_eq_true rfl)⟩ ?_
        refine lv_istore (lv' := [(6, .int z1), (0, .ref sa), (1, .ref (ad 6 0)), (2, .ref (ad2 6 0)), (3, .ref ba1), (5, .int x5)]) hx hb dL_law_71 hl (by decide) rfl (fun ls hl => ?_)
        refine lv_aload_n hx hb dL_law_73 rfl (lv_at hl 1 rfl) ?_
        refine lv_bipush (v := (10 : Int32)) hx hb dL_law_74 (by decide) ?_
        refine lv_iconst (v := (2 : Int32)) hx hb dL_law_76 (by decide) ?_
        refine lv_iload hx hb dL_law_77 (lv_at hl 5 rfl) ?_
        refine lv_imul hx hb dL_law_79 ?_
        refine lv_iadd hx hb dL_law_80 ?_
        obtain ⟨z2, hz2, h⟩ := bd_some h
        refine pX_S (As := [.ref sa, .int ((10 : Int32) + ((2 : Int32) * x5))]) (rest := []) ⟨hx, hb, hml, hown, hts⟩ (c_L_cell l D cA  sa sL sxs ((10 : Int32) + ((2 : Int32) * x5)) z2 hz2) (va_cwS 2 hts gL_law_L_cell rfl rfl rfl hd_L_cell.2 ⟨(Nat.le_of_ble_eq_true rfl), (Nat.le_of_ble_eq_true rfl)⟩) hK hX hbl hbA hS rfl hl.1 rfl (Nat.le_of_ble_eq_true rfl) dL_law_81 ⟨(Nat.le_of_ble_eq_true rfl), (Nat.le_of_ble_eq_true rfl)⟩ ?_
        refine lv_istore (lv' := [(7, .int z2), (6, .int z1), (0, .ref sa), (1, .ref (ad 6 0)), (2, .ref (ad2 6 0)), (3, .ref ba1), (5, .int x5)]) hx hb dL_law_84 hl (by decide) rfl (fun ls hl => ?_)
        refine lv_aload_n hx hb dL_law_86 rfl (lv_at hl 4 rfl) ?_
        refine lv_bipush (v := (9 : Int32)) hx hb dL_law_87 (by decide) ?_
        refine lv_lconst (v := (0 : Int64)) hx hb dL_law_89 (by decide) ?_
        obtain ⟨z3, hz3, h⟩ := bd_some h
        refine pW_V (As := [.int (9 : Int32), .long (0 : Int64)]) (rest := []) (wr := (wX7 cA ad X ++ (([(ba1, .inl (cA, 46, .inl B1))] : va_W) ++ (([(ba2, .inl (cA, 46, .inl B2))] : va_W))))) (wn := (wX7 cA ad X ++ (wX7 cA ad2 z3.2 ++ (([(ba1, .inl (cA, 46, .inl B1))] : va_W) ++ (([(ba2, .inl (cA, 46, .inl B2))] : va_W)))))) ⟨hx, hb, hml, hown, hts⟩ (c_X7_write l D cA ad2 Y (9 : Int32) (0 : Int64) z3.1 z3.2 hz3) (cwV 2 hts gL_law_X7_write rfl rfl rfl hd_X7_write ⟨(Nat.le_of_ble_eq_true rfl), (Nat.le_of_ble_eq_true rfl)⟩) (recvK hK (P_left (wc := wX7 cA ad2 Y) (R := (wX7 cA ad X ++ (([(ba1, .inl (cA, 46, .inl B1))] : va_W) ++ (([(ba2, .inl (cA, 46, .inl B2))] : va_W))))) (perm_of (fun c hc => by simp only [hc] <;> omega)) hP) 0 7 rfl rfl) hK hP hD hS hA (perm_of (fun c hc => by simp only [hc] <;> omega)) (perm_of (fun c hc => by simp only [hc] <;> omega)) rfl hl.1 rfl (Nat.le_of_ble_eq_true rfl) dL_law_90 ⟨(Nat.le_of_ble_eq_true rfl), (Nat.le_of_ble_eq_true rfl)⟩ (fun H locs hP hD hS => ?_)
        refine lv_iconst (v := (-1 : Int32)) hx hb dL_law_93 (by decide) ?_
        refine lv_icmp_ne (tgt := 297) hx hb dL_law_94 (by decide) (fun hc => ?_) (fun hc => ?_)
        · have h := if_f hc h
          exact JP53_297 x5 z1 z2 X z3.2 _ _ hP hD hS ls (lv_sub hl [2, 3, 4, 5, 6, 1, 0] rfl) h
        · have h := if_t hc h
          refine lv_aload_n hx hb dL_law_97 rfl (lv_at hl 4 rfl) ?_
          refine lv_bipush (v := (8 : Int32)) hx hb dL_law_98 (by decide) ?_
          refine lv_iconst (v := (0 : Int32)) hx hb dL_law_100 (by decide) ?_
          obtain ⟨z4, hz4, h⟩ := bd_some h
          refine pR_V (As := [.int (8 : Int32), .int (0 : Int32)]) (rest := []) (wr := (wX7 cA ad X ++ (([(ba1, .inl (cA, 46, .inl B1))] : va_W) ++ (([(ba2, .inl (cA, 46, .inl B2))] : va_W))))) ⟨hx, hb, hml, hown, hts⟩ (c_X7_knot l D cA ad2 z3.2 (8 : Int32) (0 : Int32) z4 hz4) (cwV 2 hts gL_law_X7_knot rfl rfl rfl hd_X7_knot ⟨(Nat.le_of_ble_eq_true rfl), (Nat.le_of_ble_eq_true rfl)⟩) (recvK hK (P_left (wc := wX7 cA ad2 z3.2) (R := (wX7 cA ad X ++ (([(ba1, .inl (cA, 46, .inl B1))] : va_W) ++ (([(ba2, .inl (cA, 46, .inl B2))] : va_W))))) (perm_of (fun c hc => by simp only [hc] <;> omega)) hP) 0 7 rfl rfl) hK hP (perm_of (fun c hc => by simp only [hc] <;> omega)) rfl hl.1 rfl (Nat.le_of_ble_eq_true rfl) dL_law_101 ⟨(Nat.le_of_ble_eq_true rfl), (Nat.le_of_ble_eq_true rfl)⟩ ?_
          refine lv_iconst (v := (-1 : Int32)) hx hb dL_law_104 (by decide) ?_
          refine lv_icmp_ne (tgt := 297) hx hb dL_law_105 (by decide) (fun hc => ?_) (fun hc => ?_)
          · have h := if_f hc h
            exact JP53_297 x5 z1 z2 X z3.2 _ _ hP hD hS ls (lv_sub hl [2, 3, 4, 5, 6, 1, 0] rfl) h
          · have h := if_t hc h
            refine lv_aload_n hx hb dL_law_108 rfl (lv_at hl 4 rfl) ?_
            refine lv_bipush (v := (6 : Int32)) hx hb dL_law_109 (by decide) ?_
            refine lv_iconst (v := (0 : Int32)) hx hb dL_law_111 (by decide) ?_
            obtain ⟨z5, hz5, h⟩ := bd_some h
            refine pR_V (As := [.int (6 : Int32), .int (0 : Int32)]) (rest := []) (wr := (wX7 cA ad X ++ (([(ba1, .inl (cA, 46, .inl B1))] : va_W) ++ (([(ba2, .inl (cA, 46, .inl B2))] : va_W))))) ⟨hx, hb, hml, hown, hts⟩ (c_X7_person l D cA ad2 z3.2 (6 : Int32) (0 : Int32) z5 hz5) (cwV 2 hts gL_law_X7_person rfl rfl rfl hd_X7_person ⟨(Nat.le_of_ble_eq_true rfl), (Nat.le_of_ble_eq_true rfl)⟩) (recvK hK (P_left (wc := wX7 cA ad2 z3.2) (R := (wX7 cA ad X ++ (([(ba1, .inl (cA, 46, .inl B1))] : va_W) ++ (([(ba2, .inl (cA, 46, .inl B2))] : va_W))))) (perm_of (fun c hc => by simp only [hc] <;> omega)) hP) 0 7 rfl rfl) hK hP (perm_of (fun c hc => by simp only [hc] <;> omega)) rfl hl.1 rfl (Nat.le_of_ble_eq_true rfl) dL_law_112 ⟨(Nat.le_of_ble_eq_true rfl), (Nat.le_of_ble_eq_true rfl)⟩ ?_
            refine lv_iconst (v := (-1 : Int32)) hx hb dL_law_115 (by decide) ?_
            refine lv_icmp_ne (tgt := 297) hx hb dL_law_116 (by decide) (fun hc => ?_) (fun hc => ?_)
            · have h := if_f hc h
              exact JP53_297 x5 z1 z2 X z3.2 _ _ hP hD hS ls (lv_sub hl [2, 3, 4, 5, 6, 1, 0] rfl) h
            · have h := if_t hc h
              refine lv_aload_n hx hb dL_law_119 rfl (lv_at hl 4 rfl) ?_
              refine lv_bipush (v := (8 : Int32)) hx hb dL_law_120 (by decide) ?_
              obtain ⟨z6, hz6, h⟩ := bd_some h
              refine pR_V (As := [.int (8 : Int32)]) (rest := []) (wr := (wX7 cA ad X ++ (([(ba1, .inl (cA, 46, .inl B1))] : va_W) ++ (([(ba2, .inl (cA, 46, .inl B2))] : va_W))))) ⟨hx, hb, hml, hown, hts⟩ (c_X7_may l D cA ad2 z3.2 (8 : Int32) z6 hz6) (cwV 1 hts gL_law_X7_may rfl rfl rfl hd_X7_may ⟨(Nat.le_of_ble_eq_true rfl), (Nat.le_of_ble_eq_true rfl)⟩) (recvK hK (P_left (wc := wX7 cA ad2 z3.2) (R := (wX7 cA ad X ++ (([(ba1, .inl (cA, 46, .inl B1))] : va_W) ++ (([(ba2, .inl (cA, 46, .inl B2))] : va_W))))) (perm_of (fun c hc => by simp only [hc] <;> omega)) hP) 0 7 rfl rfl) hK hP (perm_of (fun c hc => by simp only [hc] <;> omega)) rfl hl.1 rfl (Nat.le_of_ble_eq_true rfl) dL_law_122 ⟨(Nat.le_of_ble_eq_true rfl), (Nat.le_of_ble_eq_true rfl)⟩ ?_
              refine lv_iconst (v := (-1 : Int32)) hx hb dL_law_125 (by decide) ?_
              refine lv_icmp_ne (tgt := 297) hx hb dL_law_126 (by decide) (fun hc => ?_) (fun hc => ?_)
              · have h := if_f hc h
                exact JP53_297 x5 z1 z2 X z3.2 _ _ hP hD hS ls (lv_sub hl [2, 3, 4, 5, 6, 1, 0] rfl) h
              · have h := if_t hc h
                refine lv_aload_n hx hb dL_law_129 rfl (lv_at hl 4 rfl) ?_
                refine lv_bipush (v := (8 : Int32)) hx hb dL_law_130 (by decide) ?_
                obtain ⟨z7, hz7, h⟩ := bd_some h
                refine pW_V (As := [.int (8 : Int32)]) (rest := []) (wr := (wX7 cA ad X ++ (([(ba1, .inl (cA, 46, .inl B1))] : va_W) ++ (([(ba2, .inl (cA, 46, .inl B2))] : va_W))))) (wn := (wX7 cA ad X ++ (wX7 cA ad2 z7.2 ++ (([(ba1, .inl (cA, 46, .inl B1))] : va_W) ++ (([(ba2, .inl (cA, 46, .inl B2))] : va_W)))))) ⟨hx, hb, hml, hown, hts⟩ (c_X7_undo l D cA ad2 z3.2 (8 : Int32) z7.1 z7.2 hz7) (cwV 1 hts gL_law_X7_undo rfl rfl rfl hd_X7_undo ⟨(Nat.le_of_ble_eq_true rfl), (Nat.le_of_ble_eq_true rfl)⟩) (recvK hK (P_left (wc := wX7 cA ad2 z3.2) (R := (wX7 cA ad X ++ (([(ba1, .inl (cA, 46, .inl B1))] : va_W) ++ (([(ba2, .inl (cA, 46, .inl B2))] : va_W))))) (perm_of (fun c hc => by simp only [hc] <;> omega)) hP) 0 7 rfl rfl) hK hP hD hS hA (perm_of (fun c hc => by simp only [hc] <;> omega)) (perm_of (fun c hc => by simp only [hc] <;> omega)) rfl hl.1 rfl (Nat.le_of_ble_eq_true rfl) dL_law_132 ⟨(Nat.le_of_ble_eq_true rfl), (Nat.le_of_ble_eq_true rfl)⟩ (fun H locs hP hD hS => ?_)
                refine lv_iconst (v := (-1 : Int32)) hx hb dL_law_135 (by decide) ?_
                refine lv_icmp_ne (tgt := 297) hx hb dL_law_136 (by decide) (fun hc => ?_) (fun hc => ?_)
                · have h := if_f hc h
                  exact JP53_297 x5 z1 z2 X z7.2 _ _ hP hD hS ls (lv_sub hl [2, 3, 4, 5, 6, 1, 0] rfl) h
                · have h := if_t hc h
                  refine lv_aload_n hx hb dL_law_139 rfl (lv_at hl 4 rfl) ?_
                  refine lv_iconst (v := (0 : Int32)) hx hb dL_law_140 (by decide) ?_
                  refine lv_iconst (v := (0 : Int32)) hx hb dL_law_141 (by decide) ?_
                  refine lv_iconst (v := (0 : Int32)) hx hb dL_law_142 (by decide) ?_
                  refine lv_iconst (v := (0 : Int32)) hx hb dL_law_143 (by decide) ?_
                  refine lv_iconst (v := (0 : Int32)) hx hb dL_law_144 (by decide) ?_
                  obtain ⟨z8, hz8, h⟩ := bd_some h
                  refine pW_V (As := [.int (0 : Int32), .int (0 : Int32), .int (0 : Int32), .int (0 : Int32), .int (0 : Int32)]) (rest := []) (wr := (wX7 cA ad X ++ (([(ba1, .inl (cA, 46, .inl B1))] : va_W) ++ (([(ba2, .inl (cA, 46, .inl B2))] : va_W))))) (wn := (wX7 cA ad X ++ (wX7 cA ad2 z8.2 ++ (([(ba1, .inl (cA, 46, .inl B1))] : va_W) ++ (([(ba2, .inl (cA, 46, .inl B2))] : va_W)))))) ⟨hx, hb, hml, hown, hts⟩ (c_X7_tie l D cA ad2 z7.2 (0 : Int32) (0 : Int32) (0 : Int32) (0 : Int32) (0 : Int32) z8.1 z8.2 hz8) (cwV 5 hts gL_law_X7_tie rfl rfl rfl hd_X7_tie ⟨(Nat.le_of_ble_eq_true rfl), (Nat.le_of_ble_eq_true rfl)⟩) (recvK hK (P_left (wc := wX7 cA ad2 z7.2) (R := (wX7 cA ad X ++ (([(ba1, .inl (cA, 46, .inl B1))] : va_W) ++ (([(ba2, .inl (cA, 46, .inl B2))] : va_W))))) (perm_of (fun c hc => by simp only [hc] <;> omega)) hP) 0 7 rfl rfl) hK hP hD hS hA (perm_of (fun c hc => by simp only [hc] <;> omega)) (perm_of (fun c hc => by simp only [hc] <;> omega)) rfl hl.1 rfl (Nat.le_of_ble_eq_true rfl) dL_law_145 ⟨(Nat.le_of_ble_eq_true rfl), (Nat.le_of_ble_eq_true rfl)⟩ (fun H locs hP hD hS => ?_)
                  refine lv_iconst (v := (-1 : Int32)) hx hb dL_law_148 (by decide) ?_
                  refine lv_icmp_ne (tgt := 297) hx hb dL_law_149 (by decide) (fun hc => ?_) (fun hc => ?_)
                  · have h := if_f hc h
                    exact JP53_297 x5 z1 z2 X z8.2 _ _ hP hD hS ls (lv_sub hl [2, 3, 4, 5, 6, 1, 0] rfl) h
                  · have h := if_t hc h
                    refine lv_aload_n hx hb dL_law_152 rfl (lv_at hl 4 rfl) ?_
                    refine lv_bipush (v := (8 : Int32)) hx hb dL_law_153 (by decide) ?_
                    obtain ⟨z9, hz9, h⟩ := bd_some h
                    refine pW_V (As := [.int (8 : Int32)]) (rest := []) (wr := (wX7 cA ad X ++ (([(ba1, .inl (cA, 46, .inl B1))] : va_W) ++ (([(ba2, .inl (cA, 46, .inl B2))] : va_W))))) (wn := (wX7 cA ad X ++ (wX7 cA ad2 z9.2 ++ (([(ba1, .inl (cA, 46, .inl B1))] : va_W) ++ (([(ba2, .inl (cA, 46, .inl B2))] : va_W)))))) ⟨hx, hb, hml, hown, hts⟩ (c_X7_pull l D cA ad2 z8.2 (8 : Int32) z9.1 z9.2 hz9) (cwV 1 hts gL_law_X7_pull rfl rfl rfl hd_X7_pull ⟨(Nat.le_of_ble_eq_true rfl), (Nat.le_of_ble_eq_true rfl)⟩) (recvK hK (P_left (wc := wX7 cA ad2 z8.2) (R := (wX7 cA ad X ++ (([(ba1, .inl (cA, 46, .inl B1))] : va_W) ++ (([(ba2, .inl (cA, 46, .inl B2))] : va_W))))) (perm_of (fun c hc => by simp only [hc] <;> omega)) hP) 0 7 rfl rfl) hK hP hD hS hA (perm_of (fun c hc => by simp only [hc] <;> omega)) (perm_of (fun c hc => by simp only [hc] <;> omega)) rfl hl.1 rfl (Nat.le_of_ble_eq_true rfl) dL_law_155 ⟨(Nat.le_of_ble_eq_true rfl), (Nat.le_of_ble_eq_true rfl)⟩ (fun H locs hP hD hS => ?_)
                    refine lv_iconst (v := (-1 : Int32)) hx hb dL_law_158 (by decide) ?_
                    refine lv_icmp_ne (tgt := 297) hx hb dL_law_159 (by decide) (fun hc => ?_) (fun hc => ?_)
                    · have h := if_f hc h
                      exact JP53_297 x5 z1 z2 X z9.2 _ _ hP hD hS ls (lv_sub hl [2, 3, 4, 5, 6, 1, 0] rfl) h
                    · have h := if_t hc h
                      refine lv_aload_n hx hb dL_law_162 rfl (lv_at hl 4 rfl) ?_
                      refine lv_iconst (v := (-1 : Int32)) hx hb dL_law_163 (by decide) ?_
                      obtain ⟨z10, hz10, h⟩ := bd_some h
                      refine pW_V (As := [.int (-1 : Int32)]) (rest := []) (wr := (wX7 cA ad X ++ (([(ba1, .inl (cA, 46, .inl B1))] : va_W) ++ (([(ba2, .inl (cA, 46, .inl B2))] : va_W))))) (wn := (wX7 cA ad X ++ (wX7 cA ad2 z10.2 ++ (([(ba1, .inl (cA, 46, .inl B1))] : va_W) ++ (([(ba2, .inl (cA, 46, .inl B2))] : va_W)))))) ⟨hx, hb, hml, hown, hts⟩ (c_X7_cut l D cA ad2 z9.2 (-1 : Int32) z10.1 z10.2 hz10) (cwV 1 hts gL_law_X7_cut rfl rfl rfl hd_X7_cut ⟨(Nat.le_of_ble_eq_true rfl), (Nat.le_of_ble_eq_true rfl)⟩) (recvK hK (P_left (wc := wX7 cA ad2 z9.2) (R := (wX7 cA ad X ++ (([(ba1, .inl (cA, 46, .inl B1))] : va_W) ++ (([(ba2, .inl (cA, 46, .inl B2))] : va_W))))) (perm_of (fun c hc => by simp only [hc] <;> omega)) hP) 0 7 rfl rfl) hK hP hD hS hA (perm_of (fun c hc => by simp only [hc] <;> omega)) (perm_of (fun c hc => by simp only [hc] <;> omega)) rfl hl.1 rfl (Nat.le_of_ble_eq_true rfl) dL_law_164 ⟨(Nat.le_of_ble_eq_true rfl), (Nat.le_of_ble_eq_true rfl)⟩ (fun H locs hP hD hS => ?_)
                      refine lv_iconst (v := (-1 : Int32)) hx hb dL_law_167 (by decide) ?_
                      refine lv_icmp_ne (tgt := 297) hx hb dL_law_168 (by decide) (fun hc => ?_) (fun hc => ?_)
                      · have h := if_f hc h
                        exact JP53_297 x5 z1 z2 X z10.2 _ _ hP hD hS ls (lv_sub hl [2, 3, 4, 5, 6, 1, 0] rfl) h
                      · have h := if_t hc h
                        refine lv_aload_n hx hb dL_law_171 rfl (lv_at hl 4 rfl) ?_
                        refine lv_iconst (v := (0 : Int32)) hx hb dL_law_172 (by decide) ?_
                        obtain ⟨z11, hz11, h⟩ := bd_some h
                        refine pW_V (As := [.int (0 : Int32)]) (rest := []) (wr := (wX7 cA ad X ++ (([(ba1, .inl (cA, 46, .inl B1))] : va_W) ++ (([(ba2, .inl (cA, 46, .inl B2))] : va_W))))) (wn := (wX7 cA ad X ++ (wX7 cA ad2 z11.2 ++ (([(ba1, .inl (cA, 46, .inl B1))] : va_W) ++ (([(ba2, .inl (cA, 46, .inl B2))] : va_W)))))) ⟨hx, hb, hml, hown, hts⟩ (c_X7_days l D cA ad2 z10.2 (0 : Int32) z11.1 z11.2 hz11) (cwV 1 hts gL_law_X7_days rfl rfl rfl hd_X7_days ⟨(Nat.le_of_ble_eq_true rfl), (Nat.le_of_ble_eq_true rfl)⟩) (recvK hK (P_left (wc := wX7 cA ad2 z10.2) (R := (wX7 cA ad X ++ (([(ba1, .inl (cA, 46, .inl B1))] : va_W) ++ (([(ba2, .inl (cA, 46, .inl B2))] : va_W))))) (perm_of (fun c hc => by simp only [hc] <;> omega)) hP) 0 7 rfl rfl) hK hP hD hS hA (perm_of (fun c hc => by simp only [hc] <;> omega)) (perm_of (fun c hc => by simp only [hc] <;> omega)) rfl hl.1 rfl (Nat.le_of_ble_eq_true rfl) dL_law_173 ⟨(Nat.le_of_ble_eq_true rfl), (Nat.le_of_ble_eq_true rfl)⟩ (fun H locs hP hD hS => ?_)
                        refine lv_iconst (v := (-1 : Int32)) hx hb dL_law_176 (by decide) ?_
                        refine lv_icmp_ne (tgt := 297) hx hb dL_law_177 (by decide) (fun hc => ?_) (fun hc => ?_)
                        · have h := if_f hc h
                          exact JP53_297 x5 z1 z2 X z11.2 _ _ hP hD hS ls (lv_sub hl [2, 3, 4, 5, 6, 1, 0] rfl) h
                        · have h := if_t hc h
                          refine lv_aload_n hx hb dL_law_180 rfl (lv_at hl 4 rfl) ?_
                          refine lv_bipush (v := (8 : Int32)) hx hb dL_law_181 (by decide) ?_
                          obtain ⟨z12, hz12, h⟩ := bd_some h
                          refine pR_V (As := [.int (8 : Int32)]) (rest := []) (wr := (wX7 cA ad X ++ (([(ba1, .inl (cA, 46, .inl B1))] : va_W) ++ (([(ba2, .inl (cA, 46, .inl B2))] : va_W))))) ⟨hx, hb, hml, hown, hts⟩ (c_X7_loosen l D cA ad2 z11.2 (8 : Int32) z12 hz12) (cwV 1 hts gL_law_X7_loosen rfl rfl rfl hd_X7_loosen ⟨(Nat.le_of_ble_eq_true rfl), (Nat.le_of_ble_eq_true rfl)⟩) (recvK hK (P_left (wc := wX7 cA ad2 z11.2) (R := (wX7 cA ad X ++ (([(ba1, .inl (cA, 46, .inl B1))] : va_W) ++ (([(ba2, .inl (cA, 46, .inl B2))] : va_W))))) (perm_of (fun c hc => by simp only [hc] <;> omega)) hP) 0 7 rfl rfl) hK hP (perm_of (fun c hc => by simp only [hc] <;> omega)) rfl hl.1 rfl (Nat.le_of_ble_eq_true rfl) dL_law_183 ⟨(Nat.le_of_ble_eq_true rfl), (Nat.le_of_ble_eq_true rfl)⟩ ?_
                          refine lv_iconst (v := (-1 : Int32)) hx hb dL_law_186 (by decide) ?_
                          refine lv_icmp_ne (tgt := 297) hx hb dL_law_187 (by decide) (fun hc => ?_) (fun hc => ?_)
                          · have h := if_f hc h
                            exact JP53_297 x5 z1 z2 X z11.2 _ _ hP hD hS ls (lv_sub hl [2, 3, 4, 5, 6, 1, 0] rfl) h
                          · have h := if_t hc h
                            refine lv_aload_n hx hb dL_law_190 rfl (lv_at hl 4 rfl) ?_
                            refine lv_bipush (v := (-2 : Int32)) hx hb dL_law_191 (by decide) ?_
                            obtain ⟨z13, hz13, h⟩ := bd_some h
                            refine pR_V (As := [.int (-2 : Int32)]) (rest := []) (wr := (wX7 cA ad X ++ (([(ba1, .inl (cA, 46, .inl B1))] : va_W) ++ (([(ba2, .inl (cA, 46, .inl B2))] : va_W))))) ⟨hx, hb, hml, hown, hts⟩ (c_X7_pay l D cA ad2 z11.2 (-2 : Int32) z13 hz13) (cwV 1 hts gL_law_X7_pay rfl rfl rfl hd_X7_pay ⟨(Nat.le_of_ble_eq_true rfl), (Nat.le_of_ble_eq_true rfl)⟩) (recvK hK (P_left (wc := wX7 cA ad2 z11.2) (R := (wX7 cA ad X ++ (([(ba1, .inl (cA, 46, .inl B1))] : va_W) ++ (([(ba2, .inl (cA, 46, .inl B2))] : va_W))))) (perm_of (fun c hc => by simp only [hc] <;> omega)) hP) 0 7 rfl rfl) hK hP (perm_of (fun c hc => by simp only [hc] <;> omega)) rfl hl.1 rfl (Nat.le_of_ble_eq_true rfl) dL_law_193 ⟨(Nat.le_of_ble_eq_true rfl), (Nat.le_of_ble_eq_true rfl)⟩ ?_
                            refine lv_iconst (v := (-1 : Int32)) hx hb dL_law_196 (by decide) ?_
                            refine lv_icmp_ne (tgt := 297) hx hb dL_law_197 (by decide) (fun hc => ?_) (fun hc => ?_)
                            · have h := if_f hc h
                              exact JP53_297 x5 z1 z2 X z11.2 _ _ hP hD hS ls (lv_sub hl [2, 3, 4, 5, 6, 1, 0] rfl) h
                            · have h := if_t hc h
                              refine lv_aload_n hx hb dL_law_200 rfl (lv_at hl 4 rfl) ?_
                              refine lv_bipush (v := (6 : Int32)) hx hb dL_law_201 (by decide) ?_
                              obtain ⟨z14, hz14, h⟩ := bd_some h
                              refine pR_V (As := [.int (6 : Int32)]) (rest := []) (wr := (wX7 cA ad X ++ (([(ba1, .inl (cA, 46, .inl B1))] : va_W) ++ (([(ba2, .inl (cA, 46, .inl B2))] : va_W))))) ⟨hx, hb, hml, hown, hts⟩ (c_X7_frees l D cA ad2 z11.2 (6 : Int32) z14 hz14) (cwV 1 hts gL_law_X7_frees rfl rfl rfl hd_X7_frees ⟨(Nat.le_of_ble_eq_true rfl), (Nat.le_of_ble_eq_true rfl)⟩) (recvK hK (P_left (wc := wX7 cA ad2 z11.2) (R := (wX7 cA ad X ++ (([(ba1, .inl (cA, 46, .inl B1))] : va_W) ++ (([(ba2, .inl (cA, 46, .inl B2))] : va_W))))) (perm_of (fun c hc => by simp only [hc] <;> omega)) hP) 0 7 rfl rfl) hK hP (perm_of (fun c hc => by simp only [hc] <;> omega)) rfl hl.1 rfl (Nat.le_of_ble_eq_true rfl) dL_law_203 ⟨(Nat.le_of_ble_eq_true rfl), (Nat.le_of_ble_eq_true rfl)⟩ ?_
                              refine lv_iconst (v := (-1 : Int32)) hx hb dL_law_206 (by decide) ?_
                              refine lv_icmp_ne (tgt := 297) hx hb dL_law_207 (by decide) (fun hc => ?_) (fun hc => ?_)
                              · have h := if_f hc h
                                exact JP53_297 x5 z1 z2 X z11.2 _ _ hP hD hS ls (lv_sub hl [2, 3, 4, 5, 6, 1, 0] rfl) h
                              · have h := if_t hc h
                                refine lv_aload_n hx hb dL_law_210 rfl (lv_at hl 4 rfl) ?_
                                refine lv_bipush (v := (9 : Int32)) hx hb dL_law_211 (by decide) ?_
                                refine lv_iconst (v := (0 : Int32)) hx hb dL_law_213 (by decide) ?_
                                refine lv_iconst (v := (0 : Int32)) hx hb dL_law_214 (by decide) ?_
                                obtain ⟨z15, hz15, h⟩ := bd_some h
                                refine pR_V (As := [.int (9 : Int32), .int (0 : Int32), .int (0 : Int32)]) (rest := []) (wr := (wX7 cA ad X ++ (([(ba1, .inl (cA, 46, .inl B1))] : va_W) ++ (([(ba2, .inl (cA, 46, .inl B2))] : va_W))))) ⟨hx, hb, hml, hown, hts⟩ (c_X7_fresh l D cA ad2 z11.2 (9 : Int32) (0 : Int32) (0 : Int32) z15 hz15) (cwV 3 hts gL_law_X7_fresh rfl rfl rfl hd_X7_fresh ⟨(Nat.le_of_ble_eq_true rfl), (Nat.le_of_ble_eq_true rfl)⟩) (recvK hK (P_left (wc := wX7 cA ad2 z11.2) (R := (wX7 cA ad X ++ (([(ba1, .inl (cA, 46, .inl B1))] : va_W) ++ (([(ba2, .inl (cA, 46, .inl B2))] : va_W))))) (perm_of (fun c hc => by simp only [hc] <;> omega)) hP) 0 7 rfl rfl) hK hP (perm_of (fun c hc => by simp only [hc] <;> omega)) rfl hl.1 rfl (Nat.le_of_ble_eq_true rfl) dL_law_215 ⟨(Nat.le_of_ble_eq_true rfl), (Nat.le_of_ble_eq_true rfl)⟩ ?_
                                refine lv_iconst (v := (-1 : Int32)) hx hb dL_law_218 (by decide) ?_
                                refine lv_icmp_ne (tgt := 297) hx hb dL_law_219 (by decide) (fun hc => ?_) (fun hc => ?_)
                                · have h := if_f hc h
                                  exact JP53_297 x5 z1 z2 X z11.2 _ _ hP hD hS ls (lv_sub hl [2, 3, 4, 5, 6, 1, 0] rfl) h
                                · have h := if_t hc h
                                  refine lv_aload_n hx hb dL_law_222 rfl (lv_at hl 4 rfl) ?_
                                  refine lv_bipush (v := (8 : Int32)) hx hb dL_law_223 (by decide) ?_
                                  obtain ⟨z16, hz16, h⟩ := bd_some h
                                  refine pW_V (As := [.int (8 : Int32)]) (rest := []) (wr := (wX7 cA ad X ++ (([(ba1, .inl (cA, 46, .inl B1))] : va_W) ++ (([(ba2, .inl (cA, 46, .inl B2))] : va_W))))) (wn := (wX7 cA ad X ++ (wX7 cA ad2 z16.2 ++ (([(ba1, .inl (cA, 46, .inl B1))] : va_W) ++ (([(ba2, .inl (cA, 46, .inl B2))] : va_W)))))) ⟨hx, hb, hml, hown, hts⟩ (c_X7_tell l D cA ad2 z11.2 (8 : Int32) z16.1 z16.2 hz16) (cwV 1 hts gL_law_X7_tell rfl rfl rfl hd_X7_tell ⟨(Nat.le_of_ble_eq_true rfl), (Nat.le_of_ble_eq_true rfl)⟩) (recvK hK (P_left (wc := wX7 cA ad2 z11.2) (R := (wX7 cA ad X ++ (([(ba1, .inl (cA, 46, .inl B1))] : va_W) ++ (([(ba2, .inl (cA, 46, .inl B2))] : va_W))))) (perm_of (fun c hc => by simp only [hc] <;> omega)) hP) 0 7 rfl rfl) hK hP hD hS hA (perm_of (fun c hc => by simp only [hc] <;> omega)) (perm_of (fun c hc => by simp only [hc] <;> omega)) rfl hl.1 rfl (Nat.le_of_ble_eq_true rfl) dL_law_225 ⟨(Nat.le_of_ble_eq_true rfl), (Nat.le_of_ble_eq_true rfl)⟩ (fun H locs hP hD hS => ?_)
                                  refine lv_iconst (v := (-1 : Int32)) hx hb dL_law_228 (by decide) ?_
                                  refine lv_icmp_ne (tgt := 297) hx hb dL_law_229 (by decide) (fun hc => ?_) (fun hc => ?_)
                                  · have h := if_f hc h
                                    exact JP53_297 x5 z1 z2 X z16.2 _ _ hP hD hS ls (lv_sub hl [2, 3, 4, 5, 6, 1, 0] rfl) h
                                  · have h := if_t hc h
                                    refine lv_aload_n hx hb dL_law_232 rfl (lv_at hl 4 rfl) ?_
                                    refine lv_iconst (v := (2 : Int32)) hx hb dL_law_233 (by decide) ?_
                                    refine lv_iconst (v := (0 : Int32)) hx hb dL_law_234 (by decide) ?_
                                    obtain ⟨z17, hz17, h⟩ := bd_some h
                                    refine pW_V (As := [.int (2 : Int32), .int (0 : Int32)]) (rest := []) (wr := (wX7 cA ad X ++ (([(ba1, .inl (cA, 46, .inl B1))] : va_W) ++ (([(ba2, .inl (cA, 46, .inl B2))] : va_W))))) (wn := (wX7 cA ad X ++ (wX7 cA ad2 z17.2 ++ (([(ba1, .inl (cA, 46, .inl B1))] : va_W) ++ (([(ba2, .inl (cA, 46, .inl B2))] : va_W)))))) ⟨hx, hb, hml, hown, hts⟩ (c_X7_cross l D cA ad2 z16.2 (2 : Int32) (0 : Int32) z17.1 z17.2 hz17) (cwV 2 hts gL_law_X7_cross rfl rfl rfl hd_X7_cross ⟨(Nat.le_of_ble_eq_true rfl), (Nat.le_of_ble_eq_true rfl)⟩) (recvK hK (P_left (wc := wX7 cA ad2 z16.2) (R := (wX7 cA ad X ++ (([(ba1, .inl (cA, 46, .inl B1))] : va_W) ++ (([(ba2, .inl (cA, 46, .inl B2))] : va_W))))) (perm_of (fun c hc => by simp only [hc] <;> omega)) hP) 0 7 rfl rfl) hK hP hD hS hA (perm_of (fun c hc => by simp only [hc] <;> omega)) (perm_of (fun c hc => by simp only [hc] <;> omega)) rfl hl.1 rfl (Nat.le_of_ble_eq_true rfl) dL_law_235 ⟨(Nat.le_of_ble_eq_true rfl), (Nat.le_of_ble_eq_true rfl)⟩ (fun H locs hP hD hS => ?_)
                                    refine lv_iconst (v := (-1 : Int32)) hx hb dL_law_238 (by decide) ?_
                                    refine lv_icmp_ne (tgt := 297) hx hb dL_law_239 (by decide) (fun hc => ?_) (fun hc => ?_)
                                    · have h := if_f hc h
                                      exact JP53_297 x5 z1 z2 X z17.2 _ _ hP hD hS ls (lv_sub hl [2, 3, 4, 5, 6, 1, 0] rfl) h
                                    · have h := if_t hc h
                                      refine lv_aload_n hx hb dL_law_242 rfl (lv_at hl 4 rfl) ?_
                                      refine lv_iconst (v := (2 : Int32)) hx hb dL_law_243 (by decide) ?_
                                      obtain ⟨z18, hz18, h⟩ := bd_some h
                                      refine pW_V (As := [.int (2 : Int32)]) (rest := []) (wr := (wX7 cA ad X ++ (([(ba1, .inl (cA, 46, .inl B1))] : va_W) ++ (([(ba2, .inl (cA, 46, .inl B2))] : va_W))))) (wn := (wX7 cA ad X ++ (wX7 cA ad2 z18.2 ++ (([(ba1, .inl (cA, 46, .inl B1))] : va_W) ++ (([(ba2, .inl (cA, 46, .inl B2))] : va_W)))))) ⟨hx, hb, hml, hown, hts⟩ (c_X7_smooth l D cA ad2 z17.2 (2 : Int32) z18.1 z18.2 hz18) (cwV 1 hts gL_law_X7_smooth rfl rfl rfl hd_X7_smooth ⟨(Nat.le_of_ble_eq_true rfl), (Nat.le_of_ble_eq_true rfl)⟩) (recvK hK (P_left (wc := wX7 cA ad2 z17.2) (R := (wX7 cA ad X ++ (([(ba1, .inl (cA, 46, .inl B1))] : va_W) ++ (([(ba2, .inl (cA, 46, .inl B2))] : va_W))))) (perm_of (fun c hc => by simp only [hc] <;> omega)) hP) 0 7 rfl rfl) hK hP hD hS hA (perm_of (fun c hc => by simp only [hc] <;> omega)) (perm_of (fun c hc => by simp only [hc] <;> omega)) rfl hl.1 rfl (Nat.le_of_ble_eq_true rfl) dL_law_244 ⟨(Nat.le_of_ble_eq_true rfl), (Nat.le_of_ble_eq_true rfl)⟩ (fun H locs hP hD hS => ?_)
                                      refine lv_iconst (v := (-1 : Int32)) hx hb dL_law_247 (by decide) ?_
                                      refine lv_icmp_ne (tgt := 297) hx hb dL_law_248 (by decide) (fun hc => ?_) (fun hc => ?_)
                                      · have h := if_f hc h
                                        exact JP53_297 x5 z1 z2 X z18.2 _ _ hP hD hS ls (lv_sub hl [2, 3, 4, 5, 6, 1, 0] rfl) h
                                      · have h := if_t hc h
                                        refine lv_aload_n hx hb dL_law_251 rfl (lv_at hl 4 rfl) ?_
                                        refine lv_iconst (v := (2 : Int32)) hx hb dL_law_252 (by decide) ?_
                                        refine lv_iconst (v := (0 : Int32)) hx hb dL_law_253 (by decide) ?_
                                        obtain ⟨z19, hz19, h⟩ := bd_some h
                                        refine pR_V (As := [.int (2 : Int32), .int (0 : Int32)]) (rest := []) (wr := (wX7 cA ad X ++ (([(ba1, .inl (cA, 46, .inl B1))] : va_W) ++ (([(ba2, .inl (cA, 46, .inl B2))] : va_W))))) ⟨hx, hb, hml, hown, hts⟩ (c_X7_loose l D cA ad2 z18.2 (2 : Int32) (0 : Int32) z19 hz19) (cwV 2 hts gL_law_X7_loose rfl rfl rfl hd_X7_loose ⟨(Nat.le_of_ble_eq_true rfl), (Nat.le_of_ble_eq_true rfl)⟩) (recvK hK (P_left (wc := wX7 cA ad2 z18.2) (R := (wX7 cA ad X ++ (([(ba1, .inl (cA, 46, .inl B1))] : va_W) ++ (([(ba2, .inl (cA, 46, .inl B2))] : va_W))))) (perm_of (fun c hc => by simp only [hc] <;> omega)) hP) 0 7 rfl rfl) hK hP (perm_of (fun c hc => by simp only [hc] <;> omega)) rfl hl.1 rfl (Nat.le_of_ble_eq_true rfl) dL_law_254 ⟨(Nat.le_of_ble_eq_true rfl), (Nat.le_of_ble_eq_true rfl)⟩ ?_
                                        refine lv_iconst (v := (-1 : Int32)) hx hb dL_law_257 (by decide) ?_
                                        refine lv_icmp_ne (tgt := 297) hx hb dL_law_258 (by decide) (fun hc => ?_) (fun hc => ?_)
                                        · have h := if_f hc h
                                          exact JP53_297 x5 z1 z2 X z18.2 _ _ hP hD hS ls (lv_sub hl [2, 3, 4, 5, 6, 1, 0] rfl) h
                                        · have h := if_t hc h
                                          refine lv_aload_n hx hb dL_law_261 rfl (lv_at hl 4 rfl) ?_
                                          refine lv_iconst (v := (0 : Int32)) hx hb dL_law_262 (by decide) ?_
                                          refine lv_iconst (v := (4 : Int32)) hx hb dL_law_263 (by decide) ?_
                                          obtain ⟨z20, hz20, h⟩ := bd_some h
                                          refine pR_V (As := [.int (0 : Int32), .int (4 : Int32)]) (rest := []) (wr := (wX7 cA ad X ++ (([(ba1, .inl (cA, 46, .inl B1))] : va_W) ++ (([(ba2, .inl (cA, 46, .inl B2))] : va_W))))) ⟨hx, hb, hml, hown, hts⟩ (c_X7_mark l D cA ad2 z18.2 (0 : Int32) (4 : Int32) z20 hz20) (cwV 2 hts gL_law_X7_mark rfl rfl rfl hd_X7_mark ⟨(Nat.le_of_ble_eq_true rfl), (Nat.le_of_ble_eq_true rfl)⟩) (recvK hK (P_left (wc := wX7 cA ad2 z18.2) (R := (wX7 cA ad X ++ (([(ba1, .inl (cA, 46, .inl B1))] : va_W) ++ (([(ba2, .inl (cA, 46, .inl B2))] : va_W))))) (perm_of (fun c hc => by simp only [hc] <;> omega)) hP) 0 7 rfl rfl) hK hP (perm_of (fun c hc => by simp only [hc] <;> omega)) rfl hl.1 rfl (Nat.le_of_ble_eq_true rfl) dL_law_264 ⟨(Nat.le_of_ble_eq_true rfl), (Nat.le_of_ble_eq_true rfl)⟩ ?_
                                          refine lv_iconst (v := (-1 : Int32)) hx hb dL_law_267 (by decide) ?_
                                          refine lv_icmp_ne (tgt := 297) hx hb dL_law_268 (by decide) (fun hc => ?_) (fun hc => ?_)
                                          · have h := if_f hc h
                                            exact JP53_297 x5 z1 z2 X z18.2 _ _ hP hD hS ls (lv_sub hl [2, 3, 4, 5, 6, 1, 0] rfl) h
                                          · have h := if_t hc h
                                            refine lv_aload_n hx hb dL_law_271 rfl (lv_at hl 4 rfl) ?_
                                            refine lv_iconst (v := (0 : Int32)) hx hb dL_law_272 (by decide) ?_
                                            refine lv_bipush (v := (61 : Int32)) hx hb dL_law_273 (by decide) ?_
                                            refine lv_iconst (v := (0 : Int32)) hx hb dL_law_275 (by decide) ?_
                                            obtain ⟨z21, hz21, h⟩ := bd_some h
                                            refine pR_V (As := [.int (0 : Int32), .int (61 : Int32), .int (0 : Int32)]) (rest := []) (wr := (wX7 cA ad X ++ (([(ba1, .inl (cA, 46, .inl B1))] : va_W) ++ (([(ba2, .inl (cA, 46, .inl B2))] : va_W))))) ⟨hx, hb, hml, hown, hts⟩ (c_X7_year l D cA ad2 z18.2 (0 : Int32) (61 : Int32) (0 : Int32) z21 hz21) (cwV 3 hts gL_law_X7_year rfl rfl rfl hd_X7_year ⟨(Nat.le_of_ble_eq_true rfl), (Nat.le_of_ble_eq_true rfl)⟩) (recvK hK (P_left (wc := wX7 cA ad2 z18.2) (R := (wX7 cA ad X ++ (([(ba1, .inl (cA, 46, .inl B1))] : va_W) ++ (([(ba2, .inl (cA, 46, .inl B2))] : va_W))))) (perm_of (fun c hc => by simp only [hc] <;> omega)) hP) 0 7 rfl rfl) hK hP (perm_of (fun c hc => by simp only [hc] <;> omega)) rfl hl.1 rfl (Nat.le_of_ble_eq_true rfl) dL_law_276 ⟨(Nat.le_of_ble_eq_true rfl), (Nat.le_of_ble_eq_true rfl)⟩ ?_
                                            refine lv_iconst (v := (-1 : Int32)) hx hb dL_law_279 (by decide) ?_
                                            refine lv_icmp_ne (tgt := 297) hx hb dL_law_280 (by decide) (fun hc => ?_) (fun hc => ?_)
                                            · have h := if_f hc h
                                              exact JP53_297 x5 z1 z2 X z18.2 _ _ hP hD hS ls (lv_sub hl [2, 3, 4, 5, 6, 1, 0] rfl) h
                                            · have h := if_t hc h
                                              refine lv_aload_n hx hb dL_law_283 rfl (lv_at hl 4 rfl) ?_
                                              refine lv_bipush (v := (9 : Int32)) hx hb dL_law_284 (by decide) ?_
                                              obtain ⟨z22, hz22, h⟩ := bd_some h
                                              refine pR_V (As := [.int (9 : Int32)]) (rest := []) (wr := (wX7 cA ad X ++ (([(ba1, .inl (cA, 46, .inl B1))] : va_W) ++ (([(ba2, .inl (cA, 46, .inl B2))] : va_W))))) ⟨hx, hb, hml, hown, hts⟩ (c_X7_count l D cA ad2 z18.2 (9 : Int32) z22 hz22) (cwV 1 hts gL_law_X7_count rfl rfl rfl hd_X7_count ⟨(Nat.le_of_ble_eq_true rfl), (Nat.le_of_ble_eq_true rfl)⟩) (recvK hK (P_left (wc := wX7 cA ad2 z18.2) (R := (wX7 cA ad X ++ (([(ba1, .inl (cA, 46, .inl B1))] : va_W) ++ (([(ba2, .inl (cA, 46, .inl B2))] : va_W))))) (perm_of (fun c hc => by simp only [hc] <;> omega)) hP) 0 7 rfl rfl) hK hP (perm_of (fun c hc => by simp only [hc] <;> omega)) rfl hl.1 rfl (Nat.le_of_ble_eq_true rfl) dL_law_286 ⟨(Nat.le_of_ble_eq_true rfl), (Nat.le_of_ble_eq_true rfl)⟩ ?_
                                              refine lv_iconst (v := (-1 : Int32)) hx hb dL_law_289 (by decide) ?_
                                              refine lv_icmp_ne (tgt := 297) hx hb dL_law_290 (by decide) (fun hc => ?_) (fun hc => ?_)
                                              · have h := if_f hc h
                                                exact JP53_297 x5 z1 z2 X z18.2 _ _ hP hD hS ls (lv_sub hl [2, 3, 4, 5, 6, 1, 0] rfl) h
                                              · have h := if_t hc h
                                                refine lv_iconst (v := (1 : Int32)) hx hb dL_law_293 (by decide) ?_
                                                refine lv_goto (tgt := 298) hx hb dL_law_294 (by decide) ?_
                                                exact JP53_298 (1 : Int32) x5 z1 z2 X z18.2 _ _ hP hD hS ls (lv_sub hl [2, 3, 4, 5, 6, 1, 0] rfl) h
  refine lv_aload_n hx hb dL_law_27 rfl (lv_at hl 1 rfl) ?_
  refine lv_aload_n hx hb dL_law_28 rfl (lv_at hl 0 rfl) ?_
  refine lv_iconst (v := (0 : Int32)) hx hb dL_law_29 (by decide) ?_
  refine lv_aload_n hx hb dL_law_30 rfl (lv_at hl 3 rfl) ?_
  obtain ⟨z1, hz1, h⟩ := bd_some h
  refine pT_S (As := [.ref (ad 6 0), .ref sa, .int (0 : Int32), .ref ba1]) (rest := []) (wr := (wX7 cA ad2 Y ++ (([(ba2, .inl (cA, 46, .inl B2))] : va_W)))) (wn := (wX7 cA ad z1.2.1 ++ (wX7 cA ad2 Y ++ (([(ba1, .inl (cA, 46, .inl z1.2.2))] : va_W) ++ (([(ba2, .inl (cA, 46, .inl B2))] : va_W)))))) ⟨hx, hb, hml, hown, hts⟩ (c_L_town l D cA ad X ba1 B1 sa sL sxs (0 : Int32) z1.1 z1.2.1 z1.2.2 hz1) (va_cwS 4 hts gL_law_L_town rfl rfl rfl hd_L_town.2 ⟨(Nat.le_of_ble_eq_true rfl), (Nat.le_of_ble_eq_true rfl)⟩) hK hX hbl hbA hP hD hS hA (perm_of (fun c hc => by simp only [hc] <;> omega)) (perm_of (fun c hc => by simp only [hc] <;> omega)) rfl hl.1 rfl (Nat.le_of_ble_eq_true rfl) dL_law_31 ⟨(Nat.le_of_ble_eq_true rfl), (Nat.le_of_ble_eq_true rfl)⟩ (fun H locs hP hD hS => ?_)
  refine lv_if_eq (tgt := 48) hx hb dL_law_34 (by decide) (fun hc => ?_) (fun hc => ?_)
  · have h := if_t hc h
    refine lv_iconst (v := (0 : Int32)) hx hb dL_law_48 (by decide) ?_
    cases h
    exact hend _ _ _ _ (by decide) hP hD hS dL_law_49
  · have h := if_f hc h
    refine lv_aload_n hx hb dL_law_37 rfl (lv_at hl 2 rfl) ?_
    refine lv_aload_n hx hb dL_law_38 rfl (lv_at hl 0 rfl) ?_
    refine lv_iconst (v := (0 : Int32)) hx hb dL_law_39 (by decide) ?_
    refine lv_aload hx hb dL_law_40 (lv_at hl 4 rfl) ?_
    obtain ⟨z2, hz2, h⟩ := bd_some h
    refine pT_S (As := [.ref (ad2 6 0), .ref sa, .int (0 : Int32), .ref ba2]) (rest := []) (wr := (wX7 cA ad z1.2.1 ++ (([(ba1, .inl (cA, 46, .inl z1.2.2))] : va_W)))) (wn := (wX7 cA ad z1.2.1 ++ (wX7 cA ad2 z2.2.1 ++ (([(ba1, .inl (cA, 46, .inl z1.2.2))] : va_W) ++ (([(ba2, .inl (cA, 46, .inl z2.2.2))] : va_W)))))) ⟨hx, hb, hml, hown, hts⟩ (c_L_town l D cA ad2 Y ba2 B2 sa sL sxs (0 : Int32) z2.1 z2.2.1 z2.2.2 hz2) (va_cwS 4 hts gL_law_L_town rfl rfl rfl hd_L_town.2 ⟨(Nat.le_of_ble_eq_true rfl), (Nat.le_of_ble_eq_true rfl)⟩) hK hX hbl hbA hP hD hS hA (perm_of (fun c hc => by simp only [hc] <;> omega)) (perm_of (fun c hc => by simp only [hc] <;> omega)) rfl hl.1 rfl (Nat.le_of_ble_eq_true rfl) dL_law_42 ⟨(Nat.le_of_ble_eq_true rfl), (Nat.le_of_ble_eq_true rfl)⟩ (fun H locs hP hD hS => ?_)
    refine lv_if_ne (tgt := 50) hx hb dL_law_45 (by decide) (fun hc => ?_) (fun hc => ?_)
    · have h := if_f hc h
      refine lv_iconst (v := (0 : Int32)) hx hb dL_law_50 (by decide) ?_
      refine lv_istore (lv' := [(5, .int (0 : Int32)), (0, .ref sa), (1, .ref (ad 6 0)), (2, .ref (ad2 6 0)), (3, .ref ba1), (4, .ref ba2)]) hx hb dL_law_51 hl (by decide) rfl (fun ls hl => ?_)
      obtain ⟨z3, hz3, h⟩ := bd_some h
      refine LP53 z1.2.2 z2.2.2 512 (0 : Int32) z1.2.1 z2.2.1 _ _ hP hD hS ls (lv_sub hl [1, 2, 3, 4, 0] rfl) _ hz3 ?_ ?_ ?_
      · intro H locs hP hD hS ls hl hi
        have h := if_t hi h
        refine lv_iconst (v := (0 : Int32)) hx hb dL_law_327 (by decide) ?_
        cases h
        exact hend _ _ _ _ (by decide) hP hD hS dL_law_328
      · intro H locs hP hD hS ls hl hi
        have h := if_f (by rw [hi]; decide) h
        have h := if_t hi h
        refine lv_iconst (v := (0 : Int32)) hx hb dL_law_588 (by decide) ?_
        cases h
        exact hend _ _ _ _ (by decide) hP hD hS dL_law_589
      · intro H locs hP hD hS ls hl hi
        have h := if_f (by rw [hi]; decide) h
        have h := if_f (by rw [hi]; decide) h
        refine lv_iconst (v := (1 : Int32)) hx hb dL_law_596 (by decide) ?_
        cases h
        exact hend _ _ _ _ (by decide) hP hD hS dL_law_597
    · have h := if_t hc h
      refine lv_iconst (v := (0 : Int32)) hx hb dL_law_48 (by decide) ?_
      cases h
      exact hend _ _ _ _ (by decide) hP hD hS dL_law_49
